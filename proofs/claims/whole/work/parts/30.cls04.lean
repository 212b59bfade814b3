def wlX8_countFree_9 (K : Int32 → ab_F → ab_F → Prop) : Nat → Int32 → Int32 → ab_F → ab_F → Prop
  | 0, _, _, _, _ => False
  | n + 1, x1, x2, I, A => (((I 20 0) ≤ x2 → K x1 I A) ∧ (¬ (I 20 0) ≤ x2 → (∃ j_3 : Nat, x2 = nI j_3 ∧ j_3 < 48 ∧ ((¬ (A 31 j_3) = 0 → (wlX8_countFree_9 K n) x1 (x2 + nI 1) I A) ∧ ((A 31 j_3) = 0 → (wlX8_countFree_9 K n) (x1 + nI 1) (x2 + nI 1) I A)))))
def wX8_countFree (K : Int32 → ab_F → ab_F → Prop) (I A : ab_F)  : Prop := wX8_markUses (fun I_1 A_2 => (∃ nf : Nat, wlX8_countFree_9 K nf (nI 0) (nI 0) I_1 A_2)) I A 
set_option maxRecDepth 20000 in
theorem tlX8_countFree_9 {C : ab_X} {Z : ab_Z} {K : Int32 → ab_F → ab_F → Prop} : ∀ (n : Nat) (x1 : Int32) (x2 : Int32) (I A : ab_F), wlX8_countFree_9 K n x1 x2 I A → ab_G mX8_countFree 1 C (ab_Px (shC Z) ab_no (ab_ri K)) 9 [some (.ref 8), some (.int x1), some (.int x2)] [] (shC Z) I A 0 0 := by
  intro n
  induction n with
  | zero => intro x1 x2 I A h; exact h.elim
  | succ n hL9 =>
    intro x1 x2 I A h
    rw [wlX8_countFree_9] at h
    refine g_iload_n (n := 10) dX8_countFree_9 rfl rfl rfl ?_
    refine g_aload_n (n := 11) dX8_countFree_10 rfl rfl rfl ?_
    refine g_getR (n := 14) (k := 2) dX8_countFree_11 sC_8 vc_12 (Nat.le_of_ble_eq_true rfl) rfl w_403 rfl ?_
    refine g_getIE (n := 17) (k := 0) (x := (I 20 0)) dX8_countFree_14 sC_20 vc_11 (Nat.le_of_ble_eq_true rfl) rfl w_310 rfl rfl ?_
    refine g_icmp_ge (n := 20) 38 dX8_countFree_17 (by decide) rfl (fun hc => ?_) (fun hc => ?_)
    · have h := h.1 hc
      refine g_iload_n (n := 39) dX8_countFree_38 rfl rfl rfl ?_
      exact g_iret rfl rfl dX8_countFree_39 ⟨rfl, _, rfl, h⟩
    · have h := h.2 hc
      refine g_aload_n (n := 21) dX8_countFree_20 rfl rfl rfl ?_
      refine g_getR (n := 24) (k := 6) dX8_countFree_21 sC_8 vc_12 (Nat.le_of_ble_eq_true rfl) rfl w_411 rfl ?_
      refine g_iload_n (n := 25) dX8_countFree_24 rfl rfl rfl ?_
      obtain ⟨j_3, hj, hl, h⟩ := h
      refine g_ialdJ (n := 26) (j := j_3) (x := (A 31 j_3)) dX8_countFree_25 sC_31 hj hl (by decide) rfl rfl ?_
      refine g_if_ne (n := 29) 32 dX8_countFree_26 (by decide) rfl (fun hc => ?_) (fun hc => ?_)
      · have h := h.1 hc
        refine g_iinc (n := 35) (v := (x2 + nI 1)) (ls' := [some (.ref 8), some (.int x1), some (.int (x2 + nI 1))]) dX8_countFree_32 rfl rfl rfl (Nat.le_of_ble_eq_true rfl) rfl rfl ?_
        refine g_goto 9 dX8_countFree_35 (by decide) ?_
        exact hL9 _ _ _ _ h
      · have h := h.2 hc
        refine g_iinc (n := 32) (v := (x1 + nI 1)) (ls' := [some (.ref 8), some (.int (x1 + nI 1)), some (.int x2)]) dX8_countFree_29 rfl rfl rfl (Nat.le_of_ble_eq_true rfl) rfl rfl ?_
        refine g_iinc (n := 35) (v := (x2 + nI 1)) (ls' := [some (.ref 8), some (.int (x1 + nI 1)), some (.int (x2 + nI 1))]) dX8_countFree_32 rfl rfl rfl (Nat.le_of_ble_eq_true rfl) rfl rfl ?_
        refine g_goto 9 dX8_countFree_35 (by decide) ?_
        exact hL9 _ _ _ _ h
set_option maxRecDepth 20000 in
theorem ctX8_countFree {Z : ab_Z} {K : Int32 → ab_F → ab_F → Prop} {I A : ab_F}  (h : wX8_countFree K I A ) : ab_Cl mX8_countFree 1 0 0 [.ref 8] (shC Z) I A (ab_Px (shC Z) ab_no (ab_ri K)) := by
  refine ab_enter (ls := [some (.ref 8), none, none]) (by decide +kernel) (Nat.le_of_ble_eq_true rfl) rfl (fun C => ?_)
  unfold wX8_countFree at h
  refine g_aload_n (n := 1) dX8_countFree_0 rfl rfl rfl ?_
  refine g_callV (n := 4) (as := []) (bc' := 0) (bs' := 0) sC_8 vc_12 (ctX8_markUses h) okX8_markUses rfl w_842 w_843 w_844 w_100 dX8_countFree_1 rfl rfl (Nat.le_of_ble_eq_true rfl) (Nat.le_of_ble_eq_true rfl) (Nat.le_of_ble_eq_true rfl) (Nat.le_of_ble_eq_true rfl) rfl (fun E sh1 I1 A1 hp _ => hp.2.elim) (fun ro sh_ I_1 A_2 hp hle => ?_)
  obtain ⟨rfl, rfl, h⟩ := hp
  refine g_pop (n := 5) dX8_countFree_4 rfl rfl ?_
  refine g_iconst (n := 6) (v := (nI 0)) dX8_countFree_5 rfl rfl ?_
  refine g_istore_n (n := 7) (ls' := [some (.ref 8), some (.int (nI 0)), none]) dX8_countFree_6 rfl rfl (Nat.le_of_ble_eq_true rfl) (Nat.le_of_ble_eq_true rfl) rfl rfl ?_
  refine g_iconst (n := 8) (v := (nI 0)) dX8_countFree_7 rfl rfl ?_
  refine g_istore_n (n := 9) (ls' := [some (.ref 8), some (.int (nI 0)), some (.int (nI 0))]) dX8_countFree_8 rfl rfl (Nat.le_of_ble_eq_true rfl) (Nat.le_of_ble_eq_true rfl) rfl rfl ?_
  refine g_less (bc' := 0) (bs' := 0) (Nat.le_of_ble_eq_true rfl) (Nat.le_of_ble_eq_true rfl) ?_
  obtain ⟨n_f, h⟩ := h
  exact tlX8_countFree_9  n_f _ _ _ _ h
def wX8_commit (K : Int32 → ab_F → ab_F → Prop) (I A : ab_F)  : Prop := wX8_countFree (fun r_3 I_1 A_2 => (∀ y_4 : Int32, y_4 = (I_1 24 1) → (∀ y_5 : Int32, y_5 = (I_1 24 2) → wX1_recordsBecomeCheckpoints (fun I_6 A_7 => wX1_clearRecords (fun I_8 A_9 => wX8_countFree (fun r_12 I_10 A_11 => (∀ y_13 : Int32, y_13 = (r_12 - r_3) → wX1_addToLog (fun I_14 A_15 => K y_13 I_14 A_15) I_10 A_11 y_4 y_5 y_13)) I_8 A_9 ) I_6 A_7 ) I_1 A_2 ))) I A 
set_option maxRecDepth 20000 in
theorem ctX8_commit {Z : ab_Z} {K : Int32 → ab_F → ab_F → Prop} {I A : ab_F}  (h : wX8_commit K I A ) : ab_Cl mX8_commit 2 0 0 [.ref 8] (shC Z) I A (ab_Px (shC Z) ab_no (ab_ri K)) := by
  refine ab_enter (ls := [some (.ref 8), none, none, none, none]) (by decide +kernel) (Nat.le_of_ble_eq_true rfl) rfl (fun C => ?_)
  unfold wX8_commit at h
  refine g_aload_n (n := 1) dX8_commit_0 rfl rfl rfl ?_
  refine g_callV (n := 4) (as := []) (bc' := 0) (bs' := 0) sC_8 vc_12 (ctX8_countFree h) okX8_countFree rfl w_966 w_967 w_968 w_100 dX8_commit_1 rfl rfl (Nat.le_of_ble_eq_true rfl) (Nat.le_of_ble_eq_true rfl) (Nat.le_of_ble_eq_true rfl) (Nat.le_of_ble_eq_true rfl) rfl (fun E sh1 I1 A1 hp _ => hp.2.elim) (fun ro sh_ I_1 A_2 hp hle => ?_)
  obtain ⟨rfl, r_3, rfl, h⟩ := hp
  refine g_istore_n (n := 5) (ls' := [some (.ref 8), some (.int r_3), none, none, none]) dX8_commit_4 rfl rfl (Nat.le_of_ble_eq_true rfl) (Nat.le_of_ble_eq_true rfl) rfl rfl ?_
  refine g_aload_n (n := 6) dX8_commit_5 rfl rfl rfl ?_
  refine g_getR (n := 9) (k := 3) dX8_commit_6 sC_8 vc_12 (Nat.le_of_ble_eq_true rfl) rfl w_405 rfl ?_
  refine g_getIE (n := 12) (k := 1) (x := (I_1 24 1)) dX8_commit_9 sC_24 vc_5 (Nat.le_of_ble_eq_true rfl) rfl w_343 rfl rfl ?_
  refine g_topi (fun y_4 ey_4 => ?_)
  have h := h y_4 ey_4
  refine g_istore_n (n := 13) (ls' := [some (.ref 8), some (.int r_3), some (.int y_4), none, none]) dX8_commit_12 rfl rfl (Nat.le_of_ble_eq_true rfl) (Nat.le_of_ble_eq_true rfl) rfl rfl ?_
  refine g_aload_n (n := 14) dX8_commit_13 rfl rfl rfl ?_
  refine g_getR (n := 17) (k := 3) dX8_commit_14 sC_8 vc_12 (Nat.le_of_ble_eq_true rfl) rfl w_405 rfl ?_
  refine g_getIE (n := 20) (k := 2) (x := (I_1 24 2)) dX8_commit_17 sC_24 vc_5 (Nat.le_of_ble_eq_true rfl) rfl w_346 rfl rfl ?_
  refine g_topi (fun y_5 ey_5 => ?_)
  have h := h y_5 ey_5
  refine g_istore_n (n := 21) (ls' := [some (.ref 8), some (.int r_3), some (.int y_4), some (.int y_5), none]) dX8_commit_20 rfl rfl (Nat.le_of_ble_eq_true rfl) (Nat.le_of_ble_eq_true rfl) rfl rfl ?_
  refine g_aload_n (n := 22) dX8_commit_21 rfl rfl rfl ?_
  refine g_getR (n := 25) (k := 3) dX8_commit_22 sC_8 vc_12 (Nat.le_of_ble_eq_true rfl) rfl w_405 rfl ?_
  refine g_callV (n := 28) (as := []) (bc' := 0) (bs' := 0) sC_24 vc_5 (ctX1_recordsBecomeCheckpoints h) okX1_recordsBecomeCheckpoints rfl w_970 w_971 w_972 w_104 dX8_commit_25 rfl rfl (Nat.le_of_ble_eq_true rfl) (Nat.le_of_ble_eq_true rfl) (Nat.le_of_ble_eq_true rfl) (Nat.le_of_ble_eq_true rfl) rfl (fun E sh1 I1 A1 hp _ => hp.2.elim) (fun ro sh_ I_6 A_7 hp hle => ?_)
  obtain ⟨rfl, rfl, h⟩ := hp
  refine g_aload_n (n := 29) dX8_commit_28 rfl rfl rfl ?_
  refine g_getR (n := 32) (k := 3) dX8_commit_29 sC_8 vc_12 (Nat.le_of_ble_eq_true rfl) rfl w_405 rfl ?_
  refine g_callV (n := 35) (as := []) (bc' := 0) (bs' := 0) sC_24 vc_5 (ctX1_clearRecords h) okX1_clearRecords rfl w_747 w_448 w_449 w_104 dX8_commit_32 rfl rfl (Nat.le_of_ble_eq_true rfl) (Nat.le_of_ble_eq_true rfl) (Nat.le_of_ble_eq_true rfl) (Nat.le_of_ble_eq_true rfl) rfl (fun E sh1 I1 A1 hp _ => hp.2.elim) (fun ro sh_ I_8 A_9 hp hle => ?_)
  obtain ⟨rfl, rfl, h⟩ := hp
  refine g_aload_n (n := 36) dX8_commit_35 rfl rfl rfl ?_
  refine g_callV (n := 39) (as := []) (bc' := 0) (bs' := 0) sC_8 vc_12 (ctX8_countFree h) okX8_countFree rfl w_966 w_967 w_968 w_100 dX8_commit_36 rfl rfl (Nat.le_of_ble_eq_true rfl) (Nat.le_of_ble_eq_true rfl) (Nat.le_of_ble_eq_true rfl) (Nat.le_of_ble_eq_true rfl) rfl (fun E sh1 I1 A1 hp _ => hp.2.elim) (fun ro sh_ I_10 A_11 hp hle => ?_)
  obtain ⟨rfl, r_12, rfl, h⟩ := hp
  refine g_iload_n (n := 40) dX8_commit_39 rfl rfl rfl ?_
  refine g_isub (n := 41) dX8_commit_40 rfl ?_
  refine g_topi (fun y_13 ey_13 => ?_)
  have h := h y_13 ey_13
  refine g_istore (n := 43) (ls' := [some (.ref 8), some (.int r_3), some (.int y_4), some (.int y_5), some (.int y_13)]) dX8_commit_41 rfl (Nat.le_of_ble_eq_true rfl) (Nat.le_of_ble_eq_true rfl) rfl rfl ?_
  refine g_aload_n (n := 44) dX8_commit_43 rfl rfl rfl ?_
  refine g_getR (n := 47) (k := 3) dX8_commit_44 sC_8 vc_12 (Nat.le_of_ble_eq_true rfl) rfl w_405 rfl ?_
  refine g_iload_n (n := 48) dX8_commit_47 rfl rfl rfl ?_
  refine g_iload_n (n := 49) dX8_commit_48 rfl rfl rfl ?_
  refine g_iload (n := 51) dX8_commit_49 rfl rfl ?_
  refine g_callV (n := 54) (as := [.int y_4, .int y_5, .int y_13]) (bc' := 0) (bs' := 0) sC_24 vc_5 (ctX1_addToLog h) okX1_addToLog rfl w_975 w_976 w_977 w_104 dX8_commit_51 rfl rfl (Nat.le_of_ble_eq_true rfl) (Nat.le_of_ble_eq_true rfl) (Nat.le_of_ble_eq_true rfl) (Nat.le_of_ble_eq_true rfl) rfl (fun E sh1 I1 A1 hp _ => hp.2.elim) (fun ro sh_ I_14 A_15 hp hle => ?_)
  obtain ⟨rfl, rfl, h⟩ := hp
  refine g_iload (n := 56) dX8_commit_54 rfl rfl ?_
  exact g_iret rfl rfl dX8_commit_56 ⟨rfl, _, rfl, h⟩
def wX8_abandon (K : Int32 → ab_F → ab_F → Prop) (I A : ab_F)  : Prop := wX8_countFree (fun r_3 I_1 A_2 => wX1_clearRecords (fun I_4 A_5 => wX8_countFree (fun r_8 I_6 A_7 => K (r_8 - r_3) I_6 A_7) I_4 A_5 ) I_1 A_2 ) I A 
set_option maxRecDepth 20000 in
theorem ctX8_abandon {Z : ab_Z} {K : Int32 → ab_F → ab_F → Prop} {I A : ab_F}  (h : wX8_abandon K I A ) : ab_Cl mX8_abandon 2 0 0 [.ref 8] (shC Z) I A (ab_Px (shC Z) ab_no (ab_ri K)) := by
  refine ab_enter (ls := [some (.ref 8), none]) (by decide +kernel) (Nat.le_of_ble_eq_true rfl) rfl (fun C => ?_)
  unfold wX8_abandon at h
  refine g_aload_n (n := 1) dX8_abandon_0 rfl rfl rfl ?_
  refine g_callV (n := 4) (as := []) (bc' := 0) (bs' := 0) sC_8 vc_12 (ctX8_countFree h) okX8_countFree rfl w_966 w_967 w_968 w_100 dX8_abandon_1 rfl rfl (Nat.le_of_ble_eq_true rfl) (Nat.le_of_ble_eq_true rfl) (Nat.le_of_ble_eq_true rfl) (Nat.le_of_ble_eq_true rfl) rfl (fun E sh1 I1 A1 hp _ => hp.2.elim) (fun ro sh_ I_1 A_2 hp hle => ?_)
  obtain ⟨rfl, r_3, rfl, h⟩ := hp
  refine g_istore_n (n := 5) (ls' := [some (.ref 8), some (.int r_3)]) dX8_abandon_4 rfl rfl (Nat.le_of_ble_eq_true rfl) (Nat.le_of_ble_eq_true rfl) rfl rfl ?_
  refine g_aload_n (n := 6) dX8_abandon_5 rfl rfl rfl ?_
  refine g_getR (n := 9) (k := 3) dX8_abandon_6 sC_8 vc_12 (Nat.le_of_ble_eq_true rfl) rfl w_405 rfl ?_
  refine g_callV (n := 12) (as := []) (bc' := 0) (bs' := 0) sC_24 vc_5 (ctX1_clearRecords h) okX1_clearRecords rfl w_747 w_448 w_449 w_104 dX8_abandon_9 rfl rfl (Nat.le_of_ble_eq_true rfl) (Nat.le_of_ble_eq_true rfl) (Nat.le_of_ble_eq_true rfl) (Nat.le_of_ble_eq_true rfl) rfl (fun E sh1 I1 A1 hp _ => hp.2.elim) (fun ro sh_ I_4 A_5 hp hle => ?_)
  obtain ⟨rfl, rfl, h⟩ := hp
  refine g_aload_n (n := 13) dX8_abandon_12 rfl rfl rfl ?_
  refine g_callV (n := 16) (as := []) (bc' := 0) (bs' := 0) sC_8 vc_12 (ctX8_countFree h) okX8_countFree rfl w_966 w_967 w_968 w_100 dX8_abandon_13 rfl rfl (Nat.le_of_ble_eq_true rfl) (Nat.le_of_ble_eq_true rfl) (Nat.le_of_ble_eq_true rfl) (Nat.le_of_ble_eq_true rfl) rfl (fun E sh1 I1 A1 hp _ => hp.2.elim) (fun ro sh_ I_6 A_7 hp hle => ?_)
  obtain ⟨rfl, r_8, rfl, h⟩ := hp
  refine g_iload_n (n := 17) dX8_abandon_16 rfl rfl rfl ?_
  refine g_isub (n := 18) dX8_abandon_17 rfl ?_
  exact g_iret rfl rfl dX8_abandon_18 ⟨rfl, _, rfl, h⟩
def wX8_restoredValue (K : Int32 → ab_F → ab_F → Prop) (I A : ab_F) (p0 : Int32) : Prop := (∃ j_1 : Nat, p0 = nI j_1 ∧ j_1 < 48 ∧ (∀ y_2 : Int32, y_2 = (A 27 j_1) → ((¬ y_2 = (-1 : Int32) → (∃ j_3 : Nat, y_2 = nI j_3 ∧ j_3 < 48 ∧ K (A 21 j_3) I A)) ∧ (y_2 = (-1 : Int32) → K (nI 0) I A))))
set_option maxRecDepth 20000 in
theorem ctX8_restoredValue {Z : ab_Z} {K : Int32 → ab_F → ab_F → Prop} {I A : ab_F} {p0 : Int32} (h : wX8_restoredValue K I A p0) : ab_Cl mX8_restoredValue 0 0 0 [.ref 8, .int p0] (shC Z) I A (ab_Px (shC Z) ab_no (ab_ri K)) := by
  refine ab_enter (ls := [some (.ref 8), some (.int p0), none]) (by decide +kernel) (Nat.le_of_ble_eq_true rfl) rfl (fun C => ?_)
  unfold wX8_restoredValue at h
  refine g_aload_n (n := 1) dX8_restoredValue_0 rfl rfl rfl ?_
  refine g_getR (n := 4) (k := 3) dX8_restoredValue_1 sC_8 vc_12 (Nat.le_of_ble_eq_true rfl) rfl w_405 rfl ?_
  refine g_getR (n := 7) (k := 6) dX8_restoredValue_4 sC_24 vc_5 (Nat.le_of_ble_eq_true rfl) rfl w_355 rfl ?_
  refine g_iload_n (n := 8) dX8_restoredValue_7 rfl rfl rfl ?_
  obtain ⟨j_1, hj, hl, h⟩ := h
  refine g_ialdJ (n := 9) (j := j_1) (x := (A 27 j_1)) dX8_restoredValue_8 sC_27 hj hl (by decide) rfl rfl ?_
  refine g_topi (fun y_2 ey_2 => ?_)
  have h := h y_2 ey_2
  refine g_istore_n (n := 10) (ls' := [some (.ref 8), some (.int p0), some (.int y_2)]) dX8_restoredValue_9 rfl rfl (Nat.le_of_ble_eq_true rfl) (Nat.le_of_ble_eq_true rfl) rfl rfl ?_
  refine g_iload_n (n := 11) dX8_restoredValue_10 rfl rfl rfl ?_
  refine g_iconst (n := 12) (v := (-1 : Int32)) dX8_restoredValue_11 rfl rfl ?_
  refine g_icmp_ne (n := 15) 19 dX8_restoredValue_12 (by decide) rfl (fun hc => ?_) (fun hc => ?_)
  · have h := h.1 hc
    refine g_aload_n (n := 20) dX8_restoredValue_19 rfl rfl rfl ?_
    refine g_getR (n := 23) (k := 2) dX8_restoredValue_20 sC_8 vc_12 (Nat.le_of_ble_eq_true rfl) rfl w_403 rfl ?_
    refine g_getR (n := 26) (k := 2) dX8_restoredValue_23 sC_20 vc_11 (Nat.le_of_ble_eq_true rfl) rfl w_315 rfl ?_
    refine g_iload_n (n := 27) dX8_restoredValue_26 rfl rfl rfl ?_
    obtain ⟨j_3, hj, hl, h⟩ := h
    refine g_ialdJ (n := 28) (j := j_3) (x := (A 21 j_3)) dX8_restoredValue_27 sC_21 hj hl (by decide) rfl rfl ?_
    exact g_iret rfl rfl dX8_restoredValue_28 ⟨rfl, _, rfl, h⟩
  · have h := h.2 hc
    refine g_iconst (n := 16) (v := (nI 0)) dX8_restoredValue_15 rfl rfl ?_
    refine g_goto 28 dX8_restoredValue_16 (by decide) ?_
    exact g_iret rfl rfl dX8_restoredValue_28 ⟨rfl, _, rfl, h⟩
def wlX8_lostSet_4 (K : Int32 → ab_F → ab_F → Prop) : Nat → Int32 → Int32 → Int32 → ab_F → ab_F → Prop
  | 0, _, _, _, _, _ => False
  | n + 1, x1, x2, x3, I, A => (∃ j_1 : Nat, x1 = nI j_1 ∧ j_1 < 6 ∧ (((A 10 j_1) ≤ x3 → K x2 I A) ∧ (¬ (A 10 j_1) ≤ x3 → wX11_idOf (fun r_4 I_2 A_3 => (∃ j_5 : Nat, r_4 = nI j_5 ∧ j_5 < 48 ∧ wX8_restoredValue (fun r_8 I_6 A_7 => (((A_3 13 j_5) = r_8 → (wlX8_lostSet_4 K n) x1 x2 (x3 + nI 1) I_6 A_7) ∧ (¬ (A_3 13 j_5) = r_8 → (∀ y_9 : Int32, y_9 = (x2 ||| ((nI 1) <<< (x3 &&& 31))) → (wlX8_lostSet_4 K n) x1 y_9 (x3 + nI 1) I_6 A_7)))) I_2 A_3 r_4)) I A x1 x3)))
def wX8_lostSet (K : Int32 → ab_F → ab_F → Prop) (I A : ab_F) (p0 : Int32) : Prop := (∃ nf : Nat, wlX8_lostSet_4 K nf p0 (nI 0) (nI 0) I A)
set_option maxRecDepth 20000 in
theorem tlX8_lostSet_4 {C : ab_X} {Z : ab_Z} {K : Int32 → ab_F → ab_F → Prop} : ∀ (n : Nat) (x1 : Int32) (x2 : Int32) (x3 : Int32) (I A : ab_F), wlX8_lostSet_4 K n x1 x2 x3 I A → ab_G mX8_lostSet 1 C (ab_Px (shC Z) ab_no (ab_ri K)) 4 [some (.ref 8), some (.int x1), some (.int x2), some (.int x3), none] [] (shC Z) I A 0 0 := by
  intro n
  induction n with
  | zero => intro x1 x2 x3 I A h; exact h.elim
  | succ n hL4 =>
    intro x1 x2 x3 I A h
    rw [wlX8_lostSet_4] at h
    refine g_iload_n (n := 5) dX8_lostSet_4 rfl rfl rfl ?_
    refine g_aload_n (n := 6) dX8_lostSet_5 rfl rfl rfl ?_
    refine g_getR (n := 9) (k := 0) dX8_lostSet_6 sC_8 vc_12 (Nat.le_of_ble_eq_true rfl) rfl w_399 rfl ?_
    refine g_getR (n := 12) (k := 1) dX8_lostSet_9 sC_9 vc_8 (Nat.le_of_ble_eq_true rfl) rfl w_242 rfl ?_
    refine g_iload_n (n := 13) dX8_lostSet_12 rfl rfl rfl ?_
    obtain ⟨j_1, hj, hl, h⟩ := h
    refine g_ialdJ (n := 14) (j := j_1) (x := (A 10 j_1)) dX8_lostSet_13 sC_10 hj hl (by decide) rfl rfl ?_
    refine g_icmp_ge (n := 17) 55 dX8_lostSet_14 (by decide) rfl (fun hc => ?_) (fun hc => ?_)
    · have h := h.1 hc
      refine g_iload_n (n := 56) dX8_lostSet_55 rfl rfl rfl ?_
      exact g_iret rfl rfl dX8_lostSet_56 ⟨rfl, _, rfl, h⟩
    · have h := h.2 hc
      refine g_iload_n (n := 18) dX8_lostSet_17 rfl rfl rfl ?_
      refine g_iload_n (n := 19) dX8_lostSet_18 rfl rfl rfl ?_
      refine g_callSN (n := 22) (as := [.int x1, .int x3]) (bc' := 0) (bs' := 0) (ctX11_idOf h) okX11_idOf (ab_ngm 10 rfl) w_757 dX8_lostSet_19 rfl rfl (Nat.le_of_ble_eq_true rfl) (Nat.le_of_ble_eq_true rfl) (Nat.le_of_ble_eq_true rfl) (Nat.le_of_ble_eq_true rfl) rfl (fun E sh1 I1 A1 hp _ => hp.2.elim) (fun ro sh_ I_2 A_3 hp hle => ?_)
      obtain ⟨rfl, r_4, rfl, h⟩ := hp
      refine g_istore (n := 24) (ls' := [some (.ref 8), some (.int x1), some (.int x2), some (.int x3), some (.int r_4)]) dX8_lostSet_22 rfl (Nat.le_of_ble_eq_true rfl) (Nat.le_of_ble_eq_true rfl) rfl rfl ?_
      refine g_aload_n (n := 25) dX8_lostSet_24 rfl rfl rfl ?_
      refine g_getR (n := 28) (k := 0) dX8_lostSet_25 sC_8 vc_12 (Nat.le_of_ble_eq_true rfl) rfl w_399 rfl ?_
      refine g_getR (n := 31) (k := 4) dX8_lostSet_28 sC_9 vc_8 (Nat.le_of_ble_eq_true rfl) rfl w_248 rfl ?_
      refine g_iload (n := 33) dX8_lostSet_31 rfl rfl ?_
      obtain ⟨j_5, hj, hl, h⟩ := h
      refine g_ialdJ (n := 34) (j := j_5) (x := (A_3 13 j_5)) dX8_lostSet_33 sC_13 hj hl (by decide) rfl rfl ?_
      refine g_aload_n (n := 35) dX8_lostSet_34 rfl rfl rfl ?_
      refine g_iload (n := 37) dX8_lostSet_35 rfl rfl ?_
      refine g_callV (n := 40) (as := [.int r_4]) (bc' := 0) (bs' := 0) sC_8 vc_12 (ctX8_restoredValue h) okX8_restoredValue rfl w_759 w_760 w_761 w_100 dX8_lostSet_37 rfl rfl (Nat.le_of_ble_eq_true rfl) (Nat.le_of_ble_eq_true rfl) (Nat.le_of_ble_eq_true rfl) (Nat.le_of_ble_eq_true rfl) rfl (fun E sh1 I1 A1 hp _ => hp.2.elim) (fun ro sh_ I_6 A_7 hp hle => ?_)
      obtain ⟨rfl, r_8, rfl, h⟩ := hp
      refine g_icmp_eq (n := 43) 49 dX8_lostSet_40 (by decide) rfl (fun hc => ?_) (fun hc => ?_)
      · have h := h.1 hc
        refine g_iinc (n := 52) (v := (x3 + nI 1)) (ls' := [some (.ref 8), some (.int x1), some (.int x2), some (.int (x3 + nI 1)), some (.int r_4)]) dX8_lostSet_49 rfl rfl rfl (Nat.le_of_ble_eq_true rfl) rfl rfl ?_
        refine g_goto 4 dX8_lostSet_52 (by decide) ?_
        refine g_forget (ls' := [some (.ref 8), some (.int x1), some (.int x2), some (.int (x3 + nI 1)), none]) (ab_fg rfl) ?_
        exact hL4 _ _ _ _ _ h
      · have h := h.2 hc
        refine g_iload_n (n := 44) dX8_lostSet_43 rfl rfl rfl ?_
        refine g_iconst (n := 45) (v := (nI 1)) dX8_lostSet_44 rfl rfl ?_
        refine g_iload_n (n := 46) dX8_lostSet_45 rfl rfl rfl ?_
        refine g_ishl (n := 47) dX8_lostSet_46 rfl ?_
        refine g_ior (n := 48) dX8_lostSet_47 rfl ?_
        refine g_topi (fun y_9 ey_9 => ?_)
        have h := h y_9 ey_9
        refine g_istore_n (n := 49) (ls' := [some (.ref 8), some (.int x1), some (.int y_9), some (.int x3), some (.int r_4)]) dX8_lostSet_48 rfl rfl (Nat.le_of_ble_eq_true rfl) (Nat.le_of_ble_eq_true rfl) rfl rfl ?_
        refine g_iinc (n := 52) (v := (x3 + nI 1)) (ls' := [some (.ref 8), some (.int x1), some (.int y_9), some (.int (x3 + nI 1)), some (.int r_4)]) dX8_lostSet_49 rfl rfl rfl (Nat.le_of_ble_eq_true rfl) rfl rfl ?_
        refine g_goto 4 dX8_lostSet_52 (by decide) ?_
        refine g_forget (ls' := [some (.ref 8), some (.int x1), some (.int y_9), some (.int (x3 + nI 1)), none]) (ab_fg rfl) ?_
        exact hL4 _ _ _ _ _ h
set_option maxRecDepth 20000 in
theorem ctX8_lostSet {Z : ab_Z} {K : Int32 → ab_F → ab_F → Prop} {I A : ab_F} {p0 : Int32} (h : wX8_lostSet K I A p0) : ab_Cl mX8_lostSet 1 0 0 [.ref 8, .int p0] (shC Z) I A (ab_Px (shC Z) ab_no (ab_ri K)) := by
  refine ab_enter (ls := [some (.ref 8), some (.int p0), none, none, none]) (by decide +kernel) (Nat.le_of_ble_eq_true rfl) rfl (fun C => ?_)
  unfold wX8_lostSet at h
  refine g_iconst (n := 1) (v := (nI 0)) dX8_lostSet_0 rfl rfl ?_
  refine g_istore_n (n := 2) (ls' := [some (.ref 8), some (.int p0), some (.int (nI 0)), none, none]) dX8_lostSet_1 rfl rfl (Nat.le_of_ble_eq_true rfl) (Nat.le_of_ble_eq_true rfl) rfl rfl ?_
  refine g_iconst (n := 3) (v := (nI 0)) dX8_lostSet_2 rfl rfl ?_
  refine g_istore_n (n := 4) (ls' := [some (.ref 8), some (.int p0), some (.int (nI 0)), some (.int (nI 0)), none]) dX8_lostSet_3 rfl rfl (Nat.le_of_ble_eq_true rfl) (Nat.le_of_ble_eq_true rfl) rfl rfl ?_
  refine g_less (bc' := 0) (bs' := 0) (Nat.le_of_ble_eq_true rfl) (Nat.le_of_ble_eq_true rfl) ?_
  obtain ⟨n_f, h⟩ := h
  exact tlX8_lostSet_4  n_f _ _ _ _ _ h
def wlX8_restore_8 (K : Int32 → ab_F → ab_F → Prop) : Nat → Int32 → Int32 → Int32 → ab_F → ab_F → Prop
  | 0, _, _, _, _, _ => False
  | n + 1, x1, x2, x3, I, A => (∃ j_4 : Nat, x1 = nI j_4 ∧ j_4 < 6 ∧ (((A 10 j_4) ≤ x3 → K x2 I A) ∧ (¬ (A 10 j_4) ≤ x3 → wX11_idOf (fun r_7 I_5 A_6 => wX8_leaveFrame (fun I_8 A_9 => wX4_makeClean (fun I_10 A_11 => wX8_restoredValue (fun r_14 I_12 A_13 => (∃ j_15 : Nat, r_7 = nI j_15 ∧ j_15 < 48 ∧ (∃ j_16 : Nat, r_7 = nI j_16 ∧ j_16 < 48 ∧ (∃ j_17 : Nat, r_7 = nI j_17 ∧ j_17 < 48 ∧ (wlX8_restore_8 K n) x1 x2 (x3 + nI 1) I_12 (wr (wr A_13 13 j_15 r_14) 15 j_17 (A_13 27 j_16)))))) I_10 A_11 r_7) I_8 A_9 r_7) I_5 A_6 r_7) I A x1 x3)))
def wX8_restore (K : Int32 → ab_F → ab_F → Prop) (I A : ab_F) (p0 : Int32) : Prop := wX8_lostSet (fun r_3 I_1 A_2 => (∃ nf : Nat, wlX8_restore_8 K nf p0 r_3 (nI 0) I_1 A_2)) I A p0
set_option maxRecDepth 20000 in
theorem tlX8_restore_8 {C : ab_X} {Z : ab_Z} {K : Int32 → ab_F → ab_F → Prop} : ∀ (n : Nat) (x1 : Int32) (x2 : Int32) (x3 : Int32) (I A : ab_F), wlX8_restore_8 K n x1 x2 x3 I A → ab_G mX8_restore 2 C (ab_Px (shC Z) ab_no (ab_ri K)) 8 [some (.ref 8), some (.int x1), some (.int x2), some (.int x3), none] [] (shC Z) I A 0 0 := by
  intro n
  induction n with
  | zero => intro x1 x2 x3 I A h; exact h.elim
  | succ n hL8 =>
    intro x1 x2 x3 I A h
    rw [wlX8_restore_8] at h
    refine g_iload_n (n := 9) dX8_restore_8 rfl rfl rfl ?_
    refine g_aload_n (n := 10) dX8_restore_9 rfl rfl rfl ?_
    refine g_getR (n := 13) (k := 0) dX8_restore_10 sC_8 vc_12 (Nat.le_of_ble_eq_true rfl) rfl w_399 rfl ?_
    refine g_getR (n := 16) (k := 1) dX8_restore_13 sC_9 vc_8 (Nat.le_of_ble_eq_true rfl) rfl w_242 rfl ?_
    refine g_iload_n (n := 17) dX8_restore_16 rfl rfl rfl ?_
    obtain ⟨j_4, hj, hl, h⟩ := h
    refine g_ialdJ (n := 18) (j := j_4) (x := (A 10 j_4)) dX8_restore_17 sC_10 hj hl (by decide) rfl rfl ?_
    refine g_icmp_ge (n := 21) 85 dX8_restore_18 (by decide) rfl (fun hc => ?_) (fun hc => ?_)
    · have h := h.1 hc
      refine g_iload_n (n := 86) dX8_restore_85 rfl rfl rfl ?_
      exact g_iret rfl rfl dX8_restore_86 ⟨rfl, _, rfl, h⟩
    · have h := h.2 hc
      refine g_iload_n (n := 22) dX8_restore_21 rfl rfl rfl ?_
      refine g_iload_n (n := 23) dX8_restore_22 rfl rfl rfl ?_
      refine g_callSN (n := 26) (as := [.int x1, .int x3]) (bc' := 0) (bs' := 0) (ctX11_idOf h) okX11_idOf (ab_ngm 10 rfl) w_757 dX8_restore_23 rfl rfl (Nat.le_of_ble_eq_true rfl) (Nat.le_of_ble_eq_true rfl) (Nat.le_of_ble_eq_true rfl) (Nat.le_of_ble_eq_true rfl) rfl (fun E sh1 I1 A1 hp _ => hp.2.elim) (fun ro sh_ I_5 A_6 hp hle => ?_)
      obtain ⟨rfl, r_7, rfl, h⟩ := hp
      refine g_istore (n := 28) (ls' := [some (.ref 8), some (.int x1), some (.int x2), some (.int x3), some (.int r_7)]) dX8_restore_26 rfl (Nat.le_of_ble_eq_true rfl) (Nat.le_of_ble_eq_true rfl) rfl rfl ?_
      refine g_aload_n (n := 29) dX8_restore_28 rfl rfl rfl ?_
      refine g_iload (n := 31) dX8_restore_29 rfl rfl ?_
      refine g_callV (n := 34) (as := [.int r_7]) (bc' := 0) (bs' := 0) sC_8 vc_12 (ctX8_leaveFrame h) okX8_leaveFrame rfl w_763 w_765 w_7 w_100 dX8_restore_31 rfl rfl (Nat.le_of_ble_eq_true rfl) (Nat.le_of_ble_eq_true rfl) (Nat.le_of_ble_eq_true rfl) (Nat.le_of_ble_eq_true rfl) rfl (fun E sh1 I1 A1 hp _ => hp.2.elim) (fun ro sh_ I_8 A_9 hp hle => ?_)
      obtain ⟨rfl, rfl, h⟩ := hp
      refine g_aload_n (n := 35) dX8_restore_34 rfl rfl rfl ?_
      refine g_getR (n := 38) (k := 0) dX8_restore_35 sC_8 vc_12 (Nat.le_of_ble_eq_true rfl) rfl w_399 rfl ?_
      refine g_iload (n := 40) dX8_restore_38 rfl rfl ?_
      refine g_callV (n := 43) (as := [.int r_7]) (bc' := 0) (bs' := 0) sC_9 vc_8 (ctX4_makeClean h) okX4_makeClean rfl w_767 w_768 w_769 w_101 dX8_restore_40 rfl rfl (Nat.le_of_ble_eq_true rfl) (Nat.le_of_ble_eq_true rfl) (Nat.le_of_ble_eq_true rfl) (Nat.le_of_ble_eq_true rfl) rfl (fun E sh1 I1 A1 hp _ => hp.2.elim) (fun ro sh_ I_10 A_11 hp hle => ?_)
      obtain ⟨rfl, rfl, h⟩ := hp
      refine g_aload_n (n := 44) dX8_restore_43 rfl rfl rfl ?_
      refine g_getR (n := 47) (k := 0) dX8_restore_44 sC_8 vc_12 (Nat.le_of_ble_eq_true rfl) rfl w_399 rfl ?_
      refine g_getR (n := 50) (k := 4) dX8_restore_47 sC_9 vc_8 (Nat.le_of_ble_eq_true rfl) rfl w_248 rfl ?_
      refine g_iload (n := 52) dX8_restore_50 rfl rfl ?_
      refine g_aload_n (n := 53) dX8_restore_52 rfl rfl rfl ?_
      refine g_iload (n := 55) dX8_restore_53 rfl rfl ?_
      refine g_callV (n := 58) (as := [.int r_7]) (bc' := 0) (bs' := 0) sC_8 vc_12 (ctX8_restoredValue h) okX8_restoredValue rfl w_759 w_760 w_761 w_100 dX8_restore_55 rfl rfl (Nat.le_of_ble_eq_true rfl) (Nat.le_of_ble_eq_true rfl) (Nat.le_of_ble_eq_true rfl) (Nat.le_of_ble_eq_true rfl) rfl (fun E sh1 I1 A1 hp _ => hp.2.elim) (fun ro sh_ I_12 A_13 hp hle => ?_)
      obtain ⟨rfl, r_14, rfl, h⟩ := hp
      obtain ⟨j_15, hj, hl, h⟩ := h
      refine g_iastJ (n := 59) (j := j_15) dX8_restore_58 sC_13 hj hl (by decide) rfl ?_
      refine g_aload_n (n := 60) dX8_restore_59 rfl rfl rfl ?_
      refine g_getR (n := 63) (k := 0) dX8_restore_60 sC_8 vc_12 (Nat.le_of_ble_eq_true rfl) rfl w_399 rfl ?_
      refine g_getR (n := 66) (k := 6) dX8_restore_63 sC_9 vc_8 (Nat.le_of_ble_eq_true rfl) rfl w_254 rfl ?_
      refine g_iload (n := 68) dX8_restore_66 rfl rfl ?_
      refine g_aload_n (n := 69) dX8_restore_68 rfl rfl rfl ?_
      refine g_getR (n := 72) (k := 3) dX8_restore_69 sC_8 vc_12 (Nat.le_of_ble_eq_true rfl) rfl w_405 rfl ?_
      refine g_getR (n := 75) (k := 6) dX8_restore_72 sC_24 vc_5 (Nat.le_of_ble_eq_true rfl) rfl w_355 rfl ?_
      refine g_iload (n := 77) dX8_restore_75 rfl rfl ?_
      obtain ⟨j_16, hj, hl, h⟩ := h
      refine g_ialdJ (n := 78) (j := j_16) (x := (A_13 27 j_16)) dX8_restore_77 sC_27 hj hl (by decide) rfl rfl ?_
      obtain ⟨j_17, hj, hl, h⟩ := h
      refine g_iastJ (n := 79) (j := j_17) dX8_restore_78 sC_15 hj hl (by decide) rfl ?_
      refine g_iinc (n := 82) (v := (x3 + nI 1)) (ls' := [some (.ref 8), some (.int x1), some (.int x2), some (.int (x3 + nI 1)), some (.int r_7)]) dX8_restore_79 rfl rfl rfl (Nat.le_of_ble_eq_true rfl) rfl rfl ?_
      refine g_goto 8 dX8_restore_82 (by decide) ?_
      refine g_forget (ls' := [some (.ref 8), some (.int x1), some (.int x2), some (.int (x3 + nI 1)), none]) (ab_fg rfl) ?_
      exact hL8 _ _ _ _ _ h
set_option maxRecDepth 20000 in
theorem ctX8_restore {Z : ab_Z} {K : Int32 → ab_F → ab_F → Prop} {I A : ab_F} {p0 : Int32} (h : wX8_restore K I A p0) : ab_Cl mX8_restore 2 0 0 [.ref 8, .int p0] (shC Z) I A (ab_Px (shC Z) ab_no (ab_ri K)) := by
  refine ab_enter (ls := [some (.ref 8), some (.int p0), none, none, none]) (by decide +kernel) (Nat.le_of_ble_eq_true rfl) rfl (fun C => ?_)
  unfold wX8_restore at h
  refine g_aload_n (n := 1) dX8_restore_0 rfl rfl rfl ?_
  refine g_iload_n (n := 2) dX8_restore_1 rfl rfl rfl ?_
  refine g_callV (n := 5) (as := [.int p0]) (bc' := 0) (bs' := 0) sC_8 vc_12 (ctX8_lostSet h) okX8_lostSet rfl w_752 w_753 w_754 w_100 dX8_restore_2 rfl rfl (Nat.le_of_ble_eq_true rfl) (Nat.le_of_ble_eq_true rfl) (Nat.le_of_ble_eq_true rfl) (Nat.le_of_ble_eq_true rfl) rfl (fun E sh1 I1 A1 hp _ => hp.2.elim) (fun ro sh_ I_1 A_2 hp hle => ?_)
  obtain ⟨rfl, r_3, rfl, h⟩ := hp
  refine g_istore_n (n := 6) (ls' := [some (.ref 8), some (.int p0), some (.int r_3), none, none]) dX8_restore_5 rfl rfl (Nat.le_of_ble_eq_true rfl) (Nat.le_of_ble_eq_true rfl) rfl rfl ?_
  refine g_iconst (n := 7) (v := (nI 0)) dX8_restore_6 rfl rfl ?_
  refine g_istore_n (n := 8) (ls' := [some (.ref 8), some (.int p0), some (.int r_3), some (.int (nI 0)), none]) dX8_restore_7 rfl rfl (Nat.le_of_ble_eq_true rfl) (Nat.le_of_ble_eq_true rfl) rfl rfl ?_
  refine g_less (bc' := 0) (bs' := 0) (Nat.le_of_ble_eq_true rfl) (Nat.le_of_ble_eq_true rfl) ?_
  obtain ⟨n_f, h⟩ := h
  exact tlX8_restore_8  n_f _ _ _ _ _ h
def wlX8_crashAll_11 (K : Int32 → ab_F → ab_F → Prop) : Nat → Int32 → Int32 → ab_F → ab_F → Prop
  | 0, _, _, _, _ => False
  | n + 1, x1, x2, I, A => (((I 9 0) ≤ x2 → K x1 (wr (wr I 29 2 (nI 0)) 8 5 ((I 8 5) + (nI 1))) A) ∧ (¬ (I 9 0) ≤ x2 → wX8_restore (fun r_5 I_3 A_4 => (∃ j_6 : Nat, x2 = nI j_6 ∧ j_6 < 6 ∧ (((A_4 26 j_6) = (-1 : Int32) → (wlX8_crashAll_11 K n) x1 (x2 + nI 1) I_3 A_4) ∧ (¬ (A_4 26 j_6) = (-1 : Int32) → (∀ y_7 : Int32, y_7 = (x1 ||| ((nI 1) <<< (x2 &&& 31))) → (wlX8_crashAll_11 K n) y_7 (x2 + nI 1) I_3 A_4))))) I A x2))
def wX8_crashAll (K : Int32 → ab_F → ab_F → Prop) (I A : ab_F)  : Prop := wX1_clearRecords (fun I_1 A_2 => (∃ nf : Nat, wlX8_crashAll_11 K nf (nI 0) (nI 0) I_1 A_2)) I A 
set_option maxRecDepth 20000 in
theorem tlX8_crashAll_11 {C : ab_X} {Z : ab_Z} {K : Int32 → ab_F → ab_F → Prop} : ∀ (n : Nat) (x1 : Int32) (x2 : Int32) (I A : ab_F), wlX8_crashAll_11 K n x1 x2 I A → ab_G mX8_crashAll 3 C (ab_Px (shC Z) ab_no (ab_ri K)) 11 [some (.ref 8), some (.int x1), some (.int x2)] [] (shC Z) I A 0 0 := by
  intro n
  induction n with
  | zero => intro x1 x2 I A h; exact h.elim
  | succ n hL11 =>
    intro x1 x2 I A h
    rw [wlX8_crashAll_11] at h
    refine g_iload_n (n := 12) dX8_crashAll_11 rfl rfl rfl ?_
    refine g_aload_n (n := 13) dX8_crashAll_12 rfl rfl rfl ?_
    refine g_getR (n := 16) (k := 0) dX8_crashAll_13 sC_8 vc_12 (Nat.le_of_ble_eq_true rfl) rfl w_399 rfl ?_
    refine g_getIE (n := 19) (k := 0) (x := (I 9 0)) dX8_crashAll_16 sC_9 vc_8 (Nat.le_of_ble_eq_true rfl) rfl w_239 rfl rfl ?_
    refine g_icmp_ge (n := 22) 53 dX8_crashAll_19 (by decide) rfl (fun hc => ?_) (fun hc => ?_)
    · have h := h.1 hc
      refine g_aload_n (n := 54) dX8_crashAll_53 rfl rfl rfl ?_
      refine g_getR (n := 57) (k := 4) dX8_crashAll_54 sC_8 vc_12 (Nat.le_of_ble_eq_true rfl) rfl w_407 rfl ?_
      refine g_iconst (n := 58) (v := (nI 0)) dX8_crashAll_57 rfl rfl ?_
      refine g_putI (n := 61) (k := 2) dX8_crashAll_58 sC_29 vc_4 (Nat.le_of_ble_eq_true rfl) rfl w_388 rfl rfl rfl rfl rfl ?_
      refine g_aload_n (n := 62) dX8_crashAll_61 rfl rfl rfl ?_
      refine g_dup (n := 63) dX8_crashAll_62 rfl rfl ?_
      refine g_getIE (n := 66) (k := 5) (x := (I 8 5)) dX8_crashAll_63 sC_8 vc_12 (Nat.le_of_ble_eq_true rfl) rfl w_409 rfl rfl ?_
      refine g_iconst (n := 67) (v := (nI 1)) dX8_crashAll_66 rfl rfl ?_
      refine g_iadd (n := 68) dX8_crashAll_67 rfl ?_
      refine g_putI (n := 71) (k := 5) dX8_crashAll_68 sC_8 vc_12 (Nat.le_of_ble_eq_true rfl) rfl w_409 rfl rfl rfl rfl rfl ?_
      refine g_iload_n (n := 72) dX8_crashAll_71 rfl rfl rfl ?_
      exact g_iret rfl rfl dX8_crashAll_72 ⟨rfl, _, rfl, h⟩
    · have h := h.2 hc
      refine g_aload_n (n := 23) dX8_crashAll_22 rfl rfl rfl ?_
      refine g_iload_n (n := 24) dX8_crashAll_23 rfl rfl rfl ?_
      refine g_callV (n := 27) (as := [.int x2]) (bc' := 0) (bs' := 0) sC_8 vc_12 (ctX8_restore h) okX8_restore rfl w_748 w_749 w_750 w_100 dX8_crashAll_24 rfl rfl (Nat.le_of_ble_eq_true rfl) (Nat.le_of_ble_eq_true rfl) (Nat.le_of_ble_eq_true rfl) (Nat.le_of_ble_eq_true rfl) rfl (fun E sh1 I1 A1 hp _ => hp.2.elim) (fun ro sh_ I_3 A_4 hp hle => ?_)
      obtain ⟨rfl, r_5, rfl, h⟩ := hp
      refine g_pop (n := 28) dX8_crashAll_27 rfl rfl ?_
      refine g_aload_n (n := 29) dX8_crashAll_28 rfl rfl rfl ?_
      refine g_getR (n := 32) (k := 3) dX8_crashAll_29 sC_8 vc_12 (Nat.le_of_ble_eq_true rfl) rfl w_405 rfl ?_
      refine g_getR (n := 35) (k := 5) dX8_crashAll_32 sC_24 vc_5 (Nat.le_of_ble_eq_true rfl) rfl w_352 rfl ?_
      refine g_iload_n (n := 36) dX8_crashAll_35 rfl rfl rfl ?_
      obtain ⟨j_6, hj, hl, h⟩ := h
      refine g_ialdJ (n := 37) (j := j_6) (x := (A_4 26 j_6)) dX8_crashAll_36 sC_26 hj hl (by decide) rfl rfl ?_
      refine g_iconst (n := 38) (v := (-1 : Int32)) dX8_crashAll_37 rfl rfl ?_
      refine g_icmp_eq (n := 41) 47 dX8_crashAll_38 (by decide) rfl (fun hc => ?_) (fun hc => ?_)
      · have h := h.1 hc
        refine g_iinc (n := 50) (v := (x2 + nI 1)) (ls' := [some (.ref 8), some (.int x1), some (.int (x2 + nI 1))]) dX8_crashAll_47 rfl rfl rfl (Nat.le_of_ble_eq_true rfl) rfl rfl ?_
        refine g_goto 11 dX8_crashAll_50 (by decide) ?_
        exact hL11 _ _ _ _ h
      · have h := h.2 hc
        refine g_iload_n (n := 42) dX8_crashAll_41 rfl rfl rfl ?_
        refine g_iconst (n := 43) (v := (nI 1)) dX8_crashAll_42 rfl rfl ?_
        refine g_iload_n (n := 44) dX8_crashAll_43 rfl rfl rfl ?_
        refine g_ishl (n := 45) dX8_crashAll_44 rfl ?_
        refine g_ior (n := 46) dX8_crashAll_45 rfl ?_
        refine g_topi (fun y_7 ey_7 => ?_)
        have h := h y_7 ey_7
        refine g_istore_n (n := 47) (ls' := [some (.ref 8), some (.int y_7), some (.int x2)]) dX8_crashAll_46 rfl rfl (Nat.le_of_ble_eq_true rfl) (Nat.le_of_ble_eq_true rfl) rfl rfl ?_
        refine g_iinc (n := 50) (v := (x2 + nI 1)) (ls' := [some (.ref 8), some (.int y_7), some (.int (x2 + nI 1))]) dX8_crashAll_47 rfl rfl rfl (Nat.le_of_ble_eq_true rfl) rfl rfl ?_
        refine g_goto 11 dX8_crashAll_50 (by decide) ?_
        exact hL11 _ _ _ _ h
set_option maxRecDepth 20000 in
theorem ctX8_crashAll {Z : ab_Z} {K : Int32 → ab_F → ab_F → Prop} {I A : ab_F}  (h : wX8_crashAll K I A ) : ab_Cl mX8_crashAll 3 0 0 [.ref 8] (shC Z) I A (ab_Px (shC Z) ab_no (ab_ri K)) := by
  refine ab_enter (ls := [some (.ref 8), none, none]) (by decide +kernel) (Nat.le_of_ble_eq_true rfl) rfl (fun C => ?_)
  unfold wX8_crashAll at h
  refine g_iconst (n := 1) (v := (nI 0)) dX8_crashAll_0 rfl rfl ?_
  refine g_istore_n (n := 2) (ls' := [some (.ref 8), some (.int (nI 0)), none]) dX8_crashAll_1 rfl rfl (Nat.le_of_ble_eq_true rfl) (Nat.le_of_ble_eq_true rfl) rfl rfl ?_
  refine g_aload_n (n := 3) dX8_crashAll_2 rfl rfl rfl ?_
  refine g_getR (n := 6) (k := 3) dX8_crashAll_3 sC_8 vc_12 (Nat.le_of_ble_eq_true rfl) rfl w_405 rfl ?_
  refine g_callV (n := 9) (as := []) (bc' := 0) (bs' := 0) sC_24 vc_5 (ctX1_clearRecords h) okX1_clearRecords rfl w_747 w_448 w_449 w_104 dX8_crashAll_6 rfl rfl (Nat.le_of_ble_eq_true rfl) (Nat.le_of_ble_eq_true rfl) (Nat.le_of_ble_eq_true rfl) (Nat.le_of_ble_eq_true rfl) rfl (fun E sh1 I1 A1 hp _ => hp.2.elim) (fun ro sh_ I_1 A_2 hp hle => ?_)
  obtain ⟨rfl, rfl, h⟩ := hp
  refine g_iconst (n := 10) (v := (nI 0)) dX8_crashAll_9 rfl rfl ?_
  refine g_istore_n (n := 11) (ls' := [some (.ref 8), some (.int (nI 0)), some (.int (nI 0))]) dX8_crashAll_10 rfl rfl (Nat.le_of_ble_eq_true rfl) (Nat.le_of_ble_eq_true rfl) rfl rfl ?_
  refine g_less (bc' := 0) (bs' := 0) (Nat.le_of_ble_eq_true rfl) (Nat.le_of_ble_eq_true rfl) ?_
  obtain ⟨n_f, h⟩ := h
  exact tlX8_crashAll_11  n_f _ _ _ _ h
def wX6_execute (K : ab_F → ab_F → Prop) (I A : ab_F) (p1 : Int32) : Prop := wX11_idOf (fun r_3 I_1 A_2 => (((p1).toInt = 0 → wX8_read (fun r_9 I_7 A_8 => K I_7 A_8) I_1 A_2 r_3) ∧ ((p1).toInt = 1 → wX8_write (fun r_12 I_10 A_11 => K I_10 A_11) I_1 A_2 r_3 (A_2 7 2)) ∧ ((p1).toInt = 2 → wX8_start (fun r_15 I_13 A_14 => K I_13 A_14) I_1 A_2 (A_2 7 0)) ∧ ((p1).toInt = 3 → wX8_flush (fun r_18 I_16 A_17 => K I_16 A_17) I_1 A_2 (A_2 7 0)) ∧ ((p1).toInt = 4 → wX8_commit (fun r_21 I_19 A_20 => K I_19 A_20) I_1 A_2 ) ∧ ((p1).toInt = 5 → wX8_abandon (fun r_24 I_22 A_23 => K I_22 A_23) I_1 A_2 ) ∧ ((p1).toInt = 6 → wX8_crashAll (fun r_27 I_25 A_26 => K I_25 A_26) I_1 A_2 ) ∧ ((p1).toInt = 7 → wX8_restore (fun r_30 I_28 A_29 => K I_28 A_29) I_1 A_2 (A_2 7 0)) ∧ ((p1).toInt < 0 ∨ 7 < (p1).toInt → wX8_evict (fun r_6 I_4 A_5 => K I_4 A_5) I_1 A_2 r_3))) I A (A 7 0) (A 7 1)
set_option maxRecDepth 20000 in
theorem ctX6_execute {Z : ab_Z} {K : ab_F → ab_F → Prop} {I A : ab_F} {p1 : Int32} (h : wX6_execute K I A p1) : ab_Cl mX6_execute 5 0 0 [.ref 6, .ref 8, .int p1] (shC Z) I A (ab_Px (shC Z) ab_no (ab_rv K)) := by
  refine ab_enter (ls := [some (.ref 6), some (.ref 8), some (.int p1), none]) (by decide +kernel) (Nat.le_of_ble_eq_true rfl) rfl (fun C => ?_)
  unfold wX6_execute at h
  refine g_aload_n (n := 1) dX6_execute_0 rfl rfl rfl ?_
  refine g_getR (n := 4) (k := 1) dX6_execute_1 sC_6 vc_10 (Nat.le_of_ble_eq_true rfl) rfl w_219 rfl ?_
  refine g_iconst (n := 5) (v := (nI 0)) dX6_execute_4 rfl rfl ?_
  refine g_ialdJ (n := 6) (j := 0) (x := (A 7 0)) dX6_execute_5 sC_7 rfl (Nat.le_of_ble_eq_true rfl) (by decide) rfl rfl ?_
  refine g_aload_n (n := 7) dX6_execute_6 rfl rfl rfl ?_
  refine g_getR (n := 10) (k := 1) dX6_execute_7 sC_6 vc_10 (Nat.le_of_ble_eq_true rfl) rfl w_219 rfl ?_
  refine g_iconst (n := 11) (v := (nI 1)) dX6_execute_10 rfl rfl ?_
  refine g_ialdJ (n := 12) (j := 1) (x := (A 7 1)) dX6_execute_11 sC_7 rfl (Nat.le_of_ble_eq_true rfl) (by decide) rfl rfl ?_
  refine g_callSN (n := 15) (as := [.int (A 7 0), .int (A 7 1)]) (bc' := 0) (bs' := 0) (ctX11_idOf h) okX11_idOf (ab_ngm 12 rfl) w_757 dX6_execute_12 rfl rfl (Nat.le_of_ble_eq_true rfl) (Nat.le_of_ble_eq_true rfl) (Nat.le_of_ble_eq_true rfl) (Nat.le_of_ble_eq_true rfl) rfl (fun E sh1 I1 A1 hp _ => hp.2.elim) (fun ro sh_ I_1 A_2 hp hle => ?_)
  obtain ⟨rfl, r_3, rfl, h⟩ := hp
  refine g_istore_n (n := 16) (ls' := [some (.ref 6), some (.ref 8), some (.int p1), some (.int r_3)]) dX6_execute_15 rfl rfl (Nat.le_of_ble_eq_true rfl) (Nat.le_of_ble_eq_true rfl) rfl rfl ?_
  refine g_iload_n (n := 17) dX6_execute_16 rfl rfl rfl ?_
  by_cases hc0 : (p1).toInt = 0
  · have h := h.1 hc0
    refine g_tableIn 64 dX6_execute_17 (by rw [hc0]; decide) (by rw [hc0]; decide) (by rw [hc0]; rfl) (by decide) ?_
    refine g_aload_n (n := 65) dX6_execute_64 rfl rfl rfl ?_
    refine g_iload_n (n := 66) dX6_execute_65 rfl rfl rfl ?_
    refine g_callV (n := 69) (as := [.int r_3]) (bc' := 0) (bs' := 0) sC_8 vc_12 (ctX8_read h) okX8_read rfl w_900 w_901 w_902 w_100 dX6_execute_66 rfl rfl (Nat.le_of_ble_eq_true rfl) (Nat.le_of_ble_eq_true rfl) (Nat.le_of_ble_eq_true rfl) (Nat.le_of_ble_eq_true rfl) rfl (fun E sh1 I1 A1 hp _ => hp.2.elim) (fun ro sh_ I_7 A_8 hp hle => ?_)
    obtain ⟨rfl, r_9, rfl, h⟩ := hp
    refine g_pop (n := 70) dX6_execute_69 rfl rfl ?_
    refine g_goto 160 dX6_execute_70 (by decide) ?_
    exact g_vret rfl dX6_execute_160 ⟨rfl, rfl, h⟩
  by_cases hc1 : (p1).toInt = 1
  · have h := h.2.1 hc1
    refine g_tableIn 73 dX6_execute_17 (by rw [hc1]; decide) (by rw [hc1]; decide) (by rw [hc1]; rfl) (by decide) ?_
    refine g_aload_n (n := 74) dX6_execute_73 rfl rfl rfl ?_
    refine g_iload_n (n := 75) dX6_execute_74 rfl rfl rfl ?_
    refine g_aload_n (n := 76) dX6_execute_75 rfl rfl rfl ?_
    refine g_getR (n := 79) (k := 1) dX6_execute_76 sC_6 vc_10 (Nat.le_of_ble_eq_true rfl) rfl w_219 rfl ?_
    refine g_iconst (n := 80) (v := (nI 2)) dX6_execute_79 rfl rfl ?_
    refine g_ialdJ (n := 81) (j := 2) (x := (A_2 7 2)) dX6_execute_80 sC_7 rfl (Nat.le_of_ble_eq_true rfl) (by decide) rfl rfl ?_
    refine g_callV (n := 84) (as := [.int r_3, .int (A_2 7 2)]) (bc' := 0) (bs' := 0) sC_8 vc_12 (ctX8_write h) okX8_write rfl w_932 w_933 w_934 w_100 dX6_execute_81 rfl rfl (Nat.le_of_ble_eq_true rfl) (Nat.le_of_ble_eq_true rfl) (Nat.le_of_ble_eq_true rfl) (Nat.le_of_ble_eq_true rfl) rfl (fun E sh1 I1 A1 hp _ => hp.2.elim) (fun ro sh_ I_10 A_11 hp hle => ?_)
    obtain ⟨rfl, r_12, rfl, h⟩ := hp
    refine g_pop (n := 85) dX6_execute_84 rfl rfl ?_
    refine g_goto 160 dX6_execute_85 (by decide) ?_
    exact g_vret rfl dX6_execute_160 ⟨rfl, rfl, h⟩
  by_cases hc2 : (p1).toInt = 2
  · have h := h.2.2.1 hc2
    refine g_tableIn 88 dX6_execute_17 (by rw [hc2]; decide) (by rw [hc2]; decide) (by rw [hc2]; rfl) (by decide) ?_
    refine g_aload_n (n := 89) dX6_execute_88 rfl rfl rfl ?_
    refine g_aload_n (n := 90) dX6_execute_89 rfl rfl rfl ?_
    refine g_getR (n := 93) (k := 1) dX6_execute_90 sC_6 vc_10 (Nat.le_of_ble_eq_true rfl) rfl w_219 rfl ?_
    refine g_iconst (n := 94) (v := (nI 0)) dX6_execute_93 rfl rfl ?_
    refine g_ialdJ (n := 95) (j := 0) (x := (A_2 7 0)) dX6_execute_94 sC_7 rfl (Nat.le_of_ble_eq_true rfl) (by decide) rfl rfl ?_
    refine g_callV (n := 98) (as := [.int (A_2 7 0)]) (bc' := 0) (bs' := 0) sC_8 vc_12 (ctX8_start h) okX8_start rfl w_950 w_951 w_952 w_100 dX6_execute_95 rfl rfl (Nat.le_of_ble_eq_true rfl) (Nat.le_of_ble_eq_true rfl) (Nat.le_of_ble_eq_true rfl) (Nat.le_of_ble_eq_true rfl) rfl (fun E sh1 I1 A1 hp _ => hp.2.elim) (fun ro sh_ I_13 A_14 hp hle => ?_)
    obtain ⟨rfl, r_15, rfl, h⟩ := hp
    refine g_pop (n := 99) dX6_execute_98 rfl rfl ?_
    refine g_goto 160 dX6_execute_99 (by decide) ?_
    exact g_vret rfl dX6_execute_160 ⟨rfl, rfl, h⟩
  by_cases hc3 : (p1).toInt = 3
  · have h := h.2.2.2.1 hc3
    refine g_tableIn 102 dX6_execute_17 (by rw [hc3]; decide) (by rw [hc3]; decide) (by rw [hc3]; rfl) (by decide) ?_
    refine g_aload_n (n := 103) dX6_execute_102 rfl rfl rfl ?_
    refine g_aload_n (n := 104) dX6_execute_103 rfl rfl rfl ?_
    refine g_getR (n := 107) (k := 1) dX6_execute_104 sC_6 vc_10 (Nat.le_of_ble_eq_true rfl) rfl w_219 rfl ?_
    refine g_iconst (n := 108) (v := (nI 0)) dX6_execute_107 rfl rfl ?_
    refine g_ialdJ (n := 109) (j := 0) (x := (A_2 7 0)) dX6_execute_108 sC_7 rfl (Nat.le_of_ble_eq_true rfl) (by decide) rfl rfl ?_
    refine g_callV (n := 112) (as := [.int (A_2 7 0)]) (bc' := 0) (bs' := 0) sC_8 vc_12 (ctX8_flush h) okX8_flush rfl w_954 w_955 w_956 w_100 dX6_execute_109 rfl rfl (Nat.le_of_ble_eq_true rfl) (Nat.le_of_ble_eq_true rfl) (Nat.le_of_ble_eq_true rfl) (Nat.le_of_ble_eq_true rfl) rfl (fun E sh1 I1 A1 hp _ => hp.2.elim) (fun ro sh_ I_16 A_17 hp hle => ?_)
    obtain ⟨rfl, r_18, rfl, h⟩ := hp
    refine g_pop (n := 113) dX6_execute_112 rfl rfl ?_
    refine g_goto 160 dX6_execute_113 (by decide) ?_
    exact g_vret rfl dX6_execute_160 ⟨rfl, rfl, h⟩
  by_cases hc4 : (p1).toInt = 4
  · have h := h.2.2.2.2.1 hc4
    refine g_tableIn 116 dX6_execute_17 (by rw [hc4]; decide) (by rw [hc4]; decide) (by rw [hc4]; rfl) (by decide) ?_
    refine g_aload_n (n := 117) dX6_execute_116 rfl rfl rfl ?_
    refine g_callV (n := 120) (as := []) (bc' := 0) (bs' := 0) sC_8 vc_12 (ctX8_commit h) okX8_commit rfl w_962 w_963 w_964 w_100 dX6_execute_117 rfl rfl (Nat.le_of_ble_eq_true rfl) (Nat.le_of_ble_eq_true rfl) (Nat.le_of_ble_eq_true rfl) (Nat.le_of_ble_eq_true rfl) rfl (fun E sh1 I1 A1 hp _ => hp.2.elim) (fun ro sh_ I_19 A_20 hp hle => ?_)
    obtain ⟨rfl, r_21, rfl, h⟩ := hp
    refine g_pop (n := 121) dX6_execute_120 rfl rfl ?_
    refine g_goto 160 dX6_execute_121 (by decide) ?_
    exact g_vret rfl dX6_execute_160 ⟨rfl, rfl, h⟩
  by_cases hc5 : (p1).toInt = 5
  · have h := h.2.2.2.2.2.1 hc5
    refine g_tableIn 124 dX6_execute_17 (by rw [hc5]; decide) (by rw [hc5]; decide) (by rw [hc5]; rfl) (by decide) ?_
    refine g_aload_n (n := 125) dX6_execute_124 rfl rfl rfl ?_
    refine g_callV (n := 128) (as := []) (bc' := 0) (bs' := 0) sC_8 vc_12 (ctX8_abandon h) okX8_abandon rfl w_979 w_980 w_981 w_100 dX6_execute_125 rfl rfl (Nat.le_of_ble_eq_true rfl) (Nat.le_of_ble_eq_true rfl) (Nat.le_of_ble_eq_true rfl) (Nat.le_of_ble_eq_true rfl) rfl (fun E sh1 I1 A1 hp _ => hp.2.elim) (fun ro sh_ I_22 A_23 hp hle => ?_)
    obtain ⟨rfl, r_24, rfl, h⟩ := hp
    refine g_pop (n := 129) dX6_execute_128 rfl rfl ?_
    refine g_goto 160 dX6_execute_129 (by decide) ?_
    exact g_vret rfl dX6_execute_160 ⟨rfl, rfl, h⟩
  by_cases hc6 : (p1).toInt = 6
  · have h := h.2.2.2.2.2.2.1 hc6
    refine g_tableIn 132 dX6_execute_17 (by rw [hc6]; decide) (by rw [hc6]; decide) (by rw [hc6]; rfl) (by decide) ?_
    refine g_aload_n (n := 133) dX6_execute_132 rfl rfl rfl ?_
    refine g_callV (n := 136) (as := []) (bc' := 0) (bs' := 0) sC_8 vc_12 (ctX8_crashAll h) okX8_crashAll rfl w_983 w_744 w_745 w_100 dX6_execute_133 rfl rfl (Nat.le_of_ble_eq_true rfl) (Nat.le_of_ble_eq_true rfl) (Nat.le_of_ble_eq_true rfl) (Nat.le_of_ble_eq_true rfl) rfl (fun E sh1 I1 A1 hp _ => hp.2.elim) (fun ro sh_ I_25 A_26 hp hle => ?_)
    obtain ⟨rfl, r_27, rfl, h⟩ := hp
    refine g_pop (n := 137) dX6_execute_136 rfl rfl ?_
    refine g_goto 160 dX6_execute_137 (by decide) ?_
    exact g_vret rfl dX6_execute_160 ⟨rfl, rfl, h⟩
  by_cases hc7 : (p1).toInt = 7
  · have h := h.2.2.2.2.2.2.2.1 hc7
    refine g_tableIn 140 dX6_execute_17 (by rw [hc7]; decide) (by rw [hc7]; decide) (by rw [hc7]; rfl) (by decide) ?_
    refine g_aload_n (n := 141) dX6_execute_140 rfl rfl rfl ?_
    refine g_aload_n (n := 142) dX6_execute_141 rfl rfl rfl ?_
    refine g_getR (n := 145) (k := 1) dX6_execute_142 sC_6 vc_10 (Nat.le_of_ble_eq_true rfl) rfl w_219 rfl ?_
    refine g_iconst (n := 146) (v := (nI 0)) dX6_execute_145 rfl rfl ?_
    refine g_ialdJ (n := 147) (j := 0) (x := (A_2 7 0)) dX6_execute_146 sC_7 rfl (Nat.le_of_ble_eq_true rfl) (by decide) rfl rfl ?_
    refine g_callV (n := 150) (as := [.int (A_2 7 0)]) (bc' := 0) (bs' := 0) sC_8 vc_12 (ctX8_restore h) okX8_restore rfl w_984 w_749 w_750 w_100 dX6_execute_147 rfl rfl (Nat.le_of_ble_eq_true rfl) (Nat.le_of_ble_eq_true rfl) (Nat.le_of_ble_eq_true rfl) (Nat.le_of_ble_eq_true rfl) rfl (fun E sh1 I1 A1 hp _ => hp.2.elim) (fun ro sh_ I_28 A_29 hp hle => ?_)
    obtain ⟨rfl, r_30, rfl, h⟩ := hp
    refine g_pop (n := 151) dX6_execute_150 rfl rfl ?_
    refine g_goto 160 dX6_execute_151 (by decide) ?_
    exact g_vret rfl dX6_execute_160 ⟨rfl, rfl, h⟩
  have hc : (p1).toInt < 0 ∨ 7 < (p1).toInt := by omega
  have h := h.2.2.2.2.2.2.2.2 hc
  refine g_tableOut 154 dX6_execute_17 hc (by decide) ?_
  refine g_aload_n (n := 155) dX6_execute_154 rfl rfl rfl ?_
  refine g_iload_n (n := 156) dX6_execute_155 rfl rfl rfl ?_
  refine g_callV (n := 159) (as := [.int r_3]) (bc' := 0) (bs' := 0) sC_8 vc_12 (ctX8_evict h) okX8_evict rfl w_985 w_909 w_910 w_100 dX6_execute_156 rfl rfl (Nat.le_of_ble_eq_true rfl) (Nat.le_of_ble_eq_true rfl) (Nat.le_of_ble_eq_true rfl) (Nat.le_of_ble_eq_true rfl) rfl (fun E sh1 I1 A1 hp _ => hp.2.elim) (fun ro sh_ I_4 A_5 hp hle => ?_)
  obtain ⟨rfl, r_6, rfl, h⟩ := hp
  refine g_pop (n := 160) dX6_execute_159 rfl rfl ?_
  exact g_vret rfl dX6_execute_160 ⟨rfl, rfl, h⟩
def wjX6_runOn_61 (K : Int32 → ab_F → ab_F → Prop)  (I A : ab_F) : Prop := K ((-1 : Int32) - (I 1 2)) I A
def wlX6_runOn_9 (K : Int32 → ab_F → ab_F → Prop) : Nat → Int32 → ab_F → ab_F → Prop
  | 0, _, _, _ => False
  | n + 1, x2, I, A => (((nI 400) < x2 → K ((-1 : Int32) - (I 1 2)) I A) ∧ (¬ (nI 400) < x2 → ((¬ (I 1 4) = 0 → (∀ y_3 : Int32, y_3 = (I 1 2) → wX6_operationHere (fun r_6 I_4 A_5 => ((r_6 = (-1 : Int32) → wjX6_runOn_61 K  I_4 A_5) ∧ (¬ r_6 = (-1 : Int32) → (∃ j_7 : Nat, r_6 = nI j_7 ∧ j_7 < 9 ∧ wX6_readOperands (fun r_10 I_8 A_9 => ((¬ r_10 = 0 → wX6_refusal (fun r_13 I_11 A_12 => ((r_13 = 0 → wX6_execute (fun I_14 A_15 => wX10_nextToken (fun I_16 A_17 => (wlX6_runOn_9 K n) (x2 + nI 1) I_16 A_17) I_14 A_15 ) I_11 A_12 r_6) ∧ (¬ r_13 = 0 → K ((-1 : Int32) - y_3) I_11 A_12))) I_8 A_9 r_6) ∧ (r_10 = 0 → wjX6_runOn_61 K  I_8 A_9))) I_4 A_5 (ab_stv 0 j_7))))) I A )) ∧ ((I 1 4) = 0 → K x2 I A))))
def wX6_runOn (K : Int32 → ab_F → ab_F → Prop) (I A : ab_F)  : Prop := wX10_firstToken (fun I_1 A_2 => (∃ nf : Nat, wlX6_runOn_9 K nf (nI 0) I_1 A_2)) I A 
set_option maxRecDepth 20000 in
theorem tjX6_runOn_61 {C : ab_X} {Z : ab_Z} {K : Int32 → ab_F → ab_F → Prop}  (I A : ab_F) (h : wjX6_runOn_61 K  I A) : ab_G mX6_runOn 8 C (ab_Px (shC Z) ab_no (ab_ri K)) 61 [some (.ref 6), none, none, none, none] [] (shC Z) I A 0 0 := by
  unfold wjX6_runOn_61 at h
  refine g_iconst (n := 62) (v := (-1 : Int32)) dX6_runOn_61 rfl rfl ?_
  refine g_aload_n (n := 63) dX6_runOn_62 rfl rfl rfl ?_
  refine g_getR (n := 66) (k := 0) dX6_runOn_63 sC_6 vc_10 (Nat.le_of_ble_eq_true rfl) rfl w_218 rfl ?_
  refine g_getIE (n := 69) (k := 2) (x := (I 1 2)) dX6_runOn_66 sC_1 vc_14 (Nat.le_of_ble_eq_true rfl) rfl w_151 rfl rfl ?_
  refine g_isub (n := 70) dX6_runOn_69 rfl ?_
  exact g_iret rfl rfl dX6_runOn_70 ⟨rfl, _, rfl, h⟩
set_option maxRecDepth 20000 in
theorem tlX6_runOn_9 {C : ab_X} {Z : ab_Z} {K : Int32 → ab_F → ab_F → Prop} : ∀ (n : Nat) (x2 : Int32) (I A : ab_F), wlX6_runOn_9 K n x2 I A → ab_G mX6_runOn 8 C (ab_Px (shC Z) ab_no (ab_ri K)) 9 [some (.ref 6), some (.ref 8), some (.int x2), none, none] [] (shC Z) I A 0 0 := by
  intro n
  induction n with
  | zero => intro x2 I A h; exact h.elim
  | succ n hL9 =>
    intro x2 I A h
    rw [wlX6_runOn_9] at h
    refine g_iload_n (n := 10) dX6_runOn_9 rfl rfl rfl ?_
    refine g_sipush (n := 13) (v := (nI 400)) dX6_runOn_10 rfl rfl ?_
    refine g_icmp_gt (n := 16) 105 dX6_runOn_13 (by decide) rfl (fun hc => ?_) (fun hc => ?_)
    · have h := h.1 hc
      refine g_iconst (n := 106) (v := (-1 : Int32)) dX6_runOn_105 rfl rfl ?_
      refine g_aload_n (n := 107) dX6_runOn_106 rfl rfl rfl ?_
      refine g_getR (n := 110) (k := 0) dX6_runOn_107 sC_6 vc_10 (Nat.le_of_ble_eq_true rfl) rfl w_218 rfl ?_
      refine g_getIE (n := 113) (k := 2) (x := (I 1 2)) dX6_runOn_110 sC_1 vc_14 (Nat.le_of_ble_eq_true rfl) rfl w_151 rfl rfl ?_
      refine g_isub (n := 114) dX6_runOn_113 rfl ?_
      exact g_iret rfl rfl dX6_runOn_114 ⟨rfl, _, rfl, h⟩
    · have h := h.2 hc
      refine g_aload_n (n := 17) dX6_runOn_16 rfl rfl rfl ?_
      refine g_getR (n := 20) (k := 0) dX6_runOn_17 sC_6 vc_10 (Nat.le_of_ble_eq_true rfl) rfl w_218 rfl ?_
      refine g_getIE (n := 23) (k := 4) (x := (I 1 4)) dX6_runOn_20 sC_1 vc_14 (Nat.le_of_ble_eq_true rfl) rfl w_155 rfl rfl ?_
      refine g_if_ne (n := 26) 28 dX6_runOn_23 (by decide) rfl (fun hc => ?_) (fun hc => ?_)
      · have h := h.1 hc
        refine g_aload_n (n := 29) dX6_runOn_28 rfl rfl rfl ?_
        refine g_getR (n := 32) (k := 0) dX6_runOn_29 sC_6 vc_10 (Nat.le_of_ble_eq_true rfl) rfl w_218 rfl ?_
        refine g_getIE (n := 35) (k := 2) (x := (I 1 2)) dX6_runOn_32 sC_1 vc_14 (Nat.le_of_ble_eq_true rfl) rfl w_151 rfl rfl ?_
        refine g_topi (fun y_3 ey_3 => ?_)
        have h := h y_3 ey_3
        refine g_istore_n (n := 36) (ls' := [some (.ref 6), some (.ref 8), some (.int x2), some (.int y_3), none]) dX6_runOn_35 rfl rfl (Nat.le_of_ble_eq_true rfl) (Nat.le_of_ble_eq_true rfl) rfl rfl ?_
        refine g_aload_n (n := 37) dX6_runOn_36 rfl rfl rfl ?_
        refine g_callV (n := 40) (as := []) (bc' := 0) (bs' := 0) sC_6 vc_10 (ctX6_operationHere h) okX6_operationHere rfl w_780 w_782 w_8 w_99 dX6_runOn_37 rfl rfl (Nat.le_of_ble_eq_true rfl) (Nat.le_of_ble_eq_true rfl) (Nat.le_of_ble_eq_true rfl) (Nat.le_of_ble_eq_true rfl) rfl (fun E sh1 I1 A1 hp _ => hp.2.elim) (fun ro sh_ I_4 A_5 hp hle => ?_)
        obtain ⟨rfl, r_6, rfl, h⟩ := hp
        refine g_istore (n := 42) (ls' := [some (.ref 6), some (.ref 8), some (.int x2), some (.int y_3), some (.int r_6)]) dX6_runOn_40 rfl (Nat.le_of_ble_eq_true rfl) (Nat.le_of_ble_eq_true rfl) rfl rfl ?_
        refine g_iload (n := 44) dX6_runOn_42 rfl rfl ?_
        refine g_iconst (n := 45) (v := (-1 : Int32)) dX6_runOn_44 rfl rfl ?_
        refine g_icmp_eq (n := 48) 61 dX6_runOn_45 (by decide) rfl (fun hc => ?_) (fun hc => ?_)
        · have h := h.1 hc
          refine g_forget (ls' := [some (.ref 6), none, none, none, none]) (ab_fg rfl) ?_
          refine g_less (bc' := 0) (bs' := 0) (Nat.le_of_ble_eq_true rfl) (Nat.le_of_ble_eq_true rfl) ?_
          exact tjX6_runOn_61   _ _ h
        · have h := h.2 hc
          refine g_aload_n (n := 49) dX6_runOn_48 rfl rfl rfl ?_
          refine g_kstaN (n := 52) (i := 0) rfl dX6_runOn_49 (ab_ngm 11 rfl) rfl ?_
          refine g_iload (n := 54) dX6_runOn_52 rfl rfl ?_
          obtain ⟨j_7, hj, hl, h⟩ := h
          refine g_kstai (n := 55) (j := j_7) (ab_stq (i := 0) (by decide)) rfl dX6_runOn_54 hj hl (by decide) rfl ?_
          refine g_callV (n := 58) (as := [.int (ab_stv 0 j_7)]) (bc' := 0) (bs' := 0) sC_6 vc_10 (ctX6_readOperands h) okX6_readOperands rfl w_796 w_798 w_9 w_99 dX6_runOn_55 rfl rfl (Nat.le_of_ble_eq_true rfl) (Nat.le_of_ble_eq_true rfl) (Nat.le_of_ble_eq_true rfl) (Nat.le_of_ble_eq_true rfl) rfl (fun E sh1 I1 A1 hp _ => hp.2.elim) (fun ro sh_ I_8 A_9 hp hle => ?_)
          obtain ⟨rfl, r_10, rfl, h⟩ := hp
          refine g_if_ne (n := 61) 71 dX6_runOn_58 (by decide) rfl (fun hc => ?_) (fun hc => ?_)
          · have h := h.1 hc
            refine g_aload_n (n := 72) dX6_runOn_71 rfl rfl rfl ?_
            refine g_aload_n (n := 73) dX6_runOn_72 rfl rfl rfl ?_
            refine g_iload (n := 75) dX6_runOn_73 rfl rfl ?_
            refine g_callV (n := 78) (as := [.ref 8, .int r_6]) (bc' := 0) (bs' := 0) sC_6 vc_10 (ctX6_refusal h) okX6_refusal rfl w_802 w_804 w_10 w_99 dX6_runOn_75 rfl rfl (Nat.le_of_ble_eq_true rfl) (Nat.le_of_ble_eq_true rfl) (Nat.le_of_ble_eq_true rfl) (Nat.le_of_ble_eq_true rfl) rfl (fun E sh1 I1 A1 hp _ => hp.2.elim) (fun ro sh_ I_11 A_12 hp hle => ?_)
            obtain ⟨rfl, r_13, rfl, h⟩ := hp
            refine g_if_eq (n := 81) 85 dX6_runOn_78 (by decide) rfl (fun hc => ?_) (fun hc => ?_)
            · have h := h.1 hc
              refine g_aload_n (n := 86) dX6_runOn_85 rfl rfl rfl ?_
              refine g_aload_n (n := 87) dX6_runOn_86 rfl rfl rfl ?_
              refine g_iload (n := 89) dX6_runOn_87 rfl rfl ?_
              refine g_callV (n := 92) (as := [.ref 8, .int r_6]) (bc' := 0) (bs' := 0) sC_6 vc_10 (ctX6_execute h) okX6_execute rfl w_895 w_897 w_14 w_99 dX6_runOn_89 rfl rfl (Nat.le_of_ble_eq_true rfl) (Nat.le_of_ble_eq_true rfl) (Nat.le_of_ble_eq_true rfl) (Nat.le_of_ble_eq_true rfl) rfl (fun E sh1 I1 A1 hp _ => hp.2.elim) (fun ro sh_ I_14 A_15 hp hle => ?_)
              obtain ⟨rfl, rfl, h⟩ := hp
              refine g_aload_n (n := 93) dX6_runOn_92 rfl rfl rfl ?_
              refine g_getR (n := 96) (k := 0) dX6_runOn_93 sC_6 vc_10 (Nat.le_of_ble_eq_true rfl) rfl w_218 rfl ?_
              refine g_callV (n := 99) (as := []) (bc' := 0) (bs' := 0) sC_1 vc_14 (ctX10_nextToken h) okX10_nextToken rfl w_800 w_570 w_571 w_97 dX6_runOn_96 rfl rfl (Nat.le_of_ble_eq_true rfl) (Nat.le_of_ble_eq_true rfl) (Nat.le_of_ble_eq_true rfl) (Nat.le_of_ble_eq_true rfl) rfl (fun E sh1 I1 A1 hp _ => hp.2.elim) (fun ro sh_ I_16 A_17 hp hle => ?_)
              obtain ⟨rfl, rfl, h⟩ := hp
              refine g_iinc (n := 102) (v := (x2 + nI 1)) (ls' := [some (.ref 6), some (.ref 8), some (.int (x2 + nI 1)), some (.int y_3), some (.int r_6)]) dX6_runOn_99 rfl rfl rfl (Nat.le_of_ble_eq_true rfl) rfl rfl ?_
              refine g_goto 9 dX6_runOn_102 (by decide) ?_
              refine g_forget (ls' := [some (.ref 6), some (.ref 8), some (.int (x2 + nI 1)), none, none]) (ab_fg rfl) ?_
              exact hL9 _ _ _ h
            · have h := h.2 hc
              refine g_iconst (n := 82) (v := (-1 : Int32)) dX6_runOn_81 rfl rfl ?_
              refine g_iload_n (n := 83) dX6_runOn_82 rfl rfl rfl ?_
              refine g_isub (n := 84) dX6_runOn_83 rfl ?_
              exact g_iret rfl rfl dX6_runOn_84 ⟨rfl, _, rfl, h⟩
          · have h := h.2 hc
            refine g_forget (ls' := [some (.ref 6), none, none, none, none]) (ab_fg rfl) ?_
            refine g_less (bc' := 0) (bs' := 0) (Nat.le_of_ble_eq_true rfl) (Nat.le_of_ble_eq_true rfl) ?_
            exact tjX6_runOn_61   _ _ h
      · have h := h.2 hc
        refine g_iload_n (n := 27) dX6_runOn_26 rfl rfl rfl ?_
        exact g_iret rfl rfl dX6_runOn_27 ⟨rfl, _, rfl, h⟩
set_option maxRecDepth 20000 in
theorem ctX6_runOn {Z : ab_Z} {K : Int32 → ab_F → ab_F → Prop} {I A : ab_F}  (h : wX6_runOn K I A ) : ab_Cl mX6_runOn 8 0 0 [.ref 6, .ref 8] (shC Z) I A (ab_Px (shC Z) ab_no (ab_ri K)) := by
  refine ab_enter (ls := [some (.ref 6), some (.ref 8), none, none, none]) (by decide +kernel) (Nat.le_of_ble_eq_true rfl) rfl (fun C => ?_)
  unfold wX6_runOn at h
  refine g_aload_n (n := 1) dX6_runOn_0 rfl rfl rfl ?_
  refine g_getR (n := 4) (k := 0) dX6_runOn_1 sC_6 vc_10 (Nat.le_of_ble_eq_true rfl) rfl w_218 rfl ?_
  refine g_callV (n := 7) (as := []) (bc' := 0) (bs' := 0) sC_1 vc_14 (ctX10_firstToken h) okX10_firstToken rfl w_779 w_566 w_567 w_97 dX6_runOn_4 rfl rfl (Nat.le_of_ble_eq_true rfl) (Nat.le_of_ble_eq_true rfl) (Nat.le_of_ble_eq_true rfl) (Nat.le_of_ble_eq_true rfl) rfl (fun E sh1 I1 A1 hp _ => hp.2.elim) (fun ro sh_ I_1 A_2 hp hle => ?_)
  obtain ⟨rfl, rfl, h⟩ := hp
  refine g_iconst (n := 8) (v := (nI 0)) dX6_runOn_7 rfl rfl ?_
  refine g_istore_n (n := 9) (ls' := [some (.ref 6), some (.ref 8), some (.int (nI 0)), none, none]) dX6_runOn_8 rfl rfl (Nat.le_of_ble_eq_true rfl) (Nat.le_of_ble_eq_true rfl) rfl rfl ?_
  refine g_less (bc' := 0) (bs' := 0) (Nat.le_of_ble_eq_true rfl) (Nat.le_of_ble_eq_true rfl) ?_
  obtain ⟨n_f, h⟩ := h
  exact tlX6_runOn_9  n_f _ _ _ h
def wlX7_install_15 (K : ab_F → ab_F → Prop) : Nat → Int32 → ab_F → ab_F → Prop
  | 0, _, _, _ => False
  | n + 1, x2, I, A => (((nI 48) ≤ x2 → K I A) ∧ (¬ (nI 48) ≤ x2 → (∃ j_1 : Nat, x2 = nI j_1 ∧ j_1 < 48 ∧ (∃ j_2 : Nat, x2 = nI j_2 ∧ j_2 < 48 ∧ (∃ j_3 : Nat, x2 = nI j_3 ∧ j_3 < 48 ∧ (wlX7_install_15 K n) (x2 + nI 1) I (wr (wr (wr A 21 j_1 (nI 0)) 22 j_2 (-1 : Int32)) 23 j_3 (-1 : Int32)))))))
def wX7_install (K : ab_F → ab_F → Prop) (I A : ab_F)  : Prop := (∃ nf : Nat, wlX7_install_15 K nf (nI 0) (wr (wr I 20 0 (I 3 4)) 20 1 (nI 0)) A)
set_option maxRecDepth 20000 in
theorem tlX7_install_15 {C : ab_X} {Z : ab_Z} {K : ab_F → ab_F → Prop} : ∀ (n : Nat) (x2 : Int32) (I A : ab_F), wlX7_install_15 K n x2 I A → ab_G mX7_install 0 C (ab_Px (shC Z) ab_no (ab_rv K)) 15 [some (.ref 20), none, some (.int x2)] [] (shC Z) I A 0 0 := by
  intro n
  induction n with
  | zero => intro x2 I A h; exact h.elim
  | succ n hL15 =>
    intro x2 I A h
    rw [wlX7_install_15] at h
    refine g_iload_n (n := 16) dX7_install_15 rfl rfl rfl ?_
    refine g_bipush (n := 18) (v := (nI 48)) dX7_install_16 rfl rfl ?_
    refine g_icmp_ge (n := 21) 48 dX7_install_18 (by decide) rfl (fun hc => ?_) (fun hc => ?_)
    · have h := h.1 hc
      exact g_vret rfl dX7_install_48 ⟨rfl, rfl, h⟩
    · have h := h.2 hc
      refine g_aload_n (n := 22) dX7_install_21 rfl rfl rfl ?_
      refine g_getR (n := 25) (k := 2) dX7_install_22 sC_20 vc_11 (Nat.le_of_ble_eq_true rfl) rfl w_314 rfl ?_
      refine g_iload_n (n := 26) dX7_install_25 rfl rfl rfl ?_
      refine g_iconst (n := 27) (v := (nI 0)) dX7_install_26 rfl rfl ?_
      obtain ⟨j_1, hj, hl, h⟩ := h
      refine g_iastJ (n := 28) (j := j_1) dX7_install_27 sC_21 hj hl (by decide) rfl ?_
      refine g_aload_n (n := 29) dX7_install_28 rfl rfl rfl ?_
      refine g_getR (n := 32) (k := 3) dX7_install_29 sC_20 vc_11 (Nat.le_of_ble_eq_true rfl) rfl w_317 rfl ?_
      refine g_iload_n (n := 33) dX7_install_32 rfl rfl rfl ?_
      refine g_iconst (n := 34) (v := (-1 : Int32)) dX7_install_33 rfl rfl ?_
      obtain ⟨j_2, hj, hl, h⟩ := h
      refine g_iastJ (n := 35) (j := j_2) dX7_install_34 sC_22 hj hl (by decide) rfl ?_
      refine g_aload_n (n := 36) dX7_install_35 rfl rfl rfl ?_
      refine g_getR (n := 39) (k := 4) dX7_install_36 sC_20 vc_11 (Nat.le_of_ble_eq_true rfl) rfl w_319 rfl ?_
      refine g_iload_n (n := 40) dX7_install_39 rfl rfl rfl ?_
      refine g_iconst (n := 41) (v := (-1 : Int32)) dX7_install_40 rfl rfl ?_
      obtain ⟨j_3, hj, hl, h⟩ := h
      refine g_iastJ (n := 42) (j := j_3) dX7_install_41 sC_23 hj hl (by decide) rfl ?_
      refine g_iinc (n := 45) (v := (x2 + nI 1)) (ls' := [some (.ref 20), none, some (.int (x2 + nI 1))]) dX7_install_42 rfl rfl rfl (Nat.le_of_ble_eq_true rfl) rfl rfl ?_
      refine g_goto 15 dX7_install_45 (by decide) ?_
      exact hL15 _ _ _ h
set_option maxRecDepth 20000 in
theorem ctX7_install {Z : ab_Z} {K : ab_F → ab_F → Prop} {I A : ab_F}  (h : wX7_install K I A ) : ab_Cl mX7_install 0 0 0 [.ref 20, .ref 3] (shC Z) I A (ab_Px (shC Z) ab_no (ab_rv K)) := by
  refine ab_enter (ls := [some (.ref 20), some (.ref 3), none]) (by decide +kernel) (Nat.le_of_ble_eq_true rfl) rfl (fun C => ?_)
  unfold wX7_install at h
  refine g_aload_n (n := 1) dX7_install_0 rfl rfl rfl ?_
  refine g_aload_n (n := 2) dX7_install_1 rfl rfl rfl ?_
  refine g_getIE (n := 5) (k := 4) (x := (I 3 4)) dX7_install_2 sC_3 vc_13 (Nat.le_of_ble_eq_true rfl) rfl w_184 rfl rfl ?_
  refine g_putI (n := 8) (k := 0) dX7_install_5 sC_20 vc_11 (Nat.le_of_ble_eq_true rfl) rfl w_309 rfl rfl rfl rfl rfl ?_
  refine g_aload_n (n := 9) dX7_install_8 rfl rfl rfl ?_
  refine g_iconst (n := 10) (v := (nI 0)) dX7_install_9 rfl rfl ?_
  refine g_putI (n := 13) (k := 1) dX7_install_10 sC_20 vc_11 (Nat.le_of_ble_eq_true rfl) rfl w_312 rfl rfl rfl rfl rfl ?_
  refine g_iconst (n := 14) (v := (nI 0)) dX7_install_13 rfl rfl ?_
  refine g_istore_n (n := 15) (ls' := [some (.ref 20), some (.ref 3), some (.int (nI 0))]) dX7_install_14 rfl rfl (Nat.le_of_ble_eq_true rfl) (Nat.le_of_ble_eq_true rfl) rfl rfl ?_
  refine g_forget (ls' := [some (.ref 20), none, some (.int (nI 0))]) (ab_fg rfl) ?_
  refine g_less (bc' := 0) (bs' := 0) (Nat.le_of_ble_eq_true rfl) (Nat.le_of_ble_eq_true rfl) ?_
  obtain ⟨n_f, h⟩ := h
  exact tlX7_install_15  n_f _ _ _ h
def wX7_hasSlot (K : Int32 → ab_F → ab_F → Prop) (I A : ab_F) (p0 : Int32) : Prop := ((p0 < 0 → K (nI 0) I A) ∧ (¬ p0 < 0 → (((I 20 0) ≤ p0 → K (nI 0) I A) ∧ (¬ (I 20 0) ≤ p0 → K (nI 1) I A))))
set_option maxRecDepth 20000 in
theorem ctX7_hasSlot {Z : ab_Z} {K : Int32 → ab_F → ab_F → Prop} {I A : ab_F} {p0 : Int32} (h : wX7_hasSlot K I A p0) : ab_Cl mX7_hasSlot 0 0 0 [.ref 20, .int p0] (shC Z) I A (ab_Px (shC Z) ab_no (ab_ri K)) := by
  refine ab_enter (ls := [some (.ref 20), some (.int p0)]) (by decide +kernel) (Nat.le_of_ble_eq_true rfl) rfl (fun C => ?_)
  unfold wX7_hasSlot at h
  refine g_iload_n (n := 1) dX7_hasSlot_0 rfl rfl rfl ?_
  refine g_if_lt (n := 4) 16 dX7_hasSlot_1 (by decide) rfl (fun hc => ?_) (fun hc => ?_)
  · have h := h.1 hc
    refine g_iconst (n := 17) (v := (nI 0)) dX7_hasSlot_16 rfl rfl ?_
    exact g_iret rfl rfl dX7_hasSlot_17 ⟨rfl, _, rfl, h⟩
  · have h := h.2 hc
    refine g_iload_n (n := 5) dX7_hasSlot_4 rfl rfl rfl ?_
    refine g_aload_n (n := 6) dX7_hasSlot_5 rfl rfl rfl ?_
    refine g_getIE (n := 9) (k := 0) (x := (I 20 0)) dX7_hasSlot_6 sC_20 vc_11 (Nat.le_of_ble_eq_true rfl) rfl w_309 rfl rfl ?_
    refine g_icmp_ge (n := 12) 16 dX7_hasSlot_9 (by decide) rfl (fun hc => ?_) (fun hc => ?_)
    · have h := h.1 hc
      refine g_iconst (n := 17) (v := (nI 0)) dX7_hasSlot_16 rfl rfl ?_
      exact g_iret rfl rfl dX7_hasSlot_17 ⟨rfl, _, rfl, h⟩
    · have h := h.2 hc
      refine g_iconst (n := 13) (v := (nI 1)) dX7_hasSlot_12 rfl rfl ?_
      refine g_goto 17 dX7_hasSlot_13 (by decide) ?_
      exact g_iret rfl rfl dX7_hasSlot_17 ⟨rfl, _, rfl, h⟩
def wX8_install (K : ab_F → ab_F → Prop) (I A : ab_F)  : Prop := wX4_install (fun I_1 A_2 => wX2_install (fun I_3 A_4 => wX7_install (fun I_5 A_6 => wX1_install (fun I_7 A_8 => wX0_install (fun I_9 A_10 => K (wr I_9 8 5 (nI 0)) A_10) I_7 A_8 ) I_5 A_6 ) I_3 A_4 ) I_1 A_2 ) I A 
set_option maxRecDepth 20000 in
theorem ctX8_install {Z : ab_Z} {K : ab_F → ab_F → Prop} {I A : ab_F}  (h : wX8_install K I A ) : ab_Cl mX8_install 2 0 0 [.ref 8, .ref 3] (shC Z) I A (ab_Px (shC Z) ab_no (ab_rv K)) := by
  refine ab_enter (ls := [some (.ref 8), some (.ref 3)]) (by decide +kernel) (Nat.le_of_ble_eq_true rfl) rfl (fun C => ?_)
  unfold wX8_install at h
  refine g_aload_n (n := 1) dX8_install_0 rfl rfl rfl ?_
  refine g_getR (n := 4) (k := 0) dX8_install_1 sC_8 vc_12 (Nat.le_of_ble_eq_true rfl) rfl w_399 rfl ?_
  refine g_aload_n (n := 5) dX8_install_4 rfl rfl rfl ?_
  refine g_callV (n := 8) (as := [.ref 3]) (bc' := 0) (bs' := 0) sC_9 vc_8 (ctX4_install h) okX4_install rfl w_431 w_432 w_433 w_101 dX8_install_5 rfl rfl (Nat.le_of_ble_eq_true rfl) (Nat.le_of_ble_eq_true rfl) (Nat.le_of_ble_eq_true rfl) (Nat.le_of_ble_eq_true rfl) rfl (fun E sh1 I1 A1 hp _ => hp.2.elim) (fun ro sh_ I_1 A_2 hp hle => ?_)
  obtain ⟨rfl, rfl, h⟩ := hp
  refine g_aload_n (n := 9) dX8_install_8 rfl rfl rfl ?_
  refine g_getR (n := 12) (k := 1) dX8_install_9 sC_8 vc_12 (Nat.le_of_ble_eq_true rfl) rfl w_401 rfl ?_
  refine g_aload_n (n := 13) dX8_install_12 rfl rfl rfl ?_
  refine g_callV (n := 16) (as := [.ref 3]) (bc' := 0) (bs' := 0) sC_16 vc_6 (ctX2_install h) okX2_install rfl w_435 w_436 w_437 w_102 dX8_install_13 rfl rfl (Nat.le_of_ble_eq_true rfl) (Nat.le_of_ble_eq_true rfl) (Nat.le_of_ble_eq_true rfl) (Nat.le_of_ble_eq_true rfl) rfl (fun E sh1 I1 A1 hp _ => hp.2.elim) (fun ro sh_ I_3 A_4 hp hle => ?_)
  obtain ⟨rfl, rfl, h⟩ := hp
  refine g_aload_n (n := 17) dX8_install_16 rfl rfl rfl ?_
  refine g_getR (n := 20) (k := 2) dX8_install_17 sC_8 vc_12 (Nat.le_of_ble_eq_true rfl) rfl w_403 rfl ?_
  refine g_aload_n (n := 21) dX8_install_20 rfl rfl rfl ?_
  refine g_callV (n := 24) (as := [.ref 3]) (bc' := 0) (bs' := 0) sC_20 vc_11 (ctX7_install h) okX7_install rfl w_439 w_440 w_441 w_103 dX8_install_21 rfl rfl (Nat.le_of_ble_eq_true rfl) (Nat.le_of_ble_eq_true rfl) (Nat.le_of_ble_eq_true rfl) (Nat.le_of_ble_eq_true rfl) rfl (fun E sh1 I1 A1 hp _ => hp.2.elim) (fun ro sh_ I_5 A_6 hp hle => ?_)
  obtain ⟨rfl, rfl, h⟩ := hp
  refine g_aload_n (n := 25) dX8_install_24 rfl rfl rfl ?_
  refine g_getR (n := 28) (k := 3) dX8_install_25 sC_8 vc_12 (Nat.le_of_ble_eq_true rfl) rfl w_405 rfl ?_
  refine g_callV (n := 31) (as := []) (bc' := 0) (bs' := 0) sC_24 vc_5 (ctX1_install h) okX1_install rfl w_443 w_444 w_445 w_104 dX8_install_28 rfl rfl (Nat.le_of_ble_eq_true rfl) (Nat.le_of_ble_eq_true rfl) (Nat.le_of_ble_eq_true rfl) (Nat.le_of_ble_eq_true rfl) rfl (fun E sh1 I1 A1 hp _ => hp.2.elim) (fun ro sh_ I_7 A_8 hp hle => ?_)
  obtain ⟨rfl, rfl, h⟩ := hp
  refine g_aload_n (n := 32) dX8_install_31 rfl rfl rfl ?_
  refine g_getR (n := 35) (k := 4) dX8_install_32 sC_8 vc_12 (Nat.le_of_ble_eq_true rfl) rfl w_407 rfl ?_
  refine g_callV (n := 38) (as := []) (bc' := 0) (bs' := 0) sC_29 vc_4 (ctX0_install h) okX0_install rfl w_451 w_452 w_453 w_105 dX8_install_35 rfl rfl (Nat.le_of_ble_eq_true rfl) (Nat.le_of_ble_eq_true rfl) (Nat.le_of_ble_eq_true rfl) (Nat.le_of_ble_eq_true rfl) rfl (fun E sh1 I1 A1 hp _ => hp.2.elim) (fun ro sh_ I_9 A_10 hp hle => ?_)
  obtain ⟨rfl, rfl, h⟩ := hp
  refine g_aload_n (n := 39) dX8_install_38 rfl rfl rfl ?_
  refine g_iconst (n := 40) (v := (nI 0)) dX8_install_39 rfl rfl ?_
  refine g_putI (n := 43) (k := 5) dX8_install_40 sC_8 vc_12 (Nat.le_of_ble_eq_true rfl) rfl w_409 rfl rfl rfl rfl rfl ?_
  exact g_vret rfl dX8_install_43 ⟨rfl, rfl, h⟩
def wlX8_countShared_9 (K : Int32 → ab_F → ab_F → Prop) : Nat → Int32 → Int32 → ab_F → ab_F → Prop
  | 0, _, _, _, _ => False
  | n + 1, x1, x2, I, A => (((I 20 0) ≤ x2 → K x1 I A) ∧ (¬ (I 20 0) ≤ x2 → (∃ j_3 : Nat, x2 = nI j_3 ∧ j_3 < 48 ∧ wJ6_bitCount_0f7a4 (fun r_6 I_4 A_5 => ((r_6 ≤ (nI 1) → (wlX8_countShared_9 K n) x1 (x2 + nI 1) I_4 A_5) ∧ (¬ r_6 ≤ (nI 1) → (wlX8_countShared_9 K n) (x1 + nI 1) (x2 + nI 1) I_4 A_5))) I A (A 31 j_3))))
def wX8_countShared (K : Int32 → ab_F → ab_F → Prop) (I A : ab_F)  : Prop := wX8_markUses (fun I_1 A_2 => (∃ nf : Nat, wlX8_countShared_9 K nf (nI 0) (nI 0) I_1 A_2)) I A 
set_option maxRecDepth 20000 in
theorem tlX8_countShared_9 {C : ab_X} {Z : ab_Z} {K : Int32 → ab_F → ab_F → Prop} : ∀ (n : Nat) (x1 : Int32) (x2 : Int32) (I A : ab_F), wlX8_countShared_9 K n x1 x2 I A → ab_G mX8_countShared 1 C (ab_Px (shC Z) ab_no (ab_ri K)) 9 [some (.ref 8), some (.int x1), some (.int x2)] [] (shC Z) I A 0 0 := by
  intro n
  induction n with
  | zero => intro x1 x2 I A h; exact h.elim
  | succ n hL9 =>
    intro x1 x2 I A h
    rw [wlX8_countShared_9] at h
    refine g_iload_n (n := 10) dX8_countShared_9 rfl rfl rfl ?_
    refine g_aload_n (n := 11) dX8_countShared_10 rfl rfl rfl ?_
    refine g_getR (n := 14) (k := 2) dX8_countShared_11 sC_8 vc_12 (Nat.le_of_ble_eq_true rfl) rfl w_403 rfl ?_
    refine g_getIE (n := 17) (k := 0) (x := (I 20 0)) dX8_countShared_14 sC_20 vc_11 (Nat.le_of_ble_eq_true rfl) rfl w_310 rfl rfl ?_
    refine g_icmp_ge (n := 20) 42 dX8_countShared_17 (by decide) rfl (fun hc => ?_) (fun hc => ?_)
    · have h := h.1 hc
      refine g_iload_n (n := 43) dX8_countShared_42 rfl rfl rfl ?_
      exact g_iret rfl rfl dX8_countShared_43 ⟨rfl, _, rfl, h⟩
    · have h := h.2 hc
      refine g_aload_n (n := 21) dX8_countShared_20 rfl rfl rfl ?_
      refine g_getR (n := 24) (k := 6) dX8_countShared_21 sC_8 vc_12 (Nat.le_of_ble_eq_true rfl) rfl w_411 rfl ?_
      refine g_iload_n (n := 25) dX8_countShared_24 rfl rfl rfl ?_
      obtain ⟨j_3, hj, hl, h⟩ := h
      refine g_ialdJ (n := 26) (j := j_3) (x := (A 31 j_3)) dX8_countShared_25 sC_31 hj hl (by decide) rfl rfl ?_
      refine g_callS (n := 29) (as := [.int (A 31 j_3)]) (bc' := 0) (bs' := 0) (ctJ6_bitCount_0f7a4 h) okJ6_bitCount_0f7a4 w_1013 w_1014 dX8_countShared_26 rfl rfl (Nat.le_of_ble_eq_true rfl) (Nat.le_of_ble_eq_true rfl) (Nat.le_of_ble_eq_true rfl) (Nat.le_of_ble_eq_true rfl) rfl (fun E sh1 I1 A1 hp _ => hp.2.elim) (fun ro sh_ I_4 A_5 hp hle => ?_)
      obtain ⟨rfl, r_6, rfl, h⟩ := hp
      refine g_iconst (n := 30) (v := (nI 1)) dX8_countShared_29 rfl rfl ?_
      refine g_icmp_le (n := 33) 36 dX8_countShared_30 (by decide) rfl (fun hc => ?_) (fun hc => ?_)
      · have h := h.1 hc
        refine g_iinc (n := 39) (v := (x2 + nI 1)) (ls' := [some (.ref 8), some (.int x1), some (.int (x2 + nI 1))]) dX8_countShared_36 rfl rfl rfl (Nat.le_of_ble_eq_true rfl) rfl rfl ?_
        refine g_goto 9 dX8_countShared_39 (by decide) ?_
        exact hL9 _ _ _ _ h
      · have h := h.2 hc
        refine g_iinc (n := 36) (v := (x1 + nI 1)) (ls' := [some (.ref 8), some (.int (x1 + nI 1)), some (.int x2)]) dX8_countShared_33 rfl rfl rfl (Nat.le_of_ble_eq_true rfl) rfl rfl ?_
        refine g_iinc (n := 39) (v := (x2 + nI 1)) (ls' := [some (.ref 8), some (.int (x1 + nI 1)), some (.int (x2 + nI 1))]) dX8_countShared_36 rfl rfl rfl (Nat.le_of_ble_eq_true rfl) rfl rfl ?_
        refine g_goto 9 dX8_countShared_39 (by decide) ?_
        exact hL9 _ _ _ _ h
set_option maxRecDepth 20000 in
theorem ctX8_countShared {Z : ab_Z} {K : Int32 → ab_F → ab_F → Prop} {I A : ab_F}  (h : wX8_countShared K I A ) : ab_Cl mX8_countShared 1 0 0 [.ref 8] (shC Z) I A (ab_Px (shC Z) ab_no (ab_ri K)) := by
  refine ab_enter (ls := [some (.ref 8), none, none]) (by decide +kernel) (Nat.le_of_ble_eq_true rfl) rfl (fun C => ?_)
  unfold wX8_countShared at h
  refine g_aload_n (n := 1) dX8_countShared_0 rfl rfl rfl ?_
  refine g_callV (n := 4) (as := []) (bc' := 0) (bs' := 0) sC_8 vc_12 (ctX8_markUses h) okX8_markUses rfl w_842 w_843 w_844 w_100 dX8_countShared_1 rfl rfl (Nat.le_of_ble_eq_true rfl) (Nat.le_of_ble_eq_true rfl) (Nat.le_of_ble_eq_true rfl) (Nat.le_of_ble_eq_true rfl) rfl (fun E sh1 I1 A1 hp _ => hp.2.elim) (fun ro sh_ I_1 A_2 hp hle => ?_)
  obtain ⟨rfl, rfl, h⟩ := hp
  refine g_pop (n := 5) dX8_countShared_4 rfl rfl ?_
  refine g_iconst (n := 6) (v := (nI 0)) dX8_countShared_5 rfl rfl ?_
  refine g_istore_n (n := 7) (ls' := [some (.ref 8), some (.int (nI 0)), none]) dX8_countShared_6 rfl rfl (Nat.le_of_ble_eq_true rfl) (Nat.le_of_ble_eq_true rfl) rfl rfl ?_
  refine g_iconst (n := 8) (v := (nI 0)) dX8_countShared_7 rfl rfl ?_
  refine g_istore_n (n := 9) (ls' := [some (.ref 8), some (.int (nI 0)), some (.int (nI 0))]) dX8_countShared_8 rfl rfl (Nat.le_of_ble_eq_true rfl) (Nat.le_of_ble_eq_true rfl) rfl rfl ?_
  refine g_less (bc' := 0) (bs' := 0) (Nat.le_of_ble_eq_true rfl) (Nat.le_of_ble_eq_true rfl) ?_
  obtain ⟨n_f, h⟩ := h
  exact tlX8_countShared_9  n_f _ _ _ _ h
def wjX8_longestFreeRun_38 (K : Int32 → ab_F → ab_F → Prop) (L11 : Int32 → Int32 → Int32 → ab_F → ab_F → Prop) (x1 : Int32) (x3 : Int32) (s0 : Int32) (I A : ab_F) : Prop := (∀ y_4 : Int32, y_4 = (if x1 < s0 then s0 else x1) → L11 y_4 s0 (x3 + nI 1) I A)
def wlX8_longestFreeRun_11 (K : Int32 → ab_F → ab_F → Prop) : Nat → Int32 → Int32 → Int32 → ab_F → ab_F → Prop
  | 0, _, _, _, _, _ => False
  | n + 1, x1, x2, x3, I, A => (((I 20 0) ≤ x3 → K x1 I A) ∧ (¬ (I 20 0) ≤ x3 → (∃ j_3 : Nat, x3 = nI j_3 ∧ j_3 < 48 ∧ ((¬ (A 31 j_3) = 0 → wjX8_longestFreeRun_38 K (wlX8_longestFreeRun_11 K n) x1 x3 (nI 0) I A) ∧ ((A 31 j_3) = 0 → wjX8_longestFreeRun_38 K (wlX8_longestFreeRun_11 K n) x1 x3 (x2 + (nI 1)) I A)))))
def wX8_longestFreeRun (K : Int32 → ab_F → ab_F → Prop) (I A : ab_F)  : Prop := wX8_markUses (fun I_1 A_2 => (∃ nf : Nat, wlX8_longestFreeRun_11 K nf (nI 0) (nI 0) (nI 0) I_1 A_2)) I A 
set_option maxRecDepth 20000 in
theorem tjX8_longestFreeRun_38 {C : ab_X} {Z : ab_Z} {K : Int32 → ab_F → ab_F → Prop} {L11 : Int32 → Int32 → Int32 → ab_F → ab_F → Prop} (hL11 : ∀ (x1 : Int32) (x2 : Int32) (x3 : Int32) (I A : ab_F), L11 x1 x2 x3 I A → ab_G mX8_longestFreeRun 1 C (ab_Px (shC Z) ab_no (ab_ri K)) 11 [some (.ref 8), some (.int x1), some (.int x2), some (.int x3)] [] (shC Z) I A 0 0) (x1 : Int32) (x3 : Int32) (s0 : Int32) (I A : ab_F) (h : wjX8_longestFreeRun_38 K L11 x1 x3 s0 I A) : ab_G mX8_longestFreeRun 1 C (ab_Px (shC Z) ab_no (ab_ri K)) 38 [some (.ref 8), some (.int x1), none, some (.int x3)] [.int s0] (shC Z) I A 0 0 := by
  unfold wjX8_longestFreeRun_38 at h
  refine g_istore_n (n := 39) (ls' := [some (.ref 8), some (.int x1), some (.int s0), some (.int x3)]) dX8_longestFreeRun_38 rfl rfl (Nat.le_of_ble_eq_true rfl) (Nat.le_of_ble_eq_true rfl) rfl rfl ?_
  refine g_iload_n (n := 40) dX8_longestFreeRun_39 rfl rfl rfl ?_
  refine g_iload_n (n := 41) dX8_longestFreeRun_40 rfl rfl rfl ?_
  refine g_mmax (n := 44) dX8_longestFreeRun_41 w_1027 w_1028 w_125 w_1029 (Nat.le_of_ble_eq_true rfl) (Nat.le_of_ble_eq_true rfl) rfl ?_
  refine g_topi (fun y_4 ey_4 => ?_)
  have h := h y_4 ey_4
  refine g_istore_n (n := 45) (ls' := [some (.ref 8), some (.int y_4), some (.int s0), some (.int x3)]) dX8_longestFreeRun_44 rfl rfl (Nat.le_of_ble_eq_true rfl) (Nat.le_of_ble_eq_true rfl) rfl rfl ?_
  refine g_iinc (n := 48) (v := (x3 + nI 1)) (ls' := [some (.ref 8), some (.int y_4), some (.int s0), some (.int (x3 + nI 1))]) dX8_longestFreeRun_45 rfl rfl rfl (Nat.le_of_ble_eq_true rfl) rfl rfl ?_
  refine g_goto 11 dX8_longestFreeRun_48 (by decide) ?_
  exact hL11 _ _ _ _ _ h
set_option maxRecDepth 20000 in
theorem tlX8_longestFreeRun_11 {C : ab_X} {Z : ab_Z} {K : Int32 → ab_F → ab_F → Prop} : ∀ (n : Nat) (x1 : Int32) (x2 : Int32) (x3 : Int32) (I A : ab_F), wlX8_longestFreeRun_11 K n x1 x2 x3 I A → ab_G mX8_longestFreeRun 1 C (ab_Px (shC Z) ab_no (ab_ri K)) 11 [some (.ref 8), some (.int x1), some (.int x2), some (.int x3)] [] (shC Z) I A 0 0 := by
  intro n
  induction n with
  | zero => intro x1 x2 x3 I A h; exact h.elim
  | succ n hL11 =>
    intro x1 x2 x3 I A h
    rw [wlX8_longestFreeRun_11] at h
    refine g_iload_n (n := 12) dX8_longestFreeRun_11 rfl rfl rfl ?_
    refine g_aload_n (n := 13) dX8_longestFreeRun_12 rfl rfl rfl ?_
    refine g_getR (n := 16) (k := 2) dX8_longestFreeRun_13 sC_8 vc_12 (Nat.le_of_ble_eq_true rfl) rfl w_403 rfl ?_
    refine g_getIE (n := 19) (k := 0) (x := (I 20 0)) dX8_longestFreeRun_16 sC_20 vc_11 (Nat.le_of_ble_eq_true rfl) rfl w_310 rfl rfl ?_
    refine g_icmp_ge (n := 22) 51 dX8_longestFreeRun_19 (by decide) rfl (fun hc => ?_) (fun hc => ?_)
    · have h := h.1 hc
      refine g_iload_n (n := 52) dX8_longestFreeRun_51 rfl rfl rfl ?_
      exact g_iret rfl rfl dX8_longestFreeRun_52 ⟨rfl, _, rfl, h⟩
    · have h := h.2 hc
      refine g_aload_n (n := 23) dX8_longestFreeRun_22 rfl rfl rfl ?_
      refine g_getR (n := 26) (k := 6) dX8_longestFreeRun_23 sC_8 vc_12 (Nat.le_of_ble_eq_true rfl) rfl w_411 rfl ?_
      refine g_iload_n (n := 27) dX8_longestFreeRun_26 rfl rfl rfl ?_
      obtain ⟨j_3, hj, hl, h⟩ := h
      refine g_ialdJ (n := 28) (j := j_3) (x := (A 31 j_3)) dX8_longestFreeRun_27 sC_31 hj hl (by decide) rfl rfl ?_
      refine g_if_ne (n := 31) 37 dX8_longestFreeRun_28 (by decide) rfl (fun hc => ?_) (fun hc => ?_)
      · have h := h.1 hc
        refine g_iconst (n := 38) (v := (nI 0)) dX8_longestFreeRun_37 rfl rfl ?_
        refine g_forget (ls' := [some (.ref 8), some (.int x1), none, some (.int x3)]) (ab_fg rfl) ?_
        refine g_less (bc' := 0) (bs' := 0) (Nat.le_of_ble_eq_true rfl) (Nat.le_of_ble_eq_true rfl) ?_
        exact tjX8_longestFreeRun_38 hL11 _ _ _ _ _ h
      · have h := h.2 hc
        refine g_iload_n (n := 32) dX8_longestFreeRun_31 rfl rfl rfl ?_
        refine g_iconst (n := 33) (v := (nI 1)) dX8_longestFreeRun_32 rfl rfl ?_
        refine g_iadd (n := 34) dX8_longestFreeRun_33 rfl ?_
        refine g_goto 38 dX8_longestFreeRun_34 (by decide) ?_
        refine g_forget (ls' := [some (.ref 8), some (.int x1), none, some (.int x3)]) (ab_fg rfl) ?_
        refine g_less (bc' := 0) (bs' := 0) (Nat.le_of_ble_eq_true rfl) (Nat.le_of_ble_eq_true rfl) ?_
        exact tjX8_longestFreeRun_38 hL11 _ _ _ _ _ h
set_option maxRecDepth 20000 in
theorem ctX8_longestFreeRun {Z : ab_Z} {K : Int32 → ab_F → ab_F → Prop} {I A : ab_F}  (h : wX8_longestFreeRun K I A ) : ab_Cl mX8_longestFreeRun 1 0 0 [.ref 8] (shC Z) I A (ab_Px (shC Z) ab_no (ab_ri K)) := by
  refine ab_enter (ls := [some (.ref 8), none, none, none]) (by decide +kernel) (Nat.le_of_ble_eq_true rfl) rfl (fun C => ?_)
  unfold wX8_longestFreeRun at h
  refine g_aload_n (n := 1) dX8_longestFreeRun_0 rfl rfl rfl ?_
  refine g_callV (n := 4) (as := []) (bc' := 0) (bs' := 0) sC_8 vc_12 (ctX8_markUses h) okX8_markUses rfl w_842 w_843 w_844 w_100 dX8_longestFreeRun_1 rfl rfl (Nat.le_of_ble_eq_true rfl) (Nat.le_of_ble_eq_true rfl) (Nat.le_of_ble_eq_true rfl) (Nat.le_of_ble_eq_true rfl) rfl (fun E sh1 I1 A1 hp _ => hp.2.elim) (fun ro sh_ I_1 A_2 hp hle => ?_)
  obtain ⟨rfl, rfl, h⟩ := hp
  refine g_pop (n := 5) dX8_longestFreeRun_4 rfl rfl ?_
  refine g_iconst (n := 6) (v := (nI 0)) dX8_longestFreeRun_5 rfl rfl ?_
  refine g_istore_n (n := 7) (ls' := [some (.ref 8), some (.int (nI 0)), none, none]) dX8_longestFreeRun_6 rfl rfl (Nat.le_of_ble_eq_true rfl) (Nat.le_of_ble_eq_true rfl) rfl rfl ?_
  refine g_iconst (n := 8) (v := (nI 0)) dX8_longestFreeRun_7 rfl rfl ?_
  refine g_istore_n (n := 9) (ls' := [some (.ref 8), some (.int (nI 0)), some (.int (nI 0)), none]) dX8_longestFreeRun_8 rfl rfl (Nat.le_of_ble_eq_true rfl) (Nat.le_of_ble_eq_true rfl) rfl rfl ?_
  refine g_iconst (n := 10) (v := (nI 0)) dX8_longestFreeRun_9 rfl rfl ?_
  refine g_istore_n (n := 11) (ls' := [some (.ref 8), some (.int (nI 0)), some (.int (nI 0)), some (.int (nI 0))]) dX8_longestFreeRun_10 rfl rfl (Nat.le_of_ble_eq_true rfl) (Nat.le_of_ble_eq_true rfl) rfl rfl ?_
  refine g_less (bc' := 0) (bs' := 0) (Nat.le_of_ble_eq_true rfl) (Nat.le_of_ble_eq_true rfl) ?_
  obtain ⟨n_f, h⟩ := h
  exact tlX8_longestFreeRun_11  n_f _ _ _ _ _ h
def wlX8_freeAt_12 (K : Int32 → ab_F → ab_F → Prop) : Nat → Int32 → Int32 → Int32 → ab_F → ab_F → Prop
  | 0, _, _, _, _, _ => False
  | n + 1, x1, x2, x3, I, A => ((x1 ≤ x3 → K x2 I A) ∧ (¬ x1 ≤ x3 → ((x2 = (-1 : Int32) → K x2 I A) ∧ (¬ x2 = (-1 : Int32) → (∃ j_6 : Nat, x2 = nI j_6 ∧ j_6 < 48 ∧ wX8_leastStampedUnused (fun r_9 I_7 A_8 => (wlX8_freeAt_12 K n) x1 r_9 (x3 + nI 1) I_7 A_8) I (wr A 31 j_6 (nI 1)) )))))
def wX8_freeAt (K : Int32 → ab_F → ab_F → Prop) (I A : ab_F) (p0 : Int32) : Prop := wX8_markUses (fun I_1 A_2 => wX8_leastStampedUnused (fun r_5 I_3 A_4 => (∃ nf : Nat, wlX8_freeAt_12 K nf p0 r_5 (nI 0) I_3 A_4)) I_1 A_2 ) I A 
set_option maxRecDepth 20000 in
theorem tlX8_freeAt_12 {C : ab_X} {Z : ab_Z} {K : Int32 → ab_F → ab_F → Prop} : ∀ (n : Nat) (x1 : Int32) (x2 : Int32) (x3 : Int32) (I A : ab_F), wlX8_freeAt_12 K n x1 x2 x3 I A → ab_G mX8_freeAt 1 C (ab_Px (shC Z) ab_no (ab_ri K)) 12 [some (.ref 8), some (.int x1), some (.int x2), some (.int x3)] [] (shC Z) I A 0 0 := by
  intro n
  induction n with
  | zero => intro x1 x2 x3 I A h; exact h.elim
  | succ n hL12 =>
    intro x1 x2 x3 I A h
    rw [wlX8_freeAt_12] at h
    refine g_iload_n (n := 13) dX8_freeAt_12 rfl rfl rfl ?_
    refine g_iload_n (n := 14) dX8_freeAt_13 rfl rfl rfl ?_
    refine g_icmp_ge (n := 17) 40 dX8_freeAt_14 (by decide) rfl (fun hc => ?_) (fun hc => ?_)
    · have h := h.1 hc
      refine g_iload_n (n := 41) dX8_freeAt_40 rfl rfl rfl ?_
      exact g_iret rfl rfl dX8_freeAt_41 ⟨rfl, _, rfl, h⟩
    · have h := h.2 hc
      refine g_iload_n (n := 18) dX8_freeAt_17 rfl rfl rfl ?_
      refine g_iconst (n := 19) (v := (-1 : Int32)) dX8_freeAt_18 rfl rfl ?_
      refine g_icmp_eq (n := 22) 40 dX8_freeAt_19 (by decide) rfl (fun hc => ?_) (fun hc => ?_)
      · have h := h.1 hc
        refine g_iload_n (n := 41) dX8_freeAt_40 rfl rfl rfl ?_
        exact g_iret rfl rfl dX8_freeAt_41 ⟨rfl, _, rfl, h⟩
      · have h := h.2 hc
        refine g_aload_n (n := 23) dX8_freeAt_22 rfl rfl rfl ?_
        refine g_getR (n := 26) (k := 6) dX8_freeAt_23 sC_8 vc_12 (Nat.le_of_ble_eq_true rfl) rfl w_411 rfl ?_
        refine g_iload_n (n := 27) dX8_freeAt_26 rfl rfl rfl ?_
        refine g_iconst (n := 28) (v := (nI 1)) dX8_freeAt_27 rfl rfl ?_
        obtain ⟨j_6, hj, hl, h⟩ := h
        refine g_iastJ (n := 29) (j := j_6) dX8_freeAt_28 sC_31 hj hl (by decide) rfl ?_
        refine g_aload_n (n := 30) dX8_freeAt_29 rfl rfl rfl ?_
        refine g_callV (n := 33) (as := []) (bc' := 0) (bs' := 0) sC_8 vc_12 (ctX8_leastStampedUnused h) okX8_leastStampedUnused rfl w_846 w_848 w_13 w_100 dX8_freeAt_30 rfl rfl (Nat.le_of_ble_eq_true rfl) (Nat.le_of_ble_eq_true rfl) (Nat.le_of_ble_eq_true rfl) (Nat.le_of_ble_eq_true rfl) rfl (fun E sh1 I1 A1 hp _ => hp.2.elim) (fun ro sh_ I_7 A_8 hp hle => ?_)
        obtain ⟨rfl, r_9, rfl, h⟩ := hp
        refine g_istore_n (n := 34) (ls' := [some (.ref 8), some (.int x1), some (.int r_9), some (.int x3)]) dX8_freeAt_33 rfl rfl (Nat.le_of_ble_eq_true rfl) (Nat.le_of_ble_eq_true rfl) rfl rfl ?_
        refine g_iinc (n := 37) (v := (x3 + nI 1)) (ls' := [some (.ref 8), some (.int x1), some (.int r_9), some (.int (x3 + nI 1))]) dX8_freeAt_34 rfl rfl rfl (Nat.le_of_ble_eq_true rfl) rfl rfl ?_
        refine g_goto 12 dX8_freeAt_37 (by decide) ?_
        exact hL12 _ _ _ _ _ h
set_option maxRecDepth 20000 in
theorem ctX8_freeAt {Z : ab_Z} {K : Int32 → ab_F → ab_F → Prop} {I A : ab_F} {p0 : Int32} (h : wX8_freeAt K I A p0) : ab_Cl mX8_freeAt 1 0 0 [.ref 8, .int p0] (shC Z) I A (ab_Px (shC Z) ab_no (ab_ri K)) := by
  refine ab_enter (ls := [some (.ref 8), some (.int p0), none, none]) (by decide +kernel) (Nat.le_of_ble_eq_true rfl) rfl (fun C => ?_)
  unfold wX8_freeAt at h
  refine g_aload_n (n := 1) dX8_freeAt_0 rfl rfl rfl ?_
  refine g_callV (n := 4) (as := []) (bc' := 0) (bs' := 0) sC_8 vc_12 (ctX8_markUses h) okX8_markUses rfl w_842 w_843 w_844 w_100 dX8_freeAt_1 rfl rfl (Nat.le_of_ble_eq_true rfl) (Nat.le_of_ble_eq_true rfl) (Nat.le_of_ble_eq_true rfl) (Nat.le_of_ble_eq_true rfl) rfl (fun E sh1 I1 A1 hp _ => hp.2.elim) (fun ro sh_ I_1 A_2 hp hle => ?_)
  obtain ⟨rfl, rfl, h⟩ := hp
  refine g_pop (n := 5) dX8_freeAt_4 rfl rfl ?_
  refine g_aload_n (n := 6) dX8_freeAt_5 rfl rfl rfl ?_
  refine g_callV (n := 9) (as := []) (bc' := 0) (bs' := 0) sC_8 vc_12 (ctX8_leastStampedUnused h) okX8_leastStampedUnused rfl w_846 w_848 w_13 w_100 dX8_freeAt_6 rfl rfl (Nat.le_of_ble_eq_true rfl) (Nat.le_of_ble_eq_true rfl) (Nat.le_of_ble_eq_true rfl) (Nat.le_of_ble_eq_true rfl) rfl (fun E sh1 I1 A1 hp _ => hp.2.elim) (fun ro sh_ I_3 A_4 hp hle => ?_)
  obtain ⟨rfl, r_5, rfl, h⟩ := hp
  refine g_istore_n (n := 10) (ls' := [some (.ref 8), some (.int p0), some (.int r_5), none]) dX8_freeAt_9 rfl rfl (Nat.le_of_ble_eq_true rfl) (Nat.le_of_ble_eq_true rfl) rfl rfl ?_
  refine g_iconst (n := 11) (v := (nI 0)) dX8_freeAt_10 rfl rfl ?_
  refine g_istore_n (n := 12) (ls' := [some (.ref 8), some (.int p0), some (.int r_5), some (.int (nI 0))]) dX8_freeAt_11 rfl rfl (Nat.le_of_ble_eq_true rfl) (Nat.le_of_ble_eq_true rfl) rfl rfl ?_
  refine g_less (bc' := 0) (bs' := 0) (Nat.le_of_ble_eq_true rfl) (Nat.le_of_ble_eq_true rfl) ?_
  obtain ⟨n_f, h⟩ := h
  exact tlX8_freeAt_12  n_f _ _ _ _ _ h
def wjX8_countTwins_46 (K : Int32 → ab_F → ab_F → Prop) (L9 : Int32 → Int32 → Int32 → ab_F → ab_F → Prop) (x1 : Int32) (x2 : Int32) (x3 : Int32) (s0 : Int32) (I A : ab_F) : Prop := ((x3 = x1 → L9 x1 x2 (x3 + nI 1) I A) ∧ (¬ x3 = x1 → (∃ j_5 : Nat, x3 = nI j_5 ∧ j_5 < 48 ∧ (((A 31 j_5) = 0 → L9 x1 x2 (x3 + nI 1) I A) ∧ (¬ (A 31 j_5) = 0 → ((s0 = 0 → L9 x1 x2 (x3 + nI 1) I A) ∧ (¬ s0 = 0 → L9 x1 (x2 + nI 1) (x3 + nI 1) I A)))))))
def wlX8_countTwins_9 (K : Int32 → ab_F → ab_F → Prop) : Nat → Int32 → Int32 → Int32 → ab_F → ab_F → Prop
  | 0, _, _, _, _, _ => False
  | n + 1, x1, x2, x3, I, A => (((I 20 0) ≤ x3 → K x2 I A) ∧ (¬ (I 20 0) ≤ x3 → (∃ j_3 : Nat, x3 = nI j_3 ∧ j_3 < 48 ∧ (∃ j_4 : Nat, x1 = nI j_4 ∧ j_4 < 48 ∧ ((¬ (A 21 j_3) = (A 21 j_4) → wjX8_countTwins_46 K (wlX8_countTwins_9 K n) x1 x2 x3 (nI 0) I A) ∧ ((A 21 j_3) = (A 21 j_4) → wjX8_countTwins_46 K (wlX8_countTwins_9 K n) x1 x2 x3 (nI 1) I A))))))
def wX8_countTwins (K : Int32 → ab_F → ab_F → Prop) (I A : ab_F) (p0 : Int32) : Prop := wX8_markUses (fun I_1 A_2 => (∃ nf : Nat, wlX8_countTwins_9 K nf p0 (nI 0) (nI 0) I_1 A_2)) I A 
set_option maxRecDepth 20000 in
theorem tjX8_countTwins_46 {C : ab_X} {Z : ab_Z} {K : Int32 → ab_F → ab_F → Prop} {L9 : Int32 → Int32 → Int32 → ab_F → ab_F → Prop} (hL9 : ∀ (x1 : Int32) (x2 : Int32) (x3 : Int32) (I A : ab_F), L9 x1 x2 x3 I A → ab_G mX8_countTwins 1 C (ab_Px (shC Z) ab_no (ab_ri K)) 9 [some (.ref 8), some (.int x1), some (.int x2), some (.int x3), none] [] (shC Z) I A 0 0) (x1 : Int32) (x2 : Int32) (x3 : Int32) (s0 : Int32) (I A : ab_F) (h : wjX8_countTwins_46 K L9 x1 x2 x3 s0 I A) : ab_G mX8_countTwins 1 C (ab_Px (shC Z) ab_no (ab_ri K)) 46 [some (.ref 8), some (.int x1), some (.int x2), some (.int x3), none] [.int s0] (shC Z) I A 0 0 := by
  unfold wjX8_countTwins_46 at h
  refine g_istore (n := 48) (ls' := [some (.ref 8), some (.int x1), some (.int x2), some (.int x3), some (.int s0)]) dX8_countTwins_46 rfl (Nat.le_of_ble_eq_true rfl) (Nat.le_of_ble_eq_true rfl) rfl rfl ?_
  refine g_iload_n (n := 49) dX8_countTwins_48 rfl rfl rfl ?_
  refine g_iload_n (n := 50) dX8_countTwins_49 rfl rfl rfl ?_
  refine g_icmp_eq (n := 53) 70 dX8_countTwins_50 (by decide) rfl (fun hc => ?_) (fun hc => ?_)
  · have h := h.1 hc
    refine g_iinc (n := 73) (v := (x3 + nI 1)) (ls' := [some (.ref 8), some (.int x1), some (.int x2), some (.int (x3 + nI 1)), some (.int s0)]) dX8_countTwins_70 rfl rfl rfl (Nat.le_of_ble_eq_true rfl) rfl rfl ?_
    refine g_goto 9 dX8_countTwins_73 (by decide) ?_
    refine g_forget (ls' := [some (.ref 8), some (.int x1), some (.int x2), some (.int (x3 + nI 1)), none]) (ab_fg rfl) ?_
    exact hL9 _ _ _ _ _ h
  · have h := h.2 hc
    refine g_aload_n (n := 54) dX8_countTwins_53 rfl rfl rfl ?_
    refine g_getR (n := 57) (k := 6) dX8_countTwins_54 sC_8 vc_12 (Nat.le_of_ble_eq_true rfl) rfl w_411 rfl ?_
    refine g_iload_n (n := 58) dX8_countTwins_57 rfl rfl rfl ?_
    obtain ⟨j_5, hj, hl, h⟩ := h
    refine g_ialdJ (n := 59) (j := j_5) (x := (A 31 j_5)) dX8_countTwins_58 sC_31 hj hl (by decide) rfl rfl ?_
    refine g_if_eq (n := 62) 70 dX8_countTwins_59 (by decide) rfl (fun hc => ?_) (fun hc => ?_)
    · have h := h.1 hc
      refine g_iinc (n := 73) (v := (x3 + nI 1)) (ls' := [some (.ref 8), some (.int x1), some (.int x2), some (.int (x3 + nI 1)), some (.int s0)]) dX8_countTwins_70 rfl rfl rfl (Nat.le_of_ble_eq_true rfl) rfl rfl ?_
      refine g_goto 9 dX8_countTwins_73 (by decide) ?_
      refine g_forget (ls' := [some (.ref 8), some (.int x1), some (.int x2), some (.int (x3 + nI 1)), none]) (ab_fg rfl) ?_
      exact hL9 _ _ _ _ _ h
    · have h := h.2 hc
      refine g_iload (n := 64) dX8_countTwins_62 rfl rfl ?_
      refine g_if_eq (n := 67) 70 dX8_countTwins_64 (by decide) rfl (fun hc => ?_) (fun hc => ?_)
      · have h := h.1 hc
        refine g_iinc (n := 73) (v := (x3 + nI 1)) (ls' := [some (.ref 8), some (.int x1), some (.int x2), some (.int (x3 + nI 1)), some (.int s0)]) dX8_countTwins_70 rfl rfl rfl (Nat.le_of_ble_eq_true rfl) rfl rfl ?_
        refine g_goto 9 dX8_countTwins_73 (by decide) ?_
        refine g_forget (ls' := [some (.ref 8), some (.int x1), some (.int x2), some (.int (x3 + nI 1)), none]) (ab_fg rfl) ?_
        exact hL9 _ _ _ _ _ h
      · have h := h.2 hc
        refine g_iinc (n := 70) (v := (x2 + nI 1)) (ls' := [some (.ref 8), some (.int x1), some (.int (x2 + nI 1)), some (.int x3), some (.int s0)]) dX8_countTwins_67 rfl rfl rfl (Nat.le_of_ble_eq_true rfl) rfl rfl ?_
        refine g_iinc (n := 73) (v := (x3 + nI 1)) (ls' := [some (.ref 8), some (.int x1), some (.int (x2 + nI 1)), some (.int (x3 + nI 1)), some (.int s0)]) dX8_countTwins_70 rfl rfl rfl (Nat.le_of_ble_eq_true rfl) rfl rfl ?_
        refine g_goto 9 dX8_countTwins_73 (by decide) ?_
        refine g_forget (ls' := [some (.ref 8), some (.int x1), some (.int (x2 + nI 1)), some (.int (x3 + nI 1)), none]) (ab_fg rfl) ?_
        exact hL9 _ _ _ _ _ h
set_option maxRecDepth 20000 in
theorem tlX8_countTwins_9 {C : ab_X} {Z : ab_Z} {K : Int32 → ab_F → ab_F → Prop} : ∀ (n : Nat) (x1 : Int32) (x2 : Int32) (x3 : Int32) (I A : ab_F), wlX8_countTwins_9 K n x1 x2 x3 I A → ab_G mX8_countTwins 1 C (ab_Px (shC Z) ab_no (ab_ri K)) 9 [some (.ref 8), some (.int x1), some (.int x2), some (.int x3), none] [] (shC Z) I A 0 0 := by
  intro n
  induction n with
  | zero => intro x1 x2 x3 I A h; exact h.elim
  | succ n hL9 =>
    intro x1 x2 x3 I A h
    rw [wlX8_countTwins_9] at h
    refine g_iload_n (n := 10) dX8_countTwins_9 rfl rfl rfl ?_
    refine g_aload_n (n := 11) dX8_countTwins_10 rfl rfl rfl ?_
    refine g_getR (n := 14) (k := 2) dX8_countTwins_11 sC_8 vc_12 (Nat.le_of_ble_eq_true rfl) rfl w_403 rfl ?_
    refine g_getIE (n := 17) (k := 0) (x := (I 20 0)) dX8_countTwins_14 sC_20 vc_11 (Nat.le_of_ble_eq_true rfl) rfl w_310 rfl rfl ?_
    refine g_icmp_ge (n := 20) 76 dX8_countTwins_17 (by decide) rfl (fun hc => ?_) (fun hc => ?_)
    · have h := h.1 hc
      refine g_iload_n (n := 77) dX8_countTwins_76 rfl rfl rfl ?_
      exact g_iret rfl rfl dX8_countTwins_77 ⟨rfl, _, rfl, h⟩
    · have h := h.2 hc
      refine g_aload_n (n := 21) dX8_countTwins_20 rfl rfl rfl ?_
      refine g_getR (n := 24) (k := 2) dX8_countTwins_21 sC_8 vc_12 (Nat.le_of_ble_eq_true rfl) rfl w_403 rfl ?_
      refine g_getR (n := 27) (k := 2) dX8_countTwins_24 sC_20 vc_11 (Nat.le_of_ble_eq_true rfl) rfl w_315 rfl ?_
      refine g_iload_n (n := 28) dX8_countTwins_27 rfl rfl rfl ?_
      obtain ⟨j_3, hj, hl, h⟩ := h
      refine g_ialdJ (n := 29) (j := j_3) (x := (A 21 j_3)) dX8_countTwins_28 sC_21 hj hl (by decide) rfl rfl ?_
      refine g_aload_n (n := 30) dX8_countTwins_29 rfl rfl rfl ?_
      refine g_getR (n := 33) (k := 2) dX8_countTwins_30 sC_8 vc_12 (Nat.le_of_ble_eq_true rfl) rfl w_403 rfl ?_
      refine g_getR (n := 36) (k := 2) dX8_countTwins_33 sC_20 vc_11 (Nat.le_of_ble_eq_true rfl) rfl w_315 rfl ?_
      refine g_iload_n (n := 37) dX8_countTwins_36 rfl rfl rfl ?_
      obtain ⟨j_4, hj, hl, h⟩ := h
      refine g_ialdJ (n := 38) (j := j_4) (x := (A 21 j_4)) dX8_countTwins_37 sC_21 hj hl (by decide) rfl rfl ?_
      refine g_icmp_ne (n := 41) 45 dX8_countTwins_38 (by decide) rfl (fun hc => ?_) (fun hc => ?_)
      · have h := h.1 hc
        refine g_iconst (n := 46) (v := (nI 0)) dX8_countTwins_45 rfl rfl ?_
        refine g_less (bc' := 0) (bs' := 0) (Nat.le_of_ble_eq_true rfl) (Nat.le_of_ble_eq_true rfl) ?_
        exact tjX8_countTwins_46 hL9 _ _ _ _ _ _ h
      · have h := h.2 hc
        refine g_iconst (n := 42) (v := (nI 1)) dX8_countTwins_41 rfl rfl ?_
        refine g_goto 46 dX8_countTwins_42 (by decide) ?_
        refine g_less (bc' := 0) (bs' := 0) (Nat.le_of_ble_eq_true rfl) (Nat.le_of_ble_eq_true rfl) ?_
        exact tjX8_countTwins_46 hL9 _ _ _ _ _ _ h
set_option maxRecDepth 20000 in
theorem ctX8_countTwins {Z : ab_Z} {K : Int32 → ab_F → ab_F → Prop} {I A : ab_F} {p0 : Int32} (h : wX8_countTwins K I A p0) : ab_Cl mX8_countTwins 1 0 0 [.ref 8, .int p0] (shC Z) I A (ab_Px (shC Z) ab_no (ab_ri K)) := by
  refine ab_enter (ls := [some (.ref 8), some (.int p0), none, none, none]) (by decide +kernel) (Nat.le_of_ble_eq_true rfl) rfl (fun C => ?_)
  unfold wX8_countTwins at h
  refine g_aload_n (n := 1) dX8_countTwins_0 rfl rfl rfl ?_
  refine g_callV (n := 4) (as := []) (bc' := 0) (bs' := 0) sC_8 vc_12 (ctX8_markUses h) okX8_markUses rfl w_842 w_843 w_844 w_100 dX8_countTwins_1 rfl rfl (Nat.le_of_ble_eq_true rfl) (Nat.le_of_ble_eq_true rfl) (Nat.le_of_ble_eq_true rfl) (Nat.le_of_ble_eq_true rfl) rfl (fun E sh1 I1 A1 hp _ => hp.2.elim) (fun ro sh_ I_1 A_2 hp hle => ?_)
  obtain ⟨rfl, rfl, h⟩ := hp
  refine g_pop (n := 5) dX8_countTwins_4 rfl rfl ?_
  refine g_iconst (n := 6) (v := (nI 0)) dX8_countTwins_5 rfl rfl ?_
  refine g_istore_n (n := 7) (ls' := [some (.ref 8), some (.int p0), some (.int (nI 0)), none, none]) dX8_countTwins_6 rfl rfl (Nat.le_of_ble_eq_true rfl) (Nat.le_of_ble_eq_true rfl) rfl rfl ?_
  refine g_iconst (n := 8) (v := (nI 0)) dX8_countTwins_7 rfl rfl ?_
  refine g_istore_n (n := 9) (ls' := [some (.ref 8), some (.int p0), some (.int (nI 0)), some (.int (nI 0)), none]) dX8_countTwins_8 rfl rfl (Nat.le_of_ble_eq_true rfl) (Nat.le_of_ble_eq_true rfl) rfl rfl ?_
  refine g_less (bc' := 0) (bs' := 0) (Nat.le_of_ble_eq_true rfl) (Nat.le_of_ble_eq_true rfl) ?_
  obtain ⟨n_f, h⟩ := h
  exact tlX8_countTwins_9  n_f _ _ _ _ _ h
