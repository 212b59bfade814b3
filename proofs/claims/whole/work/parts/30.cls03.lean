def wX8_refusalToRead (K : Int32 → ab_F → ab_F → Prop) (I A : ab_F) (p0 : Int32) (p1 : Int32) : Prop := wX4_hasPage (fun r_3 I_1 A_2 => ((¬ r_3 = 0 → wX11_idOf (fun r_6 I_4 A_5 => wX8_lacksSlot (fun r_9 I_7 A_8 => ((r_9 = 0 → K (nI 0) I_7 A_8) ∧ (¬ r_9 = 0 → K (nI 3) I_7 A_8))) I_4 A_5 r_6) I_1 A_2 p0 p1) ∧ (r_3 = 0 → K (nI 1) I_1 A_2))) I A p0 p1
set_option maxRecDepth 20000 in
theorem ctX8_refusalToRead {Z : ab_Z} {K : Int32 → ab_F → ab_F → Prop} {I A : ab_F} {p0 : Int32} {p1 : Int32} (h : wX8_refusalToRead K I A p0 p1) : ab_Cl mX8_refusalToRead 4 0 0 [.ref 8, .int p0, .int p1] (shC Z) I A (ab_Px (shC Z) ab_no (ab_ri K)) := by
  refine ab_enter (ls := [some (.ref 8), some (.int p0), some (.int p1)]) (by decide +kernel) (Nat.le_of_ble_eq_true rfl) rfl (fun C => ?_)
  unfold wX8_refusalToRead at h
  refine g_aload_n (n := 1) dX8_refusalToRead_0 rfl rfl rfl ?_
  refine g_getR (n := 4) (k := 0) dX8_refusalToRead_1 sC_8 vc_12 (Nat.le_of_ble_eq_true rfl) rfl w_399 rfl ?_
  refine g_iload_n (n := 5) dX8_refusalToRead_4 rfl rfl rfl ?_
  refine g_iload_n (n := 6) dX8_refusalToRead_5 rfl rfl rfl ?_
  refine g_callV (n := 9) (as := [.int p0, .int p1]) (bc' := 0) (bs' := 0) sC_9 vc_8 (ctX4_hasPage h) okX4_hasPage rfl w_810 w_811 w_812 w_101 dX8_refusalToRead_6 rfl rfl (Nat.le_of_ble_eq_true rfl) (Nat.le_of_ble_eq_true rfl) (Nat.le_of_ble_eq_true rfl) (Nat.le_of_ble_eq_true rfl) rfl (fun E sh1 I1 A1 hp _ => hp.2.elim) (fun ro sh_ I_1 A_2 hp hle => ?_)
  obtain ⟨rfl, r_3, rfl, h⟩ := hp
  refine g_if_ne (n := 12) 14 dX8_refusalToRead_9 (by decide) rfl (fun hc => ?_) (fun hc => ?_)
  · have h := h.1 hc
    refine g_aload_n (n := 15) dX8_refusalToRead_14 rfl rfl rfl ?_
    refine g_iload_n (n := 16) dX8_refusalToRead_15 rfl rfl rfl ?_
    refine g_iload_n (n := 17) dX8_refusalToRead_16 rfl rfl rfl ?_
    refine g_callSN (n := 20) (as := [.int p0, .int p1]) (bc' := 0) (bs' := 0) (ctX11_idOf h) okX11_idOf (ab_ngm 10 rfl) w_757 dX8_refusalToRead_17 rfl rfl (Nat.le_of_ble_eq_true rfl) (Nat.le_of_ble_eq_true rfl) (Nat.le_of_ble_eq_true rfl) (Nat.le_of_ble_eq_true rfl) rfl (fun E sh1 I1 A1 hp _ => hp.2.elim) (fun ro sh_ I_4 A_5 hp hle => ?_)
    obtain ⟨rfl, r_6, rfl, h⟩ := hp
    refine g_callV (n := 23) (as := [.int r_6]) (bc' := 0) (bs' := 0) sC_8 vc_12 (ctX8_lacksSlot h) okX8_lacksSlot rfl w_818 w_820 w_11 w_100 dX8_refusalToRead_20 rfl rfl (Nat.le_of_ble_eq_true rfl) (Nat.le_of_ble_eq_true rfl) (Nat.le_of_ble_eq_true rfl) (Nat.le_of_ble_eq_true rfl) rfl (fun E sh1 I1 A1 hp _ => hp.2.elim) (fun ro sh_ I_7 A_8 hp hle => ?_)
    obtain ⟨rfl, r_9, rfl, h⟩ := hp
    refine g_if_eq (n := 26) 30 dX8_refusalToRead_23 (by decide) rfl (fun hc => ?_) (fun hc => ?_)
    · have h := h.1 hc
      refine g_iconst (n := 31) (v := (nI 0)) dX8_refusalToRead_30 rfl rfl ?_
      exact g_iret rfl rfl dX8_refusalToRead_31 ⟨rfl, _, rfl, h⟩
    · have h := h.2 hc
      refine g_iconst (n := 27) (v := (nI 3)) dX8_refusalToRead_26 rfl rfl ?_
      refine g_goto 31 dX8_refusalToRead_27 (by decide) ?_
      exact g_iret rfl rfl dX8_refusalToRead_31 ⟨rfl, _, rfl, h⟩
  · have h := h.2 hc
    refine g_iconst (n := 13) (v := (nI 1)) dX8_refusalToRead_12 rfl rfl ?_
    exact g_iret rfl rfl dX8_refusalToRead_13 ⟨rfl, _, rfl, h⟩
def wX8_refusalToWrite (K : Int32 → ab_F → ab_F → Prop) (I A : ab_F) (p0 : Int32) (p1 : Int32) : Prop := wX4_hasPage (fun r_3 I_1 A_2 => ((¬ r_3 = 0 → wX11_idOf (fun r_6 I_4 A_5 => (∃ j_7 : Nat, r_6 = nI j_7 ∧ j_7 < 48 ∧ ((¬ (A_5 25 j_7) = (-2 : Int32) → wX8_lacksSlot (fun r_10 I_8 A_9 => ((r_10 = 0 → K (nI 0) I_8 A_9) ∧ (¬ r_10 = 0 → K (nI 3) I_8 A_9))) I_4 A_5 r_6) ∧ ((A_5 25 j_7) = (-2 : Int32) → wX8_nextFree (fun r_13 I_11 A_12 => ((¬ r_13 = (-1 : Int32) → K (nI 0) I_11 A_12) ∧ (r_13 = (-1 : Int32) → K (nI 3) I_11 A_12))) I_4 A_5 )))) I_1 A_2 p0 p1) ∧ (r_3 = 0 → K (nI 1) I_1 A_2))) I A p0 p1
set_option maxRecDepth 20000 in
theorem ctX8_refusalToWrite {Z : ab_Z} {K : Int32 → ab_F → ab_F → Prop} {I A : ab_F} {p0 : Int32} {p1 : Int32} (h : wX8_refusalToWrite K I A p0 p1) : ab_Cl mX8_refusalToWrite 4 0 0 [.ref 8, .int p0, .int p1] (shC Z) I A (ab_Px (shC Z) ab_no (ab_ri K)) := by
  refine ab_enter (ls := [some (.ref 8), some (.int p0), some (.int p1), none]) (by decide +kernel) (Nat.le_of_ble_eq_true rfl) rfl (fun C => ?_)
  unfold wX8_refusalToWrite at h
  refine g_aload_n (n := 1) dX8_refusalToWrite_0 rfl rfl rfl ?_
  refine g_getR (n := 4) (k := 0) dX8_refusalToWrite_1 sC_8 vc_12 (Nat.le_of_ble_eq_true rfl) rfl w_399 rfl ?_
  refine g_iload_n (n := 5) dX8_refusalToWrite_4 rfl rfl rfl ?_
  refine g_iload_n (n := 6) dX8_refusalToWrite_5 rfl rfl rfl ?_
  refine g_callV (n := 9) (as := [.int p0, .int p1]) (bc' := 0) (bs' := 0) sC_9 vc_8 (ctX4_hasPage h) okX4_hasPage rfl w_810 w_811 w_812 w_101 dX8_refusalToWrite_6 rfl rfl (Nat.le_of_ble_eq_true rfl) (Nat.le_of_ble_eq_true rfl) (Nat.le_of_ble_eq_true rfl) (Nat.le_of_ble_eq_true rfl) rfl (fun E sh1 I1 A1 hp _ => hp.2.elim) (fun ro sh_ I_1 A_2 hp hle => ?_)
  obtain ⟨rfl, r_3, rfl, h⟩ := hp
  refine g_if_ne (n := 12) 14 dX8_refusalToWrite_9 (by decide) rfl (fun hc => ?_) (fun hc => ?_)
  · have h := h.1 hc
    refine g_iload_n (n := 15) dX8_refusalToWrite_14 rfl rfl rfl ?_
    refine g_iload_n (n := 16) dX8_refusalToWrite_15 rfl rfl rfl ?_
    refine g_callSN (n := 19) (as := [.int p0, .int p1]) (bc' := 0) (bs' := 0) (ctX11_idOf h) okX11_idOf (ab_ngm 10 rfl) w_757 dX8_refusalToWrite_16 rfl rfl (Nat.le_of_ble_eq_true rfl) (Nat.le_of_ble_eq_true rfl) (Nat.le_of_ble_eq_true rfl) (Nat.le_of_ble_eq_true rfl) rfl (fun E sh1 I1 A1 hp _ => hp.2.elim) (fun ro sh_ I_4 A_5 hp hle => ?_)
    obtain ⟨rfl, r_6, rfl, h⟩ := hp
    refine g_istore_n (n := 20) (ls' := [some (.ref 8), some (.int p0), some (.int p1), some (.int r_6)]) dX8_refusalToWrite_19 rfl rfl (Nat.le_of_ble_eq_true rfl) (Nat.le_of_ble_eq_true rfl) rfl rfl ?_
    refine g_aload_n (n := 21) dX8_refusalToWrite_20 rfl rfl rfl ?_
    refine g_getR (n := 24) (k := 3) dX8_refusalToWrite_21 sC_8 vc_12 (Nat.le_of_ble_eq_true rfl) rfl w_405 rfl ?_
    refine g_getR (n := 27) (k := 4) dX8_refusalToWrite_24 sC_24 vc_5 (Nat.le_of_ble_eq_true rfl) rfl w_350 rfl ?_
    refine g_iload_n (n := 28) dX8_refusalToWrite_27 rfl rfl rfl ?_
    obtain ⟨j_7, hj, hl, h⟩ := h
    refine g_ialdJ (n := 29) (j := j_7) (x := (A_5 25 j_7)) dX8_refusalToWrite_28 sC_25 hj hl (by decide) rfl rfl ?_
    refine g_bipush (n := 31) (v := (-2 : Int32)) dX8_refusalToWrite_29 rfl rfl ?_
    refine g_icmp_ne (n := 34) 48 dX8_refusalToWrite_31 (by decide) rfl (fun hc => ?_) (fun hc => ?_)
    · have h := h.1 hc
      refine g_aload_n (n := 49) dX8_refusalToWrite_48 rfl rfl rfl ?_
      refine g_iload_n (n := 50) dX8_refusalToWrite_49 rfl rfl rfl ?_
      refine g_callV (n := 53) (as := [.int r_6]) (bc' := 0) (bs' := 0) sC_8 vc_12 (ctX8_lacksSlot h) okX8_lacksSlot rfl w_818 w_820 w_11 w_100 dX8_refusalToWrite_50 rfl rfl (Nat.le_of_ble_eq_true rfl) (Nat.le_of_ble_eq_true rfl) (Nat.le_of_ble_eq_true rfl) (Nat.le_of_ble_eq_true rfl) rfl (fun E sh1 I1 A1 hp _ => hp.2.elim) (fun ro sh_ I_8 A_9 hp hle => ?_)
      obtain ⟨rfl, r_10, rfl, h⟩ := hp
      refine g_if_eq (n := 56) 60 dX8_refusalToWrite_53 (by decide) rfl (fun hc => ?_) (fun hc => ?_)
      · have h := h.1 hc
        refine g_iconst (n := 61) (v := (nI 0)) dX8_refusalToWrite_60 rfl rfl ?_
        exact g_iret rfl rfl dX8_refusalToWrite_61 ⟨rfl, _, rfl, h⟩
      · have h := h.2 hc
        refine g_iconst (n := 57) (v := (nI 3)) dX8_refusalToWrite_56 rfl rfl ?_
        refine g_goto 61 dX8_refusalToWrite_57 (by decide) ?_
        exact g_iret rfl rfl dX8_refusalToWrite_61 ⟨rfl, _, rfl, h⟩
    · have h := h.2 hc
      refine g_aload_n (n := 35) dX8_refusalToWrite_34 rfl rfl rfl ?_
      refine g_callV (n := 38) (as := []) (bc' := 0) (bs' := 0) sC_8 vc_12 (ctX8_nextFree h) okX8_nextFree rfl w_838 w_839 w_840 w_100 dX8_refusalToWrite_35 rfl rfl (Nat.le_of_ble_eq_true rfl) (Nat.le_of_ble_eq_true rfl) (Nat.le_of_ble_eq_true rfl) (Nat.le_of_ble_eq_true rfl) rfl (fun E sh1 I1 A1 hp _ => hp.2.elim) (fun ro sh_ I_11 A_12 hp hle => ?_)
      obtain ⟨rfl, r_13, rfl, h⟩ := hp
      refine g_iconst (n := 39) (v := (-1 : Int32)) dX8_refusalToWrite_38 rfl rfl ?_
      refine g_icmp_ne (n := 42) 46 dX8_refusalToWrite_39 (by decide) rfl (fun hc => ?_) (fun hc => ?_)
      · have h := h.1 hc
        refine g_iconst (n := 47) (v := (nI 0)) dX8_refusalToWrite_46 rfl rfl ?_
        exact g_iret rfl rfl dX8_refusalToWrite_47 ⟨rfl, _, rfl, h⟩
      · have h := h.2 hc
        refine g_iconst (n := 43) (v := (nI 3)) dX8_refusalToWrite_42 rfl rfl ?_
        refine g_goto 47 dX8_refusalToWrite_43 (by decide) ?_
        exact g_iret rfl rfl dX8_refusalToWrite_47 ⟨rfl, _, rfl, h⟩
  · have h := h.2 hc
    refine g_iconst (n := 13) (v := (nI 1)) dX8_refusalToWrite_12 rfl rfl ?_
    exact g_iret rfl rfl dX8_refusalToWrite_13 ⟨rfl, _, rfl, h⟩
def wX8_refusalToStart (K : Int32 → ab_F → ab_F → Prop) (I A : ab_F) (p0 : Int32) : Prop := wX4_isProcessSet (fun r_3 I_1 A_2 => ((¬ r_3 = 0 → (((I_1 24 1) = 0 → K (nI 0) I_1 A_2) ∧ (¬ (I_1 24 1) = 0 → K (nI 3) I_1 A_2))) ∧ (r_3 = 0 → K (nI 2) I_1 A_2))) I A p0
set_option maxRecDepth 20000 in
theorem ctX8_refusalToStart {Z : ab_Z} {K : Int32 → ab_F → ab_F → Prop} {I A : ab_F} {p0 : Int32} (h : wX8_refusalToStart K I A p0) : ab_Cl mX8_refusalToStart 2 0 0 [.ref 8, .int p0] (shC Z) I A (ab_Px (shC Z) ab_no (ab_ri K)) := by
  refine ab_enter (ls := [some (.ref 8), some (.int p0)]) (by decide +kernel) (Nat.le_of_ble_eq_true rfl) rfl (fun C => ?_)
  unfold wX8_refusalToStart at h
  refine g_aload_n (n := 1) dX8_refusalToStart_0 rfl rfl rfl ?_
  refine g_getR (n := 4) (k := 0) dX8_refusalToStart_1 sC_8 vc_12 (Nat.le_of_ble_eq_true rfl) rfl w_399 rfl ?_
  refine g_iload_n (n := 5) dX8_refusalToStart_4 rfl rfl rfl ?_
  refine g_callV (n := 8) (as := [.int p0]) (bc' := 0) (bs' := 0) sC_9 vc_8 (ctX4_isProcessSet h) okX4_isProcessSet rfl w_858 w_859 w_860 w_101 dX8_refusalToStart_5 rfl rfl (Nat.le_of_ble_eq_true rfl) (Nat.le_of_ble_eq_true rfl) (Nat.le_of_ble_eq_true rfl) (Nat.le_of_ble_eq_true rfl) rfl (fun E sh1 I1 A1 hp _ => hp.2.elim) (fun ro sh_ I_1 A_2 hp hle => ?_)
  obtain ⟨rfl, r_3, rfl, h⟩ := hp
  refine g_if_ne (n := 11) 13 dX8_refusalToStart_8 (by decide) rfl (fun hc => ?_) (fun hc => ?_)
  · have h := h.1 hc
    refine g_aload_n (n := 14) dX8_refusalToStart_13 rfl rfl rfl ?_
    refine g_getR (n := 17) (k := 3) dX8_refusalToStart_14 sC_8 vc_12 (Nat.le_of_ble_eq_true rfl) rfl w_405 rfl ?_
    refine g_getIE (n := 20) (k := 1) (x := (I_1 24 1)) dX8_refusalToStart_17 sC_24 vc_5 (Nat.le_of_ble_eq_true rfl) rfl w_343 rfl rfl ?_
    refine g_if_eq (n := 23) 27 dX8_refusalToStart_20 (by decide) rfl (fun hc => ?_) (fun hc => ?_)
    · have h := h.1 hc
      refine g_iconst (n := 28) (v := (nI 0)) dX8_refusalToStart_27 rfl rfl ?_
      exact g_iret rfl rfl dX8_refusalToStart_28 ⟨rfl, _, rfl, h⟩
    · have h := h.2 hc
      refine g_iconst (n := 24) (v := (nI 3)) dX8_refusalToStart_23 rfl rfl ?_
      refine g_goto 28 dX8_refusalToStart_24 (by decide) ?_
      exact g_iret rfl rfl dX8_refusalToStart_28 ⟨rfl, _, rfl, h⟩
  · have h := h.2 hc
    refine g_iconst (n := 12) (v := (nI 2)) dX8_refusalToStart_11 rfl rfl ?_
    exact g_iret rfl rfl dX8_refusalToStart_12 ⟨rfl, _, rfl, h⟩
def wX8_refusalToFlush (K : Int32 → ab_F → ab_F → Prop) (I A : ab_F) (p0 : Int32) : Prop := ((p0 < (nI 1) → K (nI 2) I A) ∧ (¬ p0 < (nI 1) → ((p0 ≤ (nI 48) → ((¬ (I 24 1) = 0 → K (nI 0) I A) ∧ ((I 24 1) = 0 → K (nI 3) I A))) ∧ (¬ p0 ≤ (nI 48) → K (nI 2) I A))))
set_option maxRecDepth 20000 in
theorem ctX8_refusalToFlush {Z : ab_Z} {K : Int32 → ab_F → ab_F → Prop} {I A : ab_F} {p0 : Int32} (h : wX8_refusalToFlush K I A p0) : ab_Cl mX8_refusalToFlush 0 0 0 [.ref 8, .int p0] (shC Z) I A (ab_Px (shC Z) ab_no (ab_ri K)) := by
  refine ab_enter (ls := [some (.ref 8), some (.int p0)]) (by decide +kernel) (Nat.le_of_ble_eq_true rfl) rfl (fun C => ?_)
  unfold wX8_refusalToFlush at h
  refine g_iload_n (n := 1) dX8_refusalToFlush_0 rfl rfl rfl ?_
  refine g_iconst (n := 2) (v := (nI 1)) dX8_refusalToFlush_1 rfl rfl ?_
  refine g_icmp_lt (n := 5) 11 dX8_refusalToFlush_2 (by decide) rfl (fun hc => ?_) (fun hc => ?_)
  · have h := h.1 hc
    refine g_iconst (n := 12) (v := (nI 2)) dX8_refusalToFlush_11 rfl rfl ?_
    exact g_iret rfl rfl dX8_refusalToFlush_12 ⟨rfl, _, rfl, h⟩
  · have h := h.2 hc
    refine g_iload_n (n := 6) dX8_refusalToFlush_5 rfl rfl rfl ?_
    refine g_bipush (n := 8) (v := (nI 48)) dX8_refusalToFlush_6 rfl rfl ?_
    refine g_icmp_le (n := 11) 13 dX8_refusalToFlush_8 (by decide) rfl (fun hc => ?_) (fun hc => ?_)
    · have h := h.1 hc
      refine g_aload_n (n := 14) dX8_refusalToFlush_13 rfl rfl rfl ?_
      refine g_getR (n := 17) (k := 3) dX8_refusalToFlush_14 sC_8 vc_12 (Nat.le_of_ble_eq_true rfl) rfl w_405 rfl ?_
      refine g_getIE (n := 20) (k := 1) (x := (I 24 1)) dX8_refusalToFlush_17 sC_24 vc_5 (Nat.le_of_ble_eq_true rfl) rfl w_343 rfl rfl ?_
      refine g_if_ne (n := 23) 27 dX8_refusalToFlush_20 (by decide) rfl (fun hc => ?_) (fun hc => ?_)
      · have h := h.1 hc
        refine g_iconst (n := 28) (v := (nI 0)) dX8_refusalToFlush_27 rfl rfl ?_
        exact g_iret rfl rfl dX8_refusalToFlush_28 ⟨rfl, _, rfl, h⟩
      · have h := h.2 hc
        refine g_iconst (n := 24) (v := (nI 3)) dX8_refusalToFlush_23 rfl rfl ?_
        refine g_goto 28 dX8_refusalToFlush_24 (by decide) ?_
        exact g_iret rfl rfl dX8_refusalToFlush_28 ⟨rfl, _, rfl, h⟩
    · have h := h.2 hc
      refine g_iconst (n := 12) (v := (nI 2)) dX8_refusalToFlush_11 rfl rfl ?_
      exact g_iret rfl rfl dX8_refusalToFlush_12 ⟨rfl, _, rfl, h⟩
def wX8_refusalToCommit (K : Int32 → ab_F → ab_F → Prop) (I A : ab_F)  : Prop := ((¬ (I 24 1) = 0 → wX1_countPending (fun r_3 I_1 A_2 => ((r_3 ≤ 0 → K (nI 0) I_1 A_2) ∧ (¬ r_3 ≤ 0 → K (nI 5) I_1 A_2))) I A ) ∧ ((I 24 1) = 0 → K (nI 3) I A))
set_option maxRecDepth 20000 in
theorem ctX8_refusalToCommit {Z : ab_Z} {K : Int32 → ab_F → ab_F → Prop} {I A : ab_F}  (h : wX8_refusalToCommit K I A ) : ab_Cl mX8_refusalToCommit 1 0 0 [.ref 8] (shC Z) I A (ab_Px (shC Z) ab_no (ab_ri K)) := by
  refine ab_enter (ls := [some (.ref 8)]) (by decide +kernel) (Nat.le_of_ble_eq_true rfl) rfl (fun C => ?_)
  unfold wX8_refusalToCommit at h
  refine g_aload_n (n := 1) dX8_refusalToCommit_0 rfl rfl rfl ?_
  refine g_getR (n := 4) (k := 3) dX8_refusalToCommit_1 sC_8 vc_12 (Nat.le_of_ble_eq_true rfl) rfl w_405 rfl ?_
  refine g_getIE (n := 7) (k := 1) (x := (I 24 1)) dX8_refusalToCommit_4 sC_24 vc_5 (Nat.le_of_ble_eq_true rfl) rfl w_343 rfl rfl ?_
  refine g_if_ne (n := 10) 12 dX8_refusalToCommit_7 (by decide) rfl (fun hc => ?_) (fun hc => ?_)
  · have h := h.1 hc
    refine g_aload_n (n := 13) dX8_refusalToCommit_12 rfl rfl rfl ?_
    refine g_getR (n := 16) (k := 3) dX8_refusalToCommit_13 sC_8 vc_12 (Nat.le_of_ble_eq_true rfl) rfl w_405 rfl ?_
    refine g_callV (n := 19) (as := []) (bc' := 0) (bs' := 0) sC_24 vc_5 (ctX1_countPending h) okX1_countPending rfl w_874 w_875 w_876 w_104 dX8_refusalToCommit_16 rfl rfl (Nat.le_of_ble_eq_true rfl) (Nat.le_of_ble_eq_true rfl) (Nat.le_of_ble_eq_true rfl) (Nat.le_of_ble_eq_true rfl) rfl (fun E sh1 I1 A1 hp _ => hp.2.elim) (fun ro sh_ I_1 A_2 hp hle => ?_)
    obtain ⟨rfl, r_3, rfl, h⟩ := hp
    refine g_if_le (n := 22) 26 dX8_refusalToCommit_19 (by decide) rfl (fun hc => ?_) (fun hc => ?_)
    · have h := h.1 hc
      refine g_iconst (n := 27) (v := (nI 0)) dX8_refusalToCommit_26 rfl rfl ?_
      exact g_iret rfl rfl dX8_refusalToCommit_27 ⟨rfl, _, rfl, h⟩
    · have h := h.2 hc
      refine g_iconst (n := 23) (v := (nI 5)) dX8_refusalToCommit_22 rfl rfl ?_
      refine g_goto 27 dX8_refusalToCommit_23 (by decide) ?_
      exact g_iret rfl rfl dX8_refusalToCommit_27 ⟨rfl, _, rfl, h⟩
  · have h := h.2 hc
    refine g_iconst (n := 11) (v := (nI 3)) dX8_refusalToCommit_10 rfl rfl ?_
    exact g_iret rfl rfl dX8_refusalToCommit_11 ⟨rfl, _, rfl, h⟩
def wX8_refusalToAbandon (K : Int32 → ab_F → ab_F → Prop) (I A : ab_F)  : Prop := ((¬ (I 24 1) = 0 → K (nI 0) I A) ∧ ((I 24 1) = 0 → K (nI 3) I A))
set_option maxRecDepth 20000 in
theorem ctX8_refusalToAbandon {Z : ab_Z} {K : Int32 → ab_F → ab_F → Prop} {I A : ab_F}  (h : wX8_refusalToAbandon K I A ) : ab_Cl mX8_refusalToAbandon 0 0 0 [.ref 8] (shC Z) I A (ab_Px (shC Z) ab_no (ab_ri K)) := by
  refine ab_enter (ls := [some (.ref 8)]) (by decide +kernel) (Nat.le_of_ble_eq_true rfl) rfl (fun C => ?_)
  unfold wX8_refusalToAbandon at h
  refine g_aload_n (n := 1) dX8_refusalToAbandon_0 rfl rfl rfl ?_
  refine g_getR (n := 4) (k := 3) dX8_refusalToAbandon_1 sC_8 vc_12 (Nat.le_of_ble_eq_true rfl) rfl w_405 rfl ?_
  refine g_getIE (n := 7) (k := 1) (x := (I 24 1)) dX8_refusalToAbandon_4 sC_24 vc_5 (Nat.le_of_ble_eq_true rfl) rfl w_343 rfl rfl ?_
  refine g_if_ne (n := 10) 14 dX8_refusalToAbandon_7 (by decide) rfl (fun hc => ?_) (fun hc => ?_)
  · have h := h.1 hc
    refine g_iconst (n := 15) (v := (nI 0)) dX8_refusalToAbandon_14 rfl rfl ?_
    exact g_iret rfl rfl dX8_refusalToAbandon_15 ⟨rfl, _, rfl, h⟩
  · have h := h.2 hc
    refine g_iconst (n := 11) (v := (nI 3)) dX8_refusalToAbandon_10 rfl rfl ?_
    refine g_goto 15 dX8_refusalToAbandon_11 (by decide) ?_
    exact g_iret rfl rfl dX8_refusalToAbandon_15 ⟨rfl, _, rfl, h⟩
def wX8_refusalToRestore (K : Int32 → ab_F → ab_F → Prop) (I A : ab_F) (p0 : Int32) : Prop := wX4_hasProcess (fun r_3 I_1 A_2 => ((¬ r_3 = 0 → (∃ j_4 : Nat, p0 = nI j_4 ∧ j_4 < 6 ∧ ((¬ (A_2 26 j_4) = (-1 : Int32) → wX1_covers (fun r_7 I_5 A_6 => ((r_7 = 0 → K (nI 0) I_5 A_6) ∧ (¬ r_7 = 0 → K (nI 3) I_5 A_6))) I_1 A_2 p0) ∧ ((A_2 26 j_4) = (-1 : Int32) → K (nI 4) I_1 A_2)))) ∧ (r_3 = 0 → K (nI 1) I_1 A_2))) I A p0
set_option maxRecDepth 20000 in
theorem ctX8_refusalToRestore {Z : ab_Z} {K : Int32 → ab_F → ab_F → Prop} {I A : ab_F} {p0 : Int32} (h : wX8_refusalToRestore K I A p0) : ab_Cl mX8_refusalToRestore 1 0 0 [.ref 8, .int p0] (shC Z) I A (ab_Px (shC Z) ab_no (ab_ri K)) := by
  refine ab_enter (ls := [some (.ref 8), some (.int p0)]) (by decide +kernel) (Nat.le_of_ble_eq_true rfl) rfl (fun C => ?_)
  unfold wX8_refusalToRestore at h
  refine g_aload_n (n := 1) dX8_refusalToRestore_0 rfl rfl rfl ?_
  refine g_getR (n := 4) (k := 0) dX8_refusalToRestore_1 sC_8 vc_12 (Nat.le_of_ble_eq_true rfl) rfl w_399 rfl ?_
  refine g_iload_n (n := 5) dX8_refusalToRestore_4 rfl rfl rfl ?_
  refine g_callV (n := 8) (as := [.int p0]) (bc' := 0) (bs' := 0) sC_9 vc_8 (ctX4_hasProcess h) okX4_hasProcess rfl w_886 w_815 w_816 w_101 dX8_refusalToRestore_5 rfl rfl (Nat.le_of_ble_eq_true rfl) (Nat.le_of_ble_eq_true rfl) (Nat.le_of_ble_eq_true rfl) (Nat.le_of_ble_eq_true rfl) rfl (fun E sh1 I1 A1 hp _ => hp.2.elim) (fun ro sh_ I_1 A_2 hp hle => ?_)
  obtain ⟨rfl, r_3, rfl, h⟩ := hp
  refine g_if_ne (n := 11) 13 dX8_refusalToRestore_8 (by decide) rfl (fun hc => ?_) (fun hc => ?_)
  · have h := h.1 hc
    refine g_aload_n (n := 14) dX8_refusalToRestore_13 rfl rfl rfl ?_
    refine g_getR (n := 17) (k := 3) dX8_refusalToRestore_14 sC_8 vc_12 (Nat.le_of_ble_eq_true rfl) rfl w_405 rfl ?_
    refine g_getR (n := 20) (k := 5) dX8_refusalToRestore_17 sC_24 vc_5 (Nat.le_of_ble_eq_true rfl) rfl w_352 rfl ?_
    refine g_iload_n (n := 21) dX8_refusalToRestore_20 rfl rfl rfl ?_
    obtain ⟨j_4, hj, hl, h⟩ := h
    refine g_ialdJ (n := 22) (j := j_4) (x := (A_2 26 j_4)) dX8_refusalToRestore_21 sC_26 hj hl (by decide) rfl rfl ?_
    refine g_iconst (n := 23) (v := (-1 : Int32)) dX8_refusalToRestore_22 rfl rfl ?_
    refine g_icmp_ne (n := 26) 28 dX8_refusalToRestore_23 (by decide) rfl (fun hc => ?_) (fun hc => ?_)
    · have h := h.1 hc
      refine g_aload_n (n := 29) dX8_refusalToRestore_28 rfl rfl rfl ?_
      refine g_getR (n := 32) (k := 3) dX8_refusalToRestore_29 sC_8 vc_12 (Nat.le_of_ble_eq_true rfl) rfl w_405 rfl ?_
      refine g_iload_n (n := 33) dX8_refusalToRestore_32 rfl rfl rfl ?_
      refine g_callV (n := 36) (as := [.int p0]) (bc' := 0) (bs' := 0) sC_24 vc_5 (ctX1_covers h) okX1_covers rfl w_887 w_888 w_889 w_104 dX8_refusalToRestore_33 rfl rfl (Nat.le_of_ble_eq_true rfl) (Nat.le_of_ble_eq_true rfl) (Nat.le_of_ble_eq_true rfl) (Nat.le_of_ble_eq_true rfl) rfl (fun E sh1 I1 A1 hp _ => hp.2.elim) (fun ro sh_ I_5 A_6 hp hle => ?_)
      obtain ⟨rfl, r_7, rfl, h⟩ := hp
      refine g_if_eq (n := 39) 43 dX8_refusalToRestore_36 (by decide) rfl (fun hc => ?_) (fun hc => ?_)
      · have h := h.1 hc
        refine g_iconst (n := 44) (v := (nI 0)) dX8_refusalToRestore_43 rfl rfl ?_
        exact g_iret rfl rfl dX8_refusalToRestore_44 ⟨rfl, _, rfl, h⟩
      · have h := h.2 hc
        refine g_iconst (n := 40) (v := (nI 3)) dX8_refusalToRestore_39 rfl rfl ?_
        refine g_goto 44 dX8_refusalToRestore_40 (by decide) ?_
        exact g_iret rfl rfl dX8_refusalToRestore_44 ⟨rfl, _, rfl, h⟩
    · have h := h.2 hc
      refine g_iconst (n := 27) (v := (nI 4)) dX8_refusalToRestore_26 rfl rfl ?_
      exact g_iret rfl rfl dX8_refusalToRestore_27 ⟨rfl, _, rfl, h⟩
  · have h := h.2 hc
    refine g_iconst (n := 12) (v := (nI 1)) dX8_refusalToRestore_11 rfl rfl ?_
    exact g_iret rfl rfl dX8_refusalToRestore_12 ⟨rfl, _, rfl, h⟩
def wX8_refusalToEvict (K : Int32 → ab_F → ab_F → Prop) (I A : ab_F) (p0 : Int32) (p1 : Int32) : Prop := wX4_hasPage (fun r_3 I_1 A_2 => ((¬ r_3 = 0 → wX11_idOf (fun r_6 I_4 A_5 => (∃ j_7 : Nat, r_6 = nI j_7 ∧ j_7 < 48 ∧ ((¬ (A_5 14 j_7) = (-1 : Int32) → wX4_isDirty (fun r_10 I_8 A_9 => ((r_10 = 0 → K (nI 0) I_8 A_9) ∧ (¬ r_10 = 0 → wX8_nextFree (fun r_13 I_11 A_12 => ((¬ r_13 = (-1 : Int32) → K (nI 0) I_11 A_12) ∧ (r_13 = (-1 : Int32) → K (nI 3) I_11 A_12))) I_8 A_9 ))) I_4 A_5 r_6) ∧ ((A_5 14 j_7) = (-1 : Int32) → K (nI 5) I_4 A_5)))) I_1 A_2 p0 p1) ∧ (r_3 = 0 → K (nI 1) I_1 A_2))) I A p0 p1
set_option maxRecDepth 20000 in
theorem ctX8_refusalToEvict {Z : ab_Z} {K : Int32 → ab_F → ab_F → Prop} {I A : ab_F} {p0 : Int32} {p1 : Int32} (h : wX8_refusalToEvict K I A p0 p1) : ab_Cl mX8_refusalToEvict 2 0 0 [.ref 8, .int p0, .int p1] (shC Z) I A (ab_Px (shC Z) ab_no (ab_ri K)) := by
  refine ab_enter (ls := [some (.ref 8), some (.int p0), some (.int p1), none]) (by decide +kernel) (Nat.le_of_ble_eq_true rfl) rfl (fun C => ?_)
  unfold wX8_refusalToEvict at h
  refine g_aload_n (n := 1) dX8_refusalToEvict_0 rfl rfl rfl ?_
  refine g_getR (n := 4) (k := 0) dX8_refusalToEvict_1 sC_8 vc_12 (Nat.le_of_ble_eq_true rfl) rfl w_399 rfl ?_
  refine g_iload_n (n := 5) dX8_refusalToEvict_4 rfl rfl rfl ?_
  refine g_iload_n (n := 6) dX8_refusalToEvict_5 rfl rfl rfl ?_
  refine g_callV (n := 9) (as := [.int p0, .int p1]) (bc' := 0) (bs' := 0) sC_9 vc_8 (ctX4_hasPage h) okX4_hasPage rfl w_810 w_811 w_812 w_101 dX8_refusalToEvict_6 rfl rfl (Nat.le_of_ble_eq_true rfl) (Nat.le_of_ble_eq_true rfl) (Nat.le_of_ble_eq_true rfl) (Nat.le_of_ble_eq_true rfl) rfl (fun E sh1 I1 A1 hp _ => hp.2.elim) (fun ro sh_ I_1 A_2 hp hle => ?_)
  obtain ⟨rfl, r_3, rfl, h⟩ := hp
  refine g_if_ne (n := 12) 14 dX8_refusalToEvict_9 (by decide) rfl (fun hc => ?_) (fun hc => ?_)
  · have h := h.1 hc
    refine g_iload_n (n := 15) dX8_refusalToEvict_14 rfl rfl rfl ?_
    refine g_iload_n (n := 16) dX8_refusalToEvict_15 rfl rfl rfl ?_
    refine g_callSN (n := 19) (as := [.int p0, .int p1]) (bc' := 0) (bs' := 0) (ctX11_idOf h) okX11_idOf (ab_ngm 10 rfl) w_757 dX8_refusalToEvict_16 rfl rfl (Nat.le_of_ble_eq_true rfl) (Nat.le_of_ble_eq_true rfl) (Nat.le_of_ble_eq_true rfl) (Nat.le_of_ble_eq_true rfl) rfl (fun E sh1 I1 A1 hp _ => hp.2.elim) (fun ro sh_ I_4 A_5 hp hle => ?_)
    obtain ⟨rfl, r_6, rfl, h⟩ := hp
    refine g_istore_n (n := 20) (ls' := [some (.ref 8), some (.int p0), some (.int p1), some (.int r_6)]) dX8_refusalToEvict_19 rfl rfl (Nat.le_of_ble_eq_true rfl) (Nat.le_of_ble_eq_true rfl) rfl rfl ?_
    refine g_aload_n (n := 21) dX8_refusalToEvict_20 rfl rfl rfl ?_
    refine g_getR (n := 24) (k := 0) dX8_refusalToEvict_21 sC_8 vc_12 (Nat.le_of_ble_eq_true rfl) rfl w_399 rfl ?_
    refine g_getR (n := 27) (k := 5) dX8_refusalToEvict_24 sC_9 vc_8 (Nat.le_of_ble_eq_true rfl) rfl w_251 rfl ?_
    refine g_iload_n (n := 28) dX8_refusalToEvict_27 rfl rfl rfl ?_
    obtain ⟨j_7, hj, hl, h⟩ := h
    refine g_ialdJ (n := 29) (j := j_7) (x := (A_5 14 j_7)) dX8_refusalToEvict_28 sC_14 hj hl (by decide) rfl rfl ?_
    refine g_iconst (n := 30) (v := (-1 : Int32)) dX8_refusalToEvict_29 rfl rfl ?_
    refine g_icmp_ne (n := 33) 35 dX8_refusalToEvict_30 (by decide) rfl (fun hc => ?_) (fun hc => ?_)
    · have h := h.1 hc
      refine g_aload_n (n := 36) dX8_refusalToEvict_35 rfl rfl rfl ?_
      refine g_getR (n := 39) (k := 0) dX8_refusalToEvict_36 sC_8 vc_12 (Nat.le_of_ble_eq_true rfl) rfl w_399 rfl ?_
      refine g_iload_n (n := 40) dX8_refusalToEvict_39 rfl rfl rfl ?_
      refine g_callV (n := 43) (as := [.int r_6]) (bc' := 0) (bs' := 0) sC_9 vc_8 (ctX4_isDirty h) okX4_isDirty rfl w_834 w_835 w_836 w_101 dX8_refusalToEvict_40 rfl rfl (Nat.le_of_ble_eq_true rfl) (Nat.le_of_ble_eq_true rfl) (Nat.le_of_ble_eq_true rfl) (Nat.le_of_ble_eq_true rfl) rfl (fun E sh1 I1 A1 hp _ => hp.2.elim) (fun ro sh_ I_8 A_9 hp hle => ?_)
      obtain ⟨rfl, r_10, rfl, h⟩ := hp
      refine g_if_eq (n := 46) 58 dX8_refusalToEvict_43 (by decide) rfl (fun hc => ?_) (fun hc => ?_)
      · have h := h.1 hc
        refine g_iconst (n := 59) (v := (nI 0)) dX8_refusalToEvict_58 rfl rfl ?_
        exact g_iret rfl rfl dX8_refusalToEvict_59 ⟨rfl, _, rfl, h⟩
      · have h := h.2 hc
        refine g_aload_n (n := 47) dX8_refusalToEvict_46 rfl rfl rfl ?_
        refine g_callV (n := 50) (as := []) (bc' := 0) (bs' := 0) sC_8 vc_12 (ctX8_nextFree h) okX8_nextFree rfl w_838 w_839 w_840 w_100 dX8_refusalToEvict_47 rfl rfl (Nat.le_of_ble_eq_true rfl) (Nat.le_of_ble_eq_true rfl) (Nat.le_of_ble_eq_true rfl) (Nat.le_of_ble_eq_true rfl) rfl (fun E sh1 I1 A1 hp _ => hp.2.elim) (fun ro sh_ I_11 A_12 hp hle => ?_)
        obtain ⟨rfl, r_13, rfl, h⟩ := hp
        refine g_iconst (n := 51) (v := (-1 : Int32)) dX8_refusalToEvict_50 rfl rfl ?_
        refine g_icmp_ne (n := 54) 58 dX8_refusalToEvict_51 (by decide) rfl (fun hc => ?_) (fun hc => ?_)
        · have h := h.1 hc
          refine g_iconst (n := 59) (v := (nI 0)) dX8_refusalToEvict_58 rfl rfl ?_
          exact g_iret rfl rfl dX8_refusalToEvict_59 ⟨rfl, _, rfl, h⟩
        · have h := h.2 hc
          refine g_iconst (n := 55) (v := (nI 3)) dX8_refusalToEvict_54 rfl rfl ?_
          refine g_goto 59 dX8_refusalToEvict_55 (by decide) ?_
          exact g_iret rfl rfl dX8_refusalToEvict_59 ⟨rfl, _, rfl, h⟩
    · have h := h.2 hc
      refine g_iconst (n := 34) (v := (nI 5)) dX8_refusalToEvict_33 rfl rfl ?_
      exact g_iret rfl rfl dX8_refusalToEvict_34 ⟨rfl, _, rfl, h⟩
  · have h := h.2 hc
    refine g_iconst (n := 13) (v := (nI 1)) dX8_refusalToEvict_12 rfl rfl ?_
    exact g_iret rfl rfl dX8_refusalToEvict_13 ⟨rfl, _, rfl, h⟩
def wX6_refusal (K : Int32 → ab_F → ab_F → Prop) (I A : ab_F) (p1 : Int32) : Prop := (((p1).toInt = 0 → wX8_refusalToRead (fun r_6 I_4 A_5 => K r_6 I_4 A_5) I A (A 7 0) (A 7 1)) ∧ ((p1).toInt = 1 → wX8_refusalToWrite (fun r_9 I_7 A_8 => K r_9 I_7 A_8) I A (A 7 0) (A 7 1)) ∧ ((p1).toInt = 2 → wX8_refusalToStart (fun r_12 I_10 A_11 => K r_12 I_10 A_11) I A (A 7 0)) ∧ ((p1).toInt = 3 → wX8_refusalToFlush (fun r_15 I_13 A_14 => K r_15 I_13 A_14) I A (A 7 0)) ∧ ((p1).toInt = 4 → wX8_refusalToCommit (fun r_18 I_16 A_17 => K r_18 I_16 A_17) I A ) ∧ ((p1).toInt = 5 → wX8_refusalToAbandon (fun r_21 I_19 A_20 => K r_21 I_19 A_20) I A ) ∧ ((p1).toInt = 6 → K (nI 0) I A) ∧ ((p1).toInt = 7 → wX8_refusalToRestore (fun r_24 I_22 A_23 => K r_24 I_22 A_23) I A (A 7 0)) ∧ ((p1).toInt < 0 ∨ 7 < (p1).toInt → wX8_refusalToEvict (fun r_3 I_1 A_2 => K r_3 I_1 A_2) I A (A 7 0) (A 7 1)))
set_option maxRecDepth 20000 in
theorem ctX6_refusal {Z : ab_Z} {K : Int32 → ab_F → ab_F → Prop} {I A : ab_F} {p1 : Int32} (h : wX6_refusal K I A p1) : ab_Cl mX6_refusal 5 0 0 [.ref 6, .ref 8, .int p1] (shC Z) I A (ab_Px (shC Z) ab_no (ab_ri K)) := by
  refine ab_enter (ls := [some (.ref 6), some (.ref 8), some (.int p1)]) (by decide +kernel) (Nat.le_of_ble_eq_true rfl) rfl (fun C => ?_)
  unfold wX6_refusal at h
  refine g_iload_n (n := 1) dX6_refusal_0 rfl rfl rfl ?_
  by_cases hc0 : (p1).toInt = 0
  · have h := h.1 hc0
    refine g_tableIn 48 dX6_refusal_1 (by rw [hc0]; decide) (by rw [hc0]; decide) (by rw [hc0]; rfl) (by decide) ?_
    refine g_aload_n (n := 49) dX6_refusal_48 rfl rfl rfl ?_
    refine g_aload_n (n := 50) dX6_refusal_49 rfl rfl rfl ?_
    refine g_getR (n := 53) (k := 1) dX6_refusal_50 sC_6 vc_10 (Nat.le_of_ble_eq_true rfl) rfl w_219 rfl ?_
    refine g_iconst (n := 54) (v := (nI 0)) dX6_refusal_53 rfl rfl ?_
    refine g_ialdJ (n := 55) (j := 0) (x := (A 7 0)) dX6_refusal_54 sC_7 rfl (Nat.le_of_ble_eq_true rfl) (by decide) rfl rfl ?_
    refine g_aload_n (n := 56) dX6_refusal_55 rfl rfl rfl ?_
    refine g_getR (n := 59) (k := 1) dX6_refusal_56 sC_6 vc_10 (Nat.le_of_ble_eq_true rfl) rfl w_219 rfl ?_
    refine g_iconst (n := 60) (v := (nI 1)) dX6_refusal_59 rfl rfl ?_
    refine g_ialdJ (n := 61) (j := 1) (x := (A 7 1)) dX6_refusal_60 sC_7 rfl (Nat.le_of_ble_eq_true rfl) (by decide) rfl rfl ?_
    refine g_callV (n := 64) (as := [.int (A 7 0), .int (A 7 1)]) (bc' := 0) (bs' := 0) sC_8 vc_12 (ctX8_refusalToRead h) okX8_refusalToRead rfl w_806 w_807 w_808 w_100 dX6_refusal_61 rfl rfl (Nat.le_of_ble_eq_true rfl) (Nat.le_of_ble_eq_true rfl) (Nat.le_of_ble_eq_true rfl) (Nat.le_of_ble_eq_true rfl) rfl (fun E sh1 I1 A1 hp _ => hp.2.elim) (fun ro sh_ I_4 A_5 hp hle => ?_)
    obtain ⟨rfl, r_6, rfl, h⟩ := hp
    exact g_iret rfl rfl dX6_refusal_64 ⟨rfl, _, rfl, h⟩
  by_cases hc1 : (p1).toInt = 1
  · have h := h.2.1 hc1
    refine g_tableIn 65 dX6_refusal_1 (by rw [hc1]; decide) (by rw [hc1]; decide) (by rw [hc1]; rfl) (by decide) ?_
    refine g_aload_n (n := 66) dX6_refusal_65 rfl rfl rfl ?_
    refine g_aload_n (n := 67) dX6_refusal_66 rfl rfl rfl ?_
    refine g_getR (n := 70) (k := 1) dX6_refusal_67 sC_6 vc_10 (Nat.le_of_ble_eq_true rfl) rfl w_219 rfl ?_
    refine g_iconst (n := 71) (v := (nI 0)) dX6_refusal_70 rfl rfl ?_
    refine g_ialdJ (n := 72) (j := 0) (x := (A 7 0)) dX6_refusal_71 sC_7 rfl (Nat.le_of_ble_eq_true rfl) (by decide) rfl rfl ?_
    refine g_aload_n (n := 73) dX6_refusal_72 rfl rfl rfl ?_
    refine g_getR (n := 76) (k := 1) dX6_refusal_73 sC_6 vc_10 (Nat.le_of_ble_eq_true rfl) rfl w_219 rfl ?_
    refine g_iconst (n := 77) (v := (nI 1)) dX6_refusal_76 rfl rfl ?_
    refine g_ialdJ (n := 78) (j := 1) (x := (A 7 1)) dX6_refusal_77 sC_7 rfl (Nat.le_of_ble_eq_true rfl) (by decide) rfl rfl ?_
    refine g_callV (n := 81) (as := [.int (A 7 0), .int (A 7 1)]) (bc' := 0) (bs' := 0) sC_8 vc_12 (ctX8_refusalToWrite h) okX8_refusalToWrite rfl w_850 w_851 w_852 w_100 dX6_refusal_78 rfl rfl (Nat.le_of_ble_eq_true rfl) (Nat.le_of_ble_eq_true rfl) (Nat.le_of_ble_eq_true rfl) (Nat.le_of_ble_eq_true rfl) rfl (fun E sh1 I1 A1 hp _ => hp.2.elim) (fun ro sh_ I_7 A_8 hp hle => ?_)
    obtain ⟨rfl, r_9, rfl, h⟩ := hp
    exact g_iret rfl rfl dX6_refusal_81 ⟨rfl, _, rfl, h⟩
  by_cases hc2 : (p1).toInt = 2
  · have h := h.2.2.1 hc2
    refine g_tableIn 82 dX6_refusal_1 (by rw [hc2]; decide) (by rw [hc2]; decide) (by rw [hc2]; rfl) (by decide) ?_
    refine g_aload_n (n := 83) dX6_refusal_82 rfl rfl rfl ?_
    refine g_aload_n (n := 84) dX6_refusal_83 rfl rfl rfl ?_
    refine g_getR (n := 87) (k := 1) dX6_refusal_84 sC_6 vc_10 (Nat.le_of_ble_eq_true rfl) rfl w_219 rfl ?_
    refine g_iconst (n := 88) (v := (nI 0)) dX6_refusal_87 rfl rfl ?_
    refine g_ialdJ (n := 89) (j := 0) (x := (A 7 0)) dX6_refusal_88 sC_7 rfl (Nat.le_of_ble_eq_true rfl) (by decide) rfl rfl ?_
    refine g_callV (n := 92) (as := [.int (A 7 0)]) (bc' := 0) (bs' := 0) sC_8 vc_12 (ctX8_refusalToStart h) okX8_refusalToStart rfl w_854 w_855 w_856 w_100 dX6_refusal_89 rfl rfl (Nat.le_of_ble_eq_true rfl) (Nat.le_of_ble_eq_true rfl) (Nat.le_of_ble_eq_true rfl) (Nat.le_of_ble_eq_true rfl) rfl (fun E sh1 I1 A1 hp _ => hp.2.elim) (fun ro sh_ I_10 A_11 hp hle => ?_)
    obtain ⟨rfl, r_12, rfl, h⟩ := hp
    exact g_iret rfl rfl dX6_refusal_92 ⟨rfl, _, rfl, h⟩
  by_cases hc3 : (p1).toInt = 3
  · have h := h.2.2.2.1 hc3
    refine g_tableIn 93 dX6_refusal_1 (by rw [hc3]; decide) (by rw [hc3]; decide) (by rw [hc3]; rfl) (by decide) ?_
    refine g_aload_n (n := 94) dX6_refusal_93 rfl rfl rfl ?_
    refine g_aload_n (n := 95) dX6_refusal_94 rfl rfl rfl ?_
    refine g_getR (n := 98) (k := 1) dX6_refusal_95 sC_6 vc_10 (Nat.le_of_ble_eq_true rfl) rfl w_219 rfl ?_
    refine g_iconst (n := 99) (v := (nI 0)) dX6_refusal_98 rfl rfl ?_
    refine g_ialdJ (n := 100) (j := 0) (x := (A 7 0)) dX6_refusal_99 sC_7 rfl (Nat.le_of_ble_eq_true rfl) (by decide) rfl rfl ?_
    refine g_callV (n := 103) (as := [.int (A 7 0)]) (bc' := 0) (bs' := 0) sC_8 vc_12 (ctX8_refusalToFlush h) okX8_refusalToFlush rfl w_866 w_867 w_868 w_100 dX6_refusal_100 rfl rfl (Nat.le_of_ble_eq_true rfl) (Nat.le_of_ble_eq_true rfl) (Nat.le_of_ble_eq_true rfl) (Nat.le_of_ble_eq_true rfl) rfl (fun E sh1 I1 A1 hp _ => hp.2.elim) (fun ro sh_ I_13 A_14 hp hle => ?_)
    obtain ⟨rfl, r_15, rfl, h⟩ := hp
    exact g_iret rfl rfl dX6_refusal_103 ⟨rfl, _, rfl, h⟩
  by_cases hc4 : (p1).toInt = 4
  · have h := h.2.2.2.2.1 hc4
    refine g_tableIn 104 dX6_refusal_1 (by rw [hc4]; decide) (by rw [hc4]; decide) (by rw [hc4]; rfl) (by decide) ?_
    refine g_aload_n (n := 105) dX6_refusal_104 rfl rfl rfl ?_
    refine g_callV (n := 108) (as := []) (bc' := 0) (bs' := 0) sC_8 vc_12 (ctX8_refusalToCommit h) okX8_refusalToCommit rfl w_870 w_871 w_872 w_100 dX6_refusal_105 rfl rfl (Nat.le_of_ble_eq_true rfl) (Nat.le_of_ble_eq_true rfl) (Nat.le_of_ble_eq_true rfl) (Nat.le_of_ble_eq_true rfl) rfl (fun E sh1 I1 A1 hp _ => hp.2.elim) (fun ro sh_ I_16 A_17 hp hle => ?_)
    obtain ⟨rfl, r_18, rfl, h⟩ := hp
    exact g_iret rfl rfl dX6_refusal_108 ⟨rfl, _, rfl, h⟩
  by_cases hc5 : (p1).toInt = 5
  · have h := h.2.2.2.2.2.1 hc5
    refine g_tableIn 109 dX6_refusal_1 (by rw [hc5]; decide) (by rw [hc5]; decide) (by rw [hc5]; rfl) (by decide) ?_
    refine g_aload_n (n := 110) dX6_refusal_109 rfl rfl rfl ?_
    refine g_callV (n := 113) (as := []) (bc' := 0) (bs' := 0) sC_8 vc_12 (ctX8_refusalToAbandon h) okX8_refusalToAbandon rfl w_878 w_879 w_880 w_100 dX6_refusal_110 rfl rfl (Nat.le_of_ble_eq_true rfl) (Nat.le_of_ble_eq_true rfl) (Nat.le_of_ble_eq_true rfl) (Nat.le_of_ble_eq_true rfl) rfl (fun E sh1 I1 A1 hp _ => hp.2.elim) (fun ro sh_ I_19 A_20 hp hle => ?_)
    obtain ⟨rfl, r_21, rfl, h⟩ := hp
    exact g_iret rfl rfl dX6_refusal_113 ⟨rfl, _, rfl, h⟩
  by_cases hc6 : (p1).toInt = 6
  · have h := h.2.2.2.2.2.2.1 hc6
    refine g_tableIn 114 dX6_refusal_1 (by rw [hc6]; decide) (by rw [hc6]; decide) (by rw [hc6]; rfl) (by decide) ?_
    refine g_iconst (n := 115) (v := (nI 0)) dX6_refusal_114 rfl rfl ?_
    exact g_iret rfl rfl dX6_refusal_115 ⟨rfl, _, rfl, h⟩
  by_cases hc7 : (p1).toInt = 7
  · have h := h.2.2.2.2.2.2.2.1 hc7
    refine g_tableIn 116 dX6_refusal_1 (by rw [hc7]; decide) (by rw [hc7]; decide) (by rw [hc7]; rfl) (by decide) ?_
    refine g_aload_n (n := 117) dX6_refusal_116 rfl rfl rfl ?_
    refine g_aload_n (n := 118) dX6_refusal_117 rfl rfl rfl ?_
    refine g_getR (n := 121) (k := 1) dX6_refusal_118 sC_6 vc_10 (Nat.le_of_ble_eq_true rfl) rfl w_219 rfl ?_
    refine g_iconst (n := 122) (v := (nI 0)) dX6_refusal_121 rfl rfl ?_
    refine g_ialdJ (n := 123) (j := 0) (x := (A 7 0)) dX6_refusal_122 sC_7 rfl (Nat.le_of_ble_eq_true rfl) (by decide) rfl rfl ?_
    refine g_callV (n := 126) (as := [.int (A 7 0)]) (bc' := 0) (bs' := 0) sC_8 vc_12 (ctX8_refusalToRestore h) okX8_refusalToRestore rfl w_882 w_883 w_884 w_100 dX6_refusal_123 rfl rfl (Nat.le_of_ble_eq_true rfl) (Nat.le_of_ble_eq_true rfl) (Nat.le_of_ble_eq_true rfl) (Nat.le_of_ble_eq_true rfl) rfl (fun E sh1 I1 A1 hp _ => hp.2.elim) (fun ro sh_ I_22 A_23 hp hle => ?_)
    obtain ⟨rfl, r_24, rfl, h⟩ := hp
    exact g_iret rfl rfl dX6_refusal_126 ⟨rfl, _, rfl, h⟩
  have hc : (p1).toInt < 0 ∨ 7 < (p1).toInt := by omega
  have h := h.2.2.2.2.2.2.2.2 hc
  refine g_tableOut 127 dX6_refusal_1 hc (by decide) ?_
  refine g_aload_n (n := 128) dX6_refusal_127 rfl rfl rfl ?_
  refine g_aload_n (n := 129) dX6_refusal_128 rfl rfl rfl ?_
  refine g_getR (n := 132) (k := 1) dX6_refusal_129 sC_6 vc_10 (Nat.le_of_ble_eq_true rfl) rfl w_219 rfl ?_
  refine g_iconst (n := 133) (v := (nI 0)) dX6_refusal_132 rfl rfl ?_
  refine g_ialdJ (n := 134) (j := 0) (x := (A 7 0)) dX6_refusal_133 sC_7 rfl (Nat.le_of_ble_eq_true rfl) (by decide) rfl rfl ?_
  refine g_aload_n (n := 135) dX6_refusal_134 rfl rfl rfl ?_
  refine g_getR (n := 138) (k := 1) dX6_refusal_135 sC_6 vc_10 (Nat.le_of_ble_eq_true rfl) rfl w_219 rfl ?_
  refine g_iconst (n := 139) (v := (nI 1)) dX6_refusal_138 rfl rfl ?_
  refine g_ialdJ (n := 140) (j := 1) (x := (A 7 1)) dX6_refusal_139 sC_7 rfl (Nat.le_of_ble_eq_true rfl) (by decide) rfl rfl ?_
  refine g_callV (n := 143) (as := [.int (A 7 0), .int (A 7 1)]) (bc' := 0) (bs' := 0) sC_8 vc_12 (ctX8_refusalToEvict h) okX8_refusalToEvict rfl w_891 w_892 w_893 w_100 dX6_refusal_140 rfl rfl (Nat.le_of_ble_eq_true rfl) (Nat.le_of_ble_eq_true rfl) (Nat.le_of_ble_eq_true rfl) (Nat.le_of_ble_eq_true rfl) rfl (fun E sh1 I1 A1 hp _ => hp.2.elim) (fun ro sh_ I_1 A_2 hp hle => ?_)
  obtain ⟨rfl, r_3, rfl, h⟩ := hp
  exact g_iret rfl rfl dX6_refusal_143 ⟨rfl, _, rfl, h⟩
def wX7_put (K : ab_F → ab_F → Prop) (I A : ab_F) (p0 : Int32) (p1 : Int32) (p2 : Int32) (p3 : Int32) : Prop := (∃ j_1 : Nat, p0 = nI j_1 ∧ j_1 < 48 ∧ (∃ j_2 : Nat, p0 = nI j_2 ∧ j_2 < 48 ∧ (∃ j_3 : Nat, p0 = nI j_3 ∧ j_3 < 48 ∧ K (wr I 20 1 ((I 20 1) + (nI 1))) (wr (wr (wr A 21 j_1 p2) 22 j_2 p1) 23 j_3 p3))))
set_option maxRecDepth 20000 in
theorem ctX7_put {Z : ab_Z} {K : ab_F → ab_F → Prop} {I A : ab_F} {p0 : Int32} {p1 : Int32} {p2 : Int32} {p3 : Int32} (h : wX7_put K I A p0 p1 p2 p3) : ab_Cl mX7_put 0 0 0 [.ref 20, .int p0, .int p1, .int p2, .int p3] (shC Z) I A (ab_Px (shC Z) ab_no (ab_rv K)) := by
  refine ab_enter (ls := [some (.ref 20), some (.int p0), some (.int p1), some (.int p2), some (.int p3)]) (by decide +kernel) (Nat.le_of_ble_eq_true rfl) rfl (fun C => ?_)
  unfold wX7_put at h
  refine g_aload_n (n := 1) dX7_put_0 rfl rfl rfl ?_
  refine g_getR (n := 4) (k := 2) dX7_put_1 sC_20 vc_11 (Nat.le_of_ble_eq_true rfl) rfl w_314 rfl ?_
  refine g_iload_n (n := 5) dX7_put_4 rfl rfl rfl ?_
  refine g_iload_n (n := 6) dX7_put_5 rfl rfl rfl ?_
  obtain ⟨j_1, hj, hl, h⟩ := h
  refine g_iastJ (n := 7) (j := j_1) dX7_put_6 sC_21 hj hl (by decide) rfl ?_
  refine g_aload_n (n := 8) dX7_put_7 rfl rfl rfl ?_
  refine g_getR (n := 11) (k := 3) dX7_put_8 sC_20 vc_11 (Nat.le_of_ble_eq_true rfl) rfl w_317 rfl ?_
  refine g_iload_n (n := 12) dX7_put_11 rfl rfl rfl ?_
  refine g_iload_n (n := 13) dX7_put_12 rfl rfl rfl ?_
  obtain ⟨j_2, hj, hl, h⟩ := h
  refine g_iastJ (n := 14) (j := j_2) dX7_put_13 sC_22 hj hl (by decide) rfl ?_
  refine g_aload_n (n := 15) dX7_put_14 rfl rfl rfl ?_
  refine g_getR (n := 18) (k := 4) dX7_put_15 sC_20 vc_11 (Nat.le_of_ble_eq_true rfl) rfl w_319 rfl ?_
  refine g_iload_n (n := 19) dX7_put_18 rfl rfl rfl ?_
  refine g_iload (n := 21) dX7_put_19 rfl rfl ?_
  obtain ⟨j_3, hj, hl, h⟩ := h
  refine g_iastJ (n := 22) (j := j_3) dX7_put_21 sC_23 hj hl (by decide) rfl ?_
  refine g_aload_n (n := 23) dX7_put_22 rfl rfl rfl ?_
  refine g_dup (n := 24) dX7_put_23 rfl rfl ?_
  refine g_getIE (n := 27) (k := 1) (x := (I 20 1)) dX7_put_24 sC_20 vc_11 (Nat.le_of_ble_eq_true rfl) rfl w_312 rfl rfl ?_
  refine g_iconst (n := 28) (v := (nI 1)) dX7_put_27 rfl rfl ?_
  refine g_iadd (n := 29) dX7_put_28 rfl ?_
  refine g_putI (n := 32) (k := 1) dX7_put_29 sC_20 vc_11 (Nat.le_of_ble_eq_true rfl) rfl w_312 rfl rfl rfl rfl rfl ?_
  exact g_vret rfl dX7_put_32 ⟨rfl, rfl, h⟩
def wX8_writeOut (K : ab_F → ab_F → Prop) (I A : ab_F) (p0 : Int32) (p1 : Int32) : Prop := ((¬ p1 = (-1 : Int32) → (∃ j_1 : Nat, p0 = nI j_1 ∧ j_1 < 48 ∧ wX7_put (fun I_2 A_3 => (∃ j_4 : Nat, p0 = nI j_4 ∧ j_4 < 48 ∧ wX4_makeClean (fun I_5 A_6 => (∃ j_7 : Nat, p0 = nI j_7 ∧ j_7 < 48 ∧ ((¬ (A_6 25 j_7) = (-2 : Int32) → K I_5 A_6) ∧ ((A_6 25 j_7) = (-2 : Int32) → (∃ j_8 : Nat, p0 = nI j_8 ∧ j_8 < 48 ∧ K I_5 (wr A_6 25 j_8 p1)))))) I_2 (wr A_3 15 j_4 p1) p0)) I A p1 p0 (A 13 j_1) (I 24 0))) ∧ (p1 = (-1 : Int32) → K I A))
set_option maxRecDepth 20000 in
theorem ctX8_writeOut {Z : ab_Z} {K : ab_F → ab_F → Prop} {I A : ab_F} {p0 : Int32} {p1 : Int32} (h : wX8_writeOut K I A p0 p1) : ab_Cl mX8_writeOut 1 0 0 [.ref 8, .int p0, .int p1] (shC Z) I A (ab_Px (shC Z) ab_no (ab_rv K)) := by
  refine ab_enter (ls := [some (.ref 8), some (.int p0), some (.int p1)]) (by decide +kernel) (Nat.le_of_ble_eq_true rfl) rfl (fun C => ?_)
  unfold wX8_writeOut at h
  refine g_iload_n (n := 1) dX8_writeOut_0 rfl rfl rfl ?_
  refine g_iconst (n := 2) (v := (-1 : Int32)) dX8_writeOut_1 rfl rfl ?_
  refine g_icmp_ne (n := 5) 6 dX8_writeOut_2 (by decide) rfl (fun hc => ?_) (fun hc => ?_)
  · have h := h.1 hc
    refine g_aload_n (n := 7) dX8_writeOut_6 rfl rfl rfl ?_
    refine g_getR (n := 10) (k := 2) dX8_writeOut_7 sC_8 vc_12 (Nat.le_of_ble_eq_true rfl) rfl w_403 rfl ?_
    refine g_iload_n (n := 11) dX8_writeOut_10 rfl rfl rfl ?_
    refine g_iload_n (n := 12) dX8_writeOut_11 rfl rfl rfl ?_
    refine g_aload_n (n := 13) dX8_writeOut_12 rfl rfl rfl ?_
    refine g_getR (n := 16) (k := 0) dX8_writeOut_13 sC_8 vc_12 (Nat.le_of_ble_eq_true rfl) rfl w_399 rfl ?_
    refine g_getR (n := 19) (k := 4) dX8_writeOut_16 sC_9 vc_8 (Nat.le_of_ble_eq_true rfl) rfl w_248 rfl ?_
    refine g_iload_n (n := 20) dX8_writeOut_19 rfl rfl rfl ?_
    obtain ⟨j_1, hj, hl, h⟩ := h
    refine g_ialdJ (n := 21) (j := j_1) (x := (A 13 j_1)) dX8_writeOut_20 sC_13 hj hl (by decide) rfl rfl ?_
    refine g_aload_n (n := 22) dX8_writeOut_21 rfl rfl rfl ?_
    refine g_getR (n := 25) (k := 3) dX8_writeOut_22 sC_8 vc_12 (Nat.le_of_ble_eq_true rfl) rfl w_405 rfl ?_
    refine g_getIE (n := 28) (k := 0) (x := (I 24 0)) dX8_writeOut_25 sC_24 vc_5 (Nat.le_of_ble_eq_true rfl) rfl w_341 rfl rfl ?_
    refine g_callV (n := 31) (as := [.int p1, .int p0, .int (A 13 j_1), .int (I 24 0)]) (bc' := 0) (bs' := 0) sC_20 vc_11 (ctX7_put h) okX7_put rfl w_916 w_917 w_918 w_103 dX8_writeOut_28 rfl rfl (Nat.le_of_ble_eq_true rfl) (Nat.le_of_ble_eq_true rfl) (Nat.le_of_ble_eq_true rfl) (Nat.le_of_ble_eq_true rfl) rfl (fun E sh1 I1 A1 hp _ => hp.2.elim) (fun ro sh_ I_2 A_3 hp hle => ?_)
    obtain ⟨rfl, rfl, h⟩ := hp
    refine g_aload_n (n := 32) dX8_writeOut_31 rfl rfl rfl ?_
    refine g_getR (n := 35) (k := 0) dX8_writeOut_32 sC_8 vc_12 (Nat.le_of_ble_eq_true rfl) rfl w_399 rfl ?_
    refine g_getR (n := 38) (k := 6) dX8_writeOut_35 sC_9 vc_8 (Nat.le_of_ble_eq_true rfl) rfl w_254 rfl ?_
    refine g_iload_n (n := 39) dX8_writeOut_38 rfl rfl rfl ?_
    refine g_iload_n (n := 40) dX8_writeOut_39 rfl rfl rfl ?_
    obtain ⟨j_4, hj, hl, h⟩ := h
    refine g_iastJ (n := 41) (j := j_4) dX8_writeOut_40 sC_15 hj hl (by decide) rfl ?_
    refine g_aload_n (n := 42) dX8_writeOut_41 rfl rfl rfl ?_
    refine g_getR (n := 45) (k := 0) dX8_writeOut_42 sC_8 vc_12 (Nat.le_of_ble_eq_true rfl) rfl w_399 rfl ?_
    refine g_iload_n (n := 46) dX8_writeOut_45 rfl rfl rfl ?_
    refine g_callV (n := 49) (as := [.int p0]) (bc' := 0) (bs' := 0) sC_9 vc_8 (ctX4_makeClean h) okX4_makeClean rfl w_767 w_768 w_769 w_101 dX8_writeOut_46 rfl rfl (Nat.le_of_ble_eq_true rfl) (Nat.le_of_ble_eq_true rfl) (Nat.le_of_ble_eq_true rfl) (Nat.le_of_ble_eq_true rfl) rfl (fun E sh1 I1 A1 hp _ => hp.2.elim) (fun ro sh_ I_5 A_6 hp hle => ?_)
    obtain ⟨rfl, rfl, h⟩ := hp
    refine g_aload_n (n := 50) dX8_writeOut_49 rfl rfl rfl ?_
    refine g_getR (n := 53) (k := 3) dX8_writeOut_50 sC_8 vc_12 (Nat.le_of_ble_eq_true rfl) rfl w_405 rfl ?_
    refine g_getR (n := 56) (k := 4) dX8_writeOut_53 sC_24 vc_5 (Nat.le_of_ble_eq_true rfl) rfl w_350 rfl ?_
    refine g_iload_n (n := 57) dX8_writeOut_56 rfl rfl rfl ?_
    obtain ⟨j_7, hj, hl, h⟩ := h
    refine g_ialdJ (n := 58) (j := j_7) (x := (A_6 25 j_7)) dX8_writeOut_57 sC_25 hj hl (by decide) rfl rfl ?_
    refine g_bipush (n := 60) (v := (-2 : Int32)) dX8_writeOut_58 rfl rfl ?_
    refine g_icmp_ne (n := 63) 73 dX8_writeOut_60 (by decide) rfl (fun hc => ?_) (fun hc => ?_)
    · have h := h.1 hc
      exact g_vret rfl dX8_writeOut_73 ⟨rfl, rfl, h⟩
    · have h := h.2 hc
      refine g_aload_n (n := 64) dX8_writeOut_63 rfl rfl rfl ?_
      refine g_getR (n := 67) (k := 3) dX8_writeOut_64 sC_8 vc_12 (Nat.le_of_ble_eq_true rfl) rfl w_405 rfl ?_
      refine g_getR (n := 70) (k := 4) dX8_writeOut_67 sC_24 vc_5 (Nat.le_of_ble_eq_true rfl) rfl w_350 rfl ?_
      refine g_iload_n (n := 71) dX8_writeOut_70 rfl rfl rfl ?_
      refine g_iload_n (n := 72) dX8_writeOut_71 rfl rfl rfl ?_
      obtain ⟨j_8, hj, hl, h⟩ := h
      refine g_iastJ (n := 73) (j := j_8) dX8_writeOut_72 sC_25 hj hl (by decide) rfl ?_
      exact g_vret rfl dX8_writeOut_73 ⟨rfl, rfl, h⟩
  · have h := h.2 hc
    exact g_vret rfl dX8_writeOut_5 ⟨rfl, rfl, h⟩
def wX8_leaveFrame (K : ab_F → ab_F → Prop) (I A : ab_F) (p0 : Int32) : Prop := (∃ j_1 : Nat, p0 = nI j_1 ∧ j_1 < 48 ∧ (∀ y_2 : Int32, y_2 = (A 14 j_1) → ((y_2 = (-1 : Int32) → K I A) ∧ (¬ y_2 = (-1 : Int32) → (∃ j_3 : Nat, y_2 = nI j_3 ∧ j_3 < 16 ∧ (∃ j_4 : Nat, p0 = nI j_4 ∧ j_4 < 48 ∧ K I (wr (wr A 17 j_3 (-1 : Int32)) 14 j_4 (-1 : Int32))))))))
set_option maxRecDepth 20000 in
theorem ctX8_leaveFrame {Z : ab_Z} {K : ab_F → ab_F → Prop} {I A : ab_F} {p0 : Int32} (h : wX8_leaveFrame K I A p0) : ab_Cl mX8_leaveFrame 0 0 0 [.ref 8, .int p0] (shC Z) I A (ab_Px (shC Z) ab_no (ab_rv K)) := by
  refine ab_enter (ls := [some (.ref 8), some (.int p0), none]) (by decide +kernel) (Nat.le_of_ble_eq_true rfl) rfl (fun C => ?_)
  unfold wX8_leaveFrame at h
  refine g_aload_n (n := 1) dX8_leaveFrame_0 rfl rfl rfl ?_
  refine g_getR (n := 4) (k := 0) dX8_leaveFrame_1 sC_8 vc_12 (Nat.le_of_ble_eq_true rfl) rfl w_399 rfl ?_
  refine g_getR (n := 7) (k := 5) dX8_leaveFrame_4 sC_9 vc_8 (Nat.le_of_ble_eq_true rfl) rfl w_251 rfl ?_
  refine g_iload_n (n := 8) dX8_leaveFrame_7 rfl rfl rfl ?_
  obtain ⟨j_1, hj, hl, h⟩ := h
  refine g_ialdJ (n := 9) (j := j_1) (x := (A 14 j_1)) dX8_leaveFrame_8 sC_14 hj hl (by decide) rfl rfl ?_
  refine g_topi (fun y_2 ey_2 => ?_)
  have h := h y_2 ey_2
  refine g_istore_n (n := 10) (ls' := [some (.ref 8), some (.int p0), some (.int y_2)]) dX8_leaveFrame_9 rfl rfl (Nat.le_of_ble_eq_true rfl) (Nat.le_of_ble_eq_true rfl) rfl rfl ?_
  refine g_iload_n (n := 11) dX8_leaveFrame_10 rfl rfl rfl ?_
  refine g_iconst (n := 12) (v := (-1 : Int32)) dX8_leaveFrame_11 rfl rfl ?_
  refine g_icmp_eq (n := 15) 35 dX8_leaveFrame_12 (by decide) rfl (fun hc => ?_) (fun hc => ?_)
  · have h := h.1 hc
    exact g_vret rfl dX8_leaveFrame_35 ⟨rfl, rfl, h⟩
  · have h := h.2 hc
    refine g_aload_n (n := 16) dX8_leaveFrame_15 rfl rfl rfl ?_
    refine g_getR (n := 19) (k := 1) dX8_leaveFrame_16 sC_8 vc_12 (Nat.le_of_ble_eq_true rfl) rfl w_401 rfl ?_
    refine g_getR (n := 22) (k := 2) dX8_leaveFrame_19 sC_16 vc_6 (Nat.le_of_ble_eq_true rfl) rfl w_284 rfl ?_
    refine g_iload_n (n := 23) dX8_leaveFrame_22 rfl rfl rfl ?_
    refine g_iconst (n := 24) (v := (-1 : Int32)) dX8_leaveFrame_23 rfl rfl ?_
    obtain ⟨j_3, hj, hl, h⟩ := h
    refine g_iastJ (n := 25) (j := j_3) dX8_leaveFrame_24 sC_17 hj hl (by decide) rfl ?_
    refine g_aload_n (n := 26) dX8_leaveFrame_25 rfl rfl rfl ?_
    refine g_getR (n := 29) (k := 0) dX8_leaveFrame_26 sC_8 vc_12 (Nat.le_of_ble_eq_true rfl) rfl w_399 rfl ?_
    refine g_getR (n := 32) (k := 5) dX8_leaveFrame_29 sC_9 vc_8 (Nat.le_of_ble_eq_true rfl) rfl w_251 rfl ?_
    refine g_iload_n (n := 33) dX8_leaveFrame_32 rfl rfl rfl ?_
    refine g_iconst (n := 34) (v := (-1 : Int32)) dX8_leaveFrame_33 rfl rfl ?_
    obtain ⟨j_4, hj, hl, h⟩ := h
    refine g_iastJ (n := 35) (j := j_4) dX8_leaveFrame_34 sC_14 hj hl (by decide) rfl ?_
    exact g_vret rfl dX8_leaveFrame_35 ⟨rfl, rfl, h⟩
def wjX8_evict_20 (K : Int32 → ab_F → ab_F → Prop) (x1 : Int32) (I A : ab_F) : Prop := wX8_leaveFrame (fun I_4 A_5 => (∃ j_6 : Nat, x1 = nI j_6 ∧ j_6 < 48 ∧ K (A_5 15 j_6) I_4 A_5)) I A x1
def wX8_evict (K : Int32 → ab_F → ab_F → Prop) (I A : ab_F) (p0 : Int32) : Prop := wX4_isDirty (fun r_3 I_1 A_2 => ((r_3 = 0 → wjX8_evict_20 K p0 I_1 A_2) ∧ (¬ r_3 = 0 → wX8_nextFree (fun r_9 I_7 A_8 => wX8_writeOut (fun I_10 A_11 => wjX8_evict_20 K p0 I_10 A_11) I_7 A_8 p0 r_9) I_1 A_2 ))) I A p0
set_option maxRecDepth 20000 in
theorem tjX8_evict_20 {C : ab_X} {Z : ab_Z} {K : Int32 → ab_F → ab_F → Prop} (x1 : Int32) (I A : ab_F) (h : wjX8_evict_20 K x1 I A) : ab_G mX8_evict 2 C (ab_Px (shC Z) ab_no (ab_ri K)) 20 [some (.ref 8), some (.int x1)] [] (shC Z) I A 0 0 := by
  unfold wjX8_evict_20 at h
  refine g_aload_n (n := 21) dX8_evict_20 rfl rfl rfl ?_
  refine g_iload_n (n := 22) dX8_evict_21 rfl rfl rfl ?_
  refine g_callV (n := 25) (as := [.int x1]) (bc' := 0) (bs' := 0) sC_8 vc_12 (ctX8_leaveFrame h) okX8_leaveFrame rfl w_763 w_765 w_7 w_100 dX8_evict_22 rfl rfl (Nat.le_of_ble_eq_true rfl) (Nat.le_of_ble_eq_true rfl) (Nat.le_of_ble_eq_true rfl) (Nat.le_of_ble_eq_true rfl) rfl (fun E sh1 I1 A1 hp _ => hp.2.elim) (fun ro sh_ I_4 A_5 hp hle => ?_)
  obtain ⟨rfl, rfl, h⟩ := hp
  refine g_aload_n (n := 26) dX8_evict_25 rfl rfl rfl ?_
  refine g_getR (n := 29) (k := 0) dX8_evict_26 sC_8 vc_12 (Nat.le_of_ble_eq_true rfl) rfl w_399 rfl ?_
  refine g_getR (n := 32) (k := 6) dX8_evict_29 sC_9 vc_8 (Nat.le_of_ble_eq_true rfl) rfl w_254 rfl ?_
  refine g_iload_n (n := 33) dX8_evict_32 rfl rfl rfl ?_
  obtain ⟨j_6, hj, hl, h⟩ := h
  refine g_ialdJ (n := 34) (j := j_6) (x := (A_5 15 j_6)) dX8_evict_33 sC_15 hj hl (by decide) rfl rfl ?_
  exact g_iret rfl rfl dX8_evict_34 ⟨rfl, _, rfl, h⟩
set_option maxRecDepth 20000 in
theorem ctX8_evict {Z : ab_Z} {K : Int32 → ab_F → ab_F → Prop} {I A : ab_F} {p0 : Int32} (h : wX8_evict K I A p0) : ab_Cl mX8_evict 2 0 0 [.ref 8, .int p0] (shC Z) I A (ab_Px (shC Z) ab_no (ab_ri K)) := by
  refine ab_enter (ls := [some (.ref 8), some (.int p0)]) (by decide +kernel) (Nat.le_of_ble_eq_true rfl) rfl (fun C => ?_)
  unfold wX8_evict at h
  refine g_aload_n (n := 1) dX8_evict_0 rfl rfl rfl ?_
  refine g_getR (n := 4) (k := 0) dX8_evict_1 sC_8 vc_12 (Nat.le_of_ble_eq_true rfl) rfl w_399 rfl ?_
  refine g_iload_n (n := 5) dX8_evict_4 rfl rfl rfl ?_
  refine g_callV (n := 8) (as := [.int p0]) (bc' := 0) (bs' := 0) sC_9 vc_8 (ctX4_isDirty h) okX4_isDirty rfl w_834 w_835 w_836 w_101 dX8_evict_5 rfl rfl (Nat.le_of_ble_eq_true rfl) (Nat.le_of_ble_eq_true rfl) (Nat.le_of_ble_eq_true rfl) (Nat.le_of_ble_eq_true rfl) rfl (fun E sh1 I1 A1 hp _ => hp.2.elim) (fun ro sh_ I_1 A_2 hp hle => ?_)
  obtain ⟨rfl, r_3, rfl, h⟩ := hp
  refine g_if_eq (n := 11) 20 dX8_evict_8 (by decide) rfl (fun hc => ?_) (fun hc => ?_)
  · have h := h.1 hc
    refine g_less (bc' := 0) (bs' := 0) (Nat.le_of_ble_eq_true rfl) (Nat.le_of_ble_eq_true rfl) ?_
    exact tjX8_evict_20  _ _ _ h
  · have h := h.2 hc
    refine g_aload_n (n := 12) dX8_evict_11 rfl rfl rfl ?_
    refine g_iload_n (n := 13) dX8_evict_12 rfl rfl rfl ?_
    refine g_aload_n (n := 14) dX8_evict_13 rfl rfl rfl ?_
    refine g_callV (n := 17) (as := []) (bc' := 0) (bs' := 0) sC_8 vc_12 (ctX8_nextFree h) okX8_nextFree rfl w_838 w_839 w_840 w_100 dX8_evict_14 rfl rfl (Nat.le_of_ble_eq_true rfl) (Nat.le_of_ble_eq_true rfl) (Nat.le_of_ble_eq_true rfl) (Nat.le_of_ble_eq_true rfl) rfl (fun E sh1 I1 A1 hp _ => hp.2.elim) (fun ro sh_ I_7 A_8 hp hle => ?_)
    obtain ⟨rfl, r_9, rfl, h⟩ := hp
    refine g_callV (n := 20) (as := [.int p0, .int r_9]) (bc' := 0) (bs' := 0) sC_8 vc_12 (ctX8_writeOut h) okX8_writeOut rfl w_912 w_914 w_16 w_100 dX8_evict_17 rfl rfl (Nat.le_of_ble_eq_true rfl) (Nat.le_of_ble_eq_true rfl) (Nat.le_of_ble_eq_true rfl) (Nat.le_of_ble_eq_true rfl) rfl (fun E sh1 I1 A1 hp _ => hp.2.elim) (fun ro sh_ I_10 A_11 hp hle => ?_)
    obtain ⟨rfl, rfl, h⟩ := hp
    refine g_less (bc' := 0) (bs' := 0) (Nat.le_of_ble_eq_true rfl) (Nat.le_of_ble_eq_true rfl) ?_
    exact tjX8_evict_20  _ _ _ h
def wjX8_makeRoom_21 (K : ab_F → ab_F → Prop) (s0 : Int32) (I A : ab_F) : Prop := ((s0 = (-1 : Int32) → K I A) ∧ (¬ s0 = (-1 : Int32) → (∃ j_2 : Nat, s0 = nI j_2 ∧ j_2 < 16 ∧ wX8_evict (fun r_5 I_3 A_4 => K I_3 A_4) I A (A 17 j_2))))
def wX8_makeRoom (K : ab_F → ab_F → Prop) (I A : ab_F) (p0 : Int32) : Prop := (∃ j_1 : Nat, p0 = nI j_1 ∧ j_1 < 48 ∧ ((¬ (A 14 j_1) = (-1 : Int32) → wjX8_makeRoom_21 K (-1 : Int32) I A) ∧ ((A 14 j_1) = (-1 : Int32) → wX8_nextVictim (fun r_8 I_6 A_7 => wjX8_makeRoom_21 K r_8 I_6 A_7) I A )))
set_option maxRecDepth 20000 in
theorem tjX8_makeRoom_21 {C : ab_X} {Z : ab_Z} {K : ab_F → ab_F → Prop} (s0 : Int32) (I A : ab_F) (h : wjX8_makeRoom_21 K s0 I A) : ab_G mX8_makeRoom 3 C (ab_Px (shC Z) ab_no (ab_rv K)) 21 [some (.ref 8), none, none] [.int s0] (shC Z) I A 0 0 := by
  unfold wjX8_makeRoom_21 at h
  refine g_istore_n (n := 22) (ls' := [some (.ref 8), none, some (.int s0)]) dX8_makeRoom_21 rfl rfl (Nat.le_of_ble_eq_true rfl) (Nat.le_of_ble_eq_true rfl) rfl rfl ?_
  refine g_iload_n (n := 23) dX8_makeRoom_22 rfl rfl rfl ?_
  refine g_iconst (n := 24) (v := (-1 : Int32)) dX8_makeRoom_23 rfl rfl ?_
  refine g_icmp_eq (n := 27) 41 dX8_makeRoom_24 (by decide) rfl (fun hc => ?_) (fun hc => ?_)
  · have h := h.1 hc
    exact g_vret rfl dX8_makeRoom_41 ⟨rfl, rfl, h⟩
  · have h := h.2 hc
    refine g_aload_n (n := 28) dX8_makeRoom_27 rfl rfl rfl ?_
    refine g_aload_n (n := 29) dX8_makeRoom_28 rfl rfl rfl ?_
    refine g_getR (n := 32) (k := 1) dX8_makeRoom_29 sC_8 vc_12 (Nat.le_of_ble_eq_true rfl) rfl w_401 rfl ?_
    refine g_getR (n := 35) (k := 2) dX8_makeRoom_32 sC_16 vc_6 (Nat.le_of_ble_eq_true rfl) rfl w_284 rfl ?_
    refine g_iload_n (n := 36) dX8_makeRoom_35 rfl rfl rfl ?_
    obtain ⟨j_2, hj, hl, h⟩ := h
    refine g_ialdJ (n := 37) (j := j_2) (x := (A 17 j_2)) dX8_makeRoom_36 sC_17 hj hl (by decide) rfl rfl ?_
    refine g_callV (n := 40) (as := [.int (A 17 j_2)]) (bc' := 0) (bs' := 0) sC_8 vc_12 (ctX8_evict h) okX8_evict rfl w_908 w_909 w_910 w_100 dX8_makeRoom_37 rfl rfl (Nat.le_of_ble_eq_true rfl) (Nat.le_of_ble_eq_true rfl) (Nat.le_of_ble_eq_true rfl) (Nat.le_of_ble_eq_true rfl) rfl (fun E sh1 I1 A1 hp _ => hp.2.elim) (fun ro sh_ I_3 A_4 hp hle => ?_)
    obtain ⟨rfl, r_5, rfl, h⟩ := hp
    refine g_pop (n := 41) dX8_makeRoom_40 rfl rfl ?_
    exact g_vret rfl dX8_makeRoom_41 ⟨rfl, rfl, h⟩
set_option maxRecDepth 20000 in
theorem ctX8_makeRoom {Z : ab_Z} {K : ab_F → ab_F → Prop} {I A : ab_F} {p0 : Int32} (h : wX8_makeRoom K I A p0) : ab_Cl mX8_makeRoom 3 0 0 [.ref 8, .int p0] (shC Z) I A (ab_Px (shC Z) ab_no (ab_rv K)) := by
  refine ab_enter (ls := [some (.ref 8), some (.int p0), none]) (by decide +kernel) (Nat.le_of_ble_eq_true rfl) rfl (fun C => ?_)
  unfold wX8_makeRoom at h
  refine g_aload_n (n := 1) dX8_makeRoom_0 rfl rfl rfl ?_
  refine g_getR (n := 4) (k := 0) dX8_makeRoom_1 sC_8 vc_12 (Nat.le_of_ble_eq_true rfl) rfl w_399 rfl ?_
  refine g_getR (n := 7) (k := 5) dX8_makeRoom_4 sC_9 vc_8 (Nat.le_of_ble_eq_true rfl) rfl w_251 rfl ?_
  refine g_iload_n (n := 8) dX8_makeRoom_7 rfl rfl rfl ?_
  obtain ⟨j_1, hj, hl, h⟩ := h
  refine g_ialdJ (n := 9) (j := j_1) (x := (A 14 j_1)) dX8_makeRoom_8 sC_14 hj hl (by decide) rfl rfl ?_
  refine g_iconst (n := 10) (v := (-1 : Int32)) dX8_makeRoom_9 rfl rfl ?_
  refine g_icmp_ne (n := 13) 20 dX8_makeRoom_10 (by decide) rfl (fun hc => ?_) (fun hc => ?_)
  · have h := h.1 hc
    refine g_iconst (n := 21) (v := (-1 : Int32)) dX8_makeRoom_20 rfl rfl ?_
    refine g_forget (ls' := [some (.ref 8), none, none]) (ab_fg rfl) ?_
    refine g_less (bc' := 0) (bs' := 0) (Nat.le_of_ble_eq_true rfl) (Nat.le_of_ble_eq_true rfl) ?_
    exact tjX8_makeRoom_21  _ _ _ h
  · have h := h.2 hc
    refine g_aload_n (n := 14) dX8_makeRoom_13 rfl rfl rfl ?_
    refine g_callV (n := 17) (as := []) (bc' := 0) (bs' := 0) sC_8 vc_12 (ctX8_nextVictim h) okX8_nextVictim rfl w_822 w_823 w_824 w_100 dX8_makeRoom_14 rfl rfl (Nat.le_of_ble_eq_true rfl) (Nat.le_of_ble_eq_true rfl) (Nat.le_of_ble_eq_true rfl) (Nat.le_of_ble_eq_true rfl) rfl (fun E sh1 I1 A1 hp _ => hp.2.elim) (fun ro sh_ I_6 A_7 hp hle => ?_)
    obtain ⟨rfl, r_8, rfl, h⟩ := hp
    refine g_goto 21 dX8_makeRoom_17 (by decide) ?_
    refine g_forget (ls' := [some (.ref 8), none, none]) (ab_fg rfl) ?_
    refine g_less (bc' := 0) (bs' := 0) (Nat.le_of_ble_eq_true rfl) (Nat.le_of_ble_eq_true rfl) ?_
    exact tjX8_makeRoom_21  _ _ _ h
def wX8_load (K : ab_F → ab_F → Prop) (I A : ab_F) (p0 : Int32) : Prop := wX2_firstFree (fun r_3 I_1 A_2 => ((r_3 = (-1 : Int32) → K I_1 A_2) ∧ (¬ r_3 = (-1 : Int32) → (∃ j_4 : Nat, r_3 = nI j_4 ∧ j_4 < 16 ∧ (∃ j_5 : Nat, r_3 = nI j_5 ∧ j_5 < 16 ∧ (∃ j_6 : Nat, p0 = nI j_6 ∧ j_6 < 48 ∧ K I_1 (wr (wr (wr A_2 17 j_4 p0) 19 j_5 (I_1 29 0)) 14 j_6 r_3))))))) I A 
set_option maxRecDepth 20000 in
theorem ctX8_load {Z : ab_Z} {K : ab_F → ab_F → Prop} {I A : ab_F} {p0 : Int32} (h : wX8_load K I A p0) : ab_Cl mX8_load 1 0 0 [.ref 8, .int p0] (shC Z) I A (ab_Px (shC Z) ab_no (ab_rv K)) := by
  refine ab_enter (ls := [some (.ref 8), some (.int p0), none]) (by decide +kernel) (Nat.le_of_ble_eq_true rfl) rfl (fun C => ?_)
  unfold wX8_load at h
  refine g_aload_n (n := 1) dX8_load_0 rfl rfl rfl ?_
  refine g_getR (n := 4) (k := 1) dX8_load_1 sC_8 vc_12 (Nat.le_of_ble_eq_true rfl) rfl w_401 rfl ?_
  refine g_callV (n := 7) (as := []) (bc' := 0) (bs' := 0) sC_16 vc_6 (ctX2_firstFree h) okX2_firstFree rfl w_826 w_827 w_828 w_102 dX8_load_4 rfl rfl (Nat.le_of_ble_eq_true rfl) (Nat.le_of_ble_eq_true rfl) (Nat.le_of_ble_eq_true rfl) (Nat.le_of_ble_eq_true rfl) rfl (fun E sh1 I1 A1 hp _ => hp.2.elim) (fun ro sh_ I_1 A_2 hp hle => ?_)
  obtain ⟨rfl, r_3, rfl, h⟩ := hp
  refine g_istore_n (n := 8) (ls' := [some (.ref 8), some (.int p0), some (.int r_3)]) dX8_load_7 rfl rfl (Nat.le_of_ble_eq_true rfl) (Nat.le_of_ble_eq_true rfl) rfl rfl ?_
  refine g_iload_n (n := 9) dX8_load_8 rfl rfl rfl ?_
  refine g_iconst (n := 10) (v := (-1 : Int32)) dX8_load_9 rfl rfl ?_
  refine g_icmp_eq (n := 13) 49 dX8_load_10 (by decide) rfl (fun hc => ?_) (fun hc => ?_)
  · have h := h.1 hc
    exact g_vret rfl dX8_load_49 ⟨rfl, rfl, h⟩
  · have h := h.2 hc
    refine g_aload_n (n := 14) dX8_load_13 rfl rfl rfl ?_
    refine g_getR (n := 17) (k := 1) dX8_load_14 sC_8 vc_12 (Nat.le_of_ble_eq_true rfl) rfl w_401 rfl ?_
    refine g_getR (n := 20) (k := 2) dX8_load_17 sC_16 vc_6 (Nat.le_of_ble_eq_true rfl) rfl w_284 rfl ?_
    refine g_iload_n (n := 21) dX8_load_20 rfl rfl rfl ?_
    refine g_iload_n (n := 22) dX8_load_21 rfl rfl rfl ?_
    obtain ⟨j_4, hj, hl, h⟩ := h
    refine g_iastJ (n := 23) (j := j_4) dX8_load_22 sC_17 hj hl (by decide) rfl ?_
    refine g_aload_n (n := 24) dX8_load_23 rfl rfl rfl ?_
    refine g_getR (n := 27) (k := 1) dX8_load_24 sC_8 vc_12 (Nat.le_of_ble_eq_true rfl) rfl w_401 rfl ?_
    refine g_getR (n := 30) (k := 4) dX8_load_27 sC_16 vc_6 (Nat.le_of_ble_eq_true rfl) rfl w_290 rfl ?_
    refine g_iload_n (n := 31) dX8_load_30 rfl rfl rfl ?_
    refine g_aload_n (n := 32) dX8_load_31 rfl rfl rfl ?_
    refine g_getR (n := 35) (k := 4) dX8_load_32 sC_8 vc_12 (Nat.le_of_ble_eq_true rfl) rfl w_407 rfl ?_
    refine g_getIE (n := 38) (k := 0) (x := (I_1 29 0)) dX8_load_35 sC_29 vc_4 (Nat.le_of_ble_eq_true rfl) rfl w_382 rfl rfl ?_
    obtain ⟨j_5, hj, hl, h⟩ := h
    refine g_iastJ (n := 39) (j := j_5) dX8_load_38 sC_19 hj hl (by decide) rfl ?_
    refine g_aload_n (n := 40) dX8_load_39 rfl rfl rfl ?_
    refine g_getR (n := 43) (k := 0) dX8_load_40 sC_8 vc_12 (Nat.le_of_ble_eq_true rfl) rfl w_399 rfl ?_
    refine g_getR (n := 46) (k := 5) dX8_load_43 sC_9 vc_8 (Nat.le_of_ble_eq_true rfl) rfl w_251 rfl ?_
    refine g_iload_n (n := 47) dX8_load_46 rfl rfl rfl ?_
    refine g_iload_n (n := 48) dX8_load_47 rfl rfl rfl ?_
    obtain ⟨j_6, hj, hl, h⟩ := h
    refine g_iastJ (n := 49) (j := j_6) dX8_load_48 sC_14 hj hl (by decide) rfl ?_
    exact g_vret rfl dX8_load_49 ⟨rfl, rfl, h⟩
def wjX8_access_39 (K : ab_F → ab_F → Prop) (x1 : Int32) (I A : ab_F) : Prop := (∃ j_4 : Nat, x1 = nI j_4 ∧ j_4 < 48 ∧ (∀ y_5 : Int32, y_5 = (A 14 j_4) → ((y_5 = (-1 : Int32) → K I A) ∧ (¬ y_5 = (-1 : Int32) → (∃ j_6 : Nat, y_5 = nI j_6 ∧ j_6 < 16 ∧ K I (wr A 18 j_6 (I 29 0)))))))
def wX8_access (K : ab_F → ab_F → Prop) (I A : ab_F) (p0 : Int32) : Prop := wX0_add (fun I_1 A_2 => (∃ j_3 : Nat, p0 = nI j_3 ∧ j_3 < 48 ∧ ((¬ (A_2 14 j_3) = (-1 : Int32) → wjX8_access_39 K p0 I_1 A_2) ∧ ((A_2 14 j_3) = (-1 : Int32) → wX8_load (fun I_7 A_8 => wjX8_access_39 K p0 I_7 A_8) (wr I_1 29 1 ((I_1 29 1) + (nI 1))) A_2 p0)))) I A p0
set_option maxRecDepth 20000 in
theorem tjX8_access_39 {C : ab_X} {Z : ab_Z} {K : ab_F → ab_F → Prop} (x1 : Int32) (I A : ab_F) (h : wjX8_access_39 K x1 I A) : ab_G mX8_access 2 C (ab_Px (shC Z) ab_no (ab_rv K)) 39 [some (.ref 8), some (.int x1), none] [] (shC Z) I A 0 0 := by
  unfold wjX8_access_39 at h
  refine g_aload_n (n := 40) dX8_access_39 rfl rfl rfl ?_
  refine g_getR (n := 43) (k := 0) dX8_access_40 sC_8 vc_12 (Nat.le_of_ble_eq_true rfl) rfl w_399 rfl ?_
  refine g_getR (n := 46) (k := 5) dX8_access_43 sC_9 vc_8 (Nat.le_of_ble_eq_true rfl) rfl w_251 rfl ?_
  refine g_iload_n (n := 47) dX8_access_46 rfl rfl rfl ?_
  obtain ⟨j_4, hj, hl, h⟩ := h
  refine g_ialdJ (n := 48) (j := j_4) (x := (A 14 j_4)) dX8_access_47 sC_14 hj hl (by decide) rfl rfl ?_
  refine g_topi (fun y_5 ey_5 => ?_)
  have h := h y_5 ey_5
  refine g_istore_n (n := 49) (ls' := [some (.ref 8), some (.int x1), some (.int y_5)]) dX8_access_48 rfl rfl (Nat.le_of_ble_eq_true rfl) (Nat.le_of_ble_eq_true rfl) rfl rfl ?_
  refine g_iload_n (n := 50) dX8_access_49 rfl rfl rfl ?_
  refine g_iconst (n := 51) (v := (-1 : Int32)) dX8_access_50 rfl rfl ?_
  refine g_icmp_eq (n := 54) 70 dX8_access_51 (by decide) rfl (fun hc => ?_) (fun hc => ?_)
  · have h := h.1 hc
    exact g_vret rfl dX8_access_70 ⟨rfl, rfl, h⟩
  · have h := h.2 hc
    refine g_aload_n (n := 55) dX8_access_54 rfl rfl rfl ?_
    refine g_getR (n := 58) (k := 1) dX8_access_55 sC_8 vc_12 (Nat.le_of_ble_eq_true rfl) rfl w_401 rfl ?_
    refine g_getR (n := 61) (k := 3) dX8_access_58 sC_16 vc_6 (Nat.le_of_ble_eq_true rfl) rfl w_287 rfl ?_
    refine g_iload_n (n := 62) dX8_access_61 rfl rfl rfl ?_
    refine g_aload_n (n := 63) dX8_access_62 rfl rfl rfl ?_
    refine g_getR (n := 66) (k := 4) dX8_access_63 sC_8 vc_12 (Nat.le_of_ble_eq_true rfl) rfl w_407 rfl ?_
    refine g_getIE (n := 69) (k := 0) (x := (I 29 0)) dX8_access_66 sC_29 vc_4 (Nat.le_of_ble_eq_true rfl) rfl w_382 rfl rfl ?_
    obtain ⟨j_6, hj, hl, h⟩ := h
    refine g_iastJ (n := 70) (j := j_6) dX8_access_69 sC_18 hj hl (by decide) rfl ?_
    exact g_vret rfl dX8_access_70 ⟨rfl, rfl, h⟩
set_option maxRecDepth 20000 in
theorem ctX8_access {Z : ab_Z} {K : ab_F → ab_F → Prop} {I A : ab_F} {p0 : Int32} (h : wX8_access K I A p0) : ab_Cl mX8_access 2 0 0 [.ref 8, .int p0] (shC Z) I A (ab_Px (shC Z) ab_no (ab_rv K)) := by
  refine ab_enter (ls := [some (.ref 8), some (.int p0), none]) (by decide +kernel) (Nat.le_of_ble_eq_true rfl) rfl (fun C => ?_)
  unfold wX8_access at h
  refine g_aload_n (n := 1) dX8_access_0 rfl rfl rfl ?_
  refine g_getR (n := 4) (k := 4) dX8_access_1 sC_8 vc_12 (Nat.le_of_ble_eq_true rfl) rfl w_407 rfl ?_
  refine g_iload_n (n := 5) dX8_access_4 rfl rfl rfl ?_
  refine g_callV (n := 8) (as := [.int p0]) (bc' := 0) (bs' := 0) sC_29 vc_4 (ctX0_add h) okX0_add rfl w_924 w_925 w_926 w_105 dX8_access_5 rfl rfl (Nat.le_of_ble_eq_true rfl) (Nat.le_of_ble_eq_true rfl) (Nat.le_of_ble_eq_true rfl) (Nat.le_of_ble_eq_true rfl) rfl (fun E sh1 I1 A1 hp _ => hp.2.elim) (fun ro sh_ I_1 A_2 hp hle => ?_)
  obtain ⟨rfl, rfl, h⟩ := hp
  refine g_aload_n (n := 9) dX8_access_8 rfl rfl rfl ?_
  refine g_getR (n := 12) (k := 0) dX8_access_9 sC_8 vc_12 (Nat.le_of_ble_eq_true rfl) rfl w_399 rfl ?_
  refine g_getR (n := 15) (k := 5) dX8_access_12 sC_9 vc_8 (Nat.le_of_ble_eq_true rfl) rfl w_251 rfl ?_
  refine g_iload_n (n := 16) dX8_access_15 rfl rfl rfl ?_
  obtain ⟨j_3, hj, hl, h⟩ := h
  refine g_ialdJ (n := 17) (j := j_3) (x := (A_2 14 j_3)) dX8_access_16 sC_14 hj hl (by decide) rfl rfl ?_
  refine g_iconst (n := 18) (v := (-1 : Int32)) dX8_access_17 rfl rfl ?_
  refine g_icmp_ne (n := 21) 39 dX8_access_18 (by decide) rfl (fun hc => ?_) (fun hc => ?_)
  · have h := h.1 hc
    refine g_less (bc' := 0) (bs' := 0) (Nat.le_of_ble_eq_true rfl) (Nat.le_of_ble_eq_true rfl) ?_
    exact tjX8_access_39  _ _ _ h
  · have h := h.2 hc
    refine g_aload_n (n := 22) dX8_access_21 rfl rfl rfl ?_
    refine g_getR (n := 25) (k := 4) dX8_access_22 sC_8 vc_12 (Nat.le_of_ble_eq_true rfl) rfl w_407 rfl ?_
    refine g_dup (n := 26) dX8_access_25 rfl rfl ?_
    refine g_getIE (n := 29) (k := 1) (x := (I_1 29 1)) dX8_access_26 sC_29 vc_4 (Nat.le_of_ble_eq_true rfl) rfl w_385 rfl rfl ?_
    refine g_iconst (n := 30) (v := (nI 1)) dX8_access_29 rfl rfl ?_
    refine g_iadd (n := 31) dX8_access_30 rfl ?_
    refine g_putI (n := 34) (k := 1) dX8_access_31 sC_29 vc_4 (Nat.le_of_ble_eq_true rfl) rfl w_385 rfl rfl rfl rfl rfl ?_
    refine g_aload_n (n := 35) dX8_access_34 rfl rfl rfl ?_
    refine g_iload_n (n := 36) dX8_access_35 rfl rfl rfl ?_
    refine g_callV (n := 39) (as := [.int p0]) (bc' := 0) (bs' := 0) sC_8 vc_12 (ctX8_load h) okX8_load rfl w_928 w_930 w_18 w_100 dX8_access_36 rfl rfl (Nat.le_of_ble_eq_true rfl) (Nat.le_of_ble_eq_true rfl) (Nat.le_of_ble_eq_true rfl) (Nat.le_of_ble_eq_true rfl) rfl (fun E sh1 I1 A1 hp _ => hp.2.elim) (fun ro sh_ I_7 A_8 hp hle => ?_)
    obtain ⟨rfl, rfl, h⟩ := hp
    refine g_less (bc' := 0) (bs' := 0) (Nat.le_of_ble_eq_true rfl) (Nat.le_of_ble_eq_true rfl) ?_
    exact tjX8_access_39  _ _ _ h
def wX8_read (K : Int32 → ab_F → ab_F → Prop) (I A : ab_F) (p0 : Int32) : Prop := wX8_makeRoom (fun I_1 A_2 => wX8_access (fun I_3 A_4 => (∃ j_5 : Nat, p0 = nI j_5 ∧ j_5 < 48 ∧ K (A_4 13 j_5) I_3 A_4)) I_1 A_2 p0) I A p0
set_option maxRecDepth 20000 in
theorem ctX8_read {Z : ab_Z} {K : Int32 → ab_F → ab_F → Prop} {I A : ab_F} {p0 : Int32} (h : wX8_read K I A p0) : ab_Cl mX8_read 4 0 0 [.ref 8, .int p0] (shC Z) I A (ab_Px (shC Z) ab_no (ab_ri K)) := by
  refine ab_enter (ls := [some (.ref 8), some (.int p0)]) (by decide +kernel) (Nat.le_of_ble_eq_true rfl) rfl (fun C => ?_)
  unfold wX8_read at h
  refine g_aload_n (n := 1) dX8_read_0 rfl rfl rfl ?_
  refine g_iload_n (n := 2) dX8_read_1 rfl rfl rfl ?_
  refine g_callV (n := 5) (as := [.int p0]) (bc' := 0) (bs' := 0) sC_8 vc_12 (ctX8_makeRoom h) okX8_makeRoom rfl w_904 w_906 w_15 w_100 dX8_read_2 rfl rfl (Nat.le_of_ble_eq_true rfl) (Nat.le_of_ble_eq_true rfl) (Nat.le_of_ble_eq_true rfl) (Nat.le_of_ble_eq_true rfl) rfl (fun E sh1 I1 A1 hp _ => hp.2.elim) (fun ro sh_ I_1 A_2 hp hle => ?_)
  obtain ⟨rfl, rfl, h⟩ := hp
  refine g_aload_n (n := 6) dX8_read_5 rfl rfl rfl ?_
  refine g_iload_n (n := 7) dX8_read_6 rfl rfl rfl ?_
  refine g_callV (n := 10) (as := [.int p0]) (bc' := 0) (bs' := 0) sC_8 vc_12 (ctX8_access h) okX8_access rfl w_920 w_922 w_17 w_100 dX8_read_7 rfl rfl (Nat.le_of_ble_eq_true rfl) (Nat.le_of_ble_eq_true rfl) (Nat.le_of_ble_eq_true rfl) (Nat.le_of_ble_eq_true rfl) rfl (fun E sh1 I1 A1 hp _ => hp.2.elim) (fun ro sh_ I_3 A_4 hp hle => ?_)
  obtain ⟨rfl, rfl, h⟩ := hp
  refine g_aload_n (n := 11) dX8_read_10 rfl rfl rfl ?_
  refine g_getR (n := 14) (k := 0) dX8_read_11 sC_8 vc_12 (Nat.le_of_ble_eq_true rfl) rfl w_399 rfl ?_
  refine g_getR (n := 17) (k := 4) dX8_read_14 sC_9 vc_8 (Nat.le_of_ble_eq_true rfl) rfl w_248 rfl ?_
  refine g_iload_n (n := 18) dX8_read_17 rfl rfl rfl ?_
  obtain ⟨j_5, hj, hl, h⟩ := h
  refine g_ialdJ (n := 19) (j := j_5) (x := (A_4 13 j_5)) dX8_read_18 sC_13 hj hl (by decide) rfl rfl ?_
  exact g_iret rfl rfl dX8_read_19 ⟨rfl, _, rfl, h⟩
def wjX8_write_23 (K : Int32 → ab_F → ab_F → Prop) (x1 : Int32) (x2 : Int32) (I A : ab_F) : Prop := wX8_makeRoom (fun I_2 A_3 => wX8_access (fun I_4 A_5 => (∃ j_6 : Nat, x1 = nI j_6 ∧ j_6 < 48 ∧ (∀ y_7 : Int32, y_7 = (A_5 13 j_6) → wX4_store (fun I_8 A_9 => (∃ j_10 : Nat, x1 = nI j_10 ∧ j_10 < 48 ∧ wX4_makeDirty (fun I_11 A_12 => K y_7 I_11 A_12) I_8 (wr A_9 15 j_10 (-1 : Int32)) x1)) I_4 A_5 x1 x2))) I_2 A_3 x1) I A x1
def wX8_write (K : Int32 → ab_F → ab_F → Prop) (I A : ab_F) (p0 : Int32) (p1 : Int32) : Prop := (∃ j_1 : Nat, p0 = nI j_1 ∧ j_1 < 48 ∧ ((¬ (A 25 j_1) = (-2 : Int32) → wjX8_write_23 K p0 p1 I A) ∧ ((A 25 j_1) = (-2 : Int32) → wX8_nextFree (fun r_15 I_13 A_14 => wX8_writeOut (fun I_16 A_17 => wjX8_write_23 K p0 p1 I_16 A_17) I_13 A_14 p0 r_15) I A )))
set_option maxRecDepth 20000 in
theorem tjX8_write_23 {C : ab_X} {Z : ab_Z} {K : Int32 → ab_F → ab_F → Prop} (x1 : Int32) (x2 : Int32) (I A : ab_F) (h : wjX8_write_23 K x1 x2 I A) : ab_G mX8_write 4 C (ab_Px (shC Z) ab_no (ab_ri K)) 23 [some (.ref 8), some (.int x1), some (.int x2), none] [] (shC Z) I A 0 0 := by
  unfold wjX8_write_23 at h
  refine g_aload_n (n := 24) dX8_write_23 rfl rfl rfl ?_
  refine g_iload_n (n := 25) dX8_write_24 rfl rfl rfl ?_
  refine g_callV (n := 28) (as := [.int x1]) (bc' := 0) (bs' := 0) sC_8 vc_12 (ctX8_makeRoom h) okX8_makeRoom rfl w_904 w_906 w_15 w_100 dX8_write_25 rfl rfl (Nat.le_of_ble_eq_true rfl) (Nat.le_of_ble_eq_true rfl) (Nat.le_of_ble_eq_true rfl) (Nat.le_of_ble_eq_true rfl) rfl (fun E sh1 I1 A1 hp _ => hp.2.elim) (fun ro sh_ I_2 A_3 hp hle => ?_)
  obtain ⟨rfl, rfl, h⟩ := hp
  refine g_aload_n (n := 29) dX8_write_28 rfl rfl rfl ?_
  refine g_iload_n (n := 30) dX8_write_29 rfl rfl rfl ?_
  refine g_callV (n := 33) (as := [.int x1]) (bc' := 0) (bs' := 0) sC_8 vc_12 (ctX8_access h) okX8_access rfl w_920 w_922 w_17 w_100 dX8_write_30 rfl rfl (Nat.le_of_ble_eq_true rfl) (Nat.le_of_ble_eq_true rfl) (Nat.le_of_ble_eq_true rfl) (Nat.le_of_ble_eq_true rfl) rfl (fun E sh1 I1 A1 hp _ => hp.2.elim) (fun ro sh_ I_4 A_5 hp hle => ?_)
  obtain ⟨rfl, rfl, h⟩ := hp
  refine g_aload_n (n := 34) dX8_write_33 rfl rfl rfl ?_
  refine g_getR (n := 37) (k := 0) dX8_write_34 sC_8 vc_12 (Nat.le_of_ble_eq_true rfl) rfl w_399 rfl ?_
  refine g_getR (n := 40) (k := 4) dX8_write_37 sC_9 vc_8 (Nat.le_of_ble_eq_true rfl) rfl w_248 rfl ?_
  refine g_iload_n (n := 41) dX8_write_40 rfl rfl rfl ?_
  obtain ⟨j_6, hj, hl, h⟩ := h
  refine g_ialdJ (n := 42) (j := j_6) (x := (A_5 13 j_6)) dX8_write_41 sC_13 hj hl (by decide) rfl rfl ?_
  refine g_topi (fun y_7 ey_7 => ?_)
  have h := h y_7 ey_7
  refine g_istore_n (n := 43) (ls' := [some (.ref 8), some (.int x1), some (.int x2), some (.int y_7)]) dX8_write_42 rfl rfl (Nat.le_of_ble_eq_true rfl) (Nat.le_of_ble_eq_true rfl) rfl rfl ?_
  refine g_aload_n (n := 44) dX8_write_43 rfl rfl rfl ?_
  refine g_getR (n := 47) (k := 0) dX8_write_44 sC_8 vc_12 (Nat.le_of_ble_eq_true rfl) rfl w_399 rfl ?_
  refine g_iload_n (n := 48) dX8_write_47 rfl rfl rfl ?_
  refine g_iload_n (n := 49) dX8_write_48 rfl rfl rfl ?_
  refine g_callV (n := 52) (as := [.int x1, .int x2]) (bc' := 0) (bs' := 0) sC_9 vc_8 (ctX4_store h) okX4_store rfl w_936 w_937 w_938 w_101 dX8_write_49 rfl rfl (Nat.le_of_ble_eq_true rfl) (Nat.le_of_ble_eq_true rfl) (Nat.le_of_ble_eq_true rfl) (Nat.le_of_ble_eq_true rfl) rfl (fun E sh1 I1 A1 hp _ => hp.2.elim) (fun ro sh_ I_8 A_9 hp hle => ?_)
  obtain ⟨rfl, rfl, h⟩ := hp
  refine g_aload_n (n := 53) dX8_write_52 rfl rfl rfl ?_
  refine g_getR (n := 56) (k := 0) dX8_write_53 sC_8 vc_12 (Nat.le_of_ble_eq_true rfl) rfl w_399 rfl ?_
  refine g_getR (n := 59) (k := 6) dX8_write_56 sC_9 vc_8 (Nat.le_of_ble_eq_true rfl) rfl w_254 rfl ?_
  refine g_iload_n (n := 60) dX8_write_59 rfl rfl rfl ?_
  refine g_iconst (n := 61) (v := (-1 : Int32)) dX8_write_60 rfl rfl ?_
  obtain ⟨j_10, hj, hl, h⟩ := h
  refine g_iastJ (n := 62) (j := j_10) dX8_write_61 sC_15 hj hl (by decide) rfl ?_
  refine g_aload_n (n := 63) dX8_write_62 rfl rfl rfl ?_
  refine g_getR (n := 66) (k := 0) dX8_write_63 sC_8 vc_12 (Nat.le_of_ble_eq_true rfl) rfl w_399 rfl ?_
  refine g_iload_n (n := 67) dX8_write_66 rfl rfl rfl ?_
  refine g_callV (n := 70) (as := [.int x1]) (bc' := 0) (bs' := 0) sC_9 vc_8 (ctX4_makeDirty h) okX4_makeDirty rfl w_946 w_947 w_948 w_101 dX8_write_67 rfl rfl (Nat.le_of_ble_eq_true rfl) (Nat.le_of_ble_eq_true rfl) (Nat.le_of_ble_eq_true rfl) (Nat.le_of_ble_eq_true rfl) rfl (fun E sh1 I1 A1 hp _ => hp.2.elim) (fun ro sh_ I_11 A_12 hp hle => ?_)
  obtain ⟨rfl, rfl, h⟩ := hp
  refine g_iload_n (n := 71) dX8_write_70 rfl rfl rfl ?_
  exact g_iret rfl rfl dX8_write_71 ⟨rfl, _, rfl, h⟩
set_option maxRecDepth 20000 in
theorem ctX8_write {Z : ab_Z} {K : Int32 → ab_F → ab_F → Prop} {I A : ab_F} {p0 : Int32} {p1 : Int32} (h : wX8_write K I A p0 p1) : ab_Cl mX8_write 4 0 0 [.ref 8, .int p0, .int p1] (shC Z) I A (ab_Px (shC Z) ab_no (ab_ri K)) := by
  refine ab_enter (ls := [some (.ref 8), some (.int p0), some (.int p1), none]) (by decide +kernel) (Nat.le_of_ble_eq_true rfl) rfl (fun C => ?_)
  unfold wX8_write at h
  refine g_aload_n (n := 1) dX8_write_0 rfl rfl rfl ?_
  refine g_getR (n := 4) (k := 3) dX8_write_1 sC_8 vc_12 (Nat.le_of_ble_eq_true rfl) rfl w_405 rfl ?_
  refine g_getR (n := 7) (k := 4) dX8_write_4 sC_24 vc_5 (Nat.le_of_ble_eq_true rfl) rfl w_350 rfl ?_
  refine g_iload_n (n := 8) dX8_write_7 rfl rfl rfl ?_
  obtain ⟨j_1, hj, hl, h⟩ := h
  refine g_ialdJ (n := 9) (j := j_1) (x := (A 25 j_1)) dX8_write_8 sC_25 hj hl (by decide) rfl rfl ?_
  refine g_bipush (n := 11) (v := (-2 : Int32)) dX8_write_9 rfl rfl ?_
  refine g_icmp_ne (n := 14) 23 dX8_write_11 (by decide) rfl (fun hc => ?_) (fun hc => ?_)
  · have h := h.1 hc
    refine g_less (bc' := 0) (bs' := 0) (Nat.le_of_ble_eq_true rfl) (Nat.le_of_ble_eq_true rfl) ?_
    exact tjX8_write_23  _ _ _ _ h
  · have h := h.2 hc
    refine g_aload_n (n := 15) dX8_write_14 rfl rfl rfl ?_
    refine g_iload_n (n := 16) dX8_write_15 rfl rfl rfl ?_
    refine g_aload_n (n := 17) dX8_write_16 rfl rfl rfl ?_
    refine g_callV (n := 20) (as := []) (bc' := 0) (bs' := 0) sC_8 vc_12 (ctX8_nextFree h) okX8_nextFree rfl w_838 w_839 w_840 w_100 dX8_write_17 rfl rfl (Nat.le_of_ble_eq_true rfl) (Nat.le_of_ble_eq_true rfl) (Nat.le_of_ble_eq_true rfl) (Nat.le_of_ble_eq_true rfl) rfl (fun E sh1 I1 A1 hp _ => hp.2.elim) (fun ro sh_ I_13 A_14 hp hle => ?_)
    obtain ⟨rfl, r_15, rfl, h⟩ := hp
    refine g_callV (n := 23) (as := [.int p0, .int r_15]) (bc' := 0) (bs' := 0) sC_8 vc_12 (ctX8_writeOut h) okX8_writeOut rfl w_912 w_914 w_16 w_100 dX8_write_20 rfl rfl (Nat.le_of_ble_eq_true rfl) (Nat.le_of_ble_eq_true rfl) (Nat.le_of_ble_eq_true rfl) (Nat.le_of_ble_eq_true rfl) rfl (fun E sh1 I1 A1 hp _ => hp.2.elim) (fun ro sh_ I_16 A_17 hp hle => ?_)
    obtain ⟨rfl, rfl, h⟩ := hp
    refine g_less (bc' := 0) (bs' := 0) (Nat.le_of_ble_eq_true rfl) (Nat.le_of_ble_eq_true rfl) ?_
    exact tjX8_write_23  _ _ _ _ h
def wjX8_start_76 (K : Int32 → ab_F → ab_F → Prop) (L23 : Int32 → ab_F → ab_F → Prop) (x2 : Int32) (s0 : Int32) (s1 : Int32) (I A : ab_F) : Prop := (∃ j_11 : Nat, s1 = nI j_11 ∧ j_11 < 48 ∧ L23 (x2 + nI 1) I (wr A 25 j_11 s0))
def wlX8_start_23 (K : Int32 → ab_F → ab_F → Prop) : Nat → Int32 → ab_F → ab_F → Prop
  | 0, _, _, _ => False
  | n + 1, x2, I, A => (((nI 48) ≤ x2 → wX1_countPending (fun r_3 I_1 A_2 => K (r_3) (wr I_1 24 2 r_3) A_2) I A ) ∧ (¬ (nI 48) ≤ x2 → wX1_covers (fun r_6 I_4 A_5 => ((r_6 = 0 → (wlX8_start_23 K n) (x2 + nI 1) I_4 A_5) ∧ (¬ r_6 = 0 → wX4_isDirty (fun r_9 I_7 A_8 => ((r_9 = 0 → (∃ j_10 : Nat, x2 = nI j_10 ∧ j_10 < 48 ∧ wjX8_start_76 K (wlX8_start_23 K n) x2 (A_8 15 j_10) x2 I_7 A_8)) ∧ (¬ r_9 = 0 → wjX8_start_76 K (wlX8_start_23 K n) x2 (-2 : Int32) x2 I_7 A_8))) I_4 A_5 x2))) I A (x2 / (nI 8))))
def wX8_start (K : Int32 → ab_F → ab_F → Prop) (I A : ab_F) (p0 : Int32) : Prop := (∃ nf : Nat, wlX8_start_23 K nf (nI 0) (wr (wr I 24 0 ((I 24 0) + (nI 1))) 24 1 p0) A)
set_option maxRecDepth 20000 in
theorem tjX8_start_76 {C : ab_X} {Z : ab_Z} {K : Int32 → ab_F → ab_F → Prop} {L23 : Int32 → ab_F → ab_F → Prop} (hL23 : ∀ (x2 : Int32) (I A : ab_F), L23 x2 I A → ab_G mX8_start 1 C (ab_Px (shC Z) ab_no (ab_ri K)) 23 [some (.ref 8), none, some (.int x2)] [] (shC Z) I A 0 0) (x2 : Int32) (s0 : Int32) (s1 : Int32) (I A : ab_F) (h : wjX8_start_76 K L23 x2 s0 s1 I A) : ab_G mX8_start 1 C (ab_Px (shC Z) ab_no (ab_ri K)) 76 [some (.ref 8), none, some (.int x2)] [.int s0, .int s1, .ref 25] (shC Z) I A 0 0 := by
  unfold wjX8_start_76 at h
  obtain ⟨j_11, hj, hl, h⟩ := h
  refine g_iastJ (n := 77) (j := j_11) dX8_start_76 sC_25 hj hl (by decide) rfl ?_
  refine g_iinc (n := 80) (v := (x2 + nI 1)) (ls' := [some (.ref 8), none, some (.int (x2 + nI 1))]) dX8_start_77 rfl rfl rfl (Nat.le_of_ble_eq_true rfl) rfl rfl ?_
  refine g_goto 23 dX8_start_80 (by decide) ?_
  exact hL23 _ _ _ h
set_option maxRecDepth 20000 in
theorem tlX8_start_23 {C : ab_X} {Z : ab_Z} {K : Int32 → ab_F → ab_F → Prop} : ∀ (n : Nat) (x2 : Int32) (I A : ab_F), wlX8_start_23 K n x2 I A → ab_G mX8_start 1 C (ab_Px (shC Z) ab_no (ab_ri K)) 23 [some (.ref 8), none, some (.int x2)] [] (shC Z) I A 0 0 := by
  intro n
  induction n with
  | zero => intro x2 I A h; exact h.elim
  | succ n hL23 =>
    intro x2 I A h
    rw [wlX8_start_23] at h
    refine g_iload_n (n := 24) dX8_start_23 rfl rfl rfl ?_
    refine g_bipush (n := 26) (v := (nI 48)) dX8_start_24 rfl rfl ?_
    refine g_icmp_ge (n := 29) 83 dX8_start_26 (by decide) rfl (fun hc => ?_) (fun hc => ?_)
    · have h := h.1 hc
      refine g_aload_n (n := 84) dX8_start_83 rfl rfl rfl ?_
      refine g_getR (n := 87) (k := 3) dX8_start_84 sC_8 vc_12 (Nat.le_of_ble_eq_true rfl) rfl w_405 rfl ?_
      refine g_aload_n (n := 88) dX8_start_87 rfl rfl rfl ?_
      refine g_getR (n := 91) (k := 3) dX8_start_88 sC_8 vc_12 (Nat.le_of_ble_eq_true rfl) rfl w_405 rfl ?_
      refine g_callV (n := 94) (as := []) (bc' := 0) (bs' := 0) sC_24 vc_5 (ctX1_countPending h) okX1_countPending rfl w_874 w_875 w_876 w_104 dX8_start_91 rfl rfl (Nat.le_of_ble_eq_true rfl) (Nat.le_of_ble_eq_true rfl) (Nat.le_of_ble_eq_true rfl) (Nat.le_of_ble_eq_true rfl) rfl (fun E sh1 I1 A1 hp _ => hp.2.elim) (fun ro sh_ I_1 A_2 hp hle => ?_)
      obtain ⟨rfl, r_3, rfl, h⟩ := hp
      refine g_putI (n := 97) (k := 2) dX8_start_94 sC_24 vc_5 (Nat.le_of_ble_eq_true rfl) rfl w_346 rfl rfl rfl rfl rfl ?_
      refine g_aload_n (n := 98) dX8_start_97 rfl rfl rfl ?_
      refine g_getR (n := 101) (k := 3) dX8_start_98 sC_8 vc_12 (Nat.le_of_ble_eq_true rfl) rfl w_405 rfl ?_
      refine g_getIE (n := 104) (k := 2) (x := (r_3)) dX8_start_101 sC_24 vc_5 (Nat.le_of_ble_eq_true rfl) rfl w_346 rfl rfl ?_
      exact g_iret rfl rfl dX8_start_104 ⟨rfl, _, rfl, h⟩
    · have h := h.2 hc
      refine g_aload_n (n := 30) dX8_start_29 rfl rfl rfl ?_
      refine g_getR (n := 33) (k := 3) dX8_start_30 sC_8 vc_12 (Nat.le_of_ble_eq_true rfl) rfl w_405 rfl ?_
      refine g_iload_n (n := 34) dX8_start_33 rfl rfl rfl ?_
      refine g_bipush (n := 36) (v := (nI 8)) dX8_start_34 rfl rfl ?_
      refine g_idiv (n := 37) dX8_start_36 (by decide) rfl ?_
      refine g_callV (n := 40) (as := [.int (x2 / (nI 8))]) (bc' := 0) (bs' := 0) sC_24 vc_5 (ctX1_covers h) okX1_covers rfl w_887 w_888 w_889 w_104 dX8_start_37 rfl rfl (Nat.le_of_ble_eq_true rfl) (Nat.le_of_ble_eq_true rfl) (Nat.le_of_ble_eq_true rfl) (Nat.le_of_ble_eq_true rfl) rfl (fun E sh1 I1 A1 hp _ => hp.2.elim) (fun ro sh_ I_4 A_5 hp hle => ?_)
      obtain ⟨rfl, r_6, rfl, h⟩ := hp
      refine g_if_eq (n := 43) 77 dX8_start_40 (by decide) rfl (fun hc => ?_) (fun hc => ?_)
      · have h := h.1 hc
        refine g_iinc (n := 80) (v := (x2 + nI 1)) (ls' := [some (.ref 8), none, some (.int (x2 + nI 1))]) dX8_start_77 rfl rfl rfl (Nat.le_of_ble_eq_true rfl) rfl rfl ?_
        refine g_goto 23 dX8_start_80 (by decide) ?_
        exact hL23 _ _ _ h
      · have h := h.2 hc
        refine g_aload_n (n := 44) dX8_start_43 rfl rfl rfl ?_
        refine g_getR (n := 47) (k := 3) dX8_start_44 sC_8 vc_12 (Nat.le_of_ble_eq_true rfl) rfl w_405 rfl ?_
        refine g_getR (n := 50) (k := 4) dX8_start_47 sC_24 vc_5 (Nat.le_of_ble_eq_true rfl) rfl w_350 rfl ?_
        refine g_iload_n (n := 51) dX8_start_50 rfl rfl rfl ?_
        refine g_aload_n (n := 52) dX8_start_51 rfl rfl rfl ?_
        refine g_getR (n := 55) (k := 0) dX8_start_52 sC_8 vc_12 (Nat.le_of_ble_eq_true rfl) rfl w_399 rfl ?_
        refine g_iload_n (n := 56) dX8_start_55 rfl rfl rfl ?_
        refine g_callV (n := 59) (as := [.int x2]) (bc' := 0) (bs' := 0) sC_9 vc_8 (ctX4_isDirty h) okX4_isDirty rfl w_834 w_835 w_836 w_101 dX8_start_56 rfl rfl (Nat.le_of_ble_eq_true rfl) (Nat.le_of_ble_eq_true rfl) (Nat.le_of_ble_eq_true rfl) (Nat.le_of_ble_eq_true rfl) rfl (fun E sh1 I1 A1 hp _ => hp.2.elim) (fun ro sh_ I_7 A_8 hp hle => ?_)
        obtain ⟨rfl, r_9, rfl, h⟩ := hp
        refine g_if_eq (n := 62) 67 dX8_start_59 (by decide) rfl (fun hc => ?_) (fun hc => ?_)
        · have h := h.1 hc
          refine g_aload_n (n := 68) dX8_start_67 rfl rfl rfl ?_
          refine g_getR (n := 71) (k := 0) dX8_start_68 sC_8 vc_12 (Nat.le_of_ble_eq_true rfl) rfl w_399 rfl ?_
          refine g_getR (n := 74) (k := 6) dX8_start_71 sC_9 vc_8 (Nat.le_of_ble_eq_true rfl) rfl w_254 rfl ?_
          refine g_iload_n (n := 75) dX8_start_74 rfl rfl rfl ?_
          obtain ⟨j_10, hj, hl, h⟩ := h
          refine g_ialdJ (n := 76) (j := j_10) (x := (A_8 15 j_10)) dX8_start_75 sC_15 hj hl (by decide) rfl rfl ?_
          refine g_less (bc' := 0) (bs' := 0) (Nat.le_of_ble_eq_true rfl) (Nat.le_of_ble_eq_true rfl) ?_
          exact tjX8_start_76 hL23 _ _ _ _ _ h
        · have h := h.2 hc
          refine g_bipush (n := 64) (v := (-2 : Int32)) dX8_start_62 rfl rfl ?_
          refine g_goto 76 dX8_start_64 (by decide) ?_
          refine g_less (bc' := 0) (bs' := 0) (Nat.le_of_ble_eq_true rfl) (Nat.le_of_ble_eq_true rfl) ?_
          exact tjX8_start_76 hL23 _ _ _ _ _ h
set_option maxRecDepth 20000 in
theorem ctX8_start {Z : ab_Z} {K : Int32 → ab_F → ab_F → Prop} {I A : ab_F} {p0 : Int32} (h : wX8_start K I A p0) : ab_Cl mX8_start 1 0 0 [.ref 8, .int p0] (shC Z) I A (ab_Px (shC Z) ab_no (ab_ri K)) := by
  refine ab_enter (ls := [some (.ref 8), some (.int p0), none]) (by decide +kernel) (Nat.le_of_ble_eq_true rfl) rfl (fun C => ?_)
  unfold wX8_start at h
  refine g_aload_n (n := 1) dX8_start_0 rfl rfl rfl ?_
  refine g_getR (n := 4) (k := 3) dX8_start_1 sC_8 vc_12 (Nat.le_of_ble_eq_true rfl) rfl w_405 rfl ?_
  refine g_dup (n := 5) dX8_start_4 rfl rfl ?_
  refine g_getIE (n := 8) (k := 0) (x := (I 24 0)) dX8_start_5 sC_24 vc_5 (Nat.le_of_ble_eq_true rfl) rfl w_341 rfl rfl ?_
  refine g_iconst (n := 9) (v := (nI 1)) dX8_start_8 rfl rfl ?_
  refine g_iadd (n := 10) dX8_start_9 rfl ?_
  refine g_putI (n := 13) (k := 0) dX8_start_10 sC_24 vc_5 (Nat.le_of_ble_eq_true rfl) rfl w_341 rfl rfl rfl rfl rfl ?_
  refine g_aload_n (n := 14) dX8_start_13 rfl rfl rfl ?_
  refine g_getR (n := 17) (k := 3) dX8_start_14 sC_8 vc_12 (Nat.le_of_ble_eq_true rfl) rfl w_405 rfl ?_
  refine g_iload_n (n := 18) dX8_start_17 rfl rfl rfl ?_
  refine g_putI (n := 21) (k := 1) dX8_start_18 sC_24 vc_5 (Nat.le_of_ble_eq_true rfl) rfl w_343 rfl rfl rfl rfl rfl ?_
  refine g_iconst (n := 22) (v := (nI 0)) dX8_start_21 rfl rfl ?_
  refine g_istore_n (n := 23) (ls' := [some (.ref 8), some (.int p0), some (.int (nI 0))]) dX8_start_22 rfl rfl (Nat.le_of_ble_eq_true rfl) (Nat.le_of_ble_eq_true rfl) rfl rfl ?_
  refine g_forget (ls' := [some (.ref 8), none, some (.int (nI 0))]) (ab_fg rfl) ?_
  refine g_less (bc' := 0) (bs' := 0) (Nat.le_of_ble_eq_true rfl) (Nat.le_of_ble_eq_true rfl) ?_
  obtain ⟨n_f, h⟩ := h
  exact tlX8_start_23  n_f _ _ _ h
def wjX8_flush_49 (K : Int32 → ab_F → ab_F → Prop)  (I A : ab_F) : Prop := wX1_countPending (fun r_3 I_1 A_2 => K r_3 I_1 A_2) I A 
def wlX8_flush_2 (K : Int32 → ab_F → ab_F → Prop) : Nat → Int32 → Int32 → ab_F → ab_F → Prop
  | 0, _, _, _, _ => False
  | n + 1, x1, x2, I, A => ((x1 ≤ x2 → wjX8_flush_49 K  I A) ∧ (¬ x1 ≤ x2 → wX1_pendingAt (fun r_6 I_4 A_5 => wX8_nextFree (fun r_9 I_7 A_8 => ((r_6 = (-1 : Int32) → wjX8_flush_49 K  I_7 A_8) ∧ (¬ r_6 = (-1 : Int32) → ((¬ r_9 = (-1 : Int32) → wX8_writeOut (fun I_10 A_11 => (wlX8_flush_2 K n) x1 (x2 + nI 1) I_10 A_11) I_7 A_8 r_6 r_9) ∧ (r_9 = (-1 : Int32) → wjX8_flush_49 K  I_7 A_8))))) I_4 A_5 ) I A (nI 0)))
def wX8_flush (K : Int32 → ab_F → ab_F → Prop) (I A : ab_F) (p0 : Int32) : Prop := (∃ nf : Nat, wlX8_flush_2 K nf p0 (nI 0) I A)
set_option maxRecDepth 20000 in
theorem tjX8_flush_49 {C : ab_X} {Z : ab_Z} {K : Int32 → ab_F → ab_F → Prop}  (I A : ab_F) (h : wjX8_flush_49 K  I A) : ab_G mX8_flush 2 C (ab_Px (shC Z) ab_no (ab_ri K)) 49 [some (.ref 8), none, none, none, none] [] (shC Z) I A 0 0 := by
  unfold wjX8_flush_49 at h
  refine g_aload_n (n := 50) dX8_flush_49 rfl rfl rfl ?_
  refine g_getR (n := 53) (k := 3) dX8_flush_50 sC_8 vc_12 (Nat.le_of_ble_eq_true rfl) rfl w_405 rfl ?_
  refine g_callV (n := 56) (as := []) (bc' := 0) (bs' := 0) sC_24 vc_5 (ctX1_countPending h) okX1_countPending rfl w_874 w_875 w_876 w_104 dX8_flush_53 rfl rfl (Nat.le_of_ble_eq_true rfl) (Nat.le_of_ble_eq_true rfl) (Nat.le_of_ble_eq_true rfl) (Nat.le_of_ble_eq_true rfl) rfl (fun E sh1 I1 A1 hp _ => hp.2.elim) (fun ro sh_ I_1 A_2 hp hle => ?_)
  obtain ⟨rfl, r_3, rfl, h⟩ := hp
  exact g_iret rfl rfl dX8_flush_56 ⟨rfl, _, rfl, h⟩
set_option maxRecDepth 20000 in
theorem tlX8_flush_2 {C : ab_X} {Z : ab_Z} {K : Int32 → ab_F → ab_F → Prop} : ∀ (n : Nat) (x1 : Int32) (x2 : Int32) (I A : ab_F), wlX8_flush_2 K n x1 x2 I A → ab_G mX8_flush 2 C (ab_Px (shC Z) ab_no (ab_ri K)) 2 [some (.ref 8), some (.int x1), some (.int x2), none, none] [] (shC Z) I A 0 0 := by
  intro n
  induction n with
  | zero => intro x1 x2 I A h; exact h.elim
  | succ n hL2 =>
    intro x1 x2 I A h
    rw [wlX8_flush_2] at h
    refine g_iload_n (n := 3) dX8_flush_2 rfl rfl rfl ?_
    refine g_iload_n (n := 4) dX8_flush_3 rfl rfl rfl ?_
    refine g_icmp_ge (n := 7) 49 dX8_flush_4 (by decide) rfl (fun hc => ?_) (fun hc => ?_)
    · have h := h.1 hc
      refine g_forget (ls' := [some (.ref 8), none, none, none, none]) (ab_fg rfl) ?_
      refine g_less (bc' := 0) (bs' := 0) (Nat.le_of_ble_eq_true rfl) (Nat.le_of_ble_eq_true rfl) ?_
      exact tjX8_flush_49   _ _ h
    · have h := h.2 hc
      refine g_aload_n (n := 8) dX8_flush_7 rfl rfl rfl ?_
      refine g_getR (n := 11) (k := 3) dX8_flush_8 sC_8 vc_12 (Nat.le_of_ble_eq_true rfl) rfl w_405 rfl ?_
      refine g_iconst (n := 12) (v := (nI 0)) dX8_flush_11 rfl rfl ?_
      refine g_callV (n := 15) (as := [.int (nI 0)]) (bc' := 0) (bs' := 0) sC_24 vc_5 (ctX1_pendingAt h) okX1_pendingAt rfl w_958 w_959 w_960 w_104 dX8_flush_12 rfl rfl (Nat.le_of_ble_eq_true rfl) (Nat.le_of_ble_eq_true rfl) (Nat.le_of_ble_eq_true rfl) (Nat.le_of_ble_eq_true rfl) rfl (fun E sh1 I1 A1 hp _ => hp.2.elim) (fun ro sh_ I_4 A_5 hp hle => ?_)
      obtain ⟨rfl, r_6, rfl, h⟩ := hp
      refine g_istore_n (n := 16) (ls' := [some (.ref 8), some (.int x1), some (.int x2), some (.int r_6), none]) dX8_flush_15 rfl rfl (Nat.le_of_ble_eq_true rfl) (Nat.le_of_ble_eq_true rfl) rfl rfl ?_
      refine g_aload_n (n := 17) dX8_flush_16 rfl rfl rfl ?_
      refine g_callV (n := 20) (as := []) (bc' := 0) (bs' := 0) sC_8 vc_12 (ctX8_nextFree h) okX8_nextFree rfl w_838 w_839 w_840 w_100 dX8_flush_17 rfl rfl (Nat.le_of_ble_eq_true rfl) (Nat.le_of_ble_eq_true rfl) (Nat.le_of_ble_eq_true rfl) (Nat.le_of_ble_eq_true rfl) rfl (fun E sh1 I1 A1 hp _ => hp.2.elim) (fun ro sh_ I_7 A_8 hp hle => ?_)
      obtain ⟨rfl, r_9, rfl, h⟩ := hp
      refine g_istore (n := 22) (ls' := [some (.ref 8), some (.int x1), some (.int x2), some (.int r_6), some (.int r_9)]) dX8_flush_20 rfl (Nat.le_of_ble_eq_true rfl) (Nat.le_of_ble_eq_true rfl) rfl rfl ?_
      refine g_iload_n (n := 23) dX8_flush_22 rfl rfl rfl ?_
      refine g_iconst (n := 24) (v := (-1 : Int32)) dX8_flush_23 rfl rfl ?_
      refine g_icmp_eq (n := 27) 49 dX8_flush_24 (by decide) rfl (fun hc => ?_) (fun hc => ?_)
      · have h := h.1 hc
        refine g_forget (ls' := [some (.ref 8), none, none, none, none]) (ab_fg rfl) ?_
        refine g_less (bc' := 0) (bs' := 0) (Nat.le_of_ble_eq_true rfl) (Nat.le_of_ble_eq_true rfl) ?_
        exact tjX8_flush_49   _ _ h
      · have h := h.2 hc
        refine g_iload (n := 29) dX8_flush_27 rfl rfl ?_
        refine g_iconst (n := 30) (v := (-1 : Int32)) dX8_flush_29 rfl rfl ?_
        refine g_icmp_ne (n := 33) 36 dX8_flush_30 (by decide) rfl (fun hc => ?_) (fun hc => ?_)
        · have h := h.1 hc
          refine g_aload_n (n := 37) dX8_flush_36 rfl rfl rfl ?_
          refine g_iload_n (n := 38) dX8_flush_37 rfl rfl rfl ?_
          refine g_iload (n := 40) dX8_flush_38 rfl rfl ?_
          refine g_callV (n := 43) (as := [.int r_6, .int r_9]) (bc' := 0) (bs' := 0) sC_8 vc_12 (ctX8_writeOut h) okX8_writeOut rfl w_912 w_914 w_16 w_100 dX8_flush_40 rfl rfl (Nat.le_of_ble_eq_true rfl) (Nat.le_of_ble_eq_true rfl) (Nat.le_of_ble_eq_true rfl) (Nat.le_of_ble_eq_true rfl) rfl (fun E sh1 I1 A1 hp _ => hp.2.elim) (fun ro sh_ I_10 A_11 hp hle => ?_)
          obtain ⟨rfl, rfl, h⟩ := hp
          refine g_iinc (n := 46) (v := (x2 + nI 1)) (ls' := [some (.ref 8), some (.int x1), some (.int (x2 + nI 1)), some (.int r_6), some (.int r_9)]) dX8_flush_43 rfl rfl rfl (Nat.le_of_ble_eq_true rfl) rfl rfl ?_
          refine g_goto 2 dX8_flush_46 (by decide) ?_
          refine g_forget (ls' := [some (.ref 8), some (.int x1), some (.int (x2 + nI 1)), none, none]) (ab_fg rfl) ?_
          exact hL2 _ _ _ _ h
        · have h := h.2 hc
          refine g_goto 49 dX8_flush_33 (by decide) ?_
          refine g_forget (ls' := [some (.ref 8), none, none, none, none]) (ab_fg rfl) ?_
          refine g_less (bc' := 0) (bs' := 0) (Nat.le_of_ble_eq_true rfl) (Nat.le_of_ble_eq_true rfl) ?_
          exact tjX8_flush_49   _ _ h
set_option maxRecDepth 20000 in
theorem ctX8_flush {Z : ab_Z} {K : Int32 → ab_F → ab_F → Prop} {I A : ab_F} {p0 : Int32} (h : wX8_flush K I A p0) : ab_Cl mX8_flush 2 0 0 [.ref 8, .int p0] (shC Z) I A (ab_Px (shC Z) ab_no (ab_ri K)) := by
  refine ab_enter (ls := [some (.ref 8), some (.int p0), none, none, none]) (by decide +kernel) (Nat.le_of_ble_eq_true rfl) rfl (fun C => ?_)
  unfold wX8_flush at h
  refine g_iconst (n := 1) (v := (nI 0)) dX8_flush_0 rfl rfl ?_
  refine g_istore_n (n := 2) (ls' := [some (.ref 8), some (.int p0), some (.int (nI 0)), none, none]) dX8_flush_1 rfl rfl (Nat.le_of_ble_eq_true rfl) (Nat.le_of_ble_eq_true rfl) rfl rfl ?_
  refine g_less (bc' := 0) (bs' := 0) (Nat.le_of_ble_eq_true rfl) (Nat.le_of_ble_eq_true rfl) ?_
  obtain ⟨n_f, h⟩ := h
  exact tlX8_flush_2  n_f _ _ _ _ h
