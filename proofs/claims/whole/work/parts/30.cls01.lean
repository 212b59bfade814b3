def wX4_everyProcess (K : Int32 → ab_F → ab_F → Prop) (I A : ab_F)  : Prop := K (((nI 1) <<< ((I 9 0) &&& 31)) - (nI 1)) I A
set_option maxRecDepth 20000 in
theorem ctX4_everyProcess {Z : ab_Z} {K : Int32 → ab_F → ab_F → Prop} {I A : ab_F}  (h : wX4_everyProcess K I A ) : ab_Cl mX4_everyProcess 0 0 0 [.ref 9] (shC Z) I A (ab_Px (shC Z) ab_no (ab_ri K)) := by
  refine ab_enter (ls := [some (.ref 9)]) (by decide +kernel) (Nat.le_of_ble_eq_true rfl) rfl (fun C => ?_)
  unfold wX4_everyProcess at h
  refine g_iconst (n := 1) (v := (nI 1)) dX4_everyProcess_0 rfl rfl ?_
  refine g_aload_n (n := 2) dX4_everyProcess_1 rfl rfl rfl ?_
  refine g_getIE (n := 5) (k := 0) (x := (I 9 0)) dX4_everyProcess_2 sC_9 vc_8 (Nat.le_of_ble_eq_true rfl) rfl w_237 rfl rfl ?_
  refine g_ishl (n := 6) dX4_everyProcess_5 rfl ?_
  refine g_iconst (n := 7) (v := (nI 1)) dX4_everyProcess_6 rfl rfl ?_
  refine g_isub (n := 8) dX4_everyProcess_7 rfl ?_
  exact g_iret rfl rfl dX4_everyProcess_8 ⟨rfl, _, rfl, h⟩
def wX4_isProcessSet (K : Int32 → ab_F → ab_F → Prop) (I A : ab_F) (p0 : Int32) : Prop := ((p0 = 0 → K (nI 0) I A) ∧ (¬ p0 = 0 → wX4_everyProcess (fun r_3 I_1 A_2 => ((¬ (p0 &&& (r_3 ^^^ (-1 : Int32))) = 0 → K (nI 0) I_1 A_2) ∧ ((p0 &&& (r_3 ^^^ (-1 : Int32))) = 0 → K (nI 1) I_1 A_2))) I A ))
set_option maxRecDepth 20000 in
theorem ctX4_isProcessSet {Z : ab_Z} {K : Int32 → ab_F → ab_F → Prop} {I A : ab_F} {p0 : Int32} (h : wX4_isProcessSet K I A p0) : ab_Cl mX4_isProcessSet 1 0 0 [.ref 9, .int p0] (shC Z) I A (ab_Px (shC Z) ab_no (ab_ri K)) := by
  refine ab_enter (ls := [some (.ref 9), some (.int p0)]) (by decide +kernel) (Nat.le_of_ble_eq_true rfl) rfl (fun C => ?_)
  unfold wX4_isProcessSet at h
  refine g_iload_n (n := 1) dX4_isProcessSet_0 rfl rfl rfl ?_
  refine g_if_eq (n := 4) 19 dX4_isProcessSet_1 (by decide) rfl (fun hc => ?_) (fun hc => ?_)
  · have h := h.1 hc
    refine g_iconst (n := 20) (v := (nI 0)) dX4_isProcessSet_19 rfl rfl ?_
    exact g_iret rfl rfl dX4_isProcessSet_20 ⟨rfl, _, rfl, h⟩
  · have h := h.2 hc
    refine g_iload_n (n := 5) dX4_isProcessSet_4 rfl rfl rfl ?_
    refine g_aload_n (n := 6) dX4_isProcessSet_5 rfl rfl rfl ?_
    refine g_callV (n := 9) (as := []) (bc' := 0) (bs' := 0) sC_9 vc_8 (ctX4_everyProcess h) okX4_everyProcess rfl w_862 w_863 w_864 w_101 dX4_isProcessSet_6 rfl rfl (Nat.le_of_ble_eq_true rfl) (Nat.le_of_ble_eq_true rfl) (Nat.le_of_ble_eq_true rfl) (Nat.le_of_ble_eq_true rfl) rfl (fun E sh1 I1 A1 hp _ => hp.2.elim) (fun ro sh_ I_1 A_2 hp hle => ?_)
    obtain ⟨rfl, r_3, rfl, h⟩ := hp
    refine g_iconst (n := 10) (v := (-1 : Int32)) dX4_isProcessSet_9 rfl rfl ?_
    refine g_ixor (n := 11) dX4_isProcessSet_10 rfl ?_
    refine g_iand (n := 12) dX4_isProcessSet_11 rfl ?_
    refine g_if_ne (n := 15) 19 dX4_isProcessSet_12 (by decide) rfl (fun hc => ?_) (fun hc => ?_)
    · have h := h.1 hc
      refine g_iconst (n := 20) (v := (nI 0)) dX4_isProcessSet_19 rfl rfl ?_
      exact g_iret rfl rfl dX4_isProcessSet_20 ⟨rfl, _, rfl, h⟩
    · have h := h.2 hc
      refine g_iconst (n := 16) (v := (nI 1)) dX4_isProcessSet_15 rfl rfl ?_
      refine g_goto 20 dX4_isProcessSet_16 (by decide) ?_
      exact g_iret rfl rfl dX4_isProcessSet_20 ⟨rfl, _, rfl, h⟩
def wX4_isDirty (K : Int32 → ab_F → ab_F → Prop) (I A : ab_F) (p0 : Int32) : Prop := (∃ j_1 : Nat, (p0 / (nI 8)) = nI j_1 ∧ j_1 < 6 ∧ ((((A 12 j_1) &&& ((nI 1) <<< ((p0 - p0 / (nI 8) * (nI 8)) &&& 31))) = 0 → K (nI 0) I A) ∧ (¬ ((A 12 j_1) &&& ((nI 1) <<< ((p0 - p0 / (nI 8) * (nI 8)) &&& 31))) = 0 → K (nI 1) I A)))
set_option maxRecDepth 20000 in
theorem ctX4_isDirty {Z : ab_Z} {K : Int32 → ab_F → ab_F → Prop} {I A : ab_F} {p0 : Int32} (h : wX4_isDirty K I A p0) : ab_Cl mX4_isDirty 0 0 0 [.ref 9, .int p0] (shC Z) I A (ab_Px (shC Z) ab_no (ab_ri K)) := by
  refine ab_enter (ls := [some (.ref 9), some (.int p0)]) (by decide +kernel) (Nat.le_of_ble_eq_true rfl) rfl (fun C => ?_)
  unfold wX4_isDirty at h
  refine g_aload_n (n := 1) dX4_isDirty_0 rfl rfl rfl ?_
  refine g_getR (n := 4) (k := 3) dX4_isDirty_1 sC_9 vc_8 (Nat.le_of_ble_eq_true rfl) rfl w_245 rfl ?_
  refine g_iload_n (n := 5) dX4_isDirty_4 rfl rfl rfl ?_
  refine g_bipush (n := 7) (v := (nI 8)) dX4_isDirty_5 rfl rfl ?_
  refine g_idiv (n := 8) dX4_isDirty_7 (by decide) rfl ?_
  obtain ⟨j_1, hj, hl, h⟩ := h
  refine g_ialdJ (n := 9) (j := j_1) (x := (A 12 j_1)) dX4_isDirty_8 sC_12 hj hl (by decide) rfl rfl ?_
  refine g_iconst (n := 10) (v := (nI 1)) dX4_isDirty_9 rfl rfl ?_
  refine g_iload_n (n := 11) dX4_isDirty_10 rfl rfl rfl ?_
  refine g_bipush (n := 13) (v := (nI 8)) dX4_isDirty_11 rfl rfl ?_
  refine g_irem (n := 14) dX4_isDirty_13 (by decide) rfl ?_
  refine g_ishl (n := 15) dX4_isDirty_14 rfl ?_
  refine g_iand (n := 16) dX4_isDirty_15 rfl ?_
  refine g_if_eq (n := 19) 23 dX4_isDirty_16 (by decide) rfl (fun hc => ?_) (fun hc => ?_)
  · have h := h.1 hc
    refine g_iconst (n := 24) (v := (nI 0)) dX4_isDirty_23 rfl rfl ?_
    exact g_iret rfl rfl dX4_isDirty_24 ⟨rfl, _, rfl, h⟩
  · have h := h.2 hc
    refine g_iconst (n := 20) (v := (nI 1)) dX4_isDirty_19 rfl rfl ?_
    refine g_goto 24 dX4_isDirty_20 (by decide) ?_
    exact g_iret rfl rfl dX4_isDirty_24 ⟨rfl, _, rfl, h⟩
def wX4_makeDirty (K : ab_F → ab_F → Prop) (I A : ab_F) (p0 : Int32) : Prop := (∃ j_1 : Nat, (p0 / (nI 8)) = nI j_1 ∧ j_1 < 6 ∧ (∃ j_2 : Nat, (p0 / (nI 8)) = nI j_2 ∧ j_2 < 6 ∧ K I (wr A 12 j_2 ((A 12 j_1) ||| ((nI 1) <<< ((p0 - p0 / (nI 8) * (nI 8)) &&& 31))))))
set_option maxRecDepth 20000 in
theorem ctX4_makeDirty {Z : ab_Z} {K : ab_F → ab_F → Prop} {I A : ab_F} {p0 : Int32} (h : wX4_makeDirty K I A p0) : ab_Cl mX4_makeDirty 0 0 0 [.ref 9, .int p0] (shC Z) I A (ab_Px (shC Z) ab_no (ab_rv K)) := by
  refine ab_enter (ls := [some (.ref 9), some (.int p0)]) (by decide +kernel) (Nat.le_of_ble_eq_true rfl) rfl (fun C => ?_)
  unfold wX4_makeDirty at h
  refine g_aload_n (n := 1) dX4_makeDirty_0 rfl rfl rfl ?_
  refine g_getR (n := 4) (k := 3) dX4_makeDirty_1 sC_9 vc_8 (Nat.le_of_ble_eq_true rfl) rfl w_245 rfl ?_
  refine g_iload_n (n := 5) dX4_makeDirty_4 rfl rfl rfl ?_
  refine g_bipush (n := 7) (v := (nI 8)) dX4_makeDirty_5 rfl rfl ?_
  refine g_idiv (n := 8) dX4_makeDirty_7 (by decide) rfl ?_
  refine g_dup2 (n := 9) dX4_makeDirty_8 rfl rfl rfl ?_
  obtain ⟨j_1, hj, hl, h⟩ := h
  refine g_ialdJ (n := 10) (j := j_1) (x := (A 12 j_1)) dX4_makeDirty_9 sC_12 hj hl (by decide) rfl rfl ?_
  refine g_iconst (n := 11) (v := (nI 1)) dX4_makeDirty_10 rfl rfl ?_
  refine g_iload_n (n := 12) dX4_makeDirty_11 rfl rfl rfl ?_
  refine g_bipush (n := 14) (v := (nI 8)) dX4_makeDirty_12 rfl rfl ?_
  refine g_irem (n := 15) dX4_makeDirty_14 (by decide) rfl ?_
  refine g_ishl (n := 16) dX4_makeDirty_15 rfl ?_
  refine g_ior (n := 17) dX4_makeDirty_16 rfl ?_
  obtain ⟨j_2, hj, hl, h⟩ := h
  refine g_iastJ (n := 18) (j := j_2) dX4_makeDirty_17 sC_12 hj hl (by decide) rfl ?_
  exact g_vret rfl dX4_makeDirty_18 ⟨rfl, rfl, h⟩
def wX4_makeClean (K : ab_F → ab_F → Prop) (I A : ab_F) (p0 : Int32) : Prop := (∃ j_1 : Nat, (p0 / (nI 8)) = nI j_1 ∧ j_1 < 6 ∧ (∃ j_2 : Nat, (p0 / (nI 8)) = nI j_2 ∧ j_2 < 6 ∧ K I (wr A 12 j_2 ((A 12 j_1) &&& (((nI 1) <<< ((p0 - p0 / (nI 8) * (nI 8)) &&& 31)) ^^^ (-1 : Int32))))))
set_option maxRecDepth 20000 in
theorem ctX4_makeClean {Z : ab_Z} {K : ab_F → ab_F → Prop} {I A : ab_F} {p0 : Int32} (h : wX4_makeClean K I A p0) : ab_Cl mX4_makeClean 0 0 0 [.ref 9, .int p0] (shC Z) I A (ab_Px (shC Z) ab_no (ab_rv K)) := by
  refine ab_enter (ls := [some (.ref 9), some (.int p0)]) (by decide +kernel) (Nat.le_of_ble_eq_true rfl) rfl (fun C => ?_)
  unfold wX4_makeClean at h
  refine g_aload_n (n := 1) dX4_makeClean_0 rfl rfl rfl ?_
  refine g_getR (n := 4) (k := 3) dX4_makeClean_1 sC_9 vc_8 (Nat.le_of_ble_eq_true rfl) rfl w_245 rfl ?_
  refine g_iload_n (n := 5) dX4_makeClean_4 rfl rfl rfl ?_
  refine g_bipush (n := 7) (v := (nI 8)) dX4_makeClean_5 rfl rfl ?_
  refine g_idiv (n := 8) dX4_makeClean_7 (by decide) rfl ?_
  refine g_dup2 (n := 9) dX4_makeClean_8 rfl rfl rfl ?_
  obtain ⟨j_1, hj, hl, h⟩ := h
  refine g_ialdJ (n := 10) (j := j_1) (x := (A 12 j_1)) dX4_makeClean_9 sC_12 hj hl (by decide) rfl rfl ?_
  refine g_iconst (n := 11) (v := (nI 1)) dX4_makeClean_10 rfl rfl ?_
  refine g_iload_n (n := 12) dX4_makeClean_11 rfl rfl rfl ?_
  refine g_bipush (n := 14) (v := (nI 8)) dX4_makeClean_12 rfl rfl ?_
  refine g_irem (n := 15) dX4_makeClean_14 (by decide) rfl ?_
  refine g_ishl (n := 16) dX4_makeClean_15 rfl ?_
  refine g_iconst (n := 17) (v := (-1 : Int32)) dX4_makeClean_16 rfl rfl ?_
  refine g_ixor (n := 18) dX4_makeClean_17 rfl ?_
  refine g_iand (n := 19) dX4_makeClean_18 rfl ?_
  obtain ⟨j_2, hj, hl, h⟩ := h
  refine g_iastJ (n := 20) (j := j_2) dX4_makeClean_19 sC_12 hj hl (by decide) rfl ?_
  exact g_vret rfl dX4_makeClean_20 ⟨rfl, rfl, h⟩
def wX11_isNanPattern (K : Int32 → ab_F → ab_F → Prop) (I A : ab_F) (p0 : Int32) : Prop := ((¬ (p0 &&& (nI 2139095040)) = (nI 2139095040) → K (nI 0) I A) ∧ ((p0 &&& (nI 2139095040)) = (nI 2139095040) → (((p0 &&& (nI 8388607)) = 0 → K (nI 0) I A) ∧ (¬ (p0 &&& (nI 8388607)) = 0 → K (nI 1) I A))))
set_option maxRecDepth 20000 in
theorem ctX11_isNanPattern {Z : ab_Z} {K : Int32 → ab_F → ab_F → Prop} {I A : ab_F} {p0 : Int32} (h : wX11_isNanPattern K I A p0) : ab_Cl mX11_isNanPattern 0 0 0 [.int p0] (shC Z) I A (ab_Px (shC Z) ab_no (ab_ri K)) := by
  refine ab_enter (ls := [some (.int p0)]) (by decide +kernel) (Nat.le_of_ble_eq_true rfl) rfl (fun C => ?_)
  unfold wX11_isNanPattern at h
  refine g_iload_n (n := 1) dX11_isNanPattern_0 rfl rfl rfl ?_
  refine g_ldcw (n := 4) (v := (nI 2139095040)) dX11_isNanPattern_1 w_943 rfl ?_
  refine g_iand (n := 5) dX11_isNanPattern_4 rfl ?_
  refine g_ldcw (n := 8) (v := (nI 2139095040)) dX11_isNanPattern_5 w_943 rfl ?_
  refine g_icmp_ne (n := 11) 23 dX11_isNanPattern_8 (by decide) rfl (fun hc => ?_) (fun hc => ?_)
  · have h := h.1 hc
    refine g_iconst (n := 24) (v := (nI 0)) dX11_isNanPattern_23 rfl rfl ?_
    exact g_iret rfl rfl dX11_isNanPattern_24 ⟨rfl, _, rfl, h⟩
  · have h := h.2 hc
    refine g_iload_n (n := 12) dX11_isNanPattern_11 rfl rfl rfl ?_
    refine g_ldcw (n := 15) (v := (nI 8388607)) dX11_isNanPattern_12 w_944 rfl ?_
    refine g_iand (n := 16) dX11_isNanPattern_15 rfl ?_
    refine g_if_eq (n := 19) 23 dX11_isNanPattern_16 (by decide) rfl (fun hc => ?_) (fun hc => ?_)
    · have h := h.1 hc
      refine g_iconst (n := 24) (v := (nI 0)) dX11_isNanPattern_23 rfl rfl ?_
      exact g_iret rfl rfl dX11_isNanPattern_24 ⟨rfl, _, rfl, h⟩
    · have h := h.2 hc
      refine g_iconst (n := 20) (v := (nI 1)) dX11_isNanPattern_19 rfl rfl ?_
      refine g_goto 24 dX11_isNanPattern_20 (by decide) ?_
      exact g_iret rfl rfl dX11_isNanPattern_24 ⟨rfl, _, rfl, h⟩
def wjX4_store_41 (K : ab_F → ab_F → Prop) (s0 : Int32) (s1 : Int32) (I A : ab_F) : Prop := (∃ j_2 : Nat, s1 = nI j_2 ∧ j_2 < 48 ∧ K I (wr A 13 j_2 s0))
def wjX4_store_25 (K : ab_F → ab_F → Prop) (x1 : Int32) (x2 : Int32) (s0 : Int32) (I A : ab_F) : Prop := ((s0 = 0 → wjX4_store_41 K x2 x1 I A) ∧ (¬ s0 = 0 → wjX4_store_41 K (nI 2143289344) x1 I A))
def wjX4_store_24 (K : ab_F → ab_F → Prop) (x1 : Int32) (x2 : Int32) (I A : ab_F) : Prop := wjX4_store_25 K x1 x2 (nI 0) I A
def wX4_store (K : ab_F → ab_F → Prop) (I A : ab_F) (p0 : Int32) (p1 : Int32) : Prop := (∃ j_1 : Nat, (p0 / (nI 8)) = nI j_1 ∧ j_1 < 6 ∧ ((¬ (A 11 j_1) = (nI 1) → wjX4_store_24 K p0 p1 I A) ∧ ((A 11 j_1) = (nI 1) → wX11_isNanPattern (fun r_5 I_3 A_4 => ((r_5 = 0 → wjX4_store_24 K p0 p1 I_3 A_4) ∧ (¬ r_5 = 0 → wjX4_store_25 K p0 p1 (nI 1) I_3 A_4))) I A p1)))
set_option maxRecDepth 20000 in
theorem tjX4_store_41 {C : ab_X} {Z : ab_Z} {K : ab_F → ab_F → Prop} (s0 : Int32) (s1 : Int32) (I A : ab_F) (h : wjX4_store_41 K s0 s1 I A) : ab_G mX4_store 1 C (ab_Px (shC Z) ab_no (ab_rv K)) 41 [none, none, none, none] [.int s0, .int s1, .ref 13] (shC Z) I A 0 0 := by
  unfold wjX4_store_41 at h
  obtain ⟨j_2, hj, hl, h⟩ := h
  refine g_iastJ (n := 42) (j := j_2) dX4_store_41 sC_13 hj hl (by decide) rfl ?_
  exact g_vret rfl dX4_store_42 ⟨rfl, rfl, h⟩
set_option maxRecDepth 20000 in
theorem tjX4_store_25 {C : ab_X} {Z : ab_Z} {K : ab_F → ab_F → Prop} (x1 : Int32) (x2 : Int32) (s0 : Int32) (I A : ab_F) (h : wjX4_store_25 K x1 x2 s0 I A) : ab_G mX4_store 1 C (ab_Px (shC Z) ab_no (ab_rv K)) 25 [some (.ref 9), some (.int x1), some (.int x2), none] [.int s0] (shC Z) I A 0 0 := by
  unfold wjX4_store_25 at h
  refine g_istore_n (n := 26) (ls' := [some (.ref 9), some (.int x1), some (.int x2), some (.int s0)]) dX4_store_25 rfl rfl (Nat.le_of_ble_eq_true rfl) (Nat.le_of_ble_eq_true rfl) rfl rfl ?_
  refine g_aload_n (n := 27) dX4_store_26 rfl rfl rfl ?_
  refine g_getR (n := 30) (k := 4) dX4_store_27 sC_9 vc_8 (Nat.le_of_ble_eq_true rfl) rfl w_247 rfl ?_
  refine g_iload_n (n := 31) dX4_store_30 rfl rfl rfl ?_
  refine g_iload_n (n := 32) dX4_store_31 rfl rfl rfl ?_
  refine g_if_eq (n := 35) 40 dX4_store_32 (by decide) rfl (fun hc => ?_) (fun hc => ?_)
  · have h := h.1 hc
    refine g_iload_n (n := 41) dX4_store_40 rfl rfl rfl ?_
    refine g_forget (ls' := [none, none, none, none]) (ab_fg rfl) ?_
    refine g_less (bc' := 0) (bs' := 0) (Nat.le_of_ble_eq_true rfl) (Nat.le_of_ble_eq_true rfl) ?_
    exact tjX4_store_41  _ _ _ _ h
  · have h := h.2 hc
    refine g_ldc (n := 37) (v := (nI 2143289344)) dX4_store_35 w_945 rfl ?_
    refine g_goto 41 dX4_store_37 (by decide) ?_
    refine g_forget (ls' := [none, none, none, none]) (ab_fg rfl) ?_
    refine g_less (bc' := 0) (bs' := 0) (Nat.le_of_ble_eq_true rfl) (Nat.le_of_ble_eq_true rfl) ?_
    exact tjX4_store_41  _ _ _ _ h
set_option maxRecDepth 20000 in
theorem tjX4_store_24 {C : ab_X} {Z : ab_Z} {K : ab_F → ab_F → Prop} (x1 : Int32) (x2 : Int32) (I A : ab_F) (h : wjX4_store_24 K x1 x2 I A) : ab_G mX4_store 1 C (ab_Px (shC Z) ab_no (ab_rv K)) 24 [some (.ref 9), some (.int x1), some (.int x2), none] [] (shC Z) I A 0 0 := by
  unfold wjX4_store_24 at h
  refine g_iconst (n := 25) (v := (nI 0)) dX4_store_24 rfl rfl ?_
  refine g_less (bc' := 0) (bs' := 0) (Nat.le_of_ble_eq_true rfl) (Nat.le_of_ble_eq_true rfl) ?_
  exact tjX4_store_25  _ _ _ _ _ h
set_option maxRecDepth 20000 in
theorem ctX4_store {Z : ab_Z} {K : ab_F → ab_F → Prop} {I A : ab_F} {p0 : Int32} {p1 : Int32} (h : wX4_store K I A p0 p1) : ab_Cl mX4_store 1 0 0 [.ref 9, .int p0, .int p1] (shC Z) I A (ab_Px (shC Z) ab_no (ab_rv K)) := by
  refine ab_enter (ls := [some (.ref 9), some (.int p0), some (.int p1), none]) (by decide +kernel) (Nat.le_of_ble_eq_true rfl) rfl (fun C => ?_)
  unfold wX4_store at h
  refine g_aload_n (n := 1) dX4_store_0 rfl rfl rfl ?_
  refine g_getR (n := 4) (k := 2) dX4_store_1 sC_9 vc_8 (Nat.le_of_ble_eq_true rfl) rfl w_243 rfl ?_
  refine g_iload_n (n := 5) dX4_store_4 rfl rfl rfl ?_
  refine g_bipush (n := 7) (v := (nI 8)) dX4_store_5 rfl rfl ?_
  refine g_idiv (n := 8) dX4_store_7 (by decide) rfl ?_
  obtain ⟨j_1, hj, hl, h⟩ := h
  refine g_ialdJ (n := 9) (j := j_1) (x := (A 11 j_1)) dX4_store_8 sC_11 hj hl (by decide) rfl rfl ?_
  refine g_iconst (n := 10) (v := (nI 1)) dX4_store_9 rfl rfl ?_
  refine g_icmp_ne (n := 13) 24 dX4_store_10 (by decide) rfl (fun hc => ?_) (fun hc => ?_)
  · have h := h.1 hc
    refine g_less (bc' := 0) (bs' := 0) (Nat.le_of_ble_eq_true rfl) (Nat.le_of_ble_eq_true rfl) ?_
    exact tjX4_store_24  _ _ _ _ h
  · have h := h.2 hc
    refine g_iload_n (n := 14) dX4_store_13 rfl rfl rfl ?_
    refine g_callSN (n := 17) (as := [.int p1]) (bc' := 0) (bs' := 0) (ctX11_isNanPattern h) okX11_isNanPattern (ab_ngm 13 rfl) w_941 dX4_store_14 rfl rfl (Nat.le_of_ble_eq_true rfl) (Nat.le_of_ble_eq_true rfl) (Nat.le_of_ble_eq_true rfl) (Nat.le_of_ble_eq_true rfl) rfl (fun E sh1 I1 A1 hp _ => hp.2.elim) (fun ro sh_ I_3 A_4 hp hle => ?_)
    obtain ⟨rfl, r_5, rfl, h⟩ := hp
    refine g_if_eq (n := 20) 24 dX4_store_17 (by decide) rfl (fun hc => ?_) (fun hc => ?_)
    · have h := h.1 hc
      refine g_less (bc' := 0) (bs' := 0) (Nat.le_of_ble_eq_true rfl) (Nat.le_of_ble_eq_true rfl) ?_
      exact tjX4_store_24  _ _ _ _ h
    · have h := h.2 hc
      refine g_iconst (n := 21) (v := (nI 1)) dX4_store_20 rfl rfl ?_
      refine g_goto 25 dX4_store_21 (by decide) ?_
      refine g_less (bc' := 0) (bs' := 0) (Nat.le_of_ble_eq_true rfl) (Nat.le_of_ble_eq_true rfl) ?_
      exact tjX4_store_25  _ _ _ _ _ h
def wX4_stateAt (K : Int32 → ab_F → ab_F → Prop) (I A : ab_F) (p0 : Int32) : Prop := (∃ j_1 : Nat, p0 = nI j_1 ∧ j_1 < 48 ∧ ((¬ (A 14 j_1) = (-1 : Int32) → wX4_isDirty (fun r_4 I_2 A_3 => ((r_4 = 0 → K (nI 2) I_2 A_3) ∧ (¬ r_4 = 0 → K (nI 3) I_2 A_3))) I A p0) ∧ ((A 14 j_1) = (-1 : Int32) → (∃ j_5 : Nat, p0 = nI j_5 ∧ j_5 < 48 ∧ ((¬ (A 15 j_5) = (-1 : Int32) → K (nI 1) I A) ∧ ((A 15 j_5) = (-1 : Int32) → K (nI 0) I A))))))
set_option maxRecDepth 20000 in
theorem ctX4_stateAt {Z : ab_Z} {K : Int32 → ab_F → ab_F → Prop} {I A : ab_F} {p0 : Int32} (h : wX4_stateAt K I A p0) : ab_Cl mX4_stateAt 1 0 0 [.ref 9, .int p0] (shC Z) I A (ab_Px (shC Z) ab_no (ab_ri K)) := by
  refine ab_enter (ls := [some (.ref 9), some (.int p0)]) (by decide +kernel) (Nat.le_of_ble_eq_true rfl) rfl (fun C => ?_)
  unfold wX4_stateAt at h
  refine g_aload_n (n := 1) dX4_stateAt_0 rfl rfl rfl ?_
  refine g_getR (n := 4) (k := 5) dX4_stateAt_1 sC_9 vc_8 (Nat.le_of_ble_eq_true rfl) rfl w_250 rfl ?_
  refine g_iload_n (n := 5) dX4_stateAt_4 rfl rfl rfl ?_
  obtain ⟨j_1, hj, hl, h⟩ := h
  refine g_ialdJ (n := 6) (j := j_1) (x := (A 14 j_1)) dX4_stateAt_5 sC_14 hj hl (by decide) rfl rfl ?_
  refine g_iconst (n := 7) (v := (-1 : Int32)) dX4_stateAt_6 rfl rfl ?_
  refine g_icmp_ne (n := 10) 26 dX4_stateAt_7 (by decide) rfl (fun hc => ?_) (fun hc => ?_)
  · have h := h.1 hc
    refine g_aload_n (n := 27) dX4_stateAt_26 rfl rfl rfl ?_
    refine g_iload_n (n := 28) dX4_stateAt_27 rfl rfl rfl ?_
    refine g_callV (n := 31) (as := [.int p0]) (bc' := 0) (bs' := 0) sC_9 vc_8 (ctX4_isDirty h) okX4_isDirty rfl w_1394 w_835 w_836 w_101 dX4_stateAt_28 rfl rfl (Nat.le_of_ble_eq_true rfl) (Nat.le_of_ble_eq_true rfl) (Nat.le_of_ble_eq_true rfl) (Nat.le_of_ble_eq_true rfl) rfl (fun E sh1 I1 A1 hp _ => hp.2.elim) (fun ro sh_ I_2 A_3 hp hle => ?_)
    obtain ⟨rfl, r_4, rfl, h⟩ := hp
    refine g_if_eq (n := 34) 38 dX4_stateAt_31 (by decide) rfl (fun hc => ?_) (fun hc => ?_)
    · have h := h.1 hc
      refine g_iconst (n := 39) (v := (nI 2)) dX4_stateAt_38 rfl rfl ?_
      exact g_iret rfl rfl dX4_stateAt_39 ⟨rfl, _, rfl, h⟩
    · have h := h.2 hc
      refine g_iconst (n := 35) (v := (nI 3)) dX4_stateAt_34 rfl rfl ?_
      refine g_goto 39 dX4_stateAt_35 (by decide) ?_
      exact g_iret rfl rfl dX4_stateAt_39 ⟨rfl, _, rfl, h⟩
  · have h := h.2 hc
    refine g_aload_n (n := 11) dX4_stateAt_10 rfl rfl rfl ?_
    refine g_getR (n := 14) (k := 6) dX4_stateAt_11 sC_9 vc_8 (Nat.le_of_ble_eq_true rfl) rfl w_253 rfl ?_
    refine g_iload_n (n := 15) dX4_stateAt_14 rfl rfl rfl ?_
    obtain ⟨j_5, hj, hl, h⟩ := h
    refine g_ialdJ (n := 16) (j := j_5) (x := (A 15 j_5)) dX4_stateAt_15 sC_15 hj hl (by decide) rfl rfl ?_
    refine g_iconst (n := 17) (v := (-1 : Int32)) dX4_stateAt_16 rfl rfl ?_
    refine g_icmp_ne (n := 20) 24 dX4_stateAt_17 (by decide) rfl (fun hc => ?_) (fun hc => ?_)
    · have h := h.1 hc
      refine g_iconst (n := 25) (v := (nI 1)) dX4_stateAt_24 rfl rfl ?_
      exact g_iret rfl rfl dX4_stateAt_25 ⟨rfl, _, rfl, h⟩
    · have h := h.2 hc
      refine g_iconst (n := 21) (v := (nI 0)) dX4_stateAt_20 rfl rfl ?_
      refine g_goto 25 dX4_stateAt_21 (by decide) ?_
      exact g_iret rfl rfl dX4_stateAt_25 ⟨rfl, _, rfl, h⟩
def wX11_idOf (K : Int32 → ab_F → ab_F → Prop) (I A : ab_F) (p0 : Int32) (p1 : Int32) : Prop := K (((nI 8) * p0) + p1) I A
set_option maxRecDepth 20000 in
theorem ctX11_idOf {Z : ab_Z} {K : Int32 → ab_F → ab_F → Prop} {I A : ab_F} {p0 : Int32} {p1 : Int32} (h : wX11_idOf K I A p0 p1) : ab_Cl mX11_idOf 0 0 0 [.int p0, .int p1] (shC Z) I A (ab_Px (shC Z) ab_no (ab_ri K)) := by
  refine ab_enter (ls := [some (.int p0), some (.int p1)]) (by decide +kernel) (Nat.le_of_ble_eq_true rfl) rfl (fun C => ?_)
  unfold wX11_idOf at h
  refine g_bipush (n := 2) (v := (nI 8)) dX11_idOf_0 rfl rfl ?_
  refine g_iload_n (n := 3) dX11_idOf_2 rfl rfl rfl ?_
  refine g_imul (n := 4) dX11_idOf_3 rfl ?_
  refine g_iload_n (n := 5) dX11_idOf_4 rfl rfl rfl ?_
  refine g_iadd (n := 6) dX11_idOf_5 rfl ?_
  exact g_iret rfl rfl dX11_idOf_6 ⟨rfl, _, rfl, h⟩
def wlX4_residentSet_4 (K : Int32 → ab_F → ab_F → Prop) : Nat → Int32 → Int32 → Int32 → ab_F → ab_F → Prop
  | 0, _, _, _, _, _ => False
  | n + 1, x1, x2, x3, I, A => (∃ j_1 : Nat, x1 = nI j_1 ∧ j_1 < 6 ∧ (((A 10 j_1) ≤ x3 → K x2 I A) ∧ (¬ (A 10 j_1) ≤ x3 → wX11_idOf (fun r_4 I_2 A_3 => (∃ j_5 : Nat, r_4 = nI j_5 ∧ j_5 < 48 ∧ (((A_3 14 j_5) = (-1 : Int32) → (wlX4_residentSet_4 K n) x1 x2 (x3 + nI 1) I_2 A_3) ∧ (¬ (A_3 14 j_5) = (-1 : Int32) → (∀ y_6 : Int32, y_6 = (x2 ||| ((nI 1) <<< (x3 &&& 31))) → (wlX4_residentSet_4 K n) x1 y_6 (x3 + nI 1) I_2 A_3))))) I A x1 x3)))
def wX4_residentSet (K : Int32 → ab_F → ab_F → Prop) (I A : ab_F) (p0 : Int32) : Prop := (∃ nf : Nat, wlX4_residentSet_4 K nf p0 (nI 0) (nI 0) I A)
set_option maxRecDepth 20000 in
theorem tlX4_residentSet_4 {C : ab_X} {Z : ab_Z} {K : Int32 → ab_F → ab_F → Prop} : ∀ (n : Nat) (x1 : Int32) (x2 : Int32) (x3 : Int32) (I A : ab_F), wlX4_residentSet_4 K n x1 x2 x3 I A → ab_G mX4_residentSet 1 C (ab_Px (shC Z) ab_no (ab_ri K)) 4 [some (.ref 9), some (.int x1), some (.int x2), some (.int x3)] [] (shC Z) I A 0 0 := by
  intro n
  induction n with
  | zero => intro x1 x2 x3 I A h; exact h.elim
  | succ n hL4 =>
    intro x1 x2 x3 I A h
    rw [wlX4_residentSet_4] at h
    refine g_iload_n (n := 5) dX4_residentSet_4 rfl rfl rfl ?_
    refine g_aload_n (n := 6) dX4_residentSet_5 rfl rfl rfl ?_
    refine g_getR (n := 9) (k := 1) dX4_residentSet_6 sC_9 vc_8 (Nat.le_of_ble_eq_true rfl) rfl w_240 rfl ?_
    refine g_iload_n (n := 10) dX4_residentSet_9 rfl rfl rfl ?_
    obtain ⟨j_1, hj, hl, h⟩ := h
    refine g_ialdJ (n := 11) (j := j_1) (x := (A 10 j_1)) dX4_residentSet_10 sC_10 hj hl (by decide) rfl rfl ?_
    refine g_icmp_ge (n := 14) 40 dX4_residentSet_11 (by decide) rfl (fun hc => ?_) (fun hc => ?_)
    · have h := h.1 hc
      refine g_iload_n (n := 41) dX4_residentSet_40 rfl rfl rfl ?_
      exact g_iret rfl rfl dX4_residentSet_41 ⟨rfl, _, rfl, h⟩
    · have h := h.2 hc
      refine g_aload_n (n := 15) dX4_residentSet_14 rfl rfl rfl ?_
      refine g_getR (n := 18) (k := 5) dX4_residentSet_15 sC_9 vc_8 (Nat.le_of_ble_eq_true rfl) rfl w_250 rfl ?_
      refine g_iload_n (n := 19) dX4_residentSet_18 rfl rfl rfl ?_
      refine g_iload_n (n := 20) dX4_residentSet_19 rfl rfl rfl ?_
      refine g_callSN (n := 23) (as := [.int x1, .int x3]) (bc' := 0) (bs' := 0) (ctX11_idOf h) okX11_idOf (ab_ngm 14 rfl) w_757 dX4_residentSet_20 rfl rfl (Nat.le_of_ble_eq_true rfl) (Nat.le_of_ble_eq_true rfl) (Nat.le_of_ble_eq_true rfl) (Nat.le_of_ble_eq_true rfl) rfl (fun E sh1 I1 A1 hp _ => hp.2.elim) (fun ro sh_ I_2 A_3 hp hle => ?_)
      obtain ⟨rfl, r_4, rfl, h⟩ := hp
      obtain ⟨j_5, hj, hl, h⟩ := h
      refine g_ialdJ (n := 24) (j := j_5) (x := (A_3 14 j_5)) dX4_residentSet_23 sC_14 hj hl (by decide) rfl rfl ?_
      refine g_iconst (n := 25) (v := (-1 : Int32)) dX4_residentSet_24 rfl rfl ?_
      refine g_icmp_eq (n := 28) 34 dX4_residentSet_25 (by decide) rfl (fun hc => ?_) (fun hc => ?_)
      · have h := h.1 hc
        refine g_iinc (n := 37) (v := (x3 + nI 1)) (ls' := [some (.ref 9), some (.int x1), some (.int x2), some (.int (x3 + nI 1))]) dX4_residentSet_34 rfl rfl rfl (Nat.le_of_ble_eq_true rfl) rfl rfl ?_
        refine g_goto 4 dX4_residentSet_37 (by decide) ?_
        exact hL4 _ _ _ _ _ h
      · have h := h.2 hc
        refine g_iload_n (n := 29) dX4_residentSet_28 rfl rfl rfl ?_
        refine g_iconst (n := 30) (v := (nI 1)) dX4_residentSet_29 rfl rfl ?_
        refine g_iload_n (n := 31) dX4_residentSet_30 rfl rfl rfl ?_
        refine g_ishl (n := 32) dX4_residentSet_31 rfl ?_
        refine g_ior (n := 33) dX4_residentSet_32 rfl ?_
        refine g_topi (fun y_6 ey_6 => ?_)
        have h := h y_6 ey_6
        refine g_istore_n (n := 34) (ls' := [some (.ref 9), some (.int x1), some (.int y_6), some (.int x3)]) dX4_residentSet_33 rfl rfl (Nat.le_of_ble_eq_true rfl) (Nat.le_of_ble_eq_true rfl) rfl rfl ?_
        refine g_iinc (n := 37) (v := (x3 + nI 1)) (ls' := [some (.ref 9), some (.int x1), some (.int y_6), some (.int (x3 + nI 1))]) dX4_residentSet_34 rfl rfl rfl (Nat.le_of_ble_eq_true rfl) rfl rfl ?_
        refine g_goto 4 dX4_residentSet_37 (by decide) ?_
        exact hL4 _ _ _ _ _ h
set_option maxRecDepth 20000 in
theorem ctX4_residentSet {Z : ab_Z} {K : Int32 → ab_F → ab_F → Prop} {I A : ab_F} {p0 : Int32} (h : wX4_residentSet K I A p0) : ab_Cl mX4_residentSet 1 0 0 [.ref 9, .int p0] (shC Z) I A (ab_Px (shC Z) ab_no (ab_ri K)) := by
  refine ab_enter (ls := [some (.ref 9), some (.int p0), none, none]) (by decide +kernel) (Nat.le_of_ble_eq_true rfl) rfl (fun C => ?_)
  unfold wX4_residentSet at h
  refine g_iconst (n := 1) (v := (nI 0)) dX4_residentSet_0 rfl rfl ?_
  refine g_istore_n (n := 2) (ls' := [some (.ref 9), some (.int p0), some (.int (nI 0)), none]) dX4_residentSet_1 rfl rfl (Nat.le_of_ble_eq_true rfl) (Nat.le_of_ble_eq_true rfl) rfl rfl ?_
  refine g_iconst (n := 3) (v := (nI 0)) dX4_residentSet_2 rfl rfl ?_
  refine g_istore_n (n := 4) (ls' := [some (.ref 9), some (.int p0), some (.int (nI 0)), some (.int (nI 0))]) dX4_residentSet_3 rfl rfl (Nat.le_of_ble_eq_true rfl) (Nat.le_of_ble_eq_true rfl) rfl rfl ?_
  refine g_less (bc' := 0) (bs' := 0) (Nat.le_of_ble_eq_true rfl) (Nat.le_of_ble_eq_true rfl) ?_
  obtain ⟨n_f, h⟩ := h
  exact tlX4_residentSet_4  n_f _ _ _ _ _ h
def wJ6_bitCount_0f7a4 (K : Int32 → ab_F → ab_F → Prop) (I A : ab_F) (p0 : Int32) : Prop := (∀ y_1 : Int32, y_1 = (p0 - ((((p0).toUInt32 >>> (((nI 1)).toUInt32 &&& Int32.toUInt32 31)).toInt32) &&& (nI 1431655765))) → (∀ y_2 : Int32, y_2 = ((y_1 &&& (nI 858993459)) + ((((y_1).toUInt32 >>> (((nI 2)).toUInt32 &&& Int32.toUInt32 31)).toInt32) &&& (nI 858993459))) → (∀ y_3 : Int32, y_3 = ((y_2 + (((y_2).toUInt32 >>> (((nI 4)).toUInt32 &&& Int32.toUInt32 31)).toInt32)) &&& (nI 252645135)) → (∀ y_4 : Int32, y_4 = (y_3 + (((y_3).toUInt32 >>> (((nI 8)).toUInt32 &&& Int32.toUInt32 31)).toInt32)) → (∀ y_5 : Int32, y_5 = (y_4 + (((y_4).toUInt32 >>> (((nI 16)).toUInt32 &&& Int32.toUInt32 31)).toInt32)) → K (y_5 &&& (nI 63)) I A)))))
set_option maxRecDepth 20000 in
theorem ctJ6_bitCount_0f7a4 {Z : ab_Z} {K : Int32 → ab_F → ab_F → Prop} {I A : ab_F} {p0 : Int32} (h : wJ6_bitCount_0f7a4 K I A p0) : ab_Cl mJ6_bitCount_0f7a4 0 0 0 [.int p0] (shC Z) I A (ab_Px (shC Z) ab_no (ab_ri K)) := by
  refine ab_enter (ls := [some (.int p0)]) (by decide +kernel) (Nat.le_of_ble_eq_true rfl) rfl (fun C => ?_)
  unfold wJ6_bitCount_0f7a4 at h
  refine g_iload_n (n := 1) dJ6_bitCount_0f7a4_0 rfl rfl rfl ?_
  refine g_iload_n (n := 2) dJ6_bitCount_0f7a4_1 rfl rfl rfl ?_
  refine g_iconst (n := 3) (v := (nI 1)) dJ6_bitCount_0f7a4_2 rfl rfl ?_
  refine g_iushr (n := 4) dJ6_bitCount_0f7a4_3 rfl ?_
  refine g_ldcw (n := 7) (v := (nI 1431655765)) dJ6_bitCount_0f7a4_4 w_1016 rfl ?_
  refine g_iand (n := 8) dJ6_bitCount_0f7a4_7 rfl ?_
  refine g_isub (n := 9) dJ6_bitCount_0f7a4_8 rfl ?_
  refine g_topi (fun y_1 ey_1 => ?_)
  have h := h y_1 ey_1
  refine g_istore_n (n := 10) (ls' := [some (.int y_1)]) dJ6_bitCount_0f7a4_9 rfl rfl (Nat.le_of_ble_eq_true rfl) (Nat.le_of_ble_eq_true rfl) rfl rfl ?_
  refine g_iload_n (n := 11) dJ6_bitCount_0f7a4_10 rfl rfl rfl ?_
  refine g_ldcw (n := 14) (v := (nI 858993459)) dJ6_bitCount_0f7a4_11 w_1017 rfl ?_
  refine g_iand (n := 15) dJ6_bitCount_0f7a4_14 rfl ?_
  refine g_iload_n (n := 16) dJ6_bitCount_0f7a4_15 rfl rfl rfl ?_
  refine g_iconst (n := 17) (v := (nI 2)) dJ6_bitCount_0f7a4_16 rfl rfl ?_
  refine g_iushr (n := 18) dJ6_bitCount_0f7a4_17 rfl ?_
  refine g_ldcw (n := 21) (v := (nI 858993459)) dJ6_bitCount_0f7a4_18 w_1017 rfl ?_
  refine g_iand (n := 22) dJ6_bitCount_0f7a4_21 rfl ?_
  refine g_iadd (n := 23) dJ6_bitCount_0f7a4_22 rfl ?_
  refine g_topi (fun y_2 ey_2 => ?_)
  have h := h y_2 ey_2
  refine g_istore_n (n := 24) (ls' := [some (.int y_2)]) dJ6_bitCount_0f7a4_23 rfl rfl (Nat.le_of_ble_eq_true rfl) (Nat.le_of_ble_eq_true rfl) rfl rfl ?_
  refine g_iload_n (n := 25) dJ6_bitCount_0f7a4_24 rfl rfl rfl ?_
  refine g_iload_n (n := 26) dJ6_bitCount_0f7a4_25 rfl rfl rfl ?_
  refine g_iconst (n := 27) (v := (nI 4)) dJ6_bitCount_0f7a4_26 rfl rfl ?_
  refine g_iushr (n := 28) dJ6_bitCount_0f7a4_27 rfl ?_
  refine g_iadd (n := 29) dJ6_bitCount_0f7a4_28 rfl ?_
  refine g_ldcw (n := 32) (v := (nI 252645135)) dJ6_bitCount_0f7a4_29 w_1018 rfl ?_
  refine g_iand (n := 33) dJ6_bitCount_0f7a4_32 rfl ?_
  refine g_topi (fun y_3 ey_3 => ?_)
  have h := h y_3 ey_3
  refine g_istore_n (n := 34) (ls' := [some (.int y_3)]) dJ6_bitCount_0f7a4_33 rfl rfl (Nat.le_of_ble_eq_true rfl) (Nat.le_of_ble_eq_true rfl) rfl rfl ?_
  refine g_iload_n (n := 35) dJ6_bitCount_0f7a4_34 rfl rfl rfl ?_
  refine g_iload_n (n := 36) dJ6_bitCount_0f7a4_35 rfl rfl rfl ?_
  refine g_bipush (n := 38) (v := (nI 8)) dJ6_bitCount_0f7a4_36 rfl rfl ?_
  refine g_iushr (n := 39) dJ6_bitCount_0f7a4_38 rfl ?_
  refine g_iadd (n := 40) dJ6_bitCount_0f7a4_39 rfl ?_
  refine g_topi (fun y_4 ey_4 => ?_)
  have h := h y_4 ey_4
  refine g_istore_n (n := 41) (ls' := [some (.int y_4)]) dJ6_bitCount_0f7a4_40 rfl rfl (Nat.le_of_ble_eq_true rfl) (Nat.le_of_ble_eq_true rfl) rfl rfl ?_
  refine g_iload_n (n := 42) dJ6_bitCount_0f7a4_41 rfl rfl rfl ?_
  refine g_iload_n (n := 43) dJ6_bitCount_0f7a4_42 rfl rfl rfl ?_
  refine g_bipush (n := 45) (v := (nI 16)) dJ6_bitCount_0f7a4_43 rfl rfl ?_
  refine g_iushr (n := 46) dJ6_bitCount_0f7a4_45 rfl ?_
  refine g_iadd (n := 47) dJ6_bitCount_0f7a4_46 rfl ?_
  refine g_topi (fun y_5 ey_5 => ?_)
  have h := h y_5 ey_5
  refine g_istore_n (n := 48) (ls' := [some (.int y_5)]) dJ6_bitCount_0f7a4_47 rfl rfl (Nat.le_of_ble_eq_true rfl) (Nat.le_of_ble_eq_true rfl) rfl rfl ?_
  refine g_iload_n (n := 49) dJ6_bitCount_0f7a4_48 rfl rfl rfl ?_
  refine g_bipush (n := 51) (v := (nI 63)) dJ6_bitCount_0f7a4_49 rfl rfl ?_
  refine g_iand (n := 52) dJ6_bitCount_0f7a4_51 rfl ?_
  exact g_iret rfl rfl dJ6_bitCount_0f7a4_52 ⟨rfl, _, rfl, h⟩
def wlX4_countDirty_4 (K : Int32 → ab_F → ab_F → Prop) : Nat → Int32 → Int32 → Int32 → ab_F → ab_F → Prop
  | 0, _, _, _, _, _ => False
  | n + 1, x1, x2, x3, I, A => (((I 9 0) ≤ x3 → K x2 I A) ∧ (¬ (I 9 0) ≤ x3 → (((x1 &&& ((nI 1) <<< (x3 &&& 31))) = 0 → (wlX4_countDirty_4 K n) x1 x2 (x3 + nI 1) I A) ∧ (¬ (x1 &&& ((nI 1) <<< (x3 &&& 31))) = 0 → (∃ j_1 : Nat, x3 = nI j_1 ∧ j_1 < 6 ∧ wJ6_bitCount_0f7a4 (fun r_4 I_2 A_3 => (∀ y_5 : Int32, y_5 = (x2 + r_4) → (wlX4_countDirty_4 K n) x1 y_5 (x3 + nI 1) I_2 A_3)) I A (A 12 j_1))))))
def wX4_countDirty (K : Int32 → ab_F → ab_F → Prop) (I A : ab_F) (p0 : Int32) : Prop := (∃ nf : Nat, wlX4_countDirty_4 K nf p0 (nI 0) (nI 0) I A)
set_option maxRecDepth 20000 in
theorem tlX4_countDirty_4 {C : ab_X} {Z : ab_Z} {K : Int32 → ab_F → ab_F → Prop} : ∀ (n : Nat) (x1 : Int32) (x2 : Int32) (x3 : Int32) (I A : ab_F), wlX4_countDirty_4 K n x1 x2 x3 I A → ab_G mX4_countDirty 1 C (ab_Px (shC Z) ab_no (ab_ri K)) 4 [some (.ref 9), some (.int x1), some (.int x2), some (.int x3)] [] (shC Z) I A 0 0 := by
  intro n
  induction n with
  | zero => intro x1 x2 x3 I A h; exact h.elim
  | succ n hL4 =>
    intro x1 x2 x3 I A h
    rw [wlX4_countDirty_4] at h
    refine g_iload_n (n := 5) dX4_countDirty_4 rfl rfl rfl ?_
    refine g_aload_n (n := 6) dX4_countDirty_5 rfl rfl rfl ?_
    refine g_getIE (n := 9) (k := 0) (x := (I 9 0)) dX4_countDirty_6 sC_9 vc_8 (Nat.le_of_ble_eq_true rfl) rfl w_237 rfl rfl ?_
    refine g_icmp_ge (n := 12) 38 dX4_countDirty_9 (by decide) rfl (fun hc => ?_) (fun hc => ?_)
    · have h := h.1 hc
      refine g_iload_n (n := 39) dX4_countDirty_38 rfl rfl rfl ?_
      exact g_iret rfl rfl dX4_countDirty_39 ⟨rfl, _, rfl, h⟩
    · have h := h.2 hc
      refine g_iload_n (n := 13) dX4_countDirty_12 rfl rfl rfl ?_
      refine g_iconst (n := 14) (v := (nI 1)) dX4_countDirty_13 rfl rfl ?_
      refine g_iload_n (n := 15) dX4_countDirty_14 rfl rfl rfl ?_
      refine g_ishl (n := 16) dX4_countDirty_15 rfl ?_
      refine g_iand (n := 17) dX4_countDirty_16 rfl ?_
      refine g_if_eq (n := 20) 32 dX4_countDirty_17 (by decide) rfl (fun hc => ?_) (fun hc => ?_)
      · have h := h.1 hc
        refine g_iinc (n := 35) (v := (x3 + nI 1)) (ls' := [some (.ref 9), some (.int x1), some (.int x2), some (.int (x3 + nI 1))]) dX4_countDirty_32 rfl rfl rfl (Nat.le_of_ble_eq_true rfl) rfl rfl ?_
        refine g_goto 4 dX4_countDirty_35 (by decide) ?_
        exact hL4 _ _ _ _ _ h
      · have h := h.2 hc
        refine g_iload_n (n := 21) dX4_countDirty_20 rfl rfl rfl ?_
        refine g_aload_n (n := 22) dX4_countDirty_21 rfl rfl rfl ?_
        refine g_getR (n := 25) (k := 3) dX4_countDirty_22 sC_9 vc_8 (Nat.le_of_ble_eq_true rfl) rfl w_245 rfl ?_
        refine g_iload_n (n := 26) dX4_countDirty_25 rfl rfl rfl ?_
        obtain ⟨j_1, hj, hl, h⟩ := h
        refine g_ialdJ (n := 27) (j := j_1) (x := (A 12 j_1)) dX4_countDirty_26 sC_12 hj hl (by decide) rfl rfl ?_
        refine g_callS (n := 30) (as := [.int (A 12 j_1)]) (bc' := 0) (bs' := 0) (ctJ6_bitCount_0f7a4 h) okJ6_bitCount_0f7a4 w_1775 w_1014 dX4_countDirty_27 rfl rfl (Nat.le_of_ble_eq_true rfl) (Nat.le_of_ble_eq_true rfl) (Nat.le_of_ble_eq_true rfl) (Nat.le_of_ble_eq_true rfl) rfl (fun E sh1 I1 A1 hp _ => hp.2.elim) (fun ro sh_ I_2 A_3 hp hle => ?_)
        obtain ⟨rfl, r_4, rfl, h⟩ := hp
        refine g_iadd (n := 31) dX4_countDirty_30 rfl ?_
        refine g_topi (fun y_5 ey_5 => ?_)
        have h := h y_5 ey_5
        refine g_istore_n (n := 32) (ls' := [some (.ref 9), some (.int x1), some (.int y_5), some (.int x3)]) dX4_countDirty_31 rfl rfl (Nat.le_of_ble_eq_true rfl) (Nat.le_of_ble_eq_true rfl) rfl rfl ?_
        refine g_iinc (n := 35) (v := (x3 + nI 1)) (ls' := [some (.ref 9), some (.int x1), some (.int y_5), some (.int (x3 + nI 1))]) dX4_countDirty_32 rfl rfl rfl (Nat.le_of_ble_eq_true rfl) rfl rfl ?_
        refine g_goto 4 dX4_countDirty_35 (by decide) ?_
        exact hL4 _ _ _ _ _ h
set_option maxRecDepth 20000 in
theorem ctX4_countDirty {Z : ab_Z} {K : Int32 → ab_F → ab_F → Prop} {I A : ab_F} {p0 : Int32} (h : wX4_countDirty K I A p0) : ab_Cl mX4_countDirty 1 0 0 [.ref 9, .int p0] (shC Z) I A (ab_Px (shC Z) ab_no (ab_ri K)) := by
  refine ab_enter (ls := [some (.ref 9), some (.int p0), none, none]) (by decide +kernel) (Nat.le_of_ble_eq_true rfl) rfl (fun C => ?_)
  unfold wX4_countDirty at h
  refine g_iconst (n := 1) (v := (nI 0)) dX4_countDirty_0 rfl rfl ?_
  refine g_istore_n (n := 2) (ls' := [some (.ref 9), some (.int p0), some (.int (nI 0)), none]) dX4_countDirty_1 rfl rfl (Nat.le_of_ble_eq_true rfl) (Nat.le_of_ble_eq_true rfl) rfl rfl ?_
  refine g_iconst (n := 3) (v := (nI 0)) dX4_countDirty_2 rfl rfl ?_
  refine g_istore_n (n := 4) (ls' := [some (.ref 9), some (.int p0), some (.int (nI 0)), some (.int (nI 0))]) dX4_countDirty_3 rfl rfl (Nat.le_of_ble_eq_true rfl) (Nat.le_of_ble_eq_true rfl) rfl rfl ?_
  refine g_less (bc' := 0) (bs' := 0) (Nat.le_of_ble_eq_true rfl) (Nat.le_of_ble_eq_true rfl) ?_
  obtain ⟨n_f, h⟩ := h
  exact tlX4_countDirty_4  n_f _ _ _ _ _ h
def wlX5_lookUp_37 (K : ab_F → ab_F → Prop) : Nat → Int32 → ab_F → ab_F → Prop
  | 0, _, _, _ => False
  | n + 1, x2, I, A => ((x2 < 0 → K I A) ∧ (¬ x2 < 0 → wX0_recentAt (fun r_7 I_5 A_6 => (∃ j_8 : Nat, x2 = nI j_8 ∧ j_8 < 64 ∧ (∃ j_9 : Nat, x2 = nI j_9 ∧ j_9 < 64 ∧ (∃ j_10 : Nat, ((wr A_6 37 j_8 r_7) 37 j_9) = nI j_10 ∧ j_10 < 48 ∧ (∃ j_11 : Nat, x2 = nI j_11 ∧ j_11 < 64 ∧ (∃ j_12 : Nat, x2 = nI j_12 ∧ j_12 < 64 ∧ (∃ j_13 : Nat, ((wr A_6 37 j_8 r_7) 37 j_12) = nI j_13 ∧ j_13 < 48 ∧ (wlX5_lookUp_37 K n) (x2 + (-1)) I_5 (wr (wr (wr A_6 37 j_8 r_7) 38 j_11 (A_6 39 j_10)) 39 j_13 x2)))))))) I A (((I 34 5) - (nI 1)) - x2)))
def wlX5_lookUp_10 (K : ab_F → ab_F → Prop) : Nat → Int32 → ab_F → ab_F → Prop
  | 0, _, _, _ => False
  | n + 1, x2, I, A => (((nI 48) ≤ x2 → (∀ y_4 : Int32, y_4 = ((I 34 5) - (nI 1)) → (∃ nf : Nat, wlX5_lookUp_37 K nf y_4 I A))) ∧ (¬ (nI 48) ≤ x2 → (∃ j_14 : Nat, x2 = nI j_14 ∧ j_14 < 48 ∧ (wlX5_lookUp_10 K n) (x2 + nI 1) I (wr A 39 j_14 (nI 64)))))
def wX5_lookUp (K : ab_F → ab_F → Prop) (I A : ab_F)  : Prop := wX0_countRecent (fun r_3 I_1 A_2 => (∃ nf : Nat, wlX5_lookUp_10 K nf (nI 0) (wr I_1 34 5 r_3) A_2)) I A 
set_option maxRecDepth 20000 in
theorem tlX5_lookUp_37 {C : ab_X} {Z : ab_Z} {K : ab_F → ab_F → Prop} : ∀ (n : Nat) (x2 : Int32) (I A : ab_F), wlX5_lookUp_37 K n x2 I A → ab_G mX5_lookUp 2 C (ab_Px (shC Z) ab_no (ab_rv K)) 37 [some (.ref 34), some (.ref 29), some (.int x2)] [] (shC Z) I A 0 0 := by
  intro n
  induction n with
  | zero => intro x2 I A h; exact h.elim
  | succ n hL37 =>
    intro x2 I A h
    rw [wlX5_lookUp_37] at h
    refine g_iload_n (n := 38) dX5_lookUp_37 rfl rfl rfl ?_
    refine g_if_lt (n := 41) 94 dX5_lookUp_38 (by decide) rfl (fun hc => ?_) (fun hc => ?_)
    · have h := h.1 hc
      exact g_vret rfl dX5_lookUp_94 ⟨rfl, rfl, h⟩
    · have h := h.2 hc
      refine g_aload_n (n := 42) dX5_lookUp_41 rfl rfl rfl ?_
      refine g_getR (n := 45) (k := 2) dX5_lookUp_42 sC_34 vc_9 (Nat.le_of_ble_eq_true rfl) rfl w_482 rfl ?_
      refine g_iload_n (n := 46) dX5_lookUp_45 rfl rfl rfl ?_
      refine g_aload_n (n := 47) dX5_lookUp_46 rfl rfl rfl ?_
      refine g_aload_n (n := 48) dX5_lookUp_47 rfl rfl rfl ?_
      refine g_getIE (n := 51) (k := 5) (x := (I 34 5)) dX5_lookUp_48 sC_34 vc_9 (Nat.le_of_ble_eq_true rfl) rfl w_485 rfl rfl ?_
      refine g_iconst (n := 52) (v := (nI 1)) dX5_lookUp_51 rfl rfl ?_
      refine g_isub (n := 53) dX5_lookUp_52 rfl ?_
      refine g_iload_n (n := 54) dX5_lookUp_53 rfl rfl rfl ?_
      refine g_isub (n := 55) dX5_lookUp_54 rfl ?_
      refine g_callV (n := 58) (as := [.int (((I 34 5) - (nI 1)) - x2)]) (bc' := 0) (bs' := 0) sC_29 vc_4 (ctX0_recentAt h) okX0_recentAt rfl w_1861 w_1842 w_1843 w_105 dX5_lookUp_55 rfl rfl (Nat.le_of_ble_eq_true rfl) (Nat.le_of_ble_eq_true rfl) (Nat.le_of_ble_eq_true rfl) (Nat.le_of_ble_eq_true rfl) rfl (fun E sh1 I1 A1 hp _ => hp.2.elim) (fun ro sh_ I_5 A_6 hp hle => ?_)
      obtain ⟨rfl, r_7, rfl, h⟩ := hp
      obtain ⟨j_8, hj, hl, h⟩ := h
      refine g_iastJ (n := 59) (j := j_8) dX5_lookUp_58 sC_37 hj hl (by decide) rfl ?_
      refine g_aload_n (n := 60) dX5_lookUp_59 rfl rfl rfl ?_
      refine g_getR (n := 63) (k := 3) dX5_lookUp_60 sC_34 vc_9 (Nat.le_of_ble_eq_true rfl) rfl w_483 rfl ?_
      refine g_iload_n (n := 64) dX5_lookUp_63 rfl rfl rfl ?_
      refine g_aload_n (n := 65) dX5_lookUp_64 rfl rfl rfl ?_
      refine g_getR (n := 68) (k := 4) dX5_lookUp_65 sC_34 vc_9 (Nat.le_of_ble_eq_true rfl) rfl w_484 rfl ?_
      refine g_aload_n (n := 69) dX5_lookUp_68 rfl rfl rfl ?_
      refine g_getR (n := 72) (k := 2) dX5_lookUp_69 sC_34 vc_9 (Nat.le_of_ble_eq_true rfl) rfl w_482 rfl ?_
      refine g_iload_n (n := 73) dX5_lookUp_72 rfl rfl rfl ?_
      obtain ⟨j_9, hj, hl, h⟩ := h
      refine g_ialdJ (n := 74) (j := j_9) (x := ((wr A_6 37 j_8 r_7) 37 j_9)) dX5_lookUp_73 sC_37 hj hl (by decide) rfl rfl ?_
      obtain ⟨j_10, hj, hl, h⟩ := h
      refine g_ialdJ (n := 75) (j := j_10) (x := (A_6 39 j_10)) dX5_lookUp_74 sC_39 hj hl (by decide) rfl rfl ?_
      obtain ⟨j_11, hj, hl, h⟩ := h
      refine g_iastJ (n := 76) (j := j_11) dX5_lookUp_75 sC_38 hj hl (by decide) rfl ?_
      refine g_aload_n (n := 77) dX5_lookUp_76 rfl rfl rfl ?_
      refine g_getR (n := 80) (k := 4) dX5_lookUp_77 sC_34 vc_9 (Nat.le_of_ble_eq_true rfl) rfl w_484 rfl ?_
      refine g_aload_n (n := 81) dX5_lookUp_80 rfl rfl rfl ?_
      refine g_getR (n := 84) (k := 2) dX5_lookUp_81 sC_34 vc_9 (Nat.le_of_ble_eq_true rfl) rfl w_482 rfl ?_
      refine g_iload_n (n := 85) dX5_lookUp_84 rfl rfl rfl ?_
      obtain ⟨j_12, hj, hl, h⟩ := h
      refine g_ialdJ (n := 86) (j := j_12) (x := ((wr A_6 37 j_8 r_7) 37 j_12)) dX5_lookUp_85 sC_37 hj hl (by decide) rfl rfl ?_
      refine g_iload_n (n := 87) dX5_lookUp_86 rfl rfl rfl ?_
      obtain ⟨j_13, hj, hl, h⟩ := h
      refine g_iastJ (n := 88) (j := j_13) dX5_lookUp_87 sC_39 hj hl (by decide) rfl ?_
      refine g_iinc (n := 91) (v := (x2 + (-1))) (ls' := [some (.ref 34), some (.ref 29), some (.int (x2 + (-1)))]) dX5_lookUp_88 rfl rfl rfl (Nat.le_of_ble_eq_true rfl) rfl rfl ?_
      refine g_goto 37 dX5_lookUp_91 (by decide) ?_
      exact hL37 _ _ _ h
set_option maxRecDepth 20000 in
theorem tlX5_lookUp_10 {C : ab_X} {Z : ab_Z} {K : ab_F → ab_F → Prop} : ∀ (n : Nat) (x2 : Int32) (I A : ab_F), wlX5_lookUp_10 K n x2 I A → ab_G mX5_lookUp 2 C (ab_Px (shC Z) ab_no (ab_rv K)) 10 [some (.ref 34), some (.ref 29), some (.int x2)] [] (shC Z) I A 0 0 := by
  intro n
  induction n with
  | zero => intro x2 I A h; exact h.elim
  | succ n hL10 =>
    intro x2 I A h
    rw [wlX5_lookUp_10] at h
    refine g_iload_n (n := 11) dX5_lookUp_10 rfl rfl rfl ?_
    refine g_bipush (n := 13) (v := (nI 48)) dX5_lookUp_11 rfl rfl ?_
    refine g_icmp_ge (n := 16) 30 dX5_lookUp_13 (by decide) rfl (fun hc => ?_) (fun hc => ?_)
    · have h := h.1 hc
      refine g_aload_n (n := 31) dX5_lookUp_30 rfl rfl rfl ?_
      refine g_getIE (n := 34) (k := 5) (x := (I 34 5)) dX5_lookUp_31 sC_34 vc_9 (Nat.le_of_ble_eq_true rfl) rfl w_485 rfl rfl ?_
      refine g_iconst (n := 35) (v := (nI 1)) dX5_lookUp_34 rfl rfl ?_
      refine g_isub (n := 36) dX5_lookUp_35 rfl ?_
      refine g_topi (fun y_4 ey_4 => ?_)
      have h := h y_4 ey_4
      refine g_istore_n (n := 37) (ls' := [some (.ref 34), some (.ref 29), some (.int y_4)]) dX5_lookUp_36 rfl rfl (Nat.le_of_ble_eq_true rfl) (Nat.le_of_ble_eq_true rfl) rfl rfl ?_
      refine g_less (bc' := 0) (bs' := 0) (Nat.le_of_ble_eq_true rfl) (Nat.le_of_ble_eq_true rfl) ?_
      obtain ⟨n_f, h⟩ := h
      exact tlX5_lookUp_37  n_f _ _ _ h
    · have h := h.2 hc
      refine g_aload_n (n := 17) dX5_lookUp_16 rfl rfl rfl ?_
      refine g_getR (n := 20) (k := 4) dX5_lookUp_17 sC_34 vc_9 (Nat.le_of_ble_eq_true rfl) rfl w_484 rfl ?_
      refine g_iload_n (n := 21) dX5_lookUp_20 rfl rfl rfl ?_
      refine g_bipush (n := 23) (v := (nI 64)) dX5_lookUp_21 rfl rfl ?_
      obtain ⟨j_14, hj, hl, h⟩ := h
      refine g_iastJ (n := 24) (j := j_14) dX5_lookUp_23 sC_39 hj hl (by decide) rfl ?_
      refine g_iinc (n := 27) (v := (x2 + nI 1)) (ls' := [some (.ref 34), some (.ref 29), some (.int (x2 + nI 1))]) dX5_lookUp_24 rfl rfl rfl (Nat.le_of_ble_eq_true rfl) rfl rfl ?_
      refine g_goto 10 dX5_lookUp_27 (by decide) ?_
      exact hL10 _ _ _ h
set_option maxRecDepth 20000 in
theorem ctX5_lookUp {Z : ab_Z} {K : ab_F → ab_F → Prop} {I A : ab_F}  (h : wX5_lookUp K I A ) : ab_Cl mX5_lookUp 2 0 0 [.ref 34, .ref 29] (shC Z) I A (ab_Px (shC Z) ab_no (ab_rv K)) := by
  refine ab_enter (ls := [some (.ref 34), some (.ref 29), none]) (by decide +kernel) (Nat.le_of_ble_eq_true rfl) rfl (fun C => ?_)
  unfold wX5_lookUp at h
  refine g_aload_n (n := 1) dX5_lookUp_0 rfl rfl rfl ?_
  refine g_aload_n (n := 2) dX5_lookUp_1 rfl rfl rfl ?_
  refine g_callV (n := 5) (as := []) (bc' := 0) (bs' := 0) sC_29 vc_4 (ctX0_countRecent h) okX0_countRecent rfl w_1860 w_1837 w_1838 w_105 dX5_lookUp_2 rfl rfl (Nat.le_of_ble_eq_true rfl) (Nat.le_of_ble_eq_true rfl) (Nat.le_of_ble_eq_true rfl) (Nat.le_of_ble_eq_true rfl) rfl (fun E sh1 I1 A1 hp _ => hp.2.elim) (fun ro sh_ I_1 A_2 hp hle => ?_)
  obtain ⟨rfl, r_3, rfl, h⟩ := hp
  refine g_putI (n := 8) (k := 5) dX5_lookUp_5 sC_34 vc_9 (Nat.le_of_ble_eq_true rfl) rfl w_485 rfl rfl rfl rfl rfl ?_
  refine g_iconst (n := 9) (v := (nI 0)) dX5_lookUp_8 rfl rfl ?_
  refine g_istore_n (n := 10) (ls' := [some (.ref 34), some (.ref 29), some (.int (nI 0))]) dX5_lookUp_9 rfl rfl (Nat.le_of_ble_eq_true rfl) (Nat.le_of_ble_eq_true rfl) rfl rfl ?_
  refine g_less (bc' := 0) (bs' := 0) (Nat.le_of_ble_eq_true rfl) (Nat.le_of_ble_eq_true rfl) ?_
  obtain ⟨n_f, h⟩ := h
  exact tlX5_lookUp_10  n_f _ _ _ h
def wlX5_frameWith_2 (K : Int32 → ab_F → ab_F → Prop) : Nat → Int32 → Int32 → ab_F → ab_F → Prop
  | 0, _, _, _, _ => False
  | n + 1, x1, x2, I, A => (((I 34 6) ≤ x2 → K (-1 : Int32) I A) ∧ (¬ (I 34 6) ≤ x2 → (∃ j_1 : Nat, x2 = nI j_1 ∧ j_1 < 16 ∧ ((¬ (A 35 j_1) = x1 → (wlX5_frameWith_2 K n) x1 (x2 + nI 1) I A) ∧ ((A 35 j_1) = x1 → K x2 I A)))))
def wX5_frameWith (K : Int32 → ab_F → ab_F → Prop) (I A : ab_F) (p0 : Int32) : Prop := (∃ nf : Nat, wlX5_frameWith_2 K nf p0 (nI 0) I A)
set_option maxRecDepth 20000 in
theorem tlX5_frameWith_2 {C : ab_X} {Z : ab_Z} {K : Int32 → ab_F → ab_F → Prop} : ∀ (n : Nat) (x1 : Int32) (x2 : Int32) (I A : ab_F), wlX5_frameWith_2 K n x1 x2 I A → ab_G mX5_frameWith 0 C (ab_Px (shC Z) ab_no (ab_ri K)) 2 [some (.ref 34), some (.int x1), some (.int x2)] [] (shC Z) I A 0 0 := by
  intro n
  induction n with
  | zero => intro x1 x2 I A h; exact h.elim
  | succ n hL2 =>
    intro x1 x2 I A h
    rw [wlX5_frameWith_2] at h
    refine g_iload_n (n := 3) dX5_frameWith_2 rfl rfl rfl ?_
    refine g_aload_n (n := 4) dX5_frameWith_3 rfl rfl rfl ?_
    refine g_getIE (n := 7) (k := 6) (x := (I 34 6)) dX5_frameWith_4 sC_34 vc_9 (Nat.le_of_ble_eq_true rfl) rfl w_486 rfl rfl ?_
    refine g_icmp_ge (n := 10) 28 dX5_frameWith_7 (by decide) rfl (fun hc => ?_) (fun hc => ?_)
    · have h := h.1 hc
      refine g_iconst (n := 29) (v := (-1 : Int32)) dX5_frameWith_28 rfl rfl ?_
      exact g_iret rfl rfl dX5_frameWith_29 ⟨rfl, _, rfl, h⟩
    · have h := h.2 hc
      refine g_aload_n (n := 11) dX5_frameWith_10 rfl rfl rfl ?_
      refine g_getR (n := 14) (k := 0) dX5_frameWith_11 sC_34 vc_9 (Nat.le_of_ble_eq_true rfl) rfl w_480 rfl ?_
      refine g_iload_n (n := 15) dX5_frameWith_14 rfl rfl rfl ?_
      obtain ⟨j_1, hj, hl, h⟩ := h
      refine g_ialdJ (n := 16) (j := j_1) (x := (A 35 j_1)) dX5_frameWith_15 sC_35 hj hl (by decide) rfl rfl ?_
      refine g_iload_n (n := 17) dX5_frameWith_16 rfl rfl rfl ?_
      refine g_icmp_ne (n := 20) 22 dX5_frameWith_17 (by decide) rfl (fun hc => ?_) (fun hc => ?_)
      · have h := h.1 hc
        refine g_iinc (n := 25) (v := (x2 + nI 1)) (ls' := [some (.ref 34), some (.int x1), some (.int (x2 + nI 1))]) dX5_frameWith_22 rfl rfl rfl (Nat.le_of_ble_eq_true rfl) rfl rfl ?_
        refine g_goto 2 dX5_frameWith_25 (by decide) ?_
        exact hL2 _ _ _ _ h
      · have h := h.2 hc
        refine g_iload_n (n := 21) dX5_frameWith_20 rfl rfl rfl ?_
        exact g_iret rfl rfl dX5_frameWith_21 ⟨rfl, _, rfl, h⟩
set_option maxRecDepth 20000 in
theorem ctX5_frameWith {Z : ab_Z} {K : Int32 → ab_F → ab_F → Prop} {I A : ab_F} {p0 : Int32} (h : wX5_frameWith K I A p0) : ab_Cl mX5_frameWith 0 0 0 [.ref 34, .int p0] (shC Z) I A (ab_Px (shC Z) ab_no (ab_ri K)) := by
  refine ab_enter (ls := [some (.ref 34), some (.int p0), none]) (by decide +kernel) (Nat.le_of_ble_eq_true rfl) rfl (fun C => ?_)
  unfold wX5_frameWith at h
  refine g_iconst (n := 1) (v := (nI 0)) dX5_frameWith_0 rfl rfl ?_
  refine g_istore_n (n := 2) (ls' := [some (.ref 34), some (.int p0), some (.int (nI 0))]) dX5_frameWith_1 rfl rfl (Nat.le_of_ble_eq_true rfl) (Nat.le_of_ble_eq_true rfl) rfl rfl ?_
  refine g_less (bc' := 0) (bs' := 0) (Nat.le_of_ble_eq_true rfl) (Nat.le_of_ble_eq_true rfl) ?_
  obtain ⟨n_f, h⟩ := h
  exact tlX5_frameWith_2  n_f _ _ _ _ h
def wjX5_leastRanked_47 (K : Int32 → ab_F → ab_F → Prop) (L4 : Int32 → Int32 → ab_F → ab_F → Prop) (x1 : Int32) (x2 : Int32) (s0 : Int32) (I A : ab_F) : Prop := (∃ j_3 : Nat, x2 = nI j_3 ∧ j_3 < 16 ∧ (∃ j_4 : Nat, x1 = nI j_4 ∧ j_4 < 16 ∧ (((A 36 j_3) < (A 36 j_4) → L4 x2 (x2 + nI 1) I A) ∧ (¬ (A 36 j_3) < (A 36 j_4) → ((s0 = 0 → L4 x1 (x2 + nI 1) I A) ∧ (¬ s0 = 0 → L4 x2 (x2 + nI 1) I A))))))
def wjX5_leastRanked_46 (K : Int32 → ab_F → ab_F → Prop) (L4 : Int32 → Int32 → ab_F → ab_F → Prop) (x1 : Int32) (x2 : Int32) (I A : ab_F) : Prop := wjX5_leastRanked_47 K L4 x1 x2 (nI 0) I A
def wlX5_leastRanked_4 (K : Int32 → ab_F → ab_F → Prop) : Nat → Int32 → Int32 → ab_F → ab_F → Prop
  | 0, _, _, _, _ => False
  | n + 1, x1, x2, I, A => (((I 34 6) ≤ x2 → K x1 I A) ∧ (¬ (I 34 6) ≤ x2 → (∃ j_1 : Nat, x2 = nI j_1 ∧ j_1 < 16 ∧ (∃ j_2 : Nat, x1 = nI j_2 ∧ j_2 < 16 ∧ ((¬ (A 36 j_1) = (A 36 j_2) → wjX5_leastRanked_46 K (wlX5_leastRanked_4 K n) x1 x2 I A) ∧ ((A 36 j_1) = (A 36 j_2) → (∃ j_5 : Nat, x2 = nI j_5 ∧ j_5 < 16 ∧ (∃ j_6 : Nat, x1 = nI j_6 ∧ j_6 < 16 ∧ (((A 35 j_6) ≤ (A 35 j_5) → wjX5_leastRanked_46 K (wlX5_leastRanked_4 K n) x1 x2 I A) ∧ (¬ (A 35 j_6) ≤ (A 35 j_5) → wjX5_leastRanked_47 K (wlX5_leastRanked_4 K n) x1 x2 (nI 1) I A))))))))))
def wX5_leastRanked (K : Int32 → ab_F → ab_F → Prop) (I A : ab_F)  : Prop := (∃ nf : Nat, wlX5_leastRanked_4 K nf (nI 0) (nI 1) I A)
set_option maxRecDepth 20000 in
theorem tjX5_leastRanked_47 {C : ab_X} {Z : ab_Z} {K : Int32 → ab_F → ab_F → Prop} {L4 : Int32 → Int32 → ab_F → ab_F → Prop} (hL4 : ∀ (x1 : Int32) (x2 : Int32) (I A : ab_F), L4 x1 x2 I A → ab_G mX5_leastRanked 0 C (ab_Px (shC Z) ab_no (ab_ri K)) 4 [some (.ref 34), some (.int x1), some (.int x2), none] [] (shC Z) I A 0 0) (x1 : Int32) (x2 : Int32) (s0 : Int32) (I A : ab_F) (h : wjX5_leastRanked_47 K L4 x1 x2 s0 I A) : ab_G mX5_leastRanked 0 C (ab_Px (shC Z) ab_no (ab_ri K)) 47 [some (.ref 34), some (.int x1), some (.int x2), none] [.int s0] (shC Z) I A 0 0 := by
  unfold wjX5_leastRanked_47 at h
  refine g_istore_n (n := 48) (ls' := [some (.ref 34), some (.int x1), some (.int x2), some (.int s0)]) dX5_leastRanked_47 rfl rfl (Nat.le_of_ble_eq_true rfl) (Nat.le_of_ble_eq_true rfl) rfl rfl ?_
  refine g_aload_n (n := 49) dX5_leastRanked_48 rfl rfl rfl ?_
  refine g_getR (n := 52) (k := 1) dX5_leastRanked_49 sC_34 vc_9 (Nat.le_of_ble_eq_true rfl) rfl w_481 rfl ?_
  refine g_iload_n (n := 53) dX5_leastRanked_52 rfl rfl rfl ?_
  obtain ⟨j_3, hj, hl, h⟩ := h
  refine g_ialdJ (n := 54) (j := j_3) (x := (A 36 j_3)) dX5_leastRanked_53 sC_36 hj hl (by decide) rfl rfl ?_
  refine g_aload_n (n := 55) dX5_leastRanked_54 rfl rfl rfl ?_
  refine g_getR (n := 58) (k := 1) dX5_leastRanked_55 sC_34 vc_9 (Nat.le_of_ble_eq_true rfl) rfl w_481 rfl ?_
  refine g_iload_n (n := 59) dX5_leastRanked_58 rfl rfl rfl ?_
  obtain ⟨j_4, hj, hl, h⟩ := h
  refine g_ialdJ (n := 60) (j := j_4) (x := (A 36 j_4)) dX5_leastRanked_59 sC_36 hj hl (by decide) rfl rfl ?_
  refine g_icmp_lt (n := 63) 67 dX5_leastRanked_60 (by decide) rfl (fun hc => ?_) (fun hc => ?_)
  · have h := h.1 hc
    refine g_iload_n (n := 68) dX5_leastRanked_67 rfl rfl rfl ?_
    refine g_istore_n (n := 69) (ls' := [some (.ref 34), some (.int x2), some (.int x2), some (.int s0)]) dX5_leastRanked_68 rfl rfl (Nat.le_of_ble_eq_true rfl) (Nat.le_of_ble_eq_true rfl) rfl rfl ?_
    refine g_iinc (n := 72) (v := (x2 + nI 1)) (ls' := [some (.ref 34), some (.int x2), some (.int (x2 + nI 1)), some (.int s0)]) dX5_leastRanked_69 rfl rfl rfl (Nat.le_of_ble_eq_true rfl) rfl rfl ?_
    refine g_goto 4 dX5_leastRanked_72 (by decide) ?_
    refine g_forget (ls' := [some (.ref 34), some (.int x2), some (.int (x2 + nI 1)), none]) (ab_fg rfl) ?_
    exact hL4 _ _ _ _ h
  · have h := h.2 hc
    refine g_iload_n (n := 64) dX5_leastRanked_63 rfl rfl rfl ?_
    refine g_if_eq (n := 67) 69 dX5_leastRanked_64 (by decide) rfl (fun hc => ?_) (fun hc => ?_)
    · have h := h.1 hc
      refine g_iinc (n := 72) (v := (x2 + nI 1)) (ls' := [some (.ref 34), some (.int x1), some (.int (x2 + nI 1)), some (.int s0)]) dX5_leastRanked_69 rfl rfl rfl (Nat.le_of_ble_eq_true rfl) rfl rfl ?_
      refine g_goto 4 dX5_leastRanked_72 (by decide) ?_
      refine g_forget (ls' := [some (.ref 34), some (.int x1), some (.int (x2 + nI 1)), none]) (ab_fg rfl) ?_
      exact hL4 _ _ _ _ h
    · have h := h.2 hc
      refine g_iload_n (n := 68) dX5_leastRanked_67 rfl rfl rfl ?_
      refine g_istore_n (n := 69) (ls' := [some (.ref 34), some (.int x2), some (.int x2), some (.int s0)]) dX5_leastRanked_68 rfl rfl (Nat.le_of_ble_eq_true rfl) (Nat.le_of_ble_eq_true rfl) rfl rfl ?_
      refine g_iinc (n := 72) (v := (x2 + nI 1)) (ls' := [some (.ref 34), some (.int x2), some (.int (x2 + nI 1)), some (.int s0)]) dX5_leastRanked_69 rfl rfl rfl (Nat.le_of_ble_eq_true rfl) rfl rfl ?_
      refine g_goto 4 dX5_leastRanked_72 (by decide) ?_
      refine g_forget (ls' := [some (.ref 34), some (.int x2), some (.int (x2 + nI 1)), none]) (ab_fg rfl) ?_
      exact hL4 _ _ _ _ h
set_option maxRecDepth 20000 in
theorem tjX5_leastRanked_46 {C : ab_X} {Z : ab_Z} {K : Int32 → ab_F → ab_F → Prop} {L4 : Int32 → Int32 → ab_F → ab_F → Prop} (hL4 : ∀ (x1 : Int32) (x2 : Int32) (I A : ab_F), L4 x1 x2 I A → ab_G mX5_leastRanked 0 C (ab_Px (shC Z) ab_no (ab_ri K)) 4 [some (.ref 34), some (.int x1), some (.int x2), none] [] (shC Z) I A 0 0) (x1 : Int32) (x2 : Int32) (I A : ab_F) (h : wjX5_leastRanked_46 K L4 x1 x2 I A) : ab_G mX5_leastRanked 0 C (ab_Px (shC Z) ab_no (ab_ri K)) 46 [some (.ref 34), some (.int x1), some (.int x2), none] [] (shC Z) I A 0 0 := by
  unfold wjX5_leastRanked_46 at h
  refine g_iconst (n := 47) (v := (nI 0)) dX5_leastRanked_46 rfl rfl ?_
  refine g_less (bc' := 0) (bs' := 0) (Nat.le_of_ble_eq_true rfl) (Nat.le_of_ble_eq_true rfl) ?_
  exact tjX5_leastRanked_47 hL4 _ _ _ _ _ h
set_option maxRecDepth 20000 in
theorem tlX5_leastRanked_4 {C : ab_X} {Z : ab_Z} {K : Int32 → ab_F → ab_F → Prop} : ∀ (n : Nat) (x1 : Int32) (x2 : Int32) (I A : ab_F), wlX5_leastRanked_4 K n x1 x2 I A → ab_G mX5_leastRanked 0 C (ab_Px (shC Z) ab_no (ab_ri K)) 4 [some (.ref 34), some (.int x1), some (.int x2), none] [] (shC Z) I A 0 0 := by
  intro n
  induction n with
  | zero => intro x1 x2 I A h; exact h.elim
  | succ n hL4 =>
    intro x1 x2 I A h
    rw [wlX5_leastRanked_4] at h
    refine g_iload_n (n := 5) dX5_leastRanked_4 rfl rfl rfl ?_
    refine g_aload_n (n := 6) dX5_leastRanked_5 rfl rfl rfl ?_
    refine g_getIE (n := 9) (k := 6) (x := (I 34 6)) dX5_leastRanked_6 sC_34 vc_9 (Nat.le_of_ble_eq_true rfl) rfl w_486 rfl rfl ?_
    refine g_icmp_ge (n := 12) 75 dX5_leastRanked_9 (by decide) rfl (fun hc => ?_) (fun hc => ?_)
    · have h := h.1 hc
      refine g_iload_n (n := 76) dX5_leastRanked_75 rfl rfl rfl ?_
      exact g_iret rfl rfl dX5_leastRanked_76 ⟨rfl, _, rfl, h⟩
    · have h := h.2 hc
      refine g_aload_n (n := 13) dX5_leastRanked_12 rfl rfl rfl ?_
      refine g_getR (n := 16) (k := 1) dX5_leastRanked_13 sC_34 vc_9 (Nat.le_of_ble_eq_true rfl) rfl w_481 rfl ?_
      refine g_iload_n (n := 17) dX5_leastRanked_16 rfl rfl rfl ?_
      obtain ⟨j_1, hj, hl, h⟩ := h
      refine g_ialdJ (n := 18) (j := j_1) (x := (A 36 j_1)) dX5_leastRanked_17 sC_36 hj hl (by decide) rfl rfl ?_
      refine g_aload_n (n := 19) dX5_leastRanked_18 rfl rfl rfl ?_
      refine g_getR (n := 22) (k := 1) dX5_leastRanked_19 sC_34 vc_9 (Nat.le_of_ble_eq_true rfl) rfl w_481 rfl ?_
      refine g_iload_n (n := 23) dX5_leastRanked_22 rfl rfl rfl ?_
      obtain ⟨j_2, hj, hl, h⟩ := h
      refine g_ialdJ (n := 24) (j := j_2) (x := (A 36 j_2)) dX5_leastRanked_23 sC_36 hj hl (by decide) rfl rfl ?_
      refine g_icmp_ne (n := 27) 46 dX5_leastRanked_24 (by decide) rfl (fun hc => ?_) (fun hc => ?_)
      · have h := h.1 hc
        refine g_less (bc' := 0) (bs' := 0) (Nat.le_of_ble_eq_true rfl) (Nat.le_of_ble_eq_true rfl) ?_
        exact tjX5_leastRanked_46 hL4 _ _ _ _ h
      · have h := h.2 hc
        refine g_aload_n (n := 28) dX5_leastRanked_27 rfl rfl rfl ?_
        refine g_getR (n := 31) (k := 0) dX5_leastRanked_28 sC_34 vc_9 (Nat.le_of_ble_eq_true rfl) rfl w_480 rfl ?_
        refine g_iload_n (n := 32) dX5_leastRanked_31 rfl rfl rfl ?_
        obtain ⟨j_5, hj, hl, h⟩ := h
        refine g_ialdJ (n := 33) (j := j_5) (x := (A 35 j_5)) dX5_leastRanked_32 sC_35 hj hl (by decide) rfl rfl ?_
        refine g_aload_n (n := 34) dX5_leastRanked_33 rfl rfl rfl ?_
        refine g_getR (n := 37) (k := 0) dX5_leastRanked_34 sC_34 vc_9 (Nat.le_of_ble_eq_true rfl) rfl w_480 rfl ?_
        refine g_iload_n (n := 38) dX5_leastRanked_37 rfl rfl rfl ?_
        obtain ⟨j_6, hj, hl, h⟩ := h
        refine g_ialdJ (n := 39) (j := j_6) (x := (A 35 j_6)) dX5_leastRanked_38 sC_35 hj hl (by decide) rfl rfl ?_
        refine g_icmp_ge (n := 42) 46 dX5_leastRanked_39 (by decide) rfl (fun hc => ?_) (fun hc => ?_)
        · have h := h.1 hc
          refine g_less (bc' := 0) (bs' := 0) (Nat.le_of_ble_eq_true rfl) (Nat.le_of_ble_eq_true rfl) ?_
          exact tjX5_leastRanked_46 hL4 _ _ _ _ h
        · have h := h.2 hc
          refine g_iconst (n := 43) (v := (nI 1)) dX5_leastRanked_42 rfl rfl ?_
          refine g_goto 47 dX5_leastRanked_43 (by decide) ?_
          refine g_less (bc' := 0) (bs' := 0) (Nat.le_of_ble_eq_true rfl) (Nat.le_of_ble_eq_true rfl) ?_
          exact tjX5_leastRanked_47 hL4 _ _ _ _ _ h
set_option maxRecDepth 20000 in
theorem ctX5_leastRanked {Z : ab_Z} {K : Int32 → ab_F → ab_F → Prop} {I A : ab_F}  (h : wX5_leastRanked K I A ) : ab_Cl mX5_leastRanked 0 0 0 [.ref 34] (shC Z) I A (ab_Px (shC Z) ab_no (ab_ri K)) := by
  refine ab_enter (ls := [some (.ref 34), none, none, none]) (by decide +kernel) (Nat.le_of_ble_eq_true rfl) rfl (fun C => ?_)
  unfold wX5_leastRanked at h
  refine g_iconst (n := 1) (v := (nI 0)) dX5_leastRanked_0 rfl rfl ?_
  refine g_istore_n (n := 2) (ls' := [some (.ref 34), some (.int (nI 0)), none, none]) dX5_leastRanked_1 rfl rfl (Nat.le_of_ble_eq_true rfl) (Nat.le_of_ble_eq_true rfl) rfl rfl ?_
  refine g_iconst (n := 3) (v := (nI 1)) dX5_leastRanked_2 rfl rfl ?_
  refine g_istore_n (n := 4) (ls' := [some (.ref 34), some (.int (nI 0)), some (.int (nI 1)), none]) dX5_leastRanked_3 rfl rfl (Nat.le_of_ble_eq_true rfl) (Nat.le_of_ble_eq_true rfl) rfl rfl ?_
  refine g_less (bc' := 0) (bs' := 0) (Nat.le_of_ble_eq_true rfl) (Nat.le_of_ble_eq_true rfl) ?_
  obtain ⟨n_f, h⟩ := h
  exact tlX5_leastRanked_4  n_f _ _ _ _ h
def wjX5_countFaults_143 (K : Int32 → ab_F → ab_F → Prop) (L16 : Int32 → Int32 → Int32 → Int32 → ab_F → ab_F → Prop) (x2 : Int32) (x3 : Int32) (x4 : Int32) (x5 : Int32) (s0 : Int32) (s1 : Int32) (I A : ab_F) : Prop := (∃ j_7 : Nat, s1 = nI j_7 ∧ j_7 < 16 ∧ L16 x2 x3 x4 (x5 + nI 1) I (wr A 36 j_7 s0))
def wjX5_countFaults_119 (K : Int32 → ab_F → ab_F → Prop) (L16 : Int32 → Int32 → Int32 → Int32 → ab_F → ab_F → Prop) (x2 : Int32) (x3 : Int32) (x4 : Int32) (x5 : Int32) (x6 : Int32) (I A : ab_F) : Prop := ((¬ x3 = (nI 2) → wjX5_countFaults_143 K L16 x2 x3 x4 x5 x5 x6 I A) ∧ (x3 = (nI 2) → (∃ j_8 : Nat, x5 = nI j_8 ∧ j_8 < 64 ∧ wjX5_countFaults_143 K L16 x2 x3 x4 x5 (-(A 38 j_8)) x6 I A)))
def wjX5_countFaults_109 (K : Int32 → ab_F → ab_F → Prop) (L16 : Int32 → Int32 → Int32 → Int32 → ab_F → ab_F → Prop) (x2 : Int32) (x3 : Int32) (x4 : Int32) (x5 : Int32) (x6 : Int32) (x7 : Int32) (I A : ab_F) : Prop := ((¬ x7 = 0 → wjX5_countFaults_119 K L16 x2 x3 x4 x5 x6 I A) ∧ (x7 = 0 → ((x3 = (nI 1) → L16 x2 x3 x4 (x5 + nI 1) I A) ∧ (¬ x3 = (nI 1) → wjX5_countFaults_119 K L16 x2 x3 x4 x5 x6 I A))))
def wjX5_countFaults_78 (K : Int32 → ab_F → ab_F → Prop) (L16 : Int32 → Int32 → Int32 → Int32 → ab_F → ab_F → Prop) (x2 : Int32) (x3 : Int32) (x4 : Int32) (x5 : Int32) (x7 : Int32) (s0 : Int32) (I A : ab_F) : Prop := (∃ j_12 : Nat, x5 = nI j_12 ∧ j_12 < 64 ∧ (∃ j_13 : Nat, s0 = nI j_13 ∧ j_13 < 16 ∧ wjX5_countFaults_109 K L16 x2 x3 x4 x5 s0 x7 (wr I 34 6 (if (I 34 6) < (s0 + (nI 1)) then (s0 + (nI 1)) else (I 34 6))) (wr A 35 j_13 (A 37 j_12))))
def wjX5_countFaults_49 (K : Int32 → ab_F → ab_F → Prop) (L16 : Int32 → Int32 → Int32 → Int32 → ab_F → ab_F → Prop) (x2 : Int32) (x3 : Int32) (x4 : Int32) (x5 : Int32) (x6 : Int32) (s0 : Int32) (I A : ab_F) : Prop := ((s0 = 0 → wjX5_countFaults_109 K L16 x2 x3 x4 x5 x6 s0 I A) ∧ (¬ s0 = 0 → ((x2 ≤ (I 34 6) → wX5_leastRanked (fun r_11 I_9 A_10 => wjX5_countFaults_78 K L16 x2 x3 (x4 + nI 1) x5 s0 r_11 I_9 A_10) I A ) ∧ (¬ x2 ≤ (I 34 6) → wjX5_countFaults_78 K L16 x2 x3 (x4 + nI 1) x5 s0 (I 34 6) I A))))
def wlX5_countFaults_16 (K : Int32 → ab_F → ab_F → Prop) : Nat → Int32 → Int32 → Int32 → Int32 → ab_F → ab_F → Prop
  | 0, _, _, _, _, _, _ => False
  | n + 1, x2, x3, x4, x5, I, A => (((I 34 5) ≤ x5 → K x4 I A) ∧ (¬ (I 34 5) ≤ x5 → (∃ j_3 : Nat, x5 = nI j_3 ∧ j_3 < 64 ∧ wX5_frameWith (fun r_6 I_4 A_5 => ((¬ r_6 = (-1 : Int32) → wjX5_countFaults_49 K (wlX5_countFaults_16 K n) x2 x3 x4 x5 r_6 (nI 0) I_4 A_5) ∧ (r_6 = (-1 : Int32) → wjX5_countFaults_49 K (wlX5_countFaults_16 K n) x2 x3 x4 x5 r_6 (nI 1) I_4 A_5))) I A (A 37 j_3))))
def wX5_countFaults (K : Int32 → ab_F → ab_F → Prop) (I A : ab_F) (p1 : Int32) (p2 : Int32) : Prop := wX5_lookUp (fun I_1 A_2 => (∃ nf : Nat, wlX5_countFaults_16 K nf p1 p2 (nI 0) (nI 0) (wr I_1 34 6 (nI 0)) A_2)) I A 
set_option maxRecDepth 20000 in
theorem tjX5_countFaults_143 {C : ab_X} {Z : ab_Z} {K : Int32 → ab_F → ab_F → Prop} {L16 : Int32 → Int32 → Int32 → Int32 → ab_F → ab_F → Prop} (hL16 : ∀ (x2 : Int32) (x3 : Int32) (x4 : Int32) (x5 : Int32) (I A : ab_F), L16 x2 x3 x4 x5 I A → ab_G mX5_countFaults 3 C (ab_Px (shC Z) ab_no (ab_ri K)) 16 [some (.ref 34), none, some (.int x2), some (.int x3), some (.int x4), some (.int x5), none, none] [] (shC Z) I A 0 0) (x2 : Int32) (x3 : Int32) (x4 : Int32) (x5 : Int32) (s0 : Int32) (s1 : Int32) (I A : ab_F) (h : wjX5_countFaults_143 K L16 x2 x3 x4 x5 s0 s1 I A) : ab_G mX5_countFaults 3 C (ab_Px (shC Z) ab_no (ab_ri K)) 143 [some (.ref 34), none, some (.int x2), some (.int x3), some (.int x4), some (.int x5), none, none] [.int s0, .int s1, .ref 36] (shC Z) I A 0 0 := by
  unfold wjX5_countFaults_143 at h
  obtain ⟨j_7, hj, hl, h⟩ := h
  refine g_iastJ (n := 144) (j := j_7) dX5_countFaults_143 sC_36 hj hl (by decide) rfl ?_
  refine g_iinc (n := 147) (v := (x5 + nI 1)) (ls' := [some (.ref 34), none, some (.int x2), some (.int x3), some (.int x4), some (.int (x5 + nI 1)), none, none]) dX5_countFaults_144 rfl rfl rfl (Nat.le_of_ble_eq_true rfl) rfl rfl ?_
  refine g_goto 16 dX5_countFaults_147 (by decide) ?_
  exact hL16 _ _ _ _ _ _ h
set_option maxRecDepth 20000 in
theorem tjX5_countFaults_119 {C : ab_X} {Z : ab_Z} {K : Int32 → ab_F → ab_F → Prop} {L16 : Int32 → Int32 → Int32 → Int32 → ab_F → ab_F → Prop} (hL16 : ∀ (x2 : Int32) (x3 : Int32) (x4 : Int32) (x5 : Int32) (I A : ab_F), L16 x2 x3 x4 x5 I A → ab_G mX5_countFaults 3 C (ab_Px (shC Z) ab_no (ab_ri K)) 16 [some (.ref 34), none, some (.int x2), some (.int x3), some (.int x4), some (.int x5), none, none] [] (shC Z) I A 0 0) (x2 : Int32) (x3 : Int32) (x4 : Int32) (x5 : Int32) (x6 : Int32) (I A : ab_F) (h : wjX5_countFaults_119 K L16 x2 x3 x4 x5 x6 I A) : ab_G mX5_countFaults 3 C (ab_Px (shC Z) ab_no (ab_ri K)) 119 [some (.ref 34), none, some (.int x2), some (.int x3), some (.int x4), some (.int x5), some (.int x6), none] [] (shC Z) I A 0 0 := by
  unfold wjX5_countFaults_119 at h
  refine g_aload_n (n := 120) dX5_countFaults_119 rfl rfl rfl ?_
  refine g_getR (n := 123) (k := 1) dX5_countFaults_120 sC_34 vc_9 (Nat.le_of_ble_eq_true rfl) rfl w_481 rfl ?_
  refine g_iload (n := 125) dX5_countFaults_123 rfl rfl ?_
  refine g_iload_n (n := 126) dX5_countFaults_125 rfl rfl rfl ?_
  refine g_iconst (n := 127) (v := (nI 2)) dX5_countFaults_126 rfl rfl ?_
  refine g_icmp_ne (n := 130) 141 dX5_countFaults_127 (by decide) rfl (fun hc => ?_) (fun hc => ?_)
  · have h := h.1 hc
    refine g_iload (n := 143) dX5_countFaults_141 rfl rfl ?_
    refine g_forget (ls' := [some (.ref 34), none, some (.int x2), some (.int x3), some (.int x4), some (.int x5), none, none]) (ab_fg rfl) ?_
    refine g_less (bc' := 0) (bs' := 0) (Nat.le_of_ble_eq_true rfl) (Nat.le_of_ble_eq_true rfl) ?_
    exact tjX5_countFaults_143 hL16 _ _ _ _ _ _ _ _ h
  · have h := h.2 hc
    refine g_aload_n (n := 131) dX5_countFaults_130 rfl rfl rfl ?_
    refine g_getR (n := 134) (k := 3) dX5_countFaults_131 sC_34 vc_9 (Nat.le_of_ble_eq_true rfl) rfl w_483 rfl ?_
    refine g_iload (n := 136) dX5_countFaults_134 rfl rfl ?_
    obtain ⟨j_8, hj, hl, h⟩ := h
    refine g_ialdJ (n := 137) (j := j_8) (x := (A 38 j_8)) dX5_countFaults_136 sC_38 hj hl (by decide) rfl rfl ?_
    refine g_ineg (n := 138) dX5_countFaults_137 rfl ?_
    refine g_goto 143 dX5_countFaults_138 (by decide) ?_
    refine g_forget (ls' := [some (.ref 34), none, some (.int x2), some (.int x3), some (.int x4), some (.int x5), none, none]) (ab_fg rfl) ?_
    refine g_less (bc' := 0) (bs' := 0) (Nat.le_of_ble_eq_true rfl) (Nat.le_of_ble_eq_true rfl) ?_
    exact tjX5_countFaults_143 hL16 _ _ _ _ _ _ _ _ h
set_option maxRecDepth 20000 in
theorem tjX5_countFaults_109 {C : ab_X} {Z : ab_Z} {K : Int32 → ab_F → ab_F → Prop} {L16 : Int32 → Int32 → Int32 → Int32 → ab_F → ab_F → Prop} (hL16 : ∀ (x2 : Int32) (x3 : Int32) (x4 : Int32) (x5 : Int32) (I A : ab_F), L16 x2 x3 x4 x5 I A → ab_G mX5_countFaults 3 C (ab_Px (shC Z) ab_no (ab_ri K)) 16 [some (.ref 34), none, some (.int x2), some (.int x3), some (.int x4), some (.int x5), none, none] [] (shC Z) I A 0 0) (x2 : Int32) (x3 : Int32) (x4 : Int32) (x5 : Int32) (x6 : Int32) (x7 : Int32) (I A : ab_F) (h : wjX5_countFaults_109 K L16 x2 x3 x4 x5 x6 x7 I A) : ab_G mX5_countFaults 3 C (ab_Px (shC Z) ab_no (ab_ri K)) 109 [some (.ref 34), none, some (.int x2), some (.int x3), some (.int x4), some (.int x5), some (.int x6), some (.int x7)] [] (shC Z) I A 0 0 := by
  unfold wjX5_countFaults_109 at h
  refine g_iload (n := 111) dX5_countFaults_109 rfl rfl ?_
  refine g_if_ne (n := 114) 119 dX5_countFaults_111 (by decide) rfl (fun hc => ?_) (fun hc => ?_)
  · have h := h.1 hc
    refine g_forget (ls' := [some (.ref 34), none, some (.int x2), some (.int x3), some (.int x4), some (.int x5), some (.int x6), none]) (ab_fg rfl) ?_
    refine g_less (bc' := 0) (bs' := 0) (Nat.le_of_ble_eq_true rfl) (Nat.le_of_ble_eq_true rfl) ?_
    exact tjX5_countFaults_119 hL16 _ _ _ _ _ _ _ h
  · have h := h.2 hc
    refine g_iload_n (n := 115) dX5_countFaults_114 rfl rfl rfl ?_
    refine g_iconst (n := 116) (v := (nI 1)) dX5_countFaults_115 rfl rfl ?_
    refine g_icmp_eq (n := 119) 144 dX5_countFaults_116 (by decide) rfl (fun hc => ?_) (fun hc => ?_)
    · have h := h.1 hc
      refine g_iinc (n := 147) (v := (x5 + nI 1)) (ls' := [some (.ref 34), none, some (.int x2), some (.int x3), some (.int x4), some (.int (x5 + nI 1)), some (.int x6), some (.int x7)]) dX5_countFaults_144 rfl rfl rfl (Nat.le_of_ble_eq_true rfl) rfl rfl ?_
      refine g_goto 16 dX5_countFaults_147 (by decide) ?_
      refine g_forget (ls' := [some (.ref 34), none, some (.int x2), some (.int x3), some (.int x4), some (.int (x5 + nI 1)), none, none]) (ab_fg rfl) ?_
      exact hL16 _ _ _ _ _ _ h
    · have h := h.2 hc
      refine g_forget (ls' := [some (.ref 34), none, some (.int x2), some (.int x3), some (.int x4), some (.int x5), some (.int x6), none]) (ab_fg rfl) ?_
      refine g_less (bc' := 0) (bs' := 0) (Nat.le_of_ble_eq_true rfl) (Nat.le_of_ble_eq_true rfl) ?_
      exact tjX5_countFaults_119 hL16 _ _ _ _ _ _ _ h
set_option maxRecDepth 20000 in
theorem tjX5_countFaults_78 {C : ab_X} {Z : ab_Z} {K : Int32 → ab_F → ab_F → Prop} {L16 : Int32 → Int32 → Int32 → Int32 → ab_F → ab_F → Prop} (hL16 : ∀ (x2 : Int32) (x3 : Int32) (x4 : Int32) (x5 : Int32) (I A : ab_F), L16 x2 x3 x4 x5 I A → ab_G mX5_countFaults 3 C (ab_Px (shC Z) ab_no (ab_ri K)) 16 [some (.ref 34), none, some (.int x2), some (.int x3), some (.int x4), some (.int x5), none, none] [] (shC Z) I A 0 0) (x2 : Int32) (x3 : Int32) (x4 : Int32) (x5 : Int32) (x7 : Int32) (s0 : Int32) (I A : ab_F) (h : wjX5_countFaults_78 K L16 x2 x3 x4 x5 x7 s0 I A) : ab_G mX5_countFaults 3 C (ab_Px (shC Z) ab_no (ab_ri K)) 78 [some (.ref 34), none, some (.int x2), some (.int x3), some (.int x4), some (.int x5), none, some (.int x7)] [.int s0] (shC Z) I A 0 0 := by
  unfold wjX5_countFaults_78 at h
  refine g_istore (n := 80) (ls' := [some (.ref 34), none, some (.int x2), some (.int x3), some (.int x4), some (.int x5), some (.int s0), some (.int x7)]) dX5_countFaults_78 rfl (Nat.le_of_ble_eq_true rfl) (Nat.le_of_ble_eq_true rfl) rfl rfl ?_
  refine g_aload_n (n := 81) dX5_countFaults_80 rfl rfl rfl ?_
  refine g_aload_n (n := 82) dX5_countFaults_81 rfl rfl rfl ?_
  refine g_getIE (n := 85) (k := 6) (x := (I 34 6)) dX5_countFaults_82 sC_34 vc_9 (Nat.le_of_ble_eq_true rfl) rfl w_486 rfl rfl ?_
  refine g_iload (n := 87) dX5_countFaults_85 rfl rfl ?_
  refine g_iconst (n := 88) (v := (nI 1)) dX5_countFaults_87 rfl rfl ?_
  refine g_iadd (n := 89) dX5_countFaults_88 rfl ?_
  refine g_mmax (n := 92) dX5_countFaults_89 w_1870 w_1028 w_125 w_1029 (Nat.le_of_ble_eq_true rfl) (Nat.le_of_ble_eq_true rfl) rfl ?_
  refine g_putI (n := 95) (k := 6) dX5_countFaults_92 sC_34 vc_9 (Nat.le_of_ble_eq_true rfl) rfl w_486 rfl rfl rfl rfl rfl ?_
  refine g_aload_n (n := 96) dX5_countFaults_95 rfl rfl rfl ?_
  refine g_getR (n := 99) (k := 0) dX5_countFaults_96 sC_34 vc_9 (Nat.le_of_ble_eq_true rfl) rfl w_480 rfl ?_
  refine g_iload (n := 101) dX5_countFaults_99 rfl rfl ?_
  refine g_aload_n (n := 102) dX5_countFaults_101 rfl rfl rfl ?_
  refine g_getR (n := 105) (k := 2) dX5_countFaults_102 sC_34 vc_9 (Nat.le_of_ble_eq_true rfl) rfl w_482 rfl ?_
  refine g_iload (n := 107) dX5_countFaults_105 rfl rfl ?_
  obtain ⟨j_12, hj, hl, h⟩ := h
  refine g_ialdJ (n := 108) (j := j_12) (x := (A 37 j_12)) dX5_countFaults_107 sC_37 hj hl (by decide) rfl rfl ?_
  obtain ⟨j_13, hj, hl, h⟩ := h
  refine g_iastJ (n := 109) (j := j_13) dX5_countFaults_108 sC_35 hj hl (by decide) rfl ?_
  refine g_less (bc' := 0) (bs' := 0) (Nat.le_of_ble_eq_true rfl) (Nat.le_of_ble_eq_true rfl) ?_
  exact tjX5_countFaults_109 hL16 _ _ _ _ _ _ _ _ h
set_option maxRecDepth 20000 in
theorem tjX5_countFaults_49 {C : ab_X} {Z : ab_Z} {K : Int32 → ab_F → ab_F → Prop} {L16 : Int32 → Int32 → Int32 → Int32 → ab_F → ab_F → Prop} (hL16 : ∀ (x2 : Int32) (x3 : Int32) (x4 : Int32) (x5 : Int32) (I A : ab_F), L16 x2 x3 x4 x5 I A → ab_G mX5_countFaults 3 C (ab_Px (shC Z) ab_no (ab_ri K)) 16 [some (.ref 34), none, some (.int x2), some (.int x3), some (.int x4), some (.int x5), none, none] [] (shC Z) I A 0 0) (x2 : Int32) (x3 : Int32) (x4 : Int32) (x5 : Int32) (x6 : Int32) (s0 : Int32) (I A : ab_F) (h : wjX5_countFaults_49 K L16 x2 x3 x4 x5 x6 s0 I A) : ab_G mX5_countFaults 3 C (ab_Px (shC Z) ab_no (ab_ri K)) 49 [some (.ref 34), none, some (.int x2), some (.int x3), some (.int x4), some (.int x5), some (.int x6), none] [.int s0] (shC Z) I A 0 0 := by
  unfold wjX5_countFaults_49 at h
  refine g_istore (n := 51) (ls' := [some (.ref 34), none, some (.int x2), some (.int x3), some (.int x4), some (.int x5), some (.int x6), some (.int s0)]) dX5_countFaults_49 rfl (Nat.le_of_ble_eq_true rfl) (Nat.le_of_ble_eq_true rfl) rfl rfl ?_
  refine g_iload (n := 53) dX5_countFaults_51 rfl rfl ?_
  refine g_if_eq (n := 56) 109 dX5_countFaults_53 (by decide) rfl (fun hc => ?_) (fun hc => ?_)
  · have h := h.1 hc
    refine g_less (bc' := 0) (bs' := 0) (Nat.le_of_ble_eq_true rfl) (Nat.le_of_ble_eq_true rfl) ?_
    exact tjX5_countFaults_109 hL16 _ _ _ _ _ _ _ _ h
  · have h := h.2 hc
    refine g_iinc (n := 59) (v := (x4 + nI 1)) (ls' := [some (.ref 34), none, some (.int x2), some (.int x3), some (.int (x4 + nI 1)), some (.int x5), some (.int x6), some (.int s0)]) dX5_countFaults_56 rfl rfl rfl (Nat.le_of_ble_eq_true rfl) rfl rfl ?_
    refine g_aload_n (n := 60) dX5_countFaults_59 rfl rfl rfl ?_
    refine g_getIE (n := 63) (k := 6) (x := (I 34 6)) dX5_countFaults_60 sC_34 vc_9 (Nat.le_of_ble_eq_true rfl) rfl w_486 rfl rfl ?_
    refine g_iload_n (n := 64) dX5_countFaults_63 rfl rfl rfl ?_
    refine g_icmp_ge (n := 67) 74 dX5_countFaults_64 (by decide) rfl (fun hc => ?_) (fun hc => ?_)
    · have h := h.1 hc
      refine g_aload_n (n := 75) dX5_countFaults_74 rfl rfl rfl ?_
      refine g_callV (n := 78) (as := []) (bc' := 0) (bs' := 0) sC_34 vc_9 (ctX5_leastRanked h) okX5_leastRanked rfl w_1866 w_1868 w_23 w_107 dX5_countFaults_75 rfl rfl (Nat.le_of_ble_eq_true rfl) (Nat.le_of_ble_eq_true rfl) (Nat.le_of_ble_eq_true rfl) (Nat.le_of_ble_eq_true rfl) rfl (fun E sh1 I1 A1 hp _ => hp.2.elim) (fun ro sh_ I_9 A_10 hp hle => ?_)
      obtain ⟨rfl, r_11, rfl, h⟩ := hp
      refine g_forget (ls' := [some (.ref 34), none, some (.int x2), some (.int x3), some (.int (x4 + nI 1)), some (.int x5), none, some (.int s0)]) (ab_fg rfl) ?_
      refine g_less (bc' := 0) (bs' := 0) (Nat.le_of_ble_eq_true rfl) (Nat.le_of_ble_eq_true rfl) ?_
      exact tjX5_countFaults_78 hL16 _ _ _ _ _ _ _ _ h
    · have h := h.2 hc
      refine g_aload_n (n := 68) dX5_countFaults_67 rfl rfl rfl ?_
      refine g_getIE (n := 71) (k := 6) (x := (I 34 6)) dX5_countFaults_68 sC_34 vc_9 (Nat.le_of_ble_eq_true rfl) rfl w_486 rfl rfl ?_
      refine g_goto 78 dX5_countFaults_71 (by decide) ?_
      refine g_forget (ls' := [some (.ref 34), none, some (.int x2), some (.int x3), some (.int (x4 + nI 1)), some (.int x5), none, some (.int s0)]) (ab_fg rfl) ?_
      refine g_less (bc' := 0) (bs' := 0) (Nat.le_of_ble_eq_true rfl) (Nat.le_of_ble_eq_true rfl) ?_
      exact tjX5_countFaults_78 hL16 _ _ _ _ _ _ _ _ h
set_option maxRecDepth 20000 in
theorem tlX5_countFaults_16 {C : ab_X} {Z : ab_Z} {K : Int32 → ab_F → ab_F → Prop} : ∀ (n : Nat) (x2 : Int32) (x3 : Int32) (x4 : Int32) (x5 : Int32) (I A : ab_F), wlX5_countFaults_16 K n x2 x3 x4 x5 I A → ab_G mX5_countFaults 3 C (ab_Px (shC Z) ab_no (ab_ri K)) 16 [some (.ref 34), none, some (.int x2), some (.int x3), some (.int x4), some (.int x5), none, none] [] (shC Z) I A 0 0 := by
  intro n
  induction n with
  | zero => intro x2 x3 x4 x5 I A h; exact h.elim
  | succ n hL16 =>
    intro x2 x3 x4 x5 I A h
    rw [wlX5_countFaults_16] at h
    refine g_iload (n := 18) dX5_countFaults_16 rfl rfl ?_
    refine g_aload_n (n := 19) dX5_countFaults_18 rfl rfl rfl ?_
    refine g_getIE (n := 22) (k := 5) (x := (I 34 5)) dX5_countFaults_19 sC_34 vc_9 (Nat.le_of_ble_eq_true rfl) rfl w_485 rfl rfl ?_
    refine g_icmp_ge (n := 25) 150 dX5_countFaults_22 (by decide) rfl (fun hc => ?_) (fun hc => ?_)
    · have h := h.1 hc
      refine g_iload (n := 152) dX5_countFaults_150 rfl rfl ?_
      exact g_iret rfl rfl dX5_countFaults_152 ⟨rfl, _, rfl, h⟩
    · have h := h.2 hc
      refine g_aload_n (n := 26) dX5_countFaults_25 rfl rfl rfl ?_
      refine g_aload_n (n := 27) dX5_countFaults_26 rfl rfl rfl ?_
      refine g_getR (n := 30) (k := 2) dX5_countFaults_27 sC_34 vc_9 (Nat.le_of_ble_eq_true rfl) rfl w_482 rfl ?_
      refine g_iload (n := 32) dX5_countFaults_30 rfl rfl ?_
      obtain ⟨j_3, hj, hl, h⟩ := h
      refine g_ialdJ (n := 33) (j := j_3) (x := (A 37 j_3)) dX5_countFaults_32 sC_37 hj hl (by decide) rfl rfl ?_
      refine g_callV (n := 36) (as := [.int (A 37 j_3)]) (bc' := 0) (bs' := 0) sC_34 vc_9 (ctX5_frameWith h) okX5_frameWith rfl w_1862 w_1864 w_22 w_107 dX5_countFaults_33 rfl rfl (Nat.le_of_ble_eq_true rfl) (Nat.le_of_ble_eq_true rfl) (Nat.le_of_ble_eq_true rfl) (Nat.le_of_ble_eq_true rfl) rfl (fun E sh1 I1 A1 hp _ => hp.2.elim) (fun ro sh_ I_4 A_5 hp hle => ?_)
      obtain ⟨rfl, r_6, rfl, h⟩ := hp
      refine g_istore (n := 38) (ls' := [some (.ref 34), none, some (.int x2), some (.int x3), some (.int x4), some (.int x5), some (.int r_6), none]) dX5_countFaults_36 rfl (Nat.le_of_ble_eq_true rfl) (Nat.le_of_ble_eq_true rfl) rfl rfl ?_
      refine g_iload (n := 40) dX5_countFaults_38 rfl rfl ?_
      refine g_iconst (n := 41) (v := (-1 : Int32)) dX5_countFaults_40 rfl rfl ?_
      refine g_icmp_ne (n := 44) 48 dX5_countFaults_41 (by decide) rfl (fun hc => ?_) (fun hc => ?_)
      · have h := h.1 hc
        refine g_iconst (n := 49) (v := (nI 0)) dX5_countFaults_48 rfl rfl ?_
        refine g_less (bc' := 0) (bs' := 0) (Nat.le_of_ble_eq_true rfl) (Nat.le_of_ble_eq_true rfl) ?_
        exact tjX5_countFaults_49 hL16 _ _ _ _ _ _ _ _ h
      · have h := h.2 hc
        refine g_iconst (n := 45) (v := (nI 1)) dX5_countFaults_44 rfl rfl ?_
        refine g_goto 49 dX5_countFaults_45 (by decide) ?_
        refine g_less (bc' := 0) (bs' := 0) (Nat.le_of_ble_eq_true rfl) (Nat.le_of_ble_eq_true rfl) ?_
        exact tjX5_countFaults_49 hL16 _ _ _ _ _ _ _ _ h
set_option maxRecDepth 20000 in
theorem ctX5_countFaults {Z : ab_Z} {K : Int32 → ab_F → ab_F → Prop} {I A : ab_F} {p1 : Int32} {p2 : Int32} (h : wX5_countFaults K I A p1 p2) : ab_Cl mX5_countFaults 3 0 0 [.ref 34, .ref 29, .int p1, .int p2] (shC Z) I A (ab_Px (shC Z) ab_no (ab_ri K)) := by
  refine ab_enter (ls := [some (.ref 34), some (.ref 29), some (.int p1), some (.int p2), none, none, none, none]) (by decide +kernel) (Nat.le_of_ble_eq_true rfl) rfl (fun C => ?_)
  unfold wX5_countFaults at h
  refine g_aload_n (n := 1) dX5_countFaults_0 rfl rfl rfl ?_
  refine g_aload_n (n := 2) dX5_countFaults_1 rfl rfl rfl ?_
  refine g_callV (n := 5) (as := [.ref 29]) (bc' := 0) (bs' := 0) sC_34 vc_9 (ctX5_lookUp h) okX5_lookUp rfl w_1856 w_1858 w_21 w_107 dX5_countFaults_2 rfl rfl (Nat.le_of_ble_eq_true rfl) (Nat.le_of_ble_eq_true rfl) (Nat.le_of_ble_eq_true rfl) (Nat.le_of_ble_eq_true rfl) rfl (fun E sh1 I1 A1 hp _ => hp.2.elim) (fun ro sh_ I_1 A_2 hp hle => ?_)
  obtain ⟨rfl, rfl, h⟩ := hp
  refine g_iconst (n := 6) (v := (nI 0)) dX5_countFaults_5 rfl rfl ?_
  refine g_istore (n := 8) (ls' := [some (.ref 34), some (.ref 29), some (.int p1), some (.int p2), some (.int (nI 0)), none, none, none]) dX5_countFaults_6 rfl (Nat.le_of_ble_eq_true rfl) (Nat.le_of_ble_eq_true rfl) rfl rfl ?_
  refine g_aload_n (n := 9) dX5_countFaults_8 rfl rfl rfl ?_
  refine g_iconst (n := 10) (v := (nI 0)) dX5_countFaults_9 rfl rfl ?_
  refine g_putI (n := 13) (k := 6) dX5_countFaults_10 sC_34 vc_9 (Nat.le_of_ble_eq_true rfl) rfl w_486 rfl rfl rfl rfl rfl ?_
  refine g_iconst (n := 14) (v := (nI 0)) dX5_countFaults_13 rfl rfl ?_
  refine g_istore (n := 16) (ls' := [some (.ref 34), some (.ref 29), some (.int p1), some (.int p2), some (.int (nI 0)), some (.int (nI 0)), none, none]) dX5_countFaults_14 rfl (Nat.le_of_ble_eq_true rfl) (Nat.le_of_ble_eq_true rfl) rfl rfl ?_
  refine g_forget (ls' := [some (.ref 34), none, some (.int p1), some (.int p2), some (.int (nI 0)), some (.int (nI 0)), none, none]) (ab_fg rfl) ?_
  refine g_less (bc' := 0) (bs' := 0) (Nat.le_of_ble_eq_true rfl) (Nat.le_of_ble_eq_true rfl) ?_
  obtain ⟨n_f, h⟩ := h
  exact tlX5_countFaults_16  n_f _ _ _ _ _ _ h
def wlX5_fewestFrames_2 (K : Int32 → ab_F → ab_F → Prop) : Nat → Int32 → Int32 → ab_F → ab_F → Prop
  | 0, _, _, _, _ => False
  | n + 1, x2, x3, I, A => (((nI 16) < x3 → K (-1 : Int32) I A) ∧ (¬ (nI 16) < x3 → wX5_countFaults (fun r_3 I_1 A_2 => ((x2 < r_3 → (wlX5_fewestFrames_2 K n) x2 (x3 + nI 1) I_1 A_2) ∧ (¬ x2 < r_3 → K x3 I_1 A_2))) I A x3 (nI 2)))
def wX5_fewestFrames (K : Int32 → ab_F → ab_F → Prop) (I A : ab_F) (p1 : Int32) : Prop := (∃ nf : Nat, wlX5_fewestFrames_2 K nf p1 (nI 1) I A)
set_option maxRecDepth 20000 in
theorem tlX5_fewestFrames_2 {C : ab_X} {Z : ab_Z} {K : Int32 → ab_F → ab_F → Prop} : ∀ (n : Nat) (x2 : Int32) (x3 : Int32) (I A : ab_F), wlX5_fewestFrames_2 K n x2 x3 I A → ab_G mX5_fewestFrames 4 C (ab_Px (shC Z) ab_no (ab_ri K)) 2 [some (.ref 34), some (.ref 29), some (.int x2), some (.int x3)] [] (shC Z) I A 0 0 := by
  intro n
  induction n with
  | zero => intro x2 x3 I A h; exact h.elim
  | succ n hL2 =>
    intro x2 x3 I A h
    rw [wlX5_fewestFrames_2] at h
    refine g_iload_n (n := 3) dX5_fewestFrames_2 rfl rfl rfl ?_
    refine g_bipush (n := 5) (v := (nI 16)) dX5_fewestFrames_3 rfl rfl ?_
    refine g_icmp_gt (n := 8) 27 dX5_fewestFrames_5 (by decide) rfl (fun hc => ?_) (fun hc => ?_)
    · have h := h.1 hc
      refine g_iconst (n := 28) (v := (-1 : Int32)) dX5_fewestFrames_27 rfl rfl ?_
      exact g_iret rfl rfl dX5_fewestFrames_28 ⟨rfl, _, rfl, h⟩
    · have h := h.2 hc
      refine g_aload_n (n := 9) dX5_fewestFrames_8 rfl rfl rfl ?_
      refine g_aload_n (n := 10) dX5_fewestFrames_9 rfl rfl rfl ?_
      refine g_iload_n (n := 11) dX5_fewestFrames_10 rfl rfl rfl ?_
      refine g_iconst (n := 12) (v := (nI 2)) dX5_fewestFrames_11 rfl rfl ?_
      refine g_callV (n := 15) (as := [.ref 29, .int x3, .int (nI 2)]) (bc' := 0) (bs' := 0) sC_34 vc_9 (ctX5_countFaults h) okX5_countFaults rfl w_1882 w_1853 w_1854 w_107 dX5_fewestFrames_12 rfl rfl (Nat.le_of_ble_eq_true rfl) (Nat.le_of_ble_eq_true rfl) (Nat.le_of_ble_eq_true rfl) (Nat.le_of_ble_eq_true rfl) rfl (fun E sh1 I1 A1 hp _ => hp.2.elim) (fun ro sh_ I_1 A_2 hp hle => ?_)
      obtain ⟨rfl, r_3, rfl, h⟩ := hp
      refine g_iload_n (n := 16) dX5_fewestFrames_15 rfl rfl rfl ?_
      refine g_icmp_gt (n := 19) 21 dX5_fewestFrames_16 (by decide) rfl (fun hc => ?_) (fun hc => ?_)
      · have h := h.1 hc
        refine g_iinc (n := 24) (v := (x3 + nI 1)) (ls' := [some (.ref 34), some (.ref 29), some (.int x2), some (.int (x3 + nI 1))]) dX5_fewestFrames_21 rfl rfl rfl (Nat.le_of_ble_eq_true rfl) rfl rfl ?_
        refine g_goto 2 dX5_fewestFrames_24 (by decide) ?_
        exact hL2 _ _ _ _ h
      · have h := h.2 hc
        refine g_iload_n (n := 20) dX5_fewestFrames_19 rfl rfl rfl ?_
        exact g_iret rfl rfl dX5_fewestFrames_20 ⟨rfl, _, rfl, h⟩
set_option maxRecDepth 20000 in
theorem ctX5_fewestFrames {Z : ab_Z} {K : Int32 → ab_F → ab_F → Prop} {I A : ab_F} {p1 : Int32} (h : wX5_fewestFrames K I A p1) : ab_Cl mX5_fewestFrames 4 0 0 [.ref 34, .ref 29, .int p1] (shC Z) I A (ab_Px (shC Z) ab_no (ab_ri K)) := by
  refine ab_enter (ls := [some (.ref 34), some (.ref 29), some (.int p1), none]) (by decide +kernel) (Nat.le_of_ble_eq_true rfl) rfl (fun C => ?_)
  unfold wX5_fewestFrames at h
  refine g_iconst (n := 1) (v := (nI 1)) dX5_fewestFrames_0 rfl rfl ?_
  refine g_istore_n (n := 2) (ls' := [some (.ref 34), some (.ref 29), some (.int p1), some (.int (nI 1))]) dX5_fewestFrames_1 rfl rfl (Nat.le_of_ble_eq_true rfl) (Nat.le_of_ble_eq_true rfl) rfl rfl ?_
  refine g_less (bc' := 0) (bs' := 0) (Nat.le_of_ble_eq_true rfl) (Nat.le_of_ble_eq_true rfl) ?_
  obtain ⟨n_f, h⟩ := h
  exact tlX5_fewestFrames_2  n_f _ _ _ _ h
def wjX10_tokenKind_28 (K : Int32 → ab_F → ab_F → Prop) (x0 : Int32) (I A : ab_F) : Prop := ((¬ x0 = (nI 59) → K (nI 4) I A) ∧ (x0 = (nI 59) → K (nI 3) I A))
def wjX10_tokenKind_14 (K : Int32 → ab_F → ab_F → Prop) (x0 : Int32) (I A : ab_F) : Prop := ((x0 < (nI 48) → wjX10_tokenKind_28 K x0 I A) ∧ (¬ x0 < (nI 48) → (((nI 57) < x0 → wjX10_tokenKind_28 K x0 I A) ∧ (¬ (nI 57) < x0 → K (nI 2) I A))))
def wX10_tokenKind (K : Int32 → ab_F → ab_F → Prop) (I A : ab_F) (p0 : Int32) : Prop := ((p0 < (nI 97) → wjX10_tokenKind_14 K p0 I A) ∧ (¬ p0 < (nI 97) → (((nI 122) < p0 → wjX10_tokenKind_14 K p0 I A) ∧ (¬ (nI 122) < p0 → K (nI 1) I A))))
set_option maxRecDepth 20000 in
theorem tjX10_tokenKind_28 {C : ab_X} {Z : ab_Z} {K : Int32 → ab_F → ab_F → Prop} (x0 : Int32) (I A : ab_F) (h : wjX10_tokenKind_28 K x0 I A) : ab_G mX10_tokenKind 0 C (ab_Px (shC Z) ab_no (ab_ri K)) 28 [some (.int x0)] [] (shC Z) I A 0 0 := by
  unfold wjX10_tokenKind_28 at h
  refine g_iload_n (n := 29) dX10_tokenKind_28 rfl rfl rfl ?_
  refine g_bipush (n := 31) (v := (nI 59)) dX10_tokenKind_29 rfl rfl ?_
  refine g_icmp_ne (n := 34) 38 dX10_tokenKind_31 (by decide) rfl (fun hc => ?_) (fun hc => ?_)
  · have h := h.1 hc
    refine g_iconst (n := 39) (v := (nI 4)) dX10_tokenKind_38 rfl rfl ?_
    exact g_iret rfl rfl dX10_tokenKind_39 ⟨rfl, _, rfl, h⟩
  · have h := h.2 hc
    refine g_iconst (n := 35) (v := (nI 3)) dX10_tokenKind_34 rfl rfl ?_
    refine g_goto 39 dX10_tokenKind_35 (by decide) ?_
    exact g_iret rfl rfl dX10_tokenKind_39 ⟨rfl, _, rfl, h⟩
set_option maxRecDepth 20000 in
theorem tjX10_tokenKind_14 {C : ab_X} {Z : ab_Z} {K : Int32 → ab_F → ab_F → Prop} (x0 : Int32) (I A : ab_F) (h : wjX10_tokenKind_14 K x0 I A) : ab_G mX10_tokenKind 0 C (ab_Px (shC Z) ab_no (ab_ri K)) 14 [some (.int x0)] [] (shC Z) I A 0 0 := by
  unfold wjX10_tokenKind_14 at h
  refine g_iload_n (n := 15) dX10_tokenKind_14 rfl rfl rfl ?_
  refine g_bipush (n := 17) (v := (nI 48)) dX10_tokenKind_15 rfl rfl ?_
  refine g_icmp_lt (n := 20) 28 dX10_tokenKind_17 (by decide) rfl (fun hc => ?_) (fun hc => ?_)
  · have h := h.1 hc
    refine g_less (bc' := 0) (bs' := 0) (Nat.le_of_ble_eq_true rfl) (Nat.le_of_ble_eq_true rfl) ?_
    exact tjX10_tokenKind_28  _ _ _ h
  · have h := h.2 hc
    refine g_iload_n (n := 21) dX10_tokenKind_20 rfl rfl rfl ?_
    refine g_bipush (n := 23) (v := (nI 57)) dX10_tokenKind_21 rfl rfl ?_
    refine g_icmp_gt (n := 26) 28 dX10_tokenKind_23 (by decide) rfl (fun hc => ?_) (fun hc => ?_)
    · have h := h.1 hc
      refine g_less (bc' := 0) (bs' := 0) (Nat.le_of_ble_eq_true rfl) (Nat.le_of_ble_eq_true rfl) ?_
      exact tjX10_tokenKind_28  _ _ _ h
    · have h := h.2 hc
      refine g_iconst (n := 27) (v := (nI 2)) dX10_tokenKind_26 rfl rfl ?_
      exact g_iret rfl rfl dX10_tokenKind_27 ⟨rfl, _, rfl, h⟩
set_option maxRecDepth 20000 in
theorem ctX10_tokenKind {Z : ab_Z} {K : Int32 → ab_F → ab_F → Prop} {I A : ab_F} {p0 : Int32} (h : wX10_tokenKind K I A p0) : ab_Cl mX10_tokenKind 0 0 0 [.int p0] (shC Z) I A (ab_Px (shC Z) ab_no (ab_ri K)) := by
  refine ab_enter (ls := [some (.int p0)]) (by decide +kernel) (Nat.le_of_ble_eq_true rfl) rfl (fun C => ?_)
  unfold wX10_tokenKind at h
  refine g_iload_n (n := 1) dX10_tokenKind_0 rfl rfl rfl ?_
  refine g_bipush (n := 3) (v := (nI 97)) dX10_tokenKind_1 rfl rfl ?_
  refine g_icmp_lt (n := 6) 14 dX10_tokenKind_3 (by decide) rfl (fun hc => ?_) (fun hc => ?_)
  · have h := h.1 hc
    refine g_less (bc' := 0) (bs' := 0) (Nat.le_of_ble_eq_true rfl) (Nat.le_of_ble_eq_true rfl) ?_
    exact tjX10_tokenKind_14  _ _ _ h
  · have h := h.2 hc
    refine g_iload_n (n := 7) dX10_tokenKind_6 rfl rfl rfl ?_
    refine g_bipush (n := 9) (v := (nI 122)) dX10_tokenKind_7 rfl rfl ?_
    refine g_icmp_gt (n := 12) 14 dX10_tokenKind_9 (by decide) rfl (fun hc => ?_) (fun hc => ?_)
    · have h := h.1 hc
      refine g_less (bc' := 0) (bs' := 0) (Nat.le_of_ble_eq_true rfl) (Nat.le_of_ble_eq_true rfl) ?_
      exact tjX10_tokenKind_14  _ _ _ h
    · have h := h.2 hc
      refine g_iconst (n := 13) (v := (nI 1)) dX10_tokenKind_12 rfl rfl ?_
      exact g_iret rfl rfl dX10_tokenKind_13 ⟨rfl, _, rfl, h⟩
def wlX10_nextToken_133 (K : ab_F → ab_F → Prop) : Nat → Int32 → ab_F → ab_F → Prop
  | 0, _, _, _ => False
  | n + 1, x1, I, A => ((x1 = 0 → K I A) ∧ (¬ x1 = 0 → (((I 1 1) ≤ (I 1 3) → K I A) ∧ (¬ (I 1 1) ≤ (I 1 3) → (∃ j_5 : Nat, (I 1 3) = nI j_5 ∧ j_5 < 400 ∧ wX10_tokenKind (fun r_8 I_6 A_7 => ((¬ r_8 = (I_6 1 4) → K I_6 A_7) ∧ (r_8 = (I_6 1 4) → (wlX10_nextToken_133 K n) x1 (wr I_6 1 3 ((I_6 1 3) + (nI 1))) A_7))) I A (A 2 j_5))))))
def wjX10_nextToken_60 (K : ab_F → ab_F → Prop)  (I A : ab_F) : Prop := (((I 1 2) < (I 1 1) → (∃ j_1 : Nat, (I 1 2) = nI j_1 ∧ j_1 < 400 ∧ wX10_tokenKind (fun r_4 I_2 A_3 => (((r_4) = (nI 1) → (∃ nf : Nat, wlX10_nextToken_133 K nf (nI 1) (wr (wr I_2 1 4 r_4) 1 3 ((I_2 1 3) + (nI 1))) A_3)) ∧ (¬ (r_4) = (nI 1) → ((¬ (r_4) = (nI 2) → (∃ nf : Nat, wlX10_nextToken_133 K nf (nI 0) (wr (wr I_2 1 4 r_4) 1 3 ((I_2 1 3) + (nI 1))) A_3)) ∧ ((r_4) = (nI 2) → (∃ nf : Nat, wlX10_nextToken_133 K nf (nI 1) (wr (wr I_2 1 4 r_4) 1 3 ((I_2 1 3) + (nI 1))) A_3)))))) (wr I 1 3 (I 1 2)) A (A 2 j_1))) ∧ (¬ (I 1 2) < (I 1 1) → K (wr (wr I 1 3 (I 1 2)) 1 4 (nI 0)) A))
def wjX10_nextToken_47 (K : ab_F → ab_F → Prop) (L8 : ab_F → ab_F → Prop)  (I A : ab_F) : Prop := L8  (wr I 1 2 ((I 1 2) + (nI 1))) A
def wlX10_nextToken_8 (K : ab_F → ab_F → Prop) : Nat → ab_F → ab_F → Prop
  | 0, _, _ => False
  | n + 1, I, A => (((I 1 1) ≤ (I 1 2) → wjX10_nextToken_60 K  I A) ∧ (¬ (I 1 1) ≤ (I 1 2) → (∃ j_9 : Nat, (I 1 2) = nI j_9 ∧ j_9 < 400 ∧ (((A 2 j_9) = (nI 32) → wjX10_nextToken_47 K (wlX10_nextToken_8 K n)  I A) ∧ (¬ (A 2 j_9) = (nI 32) → (∃ j_10 : Nat, (I 1 2) = nI j_10 ∧ j_10 < 400 ∧ ((¬ (A 2 j_10) = (nI 10) → wjX10_nextToken_60 K  I A) ∧ ((A 2 j_10) = (nI 10) → wjX10_nextToken_47 K (wlX10_nextToken_8 K n)  I A))))))))
def wX10_nextToken (K : ab_F → ab_F → Prop) (I A : ab_F)  : Prop := (∃ nf : Nat, wlX10_nextToken_8 K nf  (wr I 1 2 (I 1 3)) A)
set_option maxRecDepth 20000 in
theorem tlX10_nextToken_133 {C : ab_X} {Z : ab_Z} {K : ab_F → ab_F → Prop} : ∀ (n : Nat) (x1 : Int32) (I A : ab_F), wlX10_nextToken_133 K n x1 I A → ab_G mX10_nextToken 1 C (ab_Px (shC Z) ab_no (ab_rv K)) 133 [some (.ref 1), some (.int x1)] [] (shC Z) I A 0 0 := by
  intro n
  induction n with
  | zero => intro x1 I A h; exact h.elim
  | succ n hL133 =>
    intro x1 I A h
    rw [wlX10_nextToken_133] at h
    refine g_iload_n (n := 134) dX10_nextToken_133 rfl rfl rfl ?_
    refine g_if_eq (n := 137) 180 dX10_nextToken_134 (by decide) rfl (fun hc => ?_) (fun hc => ?_)
    · have h := h.1 hc
      exact g_vret rfl dX10_nextToken_180 ⟨rfl, rfl, h⟩
    · have h := h.2 hc
      refine g_aload_n (n := 138) dX10_nextToken_137 rfl rfl rfl ?_
      refine g_getIE (n := 141) (k := 3) (x := (I 1 3)) dX10_nextToken_138 sC_1 vc_14 (Nat.le_of_ble_eq_true rfl) rfl w_154 rfl rfl ?_
      refine g_aload_n (n := 142) dX10_nextToken_141 rfl rfl rfl ?_
      refine g_getIE (n := 145) (k := 1) (x := (I 1 1)) dX10_nextToken_142 sC_1 vc_14 (Nat.le_of_ble_eq_true rfl) rfl w_150 rfl rfl ?_
      refine g_icmp_ge (n := 148) 180 dX10_nextToken_145 (by decide) rfl (fun hc => ?_) (fun hc => ?_)
      · have h := h.1 hc
        exact g_vret rfl dX10_nextToken_180 ⟨rfl, rfl, h⟩
      · have h := h.2 hc
        refine g_aload_n (n := 149) dX10_nextToken_148 rfl rfl rfl ?_
        refine g_getR (n := 152) (k := 0) dX10_nextToken_149 sC_1 vc_14 (Nat.le_of_ble_eq_true rfl) rfl w_148 rfl ?_
        refine g_aload_n (n := 153) dX10_nextToken_152 rfl rfl rfl ?_
        refine g_getIE (n := 156) (k := 3) (x := (I 1 3)) dX10_nextToken_153 sC_1 vc_14 (Nat.le_of_ble_eq_true rfl) rfl w_154 rfl rfl ?_
        obtain ⟨j_5, hj, hl, h⟩ := h
        refine g_ialdJ (n := 157) (j := j_5) (x := (A 2 j_5)) dX10_nextToken_156 sC_2 hj hl (by decide) rfl rfl ?_
        refine g_callS (n := 160) (as := [.int (A 2 j_5)]) (bc' := 0) (bs' := 0) (ctX10_tokenKind h) okX10_tokenKind w_573 w_574 dX10_nextToken_157 rfl rfl (Nat.le_of_ble_eq_true rfl) (Nat.le_of_ble_eq_true rfl) (Nat.le_of_ble_eq_true rfl) (Nat.le_of_ble_eq_true rfl) rfl (fun E sh1 I1 A1 hp _ => hp.2.elim) (fun ro sh_ I_6 A_7 hp hle => ?_)
        obtain ⟨rfl, r_8, rfl, h⟩ := hp
        refine g_aload_n (n := 161) dX10_nextToken_160 rfl rfl rfl ?_
        refine g_getIE (n := 164) (k := 4) (x := (I_6 1 4)) dX10_nextToken_161 sC_1 vc_14 (Nat.le_of_ble_eq_true rfl) rfl w_157 rfl rfl ?_
        refine g_icmp_ne (n := 167) 180 dX10_nextToken_164 (by decide) rfl (fun hc => ?_) (fun hc => ?_)
        · have h := h.1 hc
          exact g_vret rfl dX10_nextToken_180 ⟨rfl, rfl, h⟩
        · have h := h.2 hc
          refine g_aload_n (n := 168) dX10_nextToken_167 rfl rfl rfl ?_
          refine g_dup (n := 169) dX10_nextToken_168 rfl rfl ?_
          refine g_getIE (n := 172) (k := 3) (x := (I_6 1 3)) dX10_nextToken_169 sC_1 vc_14 (Nat.le_of_ble_eq_true rfl) rfl w_154 rfl rfl ?_
          refine g_iconst (n := 173) (v := (nI 1)) dX10_nextToken_172 rfl rfl ?_
          refine g_iadd (n := 174) dX10_nextToken_173 rfl ?_
          refine g_putI (n := 177) (k := 3) dX10_nextToken_174 sC_1 vc_14 (Nat.le_of_ble_eq_true rfl) rfl w_154 rfl rfl rfl rfl rfl ?_
          refine g_goto 133 dX10_nextToken_177 (by decide) ?_
          exact hL133 _ _ _ h
set_option maxRecDepth 20000 in
theorem tjX10_nextToken_60 {C : ab_X} {Z : ab_Z} {K : ab_F → ab_F → Prop}  (I A : ab_F) (h : wjX10_nextToken_60 K  I A) : ab_G mX10_nextToken 1 C (ab_Px (shC Z) ab_no (ab_rv K)) 60 [some (.ref 1), none] [] (shC Z) I A 0 0 := by
  unfold wjX10_nextToken_60 at h
  refine g_aload_n (n := 61) dX10_nextToken_60 rfl rfl rfl ?_
  refine g_aload_n (n := 62) dX10_nextToken_61 rfl rfl rfl ?_
  refine g_getIE (n := 65) (k := 2) (x := (I 1 2)) dX10_nextToken_62 sC_1 vc_14 (Nat.le_of_ble_eq_true rfl) rfl w_152 rfl rfl ?_
  refine g_putI (n := 68) (k := 3) dX10_nextToken_65 sC_1 vc_14 (Nat.le_of_ble_eq_true rfl) rfl w_154 rfl rfl rfl rfl rfl ?_
  refine g_aload_n (n := 69) dX10_nextToken_68 rfl rfl rfl ?_
  refine g_getIE (n := 72) (k := 2) (x := (I 1 2)) dX10_nextToken_69 sC_1 vc_14 (Nat.le_of_ble_eq_true rfl) rfl w_152 rfl rfl ?_
  refine g_aload_n (n := 73) dX10_nextToken_72 rfl rfl rfl ?_
  refine g_getIE (n := 76) (k := 1) (x := (I 1 1)) dX10_nextToken_73 sC_1 vc_14 (Nat.le_of_ble_eq_true rfl) rfl w_150 rfl rfl ?_
  refine g_icmp_lt (n := 79) 85 dX10_nextToken_76 (by decide) rfl (fun hc => ?_) (fun hc => ?_)
  · have h := h.1 hc
    refine g_aload_n (n := 86) dX10_nextToken_85 rfl rfl rfl ?_
    refine g_aload_n (n := 87) dX10_nextToken_86 rfl rfl rfl ?_
    refine g_getR (n := 90) (k := 0) dX10_nextToken_87 sC_1 vc_14 (Nat.le_of_ble_eq_true rfl) rfl w_148 rfl ?_
    refine g_aload_n (n := 91) dX10_nextToken_90 rfl rfl rfl ?_
    refine g_getIE (n := 94) (k := 2) (x := (I 1 2)) dX10_nextToken_91 sC_1 vc_14 (Nat.le_of_ble_eq_true rfl) rfl w_152 rfl rfl ?_
    obtain ⟨j_1, hj, hl, h⟩ := h
    refine g_ialdJ (n := 95) (j := j_1) (x := (A 2 j_1)) dX10_nextToken_94 sC_2 hj hl (by decide) rfl rfl ?_
    refine g_callS (n := 98) (as := [.int (A 2 j_1)]) (bc' := 0) (bs' := 0) (ctX10_tokenKind h) okX10_tokenKind w_573 w_574 dX10_nextToken_95 rfl rfl (Nat.le_of_ble_eq_true rfl) (Nat.le_of_ble_eq_true rfl) (Nat.le_of_ble_eq_true rfl) (Nat.le_of_ble_eq_true rfl) rfl (fun E sh1 I1 A1 hp _ => hp.2.elim) (fun ro sh_ I_2 A_3 hp hle => ?_)
    obtain ⟨rfl, r_4, rfl, h⟩ := hp
    refine g_putI (n := 101) (k := 4) dX10_nextToken_98 sC_1 vc_14 (Nat.le_of_ble_eq_true rfl) rfl w_157 rfl rfl rfl rfl rfl ?_
    refine g_aload_n (n := 102) dX10_nextToken_101 rfl rfl rfl ?_
    refine g_dup (n := 103) dX10_nextToken_102 rfl rfl ?_
    refine g_getIE (n := 106) (k := 3) (x := (I_2 1 3)) dX10_nextToken_103 sC_1 vc_14 (Nat.le_of_ble_eq_true rfl) rfl w_154 rfl rfl ?_
    refine g_iconst (n := 107) (v := (nI 1)) dX10_nextToken_106 rfl rfl ?_
    refine g_iadd (n := 108) dX10_nextToken_107 rfl ?_
    refine g_putI (n := 111) (k := 3) dX10_nextToken_108 sC_1 vc_14 (Nat.le_of_ble_eq_true rfl) rfl w_154 rfl rfl rfl rfl rfl ?_
    refine g_aload_n (n := 112) dX10_nextToken_111 rfl rfl rfl ?_
    refine g_getIE (n := 115) (k := 4) (x := (r_4)) dX10_nextToken_112 sC_1 vc_14 (Nat.le_of_ble_eq_true rfl) rfl w_157 rfl rfl ?_
    refine g_iconst (n := 116) (v := (nI 1)) dX10_nextToken_115 rfl rfl ?_
    refine g_icmp_eq (n := 119) 127 dX10_nextToken_116 (by decide) rfl (fun hc => ?_) (fun hc => ?_)
    · have h := h.1 hc
      refine g_iconst (n := 128) (v := (nI 1)) dX10_nextToken_127 rfl rfl ?_
      refine g_goto 132 dX10_nextToken_128 (by decide) ?_
      refine g_istore_n (n := 133) (ls' := [some (.ref 1), some (.int (nI 1))]) dX10_nextToken_132 rfl rfl (Nat.le_of_ble_eq_true rfl) (Nat.le_of_ble_eq_true rfl) rfl rfl ?_
      refine g_less (bc' := 0) (bs' := 0) (Nat.le_of_ble_eq_true rfl) (Nat.le_of_ble_eq_true rfl) ?_
      obtain ⟨n_f, h⟩ := h
      exact tlX10_nextToken_133  n_f _ _ _ h
    · have h := h.2 hc
      refine g_aload_n (n := 120) dX10_nextToken_119 rfl rfl rfl ?_
      refine g_getIE (n := 123) (k := 4) (x := (r_4)) dX10_nextToken_120 sC_1 vc_14 (Nat.le_of_ble_eq_true rfl) rfl w_157 rfl rfl ?_
      refine g_iconst (n := 124) (v := (nI 2)) dX10_nextToken_123 rfl rfl ?_
      refine g_icmp_ne (n := 127) 131 dX10_nextToken_124 (by decide) rfl (fun hc => ?_) (fun hc => ?_)
      · have h := h.1 hc
        refine g_iconst (n := 132) (v := (nI 0)) dX10_nextToken_131 rfl rfl ?_
        refine g_istore_n (n := 133) (ls' := [some (.ref 1), some (.int (nI 0))]) dX10_nextToken_132 rfl rfl (Nat.le_of_ble_eq_true rfl) (Nat.le_of_ble_eq_true rfl) rfl rfl ?_
        refine g_less (bc' := 0) (bs' := 0) (Nat.le_of_ble_eq_true rfl) (Nat.le_of_ble_eq_true rfl) ?_
        obtain ⟨n_f, h⟩ := h
        exact tlX10_nextToken_133  n_f _ _ _ h
      · have h := h.2 hc
        refine g_iconst (n := 128) (v := (nI 1)) dX10_nextToken_127 rfl rfl ?_
        refine g_goto 132 dX10_nextToken_128 (by decide) ?_
        refine g_istore_n (n := 133) (ls' := [some (.ref 1), some (.int (nI 1))]) dX10_nextToken_132 rfl rfl (Nat.le_of_ble_eq_true rfl) (Nat.le_of_ble_eq_true rfl) rfl rfl ?_
        refine g_less (bc' := 0) (bs' := 0) (Nat.le_of_ble_eq_true rfl) (Nat.le_of_ble_eq_true rfl) ?_
        obtain ⟨n_f, h⟩ := h
        exact tlX10_nextToken_133  n_f _ _ _ h
  · have h := h.2 hc
    refine g_aload_n (n := 80) dX10_nextToken_79 rfl rfl rfl ?_
    refine g_iconst (n := 81) (v := (nI 0)) dX10_nextToken_80 rfl rfl ?_
    refine g_putI (n := 84) (k := 4) dX10_nextToken_81 sC_1 vc_14 (Nat.le_of_ble_eq_true rfl) rfl w_157 rfl rfl rfl rfl rfl ?_
    exact g_vret rfl dX10_nextToken_84 ⟨rfl, rfl, h⟩
set_option maxRecDepth 20000 in
theorem tjX10_nextToken_47 {C : ab_X} {Z : ab_Z} {K : ab_F → ab_F → Prop} {L8 : ab_F → ab_F → Prop} (hL8 : ∀  (I A : ab_F), L8  I A → ab_G mX10_nextToken 1 C (ab_Px (shC Z) ab_no (ab_rv K)) 8 [some (.ref 1), none] [] (shC Z) I A 0 0)  (I A : ab_F) (h : wjX10_nextToken_47 K L8  I A) : ab_G mX10_nextToken 1 C (ab_Px (shC Z) ab_no (ab_rv K)) 47 [some (.ref 1), none] [] (shC Z) I A 0 0 := by
  unfold wjX10_nextToken_47 at h
  refine g_aload_n (n := 48) dX10_nextToken_47 rfl rfl rfl ?_
  refine g_dup (n := 49) dX10_nextToken_48 rfl rfl ?_
  refine g_getIE (n := 52) (k := 2) (x := (I 1 2)) dX10_nextToken_49 sC_1 vc_14 (Nat.le_of_ble_eq_true rfl) rfl w_152 rfl rfl ?_
  refine g_iconst (n := 53) (v := (nI 1)) dX10_nextToken_52 rfl rfl ?_
  refine g_iadd (n := 54) dX10_nextToken_53 rfl ?_
  refine g_putI (n := 57) (k := 2) dX10_nextToken_54 sC_1 vc_14 (Nat.le_of_ble_eq_true rfl) rfl w_152 rfl rfl rfl rfl rfl ?_
  refine g_goto 8 dX10_nextToken_57 (by decide) ?_
  exact hL8  _ _ h
set_option maxRecDepth 20000 in
theorem tlX10_nextToken_8 {C : ab_X} {Z : ab_Z} {K : ab_F → ab_F → Prop} : ∀ (n : Nat)  (I A : ab_F), wlX10_nextToken_8 K n  I A → ab_G mX10_nextToken 1 C (ab_Px (shC Z) ab_no (ab_rv K)) 8 [some (.ref 1), none] [] (shC Z) I A 0 0 := by
  intro n
  induction n with
  | zero => intro  I A h; exact h.elim
  | succ n hL8 =>
    intro  I A h
    rw [wlX10_nextToken_8] at h
    refine g_aload_n (n := 9) dX10_nextToken_8 rfl rfl rfl ?_
    refine g_getIE (n := 12) (k := 2) (x := (I 1 2)) dX10_nextToken_9 sC_1 vc_14 (Nat.le_of_ble_eq_true rfl) rfl w_152 rfl rfl ?_
    refine g_aload_n (n := 13) dX10_nextToken_12 rfl rfl rfl ?_
    refine g_getIE (n := 16) (k := 1) (x := (I 1 1)) dX10_nextToken_13 sC_1 vc_14 (Nat.le_of_ble_eq_true rfl) rfl w_150 rfl rfl ?_
    refine g_icmp_ge (n := 19) 60 dX10_nextToken_16 (by decide) rfl (fun hc => ?_) (fun hc => ?_)
    · have h := h.1 hc
      refine g_less (bc' := 0) (bs' := 0) (Nat.le_of_ble_eq_true rfl) (Nat.le_of_ble_eq_true rfl) ?_
      exact tjX10_nextToken_60   _ _ h
    · have h := h.2 hc
      refine g_aload_n (n := 20) dX10_nextToken_19 rfl rfl rfl ?_
      refine g_getR (n := 23) (k := 0) dX10_nextToken_20 sC_1 vc_14 (Nat.le_of_ble_eq_true rfl) rfl w_148 rfl ?_
      refine g_aload_n (n := 24) dX10_nextToken_23 rfl rfl rfl ?_
      refine g_getIE (n := 27) (k := 2) (x := (I 1 2)) dX10_nextToken_24 sC_1 vc_14 (Nat.le_of_ble_eq_true rfl) rfl w_152 rfl rfl ?_
      obtain ⟨j_9, hj, hl, h⟩ := h
      refine g_ialdJ (n := 28) (j := j_9) (x := (A 2 j_9)) dX10_nextToken_27 sC_2 hj hl (by decide) rfl rfl ?_
      refine g_bipush (n := 30) (v := (nI 32)) dX10_nextToken_28 rfl rfl ?_
      refine g_icmp_eq (n := 33) 47 dX10_nextToken_30 (by decide) rfl (fun hc => ?_) (fun hc => ?_)
      · have h := h.1 hc
        refine g_less (bc' := 0) (bs' := 0) (Nat.le_of_ble_eq_true rfl) (Nat.le_of_ble_eq_true rfl) ?_
        exact tjX10_nextToken_47 hL8  _ _ h
      · have h := h.2 hc
        refine g_aload_n (n := 34) dX10_nextToken_33 rfl rfl rfl ?_
        refine g_getR (n := 37) (k := 0) dX10_nextToken_34 sC_1 vc_14 (Nat.le_of_ble_eq_true rfl) rfl w_148 rfl ?_
        refine g_aload_n (n := 38) dX10_nextToken_37 rfl rfl rfl ?_
        refine g_getIE (n := 41) (k := 2) (x := (I 1 2)) dX10_nextToken_38 sC_1 vc_14 (Nat.le_of_ble_eq_true rfl) rfl w_152 rfl rfl ?_
        obtain ⟨j_10, hj, hl, h⟩ := h
        refine g_ialdJ (n := 42) (j := j_10) (x := (A 2 j_10)) dX10_nextToken_41 sC_2 hj hl (by decide) rfl rfl ?_
        refine g_bipush (n := 44) (v := (nI 10)) dX10_nextToken_42 rfl rfl ?_
        refine g_icmp_ne (n := 47) 60 dX10_nextToken_44 (by decide) rfl (fun hc => ?_) (fun hc => ?_)
        · have h := h.1 hc
          refine g_less (bc' := 0) (bs' := 0) (Nat.le_of_ble_eq_true rfl) (Nat.le_of_ble_eq_true rfl) ?_
          exact tjX10_nextToken_60   _ _ h
        · have h := h.2 hc
          refine g_less (bc' := 0) (bs' := 0) (Nat.le_of_ble_eq_true rfl) (Nat.le_of_ble_eq_true rfl) ?_
          exact tjX10_nextToken_47 hL8  _ _ h
set_option maxRecDepth 20000 in
theorem ctX10_nextToken {Z : ab_Z} {K : ab_F → ab_F → Prop} {I A : ab_F}  (h : wX10_nextToken K I A ) : ab_Cl mX10_nextToken 1 0 0 [.ref 1] (shC Z) I A (ab_Px (shC Z) ab_no (ab_rv K)) := by
  refine ab_enter (ls := [some (.ref 1), none]) (by decide +kernel) (Nat.le_of_ble_eq_true rfl) rfl (fun C => ?_)
  unfold wX10_nextToken at h
  refine g_aload_n (n := 1) dX10_nextToken_0 rfl rfl rfl ?_
  refine g_aload_n (n := 2) dX10_nextToken_1 rfl rfl rfl ?_
  refine g_getIE (n := 5) (k := 3) (x := (I 1 3)) dX10_nextToken_2 sC_1 vc_14 (Nat.le_of_ble_eq_true rfl) rfl w_154 rfl rfl ?_
  refine g_putI (n := 8) (k := 2) dX10_nextToken_5 sC_1 vc_14 (Nat.le_of_ble_eq_true rfl) rfl w_152 rfl rfl rfl rfl rfl ?_
  refine g_less (bc' := 0) (bs' := 0) (Nat.le_of_ble_eq_true rfl) (Nat.le_of_ble_eq_true rfl) ?_
  obtain ⟨n_f, h⟩ := h
  exact tlX10_nextToken_8  n_f  _ _ h
