def wjX12_twins_81 (K : Int32 → ab_F → ab_F → Prop) (L35 : Int32 → Int32 → Int32 → ab_F → ab_F → Prop) (x1 : Int32) (x3 : Int32) (s0 : Int32) (I A : ab_F) : Prop := (∀ y_12 : Int32, y_12 = (s0 + (nI 0)) → L35 x1 y_12 (x3 + nI 1) I A)
def wlX12_twins_35 (K : Int32 → ab_F → ab_F → Prop) : Nat → Int32 → Int32 → Int32 → ab_F → ab_F → Prop
  | 0, _, _, _, _, _ => False
  | n + 1, x1, x2, x3, I, A => (((A 1 1) ≤ x3 → K x2 I A) ∧ (¬ (A 1 1) ≤ x3 → (∃ j_10 : Nat, ((nI 368) + x3) = nI j_10 ∧ j_10 < 608 ∧ (∃ j_11 : Nat, ((nI 368) + x1) = nI j_11 ∧ j_11 < 608 ∧ ((¬ (A 1 j_10) = (A 1 j_11) → wjX12_twins_81 K (wlX12_twins_35 K n) x1 x3 x2 I A) ∧ ((A 1 j_10) = (A 1 j_11) → wX12_useOf (fun r_15 I_13 A_14 => ((r_15 = 0 → wjX12_twins_81 K (wlX12_twins_35 K n) x1 x3 x2 I_13 A_14) ∧ (¬ r_15 = 0 → (∀ y_16 : Int32, y_16 = (x2 + (nI 1)) → (wlX12_twins_35 K n) x1 y_16 (x3 + nI 1) I_13 A_14)))) I A x3))))))
def wjX12_twins_22 (K : Int32 → ab_F → ab_F → Prop) (x1 : Int32) (s0 : Int32) (I A : ab_F) : Prop := wX12_fails (fun r_9 I_7 A_8 => ((r_9 = 0 → (∃ nf : Nat, wlX12_twins_35 K nf x1 (-1 : Int32) (nI 0) I_7 A_8)) ∧ (¬ r_9 = 0 → K (nI 0) I_7 A_8))) I A s0 (nI 2)
def wX12_twins (K : Int32 → ab_F → ab_F → Prop) (I A : ab_F) (p0 : Int32) : Prop := wX12_isNoSlot (fun r_3 I_1 A_2 => ((¬ r_3 = 0 → K (nI 0) I_1 A_2) ∧ (r_3 = 0 → wX12_useOf (fun r_6 I_4 A_5 => ((¬ r_6 = 0 → wjX12_twins_22 K p0 (nI 0) I_4 A_5) ∧ (r_6 = 0 → wjX12_twins_22 K p0 (nI 1) I_4 A_5))) I_1 A_2 p0))) I A p0
set_option maxRecDepth 20000 in
theorem tjX12_twins_81 {C : ab_X}  {K : Int32 → ab_F → ab_F → Prop} {L35 : Int32 → Int32 → Int32 → ab_F → ab_F → Prop} (hL35 : ∀ (x1 : Int32) (x2 : Int32) (x3 : Int32) (I A : ab_F), L35 x1 x2 x3 I A → ab_G mX12_twins 2 C (ab_Px shM ab_no (ab_ri K)) 35 [some (.ref 0), some (.int x1), some (.int x2), some (.int x3)] [] shM I A 0 0) (x1 : Int32) (x3 : Int32) (s0 : Int32) (I A : ab_F) (h : wjX12_twins_81 K L35 x1 x3 s0 I A) : ab_G mX12_twins 2 C (ab_Px shM ab_no (ab_ri K)) 81 [some (.ref 0), some (.int x1), none, some (.int x3)] [.int s0] shM I A 0 0 := by
  unfold wjX12_twins_81 at h
  refine g_iconst (n := 82) (v := (nI 0)) dX12_twins_81 rfl rfl ?_
  refine g_iadd (n := 83) dX12_twins_82 rfl ?_
  refine g_topi (fun y_12 ey_12 => ?_)
  have h := h y_12 ey_12
  refine g_istore_n (n := 84) (ls' := [some (.ref 0), some (.int x1), some (.int y_12), some (.int x3)]) dX12_twins_83 rfl rfl (Nat.le_of_ble_eq_true rfl) (Nat.le_of_ble_eq_true rfl) rfl rfl ?_
  refine g_iinc (n := 87) (v := (x3 + nI 1)) (ls' := [some (.ref 0), some (.int x1), some (.int y_12), some (.int (x3 + nI 1))]) dX12_twins_84 rfl rfl rfl (Nat.le_of_ble_eq_true rfl) rfl rfl ?_
  refine g_goto 35 dX12_twins_87 (by decide) ?_
  exact hL35 _ _ _ _ _ h
set_option maxRecDepth 20000 in
theorem tlX12_twins_35 {C : ab_X}  {K : Int32 → ab_F → ab_F → Prop} : ∀ (n : Nat) (x1 : Int32) (x2 : Int32) (x3 : Int32) (I A : ab_F), wlX12_twins_35 K n x1 x2 x3 I A → ab_G mX12_twins 2 C (ab_Px shM ab_no (ab_ri K)) 35 [some (.ref 0), some (.int x1), some (.int x2), some (.int x3)] [] shM I A 0 0 := by
  intro n
  induction n with
  | zero => intro x1 x2 x3 I A h; exact h.elim
  | succ n hL35 =>
    intro x1 x2 x3 I A h
    rw [wlX12_twins_35] at h
    refine g_iload_n (n := 36) dX12_twins_35 rfl rfl rfl ?_
    refine g_aload_n (n := 37) dX12_twins_36 rfl rfl rfl ?_
    refine g_getR (n := 40) (k := 0) dX12_twins_37 sM_0 vc_16 (Nat.le_of_ble_eq_true rfl) rfl w_1994 rfl ?_
    refine g_iconst (n := 41) (v := (nI 1)) dX12_twins_40 rfl rfl ?_
    refine g_ialdJ (n := 42) (j := 1) (x := (A 1 1)) dX12_twins_41 sM_1 rfl (Nat.le_of_ble_eq_true rfl) (by decide) rfl rfl ?_
    refine g_icmp_ge (n := 45) 90 dX12_twins_42 (by decide) rfl (fun hc => ?_) (fun hc => ?_)
    · have h := h.1 hc
      refine g_iload_n (n := 91) dX12_twins_90 rfl rfl rfl ?_
      exact g_iret rfl rfl dX12_twins_91 ⟨rfl, _, rfl, h⟩
    · have h := h.2 hc
      refine g_iload_n (n := 46) dX12_twins_45 rfl rfl rfl ?_
      refine g_aload_n (n := 47) dX12_twins_46 rfl rfl rfl ?_
      refine g_getR (n := 50) (k := 0) dX12_twins_47 sM_0 vc_16 (Nat.le_of_ble_eq_true rfl) rfl w_1994 rfl ?_
      refine g_sipush (n := 53) (v := (nI 368)) dX12_twins_50 rfl rfl ?_
      refine g_iload_n (n := 54) dX12_twins_53 rfl rfl rfl ?_
      refine g_iadd (n := 55) dX12_twins_54 rfl ?_
      obtain ⟨j_10, hj, hl, h⟩ := h
      refine g_ialdJ (n := 56) (j := j_10) (x := (A 1 j_10)) dX12_twins_55 sM_1 hj hl (by decide) rfl rfl ?_
      refine g_aload_n (n := 57) dX12_twins_56 rfl rfl rfl ?_
      refine g_getR (n := 60) (k := 0) dX12_twins_57 sM_0 vc_16 (Nat.le_of_ble_eq_true rfl) rfl w_1994 rfl ?_
      refine g_sipush (n := 63) (v := (nI 368)) dX12_twins_60 rfl rfl ?_
      refine g_iload_n (n := 64) dX12_twins_63 rfl rfl rfl ?_
      refine g_iadd (n := 65) dX12_twins_64 rfl ?_
      obtain ⟨j_11, hj, hl, h⟩ := h
      refine g_ialdJ (n := 66) (j := j_11) (x := (A 1 j_11)) dX12_twins_65 sM_1 hj hl (by decide) rfl rfl ?_
      refine g_icmp_ne (n := 69) 81 dX12_twins_66 (by decide) rfl (fun hc => ?_) (fun hc => ?_)
      · have h := h.1 hc
        refine g_forget (ls' := [some (.ref 0), some (.int x1), none, some (.int x3)]) (ab_fg rfl) ?_
        refine g_less (bc' := 0) (bs' := 0) (Nat.le_of_ble_eq_true rfl) (Nat.le_of_ble_eq_true rfl) ?_
        exact tjX12_twins_81 hL35 _ _ _ _ _ h
      · have h := h.2 hc
        refine g_aload_n (n := 70) dX12_twins_69 rfl rfl rfl ?_
        refine g_iload_n (n := 71) dX12_twins_70 rfl rfl rfl ?_
        refine g_callV (n := 74) (as := [.int x3]) (bc' := 0) (bs' := 0) sM_0 vc_16 (ctX12_useOf h) okX12_useOf rfl w_2211 w_2213 w_46 w_112 dX12_twins_71 rfl rfl (Nat.le_of_ble_eq_true rfl) (Nat.le_of_ble_eq_true rfl) (Nat.le_of_ble_eq_true rfl) (Nat.le_of_ble_eq_true rfl) rfl (fun E sh1 I1 A1 hp _ => hp.2.elim) (fun ro sh_ I_13 A_14 hp hle => ?_)
        obtain ⟨rfl, r_15, rfl, h⟩ := hp
        refine g_if_eq (n := 77) 81 dX12_twins_74 (by decide) rfl (fun hc => ?_) (fun hc => ?_)
        · have h := h.1 hc
          refine g_forget (ls' := [some (.ref 0), some (.int x1), none, some (.int x3)]) (ab_fg rfl) ?_
          refine g_less (bc' := 0) (bs' := 0) (Nat.le_of_ble_eq_true rfl) (Nat.le_of_ble_eq_true rfl) ?_
          exact tjX12_twins_81 hL35 _ _ _ _ _ h
        · have h := h.2 hc
          refine g_iconst (n := 78) (v := (nI 1)) dX12_twins_77 rfl rfl ?_
          refine g_goto 82 dX12_twins_78 (by decide) ?_
          refine g_iadd (n := 83) dX12_twins_82 rfl ?_
          refine g_topi (fun y_16 ey_16 => ?_)
          have h := h y_16 ey_16
          refine g_istore_n (n := 84) (ls' := [some (.ref 0), some (.int x1), some (.int y_16), some (.int x3)]) dX12_twins_83 rfl rfl (Nat.le_of_ble_eq_true rfl) (Nat.le_of_ble_eq_true rfl) rfl rfl ?_
          refine g_iinc (n := 87) (v := (x3 + nI 1)) (ls' := [some (.ref 0), some (.int x1), some (.int y_16), some (.int (x3 + nI 1))]) dX12_twins_84 rfl rfl rfl (Nat.le_of_ble_eq_true rfl) rfl rfl ?_
          refine g_goto 35 dX12_twins_87 (by decide) ?_
          exact hL35 _ _ _ _ _ h
set_option maxRecDepth 20000 in
theorem tjX12_twins_22 {C : ab_X}  {K : Int32 → ab_F → ab_F → Prop} (x1 : Int32) (s0 : Int32) (I A : ab_F) (h : wjX12_twins_22 K x1 s0 I A) : ab_G mX12_twins 2 C (ab_Px shM ab_no (ab_ri K)) 22 [some (.ref 0), some (.int x1), none, none] [.int s0, .ref 0] shM I A 0 0 := by
  unfold wjX12_twins_22 at h
  refine g_iconst (n := 23) (v := (nI 2)) dX12_twins_22 rfl rfl ?_
  refine g_callV (n := 26) (as := [.int s0, .int (nI 2)]) (bc' := 0) (bs' := 0) sM_0 vc_16 (ctX12_fails h) okX12_fails rfl w_2189 w_2191 w_42 w_112 dX12_twins_23 rfl rfl (Nat.le_of_ble_eq_true rfl) (Nat.le_of_ble_eq_true rfl) (Nat.le_of_ble_eq_true rfl) (Nat.le_of_ble_eq_true rfl) rfl (fun E sh1 I1 A1 hp _ => hp.2.elim) (fun ro sh_ I_7 A_8 hp hle => ?_)
  obtain ⟨rfl, r_9, rfl, h⟩ := hp
  refine g_if_eq (n := 29) 31 dX12_twins_26 (by decide) rfl (fun hc => ?_) (fun hc => ?_)
  · have h := h.1 hc
    refine g_iconst (n := 32) (v := (-1 : Int32)) dX12_twins_31 rfl rfl ?_
    refine g_istore_n (n := 33) (ls' := [some (.ref 0), some (.int x1), some (.int (-1 : Int32)), none]) dX12_twins_32 rfl rfl (Nat.le_of_ble_eq_true rfl) (Nat.le_of_ble_eq_true rfl) rfl rfl ?_
    refine g_iconst (n := 34) (v := (nI 0)) dX12_twins_33 rfl rfl ?_
    refine g_istore_n (n := 35) (ls' := [some (.ref 0), some (.int x1), some (.int (-1 : Int32)), some (.int (nI 0))]) dX12_twins_34 rfl rfl (Nat.le_of_ble_eq_true rfl) (Nat.le_of_ble_eq_true rfl) rfl rfl ?_
    refine g_less (bc' := 0) (bs' := 0) (Nat.le_of_ble_eq_true rfl) (Nat.le_of_ble_eq_true rfl) ?_
    obtain ⟨n_f, h⟩ := h
    exact tlX12_twins_35  n_f _ _ _ _ _ h
  · have h := h.2 hc
    refine g_iconst (n := 30) (v := (nI 0)) dX12_twins_29 rfl rfl ?_
    exact g_iret rfl rfl dX12_twins_30 ⟨rfl, _, rfl, h⟩
set_option maxRecDepth 20000 in
theorem ctX12_twins  {K : Int32 → ab_F → ab_F → Prop} {I A : ab_F} {p0 : Int32} (h : wX12_twins K I A p0) : ab_Cl mX12_twins 2 0 0 [.ref 0, .int p0] shM I A (ab_Px shM ab_no (ab_ri K)) := by
  refine ab_enter (ls := [some (.ref 0), some (.int p0), none, none]) (by decide +kernel) (Nat.le_of_ble_eq_true rfl) rfl (fun C => ?_)
  unfold wX12_twins at h
  refine g_aload_n (n := 1) dX12_twins_0 rfl rfl rfl ?_
  refine g_iload_n (n := 2) dX12_twins_1 rfl rfl rfl ?_
  refine g_callV (n := 5) (as := [.int p0]) (bc' := 0) (bs' := 0) sM_0 vc_16 (ctX12_isNoSlot h) okX12_isNoSlot rfl w_2473 w_2475 w_83 w_112 dX12_twins_2 rfl rfl (Nat.le_of_ble_eq_true rfl) (Nat.le_of_ble_eq_true rfl) (Nat.le_of_ble_eq_true rfl) (Nat.le_of_ble_eq_true rfl) rfl (fun E sh1 I1 A1 hp _ => hp.2.elim) (fun ro sh_ I_1 A_2 hp hle => ?_)
  obtain ⟨rfl, r_3, rfl, h⟩ := hp
  refine g_if_ne (n := 8) 29 dX12_twins_5 (by decide) rfl (fun hc => ?_) (fun hc => ?_)
  · have h := h.1 hc
    refine g_iconst (n := 30) (v := (nI 0)) dX12_twins_29 rfl rfl ?_
    exact g_iret rfl rfl dX12_twins_30 ⟨rfl, _, rfl, h⟩
  · have h := h.2 hc
    refine g_aload_n (n := 9) dX12_twins_8 rfl rfl rfl ?_
    refine g_aload_n (n := 10) dX12_twins_9 rfl rfl rfl ?_
    refine g_iload_n (n := 11) dX12_twins_10 rfl rfl rfl ?_
    refine g_callV (n := 14) (as := [.int p0]) (bc' := 0) (bs' := 0) sM_0 vc_16 (ctX12_useOf h) okX12_useOf rfl w_2211 w_2213 w_46 w_112 dX12_twins_11 rfl rfl (Nat.le_of_ble_eq_true rfl) (Nat.le_of_ble_eq_true rfl) (Nat.le_of_ble_eq_true rfl) (Nat.le_of_ble_eq_true rfl) rfl (fun E sh1 I1 A1 hp _ => hp.2.elim) (fun ro sh_ I_4 A_5 hp hle => ?_)
    obtain ⟨rfl, r_6, rfl, h⟩ := hp
    refine g_if_ne (n := 17) 21 dX12_twins_14 (by decide) rfl (fun hc => ?_) (fun hc => ?_)
    · have h := h.1 hc
      refine g_iconst (n := 22) (v := (nI 0)) dX12_twins_21 rfl rfl ?_
      refine g_less (bc' := 0) (bs' := 0) (Nat.le_of_ble_eq_true rfl) (Nat.le_of_ble_eq_true rfl) ?_
      exact tjX12_twins_22  _ _ _ _ h
    · have h := h.2 hc
      refine g_iconst (n := 18) (v := (nI 1)) dX12_twins_17 rfl rfl ?_
      refine g_goto 22 dX12_twins_18 (by decide) ?_
      refine g_less (bc' := 0) (bs' := 0) (Nat.le_of_ble_eq_true rfl) (Nat.le_of_ble_eq_true rfl) ?_
      exact tjX12_twins_22  _ _ _ _ h
def wX12_barrierSet (K : Int32 → ab_F → ab_F → Prop) (I A : ab_F)  : Prop := K (A 1 10) (wr I 0 5 (nI 0)) A
set_option maxRecDepth 20000 in
theorem ctX12_barrierSet  {K : Int32 → ab_F → ab_F → Prop} {I A : ab_F}  (h : wX12_barrierSet K I A ) : ab_Cl mX12_barrierSet 0 0 0 [.ref 0] shM I A (ab_Px shM ab_no (ab_ri K)) := by
  refine ab_enter (ls := [some (.ref 0)]) (by decide +kernel) (Nat.le_of_ble_eq_true rfl) rfl (fun C => ?_)
  unfold wX12_barrierSet at h
  refine g_aload_n (n := 1) dX12_barrierSet_0 rfl rfl rfl ?_
  refine g_iconst (n := 2) (v := (nI 0)) dX12_barrierSet_1 rfl rfl ?_
  refine g_putI (n := 5) (k := 5) dX12_barrierSet_2 sM_0 vc_16 (Nat.le_of_ble_eq_true rfl) rfl w_1999 rfl rfl rfl rfl rfl ?_
  refine g_aload_n (n := 6) dX12_barrierSet_5 rfl rfl rfl ?_
  refine g_getR (n := 9) (k := 0) dX12_barrierSet_6 sM_0 vc_16 (Nat.le_of_ble_eq_true rfl) rfl w_1994 rfl ?_
  refine g_bipush (n := 11) (v := (nI 10)) dX12_barrierSet_9 rfl rfl ?_
  refine g_ialdJ (n := 12) (j := 10) (x := (A 1 10)) dX12_barrierSet_11 sM_1 rfl (Nat.le_of_ble_eq_true rfl) (by decide) rfl rfl ?_
  exact g_iret rfl rfl dX12_barrierSet_12 ⟨rfl, _, rfl, h⟩
def wX12_pendingPages (K : Int32 → ab_F → ab_F → Prop) (I A : ab_F)  : Prop := wX12_pendingCount (fun r_3 I_1 A_2 => K r_3 I_1 A_2) (wr I 0 5 (nI 0)) A 
set_option maxRecDepth 20000 in
theorem ctX12_pendingPages  {K : Int32 → ab_F → ab_F → Prop} {I A : ab_F}  (h : wX12_pendingPages K I A ) : ab_Cl mX12_pendingPages 3 0 0 [.ref 0] shM I A (ab_Px shM ab_no (ab_ri K)) := by
  refine ab_enter (ls := [some (.ref 0)]) (by decide +kernel) (Nat.le_of_ble_eq_true rfl) rfl (fun C => ?_)
  unfold wX12_pendingPages at h
  refine g_aload_n (n := 1) dX12_pendingPages_0 rfl rfl rfl ?_
  refine g_iconst (n := 2) (v := (nI 0)) dX12_pendingPages_1 rfl rfl ?_
  refine g_putI (n := 5) (k := 5) dX12_pendingPages_2 sM_0 vc_16 (Nat.le_of_ble_eq_true rfl) rfl w_1999 rfl rfl rfl rfl rfl ?_
  refine g_aload_n (n := 6) dX12_pendingPages_5 rfl rfl rfl ?_
  refine g_callV (n := 9) (as := []) (bc' := 0) (bs' := 0) sM_0 vc_16 (ctX12_pendingCount h) okX12_pendingCount rfl w_2293 w_2295 w_62 w_112 dX12_pendingPages_6 rfl rfl (Nat.le_of_ble_eq_true rfl) (Nat.le_of_ble_eq_true rfl) (Nat.le_of_ble_eq_true rfl) (Nat.le_of_ble_eq_true rfl) rfl (fun E sh1 I1 A1 hp _ => hp.2.elim) (fun ro sh_ I_1 A_2 hp hle => ?_)
  obtain ⟨rfl, r_3, rfl, h⟩ := hp
  exact g_iret rfl rfl dX12_pendingPages_9 ⟨rfl, _, rfl, h⟩
def wlX12_pendingPage_9 (K : Int32 → ab_F → ab_F → Prop) : Nat → Int32 → Int32 → ab_F → ab_F → Prop
  | 0, _, _, _, _ => False
  | n + 1, x2, x3, I, A => (((nI 48) ≤ x3 → wX12_no (fun r_3 I_1 A_2 => K r_3 I_1 A_2) I A (nI 1)) ∧ (¬ (nI 48) ≤ x3 → wX12_isThere (fun r_6 I_4 A_5 => ((r_6 = 0 → (wlX12_pendingPage_9 K n) x2 (x3 + nI 1) I_4 A_5) ∧ (¬ r_6 = 0 → wX12_isPending (fun r_9 I_7 A_8 => ((¬ r_9 = 0 → ((¬ x2 = 0 → (wlX12_pendingPage_9 K n) (x2 + (-1)) (x3 + nI 1) I_7 A_8) ∧ (x2 = 0 → K x3 I_7 A_8))) ∧ (r_9 = 0 → (wlX12_pendingPage_9 K n) x2 (x3 + nI 1) I_7 A_8))) I_4 A_5 x3))) I A x3))
def wX12_pendingPage (K : Int32 → ab_F → ab_F → Prop) (I A : ab_F) (p0 : Int32) : Prop := (∃ nf : Nat, wlX12_pendingPage_9 K nf p0 (nI 0) (wr I 0 5 (nI 0)) A)
set_option maxRecDepth 20000 in
theorem tlX12_pendingPage_9 {C : ab_X}  {K : Int32 → ab_F → ab_F → Prop} : ∀ (n : Nat) (x2 : Int32) (x3 : Int32) (I A : ab_F), wlX12_pendingPage_9 K n x2 x3 I A → ab_G mX12_pendingPage 2 C (ab_Px shM ab_no (ab_ri K)) 9 [some (.ref 0), none, some (.int x2), some (.int x3)] [] shM I A 0 0 := by
  intro n
  induction n with
  | zero => intro x2 x3 I A h; exact h.elim
  | succ n hL9 =>
    intro x2 x3 I A h
    rw [wlX12_pendingPage_9] at h
    refine g_iload_n (n := 10) dX12_pendingPage_9 rfl rfl rfl ?_
    refine g_bipush (n := 12) (v := (nI 48)) dX12_pendingPage_10 rfl rfl ?_
    refine g_icmp_ge (n := 15) 49 dX12_pendingPage_12 (by decide) rfl (fun hc => ?_) (fun hc => ?_)
    · have h := h.1 hc
      refine g_aload_n (n := 50) dX12_pendingPage_49 rfl rfl rfl ?_
      refine g_iconst (n := 51) (v := (nI 1)) dX12_pendingPage_50 rfl rfl ?_
      refine g_callV (n := 54) (as := [.int (nI 1)]) (bc' := 0) (bs' := 0) sM_0 vc_16 (ctX12_no h) okX12_no rfl w_2060 w_2062 w_25 w_112 dX12_pendingPage_51 rfl rfl (Nat.le_of_ble_eq_true rfl) (Nat.le_of_ble_eq_true rfl) (Nat.le_of_ble_eq_true rfl) (Nat.le_of_ble_eq_true rfl) rfl (fun E sh1 I1 A1 hp _ => hp.2.elim) (fun ro sh_ I_1 A_2 hp hle => ?_)
      obtain ⟨rfl, r_3, rfl, h⟩ := hp
      exact g_iret rfl rfl dX12_pendingPage_54 ⟨rfl, _, rfl, h⟩
    · have h := h.2 hc
      refine g_aload_n (n := 16) dX12_pendingPage_15 rfl rfl rfl ?_
      refine g_iload_n (n := 17) dX12_pendingPage_16 rfl rfl rfl ?_
      refine g_callV (n := 20) (as := [.int x3]) (bc' := 0) (bs' := 0) sM_0 vc_16 (ctX12_isThere h) okX12_isThere rfl w_2215 w_2217 w_47 w_112 dX12_pendingPage_17 rfl rfl (Nat.le_of_ble_eq_true rfl) (Nat.le_of_ble_eq_true rfl) (Nat.le_of_ble_eq_true rfl) (Nat.le_of_ble_eq_true rfl) rfl (fun E sh1 I1 A1 hp _ => hp.2.elim) (fun ro sh_ I_4 A_5 hp hle => ?_)
      obtain ⟨rfl, r_6, rfl, h⟩ := hp
      refine g_if_eq (n := 23) 43 dX12_pendingPage_20 (by decide) rfl (fun hc => ?_) (fun hc => ?_)
      · have h := h.1 hc
        refine g_iinc (n := 46) (v := (x3 + nI 1)) (ls' := [some (.ref 0), none, some (.int x2), some (.int (x3 + nI 1))]) dX12_pendingPage_43 rfl rfl rfl (Nat.le_of_ble_eq_true rfl) rfl rfl ?_
        refine g_goto 9 dX12_pendingPage_46 (by decide) ?_
        exact hL9 _ _ _ _ h
      · have h := h.2 hc
        refine g_aload_n (n := 24) dX12_pendingPage_23 rfl rfl rfl ?_
        refine g_iload_n (n := 25) dX12_pendingPage_24 rfl rfl rfl ?_
        refine g_callV (n := 28) (as := [.int x3]) (bc' := 0) (bs' := 0) sM_0 vc_16 (ctX12_isPending h) okX12_isPending rfl w_2200 w_2202 w_44 w_112 dX12_pendingPage_25 rfl rfl (Nat.le_of_ble_eq_true rfl) (Nat.le_of_ble_eq_true rfl) (Nat.le_of_ble_eq_true rfl) (Nat.le_of_ble_eq_true rfl) rfl (fun E sh1 I1 A1 hp _ => hp.2.elim) (fun ro sh_ I_7 A_8 hp hle => ?_)
        obtain ⟨rfl, r_9, rfl, h⟩ := hp
        refine g_if_ne (n := 31) 34 dX12_pendingPage_28 (by decide) rfl (fun hc => ?_) (fun hc => ?_)
        · have h := h.1 hc
          refine g_iload_n (n := 35) dX12_pendingPage_34 rfl rfl rfl ?_
          refine g_if_ne (n := 38) 40 dX12_pendingPage_35 (by decide) rfl (fun hc => ?_) (fun hc => ?_)
          · have h := h.1 hc
            refine g_iinc (n := 43) (v := (x2 + (-1))) (ls' := [some (.ref 0), none, some (.int (x2 + (-1))), some (.int x3)]) dX12_pendingPage_40 rfl rfl rfl (Nat.le_of_ble_eq_true rfl) rfl rfl ?_
            refine g_iinc (n := 46) (v := (x3 + nI 1)) (ls' := [some (.ref 0), none, some (.int (x2 + (-1))), some (.int (x3 + nI 1))]) dX12_pendingPage_43 rfl rfl rfl (Nat.le_of_ble_eq_true rfl) rfl rfl ?_
            refine g_goto 9 dX12_pendingPage_46 (by decide) ?_
            exact hL9 _ _ _ _ h
          · have h := h.2 hc
            refine g_iload_n (n := 39) dX12_pendingPage_38 rfl rfl rfl ?_
            exact g_iret rfl rfl dX12_pendingPage_39 ⟨rfl, _, rfl, h⟩
        · have h := h.2 hc
          refine g_goto 43 dX12_pendingPage_31 (by decide) ?_
          refine g_iinc (n := 46) (v := (x3 + nI 1)) (ls' := [some (.ref 0), none, some (.int x2), some (.int (x3 + nI 1))]) dX12_pendingPage_43 rfl rfl rfl (Nat.le_of_ble_eq_true rfl) rfl rfl ?_
          refine g_goto 9 dX12_pendingPage_46 (by decide) ?_
          exact hL9 _ _ _ _ h
set_option maxRecDepth 20000 in
theorem ctX12_pendingPage  {K : Int32 → ab_F → ab_F → Prop} {I A : ab_F} {p0 : Int32} (h : wX12_pendingPage K I A p0) : ab_Cl mX12_pendingPage 2 0 0 [.ref 0, .int p0] shM I A (ab_Px shM ab_no (ab_ri K)) := by
  refine ab_enter (ls := [some (.ref 0), some (.int p0), none, none]) (by decide +kernel) (Nat.le_of_ble_eq_true rfl) rfl (fun C => ?_)
  unfold wX12_pendingPage at h
  refine g_aload_n (n := 1) dX12_pendingPage_0 rfl rfl rfl ?_
  refine g_iconst (n := 2) (v := (nI 0)) dX12_pendingPage_1 rfl rfl ?_
  refine g_putI (n := 5) (k := 5) dX12_pendingPage_2 sM_0 vc_16 (Nat.le_of_ble_eq_true rfl) rfl w_1999 rfl rfl rfl rfl rfl ?_
  refine g_iload_n (n := 6) dX12_pendingPage_5 rfl rfl rfl ?_
  refine g_istore_n (n := 7) (ls' := [some (.ref 0), some (.int p0), some (.int p0), none]) dX12_pendingPage_6 rfl rfl (Nat.le_of_ble_eq_true rfl) (Nat.le_of_ble_eq_true rfl) rfl rfl ?_
  refine g_iconst (n := 8) (v := (nI 0)) dX12_pendingPage_7 rfl rfl ?_
  refine g_istore_n (n := 9) (ls' := [some (.ref 0), some (.int p0), some (.int p0), some (.int (nI 0))]) dX12_pendingPage_8 rfl rfl (Nat.le_of_ble_eq_true rfl) (Nat.le_of_ble_eq_true rfl) rfl rfl ?_
  refine g_forget (ls' := [some (.ref 0), none, some (.int p0), some (.int (nI 0))]) (ab_fg rfl) ?_
  refine g_less (bc' := 0) (bs' := 0) (Nat.le_of_ble_eq_true rfl) (Nat.le_of_ble_eq_true rfl) ?_
  obtain ⟨n_f, h⟩ := h
  exact tlX12_pendingPage_9  n_f _ _ _ _ h
def wX12_checkpointEpoch (K : Int32 → ab_F → ab_F → Prop) (I A : ab_F) (p0 : Int32) : Prop := wX12_isNoProcess (fun r_3 I_1 A_2 => ((r_3 = 0 → (∃ j_4 : Nat, ((nI 26) + p0) = nI j_4 ∧ j_4 < 608 ∧ K (A_2 1 j_4) I_1 A_2)) ∧ (¬ r_3 = 0 → K (nI 0) I_1 A_2))) I A p0
set_option maxRecDepth 20000 in
theorem ctX12_checkpointEpoch  {K : Int32 → ab_F → ab_F → Prop} {I A : ab_F} {p0 : Int32} (h : wX12_checkpointEpoch K I A p0) : ab_Cl mX12_checkpointEpoch 3 0 0 [.ref 0, .int p0] shM I A (ab_Px shM ab_no (ab_ri K)) := by
  refine ab_enter (ls := [some (.ref 0), some (.int p0)]) (by decide +kernel) (Nat.le_of_ble_eq_true rfl) rfl (fun C => ?_)
  unfold wX12_checkpointEpoch at h
  refine g_aload_n (n := 1) dX12_checkpointEpoch_0 rfl rfl rfl ?_
  refine g_iload_n (n := 2) dX12_checkpointEpoch_1 rfl rfl rfl ?_
  refine g_callV (n := 5) (as := [.int p0]) (bc' := 0) (bs' := 0) sM_0 vc_16 (ctX12_isNoProcess h) okX12_isNoProcess rfl w_2349 w_2351 w_71 w_112 dX12_checkpointEpoch_2 rfl rfl (Nat.le_of_ble_eq_true rfl) (Nat.le_of_ble_eq_true rfl) (Nat.le_of_ble_eq_true rfl) (Nat.le_of_ble_eq_true rfl) rfl (fun E sh1 I1 A1 hp _ => hp.2.elim) (fun ro sh_ I_1 A_2 hp hle => ?_)
  obtain ⟨rfl, r_3, rfl, h⟩ := hp
  refine g_if_eq (n := 8) 12 dX12_checkpointEpoch_5 (by decide) rfl (fun hc => ?_) (fun hc => ?_)
  · have h := h.1 hc
    refine g_aload_n (n := 13) dX12_checkpointEpoch_12 rfl rfl rfl ?_
    refine g_getR (n := 16) (k := 0) dX12_checkpointEpoch_13 sM_0 vc_16 (Nat.le_of_ble_eq_true rfl) rfl w_1994 rfl ?_
    refine g_bipush (n := 18) (v := (nI 26)) dX12_checkpointEpoch_16 rfl rfl ?_
    refine g_iload_n (n := 19) dX12_checkpointEpoch_18 rfl rfl rfl ?_
    refine g_iadd (n := 20) dX12_checkpointEpoch_19 rfl ?_
    obtain ⟨j_4, hj, hl, h⟩ := h
    refine g_ialdJ (n := 21) (j := j_4) (x := (A_2 1 j_4)) dX12_checkpointEpoch_20 sM_1 hj hl (by decide) rfl rfl ?_
    exact g_iret rfl rfl dX12_checkpointEpoch_21 ⟨rfl, _, rfl, h⟩
  · have h := h.2 hc
    refine g_iconst (n := 9) (v := (nI 0)) dX12_checkpointEpoch_8 rfl rfl ?_
    refine g_goto 21 dX12_checkpointEpoch_9 (by decide) ?_
    exact g_iret rfl rfl dX12_checkpointEpoch_21 ⟨rfl, _, rfl, h⟩
def wjX12_isNoCheck_28 (K : Int32 → ab_F → ab_F → Prop) (s0 : Int32) (I A : ab_F) : Prop := wX12_fails (fun r_7 I_5 A_6 => ((r_7 = 0 → K (nI 0) I_5 A_6) ∧ (¬ r_7 = 0 → K (nI 1) I_5 A_6))) I A s0 (nI 2)
def wX12_isNoCheck (K : Int32 → ab_F → ab_F → Prop) (I A : ab_F) (p0 : Int32) (p1 : Int32) : Prop := wX12_isNoPage (fun r_3 I_1 A_2 => ((¬ r_3 = 0 → K (nI 1) I_1 A_2) ∧ (r_3 = 0 → (∃ j_4 : Nat, ((nI 26) + p0) = nI j_4 ∧ j_4 < 608 ∧ ((¬ (A_2 1 j_4) = (-1 : Int32) → wjX12_isNoCheck_28 K (nI 0) I_1 A_2) ∧ ((A_2 1 j_4) = (-1 : Int32) → wjX12_isNoCheck_28 K (nI 1) I_1 A_2)))))) I A p0 p1
set_option maxRecDepth 20000 in
theorem tjX12_isNoCheck_28 {C : ab_X}  {K : Int32 → ab_F → ab_F → Prop} (s0 : Int32) (I A : ab_F) (h : wjX12_isNoCheck_28 K s0 I A) : ab_G mX12_isNoCheck 4 C (ab_Px shM ab_no (ab_ri K)) 28 [none, none, none] [.int s0, .ref 0] shM I A 0 0 := by
  unfold wjX12_isNoCheck_28 at h
  refine g_iconst (n := 29) (v := (nI 2)) dX12_isNoCheck_28 rfl rfl ?_
  refine g_callV (n := 32) (as := [.int s0, .int (nI 2)]) (bc' := 0) (bs' := 0) sM_0 vc_16 (ctX12_fails h) okX12_fails rfl w_2189 w_2191 w_42 w_112 dX12_isNoCheck_29 rfl rfl (Nat.le_of_ble_eq_true rfl) (Nat.le_of_ble_eq_true rfl) (Nat.le_of_ble_eq_true rfl) (Nat.le_of_ble_eq_true rfl) rfl (fun E sh1 I1 A1 hp _ => hp.2.elim) (fun ro sh_ I_5 A_6 hp hle => ?_)
  obtain ⟨rfl, r_7, rfl, h⟩ := hp
  refine g_if_eq (n := 35) 39 dX12_isNoCheck_32 (by decide) rfl (fun hc => ?_) (fun hc => ?_)
  · have h := h.1 hc
    refine g_iconst (n := 40) (v := (nI 0)) dX12_isNoCheck_39 rfl rfl ?_
    exact g_iret rfl rfl dX12_isNoCheck_40 ⟨rfl, _, rfl, h⟩
  · have h := h.2 hc
    refine g_iconst (n := 36) (v := (nI 1)) dX12_isNoCheck_35 rfl rfl ?_
    refine g_goto 40 dX12_isNoCheck_36 (by decide) ?_
    exact g_iret rfl rfl dX12_isNoCheck_40 ⟨rfl, _, rfl, h⟩
set_option maxRecDepth 20000 in
theorem ctX12_isNoCheck  {K : Int32 → ab_F → ab_F → Prop} {I A : ab_F} {p0 : Int32} {p1 : Int32} (h : wX12_isNoCheck K I A p0 p1) : ab_Cl mX12_isNoCheck 4 0 0 [.ref 0, .int p0, .int p1] shM I A (ab_Px shM ab_no (ab_ri K)) := by
  refine ab_enter (ls := [some (.ref 0), some (.int p0), some (.int p1)]) (by decide +kernel) (Nat.le_of_ble_eq_true rfl) rfl (fun C => ?_)
  unfold wX12_isNoCheck at h
  refine g_aload_n (n := 1) dX12_isNoCheck_0 rfl rfl rfl ?_
  refine g_iload_n (n := 2) dX12_isNoCheck_1 rfl rfl rfl ?_
  refine g_iload_n (n := 3) dX12_isNoCheck_2 rfl rfl rfl ?_
  refine g_callV (n := 6) (as := [.int p0, .int p1]) (bc' := 0) (bs' := 0) sM_0 vc_16 (ctX12_isNoPage h) okX12_isNoPage rfl w_2177 w_2179 w_39 w_112 dX12_isNoCheck_3 rfl rfl (Nat.le_of_ble_eq_true rfl) (Nat.le_of_ble_eq_true rfl) (Nat.le_of_ble_eq_true rfl) (Nat.le_of_ble_eq_true rfl) rfl (fun E sh1 I1 A1 hp _ => hp.2.elim) (fun ro sh_ I_1 A_2 hp hle => ?_)
  obtain ⟨rfl, r_3, rfl, h⟩ := hp
  refine g_if_ne (n := 9) 35 dX12_isNoCheck_6 (by decide) rfl (fun hc => ?_) (fun hc => ?_)
  · have h := h.1 hc
    refine g_iconst (n := 36) (v := (nI 1)) dX12_isNoCheck_35 rfl rfl ?_
    refine g_goto 40 dX12_isNoCheck_36 (by decide) ?_
    exact g_iret rfl rfl dX12_isNoCheck_40 ⟨rfl, _, rfl, h⟩
  · have h := h.2 hc
    refine g_aload_n (n := 10) dX12_isNoCheck_9 rfl rfl rfl ?_
    refine g_aload_n (n := 11) dX12_isNoCheck_10 rfl rfl rfl ?_
    refine g_getR (n := 14) (k := 0) dX12_isNoCheck_11 sM_0 vc_16 (Nat.le_of_ble_eq_true rfl) rfl w_1994 rfl ?_
    refine g_bipush (n := 16) (v := (nI 26)) dX12_isNoCheck_14 rfl rfl ?_
    refine g_iload_n (n := 17) dX12_isNoCheck_16 rfl rfl rfl ?_
    refine g_iadd (n := 18) dX12_isNoCheck_17 rfl ?_
    obtain ⟨j_4, hj, hl, h⟩ := h
    refine g_ialdJ (n := 19) (j := j_4) (x := (A_2 1 j_4)) dX12_isNoCheck_18 sM_1 hj hl (by decide) rfl rfl ?_
    refine g_iconst (n := 20) (v := (-1 : Int32)) dX12_isNoCheck_19 rfl rfl ?_
    refine g_icmp_ne (n := 23) 27 dX12_isNoCheck_20 (by decide) rfl (fun hc => ?_) (fun hc => ?_)
    · have h := h.1 hc
      refine g_iconst (n := 28) (v := (nI 0)) dX12_isNoCheck_27 rfl rfl ?_
      refine g_forget (ls' := [none, none, none]) (ab_fg rfl) ?_
      refine g_less (bc' := 0) (bs' := 0) (Nat.le_of_ble_eq_true rfl) (Nat.le_of_ble_eq_true rfl) ?_
      exact tjX12_isNoCheck_28  _ _ _ h
    · have h := h.2 hc
      refine g_iconst (n := 24) (v := (nI 1)) dX12_isNoCheck_23 rfl rfl ?_
      refine g_goto 28 dX12_isNoCheck_24 (by decide) ?_
      refine g_forget (ls' := [none, none, none]) (ab_fg rfl) ?_
      refine g_less (bc' := 0) (bs' := 0) (Nat.le_of_ble_eq_true rfl) (Nat.le_of_ble_eq_true rfl) ?_
      exact tjX12_isNoCheck_28  _ _ _ h
def wX12_checkpointSlot (K : Int32 → ab_F → ab_F → Prop) (I A : ab_F) (p0 : Int32) (p1 : Int32) : Prop := wX12_isNoCheck (fun r_3 I_1 A_2 => ((r_3 = 0 → wX12_pageOf (fun r_6 I_4 A_5 => (∃ j_7 : Nat, ((nI 272) + r_6) = nI j_7 ∧ j_7 < 608 ∧ K (A_5 1 j_7) I_4 A_5)) I_1 A_2 p0 p1) ∧ (¬ r_3 = 0 → K (nI 0) I_1 A_2))) I A p0 p1
set_option maxRecDepth 20000 in
theorem ctX12_checkpointSlot  {K : Int32 → ab_F → ab_F → Prop} {I A : ab_F} {p0 : Int32} {p1 : Int32} (h : wX12_checkpointSlot K I A p0 p1) : ab_Cl mX12_checkpointSlot 5 0 0 [.ref 0, .int p0, .int p1] shM I A (ab_Px shM ab_no (ab_ri K)) := by
  refine ab_enter (ls := [some (.ref 0), some (.int p0), some (.int p1)]) (by decide +kernel) (Nat.le_of_ble_eq_true rfl) rfl (fun C => ?_)
  unfold wX12_checkpointSlot at h
  refine g_aload_n (n := 1) dX12_checkpointSlot_0 rfl rfl rfl ?_
  refine g_iload_n (n := 2) dX12_checkpointSlot_1 rfl rfl rfl ?_
  refine g_iload_n (n := 3) dX12_checkpointSlot_2 rfl rfl rfl ?_
  refine g_callV (n := 6) (as := [.int p0, .int p1]) (bc' := 0) (bs' := 0) sM_0 vc_16 (ctX12_isNoCheck h) okX12_isNoCheck rfl w_2537 w_2539 w_84 w_112 dX12_checkpointSlot_3 rfl rfl (Nat.le_of_ble_eq_true rfl) (Nat.le_of_ble_eq_true rfl) (Nat.le_of_ble_eq_true rfl) (Nat.le_of_ble_eq_true rfl) rfl (fun E sh1 I1 A1 hp _ => hp.2.elim) (fun ro sh_ I_1 A_2 hp hle => ?_)
  obtain ⟨rfl, r_3, rfl, h⟩ := hp
  refine g_if_eq (n := 9) 13 dX12_checkpointSlot_6 (by decide) rfl (fun hc => ?_) (fun hc => ?_)
  · have h := h.1 hc
    refine g_aload_n (n := 14) dX12_checkpointSlot_13 rfl rfl rfl ?_
    refine g_getR (n := 17) (k := 0) dX12_checkpointSlot_14 sM_0 vc_16 (Nat.le_of_ble_eq_true rfl) rfl w_1994 rfl ?_
    refine g_sipush (n := 20) (v := (nI 272)) dX12_checkpointSlot_17 rfl rfl ?_
    refine g_iload_n (n := 21) dX12_checkpointSlot_20 rfl rfl rfl ?_
    refine g_iload_n (n := 22) dX12_checkpointSlot_21 rfl rfl rfl ?_
    refine g_callS (n := 25) (as := [.int p0, .int p1]) (bc' := 0) (bs' := 0) (ctX12_pageOf h) okX12_pageOf w_2193 w_2194 dX12_checkpointSlot_22 rfl rfl (Nat.le_of_ble_eq_true rfl) (Nat.le_of_ble_eq_true rfl) (Nat.le_of_ble_eq_true rfl) (Nat.le_of_ble_eq_true rfl) rfl (fun E sh1 I1 A1 hp _ => hp.2.elim) (fun ro sh_ I_4 A_5 hp hle => ?_)
    obtain ⟨rfl, r_6, rfl, h⟩ := hp
    refine g_iadd (n := 26) dX12_checkpointSlot_25 rfl ?_
    obtain ⟨j_7, hj, hl, h⟩ := h
    refine g_ialdJ (n := 27) (j := j_7) (x := (A_5 1 j_7)) dX12_checkpointSlot_26 sM_1 hj hl (by decide) rfl rfl ?_
    exact g_iret rfl rfl dX12_checkpointSlot_27 ⟨rfl, _, rfl, h⟩
  · have h := h.2 hc
    refine g_iconst (n := 10) (v := (nI 0)) dX12_checkpointSlot_9 rfl rfl ?_
    refine g_goto 27 dX12_checkpointSlot_10 (by decide) ?_
    exact g_iret rfl rfl dX12_checkpointSlot_27 ⟨rfl, _, rfl, h⟩
def wX12_checkpointValue (K : Int32 → ab_F → ab_F → Prop) (I A : ab_F) (p0 : Int32) (p1 : Int32) : Prop := wX12_isNoCheck (fun r_3 I_1 A_2 => ((r_3 = 0 → wX12_pageOf (fun r_6 I_4 A_5 => wX12_restored (fun r_9 I_7 A_8 => K r_9 I_7 A_8) I_4 A_5 r_6) I_1 A_2 p0 p1) ∧ (¬ r_3 = 0 → K (nI 0) I_1 A_2))) I A p0 p1
set_option maxRecDepth 20000 in
theorem ctX12_checkpointValue  {K : Int32 → ab_F → ab_F → Prop} {I A : ab_F} {p0 : Int32} {p1 : Int32} (h : wX12_checkpointValue K I A p0 p1) : ab_Cl mX12_checkpointValue 5 0 0 [.ref 0, .int p0, .int p1] shM I A (ab_Px shM ab_no (ab_ri K)) := by
  refine ab_enter (ls := [some (.ref 0), some (.int p0), some (.int p1)]) (by decide +kernel) (Nat.le_of_ble_eq_true rfl) rfl (fun C => ?_)
  unfold wX12_checkpointValue at h
  refine g_aload_n (n := 1) dX12_checkpointValue_0 rfl rfl rfl ?_
  refine g_iload_n (n := 2) dX12_checkpointValue_1 rfl rfl rfl ?_
  refine g_iload_n (n := 3) dX12_checkpointValue_2 rfl rfl rfl ?_
  refine g_callV (n := 6) (as := [.int p0, .int p1]) (bc' := 0) (bs' := 0) sM_0 vc_16 (ctX12_isNoCheck h) okX12_isNoCheck rfl w_2537 w_2539 w_84 w_112 dX12_checkpointValue_3 rfl rfl (Nat.le_of_ble_eq_true rfl) (Nat.le_of_ble_eq_true rfl) (Nat.le_of_ble_eq_true rfl) (Nat.le_of_ble_eq_true rfl) rfl (fun E sh1 I1 A1 hp _ => hp.2.elim) (fun ro sh_ I_1 A_2 hp hle => ?_)
  obtain ⟨rfl, r_3, rfl, h⟩ := hp
  refine g_if_eq (n := 9) 13 dX12_checkpointValue_6 (by decide) rfl (fun hc => ?_) (fun hc => ?_)
  · have h := h.1 hc
    refine g_aload_n (n := 14) dX12_checkpointValue_13 rfl rfl rfl ?_
    refine g_iload_n (n := 15) dX12_checkpointValue_14 rfl rfl rfl ?_
    refine g_iload_n (n := 16) dX12_checkpointValue_15 rfl rfl rfl ?_
    refine g_callS (n := 19) (as := [.int p0, .int p1]) (bc' := 0) (bs' := 0) (ctX12_pageOf h) okX12_pageOf w_2193 w_2194 dX12_checkpointValue_16 rfl rfl (Nat.le_of_ble_eq_true rfl) (Nat.le_of_ble_eq_true rfl) (Nat.le_of_ble_eq_true rfl) (Nat.le_of_ble_eq_true rfl) rfl (fun E sh1 I1 A1 hp _ => hp.2.elim) (fun ro sh_ I_4 A_5 hp hle => ?_)
    obtain ⟨rfl, r_6, rfl, h⟩ := hp
    refine g_callV (n := 22) (as := [.int r_6]) (bc' := 0) (bs' := 0) sM_0 vc_16 (ctX12_restored h) okX12_restored rfl w_2337 w_2339 w_69 w_112 dX12_checkpointValue_19 rfl rfl (Nat.le_of_ble_eq_true rfl) (Nat.le_of_ble_eq_true rfl) (Nat.le_of_ble_eq_true rfl) (Nat.le_of_ble_eq_true rfl) rfl (fun E sh1 I1 A1 hp _ => hp.2.elim) (fun ro sh_ I_7 A_8 hp hle => ?_)
    obtain ⟨rfl, r_9, rfl, h⟩ := hp
    exact g_iret rfl rfl dX12_checkpointValue_22 ⟨rfl, _, rfl, h⟩
  · have h := h.2 hc
    refine g_iconst (n := 10) (v := (nI 0)) dX12_checkpointValue_9 rfl rfl ?_
    refine g_goto 22 dX12_checkpointValue_10 (by decide) ?_
    exact g_iret rfl rfl dX12_checkpointValue_22 ⟨rfl, _, rfl, h⟩
def wlX12_dirtyIn_4 (K : Int32 → ab_F → ab_F → Prop) : Nat → Int32 → Int32 → Int32 → ab_F → ab_F → Prop
  | 0, _, _, _, _, _ => False
  | n + 1, x1, x2, x3, I, A => (((A 1 3) ≤ x3 → K x2 I A) ∧ (¬ (A 1 3) ≤ x3 → wX12_has (fun r_3 I_1 A_2 => ((r_3 = 0 → (∀ y_4 : Int32, y_4 = (x2 + (nI 0)) → (wlX12_dirtyIn_4 K n) x1 y_4 (x3 + nI 1) I_1 A_2)) ∧ (¬ r_3 = 0 → wX12_pagesIn (fun r_7 I_5 A_6 => wX12_size (fun r_10 I_8 A_9 => (∀ y_11 : Int32, y_11 = (x2 + r_10) → (wlX12_dirtyIn_4 K n) x1 y_11 (x3 + nI 1) I_8 A_9)) I_5 A_6 r_7) I_1 A_2 x3 (nI 3) (nI 3)))) I A x1 x3))
def wX12_dirtyIn (K : Int32 → ab_F → ab_F → Prop) (I A : ab_F) (p0 : Int32) : Prop := (∃ nf : Nat, wlX12_dirtyIn_4 K nf p0 (nI 0) (nI 0) I A)
set_option maxRecDepth 20000 in
theorem tlX12_dirtyIn_4 {C : ab_X}  {K : Int32 → ab_F → ab_F → Prop} : ∀ (n : Nat) (x1 : Int32) (x2 : Int32) (x3 : Int32) (I A : ab_F), wlX12_dirtyIn_4 K n x1 x2 x3 I A → ab_G mX12_dirtyIn 2 C (ab_Px shM ab_no (ab_ri K)) 4 [some (.ref 0), some (.int x1), some (.int x2), some (.int x3)] [] shM I A 0 0 := by
  intro n
  induction n with
  | zero => intro x1 x2 x3 I A h; exact h.elim
  | succ n hL4 =>
    intro x1 x2 x3 I A h
    rw [wlX12_dirtyIn_4] at h
    refine g_iload_n (n := 5) dX12_dirtyIn_4 rfl rfl rfl ?_
    refine g_aload_n (n := 6) dX12_dirtyIn_5 rfl rfl rfl ?_
    refine g_getR (n := 9) (k := 0) dX12_dirtyIn_6 sM_0 vc_16 (Nat.le_of_ble_eq_true rfl) rfl w_1994 rfl ?_
    refine g_iconst (n := 10) (v := (nI 3)) dX12_dirtyIn_9 rfl rfl ?_
    refine g_ialdJ (n := 11) (j := 3) (x := (A 1 3)) dX12_dirtyIn_10 sM_1 rfl (Nat.le_of_ble_eq_true rfl) (by decide) rfl rfl ?_
    refine g_icmp_ge (n := 14) 45 dX12_dirtyIn_11 (by decide) rfl (fun hc => ?_) (fun hc => ?_)
    · have h := h.1 hc
      refine g_iload_n (n := 46) dX12_dirtyIn_45 rfl rfl rfl ?_
      exact g_iret rfl rfl dX12_dirtyIn_46 ⟨rfl, _, rfl, h⟩
    · have h := h.2 hc
      refine g_iload_n (n := 15) dX12_dirtyIn_14 rfl rfl rfl ?_
      refine g_iload_n (n := 16) dX12_dirtyIn_15 rfl rfl rfl ?_
      refine g_iload_n (n := 17) dX12_dirtyIn_16 rfl rfl rfl ?_
      refine g_callS (n := 20) (as := [.int x1, .int x3]) (bc' := 0) (bs' := 0) (ctX12_has h) okX12_has w_2204 w_2205 dX12_dirtyIn_17 rfl rfl (Nat.le_of_ble_eq_true rfl) (Nat.le_of_ble_eq_true rfl) (Nat.le_of_ble_eq_true rfl) (Nat.le_of_ble_eq_true rfl) rfl (fun E sh1 I1 A1 hp _ => hp.2.elim) (fun ro sh_ I_1 A_2 hp hle => ?_)
      obtain ⟨rfl, r_3, rfl, h⟩ := hp
      refine g_if_eq (n := 23) 36 dX12_dirtyIn_20 (by decide) rfl (fun hc => ?_) (fun hc => ?_)
      · have h := h.1 hc
        refine g_iconst (n := 37) (v := (nI 0)) dX12_dirtyIn_36 rfl rfl ?_
        refine g_iadd (n := 38) dX12_dirtyIn_37 rfl ?_
        refine g_topi (fun y_4 ey_4 => ?_)
        have h := h y_4 ey_4
        refine g_istore_n (n := 39) (ls' := [some (.ref 0), some (.int x1), some (.int y_4), some (.int x3)]) dX12_dirtyIn_38 rfl rfl (Nat.le_of_ble_eq_true rfl) (Nat.le_of_ble_eq_true rfl) rfl rfl ?_
        refine g_iinc (n := 42) (v := (x3 + nI 1)) (ls' := [some (.ref 0), some (.int x1), some (.int y_4), some (.int (x3 + nI 1))]) dX12_dirtyIn_39 rfl rfl rfl (Nat.le_of_ble_eq_true rfl) rfl rfl ?_
        refine g_goto 4 dX12_dirtyIn_42 (by decide) ?_
        exact hL4 _ _ _ _ _ h
      · have h := h.2 hc
        refine g_aload_n (n := 24) dX12_dirtyIn_23 rfl rfl rfl ?_
        refine g_iload_n (n := 25) dX12_dirtyIn_24 rfl rfl rfl ?_
        refine g_iconst (n := 26) (v := (nI 3)) dX12_dirtyIn_25 rfl rfl ?_
        refine g_iconst (n := 27) (v := (nI 3)) dX12_dirtyIn_26 rfl rfl ?_
        refine g_callV (n := 30) (as := [.int x3, .int (nI 3), .int (nI 3)]) (bc' := 0) (bs' := 0) sM_0 vc_16 (ctX12_pagesIn h) okX12_pagesIn rfl w_2461 w_2463 w_82 w_112 dX12_dirtyIn_27 rfl rfl (Nat.le_of_ble_eq_true rfl) (Nat.le_of_ble_eq_true rfl) (Nat.le_of_ble_eq_true rfl) (Nat.le_of_ble_eq_true rfl) rfl (fun E sh1 I1 A1 hp _ => hp.2.elim) (fun ro sh_ I_5 A_6 hp hle => ?_)
        obtain ⟨rfl, r_7, rfl, h⟩ := hp
        refine g_callS (n := 33) (as := [.int r_7]) (bc' := 0) (bs' := 0) (ctX12_size h) okX12_size w_2501 w_2502 dX12_dirtyIn_30 rfl rfl (Nat.le_of_ble_eq_true rfl) (Nat.le_of_ble_eq_true rfl) (Nat.le_of_ble_eq_true rfl) (Nat.le_of_ble_eq_true rfl) rfl (fun E sh1 I1 A1 hp _ => hp.2.elim) (fun ro sh_ I_8 A_9 hp hle => ?_)
        obtain ⟨rfl, r_10, rfl, h⟩ := hp
        refine g_goto 37 dX12_dirtyIn_33 (by decide) ?_
        refine g_iadd (n := 38) dX12_dirtyIn_37 rfl ?_
        refine g_topi (fun y_11 ey_11 => ?_)
        have h := h y_11 ey_11
        refine g_istore_n (n := 39) (ls' := [some (.ref 0), some (.int x1), some (.int y_11), some (.int x3)]) dX12_dirtyIn_38 rfl rfl (Nat.le_of_ble_eq_true rfl) (Nat.le_of_ble_eq_true rfl) rfl rfl ?_
        refine g_iinc (n := 42) (v := (x3 + nI 1)) (ls' := [some (.ref 0), some (.int x1), some (.int y_11), some (.int (x3 + nI 1))]) dX12_dirtyIn_39 rfl rfl rfl (Nat.le_of_ble_eq_true rfl) rfl rfl ?_
        refine g_goto 4 dX12_dirtyIn_42 (by decide) ?_
        exact hL4 _ _ _ _ _ h
set_option maxRecDepth 20000 in
theorem ctX12_dirtyIn  {K : Int32 → ab_F → ab_F → Prop} {I A : ab_F} {p0 : Int32} (h : wX12_dirtyIn K I A p0) : ab_Cl mX12_dirtyIn 2 0 0 [.ref 0, .int p0] shM I A (ab_Px shM ab_no (ab_ri K)) := by
  refine ab_enter (ls := [some (.ref 0), some (.int p0), none, none]) (by decide +kernel) (Nat.le_of_ble_eq_true rfl) rfl (fun C => ?_)
  unfold wX12_dirtyIn at h
  refine g_iconst (n := 1) (v := (nI 0)) dX12_dirtyIn_0 rfl rfl ?_
  refine g_istore_n (n := 2) (ls' := [some (.ref 0), some (.int p0), some (.int (nI 0)), none]) dX12_dirtyIn_1 rfl rfl (Nat.le_of_ble_eq_true rfl) (Nat.le_of_ble_eq_true rfl) rfl rfl ?_
  refine g_iconst (n := 3) (v := (nI 0)) dX12_dirtyIn_2 rfl rfl ?_
  refine g_istore_n (n := 4) (ls' := [some (.ref 0), some (.int p0), some (.int (nI 0)), some (.int (nI 0))]) dX12_dirtyIn_3 rfl rfl (Nat.le_of_ble_eq_true rfl) (Nat.le_of_ble_eq_true rfl) rfl rfl ?_
  refine g_less (bc' := 0) (bs' := 0) (Nat.le_of_ble_eq_true rfl) (Nat.le_of_ble_eq_true rfl) ?_
  obtain ⟨n_f, h⟩ := h
  exact tlX12_dirtyIn_4  n_f _ _ _ _ _ h
def wX12_wouldWrite (K : Int32 → ab_F → ab_F → Prop) (I A : ab_F) (p0 : Int32) : Prop := wX12_isNoSet (fun r_3 I_1 A_2 => wX12_fails (fun r_6 I_4 A_5 => ((r_6 = 0 → wX12_dirtyIn (fun r_9 I_7 A_8 => K r_9 I_7 A_8) I_4 A_5 p0) ∧ (¬ r_6 = 0 → K (nI 0) I_4 A_5))) I_1 A_2 r_3 (nI 1)) I A p0
set_option maxRecDepth 20000 in
theorem ctX12_wouldWrite  {K : Int32 → ab_F → ab_F → Prop} {I A : ab_F} {p0 : Int32} (h : wX12_wouldWrite K I A p0) : ab_Cl mX12_wouldWrite 3 0 0 [.ref 0, .int p0] shM I A (ab_Px shM ab_no (ab_ri K)) := by
  refine ab_enter (ls := [some (.ref 0), some (.int p0)]) (by decide +kernel) (Nat.le_of_ble_eq_true rfl) rfl (fun C => ?_)
  unfold wX12_wouldWrite at h
  refine g_aload_n (n := 1) dX12_wouldWrite_0 rfl rfl rfl ?_
  refine g_aload_n (n := 2) dX12_wouldWrite_1 rfl rfl rfl ?_
  refine g_iload_n (n := 3) dX12_wouldWrite_2 rfl rfl rfl ?_
  refine g_callV (n := 6) (as := [.int p0]) (bc' := 0) (bs' := 0) sM_0 vc_16 (ctX12_isNoSet h) okX12_isNoSet rfl w_2285 w_2287 w_60 w_112 dX12_wouldWrite_3 rfl rfl (Nat.le_of_ble_eq_true rfl) (Nat.le_of_ble_eq_true rfl) (Nat.le_of_ble_eq_true rfl) (Nat.le_of_ble_eq_true rfl) rfl (fun E sh1 I1 A1 hp _ => hp.2.elim) (fun ro sh_ I_1 A_2 hp hle => ?_)
  obtain ⟨rfl, r_3, rfl, h⟩ := hp
  refine g_iconst (n := 7) (v := (nI 1)) dX12_wouldWrite_6 rfl rfl ?_
  refine g_callV (n := 10) (as := [.int r_3, .int (nI 1)]) (bc' := 0) (bs' := 0) sM_0 vc_16 (ctX12_fails h) okX12_fails rfl w_2189 w_2191 w_42 w_112 dX12_wouldWrite_7 rfl rfl (Nat.le_of_ble_eq_true rfl) (Nat.le_of_ble_eq_true rfl) (Nat.le_of_ble_eq_true rfl) (Nat.le_of_ble_eq_true rfl) rfl (fun E sh1 I1 A1 hp _ => hp.2.elim) (fun ro sh_ I_4 A_5 hp hle => ?_)
  obtain ⟨rfl, r_6, rfl, h⟩ := hp
  refine g_if_eq (n := 13) 17 dX12_wouldWrite_10 (by decide) rfl (fun hc => ?_) (fun hc => ?_)
  · have h := h.1 hc
    refine g_aload_n (n := 18) dX12_wouldWrite_17 rfl rfl rfl ?_
    refine g_iload_n (n := 19) dX12_wouldWrite_18 rfl rfl rfl ?_
    refine g_callV (n := 22) (as := [.int p0]) (bc' := 0) (bs' := 0) sM_0 vc_16 (ctX12_dirtyIn h) okX12_dirtyIn rfl w_2549 w_2551 w_85 w_112 dX12_wouldWrite_19 rfl rfl (Nat.le_of_ble_eq_true rfl) (Nat.le_of_ble_eq_true rfl) (Nat.le_of_ble_eq_true rfl) (Nat.le_of_ble_eq_true rfl) rfl (fun E sh1 I1 A1 hp _ => hp.2.elim) (fun ro sh_ I_7 A_8 hp hle => ?_)
    obtain ⟨rfl, r_9, rfl, h⟩ := hp
    exact g_iret rfl rfl dX12_wouldWrite_22 ⟨rfl, _, rfl, h⟩
  · have h := h.2 hc
    refine g_iconst (n := 14) (v := (nI 0)) dX12_wouldWrite_13 rfl rfl ?_
    refine g_goto 22 dX12_wouldWrite_14 (by decide) ?_
    exact g_iret rfl rfl dX12_wouldWrite_22 ⟨rfl, _, rfl, h⟩
def wjX12_wouldFree_132 (K : Int32 → ab_F → ab_F → Prop) (L42 : Int32 → Int32 → Int32 → ab_F → ab_F → Prop) (x1 : Int32) (x3 : Int32) (s0 : Int32) (I A : ab_F) : Prop := (∀ y_13 : Int32, y_13 = (s0 + (nI 0)) → L42 x1 y_13 (x3 + nI 1) I A)
def wjX12_wouldFree_102 (K : Int32 → ab_F → ab_F → Prop) (L42 : Int32 → Int32 → Int32 → ab_F → ab_F → Prop) (x1 : Int32) (x2 : Int32) (x3 : Int32) (s0 : Int32) (I A : ab_F) : Prop := ((s0 = 0 → wjX12_wouldFree_132 K L42 x1 x3 x2 I A) ∧ (¬ s0 = 0 → (∃ j_14 : Nat, ((nI 272) + x3) = nI j_14 ∧ j_14 < 608 ∧ wX12_useOf (fun r_17 I_15 A_16 => ((¬ r_17 = (nI 2) → wjX12_wouldFree_132 K L42 x1 x3 x2 I_15 A_16) ∧ (r_17 = (nI 2) → (∀ y_18 : Int32, y_18 = (x2 + (nI 1)) → L42 x1 y_18 (x3 + nI 1) I_15 A_16)))) I A (A 1 j_14))))
def wjX12_wouldFree_101 (K : Int32 → ab_F → ab_F → Prop) (L42 : Int32 → Int32 → Int32 → ab_F → ab_F → Prop) (x1 : Int32) (x2 : Int32) (x3 : Int32) (I A : ab_F) : Prop := wjX12_wouldFree_102 K L42 x1 x2 x3 (nI 0) I A
def wlX12_wouldFree_42 (K : Int32 → ab_F → ab_F → Prop) : Nat → Int32 → Int32 → Int32 → ab_F → ab_F → Prop
  | 0, _, _, _, _, _ => False
  | n + 1, x1, x2, x3, I, A => (((nI 48) ≤ x3 → K x2 I A) ∧ (¬ (nI 48) ≤ x3 → wX12_isThere (fun r_12 I_10 A_11 => ((r_12 = 0 → wjX12_wouldFree_101 K (wlX12_wouldFree_42 K n) x1 x2 x3 I_10 A_11) ∧ (¬ r_12 = 0 → wX12_has (fun r_21 I_19 A_20 => ((r_21 = 0 → wjX12_wouldFree_101 K (wlX12_wouldFree_42 K n) x1 x2 x3 I_19 A_20) ∧ (¬ r_21 = 0 → (∃ j_22 : Nat, ((nI 26) + (x3 / (nI 8))) = nI j_22 ∧ j_22 < 608 ∧ (((A_20 1 j_22) = (-1 : Int32) → wjX12_wouldFree_101 K (wlX12_wouldFree_42 K n) x1 x2 x3 I_19 A_20) ∧ (¬ (A_20 1 j_22) = (-1 : Int32) → (∃ j_23 : Nat, ((nI 272) + x3) = nI j_23 ∧ j_23 < 608 ∧ (((A_20 1 j_23) = (-1 : Int32) → wjX12_wouldFree_101 K (wlX12_wouldFree_42 K n) x1 x2 x3 I_19 A_20) ∧ (¬ (A_20 1 j_23) = (-1 : Int32) → wjX12_wouldFree_102 K (wlX12_wouldFree_42 K n) x1 x2 x3 (nI 1) I_19 A_20))))))))) I_10 A_11 x1 (x3 / (nI 8))))) I A x3))
def wjX12_wouldFree_29 (K : Int32 → ab_F → ab_F → Prop) (x1 : Int32) (s0 : Int32) (I A : ab_F) : Prop := wX12_fails (fun r_9 I_7 A_8 => ((r_9 = 0 → (∃ nf : Nat, wlX12_wouldFree_42 K nf x1 (nI 0) (nI 0) I_7 A_8)) ∧ (¬ r_9 = 0 → K (nI 0) I_7 A_8))) I A s0 (nI 2)
def wX12_wouldFree (K : Int32 → ab_F → ab_F → Prop) (I A : ab_F) (p0 : Int32) : Prop := wX12_isNoSet (fun r_3 I_1 A_2 => wX12_fails (fun r_6 I_4 A_5 => ((¬ r_6 = 0 → K (nI 0) I_4 A_5) ∧ (r_6 = 0 → (((A_5 1 10) = 0 → wjX12_wouldFree_29 K p0 (nI 0) I_4 A_5) ∧ (¬ (A_5 1 10) = 0 → wjX12_wouldFree_29 K p0 (nI 1) I_4 A_5))))) I_1 A_2 r_3 (nI 1)) I A p0
set_option maxRecDepth 20000 in
theorem tjX12_wouldFree_132 {C : ab_X}  {K : Int32 → ab_F → ab_F → Prop} {L42 : Int32 → Int32 → Int32 → ab_F → ab_F → Prop} (hL42 : ∀ (x1 : Int32) (x2 : Int32) (x3 : Int32) (I A : ab_F), L42 x1 x2 x3 I A → ab_G mX12_wouldFree 2 C (ab_Px shM ab_no (ab_ri K)) 42 [some (.ref 0), some (.int x1), some (.int x2), some (.int x3), none] [] shM I A 0 0) (x1 : Int32) (x3 : Int32) (s0 : Int32) (I A : ab_F) (h : wjX12_wouldFree_132 K L42 x1 x3 s0 I A) : ab_G mX12_wouldFree 2 C (ab_Px shM ab_no (ab_ri K)) 132 [some (.ref 0), some (.int x1), none, some (.int x3), none] [.int s0] shM I A 0 0 := by
  unfold wjX12_wouldFree_132 at h
  refine g_iconst (n := 133) (v := (nI 0)) dX12_wouldFree_132 rfl rfl ?_
  refine g_iadd (n := 134) dX12_wouldFree_133 rfl ?_
  refine g_topi (fun y_13 ey_13 => ?_)
  have h := h y_13 ey_13
  refine g_istore_n (n := 135) (ls' := [some (.ref 0), some (.int x1), some (.int y_13), some (.int x3), none]) dX12_wouldFree_134 rfl rfl (Nat.le_of_ble_eq_true rfl) (Nat.le_of_ble_eq_true rfl) rfl rfl ?_
  refine g_iinc (n := 138) (v := (x3 + nI 1)) (ls' := [some (.ref 0), some (.int x1), some (.int y_13), some (.int (x3 + nI 1)), none]) dX12_wouldFree_135 rfl rfl rfl (Nat.le_of_ble_eq_true rfl) rfl rfl ?_
  refine g_goto 42 dX12_wouldFree_138 (by decide) ?_
  exact hL42 _ _ _ _ _ h
set_option maxRecDepth 20000 in
theorem tjX12_wouldFree_102 {C : ab_X}  {K : Int32 → ab_F → ab_F → Prop} {L42 : Int32 → Int32 → Int32 → ab_F → ab_F → Prop} (hL42 : ∀ (x1 : Int32) (x2 : Int32) (x3 : Int32) (I A : ab_F), L42 x1 x2 x3 I A → ab_G mX12_wouldFree 2 C (ab_Px shM ab_no (ab_ri K)) 42 [some (.ref 0), some (.int x1), some (.int x2), some (.int x3), none] [] shM I A 0 0) (x1 : Int32) (x2 : Int32) (x3 : Int32) (s0 : Int32) (I A : ab_F) (h : wjX12_wouldFree_102 K L42 x1 x2 x3 s0 I A) : ab_G mX12_wouldFree 2 C (ab_Px shM ab_no (ab_ri K)) 102 [some (.ref 0), some (.int x1), some (.int x2), some (.int x3), none] [.int s0] shM I A 0 0 := by
  unfold wjX12_wouldFree_102 at h
  refine g_istore (n := 104) (ls' := [some (.ref 0), some (.int x1), some (.int x2), some (.int x3), some (.int s0)]) dX12_wouldFree_102 rfl (Nat.le_of_ble_eq_true rfl) (Nat.le_of_ble_eq_true rfl) rfl rfl ?_
  refine g_iload_n (n := 105) dX12_wouldFree_104 rfl rfl rfl ?_
  refine g_iload (n := 107) dX12_wouldFree_105 rfl rfl ?_
  refine g_if_eq (n := 110) 132 dX12_wouldFree_107 (by decide) rfl (fun hc => ?_) (fun hc => ?_)
  · have h := h.1 hc
    refine g_forget (ls' := [some (.ref 0), some (.int x1), none, some (.int x3), none]) (ab_fg rfl) ?_
    refine g_less (bc' := 0) (bs' := 0) (Nat.le_of_ble_eq_true rfl) (Nat.le_of_ble_eq_true rfl) ?_
    exact tjX12_wouldFree_132 hL42 _ _ _ _ _ h
  · have h := h.2 hc
    refine g_aload_n (n := 111) dX12_wouldFree_110 rfl rfl rfl ?_
    refine g_aload_n (n := 112) dX12_wouldFree_111 rfl rfl rfl ?_
    refine g_getR (n := 115) (k := 0) dX12_wouldFree_112 sM_0 vc_16 (Nat.le_of_ble_eq_true rfl) rfl w_1994 rfl ?_
    refine g_sipush (n := 118) (v := (nI 272)) dX12_wouldFree_115 rfl rfl ?_
    refine g_iload_n (n := 119) dX12_wouldFree_118 rfl rfl rfl ?_
    refine g_iadd (n := 120) dX12_wouldFree_119 rfl ?_
    obtain ⟨j_14, hj, hl, h⟩ := h
    refine g_ialdJ (n := 121) (j := j_14) (x := (A 1 j_14)) dX12_wouldFree_120 sM_1 hj hl (by decide) rfl rfl ?_
    refine g_callV (n := 124) (as := [.int (A 1 j_14)]) (bc' := 0) (bs' := 0) sM_0 vc_16 (ctX12_useOf h) okX12_useOf rfl w_2211 w_2213 w_46 w_112 dX12_wouldFree_121 rfl rfl (Nat.le_of_ble_eq_true rfl) (Nat.le_of_ble_eq_true rfl) (Nat.le_of_ble_eq_true rfl) (Nat.le_of_ble_eq_true rfl) rfl (fun E sh1 I1 A1 hp _ => hp.2.elim) (fun ro sh_ I_15 A_16 hp hle => ?_)
    obtain ⟨rfl, r_17, rfl, h⟩ := hp
    refine g_iconst (n := 125) (v := (nI 2)) dX12_wouldFree_124 rfl rfl ?_
    refine g_icmp_ne (n := 128) 132 dX12_wouldFree_125 (by decide) rfl (fun hc => ?_) (fun hc => ?_)
    · have h := h.1 hc
      refine g_forget (ls' := [some (.ref 0), some (.int x1), none, some (.int x3), none]) (ab_fg rfl) ?_
      refine g_less (bc' := 0) (bs' := 0) (Nat.le_of_ble_eq_true rfl) (Nat.le_of_ble_eq_true rfl) ?_
      exact tjX12_wouldFree_132 hL42 _ _ _ _ _ h
    · have h := h.2 hc
      refine g_iconst (n := 129) (v := (nI 1)) dX12_wouldFree_128 rfl rfl ?_
      refine g_goto 133 dX12_wouldFree_129 (by decide) ?_
      refine g_iadd (n := 134) dX12_wouldFree_133 rfl ?_
      refine g_topi (fun y_18 ey_18 => ?_)
      have h := h y_18 ey_18
      refine g_istore_n (n := 135) (ls' := [some (.ref 0), some (.int x1), some (.int y_18), some (.int x3), some (.int s0)]) dX12_wouldFree_134 rfl rfl (Nat.le_of_ble_eq_true rfl) (Nat.le_of_ble_eq_true rfl) rfl rfl ?_
      refine g_iinc (n := 138) (v := (x3 + nI 1)) (ls' := [some (.ref 0), some (.int x1), some (.int y_18), some (.int (x3 + nI 1)), some (.int s0)]) dX12_wouldFree_135 rfl rfl rfl (Nat.le_of_ble_eq_true rfl) rfl rfl ?_
      refine g_goto 42 dX12_wouldFree_138 (by decide) ?_
      refine g_forget (ls' := [some (.ref 0), some (.int x1), some (.int y_18), some (.int (x3 + nI 1)), none]) (ab_fg rfl) ?_
      exact hL42 _ _ _ _ _ h
set_option maxRecDepth 20000 in
theorem tjX12_wouldFree_101 {C : ab_X}  {K : Int32 → ab_F → ab_F → Prop} {L42 : Int32 → Int32 → Int32 → ab_F → ab_F → Prop} (hL42 : ∀ (x1 : Int32) (x2 : Int32) (x3 : Int32) (I A : ab_F), L42 x1 x2 x3 I A → ab_G mX12_wouldFree 2 C (ab_Px shM ab_no (ab_ri K)) 42 [some (.ref 0), some (.int x1), some (.int x2), some (.int x3), none] [] shM I A 0 0) (x1 : Int32) (x2 : Int32) (x3 : Int32) (I A : ab_F) (h : wjX12_wouldFree_101 K L42 x1 x2 x3 I A) : ab_G mX12_wouldFree 2 C (ab_Px shM ab_no (ab_ri K)) 101 [some (.ref 0), some (.int x1), some (.int x2), some (.int x3), none] [] shM I A 0 0 := by
  unfold wjX12_wouldFree_101 at h
  refine g_iconst (n := 102) (v := (nI 0)) dX12_wouldFree_101 rfl rfl ?_
  refine g_less (bc' := 0) (bs' := 0) (Nat.le_of_ble_eq_true rfl) (Nat.le_of_ble_eq_true rfl) ?_
  exact tjX12_wouldFree_102 hL42 _ _ _ _ _ _ h
set_option maxRecDepth 20000 in
theorem tlX12_wouldFree_42 {C : ab_X}  {K : Int32 → ab_F → ab_F → Prop} : ∀ (n : Nat) (x1 : Int32) (x2 : Int32) (x3 : Int32) (I A : ab_F), wlX12_wouldFree_42 K n x1 x2 x3 I A → ab_G mX12_wouldFree 2 C (ab_Px shM ab_no (ab_ri K)) 42 [some (.ref 0), some (.int x1), some (.int x2), some (.int x3), none] [] shM I A 0 0 := by
  intro n
  induction n with
  | zero => intro x1 x2 x3 I A h; exact h.elim
  | succ n hL42 =>
    intro x1 x2 x3 I A h
    rw [wlX12_wouldFree_42] at h
    refine g_iload_n (n := 43) dX12_wouldFree_42 rfl rfl rfl ?_
    refine g_bipush (n := 45) (v := (nI 48)) dX12_wouldFree_43 rfl rfl ?_
    refine g_icmp_ge (n := 48) 141 dX12_wouldFree_45 (by decide) rfl (fun hc => ?_) (fun hc => ?_)
    · have h := h.1 hc
      refine g_iload_n (n := 142) dX12_wouldFree_141 rfl rfl rfl ?_
      exact g_iret rfl rfl dX12_wouldFree_142 ⟨rfl, _, rfl, h⟩
    · have h := h.2 hc
      refine g_aload_n (n := 49) dX12_wouldFree_48 rfl rfl rfl ?_
      refine g_iload_n (n := 50) dX12_wouldFree_49 rfl rfl rfl ?_
      refine g_callV (n := 53) (as := [.int x3]) (bc' := 0) (bs' := 0) sM_0 vc_16 (ctX12_isThere h) okX12_isThere rfl w_2215 w_2217 w_47 w_112 dX12_wouldFree_50 rfl rfl (Nat.le_of_ble_eq_true rfl) (Nat.le_of_ble_eq_true rfl) (Nat.le_of_ble_eq_true rfl) (Nat.le_of_ble_eq_true rfl) rfl (fun E sh1 I1 A1 hp _ => hp.2.elim) (fun ro sh_ I_10 A_11 hp hle => ?_)
      obtain ⟨rfl, r_12, rfl, h⟩ := hp
      refine g_if_eq (n := 56) 101 dX12_wouldFree_53 (by decide) rfl (fun hc => ?_) (fun hc => ?_)
      · have h := h.1 hc
        refine g_less (bc' := 0) (bs' := 0) (Nat.le_of_ble_eq_true rfl) (Nat.le_of_ble_eq_true rfl) ?_
        exact tjX12_wouldFree_101 hL42 _ _ _ _ _ h
      · have h := h.2 hc
        refine g_iload_n (n := 57) dX12_wouldFree_56 rfl rfl rfl ?_
        refine g_iload_n (n := 58) dX12_wouldFree_57 rfl rfl rfl ?_
        refine g_bipush (n := 60) (v := (nI 8)) dX12_wouldFree_58 rfl rfl ?_
        refine g_idiv (n := 61) dX12_wouldFree_60 (by decide) rfl ?_
        refine g_callS (n := 64) (as := [.int x1, .int (x3 / (nI 8))]) (bc' := 0) (bs' := 0) (ctX12_has h) okX12_has w_2204 w_2205 dX12_wouldFree_61 rfl rfl (Nat.le_of_ble_eq_true rfl) (Nat.le_of_ble_eq_true rfl) (Nat.le_of_ble_eq_true rfl) (Nat.le_of_ble_eq_true rfl) rfl (fun E sh1 I1 A1 hp _ => hp.2.elim) (fun ro sh_ I_19 A_20 hp hle => ?_)
        obtain ⟨rfl, r_21, rfl, h⟩ := hp
        refine g_if_eq (n := 67) 101 dX12_wouldFree_64 (by decide) rfl (fun hc => ?_) (fun hc => ?_)
        · have h := h.1 hc
          refine g_less (bc' := 0) (bs' := 0) (Nat.le_of_ble_eq_true rfl) (Nat.le_of_ble_eq_true rfl) ?_
          exact tjX12_wouldFree_101 hL42 _ _ _ _ _ h
        · have h := h.2 hc
          refine g_aload_n (n := 68) dX12_wouldFree_67 rfl rfl rfl ?_
          refine g_getR (n := 71) (k := 0) dX12_wouldFree_68 sM_0 vc_16 (Nat.le_of_ble_eq_true rfl) rfl w_1994 rfl ?_
          refine g_bipush (n := 73) (v := (nI 26)) dX12_wouldFree_71 rfl rfl ?_
          refine g_iload_n (n := 74) dX12_wouldFree_73 rfl rfl rfl ?_
          refine g_bipush (n := 76) (v := (nI 8)) dX12_wouldFree_74 rfl rfl ?_
          refine g_idiv (n := 77) dX12_wouldFree_76 (by decide) rfl ?_
          refine g_iadd (n := 78) dX12_wouldFree_77 rfl ?_
          obtain ⟨j_22, hj, hl, h⟩ := h
          refine g_ialdJ (n := 79) (j := j_22) (x := (A_20 1 j_22)) dX12_wouldFree_78 sM_1 hj hl (by decide) rfl rfl ?_
          refine g_iconst (n := 80) (v := (-1 : Int32)) dX12_wouldFree_79 rfl rfl ?_
          refine g_icmp_eq (n := 83) 101 dX12_wouldFree_80 (by decide) rfl (fun hc => ?_) (fun hc => ?_)
          · have h := h.1 hc
            refine g_less (bc' := 0) (bs' := 0) (Nat.le_of_ble_eq_true rfl) (Nat.le_of_ble_eq_true rfl) ?_
            exact tjX12_wouldFree_101 hL42 _ _ _ _ _ h
          · have h := h.2 hc
            refine g_aload_n (n := 84) dX12_wouldFree_83 rfl rfl rfl ?_
            refine g_getR (n := 87) (k := 0) dX12_wouldFree_84 sM_0 vc_16 (Nat.le_of_ble_eq_true rfl) rfl w_1994 rfl ?_
            refine g_sipush (n := 90) (v := (nI 272)) dX12_wouldFree_87 rfl rfl ?_
            refine g_iload_n (n := 91) dX12_wouldFree_90 rfl rfl rfl ?_
            refine g_iadd (n := 92) dX12_wouldFree_91 rfl ?_
            obtain ⟨j_23, hj, hl, h⟩ := h
            refine g_ialdJ (n := 93) (j := j_23) (x := (A_20 1 j_23)) dX12_wouldFree_92 sM_1 hj hl (by decide) rfl rfl ?_
            refine g_iconst (n := 94) (v := (-1 : Int32)) dX12_wouldFree_93 rfl rfl ?_
            refine g_icmp_eq (n := 97) 101 dX12_wouldFree_94 (by decide) rfl (fun hc => ?_) (fun hc => ?_)
            · have h := h.1 hc
              refine g_less (bc' := 0) (bs' := 0) (Nat.le_of_ble_eq_true rfl) (Nat.le_of_ble_eq_true rfl) ?_
              exact tjX12_wouldFree_101 hL42 _ _ _ _ _ h
            · have h := h.2 hc
              refine g_iconst (n := 98) (v := (nI 1)) dX12_wouldFree_97 rfl rfl ?_
              refine g_goto 102 dX12_wouldFree_98 (by decide) ?_
              refine g_less (bc' := 0) (bs' := 0) (Nat.le_of_ble_eq_true rfl) (Nat.le_of_ble_eq_true rfl) ?_
              exact tjX12_wouldFree_102 hL42 _ _ _ _ _ _ h
set_option maxRecDepth 20000 in
theorem tjX12_wouldFree_29 {C : ab_X}  {K : Int32 → ab_F → ab_F → Prop} (x1 : Int32) (s0 : Int32) (I A : ab_F) (h : wjX12_wouldFree_29 K x1 s0 I A) : ab_G mX12_wouldFree 2 C (ab_Px shM ab_no (ab_ri K)) 29 [some (.ref 0), some (.int x1), none, none, none] [.int s0, .ref 0] shM I A 0 0 := by
  unfold wjX12_wouldFree_29 at h
  refine g_iconst (n := 30) (v := (nI 2)) dX12_wouldFree_29 rfl rfl ?_
  refine g_callV (n := 33) (as := [.int s0, .int (nI 2)]) (bc' := 0) (bs' := 0) sM_0 vc_16 (ctX12_fails h) okX12_fails rfl w_2189 w_2191 w_42 w_112 dX12_wouldFree_30 rfl rfl (Nat.le_of_ble_eq_true rfl) (Nat.le_of_ble_eq_true rfl) (Nat.le_of_ble_eq_true rfl) (Nat.le_of_ble_eq_true rfl) rfl (fun E sh1 I1 A1 hp _ => hp.2.elim) (fun ro sh_ I_7 A_8 hp hle => ?_)
  obtain ⟨rfl, r_9, rfl, h⟩ := hp
  refine g_if_eq (n := 36) 38 dX12_wouldFree_33 (by decide) rfl (fun hc => ?_) (fun hc => ?_)
  · have h := h.1 hc
    refine g_iconst (n := 39) (v := (nI 0)) dX12_wouldFree_38 rfl rfl ?_
    refine g_istore_n (n := 40) (ls' := [some (.ref 0), some (.int x1), some (.int (nI 0)), none, none]) dX12_wouldFree_39 rfl rfl (Nat.le_of_ble_eq_true rfl) (Nat.le_of_ble_eq_true rfl) rfl rfl ?_
    refine g_iconst (n := 41) (v := (nI 0)) dX12_wouldFree_40 rfl rfl ?_
    refine g_istore_n (n := 42) (ls' := [some (.ref 0), some (.int x1), some (.int (nI 0)), some (.int (nI 0)), none]) dX12_wouldFree_41 rfl rfl (Nat.le_of_ble_eq_true rfl) (Nat.le_of_ble_eq_true rfl) rfl rfl ?_
    refine g_less (bc' := 0) (bs' := 0) (Nat.le_of_ble_eq_true rfl) (Nat.le_of_ble_eq_true rfl) ?_
    obtain ⟨n_f, h⟩ := h
    exact tlX12_wouldFree_42  n_f _ _ _ _ _ h
  · have h := h.2 hc
    refine g_iconst (n := 37) (v := (nI 0)) dX12_wouldFree_36 rfl rfl ?_
    exact g_iret rfl rfl dX12_wouldFree_37 ⟨rfl, _, rfl, h⟩
set_option maxRecDepth 20000 in
theorem ctX12_wouldFree  {K : Int32 → ab_F → ab_F → Prop} {I A : ab_F} {p0 : Int32} (h : wX12_wouldFree K I A p0) : ab_Cl mX12_wouldFree 2 0 0 [.ref 0, .int p0] shM I A (ab_Px shM ab_no (ab_ri K)) := by
  refine ab_enter (ls := [some (.ref 0), some (.int p0), none, none, none]) (by decide +kernel) (Nat.le_of_ble_eq_true rfl) rfl (fun C => ?_)
  unfold wX12_wouldFree at h
  refine g_aload_n (n := 1) dX12_wouldFree_0 rfl rfl rfl ?_
  refine g_aload_n (n := 2) dX12_wouldFree_1 rfl rfl rfl ?_
  refine g_iload_n (n := 3) dX12_wouldFree_2 rfl rfl rfl ?_
  refine g_callV (n := 6) (as := [.int p0]) (bc' := 0) (bs' := 0) sM_0 vc_16 (ctX12_isNoSet h) okX12_isNoSet rfl w_2285 w_2287 w_60 w_112 dX12_wouldFree_3 rfl rfl (Nat.le_of_ble_eq_true rfl) (Nat.le_of_ble_eq_true rfl) (Nat.le_of_ble_eq_true rfl) (Nat.le_of_ble_eq_true rfl) rfl (fun E sh1 I1 A1 hp _ => hp.2.elim) (fun ro sh_ I_1 A_2 hp hle => ?_)
  obtain ⟨rfl, r_3, rfl, h⟩ := hp
  refine g_iconst (n := 7) (v := (nI 1)) dX12_wouldFree_6 rfl rfl ?_
  refine g_callV (n := 10) (as := [.int r_3, .int (nI 1)]) (bc' := 0) (bs' := 0) sM_0 vc_16 (ctX12_fails h) okX12_fails rfl w_2189 w_2191 w_42 w_112 dX12_wouldFree_7 rfl rfl (Nat.le_of_ble_eq_true rfl) (Nat.le_of_ble_eq_true rfl) (Nat.le_of_ble_eq_true rfl) (Nat.le_of_ble_eq_true rfl) rfl (fun E sh1 I1 A1 hp _ => hp.2.elim) (fun ro sh_ I_4 A_5 hp hle => ?_)
  obtain ⟨rfl, r_6, rfl, h⟩ := hp
  refine g_if_ne (n := 13) 36 dX12_wouldFree_10 (by decide) rfl (fun hc => ?_) (fun hc => ?_)
  · have h := h.1 hc
    refine g_iconst (n := 37) (v := (nI 0)) dX12_wouldFree_36 rfl rfl ?_
    exact g_iret rfl rfl dX12_wouldFree_37 ⟨rfl, _, rfl, h⟩
  · have h := h.2 hc
    refine g_aload_n (n := 14) dX12_wouldFree_13 rfl rfl rfl ?_
    refine g_aload_n (n := 15) dX12_wouldFree_14 rfl rfl rfl ?_
    refine g_getR (n := 18) (k := 0) dX12_wouldFree_15 sM_0 vc_16 (Nat.le_of_ble_eq_true rfl) rfl w_1994 rfl ?_
    refine g_bipush (n := 20) (v := (nI 10)) dX12_wouldFree_18 rfl rfl ?_
    refine g_ialdJ (n := 21) (j := 10) (x := (A_5 1 10)) dX12_wouldFree_20 sM_1 rfl (Nat.le_of_ble_eq_true rfl) (by decide) rfl rfl ?_
    refine g_if_eq (n := 24) 28 dX12_wouldFree_21 (by decide) rfl (fun hc => ?_) (fun hc => ?_)
    · have h := h.1 hc
      refine g_iconst (n := 29) (v := (nI 0)) dX12_wouldFree_28 rfl rfl ?_
      refine g_less (bc' := 0) (bs' := 0) (Nat.le_of_ble_eq_true rfl) (Nat.le_of_ble_eq_true rfl) ?_
      exact tjX12_wouldFree_29  _ _ _ _ h
    · have h := h.2 hc
      refine g_iconst (n := 25) (v := (nI 1)) dX12_wouldFree_24 rfl rfl ?_
      refine g_goto 29 dX12_wouldFree_25 (by decide) ?_
      refine g_less (bc' := 0) (bs' := 0) (Nat.le_of_ble_eq_true rfl) (Nat.le_of_ble_eq_true rfl) ?_
      exact tjX12_wouldFree_29  _ _ _ _ h
def wlX12_lostIn_4 (K : Int32 → ab_F → ab_F → Prop) : Nat → Int32 → Int32 → Int32 → ab_F → ab_F → Prop
  | 0, _, _, _, _, _ => False
  | n + 1, x1, x2, x3, I, A => (((A 1 3) ≤ x3 → K x2 I A) ∧ (¬ (A 1 3) ≤ x3 → wX12_has (fun r_3 I_1 A_2 => ((r_3 = 0 → (∀ y_4 : Int32, y_4 = (x2 + (nI 0)) → (wlX12_lostIn_4 K n) x1 y_4 (x3 + nI 1) I_1 A_2)) ∧ (¬ r_3 = 0 → wX12_lostOf (fun r_7 I_5 A_6 => wX12_size (fun r_10 I_8 A_9 => (∀ y_11 : Int32, y_11 = (x2 + r_10) → (wlX12_lostIn_4 K n) x1 y_11 (x3 + nI 1) I_8 A_9)) I_5 A_6 r_7) I_1 A_2 x3))) I A x1 x3))
def wX12_lostIn (K : Int32 → ab_F → ab_F → Prop) (I A : ab_F) (p0 : Int32) : Prop := (∃ nf : Nat, wlX12_lostIn_4 K nf p0 (nI 0) (nI 0) I A)
set_option maxRecDepth 20000 in
theorem tlX12_lostIn_4 {C : ab_X}  {K : Int32 → ab_F → ab_F → Prop} : ∀ (n : Nat) (x1 : Int32) (x2 : Int32) (x3 : Int32) (I A : ab_F), wlX12_lostIn_4 K n x1 x2 x3 I A → ab_G mX12_lostIn 2 C (ab_Px shM ab_no (ab_ri K)) 4 [some (.ref 0), some (.int x1), some (.int x2), some (.int x3)] [] shM I A 0 0 := by
  intro n
  induction n with
  | zero => intro x1 x2 x3 I A h; exact h.elim
  | succ n hL4 =>
    intro x1 x2 x3 I A h
    rw [wlX12_lostIn_4] at h
    refine g_iload_n (n := 5) dX12_lostIn_4 rfl rfl rfl ?_
    refine g_aload_n (n := 6) dX12_lostIn_5 rfl rfl rfl ?_
    refine g_getR (n := 9) (k := 0) dX12_lostIn_6 sM_0 vc_16 (Nat.le_of_ble_eq_true rfl) rfl w_1994 rfl ?_
    refine g_iconst (n := 10) (v := (nI 3)) dX12_lostIn_9 rfl rfl ?_
    refine g_ialdJ (n := 11) (j := 3) (x := (A 1 3)) dX12_lostIn_10 sM_1 rfl (Nat.le_of_ble_eq_true rfl) (by decide) rfl rfl ?_
    refine g_icmp_ge (n := 14) 43 dX12_lostIn_11 (by decide) rfl (fun hc => ?_) (fun hc => ?_)
    · have h := h.1 hc
      refine g_iload_n (n := 44) dX12_lostIn_43 rfl rfl rfl ?_
      exact g_iret rfl rfl dX12_lostIn_44 ⟨rfl, _, rfl, h⟩
    · have h := h.2 hc
      refine g_iload_n (n := 15) dX12_lostIn_14 rfl rfl rfl ?_
      refine g_iload_n (n := 16) dX12_lostIn_15 rfl rfl rfl ?_
      refine g_iload_n (n := 17) dX12_lostIn_16 rfl rfl rfl ?_
      refine g_callS (n := 20) (as := [.int x1, .int x3]) (bc' := 0) (bs' := 0) (ctX12_has h) okX12_has w_2204 w_2205 dX12_lostIn_17 rfl rfl (Nat.le_of_ble_eq_true rfl) (Nat.le_of_ble_eq_true rfl) (Nat.le_of_ble_eq_true rfl) (Nat.le_of_ble_eq_true rfl) rfl (fun E sh1 I1 A1 hp _ => hp.2.elim) (fun ro sh_ I_1 A_2 hp hle => ?_)
      obtain ⟨rfl, r_3, rfl, h⟩ := hp
      refine g_if_eq (n := 23) 34 dX12_lostIn_20 (by decide) rfl (fun hc => ?_) (fun hc => ?_)
      · have h := h.1 hc
        refine g_iconst (n := 35) (v := (nI 0)) dX12_lostIn_34 rfl rfl ?_
        refine g_iadd (n := 36) dX12_lostIn_35 rfl ?_
        refine g_topi (fun y_4 ey_4 => ?_)
        have h := h y_4 ey_4
        refine g_istore_n (n := 37) (ls' := [some (.ref 0), some (.int x1), some (.int y_4), some (.int x3)]) dX12_lostIn_36 rfl rfl (Nat.le_of_ble_eq_true rfl) (Nat.le_of_ble_eq_true rfl) rfl rfl ?_
        refine g_iinc (n := 40) (v := (x3 + nI 1)) (ls' := [some (.ref 0), some (.int x1), some (.int y_4), some (.int (x3 + nI 1))]) dX12_lostIn_37 rfl rfl rfl (Nat.le_of_ble_eq_true rfl) rfl rfl ?_
        refine g_goto 4 dX12_lostIn_40 (by decide) ?_
        exact hL4 _ _ _ _ _ h
      · have h := h.2 hc
        refine g_aload_n (n := 24) dX12_lostIn_23 rfl rfl rfl ?_
        refine g_iload_n (n := 25) dX12_lostIn_24 rfl rfl rfl ?_
        refine g_callV (n := 28) (as := [.int x3]) (bc' := 0) (bs' := 0) sM_0 vc_16 (ctX12_lostOf h) okX12_lostOf rfl w_2353 w_2355 w_72 w_112 dX12_lostIn_25 rfl rfl (Nat.le_of_ble_eq_true rfl) (Nat.le_of_ble_eq_true rfl) (Nat.le_of_ble_eq_true rfl) (Nat.le_of_ble_eq_true rfl) rfl (fun E sh1 I1 A1 hp _ => hp.2.elim) (fun ro sh_ I_5 A_6 hp hle => ?_)
        obtain ⟨rfl, r_7, rfl, h⟩ := hp
        refine g_callS (n := 31) (as := [.int r_7]) (bc' := 0) (bs' := 0) (ctX12_size h) okX12_size w_2501 w_2502 dX12_lostIn_28 rfl rfl (Nat.le_of_ble_eq_true rfl) (Nat.le_of_ble_eq_true rfl) (Nat.le_of_ble_eq_true rfl) (Nat.le_of_ble_eq_true rfl) rfl (fun E sh1 I1 A1 hp _ => hp.2.elim) (fun ro sh_ I_8 A_9 hp hle => ?_)
        obtain ⟨rfl, r_10, rfl, h⟩ := hp
        refine g_goto 35 dX12_lostIn_31 (by decide) ?_
        refine g_iadd (n := 36) dX12_lostIn_35 rfl ?_
        refine g_topi (fun y_11 ey_11 => ?_)
        have h := h y_11 ey_11
        refine g_istore_n (n := 37) (ls' := [some (.ref 0), some (.int x1), some (.int y_11), some (.int x3)]) dX12_lostIn_36 rfl rfl (Nat.le_of_ble_eq_true rfl) (Nat.le_of_ble_eq_true rfl) rfl rfl ?_
        refine g_iinc (n := 40) (v := (x3 + nI 1)) (ls' := [some (.ref 0), some (.int x1), some (.int y_11), some (.int (x3 + nI 1))]) dX12_lostIn_37 rfl rfl rfl (Nat.le_of_ble_eq_true rfl) rfl rfl ?_
        refine g_goto 4 dX12_lostIn_40 (by decide) ?_
        exact hL4 _ _ _ _ _ h
set_option maxRecDepth 20000 in
theorem ctX12_lostIn  {K : Int32 → ab_F → ab_F → Prop} {I A : ab_F} {p0 : Int32} (h : wX12_lostIn K I A p0) : ab_Cl mX12_lostIn 2 0 0 [.ref 0, .int p0] shM I A (ab_Px shM ab_no (ab_ri K)) := by
  refine ab_enter (ls := [some (.ref 0), some (.int p0), none, none]) (by decide +kernel) (Nat.le_of_ble_eq_true rfl) rfl (fun C => ?_)
  unfold wX12_lostIn at h
  refine g_iconst (n := 1) (v := (nI 0)) dX12_lostIn_0 rfl rfl ?_
  refine g_istore_n (n := 2) (ls' := [some (.ref 0), some (.int p0), some (.int (nI 0)), none]) dX12_lostIn_1 rfl rfl (Nat.le_of_ble_eq_true rfl) (Nat.le_of_ble_eq_true rfl) rfl rfl ?_
  refine g_iconst (n := 3) (v := (nI 0)) dX12_lostIn_2 rfl rfl ?_
  refine g_istore_n (n := 4) (ls' := [some (.ref 0), some (.int p0), some (.int (nI 0)), some (.int (nI 0))]) dX12_lostIn_3 rfl rfl (Nat.le_of_ble_eq_true rfl) (Nat.le_of_ble_eq_true rfl) rfl rfl ?_
  refine g_less (bc' := 0) (bs' := 0) (Nat.le_of_ble_eq_true rfl) (Nat.le_of_ble_eq_true rfl) ?_
  obtain ⟨n_f, h⟩ := h
  exact tlX12_lostIn_4  n_f _ _ _ _ _ h
def wlX12_bestBarrier_66 (K : Int32 → ab_F → ab_F → Prop) : Nat → Int32 → Int32 → Int32 → Int32 → ab_F → ab_F → Prop
  | 0, _, _, _, _, _, _ => False
  | n + 1, x1, x2, x3, x4, I, A => ((x2 < x4 → K x3 I A) ∧ (¬ x2 < x4 → wX12_dirtyIn (fun r_13 I_11 A_12 => ((r_13 ≤ x1 → ((x3 = 0 → (wlX12_bestBarrier_66 K n) x1 x2 x4 (x4 + nI 1) I_11 A_12) ∧ (¬ x3 = 0 → wX12_lostIn (fun r_16 I_14 A_15 => wX12_lostIn (fun r_19 I_17 A_18 => ((r_19 < r_16 → (wlX12_bestBarrier_66 K n) x1 x2 x3 (x4 + nI 1) I_17 A_18) ∧ (¬ r_19 < r_16 → wX12_lostIn (fun r_22 I_20 A_21 => wX12_lostIn (fun r_25 I_23 A_24 => ((¬ r_22 = r_25 → (wlX12_bestBarrier_66 K n) x1 x2 x4 (x4 + nI 1) I_23 A_24) ∧ (r_22 = r_25 → wX12_dirtyIn (fun r_28 I_26 A_27 => wX12_dirtyIn (fun r_31 I_29 A_30 => ((r_28 < r_31 → (wlX12_bestBarrier_66 K n) x1 x2 x4 (x4 + nI 1) I_29 A_30) ∧ (¬ r_28 < r_31 → (wlX12_bestBarrier_66 K n) x1 x2 x3 (x4 + nI 1) I_29 A_30))) I_26 A_27 x3) I_23 A_24 x4))) I_20 A_21 (x2 &&& (x3 ^^^ (-1 : Int32)))) I_17 A_18 (x2 &&& (x4 ^^^ (-1 : Int32)))))) I_14 A_15 (x2 &&& (x3 ^^^ (-1 : Int32)))) I_11 A_12 (x2 &&& (x4 ^^^ (-1 : Int32)))))) ∧ (¬ r_13 ≤ x1 → (wlX12_bestBarrier_66 K n) x1 x2 x3 (x4 + nI 1) I_11 A_12))) I A x4))
def wjX12_bestBarrier_41 (K : Int32 → ab_F → ab_F → Prop) (x1 : Int32) (s0 : Int32) (I A : ab_F) : Prop := wX12_fails (fun r_9 I_7 A_8 => ((r_9 = 0 → (∀ y_10 : Int32, y_10 = (((nI 1) <<< ((A_8 1 3) &&& 31)) - (nI 1)) → (∃ nf : Nat, wlX12_bestBarrier_66 K nf x1 y_10 (nI 0) (nI 1) I_7 A_8))) ∧ (¬ r_9 = 0 → K (nI 0) I_7 A_8))) I A s0 (nI 2)
def wjX12_bestBarrier_18 (K : Int32 → ab_F → ab_F → Prop) (x1 : Int32) (s0 : Int32) (I A : ab_F) : Prop := wX12_fails (fun r_6 I_4 A_5 => ((¬ r_6 = 0 → K (nI 0) I_4 A_5) ∧ (r_6 = 0 → (((A_5 1 10) = 0 → wjX12_bestBarrier_41 K x1 (nI 0) I_4 A_5) ∧ (¬ (A_5 1 10) = 0 → wjX12_bestBarrier_41 K x1 (nI 1) I_4 A_5))))) I A s0 (nI 1)
def wX12_bestBarrier (K : Int32 → ab_F → ab_F → Prop) (I A : ab_F) (p0 : Int32) : Prop := wX12_in (fun r_3 I_1 A_2 => ((¬ r_3 = 0 → wjX12_bestBarrier_18 K p0 (nI 0) I_1 A_2) ∧ (r_3 = 0 → wjX12_bestBarrier_18 K p0 (nI 1) I_1 A_2))) I A ((p0).toInt64) (0 : Int64) (48 : Int64)
set_option maxRecDepth 20000 in
theorem tlX12_bestBarrier_66 {C : ab_X}  {K : Int32 → ab_F → ab_F → Prop} : ∀ (n : Nat) (x1 : Int32) (x2 : Int32) (x3 : Int32) (x4 : Int32) (I A : ab_F), wlX12_bestBarrier_66 K n x1 x2 x3 x4 I A → ab_G mX12_bestBarrier 3 C (ab_Px shM ab_no (ab_ri K)) 66 [some (.ref 0), some (.int x1), some (.int x2), some (.int x3), some (.int x4)] [] shM I A 0 0 := by
  intro n
  induction n with
  | zero => intro x1 x2 x3 x4 I A h; exact h.elim
  | succ n hL66 =>
    intro x1 x2 x3 x4 I A h
    rw [wlX12_bestBarrier_66] at h
    refine g_iload (n := 68) dX12_bestBarrier_66 rfl rfl ?_
    refine g_iload_n (n := 69) dX12_bestBarrier_68 rfl rfl rfl ?_
    refine g_icmp_gt (n := 72) 159 dX12_bestBarrier_69 (by decide) rfl (fun hc => ?_) (fun hc => ?_)
    · have h := h.1 hc
      refine g_iload_n (n := 160) dX12_bestBarrier_159 rfl rfl rfl ?_
      exact g_iret rfl rfl dX12_bestBarrier_160 ⟨rfl, _, rfl, h⟩
    · have h := h.2 hc
      refine g_aload_n (n := 73) dX12_bestBarrier_72 rfl rfl rfl ?_
      refine g_iload (n := 75) dX12_bestBarrier_73 rfl rfl ?_
      refine g_callV (n := 78) (as := [.int x4]) (bc' := 0) (bs' := 0) sM_0 vc_16 (ctX12_dirtyIn h) okX12_dirtyIn rfl w_2549 w_2551 w_85 w_112 dX12_bestBarrier_75 rfl rfl (Nat.le_of_ble_eq_true rfl) (Nat.le_of_ble_eq_true rfl) (Nat.le_of_ble_eq_true rfl) (Nat.le_of_ble_eq_true rfl) rfl (fun E sh1 I1 A1 hp _ => hp.2.elim) (fun ro sh_ I_11 A_12 hp hle => ?_)
      obtain ⟨rfl, r_13, rfl, h⟩ := hp
      refine g_iload_n (n := 79) dX12_bestBarrier_78 rfl rfl rfl ?_
      refine g_icmp_le (n := 82) 85 dX12_bestBarrier_79 (by decide) rfl (fun hc => ?_) (fun hc => ?_)
      · have h := h.1 hc
        refine g_iload_n (n := 86) dX12_bestBarrier_85 rfl rfl rfl ?_
        refine g_if_eq (n := 89) 150 dX12_bestBarrier_86 (by decide) rfl (fun hc => ?_) (fun hc => ?_)
        · have h := h.1 hc
          refine g_iload (n := 152) dX12_bestBarrier_150 rfl rfl ?_
          refine g_istore_n (n := 153) (ls' := [some (.ref 0), some (.int x1), some (.int x2), some (.int x4), some (.int x4)]) dX12_bestBarrier_152 rfl rfl (Nat.le_of_ble_eq_true rfl) (Nat.le_of_ble_eq_true rfl) rfl rfl ?_
          refine g_iinc (n := 156) (v := (x4 + nI 1)) (ls' := [some (.ref 0), some (.int x1), some (.int x2), some (.int x4), some (.int (x4 + nI 1))]) dX12_bestBarrier_153 rfl rfl rfl (Nat.le_of_ble_eq_true rfl) rfl rfl ?_
          refine g_goto 66 dX12_bestBarrier_156 (by decide) ?_
          exact hL66 _ _ _ _ _ _ h
        · have h := h.2 hc
          refine g_aload_n (n := 90) dX12_bestBarrier_89 rfl rfl rfl ?_
          refine g_iload_n (n := 91) dX12_bestBarrier_90 rfl rfl rfl ?_
          refine g_iload (n := 93) dX12_bestBarrier_91 rfl rfl ?_
          refine g_iconst (n := 94) (v := (-1 : Int32)) dX12_bestBarrier_93 rfl rfl ?_
          refine g_ixor (n := 95) dX12_bestBarrier_94 rfl ?_
          refine g_iand (n := 96) dX12_bestBarrier_95 rfl ?_
          refine g_callV (n := 99) (as := [.int (x2 &&& (x4 ^^^ (-1 : Int32)))]) (bc' := 0) (bs' := 0) sM_0 vc_16 (ctX12_lostIn h) okX12_lostIn rfl w_2561 w_2563 w_86 w_112 dX12_bestBarrier_96 rfl rfl (Nat.le_of_ble_eq_true rfl) (Nat.le_of_ble_eq_true rfl) (Nat.le_of_ble_eq_true rfl) (Nat.le_of_ble_eq_true rfl) rfl (fun E sh1 I1 A1 hp _ => hp.2.elim) (fun ro sh_ I_14 A_15 hp hle => ?_)
          obtain ⟨rfl, r_16, rfl, h⟩ := hp
          refine g_aload_n (n := 100) dX12_bestBarrier_99 rfl rfl rfl ?_
          refine g_iload_n (n := 101) dX12_bestBarrier_100 rfl rfl rfl ?_
          refine g_iload_n (n := 102) dX12_bestBarrier_101 rfl rfl rfl ?_
          refine g_iconst (n := 103) (v := (-1 : Int32)) dX12_bestBarrier_102 rfl rfl ?_
          refine g_ixor (n := 104) dX12_bestBarrier_103 rfl ?_
          refine g_iand (n := 105) dX12_bestBarrier_104 rfl ?_
          refine g_callV (n := 108) (as := [.int (x2 &&& (x3 ^^^ (-1 : Int32)))]) (bc' := 0) (bs' := 0) sM_0 vc_16 (ctX12_lostIn h) okX12_lostIn rfl w_2561 w_2563 w_86 w_112 dX12_bestBarrier_105 rfl rfl (Nat.le_of_ble_eq_true rfl) (Nat.le_of_ble_eq_true rfl) (Nat.le_of_ble_eq_true rfl) (Nat.le_of_ble_eq_true rfl) rfl (fun E sh1 I1 A1 hp _ => hp.2.elim) (fun ro sh_ I_17 A_18 hp hle => ?_)
          obtain ⟨rfl, r_19, rfl, h⟩ := hp
          refine g_icmp_gt (n := 111) 153 dX12_bestBarrier_108 (by decide) rfl (fun hc => ?_) (fun hc => ?_)
          · have h := h.1 hc
            refine g_iinc (n := 156) (v := (x4 + nI 1)) (ls' := [some (.ref 0), some (.int x1), some (.int x2), some (.int x3), some (.int (x4 + nI 1))]) dX12_bestBarrier_153 rfl rfl rfl (Nat.le_of_ble_eq_true rfl) rfl rfl ?_
            refine g_goto 66 dX12_bestBarrier_156 (by decide) ?_
            exact hL66 _ _ _ _ _ _ h
          · have h := h.2 hc
            refine g_aload_n (n := 112) dX12_bestBarrier_111 rfl rfl rfl ?_
            refine g_iload_n (n := 113) dX12_bestBarrier_112 rfl rfl rfl ?_
            refine g_iload (n := 115) dX12_bestBarrier_113 rfl rfl ?_
            refine g_iconst (n := 116) (v := (-1 : Int32)) dX12_bestBarrier_115 rfl rfl ?_
            refine g_ixor (n := 117) dX12_bestBarrier_116 rfl ?_
            refine g_iand (n := 118) dX12_bestBarrier_117 rfl ?_
            refine g_callV (n := 121) (as := [.int (x2 &&& (x4 ^^^ (-1 : Int32)))]) (bc' := 0) (bs' := 0) sM_0 vc_16 (ctX12_lostIn h) okX12_lostIn rfl w_2561 w_2563 w_86 w_112 dX12_bestBarrier_118 rfl rfl (Nat.le_of_ble_eq_true rfl) (Nat.le_of_ble_eq_true rfl) (Nat.le_of_ble_eq_true rfl) (Nat.le_of_ble_eq_true rfl) rfl (fun E sh1 I1 A1 hp _ => hp.2.elim) (fun ro sh_ I_20 A_21 hp hle => ?_)
            obtain ⟨rfl, r_22, rfl, h⟩ := hp
            refine g_aload_n (n := 122) dX12_bestBarrier_121 rfl rfl rfl ?_
            refine g_iload_n (n := 123) dX12_bestBarrier_122 rfl rfl rfl ?_
            refine g_iload_n (n := 124) dX12_bestBarrier_123 rfl rfl rfl ?_
            refine g_iconst (n := 125) (v := (-1 : Int32)) dX12_bestBarrier_124 rfl rfl ?_
            refine g_ixor (n := 126) dX12_bestBarrier_125 rfl ?_
            refine g_iand (n := 127) dX12_bestBarrier_126 rfl ?_
            refine g_callV (n := 130) (as := [.int (x2 &&& (x3 ^^^ (-1 : Int32)))]) (bc' := 0) (bs' := 0) sM_0 vc_16 (ctX12_lostIn h) okX12_lostIn rfl w_2561 w_2563 w_86 w_112 dX12_bestBarrier_127 rfl rfl (Nat.le_of_ble_eq_true rfl) (Nat.le_of_ble_eq_true rfl) (Nat.le_of_ble_eq_true rfl) (Nat.le_of_ble_eq_true rfl) rfl (fun E sh1 I1 A1 hp _ => hp.2.elim) (fun ro sh_ I_23 A_24 hp hle => ?_)
            obtain ⟨rfl, r_25, rfl, h⟩ := hp
            refine g_icmp_ne (n := 133) 150 dX12_bestBarrier_130 (by decide) rfl (fun hc => ?_) (fun hc => ?_)
            · have h := h.1 hc
              refine g_iload (n := 152) dX12_bestBarrier_150 rfl rfl ?_
              refine g_istore_n (n := 153) (ls' := [some (.ref 0), some (.int x1), some (.int x2), some (.int x4), some (.int x4)]) dX12_bestBarrier_152 rfl rfl (Nat.le_of_ble_eq_true rfl) (Nat.le_of_ble_eq_true rfl) rfl rfl ?_
              refine g_iinc (n := 156) (v := (x4 + nI 1)) (ls' := [some (.ref 0), some (.int x1), some (.int x2), some (.int x4), some (.int (x4 + nI 1))]) dX12_bestBarrier_153 rfl rfl rfl (Nat.le_of_ble_eq_true rfl) rfl rfl ?_
              refine g_goto 66 dX12_bestBarrier_156 (by decide) ?_
              exact hL66 _ _ _ _ _ _ h
            · have h := h.2 hc
              refine g_aload_n (n := 134) dX12_bestBarrier_133 rfl rfl rfl ?_
              refine g_iload (n := 136) dX12_bestBarrier_134 rfl rfl ?_
              refine g_callV (n := 139) (as := [.int x4]) (bc' := 0) (bs' := 0) sM_0 vc_16 (ctX12_dirtyIn h) okX12_dirtyIn rfl w_2549 w_2551 w_85 w_112 dX12_bestBarrier_136 rfl rfl (Nat.le_of_ble_eq_true rfl) (Nat.le_of_ble_eq_true rfl) (Nat.le_of_ble_eq_true rfl) (Nat.le_of_ble_eq_true rfl) rfl (fun E sh1 I1 A1 hp _ => hp.2.elim) (fun ro sh_ I_26 A_27 hp hle => ?_)
              obtain ⟨rfl, r_28, rfl, h⟩ := hp
              refine g_aload_n (n := 140) dX12_bestBarrier_139 rfl rfl rfl ?_
              refine g_iload_n (n := 141) dX12_bestBarrier_140 rfl rfl rfl ?_
              refine g_callV (n := 144) (as := [.int x3]) (bc' := 0) (bs' := 0) sM_0 vc_16 (ctX12_dirtyIn h) okX12_dirtyIn rfl w_2549 w_2551 w_85 w_112 dX12_bestBarrier_141 rfl rfl (Nat.le_of_ble_eq_true rfl) (Nat.le_of_ble_eq_true rfl) (Nat.le_of_ble_eq_true rfl) (Nat.le_of_ble_eq_true rfl) rfl (fun E sh1 I1 A1 hp _ => hp.2.elim) (fun ro sh_ I_29 A_30 hp hle => ?_)
              obtain ⟨rfl, r_31, rfl, h⟩ := hp
              refine g_icmp_lt (n := 147) 150 dX12_bestBarrier_144 (by decide) rfl (fun hc => ?_) (fun hc => ?_)
              · have h := h.1 hc
                refine g_iload (n := 152) dX12_bestBarrier_150 rfl rfl ?_
                refine g_istore_n (n := 153) (ls' := [some (.ref 0), some (.int x1), some (.int x2), some (.int x4), some (.int x4)]) dX12_bestBarrier_152 rfl rfl (Nat.le_of_ble_eq_true rfl) (Nat.le_of_ble_eq_true rfl) rfl rfl ?_
                refine g_iinc (n := 156) (v := (x4 + nI 1)) (ls' := [some (.ref 0), some (.int x1), some (.int x2), some (.int x4), some (.int (x4 + nI 1))]) dX12_bestBarrier_153 rfl rfl rfl (Nat.le_of_ble_eq_true rfl) rfl rfl ?_
                refine g_goto 66 dX12_bestBarrier_156 (by decide) ?_
                exact hL66 _ _ _ _ _ _ h
              · have h := h.2 hc
                refine g_goto 153 dX12_bestBarrier_147 (by decide) ?_
                refine g_iinc (n := 156) (v := (x4 + nI 1)) (ls' := [some (.ref 0), some (.int x1), some (.int x2), some (.int x3), some (.int (x4 + nI 1))]) dX12_bestBarrier_153 rfl rfl rfl (Nat.le_of_ble_eq_true rfl) rfl rfl ?_
                refine g_goto 66 dX12_bestBarrier_156 (by decide) ?_
                exact hL66 _ _ _ _ _ _ h
      · have h := h.2 hc
        refine g_goto 153 dX12_bestBarrier_82 (by decide) ?_
        refine g_iinc (n := 156) (v := (x4 + nI 1)) (ls' := [some (.ref 0), some (.int x1), some (.int x2), some (.int x3), some (.int (x4 + nI 1))]) dX12_bestBarrier_153 rfl rfl rfl (Nat.le_of_ble_eq_true rfl) rfl rfl ?_
        refine g_goto 66 dX12_bestBarrier_156 (by decide) ?_
        exact hL66 _ _ _ _ _ _ h
set_option maxRecDepth 20000 in
theorem tjX12_bestBarrier_41 {C : ab_X}  {K : Int32 → ab_F → ab_F → Prop} (x1 : Int32) (s0 : Int32) (I A : ab_F) (h : wjX12_bestBarrier_41 K x1 s0 I A) : ab_G mX12_bestBarrier 3 C (ab_Px shM ab_no (ab_ri K)) 41 [some (.ref 0), some (.int x1), none, none, none] [.int s0, .ref 0] shM I A 0 0 := by
  unfold wjX12_bestBarrier_41 at h
  refine g_iconst (n := 42) (v := (nI 2)) dX12_bestBarrier_41 rfl rfl ?_
  refine g_callV (n := 45) (as := [.int s0, .int (nI 2)]) (bc' := 0) (bs' := 0) sM_0 vc_16 (ctX12_fails h) okX12_fails rfl w_2189 w_2191 w_42 w_112 dX12_bestBarrier_42 rfl rfl (Nat.le_of_ble_eq_true rfl) (Nat.le_of_ble_eq_true rfl) (Nat.le_of_ble_eq_true rfl) (Nat.le_of_ble_eq_true rfl) rfl (fun E sh1 I1 A1 hp _ => hp.2.elim) (fun ro sh_ I_7 A_8 hp hle => ?_)
  obtain ⟨rfl, r_9, rfl, h⟩ := hp
  refine g_if_eq (n := 48) 50 dX12_bestBarrier_45 (by decide) rfl (fun hc => ?_) (fun hc => ?_)
  · have h := h.1 hc
    refine g_iconst (n := 51) (v := (nI 1)) dX12_bestBarrier_50 rfl rfl ?_
    refine g_aload_n (n := 52) dX12_bestBarrier_51 rfl rfl rfl ?_
    refine g_getR (n := 55) (k := 0) dX12_bestBarrier_52 sM_0 vc_16 (Nat.le_of_ble_eq_true rfl) rfl w_1994 rfl ?_
    refine g_iconst (n := 56) (v := (nI 3)) dX12_bestBarrier_55 rfl rfl ?_
    refine g_ialdJ (n := 57) (j := 3) (x := (A_8 1 3)) dX12_bestBarrier_56 sM_1 rfl (Nat.le_of_ble_eq_true rfl) (by decide) rfl rfl ?_
    refine g_ishl (n := 58) dX12_bestBarrier_57 rfl ?_
    refine g_iconst (n := 59) (v := (nI 1)) dX12_bestBarrier_58 rfl rfl ?_
    refine g_isub (n := 60) dX12_bestBarrier_59 rfl ?_
    refine g_topi (fun y_10 ey_10 => ?_)
    have h := h y_10 ey_10
    refine g_istore_n (n := 61) (ls' := [some (.ref 0), some (.int x1), some (.int y_10), none, none]) dX12_bestBarrier_60 rfl rfl (Nat.le_of_ble_eq_true rfl) (Nat.le_of_ble_eq_true rfl) rfl rfl ?_
    refine g_iconst (n := 62) (v := (nI 0)) dX12_bestBarrier_61 rfl rfl ?_
    refine g_istore_n (n := 63) (ls' := [some (.ref 0), some (.int x1), some (.int y_10), some (.int (nI 0)), none]) dX12_bestBarrier_62 rfl rfl (Nat.le_of_ble_eq_true rfl) (Nat.le_of_ble_eq_true rfl) rfl rfl ?_
    refine g_iconst (n := 64) (v := (nI 1)) dX12_bestBarrier_63 rfl rfl ?_
    refine g_istore (n := 66) (ls' := [some (.ref 0), some (.int x1), some (.int y_10), some (.int (nI 0)), some (.int (nI 1))]) dX12_bestBarrier_64 rfl (Nat.le_of_ble_eq_true rfl) (Nat.le_of_ble_eq_true rfl) rfl rfl ?_
    refine g_less (bc' := 0) (bs' := 0) (Nat.le_of_ble_eq_true rfl) (Nat.le_of_ble_eq_true rfl) ?_
    obtain ⟨n_f, h⟩ := h
    exact tlX12_bestBarrier_66  n_f _ _ _ _ _ _ h
  · have h := h.2 hc
    refine g_iconst (n := 49) (v := (nI 0)) dX12_bestBarrier_48 rfl rfl ?_
    exact g_iret rfl rfl dX12_bestBarrier_49 ⟨rfl, _, rfl, h⟩
set_option maxRecDepth 20000 in
theorem tjX12_bestBarrier_18 {C : ab_X}  {K : Int32 → ab_F → ab_F → Prop} (x1 : Int32) (s0 : Int32) (I A : ab_F) (h : wjX12_bestBarrier_18 K x1 s0 I A) : ab_G mX12_bestBarrier 3 C (ab_Px shM ab_no (ab_ri K)) 18 [some (.ref 0), some (.int x1), none, none, none] [.int s0, .ref 0] shM I A 0 0 := by
  unfold wjX12_bestBarrier_18 at h
  refine g_iconst (n := 19) (v := (nI 1)) dX12_bestBarrier_18 rfl rfl ?_
  refine g_callV (n := 22) (as := [.int s0, .int (nI 1)]) (bc' := 0) (bs' := 0) sM_0 vc_16 (ctX12_fails h) okX12_fails rfl w_2189 w_2191 w_42 w_112 dX12_bestBarrier_19 rfl rfl (Nat.le_of_ble_eq_true rfl) (Nat.le_of_ble_eq_true rfl) (Nat.le_of_ble_eq_true rfl) (Nat.le_of_ble_eq_true rfl) rfl (fun E sh1 I1 A1 hp _ => hp.2.elim) (fun ro sh_ I_4 A_5 hp hle => ?_)
  obtain ⟨rfl, r_6, rfl, h⟩ := hp
  refine g_if_ne (n := 25) 48 dX12_bestBarrier_22 (by decide) rfl (fun hc => ?_) (fun hc => ?_)
  · have h := h.1 hc
    refine g_iconst (n := 49) (v := (nI 0)) dX12_bestBarrier_48 rfl rfl ?_
    exact g_iret rfl rfl dX12_bestBarrier_49 ⟨rfl, _, rfl, h⟩
  · have h := h.2 hc
    refine g_aload_n (n := 26) dX12_bestBarrier_25 rfl rfl rfl ?_
    refine g_aload_n (n := 27) dX12_bestBarrier_26 rfl rfl rfl ?_
    refine g_getR (n := 30) (k := 0) dX12_bestBarrier_27 sM_0 vc_16 (Nat.le_of_ble_eq_true rfl) rfl w_1994 rfl ?_
    refine g_bipush (n := 32) (v := (nI 10)) dX12_bestBarrier_30 rfl rfl ?_
    refine g_ialdJ (n := 33) (j := 10) (x := (A_5 1 10)) dX12_bestBarrier_32 sM_1 rfl (Nat.le_of_ble_eq_true rfl) (by decide) rfl rfl ?_
    refine g_if_eq (n := 36) 40 dX12_bestBarrier_33 (by decide) rfl (fun hc => ?_) (fun hc => ?_)
    · have h := h.1 hc
      refine g_iconst (n := 41) (v := (nI 0)) dX12_bestBarrier_40 rfl rfl ?_
      refine g_less (bc' := 0) (bs' := 0) (Nat.le_of_ble_eq_true rfl) (Nat.le_of_ble_eq_true rfl) ?_
      exact tjX12_bestBarrier_41  _ _ _ _ h
    · have h := h.2 hc
      refine g_iconst (n := 37) (v := (nI 1)) dX12_bestBarrier_36 rfl rfl ?_
      refine g_goto 41 dX12_bestBarrier_37 (by decide) ?_
      refine g_less (bc' := 0) (bs' := 0) (Nat.le_of_ble_eq_true rfl) (Nat.le_of_ble_eq_true rfl) ?_
      exact tjX12_bestBarrier_41  _ _ _ _ h
set_option maxRecDepth 20000 in
theorem ctX12_bestBarrier  {K : Int32 → ab_F → ab_F → Prop} {I A : ab_F} {p0 : Int32} (h : wX12_bestBarrier K I A p0) : ab_Cl mX12_bestBarrier 3 0 0 [.ref 0, .int p0] shM I A (ab_Px shM ab_no (ab_ri K)) := by
  refine ab_enter (ls := [some (.ref 0), some (.int p0), none, none, none]) (by decide +kernel) (Nat.le_of_ble_eq_true rfl) rfl (fun C => ?_)
  unfold wX12_bestBarrier at h
  refine g_aload_n (n := 1) dX12_bestBarrier_0 rfl rfl rfl ?_
  refine g_iload_n (n := 2) dX12_bestBarrier_1 rfl rfl rfl ?_
  refine g_i2l (n := 3) dX12_bestBarrier_2 rfl ?_
  refine g_lconst (n := 4) (v := (0 : Int64)) dX12_bestBarrier_3 rfl rfl ?_
  refine g_ldc2 (n := 7) (v := (48 : Int64)) dX12_bestBarrier_4 w_2101 rfl ?_
  refine g_callS (n := 10) (as := [.long ((p0).toInt64), .long (0 : Int64), .long (48 : Int64)]) (bc' := 0) (bs' := 0) (ctX12_in h) okX12_in w_2080 w_2081 dX12_bestBarrier_7 rfl rfl (Nat.le_of_ble_eq_true rfl) (Nat.le_of_ble_eq_true rfl) (Nat.le_of_ble_eq_true rfl) (Nat.le_of_ble_eq_true rfl) rfl (fun E sh1 I1 A1 hp _ => hp.2.elim) (fun ro sh_ I_1 A_2 hp hle => ?_)
  obtain ⟨rfl, r_3, rfl, h⟩ := hp
  refine g_if_ne (n := 13) 17 dX12_bestBarrier_10 (by decide) rfl (fun hc => ?_) (fun hc => ?_)
  · have h := h.1 hc
    refine g_iconst (n := 18) (v := (nI 0)) dX12_bestBarrier_17 rfl rfl ?_
    refine g_less (bc' := 0) (bs' := 0) (Nat.le_of_ble_eq_true rfl) (Nat.le_of_ble_eq_true rfl) ?_
    exact tjX12_bestBarrier_18  _ _ _ _ h
  · have h := h.2 hc
    refine g_iconst (n := 14) (v := (nI 1)) dX12_bestBarrier_13 rfl rfl ?_
    refine g_goto 18 dX12_bestBarrier_14 (by decide) ?_
    refine g_less (bc' := 0) (bs' := 0) (Nat.le_of_ble_eq_true rfl) (Nat.le_of_ble_eq_true rfl) ?_
    exact tjX12_bestBarrier_18  _ _ _ _ h
def wX12_lostPages (K : Int32 → ab_F → ab_F → Prop) (I A : ab_F) (p0 : Int32) : Prop := wX12_isNoProcess (fun r_3 I_1 A_2 => ((r_3 = 0 → wX12_lostOf (fun r_6 I_4 A_5 => K r_6 I_4 A_5) I_1 A_2 p0) ∧ (¬ r_3 = 0 → K (nI 0) I_1 A_2))) I A p0
set_option maxRecDepth 20000 in
theorem ctX12_lostPages  {K : Int32 → ab_F → ab_F → Prop} {I A : ab_F} {p0 : Int32} (h : wX12_lostPages K I A p0) : ab_Cl mX12_lostPages 3 0 0 [.ref 0, .int p0] shM I A (ab_Px shM ab_no (ab_ri K)) := by
  refine ab_enter (ls := [some (.ref 0), some (.int p0)]) (by decide +kernel) (Nat.le_of_ble_eq_true rfl) rfl (fun C => ?_)
  unfold wX12_lostPages at h
  refine g_aload_n (n := 1) dX12_lostPages_0 rfl rfl rfl ?_
  refine g_iload_n (n := 2) dX12_lostPages_1 rfl rfl rfl ?_
  refine g_callV (n := 5) (as := [.int p0]) (bc' := 0) (bs' := 0) sM_0 vc_16 (ctX12_isNoProcess h) okX12_isNoProcess rfl w_2349 w_2351 w_71 w_112 dX12_lostPages_2 rfl rfl (Nat.le_of_ble_eq_true rfl) (Nat.le_of_ble_eq_true rfl) (Nat.le_of_ble_eq_true rfl) (Nat.le_of_ble_eq_true rfl) rfl (fun E sh1 I1 A1 hp _ => hp.2.elim) (fun ro sh_ I_1 A_2 hp hle => ?_)
  obtain ⟨rfl, r_3, rfl, h⟩ := hp
  refine g_if_eq (n := 8) 12 dX12_lostPages_5 (by decide) rfl (fun hc => ?_) (fun hc => ?_)
  · have h := h.1 hc
    refine g_aload_n (n := 13) dX12_lostPages_12 rfl rfl rfl ?_
    refine g_iload_n (n := 14) dX12_lostPages_13 rfl rfl rfl ?_
    refine g_callV (n := 17) (as := [.int p0]) (bc' := 0) (bs' := 0) sM_0 vc_16 (ctX12_lostOf h) okX12_lostOf rfl w_2353 w_2355 w_72 w_112 dX12_lostPages_14 rfl rfl (Nat.le_of_ble_eq_true rfl) (Nat.le_of_ble_eq_true rfl) (Nat.le_of_ble_eq_true rfl) (Nat.le_of_ble_eq_true rfl) rfl (fun E sh1 I1 A1 hp _ => hp.2.elim) (fun ro sh_ I_4 A_5 hp hle => ?_)
    obtain ⟨rfl, r_6, rfl, h⟩ := hp
    exact g_iret rfl rfl dX12_lostPages_17 ⟨rfl, _, rfl, h⟩
  · have h := h.2 hc
    refine g_iconst (n := 9) (v := (nI 0)) dX12_lostPages_8 rfl rfl ?_
    refine g_goto 17 dX12_lostPages_9 (by decide) ?_
    exact g_iret rfl rfl dX12_lostPages_17 ⟨rfl, _, rfl, h⟩
def wjX12_barrierLog_50 (K : Int32 → ab_F → ab_F → Prop) (x1 : Int32) (x2 : Int32) (s0 : Int32) (I A : ab_F) : Prop := wX12_fails (fun r_12 I_10 A_11 => ((r_12 = 0 → (∃ j_13 : Nat, (((nI 576) + ((nI 4) * x1)) + x2) = nI j_13 ∧ j_13 < 608 ∧ K (A_11 1 j_13) I_10 A_11)) ∧ (¬ r_12 = 0 → K (nI 0) I_10 A_11))) I A s0 (nI 2)
def wjX12_barrierLog_25 (K : Int32 → ab_F → ab_F → Prop) (x1 : Int32) (x2 : Int32) (s0 : Int32) (I A : ab_F) : Prop := wX12_fails (fun r_6 I_4 A_5 => ((¬ r_6 = 0 → K (nI 0) I_4 A_5) ∧ (r_6 = 0 → wX12_in (fun r_9 I_7 A_8 => ((¬ r_9 = 0 → wjX12_barrierLog_50 K x1 x2 (nI 0) I_7 A_8) ∧ (r_9 = 0 → wjX12_barrierLog_50 K x1 x2 (nI 1) I_7 A_8))) I_4 A_5 ((x2).toInt64) (0 : Int64) (3 : Int64)))) I A s0 (nI 1)
def wX12_barrierLog (K : Int32 → ab_F → ab_F → Prop) (I A : ab_F) (p0 : Int32) (p1 : Int32) : Prop := wX12_in (fun r_3 I_1 A_2 => ((¬ r_3 = 0 → wjX12_barrierLog_25 K p0 p1 (nI 0) I_1 A_2) ∧ (r_3 = 0 → wjX12_barrierLog_25 K p0 p1 (nI 1) I_1 A_2))) I A ((p0).toInt64) (0 : Int64) ((((A 1 13) - (nI 1))).toInt64)
set_option maxRecDepth 20000 in
theorem tjX12_barrierLog_50 {C : ab_X}  {K : Int32 → ab_F → ab_F → Prop} (x1 : Int32) (x2 : Int32) (s0 : Int32) (I A : ab_F) (h : wjX12_barrierLog_50 K x1 x2 s0 I A) : ab_G mX12_barrierLog 1 C (ab_Px shM ab_no (ab_ri K)) 50 [some (.ref 0), some (.int x1), some (.int x2)] [.int s0, .ref 0] shM I A 0 0 := by
  unfold wjX12_barrierLog_50 at h
  refine g_iconst (n := 51) (v := (nI 2)) dX12_barrierLog_50 rfl rfl ?_
  refine g_callV (n := 54) (as := [.int s0, .int (nI 2)]) (bc' := 0) (bs' := 0) sM_0 vc_16 (ctX12_fails h) okX12_fails rfl w_2189 w_2191 w_42 w_112 dX12_barrierLog_51 rfl rfl (Nat.le_of_ble_eq_true rfl) (Nat.le_of_ble_eq_true rfl) (Nat.le_of_ble_eq_true rfl) (Nat.le_of_ble_eq_true rfl) rfl (fun E sh1 I1 A1 hp _ => hp.2.elim) (fun ro sh_ I_10 A_11 hp hle => ?_)
  obtain ⟨rfl, r_12, rfl, h⟩ := hp
  refine g_if_eq (n := 57) 61 dX12_barrierLog_54 (by decide) rfl (fun hc => ?_) (fun hc => ?_)
  · have h := h.1 hc
    refine g_aload_n (n := 62) dX12_barrierLog_61 rfl rfl rfl ?_
    refine g_getR (n := 65) (k := 0) dX12_barrierLog_62 sM_0 vc_16 (Nat.le_of_ble_eq_true rfl) rfl w_1994 rfl ?_
    refine g_sipush (n := 68) (v := (nI 576)) dX12_barrierLog_65 rfl rfl ?_
    refine g_iconst (n := 69) (v := (nI 4)) dX12_barrierLog_68 rfl rfl ?_
    refine g_iload_n (n := 70) dX12_barrierLog_69 rfl rfl rfl ?_
    refine g_imul (n := 71) dX12_barrierLog_70 rfl ?_
    refine g_iadd (n := 72) dX12_barrierLog_71 rfl ?_
    refine g_iload_n (n := 73) dX12_barrierLog_72 rfl rfl rfl ?_
    refine g_iadd (n := 74) dX12_barrierLog_73 rfl ?_
    obtain ⟨j_13, hj, hl, h⟩ := h
    refine g_ialdJ (n := 75) (j := j_13) (x := (A_11 1 j_13)) dX12_barrierLog_74 sM_1 hj hl (by decide) rfl rfl ?_
    exact g_iret rfl rfl dX12_barrierLog_75 ⟨rfl, _, rfl, h⟩
  · have h := h.2 hc
    refine g_iconst (n := 58) (v := (nI 0)) dX12_barrierLog_57 rfl rfl ?_
    refine g_goto 75 dX12_barrierLog_58 (by decide) ?_
    exact g_iret rfl rfl dX12_barrierLog_75 ⟨rfl, _, rfl, h⟩
set_option maxRecDepth 20000 in
theorem tjX12_barrierLog_25 {C : ab_X}  {K : Int32 → ab_F → ab_F → Prop} (x1 : Int32) (x2 : Int32) (s0 : Int32) (I A : ab_F) (h : wjX12_barrierLog_25 K x1 x2 s0 I A) : ab_G mX12_barrierLog 1 C (ab_Px shM ab_no (ab_ri K)) 25 [some (.ref 0), some (.int x1), some (.int x2)] [.int s0, .ref 0] shM I A 0 0 := by
  unfold wjX12_barrierLog_25 at h
  refine g_iconst (n := 26) (v := (nI 1)) dX12_barrierLog_25 rfl rfl ?_
  refine g_callV (n := 29) (as := [.int s0, .int (nI 1)]) (bc' := 0) (bs' := 0) sM_0 vc_16 (ctX12_fails h) okX12_fails rfl w_2189 w_2191 w_42 w_112 dX12_barrierLog_26 rfl rfl (Nat.le_of_ble_eq_true rfl) (Nat.le_of_ble_eq_true rfl) (Nat.le_of_ble_eq_true rfl) (Nat.le_of_ble_eq_true rfl) rfl (fun E sh1 I1 A1 hp _ => hp.2.elim) (fun ro sh_ I_4 A_5 hp hle => ?_)
  obtain ⟨rfl, r_6, rfl, h⟩ := hp
  refine g_if_ne (n := 32) 57 dX12_barrierLog_29 (by decide) rfl (fun hc => ?_) (fun hc => ?_)
  · have h := h.1 hc
    refine g_iconst (n := 58) (v := (nI 0)) dX12_barrierLog_57 rfl rfl ?_
    refine g_goto 75 dX12_barrierLog_58 (by decide) ?_
    exact g_iret rfl rfl dX12_barrierLog_75 ⟨rfl, _, rfl, h⟩
  · have h := h.2 hc
    refine g_aload_n (n := 33) dX12_barrierLog_32 rfl rfl rfl ?_
    refine g_iload_n (n := 34) dX12_barrierLog_33 rfl rfl rfl ?_
    refine g_i2l (n := 35) dX12_barrierLog_34 rfl ?_
    refine g_lconst (n := 36) (v := (0 : Int64)) dX12_barrierLog_35 rfl rfl ?_
    refine g_ldc2 (n := 39) (v := (3 : Int64)) dX12_barrierLog_36 w_2573 rfl ?_
    refine g_callS (n := 42) (as := [.long ((x2).toInt64), .long (0 : Int64), .long (3 : Int64)]) (bc' := 0) (bs' := 0) (ctX12_in h) okX12_in w_2080 w_2081 dX12_barrierLog_39 rfl rfl (Nat.le_of_ble_eq_true rfl) (Nat.le_of_ble_eq_true rfl) (Nat.le_of_ble_eq_true rfl) (Nat.le_of_ble_eq_true rfl) rfl (fun E sh1 I1 A1 hp _ => hp.2.elim) (fun ro sh_ I_7 A_8 hp hle => ?_)
    obtain ⟨rfl, r_9, rfl, h⟩ := hp
    refine g_if_ne (n := 45) 49 dX12_barrierLog_42 (by decide) rfl (fun hc => ?_) (fun hc => ?_)
    · have h := h.1 hc
      refine g_iconst (n := 50) (v := (nI 0)) dX12_barrierLog_49 rfl rfl ?_
      refine g_less (bc' := 0) (bs' := 0) (Nat.le_of_ble_eq_true rfl) (Nat.le_of_ble_eq_true rfl) ?_
      exact tjX12_barrierLog_50  _ _ _ _ _ h
    · have h := h.2 hc
      refine g_iconst (n := 46) (v := (nI 1)) dX12_barrierLog_45 rfl rfl ?_
      refine g_goto 50 dX12_barrierLog_46 (by decide) ?_
      refine g_less (bc' := 0) (bs' := 0) (Nat.le_of_ble_eq_true rfl) (Nat.le_of_ble_eq_true rfl) ?_
      exact tjX12_barrierLog_50  _ _ _ _ _ h
set_option maxRecDepth 20000 in
theorem ctX12_barrierLog  {K : Int32 → ab_F → ab_F → Prop} {I A : ab_F} {p0 : Int32} {p1 : Int32} (h : wX12_barrierLog K I A p0 p1) : ab_Cl mX12_barrierLog 1 0 0 [.ref 0, .int p0, .int p1] shM I A (ab_Px shM ab_no (ab_ri K)) := by
  refine ab_enter (ls := [some (.ref 0), some (.int p0), some (.int p1)]) (by decide +kernel) (Nat.le_of_ble_eq_true rfl) rfl (fun C => ?_)
  unfold wX12_barrierLog at h
  refine g_aload_n (n := 1) dX12_barrierLog_0 rfl rfl rfl ?_
  refine g_iload_n (n := 2) dX12_barrierLog_1 rfl rfl rfl ?_
  refine g_i2l (n := 3) dX12_barrierLog_2 rfl ?_
  refine g_lconst (n := 4) (v := (0 : Int64)) dX12_barrierLog_3 rfl rfl ?_
  refine g_aload_n (n := 5) dX12_barrierLog_4 rfl rfl rfl ?_
  refine g_getR (n := 8) (k := 0) dX12_barrierLog_5 sM_0 vc_16 (Nat.le_of_ble_eq_true rfl) rfl w_1994 rfl ?_
  refine g_bipush (n := 10) (v := (nI 13)) dX12_barrierLog_8 rfl rfl ?_
  refine g_ialdJ (n := 11) (j := 13) (x := (A 1 13)) dX12_barrierLog_10 sM_1 rfl (Nat.le_of_ble_eq_true rfl) (by decide) rfl rfl ?_
  refine g_iconst (n := 12) (v := (nI 1)) dX12_barrierLog_11 rfl rfl ?_
  refine g_isub (n := 13) dX12_barrierLog_12 rfl ?_
  refine g_i2l (n := 14) dX12_barrierLog_13 rfl ?_
  refine g_callS (n := 17) (as := [.long ((p0).toInt64), .long (0 : Int64), .long ((((A 1 13) - (nI 1))).toInt64)]) (bc' := 0) (bs' := 0) (ctX12_in h) okX12_in w_2080 w_2081 dX12_barrierLog_14 rfl rfl (Nat.le_of_ble_eq_true rfl) (Nat.le_of_ble_eq_true rfl) (Nat.le_of_ble_eq_true rfl) (Nat.le_of_ble_eq_true rfl) rfl (fun E sh1 I1 A1 hp _ => hp.2.elim) (fun ro sh_ I_1 A_2 hp hle => ?_)
  obtain ⟨rfl, r_3, rfl, h⟩ := hp
  refine g_if_ne (n := 20) 24 dX12_barrierLog_17 (by decide) rfl (fun hc => ?_) (fun hc => ?_)
  · have h := h.1 hc
    refine g_iconst (n := 25) (v := (nI 0)) dX12_barrierLog_24 rfl rfl ?_
    refine g_less (bc' := 0) (bs' := 0) (Nat.le_of_ble_eq_true rfl) (Nat.le_of_ble_eq_true rfl) ?_
    exact tjX12_barrierLog_25  _ _ _ _ _ h
  · have h := h.2 hc
    refine g_iconst (n := 21) (v := (nI 1)) dX12_barrierLog_20 rfl rfl ?_
    refine g_goto 25 dX12_barrierLog_21 (by decide) ?_
    refine g_less (bc' := 0) (bs' := 0) (Nat.le_of_ble_eq_true rfl) (Nat.le_of_ble_eq_true rfl) ?_
    exact tjX12_barrierLog_25  _ _ _ _ _ h
