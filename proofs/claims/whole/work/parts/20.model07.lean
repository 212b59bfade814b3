def wjX12_recentAccess_25 (K : Int32 → ab_F → ab_F → Prop) (x1 : Int32) (s0 : Int32) (I A : ab_F) : Prop := wX12_fails (fun r_6 I_4 A_5 => ((r_6 = 0 → (∃ j_7 : Nat, ((nI 512) + x1) = nI j_7 ∧ j_7 < 608 ∧ K (A_5 1 j_7) I_4 A_5)) ∧ (¬ r_6 = 0 → K (nI 0) I_4 A_5))) I A s0 (nI 1)
def wX12_recentAccess (K : Int32 → ab_F → ab_F → Prop) (I A : ab_F) (p0 : Int32) : Prop := wX12_in (fun r_3 I_1 A_2 => ((¬ r_3 = 0 → wjX12_recentAccess_25 K p0 (nI 0) I_1 A_2) ∧ (r_3 = 0 → wjX12_recentAccess_25 K p0 (nI 1) I_1 A_2))) I A ((p0).toInt64) (0 : Int64) ((((A 1 12) - (nI 1))).toInt64)
set_option maxRecDepth 20000 in
theorem tjX12_recentAccess_25 {C : ab_X}  {K : Int32 → ab_F → ab_F → Prop} (x1 : Int32) (s0 : Int32) (I A : ab_F) (h : wjX12_recentAccess_25 K x1 s0 I A) : ab_G mX12_recentAccess 1 C (ab_Px shM ab_no (ab_ri K)) 25 [some (.ref 0), some (.int x1)] [.int s0, .ref 0] shM I A 0 0 := by
  unfold wjX12_recentAccess_25 at h
  refine g_iconst (n := 26) (v := (nI 1)) dX12_recentAccess_25 rfl rfl ?_
  refine g_callV (n := 29) (as := [.int s0, .int (nI 1)]) (bc' := 0) (bs' := 0) sM_0 vc_16 (ctX12_fails h) okX12_fails rfl w_2189 w_2191 w_42 w_112 dX12_recentAccess_26 rfl rfl (Nat.le_of_ble_eq_true rfl) (Nat.le_of_ble_eq_true rfl) (Nat.le_of_ble_eq_true rfl) (Nat.le_of_ble_eq_true rfl) rfl (fun E sh1 I1 A1 hp _ => hp.2.elim) (fun ro sh_ I_4 A_5 hp hle => ?_)
  obtain ⟨rfl, r_6, rfl, h⟩ := hp
  refine g_if_eq (n := 32) 36 dX12_recentAccess_29 (by decide) rfl (fun hc => ?_) (fun hc => ?_)
  · have h := h.1 hc
    refine g_aload_n (n := 37) dX12_recentAccess_36 rfl rfl rfl ?_
    refine g_getR (n := 40) (k := 0) dX12_recentAccess_37 sM_0 vc_16 (Nat.le_of_ble_eq_true rfl) rfl w_1994 rfl ?_
    refine g_sipush (n := 43) (v := (nI 512)) dX12_recentAccess_40 rfl rfl ?_
    refine g_iload_n (n := 44) dX12_recentAccess_43 rfl rfl rfl ?_
    refine g_iadd (n := 45) dX12_recentAccess_44 rfl ?_
    obtain ⟨j_7, hj, hl, h⟩ := h
    refine g_ialdJ (n := 46) (j := j_7) (x := (A_5 1 j_7)) dX12_recentAccess_45 sM_1 hj hl (by decide) rfl rfl ?_
    exact g_iret rfl rfl dX12_recentAccess_46 ⟨rfl, _, rfl, h⟩
  · have h := h.2 hc
    refine g_iconst (n := 33) (v := (nI 0)) dX12_recentAccess_32 rfl rfl ?_
    refine g_goto 46 dX12_recentAccess_33 (by decide) ?_
    exact g_iret rfl rfl dX12_recentAccess_46 ⟨rfl, _, rfl, h⟩
set_option maxRecDepth 20000 in
theorem ctX12_recentAccess  {K : Int32 → ab_F → ab_F → Prop} {I A : ab_F} {p0 : Int32} (h : wX12_recentAccess K I A p0) : ab_Cl mX12_recentAccess 1 0 0 [.ref 0, .int p0] shM I A (ab_Px shM ab_no (ab_ri K)) := by
  refine ab_enter (ls := [some (.ref 0), some (.int p0)]) (by decide +kernel) (Nat.le_of_ble_eq_true rfl) rfl (fun C => ?_)
  unfold wX12_recentAccess at h
  refine g_aload_n (n := 1) dX12_recentAccess_0 rfl rfl rfl ?_
  refine g_iload_n (n := 2) dX12_recentAccess_1 rfl rfl rfl ?_
  refine g_i2l (n := 3) dX12_recentAccess_2 rfl ?_
  refine g_lconst (n := 4) (v := (0 : Int64)) dX12_recentAccess_3 rfl rfl ?_
  refine g_aload_n (n := 5) dX12_recentAccess_4 rfl rfl rfl ?_
  refine g_getR (n := 8) (k := 0) dX12_recentAccess_5 sM_0 vc_16 (Nat.le_of_ble_eq_true rfl) rfl w_1994 rfl ?_
  refine g_bipush (n := 10) (v := (nI 12)) dX12_recentAccess_8 rfl rfl ?_
  refine g_ialdJ (n := 11) (j := 12) (x := (A 1 12)) dX12_recentAccess_10 sM_1 rfl (Nat.le_of_ble_eq_true rfl) (by decide) rfl rfl ?_
  refine g_iconst (n := 12) (v := (nI 1)) dX12_recentAccess_11 rfl rfl ?_
  refine g_isub (n := 13) dX12_recentAccess_12 rfl ?_
  refine g_i2l (n := 14) dX12_recentAccess_13 rfl ?_
  refine g_callS (n := 17) (as := [.long ((p0).toInt64), .long (0 : Int64), .long ((((A 1 12) - (nI 1))).toInt64)]) (bc' := 0) (bs' := 0) (ctX12_in h) okX12_in w_2080 w_2081 dX12_recentAccess_14 rfl rfl (Nat.le_of_ble_eq_true rfl) (Nat.le_of_ble_eq_true rfl) (Nat.le_of_ble_eq_true rfl) (Nat.le_of_ble_eq_true rfl) rfl (fun E sh1 I1 A1 hp _ => hp.2.elim) (fun ro sh_ I_1 A_2 hp hle => ?_)
  obtain ⟨rfl, r_3, rfl, h⟩ := hp
  refine g_if_ne (n := 20) 24 dX12_recentAccess_17 (by decide) rfl (fun hc => ?_) (fun hc => ?_)
  · have h := h.1 hc
    refine g_iconst (n := 25) (v := (nI 0)) dX12_recentAccess_24 rfl rfl ?_
    refine g_less (bc' := 0) (bs' := 0) (Nat.le_of_ble_eq_true rfl) (Nat.le_of_ble_eq_true rfl) ?_
    exact tjX12_recentAccess_25  _ _ _ _ h
  · have h := h.2 hc
    refine g_iconst (n := 21) (v := (nI 1)) dX12_recentAccess_20 rfl rfl ?_
    refine g_goto 25 dX12_recentAccess_21 (by decide) ?_
    refine g_less (bc' := 0) (bs' := 0) (Nat.le_of_ble_eq_true rfl) (Nat.le_of_ble_eq_true rfl) ?_
    exact tjX12_recentAccess_25  _ _ _ _ h
def wlX12_nextOf_4 (K : Int32 → ab_F → ab_F → Prop) : Nat → Int32 → Int32 → Int32 → ab_F → ab_F → Prop
  | 0, _, _, _, _, _ => False
  | n + 1, x1, x2, x3, I, A => ((x3 < 0 → K (nI 1000) I A) ∧ (¬ x3 < 0 → (∃ j_2 : Nat, ((nI 512) + x3) = nI j_2 ∧ j_2 < 608 ∧ ((¬ (A 1 j_2) = x1 → (wlX12_nextOf_4 K n) x1 x2 (x3 + (-1)) I A) ∧ ((A 1 j_2) = x1 → K (x2 - x3) I A)))))
def wX12_nextOf (K : Int32 → ab_F → ab_F → Prop) (I A : ab_F) (p0 : Int32) (p1 : Int32) : Prop := (∀ y_1 : Int32, y_1 = (p1 - (nI 1)) → (∃ nf : Nat, wlX12_nextOf_4 K nf p0 p1 y_1 I A))
set_option maxRecDepth 20000 in
theorem tlX12_nextOf_4 {C : ab_X}  {K : Int32 → ab_F → ab_F → Prop} : ∀ (n : Nat) (x1 : Int32) (x2 : Int32) (x3 : Int32) (I A : ab_F), wlX12_nextOf_4 K n x1 x2 x3 I A → ab_G mX12_nextOf 0 C (ab_Px shM ab_no (ab_ri K)) 4 [some (.ref 0), some (.int x1), some (.int x2), some (.int x3)] [] shM I A 0 0 := by
  intro n
  induction n with
  | zero => intro x1 x2 x3 I A h; exact h.elim
  | succ n hL4 =>
    intro x1 x2 x3 I A h
    rw [wlX12_nextOf_4] at h
    refine g_iload_n (n := 5) dX12_nextOf_4 rfl rfl rfl ?_
    refine g_if_lt (n := 8) 32 dX12_nextOf_5 (by decide) rfl (fun hc => ?_) (fun hc => ?_)
    · have h := h.1 hc
      refine g_sipush (n := 35) (v := (nI 1000)) dX12_nextOf_32 rfl rfl ?_
      exact g_iret rfl rfl dX12_nextOf_35 ⟨rfl, _, rfl, h⟩
    · have h := h.2 hc
      refine g_aload_n (n := 9) dX12_nextOf_8 rfl rfl rfl ?_
      refine g_getR (n := 12) (k := 0) dX12_nextOf_9 sM_0 vc_16 (Nat.le_of_ble_eq_true rfl) rfl w_1994 rfl ?_
      refine g_sipush (n := 15) (v := (nI 512)) dX12_nextOf_12 rfl rfl ?_
      refine g_iload_n (n := 16) dX12_nextOf_15 rfl rfl rfl ?_
      refine g_iadd (n := 17) dX12_nextOf_16 rfl ?_
      obtain ⟨j_2, hj, hl, h⟩ := h
      refine g_ialdJ (n := 18) (j := j_2) (x := (A 1 j_2)) dX12_nextOf_17 sM_1 hj hl (by decide) rfl rfl ?_
      refine g_iload_n (n := 19) dX12_nextOf_18 rfl rfl rfl ?_
      refine g_icmp_ne (n := 22) 26 dX12_nextOf_19 (by decide) rfl (fun hc => ?_) (fun hc => ?_)
      · have h := h.1 hc
        refine g_iinc (n := 29) (v := (x3 + (-1))) (ls' := [some (.ref 0), some (.int x1), some (.int x2), some (.int (x3 + (-1)))]) dX12_nextOf_26 rfl rfl rfl (Nat.le_of_ble_eq_true rfl) rfl rfl ?_
        refine g_goto 4 dX12_nextOf_29 (by decide) ?_
        exact hL4 _ _ _ _ _ h
      · have h := h.2 hc
        refine g_iload_n (n := 23) dX12_nextOf_22 rfl rfl rfl ?_
        refine g_iload_n (n := 24) dX12_nextOf_23 rfl rfl rfl ?_
        refine g_isub (n := 25) dX12_nextOf_24 rfl ?_
        exact g_iret rfl rfl dX12_nextOf_25 ⟨rfl, _, rfl, h⟩
set_option maxRecDepth 20000 in
theorem ctX12_nextOf  {K : Int32 → ab_F → ab_F → Prop} {I A : ab_F} {p0 : Int32} {p1 : Int32} (h : wX12_nextOf K I A p0 p1) : ab_Cl mX12_nextOf 0 0 0 [.ref 0, .int p0, .int p1] shM I A (ab_Px shM ab_no (ab_ri K)) := by
  refine ab_enter (ls := [some (.ref 0), some (.int p0), some (.int p1), none]) (by decide +kernel) (Nat.le_of_ble_eq_true rfl) rfl (fun C => ?_)
  unfold wX12_nextOf at h
  refine g_iload_n (n := 1) dX12_nextOf_0 rfl rfl rfl ?_
  refine g_iconst (n := 2) (v := (nI 1)) dX12_nextOf_1 rfl rfl ?_
  refine g_isub (n := 3) dX12_nextOf_2 rfl ?_
  refine g_topi (fun y_1 ey_1 => ?_)
  have h := h y_1 ey_1
  refine g_istore_n (n := 4) (ls' := [some (.ref 0), some (.int p0), some (.int p1), some (.int y_1)]) dX12_nextOf_3 rfl rfl (Nat.le_of_ble_eq_true rfl) (Nat.le_of_ble_eq_true rfl) rfl rfl ?_
  refine g_less (bc' := 0) (bs' := 0) (Nat.le_of_ble_eq_true rfl) (Nat.le_of_ble_eq_true rfl) ?_
  obtain ⟨n_f, h⟩ := h
  exact tlX12_nextOf_4  n_f _ _ _ _ _ h
def wX12_isBetterOut (K : Int32 → ab_F → ab_F → Prop) (I A : ab_F) (p0 : Int32) (p1 : Int32) (p2 : Int32) (p3 : Int32) : Prop := ((¬ p2 = 0 → ((¬ p2 = (nI 1) → (∃ j_1 : Nat, p0 = nI j_1 ∧ j_1 < 16 ∧ wX12_nextOf (fun r_4 I_2 A_3 => (∃ j_5 : Nat, p1 = nI j_5 ∧ j_5 < 16 ∧ wX12_nextOf (fun r_8 I_6 A_7 => ((r_8 < r_4 → K (nI 1) I_6 A_7) ∧ (¬ r_8 < r_4 → ((¬ r_4 = r_8 → K (nI 0) I_6 A_7) ∧ (r_4 = r_8 → (∃ j_9 : Nat, p0 = nI j_9 ∧ j_9 < 16 ∧ (∃ j_10 : Nat, p1 = nI j_10 ∧ j_10 < 16 ∧ (((A_7 7 j_10) ≤ (A_7 7 j_9) → K (nI 0) I_6 A_7) ∧ (¬ (A_7 7 j_10) ≤ (A_7 7 j_9) → K (nI 1) I_6 A_7))))))))) I_2 A_3 (A_3 7 j_5) p3)) I A (A 7 j_1) p3)) ∧ (p2 = (nI 1) → (∃ j_11 : Nat, p0 = nI j_11 ∧ j_11 < 16 ∧ (∃ j_12 : Nat, p1 = nI j_12 ∧ j_12 < 16 ∧ (((A 9 j_12) ≤ (A 9 j_11) → K (nI 0) I A) ∧ (¬ (A 9 j_12) ≤ (A 9 j_11) → K (nI 1) I A))))))) ∧ (p2 = 0 → (∃ j_13 : Nat, p0 = nI j_13 ∧ j_13 < 16 ∧ (∃ j_14 : Nat, p1 = nI j_14 ∧ j_14 < 16 ∧ (((A 8 j_14) ≤ (A 8 j_13) → K (nI 0) I A) ∧ (¬ (A 8 j_14) ≤ (A 8 j_13) → K (nI 1) I A))))))
set_option maxRecDepth 20000 in
theorem ctX12_isBetterOut  {K : Int32 → ab_F → ab_F → Prop} {I A : ab_F} {p0 : Int32} {p1 : Int32} {p2 : Int32} {p3 : Int32} (h : wX12_isBetterOut K I A p0 p1 p2 p3) : ab_Cl mX12_isBetterOut 1 0 0 [.ref 0, .int p0, .int p1, .int p2, .int p3] shM I A (ab_Px shM ab_no (ab_ri K)) := by
  refine ab_enter (ls := [some (.ref 0), some (.int p0), some (.int p1), some (.int p2), some (.int p3), none, none]) (by decide +kernel) (Nat.le_of_ble_eq_true rfl) rfl (fun C => ?_)
  unfold wX12_isBetterOut at h
  refine g_iload_n (n := 1) dX12_isBetterOut_0 rfl rfl rfl ?_
  refine g_if_ne (n := 4) 25 dX12_isBetterOut_1 (by decide) rfl (fun hc => ?_) (fun hc => ?_)
  · have h := h.1 hc
    refine g_iload_n (n := 26) dX12_isBetterOut_25 rfl rfl rfl ?_
    refine g_iconst (n := 27) (v := (nI 1)) dX12_isBetterOut_26 rfl rfl ?_
    refine g_icmp_ne (n := 30) 51 dX12_isBetterOut_27 (by decide) rfl (fun hc => ?_) (fun hc => ?_)
    · have h := h.1 hc
      refine g_aload_n (n := 52) dX12_isBetterOut_51 rfl rfl rfl ?_
      refine g_aload_n (n := 53) dX12_isBetterOut_52 rfl rfl rfl ?_
      refine g_getR (n := 56) (k := 14) dX12_isBetterOut_53 sM_0 vc_16 (Nat.le_of_ble_eq_true rfl) rfl w_2008 rfl ?_
      refine g_iload_n (n := 57) dX12_isBetterOut_56 rfl rfl rfl ?_
      obtain ⟨j_1, hj, hl, h⟩ := h
      refine g_ialdJ (n := 58) (j := j_1) (x := (A 7 j_1)) dX12_isBetterOut_57 sM_7 hj hl (by decide) rfl rfl ?_
      refine g_iload (n := 60) dX12_isBetterOut_58 rfl rfl ?_
      refine g_callV (n := 63) (as := [.int (A 7 j_1), .int p3]) (bc' := 0) (bs' := 0) sM_0 vc_16 (ctX12_nextOf h) okX12_nextOf rfl w_2591 w_2593 w_89 w_112 dX12_isBetterOut_60 rfl rfl (Nat.le_of_ble_eq_true rfl) (Nat.le_of_ble_eq_true rfl) (Nat.le_of_ble_eq_true rfl) (Nat.le_of_ble_eq_true rfl) rfl (fun E sh1 I1 A1 hp _ => hp.2.elim) (fun ro sh_ I_2 A_3 hp hle => ?_)
      obtain ⟨rfl, r_4, rfl, h⟩ := hp
      refine g_istore (n := 65) (ls' := [some (.ref 0), some (.int p0), some (.int p1), some (.int p2), some (.int p3), some (.int r_4), none]) dX12_isBetterOut_63 rfl (Nat.le_of_ble_eq_true rfl) (Nat.le_of_ble_eq_true rfl) rfl rfl ?_
      refine g_aload_n (n := 66) dX12_isBetterOut_65 rfl rfl rfl ?_
      refine g_aload_n (n := 67) dX12_isBetterOut_66 rfl rfl rfl ?_
      refine g_getR (n := 70) (k := 14) dX12_isBetterOut_67 sM_0 vc_16 (Nat.le_of_ble_eq_true rfl) rfl w_2008 rfl ?_
      refine g_iload_n (n := 71) dX12_isBetterOut_70 rfl rfl rfl ?_
      obtain ⟨j_5, hj, hl, h⟩ := h
      refine g_ialdJ (n := 72) (j := j_5) (x := (A_3 7 j_5)) dX12_isBetterOut_71 sM_7 hj hl (by decide) rfl rfl ?_
      refine g_iload (n := 74) dX12_isBetterOut_72 rfl rfl ?_
      refine g_callV (n := 77) (as := [.int (A_3 7 j_5), .int p3]) (bc' := 0) (bs' := 0) sM_0 vc_16 (ctX12_nextOf h) okX12_nextOf rfl w_2591 w_2593 w_89 w_112 dX12_isBetterOut_74 rfl rfl (Nat.le_of_ble_eq_true rfl) (Nat.le_of_ble_eq_true rfl) (Nat.le_of_ble_eq_true rfl) (Nat.le_of_ble_eq_true rfl) rfl (fun E sh1 I1 A1 hp _ => hp.2.elim) (fun ro sh_ I_6 A_7 hp hle => ?_)
      obtain ⟨rfl, r_8, rfl, h⟩ := hp
      refine g_istore (n := 79) (ls' := [some (.ref 0), some (.int p0), some (.int p1), some (.int p2), some (.int p3), some (.int r_4), some (.int r_8)]) dX12_isBetterOut_77 rfl (Nat.le_of_ble_eq_true rfl) (Nat.le_of_ble_eq_true rfl) rfl rfl ?_
      refine g_iload (n := 81) dX12_isBetterOut_79 rfl rfl ?_
      refine g_iload (n := 83) dX12_isBetterOut_81 rfl rfl ?_
      refine g_icmp_gt (n := 86) 108 dX12_isBetterOut_83 (by decide) rfl (fun hc => ?_) (fun hc => ?_)
      · have h := h.1 hc
        refine g_iconst (n := 109) (v := (nI 1)) dX12_isBetterOut_108 rfl rfl ?_
        refine g_goto 113 dX12_isBetterOut_109 (by decide) ?_
        exact g_iret rfl rfl dX12_isBetterOut_113 ⟨rfl, _, rfl, h⟩
      · have h := h.2 hc
        refine g_iload (n := 88) dX12_isBetterOut_86 rfl rfl ?_
        refine g_iload (n := 90) dX12_isBetterOut_88 rfl rfl ?_
        refine g_icmp_ne (n := 93) 112 dX12_isBetterOut_90 (by decide) rfl (fun hc => ?_) (fun hc => ?_)
        · have h := h.1 hc
          refine g_iconst (n := 113) (v := (nI 0)) dX12_isBetterOut_112 rfl rfl ?_
          exact g_iret rfl rfl dX12_isBetterOut_113 ⟨rfl, _, rfl, h⟩
        · have h := h.2 hc
          refine g_aload_n (n := 94) dX12_isBetterOut_93 rfl rfl rfl ?_
          refine g_getR (n := 97) (k := 14) dX12_isBetterOut_94 sM_0 vc_16 (Nat.le_of_ble_eq_true rfl) rfl w_2008 rfl ?_
          refine g_iload_n (n := 98) dX12_isBetterOut_97 rfl rfl rfl ?_
          obtain ⟨j_9, hj, hl, h⟩ := h
          refine g_ialdJ (n := 99) (j := j_9) (x := (A_7 7 j_9)) dX12_isBetterOut_98 sM_7 hj hl (by decide) rfl rfl ?_
          refine g_aload_n (n := 100) dX12_isBetterOut_99 rfl rfl rfl ?_
          refine g_getR (n := 103) (k := 14) dX12_isBetterOut_100 sM_0 vc_16 (Nat.le_of_ble_eq_true rfl) rfl w_2008 rfl ?_
          refine g_iload_n (n := 104) dX12_isBetterOut_103 rfl rfl rfl ?_
          obtain ⟨j_10, hj, hl, h⟩ := h
          refine g_ialdJ (n := 105) (j := j_10) (x := (A_7 7 j_10)) dX12_isBetterOut_104 sM_7 hj hl (by decide) rfl rfl ?_
          refine g_icmp_ge (n := 108) 112 dX12_isBetterOut_105 (by decide) rfl (fun hc => ?_) (fun hc => ?_)
          · have h := h.1 hc
            refine g_iconst (n := 113) (v := (nI 0)) dX12_isBetterOut_112 rfl rfl ?_
            exact g_iret rfl rfl dX12_isBetterOut_113 ⟨rfl, _, rfl, h⟩
          · have h := h.2 hc
            refine g_iconst (n := 109) (v := (nI 1)) dX12_isBetterOut_108 rfl rfl ?_
            refine g_goto 113 dX12_isBetterOut_109 (by decide) ?_
            exact g_iret rfl rfl dX12_isBetterOut_113 ⟨rfl, _, rfl, h⟩
    · have h := h.2 hc
      refine g_aload_n (n := 31) dX12_isBetterOut_30 rfl rfl rfl ?_
      refine g_getR (n := 34) (k := 16) dX12_isBetterOut_31 sM_0 vc_16 (Nat.le_of_ble_eq_true rfl) rfl w_2010 rfl ?_
      refine g_iload_n (n := 35) dX12_isBetterOut_34 rfl rfl rfl ?_
      obtain ⟨j_11, hj, hl, h⟩ := h
      refine g_ialdJ (n := 36) (j := j_11) (x := (A 9 j_11)) dX12_isBetterOut_35 sM_9 hj hl (by decide) rfl rfl ?_
      refine g_aload_n (n := 37) dX12_isBetterOut_36 rfl rfl rfl ?_
      refine g_getR (n := 40) (k := 16) dX12_isBetterOut_37 sM_0 vc_16 (Nat.le_of_ble_eq_true rfl) rfl w_2010 rfl ?_
      refine g_iload_n (n := 41) dX12_isBetterOut_40 rfl rfl rfl ?_
      obtain ⟨j_12, hj, hl, h⟩ := h
      refine g_ialdJ (n := 42) (j := j_12) (x := (A 9 j_12)) dX12_isBetterOut_41 sM_9 hj hl (by decide) rfl rfl ?_
      refine g_icmp_ge (n := 45) 49 dX12_isBetterOut_42 (by decide) rfl (fun hc => ?_) (fun hc => ?_)
      · have h := h.1 hc
        refine g_iconst (n := 50) (v := (nI 0)) dX12_isBetterOut_49 rfl rfl ?_
        exact g_iret rfl rfl dX12_isBetterOut_50 ⟨rfl, _, rfl, h⟩
      · have h := h.2 hc
        refine g_iconst (n := 46) (v := (nI 1)) dX12_isBetterOut_45 rfl rfl ?_
        refine g_goto 50 dX12_isBetterOut_46 (by decide) ?_
        exact g_iret rfl rfl dX12_isBetterOut_50 ⟨rfl, _, rfl, h⟩
  · have h := h.2 hc
    refine g_aload_n (n := 5) dX12_isBetterOut_4 rfl rfl rfl ?_
    refine g_getR (n := 8) (k := 15) dX12_isBetterOut_5 sM_0 vc_16 (Nat.le_of_ble_eq_true rfl) rfl w_2009 rfl ?_
    refine g_iload_n (n := 9) dX12_isBetterOut_8 rfl rfl rfl ?_
    obtain ⟨j_13, hj, hl, h⟩ := h
    refine g_ialdJ (n := 10) (j := j_13) (x := (A 8 j_13)) dX12_isBetterOut_9 sM_8 hj hl (by decide) rfl rfl ?_
    refine g_aload_n (n := 11) dX12_isBetterOut_10 rfl rfl rfl ?_
    refine g_getR (n := 14) (k := 15) dX12_isBetterOut_11 sM_0 vc_16 (Nat.le_of_ble_eq_true rfl) rfl w_2009 rfl ?_
    refine g_iload_n (n := 15) dX12_isBetterOut_14 rfl rfl rfl ?_
    obtain ⟨j_14, hj, hl, h⟩ := h
    refine g_ialdJ (n := 16) (j := j_14) (x := (A 8 j_14)) dX12_isBetterOut_15 sM_8 hj hl (by decide) rfl rfl ?_
    refine g_icmp_ge (n := 19) 23 dX12_isBetterOut_16 (by decide) rfl (fun hc => ?_) (fun hc => ?_)
    · have h := h.1 hc
      refine g_iconst (n := 24) (v := (nI 0)) dX12_isBetterOut_23 rfl rfl ?_
      exact g_iret rfl rfl dX12_isBetterOut_24 ⟨rfl, _, rfl, h⟩
    · have h := h.2 hc
      refine g_iconst (n := 20) (v := (nI 1)) dX12_isBetterOut_19 rfl rfl ?_
      refine g_goto 24 dX12_isBetterOut_20 (by decide) ?_
      exact g_iret rfl rfl dX12_isBetterOut_24 ⟨rfl, _, rfl, h⟩
def wjX12_faultsBy_148 (K : Int32 → ab_F → ab_F → Prop) (L16 : Int32 → Int32 → Int32 → Int32 → Int32 → ab_F → ab_F → Prop) (x1 : Int32) (x2 : Int32) (x3 : Int32) (x4 : Int32) (x5 : Int32) (x6 : Int32) (I A : ab_F) : Prop := (∃ j_2 : Nat, x6 = nI j_2 ∧ j_2 < 16 ∧ L16 x1 x2 x3 x4 (x5 + (-1)) I (wr A 8 j_2 ((nI 64) - x5)))
def wjX12_faultsBy_118 (K : Int32 → ab_F → ab_F → Prop) (L16 : Int32 → Int32 → Int32 → Int32 → Int32 → ab_F → ab_F → Prop) (x1 : Int32) (x2 : Int32) (x3 : Int32) (x4 : Int32) (x5 : Int32) (x6 : Int32) (I A : ab_F) : Prop := (∃ j_3 : Nat, ((nI 512) + x5) = nI j_3 ∧ j_3 < 608 ∧ (∃ j_4 : Nat, x6 = nI j_4 ∧ j_4 < 16 ∧ (∃ j_5 : Nat, x6 = nI j_5 ∧ j_5 < 16 ∧ wjX12_faultsBy_148 K L16 x1 x2 x3 x4 x5 x6 I (wr (wr A 7 j_4 (A 1 j_3)) 9 j_5 ((nI 64) - x5)))))
def wlX12_faultsBy_83 (K : Int32 → ab_F → ab_F → Prop) (L16 : Int32 → Int32 → Int32 → Int32 → Int32 → ab_F → ab_F → Prop) : Nat → Int32 → Int32 → Int32 → Int32 → Int32 → Int32 → Int32 → ab_F → ab_F → Prop
  | 0, _, _, _, _, _, _, _, _, _ => False
  | n + 1, x1, x2, x3, x4, x5, x6, x7, I, A => ((x3 ≤ x7 → wjX12_faultsBy_118 K L16 x1 x2 x3 x4 x5 x6 I A) ∧ (¬ x3 ≤ x7 → wX12_isBetterOut (fun r_8 I_6 A_7 => ((r_8 = 0 → (wlX12_faultsBy_83 K L16 n) x1 x2 x3 x4 x5 x6 (x7 + nI 1) I_6 A_7) ∧ (¬ r_8 = 0 → (wlX12_faultsBy_83 K L16 n) x1 x2 x3 x4 x5 x7 (x7 + nI 1) I_6 A_7))) I A x7 x6 x2 x5))
def wjX12_faultsBy_57 (K : Int32 → ab_F → ab_F → Prop) (L16 : Int32 → Int32 → Int32 → Int32 → Int32 → ab_F → ab_F → Prop) (x1 : Int32) (x2 : Int32) (x3 : Int32) (x4 : Int32) (x5 : Int32) (x6 : Int32) (I A : ab_F) : Prop := ((¬ x6 = x3 → wjX12_faultsBy_148 K L16 x1 x2 x3 x4 x5 x6 I A) ∧ (x6 = x3 → ((x1 ≤ x3 → (∃ nf : Nat, wlX12_faultsBy_83 K L16 nf x1 x2 x3 (x4 + nI 1) x5 (nI 0) (nI 1) I A)) ∧ (¬ x1 ≤ x3 → wjX12_faultsBy_118 K L16 x1 x2 (x3 + nI 1) (x4 + nI 1) x5 x6 I A))))
def wlX12_faultsBy_24 (K : Int32 → ab_F → ab_F → Prop) (L16 : Int32 → Int32 → Int32 → Int32 → Int32 → ab_F → ab_F → Prop) : Nat → Int32 → Int32 → Int32 → Int32 → Int32 → Int32 → ab_F → ab_F → Prop
  | 0, _, _, _, _, _, _, _, _ => False
  | n + 1, x1, x2, x3, x4, x5, x6, I, A => ((x3 ≤ x6 → wjX12_faultsBy_57 K L16 x1 x2 x3 x4 x5 x6 I A) ∧ (¬ x3 ≤ x6 → (∃ j_9 : Nat, x6 = nI j_9 ∧ j_9 < 16 ∧ (∃ j_10 : Nat, ((nI 512) + x5) = nI j_10 ∧ j_10 < 608 ∧ (((A 7 j_9) = (A 1 j_10) → wjX12_faultsBy_57 K L16 x1 x2 x3 x4 x5 x6 I A) ∧ (¬ (A 7 j_9) = (A 1 j_10) → (wlX12_faultsBy_24 K L16 n) x1 x2 x3 x4 x5 (x6 + nI 1) I A))))))
def wlX12_faultsBy_16 (K : Int32 → ab_F → ab_F → Prop) : Nat → Int32 → Int32 → Int32 → Int32 → Int32 → ab_F → ab_F → Prop
  | 0, _, _, _, _, _, _, _ => False
  | n + 1, x1, x2, x3, x4, x5, I, A => ((x5 < 0 → K x4 I A) ∧ (¬ x5 < 0 → (∃ nf : Nat, wlX12_faultsBy_24 K (wlX12_faultsBy_16 K n) nf x1 x2 x3 x4 x5 (nI 0) I A)))
def wX12_faultsBy (K : Int32 → ab_F → ab_F → Prop) (I A : ab_F) (p0 : Int32) (p1 : Int32) : Prop := (∀ y_1 : Int32, y_1 = ((A 1 12) - (nI 1)) → (∃ nf : Nat, wlX12_faultsBy_16 K nf p0 p1 (nI 0) (nI 0) y_1 I A))
set_option maxRecDepth 20000 in
theorem tjX12_faultsBy_148 {C : ab_X}  {K : Int32 → ab_F → ab_F → Prop} {L16 : Int32 → Int32 → Int32 → Int32 → Int32 → ab_F → ab_F → Prop} (hL16 : ∀ (x1 : Int32) (x2 : Int32) (x3 : Int32) (x4 : Int32) (x5 : Int32) (I A : ab_F), L16 x1 x2 x3 x4 x5 I A → ab_G mX12_faultsBy 2 C (ab_Px shM ab_no (ab_ri K)) 16 [some (.ref 0), some (.int x1), some (.int x2), some (.int x3), some (.int x4), some (.int x5), none, none] [] shM I A 0 0) (x1 : Int32) (x2 : Int32) (x3 : Int32) (x4 : Int32) (x5 : Int32) (x6 : Int32) (I A : ab_F) (h : wjX12_faultsBy_148 K L16 x1 x2 x3 x4 x5 x6 I A) : ab_G mX12_faultsBy 2 C (ab_Px shM ab_no (ab_ri K)) 148 [some (.ref 0), some (.int x1), some (.int x2), some (.int x3), some (.int x4), some (.int x5), some (.int x6), none] [] shM I A 0 0 := by
  unfold wjX12_faultsBy_148 at h
  refine g_aload_n (n := 149) dX12_faultsBy_148 rfl rfl rfl ?_
  refine g_getR (n := 152) (k := 15) dX12_faultsBy_149 sM_0 vc_16 (Nat.le_of_ble_eq_true rfl) rfl w_2009 rfl ?_
  refine g_iload (n := 154) dX12_faultsBy_152 rfl rfl ?_
  refine g_bipush (n := 156) (v := (nI 64)) dX12_faultsBy_154 rfl rfl ?_
  refine g_iload (n := 158) dX12_faultsBy_156 rfl rfl ?_
  refine g_isub (n := 159) dX12_faultsBy_158 rfl ?_
  obtain ⟨j_2, hj, hl, h⟩ := h
  refine g_iastJ (n := 160) (j := j_2) dX12_faultsBy_159 sM_8 hj hl (by decide) rfl ?_
  refine g_iinc (n := 163) (v := (x5 + (-1))) (ls' := [some (.ref 0), some (.int x1), some (.int x2), some (.int x3), some (.int x4), some (.int (x5 + (-1))), some (.int x6), none]) dX12_faultsBy_160 rfl rfl rfl (Nat.le_of_ble_eq_true rfl) rfl rfl ?_
  refine g_goto 16 dX12_faultsBy_163 (by decide) ?_
  refine g_forget (ls' := [some (.ref 0), some (.int x1), some (.int x2), some (.int x3), some (.int x4), some (.int (x5 + (-1))), none, none]) (ab_fg rfl) ?_
  exact hL16 _ _ _ _ _ _ _ h
set_option maxRecDepth 20000 in
theorem tjX12_faultsBy_118 {C : ab_X}  {K : Int32 → ab_F → ab_F → Prop} {L16 : Int32 → Int32 → Int32 → Int32 → Int32 → ab_F → ab_F → Prop} (hL16 : ∀ (x1 : Int32) (x2 : Int32) (x3 : Int32) (x4 : Int32) (x5 : Int32) (I A : ab_F), L16 x1 x2 x3 x4 x5 I A → ab_G mX12_faultsBy 2 C (ab_Px shM ab_no (ab_ri K)) 16 [some (.ref 0), some (.int x1), some (.int x2), some (.int x3), some (.int x4), some (.int x5), none, none] [] shM I A 0 0) (x1 : Int32) (x2 : Int32) (x3 : Int32) (x4 : Int32) (x5 : Int32) (x6 : Int32) (I A : ab_F) (h : wjX12_faultsBy_118 K L16 x1 x2 x3 x4 x5 x6 I A) : ab_G mX12_faultsBy 2 C (ab_Px shM ab_no (ab_ri K)) 118 [some (.ref 0), some (.int x1), some (.int x2), some (.int x3), some (.int x4), some (.int x5), some (.int x6), none] [] shM I A 0 0 := by
  unfold wjX12_faultsBy_118 at h
  refine g_aload_n (n := 119) dX12_faultsBy_118 rfl rfl rfl ?_
  refine g_getR (n := 122) (k := 14) dX12_faultsBy_119 sM_0 vc_16 (Nat.le_of_ble_eq_true rfl) rfl w_2008 rfl ?_
  refine g_iload (n := 124) dX12_faultsBy_122 rfl rfl ?_
  refine g_aload_n (n := 125) dX12_faultsBy_124 rfl rfl rfl ?_
  refine g_getR (n := 128) (k := 0) dX12_faultsBy_125 sM_0 vc_16 (Nat.le_of_ble_eq_true rfl) rfl w_1994 rfl ?_
  refine g_sipush (n := 131) (v := (nI 512)) dX12_faultsBy_128 rfl rfl ?_
  refine g_iload (n := 133) dX12_faultsBy_131 rfl rfl ?_
  refine g_iadd (n := 134) dX12_faultsBy_133 rfl ?_
  obtain ⟨j_3, hj, hl, h⟩ := h
  refine g_ialdJ (n := 135) (j := j_3) (x := (A 1 j_3)) dX12_faultsBy_134 sM_1 hj hl (by decide) rfl rfl ?_
  obtain ⟨j_4, hj, hl, h⟩ := h
  refine g_iastJ (n := 136) (j := j_4) dX12_faultsBy_135 sM_7 hj hl (by decide) rfl ?_
  refine g_aload_n (n := 137) dX12_faultsBy_136 rfl rfl rfl ?_
  refine g_getR (n := 140) (k := 16) dX12_faultsBy_137 sM_0 vc_16 (Nat.le_of_ble_eq_true rfl) rfl w_2010 rfl ?_
  refine g_iload (n := 142) dX12_faultsBy_140 rfl rfl ?_
  refine g_bipush (n := 144) (v := (nI 64)) dX12_faultsBy_142 rfl rfl ?_
  refine g_iload (n := 146) dX12_faultsBy_144 rfl rfl ?_
  refine g_isub (n := 147) dX12_faultsBy_146 rfl ?_
  obtain ⟨j_5, hj, hl, h⟩ := h
  refine g_iastJ (n := 148) (j := j_5) dX12_faultsBy_147 sM_9 hj hl (by decide) rfl ?_
  refine g_less (bc' := 0) (bs' := 0) (Nat.le_of_ble_eq_true rfl) (Nat.le_of_ble_eq_true rfl) ?_
  exact tjX12_faultsBy_148 hL16 _ _ _ _ _ _ _ _ h
set_option maxRecDepth 20000 in
theorem tlX12_faultsBy_83 {C : ab_X}  {K : Int32 → ab_F → ab_F → Prop} {L16 : Int32 → Int32 → Int32 → Int32 → Int32 → ab_F → ab_F → Prop} (hL16 : ∀ (x1 : Int32) (x2 : Int32) (x3 : Int32) (x4 : Int32) (x5 : Int32) (I A : ab_F), L16 x1 x2 x3 x4 x5 I A → ab_G mX12_faultsBy 2 C (ab_Px shM ab_no (ab_ri K)) 16 [some (.ref 0), some (.int x1), some (.int x2), some (.int x3), some (.int x4), some (.int x5), none, none] [] shM I A 0 0) : ∀ (n : Nat) (x1 : Int32) (x2 : Int32) (x3 : Int32) (x4 : Int32) (x5 : Int32) (x6 : Int32) (x7 : Int32) (I A : ab_F), wlX12_faultsBy_83 K L16 n x1 x2 x3 x4 x5 x6 x7 I A → ab_G mX12_faultsBy 2 C (ab_Px shM ab_no (ab_ri K)) 83 [some (.ref 0), some (.int x1), some (.int x2), some (.int x3), some (.int x4), some (.int x5), some (.int x6), some (.int x7)] [] shM I A 0 0 := by
  intro n
  induction n with
  | zero => intro x1 x2 x3 x4 x5 x6 x7 I A h; exact h.elim
  | succ n hL83 =>
    intro x1 x2 x3 x4 x5 x6 x7 I A h
    rw [wlX12_faultsBy_83] at h
    refine g_iload (n := 85) dX12_faultsBy_83 rfl rfl ?_
    refine g_iload_n (n := 86) dX12_faultsBy_85 rfl rfl rfl ?_
    refine g_icmp_ge (n := 89) 118 dX12_faultsBy_86 (by decide) rfl (fun hc => ?_) (fun hc => ?_)
    · have h := h.1 hc
      refine g_forget (ls' := [some (.ref 0), some (.int x1), some (.int x2), some (.int x3), some (.int x4), some (.int x5), some (.int x6), none]) (ab_fg rfl) ?_
      refine g_less (bc' := 0) (bs' := 0) (Nat.le_of_ble_eq_true rfl) (Nat.le_of_ble_eq_true rfl) ?_
      exact tjX12_faultsBy_118 hL16 _ _ _ _ _ _ _ _ h
    · have h := h.2 hc
      refine g_aload_n (n := 90) dX12_faultsBy_89 rfl rfl rfl ?_
      refine g_iload (n := 92) dX12_faultsBy_90 rfl rfl ?_
      refine g_iload (n := 94) dX12_faultsBy_92 rfl rfl ?_
      refine g_iload_n (n := 95) dX12_faultsBy_94 rfl rfl rfl ?_
      refine g_iload (n := 97) dX12_faultsBy_95 rfl rfl ?_
      refine g_callV (n := 100) (as := [.int x7, .int x6, .int x2, .int x5]) (bc' := 0) (bs' := 0) sM_0 vc_16 (ctX12_isBetterOut h) okX12_isBetterOut rfl w_2587 w_2589 w_88 w_112 dX12_faultsBy_97 rfl rfl (Nat.le_of_ble_eq_true rfl) (Nat.le_of_ble_eq_true rfl) (Nat.le_of_ble_eq_true rfl) (Nat.le_of_ble_eq_true rfl) rfl (fun E sh1 I1 A1 hp _ => hp.2.elim) (fun ro sh_ I_6 A_7 hp hle => ?_)
      obtain ⟨rfl, r_8, rfl, h⟩ := hp
      refine g_if_eq (n := 103) 108 dX12_faultsBy_100 (by decide) rfl (fun hc => ?_) (fun hc => ?_)
      · have h := h.1 hc
        refine g_iload (n := 110) dX12_faultsBy_108 rfl rfl ?_
        refine g_istore (n := 112) (ls' := [some (.ref 0), some (.int x1), some (.int x2), some (.int x3), some (.int x4), some (.int x5), some (.int x6), some (.int x7)]) dX12_faultsBy_110 rfl (Nat.le_of_ble_eq_true rfl) (Nat.le_of_ble_eq_true rfl) rfl rfl ?_
        refine g_iinc (n := 115) (v := (x7 + nI 1)) (ls' := [some (.ref 0), some (.int x1), some (.int x2), some (.int x3), some (.int x4), some (.int x5), some (.int x6), some (.int (x7 + nI 1))]) dX12_faultsBy_112 rfl rfl rfl (Nat.le_of_ble_eq_true rfl) rfl rfl ?_
        refine g_goto 83 dX12_faultsBy_115 (by decide) ?_
        exact hL83 _ _ _ _ _ _ _ _ _ h
      · have h := h.2 hc
        refine g_iload (n := 105) dX12_faultsBy_103 rfl rfl ?_
        refine g_goto 110 dX12_faultsBy_105 (by decide) ?_
        refine g_istore (n := 112) (ls' := [some (.ref 0), some (.int x1), some (.int x2), some (.int x3), some (.int x4), some (.int x5), some (.int x7), some (.int x7)]) dX12_faultsBy_110 rfl (Nat.le_of_ble_eq_true rfl) (Nat.le_of_ble_eq_true rfl) rfl rfl ?_
        refine g_iinc (n := 115) (v := (x7 + nI 1)) (ls' := [some (.ref 0), some (.int x1), some (.int x2), some (.int x3), some (.int x4), some (.int x5), some (.int x7), some (.int (x7 + nI 1))]) dX12_faultsBy_112 rfl rfl rfl (Nat.le_of_ble_eq_true rfl) rfl rfl ?_
        refine g_goto 83 dX12_faultsBy_115 (by decide) ?_
        exact hL83 _ _ _ _ _ _ _ _ _ h
set_option maxRecDepth 20000 in
theorem tjX12_faultsBy_57 {C : ab_X}  {K : Int32 → ab_F → ab_F → Prop} {L16 : Int32 → Int32 → Int32 → Int32 → Int32 → ab_F → ab_F → Prop} (hL16 : ∀ (x1 : Int32) (x2 : Int32) (x3 : Int32) (x4 : Int32) (x5 : Int32) (I A : ab_F), L16 x1 x2 x3 x4 x5 I A → ab_G mX12_faultsBy 2 C (ab_Px shM ab_no (ab_ri K)) 16 [some (.ref 0), some (.int x1), some (.int x2), some (.int x3), some (.int x4), some (.int x5), none, none] [] shM I A 0 0) (x1 : Int32) (x2 : Int32) (x3 : Int32) (x4 : Int32) (x5 : Int32) (x6 : Int32) (I A : ab_F) (h : wjX12_faultsBy_57 K L16 x1 x2 x3 x4 x5 x6 I A) : ab_G mX12_faultsBy 2 C (ab_Px shM ab_no (ab_ri K)) 57 [some (.ref 0), some (.int x1), some (.int x2), some (.int x3), some (.int x4), some (.int x5), some (.int x6), none] [] shM I A 0 0 := by
  unfold wjX12_faultsBy_57 at h
  refine g_iload (n := 59) dX12_faultsBy_57 rfl rfl ?_
  refine g_iload_n (n := 60) dX12_faultsBy_59 rfl rfl rfl ?_
  refine g_icmp_ne (n := 63) 148 dX12_faultsBy_60 (by decide) rfl (fun hc => ?_) (fun hc => ?_)
  · have h := h.1 hc
    refine g_less (bc' := 0) (bs' := 0) (Nat.le_of_ble_eq_true rfl) (Nat.le_of_ble_eq_true rfl) ?_
    exact tjX12_faultsBy_148 hL16 _ _ _ _ _ _ _ _ h
  · have h := h.2 hc
    refine g_iinc (n := 66) (v := (x4 + nI 1)) (ls' := [some (.ref 0), some (.int x1), some (.int x2), some (.int x3), some (.int (x4 + nI 1)), some (.int x5), some (.int x6), none]) dX12_faultsBy_63 rfl rfl rfl (Nat.le_of_ble_eq_true rfl) rfl rfl ?_
    refine g_iload_n (n := 67) dX12_faultsBy_66 rfl rfl rfl ?_
    refine g_iload_n (n := 68) dX12_faultsBy_67 rfl rfl rfl ?_
    refine g_icmp_ge (n := 71) 77 dX12_faultsBy_68 (by decide) rfl (fun hc => ?_) (fun hc => ?_)
    · have h := h.1 hc
      refine g_iconst (n := 78) (v := (nI 0)) dX12_faultsBy_77 rfl rfl ?_
      refine g_istore (n := 80) (ls' := [some (.ref 0), some (.int x1), some (.int x2), some (.int x3), some (.int (x4 + nI 1)), some (.int x5), some (.int (nI 0)), none]) dX12_faultsBy_78 rfl (Nat.le_of_ble_eq_true rfl) (Nat.le_of_ble_eq_true rfl) rfl rfl ?_
      refine g_iconst (n := 81) (v := (nI 1)) dX12_faultsBy_80 rfl rfl ?_
      refine g_istore (n := 83) (ls' := [some (.ref 0), some (.int x1), some (.int x2), some (.int x3), some (.int (x4 + nI 1)), some (.int x5), some (.int (nI 0)), some (.int (nI 1))]) dX12_faultsBy_81 rfl (Nat.le_of_ble_eq_true rfl) (Nat.le_of_ble_eq_true rfl) rfl rfl ?_
      refine g_less (bc' := 0) (bs' := 0) (Nat.le_of_ble_eq_true rfl) (Nat.le_of_ble_eq_true rfl) ?_
      obtain ⟨n_f, h⟩ := h
      exact tlX12_faultsBy_83 hL16 n_f _ _ _ _ _ _ _ _ _ h
    · have h := h.2 hc
      refine g_iinc (n := 74) (v := (x3 + nI 1)) (ls' := [some (.ref 0), some (.int x1), some (.int x2), some (.int (x3 + nI 1)), some (.int (x4 + nI 1)), some (.int x5), some (.int x6), none]) dX12_faultsBy_71 rfl rfl rfl (Nat.le_of_ble_eq_true rfl) rfl rfl ?_
      refine g_goto 118 dX12_faultsBy_74 (by decide) ?_
      refine g_less (bc' := 0) (bs' := 0) (Nat.le_of_ble_eq_true rfl) (Nat.le_of_ble_eq_true rfl) ?_
      exact tjX12_faultsBy_118 hL16 _ _ _ _ _ _ _ _ h
set_option maxRecDepth 20000 in
theorem tlX12_faultsBy_24 {C : ab_X}  {K : Int32 → ab_F → ab_F → Prop} {L16 : Int32 → Int32 → Int32 → Int32 → Int32 → ab_F → ab_F → Prop} (hL16 : ∀ (x1 : Int32) (x2 : Int32) (x3 : Int32) (x4 : Int32) (x5 : Int32) (I A : ab_F), L16 x1 x2 x3 x4 x5 I A → ab_G mX12_faultsBy 2 C (ab_Px shM ab_no (ab_ri K)) 16 [some (.ref 0), some (.int x1), some (.int x2), some (.int x3), some (.int x4), some (.int x5), none, none] [] shM I A 0 0) : ∀ (n : Nat) (x1 : Int32) (x2 : Int32) (x3 : Int32) (x4 : Int32) (x5 : Int32) (x6 : Int32) (I A : ab_F), wlX12_faultsBy_24 K L16 n x1 x2 x3 x4 x5 x6 I A → ab_G mX12_faultsBy 2 C (ab_Px shM ab_no (ab_ri K)) 24 [some (.ref 0), some (.int x1), some (.int x2), some (.int x3), some (.int x4), some (.int x5), some (.int x6), none] [] shM I A 0 0 := by
  intro n
  induction n with
  | zero => intro x1 x2 x3 x4 x5 x6 I A h; exact h.elim
  | succ n hL24 =>
    intro x1 x2 x3 x4 x5 x6 I A h
    rw [wlX12_faultsBy_24] at h
    refine g_iload (n := 26) dX12_faultsBy_24 rfl rfl ?_
    refine g_iload_n (n := 27) dX12_faultsBy_26 rfl rfl rfl ?_
    refine g_icmp_ge (n := 30) 57 dX12_faultsBy_27 (by decide) rfl (fun hc => ?_) (fun hc => ?_)
    · have h := h.1 hc
      refine g_less (bc' := 0) (bs' := 0) (Nat.le_of_ble_eq_true rfl) (Nat.le_of_ble_eq_true rfl) ?_
      exact tjX12_faultsBy_57 hL16 _ _ _ _ _ _ _ _ h
    · have h := h.2 hc
      refine g_aload_n (n := 31) dX12_faultsBy_30 rfl rfl rfl ?_
      refine g_getR (n := 34) (k := 14) dX12_faultsBy_31 sM_0 vc_16 (Nat.le_of_ble_eq_true rfl) rfl w_2008 rfl ?_
      refine g_iload (n := 36) dX12_faultsBy_34 rfl rfl ?_
      obtain ⟨j_9, hj, hl, h⟩ := h
      refine g_ialdJ (n := 37) (j := j_9) (x := (A 7 j_9)) dX12_faultsBy_36 sM_7 hj hl (by decide) rfl rfl ?_
      refine g_aload_n (n := 38) dX12_faultsBy_37 rfl rfl rfl ?_
      refine g_getR (n := 41) (k := 0) dX12_faultsBy_38 sM_0 vc_16 (Nat.le_of_ble_eq_true rfl) rfl w_1994 rfl ?_
      refine g_sipush (n := 44) (v := (nI 512)) dX12_faultsBy_41 rfl rfl ?_
      refine g_iload (n := 46) dX12_faultsBy_44 rfl rfl ?_
      refine g_iadd (n := 47) dX12_faultsBy_46 rfl ?_
      obtain ⟨j_10, hj, hl, h⟩ := h
      refine g_ialdJ (n := 48) (j := j_10) (x := (A 1 j_10)) dX12_faultsBy_47 sM_1 hj hl (by decide) rfl rfl ?_
      refine g_icmp_eq (n := 51) 57 dX12_faultsBy_48 (by decide) rfl (fun hc => ?_) (fun hc => ?_)
      · have h := h.1 hc
        refine g_less (bc' := 0) (bs' := 0) (Nat.le_of_ble_eq_true rfl) (Nat.le_of_ble_eq_true rfl) ?_
        exact tjX12_faultsBy_57 hL16 _ _ _ _ _ _ _ _ h
      · have h := h.2 hc
        refine g_iinc (n := 54) (v := (x6 + nI 1)) (ls' := [some (.ref 0), some (.int x1), some (.int x2), some (.int x3), some (.int x4), some (.int x5), some (.int (x6 + nI 1)), none]) dX12_faultsBy_51 rfl rfl rfl (Nat.le_of_ble_eq_true rfl) rfl rfl ?_
        refine g_goto 24 dX12_faultsBy_54 (by decide) ?_
        exact hL24 _ _ _ _ _ _ _ _ h
set_option maxRecDepth 20000 in
theorem tlX12_faultsBy_16 {C : ab_X}  {K : Int32 → ab_F → ab_F → Prop} : ∀ (n : Nat) (x1 : Int32) (x2 : Int32) (x3 : Int32) (x4 : Int32) (x5 : Int32) (I A : ab_F), wlX12_faultsBy_16 K n x1 x2 x3 x4 x5 I A → ab_G mX12_faultsBy 2 C (ab_Px shM ab_no (ab_ri K)) 16 [some (.ref 0), some (.int x1), some (.int x2), some (.int x3), some (.int x4), some (.int x5), none, none] [] shM I A 0 0 := by
  intro n
  induction n with
  | zero => intro x1 x2 x3 x4 x5 I A h; exact h.elim
  | succ n hL16 =>
    intro x1 x2 x3 x4 x5 I A h
    rw [wlX12_faultsBy_16] at h
    refine g_iload (n := 18) dX12_faultsBy_16 rfl rfl ?_
    refine g_if_lt (n := 21) 166 dX12_faultsBy_18 (by decide) rfl (fun hc => ?_) (fun hc => ?_)
    · have h := h.1 hc
      refine g_iload (n := 168) dX12_faultsBy_166 rfl rfl ?_
      exact g_iret rfl rfl dX12_faultsBy_168 ⟨rfl, _, rfl, h⟩
    · have h := h.2 hc
      refine g_iconst (n := 22) (v := (nI 0)) dX12_faultsBy_21 rfl rfl ?_
      refine g_istore (n := 24) (ls' := [some (.ref 0), some (.int x1), some (.int x2), some (.int x3), some (.int x4), some (.int x5), some (.int (nI 0)), none]) dX12_faultsBy_22 rfl (Nat.le_of_ble_eq_true rfl) (Nat.le_of_ble_eq_true rfl) rfl rfl ?_
      refine g_less (bc' := 0) (bs' := 0) (Nat.le_of_ble_eq_true rfl) (Nat.le_of_ble_eq_true rfl) ?_
      obtain ⟨n_f, h⟩ := h
      exact tlX12_faultsBy_24 hL16 n_f _ _ _ _ _ _ _ _ h
set_option maxRecDepth 20000 in
theorem ctX12_faultsBy  {K : Int32 → ab_F → ab_F → Prop} {I A : ab_F} {p0 : Int32} {p1 : Int32} (h : wX12_faultsBy K I A p0 p1) : ab_Cl mX12_faultsBy 2 0 0 [.ref 0, .int p0, .int p1] shM I A (ab_Px shM ab_no (ab_ri K)) := by
  refine ab_enter (ls := [some (.ref 0), some (.int p0), some (.int p1), none, none, none, none, none]) (by decide +kernel) (Nat.le_of_ble_eq_true rfl) rfl (fun C => ?_)
  unfold wX12_faultsBy at h
  refine g_iconst (n := 1) (v := (nI 0)) dX12_faultsBy_0 rfl rfl ?_
  refine g_istore_n (n := 2) (ls' := [some (.ref 0), some (.int p0), some (.int p1), some (.int (nI 0)), none, none, none, none]) dX12_faultsBy_1 rfl rfl (Nat.le_of_ble_eq_true rfl) (Nat.le_of_ble_eq_true rfl) rfl rfl ?_
  refine g_iconst (n := 3) (v := (nI 0)) dX12_faultsBy_2 rfl rfl ?_
  refine g_istore (n := 5) (ls' := [some (.ref 0), some (.int p0), some (.int p1), some (.int (nI 0)), some (.int (nI 0)), none, none, none]) dX12_faultsBy_3 rfl (Nat.le_of_ble_eq_true rfl) (Nat.le_of_ble_eq_true rfl) rfl rfl ?_
  refine g_aload_n (n := 6) dX12_faultsBy_5 rfl rfl rfl ?_
  refine g_getR (n := 9) (k := 0) dX12_faultsBy_6 sM_0 vc_16 (Nat.le_of_ble_eq_true rfl) rfl w_1994 rfl ?_
  refine g_bipush (n := 11) (v := (nI 12)) dX12_faultsBy_9 rfl rfl ?_
  refine g_ialdJ (n := 12) (j := 12) (x := (A 1 12)) dX12_faultsBy_11 sM_1 rfl (Nat.le_of_ble_eq_true rfl) (by decide) rfl rfl ?_
  refine g_iconst (n := 13) (v := (nI 1)) dX12_faultsBy_12 rfl rfl ?_
  refine g_isub (n := 14) dX12_faultsBy_13 rfl ?_
  refine g_topi (fun y_1 ey_1 => ?_)
  have h := h y_1 ey_1
  refine g_istore (n := 16) (ls' := [some (.ref 0), some (.int p0), some (.int p1), some (.int (nI 0)), some (.int (nI 0)), some (.int y_1), none, none]) dX12_faultsBy_14 rfl (Nat.le_of_ble_eq_true rfl) (Nat.le_of_ble_eq_true rfl) rfl rfl ?_
  refine g_less (bc' := 0) (bs' := 0) (Nat.le_of_ble_eq_true rfl) (Nat.le_of_ble_eq_true rfl) ?_
  obtain ⟨n_f, h⟩ := h
  exact tlX12_faultsBy_16  n_f _ _ _ _ _ _ _ h
def wjX12_faultsWith_30 (K : Int32 → ab_F → ab_F → Prop) (x1 : Int32) (x2 : Int32) (s0 : Int32) (I A : ab_F) : Prop := wX12_fails (fun r_6 I_4 A_5 => ((r_6 = 0 → wX12_faultsBy (fun r_9 I_7 A_8 => K r_9 I_7 A_8) I_4 A_5 x1 x2) ∧ (¬ r_6 = 0 → K (nI 0) I_4 A_5))) I A s0 (nI 1)
def wjX12_faultsWith_25 (K : Int32 → ab_F → ab_F → Prop) (x1 : Int32) (x2 : Int32) (I A : ab_F) : Prop := wjX12_faultsWith_30 K x1 x2 (nI 1) I A
def wX12_faultsWith (K : Int32 → ab_F → ab_F → Prop) (I A : ab_F) (p0 : Int32) (p1 : Int32) : Prop := wX12_in (fun r_3 I_1 A_2 => ((r_3 = 0 → wjX12_faultsWith_25 K p0 p1 I_1 A_2) ∧ (¬ r_3 = 0 → wX12_in (fun r_12 I_10 A_11 => ((¬ r_12 = 0 → wjX12_faultsWith_30 K p0 p1 (nI 0) I_10 A_11) ∧ (r_12 = 0 → wjX12_faultsWith_25 K p0 p1 I_10 A_11))) I_1 A_2 ((p1).toInt64) (0 : Int64) (2 : Int64)))) I A ((p0).toInt64) (1 : Int64) (16 : Int64)
set_option maxRecDepth 20000 in
theorem tjX12_faultsWith_30 {C : ab_X}  {K : Int32 → ab_F → ab_F → Prop} (x1 : Int32) (x2 : Int32) (s0 : Int32) (I A : ab_F) (h : wjX12_faultsWith_30 K x1 x2 s0 I A) : ab_G mX12_faultsWith 3 C (ab_Px shM ab_no (ab_ri K)) 30 [some (.ref 0), some (.int x1), some (.int x2)] [.int s0, .ref 0] shM I A 0 0 := by
  unfold wjX12_faultsWith_30 at h
  refine g_iconst (n := 31) (v := (nI 1)) dX12_faultsWith_30 rfl rfl ?_
  refine g_callV (n := 34) (as := [.int s0, .int (nI 1)]) (bc' := 0) (bs' := 0) sM_0 vc_16 (ctX12_fails h) okX12_fails rfl w_2189 w_2191 w_42 w_112 dX12_faultsWith_31 rfl rfl (Nat.le_of_ble_eq_true rfl) (Nat.le_of_ble_eq_true rfl) (Nat.le_of_ble_eq_true rfl) (Nat.le_of_ble_eq_true rfl) rfl (fun E sh1 I1 A1 hp _ => hp.2.elim) (fun ro sh_ I_4 A_5 hp hle => ?_)
  obtain ⟨rfl, r_6, rfl, h⟩ := hp
  refine g_if_eq (n := 37) 41 dX12_faultsWith_34 (by decide) rfl (fun hc => ?_) (fun hc => ?_)
  · have h := h.1 hc
    refine g_aload_n (n := 42) dX12_faultsWith_41 rfl rfl rfl ?_
    refine g_iload_n (n := 43) dX12_faultsWith_42 rfl rfl rfl ?_
    refine g_iload_n (n := 44) dX12_faultsWith_43 rfl rfl rfl ?_
    refine g_callV (n := 47) (as := [.int x1, .int x2]) (bc' := 0) (bs' := 0) sM_0 vc_16 (ctX12_faultsBy h) okX12_faultsBy rfl w_2583 w_2585 w_87 w_112 dX12_faultsWith_44 rfl rfl (Nat.le_of_ble_eq_true rfl) (Nat.le_of_ble_eq_true rfl) (Nat.le_of_ble_eq_true rfl) (Nat.le_of_ble_eq_true rfl) rfl (fun E sh1 I1 A1 hp _ => hp.2.elim) (fun ro sh_ I_7 A_8 hp hle => ?_)
    obtain ⟨rfl, r_9, rfl, h⟩ := hp
    exact g_iret rfl rfl dX12_faultsWith_47 ⟨rfl, _, rfl, h⟩
  · have h := h.2 hc
    refine g_iconst (n := 38) (v := (nI 0)) dX12_faultsWith_37 rfl rfl ?_
    refine g_goto 47 dX12_faultsWith_38 (by decide) ?_
    exact g_iret rfl rfl dX12_faultsWith_47 ⟨rfl, _, rfl, h⟩
set_option maxRecDepth 20000 in
theorem tjX12_faultsWith_25 {C : ab_X}  {K : Int32 → ab_F → ab_F → Prop} (x1 : Int32) (x2 : Int32) (I A : ab_F) (h : wjX12_faultsWith_25 K x1 x2 I A) : ab_G mX12_faultsWith 3 C (ab_Px shM ab_no (ab_ri K)) 25 [some (.ref 0), some (.int x1), some (.int x2)] [.ref 0] shM I A 0 0 := by
  unfold wjX12_faultsWith_25 at h
  refine g_iconst (n := 26) (v := (nI 1)) dX12_faultsWith_25 rfl rfl ?_
  refine g_goto 30 dX12_faultsWith_26 (by decide) ?_
  refine g_less (bc' := 0) (bs' := 0) (Nat.le_of_ble_eq_true rfl) (Nat.le_of_ble_eq_true rfl) ?_
  exact tjX12_faultsWith_30  _ _ _ _ _ h
set_option maxRecDepth 20000 in
theorem ctX12_faultsWith  {K : Int32 → ab_F → ab_F → Prop} {I A : ab_F} {p0 : Int32} {p1 : Int32} (h : wX12_faultsWith K I A p0 p1) : ab_Cl mX12_faultsWith 3 0 0 [.ref 0, .int p0, .int p1] shM I A (ab_Px shM ab_no (ab_ri K)) := by
  refine ab_enter (ls := [some (.ref 0), some (.int p0), some (.int p1)]) (by decide +kernel) (Nat.le_of_ble_eq_true rfl) rfl (fun C => ?_)
  unfold wX12_faultsWith at h
  refine g_aload_n (n := 1) dX12_faultsWith_0 rfl rfl rfl ?_
  refine g_iload_n (n := 2) dX12_faultsWith_1 rfl rfl rfl ?_
  refine g_i2l (n := 3) dX12_faultsWith_2 rfl ?_
  refine g_lconst (n := 4) (v := (1 : Int64)) dX12_faultsWith_3 rfl rfl ?_
  refine g_ldc2 (n := 7) (v := (16 : Int64)) dX12_faultsWith_4 w_2582 rfl ?_
  refine g_callS (n := 10) (as := [.long ((p0).toInt64), .long (1 : Int64), .long (16 : Int64)]) (bc' := 0) (bs' := 0) (ctX12_in h) okX12_in w_2080 w_2081 dX12_faultsWith_7 rfl rfl (Nat.le_of_ble_eq_true rfl) (Nat.le_of_ble_eq_true rfl) (Nat.le_of_ble_eq_true rfl) (Nat.le_of_ble_eq_true rfl) rfl (fun E sh1 I1 A1 hp _ => hp.2.elim) (fun ro sh_ I_1 A_2 hp hle => ?_)
  obtain ⟨rfl, r_3, rfl, h⟩ := hp
  refine g_if_eq (n := 13) 25 dX12_faultsWith_10 (by decide) rfl (fun hc => ?_) (fun hc => ?_)
  · have h := h.1 hc
    refine g_less (bc' := 0) (bs' := 0) (Nat.le_of_ble_eq_true rfl) (Nat.le_of_ble_eq_true rfl) ?_
    exact tjX12_faultsWith_25  _ _ _ _ h
  · have h := h.2 hc
    refine g_iload_n (n := 14) dX12_faultsWith_13 rfl rfl rfl ?_
    refine g_i2l (n := 15) dX12_faultsWith_14 rfl ?_
    refine g_lconst (n := 16) (v := (0 : Int64)) dX12_faultsWith_15 rfl rfl ?_
    refine g_ldc2 (n := 19) (v := (2 : Int64)) dX12_faultsWith_16 w_2280 rfl ?_
    refine g_callS (n := 22) (as := [.long ((p1).toInt64), .long (0 : Int64), .long (2 : Int64)]) (bc' := 0) (bs' := 0) (ctX12_in h) okX12_in w_2080 w_2081 dX12_faultsWith_19 rfl rfl (Nat.le_of_ble_eq_true rfl) (Nat.le_of_ble_eq_true rfl) (Nat.le_of_ble_eq_true rfl) (Nat.le_of_ble_eq_true rfl) rfl (fun E sh1 I1 A1 hp _ => hp.2.elim) (fun ro sh_ I_10 A_11 hp hle => ?_)
    obtain ⟨rfl, r_12, rfl, h⟩ := hp
    refine g_if_ne (n := 25) 29 dX12_faultsWith_22 (by decide) rfl (fun hc => ?_) (fun hc => ?_)
    · have h := h.1 hc
      refine g_iconst (n := 30) (v := (nI 0)) dX12_faultsWith_29 rfl rfl ?_
      refine g_less (bc' := 0) (bs' := 0) (Nat.le_of_ble_eq_true rfl) (Nat.le_of_ble_eq_true rfl) ?_
      exact tjX12_faultsWith_30  _ _ _ _ _ h
    · have h := h.2 hc
      refine g_less (bc' := 0) (bs' := 0) (Nat.le_of_ble_eq_true rfl) (Nat.le_of_ble_eq_true rfl) ?_
      exact tjX12_faultsWith_25  _ _ _ _ h
def wlX12_leastFrames_29 (K : Int32 → ab_F → ab_F → Prop) : Nat → Int32 → Int32 → ab_F → ab_F → Prop
  | 0, _, _, _, _ => False
  | n + 1, x1, x2, I, A => (((nI 16) < x2 → wX12_no (fun r_9 I_7 A_8 => K r_9 I_7 A_8) I A (nI 2)) ∧ (¬ (nI 16) < x2 → wX12_faultsBy (fun r_12 I_10 A_11 => ((x1 < r_12 → (wlX12_leastFrames_29 K n) x1 (x2 + nI 1) I_10 A_11) ∧ (¬ x1 < r_12 → K x2 I_10 A_11))) I A x2 (nI 2)))
def wjX12_leastFrames_18 (K : Int32 → ab_F → ab_F → Prop) (x1 : Int32) (s0 : Int32) (I A : ab_F) : Prop := wX12_fails (fun r_6 I_4 A_5 => ((r_6 = 0 → (∃ nf : Nat, wlX12_leastFrames_29 K nf x1 (nI 1) I_4 A_5)) ∧ (¬ r_6 = 0 → K (nI 0) I_4 A_5))) I A s0 (nI 1)
def wX12_leastFrames (K : Int32 → ab_F → ab_F → Prop) (I A : ab_F) (p0 : Int32) : Prop := wX12_in (fun r_3 I_1 A_2 => ((¬ r_3 = 0 → wjX12_leastFrames_18 K p0 (nI 0) I_1 A_2) ∧ (r_3 = 0 → wjX12_leastFrames_18 K p0 (nI 1) I_1 A_2))) I A ((p0).toInt64) (0 : Int64) (64 : Int64)
set_option maxRecDepth 20000 in
theorem tlX12_leastFrames_29 {C : ab_X}  {K : Int32 → ab_F → ab_F → Prop} : ∀ (n : Nat) (x1 : Int32) (x2 : Int32) (I A : ab_F), wlX12_leastFrames_29 K n x1 x2 I A → ab_G mX12_leastFrames 3 C (ab_Px shM ab_no (ab_ri K)) 29 [some (.ref 0), some (.int x1), some (.int x2)] [] shM I A 0 0 := by
  intro n
  induction n with
  | zero => intro x1 x2 I A h; exact h.elim
  | succ n hL29 =>
    intro x1 x2 I A h
    rw [wlX12_leastFrames_29] at h
    refine g_iload_n (n := 30) dX12_leastFrames_29 rfl rfl rfl ?_
    refine g_bipush (n := 32) (v := (nI 16)) dX12_leastFrames_30 rfl rfl ?_
    refine g_icmp_gt (n := 35) 53 dX12_leastFrames_32 (by decide) rfl (fun hc => ?_) (fun hc => ?_)
    · have h := h.1 hc
      refine g_aload_n (n := 54) dX12_leastFrames_53 rfl rfl rfl ?_
      refine g_iconst (n := 55) (v := (nI 2)) dX12_leastFrames_54 rfl rfl ?_
      refine g_callV (n := 58) (as := [.int (nI 2)]) (bc' := 0) (bs' := 0) sM_0 vc_16 (ctX12_no h) okX12_no rfl w_2060 w_2062 w_25 w_112 dX12_leastFrames_55 rfl rfl (Nat.le_of_ble_eq_true rfl) (Nat.le_of_ble_eq_true rfl) (Nat.le_of_ble_eq_true rfl) (Nat.le_of_ble_eq_true rfl) rfl (fun E sh1 I1 A1 hp _ => hp.2.elim) (fun ro sh_ I_7 A_8 hp hle => ?_)
      obtain ⟨rfl, r_9, rfl, h⟩ := hp
      exact g_iret rfl rfl dX12_leastFrames_58 ⟨rfl, _, rfl, h⟩
    · have h := h.2 hc
      refine g_aload_n (n := 36) dX12_leastFrames_35 rfl rfl rfl ?_
      refine g_iload_n (n := 37) dX12_leastFrames_36 rfl rfl rfl ?_
      refine g_iconst (n := 38) (v := (nI 2)) dX12_leastFrames_37 rfl rfl ?_
      refine g_callV (n := 41) (as := [.int x2, .int (nI 2)]) (bc' := 0) (bs' := 0) sM_0 vc_16 (ctX12_faultsBy h) okX12_faultsBy rfl w_2583 w_2585 w_87 w_112 dX12_leastFrames_38 rfl rfl (Nat.le_of_ble_eq_true rfl) (Nat.le_of_ble_eq_true rfl) (Nat.le_of_ble_eq_true rfl) (Nat.le_of_ble_eq_true rfl) rfl (fun E sh1 I1 A1 hp _ => hp.2.elim) (fun ro sh_ I_10 A_11 hp hle => ?_)
      obtain ⟨rfl, r_12, rfl, h⟩ := hp
      refine g_iload_n (n := 42) dX12_leastFrames_41 rfl rfl rfl ?_
      refine g_icmp_gt (n := 45) 47 dX12_leastFrames_42 (by decide) rfl (fun hc => ?_) (fun hc => ?_)
      · have h := h.1 hc
        refine g_iinc (n := 50) (v := (x2 + nI 1)) (ls' := [some (.ref 0), some (.int x1), some (.int (x2 + nI 1))]) dX12_leastFrames_47 rfl rfl rfl (Nat.le_of_ble_eq_true rfl) rfl rfl ?_
        refine g_goto 29 dX12_leastFrames_50 (by decide) ?_
        exact hL29 _ _ _ _ h
      · have h := h.2 hc
        refine g_iload_n (n := 46) dX12_leastFrames_45 rfl rfl rfl ?_
        exact g_iret rfl rfl dX12_leastFrames_46 ⟨rfl, _, rfl, h⟩
set_option maxRecDepth 20000 in
theorem tjX12_leastFrames_18 {C : ab_X}  {K : Int32 → ab_F → ab_F → Prop} (x1 : Int32) (s0 : Int32) (I A : ab_F) (h : wjX12_leastFrames_18 K x1 s0 I A) : ab_G mX12_leastFrames 3 C (ab_Px shM ab_no (ab_ri K)) 18 [some (.ref 0), some (.int x1), none] [.int s0, .ref 0] shM I A 0 0 := by
  unfold wjX12_leastFrames_18 at h
  refine g_iconst (n := 19) (v := (nI 1)) dX12_leastFrames_18 rfl rfl ?_
  refine g_callV (n := 22) (as := [.int s0, .int (nI 1)]) (bc' := 0) (bs' := 0) sM_0 vc_16 (ctX12_fails h) okX12_fails rfl w_2189 w_2191 w_42 w_112 dX12_leastFrames_19 rfl rfl (Nat.le_of_ble_eq_true rfl) (Nat.le_of_ble_eq_true rfl) (Nat.le_of_ble_eq_true rfl) (Nat.le_of_ble_eq_true rfl) rfl (fun E sh1 I1 A1 hp _ => hp.2.elim) (fun ro sh_ I_4 A_5 hp hle => ?_)
  obtain ⟨rfl, r_6, rfl, h⟩ := hp
  refine g_if_eq (n := 25) 27 dX12_leastFrames_22 (by decide) rfl (fun hc => ?_) (fun hc => ?_)
  · have h := h.1 hc
    refine g_iconst (n := 28) (v := (nI 1)) dX12_leastFrames_27 rfl rfl ?_
    refine g_istore_n (n := 29) (ls' := [some (.ref 0), some (.int x1), some (.int (nI 1))]) dX12_leastFrames_28 rfl rfl (Nat.le_of_ble_eq_true rfl) (Nat.le_of_ble_eq_true rfl) rfl rfl ?_
    refine g_less (bc' := 0) (bs' := 0) (Nat.le_of_ble_eq_true rfl) (Nat.le_of_ble_eq_true rfl) ?_
    obtain ⟨n_f, h⟩ := h
    exact tlX12_leastFrames_29  n_f _ _ _ _ h
  · have h := h.2 hc
    refine g_iconst (n := 26) (v := (nI 0)) dX12_leastFrames_25 rfl rfl ?_
    exact g_iret rfl rfl dX12_leastFrames_26 ⟨rfl, _, rfl, h⟩
set_option maxRecDepth 20000 in
theorem ctX12_leastFrames  {K : Int32 → ab_F → ab_F → Prop} {I A : ab_F} {p0 : Int32} (h : wX12_leastFrames K I A p0) : ab_Cl mX12_leastFrames 3 0 0 [.ref 0, .int p0] shM I A (ab_Px shM ab_no (ab_ri K)) := by
  refine ab_enter (ls := [some (.ref 0), some (.int p0), none]) (by decide +kernel) (Nat.le_of_ble_eq_true rfl) rfl (fun C => ?_)
  unfold wX12_leastFrames at h
  refine g_aload_n (n := 1) dX12_leastFrames_0 rfl rfl rfl ?_
  refine g_iload_n (n := 2) dX12_leastFrames_1 rfl rfl rfl ?_
  refine g_i2l (n := 3) dX12_leastFrames_2 rfl ?_
  refine g_lconst (n := 4) (v := (0 : Int64)) dX12_leastFrames_3 rfl rfl ?_
  refine g_ldc2 (n := 7) (v := (64 : Int64)) dX12_leastFrames_4 w_2599 rfl ?_
  refine g_callS (n := 10) (as := [.long ((p0).toInt64), .long (0 : Int64), .long (64 : Int64)]) (bc' := 0) (bs' := 0) (ctX12_in h) okX12_in w_2080 w_2081 dX12_leastFrames_7 rfl rfl (Nat.le_of_ble_eq_true rfl) (Nat.le_of_ble_eq_true rfl) (Nat.le_of_ble_eq_true rfl) (Nat.le_of_ble_eq_true rfl) rfl (fun E sh1 I1 A1 hp _ => hp.2.elim) (fun ro sh_ I_1 A_2 hp hle => ?_)
  obtain ⟨rfl, r_3, rfl, h⟩ := hp
  refine g_if_ne (n := 13) 17 dX12_leastFrames_10 (by decide) rfl (fun hc => ?_) (fun hc => ?_)
  · have h := h.1 hc
    refine g_iconst (n := 18) (v := (nI 0)) dX12_leastFrames_17 rfl rfl ?_
    refine g_less (bc' := 0) (bs' := 0) (Nat.le_of_ble_eq_true rfl) (Nat.le_of_ble_eq_true rfl) ?_
    exact tjX12_leastFrames_18  _ _ _ _ h
  · have h := h.2 hc
    refine g_iconst (n := 14) (v := (nI 1)) dX12_leastFrames_13 rfl rfl ?_
    refine g_goto 18 dX12_leastFrames_14 (by decide) ?_
    refine g_less (bc' := 0) (bs' := 0) (Nat.le_of_ble_eq_true rfl) (Nat.le_of_ble_eq_true rfl) ?_
    exact tjX12_leastFrames_18  _ _ _ _ h
def wlX12_among_5 (K : Int32 → ab_F → ab_F → Prop) : Nat → Int32 → Int32 → Int32 → Int32 → ab_F → ab_F → Prop
  | 0, _, _, _, _, _, _ => False
  | n + 1, x1, x2, x3, x4, I, A => ((x2 ≤ x4 → K x3 I A) ∧ (¬ x2 ≤ x4 → (((A 1 12) ≤ x4 → K x3 I A) ∧ (¬ (A 1 12) ≤ x4 → (∃ j_1 : Nat, ((nI 512) + x4) = nI j_1 ∧ j_1 < 608 ∧ ((¬ (A 1 j_1) = x1 → (∀ y_2 : Int32, y_2 = (x3 + (nI 0)) → (wlX12_among_5 K n) x1 x2 y_2 (x4 + nI 1) I A)) ∧ ((A 1 j_1) = x1 → (∀ y_3 : Int32, y_3 = (x3 + (nI 1)) → (wlX12_among_5 K n) x1 x2 y_3 (x4 + nI 1) I A))))))))
def wX12_among (K : Int32 → ab_F → ab_F → Prop) (I A : ab_F) (p0 : Int32) (p1 : Int32) : Prop := (∃ nf : Nat, wlX12_among_5 K nf p0 p1 (nI 0) (nI 0) I A)
set_option maxRecDepth 20000 in
theorem tlX12_among_5 {C : ab_X}  {K : Int32 → ab_F → ab_F → Prop} : ∀ (n : Nat) (x1 : Int32) (x2 : Int32) (x3 : Int32) (x4 : Int32) (I A : ab_F), wlX12_among_5 K n x1 x2 x3 x4 I A → ab_G mX12_among 0 C (ab_Px shM ab_no (ab_ri K)) 5 [some (.ref 0), some (.int x1), some (.int x2), some (.int x3), some (.int x4)] [] shM I A 0 0 := by
  intro n
  induction n with
  | zero => intro x1 x2 x3 x4 I A h; exact h.elim
  | succ n hL5 =>
    intro x1 x2 x3 x4 I A h
    rw [wlX12_among_5] at h
    refine g_iload (n := 7) dX12_among_5 rfl rfl ?_
    refine g_iload_n (n := 8) dX12_among_7 rfl rfl rfl ?_
    refine g_icmp_ge (n := 11) 52 dX12_among_8 (by decide) rfl (fun hc => ?_) (fun hc => ?_)
    · have h := h.1 hc
      refine g_iload_n (n := 53) dX12_among_52 rfl rfl rfl ?_
      exact g_iret rfl rfl dX12_among_53 ⟨rfl, _, rfl, h⟩
    · have h := h.2 hc
      refine g_iload (n := 13) dX12_among_11 rfl rfl ?_
      refine g_aload_n (n := 14) dX12_among_13 rfl rfl rfl ?_
      refine g_getR (n := 17) (k := 0) dX12_among_14 sM_0 vc_16 (Nat.le_of_ble_eq_true rfl) rfl w_1994 rfl ?_
      refine g_bipush (n := 19) (v := (nI 12)) dX12_among_17 rfl rfl ?_
      refine g_ialdJ (n := 20) (j := 12) (x := (A 1 12)) dX12_among_19 sM_1 rfl (Nat.le_of_ble_eq_true rfl) (by decide) rfl rfl ?_
      refine g_icmp_ge (n := 23) 52 dX12_among_20 (by decide) rfl (fun hc => ?_) (fun hc => ?_)
      · have h := h.1 hc
        refine g_iload_n (n := 53) dX12_among_52 rfl rfl rfl ?_
        exact g_iret rfl rfl dX12_among_53 ⟨rfl, _, rfl, h⟩
      · have h := h.2 hc
        refine g_iload_n (n := 24) dX12_among_23 rfl rfl rfl ?_
        refine g_aload_n (n := 25) dX12_among_24 rfl rfl rfl ?_
        refine g_getR (n := 28) (k := 0) dX12_among_25 sM_0 vc_16 (Nat.le_of_ble_eq_true rfl) rfl w_1994 rfl ?_
        refine g_sipush (n := 31) (v := (nI 512)) dX12_among_28 rfl rfl ?_
        refine g_iload (n := 33) dX12_among_31 rfl rfl ?_
        refine g_iadd (n := 34) dX12_among_33 rfl ?_
        obtain ⟨j_1, hj, hl, h⟩ := h
        refine g_ialdJ (n := 35) (j := j_1) (x := (A 1 j_1)) dX12_among_34 sM_1 hj hl (by decide) rfl rfl ?_
        refine g_iload_n (n := 36) dX12_among_35 rfl rfl rfl ?_
        refine g_icmp_ne (n := 39) 43 dX12_among_36 (by decide) rfl (fun hc => ?_) (fun hc => ?_)
        · have h := h.1 hc
          refine g_iconst (n := 44) (v := (nI 0)) dX12_among_43 rfl rfl ?_
          refine g_iadd (n := 45) dX12_among_44 rfl ?_
          refine g_topi (fun y_2 ey_2 => ?_)
          have h := h y_2 ey_2
          refine g_istore_n (n := 46) (ls' := [some (.ref 0), some (.int x1), some (.int x2), some (.int y_2), some (.int x4)]) dX12_among_45 rfl rfl (Nat.le_of_ble_eq_true rfl) (Nat.le_of_ble_eq_true rfl) rfl rfl ?_
          refine g_iinc (n := 49) (v := (x4 + nI 1)) (ls' := [some (.ref 0), some (.int x1), some (.int x2), some (.int y_2), some (.int (x4 + nI 1))]) dX12_among_46 rfl rfl rfl (Nat.le_of_ble_eq_true rfl) rfl rfl ?_
          refine g_goto 5 dX12_among_49 (by decide) ?_
          exact hL5 _ _ _ _ _ _ h
        · have h := h.2 hc
          refine g_iconst (n := 40) (v := (nI 1)) dX12_among_39 rfl rfl ?_
          refine g_goto 44 dX12_among_40 (by decide) ?_
          refine g_iadd (n := 45) dX12_among_44 rfl ?_
          refine g_topi (fun y_3 ey_3 => ?_)
          have h := h y_3 ey_3
          refine g_istore_n (n := 46) (ls' := [some (.ref 0), some (.int x1), some (.int x2), some (.int y_3), some (.int x4)]) dX12_among_45 rfl rfl (Nat.le_of_ble_eq_true rfl) (Nat.le_of_ble_eq_true rfl) rfl rfl ?_
          refine g_iinc (n := 49) (v := (x4 + nI 1)) (ls' := [some (.ref 0), some (.int x1), some (.int x2), some (.int y_3), some (.int (x4 + nI 1))]) dX12_among_46 rfl rfl rfl (Nat.le_of_ble_eq_true rfl) rfl rfl ?_
          refine g_goto 5 dX12_among_49 (by decide) ?_
          exact hL5 _ _ _ _ _ _ h
set_option maxRecDepth 20000 in
theorem ctX12_among  {K : Int32 → ab_F → ab_F → Prop} {I A : ab_F} {p0 : Int32} {p1 : Int32} (h : wX12_among K I A p0 p1) : ab_Cl mX12_among 0 0 0 [.ref 0, .int p0, .int p1] shM I A (ab_Px shM ab_no (ab_ri K)) := by
  refine ab_enter (ls := [some (.ref 0), some (.int p0), some (.int p1), none, none]) (by decide +kernel) (Nat.le_of_ble_eq_true rfl) rfl (fun C => ?_)
  unfold wX12_among at h
  refine g_iconst (n := 1) (v := (nI 0)) dX12_among_0 rfl rfl ?_
  refine g_istore_n (n := 2) (ls' := [some (.ref 0), some (.int p0), some (.int p1), some (.int (nI 0)), none]) dX12_among_1 rfl rfl (Nat.le_of_ble_eq_true rfl) (Nat.le_of_ble_eq_true rfl) rfl rfl ?_
  refine g_iconst (n := 3) (v := (nI 0)) dX12_among_2 rfl rfl ?_
  refine g_istore (n := 5) (ls' := [some (.ref 0), some (.int p0), some (.int p1), some (.int (nI 0)), some (.int (nI 0))]) dX12_among_3 rfl (Nat.le_of_ble_eq_true rfl) (Nat.le_of_ble_eq_true rfl) rfl rfl ?_
  refine g_less (bc' := 0) (bs' := 0) (Nat.le_of_ble_eq_true rfl) (Nat.le_of_ble_eq_true rfl) ?_
  obtain ⟨n_f, h⟩ := h
  exact tlX12_among_5  n_f _ _ _ _ _ _ h
def wlX12_workingSet_31 (K : Int32 → ab_F → ab_F → Prop) : Nat → Int32 → Int32 → Int32 → ab_F → ab_F → Prop
  | 0, _, _, _, _, _ => False
  | n + 1, x1, x2, x3, I, A => (((nI 48) ≤ x3 → K x2 I A) ∧ (¬ (nI 48) ≤ x3 → wX12_among (fun r_9 I_7 A_8 => ((r_9 ≤ 0 → (∀ y_10 : Int32, y_10 = (x2 + (nI 0)) → (wlX12_workingSet_31 K n) x1 y_10 (x3 + nI 1) I_7 A_8)) ∧ (¬ r_9 ≤ 0 → (∀ y_11 : Int32, y_11 = (x2 + (nI 1)) → (wlX12_workingSet_31 K n) x1 y_11 (x3 + nI 1) I_7 A_8)))) I A x3 x1))
def wjX12_workingSet_18 (K : Int32 → ab_F → ab_F → Prop) (x1 : Int32) (s0 : Int32) (I A : ab_F) : Prop := wX12_fails (fun r_6 I_4 A_5 => ((r_6 = 0 → (∃ nf : Nat, wlX12_workingSet_31 K nf x1 (nI 0) (nI 0) I_4 A_5)) ∧ (¬ r_6 = 0 → K (nI 0) I_4 A_5))) I A s0 (nI 1)
def wX12_workingSet (K : Int32 → ab_F → ab_F → Prop) (I A : ab_F) (p0 : Int32) : Prop := wX12_in (fun r_3 I_1 A_2 => ((¬ r_3 = 0 → wjX12_workingSet_18 K p0 (nI 0) I_1 A_2) ∧ (r_3 = 0 → wjX12_workingSet_18 K p0 (nI 1) I_1 A_2))) I A ((p0).toInt64) (1 : Int64) (64 : Int64)
set_option maxRecDepth 20000 in
theorem tlX12_workingSet_31 {C : ab_X}  {K : Int32 → ab_F → ab_F → Prop} : ∀ (n : Nat) (x1 : Int32) (x2 : Int32) (x3 : Int32) (I A : ab_F), wlX12_workingSet_31 K n x1 x2 x3 I A → ab_G mX12_workingSet 1 C (ab_Px shM ab_no (ab_ri K)) 31 [some (.ref 0), some (.int x1), some (.int x2), some (.int x3)] [] shM I A 0 0 := by
  intro n
  induction n with
  | zero => intro x1 x2 x3 I A h; exact h.elim
  | succ n hL31 =>
    intro x1 x2 x3 I A h
    rw [wlX12_workingSet_31] at h
    refine g_iload_n (n := 32) dX12_workingSet_31 rfl rfl rfl ?_
    refine g_bipush (n := 34) (v := (nI 48)) dX12_workingSet_32 rfl rfl ?_
    refine g_icmp_ge (n := 37) 60 dX12_workingSet_34 (by decide) rfl (fun hc => ?_) (fun hc => ?_)
    · have h := h.1 hc
      refine g_iload_n (n := 61) dX12_workingSet_60 rfl rfl rfl ?_
      exact g_iret rfl rfl dX12_workingSet_61 ⟨rfl, _, rfl, h⟩
    · have h := h.2 hc
      refine g_iload_n (n := 38) dX12_workingSet_37 rfl rfl rfl ?_
      refine g_aload_n (n := 39) dX12_workingSet_38 rfl rfl rfl ?_
      refine g_iload_n (n := 40) dX12_workingSet_39 rfl rfl rfl ?_
      refine g_iload_n (n := 41) dX12_workingSet_40 rfl rfl rfl ?_
      refine g_callV (n := 44) (as := [.int x3, .int x1]) (bc' := 0) (bs' := 0) sM_0 vc_16 (ctX12_among h) okX12_among rfl w_2604 w_2606 w_90 w_112 dX12_workingSet_41 rfl rfl (Nat.le_of_ble_eq_true rfl) (Nat.le_of_ble_eq_true rfl) (Nat.le_of_ble_eq_true rfl) (Nat.le_of_ble_eq_true rfl) rfl (fun E sh1 I1 A1 hp _ => hp.2.elim) (fun ro sh_ I_7 A_8 hp hle => ?_)
      obtain ⟨rfl, r_9, rfl, h⟩ := hp
      refine g_if_le (n := 47) 51 dX12_workingSet_44 (by decide) rfl (fun hc => ?_) (fun hc => ?_)
      · have h := h.1 hc
        refine g_iconst (n := 52) (v := (nI 0)) dX12_workingSet_51 rfl rfl ?_
        refine g_iadd (n := 53) dX12_workingSet_52 rfl ?_
        refine g_topi (fun y_10 ey_10 => ?_)
        have h := h y_10 ey_10
        refine g_istore_n (n := 54) (ls' := [some (.ref 0), some (.int x1), some (.int y_10), some (.int x3)]) dX12_workingSet_53 rfl rfl (Nat.le_of_ble_eq_true rfl) (Nat.le_of_ble_eq_true rfl) rfl rfl ?_
        refine g_iinc (n := 57) (v := (x3 + nI 1)) (ls' := [some (.ref 0), some (.int x1), some (.int y_10), some (.int (x3 + nI 1))]) dX12_workingSet_54 rfl rfl rfl (Nat.le_of_ble_eq_true rfl) rfl rfl ?_
        refine g_goto 31 dX12_workingSet_57 (by decide) ?_
        exact hL31 _ _ _ _ _ h
      · have h := h.2 hc
        refine g_iconst (n := 48) (v := (nI 1)) dX12_workingSet_47 rfl rfl ?_
        refine g_goto 52 dX12_workingSet_48 (by decide) ?_
        refine g_iadd (n := 53) dX12_workingSet_52 rfl ?_
        refine g_topi (fun y_11 ey_11 => ?_)
        have h := h y_11 ey_11
        refine g_istore_n (n := 54) (ls' := [some (.ref 0), some (.int x1), some (.int y_11), some (.int x3)]) dX12_workingSet_53 rfl rfl (Nat.le_of_ble_eq_true rfl) (Nat.le_of_ble_eq_true rfl) rfl rfl ?_
        refine g_iinc (n := 57) (v := (x3 + nI 1)) (ls' := [some (.ref 0), some (.int x1), some (.int y_11), some (.int (x3 + nI 1))]) dX12_workingSet_54 rfl rfl rfl (Nat.le_of_ble_eq_true rfl) rfl rfl ?_
        refine g_goto 31 dX12_workingSet_57 (by decide) ?_
        exact hL31 _ _ _ _ _ h
set_option maxRecDepth 20000 in
theorem tjX12_workingSet_18 {C : ab_X}  {K : Int32 → ab_F → ab_F → Prop} (x1 : Int32) (s0 : Int32) (I A : ab_F) (h : wjX12_workingSet_18 K x1 s0 I A) : ab_G mX12_workingSet 1 C (ab_Px shM ab_no (ab_ri K)) 18 [some (.ref 0), some (.int x1), none, none] [.int s0, .ref 0] shM I A 0 0 := by
  unfold wjX12_workingSet_18 at h
  refine g_iconst (n := 19) (v := (nI 1)) dX12_workingSet_18 rfl rfl ?_
  refine g_callV (n := 22) (as := [.int s0, .int (nI 1)]) (bc' := 0) (bs' := 0) sM_0 vc_16 (ctX12_fails h) okX12_fails rfl w_2189 w_2191 w_42 w_112 dX12_workingSet_19 rfl rfl (Nat.le_of_ble_eq_true rfl) (Nat.le_of_ble_eq_true rfl) (Nat.le_of_ble_eq_true rfl) (Nat.le_of_ble_eq_true rfl) rfl (fun E sh1 I1 A1 hp _ => hp.2.elim) (fun ro sh_ I_4 A_5 hp hle => ?_)
  obtain ⟨rfl, r_6, rfl, h⟩ := hp
  refine g_if_eq (n := 25) 27 dX12_workingSet_22 (by decide) rfl (fun hc => ?_) (fun hc => ?_)
  · have h := h.1 hc
    refine g_iconst (n := 28) (v := (nI 0)) dX12_workingSet_27 rfl rfl ?_
    refine g_istore_n (n := 29) (ls' := [some (.ref 0), some (.int x1), some (.int (nI 0)), none]) dX12_workingSet_28 rfl rfl (Nat.le_of_ble_eq_true rfl) (Nat.le_of_ble_eq_true rfl) rfl rfl ?_
    refine g_iconst (n := 30) (v := (nI 0)) dX12_workingSet_29 rfl rfl ?_
    refine g_istore_n (n := 31) (ls' := [some (.ref 0), some (.int x1), some (.int (nI 0)), some (.int (nI 0))]) dX12_workingSet_30 rfl rfl (Nat.le_of_ble_eq_true rfl) (Nat.le_of_ble_eq_true rfl) rfl rfl ?_
    refine g_less (bc' := 0) (bs' := 0) (Nat.le_of_ble_eq_true rfl) (Nat.le_of_ble_eq_true rfl) ?_
    obtain ⟨n_f, h⟩ := h
    exact tlX12_workingSet_31  n_f _ _ _ _ _ h
  · have h := h.2 hc
    refine g_iconst (n := 26) (v := (nI 0)) dX12_workingSet_25 rfl rfl ?_
    exact g_iret rfl rfl dX12_workingSet_26 ⟨rfl, _, rfl, h⟩
set_option maxRecDepth 20000 in
theorem ctX12_workingSet  {K : Int32 → ab_F → ab_F → Prop} {I A : ab_F} {p0 : Int32} (h : wX12_workingSet K I A p0) : ab_Cl mX12_workingSet 1 0 0 [.ref 0, .int p0] shM I A (ab_Px shM ab_no (ab_ri K)) := by
  refine ab_enter (ls := [some (.ref 0), some (.int p0), none, none]) (by decide +kernel) (Nat.le_of_ble_eq_true rfl) rfl (fun C => ?_)
  unfold wX12_workingSet at h
  refine g_aload_n (n := 1) dX12_workingSet_0 rfl rfl rfl ?_
  refine g_iload_n (n := 2) dX12_workingSet_1 rfl rfl rfl ?_
  refine g_i2l (n := 3) dX12_workingSet_2 rfl ?_
  refine g_lconst (n := 4) (v := (1 : Int64)) dX12_workingSet_3 rfl rfl ?_
  refine g_ldc2 (n := 7) (v := (64 : Int64)) dX12_workingSet_4 w_2599 rfl ?_
  refine g_callS (n := 10) (as := [.long ((p0).toInt64), .long (1 : Int64), .long (64 : Int64)]) (bc' := 0) (bs' := 0) (ctX12_in h) okX12_in w_2080 w_2081 dX12_workingSet_7 rfl rfl (Nat.le_of_ble_eq_true rfl) (Nat.le_of_ble_eq_true rfl) (Nat.le_of_ble_eq_true rfl) (Nat.le_of_ble_eq_true rfl) rfl (fun E sh1 I1 A1 hp _ => hp.2.elim) (fun ro sh_ I_1 A_2 hp hle => ?_)
  obtain ⟨rfl, r_3, rfl, h⟩ := hp
  refine g_if_ne (n := 13) 17 dX12_workingSet_10 (by decide) rfl (fun hc => ?_) (fun hc => ?_)
  · have h := h.1 hc
    refine g_iconst (n := 18) (v := (nI 0)) dX12_workingSet_17 rfl rfl ?_
    refine g_less (bc' := 0) (bs' := 0) (Nat.le_of_ble_eq_true rfl) (Nat.le_of_ble_eq_true rfl) ?_
    exact tjX12_workingSet_18  _ _ _ _ h
  · have h := h.2 hc
    refine g_iconst (n := 14) (v := (nI 1)) dX12_workingSet_13 rfl rfl ?_
    refine g_goto 18 dX12_workingSet_14 (by decide) ?_
    refine g_less (bc' := 0) (bs' := 0) (Nat.le_of_ble_eq_true rfl) (Nat.le_of_ble_eq_true rfl) ?_
    exact tjX12_workingSet_18  _ _ _ _ h
def wlX12_hottestPage_29 (K : Int32 → ab_F → ab_F → Prop) : Nat → Int32 → Int32 → ab_F → ab_F → Prop
  | 0, _, _, _, _ => False
  | n + 1, x1, x2, I, A => (((nI 48) ≤ x2 → K x1 I A) ∧ (¬ (nI 48) ≤ x2 → wX12_among (fun r_6 I_4 A_5 => wX12_among (fun r_9 I_7 A_8 => ((r_6 ≤ r_9 → (wlX12_hottestPage_29 K n) x1 (x2 + nI 1) I_7 A_8) ∧ (¬ r_6 ≤ r_9 → (wlX12_hottestPage_29 K n) x2 (x2 + nI 1) I_7 A_8))) I_4 A_5 x1 (nI 64)) I A x2 (nI 64)))
def wjX12_hottestPage_16 (K : Int32 → ab_F → ab_F → Prop) (s0 : Int32) (I A : ab_F) : Prop := wX12_fails (fun r_3 I_1 A_2 => ((r_3 = 0 → (∃ nf : Nat, wlX12_hottestPage_29 K nf (nI 0) (nI 1) I_1 A_2)) ∧ (¬ r_3 = 0 → K (nI 0) I_1 A_2))) I A s0 (nI 1)
def wX12_hottestPage (K : Int32 → ab_F → ab_F → Prop) (I A : ab_F)  : Prop := ((¬ (A 1 12) = 0 → wjX12_hottestPage_16 K (nI 0) I A) ∧ ((A 1 12) = 0 → wjX12_hottestPage_16 K (nI 1) I A))
set_option maxRecDepth 20000 in
theorem tlX12_hottestPage_29 {C : ab_X}  {K : Int32 → ab_F → ab_F → Prop} : ∀ (n : Nat) (x1 : Int32) (x2 : Int32) (I A : ab_F), wlX12_hottestPage_29 K n x1 x2 I A → ab_G mX12_hottestPage 1 C (ab_Px shM ab_no (ab_ri K)) 29 [some (.ref 0), some (.int x1), some (.int x2)] [] shM I A 0 0 := by
  intro n
  induction n with
  | zero => intro x1 x2 I A h; exact h.elim
  | succ n hL29 =>
    intro x1 x2 I A h
    rw [wlX12_hottestPage_29] at h
    refine g_iload_n (n := 30) dX12_hottestPage_29 rfl rfl rfl ?_
    refine g_bipush (n := 32) (v := (nI 48)) dX12_hottestPage_30 rfl rfl ?_
    refine g_icmp_ge (n := 35) 64 dX12_hottestPage_32 (by decide) rfl (fun hc => ?_) (fun hc => ?_)
    · have h := h.1 hc
      refine g_iload_n (n := 65) dX12_hottestPage_64 rfl rfl rfl ?_
      exact g_iret rfl rfl dX12_hottestPage_65 ⟨rfl, _, rfl, h⟩
    · have h := h.2 hc
      refine g_aload_n (n := 36) dX12_hottestPage_35 rfl rfl rfl ?_
      refine g_iload_n (n := 37) dX12_hottestPage_36 rfl rfl rfl ?_
      refine g_bipush (n := 39) (v := (nI 64)) dX12_hottestPage_37 rfl rfl ?_
      refine g_callV (n := 42) (as := [.int x2, .int (nI 64)]) (bc' := 0) (bs' := 0) sM_0 vc_16 (ctX12_among h) okX12_among rfl w_2604 w_2606 w_90 w_112 dX12_hottestPage_39 rfl rfl (Nat.le_of_ble_eq_true rfl) (Nat.le_of_ble_eq_true rfl) (Nat.le_of_ble_eq_true rfl) (Nat.le_of_ble_eq_true rfl) rfl (fun E sh1 I1 A1 hp _ => hp.2.elim) (fun ro sh_ I_4 A_5 hp hle => ?_)
      obtain ⟨rfl, r_6, rfl, h⟩ := hp
      refine g_aload_n (n := 43) dX12_hottestPage_42 rfl rfl rfl ?_
      refine g_iload_n (n := 44) dX12_hottestPage_43 rfl rfl rfl ?_
      refine g_bipush (n := 46) (v := (nI 64)) dX12_hottestPage_44 rfl rfl ?_
      refine g_callV (n := 49) (as := [.int x1, .int (nI 64)]) (bc' := 0) (bs' := 0) sM_0 vc_16 (ctX12_among h) okX12_among rfl w_2604 w_2606 w_90 w_112 dX12_hottestPage_46 rfl rfl (Nat.le_of_ble_eq_true rfl) (Nat.le_of_ble_eq_true rfl) (Nat.le_of_ble_eq_true rfl) (Nat.le_of_ble_eq_true rfl) rfl (fun E sh1 I1 A1 hp _ => hp.2.elim) (fun ro sh_ I_7 A_8 hp hle => ?_)
      obtain ⟨rfl, r_9, rfl, h⟩ := hp
      refine g_icmp_le (n := 52) 56 dX12_hottestPage_49 (by decide) rfl (fun hc => ?_) (fun hc => ?_)
      · have h := h.1 hc
        refine g_iload_n (n := 57) dX12_hottestPage_56 rfl rfl rfl ?_
        refine g_istore_n (n := 58) (ls' := [some (.ref 0), some (.int x1), some (.int x2)]) dX12_hottestPage_57 rfl rfl (Nat.le_of_ble_eq_true rfl) (Nat.le_of_ble_eq_true rfl) rfl rfl ?_
        refine g_iinc (n := 61) (v := (x2 + nI 1)) (ls' := [some (.ref 0), some (.int x1), some (.int (x2 + nI 1))]) dX12_hottestPage_58 rfl rfl rfl (Nat.le_of_ble_eq_true rfl) rfl rfl ?_
        refine g_goto 29 dX12_hottestPage_61 (by decide) ?_
        exact hL29 _ _ _ _ h
      · have h := h.2 hc
        refine g_iload_n (n := 53) dX12_hottestPage_52 rfl rfl rfl ?_
        refine g_goto 57 dX12_hottestPage_53 (by decide) ?_
        refine g_istore_n (n := 58) (ls' := [some (.ref 0), some (.int x2), some (.int x2)]) dX12_hottestPage_57 rfl rfl (Nat.le_of_ble_eq_true rfl) (Nat.le_of_ble_eq_true rfl) rfl rfl ?_
        refine g_iinc (n := 61) (v := (x2 + nI 1)) (ls' := [some (.ref 0), some (.int x2), some (.int (x2 + nI 1))]) dX12_hottestPage_58 rfl rfl rfl (Nat.le_of_ble_eq_true rfl) rfl rfl ?_
        refine g_goto 29 dX12_hottestPage_61 (by decide) ?_
        exact hL29 _ _ _ _ h
set_option maxRecDepth 20000 in
theorem tjX12_hottestPage_16 {C : ab_X}  {K : Int32 → ab_F → ab_F → Prop} (s0 : Int32) (I A : ab_F) (h : wjX12_hottestPage_16 K s0 I A) : ab_G mX12_hottestPage 1 C (ab_Px shM ab_no (ab_ri K)) 16 [some (.ref 0), none, none] [.int s0, .ref 0] shM I A 0 0 := by
  unfold wjX12_hottestPage_16 at h
  refine g_iconst (n := 17) (v := (nI 1)) dX12_hottestPage_16 rfl rfl ?_
  refine g_callV (n := 20) (as := [.int s0, .int (nI 1)]) (bc' := 0) (bs' := 0) sM_0 vc_16 (ctX12_fails h) okX12_fails rfl w_2189 w_2191 w_42 w_112 dX12_hottestPage_17 rfl rfl (Nat.le_of_ble_eq_true rfl) (Nat.le_of_ble_eq_true rfl) (Nat.le_of_ble_eq_true rfl) (Nat.le_of_ble_eq_true rfl) rfl (fun E sh1 I1 A1 hp _ => hp.2.elim) (fun ro sh_ I_1 A_2 hp hle => ?_)
  obtain ⟨rfl, r_3, rfl, h⟩ := hp
  refine g_if_eq (n := 23) 25 dX12_hottestPage_20 (by decide) rfl (fun hc => ?_) (fun hc => ?_)
  · have h := h.1 hc
    refine g_iconst (n := 26) (v := (nI 0)) dX12_hottestPage_25 rfl rfl ?_
    refine g_istore_n (n := 27) (ls' := [some (.ref 0), some (.int (nI 0)), none]) dX12_hottestPage_26 rfl rfl (Nat.le_of_ble_eq_true rfl) (Nat.le_of_ble_eq_true rfl) rfl rfl ?_
    refine g_iconst (n := 28) (v := (nI 1)) dX12_hottestPage_27 rfl rfl ?_
    refine g_istore_n (n := 29) (ls' := [some (.ref 0), some (.int (nI 0)), some (.int (nI 1))]) dX12_hottestPage_28 rfl rfl (Nat.le_of_ble_eq_true rfl) (Nat.le_of_ble_eq_true rfl) rfl rfl ?_
    refine g_less (bc' := 0) (bs' := 0) (Nat.le_of_ble_eq_true rfl) (Nat.le_of_ble_eq_true rfl) ?_
    obtain ⟨n_f, h⟩ := h
    exact tlX12_hottestPage_29  n_f _ _ _ _ h
  · have h := h.2 hc
    refine g_iconst (n := 24) (v := (nI 0)) dX12_hottestPage_23 rfl rfl ?_
    exact g_iret rfl rfl dX12_hottestPage_24 ⟨rfl, _, rfl, h⟩
set_option maxRecDepth 20000 in
theorem ctX12_hottestPage  {K : Int32 → ab_F → ab_F → Prop} {I A : ab_F}  (h : wX12_hottestPage K I A ) : ab_Cl mX12_hottestPage 1 0 0 [.ref 0] shM I A (ab_Px shM ab_no (ab_ri K)) := by
  refine ab_enter (ls := [some (.ref 0), none, none]) (by decide +kernel) (Nat.le_of_ble_eq_true rfl) rfl (fun C => ?_)
  unfold wX12_hottestPage at h
  refine g_aload_n (n := 1) dX12_hottestPage_0 rfl rfl rfl ?_
  refine g_aload_n (n := 2) dX12_hottestPage_1 rfl rfl rfl ?_
  refine g_getR (n := 5) (k := 0) dX12_hottestPage_2 sM_0 vc_16 (Nat.le_of_ble_eq_true rfl) rfl w_1994 rfl ?_
  refine g_bipush (n := 7) (v := (nI 12)) dX12_hottestPage_5 rfl rfl ?_
  refine g_ialdJ (n := 8) (j := 12) (x := (A 1 12)) dX12_hottestPage_7 sM_1 rfl (Nat.le_of_ble_eq_true rfl) (by decide) rfl rfl ?_
  refine g_if_ne (n := 11) 15 dX12_hottestPage_8 (by decide) rfl (fun hc => ?_) (fun hc => ?_)
  · have h := h.1 hc
    refine g_iconst (n := 16) (v := (nI 0)) dX12_hottestPage_15 rfl rfl ?_
    refine g_less (bc' := 0) (bs' := 0) (Nat.le_of_ble_eq_true rfl) (Nat.le_of_ble_eq_true rfl) ?_
    exact tjX12_hottestPage_16  _ _ _ h
  · have h := h.2 hc
    refine g_iconst (n := 12) (v := (nI 1)) dX12_hottestPage_11 rfl rfl ?_
    refine g_goto 16 dX12_hottestPage_12 (by decide) ?_
    refine g_less (bc' := 0) (bs' := 0) (Nat.le_of_ble_eq_true rfl) (Nat.le_of_ble_eq_true rfl) ?_
    exact tjX12_hottestPage_16  _ _ _ h
def wJxf58ca_isNaN_12338 (K : Int32 → ab_F → ab_F → Prop) (I A : ab_F) (p0 : UInt32) : Prop := (((Op.cmpValue (FP.fcmp p0 p0) .l) = 0 → K (nI 0) I A) ∧ (¬ (Op.cmpValue (FP.fcmp p0 p0) .l) = 0 → K (nI 1) I A))
set_option maxRecDepth 20000 in
theorem ctJxf58ca_isNaN_12338  {K : Int32 → ab_F → ab_F → Prop} {I A : ab_F} {p0 : UInt32} (h : wJxf58ca_isNaN_12338 K I A p0) : ab_Cl mJxf58ca_isNaN_12338 0 0 0 [.float p0] shM I A (ab_Px shM ab_no (ab_ri K)) := by
  refine ab_enterF (ls := [some (.float p0)]) (by decide +kernel) (Nat.le_of_ble_eq_true rfl) rfl (fun C => ?_)
  unfold wJxf58ca_isNaN_12338 at h
  refine g_fload_n (n := 1) dJxf58ca_isNaN_12338_0 rfl rfl rfl ?_
  refine g_fload_n (n := 2) dJxf58ca_isNaN_12338_1 rfl rfl rfl ?_
  refine g_fcmp (n := 3) dJxf58ca_isNaN_12338_2 rfl ?_
  refine g_if_eq (n := 6) 10 dJxf58ca_isNaN_12338_3 (by decide) rfl (fun hc => ?_) (fun hc => ?_)
  · have h := h.1 hc
    refine g_iconst (n := 11) (v := (nI 0)) dJxf58ca_isNaN_12338_10 rfl rfl ?_
    exact g_iret rfl rfl dJxf58ca_isNaN_12338_11 ⟨rfl, _, rfl, h⟩
  · have h := h.2 hc
    refine g_iconst (n := 7) (v := (nI 1)) dJxf58ca_isNaN_12338_6 rfl rfl ?_
    refine g_goto 11 dJxf58ca_isNaN_12338_7 (by decide) ?_
    exact g_iret rfl rfl dJxf58ca_isNaN_12338_11 ⟨rfl, _, rfl, h⟩
def wJxf58ca_floatToIntBits_5c35a (K : Int32 → ab_F → ab_F → Prop) (I A : ab_F) (p0 : UInt32) : Prop := wJxf58ca_isNaN_12338 (fun r_3 I_1 A_2 => ((¬ r_3 = 0 → K (nI 2143289344) I_1 A_2) ∧ (r_3 = 0 → K ((p0).toInt32) I_1 A_2))) I A p0
set_option maxRecDepth 20000 in
theorem ctJxf58ca_floatToIntBits_5c35a  {K : Int32 → ab_F → ab_F → Prop} {I A : ab_F} {p0 : UInt32} (h : wJxf58ca_floatToIntBits_5c35a K I A p0) : ab_Cl mJxf58ca_floatToIntBits_5c35a 1 0 0 [.float p0] shM I A (ab_Px shM ab_no (ab_ri K)) := by
  refine ab_enterF (ls := [some (.float p0)]) (by decide +kernel) (Nat.le_of_ble_eq_true rfl) rfl (fun C => ?_)
  unfold wJxf58ca_floatToIntBits_5c35a at h
  refine g_fload_n (n := 1) dJxf58ca_floatToIntBits_5c35a_0 rfl rfl rfl ?_
  refine g_callS (n := 4) (as := [.float p0]) (bc' := 0) (bs' := 0) (ctJxf58ca_isNaN_12338 h) okJxf58ca_isNaN_12338 w_2619 w_2620 dJxf58ca_floatToIntBits_5c35a_1 rfl rfl (Nat.le_of_ble_eq_true rfl) (Nat.le_of_ble_eq_true rfl) (Nat.le_of_ble_eq_true rfl) (Nat.le_of_ble_eq_true rfl) rfl (fun E sh1 I1 A1 hp _ => hp.2.elim) (fun ro sh_ I_1 A_2 hp hle => ?_)
  obtain ⟨rfl, r_3, rfl, h⟩ := hp
  refine g_if_ne (n := 7) 12 dJxf58ca_floatToIntBits_5c35a_4 (by decide) rfl (fun hc => ?_) (fun hc => ?_)
  · have h := h.1 hc
    refine g_ldc (n := 14) (v := (nI 2143289344)) dJxf58ca_floatToIntBits_5c35a_12 w_2625 rfl ?_
    exact g_iret rfl rfl dJxf58ca_floatToIntBits_5c35a_14 ⟨rfl, _, rfl, h⟩
  · have h := h.2 hc
    refine g_fload_n (n := 8) dJxf58ca_floatToIntBits_5c35a_7 rfl rfl rfl ?_
    refine g_f2iN (n := 11) dJxf58ca_floatToIntBits_5c35a_8 w_2622 w_2624 w_2623 w_127 (Nat.le_of_ble_eq_true rfl) (Nat.le_of_ble_eq_true rfl) rfl ?_
    exact g_iret rfl rfl dJxf58ca_floatToIntBits_5c35a_11 ⟨rfl, _, rfl, h⟩
def wjX12_hitRatioBits_15 (K : Int32 → ab_F → ab_F → Prop) (s0 : Int32) (I A : ab_F) : Prop := wX12_fails (fun r_3 I_1 A_2 => ((r_3 = 0 → (vf_n32 (FP.fdiv (FP.i2f ((A_2 1 5) - (A_2 1 6))) (FP.i2f (A_2 1 5))) ∧ wJxf58ca_floatToIntBits_5c35a (fun r_6 I_4 A_5 => K r_6 I_4 A_5) I_1 A_2 (FP.fdiv (FP.i2f ((A_2 1 5) - (A_2 1 6))) (FP.i2f (A_2 1 5))))) ∧ (¬ r_3 = 0 → K (nI 0) I_1 A_2))) I A s0 (nI 1)
def wX12_hitRatioBits (K : Int32 → ab_F → ab_F → Prop) (I A : ab_F)  : Prop := ((¬ (A 1 5) = 0 → wjX12_hitRatioBits_15 K (nI 0) I A) ∧ ((A 1 5) = 0 → wjX12_hitRatioBits_15 K (nI 1) I A))
set_option maxRecDepth 20000 in
theorem tjX12_hitRatioBits_15 {C : ab_X}  {K : Int32 → ab_F → ab_F → Prop} (s0 : Int32) (I A : ab_F) (h : wjX12_hitRatioBits_15 K s0 I A) : ab_G mX12_hitRatioBits 2 C (ab_Px shM ab_no (ab_ri K)) 15 [some (.ref 0)] [.int s0, .ref 0] shM I A 0 0 := by
  unfold wjX12_hitRatioBits_15 at h
  refine g_iconst (n := 16) (v := (nI 1)) dX12_hitRatioBits_15 rfl rfl ?_
  refine g_callV (n := 19) (as := [.int s0, .int (nI 1)]) (bc' := 0) (bs' := 0) sM_0 vc_16 (ctX12_fails h) okX12_fails rfl w_2189 w_2191 w_42 w_112 dX12_hitRatioBits_16 rfl rfl (Nat.le_of_ble_eq_true rfl) (Nat.le_of_ble_eq_true rfl) (Nat.le_of_ble_eq_true rfl) (Nat.le_of_ble_eq_true rfl) rfl (fun E sh1 I1 A1 hp _ => hp.2.elim) (fun ro sh_ I_1 A_2 hp hle => ?_)
  obtain ⟨rfl, r_3, rfl, h⟩ := hp
  refine g_if_eq (n := 22) 24 dX12_hitRatioBits_19 (by decide) rfl (fun hc => ?_) (fun hc => ?_)
  · have h := h.1 hc
    refine g_aload_n (n := 25) dX12_hitRatioBits_24 rfl rfl rfl ?_
    refine g_getR (n := 28) (k := 0) dX12_hitRatioBits_25 sM_0 vc_16 (Nat.le_of_ble_eq_true rfl) rfl w_1994 rfl ?_
    refine g_iconst (n := 29) (v := (nI 5)) dX12_hitRatioBits_28 rfl rfl ?_
    refine g_ialdJ (n := 30) (j := 5) (x := (A_2 1 5)) dX12_hitRatioBits_29 sM_1 rfl (Nat.le_of_ble_eq_true rfl) (by decide) rfl rfl ?_
    refine g_aload_n (n := 31) dX12_hitRatioBits_30 rfl rfl rfl ?_
    refine g_getR (n := 34) (k := 0) dX12_hitRatioBits_31 sM_0 vc_16 (Nat.le_of_ble_eq_true rfl) rfl w_1994 rfl ?_
    refine g_bipush (n := 36) (v := (nI 6)) dX12_hitRatioBits_34 rfl rfl ?_
    refine g_ialdJ (n := 37) (j := 6) (x := (A_2 1 6)) dX12_hitRatioBits_36 sM_1 rfl (Nat.le_of_ble_eq_true rfl) (by decide) rfl rfl ?_
    refine g_isub (n := 38) dX12_hitRatioBits_37 rfl ?_
    refine g_i2f (n := 39) dX12_hitRatioBits_38 rfl ?_
    refine g_aload_n (n := 40) dX12_hitRatioBits_39 rfl rfl rfl ?_
    refine g_getR (n := 43) (k := 0) dX12_hitRatioBits_40 sM_0 vc_16 (Nat.le_of_ble_eq_true rfl) rfl w_1994 rfl ?_
    refine g_iconst (n := 44) (v := (nI 5)) dX12_hitRatioBits_43 rfl rfl ?_
    refine g_ialdJ (n := 45) (j := 5) (x := (A_2 1 5)) dX12_hitRatioBits_44 sM_1 rfl (Nat.le_of_ble_eq_true rfl) (by decide) rfl rfl ?_
    refine g_i2f (n := 46) dX12_hitRatioBits_45 rfl ?_
    obtain ⟨hz, h⟩ := h
    refine g_fdiv (n := 47) dX12_hitRatioBits_46 hz rfl ?_
    refine g_callS (n := 50) (as := [.float (FP.fdiv (FP.i2f ((A_2 1 5) - (A_2 1 6))) (FP.i2f (A_2 1 5)))]) (bc' := 0) (bs' := 0) (ctJxf58ca_floatToIntBits_5c35a h) okJxf58ca_floatToIntBits_5c35a w_2616 w_2617 dX12_hitRatioBits_47 rfl rfl (Nat.le_of_ble_eq_true rfl) (Nat.le_of_ble_eq_true rfl) (Nat.le_of_ble_eq_true rfl) (Nat.le_of_ble_eq_true rfl) rfl (fun E sh1 I1 A1 hp _ => hp.2.elim) (fun ro sh_ I_4 A_5 hp hle => ?_)
    obtain ⟨rfl, r_6, rfl, h⟩ := hp
    exact g_iret rfl rfl dX12_hitRatioBits_50 ⟨rfl, _, rfl, h⟩
  · have h := h.2 hc
    refine g_iconst (n := 23) (v := (nI 0)) dX12_hitRatioBits_22 rfl rfl ?_
    exact g_iret rfl rfl dX12_hitRatioBits_23 ⟨rfl, _, rfl, h⟩
set_option maxRecDepth 20000 in
theorem ctX12_hitRatioBits  {K : Int32 → ab_F → ab_F → Prop} {I A : ab_F}  (h : wX12_hitRatioBits K I A ) : ab_Cl mX12_hitRatioBits 2 0 0 [.ref 0] shM I A (ab_Px shM ab_no (ab_ri K)) := by
  refine ab_enter (ls := [some (.ref 0)]) (by decide +kernel) (Nat.le_of_ble_eq_true rfl) rfl (fun C => ?_)
  unfold wX12_hitRatioBits at h
  refine g_aload_n (n := 1) dX12_hitRatioBits_0 rfl rfl rfl ?_
  refine g_aload_n (n := 2) dX12_hitRatioBits_1 rfl rfl rfl ?_
  refine g_getR (n := 5) (k := 0) dX12_hitRatioBits_2 sM_0 vc_16 (Nat.le_of_ble_eq_true rfl) rfl w_1994 rfl ?_
  refine g_iconst (n := 6) (v := (nI 5)) dX12_hitRatioBits_5 rfl rfl ?_
  refine g_ialdJ (n := 7) (j := 5) (x := (A 1 5)) dX12_hitRatioBits_6 sM_1 rfl (Nat.le_of_ble_eq_true rfl) (by decide) rfl rfl ?_
  refine g_if_ne (n := 10) 14 dX12_hitRatioBits_7 (by decide) rfl (fun hc => ?_) (fun hc => ?_)
  · have h := h.1 hc
    refine g_iconst (n := 15) (v := (nI 0)) dX12_hitRatioBits_14 rfl rfl ?_
    refine g_less (bc' := 0) (bs' := 0) (Nat.le_of_ble_eq_true rfl) (Nat.le_of_ble_eq_true rfl) ?_
    exact tjX12_hitRatioBits_15  _ _ _ h
  · have h := h.2 hc
    refine g_iconst (n := 11) (v := (nI 1)) dX12_hitRatioBits_10 rfl rfl ?_
    refine g_goto 15 dX12_hitRatioBits_11 (by decide) ?_
    refine g_less (bc' := 0) (bs' := 0) (Nat.le_of_ble_eq_true rfl) (Nat.le_of_ble_eq_true rfl) ?_
    exact tjX12_hitRatioBits_15  _ _ _ h
def wjX12_total_18 (K : Int32 → ab_F → ab_F → Prop) (x1 : Int32) (s0 : Int32) (I A : ab_F) : Prop := wX12_fails (fun r_6 I_4 A_5 => ((r_6 = 0 → (((x1).toInt = 0 → K (A_5 1 5) I_4 A_5) ∧ ((x1).toInt = 1 → K (A_5 1 6) I_4 A_5) ∧ ((x1).toInt = 2 → K (A_5 1 7) I_4 A_5) ∧ ((x1).toInt = 3 → K (A_5 1 8) I_4 A_5) ∧ ((x1).toInt = 4 → K (A_5 1 9) I_4 A_5) ∧ ((x1).toInt = 5 → wX12_lostIn (fun r_9 I_7 A_8 => K r_9 I_7 A_8) I_4 A_5 (((nI 1) <<< ((A_5 1 3) &&& 31)) - (nI 1))) ∧ ((x1).toInt = 6 → wX12_dirtyIn (fun r_12 I_10 A_11 => K r_12 I_10 A_11) I_4 A_5 (((nI 1) <<< ((A_5 1 3) &&& 31)) - (nI 1))) ∧ ((x1).toInt < 0 ∨ 6 < (x1).toInt → K (A_5 1 2) I_4 A_5))) ∧ (¬ r_6 = 0 → K (nI 0) I_4 A_5))) I A s0 (nI 1)
def wX12_total (K : Int32 → ab_F → ab_F → Prop) (I A : ab_F) (p0 : Int32) : Prop := wX12_in (fun r_3 I_1 A_2 => ((¬ r_3 = 0 → wjX12_total_18 K p0 (nI 0) I_1 A_2) ∧ (r_3 = 0 → wjX12_total_18 K p0 (nI 1) I_1 A_2))) I A ((p0).toInt64) (0 : Int64) (7 : Int64)
set_option maxRecDepth 20000 in
theorem tjX12_total_18 {C : ab_X}  {K : Int32 → ab_F → ab_F → Prop} (x1 : Int32) (s0 : Int32) (I A : ab_F) (h : wjX12_total_18 K x1 s0 I A) : ab_G mX12_total 3 C (ab_Px shM ab_no (ab_ri K)) 18 [some (.ref 0), some (.int x1)] [.int s0, .ref 0] shM I A 0 0 := by
  unfold wjX12_total_18 at h
  refine g_iconst (n := 19) (v := (nI 1)) dX12_total_18 rfl rfl ?_
  refine g_callV (n := 22) (as := [.int s0, .int (nI 1)]) (bc' := 0) (bs' := 0) sM_0 vc_16 (ctX12_fails h) okX12_fails rfl w_2189 w_2191 w_42 w_112 dX12_total_19 rfl rfl (Nat.le_of_ble_eq_true rfl) (Nat.le_of_ble_eq_true rfl) (Nat.le_of_ble_eq_true rfl) (Nat.le_of_ble_eq_true rfl) rfl (fun E sh1 I1 A1 hp _ => hp.2.elim) (fun ro sh_ I_4 A_5 hp hle => ?_)
  obtain ⟨rfl, r_6, rfl, h⟩ := hp
  refine g_if_eq (n := 25) 27 dX12_total_22 (by decide) rfl (fun hc => ?_) (fun hc => ?_)
  · have h := h.1 hc
    refine g_iload_n (n := 28) dX12_total_27 rfl rfl rfl ?_
    by_cases hc0 : (x1).toInt = 0
    · have h := h.1 hc0
      refine g_tableIn 72 dX12_total_28 (by rw [hc0]; decide) (by rw [hc0]; decide) (by rw [hc0]; rfl) (by decide) ?_
      refine g_aload_n (n := 73) dX12_total_72 rfl rfl rfl ?_
      refine g_getR (n := 76) (k := 0) dX12_total_73 sM_0 vc_16 (Nat.le_of_ble_eq_true rfl) rfl w_1994 rfl ?_
      refine g_iconst (n := 77) (v := (nI 5)) dX12_total_76 rfl rfl ?_
      refine g_ialdJ (n := 78) (j := 5) (x := (A_5 1 5)) dX12_total_77 sM_1 rfl (Nat.le_of_ble_eq_true rfl) (by decide) rfl rfl ?_
      exact g_iret rfl rfl dX12_total_78 ⟨rfl, _, rfl, h⟩
    by_cases hc1 : (x1).toInt = 1
    · have h := h.2.1 hc1
      refine g_tableIn 79 dX12_total_28 (by rw [hc1]; decide) (by rw [hc1]; decide) (by rw [hc1]; rfl) (by decide) ?_
      refine g_aload_n (n := 80) dX12_total_79 rfl rfl rfl ?_
      refine g_getR (n := 83) (k := 0) dX12_total_80 sM_0 vc_16 (Nat.le_of_ble_eq_true rfl) rfl w_1994 rfl ?_
      refine g_bipush (n := 85) (v := (nI 6)) dX12_total_83 rfl rfl ?_
      refine g_ialdJ (n := 86) (j := 6) (x := (A_5 1 6)) dX12_total_85 sM_1 rfl (Nat.le_of_ble_eq_true rfl) (by decide) rfl rfl ?_
      exact g_iret rfl rfl dX12_total_86 ⟨rfl, _, rfl, h⟩
    by_cases hc2 : (x1).toInt = 2
    · have h := h.2.2.1 hc2
      refine g_tableIn 87 dX12_total_28 (by rw [hc2]; decide) (by rw [hc2]; decide) (by rw [hc2]; rfl) (by decide) ?_
      refine g_aload_n (n := 88) dX12_total_87 rfl rfl rfl ?_
      refine g_getR (n := 91) (k := 0) dX12_total_88 sM_0 vc_16 (Nat.le_of_ble_eq_true rfl) rfl w_1994 rfl ?_
      refine g_bipush (n := 93) (v := (nI 7)) dX12_total_91 rfl rfl ?_
      refine g_ialdJ (n := 94) (j := 7) (x := (A_5 1 7)) dX12_total_93 sM_1 rfl (Nat.le_of_ble_eq_true rfl) (by decide) rfl rfl ?_
      exact g_iret rfl rfl dX12_total_94 ⟨rfl, _, rfl, h⟩
    by_cases hc3 : (x1).toInt = 3
    · have h := h.2.2.2.1 hc3
      refine g_tableIn 95 dX12_total_28 (by rw [hc3]; decide) (by rw [hc3]; decide) (by rw [hc3]; rfl) (by decide) ?_
      refine g_aload_n (n := 96) dX12_total_95 rfl rfl rfl ?_
      refine g_getR (n := 99) (k := 0) dX12_total_96 sM_0 vc_16 (Nat.le_of_ble_eq_true rfl) rfl w_1994 rfl ?_
      refine g_bipush (n := 101) (v := (nI 8)) dX12_total_99 rfl rfl ?_
      refine g_ialdJ (n := 102) (j := 8) (x := (A_5 1 8)) dX12_total_101 sM_1 rfl (Nat.le_of_ble_eq_true rfl) (by decide) rfl rfl ?_
      exact g_iret rfl rfl dX12_total_102 ⟨rfl, _, rfl, h⟩
    by_cases hc4 : (x1).toInt = 4
    · have h := h.2.2.2.2.1 hc4
      refine g_tableIn 103 dX12_total_28 (by rw [hc4]; decide) (by rw [hc4]; decide) (by rw [hc4]; rfl) (by decide) ?_
      refine g_aload_n (n := 104) dX12_total_103 rfl rfl rfl ?_
      refine g_getR (n := 107) (k := 0) dX12_total_104 sM_0 vc_16 (Nat.le_of_ble_eq_true rfl) rfl w_1994 rfl ?_
      refine g_bipush (n := 109) (v := (nI 9)) dX12_total_107 rfl rfl ?_
      refine g_ialdJ (n := 110) (j := 9) (x := (A_5 1 9)) dX12_total_109 sM_1 rfl (Nat.le_of_ble_eq_true rfl) (by decide) rfl rfl ?_
      exact g_iret rfl rfl dX12_total_110 ⟨rfl, _, rfl, h⟩
    by_cases hc5 : (x1).toInt = 5
    · have h := h.2.2.2.2.2.1 hc5
      refine g_tableIn 111 dX12_total_28 (by rw [hc5]; decide) (by rw [hc5]; decide) (by rw [hc5]; rfl) (by decide) ?_
      refine g_aload_n (n := 112) dX12_total_111 rfl rfl rfl ?_
      refine g_iconst (n := 113) (v := (nI 1)) dX12_total_112 rfl rfl ?_
      refine g_aload_n (n := 114) dX12_total_113 rfl rfl rfl ?_
      refine g_getR (n := 117) (k := 0) dX12_total_114 sM_0 vc_16 (Nat.le_of_ble_eq_true rfl) rfl w_1994 rfl ?_
      refine g_iconst (n := 118) (v := (nI 3)) dX12_total_117 rfl rfl ?_
      refine g_ialdJ (n := 119) (j := 3) (x := (A_5 1 3)) dX12_total_118 sM_1 rfl (Nat.le_of_ble_eq_true rfl) (by decide) rfl rfl ?_
      refine g_ishl (n := 120) dX12_total_119 rfl ?_
      refine g_iconst (n := 121) (v := (nI 1)) dX12_total_120 rfl rfl ?_
      refine g_isub (n := 122) dX12_total_121 rfl ?_
      refine g_callV (n := 125) (as := [.int (((nI 1) <<< ((A_5 1 3) &&& 31)) - (nI 1))]) (bc' := 0) (bs' := 0) sM_0 vc_16 (ctX12_lostIn h) okX12_lostIn rfl w_2561 w_2563 w_86 w_112 dX12_total_122 rfl rfl (Nat.le_of_ble_eq_true rfl) (Nat.le_of_ble_eq_true rfl) (Nat.le_of_ble_eq_true rfl) (Nat.le_of_ble_eq_true rfl) rfl (fun E sh1 I1 A1 hp _ => hp.2.elim) (fun ro sh_ I_7 A_8 hp hle => ?_)
      obtain ⟨rfl, r_9, rfl, h⟩ := hp
      exact g_iret rfl rfl dX12_total_125 ⟨rfl, _, rfl, h⟩
    by_cases hc6 : (x1).toInt = 6
    · have h := h.2.2.2.2.2.2.1 hc6
      refine g_tableIn 126 dX12_total_28 (by rw [hc6]; decide) (by rw [hc6]; decide) (by rw [hc6]; rfl) (by decide) ?_
      refine g_aload_n (n := 127) dX12_total_126 rfl rfl rfl ?_
      refine g_iconst (n := 128) (v := (nI 1)) dX12_total_127 rfl rfl ?_
      refine g_aload_n (n := 129) dX12_total_128 rfl rfl rfl ?_
      refine g_getR (n := 132) (k := 0) dX12_total_129 sM_0 vc_16 (Nat.le_of_ble_eq_true rfl) rfl w_1994 rfl ?_
      refine g_iconst (n := 133) (v := (nI 3)) dX12_total_132 rfl rfl ?_
      refine g_ialdJ (n := 134) (j := 3) (x := (A_5 1 3)) dX12_total_133 sM_1 rfl (Nat.le_of_ble_eq_true rfl) (by decide) rfl rfl ?_
      refine g_ishl (n := 135) dX12_total_134 rfl ?_
      refine g_iconst (n := 136) (v := (nI 1)) dX12_total_135 rfl rfl ?_
      refine g_isub (n := 137) dX12_total_136 rfl ?_
      refine g_callV (n := 140) (as := [.int (((nI 1) <<< ((A_5 1 3) &&& 31)) - (nI 1))]) (bc' := 0) (bs' := 0) sM_0 vc_16 (ctX12_dirtyIn h) okX12_dirtyIn rfl w_2549 w_2551 w_85 w_112 dX12_total_137 rfl rfl (Nat.le_of_ble_eq_true rfl) (Nat.le_of_ble_eq_true rfl) (Nat.le_of_ble_eq_true rfl) (Nat.le_of_ble_eq_true rfl) rfl (fun E sh1 I1 A1 hp _ => hp.2.elim) (fun ro sh_ I_10 A_11 hp hle => ?_)
      obtain ⟨rfl, r_12, rfl, h⟩ := hp
      exact g_iret rfl rfl dX12_total_140 ⟨rfl, _, rfl, h⟩
    have hc : (x1).toInt < 0 ∨ 6 < (x1).toInt := by omega
    have h := h.2.2.2.2.2.2.2 hc
    refine g_tableOut 141 dX12_total_28 hc (by decide) ?_
    refine g_aload_n (n := 142) dX12_total_141 rfl rfl rfl ?_
    refine g_getR (n := 145) (k := 0) dX12_total_142 sM_0 vc_16 (Nat.le_of_ble_eq_true rfl) rfl w_1994 rfl ?_
    refine g_iconst (n := 146) (v := (nI 2)) dX12_total_145 rfl rfl ?_
    refine g_ialdJ (n := 147) (j := 2) (x := (A_5 1 2)) dX12_total_146 sM_1 rfl (Nat.le_of_ble_eq_true rfl) (by decide) rfl rfl ?_
    exact g_iret rfl rfl dX12_total_147 ⟨rfl, _, rfl, h⟩
  · have h := h.2 hc
    refine g_iconst (n := 26) (v := (nI 0)) dX12_total_25 rfl rfl ?_
    exact g_iret rfl rfl dX12_total_26 ⟨rfl, _, rfl, h⟩
set_option maxRecDepth 20000 in
theorem ctX12_total  {K : Int32 → ab_F → ab_F → Prop} {I A : ab_F} {p0 : Int32} (h : wX12_total K I A p0) : ab_Cl mX12_total 3 0 0 [.ref 0, .int p0] shM I A (ab_Px shM ab_no (ab_ri K)) := by
  refine ab_enter (ls := [some (.ref 0), some (.int p0)]) (by decide +kernel) (Nat.le_of_ble_eq_true rfl) rfl (fun C => ?_)
  unfold wX12_total at h
  refine g_aload_n (n := 1) dX12_total_0 rfl rfl rfl ?_
  refine g_iload_n (n := 2) dX12_total_1 rfl rfl rfl ?_
  refine g_i2l (n := 3) dX12_total_2 rfl ?_
  refine g_lconst (n := 4) (v := (0 : Int64)) dX12_total_3 rfl rfl ?_
  refine g_ldc2 (n := 7) (v := (7 : Int64)) dX12_total_4 w_2630 rfl ?_
  refine g_callS (n := 10) (as := [.long ((p0).toInt64), .long (0 : Int64), .long (7 : Int64)]) (bc' := 0) (bs' := 0) (ctX12_in h) okX12_in w_2080 w_2081 dX12_total_7 rfl rfl (Nat.le_of_ble_eq_true rfl) (Nat.le_of_ble_eq_true rfl) (Nat.le_of_ble_eq_true rfl) (Nat.le_of_ble_eq_true rfl) rfl (fun E sh1 I1 A1 hp _ => hp.2.elim) (fun ro sh_ I_1 A_2 hp hle => ?_)
  obtain ⟨rfl, r_3, rfl, h⟩ := hp
  refine g_if_ne (n := 13) 17 dX12_total_10 (by decide) rfl (fun hc => ?_) (fun hc => ?_)
  · have h := h.1 hc
    refine g_iconst (n := 18) (v := (nI 0)) dX12_total_17 rfl rfl ?_
    refine g_less (bc' := 0) (bs' := 0) (Nat.le_of_ble_eq_true rfl) (Nat.le_of_ble_eq_true rfl) ?_
    exact tjX12_total_18  _ _ _ _ h
  · have h := h.2 hc
    refine g_iconst (n := 14) (v := (nI 1)) dX12_total_13 rfl rfl ?_
    refine g_goto 18 dX12_total_14 (by decide) ?_
    refine g_less (bc' := 0) (bs' := 0) (Nat.le_of_ble_eq_true rfl) (Nat.le_of_ble_eq_true rfl) ?_
    exact tjX12_total_18  _ _ _ _ h
def wX12_print (K : ab_F → ab_F → Prop) (I A : ab_F) (p0 : Int32) : Prop := (∃ j_1 : Nat, (I 0 18) = nI j_1 ∧ j_1 < 800 ∧ K (wr I 0 18 ((I 0 18) + (nI 1))) (wr A 10 j_1 (vp_nar .byte ((p0).toInt8.toInt32))))
set_option maxRecDepth 20000 in
theorem ctX12_print  {K : ab_F → ab_F → Prop} {I A : ab_F} {p0 : Int32} (h : wX12_print K I A p0) : ab_Cl mX12_print 0 0 0 [.ref 0, .int p0] shM I A (ab_Px shM ab_no (ab_rv K)) := by
  refine ab_enter (ls := [some (.ref 0), some (.int p0)]) (by decide +kernel) (Nat.le_of_ble_eq_true rfl) rfl (fun C => ?_)
  unfold wX12_print at h
  refine g_aload_n (n := 1) dX12_print_0 rfl rfl rfl ?_
  refine g_getR (n := 4) (k := 17) dX12_print_1 sM_0 vc_16 (Nat.le_of_ble_eq_true rfl) rfl w_2011 rfl ?_
  refine g_aload_n (n := 5) dX12_print_4 rfl rfl rfl ?_
  refine g_getIE (n := 8) (k := 18) (x := (I 0 18)) dX12_print_5 sM_0 vc_16 (Nat.le_of_ble_eq_true rfl) rfl w_2012 rfl rfl ?_
  refine g_iload_n (n := 9) dX12_print_8 rfl rfl rfl ?_
  refine g_i2b (n := 10) dX12_print_9 rfl ?_
  obtain ⟨j_1, hj, hl, h⟩ := h
  refine g_bastJ (n := 11) (j := j_1) dX12_print_10 sM_10 hj hl (by decide) rfl ?_
  refine g_aload_n (n := 12) dX12_print_11 rfl rfl rfl ?_
  refine g_dup (n := 13) dX12_print_12 rfl rfl ?_
  refine g_getIE (n := 16) (k := 18) (x := (I 0 18)) dX12_print_13 sM_0 vc_16 (Nat.le_of_ble_eq_true rfl) rfl w_2012 rfl rfl ?_
  refine g_iconst (n := 17) (v := (nI 1)) dX12_print_16 rfl rfl ?_
  refine g_iadd (n := 18) dX12_print_17 rfl ?_
  refine g_putI (n := 21) (k := 18) dX12_print_18 sM_0 vc_16 (Nat.le_of_ble_eq_true rfl) rfl w_2012 rfl rfl rfl rfl rfl ?_
  exact g_vret rfl dX12_print_21 ⟨rfl, rfl, h⟩
