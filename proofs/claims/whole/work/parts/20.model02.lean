def wjX12_useOf_76 (K : Int32 → ab_F → ab_F → Prop) (L4 : Int32 → Int32 → Int32 → ab_F → ab_F → Prop) (x1 : Int32) (x2 : Int32) (x3 : Int32) (x4 : Int32) (I A : ab_F) : Prop := wX12_has (fun r_9 I_7 A_8 => ((r_9 = 0 → L4 x1 x2 (x3 + nI 1) I_7 A_8) ∧ (¬ r_9 = 0 → (∃ j_10 : Nat, ((nI 224) + x3) = nI j_10 ∧ j_10 < 608 ∧ ((¬ (A_8 1 j_10) = x1 → L4 x1 x2 (x3 + nI 1) I_7 A_8) ∧ ((A_8 1 j_10) = x1 → (∀ y_11 : Int32, y_11 = (x2 ||| (nI 4)) → L4 x1 y_11 (x3 + nI 1) I_7 A_8))))))) I A (A 1 10) x4
def wjX12_useOf_44 (K : Int32 → ab_F → ab_F → Prop) (L4 : Int32 → Int32 → Int32 → ab_F → ab_F → Prop) (x1 : Int32) (x2 : Int32) (x3 : Int32) (x4 : Int32) (I A : ab_F) : Prop := (∃ j_6 : Nat, ((nI 26) + x4) = nI j_6 ∧ j_6 < 608 ∧ (((A 1 j_6) = (-1 : Int32) → wjX12_useOf_76 K L4 x1 x2 x3 x4 I A) ∧ (¬ (A 1 j_6) = (-1 : Int32) → (∃ j_12 : Nat, ((nI 272) + x3) = nI j_12 ∧ j_12 < 608 ∧ ((¬ (A 1 j_12) = x1 → wjX12_useOf_76 K L4 x1 x2 x3 x4 I A) ∧ ((A 1 j_12) = x1 → (∀ y_13 : Int32, y_13 = (x2 ||| (nI 2)) → wjX12_useOf_76 K L4 x1 y_13 x3 x4 I A)))))))
def wlX12_useOf_4 (K : Int32 → ab_F → ab_F → Prop) : Nat → Int32 → Int32 → Int32 → ab_F → ab_F → Prop
  | 0, _, _, _, _, _ => False
  | n + 1, x1, x2, x3, I, A => (((nI 48) ≤ x3 → K x2 I A) ∧ (¬ (nI 48) ≤ x3 → wX12_isThere (fun r_3 I_1 A_2 => ((¬ r_3 = 0 → (∀ y_4 : Int32, y_4 = (x3 / (nI 8)) → (∃ j_5 : Nat, ((nI 80) + x3) = nI j_5 ∧ j_5 < 608 ∧ ((¬ (A_2 1 j_5) = x1 → wjX12_useOf_44 K (wlX12_useOf_4 K n) x1 x2 x3 y_4 I_1 A_2) ∧ ((A_2 1 j_5) = x1 → (∀ y_14 : Int32, y_14 = (x2 ||| (nI 1)) → wjX12_useOf_44 K (wlX12_useOf_4 K n) x1 y_14 x3 y_4 I_1 A_2)))))) ∧ (r_3 = 0 → (wlX12_useOf_4 K n) x1 x2 (x3 + nI 1) I_1 A_2))) I A x3))
def wX12_useOf (K : Int32 → ab_F → ab_F → Prop) (I A : ab_F) (p0 : Int32) : Prop := (∃ nf : Nat, wlX12_useOf_4 K nf p0 (nI 0) (nI 0) I A)
set_option maxRecDepth 20000 in
theorem tjX12_useOf_76 {C : ab_X}  {K : Int32 → ab_F → ab_F → Prop} {L4 : Int32 → Int32 → Int32 → ab_F → ab_F → Prop} (hL4 : ∀ (x1 : Int32) (x2 : Int32) (x3 : Int32) (I A : ab_F), L4 x1 x2 x3 I A → ab_G mX12_useOf 1 C (ab_Px shM ab_no (ab_ri K)) 4 [some (.ref 0), some (.int x1), some (.int x2), some (.int x3), none] [] shM I A 0 0) (x1 : Int32) (x2 : Int32) (x3 : Int32) (x4 : Int32) (I A : ab_F) (h : wjX12_useOf_76 K L4 x1 x2 x3 x4 I A) : ab_G mX12_useOf 1 C (ab_Px shM ab_no (ab_ri K)) 76 [some (.ref 0), some (.int x1), some (.int x2), some (.int x3), some (.int x4)] [] shM I A 0 0 := by
  unfold wjX12_useOf_76 at h
  refine g_aload_n (n := 77) dX12_useOf_76 rfl rfl rfl ?_
  refine g_getR (n := 80) (k := 0) dX12_useOf_77 sM_0 vc_16 (Nat.le_of_ble_eq_true rfl) rfl w_1994 rfl ?_
  refine g_bipush (n := 82) (v := (nI 10)) dX12_useOf_80 rfl rfl ?_
  refine g_ialdJ (n := 83) (j := 10) (x := (A 1 10)) dX12_useOf_82 sM_1 rfl (Nat.le_of_ble_eq_true rfl) (by decide) rfl rfl ?_
  refine g_iload (n := 85) dX12_useOf_83 rfl rfl ?_
  refine g_callS (n := 88) (as := [.int (A 1 10), .int x4]) (bc' := 0) (bs' := 0) (ctX12_has h) okX12_has w_2204 w_2205 dX12_useOf_85 rfl rfl (Nat.le_of_ble_eq_true rfl) (Nat.le_of_ble_eq_true rfl) (Nat.le_of_ble_eq_true rfl) (Nat.le_of_ble_eq_true rfl) rfl (fun E sh1 I1 A1 hp _ => hp.2.elim) (fun ro sh_ I_7 A_8 hp hle => ?_)
  obtain ⟨rfl, r_9, rfl, h⟩ := hp
  refine g_if_eq (n := 91) 109 dX12_useOf_88 (by decide) rfl (fun hc => ?_) (fun hc => ?_)
  · have h := h.1 hc
    refine g_iinc (n := 112) (v := (x3 + nI 1)) (ls' := [some (.ref 0), some (.int x1), some (.int x2), some (.int (x3 + nI 1)), some (.int x4)]) dX12_useOf_109 rfl rfl rfl (Nat.le_of_ble_eq_true rfl) rfl rfl ?_
    refine g_goto 4 dX12_useOf_112 (by decide) ?_
    refine g_forget (ls' := [some (.ref 0), some (.int x1), some (.int x2), some (.int (x3 + nI 1)), none]) (ab_fg rfl) ?_
    exact hL4 _ _ _ _ _ h
  · have h := h.2 hc
    refine g_aload_n (n := 92) dX12_useOf_91 rfl rfl rfl ?_
    refine g_getR (n := 95) (k := 0) dX12_useOf_92 sM_0 vc_16 (Nat.le_of_ble_eq_true rfl) rfl w_1994 rfl ?_
    refine g_sipush (n := 98) (v := (nI 224)) dX12_useOf_95 rfl rfl ?_
    refine g_iload_n (n := 99) dX12_useOf_98 rfl rfl rfl ?_
    refine g_iadd (n := 100) dX12_useOf_99 rfl ?_
    obtain ⟨j_10, hj, hl, h⟩ := h
    refine g_ialdJ (n := 101) (j := j_10) (x := (A_8 1 j_10)) dX12_useOf_100 sM_1 hj hl (by decide) rfl rfl ?_
    refine g_iload_n (n := 102) dX12_useOf_101 rfl rfl rfl ?_
    refine g_icmp_ne (n := 105) 109 dX12_useOf_102 (by decide) rfl (fun hc => ?_) (fun hc => ?_)
    · have h := h.1 hc
      refine g_iinc (n := 112) (v := (x3 + nI 1)) (ls' := [some (.ref 0), some (.int x1), some (.int x2), some (.int (x3 + nI 1)), some (.int x4)]) dX12_useOf_109 rfl rfl rfl (Nat.le_of_ble_eq_true rfl) rfl rfl ?_
      refine g_goto 4 dX12_useOf_112 (by decide) ?_
      refine g_forget (ls' := [some (.ref 0), some (.int x1), some (.int x2), some (.int (x3 + nI 1)), none]) (ab_fg rfl) ?_
      exact hL4 _ _ _ _ _ h
    · have h := h.2 hc
      refine g_iload_n (n := 106) dX12_useOf_105 rfl rfl rfl ?_
      refine g_iconst (n := 107) (v := (nI 4)) dX12_useOf_106 rfl rfl ?_
      refine g_ior (n := 108) dX12_useOf_107 rfl ?_
      refine g_topi (fun y_11 ey_11 => ?_)
      have h := h y_11 ey_11
      refine g_istore_n (n := 109) (ls' := [some (.ref 0), some (.int x1), some (.int y_11), some (.int x3), some (.int x4)]) dX12_useOf_108 rfl rfl (Nat.le_of_ble_eq_true rfl) (Nat.le_of_ble_eq_true rfl) rfl rfl ?_
      refine g_iinc (n := 112) (v := (x3 + nI 1)) (ls' := [some (.ref 0), some (.int x1), some (.int y_11), some (.int (x3 + nI 1)), some (.int x4)]) dX12_useOf_109 rfl rfl rfl (Nat.le_of_ble_eq_true rfl) rfl rfl ?_
      refine g_goto 4 dX12_useOf_112 (by decide) ?_
      refine g_forget (ls' := [some (.ref 0), some (.int x1), some (.int y_11), some (.int (x3 + nI 1)), none]) (ab_fg rfl) ?_
      exact hL4 _ _ _ _ _ h
set_option maxRecDepth 20000 in
theorem tjX12_useOf_44 {C : ab_X}  {K : Int32 → ab_F → ab_F → Prop} {L4 : Int32 → Int32 → Int32 → ab_F → ab_F → Prop} (hL4 : ∀ (x1 : Int32) (x2 : Int32) (x3 : Int32) (I A : ab_F), L4 x1 x2 x3 I A → ab_G mX12_useOf 1 C (ab_Px shM ab_no (ab_ri K)) 4 [some (.ref 0), some (.int x1), some (.int x2), some (.int x3), none] [] shM I A 0 0) (x1 : Int32) (x2 : Int32) (x3 : Int32) (x4 : Int32) (I A : ab_F) (h : wjX12_useOf_44 K L4 x1 x2 x3 x4 I A) : ab_G mX12_useOf 1 C (ab_Px shM ab_no (ab_ri K)) 44 [some (.ref 0), some (.int x1), some (.int x2), some (.int x3), some (.int x4)] [] shM I A 0 0 := by
  unfold wjX12_useOf_44 at h
  refine g_aload_n (n := 45) dX12_useOf_44 rfl rfl rfl ?_
  refine g_getR (n := 48) (k := 0) dX12_useOf_45 sM_0 vc_16 (Nat.le_of_ble_eq_true rfl) rfl w_1994 rfl ?_
  refine g_bipush (n := 50) (v := (nI 26)) dX12_useOf_48 rfl rfl ?_
  refine g_iload (n := 52) dX12_useOf_50 rfl rfl ?_
  refine g_iadd (n := 53) dX12_useOf_52 rfl ?_
  obtain ⟨j_6, hj, hl, h⟩ := h
  refine g_ialdJ (n := 54) (j := j_6) (x := (A 1 j_6)) dX12_useOf_53 sM_1 hj hl (by decide) rfl rfl ?_
  refine g_iconst (n := 55) (v := (-1 : Int32)) dX12_useOf_54 rfl rfl ?_
  refine g_icmp_eq (n := 58) 76 dX12_useOf_55 (by decide) rfl (fun hc => ?_) (fun hc => ?_)
  · have h := h.1 hc
    refine g_less (bc' := 0) (bs' := 0) (Nat.le_of_ble_eq_true rfl) (Nat.le_of_ble_eq_true rfl) ?_
    exact tjX12_useOf_76 hL4 _ _ _ _ _ _ h
  · have h := h.2 hc
    refine g_aload_n (n := 59) dX12_useOf_58 rfl rfl rfl ?_
    refine g_getR (n := 62) (k := 0) dX12_useOf_59 sM_0 vc_16 (Nat.le_of_ble_eq_true rfl) rfl w_1994 rfl ?_
    refine g_sipush (n := 65) (v := (nI 272)) dX12_useOf_62 rfl rfl ?_
    refine g_iload_n (n := 66) dX12_useOf_65 rfl rfl rfl ?_
    refine g_iadd (n := 67) dX12_useOf_66 rfl ?_
    obtain ⟨j_12, hj, hl, h⟩ := h
    refine g_ialdJ (n := 68) (j := j_12) (x := (A 1 j_12)) dX12_useOf_67 sM_1 hj hl (by decide) rfl rfl ?_
    refine g_iload_n (n := 69) dX12_useOf_68 rfl rfl rfl ?_
    refine g_icmp_ne (n := 72) 76 dX12_useOf_69 (by decide) rfl (fun hc => ?_) (fun hc => ?_)
    · have h := h.1 hc
      refine g_less (bc' := 0) (bs' := 0) (Nat.le_of_ble_eq_true rfl) (Nat.le_of_ble_eq_true rfl) ?_
      exact tjX12_useOf_76 hL4 _ _ _ _ _ _ h
    · have h := h.2 hc
      refine g_iload_n (n := 73) dX12_useOf_72 rfl rfl rfl ?_
      refine g_iconst (n := 74) (v := (nI 2)) dX12_useOf_73 rfl rfl ?_
      refine g_ior (n := 75) dX12_useOf_74 rfl ?_
      refine g_topi (fun y_13 ey_13 => ?_)
      have h := h y_13 ey_13
      refine g_istore_n (n := 76) (ls' := [some (.ref 0), some (.int x1), some (.int y_13), some (.int x3), some (.int x4)]) dX12_useOf_75 rfl rfl (Nat.le_of_ble_eq_true rfl) (Nat.le_of_ble_eq_true rfl) rfl rfl ?_
      refine g_less (bc' := 0) (bs' := 0) (Nat.le_of_ble_eq_true rfl) (Nat.le_of_ble_eq_true rfl) ?_
      exact tjX12_useOf_76 hL4 _ _ _ _ _ _ h
set_option maxRecDepth 20000 in
theorem tlX12_useOf_4 {C : ab_X}  {K : Int32 → ab_F → ab_F → Prop} : ∀ (n : Nat) (x1 : Int32) (x2 : Int32) (x3 : Int32) (I A : ab_F), wlX12_useOf_4 K n x1 x2 x3 I A → ab_G mX12_useOf 1 C (ab_Px shM ab_no (ab_ri K)) 4 [some (.ref 0), some (.int x1), some (.int x2), some (.int x3), none] [] shM I A 0 0 := by
  intro n
  induction n with
  | zero => intro x1 x2 x3 I A h; exact h.elim
  | succ n hL4 =>
    intro x1 x2 x3 I A h
    rw [wlX12_useOf_4] at h
    refine g_iload_n (n := 5) dX12_useOf_4 rfl rfl rfl ?_
    refine g_bipush (n := 7) (v := (nI 48)) dX12_useOf_5 rfl rfl ?_
    refine g_icmp_ge (n := 10) 115 dX12_useOf_7 (by decide) rfl (fun hc => ?_) (fun hc => ?_)
    · have h := h.1 hc
      refine g_iload_n (n := 116) dX12_useOf_115 rfl rfl rfl ?_
      exact g_iret rfl rfl dX12_useOf_116 ⟨rfl, _, rfl, h⟩
    · have h := h.2 hc
      refine g_aload_n (n := 11) dX12_useOf_10 rfl rfl rfl ?_
      refine g_iload_n (n := 12) dX12_useOf_11 rfl rfl rfl ?_
      refine g_callV (n := 15) (as := [.int x3]) (bc' := 0) (bs' := 0) sM_0 vc_16 (ctX12_isThere h) okX12_isThere rfl w_2215 w_2217 w_47 w_112 dX12_useOf_12 rfl rfl (Nat.le_of_ble_eq_true rfl) (Nat.le_of_ble_eq_true rfl) (Nat.le_of_ble_eq_true rfl) (Nat.le_of_ble_eq_true rfl) rfl (fun E sh1 I1 A1 hp _ => hp.2.elim) (fun ro sh_ I_1 A_2 hp hle => ?_)
      obtain ⟨rfl, r_3, rfl, h⟩ := hp
      refine g_if_ne (n := 18) 21 dX12_useOf_15 (by decide) rfl (fun hc => ?_) (fun hc => ?_)
      · have h := h.1 hc
        refine g_iload_n (n := 22) dX12_useOf_21 rfl rfl rfl ?_
        refine g_bipush (n := 24) (v := (nI 8)) dX12_useOf_22 rfl rfl ?_
        refine g_idiv (n := 25) dX12_useOf_24 (by decide) rfl ?_
        refine g_topi (fun y_4 ey_4 => ?_)
        have h := h y_4 ey_4
        refine g_istore (n := 27) (ls' := [some (.ref 0), some (.int x1), some (.int x2), some (.int x3), some (.int y_4)]) dX12_useOf_25 rfl (Nat.le_of_ble_eq_true rfl) (Nat.le_of_ble_eq_true rfl) rfl rfl ?_
        refine g_aload_n (n := 28) dX12_useOf_27 rfl rfl rfl ?_
        refine g_getR (n := 31) (k := 0) dX12_useOf_28 sM_0 vc_16 (Nat.le_of_ble_eq_true rfl) rfl w_1994 rfl ?_
        refine g_bipush (n := 33) (v := (nI 80)) dX12_useOf_31 rfl rfl ?_
        refine g_iload_n (n := 34) dX12_useOf_33 rfl rfl rfl ?_
        refine g_iadd (n := 35) dX12_useOf_34 rfl ?_
        obtain ⟨j_5, hj, hl, h⟩ := h
        refine g_ialdJ (n := 36) (j := j_5) (x := (A_2 1 j_5)) dX12_useOf_35 sM_1 hj hl (by decide) rfl rfl ?_
        refine g_iload_n (n := 37) dX12_useOf_36 rfl rfl rfl ?_
        refine g_icmp_ne (n := 40) 44 dX12_useOf_37 (by decide) rfl (fun hc => ?_) (fun hc => ?_)
        · have h := h.1 hc
          refine g_less (bc' := 0) (bs' := 0) (Nat.le_of_ble_eq_true rfl) (Nat.le_of_ble_eq_true rfl) ?_
          exact tjX12_useOf_44 hL4 _ _ _ _ _ _ h
        · have h := h.2 hc
          refine g_iload_n (n := 41) dX12_useOf_40 rfl rfl rfl ?_
          refine g_iconst (n := 42) (v := (nI 1)) dX12_useOf_41 rfl rfl ?_
          refine g_ior (n := 43) dX12_useOf_42 rfl ?_
          refine g_topi (fun y_14 ey_14 => ?_)
          have h := h y_14 ey_14
          refine g_istore_n (n := 44) (ls' := [some (.ref 0), some (.int x1), some (.int y_14), some (.int x3), some (.int y_4)]) dX12_useOf_43 rfl rfl (Nat.le_of_ble_eq_true rfl) (Nat.le_of_ble_eq_true rfl) rfl rfl ?_
          refine g_less (bc' := 0) (bs' := 0) (Nat.le_of_ble_eq_true rfl) (Nat.le_of_ble_eq_true rfl) ?_
          exact tjX12_useOf_44 hL4 _ _ _ _ _ _ h
      · have h := h.2 hc
        refine g_goto 109 dX12_useOf_18 (by decide) ?_
        refine g_iinc (n := 112) (v := (x3 + nI 1)) (ls' := [some (.ref 0), some (.int x1), some (.int x2), some (.int (x3 + nI 1)), none]) dX12_useOf_109 rfl rfl rfl (Nat.le_of_ble_eq_true rfl) rfl rfl ?_
        refine g_goto 4 dX12_useOf_112 (by decide) ?_
        exact hL4 _ _ _ _ _ h
set_option maxRecDepth 20000 in
theorem ctX12_useOf  {K : Int32 → ab_F → ab_F → Prop} {I A : ab_F} {p0 : Int32} (h : wX12_useOf K I A p0) : ab_Cl mX12_useOf 1 0 0 [.ref 0, .int p0] shM I A (ab_Px shM ab_no (ab_ri K)) := by
  refine ab_enter (ls := [some (.ref 0), some (.int p0), none, none, none]) (by decide +kernel) (Nat.le_of_ble_eq_true rfl) rfl (fun C => ?_)
  unfold wX12_useOf at h
  refine g_iconst (n := 1) (v := (nI 0)) dX12_useOf_0 rfl rfl ?_
  refine g_istore_n (n := 2) (ls' := [some (.ref 0), some (.int p0), some (.int (nI 0)), none, none]) dX12_useOf_1 rfl rfl (Nat.le_of_ble_eq_true rfl) (Nat.le_of_ble_eq_true rfl) rfl rfl ?_
  refine g_iconst (n := 3) (v := (nI 0)) dX12_useOf_2 rfl rfl ?_
  refine g_istore_n (n := 4) (ls' := [some (.ref 0), some (.int p0), some (.int (nI 0)), some (.int (nI 0)), none]) dX12_useOf_3 rfl rfl (Nat.le_of_ble_eq_true rfl) (Nat.le_of_ble_eq_true rfl) rfl rfl ?_
  refine g_less (bc' := 0) (bs' := 0) (Nat.le_of_ble_eq_true rfl) (Nat.le_of_ble_eq_true rfl) ?_
  obtain ⟨n_f, h⟩ := h
  exact tlX12_useOf_4  n_f _ _ _ _ _ h
def wlX12_freeCount_4 (K : Int32 → ab_F → ab_F → Prop) : Nat → Int32 → Int32 → ab_F → ab_F → Prop
  | 0, _, _, _, _ => False
  | n + 1, x1, x2, I, A => (((A 1 1) ≤ x2 → K x1 I A) ∧ (¬ (A 1 1) ≤ x2 → wX12_useOf (fun r_3 I_1 A_2 => ((¬ r_3 = 0 → (∀ y_4 : Int32, y_4 = (x1 + (nI 0)) → (wlX12_freeCount_4 K n) y_4 (x2 + nI 1) I_1 A_2)) ∧ (r_3 = 0 → (∀ y_5 : Int32, y_5 = (x1 + (nI 1)) → (wlX12_freeCount_4 K n) y_5 (x2 + nI 1) I_1 A_2)))) I A x2))
def wX12_freeCount (K : Int32 → ab_F → ab_F → Prop) (I A : ab_F)  : Prop := (∃ nf : Nat, wlX12_freeCount_4 K nf (nI 0) (nI 0) I A)
set_option maxRecDepth 20000 in
theorem tlX12_freeCount_4 {C : ab_X}  {K : Int32 → ab_F → ab_F → Prop} : ∀ (n : Nat) (x1 : Int32) (x2 : Int32) (I A : ab_F), wlX12_freeCount_4 K n x1 x2 I A → ab_G mX12_freeCount 2 C (ab_Px shM ab_no (ab_ri K)) 4 [some (.ref 0), some (.int x1), some (.int x2)] [] shM I A 0 0 := by
  intro n
  induction n with
  | zero => intro x1 x2 I A h; exact h.elim
  | succ n hL4 =>
    intro x1 x2 I A h
    rw [wlX12_freeCount_4] at h
    refine g_iload_n (n := 5) dX12_freeCount_4 rfl rfl rfl ?_
    refine g_aload_n (n := 6) dX12_freeCount_5 rfl rfl rfl ?_
    refine g_getR (n := 9) (k := 0) dX12_freeCount_6 sM_0 vc_16 (Nat.le_of_ble_eq_true rfl) rfl w_1994 rfl ?_
    refine g_iconst (n := 10) (v := (nI 1)) dX12_freeCount_9 rfl rfl ?_
    refine g_ialdJ (n := 11) (j := 1) (x := (A 1 1)) dX12_freeCount_10 sM_1 rfl (Nat.le_of_ble_eq_true rfl) (by decide) rfl rfl ?_
    refine g_icmp_ge (n := 14) 36 dX12_freeCount_11 (by decide) rfl (fun hc => ?_) (fun hc => ?_)
    · have h := h.1 hc
      refine g_iload_n (n := 37) dX12_freeCount_36 rfl rfl rfl ?_
      exact g_iret rfl rfl dX12_freeCount_37 ⟨rfl, _, rfl, h⟩
    · have h := h.2 hc
      refine g_iload_n (n := 15) dX12_freeCount_14 rfl rfl rfl ?_
      refine g_aload_n (n := 16) dX12_freeCount_15 rfl rfl rfl ?_
      refine g_iload_n (n := 17) dX12_freeCount_16 rfl rfl rfl ?_
      refine g_callV (n := 20) (as := [.int x2]) (bc' := 0) (bs' := 0) sM_0 vc_16 (ctX12_useOf h) okX12_useOf rfl w_2211 w_2213 w_46 w_112 dX12_freeCount_17 rfl rfl (Nat.le_of_ble_eq_true rfl) (Nat.le_of_ble_eq_true rfl) (Nat.le_of_ble_eq_true rfl) (Nat.le_of_ble_eq_true rfl) rfl (fun E sh1 I1 A1 hp _ => hp.2.elim) (fun ro sh_ I_1 A_2 hp hle => ?_)
      obtain ⟨rfl, r_3, rfl, h⟩ := hp
      refine g_if_ne (n := 23) 27 dX12_freeCount_20 (by decide) rfl (fun hc => ?_) (fun hc => ?_)
      · have h := h.1 hc
        refine g_iconst (n := 28) (v := (nI 0)) dX12_freeCount_27 rfl rfl ?_
        refine g_iadd (n := 29) dX12_freeCount_28 rfl ?_
        refine g_topi (fun y_4 ey_4 => ?_)
        have h := h y_4 ey_4
        refine g_istore_n (n := 30) (ls' := [some (.ref 0), some (.int y_4), some (.int x2)]) dX12_freeCount_29 rfl rfl (Nat.le_of_ble_eq_true rfl) (Nat.le_of_ble_eq_true rfl) rfl rfl ?_
        refine g_iinc (n := 33) (v := (x2 + nI 1)) (ls' := [some (.ref 0), some (.int y_4), some (.int (x2 + nI 1))]) dX12_freeCount_30 rfl rfl rfl (Nat.le_of_ble_eq_true rfl) rfl rfl ?_
        refine g_goto 4 dX12_freeCount_33 (by decide) ?_
        exact hL4 _ _ _ _ h
      · have h := h.2 hc
        refine g_iconst (n := 24) (v := (nI 1)) dX12_freeCount_23 rfl rfl ?_
        refine g_goto 28 dX12_freeCount_24 (by decide) ?_
        refine g_iadd (n := 29) dX12_freeCount_28 rfl ?_
        refine g_topi (fun y_5 ey_5 => ?_)
        have h := h y_5 ey_5
        refine g_istore_n (n := 30) (ls' := [some (.ref 0), some (.int y_5), some (.int x2)]) dX12_freeCount_29 rfl rfl (Nat.le_of_ble_eq_true rfl) (Nat.le_of_ble_eq_true rfl) rfl rfl ?_
        refine g_iinc (n := 33) (v := (x2 + nI 1)) (ls' := [some (.ref 0), some (.int y_5), some (.int (x2 + nI 1))]) dX12_freeCount_30 rfl rfl rfl (Nat.le_of_ble_eq_true rfl) rfl rfl ?_
        refine g_goto 4 dX12_freeCount_33 (by decide) ?_
        exact hL4 _ _ _ _ h
set_option maxRecDepth 20000 in
theorem ctX12_freeCount  {K : Int32 → ab_F → ab_F → Prop} {I A : ab_F}  (h : wX12_freeCount K I A ) : ab_Cl mX12_freeCount 2 0 0 [.ref 0] shM I A (ab_Px shM ab_no (ab_ri K)) := by
  refine ab_enter (ls := [some (.ref 0), none, none]) (by decide +kernel) (Nat.le_of_ble_eq_true rfl) rfl (fun C => ?_)
  unfold wX12_freeCount at h
  refine g_iconst (n := 1) (v := (nI 0)) dX12_freeCount_0 rfl rfl ?_
  refine g_istore_n (n := 2) (ls' := [some (.ref 0), some (.int (nI 0)), none]) dX12_freeCount_1 rfl rfl (Nat.le_of_ble_eq_true rfl) (Nat.le_of_ble_eq_true rfl) rfl rfl ?_
  refine g_iconst (n := 3) (v := (nI 0)) dX12_freeCount_2 rfl rfl ?_
  refine g_istore_n (n := 4) (ls' := [some (.ref 0), some (.int (nI 0)), some (.int (nI 0))]) dX12_freeCount_3 rfl rfl (Nat.le_of_ble_eq_true rfl) (Nat.le_of_ble_eq_true rfl) rfl rfl ?_
  refine g_less (bc' := 0) (bs' := 0) (Nat.le_of_ble_eq_true rfl) (Nat.le_of_ble_eq_true rfl) ?_
  obtain ⟨n_f, h⟩ := h
  exact tlX12_freeCount_4  n_f _ _ _ _ h
def wX12_isSooner (K : Int32 → ab_F → ab_F → Prop) (I A : ab_F) (p0 : Int32) (p1 : Int32) : Prop := (∃ j_1 : Nat, ((nI 464) + p0) = nI j_1 ∧ j_1 < 608 ∧ (∃ j_2 : Nat, ((nI 464) + p1) = nI j_2 ∧ j_2 < 608 ∧ (((A 1 j_1) < (A 1 j_2) → K (nI 1) I A) ∧ (¬ (A 1 j_1) < (A 1 j_2) → (∃ j_3 : Nat, ((nI 464) + p0) = nI j_3 ∧ j_3 < 608 ∧ (∃ j_4 : Nat, ((nI 464) + p1) = nI j_4 ∧ j_4 < 608 ∧ ((¬ (A 1 j_3) = (A 1 j_4) → K (nI 0) I A) ∧ ((A 1 j_3) = (A 1 j_4) → ((p1 ≤ p0 → K (nI 0) I A) ∧ (¬ p1 ≤ p0 → K (nI 1) I A))))))))))
set_option maxRecDepth 20000 in
theorem ctX12_isSooner  {K : Int32 → ab_F → ab_F → Prop} {I A : ab_F} {p0 : Int32} {p1 : Int32} (h : wX12_isSooner K I A p0 p1) : ab_Cl mX12_isSooner 0 0 0 [.ref 0, .int p0, .int p1] shM I A (ab_Px shM ab_no (ab_ri K)) := by
  refine ab_enter (ls := [some (.ref 0), some (.int p0), some (.int p1)]) (by decide +kernel) (Nat.le_of_ble_eq_true rfl) rfl (fun C => ?_)
  unfold wX12_isSooner at h
  refine g_aload_n (n := 1) dX12_isSooner_0 rfl rfl rfl ?_
  refine g_getR (n := 4) (k := 0) dX12_isSooner_1 sM_0 vc_16 (Nat.le_of_ble_eq_true rfl) rfl w_1994 rfl ?_
  refine g_sipush (n := 7) (v := (nI 464)) dX12_isSooner_4 rfl rfl ?_
  refine g_iload_n (n := 8) dX12_isSooner_7 rfl rfl rfl ?_
  refine g_iadd (n := 9) dX12_isSooner_8 rfl ?_
  obtain ⟨j_1, hj, hl, h⟩ := h
  refine g_ialdJ (n := 10) (j := j_1) (x := (A 1 j_1)) dX12_isSooner_9 sM_1 hj hl (by decide) rfl rfl ?_
  refine g_aload_n (n := 11) dX12_isSooner_10 rfl rfl rfl ?_
  refine g_getR (n := 14) (k := 0) dX12_isSooner_11 sM_0 vc_16 (Nat.le_of_ble_eq_true rfl) rfl w_1994 rfl ?_
  refine g_sipush (n := 17) (v := (nI 464)) dX12_isSooner_14 rfl rfl ?_
  refine g_iload_n (n := 18) dX12_isSooner_17 rfl rfl rfl ?_
  refine g_iadd (n := 19) dX12_isSooner_18 rfl ?_
  obtain ⟨j_2, hj, hl, h⟩ := h
  refine g_ialdJ (n := 20) (j := j_2) (x := (A 1 j_2)) dX12_isSooner_19 sM_1 hj hl (by decide) rfl rfl ?_
  refine g_icmp_lt (n := 23) 51 dX12_isSooner_20 (by decide) rfl (fun hc => ?_) (fun hc => ?_)
  · have h := h.1 hc
    refine g_iconst (n := 52) (v := (nI 1)) dX12_isSooner_51 rfl rfl ?_
    refine g_goto 56 dX12_isSooner_52 (by decide) ?_
    exact g_iret rfl rfl dX12_isSooner_56 ⟨rfl, _, rfl, h⟩
  · have h := h.2 hc
    refine g_aload_n (n := 24) dX12_isSooner_23 rfl rfl rfl ?_
    refine g_getR (n := 27) (k := 0) dX12_isSooner_24 sM_0 vc_16 (Nat.le_of_ble_eq_true rfl) rfl w_1994 rfl ?_
    refine g_sipush (n := 30) (v := (nI 464)) dX12_isSooner_27 rfl rfl ?_
    refine g_iload_n (n := 31) dX12_isSooner_30 rfl rfl rfl ?_
    refine g_iadd (n := 32) dX12_isSooner_31 rfl ?_
    obtain ⟨j_3, hj, hl, h⟩ := h
    refine g_ialdJ (n := 33) (j := j_3) (x := (A 1 j_3)) dX12_isSooner_32 sM_1 hj hl (by decide) rfl rfl ?_
    refine g_aload_n (n := 34) dX12_isSooner_33 rfl rfl rfl ?_
    refine g_getR (n := 37) (k := 0) dX12_isSooner_34 sM_0 vc_16 (Nat.le_of_ble_eq_true rfl) rfl w_1994 rfl ?_
    refine g_sipush (n := 40) (v := (nI 464)) dX12_isSooner_37 rfl rfl ?_
    refine g_iload_n (n := 41) dX12_isSooner_40 rfl rfl rfl ?_
    refine g_iadd (n := 42) dX12_isSooner_41 rfl ?_
    obtain ⟨j_4, hj, hl, h⟩ := h
    refine g_ialdJ (n := 43) (j := j_4) (x := (A 1 j_4)) dX12_isSooner_42 sM_1 hj hl (by decide) rfl rfl ?_
    refine g_icmp_ne (n := 46) 55 dX12_isSooner_43 (by decide) rfl (fun hc => ?_) (fun hc => ?_)
    · have h := h.1 hc
      refine g_iconst (n := 56) (v := (nI 0)) dX12_isSooner_55 rfl rfl ?_
      exact g_iret rfl rfl dX12_isSooner_56 ⟨rfl, _, rfl, h⟩
    · have h := h.2 hc
      refine g_iload_n (n := 47) dX12_isSooner_46 rfl rfl rfl ?_
      refine g_iload_n (n := 48) dX12_isSooner_47 rfl rfl rfl ?_
      refine g_icmp_ge (n := 51) 55 dX12_isSooner_48 (by decide) rfl (fun hc => ?_) (fun hc => ?_)
      · have h := h.1 hc
        refine g_iconst (n := 56) (v := (nI 0)) dX12_isSooner_55 rfl rfl ?_
        exact g_iret rfl rfl dX12_isSooner_56 ⟨rfl, _, rfl, h⟩
      · have h := h.2 hc
        refine g_iconst (n := 52) (v := (nI 1)) dX12_isSooner_51 rfl rfl ?_
        refine g_goto 56 dX12_isSooner_52 (by decide) ?_
        exact g_iret rfl rfl dX12_isSooner_56 ⟨rfl, _, rfl, h⟩
def wlX12_nextFree_4 (K : Int32 → ab_F → ab_F → Prop) : Nat → Int32 → Int32 → ab_F → ab_F → Prop
  | 0, _, _, _, _ => False
  | n + 1, x1, x2, I, A => (((A 1 1) ≤ x2 → K x1 I A) ∧ (¬ (A 1 1) ≤ x2 → wX12_useOf (fun r_3 I_1 A_2 => ((¬ r_3 = 0 → (wlX12_nextFree_4 K n) x1 (x2 + nI 1) I_1 A_2) ∧ (r_3 = 0 → ((x1 = (-1 : Int32) → (wlX12_nextFree_4 K n) x2 (x2 + nI 1) I_1 A_2) ∧ (¬ x1 = (-1 : Int32) → wX12_isSooner (fun r_6 I_4 A_5 => ((r_6 = 0 → (wlX12_nextFree_4 K n) x1 (x2 + nI 1) I_4 A_5) ∧ (¬ r_6 = 0 → (wlX12_nextFree_4 K n) x2 (x2 + nI 1) I_4 A_5))) I_1 A_2 x2 x1))))) I A x2))
def wX12_nextFree (K : Int32 → ab_F → ab_F → Prop) (I A : ab_F)  : Prop := (∃ nf : Nat, wlX12_nextFree_4 K nf (-1 : Int32) (nI 0) I A)
set_option maxRecDepth 20000 in
theorem tlX12_nextFree_4 {C : ab_X}  {K : Int32 → ab_F → ab_F → Prop} : ∀ (n : Nat) (x1 : Int32) (x2 : Int32) (I A : ab_F), wlX12_nextFree_4 K n x1 x2 I A → ab_G mX12_nextFree 2 C (ab_Px shM ab_no (ab_ri K)) 4 [some (.ref 0), some (.int x1), some (.int x2)] [] shM I A 0 0 := by
  intro n
  induction n with
  | zero => intro x1 x2 I A h; exact h.elim
  | succ n hL4 =>
    intro x1 x2 I A h
    rw [wlX12_nextFree_4] at h
    refine g_iload_n (n := 5) dX12_nextFree_4 rfl rfl rfl ?_
    refine g_aload_n (n := 6) dX12_nextFree_5 rfl rfl rfl ?_
    refine g_getR (n := 9) (k := 0) dX12_nextFree_6 sM_0 vc_16 (Nat.le_of_ble_eq_true rfl) rfl w_1994 rfl ?_
    refine g_iconst (n := 10) (v := (nI 1)) dX12_nextFree_9 rfl rfl ?_
    refine g_ialdJ (n := 11) (j := 1) (x := (A 1 1)) dX12_nextFree_10 sM_1 rfl (Nat.le_of_ble_eq_true rfl) (by decide) rfl rfl ?_
    refine g_icmp_ge (n := 14) 44 dX12_nextFree_11 (by decide) rfl (fun hc => ?_) (fun hc => ?_)
    · have h := h.1 hc
      refine g_iload_n (n := 45) dX12_nextFree_44 rfl rfl rfl ?_
      exact g_iret rfl rfl dX12_nextFree_45 ⟨rfl, _, rfl, h⟩
    · have h := h.2 hc
      refine g_aload_n (n := 15) dX12_nextFree_14 rfl rfl rfl ?_
      refine g_iload_n (n := 16) dX12_nextFree_15 rfl rfl rfl ?_
      refine g_callV (n := 19) (as := [.int x2]) (bc' := 0) (bs' := 0) sM_0 vc_16 (ctX12_useOf h) okX12_useOf rfl w_2211 w_2213 w_46 w_112 dX12_nextFree_16 rfl rfl (Nat.le_of_ble_eq_true rfl) (Nat.le_of_ble_eq_true rfl) (Nat.le_of_ble_eq_true rfl) (Nat.le_of_ble_eq_true rfl) rfl (fun E sh1 I1 A1 hp _ => hp.2.elim) (fun ro sh_ I_1 A_2 hp hle => ?_)
      obtain ⟨rfl, r_3, rfl, h⟩ := hp
      refine g_if_ne (n := 22) 38 dX12_nextFree_19 (by decide) rfl (fun hc => ?_) (fun hc => ?_)
      · have h := h.1 hc
        refine g_iinc (n := 41) (v := (x2 + nI 1)) (ls' := [some (.ref 0), some (.int x1), some (.int (x2 + nI 1))]) dX12_nextFree_38 rfl rfl rfl (Nat.le_of_ble_eq_true rfl) rfl rfl ?_
        refine g_goto 4 dX12_nextFree_41 (by decide) ?_
        exact hL4 _ _ _ _ h
      · have h := h.2 hc
        refine g_iload_n (n := 23) dX12_nextFree_22 rfl rfl rfl ?_
        refine g_iconst (n := 24) (v := (-1 : Int32)) dX12_nextFree_23 rfl rfl ?_
        refine g_icmp_eq (n := 27) 36 dX12_nextFree_24 (by decide) rfl (fun hc => ?_) (fun hc => ?_)
        · have h := h.1 hc
          refine g_iload_n (n := 37) dX12_nextFree_36 rfl rfl rfl ?_
          refine g_istore_n (n := 38) (ls' := [some (.ref 0), some (.int x2), some (.int x2)]) dX12_nextFree_37 rfl rfl (Nat.le_of_ble_eq_true rfl) (Nat.le_of_ble_eq_true rfl) rfl rfl ?_
          refine g_iinc (n := 41) (v := (x2 + nI 1)) (ls' := [some (.ref 0), some (.int x2), some (.int (x2 + nI 1))]) dX12_nextFree_38 rfl rfl rfl (Nat.le_of_ble_eq_true rfl) rfl rfl ?_
          refine g_goto 4 dX12_nextFree_41 (by decide) ?_
          exact hL4 _ _ _ _ h
        · have h := h.2 hc
          refine g_aload_n (n := 28) dX12_nextFree_27 rfl rfl rfl ?_
          refine g_iload_n (n := 29) dX12_nextFree_28 rfl rfl rfl ?_
          refine g_iload_n (n := 30) dX12_nextFree_29 rfl rfl rfl ?_
          refine g_callV (n := 33) (as := [.int x2, .int x1]) (bc' := 0) (bs' := 0) sM_0 vc_16 (ctX12_isSooner h) okX12_isSooner rfl w_2219 w_2221 w_48 w_112 dX12_nextFree_30 rfl rfl (Nat.le_of_ble_eq_true rfl) (Nat.le_of_ble_eq_true rfl) (Nat.le_of_ble_eq_true rfl) (Nat.le_of_ble_eq_true rfl) rfl (fun E sh1 I1 A1 hp _ => hp.2.elim) (fun ro sh_ I_4 A_5 hp hle => ?_)
          obtain ⟨rfl, r_6, rfl, h⟩ := hp
          refine g_if_eq (n := 36) 38 dX12_nextFree_33 (by decide) rfl (fun hc => ?_) (fun hc => ?_)
          · have h := h.1 hc
            refine g_iinc (n := 41) (v := (x2 + nI 1)) (ls' := [some (.ref 0), some (.int x1), some (.int (x2 + nI 1))]) dX12_nextFree_38 rfl rfl rfl (Nat.le_of_ble_eq_true rfl) rfl rfl ?_
            refine g_goto 4 dX12_nextFree_41 (by decide) ?_
            exact hL4 _ _ _ _ h
          · have h := h.2 hc
            refine g_iload_n (n := 37) dX12_nextFree_36 rfl rfl rfl ?_
            refine g_istore_n (n := 38) (ls' := [some (.ref 0), some (.int x2), some (.int x2)]) dX12_nextFree_37 rfl rfl (Nat.le_of_ble_eq_true rfl) (Nat.le_of_ble_eq_true rfl) rfl rfl ?_
            refine g_iinc (n := 41) (v := (x2 + nI 1)) (ls' := [some (.ref 0), some (.int x2), some (.int (x2 + nI 1))]) dX12_nextFree_38 rfl rfl rfl (Nat.le_of_ble_eq_true rfl) rfl rfl ?_
            refine g_goto 4 dX12_nextFree_41 (by decide) ?_
            exact hL4 _ _ _ _ h
set_option maxRecDepth 20000 in
theorem ctX12_nextFree  {K : Int32 → ab_F → ab_F → Prop} {I A : ab_F}  (h : wX12_nextFree K I A ) : ab_Cl mX12_nextFree 2 0 0 [.ref 0] shM I A (ab_Px shM ab_no (ab_ri K)) := by
  refine ab_enter (ls := [some (.ref 0), none, none]) (by decide +kernel) (Nat.le_of_ble_eq_true rfl) rfl (fun C => ?_)
  unfold wX12_nextFree at h
  refine g_iconst (n := 1) (v := (-1 : Int32)) dX12_nextFree_0 rfl rfl ?_
  refine g_istore_n (n := 2) (ls' := [some (.ref 0), some (.int (-1 : Int32)), none]) dX12_nextFree_1 rfl rfl (Nat.le_of_ble_eq_true rfl) (Nat.le_of_ble_eq_true rfl) rfl rfl ?_
  refine g_iconst (n := 3) (v := (nI 0)) dX12_nextFree_2 rfl rfl ?_
  refine g_istore_n (n := 4) (ls' := [some (.ref 0), some (.int (-1 : Int32)), some (.int (nI 0))]) dX12_nextFree_3 rfl rfl (Nat.le_of_ble_eq_true rfl) (Nat.le_of_ble_eq_true rfl) rfl rfl ?_
  refine g_less (bc' := 0) (bs' := 0) (Nat.le_of_ble_eq_true rfl) (Nat.le_of_ble_eq_true rfl) ?_
  obtain ⟨n_f, h⟩ := h
  exact tlX12_nextFree_4  n_f _ _ _ _ h
def wX12_isPending (K : Int32 → ab_F → ab_F → Prop) (I A : ab_F) (p0 : Int32) : Prop := wX12_has (fun r_3 I_1 A_2 => ((r_3 = 0 → K (nI 0) I_1 A_2) ∧ (¬ r_3 = 0 → (∃ j_4 : Nat, ((nI 224) + p0) = nI j_4 ∧ j_4 < 608 ∧ ((¬ (A_2 1 j_4) = (-2 : Int32) → K (nI 0) I_1 A_2) ∧ ((A_2 1 j_4) = (-2 : Int32) → K (nI 1) I_1 A_2)))))) I A (A 1 10) (p0 / (nI 8))
set_option maxRecDepth 20000 in
theorem ctX12_isPending  {K : Int32 → ab_F → ab_F → Prop} {I A : ab_F} {p0 : Int32} (h : wX12_isPending K I A p0) : ab_Cl mX12_isPending 1 0 0 [.ref 0, .int p0] shM I A (ab_Px shM ab_no (ab_ri K)) := by
  refine ab_enter (ls := [some (.ref 0), some (.int p0)]) (by decide +kernel) (Nat.le_of_ble_eq_true rfl) rfl (fun C => ?_)
  unfold wX12_isPending at h
  refine g_aload_n (n := 1) dX12_isPending_0 rfl rfl rfl ?_
  refine g_getR (n := 4) (k := 0) dX12_isPending_1 sM_0 vc_16 (Nat.le_of_ble_eq_true rfl) rfl w_1994 rfl ?_
  refine g_bipush (n := 6) (v := (nI 10)) dX12_isPending_4 rfl rfl ?_
  refine g_ialdJ (n := 7) (j := 10) (x := (A 1 10)) dX12_isPending_6 sM_1 rfl (Nat.le_of_ble_eq_true rfl) (by decide) rfl rfl ?_
  refine g_iload_n (n := 8) dX12_isPending_7 rfl rfl rfl ?_
  refine g_bipush (n := 10) (v := (nI 8)) dX12_isPending_8 rfl rfl ?_
  refine g_idiv (n := 11) dX12_isPending_10 (by decide) rfl ?_
  refine g_callS (n := 14) (as := [.int (A 1 10), .int (p0 / (nI 8))]) (bc' := 0) (bs' := 0) (ctX12_has h) okX12_has w_2204 w_2205 dX12_isPending_11 rfl rfl (Nat.le_of_ble_eq_true rfl) (Nat.le_of_ble_eq_true rfl) (Nat.le_of_ble_eq_true rfl) (Nat.le_of_ble_eq_true rfl) rfl (fun E sh1 I1 A1 hp _ => hp.2.elim) (fun ro sh_ I_1 A_2 hp hle => ?_)
  obtain ⟨rfl, r_3, rfl, h⟩ := hp
  refine g_if_eq (n := 17) 36 dX12_isPending_14 (by decide) rfl (fun hc => ?_) (fun hc => ?_)
  · have h := h.1 hc
    refine g_iconst (n := 37) (v := (nI 0)) dX12_isPending_36 rfl rfl ?_
    exact g_iret rfl rfl dX12_isPending_37 ⟨rfl, _, rfl, h⟩
  · have h := h.2 hc
    refine g_aload_n (n := 18) dX12_isPending_17 rfl rfl rfl ?_
    refine g_getR (n := 21) (k := 0) dX12_isPending_18 sM_0 vc_16 (Nat.le_of_ble_eq_true rfl) rfl w_1994 rfl ?_
    refine g_sipush (n := 24) (v := (nI 224)) dX12_isPending_21 rfl rfl ?_
    refine g_iload_n (n := 25) dX12_isPending_24 rfl rfl rfl ?_
    refine g_iadd (n := 26) dX12_isPending_25 rfl ?_
    obtain ⟨j_4, hj, hl, h⟩ := h
    refine g_ialdJ (n := 27) (j := j_4) (x := (A_2 1 j_4)) dX12_isPending_26 sM_1 hj hl (by decide) rfl rfl ?_
    refine g_bipush (n := 29) (v := (-2 : Int32)) dX12_isPending_27 rfl rfl ?_
    refine g_icmp_ne (n := 32) 36 dX12_isPending_29 (by decide) rfl (fun hc => ?_) (fun hc => ?_)
    · have h := h.1 hc
      refine g_iconst (n := 37) (v := (nI 0)) dX12_isPending_36 rfl rfl ?_
      exact g_iret rfl rfl dX12_isPending_37 ⟨rfl, _, rfl, h⟩
    · have h := h.2 hc
      refine g_iconst (n := 33) (v := (nI 1)) dX12_isPending_32 rfl rfl ?_
      refine g_goto 37 dX12_isPending_33 (by decide) ?_
      exact g_iret rfl rfl dX12_isPending_37 ⟨rfl, _, rfl, h⟩
def wX12_take (K : ab_F → ab_F → Prop) (I A : ab_F) (p0 : Int32) : Prop := wX12_nextFree (fun r_3 I_1 A_2 => (∃ j_4 : Nat, ((nI 32) + p0) = nI j_4 ∧ j_4 < 608 ∧ (∃ j_5 : Nat, ((nI 368) + r_3) = nI j_5 ∧ j_5 < 608 ∧ (∃ j_6 : Nat, ((nI 416) + r_3) = nI j_6 ∧ j_6 < 608 ∧ (∃ j_7 : Nat, ((nI 464) + r_3) = nI j_7 ∧ j_7 < 608 ∧ (∃ j_8 : Nat, ((nI 80) + p0) = nI j_8 ∧ j_8 < 608 ∧ (∃ j_9 : Nat, ((nI 176) + p0) = nI j_9 ∧ j_9 < 608 ∧ wX12_isPending (fun r_12 I_10 A_11 => ((¬ r_12 = 0 → (∃ j_13 : Nat, ((nI 224) + p0) = nI j_13 ∧ j_13 < 608 ∧ K I_10 (wr (wr A_11 1 j_13 r_3) 1 11 (((wr A_11 1 j_13 r_3) 1 11) + (nI 1))))) ∧ (r_12 = 0 → K I_10 A_11))) I_1 (wr (wr (wr (wr (wr (wr A_2 1 j_5 (A_2 1 j_4)) 1 j_6 p0) 1 j_7 ((wr (wr A_2 1 j_5 (A_2 1 j_4)) 1 j_6 p0) 1 4)) 1 j_8 r_3) 1 7 (((wr (wr (wr (wr A_2 1 j_5 (A_2 1 j_4)) 1 j_6 p0) 1 j_7 ((wr (wr A_2 1 j_5 (A_2 1 j_4)) 1 j_6 p0) 1 4)) 1 j_8 r_3) 1 7) + (nI 1))) 1 j_9 (nI 0)) p0))))))) I A 
set_option maxRecDepth 20000 in
theorem ctX12_take  {K : ab_F → ab_F → Prop} {I A : ab_F} {p0 : Int32} (h : wX12_take K I A p0) : ab_Cl mX12_take 3 0 0 [.ref 0, .int p0] shM I A (ab_Px shM ab_no (ab_rv K)) := by
  refine ab_enter (ls := [some (.ref 0), some (.int p0), none]) (by decide +kernel) (Nat.le_of_ble_eq_true rfl) rfl (fun C => ?_)
  unfold wX12_take at h
  refine g_aload_n (n := 1) dX12_take_0 rfl rfl rfl ?_
  refine g_callV (n := 4) (as := []) (bc' := 0) (bs' := 0) sM_0 vc_16 (ctX12_nextFree h) okX12_nextFree rfl w_2207 w_2209 w_45 w_112 dX12_take_1 rfl rfl (Nat.le_of_ble_eq_true rfl) (Nat.le_of_ble_eq_true rfl) (Nat.le_of_ble_eq_true rfl) (Nat.le_of_ble_eq_true rfl) rfl (fun E sh1 I1 A1 hp _ => hp.2.elim) (fun ro sh_ I_1 A_2 hp hle => ?_)
  obtain ⟨rfl, r_3, rfl, h⟩ := hp
  refine g_istore_n (n := 5) (ls' := [some (.ref 0), some (.int p0), some (.int r_3)]) dX12_take_4 rfl rfl (Nat.le_of_ble_eq_true rfl) (Nat.le_of_ble_eq_true rfl) rfl rfl ?_
  refine g_aload_n (n := 6) dX12_take_5 rfl rfl rfl ?_
  refine g_getR (n := 9) (k := 0) dX12_take_6 sM_0 vc_16 (Nat.le_of_ble_eq_true rfl) rfl w_1994 rfl ?_
  refine g_sipush (n := 12) (v := (nI 368)) dX12_take_9 rfl rfl ?_
  refine g_iload_n (n := 13) dX12_take_12 rfl rfl rfl ?_
  refine g_iadd (n := 14) dX12_take_13 rfl ?_
  refine g_aload_n (n := 15) dX12_take_14 rfl rfl rfl ?_
  refine g_getR (n := 18) (k := 0) dX12_take_15 sM_0 vc_16 (Nat.le_of_ble_eq_true rfl) rfl w_1994 rfl ?_
  refine g_bipush (n := 20) (v := (nI 32)) dX12_take_18 rfl rfl ?_
  refine g_iload_n (n := 21) dX12_take_20 rfl rfl rfl ?_
  refine g_iadd (n := 22) dX12_take_21 rfl ?_
  obtain ⟨j_4, hj, hl, h⟩ := h
  refine g_ialdJ (n := 23) (j := j_4) (x := (A_2 1 j_4)) dX12_take_22 sM_1 hj hl (by decide) rfl rfl ?_
  obtain ⟨j_5, hj, hl, h⟩ := h
  refine g_iastJ (n := 24) (j := j_5) dX12_take_23 sM_1 hj hl (by decide) rfl ?_
  refine g_aload_n (n := 25) dX12_take_24 rfl rfl rfl ?_
  refine g_getR (n := 28) (k := 0) dX12_take_25 sM_0 vc_16 (Nat.le_of_ble_eq_true rfl) rfl w_1994 rfl ?_
  refine g_sipush (n := 31) (v := (nI 416)) dX12_take_28 rfl rfl ?_
  refine g_iload_n (n := 32) dX12_take_31 rfl rfl rfl ?_
  refine g_iadd (n := 33) dX12_take_32 rfl ?_
  refine g_iload_n (n := 34) dX12_take_33 rfl rfl rfl ?_
  obtain ⟨j_6, hj, hl, h⟩ := h
  refine g_iastJ (n := 35) (j := j_6) dX12_take_34 sM_1 hj hl (by decide) rfl ?_
  refine g_aload_n (n := 36) dX12_take_35 rfl rfl rfl ?_
  refine g_getR (n := 39) (k := 0) dX12_take_36 sM_0 vc_16 (Nat.le_of_ble_eq_true rfl) rfl w_1994 rfl ?_
  refine g_sipush (n := 42) (v := (nI 464)) dX12_take_39 rfl rfl ?_
  refine g_iload_n (n := 43) dX12_take_42 rfl rfl rfl ?_
  refine g_iadd (n := 44) dX12_take_43 rfl ?_
  refine g_aload_n (n := 45) dX12_take_44 rfl rfl rfl ?_
  refine g_getR (n := 48) (k := 0) dX12_take_45 sM_0 vc_16 (Nat.le_of_ble_eq_true rfl) rfl w_1994 rfl ?_
  refine g_iconst (n := 49) (v := (nI 4)) dX12_take_48 rfl rfl ?_
  refine g_ialdJ (n := 50) (j := 4) (x := ((wr (wr A_2 1 j_5 (A_2 1 j_4)) 1 j_6 p0) 1 4)) dX12_take_49 sM_1 rfl (Nat.le_of_ble_eq_true rfl) (by decide) rfl rfl ?_
  obtain ⟨j_7, hj, hl, h⟩ := h
  refine g_iastJ (n := 51) (j := j_7) dX12_take_50 sM_1 hj hl (by decide) rfl ?_
  refine g_aload_n (n := 52) dX12_take_51 rfl rfl rfl ?_
  refine g_getR (n := 55) (k := 0) dX12_take_52 sM_0 vc_16 (Nat.le_of_ble_eq_true rfl) rfl w_1994 rfl ?_
  refine g_bipush (n := 57) (v := (nI 80)) dX12_take_55 rfl rfl ?_
  refine g_iload_n (n := 58) dX12_take_57 rfl rfl rfl ?_
  refine g_iadd (n := 59) dX12_take_58 rfl ?_
  refine g_iload_n (n := 60) dX12_take_59 rfl rfl rfl ?_
  obtain ⟨j_8, hj, hl, h⟩ := h
  refine g_iastJ (n := 61) (j := j_8) dX12_take_60 sM_1 hj hl (by decide) rfl ?_
  refine g_aload_n (n := 62) dX12_take_61 rfl rfl rfl ?_
  refine g_getR (n := 65) (k := 0) dX12_take_62 sM_0 vc_16 (Nat.le_of_ble_eq_true rfl) rfl w_1994 rfl ?_
  refine g_bipush (n := 67) (v := (nI 7)) dX12_take_65 rfl rfl ?_
  refine g_dup2 (n := 68) dX12_take_67 rfl rfl rfl ?_
  refine g_ialdJ (n := 69) (j := 7) (x := ((wr (wr (wr (wr A_2 1 j_5 (A_2 1 j_4)) 1 j_6 p0) 1 j_7 ((wr (wr A_2 1 j_5 (A_2 1 j_4)) 1 j_6 p0) 1 4)) 1 j_8 r_3) 1 7)) dX12_take_68 sM_1 rfl (Nat.le_of_ble_eq_true rfl) (by decide) rfl rfl ?_
  refine g_iconst (n := 70) (v := (nI 1)) dX12_take_69 rfl rfl ?_
  refine g_iadd (n := 71) dX12_take_70 rfl ?_
  refine g_iastJ (n := 72) (j := 7) dX12_take_71 sM_1 rfl (Nat.le_of_ble_eq_true rfl) (by decide) rfl ?_
  refine g_aload_n (n := 73) dX12_take_72 rfl rfl rfl ?_
  refine g_getR (n := 76) (k := 0) dX12_take_73 sM_0 vc_16 (Nat.le_of_ble_eq_true rfl) rfl w_1994 rfl ?_
  refine g_sipush (n := 79) (v := (nI 176)) dX12_take_76 rfl rfl ?_
  refine g_iload_n (n := 80) dX12_take_79 rfl rfl rfl ?_
  refine g_iadd (n := 81) dX12_take_80 rfl ?_
  refine g_iconst (n := 82) (v := (nI 0)) dX12_take_81 rfl rfl ?_
  obtain ⟨j_9, hj, hl, h⟩ := h
  refine g_iastJ (n := 83) (j := j_9) dX12_take_82 sM_1 hj hl (by decide) rfl ?_
  refine g_aload_n (n := 84) dX12_take_83 rfl rfl rfl ?_
  refine g_iload_n (n := 85) dX12_take_84 rfl rfl rfl ?_
  refine g_callV (n := 88) (as := [.int p0]) (bc' := 0) (bs' := 0) sM_0 vc_16 (ctX12_isPending h) okX12_isPending rfl w_2200 w_2202 w_44 w_112 dX12_take_85 rfl rfl (Nat.le_of_ble_eq_true rfl) (Nat.le_of_ble_eq_true rfl) (Nat.le_of_ble_eq_true rfl) (Nat.le_of_ble_eq_true rfl) rfl (fun E sh1 I1 A1 hp _ => hp.2.elim) (fun ro sh_ I_10 A_11 hp hle => ?_)
  obtain ⟨rfl, r_12, rfl, h⟩ := hp
  refine g_if_ne (n := 91) 92 dX12_take_88 (by decide) rfl (fun hc => ?_) (fun hc => ?_)
  · have h := h.1 hc
    refine g_aload_n (n := 93) dX12_take_92 rfl rfl rfl ?_
    refine g_getR (n := 96) (k := 0) dX12_take_93 sM_0 vc_16 (Nat.le_of_ble_eq_true rfl) rfl w_1994 rfl ?_
    refine g_sipush (n := 99) (v := (nI 224)) dX12_take_96 rfl rfl ?_
    refine g_iload_n (n := 100) dX12_take_99 rfl rfl rfl ?_
    refine g_iadd (n := 101) dX12_take_100 rfl ?_
    refine g_iload_n (n := 102) dX12_take_101 rfl rfl rfl ?_
    obtain ⟨j_13, hj, hl, h⟩ := h
    refine g_iastJ (n := 103) (j := j_13) dX12_take_102 sM_1 hj hl (by decide) rfl ?_
    refine g_aload_n (n := 104) dX12_take_103 rfl rfl rfl ?_
    refine g_getR (n := 107) (k := 0) dX12_take_104 sM_0 vc_16 (Nat.le_of_ble_eq_true rfl) rfl w_1994 rfl ?_
    refine g_bipush (n := 109) (v := (nI 11)) dX12_take_107 rfl rfl ?_
    refine g_dup2 (n := 110) dX12_take_109 rfl rfl rfl ?_
    refine g_ialdJ (n := 111) (j := 11) (x := ((wr A_11 1 j_13 r_3) 1 11)) dX12_take_110 sM_1 rfl (Nat.le_of_ble_eq_true rfl) (by decide) rfl rfl ?_
    refine g_iconst (n := 112) (v := (nI 1)) dX12_take_111 rfl rfl ?_
    refine g_iadd (n := 113) dX12_take_112 rfl ?_
    refine g_iastJ (n := 114) (j := 11) dX12_take_113 sM_1 rfl (Nat.le_of_ble_eq_true rfl) (by decide) rfl ?_
    exact g_vret rfl dX12_take_114 ⟨rfl, rfl, h⟩
  · have h := h.2 hc
    exact g_vret rfl dX12_take_91 ⟨rfl, rfl, h⟩
def wlX12_freeFrame_2 (K : Int32 → ab_F → ab_F → Prop) : Nat → Int32 → ab_F → ab_F → Prop
  | 0, _, _, _ => False
  | n + 1, x1, I, A => (((A 1 0) ≤ x1 → K (-1 : Int32) I A) ∧ (¬ (A 1 0) ≤ x1 → (∃ j_1 : Nat, ((nI 320) + x1) = nI j_1 ∧ j_1 < 608 ∧ ((¬ (A 1 j_1) = (-1 : Int32) → (wlX12_freeFrame_2 K n) (x1 + nI 1) I A) ∧ ((A 1 j_1) = (-1 : Int32) → K x1 I A)))))
def wX12_freeFrame (K : Int32 → ab_F → ab_F → Prop) (I A : ab_F)  : Prop := (∃ nf : Nat, wlX12_freeFrame_2 K nf (nI 0) I A)
set_option maxRecDepth 20000 in
theorem tlX12_freeFrame_2 {C : ab_X}  {K : Int32 → ab_F → ab_F → Prop} : ∀ (n : Nat) (x1 : Int32) (I A : ab_F), wlX12_freeFrame_2 K n x1 I A → ab_G mX12_freeFrame 0 C (ab_Px shM ab_no (ab_ri K)) 2 [some (.ref 0), some (.int x1)] [] shM I A 0 0 := by
  intro n
  induction n with
  | zero => intro x1 I A h; exact h.elim
  | succ n hL2 =>
    intro x1 I A h
    rw [wlX12_freeFrame_2] at h
    refine g_iload_n (n := 3) dX12_freeFrame_2 rfl rfl rfl ?_
    refine g_aload_n (n := 4) dX12_freeFrame_3 rfl rfl rfl ?_
    refine g_getR (n := 7) (k := 0) dX12_freeFrame_4 sM_0 vc_16 (Nat.le_of_ble_eq_true rfl) rfl w_1994 rfl ?_
    refine g_iconst (n := 8) (v := (nI 0)) dX12_freeFrame_7 rfl rfl ?_
    refine g_ialdJ (n := 9) (j := 0) (x := (A 1 0)) dX12_freeFrame_8 sM_1 rfl (Nat.le_of_ble_eq_true rfl) (by decide) rfl rfl ?_
    refine g_icmp_ge (n := 12) 34 dX12_freeFrame_9 (by decide) rfl (fun hc => ?_) (fun hc => ?_)
    · have h := h.1 hc
      refine g_iconst (n := 35) (v := (-1 : Int32)) dX12_freeFrame_34 rfl rfl ?_
      exact g_iret rfl rfl dX12_freeFrame_35 ⟨rfl, _, rfl, h⟩
    · have h := h.2 hc
      refine g_aload_n (n := 13) dX12_freeFrame_12 rfl rfl rfl ?_
      refine g_getR (n := 16) (k := 0) dX12_freeFrame_13 sM_0 vc_16 (Nat.le_of_ble_eq_true rfl) rfl w_1994 rfl ?_
      refine g_sipush (n := 19) (v := (nI 320)) dX12_freeFrame_16 rfl rfl ?_
      refine g_iload_n (n := 20) dX12_freeFrame_19 rfl rfl rfl ?_
      refine g_iadd (n := 21) dX12_freeFrame_20 rfl ?_
      obtain ⟨j_1, hj, hl, h⟩ := h
      refine g_ialdJ (n := 22) (j := j_1) (x := (A 1 j_1)) dX12_freeFrame_21 sM_1 hj hl (by decide) rfl rfl ?_
      refine g_iconst (n := 23) (v := (-1 : Int32)) dX12_freeFrame_22 rfl rfl ?_
      refine g_icmp_ne (n := 26) 28 dX12_freeFrame_23 (by decide) rfl (fun hc => ?_) (fun hc => ?_)
      · have h := h.1 hc
        refine g_iinc (n := 31) (v := (x1 + nI 1)) (ls' := [some (.ref 0), some (.int (x1 + nI 1))]) dX12_freeFrame_28 rfl rfl rfl (Nat.le_of_ble_eq_true rfl) rfl rfl ?_
        refine g_goto 2 dX12_freeFrame_31 (by decide) ?_
        exact hL2 _ _ _ h
      · have h := h.2 hc
        refine g_iload_n (n := 27) dX12_freeFrame_26 rfl rfl rfl ?_
        exact g_iret rfl rfl dX12_freeFrame_27 ⟨rfl, _, rfl, h⟩
set_option maxRecDepth 20000 in
theorem ctX12_freeFrame  {K : Int32 → ab_F → ab_F → Prop} {I A : ab_F}  (h : wX12_freeFrame K I A ) : ab_Cl mX12_freeFrame 0 0 0 [.ref 0] shM I A (ab_Px shM ab_no (ab_ri K)) := by
  refine ab_enter (ls := [some (.ref 0), none]) (by decide +kernel) (Nat.le_of_ble_eq_true rfl) rfl (fun C => ?_)
  unfold wX12_freeFrame at h
  refine g_iconst (n := 1) (v := (nI 0)) dX12_freeFrame_0 rfl rfl ?_
  refine g_istore_n (n := 2) (ls' := [some (.ref 0), some (.int (nI 0))]) dX12_freeFrame_1 rfl rfl (Nat.le_of_ble_eq_true rfl) (Nat.le_of_ble_eq_true rfl) rfl rfl ?_
  refine g_less (bc' := 0) (bs' := 0) (Nat.le_of_ble_eq_true rfl) (Nat.le_of_ble_eq_true rfl) ?_
  obtain ⟨n_f, h⟩ := h
  exact tlX12_freeFrame_2  n_f _ _ _ h
def wjX12_leastBy_47 (K : Int32 → ab_F → ab_F → Prop) (L5 : Int32 → Int32 → Int32 → Int32 → ab_F → ab_F → Prop) (x1 : Int32) (x2 : Int32) (x3 : Int32) (x4 : Int32) (I A : ab_F) : Prop := ((x3 = (-1 : Int32) → L5 x1 x2 x4 (x4 + nI 1) I A) ∧ (¬ x3 = (-1 : Int32) → (∃ j_1 : Nat, (x1 + x4) = nI j_1 ∧ j_1 < 608 ∧ (∃ j_2 : Nat, (x1 + x3) = nI j_2 ∧ j_2 < 608 ∧ (((A 1 j_2) ≤ (A 1 j_1) → L5 x1 x2 x3 (x4 + nI 1) I A) ∧ (¬ (A 1 j_2) ≤ (A 1 j_1) → L5 x1 x2 x4 (x4 + nI 1) I A))))))
def wlX12_leastBy_5 (K : Int32 → ab_F → ab_F → Prop) : Nat → Int32 → Int32 → Int32 → Int32 → ab_F → ab_F → Prop
  | 0, _, _, _, _, _, _ => False
  | n + 1, x1, x2, x3, x4, I, A => (((A 1 0) ≤ x4 → K x3 I A) ∧ (¬ (A 1 0) ≤ x4 → ((x2 = 0 → wjX12_leastBy_47 K (wlX12_leastBy_5 K n) x1 x2 x3 x4 I A) ∧ (¬ x2 = 0 → (∃ j_3 : Nat, ((nI 320) + x4) = nI j_3 ∧ j_3 < 608 ∧ (∃ j_4 : Nat, ((nI 176) + (A 1 j_3)) = nI j_4 ∧ j_4 < 608 ∧ ((¬ (A 1 j_4) = (nI 1) → wjX12_leastBy_47 K (wlX12_leastBy_5 K n) x1 x2 x3 x4 I A) ∧ ((A 1 j_4) = (nI 1) → (wlX12_leastBy_5 K n) x1 x2 x3 (x4 + nI 1) I A))))))))
def wX12_leastBy (K : Int32 → ab_F → ab_F → Prop) (I A : ab_F) (p0 : Int32) (p1 : Int32) : Prop := (∃ nf : Nat, wlX12_leastBy_5 K nf p0 p1 (-1 : Int32) (nI 0) I A)
set_option maxRecDepth 20000 in
theorem tjX12_leastBy_47 {C : ab_X}  {K : Int32 → ab_F → ab_F → Prop} {L5 : Int32 → Int32 → Int32 → Int32 → ab_F → ab_F → Prop} (hL5 : ∀ (x1 : Int32) (x2 : Int32) (x3 : Int32) (x4 : Int32) (I A : ab_F), L5 x1 x2 x3 x4 I A → ab_G mX12_leastBy 0 C (ab_Px shM ab_no (ab_ri K)) 5 [some (.ref 0), some (.int x1), some (.int x2), some (.int x3), some (.int x4)] [] shM I A 0 0) (x1 : Int32) (x2 : Int32) (x3 : Int32) (x4 : Int32) (I A : ab_F) (h : wjX12_leastBy_47 K L5 x1 x2 x3 x4 I A) : ab_G mX12_leastBy 0 C (ab_Px shM ab_no (ab_ri K)) 47 [some (.ref 0), some (.int x1), some (.int x2), some (.int x3), some (.int x4)] [] shM I A 0 0 := by
  unfold wjX12_leastBy_47 at h
  refine g_iload_n (n := 48) dX12_leastBy_47 rfl rfl rfl ?_
  refine g_iconst (n := 49) (v := (-1 : Int32)) dX12_leastBy_48 rfl rfl ?_
  refine g_icmp_eq (n := 52) 72 dX12_leastBy_49 (by decide) rfl (fun hc => ?_) (fun hc => ?_)
  · have h := h.1 hc
    refine g_iload (n := 74) dX12_leastBy_72 rfl rfl ?_
    refine g_istore_n (n := 75) (ls' := [some (.ref 0), some (.int x1), some (.int x2), some (.int x4), some (.int x4)]) dX12_leastBy_74 rfl rfl (Nat.le_of_ble_eq_true rfl) (Nat.le_of_ble_eq_true rfl) rfl rfl ?_
    refine g_iinc (n := 78) (v := (x4 + nI 1)) (ls' := [some (.ref 0), some (.int x1), some (.int x2), some (.int x4), some (.int (x4 + nI 1))]) dX12_leastBy_75 rfl rfl rfl (Nat.le_of_ble_eq_true rfl) rfl rfl ?_
    refine g_goto 5 dX12_leastBy_78 (by decide) ?_
    exact hL5 _ _ _ _ _ _ h
  · have h := h.2 hc
    refine g_aload_n (n := 53) dX12_leastBy_52 rfl rfl rfl ?_
    refine g_getR (n := 56) (k := 0) dX12_leastBy_53 sM_0 vc_16 (Nat.le_of_ble_eq_true rfl) rfl w_1994 rfl ?_
    refine g_iload_n (n := 57) dX12_leastBy_56 rfl rfl rfl ?_
    refine g_iload (n := 59) dX12_leastBy_57 rfl rfl ?_
    refine g_iadd (n := 60) dX12_leastBy_59 rfl ?_
    obtain ⟨j_1, hj, hl, h⟩ := h
    refine g_ialdJ (n := 61) (j := j_1) (x := (A 1 j_1)) dX12_leastBy_60 sM_1 hj hl (by decide) rfl rfl ?_
    refine g_aload_n (n := 62) dX12_leastBy_61 rfl rfl rfl ?_
    refine g_getR (n := 65) (k := 0) dX12_leastBy_62 sM_0 vc_16 (Nat.le_of_ble_eq_true rfl) rfl w_1994 rfl ?_
    refine g_iload_n (n := 66) dX12_leastBy_65 rfl rfl rfl ?_
    refine g_iload_n (n := 67) dX12_leastBy_66 rfl rfl rfl ?_
    refine g_iadd (n := 68) dX12_leastBy_67 rfl ?_
    obtain ⟨j_2, hj, hl, h⟩ := h
    refine g_ialdJ (n := 69) (j := j_2) (x := (A 1 j_2)) dX12_leastBy_68 sM_1 hj hl (by decide) rfl rfl ?_
    refine g_icmp_ge (n := 72) 75 dX12_leastBy_69 (by decide) rfl (fun hc => ?_) (fun hc => ?_)
    · have h := h.1 hc
      refine g_iinc (n := 78) (v := (x4 + nI 1)) (ls' := [some (.ref 0), some (.int x1), some (.int x2), some (.int x3), some (.int (x4 + nI 1))]) dX12_leastBy_75 rfl rfl rfl (Nat.le_of_ble_eq_true rfl) rfl rfl ?_
      refine g_goto 5 dX12_leastBy_78 (by decide) ?_
      exact hL5 _ _ _ _ _ _ h
    · have h := h.2 hc
      refine g_iload (n := 74) dX12_leastBy_72 rfl rfl ?_
      refine g_istore_n (n := 75) (ls' := [some (.ref 0), some (.int x1), some (.int x2), some (.int x4), some (.int x4)]) dX12_leastBy_74 rfl rfl (Nat.le_of_ble_eq_true rfl) (Nat.le_of_ble_eq_true rfl) rfl rfl ?_
      refine g_iinc (n := 78) (v := (x4 + nI 1)) (ls' := [some (.ref 0), some (.int x1), some (.int x2), some (.int x4), some (.int (x4 + nI 1))]) dX12_leastBy_75 rfl rfl rfl (Nat.le_of_ble_eq_true rfl) rfl rfl ?_
      refine g_goto 5 dX12_leastBy_78 (by decide) ?_
      exact hL5 _ _ _ _ _ _ h
set_option maxRecDepth 20000 in
theorem tlX12_leastBy_5 {C : ab_X}  {K : Int32 → ab_F → ab_F → Prop} : ∀ (n : Nat) (x1 : Int32) (x2 : Int32) (x3 : Int32) (x4 : Int32) (I A : ab_F), wlX12_leastBy_5 K n x1 x2 x3 x4 I A → ab_G mX12_leastBy 0 C (ab_Px shM ab_no (ab_ri K)) 5 [some (.ref 0), some (.int x1), some (.int x2), some (.int x3), some (.int x4)] [] shM I A 0 0 := by
  intro n
  induction n with
  | zero => intro x1 x2 x3 x4 I A h; exact h.elim
  | succ n hL5 =>
    intro x1 x2 x3 x4 I A h
    rw [wlX12_leastBy_5] at h
    refine g_iload (n := 7) dX12_leastBy_5 rfl rfl ?_
    refine g_aload_n (n := 8) dX12_leastBy_7 rfl rfl rfl ?_
    refine g_getR (n := 11) (k := 0) dX12_leastBy_8 sM_0 vc_16 (Nat.le_of_ble_eq_true rfl) rfl w_1994 rfl ?_
    refine g_iconst (n := 12) (v := (nI 0)) dX12_leastBy_11 rfl rfl ?_
    refine g_ialdJ (n := 13) (j := 0) (x := (A 1 0)) dX12_leastBy_12 sM_1 rfl (Nat.le_of_ble_eq_true rfl) (by decide) rfl rfl ?_
    refine g_icmp_ge (n := 16) 81 dX12_leastBy_13 (by decide) rfl (fun hc => ?_) (fun hc => ?_)
    · have h := h.1 hc
      refine g_iload_n (n := 82) dX12_leastBy_81 rfl rfl rfl ?_
      exact g_iret rfl rfl dX12_leastBy_82 ⟨rfl, _, rfl, h⟩
    · have h := h.2 hc
      refine g_iload_n (n := 17) dX12_leastBy_16 rfl rfl rfl ?_
      refine g_if_eq (n := 20) 47 dX12_leastBy_17 (by decide) rfl (fun hc => ?_) (fun hc => ?_)
      · have h := h.1 hc
        refine g_less (bc' := 0) (bs' := 0) (Nat.le_of_ble_eq_true rfl) (Nat.le_of_ble_eq_true rfl) ?_
        exact tjX12_leastBy_47 hL5 _ _ _ _ _ _ h
      · have h := h.2 hc
        refine g_aload_n (n := 21) dX12_leastBy_20 rfl rfl rfl ?_
        refine g_getR (n := 24) (k := 0) dX12_leastBy_21 sM_0 vc_16 (Nat.le_of_ble_eq_true rfl) rfl w_1994 rfl ?_
        refine g_sipush (n := 27) (v := (nI 176)) dX12_leastBy_24 rfl rfl ?_
        refine g_aload_n (n := 28) dX12_leastBy_27 rfl rfl rfl ?_
        refine g_getR (n := 31) (k := 0) dX12_leastBy_28 sM_0 vc_16 (Nat.le_of_ble_eq_true rfl) rfl w_1994 rfl ?_
        refine g_sipush (n := 34) (v := (nI 320)) dX12_leastBy_31 rfl rfl ?_
        refine g_iload (n := 36) dX12_leastBy_34 rfl rfl ?_
        refine g_iadd (n := 37) dX12_leastBy_36 rfl ?_
        obtain ⟨j_3, hj, hl, h⟩ := h
        refine g_ialdJ (n := 38) (j := j_3) (x := (A 1 j_3)) dX12_leastBy_37 sM_1 hj hl (by decide) rfl rfl ?_
        refine g_iadd (n := 39) dX12_leastBy_38 rfl ?_
        obtain ⟨j_4, hj, hl, h⟩ := h
        refine g_ialdJ (n := 40) (j := j_4) (x := (A 1 j_4)) dX12_leastBy_39 sM_1 hj hl (by decide) rfl rfl ?_
        refine g_iconst (n := 41) (v := (nI 1)) dX12_leastBy_40 rfl rfl ?_
        refine g_icmp_ne (n := 44) 47 dX12_leastBy_41 (by decide) rfl (fun hc => ?_) (fun hc => ?_)
        · have h := h.1 hc
          refine g_less (bc' := 0) (bs' := 0) (Nat.le_of_ble_eq_true rfl) (Nat.le_of_ble_eq_true rfl) ?_
          exact tjX12_leastBy_47 hL5 _ _ _ _ _ _ h
        · have h := h.2 hc
          refine g_goto 75 dX12_leastBy_44 (by decide) ?_
          refine g_iinc (n := 78) (v := (x4 + nI 1)) (ls' := [some (.ref 0), some (.int x1), some (.int x2), some (.int x3), some (.int (x4 + nI 1))]) dX12_leastBy_75 rfl rfl rfl (Nat.le_of_ble_eq_true rfl) rfl rfl ?_
          refine g_goto 5 dX12_leastBy_78 (by decide) ?_
          exact hL5 _ _ _ _ _ _ h
set_option maxRecDepth 20000 in
theorem ctX12_leastBy  {K : Int32 → ab_F → ab_F → Prop} {I A : ab_F} {p0 : Int32} {p1 : Int32} (h : wX12_leastBy K I A p0 p1) : ab_Cl mX12_leastBy 0 0 0 [.ref 0, .int p0, .int p1] shM I A (ab_Px shM ab_no (ab_ri K)) := by
  refine ab_enter (ls := [some (.ref 0), some (.int p0), some (.int p1), none, none]) (by decide +kernel) (Nat.le_of_ble_eq_true rfl) rfl (fun C => ?_)
  unfold wX12_leastBy at h
  refine g_iconst (n := 1) (v := (-1 : Int32)) dX12_leastBy_0 rfl rfl ?_
  refine g_istore_n (n := 2) (ls' := [some (.ref 0), some (.int p0), some (.int p1), some (.int (-1 : Int32)), none]) dX12_leastBy_1 rfl rfl (Nat.le_of_ble_eq_true rfl) (Nat.le_of_ble_eq_true rfl) rfl rfl ?_
  refine g_iconst (n := 3) (v := (nI 0)) dX12_leastBy_2 rfl rfl ?_
  refine g_istore (n := 5) (ls' := [some (.ref 0), some (.int p0), some (.int p1), some (.int (-1 : Int32)), some (.int (nI 0))]) dX12_leastBy_3 rfl (Nat.le_of_ble_eq_true rfl) (Nat.le_of_ble_eq_true rfl) rfl rfl ?_
  refine g_less (bc' := 0) (bs' := 0) (Nat.le_of_ble_eq_true rfl) (Nat.le_of_ble_eq_true rfl) ?_
  obtain ⟨n_f, h⟩ := h
  exact tlX12_leastBy_5  n_f _ _ _ _ _ _ h
def wjX12_victimFrame_41 (K : Int32 → ab_F → ab_F → Prop) (s0 : Int32) (I A : ab_F) : Prop := ((¬ s0 = (-1 : Int32) → K s0 I A) ∧ (s0 = (-1 : Int32) → wX12_leastBy (fun r_3 I_1 A_2 => K r_3 I_1 A_2) I A (nI 336) (nI 0)))
def wX12_victimFrame (K : Int32 → ab_F → ab_F → Prop) (I A : ab_F)  : Prop := ((¬ (A 1 2) = (nI 1) → ((¬ (A 1 2) = (nI 2) → wjX12_victimFrame_41 K (-1 : Int32) I A) ∧ ((A 1 2) = (nI 2) → wX12_leastBy (fun r_6 I_4 A_5 => wjX12_victimFrame_41 K r_6 I_4 A_5) I A (nI 336) (nI 1)))) ∧ ((A 1 2) = (nI 1) → wX12_leastBy (fun r_9 I_7 A_8 => K r_9 I_7 A_8) I A (nI 352) (nI 0)))
set_option maxRecDepth 20000 in
theorem tjX12_victimFrame_41 {C : ab_X}  {K : Int32 → ab_F → ab_F → Prop} (s0 : Int32) (I A : ab_F) (h : wjX12_victimFrame_41 K s0 I A) : ab_G mX12_victimFrame 1 C (ab_Px shM ab_no (ab_ri K)) 41 [some (.ref 0), none] [.int s0] shM I A 0 0 := by
  unfold wjX12_victimFrame_41 at h
  refine g_istore_n (n := 42) (ls' := [some (.ref 0), some (.int s0)]) dX12_victimFrame_41 rfl rfl (Nat.le_of_ble_eq_true rfl) (Nat.le_of_ble_eq_true rfl) rfl rfl ?_
  refine g_iload_n (n := 43) dX12_victimFrame_42 rfl rfl rfl ?_
  refine g_iconst (n := 44) (v := (-1 : Int32)) dX12_victimFrame_43 rfl rfl ?_
  refine g_icmp_ne (n := 47) 58 dX12_victimFrame_44 (by decide) rfl (fun hc => ?_) (fun hc => ?_)
  · have h := h.1 hc
    refine g_iload_n (n := 59) dX12_victimFrame_58 rfl rfl rfl ?_
    exact g_iret rfl rfl dX12_victimFrame_59 ⟨rfl, _, rfl, h⟩
  · have h := h.2 hc
    refine g_aload_n (n := 48) dX12_victimFrame_47 rfl rfl rfl ?_
    refine g_sipush (n := 51) (v := (nI 336)) dX12_victimFrame_48 rfl rfl ?_
    refine g_iconst (n := 52) (v := (nI 0)) dX12_victimFrame_51 rfl rfl ?_
    refine g_callV (n := 55) (as := [.int (nI 336), .int (nI 0)]) (bc' := 0) (bs' := 0) sM_0 vc_16 (ctX12_leastBy h) okX12_leastBy rfl w_2231 w_2233 w_51 w_112 dX12_victimFrame_52 rfl rfl (Nat.le_of_ble_eq_true rfl) (Nat.le_of_ble_eq_true rfl) (Nat.le_of_ble_eq_true rfl) (Nat.le_of_ble_eq_true rfl) rfl (fun E sh1 I1 A1 hp _ => hp.2.elim) (fun ro sh_ I_1 A_2 hp hle => ?_)
    obtain ⟨rfl, r_3, rfl, h⟩ := hp
    refine g_goto 59 dX12_victimFrame_55 (by decide) ?_
    exact g_iret rfl rfl dX12_victimFrame_59 ⟨rfl, _, rfl, h⟩
set_option maxRecDepth 20000 in
theorem ctX12_victimFrame  {K : Int32 → ab_F → ab_F → Prop} {I A : ab_F}  (h : wX12_victimFrame K I A ) : ab_Cl mX12_victimFrame 1 0 0 [.ref 0] shM I A (ab_Px shM ab_no (ab_ri K)) := by
  refine ab_enter (ls := [some (.ref 0), none]) (by decide +kernel) (Nat.le_of_ble_eq_true rfl) rfl (fun C => ?_)
  unfold wX12_victimFrame at h
  refine g_aload_n (n := 1) dX12_victimFrame_0 rfl rfl rfl ?_
  refine g_getR (n := 4) (k := 0) dX12_victimFrame_1 sM_0 vc_16 (Nat.le_of_ble_eq_true rfl) rfl w_1994 rfl ?_
  refine g_iconst (n := 5) (v := (nI 2)) dX12_victimFrame_4 rfl rfl ?_
  refine g_ialdJ (n := 6) (j := 2) (x := (A 1 2)) dX12_victimFrame_5 sM_1 rfl (Nat.le_of_ble_eq_true rfl) (by decide) rfl rfl ?_
  refine g_iconst (n := 7) (v := (nI 1)) dX12_victimFrame_6 rfl rfl ?_
  refine g_icmp_ne (n := 10) 19 dX12_victimFrame_7 (by decide) rfl (fun hc => ?_) (fun hc => ?_)
  · have h := h.1 hc
    refine g_aload_n (n := 20) dX12_victimFrame_19 rfl rfl rfl ?_
    refine g_getR (n := 23) (k := 0) dX12_victimFrame_20 sM_0 vc_16 (Nat.le_of_ble_eq_true rfl) rfl w_1994 rfl ?_
    refine g_iconst (n := 24) (v := (nI 2)) dX12_victimFrame_23 rfl rfl ?_
    refine g_ialdJ (n := 25) (j := 2) (x := (A 1 2)) dX12_victimFrame_24 sM_1 rfl (Nat.le_of_ble_eq_true rfl) (by decide) rfl rfl ?_
    refine g_iconst (n := 26) (v := (nI 2)) dX12_victimFrame_25 rfl rfl ?_
    refine g_icmp_ne (n := 29) 40 dX12_victimFrame_26 (by decide) rfl (fun hc => ?_) (fun hc => ?_)
    · have h := h.1 hc
      refine g_iconst (n := 41) (v := (-1 : Int32)) dX12_victimFrame_40 rfl rfl ?_
      refine g_less (bc' := 0) (bs' := 0) (Nat.le_of_ble_eq_true rfl) (Nat.le_of_ble_eq_true rfl) ?_
      exact tjX12_victimFrame_41  _ _ _ h
    · have h := h.2 hc
      refine g_aload_n (n := 30) dX12_victimFrame_29 rfl rfl rfl ?_
      refine g_sipush (n := 33) (v := (nI 336)) dX12_victimFrame_30 rfl rfl ?_
      refine g_iconst (n := 34) (v := (nI 1)) dX12_victimFrame_33 rfl rfl ?_
      refine g_callV (n := 37) (as := [.int (nI 336), .int (nI 1)]) (bc' := 0) (bs' := 0) sM_0 vc_16 (ctX12_leastBy h) okX12_leastBy rfl w_2231 w_2233 w_51 w_112 dX12_victimFrame_34 rfl rfl (Nat.le_of_ble_eq_true rfl) (Nat.le_of_ble_eq_true rfl) (Nat.le_of_ble_eq_true rfl) (Nat.le_of_ble_eq_true rfl) rfl (fun E sh1 I1 A1 hp _ => hp.2.elim) (fun ro sh_ I_4 A_5 hp hle => ?_)
      obtain ⟨rfl, r_6, rfl, h⟩ := hp
      refine g_goto 41 dX12_victimFrame_37 (by decide) ?_
      refine g_less (bc' := 0) (bs' := 0) (Nat.le_of_ble_eq_true rfl) (Nat.le_of_ble_eq_true rfl) ?_
      exact tjX12_victimFrame_41  _ _ _ h
  · have h := h.2 hc
    refine g_aload_n (n := 11) dX12_victimFrame_10 rfl rfl rfl ?_
    refine g_sipush (n := 14) (v := (nI 352)) dX12_victimFrame_11 rfl rfl ?_
    refine g_iconst (n := 15) (v := (nI 0)) dX12_victimFrame_14 rfl rfl ?_
    refine g_callV (n := 18) (as := [.int (nI 352), .int (nI 0)]) (bc' := 0) (bs' := 0) sM_0 vc_16 (ctX12_leastBy h) okX12_leastBy rfl w_2231 w_2233 w_51 w_112 dX12_victimFrame_15 rfl rfl (Nat.le_of_ble_eq_true rfl) (Nat.le_of_ble_eq_true rfl) (Nat.le_of_ble_eq_true rfl) (Nat.le_of_ble_eq_true rfl) rfl (fun E sh1 I1 A1 hp _ => hp.2.elim) (fun ro sh_ I_7 A_8 hp hle => ?_)
    obtain ⟨rfl, r_9, rfl, h⟩ := hp
    exact g_iret rfl rfl dX12_victimFrame_18 ⟨rfl, _, rfl, h⟩
def wX12_leave (K : ab_F → ab_F → Prop) (I A : ab_F) (p0 : Int32) : Prop := (∃ j_1 : Nat, ((nI 128) + p0) = nI j_1 ∧ j_1 < 608 ∧ (∃ j_2 : Nat, ((nI 320) + (A 1 j_1)) = nI j_2 ∧ j_2 < 608 ∧ (∃ j_3 : Nat, ((nI 128) + p0) = nI j_3 ∧ j_3 < 608 ∧ K I (wr (wr A 1 j_2 (-1 : Int32)) 1 j_3 (-1 : Int32)))))
set_option maxRecDepth 20000 in
theorem ctX12_leave  {K : ab_F → ab_F → Prop} {I A : ab_F} {p0 : Int32} (h : wX12_leave K I A p0) : ab_Cl mX12_leave 0 0 0 [.ref 0, .int p0] shM I A (ab_Px shM ab_no (ab_rv K)) := by
  refine ab_enter (ls := [some (.ref 0), some (.int p0)]) (by decide +kernel) (Nat.le_of_ble_eq_true rfl) rfl (fun C => ?_)
  unfold wX12_leave at h
  refine g_aload_n (n := 1) dX12_leave_0 rfl rfl rfl ?_
  refine g_getR (n := 4) (k := 0) dX12_leave_1 sM_0 vc_16 (Nat.le_of_ble_eq_true rfl) rfl w_1994 rfl ?_
  refine g_sipush (n := 7) (v := (nI 320)) dX12_leave_4 rfl rfl ?_
  refine g_aload_n (n := 8) dX12_leave_7 rfl rfl rfl ?_
  refine g_getR (n := 11) (k := 0) dX12_leave_8 sM_0 vc_16 (Nat.le_of_ble_eq_true rfl) rfl w_1994 rfl ?_
  refine g_sipush (n := 14) (v := (nI 128)) dX12_leave_11 rfl rfl ?_
  refine g_iload_n (n := 15) dX12_leave_14 rfl rfl rfl ?_
  refine g_iadd (n := 16) dX12_leave_15 rfl ?_
  obtain ⟨j_1, hj, hl, h⟩ := h
  refine g_ialdJ (n := 17) (j := j_1) (x := (A 1 j_1)) dX12_leave_16 sM_1 hj hl (by decide) rfl rfl ?_
  refine g_iadd (n := 18) dX12_leave_17 rfl ?_
  refine g_iconst (n := 19) (v := (-1 : Int32)) dX12_leave_18 rfl rfl ?_
  obtain ⟨j_2, hj, hl, h⟩ := h
  refine g_iastJ (n := 20) (j := j_2) dX12_leave_19 sM_1 hj hl (by decide) rfl ?_
  refine g_aload_n (n := 21) dX12_leave_20 rfl rfl rfl ?_
  refine g_getR (n := 24) (k := 0) dX12_leave_21 sM_0 vc_16 (Nat.le_of_ble_eq_true rfl) rfl w_1994 rfl ?_
  refine g_sipush (n := 27) (v := (nI 128)) dX12_leave_24 rfl rfl ?_
  refine g_iload_n (n := 28) dX12_leave_27 rfl rfl rfl ?_
  refine g_iadd (n := 29) dX12_leave_28 rfl ?_
  refine g_iconst (n := 30) (v := (-1 : Int32)) dX12_leave_29 rfl rfl ?_
  obtain ⟨j_3, hj, hl, h⟩ := h
  refine g_iastJ (n := 31) (j := j_3) dX12_leave_30 sM_1 hj hl (by decide) rfl ?_
  exact g_vret rfl dX12_leave_31 ⟨rfl, rfl, h⟩
def wjX12_evict_19 (K : ab_F → ab_F → Prop) (x1 : Int32) (I A : ab_F) : Prop := wX12_leave (fun I_2 A_3 => K I_2 A_3) I A x1
def wX12_evict (K : ab_F → ab_F → Prop) (I A : ab_F) (p0 : Int32) : Prop := (∃ j_1 : Nat, ((nI 176) + p0) = nI j_1 ∧ j_1 < 608 ∧ ((¬ (A 1 j_1) = (nI 1) → wjX12_evict_19 K p0 I A) ∧ ((A 1 j_1) = (nI 1) → wX12_take (fun I_4 A_5 => wjX12_evict_19 K p0 I_4 A_5) I A p0)))
set_option maxRecDepth 20000 in
theorem tjX12_evict_19 {C : ab_X}  {K : ab_F → ab_F → Prop} (x1 : Int32) (I A : ab_F) (h : wjX12_evict_19 K x1 I A) : ab_G mX12_evict 4 C (ab_Px shM ab_no (ab_rv K)) 19 [some (.ref 0), some (.int x1)] [] shM I A 0 0 := by
  unfold wjX12_evict_19 at h
  refine g_aload_n (n := 20) dX12_evict_19 rfl rfl rfl ?_
  refine g_iload_n (n := 21) dX12_evict_20 rfl rfl rfl ?_
  refine g_callV (n := 24) (as := [.int x1]) (bc' := 0) (bs' := 0) sM_0 vc_16 (ctX12_leave h) okX12_leave rfl w_2259 w_2261 w_58 w_112 dX12_evict_21 rfl rfl (Nat.le_of_ble_eq_true rfl) (Nat.le_of_ble_eq_true rfl) (Nat.le_of_ble_eq_true rfl) (Nat.le_of_ble_eq_true rfl) rfl (fun E sh1 I1 A1 hp _ => hp.2.elim) (fun ro sh_ I_2 A_3 hp hle => ?_)
  obtain ⟨rfl, rfl, h⟩ := hp
  exact g_vret rfl dX12_evict_24 ⟨rfl, rfl, h⟩
set_option maxRecDepth 20000 in
theorem ctX12_evict  {K : ab_F → ab_F → Prop} {I A : ab_F} {p0 : Int32} (h : wX12_evict K I A p0) : ab_Cl mX12_evict 4 0 0 [.ref 0, .int p0] shM I A (ab_Px shM ab_no (ab_rv K)) := by
  refine ab_enter (ls := [some (.ref 0), some (.int p0)]) (by decide +kernel) (Nat.le_of_ble_eq_true rfl) rfl (fun C => ?_)
  unfold wX12_evict at h
  refine g_aload_n (n := 1) dX12_evict_0 rfl rfl rfl ?_
  refine g_getR (n := 4) (k := 0) dX12_evict_1 sM_0 vc_16 (Nat.le_of_ble_eq_true rfl) rfl w_1994 rfl ?_
  refine g_sipush (n := 7) (v := (nI 176)) dX12_evict_4 rfl rfl ?_
  refine g_iload_n (n := 8) dX12_evict_7 rfl rfl rfl ?_
  refine g_iadd (n := 9) dX12_evict_8 rfl ?_
  obtain ⟨j_1, hj, hl, h⟩ := h
  refine g_ialdJ (n := 10) (j := j_1) (x := (A 1 j_1)) dX12_evict_9 sM_1 hj hl (by decide) rfl rfl ?_
  refine g_iconst (n := 11) (v := (nI 1)) dX12_evict_10 rfl rfl ?_
  refine g_icmp_ne (n := 14) 19 dX12_evict_11 (by decide) rfl (fun hc => ?_) (fun hc => ?_)
  · have h := h.1 hc
    refine g_less (bc' := 0) (bs' := 0) (Nat.le_of_ble_eq_true rfl) (Nat.le_of_ble_eq_true rfl) ?_
    exact tjX12_evict_19  _ _ _ h
  · have h := h.2 hc
    refine g_aload_n (n := 15) dX12_evict_14 rfl rfl rfl ?_
    refine g_iload_n (n := 16) dX12_evict_15 rfl rfl rfl ?_
    refine g_callV (n := 19) (as := [.int p0]) (bc' := 0) (bs' := 0) sM_0 vc_16 (ctX12_take h) okX12_take rfl w_2255 w_2257 w_57 w_112 dX12_evict_16 rfl rfl (Nat.le_of_ble_eq_true rfl) (Nat.le_of_ble_eq_true rfl) (Nat.le_of_ble_eq_true rfl) (Nat.le_of_ble_eq_true rfl) rfl (fun E sh1 I1 A1 hp _ => hp.2.elim) (fun ro sh_ I_4 A_5 hp hle => ?_)
    obtain ⟨rfl, rfl, h⟩ := hp
    refine g_less (bc' := 0) (bs' := 0) (Nat.le_of_ble_eq_true rfl) (Nat.le_of_ble_eq_true rfl) ?_
    exact tjX12_evict_19  _ _ _ h
def wX12_isStuck (K : Int32 → ab_F → ab_F → Prop) (I A : ab_F) (p0 : Int32) (p1 : Int32) : Prop := (∃ j_1 : Nat, ((nI 128) + p0) = nI j_1 ∧ j_1 < 608 ∧ (((A 1 j_1) = (-1 : Int32) → wX12_freeFrame (fun r_4 I_2 A_3 => ((¬ r_4 = (-1 : Int32) → K (nI 0) I_2 A_3) ∧ (r_4 = (-1 : Int32) → wX12_victimFrame (fun r_7 I_5 A_6 => (∃ j_8 : Nat, ((nI 320) + r_7) = nI j_8 ∧ j_8 < 608 ∧ (∃ j_9 : Nat, ((nI 176) + (A_6 1 j_8)) = nI j_9 ∧ j_9 < 608 ∧ ((¬ (A_6 1 j_9) = (nI 1) → K (nI 0) I_5 A_6) ∧ ((A_6 1 j_9) = (nI 1) → wX12_nextFree (fun r_12 I_10 A_11 => ((¬ r_12 = (-1 : Int32) → K (nI 0) I_10 A_11) ∧ (r_12 = (-1 : Int32) → K (nI 1) I_10 A_11))) I_5 A_6 ))))) I_2 A_3 ))) I A ) ∧ (¬ (A 1 j_1) = (-1 : Int32) → ((p1 = 0 → K (nI 0) I A) ∧ (¬ p1 = 0 → wX12_isPending (fun r_15 I_13 A_14 => ((r_15 = 0 → K (nI 0) I_13 A_14) ∧ (¬ r_15 = 0 → wX12_nextFree (fun r_18 I_16 A_17 => ((¬ r_18 = (-1 : Int32) → K (nI 0) I_16 A_17) ∧ (r_18 = (-1 : Int32) → K (nI 1) I_16 A_17))) I_13 A_14 ))) I A p0)))))
set_option maxRecDepth 20000 in
theorem ctX12_isStuck  {K : Int32 → ab_F → ab_F → Prop} {I A : ab_F} {p0 : Int32} {p1 : Int32} (h : wX12_isStuck K I A p0 p1) : ab_Cl mX12_isStuck 3 0 0 [.ref 0, .int p0, .int p1] shM I A (ab_Px shM ab_no (ab_ri K)) := by
  refine ab_enter (ls := [some (.ref 0), some (.int p0), some (.int p1)]) (by decide +kernel) (Nat.le_of_ble_eq_true rfl) rfl (fun C => ?_)
  unfold wX12_isStuck at h
  refine g_aload_n (n := 1) dX12_isStuck_0 rfl rfl rfl ?_
  refine g_getR (n := 4) (k := 0) dX12_isStuck_1 sM_0 vc_16 (Nat.le_of_ble_eq_true rfl) rfl w_1994 rfl ?_
  refine g_sipush (n := 7) (v := (nI 128)) dX12_isStuck_4 rfl rfl ?_
  refine g_iload_n (n := 8) dX12_isStuck_7 rfl rfl rfl ?_
  refine g_iadd (n := 9) dX12_isStuck_8 rfl ?_
  obtain ⟨j_1, hj, hl, h⟩ := h
  refine g_ialdJ (n := 10) (j := j_1) (x := (A 1 j_1)) dX12_isStuck_9 sM_1 hj hl (by decide) rfl rfl ?_
  refine g_iconst (n := 11) (v := (-1 : Int32)) dX12_isStuck_10 rfl rfl ?_
  refine g_icmp_eq (n := 14) 40 dX12_isStuck_11 (by decide) rfl (fun hc => ?_) (fun hc => ?_)
  · have h := h.1 hc
    refine g_aload_n (n := 41) dX12_isStuck_40 rfl rfl rfl ?_
    refine g_callV (n := 44) (as := []) (bc' := 0) (bs' := 0) sM_0 vc_16 (ctX12_freeFrame h) okX12_freeFrame rfl w_2223 w_2225 w_49 w_112 dX12_isStuck_41 rfl rfl (Nat.le_of_ble_eq_true rfl) (Nat.le_of_ble_eq_true rfl) (Nat.le_of_ble_eq_true rfl) (Nat.le_of_ble_eq_true rfl) rfl (fun E sh1 I1 A1 hp _ => hp.2.elim) (fun ro sh_ I_2 A_3 hp hle => ?_)
    obtain ⟨rfl, r_4, rfl, h⟩ := hp
    refine g_iconst (n := 45) (v := (-1 : Int32)) dX12_isStuck_44 rfl rfl ?_
    refine g_icmp_ne (n := 48) 86 dX12_isStuck_45 (by decide) rfl (fun hc => ?_) (fun hc => ?_)
    · have h := h.1 hc
      refine g_iconst (n := 87) (v := (nI 0)) dX12_isStuck_86 rfl rfl ?_
      exact g_iret rfl rfl dX12_isStuck_87 ⟨rfl, _, rfl, h⟩
    · have h := h.2 hc
      refine g_aload_n (n := 49) dX12_isStuck_48 rfl rfl rfl ?_
      refine g_getR (n := 52) (k := 0) dX12_isStuck_49 sM_0 vc_16 (Nat.le_of_ble_eq_true rfl) rfl w_1994 rfl ?_
      refine g_sipush (n := 55) (v := (nI 176)) dX12_isStuck_52 rfl rfl ?_
      refine g_aload_n (n := 56) dX12_isStuck_55 rfl rfl rfl ?_
      refine g_getR (n := 59) (k := 0) dX12_isStuck_56 sM_0 vc_16 (Nat.le_of_ble_eq_true rfl) rfl w_1994 rfl ?_
      refine g_sipush (n := 62) (v := (nI 320)) dX12_isStuck_59 rfl rfl ?_
      refine g_aload_n (n := 63) dX12_isStuck_62 rfl rfl rfl ?_
      refine g_callV (n := 66) (as := []) (bc' := 0) (bs' := 0) sM_0 vc_16 (ctX12_victimFrame h) okX12_victimFrame rfl w_2227 w_2229 w_50 w_112 dX12_isStuck_63 rfl rfl (Nat.le_of_ble_eq_true rfl) (Nat.le_of_ble_eq_true rfl) (Nat.le_of_ble_eq_true rfl) (Nat.le_of_ble_eq_true rfl) rfl (fun E sh1 I1 A1 hp _ => hp.2.elim) (fun ro sh_ I_5 A_6 hp hle => ?_)
      obtain ⟨rfl, r_7, rfl, h⟩ := hp
      refine g_iadd (n := 67) dX12_isStuck_66 rfl ?_
      obtain ⟨j_8, hj, hl, h⟩ := h
      refine g_ialdJ (n := 68) (j := j_8) (x := (A_6 1 j_8)) dX12_isStuck_67 sM_1 hj hl (by decide) rfl rfl ?_
      refine g_iadd (n := 69) dX12_isStuck_68 rfl ?_
      obtain ⟨j_9, hj, hl, h⟩ := h
      refine g_ialdJ (n := 70) (j := j_9) (x := (A_6 1 j_9)) dX12_isStuck_69 sM_1 hj hl (by decide) rfl rfl ?_
      refine g_iconst (n := 71) (v := (nI 1)) dX12_isStuck_70 rfl rfl ?_
      refine g_icmp_ne (n := 74) 86 dX12_isStuck_71 (by decide) rfl (fun hc => ?_) (fun hc => ?_)
      · have h := h.1 hc
        refine g_iconst (n := 87) (v := (nI 0)) dX12_isStuck_86 rfl rfl ?_
        exact g_iret rfl rfl dX12_isStuck_87 ⟨rfl, _, rfl, h⟩
      · have h := h.2 hc
        refine g_aload_n (n := 75) dX12_isStuck_74 rfl rfl rfl ?_
        refine g_callV (n := 78) (as := []) (bc' := 0) (bs' := 0) sM_0 vc_16 (ctX12_nextFree h) okX12_nextFree rfl w_2207 w_2209 w_45 w_112 dX12_isStuck_75 rfl rfl (Nat.le_of_ble_eq_true rfl) (Nat.le_of_ble_eq_true rfl) (Nat.le_of_ble_eq_true rfl) (Nat.le_of_ble_eq_true rfl) rfl (fun E sh1 I1 A1 hp _ => hp.2.elim) (fun ro sh_ I_10 A_11 hp hle => ?_)
        obtain ⟨rfl, r_12, rfl, h⟩ := hp
        refine g_iconst (n := 79) (v := (-1 : Int32)) dX12_isStuck_78 rfl rfl ?_
        refine g_icmp_ne (n := 82) 86 dX12_isStuck_79 (by decide) rfl (fun hc => ?_) (fun hc => ?_)
        · have h := h.1 hc
          refine g_iconst (n := 87) (v := (nI 0)) dX12_isStuck_86 rfl rfl ?_
          exact g_iret rfl rfl dX12_isStuck_87 ⟨rfl, _, rfl, h⟩
        · have h := h.2 hc
          refine g_iconst (n := 83) (v := (nI 1)) dX12_isStuck_82 rfl rfl ?_
          refine g_goto 87 dX12_isStuck_83 (by decide) ?_
          exact g_iret rfl rfl dX12_isStuck_87 ⟨rfl, _, rfl, h⟩
  · have h := h.2 hc
    refine g_iload_n (n := 15) dX12_isStuck_14 rfl rfl rfl ?_
    refine g_if_eq (n := 18) 38 dX12_isStuck_15 (by decide) rfl (fun hc => ?_) (fun hc => ?_)
    · have h := h.1 hc
      refine g_iconst (n := 39) (v := (nI 0)) dX12_isStuck_38 rfl rfl ?_
      exact g_iret rfl rfl dX12_isStuck_39 ⟨rfl, _, rfl, h⟩
    · have h := h.2 hc
      refine g_aload_n (n := 19) dX12_isStuck_18 rfl rfl rfl ?_
      refine g_iload_n (n := 20) dX12_isStuck_19 rfl rfl rfl ?_
      refine g_callV (n := 23) (as := [.int p0]) (bc' := 0) (bs' := 0) sM_0 vc_16 (ctX12_isPending h) okX12_isPending rfl w_2200 w_2202 w_44 w_112 dX12_isStuck_20 rfl rfl (Nat.le_of_ble_eq_true rfl) (Nat.le_of_ble_eq_true rfl) (Nat.le_of_ble_eq_true rfl) (Nat.le_of_ble_eq_true rfl) rfl (fun E sh1 I1 A1 hp _ => hp.2.elim) (fun ro sh_ I_13 A_14 hp hle => ?_)
      obtain ⟨rfl, r_15, rfl, h⟩ := hp
      refine g_if_eq (n := 26) 38 dX12_isStuck_23 (by decide) rfl (fun hc => ?_) (fun hc => ?_)
      · have h := h.1 hc
        refine g_iconst (n := 39) (v := (nI 0)) dX12_isStuck_38 rfl rfl ?_
        exact g_iret rfl rfl dX12_isStuck_39 ⟨rfl, _, rfl, h⟩
      · have h := h.2 hc
        refine g_aload_n (n := 27) dX12_isStuck_26 rfl rfl rfl ?_
        refine g_callV (n := 30) (as := []) (bc' := 0) (bs' := 0) sM_0 vc_16 (ctX12_nextFree h) okX12_nextFree rfl w_2207 w_2209 w_45 w_112 dX12_isStuck_27 rfl rfl (Nat.le_of_ble_eq_true rfl) (Nat.le_of_ble_eq_true rfl) (Nat.le_of_ble_eq_true rfl) (Nat.le_of_ble_eq_true rfl) rfl (fun E sh1 I1 A1 hp _ => hp.2.elim) (fun ro sh_ I_16 A_17 hp hle => ?_)
        obtain ⟨rfl, r_18, rfl, h⟩ := hp
        refine g_iconst (n := 31) (v := (-1 : Int32)) dX12_isStuck_30 rfl rfl ?_
        refine g_icmp_ne (n := 34) 38 dX12_isStuck_31 (by decide) rfl (fun hc => ?_) (fun hc => ?_)
        · have h := h.1 hc
          refine g_iconst (n := 39) (v := (nI 0)) dX12_isStuck_38 rfl rfl ?_
          exact g_iret rfl rfl dX12_isStuck_39 ⟨rfl, _, rfl, h⟩
        · have h := h.2 hc
          refine g_iconst (n := 35) (v := (nI 1)) dX12_isStuck_34 rfl rfl ?_
          refine g_goto 39 dX12_isStuck_35 (by decide) ?_
          exact g_iret rfl rfl dX12_isStuck_39 ⟨rfl, _, rfl, h⟩
def wlX12_access_131 (K : ab_F → ab_F → Prop) : Nat → Int32 → Int32 → ab_F → ab_F → Prop
  | 0, _, _, _, _ => False
  | n + 1, x1, x2, I, A => ((x2 ≤ 0 → (((nI 64) ≤ (A 1 12) → K I (wr A 1 512 x1)) ∧ (¬ (nI 64) ≤ (A 1 12) → K I (wr (wr A 1 512 x1) 1 12 ((A 1 12) + (nI 1)))))) ∧ (¬ x2 ≤ 0 → (∃ j_4 : Nat, (((nI 512) + x2) - (nI 1)) = nI j_4 ∧ j_4 < 608 ∧ (∃ j_5 : Nat, ((nI 512) + x2) = nI j_5 ∧ j_5 < 608 ∧ (wlX12_access_131 K n) x1 (x2 + (-1)) I (wr A 1 j_5 (A 1 j_4))))))
def wjX12_access_103 (K : ab_F → ab_F → Prop) (x1 : Int32) (I A : ab_F) : Prop := (∃ j_2 : Nat, ((nI 128) + x1) = nI j_2 ∧ j_2 < 608 ∧ (∃ j_3 : Nat, ((nI 336) + (A 1 j_2)) = nI j_3 ∧ j_3 < 608 ∧ (∃ nf : Nat, wlX12_access_131 K nf x1 (nI 63) I (wr A 1 j_3 (A 1 5)))))
def wjX12_access_60 (K : ab_F → ab_F → Prop) (x1 : Int32) (I A : ab_F) : Prop := wX12_freeFrame (fun r_11 I_9 A_10 => (∃ j_12 : Nat, ((nI 320) + r_11) = nI j_12 ∧ j_12 < 608 ∧ (∃ j_13 : Nat, ((nI 128) + x1) = nI j_13 ∧ j_13 < 608 ∧ (∃ j_14 : Nat, ((nI 352) + r_11) = nI j_14 ∧ j_14 < 608 ∧ wjX12_access_103 K x1 I_9 (wr (wr (wr A_10 1 j_12 x1) 1 j_13 r_11) 1 j_14 ((wr (wr A_10 1 j_12 x1) 1 j_13 r_11) 1 5)))))) I A 
def wX12_access (K : ab_F → ab_F → Prop) (I A : ab_F) (p0 : Int32) : Prop := (∃ j_1 : Nat, ((nI 128) + p0) = nI j_1 ∧ j_1 < 608 ∧ ((¬ ((wr A 1 5 ((A 1 5) + (nI 1))) 1 j_1) = (-1 : Int32) → wjX12_access_103 K p0 I (wr A 1 5 ((A 1 5) + (nI 1)))) ∧ (((wr A 1 5 ((A 1 5) + (nI 1))) 1 j_1) = (-1 : Int32) → wX12_freeFrame (fun r_8 I_6 A_7 => ((¬ r_8 = (-1 : Int32) → wjX12_access_60 K p0 I_6 A_7) ∧ (r_8 = (-1 : Int32) → wX12_victimFrame (fun r_17 I_15 A_16 => (∃ j_18 : Nat, ((nI 320) + r_17) = nI j_18 ∧ j_18 < 608 ∧ wX12_evict (fun I_19 A_20 => wjX12_access_60 K p0 I_19 A_20) I_15 A_16 (A_16 1 j_18))) I_6 A_7 ))) I (wr (wr A 1 5 ((A 1 5) + (nI 1))) 1 6 ((A 1 6) + (nI 1))) )))
set_option maxRecDepth 20000 in
theorem tlX12_access_131 {C : ab_X}  {K : ab_F → ab_F → Prop} : ∀ (n : Nat) (x1 : Int32) (x2 : Int32) (I A : ab_F), wlX12_access_131 K n x1 x2 I A → ab_G mX12_access 5 C (ab_Px shM ab_no (ab_rv K)) 131 [some (.ref 0), some (.int x1), some (.int x2)] [] shM I A 0 0 := by
  intro n
  induction n with
  | zero => intro x1 x2 I A h; exact h.elim
  | succ n hL131 =>
    intro x1 x2 I A h
    rw [wlX12_access_131] at h
    refine g_iload_n (n := 132) dX12_access_131 rfl rfl rfl ?_
    refine g_if_le (n := 135) 163 dX12_access_132 (by decide) rfl (fun hc => ?_) (fun hc => ?_)
    · have h := h.1 hc
      refine g_aload_n (n := 164) dX12_access_163 rfl rfl rfl ?_
      refine g_getR (n := 167) (k := 0) dX12_access_164 sM_0 vc_16 (Nat.le_of_ble_eq_true rfl) rfl w_1994 rfl ?_
      refine g_sipush (n := 170) (v := (nI 512)) dX12_access_167 rfl rfl ?_
      refine g_iload_n (n := 171) dX12_access_170 rfl rfl rfl ?_
      refine g_iastJ (n := 172) (j := 512) dX12_access_171 sM_1 rfl (Nat.le_of_ble_eq_true rfl) (by decide) rfl ?_
      refine g_aload_n (n := 173) dX12_access_172 rfl rfl rfl ?_
      refine g_getR (n := 176) (k := 0) dX12_access_173 sM_0 vc_16 (Nat.le_of_ble_eq_true rfl) rfl w_1994 rfl ?_
      refine g_bipush (n := 178) (v := (nI 12)) dX12_access_176 rfl rfl ?_
      refine g_ialdJ (n := 179) (j := 12) (x := (A 1 12)) dX12_access_178 sM_1 rfl (Nat.le_of_ble_eq_true rfl) (by decide) rfl rfl ?_
      refine g_bipush (n := 181) (v := (nI 64)) dX12_access_179 rfl rfl ?_
      refine g_icmp_ge (n := 184) 195 dX12_access_181 (by decide) rfl (fun hc => ?_) (fun hc => ?_)
      · have h := h.1 hc
        exact g_vret rfl dX12_access_195 ⟨rfl, rfl, h⟩
      · have h := h.2 hc
        refine g_aload_n (n := 185) dX12_access_184 rfl rfl rfl ?_
        refine g_getR (n := 188) (k := 0) dX12_access_185 sM_0 vc_16 (Nat.le_of_ble_eq_true rfl) rfl w_1994 rfl ?_
        refine g_bipush (n := 190) (v := (nI 12)) dX12_access_188 rfl rfl ?_
        refine g_dup2 (n := 191) dX12_access_190 rfl rfl rfl ?_
        refine g_ialdJ (n := 192) (j := 12) (x := (A 1 12)) dX12_access_191 sM_1 rfl (Nat.le_of_ble_eq_true rfl) (by decide) rfl rfl ?_
        refine g_iconst (n := 193) (v := (nI 1)) dX12_access_192 rfl rfl ?_
        refine g_iadd (n := 194) dX12_access_193 rfl ?_
        refine g_iastJ (n := 195) (j := 12) dX12_access_194 sM_1 rfl (Nat.le_of_ble_eq_true rfl) (by decide) rfl ?_
        exact g_vret rfl dX12_access_195 ⟨rfl, rfl, h⟩
    · have h := h.2 hc
      refine g_aload_n (n := 136) dX12_access_135 rfl rfl rfl ?_
      refine g_getR (n := 139) (k := 0) dX12_access_136 sM_0 vc_16 (Nat.le_of_ble_eq_true rfl) rfl w_1994 rfl ?_
      refine g_sipush (n := 142) (v := (nI 512)) dX12_access_139 rfl rfl ?_
      refine g_iload_n (n := 143) dX12_access_142 rfl rfl rfl ?_
      refine g_iadd (n := 144) dX12_access_143 rfl ?_
      refine g_aload_n (n := 145) dX12_access_144 rfl rfl rfl ?_
      refine g_getR (n := 148) (k := 0) dX12_access_145 sM_0 vc_16 (Nat.le_of_ble_eq_true rfl) rfl w_1994 rfl ?_
      refine g_sipush (n := 151) (v := (nI 512)) dX12_access_148 rfl rfl ?_
      refine g_iload_n (n := 152) dX12_access_151 rfl rfl rfl ?_
      refine g_iadd (n := 153) dX12_access_152 rfl ?_
      refine g_iconst (n := 154) (v := (nI 1)) dX12_access_153 rfl rfl ?_
      refine g_isub (n := 155) dX12_access_154 rfl ?_
      obtain ⟨j_4, hj, hl, h⟩ := h
      refine g_ialdJ (n := 156) (j := j_4) (x := (A 1 j_4)) dX12_access_155 sM_1 hj hl (by decide) rfl rfl ?_
      obtain ⟨j_5, hj, hl, h⟩ := h
      refine g_iastJ (n := 157) (j := j_5) dX12_access_156 sM_1 hj hl (by decide) rfl ?_
      refine g_iinc (n := 160) (v := (x2 + (-1))) (ls' := [some (.ref 0), some (.int x1), some (.int (x2 + (-1)))]) dX12_access_157 rfl rfl rfl (Nat.le_of_ble_eq_true rfl) rfl rfl ?_
      refine g_goto 131 dX12_access_160 (by decide) ?_
      exact hL131 _ _ _ _ h
set_option maxRecDepth 20000 in
theorem tjX12_access_103 {C : ab_X}  {K : ab_F → ab_F → Prop} (x1 : Int32) (I A : ab_F) (h : wjX12_access_103 K x1 I A) : ab_G mX12_access 5 C (ab_Px shM ab_no (ab_rv K)) 103 [some (.ref 0), some (.int x1), none] [] shM I A 0 0 := by
  unfold wjX12_access_103 at h
  refine g_aload_n (n := 104) dX12_access_103 rfl rfl rfl ?_
  refine g_getR (n := 107) (k := 0) dX12_access_104 sM_0 vc_16 (Nat.le_of_ble_eq_true rfl) rfl w_1994 rfl ?_
  refine g_sipush (n := 110) (v := (nI 336)) dX12_access_107 rfl rfl ?_
  refine g_aload_n (n := 111) dX12_access_110 rfl rfl rfl ?_
  refine g_getR (n := 114) (k := 0) dX12_access_111 sM_0 vc_16 (Nat.le_of_ble_eq_true rfl) rfl w_1994 rfl ?_
  refine g_sipush (n := 117) (v := (nI 128)) dX12_access_114 rfl rfl ?_
  refine g_iload_n (n := 118) dX12_access_117 rfl rfl rfl ?_
  refine g_iadd (n := 119) dX12_access_118 rfl ?_
  obtain ⟨j_2, hj, hl, h⟩ := h
  refine g_ialdJ (n := 120) (j := j_2) (x := (A 1 j_2)) dX12_access_119 sM_1 hj hl (by decide) rfl rfl ?_
  refine g_iadd (n := 121) dX12_access_120 rfl ?_
  refine g_aload_n (n := 122) dX12_access_121 rfl rfl rfl ?_
  refine g_getR (n := 125) (k := 0) dX12_access_122 sM_0 vc_16 (Nat.le_of_ble_eq_true rfl) rfl w_1994 rfl ?_
  refine g_iconst (n := 126) (v := (nI 5)) dX12_access_125 rfl rfl ?_
  refine g_ialdJ (n := 127) (j := 5) (x := (A 1 5)) dX12_access_126 sM_1 rfl (Nat.le_of_ble_eq_true rfl) (by decide) rfl rfl ?_
  obtain ⟨j_3, hj, hl, h⟩ := h
  refine g_iastJ (n := 128) (j := j_3) dX12_access_127 sM_1 hj hl (by decide) rfl ?_
  refine g_bipush (n := 130) (v := (nI 63)) dX12_access_128 rfl rfl ?_
  refine g_istore_n (n := 131) (ls' := [some (.ref 0), some (.int x1), some (.int (nI 63))]) dX12_access_130 rfl rfl (Nat.le_of_ble_eq_true rfl) (Nat.le_of_ble_eq_true rfl) rfl rfl ?_
  refine g_less (bc' := 0) (bs' := 0) (Nat.le_of_ble_eq_true rfl) (Nat.le_of_ble_eq_true rfl) ?_
  obtain ⟨n_f, h⟩ := h
  exact tlX12_access_131  n_f _ _ _ _ h
set_option maxRecDepth 20000 in
theorem tjX12_access_60 {C : ab_X}  {K : ab_F → ab_F → Prop} (x1 : Int32) (I A : ab_F) (h : wjX12_access_60 K x1 I A) : ab_G mX12_access 5 C (ab_Px shM ab_no (ab_rv K)) 60 [some (.ref 0), some (.int x1), none] [] shM I A 0 0 := by
  unfold wjX12_access_60 at h
  refine g_aload_n (n := 61) dX12_access_60 rfl rfl rfl ?_
  refine g_callV (n := 64) (as := []) (bc' := 0) (bs' := 0) sM_0 vc_16 (ctX12_freeFrame h) okX12_freeFrame rfl w_2223 w_2225 w_49 w_112 dX12_access_61 rfl rfl (Nat.le_of_ble_eq_true rfl) (Nat.le_of_ble_eq_true rfl) (Nat.le_of_ble_eq_true rfl) (Nat.le_of_ble_eq_true rfl) rfl (fun E sh1 I1 A1 hp _ => hp.2.elim) (fun ro sh_ I_9 A_10 hp hle => ?_)
  obtain ⟨rfl, r_11, rfl, h⟩ := hp
  refine g_istore_n (n := 65) (ls' := [some (.ref 0), some (.int x1), some (.int r_11)]) dX12_access_64 rfl rfl (Nat.le_of_ble_eq_true rfl) (Nat.le_of_ble_eq_true rfl) rfl rfl ?_
  refine g_aload_n (n := 66) dX12_access_65 rfl rfl rfl ?_
  refine g_getR (n := 69) (k := 0) dX12_access_66 sM_0 vc_16 (Nat.le_of_ble_eq_true rfl) rfl w_1994 rfl ?_
  refine g_sipush (n := 72) (v := (nI 320)) dX12_access_69 rfl rfl ?_
  refine g_iload_n (n := 73) dX12_access_72 rfl rfl rfl ?_
  refine g_iadd (n := 74) dX12_access_73 rfl ?_
  refine g_iload_n (n := 75) dX12_access_74 rfl rfl rfl ?_
  obtain ⟨j_12, hj, hl, h⟩ := h
  refine g_iastJ (n := 76) (j := j_12) dX12_access_75 sM_1 hj hl (by decide) rfl ?_
  refine g_aload_n (n := 77) dX12_access_76 rfl rfl rfl ?_
  refine g_getR (n := 80) (k := 0) dX12_access_77 sM_0 vc_16 (Nat.le_of_ble_eq_true rfl) rfl w_1994 rfl ?_
  refine g_sipush (n := 83) (v := (nI 128)) dX12_access_80 rfl rfl ?_
  refine g_iload_n (n := 84) dX12_access_83 rfl rfl rfl ?_
  refine g_iadd (n := 85) dX12_access_84 rfl ?_
  refine g_iload_n (n := 86) dX12_access_85 rfl rfl rfl ?_
  obtain ⟨j_13, hj, hl, h⟩ := h
  refine g_iastJ (n := 87) (j := j_13) dX12_access_86 sM_1 hj hl (by decide) rfl ?_
  refine g_aload_n (n := 88) dX12_access_87 rfl rfl rfl ?_
  refine g_getR (n := 91) (k := 0) dX12_access_88 sM_0 vc_16 (Nat.le_of_ble_eq_true rfl) rfl w_1994 rfl ?_
  refine g_sipush (n := 94) (v := (nI 352)) dX12_access_91 rfl rfl ?_
  refine g_iload_n (n := 95) dX12_access_94 rfl rfl rfl ?_
  refine g_iadd (n := 96) dX12_access_95 rfl ?_
  refine g_aload_n (n := 97) dX12_access_96 rfl rfl rfl ?_
  refine g_getR (n := 100) (k := 0) dX12_access_97 sM_0 vc_16 (Nat.le_of_ble_eq_true rfl) rfl w_1994 rfl ?_
  refine g_iconst (n := 101) (v := (nI 5)) dX12_access_100 rfl rfl ?_
  refine g_ialdJ (n := 102) (j := 5) (x := ((wr (wr A_10 1 j_12 x1) 1 j_13 r_11) 1 5)) dX12_access_101 sM_1 rfl (Nat.le_of_ble_eq_true rfl) (by decide) rfl rfl ?_
  obtain ⟨j_14, hj, hl, h⟩ := h
  refine g_iastJ (n := 103) (j := j_14) dX12_access_102 sM_1 hj hl (by decide) rfl ?_
  refine g_forget (ls' := [some (.ref 0), some (.int x1), none]) (ab_fg rfl) ?_
  refine g_less (bc' := 0) (bs' := 0) (Nat.le_of_ble_eq_true rfl) (Nat.le_of_ble_eq_true rfl) ?_
  exact tjX12_access_103  _ _ _ h
set_option maxRecDepth 20000 in
theorem ctX12_access  {K : ab_F → ab_F → Prop} {I A : ab_F} {p0 : Int32} (h : wX12_access K I A p0) : ab_Cl mX12_access 5 0 0 [.ref 0, .int p0] shM I A (ab_Px shM ab_no (ab_rv K)) := by
  refine ab_enter (ls := [some (.ref 0), some (.int p0), none]) (by decide +kernel) (Nat.le_of_ble_eq_true rfl) rfl (fun C => ?_)
  unfold wX12_access at h
  refine g_aload_n (n := 1) dX12_access_0 rfl rfl rfl ?_
  refine g_getR (n := 4) (k := 0) dX12_access_1 sM_0 vc_16 (Nat.le_of_ble_eq_true rfl) rfl w_1994 rfl ?_
  refine g_iconst (n := 5) (v := (nI 5)) dX12_access_4 rfl rfl ?_
  refine g_dup2 (n := 6) dX12_access_5 rfl rfl rfl ?_
  refine g_ialdJ (n := 7) (j := 5) (x := (A 1 5)) dX12_access_6 sM_1 rfl (Nat.le_of_ble_eq_true rfl) (by decide) rfl rfl ?_
  refine g_iconst (n := 8) (v := (nI 1)) dX12_access_7 rfl rfl ?_
  refine g_iadd (n := 9) dX12_access_8 rfl ?_
  refine g_iastJ (n := 10) (j := 5) dX12_access_9 sM_1 rfl (Nat.le_of_ble_eq_true rfl) (by decide) rfl ?_
  refine g_aload_n (n := 11) dX12_access_10 rfl rfl rfl ?_
  refine g_getR (n := 14) (k := 0) dX12_access_11 sM_0 vc_16 (Nat.le_of_ble_eq_true rfl) rfl w_1994 rfl ?_
  refine g_sipush (n := 17) (v := (nI 128)) dX12_access_14 rfl rfl ?_
  refine g_iload_n (n := 18) dX12_access_17 rfl rfl rfl ?_
  refine g_iadd (n := 19) dX12_access_18 rfl ?_
  obtain ⟨j_1, hj, hl, h⟩ := h
  refine g_ialdJ (n := 20) (j := j_1) (x := ((wr A 1 5 ((A 1 5) + (nI 1))) 1 j_1)) dX12_access_19 sM_1 hj hl (by decide) rfl rfl ?_
  refine g_iconst (n := 21) (v := (-1 : Int32)) dX12_access_20 rfl rfl ?_
  refine g_icmp_ne (n := 24) 103 dX12_access_21 (by decide) rfl (fun hc => ?_) (fun hc => ?_)
  · have h := h.1 hc
    refine g_less (bc' := 0) (bs' := 0) (Nat.le_of_ble_eq_true rfl) (Nat.le_of_ble_eq_true rfl) ?_
    exact tjX12_access_103  _ _ _ h
  · have h := h.2 hc
    refine g_aload_n (n := 25) dX12_access_24 rfl rfl rfl ?_
    refine g_getR (n := 28) (k := 0) dX12_access_25 sM_0 vc_16 (Nat.le_of_ble_eq_true rfl) rfl w_1994 rfl ?_
    refine g_bipush (n := 30) (v := (nI 6)) dX12_access_28 rfl rfl ?_
    refine g_dup2 (n := 31) dX12_access_30 rfl rfl rfl ?_
    refine g_ialdJ (n := 32) (j := 6) (x := (A 1 6)) dX12_access_31 sM_1 rfl (Nat.le_of_ble_eq_true rfl) (by decide) rfl rfl ?_
    refine g_iconst (n := 33) (v := (nI 1)) dX12_access_32 rfl rfl ?_
    refine g_iadd (n := 34) dX12_access_33 rfl ?_
    refine g_iastJ (n := 35) (j := 6) dX12_access_34 sM_1 rfl (Nat.le_of_ble_eq_true rfl) (by decide) rfl ?_
    refine g_aload_n (n := 36) dX12_access_35 rfl rfl rfl ?_
    refine g_callV (n := 39) (as := []) (bc' := 0) (bs' := 0) sM_0 vc_16 (ctX12_freeFrame h) okX12_freeFrame rfl w_2223 w_2225 w_49 w_112 dX12_access_36 rfl rfl (Nat.le_of_ble_eq_true rfl) (Nat.le_of_ble_eq_true rfl) (Nat.le_of_ble_eq_true rfl) (Nat.le_of_ble_eq_true rfl) rfl (fun E sh1 I1 A1 hp _ => hp.2.elim) (fun ro sh_ I_6 A_7 hp hle => ?_)
    obtain ⟨rfl, r_8, rfl, h⟩ := hp
    refine g_iconst (n := 40) (v := (-1 : Int32)) dX12_access_39 rfl rfl ?_
    refine g_icmp_ne (n := 43) 60 dX12_access_40 (by decide) rfl (fun hc => ?_) (fun hc => ?_)
    · have h := h.1 hc
      refine g_less (bc' := 0) (bs' := 0) (Nat.le_of_ble_eq_true rfl) (Nat.le_of_ble_eq_true rfl) ?_
      exact tjX12_access_60  _ _ _ h
    · have h := h.2 hc
      refine g_aload_n (n := 44) dX12_access_43 rfl rfl rfl ?_
      refine g_aload_n (n := 45) dX12_access_44 rfl rfl rfl ?_
      refine g_getR (n := 48) (k := 0) dX12_access_45 sM_0 vc_16 (Nat.le_of_ble_eq_true rfl) rfl w_1994 rfl ?_
      refine g_sipush (n := 51) (v := (nI 320)) dX12_access_48 rfl rfl ?_
      refine g_aload_n (n := 52) dX12_access_51 rfl rfl rfl ?_
      refine g_callV (n := 55) (as := []) (bc' := 0) (bs' := 0) sM_0 vc_16 (ctX12_victimFrame h) okX12_victimFrame rfl w_2227 w_2229 w_50 w_112 dX12_access_52 rfl rfl (Nat.le_of_ble_eq_true rfl) (Nat.le_of_ble_eq_true rfl) (Nat.le_of_ble_eq_true rfl) (Nat.le_of_ble_eq_true rfl) rfl (fun E sh1 I1 A1 hp _ => hp.2.elim) (fun ro sh_ I_15 A_16 hp hle => ?_)
      obtain ⟨rfl, r_17, rfl, h⟩ := hp
      refine g_iadd (n := 56) dX12_access_55 rfl ?_
      obtain ⟨j_18, hj, hl, h⟩ := h
      refine g_ialdJ (n := 57) (j := j_18) (x := (A_16 1 j_18)) dX12_access_56 sM_1 hj hl (by decide) rfl rfl ?_
      refine g_callV (n := 60) (as := [.int (A_16 1 j_18)]) (bc' := 0) (bs' := 0) sM_0 vc_16 (ctX12_evict h) okX12_evict rfl w_2251 w_2253 w_56 w_112 dX12_access_57 rfl rfl (Nat.le_of_ble_eq_true rfl) (Nat.le_of_ble_eq_true rfl) (Nat.le_of_ble_eq_true rfl) (Nat.le_of_ble_eq_true rfl) rfl (fun E sh1 I1 A1 hp _ => hp.2.elim) (fun ro sh_ I_19 A_20 hp hle => ?_)
      obtain ⟨rfl, rfl, h⟩ := hp
      refine g_less (bc' := 0) (bs' := 0) (Nat.le_of_ble_eq_true rfl) (Nat.le_of_ble_eq_true rfl) ?_
      exact tjX12_access_60  _ _ _ h
def wX12_isNan (K : Int32 → ab_F → ab_F → Prop) (I A : ab_F) (p0 : Int32) : Prop := ((¬ ((p0 >>> ((nI 23) &&& 31)) &&& (nI 255)) = (nI 255) → K (nI 0) I A) ∧ (((p0 >>> ((nI 23) &&& 31)) &&& (nI 255)) = (nI 255) → (((p0 &&& (nI 8388607)) = 0 → K (nI 0) I A) ∧ (¬ (p0 &&& (nI 8388607)) = 0 → K (nI 1) I A))))
set_option maxRecDepth 20000 in
theorem ctX12_isNan  {K : Int32 → ab_F → ab_F → Prop} {I A : ab_F} {p0 : Int32} (h : wX12_isNan K I A p0) : ab_Cl mX12_isNan 0 0 0 [.int p0] shM I A (ab_Px shM ab_no (ab_ri K)) := by
  refine ab_enter (ls := [some (.int p0)]) (by decide +kernel) (Nat.le_of_ble_eq_true rfl) rfl (fun C => ?_)
  unfold wX12_isNan at h
  refine g_iload_n (n := 1) dX12_isNan_0 rfl rfl rfl ?_
  refine g_bipush (n := 3) (v := (nI 23)) dX12_isNan_1 rfl rfl ?_
  refine g_ishr (n := 4) dX12_isNan_3 rfl ?_
  refine g_sipush (n := 7) (v := (nI 255)) dX12_isNan_4 rfl rfl ?_
  refine g_iand (n := 8) dX12_isNan_7 rfl ?_
  refine g_sipush (n := 11) (v := (nI 255)) dX12_isNan_8 rfl rfl ?_
  refine g_icmp_ne (n := 14) 25 dX12_isNan_11 (by decide) rfl (fun hc => ?_) (fun hc => ?_)
  · have h := h.1 hc
    refine g_iconst (n := 26) (v := (nI 0)) dX12_isNan_25 rfl rfl ?_
    exact g_iret rfl rfl dX12_isNan_26 ⟨rfl, _, rfl, h⟩
  · have h := h.2 hc
    refine g_iload_n (n := 15) dX12_isNan_14 rfl rfl rfl ?_
    refine g_ldc (n := 17) (v := (nI 8388607)) dX12_isNan_15 w_2274 rfl ?_
    refine g_iand (n := 18) dX12_isNan_17 rfl ?_
    refine g_if_eq (n := 21) 25 dX12_isNan_18 (by decide) rfl (fun hc => ?_) (fun hc => ?_)
    · have h := h.1 hc
      refine g_iconst (n := 26) (v := (nI 0)) dX12_isNan_25 rfl rfl ?_
      exact g_iret rfl rfl dX12_isNan_26 ⟨rfl, _, rfl, h⟩
    · have h := h.2 hc
      refine g_iconst (n := 22) (v := (nI 1)) dX12_isNan_21 rfl rfl ?_
      refine g_goto 26 dX12_isNan_22 (by decide) ?_
      exact g_iret rfl rfl dX12_isNan_26 ⟨rfl, _, rfl, h⟩
def wjX12_write_55 (K : ab_F → ab_F → Prop) (x1 : Int32) (s0 : Int32) (s1 : Int32) (I A : ab_F) : Prop := (∃ j_7 : Nat, s1 = nI j_7 ∧ j_7 < 608 ∧ (∃ j_8 : Nat, ((nI 80) + x1) = nI j_8 ∧ j_8 < 608 ∧ (∃ j_9 : Nat, ((nI 176) + x1) = nI j_9 ∧ j_9 < 608 ∧ K I (wr (wr (wr A 1 j_7 s0) 1 j_8 (-1 : Int32)) 1 j_9 (nI 1)))))
def wjX12_write_54 (K : ab_F → ab_F → Prop) (x1 : Int32) (x2 : Int32) (s0 : Int32) (I A : ab_F) : Prop := wjX12_write_55 K x1 x2 s0 I A
def wjX12_write_13 (K : ab_F → ab_F → Prop) (x1 : Int32) (x2 : Int32) (I A : ab_F) : Prop := wX12_access (fun I_4 A_5 => (∃ j_6 : Nat, ((nI 14) + (x1 / (nI 8))) = nI j_6 ∧ j_6 < 608 ∧ ((¬ (A_5 1 j_6) = (nI 1) → wjX12_write_54 K x1 x2 ((nI 32) + x1) I_4 A_5) ∧ ((A_5 1 j_6) = (nI 1) → wX12_isNan (fun r_12 I_10 A_11 => ((r_12 = 0 → wjX12_write_54 K x1 x2 ((nI 32) + x1) I_10 A_11) ∧ (¬ r_12 = 0 → wjX12_write_55 K x1 (nI 2143289344) ((nI 32) + x1) I_10 A_11))) I_4 A_5 x2)))) I A x1
def wX12_write (K : ab_F → ab_F → Prop) (I A : ab_F) (p0 : Int32) (p1 : Int32) : Prop := wX12_isPending (fun r_3 I_1 A_2 => ((r_3 = 0 → wjX12_write_13 K p0 p1 I_1 A_2) ∧ (¬ r_3 = 0 → wX12_take (fun I_13 A_14 => wjX12_write_13 K p0 p1 I_13 A_14) I_1 A_2 p0))) I A p0
set_option maxRecDepth 20000 in
theorem tjX12_write_55 {C : ab_X}  {K : ab_F → ab_F → Prop} (x1 : Int32) (s0 : Int32) (s1 : Int32) (I A : ab_F) (h : wjX12_write_55 K x1 s0 s1 I A) : ab_G mX12_write 6 C (ab_Px shM ab_no (ab_rv K)) 55 [some (.ref 0), some (.int x1), none] [.int s0, .int s1, .ref 1] shM I A 0 0 := by
  unfold wjX12_write_55 at h
  obtain ⟨j_7, hj, hl, h⟩ := h
  refine g_iastJ (n := 56) (j := j_7) dX12_write_55 sM_1 hj hl (by decide) rfl ?_
  refine g_aload_n (n := 57) dX12_write_56 rfl rfl rfl ?_
  refine g_getR (n := 60) (k := 0) dX12_write_57 sM_0 vc_16 (Nat.le_of_ble_eq_true rfl) rfl w_1994 rfl ?_
  refine g_bipush (n := 62) (v := (nI 80)) dX12_write_60 rfl rfl ?_
  refine g_iload_n (n := 63) dX12_write_62 rfl rfl rfl ?_
  refine g_iadd (n := 64) dX12_write_63 rfl ?_
  refine g_iconst (n := 65) (v := (-1 : Int32)) dX12_write_64 rfl rfl ?_
  obtain ⟨j_8, hj, hl, h⟩ := h
  refine g_iastJ (n := 66) (j := j_8) dX12_write_65 sM_1 hj hl (by decide) rfl ?_
  refine g_aload_n (n := 67) dX12_write_66 rfl rfl rfl ?_
  refine g_getR (n := 70) (k := 0) dX12_write_67 sM_0 vc_16 (Nat.le_of_ble_eq_true rfl) rfl w_1994 rfl ?_
  refine g_sipush (n := 73) (v := (nI 176)) dX12_write_70 rfl rfl ?_
  refine g_iload_n (n := 74) dX12_write_73 rfl rfl rfl ?_
  refine g_iadd (n := 75) dX12_write_74 rfl ?_
  refine g_iconst (n := 76) (v := (nI 1)) dX12_write_75 rfl rfl ?_
  obtain ⟨j_9, hj, hl, h⟩ := h
  refine g_iastJ (n := 77) (j := j_9) dX12_write_76 sM_1 hj hl (by decide) rfl ?_
  exact g_vret rfl dX12_write_77 ⟨rfl, rfl, h⟩
set_option maxRecDepth 20000 in
theorem tjX12_write_54 {C : ab_X}  {K : ab_F → ab_F → Prop} (x1 : Int32) (x2 : Int32) (s0 : Int32) (I A : ab_F) (h : wjX12_write_54 K x1 x2 s0 I A) : ab_G mX12_write 6 C (ab_Px shM ab_no (ab_rv K)) 54 [some (.ref 0), some (.int x1), some (.int x2)] [.int s0, .ref 1] shM I A 0 0 := by
  unfold wjX12_write_54 at h
  refine g_iload_n (n := 55) dX12_write_54 rfl rfl rfl ?_
  refine g_forget (ls' := [some (.ref 0), some (.int x1), none]) (ab_fg rfl) ?_
  refine g_less (bc' := 0) (bs' := 0) (Nat.le_of_ble_eq_true rfl) (Nat.le_of_ble_eq_true rfl) ?_
  exact tjX12_write_55  _ _ _ _ _ h
set_option maxRecDepth 20000 in
theorem tjX12_write_13 {C : ab_X}  {K : ab_F → ab_F → Prop} (x1 : Int32) (x2 : Int32) (I A : ab_F) (h : wjX12_write_13 K x1 x2 I A) : ab_G mX12_write 6 C (ab_Px shM ab_no (ab_rv K)) 13 [some (.ref 0), some (.int x1), some (.int x2)] [] shM I A 0 0 := by
  unfold wjX12_write_13 at h
  refine g_aload_n (n := 14) dX12_write_13 rfl rfl rfl ?_
  refine g_iload_n (n := 15) dX12_write_14 rfl rfl rfl ?_
  refine g_callV (n := 18) (as := [.int x1]) (bc' := 0) (bs' := 0) sM_0 vc_16 (ctX12_access h) okX12_access rfl w_2247 w_2249 w_55 w_112 dX12_write_15 rfl rfl (Nat.le_of_ble_eq_true rfl) (Nat.le_of_ble_eq_true rfl) (Nat.le_of_ble_eq_true rfl) (Nat.le_of_ble_eq_true rfl) rfl (fun E sh1 I1 A1 hp _ => hp.2.elim) (fun ro sh_ I_4 A_5 hp hle => ?_)
  obtain ⟨rfl, rfl, h⟩ := hp
  refine g_aload_n (n := 19) dX12_write_18 rfl rfl rfl ?_
  refine g_getR (n := 22) (k := 0) dX12_write_19 sM_0 vc_16 (Nat.le_of_ble_eq_true rfl) rfl w_1994 rfl ?_
  refine g_bipush (n := 24) (v := (nI 32)) dX12_write_22 rfl rfl ?_
  refine g_iload_n (n := 25) dX12_write_24 rfl rfl rfl ?_
  refine g_iadd (n := 26) dX12_write_25 rfl ?_
  refine g_aload_n (n := 27) dX12_write_26 rfl rfl rfl ?_
  refine g_getR (n := 30) (k := 0) dX12_write_27 sM_0 vc_16 (Nat.le_of_ble_eq_true rfl) rfl w_1994 rfl ?_
  refine g_bipush (n := 32) (v := (nI 14)) dX12_write_30 rfl rfl ?_
  refine g_iload_n (n := 33) dX12_write_32 rfl rfl rfl ?_
  refine g_bipush (n := 35) (v := (nI 8)) dX12_write_33 rfl rfl ?_
  refine g_idiv (n := 36) dX12_write_35 (by decide) rfl ?_
  refine g_iadd (n := 37) dX12_write_36 rfl ?_
  obtain ⟨j_6, hj, hl, h⟩ := h
  refine g_ialdJ (n := 38) (j := j_6) (x := (A_5 1 j_6)) dX12_write_37 sM_1 hj hl (by decide) rfl rfl ?_
  refine g_iconst (n := 39) (v := (nI 1)) dX12_write_38 rfl rfl ?_
  refine g_icmp_ne (n := 42) 54 dX12_write_39 (by decide) rfl (fun hc => ?_) (fun hc => ?_)
  · have h := h.1 hc
    refine g_less (bc' := 0) (bs' := 0) (Nat.le_of_ble_eq_true rfl) (Nat.le_of_ble_eq_true rfl) ?_
    exact tjX12_write_54  _ _ _ _ _ h
  · have h := h.2 hc
    refine g_iload_n (n := 43) dX12_write_42 rfl rfl rfl ?_
    refine g_callS (n := 46) (as := [.int x2]) (bc' := 0) (bs' := 0) (ctX12_isNan h) okX12_isNan w_2271 w_2272 dX12_write_43 rfl rfl (Nat.le_of_ble_eq_true rfl) (Nat.le_of_ble_eq_true rfl) (Nat.le_of_ble_eq_true rfl) (Nat.le_of_ble_eq_true rfl) rfl (fun E sh1 I1 A1 hp _ => hp.2.elim) (fun ro sh_ I_10 A_11 hp hle => ?_)
    obtain ⟨rfl, r_12, rfl, h⟩ := hp
    refine g_if_eq (n := 49) 54 dX12_write_46 (by decide) rfl (fun hc => ?_) (fun hc => ?_)
    · have h := h.1 hc
      refine g_less (bc' := 0) (bs' := 0) (Nat.le_of_ble_eq_true rfl) (Nat.le_of_ble_eq_true rfl) ?_
      exact tjX12_write_54  _ _ _ _ _ h
    · have h := h.2 hc
      refine g_ldc (n := 51) (v := (nI 2143289344)) dX12_write_49 w_2275 rfl ?_
      refine g_goto 55 dX12_write_51 (by decide) ?_
      refine g_forget (ls' := [some (.ref 0), some (.int x1), none]) (ab_fg rfl) ?_
      refine g_less (bc' := 0) (bs' := 0) (Nat.le_of_ble_eq_true rfl) (Nat.le_of_ble_eq_true rfl) ?_
      exact tjX12_write_55  _ _ _ _ _ h
set_option maxRecDepth 20000 in
theorem ctX12_write  {K : ab_F → ab_F → Prop} {I A : ab_F} {p0 : Int32} {p1 : Int32} (h : wX12_write K I A p0 p1) : ab_Cl mX12_write 6 0 0 [.ref 0, .int p0, .int p1] shM I A (ab_Px shM ab_no (ab_rv K)) := by
  refine ab_enter (ls := [some (.ref 0), some (.int p0), some (.int p1)]) (by decide +kernel) (Nat.le_of_ble_eq_true rfl) rfl (fun C => ?_)
  unfold wX12_write at h
  refine g_aload_n (n := 1) dX12_write_0 rfl rfl rfl ?_
  refine g_iload_n (n := 2) dX12_write_1 rfl rfl rfl ?_
  refine g_callV (n := 5) (as := [.int p0]) (bc' := 0) (bs' := 0) sM_0 vc_16 (ctX12_isPending h) okX12_isPending rfl w_2200 w_2202 w_44 w_112 dX12_write_2 rfl rfl (Nat.le_of_ble_eq_true rfl) (Nat.le_of_ble_eq_true rfl) (Nat.le_of_ble_eq_true rfl) (Nat.le_of_ble_eq_true rfl) rfl (fun E sh1 I1 A1 hp _ => hp.2.elim) (fun ro sh_ I_1 A_2 hp hle => ?_)
  obtain ⟨rfl, r_3, rfl, h⟩ := hp
  refine g_if_eq (n := 8) 13 dX12_write_5 (by decide) rfl (fun hc => ?_) (fun hc => ?_)
  · have h := h.1 hc
    refine g_less (bc' := 0) (bs' := 0) (Nat.le_of_ble_eq_true rfl) (Nat.le_of_ble_eq_true rfl) ?_
    exact tjX12_write_13  _ _ _ _ h
  · have h := h.2 hc
    refine g_aload_n (n := 9) dX12_write_8 rfl rfl rfl ?_
    refine g_iload_n (n := 10) dX12_write_9 rfl rfl rfl ?_
    refine g_callV (n := 13) (as := [.int p0]) (bc' := 0) (bs' := 0) sM_0 vc_16 (ctX12_take h) okX12_take rfl w_2255 w_2257 w_57 w_112 dX12_write_10 rfl rfl (Nat.le_of_ble_eq_true rfl) (Nat.le_of_ble_eq_true rfl) (Nat.le_of_ble_eq_true rfl) (Nat.le_of_ble_eq_true rfl) rfl (fun E sh1 I1 A1 hp _ => hp.2.elim) (fun ro sh_ I_13 A_14 hp hle => ?_)
    obtain ⟨rfl, rfl, h⟩ := hp
    refine g_less (bc' := 0) (bs' := 0) (Nat.le_of_ble_eq_true rfl) (Nat.le_of_ble_eq_true rfl) ?_
    exact tjX12_write_13  _ _ _ _ h
