def wlX12_lay_1_117 (K : ab_F → ab_F → Prop) : Nat → Int32 → ab_F → ab_F → Prop
  | 0, _, _, _ => False
  | n + 1, x1, I, A => (((nI 48) ≤ x1 → K I A) ∧ (¬ (nI 48) ≤ x1 → (∃ j_1 : Nat, ((nI 416) + x1) = nI j_1 ∧ j_1 < 608 ∧ (∃ j_2 : Nat, ((nI 464) + x1) = nI j_2 ∧ j_2 < 608 ∧ (wlX12_lay_1_117 K n) (x1 + nI 1) I (wr (wr A 1 j_1 (-1 : Int32)) 1 j_2 (-1 : Int32))))))
def wlX12_lay_1_95 (K : ab_F → ab_F → Prop) : Nat → Int32 → ab_F → ab_F → Prop
  | 0, _, _, _ => False
  | n + 1, x1, I, A => (((nI 16) ≤ x1 → (∃ nf : Nat, wlX12_lay_1_117 K nf (nI 0) I A)) ∧ (¬ (nI 16) ≤ x1 → (∃ j_3 : Nat, ((nI 320) + x1) = nI j_3 ∧ j_3 < 608 ∧ (wlX12_lay_1_95 K n) (x1 + nI 1) I (wr A 1 j_3 (-1 : Int32)))))
def wlX12_lay_1_50 (K : ab_F → ab_F → Prop) : Nat → Int32 → ab_F → ab_F → Prop
  | 0, _, _, _ => False
  | n + 1, x1, I, A => (((nI 48) ≤ x1 → (∃ nf : Nat, wlX12_lay_1_95 K nf (nI 0) I A)) ∧ (¬ (nI 48) ≤ x1 → (∃ j_4 : Nat, ((nI 80) + x1) = nI j_4 ∧ j_4 < 608 ∧ (∃ j_5 : Nat, ((nI 128) + x1) = nI j_5 ∧ j_5 < 608 ∧ (∃ j_6 : Nat, ((nI 224) + x1) = nI j_6 ∧ j_6 < 608 ∧ (∃ j_7 : Nat, ((nI 272) + x1) = nI j_7 ∧ j_7 < 608 ∧ (wlX12_lay_1_50 K n) (x1 + nI 1) I (wr (wr (wr (wr A 1 j_4 (-1 : Int32)) 1 j_5 (-1 : Int32)) 1 j_6 (-1 : Int32)) 1 j_7 (-1 : Int32))))))))
def wlX12_lay_1_29 (K : ab_F → ab_F → Prop) : Nat → Int32 → ab_F → ab_F → Prop
  | 0, _, _, _ => False
  | n + 1, x1, I, A => (((nI 6) ≤ x1 → (∃ nf : Nat, wlX12_lay_1_50 K nf (nI 0) I A)) ∧ (¬ (nI 6) ≤ x1 → (∃ j_8 : Nat, ((nI 26) + x1) = nI j_8 ∧ j_8 < 608 ∧ (wlX12_lay_1_29 K n) (x1 + nI 1) I (wr A 1 j_8 (-1 : Int32)))))
def wlX12_lay_1_2 (K : ab_F → ab_F → Prop) : Nat → Int32 → ab_F → ab_F → Prop
  | 0, _, _, _ => False
  | n + 1, x1, I, A => (((nI 608) ≤ x1 → (∃ nf : Nat, wlX12_lay_1_29 K nf (nI 0) I (wr (wr A 1 0 (nI 1)) 1 1 (nI 1)))) ∧ (¬ (nI 608) ≤ x1 → (∃ j_9 : Nat, x1 = nI j_9 ∧ j_9 < 608 ∧ (wlX12_lay_1_2 K n) (x1 + nI 1) I (wr A 1 j_9 (nI 0)))))
def wX12_lay_1 (K : ab_F → ab_F → Prop) (I A : ab_F)  : Prop := (∃ nf : Nat, wlX12_lay_1_2 K nf (nI 0) I A)
set_option maxRecDepth 20000 in
theorem tlX12_lay_1_117 {C : ab_X}  {K : ab_F → ab_F → Prop} : ∀ (n : Nat) (x1 : Int32) (I A : ab_F), wlX12_lay_1_117 K n x1 I A → ab_G mX12_lay 0 C (ab_Px shM ab_no (ab_rv K)) 117 [some (.ref 1), some (.int x1)] [] shM I A 0 0 := by
  intro n
  induction n with
  | zero => intro x1 I A h; exact h.elim
  | succ n hL117 =>
    intro x1 I A h
    rw [wlX12_lay_1_117] at h
    refine g_iload_n (n := 118) dX12_lay_117 rfl rfl rfl ?_
    refine g_bipush (n := 120) (v := (nI 48)) dX12_lay_118 rfl rfl ?_
    refine g_icmp_ge (n := 123) 145 dX12_lay_120 (by decide) rfl (fun hc => ?_) (fun hc => ?_)
    · have h := h.1 hc
      exact g_vret rfl dX12_lay_145 ⟨rfl, rfl, h⟩
    · have h := h.2 hc
      refine g_aload_n (n := 124) dX12_lay_123 rfl rfl rfl ?_
      refine g_sipush (n := 127) (v := (nI 416)) dX12_lay_124 rfl rfl ?_
      refine g_iload_n (n := 128) dX12_lay_127 rfl rfl rfl ?_
      refine g_iadd (n := 129) dX12_lay_128 rfl ?_
      refine g_iconst (n := 130) (v := (-1 : Int32)) dX12_lay_129 rfl rfl ?_
      obtain ⟨j_1, hj, hl, h⟩ := h
      refine g_iastJ (n := 131) (j := j_1) dX12_lay_130 sM_1 hj hl (by decide) rfl ?_
      refine g_aload_n (n := 132) dX12_lay_131 rfl rfl rfl ?_
      refine g_sipush (n := 135) (v := (nI 464)) dX12_lay_132 rfl rfl ?_
      refine g_iload_n (n := 136) dX12_lay_135 rfl rfl rfl ?_
      refine g_iadd (n := 137) dX12_lay_136 rfl ?_
      refine g_iconst (n := 138) (v := (-1 : Int32)) dX12_lay_137 rfl rfl ?_
      obtain ⟨j_2, hj, hl, h⟩ := h
      refine g_iastJ (n := 139) (j := j_2) dX12_lay_138 sM_1 hj hl (by decide) rfl ?_
      refine g_iinc (n := 142) (v := (x1 + nI 1)) (ls' := [some (.ref 1), some (.int (x1 + nI 1))]) dX12_lay_139 rfl rfl rfl (Nat.le_of_ble_eq_true rfl) rfl rfl ?_
      refine g_goto 117 dX12_lay_142 (by decide) ?_
      exact hL117 _ _ _ h
set_option maxRecDepth 20000 in
theorem tlX12_lay_1_95 {C : ab_X}  {K : ab_F → ab_F → Prop} : ∀ (n : Nat) (x1 : Int32) (I A : ab_F), wlX12_lay_1_95 K n x1 I A → ab_G mX12_lay 0 C (ab_Px shM ab_no (ab_rv K)) 95 [some (.ref 1), some (.int x1)] [] shM I A 0 0 := by
  intro n
  induction n with
  | zero => intro x1 I A h; exact h.elim
  | succ n hL95 =>
    intro x1 I A h
    rw [wlX12_lay_1_95] at h
    refine g_iload_n (n := 96) dX12_lay_95 rfl rfl rfl ?_
    refine g_bipush (n := 98) (v := (nI 16)) dX12_lay_96 rfl rfl ?_
    refine g_icmp_ge (n := 101) 115 dX12_lay_98 (by decide) rfl (fun hc => ?_) (fun hc => ?_)
    · have h := h.1 hc
      refine g_iconst (n := 116) (v := (nI 0)) dX12_lay_115 rfl rfl ?_
      refine g_istore_n (n := 117) (ls' := [some (.ref 1), some (.int (nI 0))]) dX12_lay_116 rfl rfl (Nat.le_of_ble_eq_true rfl) (Nat.le_of_ble_eq_true rfl) rfl rfl ?_
      refine g_less (bc' := 0) (bs' := 0) (Nat.le_of_ble_eq_true rfl) (Nat.le_of_ble_eq_true rfl) ?_
      obtain ⟨n_f, h⟩ := h
      exact tlX12_lay_1_117  n_f _ _ _ h
    · have h := h.2 hc
      refine g_aload_n (n := 102) dX12_lay_101 rfl rfl rfl ?_
      refine g_sipush (n := 105) (v := (nI 320)) dX12_lay_102 rfl rfl ?_
      refine g_iload_n (n := 106) dX12_lay_105 rfl rfl rfl ?_
      refine g_iadd (n := 107) dX12_lay_106 rfl ?_
      refine g_iconst (n := 108) (v := (-1 : Int32)) dX12_lay_107 rfl rfl ?_
      obtain ⟨j_3, hj, hl, h⟩ := h
      refine g_iastJ (n := 109) (j := j_3) dX12_lay_108 sM_1 hj hl (by decide) rfl ?_
      refine g_iinc (n := 112) (v := (x1 + nI 1)) (ls' := [some (.ref 1), some (.int (x1 + nI 1))]) dX12_lay_109 rfl rfl rfl (Nat.le_of_ble_eq_true rfl) rfl rfl ?_
      refine g_goto 95 dX12_lay_112 (by decide) ?_
      exact hL95 _ _ _ h
set_option maxRecDepth 20000 in
theorem tlX12_lay_1_50 {C : ab_X}  {K : ab_F → ab_F → Prop} : ∀ (n : Nat) (x1 : Int32) (I A : ab_F), wlX12_lay_1_50 K n x1 I A → ab_G mX12_lay 0 C (ab_Px shM ab_no (ab_rv K)) 50 [some (.ref 1), some (.int x1)] [] shM I A 0 0 := by
  intro n
  induction n with
  | zero => intro x1 I A h; exact h.elim
  | succ n hL50 =>
    intro x1 I A h
    rw [wlX12_lay_1_50] at h
    refine g_iload_n (n := 51) dX12_lay_50 rfl rfl rfl ?_
    refine g_bipush (n := 53) (v := (nI 48)) dX12_lay_51 rfl rfl ?_
    refine g_icmp_ge (n := 56) 93 dX12_lay_53 (by decide) rfl (fun hc => ?_) (fun hc => ?_)
    · have h := h.1 hc
      refine g_iconst (n := 94) (v := (nI 0)) dX12_lay_93 rfl rfl ?_
      refine g_istore_n (n := 95) (ls' := [some (.ref 1), some (.int (nI 0))]) dX12_lay_94 rfl rfl (Nat.le_of_ble_eq_true rfl) (Nat.le_of_ble_eq_true rfl) rfl rfl ?_
      refine g_less (bc' := 0) (bs' := 0) (Nat.le_of_ble_eq_true rfl) (Nat.le_of_ble_eq_true rfl) ?_
      obtain ⟨n_f, h⟩ := h
      exact tlX12_lay_1_95  n_f _ _ _ h
    · have h := h.2 hc
      refine g_aload_n (n := 57) dX12_lay_56 rfl rfl rfl ?_
      refine g_bipush (n := 59) (v := (nI 80)) dX12_lay_57 rfl rfl ?_
      refine g_iload_n (n := 60) dX12_lay_59 rfl rfl rfl ?_
      refine g_iadd (n := 61) dX12_lay_60 rfl ?_
      refine g_iconst (n := 62) (v := (-1 : Int32)) dX12_lay_61 rfl rfl ?_
      obtain ⟨j_4, hj, hl, h⟩ := h
      refine g_iastJ (n := 63) (j := j_4) dX12_lay_62 sM_1 hj hl (by decide) rfl ?_
      refine g_aload_n (n := 64) dX12_lay_63 rfl rfl rfl ?_
      refine g_sipush (n := 67) (v := (nI 128)) dX12_lay_64 rfl rfl ?_
      refine g_iload_n (n := 68) dX12_lay_67 rfl rfl rfl ?_
      refine g_iadd (n := 69) dX12_lay_68 rfl ?_
      refine g_iconst (n := 70) (v := (-1 : Int32)) dX12_lay_69 rfl rfl ?_
      obtain ⟨j_5, hj, hl, h⟩ := h
      refine g_iastJ (n := 71) (j := j_5) dX12_lay_70 sM_1 hj hl (by decide) rfl ?_
      refine g_aload_n (n := 72) dX12_lay_71 rfl rfl rfl ?_
      refine g_sipush (n := 75) (v := (nI 224)) dX12_lay_72 rfl rfl ?_
      refine g_iload_n (n := 76) dX12_lay_75 rfl rfl rfl ?_
      refine g_iadd (n := 77) dX12_lay_76 rfl ?_
      refine g_iconst (n := 78) (v := (-1 : Int32)) dX12_lay_77 rfl rfl ?_
      obtain ⟨j_6, hj, hl, h⟩ := h
      refine g_iastJ (n := 79) (j := j_6) dX12_lay_78 sM_1 hj hl (by decide) rfl ?_
      refine g_aload_n (n := 80) dX12_lay_79 rfl rfl rfl ?_
      refine g_sipush (n := 83) (v := (nI 272)) dX12_lay_80 rfl rfl ?_
      refine g_iload_n (n := 84) dX12_lay_83 rfl rfl rfl ?_
      refine g_iadd (n := 85) dX12_lay_84 rfl ?_
      refine g_iconst (n := 86) (v := (-1 : Int32)) dX12_lay_85 rfl rfl ?_
      obtain ⟨j_7, hj, hl, h⟩ := h
      refine g_iastJ (n := 87) (j := j_7) dX12_lay_86 sM_1 hj hl (by decide) rfl ?_
      refine g_iinc (n := 90) (v := (x1 + nI 1)) (ls' := [some (.ref 1), some (.int (x1 + nI 1))]) dX12_lay_87 rfl rfl rfl (Nat.le_of_ble_eq_true rfl) rfl rfl ?_
      refine g_goto 50 dX12_lay_90 (by decide) ?_
      exact hL50 _ _ _ h
set_option maxRecDepth 20000 in
theorem tlX12_lay_1_29 {C : ab_X}  {K : ab_F → ab_F → Prop} : ∀ (n : Nat) (x1 : Int32) (I A : ab_F), wlX12_lay_1_29 K n x1 I A → ab_G mX12_lay 0 C (ab_Px shM ab_no (ab_rv K)) 29 [some (.ref 1), some (.int x1)] [] shM I A 0 0 := by
  intro n
  induction n with
  | zero => intro x1 I A h; exact h.elim
  | succ n hL29 =>
    intro x1 I A h
    rw [wlX12_lay_1_29] at h
    refine g_iload_n (n := 30) dX12_lay_29 rfl rfl rfl ?_
    refine g_bipush (n := 32) (v := (nI 6)) dX12_lay_30 rfl rfl ?_
    refine g_icmp_ge (n := 35) 48 dX12_lay_32 (by decide) rfl (fun hc => ?_) (fun hc => ?_)
    · have h := h.1 hc
      refine g_iconst (n := 49) (v := (nI 0)) dX12_lay_48 rfl rfl ?_
      refine g_istore_n (n := 50) (ls' := [some (.ref 1), some (.int (nI 0))]) dX12_lay_49 rfl rfl (Nat.le_of_ble_eq_true rfl) (Nat.le_of_ble_eq_true rfl) rfl rfl ?_
      refine g_less (bc' := 0) (bs' := 0) (Nat.le_of_ble_eq_true rfl) (Nat.le_of_ble_eq_true rfl) ?_
      obtain ⟨n_f, h⟩ := h
      exact tlX12_lay_1_50  n_f _ _ _ h
    · have h := h.2 hc
      refine g_aload_n (n := 36) dX12_lay_35 rfl rfl rfl ?_
      refine g_bipush (n := 38) (v := (nI 26)) dX12_lay_36 rfl rfl ?_
      refine g_iload_n (n := 39) dX12_lay_38 rfl rfl rfl ?_
      refine g_iadd (n := 40) dX12_lay_39 rfl ?_
      refine g_iconst (n := 41) (v := (-1 : Int32)) dX12_lay_40 rfl rfl ?_
      obtain ⟨j_8, hj, hl, h⟩ := h
      refine g_iastJ (n := 42) (j := j_8) dX12_lay_41 sM_1 hj hl (by decide) rfl ?_
      refine g_iinc (n := 45) (v := (x1 + nI 1)) (ls' := [some (.ref 1), some (.int (x1 + nI 1))]) dX12_lay_42 rfl rfl rfl (Nat.le_of_ble_eq_true rfl) rfl rfl ?_
      refine g_goto 29 dX12_lay_45 (by decide) ?_
      exact hL29 _ _ _ h
set_option maxRecDepth 20000 in
theorem tlX12_lay_1_2 {C : ab_X}  {K : ab_F → ab_F → Prop} : ∀ (n : Nat) (x1 : Int32) (I A : ab_F), wlX12_lay_1_2 K n x1 I A → ab_G mX12_lay 0 C (ab_Px shM ab_no (ab_rv K)) 2 [some (.ref 1), some (.int x1)] [] shM I A 0 0 := by
  intro n
  induction n with
  | zero => intro x1 I A h; exact h.elim
  | succ n hL2 =>
    intro x1 I A h
    rw [wlX12_lay_1_2] at h
    refine g_iload_n (n := 3) dX12_lay_2 rfl rfl rfl ?_
    refine g_sipush (n := 6) (v := (nI 608)) dX12_lay_3 rfl rfl ?_
    refine g_icmp_ge (n := 9) 19 dX12_lay_6 (by decide) rfl (fun hc => ?_) (fun hc => ?_)
    · have h := h.1 hc
      refine g_aload_n (n := 20) dX12_lay_19 rfl rfl rfl ?_
      refine g_iconst (n := 21) (v := (nI 0)) dX12_lay_20 rfl rfl ?_
      refine g_iconst (n := 22) (v := (nI 1)) dX12_lay_21 rfl rfl ?_
      refine g_iastJ (n := 23) (j := 0) dX12_lay_22 sM_1 rfl (Nat.le_of_ble_eq_true rfl) (by decide) rfl ?_
      refine g_aload_n (n := 24) dX12_lay_23 rfl rfl rfl ?_
      refine g_iconst (n := 25) (v := (nI 1)) dX12_lay_24 rfl rfl ?_
      refine g_iconst (n := 26) (v := (nI 1)) dX12_lay_25 rfl rfl ?_
      refine g_iastJ (n := 27) (j := 1) dX12_lay_26 sM_1 rfl (Nat.le_of_ble_eq_true rfl) (by decide) rfl ?_
      refine g_iconst (n := 28) (v := (nI 0)) dX12_lay_27 rfl rfl ?_
      refine g_istore_n (n := 29) (ls' := [some (.ref 1), some (.int (nI 0))]) dX12_lay_28 rfl rfl (Nat.le_of_ble_eq_true rfl) (Nat.le_of_ble_eq_true rfl) rfl rfl ?_
      refine g_less (bc' := 0) (bs' := 0) (Nat.le_of_ble_eq_true rfl) (Nat.le_of_ble_eq_true rfl) ?_
      obtain ⟨n_f, h⟩ := h
      exact tlX12_lay_1_29  n_f _ _ _ h
    · have h := h.2 hc
      refine g_aload_n (n := 10) dX12_lay_9 rfl rfl rfl ?_
      refine g_iload_n (n := 11) dX12_lay_10 rfl rfl rfl ?_
      refine g_iconst (n := 12) (v := (nI 0)) dX12_lay_11 rfl rfl ?_
      obtain ⟨j_9, hj, hl, h⟩ := h
      refine g_iastJ (n := 13) (j := j_9) dX12_lay_12 sM_1 hj hl (by decide) rfl ?_
      refine g_iinc (n := 16) (v := (x1 + nI 1)) (ls' := [some (.ref 1), some (.int (x1 + nI 1))]) dX12_lay_13 rfl rfl rfl (Nat.le_of_ble_eq_true rfl) rfl rfl ?_
      refine g_goto 2 dX12_lay_16 (by decide) ?_
      exact hL2 _ _ _ h
set_option maxRecDepth 20000 in
theorem ctX12_lay_1  {K : ab_F → ab_F → Prop} {I A : ab_F}  (h : wX12_lay_1 K I A ) : ab_Cl mX12_lay 0 0 0 [.ref 1] shM I A (ab_Px shM ab_no (ab_rv K)) := by
  refine ab_enter (ls := [some (.ref 1), none]) (by decide +kernel) (Nat.le_of_ble_eq_true rfl) rfl (fun C => ?_)
  unfold wX12_lay_1 at h
  refine g_iconst (n := 1) (v := (nI 0)) dX12_lay_0 rfl rfl ?_
  refine g_istore_n (n := 2) (ls' := [some (.ref 1), some (.int (nI 0))]) dX12_lay_1 rfl rfl (Nat.le_of_ble_eq_true rfl) (Nat.le_of_ble_eq_true rfl) rfl rfl ?_
  refine g_less (bc' := 0) (bs' := 0) (Nat.le_of_ble_eq_true rfl) (Nat.le_of_ble_eq_true rfl) ?_
  obtain ⟨n_f, h⟩ := h
  exact tlX12_lay_1_2  n_f _ _ _ h
def wlX12_lay_3_117 (K : ab_F → ab_F → Prop) : Nat → Int32 → ab_F → ab_F → Prop
  | 0, _, _, _ => False
  | n + 1, x1, I, A => (((nI 48) ≤ x1 → K I A) ∧ (¬ (nI 48) ≤ x1 → (∃ j_1 : Nat, ((nI 416) + x1) = nI j_1 ∧ j_1 < 608 ∧ (∃ j_2 : Nat, ((nI 464) + x1) = nI j_2 ∧ j_2 < 608 ∧ (wlX12_lay_3_117 K n) (x1 + nI 1) I (wr (wr A 3 j_1 (-1 : Int32)) 3 j_2 (-1 : Int32))))))
def wlX12_lay_3_95 (K : ab_F → ab_F → Prop) : Nat → Int32 → ab_F → ab_F → Prop
  | 0, _, _, _ => False
  | n + 1, x1, I, A => (((nI 16) ≤ x1 → (∃ nf : Nat, wlX12_lay_3_117 K nf (nI 0) I A)) ∧ (¬ (nI 16) ≤ x1 → (∃ j_3 : Nat, ((nI 320) + x1) = nI j_3 ∧ j_3 < 608 ∧ (wlX12_lay_3_95 K n) (x1 + nI 1) I (wr A 3 j_3 (-1 : Int32)))))
def wlX12_lay_3_50 (K : ab_F → ab_F → Prop) : Nat → Int32 → ab_F → ab_F → Prop
  | 0, _, _, _ => False
  | n + 1, x1, I, A => (((nI 48) ≤ x1 → (∃ nf : Nat, wlX12_lay_3_95 K nf (nI 0) I A)) ∧ (¬ (nI 48) ≤ x1 → (∃ j_4 : Nat, ((nI 80) + x1) = nI j_4 ∧ j_4 < 608 ∧ (∃ j_5 : Nat, ((nI 128) + x1) = nI j_5 ∧ j_5 < 608 ∧ (∃ j_6 : Nat, ((nI 224) + x1) = nI j_6 ∧ j_6 < 608 ∧ (∃ j_7 : Nat, ((nI 272) + x1) = nI j_7 ∧ j_7 < 608 ∧ (wlX12_lay_3_50 K n) (x1 + nI 1) I (wr (wr (wr (wr A 3 j_4 (-1 : Int32)) 3 j_5 (-1 : Int32)) 3 j_6 (-1 : Int32)) 3 j_7 (-1 : Int32))))))))
def wlX12_lay_3_29 (K : ab_F → ab_F → Prop) : Nat → Int32 → ab_F → ab_F → Prop
  | 0, _, _, _ => False
  | n + 1, x1, I, A => (((nI 6) ≤ x1 → (∃ nf : Nat, wlX12_lay_3_50 K nf (nI 0) I A)) ∧ (¬ (nI 6) ≤ x1 → (∃ j_8 : Nat, ((nI 26) + x1) = nI j_8 ∧ j_8 < 608 ∧ (wlX12_lay_3_29 K n) (x1 + nI 1) I (wr A 3 j_8 (-1 : Int32)))))
def wlX12_lay_3_2 (K : ab_F → ab_F → Prop) : Nat → Int32 → ab_F → ab_F → Prop
  | 0, _, _, _ => False
  | n + 1, x1, I, A => (((nI 608) ≤ x1 → (∃ nf : Nat, wlX12_lay_3_29 K nf (nI 0) I (wr (wr A 3 0 (nI 1)) 3 1 (nI 1)))) ∧ (¬ (nI 608) ≤ x1 → (∃ j_9 : Nat, x1 = nI j_9 ∧ j_9 < 608 ∧ (wlX12_lay_3_2 K n) (x1 + nI 1) I (wr A 3 j_9 (nI 0)))))
def wX12_lay_3 (K : ab_F → ab_F → Prop) (I A : ab_F)  : Prop := (∃ nf : Nat, wlX12_lay_3_2 K nf (nI 0) I A)
set_option maxRecDepth 20000 in
theorem tlX12_lay_3_117 {C : ab_X}  {K : ab_F → ab_F → Prop} : ∀ (n : Nat) (x1 : Int32) (I A : ab_F), wlX12_lay_3_117 K n x1 I A → ab_G mX12_lay 0 C (ab_Px shM ab_no (ab_rv K)) 117 [some (.ref 3), some (.int x1)] [] shM I A 0 0 := by
  intro n
  induction n with
  | zero => intro x1 I A h; exact h.elim
  | succ n hL117 =>
    intro x1 I A h
    rw [wlX12_lay_3_117] at h
    refine g_iload_n (n := 118) dX12_lay_117 rfl rfl rfl ?_
    refine g_bipush (n := 120) (v := (nI 48)) dX12_lay_118 rfl rfl ?_
    refine g_icmp_ge (n := 123) 145 dX12_lay_120 (by decide) rfl (fun hc => ?_) (fun hc => ?_)
    · have h := h.1 hc
      exact g_vret rfl dX12_lay_145 ⟨rfl, rfl, h⟩
    · have h := h.2 hc
      refine g_aload_n (n := 124) dX12_lay_123 rfl rfl rfl ?_
      refine g_sipush (n := 127) (v := (nI 416)) dX12_lay_124 rfl rfl ?_
      refine g_iload_n (n := 128) dX12_lay_127 rfl rfl rfl ?_
      refine g_iadd (n := 129) dX12_lay_128 rfl ?_
      refine g_iconst (n := 130) (v := (-1 : Int32)) dX12_lay_129 rfl rfl ?_
      obtain ⟨j_1, hj, hl, h⟩ := h
      refine g_iastJ (n := 131) (j := j_1) dX12_lay_130 sM_3 hj hl (by decide) rfl ?_
      refine g_aload_n (n := 132) dX12_lay_131 rfl rfl rfl ?_
      refine g_sipush (n := 135) (v := (nI 464)) dX12_lay_132 rfl rfl ?_
      refine g_iload_n (n := 136) dX12_lay_135 rfl rfl rfl ?_
      refine g_iadd (n := 137) dX12_lay_136 rfl ?_
      refine g_iconst (n := 138) (v := (-1 : Int32)) dX12_lay_137 rfl rfl ?_
      obtain ⟨j_2, hj, hl, h⟩ := h
      refine g_iastJ (n := 139) (j := j_2) dX12_lay_138 sM_3 hj hl (by decide) rfl ?_
      refine g_iinc (n := 142) (v := (x1 + nI 1)) (ls' := [some (.ref 3), some (.int (x1 + nI 1))]) dX12_lay_139 rfl rfl rfl (Nat.le_of_ble_eq_true rfl) rfl rfl ?_
      refine g_goto 117 dX12_lay_142 (by decide) ?_
      exact hL117 _ _ _ h
set_option maxRecDepth 20000 in
theorem tlX12_lay_3_95 {C : ab_X}  {K : ab_F → ab_F → Prop} : ∀ (n : Nat) (x1 : Int32) (I A : ab_F), wlX12_lay_3_95 K n x1 I A → ab_G mX12_lay 0 C (ab_Px shM ab_no (ab_rv K)) 95 [some (.ref 3), some (.int x1)] [] shM I A 0 0 := by
  intro n
  induction n with
  | zero => intro x1 I A h; exact h.elim
  | succ n hL95 =>
    intro x1 I A h
    rw [wlX12_lay_3_95] at h
    refine g_iload_n (n := 96) dX12_lay_95 rfl rfl rfl ?_
    refine g_bipush (n := 98) (v := (nI 16)) dX12_lay_96 rfl rfl ?_
    refine g_icmp_ge (n := 101) 115 dX12_lay_98 (by decide) rfl (fun hc => ?_) (fun hc => ?_)
    · have h := h.1 hc
      refine g_iconst (n := 116) (v := (nI 0)) dX12_lay_115 rfl rfl ?_
      refine g_istore_n (n := 117) (ls' := [some (.ref 3), some (.int (nI 0))]) dX12_lay_116 rfl rfl (Nat.le_of_ble_eq_true rfl) (Nat.le_of_ble_eq_true rfl) rfl rfl ?_
      refine g_less (bc' := 0) (bs' := 0) (Nat.le_of_ble_eq_true rfl) (Nat.le_of_ble_eq_true rfl) ?_
      obtain ⟨n_f, h⟩ := h
      exact tlX12_lay_3_117  n_f _ _ _ h
    · have h := h.2 hc
      refine g_aload_n (n := 102) dX12_lay_101 rfl rfl rfl ?_
      refine g_sipush (n := 105) (v := (nI 320)) dX12_lay_102 rfl rfl ?_
      refine g_iload_n (n := 106) dX12_lay_105 rfl rfl rfl ?_
      refine g_iadd (n := 107) dX12_lay_106 rfl ?_
      refine g_iconst (n := 108) (v := (-1 : Int32)) dX12_lay_107 rfl rfl ?_
      obtain ⟨j_3, hj, hl, h⟩ := h
      refine g_iastJ (n := 109) (j := j_3) dX12_lay_108 sM_3 hj hl (by decide) rfl ?_
      refine g_iinc (n := 112) (v := (x1 + nI 1)) (ls' := [some (.ref 3), some (.int (x1 + nI 1))]) dX12_lay_109 rfl rfl rfl (Nat.le_of_ble_eq_true rfl) rfl rfl ?_
      refine g_goto 95 dX12_lay_112 (by decide) ?_
      exact hL95 _ _ _ h
set_option maxRecDepth 20000 in
theorem tlX12_lay_3_50 {C : ab_X}  {K : ab_F → ab_F → Prop} : ∀ (n : Nat) (x1 : Int32) (I A : ab_F), wlX12_lay_3_50 K n x1 I A → ab_G mX12_lay 0 C (ab_Px shM ab_no (ab_rv K)) 50 [some (.ref 3), some (.int x1)] [] shM I A 0 0 := by
  intro n
  induction n with
  | zero => intro x1 I A h; exact h.elim
  | succ n hL50 =>
    intro x1 I A h
    rw [wlX12_lay_3_50] at h
    refine g_iload_n (n := 51) dX12_lay_50 rfl rfl rfl ?_
    refine g_bipush (n := 53) (v := (nI 48)) dX12_lay_51 rfl rfl ?_
    refine g_icmp_ge (n := 56) 93 dX12_lay_53 (by decide) rfl (fun hc => ?_) (fun hc => ?_)
    · have h := h.1 hc
      refine g_iconst (n := 94) (v := (nI 0)) dX12_lay_93 rfl rfl ?_
      refine g_istore_n (n := 95) (ls' := [some (.ref 3), some (.int (nI 0))]) dX12_lay_94 rfl rfl (Nat.le_of_ble_eq_true rfl) (Nat.le_of_ble_eq_true rfl) rfl rfl ?_
      refine g_less (bc' := 0) (bs' := 0) (Nat.le_of_ble_eq_true rfl) (Nat.le_of_ble_eq_true rfl) ?_
      obtain ⟨n_f, h⟩ := h
      exact tlX12_lay_3_95  n_f _ _ _ h
    · have h := h.2 hc
      refine g_aload_n (n := 57) dX12_lay_56 rfl rfl rfl ?_
      refine g_bipush (n := 59) (v := (nI 80)) dX12_lay_57 rfl rfl ?_
      refine g_iload_n (n := 60) dX12_lay_59 rfl rfl rfl ?_
      refine g_iadd (n := 61) dX12_lay_60 rfl ?_
      refine g_iconst (n := 62) (v := (-1 : Int32)) dX12_lay_61 rfl rfl ?_
      obtain ⟨j_4, hj, hl, h⟩ := h
      refine g_iastJ (n := 63) (j := j_4) dX12_lay_62 sM_3 hj hl (by decide) rfl ?_
      refine g_aload_n (n := 64) dX12_lay_63 rfl rfl rfl ?_
      refine g_sipush (n := 67) (v := (nI 128)) dX12_lay_64 rfl rfl ?_
      refine g_iload_n (n := 68) dX12_lay_67 rfl rfl rfl ?_
      refine g_iadd (n := 69) dX12_lay_68 rfl ?_
      refine g_iconst (n := 70) (v := (-1 : Int32)) dX12_lay_69 rfl rfl ?_
      obtain ⟨j_5, hj, hl, h⟩ := h
      refine g_iastJ (n := 71) (j := j_5) dX12_lay_70 sM_3 hj hl (by decide) rfl ?_
      refine g_aload_n (n := 72) dX12_lay_71 rfl rfl rfl ?_
      refine g_sipush (n := 75) (v := (nI 224)) dX12_lay_72 rfl rfl ?_
      refine g_iload_n (n := 76) dX12_lay_75 rfl rfl rfl ?_
      refine g_iadd (n := 77) dX12_lay_76 rfl ?_
      refine g_iconst (n := 78) (v := (-1 : Int32)) dX12_lay_77 rfl rfl ?_
      obtain ⟨j_6, hj, hl, h⟩ := h
      refine g_iastJ (n := 79) (j := j_6) dX12_lay_78 sM_3 hj hl (by decide) rfl ?_
      refine g_aload_n (n := 80) dX12_lay_79 rfl rfl rfl ?_
      refine g_sipush (n := 83) (v := (nI 272)) dX12_lay_80 rfl rfl ?_
      refine g_iload_n (n := 84) dX12_lay_83 rfl rfl rfl ?_
      refine g_iadd (n := 85) dX12_lay_84 rfl ?_
      refine g_iconst (n := 86) (v := (-1 : Int32)) dX12_lay_85 rfl rfl ?_
      obtain ⟨j_7, hj, hl, h⟩ := h
      refine g_iastJ (n := 87) (j := j_7) dX12_lay_86 sM_3 hj hl (by decide) rfl ?_
      refine g_iinc (n := 90) (v := (x1 + nI 1)) (ls' := [some (.ref 3), some (.int (x1 + nI 1))]) dX12_lay_87 rfl rfl rfl (Nat.le_of_ble_eq_true rfl) rfl rfl ?_
      refine g_goto 50 dX12_lay_90 (by decide) ?_
      exact hL50 _ _ _ h
set_option maxRecDepth 20000 in
theorem tlX12_lay_3_29 {C : ab_X}  {K : ab_F → ab_F → Prop} : ∀ (n : Nat) (x1 : Int32) (I A : ab_F), wlX12_lay_3_29 K n x1 I A → ab_G mX12_lay 0 C (ab_Px shM ab_no (ab_rv K)) 29 [some (.ref 3), some (.int x1)] [] shM I A 0 0 := by
  intro n
  induction n with
  | zero => intro x1 I A h; exact h.elim
  | succ n hL29 =>
    intro x1 I A h
    rw [wlX12_lay_3_29] at h
    refine g_iload_n (n := 30) dX12_lay_29 rfl rfl rfl ?_
    refine g_bipush (n := 32) (v := (nI 6)) dX12_lay_30 rfl rfl ?_
    refine g_icmp_ge (n := 35) 48 dX12_lay_32 (by decide) rfl (fun hc => ?_) (fun hc => ?_)
    · have h := h.1 hc
      refine g_iconst (n := 49) (v := (nI 0)) dX12_lay_48 rfl rfl ?_
      refine g_istore_n (n := 50) (ls' := [some (.ref 3), some (.int (nI 0))]) dX12_lay_49 rfl rfl (Nat.le_of_ble_eq_true rfl) (Nat.le_of_ble_eq_true rfl) rfl rfl ?_
      refine g_less (bc' := 0) (bs' := 0) (Nat.le_of_ble_eq_true rfl) (Nat.le_of_ble_eq_true rfl) ?_
      obtain ⟨n_f, h⟩ := h
      exact tlX12_lay_3_50  n_f _ _ _ h
    · have h := h.2 hc
      refine g_aload_n (n := 36) dX12_lay_35 rfl rfl rfl ?_
      refine g_bipush (n := 38) (v := (nI 26)) dX12_lay_36 rfl rfl ?_
      refine g_iload_n (n := 39) dX12_lay_38 rfl rfl rfl ?_
      refine g_iadd (n := 40) dX12_lay_39 rfl ?_
      refine g_iconst (n := 41) (v := (-1 : Int32)) dX12_lay_40 rfl rfl ?_
      obtain ⟨j_8, hj, hl, h⟩ := h
      refine g_iastJ (n := 42) (j := j_8) dX12_lay_41 sM_3 hj hl (by decide) rfl ?_
      refine g_iinc (n := 45) (v := (x1 + nI 1)) (ls' := [some (.ref 3), some (.int (x1 + nI 1))]) dX12_lay_42 rfl rfl rfl (Nat.le_of_ble_eq_true rfl) rfl rfl ?_
      refine g_goto 29 dX12_lay_45 (by decide) ?_
      exact hL29 _ _ _ h
set_option maxRecDepth 20000 in
theorem tlX12_lay_3_2 {C : ab_X}  {K : ab_F → ab_F → Prop} : ∀ (n : Nat) (x1 : Int32) (I A : ab_F), wlX12_lay_3_2 K n x1 I A → ab_G mX12_lay 0 C (ab_Px shM ab_no (ab_rv K)) 2 [some (.ref 3), some (.int x1)] [] shM I A 0 0 := by
  intro n
  induction n with
  | zero => intro x1 I A h; exact h.elim
  | succ n hL2 =>
    intro x1 I A h
    rw [wlX12_lay_3_2] at h
    refine g_iload_n (n := 3) dX12_lay_2 rfl rfl rfl ?_
    refine g_sipush (n := 6) (v := (nI 608)) dX12_lay_3 rfl rfl ?_
    refine g_icmp_ge (n := 9) 19 dX12_lay_6 (by decide) rfl (fun hc => ?_) (fun hc => ?_)
    · have h := h.1 hc
      refine g_aload_n (n := 20) dX12_lay_19 rfl rfl rfl ?_
      refine g_iconst (n := 21) (v := (nI 0)) dX12_lay_20 rfl rfl ?_
      refine g_iconst (n := 22) (v := (nI 1)) dX12_lay_21 rfl rfl ?_
      refine g_iastJ (n := 23) (j := 0) dX12_lay_22 sM_3 rfl (Nat.le_of_ble_eq_true rfl) (by decide) rfl ?_
      refine g_aload_n (n := 24) dX12_lay_23 rfl rfl rfl ?_
      refine g_iconst (n := 25) (v := (nI 1)) dX12_lay_24 rfl rfl ?_
      refine g_iconst (n := 26) (v := (nI 1)) dX12_lay_25 rfl rfl ?_
      refine g_iastJ (n := 27) (j := 1) dX12_lay_26 sM_3 rfl (Nat.le_of_ble_eq_true rfl) (by decide) rfl ?_
      refine g_iconst (n := 28) (v := (nI 0)) dX12_lay_27 rfl rfl ?_
      refine g_istore_n (n := 29) (ls' := [some (.ref 3), some (.int (nI 0))]) dX12_lay_28 rfl rfl (Nat.le_of_ble_eq_true rfl) (Nat.le_of_ble_eq_true rfl) rfl rfl ?_
      refine g_less (bc' := 0) (bs' := 0) (Nat.le_of_ble_eq_true rfl) (Nat.le_of_ble_eq_true rfl) ?_
      obtain ⟨n_f, h⟩ := h
      exact tlX12_lay_3_29  n_f _ _ _ h
    · have h := h.2 hc
      refine g_aload_n (n := 10) dX12_lay_9 rfl rfl rfl ?_
      refine g_iload_n (n := 11) dX12_lay_10 rfl rfl rfl ?_
      refine g_iconst (n := 12) (v := (nI 0)) dX12_lay_11 rfl rfl ?_
      obtain ⟨j_9, hj, hl, h⟩ := h
      refine g_iastJ (n := 13) (j := j_9) dX12_lay_12 sM_3 hj hl (by decide) rfl ?_
      refine g_iinc (n := 16) (v := (x1 + nI 1)) (ls' := [some (.ref 3), some (.int (x1 + nI 1))]) dX12_lay_13 rfl rfl rfl (Nat.le_of_ble_eq_true rfl) rfl rfl ?_
      refine g_goto 2 dX12_lay_16 (by decide) ?_
      exact hL2 _ _ _ h
set_option maxRecDepth 20000 in
theorem ctX12_lay_3  {K : ab_F → ab_F → Prop} {I A : ab_F}  (h : wX12_lay_3 K I A ) : ab_Cl mX12_lay 0 0 0 [.ref 3] shM I A (ab_Px shM ab_no (ab_rv K)) := by
  refine ab_enter (ls := [some (.ref 3), none]) (by decide +kernel) (Nat.le_of_ble_eq_true rfl) rfl (fun C => ?_)
  unfold wX12_lay_3 at h
  refine g_iconst (n := 1) (v := (nI 0)) dX12_lay_0 rfl rfl ?_
  refine g_istore_n (n := 2) (ls' := [some (.ref 3), some (.int (nI 0))]) dX12_lay_1 rfl rfl (Nat.le_of_ble_eq_true rfl) (Nat.le_of_ble_eq_true rfl) rfl rfl ?_
  refine g_less (bc' := 0) (bs' := 0) (Nat.le_of_ble_eq_true rfl) (Nat.le_of_ble_eq_true rfl) ?_
  obtain ⟨n_f, h⟩ := h
  exact tlX12_lay_3_2  n_f _ _ _ h
def wX12_thrown (K : Int32 → ab_F → ab_F → Prop) (I A : ab_F)  : Prop := K (I 0 5) I A
set_option maxRecDepth 20000 in
theorem ctX12_thrown  {K : Int32 → ab_F → ab_F → Prop} {I A : ab_F}  (h : wX12_thrown K I A ) : ab_Cl mX12_thrown 0 0 0 [.ref 0] shM I A (ab_Px shM ab_no (ab_ri K)) := by
  refine ab_enter (ls := [some (.ref 0)]) (by decide +kernel) (Nat.le_of_ble_eq_true rfl) rfl (fun C => ?_)
  unfold wX12_thrown at h
  refine g_aload_n (n := 1) dX12_thrown_0 rfl rfl rfl ?_
  refine g_getIE (n := 4) (k := 5) (x := (I 0 5)) dX12_thrown_1 sM_0 vc_16 (Nat.le_of_ble_eq_true rfl) rfl w_1999 rfl rfl ?_
  exact g_iret rfl rfl dX12_thrown_4 ⟨rfl, _, rfl, h⟩
def wX12_in (K : Int32 → ab_F → ab_F → Prop) (I A : ab_F) (p0 : Int64) (p1 : Int64) (p2 : Int64) : Prop := (((lg_cmp p0 p1) < 0 → K (nI 0) I A) ∧ (¬ (lg_cmp p0 p1) < 0 → ((0 < (lg_cmp p0 p2) → K (nI 0) I A) ∧ (¬ 0 < (lg_cmp p0 p2) → K (nI 1) I A))))
set_option maxRecDepth 20000 in
theorem ctX12_in  {K : Int32 → ab_F → ab_F → Prop} {I A : ab_F} {p0 : Int64} {p1 : Int64} {p2 : Int64} (h : wX12_in K I A p0 p1 p2) : ab_Cl mX12_in 0 0 0 [.long p0, .long p1, .long p2] shM I A (ab_Px shM ab_no (ab_ri K)) := by
  refine ab_enter (ls := [some (.long p0), none, some (.long p1), none, some (.long p2), none]) (by decide +kernel) (Nat.le_of_ble_eq_true rfl) rfl (fun C => ?_)
  unfold wX12_in at h
  refine g_lload_n (n := 1) dX12_in_0 rfl rfl rfl ?_
  refine g_lload_n (n := 2) dX12_in_1 rfl rfl rfl ?_
  refine g_lcmp (n := 3) dX12_in_2 rfl ?_
  refine g_if_lt (n := 6) 17 dX12_in_3 (by decide) rfl (fun hc => ?_) (fun hc => ?_)
  · have h := h.1 hc
    refine g_iconst (n := 18) (v := (nI 0)) dX12_in_17 rfl rfl ?_
    exact g_iret rfl rfl dX12_in_18 ⟨rfl, _, rfl, h⟩
  · have h := h.2 hc
    refine g_lload_n (n := 7) dX12_in_6 rfl rfl rfl ?_
    refine g_lload (n := 9) dX12_in_7 rfl rfl ?_
    refine g_lcmp (n := 10) dX12_in_9 rfl ?_
    refine g_if_gt (n := 13) 17 dX12_in_10 (by decide) rfl (fun hc => ?_) (fun hc => ?_)
    · have h := h.1 hc
      refine g_iconst (n := 18) (v := (nI 0)) dX12_in_17 rfl rfl ?_
      exact g_iret rfl rfl dX12_in_18 ⟨rfl, _, rfl, h⟩
    · have h := h.2 hc
      refine g_iconst (n := 14) (v := (nI 1)) dX12_in_13 rfl rfl ?_
      refine g_goto 18 dX12_in_14 (by decide) ?_
      exact g_iret rfl rfl dX12_in_18 ⟨rfl, _, rfl, h⟩
def wX12_no (K : Int32 → ab_F → ab_F → Prop) (I A : ab_F) (p0 : Int32) : Prop := K (nI 0) (wr I 0 5 p0) A
set_option maxRecDepth 20000 in
theorem ctX12_no  {K : Int32 → ab_F → ab_F → Prop} {I A : ab_F} {p0 : Int32} (h : wX12_no K I A p0) : ab_Cl mX12_no 0 0 0 [.ref 0, .int p0] shM I A (ab_Px shM ab_no (ab_ri K)) := by
  refine ab_enter (ls := [some (.ref 0), some (.int p0)]) (by decide +kernel) (Nat.le_of_ble_eq_true rfl) rfl (fun C => ?_)
  unfold wX12_no at h
  refine g_aload_n (n := 1) dX12_no_0 rfl rfl rfl ?_
  refine g_iload_n (n := 2) dX12_no_1 rfl rfl rfl ?_
  refine g_putI (n := 5) (k := 5) dX12_no_2 sM_0 vc_16 (Nat.le_of_ble_eq_true rfl) rfl w_1999 rfl rfl rfl rfl rfl ?_
  refine g_iconst (n := 6) (v := (nI 0)) dX12_no_5 rfl rfl ?_
  exact g_iret rfl rfl dX12_no_6 ⟨rfl, _, rfl, h⟩
def wjX12_fails_10 (K : Int32 → ab_F → ab_F → Prop) (x1 : Int32) (s0 : Int32) (I A : ab_F) : Prop := (narrow .boolean (.int x1) = .int x1 ∧ K x1 (wr I 0 5 s0) A)
def wX12_fails (K : Int32 → ab_F → ab_F → Prop) (I A : ab_F) (p0 : Int32) (p1 : Int32) : Prop := ((p0 = 0 → wjX12_fails_10 K p0 (nI 0) I A) ∧ (¬ p0 = 0 → wjX12_fails_10 K p0 p1 I A))
set_option maxRecDepth 20000 in
theorem tjX12_fails_10 {C : ab_X}  {K : Int32 → ab_F → ab_F → Prop} (x1 : Int32) (s0 : Int32) (I A : ab_F) (h : wjX12_fails_10 K x1 s0 I A) : ab_G mX12_fails 0 C (ab_Px shM ab_no (ab_ri K)) 10 [none, some (.int x1), none] [.int s0, .ref 0] shM I A 0 0 := by
  unfold wjX12_fails_10 at h
  refine g_putI (n := 13) (k := 5) dX12_fails_10 sM_0 vc_16 (Nat.le_of_ble_eq_true rfl) rfl w_1999 rfl rfl rfl rfl rfl ?_
  refine g_iload_n (n := 14) dX12_fails_13 rfl rfl rfl ?_
  obtain ⟨hz, h⟩ := h
  exact g_iret rfl hz dX12_fails_14 ⟨rfl, _, rfl, h⟩
set_option maxRecDepth 20000 in
theorem ctX12_fails  {K : Int32 → ab_F → ab_F → Prop} {I A : ab_F} {p0 : Int32} {p1 : Int32} (h : wX12_fails K I A p0 p1) : ab_Cl mX12_fails 0 0 0 [.ref 0, .int p0, .int p1] shM I A (ab_Px shM ab_no (ab_ri K)) := by
  refine ab_enter (ls := [some (.ref 0), some (.int p0), some (.int p1)]) (by decide +kernel) (Nat.le_of_ble_eq_true rfl) rfl (fun C => ?_)
  unfold wX12_fails at h
  refine g_aload_n (n := 1) dX12_fails_0 rfl rfl rfl ?_
  refine g_iload_n (n := 2) dX12_fails_1 rfl rfl rfl ?_
  refine g_if_eq (n := 5) 9 dX12_fails_2 (by decide) rfl (fun hc => ?_) (fun hc => ?_)
  · have h := h.1 hc
    refine g_iconst (n := 10) (v := (nI 0)) dX12_fails_9 rfl rfl ?_
    refine g_forget (ls' := [none, some (.int p0), none]) (ab_fg rfl) ?_
    refine g_less (bc' := 0) (bs' := 0) (Nat.le_of_ble_eq_true rfl) (Nat.le_of_ble_eq_true rfl) ?_
    exact tjX12_fails_10  _ _ _ _ h
  · have h := h.2 hc
    refine g_iload_n (n := 6) dX12_fails_5 rfl rfl rfl ?_
    refine g_goto 10 dX12_fails_6 (by decide) ?_
    refine g_forget (ls' := [none, some (.int p0), none]) (ab_fg rfl) ?_
    refine g_less (bc' := 0) (bs' := 0) (Nat.le_of_ble_eq_true rfl) (Nat.le_of_ble_eq_true rfl) ?_
    exact tjX12_fails_10  _ _ _ _ h
def wX12_isProcess (K : Int32 → ab_F → ab_F → Prop) (I A : ab_F) (p0 : Int32) : Prop := wX12_in (fun r_3 I_1 A_2 => (narrow .boolean (.int r_3) = .int r_3 ∧ K r_3 I_1 A_2)) I A ((p0).toInt64) (0 : Int64) ((((A 1 3) - (nI 1))).toInt64)
set_option maxRecDepth 20000 in
theorem ctX12_isProcess  {K : Int32 → ab_F → ab_F → Prop} {I A : ab_F} {p0 : Int32} (h : wX12_isProcess K I A p0) : ab_Cl mX12_isProcess 1 0 0 [.ref 0, .int p0] shM I A (ab_Px shM ab_no (ab_ri K)) := by
  refine ab_enter (ls := [some (.ref 0), some (.int p0)]) (by decide +kernel) (Nat.le_of_ble_eq_true rfl) rfl (fun C => ?_)
  unfold wX12_isProcess at h
  refine g_iload_n (n := 1) dX12_isProcess_0 rfl rfl rfl ?_
  refine g_i2l (n := 2) dX12_isProcess_1 rfl ?_
  refine g_lconst (n := 3) (v := (0 : Int64)) dX12_isProcess_2 rfl rfl ?_
  refine g_aload_n (n := 4) dX12_isProcess_3 rfl rfl rfl ?_
  refine g_getR (n := 7) (k := 0) dX12_isProcess_4 sM_0 vc_16 (Nat.le_of_ble_eq_true rfl) rfl w_1994 rfl ?_
  refine g_iconst (n := 8) (v := (nI 3)) dX12_isProcess_7 rfl rfl ?_
  refine g_ialdJ (n := 9) (j := 3) (x := (A 1 3)) dX12_isProcess_8 sM_1 rfl (Nat.le_of_ble_eq_true rfl) (by decide) rfl rfl ?_
  refine g_iconst (n := 10) (v := (nI 1)) dX12_isProcess_9 rfl rfl ?_
  refine g_isub (n := 11) dX12_isProcess_10 rfl ?_
  refine g_i2l (n := 12) dX12_isProcess_11 rfl ?_
  refine g_callS (n := 15) (as := [.long ((p0).toInt64), .long (0 : Int64), .long ((((A 1 3) - (nI 1))).toInt64)]) (bc' := 0) (bs' := 0) (ctX12_in h) okX12_in w_2080 w_2081 dX12_isProcess_12 rfl rfl (Nat.le_of_ble_eq_true rfl) (Nat.le_of_ble_eq_true rfl) (Nat.le_of_ble_eq_true rfl) (Nat.le_of_ble_eq_true rfl) rfl (fun E sh1 I1 A1 hp _ => hp.2.elim) (fun ro sh_ I_1 A_2 hp hle => ?_)
  obtain ⟨rfl, r_3, rfl, h⟩ := hp
  obtain ⟨hz, h⟩ := h
  exact g_iret rfl hz dX12_isProcess_15 ⟨rfl, _, rfl, h⟩
def wX12_isPage (K : Int32 → ab_F → ab_F → Prop) (I A : ab_F) (p0 : Int32) (p1 : Int32) : Prop := wX12_isProcess (fun r_3 I_1 A_2 => ((r_3 = 0 → K (nI 0) I_1 A_2) ∧ (¬ r_3 = 0 → (∃ j_4 : Nat, ((nI 20) + p0) = nI j_4 ∧ j_4 < 608 ∧ wX12_in (fun r_7 I_5 A_6 => ((r_7 = 0 → K (nI 0) I_5 A_6) ∧ (¬ r_7 = 0 → K (nI 1) I_5 A_6))) I_1 A_2 ((p1).toInt64) (0 : Int64) ((((A_2 1 j_4) - (nI 1))).toInt64))))) I A p0
set_option maxRecDepth 20000 in
theorem ctX12_isPage  {K : Int32 → ab_F → ab_F → Prop} {I A : ab_F} {p0 : Int32} {p1 : Int32} (h : wX12_isPage K I A p0 p1) : ab_Cl mX12_isPage 2 0 0 [.ref 0, .int p0, .int p1] shM I A (ab_Px shM ab_no (ab_ri K)) := by
  refine ab_enter (ls := [some (.ref 0), some (.int p0), some (.int p1)]) (by decide +kernel) (Nat.le_of_ble_eq_true rfl) rfl (fun C => ?_)
  unfold wX12_isPage at h
  refine g_aload_n (n := 1) dX12_isPage_0 rfl rfl rfl ?_
  refine g_iload_n (n := 2) dX12_isPage_1 rfl rfl rfl ?_
  refine g_callV (n := 5) (as := [.int p0]) (bc' := 0) (bs' := 0) sM_0 vc_16 (ctX12_isProcess h) okX12_isProcess rfl w_2185 w_2187 w_41 w_112 dX12_isPage_2 rfl rfl (Nat.le_of_ble_eq_true rfl) (Nat.le_of_ble_eq_true rfl) (Nat.le_of_ble_eq_true rfl) (Nat.le_of_ble_eq_true rfl) rfl (fun E sh1 I1 A1 hp _ => hp.2.elim) (fun ro sh_ I_1 A_2 hp hle => ?_)
  obtain ⟨rfl, r_3, rfl, h⟩ := hp
  refine g_if_eq (n := 8) 33 dX12_isPage_5 (by decide) rfl (fun hc => ?_) (fun hc => ?_)
  · have h := h.1 hc
    refine g_iconst (n := 34) (v := (nI 0)) dX12_isPage_33 rfl rfl ?_
    exact g_iret rfl rfl dX12_isPage_34 ⟨rfl, _, rfl, h⟩
  · have h := h.2 hc
    refine g_iload_n (n := 9) dX12_isPage_8 rfl rfl rfl ?_
    refine g_i2l (n := 10) dX12_isPage_9 rfl ?_
    refine g_lconst (n := 11) (v := (0 : Int64)) dX12_isPage_10 rfl rfl ?_
    refine g_aload_n (n := 12) dX12_isPage_11 rfl rfl rfl ?_
    refine g_getR (n := 15) (k := 0) dX12_isPage_12 sM_0 vc_16 (Nat.le_of_ble_eq_true rfl) rfl w_1994 rfl ?_
    refine g_bipush (n := 17) (v := (nI 20)) dX12_isPage_15 rfl rfl ?_
    refine g_iload_n (n := 18) dX12_isPage_17 rfl rfl rfl ?_
    refine g_iadd (n := 19) dX12_isPage_18 rfl ?_
    obtain ⟨j_4, hj, hl, h⟩ := h
    refine g_ialdJ (n := 20) (j := j_4) (x := (A_2 1 j_4)) dX12_isPage_19 sM_1 hj hl (by decide) rfl rfl ?_
    refine g_iconst (n := 21) (v := (nI 1)) dX12_isPage_20 rfl rfl ?_
    refine g_isub (n := 22) dX12_isPage_21 rfl ?_
    refine g_i2l (n := 23) dX12_isPage_22 rfl ?_
    refine g_callS (n := 26) (as := [.long ((p1).toInt64), .long (0 : Int64), .long ((((A_2 1 j_4) - (nI 1))).toInt64)]) (bc' := 0) (bs' := 0) (ctX12_in h) okX12_in w_2080 w_2081 dX12_isPage_23 rfl rfl (Nat.le_of_ble_eq_true rfl) (Nat.le_of_ble_eq_true rfl) (Nat.le_of_ble_eq_true rfl) (Nat.le_of_ble_eq_true rfl) rfl (fun E sh1 I1 A1 hp _ => hp.2.elim) (fun ro sh_ I_5 A_6 hp hle => ?_)
    obtain ⟨rfl, r_7, rfl, h⟩ := hp
    refine g_if_eq (n := 29) 33 dX12_isPage_26 (by decide) rfl (fun hc => ?_) (fun hc => ?_)
    · have h := h.1 hc
      refine g_iconst (n := 34) (v := (nI 0)) dX12_isPage_33 rfl rfl ?_
      exact g_iret rfl rfl dX12_isPage_34 ⟨rfl, _, rfl, h⟩
    · have h := h.2 hc
      refine g_iconst (n := 30) (v := (nI 1)) dX12_isPage_29 rfl rfl ?_
      refine g_goto 34 dX12_isPage_30 (by decide) ?_
      exact g_iret rfl rfl dX12_isPage_34 ⟨rfl, _, rfl, h⟩
def wjX12_isNoProcess_14 (K : Int32 → ab_F → ab_F → Prop) (s0 : Int32) (I A : ab_F) : Prop := wX12_fails (fun r_6 I_4 A_5 => (narrow .boolean (.int r_6) = .int r_6 ∧ K r_6 I_4 A_5)) I A s0 (nI 1)
def wX12_isNoProcess (K : Int32 → ab_F → ab_F → Prop) (I A : ab_F) (p0 : Int32) : Prop := wX12_isProcess (fun r_3 I_1 A_2 => ((¬ r_3 = 0 → wjX12_isNoProcess_14 K (nI 0) I_1 A_2) ∧ (r_3 = 0 → wjX12_isNoProcess_14 K (nI 1) I_1 A_2))) I A p0
set_option maxRecDepth 20000 in
theorem tjX12_isNoProcess_14 {C : ab_X}  {K : Int32 → ab_F → ab_F → Prop} (s0 : Int32) (I A : ab_F) (h : wjX12_isNoProcess_14 K s0 I A) : ab_G mX12_isNoProcess 2 C (ab_Px shM ab_no (ab_ri K)) 14 [none, none] [.int s0, .ref 0] shM I A 0 0 := by
  unfold wjX12_isNoProcess_14 at h
  refine g_iconst (n := 15) (v := (nI 1)) dX12_isNoProcess_14 rfl rfl ?_
  refine g_callV (n := 18) (as := [.int s0, .int (nI 1)]) (bc' := 0) (bs' := 0) sM_0 vc_16 (ctX12_fails h) okX12_fails rfl w_2189 w_2191 w_42 w_112 dX12_isNoProcess_15 rfl rfl (Nat.le_of_ble_eq_true rfl) (Nat.le_of_ble_eq_true rfl) (Nat.le_of_ble_eq_true rfl) (Nat.le_of_ble_eq_true rfl) rfl (fun E sh1 I1 A1 hp _ => hp.2.elim) (fun ro sh_ I_4 A_5 hp hle => ?_)
  obtain ⟨rfl, r_6, rfl, h⟩ := hp
  obtain ⟨hz, h⟩ := h
  exact g_iret rfl hz dX12_isNoProcess_18 ⟨rfl, _, rfl, h⟩
set_option maxRecDepth 20000 in
theorem ctX12_isNoProcess  {K : Int32 → ab_F → ab_F → Prop} {I A : ab_F} {p0 : Int32} (h : wX12_isNoProcess K I A p0) : ab_Cl mX12_isNoProcess 2 0 0 [.ref 0, .int p0] shM I A (ab_Px shM ab_no (ab_ri K)) := by
  refine ab_enter (ls := [some (.ref 0), some (.int p0)]) (by decide +kernel) (Nat.le_of_ble_eq_true rfl) rfl (fun C => ?_)
  unfold wX12_isNoProcess at h
  refine g_aload_n (n := 1) dX12_isNoProcess_0 rfl rfl rfl ?_
  refine g_aload_n (n := 2) dX12_isNoProcess_1 rfl rfl rfl ?_
  refine g_iload_n (n := 3) dX12_isNoProcess_2 rfl rfl rfl ?_
  refine g_callV (n := 6) (as := [.int p0]) (bc' := 0) (bs' := 0) sM_0 vc_16 (ctX12_isProcess h) okX12_isProcess rfl w_2185 w_2187 w_41 w_112 dX12_isNoProcess_3 rfl rfl (Nat.le_of_ble_eq_true rfl) (Nat.le_of_ble_eq_true rfl) (Nat.le_of_ble_eq_true rfl) (Nat.le_of_ble_eq_true rfl) rfl (fun E sh1 I1 A1 hp _ => hp.2.elim) (fun ro sh_ I_1 A_2 hp hle => ?_)
  obtain ⟨rfl, r_3, rfl, h⟩ := hp
  refine g_if_ne (n := 9) 13 dX12_isNoProcess_6 (by decide) rfl (fun hc => ?_) (fun hc => ?_)
  · have h := h.1 hc
    refine g_iconst (n := 14) (v := (nI 0)) dX12_isNoProcess_13 rfl rfl ?_
    refine g_forget (ls' := [none, none]) (ab_fg rfl) ?_
    refine g_less (bc' := 0) (bs' := 0) (Nat.le_of_ble_eq_true rfl) (Nat.le_of_ble_eq_true rfl) ?_
    exact tjX12_isNoProcess_14  _ _ _ h
  · have h := h.2 hc
    refine g_iconst (n := 10) (v := (nI 1)) dX12_isNoProcess_9 rfl rfl ?_
    refine g_goto 14 dX12_isNoProcess_10 (by decide) ?_
    refine g_forget (ls' := [none, none]) (ab_fg rfl) ?_
    refine g_less (bc' := 0) (bs' := 0) (Nat.le_of_ble_eq_true rfl) (Nat.le_of_ble_eq_true rfl) ?_
    exact tjX12_isNoProcess_14  _ _ _ h
def wjX12_isNoPage_15 (K : Int32 → ab_F → ab_F → Prop) (s0 : Int32) (I A : ab_F) : Prop := wX12_fails (fun r_6 I_4 A_5 => (narrow .boolean (.int r_6) = .int r_6 ∧ K r_6 I_4 A_5)) I A s0 (nI 1)
def wX12_isNoPage (K : Int32 → ab_F → ab_F → Prop) (I A : ab_F) (p0 : Int32) (p1 : Int32) : Prop := wX12_isPage (fun r_3 I_1 A_2 => ((¬ r_3 = 0 → wjX12_isNoPage_15 K (nI 0) I_1 A_2) ∧ (r_3 = 0 → wjX12_isNoPage_15 K (nI 1) I_1 A_2))) I A p0 p1
set_option maxRecDepth 20000 in
theorem tjX12_isNoPage_15 {C : ab_X}  {K : Int32 → ab_F → ab_F → Prop} (s0 : Int32) (I A : ab_F) (h : wjX12_isNoPage_15 K s0 I A) : ab_G mX12_isNoPage 3 C (ab_Px shM ab_no (ab_ri K)) 15 [none, none, none] [.int s0, .ref 0] shM I A 0 0 := by
  unfold wjX12_isNoPage_15 at h
  refine g_iconst (n := 16) (v := (nI 1)) dX12_isNoPage_15 rfl rfl ?_
  refine g_callV (n := 19) (as := [.int s0, .int (nI 1)]) (bc' := 0) (bs' := 0) sM_0 vc_16 (ctX12_fails h) okX12_fails rfl w_2189 w_2191 w_42 w_112 dX12_isNoPage_16 rfl rfl (Nat.le_of_ble_eq_true rfl) (Nat.le_of_ble_eq_true rfl) (Nat.le_of_ble_eq_true rfl) (Nat.le_of_ble_eq_true rfl) rfl (fun E sh1 I1 A1 hp _ => hp.2.elim) (fun ro sh_ I_4 A_5 hp hle => ?_)
  obtain ⟨rfl, r_6, rfl, h⟩ := hp
  obtain ⟨hz, h⟩ := h
  exact g_iret rfl hz dX12_isNoPage_19 ⟨rfl, _, rfl, h⟩
set_option maxRecDepth 20000 in
theorem ctX12_isNoPage  {K : Int32 → ab_F → ab_F → Prop} {I A : ab_F} {p0 : Int32} {p1 : Int32} (h : wX12_isNoPage K I A p0 p1) : ab_Cl mX12_isNoPage 3 0 0 [.ref 0, .int p0, .int p1] shM I A (ab_Px shM ab_no (ab_ri K)) := by
  refine ab_enter (ls := [some (.ref 0), some (.int p0), some (.int p1)]) (by decide +kernel) (Nat.le_of_ble_eq_true rfl) rfl (fun C => ?_)
  unfold wX12_isNoPage at h
  refine g_aload_n (n := 1) dX12_isNoPage_0 rfl rfl rfl ?_
  refine g_aload_n (n := 2) dX12_isNoPage_1 rfl rfl rfl ?_
  refine g_iload_n (n := 3) dX12_isNoPage_2 rfl rfl rfl ?_
  refine g_iload_n (n := 4) dX12_isNoPage_3 rfl rfl rfl ?_
  refine g_callV (n := 7) (as := [.int p0, .int p1]) (bc' := 0) (bs' := 0) sM_0 vc_16 (ctX12_isPage h) okX12_isPage rfl w_2181 w_2183 w_40 w_112 dX12_isNoPage_4 rfl rfl (Nat.le_of_ble_eq_true rfl) (Nat.le_of_ble_eq_true rfl) (Nat.le_of_ble_eq_true rfl) (Nat.le_of_ble_eq_true rfl) rfl (fun E sh1 I1 A1 hp _ => hp.2.elim) (fun ro sh_ I_1 A_2 hp hle => ?_)
  obtain ⟨rfl, r_3, rfl, h⟩ := hp
  refine g_if_ne (n := 10) 14 dX12_isNoPage_7 (by decide) rfl (fun hc => ?_) (fun hc => ?_)
  · have h := h.1 hc
    refine g_iconst (n := 15) (v := (nI 0)) dX12_isNoPage_14 rfl rfl ?_
    refine g_forget (ls' := [none, none, none]) (ab_fg rfl) ?_
    refine g_less (bc' := 0) (bs' := 0) (Nat.le_of_ble_eq_true rfl) (Nat.le_of_ble_eq_true rfl) ?_
    exact tjX12_isNoPage_15  _ _ _ h
  · have h := h.2 hc
    refine g_iconst (n := 11) (v := (nI 1)) dX12_isNoPage_10 rfl rfl ?_
    refine g_goto 15 dX12_isNoPage_11 (by decide) ?_
    refine g_forget (ls' := [none, none, none]) (ab_fg rfl) ?_
    refine g_less (bc' := 0) (bs' := 0) (Nat.le_of_ble_eq_true rfl) (Nat.le_of_ble_eq_true rfl) ?_
    exact tjX12_isNoPage_15  _ _ _ h
def wjX12_isNoSlot_24 (K : Int32 → ab_F → ab_F → Prop) (s0 : Int32) (I A : ab_F) : Prop := wX12_fails (fun r_6 I_4 A_5 => (narrow .boolean (.int r_6) = .int r_6 ∧ K r_6 I_4 A_5)) I A s0 (nI 1)
def wX12_isNoSlot (K : Int32 → ab_F → ab_F → Prop) (I A : ab_F) (p0 : Int32) : Prop := wX12_in (fun r_3 I_1 A_2 => ((¬ r_3 = 0 → wjX12_isNoSlot_24 K (nI 0) I_1 A_2) ∧ (r_3 = 0 → wjX12_isNoSlot_24 K (nI 1) I_1 A_2))) I A ((p0).toInt64) (0 : Int64) ((((A 1 1) - (nI 1))).toInt64)
set_option maxRecDepth 20000 in
theorem tjX12_isNoSlot_24 {C : ab_X}  {K : Int32 → ab_F → ab_F → Prop} (s0 : Int32) (I A : ab_F) (h : wjX12_isNoSlot_24 K s0 I A) : ab_G mX12_isNoSlot 1 C (ab_Px shM ab_no (ab_ri K)) 24 [none, none] [.int s0, .ref 0] shM I A 0 0 := by
  unfold wjX12_isNoSlot_24 at h
  refine g_iconst (n := 25) (v := (nI 1)) dX12_isNoSlot_24 rfl rfl ?_
  refine g_callV (n := 28) (as := [.int s0, .int (nI 1)]) (bc' := 0) (bs' := 0) sM_0 vc_16 (ctX12_fails h) okX12_fails rfl w_2189 w_2191 w_42 w_112 dX12_isNoSlot_25 rfl rfl (Nat.le_of_ble_eq_true rfl) (Nat.le_of_ble_eq_true rfl) (Nat.le_of_ble_eq_true rfl) (Nat.le_of_ble_eq_true rfl) rfl (fun E sh1 I1 A1 hp _ => hp.2.elim) (fun ro sh_ I_4 A_5 hp hle => ?_)
  obtain ⟨rfl, r_6, rfl, h⟩ := hp
  obtain ⟨hz, h⟩ := h
  exact g_iret rfl hz dX12_isNoSlot_28 ⟨rfl, _, rfl, h⟩
set_option maxRecDepth 20000 in
theorem ctX12_isNoSlot  {K : Int32 → ab_F → ab_F → Prop} {I A : ab_F} {p0 : Int32} (h : wX12_isNoSlot K I A p0) : ab_Cl mX12_isNoSlot 1 0 0 [.ref 0, .int p0] shM I A (ab_Px shM ab_no (ab_ri K)) := by
  refine ab_enter (ls := [some (.ref 0), some (.int p0)]) (by decide +kernel) (Nat.le_of_ble_eq_true rfl) rfl (fun C => ?_)
  unfold wX12_isNoSlot at h
  refine g_aload_n (n := 1) dX12_isNoSlot_0 rfl rfl rfl ?_
  refine g_iload_n (n := 2) dX12_isNoSlot_1 rfl rfl rfl ?_
  refine g_i2l (n := 3) dX12_isNoSlot_2 rfl ?_
  refine g_lconst (n := 4) (v := (0 : Int64)) dX12_isNoSlot_3 rfl rfl ?_
  refine g_aload_n (n := 5) dX12_isNoSlot_4 rfl rfl rfl ?_
  refine g_getR (n := 8) (k := 0) dX12_isNoSlot_5 sM_0 vc_16 (Nat.le_of_ble_eq_true rfl) rfl w_1994 rfl ?_
  refine g_iconst (n := 9) (v := (nI 1)) dX12_isNoSlot_8 rfl rfl ?_
  refine g_ialdJ (n := 10) (j := 1) (x := (A 1 1)) dX12_isNoSlot_9 sM_1 rfl (Nat.le_of_ble_eq_true rfl) (by decide) rfl rfl ?_
  refine g_iconst (n := 11) (v := (nI 1)) dX12_isNoSlot_10 rfl rfl ?_
  refine g_isub (n := 12) dX12_isNoSlot_11 rfl ?_
  refine g_i2l (n := 13) dX12_isNoSlot_12 rfl ?_
  refine g_callS (n := 16) (as := [.long ((p0).toInt64), .long (0 : Int64), .long ((((A 1 1) - (nI 1))).toInt64)]) (bc' := 0) (bs' := 0) (ctX12_in h) okX12_in w_2080 w_2081 dX12_isNoSlot_13 rfl rfl (Nat.le_of_ble_eq_true rfl) (Nat.le_of_ble_eq_true rfl) (Nat.le_of_ble_eq_true rfl) (Nat.le_of_ble_eq_true rfl) rfl (fun E sh1 I1 A1 hp _ => hp.2.elim) (fun ro sh_ I_1 A_2 hp hle => ?_)
  obtain ⟨rfl, r_3, rfl, h⟩ := hp
  refine g_if_ne (n := 19) 23 dX12_isNoSlot_16 (by decide) rfl (fun hc => ?_) (fun hc => ?_)
  · have h := h.1 hc
    refine g_iconst (n := 24) (v := (nI 0)) dX12_isNoSlot_23 rfl rfl ?_
    refine g_forget (ls' := [none, none]) (ab_fg rfl) ?_
    refine g_less (bc' := 0) (bs' := 0) (Nat.le_of_ble_eq_true rfl) (Nat.le_of_ble_eq_true rfl) ?_
    exact tjX12_isNoSlot_24  _ _ _ h
  · have h := h.2 hc
    refine g_iconst (n := 20) (v := (nI 1)) dX12_isNoSlot_19 rfl rfl ?_
    refine g_goto 24 dX12_isNoSlot_20 (by decide) ?_
    refine g_forget (ls' := [none, none]) (ab_fg rfl) ?_
    refine g_less (bc' := 0) (bs' := 0) (Nat.le_of_ble_eq_true rfl) (Nat.le_of_ble_eq_true rfl) ?_
    exact tjX12_isNoSlot_24  _ _ _ h
def wjX12_isNoFrame_24 (K : Int32 → ab_F → ab_F → Prop) (s0 : Int32) (I A : ab_F) : Prop := wX12_fails (fun r_6 I_4 A_5 => (narrow .boolean (.int r_6) = .int r_6 ∧ K r_6 I_4 A_5)) I A s0 (nI 1)
def wX12_isNoFrame (K : Int32 → ab_F → ab_F → Prop) (I A : ab_F) (p0 : Int32) : Prop := wX12_in (fun r_3 I_1 A_2 => ((¬ r_3 = 0 → wjX12_isNoFrame_24 K (nI 0) I_1 A_2) ∧ (r_3 = 0 → wjX12_isNoFrame_24 K (nI 1) I_1 A_2))) I A ((p0).toInt64) (0 : Int64) ((((A 1 0) - (nI 1))).toInt64)
set_option maxRecDepth 20000 in
theorem tjX12_isNoFrame_24 {C : ab_X}  {K : Int32 → ab_F → ab_F → Prop} (s0 : Int32) (I A : ab_F) (h : wjX12_isNoFrame_24 K s0 I A) : ab_G mX12_isNoFrame 1 C (ab_Px shM ab_no (ab_ri K)) 24 [none, none] [.int s0, .ref 0] shM I A 0 0 := by
  unfold wjX12_isNoFrame_24 at h
  refine g_iconst (n := 25) (v := (nI 1)) dX12_isNoFrame_24 rfl rfl ?_
  refine g_callV (n := 28) (as := [.int s0, .int (nI 1)]) (bc' := 0) (bs' := 0) sM_0 vc_16 (ctX12_fails h) okX12_fails rfl w_2189 w_2191 w_42 w_112 dX12_isNoFrame_25 rfl rfl (Nat.le_of_ble_eq_true rfl) (Nat.le_of_ble_eq_true rfl) (Nat.le_of_ble_eq_true rfl) (Nat.le_of_ble_eq_true rfl) rfl (fun E sh1 I1 A1 hp _ => hp.2.elim) (fun ro sh_ I_4 A_5 hp hle => ?_)
  obtain ⟨rfl, r_6, rfl, h⟩ := hp
  obtain ⟨hz, h⟩ := h
  exact g_iret rfl hz dX12_isNoFrame_28 ⟨rfl, _, rfl, h⟩
set_option maxRecDepth 20000 in
theorem ctX12_isNoFrame  {K : Int32 → ab_F → ab_F → Prop} {I A : ab_F} {p0 : Int32} (h : wX12_isNoFrame K I A p0) : ab_Cl mX12_isNoFrame 1 0 0 [.ref 0, .int p0] shM I A (ab_Px shM ab_no (ab_ri K)) := by
  refine ab_enter (ls := [some (.ref 0), some (.int p0)]) (by decide +kernel) (Nat.le_of_ble_eq_true rfl) rfl (fun C => ?_)
  unfold wX12_isNoFrame at h
  refine g_aload_n (n := 1) dX12_isNoFrame_0 rfl rfl rfl ?_
  refine g_iload_n (n := 2) dX12_isNoFrame_1 rfl rfl rfl ?_
  refine g_i2l (n := 3) dX12_isNoFrame_2 rfl ?_
  refine g_lconst (n := 4) (v := (0 : Int64)) dX12_isNoFrame_3 rfl rfl ?_
  refine g_aload_n (n := 5) dX12_isNoFrame_4 rfl rfl rfl ?_
  refine g_getR (n := 8) (k := 0) dX12_isNoFrame_5 sM_0 vc_16 (Nat.le_of_ble_eq_true rfl) rfl w_1994 rfl ?_
  refine g_iconst (n := 9) (v := (nI 0)) dX12_isNoFrame_8 rfl rfl ?_
  refine g_ialdJ (n := 10) (j := 0) (x := (A 1 0)) dX12_isNoFrame_9 sM_1 rfl (Nat.le_of_ble_eq_true rfl) (by decide) rfl rfl ?_
  refine g_iconst (n := 11) (v := (nI 1)) dX12_isNoFrame_10 rfl rfl ?_
  refine g_isub (n := 12) dX12_isNoFrame_11 rfl ?_
  refine g_i2l (n := 13) dX12_isNoFrame_12 rfl ?_
  refine g_callS (n := 16) (as := [.long ((p0).toInt64), .long (0 : Int64), .long ((((A 1 0) - (nI 1))).toInt64)]) (bc' := 0) (bs' := 0) (ctX12_in h) okX12_in w_2080 w_2081 dX12_isNoFrame_13 rfl rfl (Nat.le_of_ble_eq_true rfl) (Nat.le_of_ble_eq_true rfl) (Nat.le_of_ble_eq_true rfl) (Nat.le_of_ble_eq_true rfl) rfl (fun E sh1 I1 A1 hp _ => hp.2.elim) (fun ro sh_ I_1 A_2 hp hle => ?_)
  obtain ⟨rfl, r_3, rfl, h⟩ := hp
  refine g_if_ne (n := 19) 23 dX12_isNoFrame_16 (by decide) rfl (fun hc => ?_) (fun hc => ?_)
  · have h := h.1 hc
    refine g_iconst (n := 24) (v := (nI 0)) dX12_isNoFrame_23 rfl rfl ?_
    refine g_forget (ls' := [none, none]) (ab_fg rfl) ?_
    refine g_less (bc' := 0) (bs' := 0) (Nat.le_of_ble_eq_true rfl) (Nat.le_of_ble_eq_true rfl) ?_
    exact tjX12_isNoFrame_24  _ _ _ h
  · have h := h.2 hc
    refine g_iconst (n := 20) (v := (nI 1)) dX12_isNoFrame_19 rfl rfl ?_
    refine g_goto 24 dX12_isNoFrame_20 (by decide) ?_
    refine g_forget (ls' := [none, none]) (ab_fg rfl) ?_
    refine g_less (bc' := 0) (bs' := 0) (Nat.le_of_ble_eq_true rfl) (Nat.le_of_ble_eq_true rfl) ?_
    exact tjX12_isNoFrame_24  _ _ _ h
def wX12_isNoSet (K : Int32 → ab_F → ab_F → Prop) (I A : ab_F) (p0 : Int32) : Prop := wX12_in (fun r_3 I_1 A_2 => ((¬ r_3 = 0 → K (nI 0) I_1 A_2) ∧ (r_3 = 0 → K (nI 1) I_1 A_2))) I A ((p0).toInt64) (1 : Int64) (((((nI 1) <<< ((A 1 3) &&& 31)) - (nI 1))).toInt64)
set_option maxRecDepth 20000 in
theorem ctX12_isNoSet  {K : Int32 → ab_F → ab_F → Prop} {I A : ab_F} {p0 : Int32} (h : wX12_isNoSet K I A p0) : ab_Cl mX12_isNoSet 1 0 0 [.ref 0, .int p0] shM I A (ab_Px shM ab_no (ab_ri K)) := by
  refine ab_enter (ls := [some (.ref 0), some (.int p0)]) (by decide +kernel) (Nat.le_of_ble_eq_true rfl) rfl (fun C => ?_)
  unfold wX12_isNoSet at h
  refine g_iload_n (n := 1) dX12_isNoSet_0 rfl rfl rfl ?_
  refine g_i2l (n := 2) dX12_isNoSet_1 rfl ?_
  refine g_lconst (n := 3) (v := (1 : Int64)) dX12_isNoSet_2 rfl rfl ?_
  refine g_iconst (n := 4) (v := (nI 1)) dX12_isNoSet_3 rfl rfl ?_
  refine g_aload_n (n := 5) dX12_isNoSet_4 rfl rfl rfl ?_
  refine g_getR (n := 8) (k := 0) dX12_isNoSet_5 sM_0 vc_16 (Nat.le_of_ble_eq_true rfl) rfl w_1994 rfl ?_
  refine g_iconst (n := 9) (v := (nI 3)) dX12_isNoSet_8 rfl rfl ?_
  refine g_ialdJ (n := 10) (j := 3) (x := (A 1 3)) dX12_isNoSet_9 sM_1 rfl (Nat.le_of_ble_eq_true rfl) (by decide) rfl rfl ?_
  refine g_ishl (n := 11) dX12_isNoSet_10 rfl ?_
  refine g_iconst (n := 12) (v := (nI 1)) dX12_isNoSet_11 rfl rfl ?_
  refine g_isub (n := 13) dX12_isNoSet_12 rfl ?_
  refine g_i2l (n := 14) dX12_isNoSet_13 rfl ?_
  refine g_callS (n := 17) (as := [.long ((p0).toInt64), .long (1 : Int64), .long (((((nI 1) <<< ((A 1 3) &&& 31)) - (nI 1))).toInt64)]) (bc' := 0) (bs' := 0) (ctX12_in h) okX12_in w_2080 w_2081 dX12_isNoSet_14 rfl rfl (Nat.le_of_ble_eq_true rfl) (Nat.le_of_ble_eq_true rfl) (Nat.le_of_ble_eq_true rfl) (Nat.le_of_ble_eq_true rfl) rfl (fun E sh1 I1 A1 hp _ => hp.2.elim) (fun ro sh_ I_1 A_2 hp hle => ?_)
  obtain ⟨rfl, r_3, rfl, h⟩ := hp
  refine g_if_ne (n := 20) 24 dX12_isNoSet_17 (by decide) rfl (fun hc => ?_) (fun hc => ?_)
  · have h := h.1 hc
    refine g_iconst (n := 25) (v := (nI 0)) dX12_isNoSet_24 rfl rfl ?_
    exact g_iret rfl rfl dX12_isNoSet_25 ⟨rfl, _, rfl, h⟩
  · have h := h.2 hc
    refine g_iconst (n := 21) (v := (nI 1)) dX12_isNoSet_20 rfl rfl ?_
    refine g_goto 25 dX12_isNoSet_21 (by decide) ?_
    exact g_iret rfl rfl dX12_isNoSet_25 ⟨rfl, _, rfl, h⟩
def wX12_has (K : Int32 → ab_F → ab_F → Prop) (I A : ab_F) (p0 : Int32) (p1 : Int32) : Prop := ((¬ ((p0 >>> (p1 &&& 31)) &&& (nI 1)) = (nI 1) → K (nI 0) I A) ∧ (((p0 >>> (p1 &&& 31)) &&& (nI 1)) = (nI 1) → K (nI 1) I A))
set_option maxRecDepth 20000 in
theorem ctX12_has  {K : Int32 → ab_F → ab_F → Prop} {I A : ab_F} {p0 : Int32} {p1 : Int32} (h : wX12_has K I A p0 p1) : ab_Cl mX12_has 0 0 0 [.int p0, .int p1] shM I A (ab_Px shM ab_no (ab_ri K)) := by
  refine ab_enter (ls := [some (.int p0), some (.int p1)]) (by decide +kernel) (Nat.le_of_ble_eq_true rfl) rfl (fun C => ?_)
  unfold wX12_has at h
  refine g_iload_n (n := 1) dX12_has_0 rfl rfl rfl ?_
  refine g_iload_n (n := 2) dX12_has_1 rfl rfl rfl ?_
  refine g_ishr (n := 3) dX12_has_2 rfl ?_
  refine g_iconst (n := 4) (v := (nI 1)) dX12_has_3 rfl rfl ?_
  refine g_iand (n := 5) dX12_has_4 rfl ?_
  refine g_iconst (n := 6) (v := (nI 1)) dX12_has_5 rfl rfl ?_
  refine g_icmp_ne (n := 9) 13 dX12_has_6 (by decide) rfl (fun hc => ?_) (fun hc => ?_)
  · have h := h.1 hc
    refine g_iconst (n := 14) (v := (nI 0)) dX12_has_13 rfl rfl ?_
    exact g_iret rfl rfl dX12_has_14 ⟨rfl, _, rfl, h⟩
  · have h := h.2 hc
    refine g_iconst (n := 10) (v := (nI 1)) dX12_has_9 rfl rfl ?_
    refine g_goto 14 dX12_has_10 (by decide) ?_
    exact g_iret rfl rfl dX12_has_14 ⟨rfl, _, rfl, h⟩
def wlX12_size_4 (K : Int32 → ab_F → ab_F → Prop) : Nat → Int32 → Int32 → Int32 → ab_F → ab_F → Prop
  | 0, _, _, _, _, _ => False
  | n + 1, x0, x1, x2, I, A => (((nI 8) ≤ x2 → K x1 I A) ∧ (¬ (nI 8) ≤ x2 → wX12_has (fun r_3 I_1 A_2 => ((r_3 = 0 → (∀ y_4 : Int32, y_4 = (x1 + (nI 0)) → (wlX12_size_4 K n) x0 y_4 (x2 + nI 1) I_1 A_2)) ∧ (¬ r_3 = 0 → (∀ y_5 : Int32, y_5 = (x1 + (nI 1)) → (wlX12_size_4 K n) x0 y_5 (x2 + nI 1) I_1 A_2)))) I A x0 x2))
def wX12_size (K : Int32 → ab_F → ab_F → Prop) (I A : ab_F) (p0 : Int32) : Prop := (∃ nf : Nat, wlX12_size_4 K nf p0 (nI 0) (nI 0) I A)
set_option maxRecDepth 20000 in
theorem tlX12_size_4 {C : ab_X}  {K : Int32 → ab_F → ab_F → Prop} : ∀ (n : Nat) (x0 : Int32) (x1 : Int32) (x2 : Int32) (I A : ab_F), wlX12_size_4 K n x0 x1 x2 I A → ab_G mX12_size 1 C (ab_Px shM ab_no (ab_ri K)) 4 [some (.int x0), some (.int x1), some (.int x2)] [] shM I A 0 0 := by
  intro n
  induction n with
  | zero => intro x0 x1 x2 I A h; exact h.elim
  | succ n hL4 =>
    intro x0 x1 x2 I A h
    rw [wlX12_size_4] at h
    refine g_iload_n (n := 5) dX12_size_4 rfl rfl rfl ?_
    refine g_bipush (n := 7) (v := (nI 8)) dX12_size_5 rfl rfl ?_
    refine g_icmp_ge (n := 10) 32 dX12_size_7 (by decide) rfl (fun hc => ?_) (fun hc => ?_)
    · have h := h.1 hc
      refine g_iload_n (n := 33) dX12_size_32 rfl rfl rfl ?_
      exact g_iret rfl rfl dX12_size_33 ⟨rfl, _, rfl, h⟩
    · have h := h.2 hc
      refine g_iload_n (n := 11) dX12_size_10 rfl rfl rfl ?_
      refine g_iload_n (n := 12) dX12_size_11 rfl rfl rfl ?_
      refine g_iload_n (n := 13) dX12_size_12 rfl rfl rfl ?_
      refine g_callS (n := 16) (as := [.int x0, .int x2]) (bc' := 0) (bs' := 0) (ctX12_has h) okX12_has w_2204 w_2205 dX12_size_13 rfl rfl (Nat.le_of_ble_eq_true rfl) (Nat.le_of_ble_eq_true rfl) (Nat.le_of_ble_eq_true rfl) (Nat.le_of_ble_eq_true rfl) rfl (fun E sh1 I1 A1 hp _ => hp.2.elim) (fun ro sh_ I_1 A_2 hp hle => ?_)
      obtain ⟨rfl, r_3, rfl, h⟩ := hp
      refine g_if_eq (n := 19) 23 dX12_size_16 (by decide) rfl (fun hc => ?_) (fun hc => ?_)
      · have h := h.1 hc
        refine g_iconst (n := 24) (v := (nI 0)) dX12_size_23 rfl rfl ?_
        refine g_iadd (n := 25) dX12_size_24 rfl ?_
        refine g_topi (fun y_4 ey_4 => ?_)
        have h := h y_4 ey_4
        refine g_istore_n (n := 26) (ls' := [some (.int x0), some (.int y_4), some (.int x2)]) dX12_size_25 rfl rfl (Nat.le_of_ble_eq_true rfl) (Nat.le_of_ble_eq_true rfl) rfl rfl ?_
        refine g_iinc (n := 29) (v := (x2 + nI 1)) (ls' := [some (.int x0), some (.int y_4), some (.int (x2 + nI 1))]) dX12_size_26 rfl rfl rfl (Nat.le_of_ble_eq_true rfl) rfl rfl ?_
        refine g_goto 4 dX12_size_29 (by decide) ?_
        exact hL4 _ _ _ _ _ h
      · have h := h.2 hc
        refine g_iconst (n := 20) (v := (nI 1)) dX12_size_19 rfl rfl ?_
        refine g_goto 24 dX12_size_20 (by decide) ?_
        refine g_iadd (n := 25) dX12_size_24 rfl ?_
        refine g_topi (fun y_5 ey_5 => ?_)
        have h := h y_5 ey_5
        refine g_istore_n (n := 26) (ls' := [some (.int x0), some (.int y_5), some (.int x2)]) dX12_size_25 rfl rfl (Nat.le_of_ble_eq_true rfl) (Nat.le_of_ble_eq_true rfl) rfl rfl ?_
        refine g_iinc (n := 29) (v := (x2 + nI 1)) (ls' := [some (.int x0), some (.int y_5), some (.int (x2 + nI 1))]) dX12_size_26 rfl rfl rfl (Nat.le_of_ble_eq_true rfl) rfl rfl ?_
        refine g_goto 4 dX12_size_29 (by decide) ?_
        exact hL4 _ _ _ _ _ h
set_option maxRecDepth 20000 in
theorem ctX12_size  {K : Int32 → ab_F → ab_F → Prop} {I A : ab_F} {p0 : Int32} (h : wX12_size K I A p0) : ab_Cl mX12_size 1 0 0 [.int p0] shM I A (ab_Px shM ab_no (ab_ri K)) := by
  refine ab_enter (ls := [some (.int p0), none, none]) (by decide +kernel) (Nat.le_of_ble_eq_true rfl) rfl (fun C => ?_)
  unfold wX12_size at h
  refine g_iconst (n := 1) (v := (nI 0)) dX12_size_0 rfl rfl ?_
  refine g_istore_n (n := 2) (ls' := [some (.int p0), some (.int (nI 0)), none]) dX12_size_1 rfl rfl (Nat.le_of_ble_eq_true rfl) (Nat.le_of_ble_eq_true rfl) rfl rfl ?_
  refine g_iconst (n := 3) (v := (nI 0)) dX12_size_2 rfl rfl ?_
  refine g_istore_n (n := 4) (ls' := [some (.int p0), some (.int (nI 0)), some (.int (nI 0))]) dX12_size_3 rfl rfl (Nat.le_of_ble_eq_true rfl) (Nat.le_of_ble_eq_true rfl) rfl rfl ?_
  refine g_less (bc' := 0) (bs' := 0) (Nat.le_of_ble_eq_true rfl) (Nat.le_of_ble_eq_true rfl) ?_
  obtain ⟨n_f, h⟩ := h
  exact tlX12_size_4  n_f _ _ _ _ _ h
def wX12_isThere (K : Int32 → ab_F → ab_F → Prop) (I A : ab_F) (p0 : Int32) : Prop := (∃ j_1 : Nat, ((nI 20) + (p0 / (nI 8))) = nI j_1 ∧ j_1 < 608 ∧ (((A 1 j_1) ≤ (p0 - p0 / (nI 8) * (nI 8)) → K (nI 0) I A) ∧ (¬ (A 1 j_1) ≤ (p0 - p0 / (nI 8) * (nI 8)) → (((A 1 3) ≤ (p0 / (nI 8)) → K (nI 0) I A) ∧ (¬ (A 1 3) ≤ (p0 / (nI 8)) → K (nI 1) I A)))))
set_option maxRecDepth 20000 in
theorem ctX12_isThere  {K : Int32 → ab_F → ab_F → Prop} {I A : ab_F} {p0 : Int32} (h : wX12_isThere K I A p0) : ab_Cl mX12_isThere 0 0 0 [.ref 0, .int p0] shM I A (ab_Px shM ab_no (ab_ri K)) := by
  refine ab_enter (ls := [some (.ref 0), some (.int p0)]) (by decide +kernel) (Nat.le_of_ble_eq_true rfl) rfl (fun C => ?_)
  unfold wX12_isThere at h
  refine g_iload_n (n := 1) dX12_isThere_0 rfl rfl rfl ?_
  refine g_bipush (n := 3) (v := (nI 8)) dX12_isThere_1 rfl rfl ?_
  refine g_irem (n := 4) dX12_isThere_3 (by decide) rfl ?_
  refine g_aload_n (n := 5) dX12_isThere_4 rfl rfl rfl ?_
  refine g_getR (n := 8) (k := 0) dX12_isThere_5 sM_0 vc_16 (Nat.le_of_ble_eq_true rfl) rfl w_1994 rfl ?_
  refine g_bipush (n := 10) (v := (nI 20)) dX12_isThere_8 rfl rfl ?_
  refine g_iload_n (n := 11) dX12_isThere_10 rfl rfl rfl ?_
  refine g_bipush (n := 13) (v := (nI 8)) dX12_isThere_11 rfl rfl ?_
  refine g_idiv (n := 14) dX12_isThere_13 (by decide) rfl ?_
  refine g_iadd (n := 15) dX12_isThere_14 rfl ?_
  obtain ⟨j_1, hj, hl, h⟩ := h
  refine g_ialdJ (n := 16) (j := j_1) (x := (A 1 j_1)) dX12_isThere_15 sM_1 hj hl (by decide) rfl rfl ?_
  refine g_icmp_ge (n := 19) 36 dX12_isThere_16 (by decide) rfl (fun hc => ?_) (fun hc => ?_)
  · have h := h.1 hc
    refine g_iconst (n := 37) (v := (nI 0)) dX12_isThere_36 rfl rfl ?_
    exact g_iret rfl rfl dX12_isThere_37 ⟨rfl, _, rfl, h⟩
  · have h := h.2 hc
    refine g_iload_n (n := 20) dX12_isThere_19 rfl rfl rfl ?_
    refine g_bipush (n := 22) (v := (nI 8)) dX12_isThere_20 rfl rfl ?_
    refine g_idiv (n := 23) dX12_isThere_22 (by decide) rfl ?_
    refine g_aload_n (n := 24) dX12_isThere_23 rfl rfl rfl ?_
    refine g_getR (n := 27) (k := 0) dX12_isThere_24 sM_0 vc_16 (Nat.le_of_ble_eq_true rfl) rfl w_1994 rfl ?_
    refine g_iconst (n := 28) (v := (nI 3)) dX12_isThere_27 rfl rfl ?_
    refine g_ialdJ (n := 29) (j := 3) (x := (A 1 3)) dX12_isThere_28 sM_1 rfl (Nat.le_of_ble_eq_true rfl) (by decide) rfl rfl ?_
    refine g_icmp_ge (n := 32) 36 dX12_isThere_29 (by decide) rfl (fun hc => ?_) (fun hc => ?_)
    · have h := h.1 hc
      refine g_iconst (n := 37) (v := (nI 0)) dX12_isThere_36 rfl rfl ?_
      exact g_iret rfl rfl dX12_isThere_37 ⟨rfl, _, rfl, h⟩
    · have h := h.2 hc
      refine g_iconst (n := 33) (v := (nI 1)) dX12_isThere_32 rfl rfl ?_
      refine g_goto 37 dX12_isThere_33 (by decide) ?_
      exact g_iret rfl rfl dX12_isThere_37 ⟨rfl, _, rfl, h⟩
def wlX12_keepAside_2 (K : ab_F → ab_F → Prop) : Nat → Int32 → ab_F → ab_F → Prop
  | 0, _, _, _ => False
  | n + 1, x1, I, A => (((nI 608) ≤ x1 → K I A) ∧ (¬ (nI 608) ≤ x1 → (∃ j_1 : Nat, x1 = nI j_1 ∧ j_1 < 608 ∧ (∃ j_2 : Nat, x1 = nI j_2 ∧ j_2 < 608 ∧ (wlX12_keepAside_2 K n) (x1 + nI 1) I (wr A 2 j_2 (A 1 j_1))))))
def wX12_keepAside (K : ab_F → ab_F → Prop) (I A : ab_F)  : Prop := (∃ nf : Nat, wlX12_keepAside_2 K nf (nI 0) I A)
set_option maxRecDepth 20000 in
theorem tlX12_keepAside_2 {C : ab_X}  {K : ab_F → ab_F → Prop} : ∀ (n : Nat) (x1 : Int32) (I A : ab_F), wlX12_keepAside_2 K n x1 I A → ab_G mX12_keepAside 0 C (ab_Px shM ab_no (ab_rv K)) 2 [some (.ref 0), some (.int x1)] [] shM I A 0 0 := by
  intro n
  induction n with
  | zero => intro x1 I A h; exact h.elim
  | succ n hL2 =>
    intro x1 I A h
    rw [wlX12_keepAside_2] at h
    refine g_iload_n (n := 3) dX12_keepAside_2 rfl rfl rfl ?_
    refine g_sipush (n := 6) (v := (nI 608)) dX12_keepAside_3 rfl rfl ?_
    refine g_icmp_ge (n := 9) 27 dX12_keepAside_6 (by decide) rfl (fun hc => ?_) (fun hc => ?_)
    · have h := h.1 hc
      exact g_vret rfl dX12_keepAside_27 ⟨rfl, rfl, h⟩
    · have h := h.2 hc
      refine g_aload_n (n := 10) dX12_keepAside_9 rfl rfl rfl ?_
      refine g_getR (n := 13) (k := 1) dX12_keepAside_10 sM_0 vc_16 (Nat.le_of_ble_eq_true rfl) rfl w_1995 rfl ?_
      refine g_iload_n (n := 14) dX12_keepAside_13 rfl rfl rfl ?_
      refine g_aload_n (n := 15) dX12_keepAside_14 rfl rfl rfl ?_
      refine g_getR (n := 18) (k := 0) dX12_keepAside_15 sM_0 vc_16 (Nat.le_of_ble_eq_true rfl) rfl w_1994 rfl ?_
      refine g_iload_n (n := 19) dX12_keepAside_18 rfl rfl rfl ?_
      obtain ⟨j_1, hj, hl, h⟩ := h
      refine g_ialdJ (n := 20) (j := j_1) (x := (A 1 j_1)) dX12_keepAside_19 sM_1 hj hl (by decide) rfl rfl ?_
      obtain ⟨j_2, hj, hl, h⟩ := h
      refine g_iastJ (n := 21) (j := j_2) dX12_keepAside_20 sM_2 hj hl (by decide) rfl ?_
      refine g_iinc (n := 24) (v := (x1 + nI 1)) (ls' := [some (.ref 0), some (.int (x1 + nI 1))]) dX12_keepAside_21 rfl rfl rfl (Nat.le_of_ble_eq_true rfl) rfl rfl ?_
      refine g_goto 2 dX12_keepAside_24 (by decide) ?_
      exact hL2 _ _ _ h
set_option maxRecDepth 20000 in
theorem ctX12_keepAside  {K : ab_F → ab_F → Prop} {I A : ab_F}  (h : wX12_keepAside K I A ) : ab_Cl mX12_keepAside 0 0 0 [.ref 0] shM I A (ab_Px shM ab_no (ab_rv K)) := by
  refine ab_enter (ls := [some (.ref 0), none]) (by decide +kernel) (Nat.le_of_ble_eq_true rfl) rfl (fun C => ?_)
  unfold wX12_keepAside at h
  refine g_iconst (n := 1) (v := (nI 0)) dX12_keepAside_0 rfl rfl ?_
  refine g_istore_n (n := 2) (ls' := [some (.ref 0), some (.int (nI 0))]) dX12_keepAside_1 rfl rfl (Nat.le_of_ble_eq_true rfl) (Nat.le_of_ble_eq_true rfl) rfl rfl ?_
  refine g_less (bc' := 0) (bs' := 0) (Nat.le_of_ble_eq_true rfl) (Nat.le_of_ble_eq_true rfl) ?_
  obtain ⟨n_f, h⟩ := h
  exact tlX12_keepAside_2  n_f _ _ _ h
def wlX12_takeBack_2 (K : ab_F → ab_F → Prop) : Nat → Int32 → ab_F → ab_F → Prop
  | 0, _, _, _ => False
  | n + 1, x1, I, A => (((nI 608) ≤ x1 → K I A) ∧ (¬ (nI 608) ≤ x1 → (∃ j_1 : Nat, x1 = nI j_1 ∧ j_1 < 608 ∧ (∃ j_2 : Nat, x1 = nI j_2 ∧ j_2 < 608 ∧ (wlX12_takeBack_2 K n) (x1 + nI 1) I (wr A 1 j_2 (A 2 j_1))))))
def wX12_takeBack (K : ab_F → ab_F → Prop) (I A : ab_F)  : Prop := (∃ nf : Nat, wlX12_takeBack_2 K nf (nI 0) I A)
set_option maxRecDepth 20000 in
theorem tlX12_takeBack_2 {C : ab_X}  {K : ab_F → ab_F → Prop} : ∀ (n : Nat) (x1 : Int32) (I A : ab_F), wlX12_takeBack_2 K n x1 I A → ab_G mX12_takeBack 0 C (ab_Px shM ab_no (ab_rv K)) 2 [some (.ref 0), some (.int x1)] [] shM I A 0 0 := by
  intro n
  induction n with
  | zero => intro x1 I A h; exact h.elim
  | succ n hL2 =>
    intro x1 I A h
    rw [wlX12_takeBack_2] at h
    refine g_iload_n (n := 3) dX12_takeBack_2 rfl rfl rfl ?_
    refine g_sipush (n := 6) (v := (nI 608)) dX12_takeBack_3 rfl rfl ?_
    refine g_icmp_ge (n := 9) 27 dX12_takeBack_6 (by decide) rfl (fun hc => ?_) (fun hc => ?_)
    · have h := h.1 hc
      exact g_vret rfl dX12_takeBack_27 ⟨rfl, rfl, h⟩
    · have h := h.2 hc
      refine g_aload_n (n := 10) dX12_takeBack_9 rfl rfl rfl ?_
      refine g_getR (n := 13) (k := 0) dX12_takeBack_10 sM_0 vc_16 (Nat.le_of_ble_eq_true rfl) rfl w_1994 rfl ?_
      refine g_iload_n (n := 14) dX12_takeBack_13 rfl rfl rfl ?_
      refine g_aload_n (n := 15) dX12_takeBack_14 rfl rfl rfl ?_
      refine g_getR (n := 18) (k := 1) dX12_takeBack_15 sM_0 vc_16 (Nat.le_of_ble_eq_true rfl) rfl w_1995 rfl ?_
      refine g_iload_n (n := 19) dX12_takeBack_18 rfl rfl rfl ?_
      obtain ⟨j_1, hj, hl, h⟩ := h
      refine g_ialdJ (n := 20) (j := j_1) (x := (A 2 j_1)) dX12_takeBack_19 sM_2 hj hl (by decide) rfl rfl ?_
      obtain ⟨j_2, hj, hl, h⟩ := h
      refine g_iastJ (n := 21) (j := j_2) dX12_takeBack_20 sM_1 hj hl (by decide) rfl ?_
      refine g_iinc (n := 24) (v := (x1 + nI 1)) (ls' := [some (.ref 0), some (.int (x1 + nI 1))]) dX12_takeBack_21 rfl rfl rfl (Nat.le_of_ble_eq_true rfl) rfl rfl ?_
      refine g_goto 2 dX12_takeBack_24 (by decide) ?_
      exact hL2 _ _ _ h
set_option maxRecDepth 20000 in
theorem ctX12_takeBack  {K : ab_F → ab_F → Prop} {I A : ab_F}  (h : wX12_takeBack K I A ) : ab_Cl mX12_takeBack 0 0 0 [.ref 0] shM I A (ab_Px shM ab_no (ab_rv K)) := by
  refine ab_enter (ls := [some (.ref 0), none]) (by decide +kernel) (Nat.le_of_ble_eq_true rfl) rfl (fun C => ?_)
  unfold wX12_takeBack at h
  refine g_iconst (n := 1) (v := (nI 0)) dX12_takeBack_0 rfl rfl ?_
  refine g_istore_n (n := 2) (ls' := [some (.ref 0), some (.int (nI 0))]) dX12_takeBack_1 rfl rfl (Nat.le_of_ble_eq_true rfl) (Nat.le_of_ble_eq_true rfl) rfl rfl ?_
  refine g_less (bc' := 0) (bs' := 0) (Nat.le_of_ble_eq_true rfl) (Nat.le_of_ble_eq_true rfl) ?_
  obtain ⟨n_f, h⟩ := h
  exact tlX12_takeBack_2  n_f _ _ _ h
def wlX12_push_54 (K : ab_F → ab_F → Prop) : Nat → Int32 → ab_F → ab_F → Prop
  | 0, _, _, _ => False
  | n + 1, x1, I, A => (((nI 608) ≤ x1 → K (wr I 0 4 ((I 0 4) + (nI 1))) A) ∧ (¬ (nI 608) ≤ x1 → (∃ j_1 : Nat, x1 = nI j_1 ∧ j_1 < 608 ∧ (∃ j_2 : Nat, (((nI 608) * (I 0 4)) + x1) = nI j_2 ∧ j_2 < 6080 ∧ (wlX12_push_54 K n) (x1 + nI 1) I (wr A 4 j_2 (A 2 j_1))))))
def wlX12_push_13 (K : ab_F → ab_F → Prop) : Nat → Int32 → ab_F → ab_F → Prop
  | 0, _, _, _ => False
  | n + 1, x1, I, A => (((nI 6080) ≤ x1 → (∃ nf : Nat, wlX12_push_54 K nf (nI 0) (wr I 0 4 ((I 0 4) - (nI 1))) A)) ∧ (¬ (nI 6080) ≤ x1 → (∃ j_3 : Nat, x1 = nI j_3 ∧ j_3 < 6080 ∧ (∃ j_4 : Nat, (x1 - (nI 608)) = nI j_4 ∧ j_4 < 6080 ∧ (wlX12_push_13 K n) (x1 + nI 1) I (wr A 4 j_4 (A 4 j_3))))))
def wX12_push (K : ab_F → ab_F → Prop) (I A : ab_F)  : Prop := ((¬ (I 0 4) = (nI 10) → (∃ nf : Nat, wlX12_push_54 K nf (nI 0) I A)) ∧ ((I 0 4) = (nI 10) → (∃ nf : Nat, wlX12_push_13 K nf (nI 608) I A)))
set_option maxRecDepth 20000 in
theorem tlX12_push_54 {C : ab_X}  {K : ab_F → ab_F → Prop} : ∀ (n : Nat) (x1 : Int32) (I A : ab_F), wlX12_push_54 K n x1 I A → ab_G mX12_push 0 C (ab_Px shM ab_no (ab_rv K)) 54 [some (.ref 0), some (.int x1)] [] shM I A 0 0 := by
  intro n
  induction n with
  | zero => intro x1 I A h; exact h.elim
  | succ n hL54 =>
    intro x1 I A h
    rw [wlX12_push_54] at h
    refine g_iload_n (n := 55) dX12_push_54 rfl rfl rfl ?_
    refine g_sipush (n := 58) (v := (nI 608)) dX12_push_55 rfl rfl ?_
    refine g_icmp_ge (n := 61) 88 dX12_push_58 (by decide) rfl (fun hc => ?_) (fun hc => ?_)
    · have h := h.1 hc
      refine g_aload_n (n := 89) dX12_push_88 rfl rfl rfl ?_
      refine g_dup (n := 90) dX12_push_89 rfl rfl ?_
      refine g_getIE (n := 93) (k := 4) (x := (I 0 4)) dX12_push_90 sM_0 vc_16 (Nat.le_of_ble_eq_true rfl) rfl w_1998 rfl rfl ?_
      refine g_iconst (n := 94) (v := (nI 1)) dX12_push_93 rfl rfl ?_
      refine g_iadd (n := 95) dX12_push_94 rfl ?_
      refine g_putI (n := 98) (k := 4) dX12_push_95 sM_0 vc_16 (Nat.le_of_ble_eq_true rfl) rfl w_1998 rfl rfl rfl rfl rfl ?_
      exact g_vret rfl dX12_push_98 ⟨rfl, rfl, h⟩
    · have h := h.2 hc
      refine g_aload_n (n := 62) dX12_push_61 rfl rfl rfl ?_
      refine g_getR (n := 65) (k := 3) dX12_push_62 sM_0 vc_16 (Nat.le_of_ble_eq_true rfl) rfl w_1997 rfl ?_
      refine g_sipush (n := 68) (v := (nI 608)) dX12_push_65 rfl rfl ?_
      refine g_aload_n (n := 69) dX12_push_68 rfl rfl rfl ?_
      refine g_getIE (n := 72) (k := 4) (x := (I 0 4)) dX12_push_69 sM_0 vc_16 (Nat.le_of_ble_eq_true rfl) rfl w_1998 rfl rfl ?_
      refine g_imul (n := 73) dX12_push_72 rfl ?_
      refine g_iload_n (n := 74) dX12_push_73 rfl rfl rfl ?_
      refine g_iadd (n := 75) dX12_push_74 rfl ?_
      refine g_aload_n (n := 76) dX12_push_75 rfl rfl rfl ?_
      refine g_getR (n := 79) (k := 1) dX12_push_76 sM_0 vc_16 (Nat.le_of_ble_eq_true rfl) rfl w_1995 rfl ?_
      refine g_iload_n (n := 80) dX12_push_79 rfl rfl rfl ?_
      obtain ⟨j_1, hj, hl, h⟩ := h
      refine g_ialdJ (n := 81) (j := j_1) (x := (A 2 j_1)) dX12_push_80 sM_2 hj hl (by decide) rfl rfl ?_
      obtain ⟨j_2, hj, hl, h⟩ := h
      refine g_iastJ (n := 82) (j := j_2) dX12_push_81 sM_4 hj hl (by decide) rfl ?_
      refine g_iinc (n := 85) (v := (x1 + nI 1)) (ls' := [some (.ref 0), some (.int (x1 + nI 1))]) dX12_push_82 rfl rfl rfl (Nat.le_of_ble_eq_true rfl) rfl rfl ?_
      refine g_goto 54 dX12_push_85 (by decide) ?_
      exact hL54 _ _ _ h
set_option maxRecDepth 20000 in
theorem tlX12_push_13 {C : ab_X}  {K : ab_F → ab_F → Prop} : ∀ (n : Nat) (x1 : Int32) (I A : ab_F), wlX12_push_13 K n x1 I A → ab_G mX12_push 0 C (ab_Px shM ab_no (ab_rv K)) 13 [some (.ref 0), some (.int x1)] [] shM I A 0 0 := by
  intro n
  induction n with
  | zero => intro x1 I A h; exact h.elim
  | succ n hL13 =>
    intro x1 I A h
    rw [wlX12_push_13] at h
    refine g_iload_n (n := 14) dX12_push_13 rfl rfl rfl ?_
    refine g_sipush (n := 17) (v := (nI 6080)) dX12_push_14 rfl rfl ?_
    refine g_icmp_ge (n := 20) 42 dX12_push_17 (by decide) rfl (fun hc => ?_) (fun hc => ?_)
    · have h := h.1 hc
      refine g_aload_n (n := 43) dX12_push_42 rfl rfl rfl ?_
      refine g_dup (n := 44) dX12_push_43 rfl rfl ?_
      refine g_getIE (n := 47) (k := 4) (x := (I 0 4)) dX12_push_44 sM_0 vc_16 (Nat.le_of_ble_eq_true rfl) rfl w_1998 rfl rfl ?_
      refine g_iconst (n := 48) (v := (nI 1)) dX12_push_47 rfl rfl ?_
      refine g_isub (n := 49) dX12_push_48 rfl ?_
      refine g_putI (n := 52) (k := 4) dX12_push_49 sM_0 vc_16 (Nat.le_of_ble_eq_true rfl) rfl w_1998 rfl rfl rfl rfl rfl ?_
      refine g_iconst (n := 53) (v := (nI 0)) dX12_push_52 rfl rfl ?_
      refine g_istore_n (n := 54) (ls' := [some (.ref 0), some (.int (nI 0))]) dX12_push_53 rfl rfl (Nat.le_of_ble_eq_true rfl) (Nat.le_of_ble_eq_true rfl) rfl rfl ?_
      refine g_less (bc' := 0) (bs' := 0) (Nat.le_of_ble_eq_true rfl) (Nat.le_of_ble_eq_true rfl) ?_
      obtain ⟨n_f, h⟩ := h
      exact tlX12_push_54  n_f _ _ _ h
    · have h := h.2 hc
      refine g_aload_n (n := 21) dX12_push_20 rfl rfl rfl ?_
      refine g_getR (n := 24) (k := 3) dX12_push_21 sM_0 vc_16 (Nat.le_of_ble_eq_true rfl) rfl w_1997 rfl ?_
      refine g_iload_n (n := 25) dX12_push_24 rfl rfl rfl ?_
      refine g_sipush (n := 28) (v := (nI 608)) dX12_push_25 rfl rfl ?_
      refine g_isub (n := 29) dX12_push_28 rfl ?_
      refine g_aload_n (n := 30) dX12_push_29 rfl rfl rfl ?_
      refine g_getR (n := 33) (k := 3) dX12_push_30 sM_0 vc_16 (Nat.le_of_ble_eq_true rfl) rfl w_1997 rfl ?_
      refine g_iload_n (n := 34) dX12_push_33 rfl rfl rfl ?_
      obtain ⟨j_3, hj, hl, h⟩ := h
      refine g_ialdJ (n := 35) (j := j_3) (x := (A 4 j_3)) dX12_push_34 sM_4 hj hl (by decide) rfl rfl ?_
      obtain ⟨j_4, hj, hl, h⟩ := h
      refine g_iastJ (n := 36) (j := j_4) dX12_push_35 sM_4 hj hl (by decide) rfl ?_
      refine g_iinc (n := 39) (v := (x1 + nI 1)) (ls' := [some (.ref 0), some (.int (x1 + nI 1))]) dX12_push_36 rfl rfl rfl (Nat.le_of_ble_eq_true rfl) rfl rfl ?_
      refine g_goto 13 dX12_push_39 (by decide) ?_
      exact hL13 _ _ _ h
set_option maxRecDepth 20000 in
theorem ctX12_push  {K : ab_F → ab_F → Prop} {I A : ab_F}  (h : wX12_push K I A ) : ab_Cl mX12_push 0 0 0 [.ref 0] shM I A (ab_Px shM ab_no (ab_rv K)) := by
  refine ab_enter (ls := [some (.ref 0), none]) (by decide +kernel) (Nat.le_of_ble_eq_true rfl) rfl (fun C => ?_)
  unfold wX12_push at h
  refine g_aload_n (n := 1) dX12_push_0 rfl rfl rfl ?_
  refine g_getIE (n := 4) (k := 4) (x := (I 0 4)) dX12_push_1 sM_0 vc_16 (Nat.le_of_ble_eq_true rfl) rfl w_1998 rfl rfl ?_
  refine g_bipush (n := 6) (v := (nI 10)) dX12_push_4 rfl rfl ?_
  refine g_icmp_ne (n := 9) 52 dX12_push_6 (by decide) rfl (fun hc => ?_) (fun hc => ?_)
  · have h := h.1 hc
    refine g_iconst (n := 53) (v := (nI 0)) dX12_push_52 rfl rfl ?_
    refine g_istore_n (n := 54) (ls' := [some (.ref 0), some (.int (nI 0))]) dX12_push_53 rfl rfl (Nat.le_of_ble_eq_true rfl) (Nat.le_of_ble_eq_true rfl) rfl rfl ?_
    refine g_less (bc' := 0) (bs' := 0) (Nat.le_of_ble_eq_true rfl) (Nat.le_of_ble_eq_true rfl) ?_
    obtain ⟨n_f, h⟩ := h
    exact tlX12_push_54  n_f _ _ _ h
  · have h := h.2 hc
    refine g_sipush (n := 12) (v := (nI 608)) dX12_push_9 rfl rfl ?_
    refine g_istore_n (n := 13) (ls' := [some (.ref 0), some (.int (nI 608))]) dX12_push_12 rfl rfl (Nat.le_of_ble_eq_true rfl) (Nat.le_of_ble_eq_true rfl) rfl rfl ?_
    refine g_less (bc' := 0) (bs' := 0) (Nat.le_of_ble_eq_true rfl) (Nat.le_of_ble_eq_true rfl) ?_
    obtain ⟨n_f, h⟩ := h
    exact tlX12_push_13  n_f _ _ _ h
def wX12_remember (K : ab_F → ab_F → Prop) (I A : ab_F)  : Prop := wX12_keepAside (fun I_1 A_2 => wX12_push (fun I_3 A_4 => K I_3 A_4) I_1 A_2 ) I A 
set_option maxRecDepth 20000 in
theorem ctX12_remember  {K : ab_F → ab_F → Prop} {I A : ab_F}  (h : wX12_remember K I A ) : ab_Cl mX12_remember 1 0 0 [.ref 0] shM I A (ab_Px shM ab_no (ab_rv K)) := by
  refine ab_enter (ls := [some (.ref 0)]) (by decide +kernel) (Nat.le_of_ble_eq_true rfl) rfl (fun C => ?_)
  unfold wX12_remember at h
  refine g_aload_n (n := 1) dX12_remember_0 rfl rfl rfl ?_
  refine g_callV (n := 4) (as := []) (bc' := 0) (bs' := 0) sM_0 vc_16 (ctX12_keepAside h) okX12_keepAside rfl w_2239 w_2241 w_53 w_112 dX12_remember_1 rfl rfl (Nat.le_of_ble_eq_true rfl) (Nat.le_of_ble_eq_true rfl) (Nat.le_of_ble_eq_true rfl) (Nat.le_of_ble_eq_true rfl) rfl (fun E sh1 I1 A1 hp _ => hp.2.elim) (fun ro sh_ I_1 A_2 hp hle => ?_)
  obtain ⟨rfl, rfl, h⟩ := hp
  refine g_aload_n (n := 5) dX12_remember_4 rfl rfl rfl ?_
  refine g_callV (n := 8) (as := []) (bc' := 0) (bs' := 0) sM_0 vc_16 (ctX12_push h) okX12_push rfl w_2243 w_2245 w_54 w_112 dX12_remember_5 rfl rfl (Nat.le_of_ble_eq_true rfl) (Nat.le_of_ble_eq_true rfl) (Nat.le_of_ble_eq_true rfl) (Nat.le_of_ble_eq_true rfl) rfl (fun E sh1 I1 A1 hp _ => hp.2.elim) (fun ro sh_ I_3 A_4 hp hle => ?_)
  obtain ⟨rfl, rfl, h⟩ := hp
  exact g_vret rfl dX12_remember_8 ⟨rfl, rfl, h⟩
def wlX12_undo_30 (K : Int32 → ab_F → ab_F → Prop) : Nat → Int32 → ab_F → ab_F → Prop
  | 0, _, _, _ => False
  | n + 1, x1, I, A => (((nI 608) ≤ x1 → K (I 0 4) I A) ∧ (¬ (nI 608) ≤ x1 → (∃ j_1 : Nat, (((nI 608) * (I 0 4)) + x1) = nI j_1 ∧ j_1 < 6080 ∧ (∃ j_2 : Nat, x1 = nI j_2 ∧ j_2 < 608 ∧ (wlX12_undo_30 K n) (x1 + nI 1) I (wr A 1 j_2 (A 4 j_1))))))
def wX12_undo (K : Int32 → ab_F → ab_F → Prop) (I A : ab_F)  : Prop := ((¬ (I 0 4) = 0 → (∃ nf : Nat, wlX12_undo_30 K nf (nI 0) (wr (wr I 0 5 (nI 0)) 0 4 ((I 0 4) - (nI 1))) A)) ∧ ((I 0 4) = 0 → wX12_no (fun r_5 I_3 A_4 => K r_5 I_3 A_4) I A (nI 1)))
set_option maxRecDepth 20000 in
theorem tlX12_undo_30 {C : ab_X}  {K : Int32 → ab_F → ab_F → Prop} : ∀ (n : Nat) (x1 : Int32) (I A : ab_F), wlX12_undo_30 K n x1 I A → ab_G mX12_undo 1 C (ab_Px shM ab_no (ab_ri K)) 30 [some (.ref 0), some (.int x1)] [] shM I A 0 0 := by
  intro n
  induction n with
  | zero => intro x1 I A h; exact h.elim
  | succ n hL30 =>
    intro x1 I A h
    rw [wlX12_undo_30] at h
    refine g_iload_n (n := 31) dX12_undo_30 rfl rfl rfl ?_
    refine g_sipush (n := 34) (v := (nI 608)) dX12_undo_31 rfl rfl ?_
    refine g_icmp_ge (n := 37) 64 dX12_undo_34 (by decide) rfl (fun hc => ?_) (fun hc => ?_)
    · have h := h.1 hc
      refine g_aload_n (n := 65) dX12_undo_64 rfl rfl rfl ?_
      refine g_getIE (n := 68) (k := 4) (x := (I 0 4)) dX12_undo_65 sM_0 vc_16 (Nat.le_of_ble_eq_true rfl) rfl w_1998 rfl rfl ?_
      exact g_iret rfl rfl dX12_undo_68 ⟨rfl, _, rfl, h⟩
    · have h := h.2 hc
      refine g_aload_n (n := 38) dX12_undo_37 rfl rfl rfl ?_
      refine g_getR (n := 41) (k := 0) dX12_undo_38 sM_0 vc_16 (Nat.le_of_ble_eq_true rfl) rfl w_1994 rfl ?_
      refine g_iload_n (n := 42) dX12_undo_41 rfl rfl rfl ?_
      refine g_aload_n (n := 43) dX12_undo_42 rfl rfl rfl ?_
      refine g_getR (n := 46) (k := 3) dX12_undo_43 sM_0 vc_16 (Nat.le_of_ble_eq_true rfl) rfl w_1997 rfl ?_
      refine g_sipush (n := 49) (v := (nI 608)) dX12_undo_46 rfl rfl ?_
      refine g_aload_n (n := 50) dX12_undo_49 rfl rfl rfl ?_
      refine g_getIE (n := 53) (k := 4) (x := (I 0 4)) dX12_undo_50 sM_0 vc_16 (Nat.le_of_ble_eq_true rfl) rfl w_1998 rfl rfl ?_
      refine g_imul (n := 54) dX12_undo_53 rfl ?_
      refine g_iload_n (n := 55) dX12_undo_54 rfl rfl rfl ?_
      refine g_iadd (n := 56) dX12_undo_55 rfl ?_
      obtain ⟨j_1, hj, hl, h⟩ := h
      refine g_ialdJ (n := 57) (j := j_1) (x := (A 4 j_1)) dX12_undo_56 sM_4 hj hl (by decide) rfl rfl ?_
      obtain ⟨j_2, hj, hl, h⟩ := h
      refine g_iastJ (n := 58) (j := j_2) dX12_undo_57 sM_1 hj hl (by decide) rfl ?_
      refine g_iinc (n := 61) (v := (x1 + nI 1)) (ls' := [some (.ref 0), some (.int (x1 + nI 1))]) dX12_undo_58 rfl rfl rfl (Nat.le_of_ble_eq_true rfl) rfl rfl ?_
      refine g_goto 30 dX12_undo_61 (by decide) ?_
      exact hL30 _ _ _ h
set_option maxRecDepth 20000 in
theorem ctX12_undo  {K : Int32 → ab_F → ab_F → Prop} {I A : ab_F}  (h : wX12_undo K I A ) : ab_Cl mX12_undo 1 0 0 [.ref 0] shM I A (ab_Px shM ab_no (ab_ri K)) := by
  refine ab_enter (ls := [some (.ref 0), none]) (by decide +kernel) (Nat.le_of_ble_eq_true rfl) rfl (fun C => ?_)
  unfold wX12_undo at h
  refine g_aload_n (n := 1) dX12_undo_0 rfl rfl rfl ?_
  refine g_getIE (n := 4) (k := 4) (x := (I 0 4)) dX12_undo_1 sM_0 vc_16 (Nat.le_of_ble_eq_true rfl) rfl w_1998 rfl rfl ?_
  refine g_if_ne (n := 7) 13 dX12_undo_4 (by decide) rfl (fun hc => ?_) (fun hc => ?_)
  · have h := h.1 hc
    refine g_aload_n (n := 14) dX12_undo_13 rfl rfl rfl ?_
    refine g_iconst (n := 15) (v := (nI 0)) dX12_undo_14 rfl rfl ?_
    refine g_putI (n := 18) (k := 5) dX12_undo_15 sM_0 vc_16 (Nat.le_of_ble_eq_true rfl) rfl w_1999 rfl rfl rfl rfl rfl ?_
    refine g_aload_n (n := 19) dX12_undo_18 rfl rfl rfl ?_
    refine g_dup (n := 20) dX12_undo_19 rfl rfl ?_
    refine g_getIE (n := 23) (k := 4) (x := (I 0 4)) dX12_undo_20 sM_0 vc_16 (Nat.le_of_ble_eq_true rfl) rfl w_1998 rfl rfl ?_
    refine g_iconst (n := 24) (v := (nI 1)) dX12_undo_23 rfl rfl ?_
    refine g_isub (n := 25) dX12_undo_24 rfl ?_
    refine g_putI (n := 28) (k := 4) dX12_undo_25 sM_0 vc_16 (Nat.le_of_ble_eq_true rfl) rfl w_1998 rfl rfl rfl rfl rfl ?_
    refine g_iconst (n := 29) (v := (nI 0)) dX12_undo_28 rfl rfl ?_
    refine g_istore_n (n := 30) (ls' := [some (.ref 0), some (.int (nI 0))]) dX12_undo_29 rfl rfl (Nat.le_of_ble_eq_true rfl) (Nat.le_of_ble_eq_true rfl) rfl rfl ?_
    refine g_less (bc' := 0) (bs' := 0) (Nat.le_of_ble_eq_true rfl) (Nat.le_of_ble_eq_true rfl) ?_
    obtain ⟨n_f, h⟩ := h
    exact tlX12_undo_30  n_f _ _ _ h
  · have h := h.2 hc
    refine g_aload_n (n := 8) dX12_undo_7 rfl rfl rfl ?_
    refine g_iconst (n := 9) (v := (nI 1)) dX12_undo_8 rfl rfl ?_
    refine g_callV (n := 12) (as := [.int (nI 1)]) (bc' := 0) (bs' := 0) sM_0 vc_16 (ctX12_no h) okX12_no rfl w_2060 w_2062 w_25 w_112 dX12_undo_9 rfl rfl (Nat.le_of_ble_eq_true rfl) (Nat.le_of_ble_eq_true rfl) (Nat.le_of_ble_eq_true rfl) (Nat.le_of_ble_eq_true rfl) rfl (fun E sh1 I1 A1 hp _ => hp.2.elim) (fun ro sh_ I_3 A_4 hp hle => ?_)
    obtain ⟨rfl, r_5, rfl, h⟩ := hp
    exact g_iret rfl rfl dX12_undo_12 ⟨rfl, _, rfl, h⟩
def wX12_undoDepth (K : Int32 → ab_F → ab_F → Prop) (I A : ab_F)  : Prop := K (I 0 4) (wr I 0 5 (nI 0)) A
set_option maxRecDepth 20000 in
theorem ctX12_undoDepth  {K : Int32 → ab_F → ab_F → Prop} {I A : ab_F}  (h : wX12_undoDepth K I A ) : ab_Cl mX12_undoDepth 0 0 0 [.ref 0] shM I A (ab_Px shM ab_no (ab_ri K)) := by
  refine ab_enter (ls := [some (.ref 0)]) (by decide +kernel) (Nat.le_of_ble_eq_true rfl) rfl (fun C => ?_)
  unfold wX12_undoDepth at h
  refine g_aload_n (n := 1) dX12_undoDepth_0 rfl rfl rfl ?_
  refine g_iconst (n := 2) (v := (nI 0)) dX12_undoDepth_1 rfl rfl ?_
  refine g_putI (n := 5) (k := 5) dX12_undoDepth_2 sM_0 vc_16 (Nat.le_of_ble_eq_true rfl) rfl w_1999 rfl rfl rfl rfl rfl ?_
  refine g_aload_n (n := 6) dX12_undoDepth_5 rfl rfl rfl ?_
  refine g_getIE (n := 9) (k := 4) (x := (I 0 4)) dX12_undoDepth_6 sM_0 vc_16 (Nat.le_of_ble_eq_true rfl) rfl w_1998 rfl rfl ?_
  exact g_iret rfl rfl dX12_undoDepth_9 ⟨rfl, _, rfl, h⟩
def wlX12_bring_2 (K : ab_F → ab_F → Prop) : Nat → Int32 → Int32 → ab_F → ab_F → Prop
  | 0, _, _, _, _ => False
  | n + 1, x1, x2, I, A => ((x2 < 0 → K I A) ∧ (¬ x2 < 0 → (∃ j_1 : Nat, (I 0 7) = nI j_1 ∧ j_1 < 400 ∧ (wlX12_bring_2 K n) x1 (x2 + (-1)) (wr I 0 7 ((I 0 7) + (nI 1))) (wr A 5 j_1 (vp_nar .byte (((x1 >>> (((nI 8) * x2) &&& 31))).toInt8.toInt32))))))
def wX12_bring (K : ab_F → ab_F → Prop) (I A : ab_F) (p0 : Int32) : Prop := (∃ nf : Nat, wlX12_bring_2 K nf p0 (nI 3) I A)
set_option maxRecDepth 20000 in
theorem tlX12_bring_2 {C : ab_X}  {K : ab_F → ab_F → Prop} : ∀ (n : Nat) (x1 : Int32) (x2 : Int32) (I A : ab_F), wlX12_bring_2 K n x1 x2 I A → ab_G mX12_bring 0 C (ab_Px shM ab_no (ab_rv K)) 2 [some (.ref 0), some (.int x1), some (.int x2)] [] shM I A 0 0 := by
  intro n
  induction n with
  | zero => intro x1 x2 I A h; exact h.elim
  | succ n hL2 =>
    intro x1 x2 I A h
    rw [wlX12_bring_2] at h
    refine g_iload_n (n := 3) dX12_bring_2 rfl rfl rfl ?_
    refine g_if_lt (n := 6) 35 dX12_bring_3 (by decide) rfl (fun hc => ?_) (fun hc => ?_)
    · have h := h.1 hc
      exact g_vret rfl dX12_bring_35 ⟨rfl, rfl, h⟩
    · have h := h.2 hc
      refine g_aload_n (n := 7) dX12_bring_6 rfl rfl rfl ?_
      refine g_getR (n := 10) (k := 6) dX12_bring_7 sM_0 vc_16 (Nat.le_of_ble_eq_true rfl) rfl w_2000 rfl ?_
      refine g_aload_n (n := 11) dX12_bring_10 rfl rfl rfl ?_
      refine g_dup (n := 12) dX12_bring_11 rfl rfl ?_
      refine g_getIE (n := 15) (k := 7) (x := (I 0 7)) dX12_bring_12 sM_0 vc_16 (Nat.le_of_ble_eq_true rfl) rfl w_2001 rfl rfl ?_
      refine g_dup_x1 (n := 16) dX12_bring_15 rfl rfl rfl ?_
      refine g_iconst (n := 17) (v := (nI 1)) dX12_bring_16 rfl rfl ?_
      refine g_iadd (n := 18) dX12_bring_17 rfl ?_
      refine g_putI (n := 21) (k := 7) dX12_bring_18 sM_0 vc_16 (Nat.le_of_ble_eq_true rfl) rfl w_2001 rfl rfl rfl rfl rfl ?_
      refine g_iload_n (n := 22) dX12_bring_21 rfl rfl rfl ?_
      refine g_bipush (n := 24) (v := (nI 8)) dX12_bring_22 rfl rfl ?_
      refine g_iload_n (n := 25) dX12_bring_24 rfl rfl rfl ?_
      refine g_imul (n := 26) dX12_bring_25 rfl ?_
      refine g_ishr (n := 27) dX12_bring_26 rfl ?_
      refine g_i2b (n := 28) dX12_bring_27 rfl ?_
      obtain ⟨j_1, hj, hl, h⟩ := h
      refine g_bastJ (n := 29) (j := j_1) dX12_bring_28 sM_5 hj hl (by decide) rfl ?_
      refine g_iinc (n := 32) (v := (x2 + (-1))) (ls' := [some (.ref 0), some (.int x1), some (.int (x2 + (-1)))]) dX12_bring_29 rfl rfl rfl (Nat.le_of_ble_eq_true rfl) rfl rfl ?_
      refine g_goto 2 dX12_bring_32 (by decide) ?_
      exact hL2 _ _ _ _ h
set_option maxRecDepth 20000 in
theorem ctX12_bring  {K : ab_F → ab_F → Prop} {I A : ab_F} {p0 : Int32} (h : wX12_bring K I A p0) : ab_Cl mX12_bring 0 0 0 [.ref 0, .int p0] shM I A (ab_Px shM ab_no (ab_rv K)) := by
  refine ab_enter (ls := [some (.ref 0), some (.int p0), none]) (by decide +kernel) (Nat.le_of_ble_eq_true rfl) rfl (fun C => ?_)
  unfold wX12_bring at h
  refine g_iconst (n := 1) (v := (nI 3)) dX12_bring_0 rfl rfl ?_
  refine g_istore_n (n := 2) (ls' := [some (.ref 0), some (.int p0), some (.int (nI 3))]) dX12_bring_1 rfl rfl (Nat.le_of_ble_eq_true rfl) (Nat.le_of_ble_eq_true rfl) rfl rfl ?_
  refine g_less (bc' := 0) (bs' := 0) (Nat.le_of_ble_eq_true rfl) (Nat.le_of_ble_eq_true rfl) ?_
  obtain ⟨n_f, h⟩ := h
  exact tlX12_bring_2  n_f _ _ _ _ h
def wX12_appendText (K : Int32 → ab_F → ab_F → Prop) (I A : ab_F) (p0 : Int32) (p1 : Int32) (p2 : Int32) (p3 : Int32) (p4 : Int32) : Prop := ((((I 0 7) + (nI 20)) ≤ (nI 400) → wX12_bring (fun I_1 A_2 => wX12_bring (fun I_3 A_4 => wX12_bring (fun I_5 A_6 => wX12_bring (fun I_7 A_8 => wX12_bring (fun I_9 A_10 => K (I_9 0 7) I_9 A_10) I_7 A_8 p4) I_5 A_6 p3) I_3 A_4 p2) I_1 A_2 p1) (wr I 0 5 (nI 0)) A p0) ∧ (¬ ((I 0 7) + (nI 20)) ≤ (nI 400) → wX12_no (fun r_13 I_11 A_12 => K r_13 I_11 A_12) I A (nI 1)))
set_option maxRecDepth 20000 in
theorem ctX12_appendText  {K : Int32 → ab_F → ab_F → Prop} {I A : ab_F} {p0 : Int32} {p1 : Int32} {p2 : Int32} {p3 : Int32} {p4 : Int32} (h : wX12_appendText K I A p0 p1 p2 p3 p4) : ab_Cl mX12_appendText 1 0 0 [.ref 0, .int p0, .int p1, .int p2, .int p3, .int p4] shM I A (ab_Px shM ab_no (ab_ri K)) := by
  refine ab_enter (ls := [some (.ref 0), some (.int p0), some (.int p1), some (.int p2), some (.int p3), some (.int p4)]) (by decide +kernel) (Nat.le_of_ble_eq_true rfl) rfl (fun C => ?_)
  unfold wX12_appendText at h
  refine g_aload_n (n := 1) dX12_appendText_0 rfl rfl rfl ?_
  refine g_getIE (n := 4) (k := 7) (x := (I 0 7)) dX12_appendText_1 sM_0 vc_16 (Nat.le_of_ble_eq_true rfl) rfl w_2001 rfl rfl ?_
  refine g_bipush (n := 6) (v := (nI 20)) dX12_appendText_4 rfl rfl ?_
  refine g_iadd (n := 7) dX12_appendText_6 rfl ?_
  refine g_sipush (n := 10) (v := (nI 400)) dX12_appendText_7 rfl rfl ?_
  refine g_icmp_le (n := 13) 19 dX12_appendText_10 (by decide) rfl (fun hc => ?_) (fun hc => ?_)
  · have h := h.1 hc
    refine g_aload_n (n := 20) dX12_appendText_19 rfl rfl rfl ?_
    refine g_iconst (n := 21) (v := (nI 0)) dX12_appendText_20 rfl rfl ?_
    refine g_putI (n := 24) (k := 5) dX12_appendText_21 sM_0 vc_16 (Nat.le_of_ble_eq_true rfl) rfl w_1999 rfl rfl rfl rfl rfl ?_
    refine g_aload_n (n := 25) dX12_appendText_24 rfl rfl rfl ?_
    refine g_iload_n (n := 26) dX12_appendText_25 rfl rfl rfl ?_
    refine g_callV (n := 29) (as := [.int p0]) (bc' := 0) (bs' := 0) sM_0 vc_16 (ctX12_bring h) okX12_bring rfl w_2072 w_2074 w_26 w_112 dX12_appendText_26 rfl rfl (Nat.le_of_ble_eq_true rfl) (Nat.le_of_ble_eq_true rfl) (Nat.le_of_ble_eq_true rfl) (Nat.le_of_ble_eq_true rfl) rfl (fun E sh1 I1 A1 hp _ => hp.2.elim) (fun ro sh_ I_1 A_2 hp hle => ?_)
    obtain ⟨rfl, rfl, h⟩ := hp
    refine g_aload_n (n := 30) dX12_appendText_29 rfl rfl rfl ?_
    refine g_iload_n (n := 31) dX12_appendText_30 rfl rfl rfl ?_
    refine g_callV (n := 34) (as := [.int p1]) (bc' := 0) (bs' := 0) sM_0 vc_16 (ctX12_bring h) okX12_bring rfl w_2072 w_2074 w_26 w_112 dX12_appendText_31 rfl rfl (Nat.le_of_ble_eq_true rfl) (Nat.le_of_ble_eq_true rfl) (Nat.le_of_ble_eq_true rfl) (Nat.le_of_ble_eq_true rfl) rfl (fun E sh1 I1 A1 hp _ => hp.2.elim) (fun ro sh_ I_3 A_4 hp hle => ?_)
    obtain ⟨rfl, rfl, h⟩ := hp
    refine g_aload_n (n := 35) dX12_appendText_34 rfl rfl rfl ?_
    refine g_iload_n (n := 36) dX12_appendText_35 rfl rfl rfl ?_
    refine g_callV (n := 39) (as := [.int p2]) (bc' := 0) (bs' := 0) sM_0 vc_16 (ctX12_bring h) okX12_bring rfl w_2072 w_2074 w_26 w_112 dX12_appendText_36 rfl rfl (Nat.le_of_ble_eq_true rfl) (Nat.le_of_ble_eq_true rfl) (Nat.le_of_ble_eq_true rfl) (Nat.le_of_ble_eq_true rfl) rfl (fun E sh1 I1 A1 hp _ => hp.2.elim) (fun ro sh_ I_5 A_6 hp hle => ?_)
    obtain ⟨rfl, rfl, h⟩ := hp
    refine g_aload_n (n := 40) dX12_appendText_39 rfl rfl rfl ?_
    refine g_iload (n := 42) dX12_appendText_40 rfl rfl ?_
    refine g_callV (n := 45) (as := [.int p3]) (bc' := 0) (bs' := 0) sM_0 vc_16 (ctX12_bring h) okX12_bring rfl w_2072 w_2074 w_26 w_112 dX12_appendText_42 rfl rfl (Nat.le_of_ble_eq_true rfl) (Nat.le_of_ble_eq_true rfl) (Nat.le_of_ble_eq_true rfl) (Nat.le_of_ble_eq_true rfl) rfl (fun E sh1 I1 A1 hp _ => hp.2.elim) (fun ro sh_ I_7 A_8 hp hle => ?_)
    obtain ⟨rfl, rfl, h⟩ := hp
    refine g_aload_n (n := 46) dX12_appendText_45 rfl rfl rfl ?_
    refine g_iload (n := 48) dX12_appendText_46 rfl rfl ?_
    refine g_callV (n := 51) (as := [.int p4]) (bc' := 0) (bs' := 0) sM_0 vc_16 (ctX12_bring h) okX12_bring rfl w_2072 w_2074 w_26 w_112 dX12_appendText_48 rfl rfl (Nat.le_of_ble_eq_true rfl) (Nat.le_of_ble_eq_true rfl) (Nat.le_of_ble_eq_true rfl) (Nat.le_of_ble_eq_true rfl) rfl (fun E sh1 I1 A1 hp _ => hp.2.elim) (fun ro sh_ I_9 A_10 hp hle => ?_)
    obtain ⟨rfl, rfl, h⟩ := hp
    refine g_aload_n (n := 52) dX12_appendText_51 rfl rfl rfl ?_
    refine g_getIE (n := 55) (k := 7) (x := (I_9 0 7)) dX12_appendText_52 sM_0 vc_16 (Nat.le_of_ble_eq_true rfl) rfl w_2001 rfl rfl ?_
    exact g_iret rfl rfl dX12_appendText_55 ⟨rfl, _, rfl, h⟩
  · have h := h.2 hc
    refine g_aload_n (n := 14) dX12_appendText_13 rfl rfl rfl ?_
    refine g_iconst (n := 15) (v := (nI 1)) dX12_appendText_14 rfl rfl ?_
    refine g_callV (n := 18) (as := [.int (nI 1)]) (bc' := 0) (bs' := 0) sM_0 vc_16 (ctX12_no h) okX12_no rfl w_2060 w_2062 w_25 w_112 dX12_appendText_15 rfl rfl (Nat.le_of_ble_eq_true rfl) (Nat.le_of_ble_eq_true rfl) (Nat.le_of_ble_eq_true rfl) (Nat.le_of_ble_eq_true rfl) rfl (fun E sh1 I1 A1 hp _ => hp.2.elim) (fun ro sh_ I_11 A_12 hp hle => ?_)
    obtain ⟨rfl, r_13, rfl, h⟩ := hp
    exact g_iret rfl rfl dX12_appendText_18 ⟨rfl, _, rfl, h⟩
