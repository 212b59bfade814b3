theorem w_1166 : (.fieldLink "java/lang/Integer" 83 "java/lang/Integer" "DigitOnes" "[B" : Cond) ∈ ab_ws := ab_in 1166 (by decide +kernel) rfl
theorem w_1168 : (.fieldLink "java/lang/Integer" 87 "java/lang/Integer" "DigitTens" "[B" : Cond) ∈ ab_ws := ab_in 1168 (by decide +kernel) rfl
/-! Integer.stringSize and getChars -/
abbrev mJ6_stringSize_0f7a4 : ab_M := (yJ6_stringSize_0f7a4, cJ6_stringSize_0f7a4, 4, (some .int))
theorem okJ6_stringSize_0f7a4 : ab_mOK mJ6_stringSize_0f7a4 1 := ⟨⟨by decide, by decide, by decide +kernel⟩, by decide, (ab_in 1162 (by decide +kernel) rfl), (ab_in 128 (by decide +kernel) rfl)⟩
def wlJ6_stringSize_0f7a4_16 (K : Int32 → ab_F → ab_F → Prop) : Nat → Int32 → Int32 → Int32 → Int32 → ab_F → ab_F → Prop
  | 0, _, _, _, _, _, _ => False
  | n + 1, x0, x1, x2, x3, I, A => (((nI 10) ≤ x3 → K ((nI 10) + x1) I A) ∧ (¬ (nI 10) ≤ x3 → ((x0 ≤ x2 → (∀ y_1 : Int32, y_1 = ((nI 10) * x2) → (wlJ6_stringSize_0f7a4_16 K n) x0 x1 y_1 (x3 + nI 1) I A)) ∧ (¬ x0 ≤ x2 → K (x3 + x1) I A))))
def wjJ6_stringSize_0f7a4_11 (K : Int32 → ab_F → ab_F → Prop) (x0 : Int32) (x1 : Int32) (I A : ab_F) : Prop := (∃ nf : Nat, wlJ6_stringSize_0f7a4_16 K nf x0 x1 (-10 : Int32) (nI 1) I A)
def wJ6_stringSize_0f7a4 (K : Int32 → ab_F → ab_F → Prop) (I A : ab_F) (p0 : Int32) : Prop := ((p0 < 0 → wjJ6_stringSize_0f7a4_11 K p0 (nI 1) I A) ∧ (¬ p0 < 0 → (∀ y_2 : Int32, y_2 = (-p0) → wjJ6_stringSize_0f7a4_11 K y_2 (nI 0) I A)))
set_option maxRecDepth 20000 in
theorem tlJ6_stringSize_0f7a4_16 {C : ab_X} {sh : List ab_S} {K : Int32 → ab_F → ab_F → Prop} : ∀ (n : Nat) (x0 : Int32) (x1 : Int32) (x2 : Int32) (x3 : Int32) (I A : ab_F), wlJ6_stringSize_0f7a4_16 K n x0 x1 x2 x3 I A → ab_G mJ6_stringSize_0f7a4 0 C (ab_Px sh ab_no (ab_ri K)) 16 [some (.int x0), some (.int x1), some (.int x2), some (.int x3)] [] sh I A 0 0 := by
  intro n
  induction n with
  | zero => intro x0 x1 x2 x3 I A h; exact h.elim
  | succ n hL16 =>
    intro x0 x1 x2 x3 I A h
    rw [wlJ6_stringSize_0f7a4_16] at h
    refine g_iload_n (n := 17) dJ6_stringSize_0f7a4_16 rfl rfl rfl ?_
    refine g_bipush (n := 19) (v := (nI 10)) dJ6_stringSize_0f7a4_17 rfl rfl ?_
    refine g_icmp_ge (n := 22) 42 dJ6_stringSize_0f7a4_19 (by decide) rfl (fun hc => ?_) (fun hc => ?_)
    · have h := h.1 hc
      refine g_bipush (n := 44) (v := (nI 10)) dJ6_stringSize_0f7a4_42 rfl rfl ?_
      refine g_iload_n (n := 45) dJ6_stringSize_0f7a4_44 rfl rfl rfl ?_
      refine g_iadd (n := 46) dJ6_stringSize_0f7a4_45 rfl ?_
      exact g_iret rfl rfl dJ6_stringSize_0f7a4_46 ⟨rfl, _, rfl, h⟩
    · have h := h.2 hc
      refine g_iload_n (n := 23) dJ6_stringSize_0f7a4_22 rfl rfl rfl ?_
      refine g_iload_n (n := 24) dJ6_stringSize_0f7a4_23 rfl rfl rfl ?_
      refine g_icmp_le (n := 27) 31 dJ6_stringSize_0f7a4_24 (by decide) rfl (fun hc => ?_) (fun hc => ?_)
      · have h := h.1 hc
        refine g_bipush (n := 33) (v := (nI 10)) dJ6_stringSize_0f7a4_31 rfl rfl ?_
        refine g_iload_n (n := 34) dJ6_stringSize_0f7a4_33 rfl rfl rfl ?_
        refine g_imul (n := 35) dJ6_stringSize_0f7a4_34 rfl ?_
        refine g_topi (fun y_1 ey_1 => ?_)
        have h := h y_1 ey_1
        refine g_istore_n (n := 36) (ls' := [some (.int x0), some (.int x1), some (.int y_1), some (.int x3)]) dJ6_stringSize_0f7a4_35 rfl rfl (Nat.le_of_ble_eq_true rfl) (Nat.le_of_ble_eq_true rfl) rfl rfl ?_
        refine g_iinc (n := 39) (v := (x3 + nI 1)) (ls' := [some (.int x0), some (.int x1), some (.int y_1), some (.int (x3 + nI 1))]) dJ6_stringSize_0f7a4_36 rfl rfl rfl (Nat.le_of_ble_eq_true rfl) rfl rfl ?_
        refine g_goto 16 dJ6_stringSize_0f7a4_39 (by decide) ?_
        exact hL16 _ _ _ _ _ _ h
      · have h := h.2 hc
        refine g_iload_n (n := 28) dJ6_stringSize_0f7a4_27 rfl rfl rfl ?_
        refine g_iload_n (n := 29) dJ6_stringSize_0f7a4_28 rfl rfl rfl ?_
        refine g_iadd (n := 30) dJ6_stringSize_0f7a4_29 rfl ?_
        exact g_iret rfl rfl dJ6_stringSize_0f7a4_30 ⟨rfl, _, rfl, h⟩
set_option maxRecDepth 20000 in
theorem tjJ6_stringSize_0f7a4_11 {C : ab_X} {sh : List ab_S} {K : Int32 → ab_F → ab_F → Prop} (x0 : Int32) (x1 : Int32) (I A : ab_F) (h : wjJ6_stringSize_0f7a4_11 K x0 x1 I A) : ab_G mJ6_stringSize_0f7a4 0 C (ab_Px sh ab_no (ab_ri K)) 11 [some (.int x0), some (.int x1), none, none] [] sh I A 0 0 := by
  unfold wjJ6_stringSize_0f7a4_11 at h
  refine g_bipush (n := 13) (v := (-10 : Int32)) dJ6_stringSize_0f7a4_11 rfl rfl ?_
  refine g_istore_n (n := 14) (ls' := [some (.int x0), some (.int x1), some (.int (-10 : Int32)), none]) dJ6_stringSize_0f7a4_13 rfl rfl (Nat.le_of_ble_eq_true rfl) (Nat.le_of_ble_eq_true rfl) rfl rfl ?_
  refine g_iconst (n := 15) (v := (nI 1)) dJ6_stringSize_0f7a4_14 rfl rfl ?_
  refine g_istore_n (n := 16) (ls' := [some (.int x0), some (.int x1), some (.int (-10 : Int32)), some (.int (nI 1))]) dJ6_stringSize_0f7a4_15 rfl rfl (Nat.le_of_ble_eq_true rfl) (Nat.le_of_ble_eq_true rfl) rfl rfl ?_
  refine g_less (bc' := 0) (bs' := 0) (Nat.le_of_ble_eq_true rfl) (Nat.le_of_ble_eq_true rfl) ?_
  obtain ⟨n_f, h⟩ := h
  exact tlJ6_stringSize_0f7a4_16  n_f _ _ _ _ _ _ h
set_option maxRecDepth 20000 in
theorem ctJ6_stringSize_0f7a4 {sh : List ab_S} {K : Int32 → ab_F → ab_F → Prop} {I A : ab_F} {p0 : Int32} (h : wJ6_stringSize_0f7a4 K I A p0) : ab_Cl mJ6_stringSize_0f7a4 0 0 0 [.int p0] sh I A (ab_Px sh ab_no (ab_ri K)) := by
  refine ab_enter (ls := [some (.int p0), none, none, none]) (by decide +kernel) (Nat.le_of_ble_eq_true rfl) rfl (fun C => ?_)
  unfold wJ6_stringSize_0f7a4 at h
  refine g_iconst (n := 1) (v := (nI 1)) dJ6_stringSize_0f7a4_0 rfl rfl ?_
  refine g_istore_n (n := 2) (ls' := [some (.int p0), some (.int (nI 1)), none, none]) dJ6_stringSize_0f7a4_1 rfl rfl (Nat.le_of_ble_eq_true rfl) (Nat.le_of_ble_eq_true rfl) rfl rfl ?_
  refine g_iload_n (n := 3) dJ6_stringSize_0f7a4_2 rfl rfl rfl ?_
  refine g_if_lt (n := 6) 11 dJ6_stringSize_0f7a4_3 (by decide) rfl (fun hc => ?_) (fun hc => ?_)
  · have h := h.1 hc
    refine g_less (bc' := 0) (bs' := 0) (Nat.le_of_ble_eq_true rfl) (Nat.le_of_ble_eq_true rfl) ?_
    exact tjJ6_stringSize_0f7a4_11  _ _ _ _ h
  · have h := h.2 hc
    refine g_iconst (n := 7) (v := (nI 0)) dJ6_stringSize_0f7a4_6 rfl rfl ?_
    refine g_istore_n (n := 8) (ls' := [some (.int p0), some (.int (nI 0)), none, none]) dJ6_stringSize_0f7a4_7 rfl rfl (Nat.le_of_ble_eq_true rfl) (Nat.le_of_ble_eq_true rfl) rfl rfl ?_
    refine g_iload_n (n := 9) dJ6_stringSize_0f7a4_8 rfl rfl rfl ?_
    refine g_ineg (n := 10) dJ6_stringSize_0f7a4_9 rfl ?_
    refine g_topi (fun y_2 ey_2 => ?_)
    have h := h y_2 ey_2
    refine g_istore_n (n := 11) (ls' := [some (.int y_2), some (.int (nI 0)), none, none]) dJ6_stringSize_0f7a4_10 rfl rfl (Nat.le_of_ble_eq_true rfl) (Nat.le_of_ble_eq_true rfl) rfl rfl ?_
    refine g_less (bc' := 0) (bs' := 0) (Nat.le_of_ble_eq_true rfl) (Nat.le_of_ble_eq_true rfl) ?_
    exact tjJ6_stringSize_0f7a4_11  _ _ _ _ h
abbrev mJ6_getChars_ba4f3 : ab_M := (yJ6_getChars_ba4f3, cJ6_getChars_ba4f3, 7, (some .int))
theorem okJ6_getChars_ba4f3 : ab_mOK mJ6_getChars_ba4f3 3 := ⟨⟨by decide, by decide, by decide +kernel⟩, by decide, (ab_in 1165 (by decide +kernel) rfl), (ab_in 128 (by decide +kernel) rfl)⟩
def wjJ6_getChars_ba4f3_104 (v cap : Nat) (K : Int32 → ab_F → ab_F → Prop) (x5 : Int32) (x6 : Int32) (I A : ab_F) : Prop := ((x6 = 0 → K x5 I A) ∧ (¬ x6 = 0 → (∃ j_3 : Nat, (x5 + (-1)) = nI j_3 ∧ j_3 < cap ∧ K (x5 + (-1)) I (wr A v j_3 (vp_nar .byte (nI 45))))))
def wlJ6_getChars_ba4f3_22 (v cap : Nat) (K : Int32 → ab_F → ab_F → Prop) : Nat → Int32 → Int32 → Int32 → ab_F → ab_F → Prop
  | 0, _, _, _, _, _ => False
  | n + 1, x0, x5, x6, I, A => (((-100 : Int32) < x0 → (∃ j_1 : Nat, (-x0) = nI j_1 ∧ j_1 < 100 ∧ (∃ j_2 : Nat, (x5 + (-1)) = nI j_2 ∧ j_2 < cap ∧ (((-9 : Int32) ≤ x0 → wjJ6_getChars_ba4f3_104 v cap K (x5 + (-1)) x6 I (wr A v j_2 (vp_nar .byte (ab_stv 1 j_1)))) ∧ (¬ (-9 : Int32) ≤ x0 → (∃ j_4 : Nat, (-x0) = nI j_4 ∧ j_4 < 100 ∧ (∃ j_5 : Nat, ((x5 + (-1)) + (-1)) = nI j_5 ∧ j_5 < cap ∧ wjJ6_getChars_ba4f3_104 v cap K ((x5 + (-1)) + (-1)) x6 I (wr (wr A v j_2 (vp_nar .byte (ab_stv 1 j_1))) v j_5 (vp_nar .byte (ab_stv 2 j_4)))))))))) ∧ (¬ (-100 : Int32) < x0 → (∀ y_6 : Int32, y_6 = (x0 / (nI 100)) → (∀ y_7 : Int32, y_7 = ((y_6 * (nI 100)) - x0) → (∃ j_8 : Nat, y_7 = nI j_8 ∧ j_8 < 100 ∧ (∃ j_9 : Nat, (x5 + (-1)) = nI j_9 ∧ j_9 < cap ∧ (∃ j_10 : Nat, y_7 = nI j_10 ∧ j_10 < 100 ∧ (∃ j_11 : Nat, ((x5 + (-1)) + (-1)) = nI j_11 ∧ j_11 < cap ∧ (wlJ6_getChars_ba4f3_22 v cap K n) y_6 ((x5 + (-1)) + (-1)) x6 I (wr (wr A v j_9 (vp_nar .byte (ab_stv 1 j_8))) v j_11 (vp_nar .byte (ab_stv 2 j_10)))))))))))
def wjJ6_getChars_ba4f3_12 (v cap : Nat) (K : Int32 → ab_F → ab_F → Prop) (x0 : Int32) (x5 : Int32) (s0 : Int32) (I A : ab_F) : Prop := ((¬ s0 = 0 → (∃ nf : Nat, wlJ6_getChars_ba4f3_22 v cap K nf x0 x5 s0 I A)) ∧ (s0 = 0 → (∀ y_12 : Int32, y_12 = (-x0) → (∃ nf : Nat, wlJ6_getChars_ba4f3_22 v cap K nf y_12 x5 s0 I A))))
def wJ6_getChars_ba4f3 (v cap : Nat) (K : Int32 → ab_F → ab_F → Prop) (I A : ab_F) (p0 : Int32) (p1 : Int32) : Prop := ((0 ≤ p0 → wjJ6_getChars_ba4f3_12 v cap K p0 p1 (nI 0) I A) ∧ (¬ 0 ≤ p0 → wjJ6_getChars_ba4f3_12 v cap K p0 p1 (nI 1) I A))
set_option maxRecDepth 20000 in
theorem tjJ6_getChars_ba4f3_104 {C : ab_X} {sh : List ab_S} {v cap : Nat} (hv : sh[v]? = some (.inl (.byte, cap))) (hcap : cap < 2 ^ 31) {K : Int32 → ab_F → ab_F → Prop} (x5 : Int32) (x6 : Int32) (I A : ab_F) (h : wjJ6_getChars_ba4f3_104 v cap K x5 x6 I A) : ab_G mJ6_getChars_ba4f3 0 C (ab_Px sh ab_no (ab_ri K)) 104 [none, none, some (.ref v), none, none, some (.int x5), some (.int x6)] [] sh I A 0 0 := by
  unfold wjJ6_getChars_ba4f3_104 at h
  refine g_iload (n := 106) dJ6_getChars_ba4f3_104 rfl rfl ?_
  refine g_if_eq (n := 109) 118 dJ6_getChars_ba4f3_106 (by decide) rfl (fun hc => ?_) (fun hc => ?_)
  · have h := h.1 hc
    refine g_iload (n := 120) dJ6_getChars_ba4f3_118 rfl rfl ?_
    exact g_iret rfl rfl dJ6_getChars_ba4f3_120 ⟨rfl, _, rfl, h⟩
  · have h := h.2 hc
    refine g_aload_n (n := 110) dJ6_getChars_ba4f3_109 rfl rfl rfl ?_
    refine g_iinc (n := 113) (v := (x5 + (-1))) (ls' := [none, none, some (.ref v), none, none, some (.int (x5 + (-1))), some (.int x6)]) dJ6_getChars_ba4f3_110 rfl rfl rfl (Nat.le_of_ble_eq_true rfl) rfl rfl ?_
    refine g_iload (n := 115) dJ6_getChars_ba4f3_113 rfl rfl ?_
    refine g_bipush (n := 117) (v := (nI 45)) dJ6_getChars_ba4f3_115 rfl rfl ?_
    obtain ⟨j_3, hj, hl, h⟩ := h
    refine g_bastJ (n := 118) (j := j_3) dJ6_getChars_ba4f3_117 hv hj hl hcap rfl ?_
    refine g_iload (n := 120) dJ6_getChars_ba4f3_118 rfl rfl ?_
    exact g_iret rfl rfl dJ6_getChars_ba4f3_120 ⟨rfl, _, rfl, h⟩
set_option maxRecDepth 20000 in
theorem tlJ6_getChars_ba4f3_22 {C : ab_X} {sh : List ab_S} {v cap : Nat} (hv : sh[v]? = some (.inl (.byte, cap))) (hcap : cap < 2 ^ 31) {K : Int32 → ab_F → ab_F → Prop} : ∀ (n : Nat) (x0 : Int32) (x5 : Int32) (x6 : Int32) (I A : ab_F), wlJ6_getChars_ba4f3_22 v cap K n x0 x5 x6 I A → ab_G mJ6_getChars_ba4f3 0 C (ab_Px sh ab_no (ab_ri K)) 22 [some (.int x0), none, some (.ref v), none, none, some (.int x5), some (.int x6)] [] sh I A 0 0 := by
  intro n
  induction n with
  | zero => intro x0 x5 x6 I A h; exact h.elim
  | succ n hL22 =>
    intro x0 x5 x6 I A h
    rw [wlJ6_getChars_ba4f3_22] at h
    refine g_iload_n (n := 23) dJ6_getChars_ba4f3_22 rfl rfl rfl ?_
    refine g_bipush (n := 25) (v := (-100 : Int32)) dJ6_getChars_ba4f3_23 rfl rfl ?_
    refine g_icmp_gt (n := 28) 72 dJ6_getChars_ba4f3_25 (by decide) rfl (fun hc => ?_) (fun hc => ?_)
    · have h := h.1 hc
      refine g_aload_n (n := 73) dJ6_getChars_ba4f3_72 rfl rfl rfl ?_
      refine g_iinc (n := 76) (v := (x5 + (-1))) (ls' := [some (.int x0), none, some (.ref v), none, none, some (.int (x5 + (-1))), some (.int x6)]) dJ6_getChars_ba4f3_73 rfl rfl rfl (Nat.le_of_ble_eq_true rfl) rfl rfl ?_
      refine g_iload (n := 78) dJ6_getChars_ba4f3_76 rfl rfl ?_
      refine g_ksta (n := 81) (i := 1) rfl dJ6_getChars_ba4f3_78 w_1166 rfl ?_
      refine g_iload_n (n := 82) dJ6_getChars_ba4f3_81 rfl rfl rfl ?_
      refine g_ineg (n := 83) dJ6_getChars_ba4f3_82 rfl ?_
      obtain ⟨j_1, hj, hl, h⟩ := h
      refine g_kstab (n := 84) (j := j_1) (ab_stq (i := 1) (by decide)) rfl dJ6_getChars_ba4f3_83 hj hl (by decide) rfl ?_
      obtain ⟨j_2, hj, hl, h⟩ := h
      refine g_bastJ (n := 85) (j := j_2) dJ6_getChars_ba4f3_84 hv hj hl hcap rfl ?_
      refine g_iload_n (n := 86) dJ6_getChars_ba4f3_85 rfl rfl rfl ?_
      refine g_bipush (n := 88) (v := (-9 : Int32)) dJ6_getChars_ba4f3_86 rfl rfl ?_
      refine g_icmp_ge (n := 91) 104 dJ6_getChars_ba4f3_88 (by decide) rfl (fun hc => ?_) (fun hc => ?_)
      · have h := h.1 hc
        refine g_forget (ls' := [none, none, some (.ref v), none, none, some (.int (x5 + (-1))), some (.int x6)]) (ab_fg rfl) ?_
        refine g_less (bc' := 0) (bs' := 0) (Nat.le_of_ble_eq_true rfl) (Nat.le_of_ble_eq_true rfl) ?_
        exact tjJ6_getChars_ba4f3_104 hv hcap  _ _ _ _ h
      · have h := h.2 hc
        refine g_aload_n (n := 92) dJ6_getChars_ba4f3_91 rfl rfl rfl ?_
        refine g_iinc (n := 95) (v := ((x5 + (-1)) + (-1))) (ls' := [some (.int x0), none, some (.ref v), none, none, some (.int ((x5 + (-1)) + (-1))), some (.int x6)]) dJ6_getChars_ba4f3_92 rfl rfl rfl (Nat.le_of_ble_eq_true rfl) rfl rfl ?_
        refine g_iload (n := 97) dJ6_getChars_ba4f3_95 rfl rfl ?_
        refine g_ksta (n := 100) (i := 2) rfl dJ6_getChars_ba4f3_97 w_1168 rfl ?_
        refine g_iload_n (n := 101) dJ6_getChars_ba4f3_100 rfl rfl rfl ?_
        refine g_ineg (n := 102) dJ6_getChars_ba4f3_101 rfl ?_
        obtain ⟨j_4, hj, hl, h⟩ := h
        refine g_kstab (n := 103) (j := j_4) (ab_stq (i := 2) (by decide)) rfl dJ6_getChars_ba4f3_102 hj hl (by decide) rfl ?_
        obtain ⟨j_5, hj, hl, h⟩ := h
        refine g_bastJ (n := 104) (j := j_5) dJ6_getChars_ba4f3_103 hv hj hl hcap rfl ?_
        refine g_forget (ls' := [none, none, some (.ref v), none, none, some (.int ((x5 + (-1)) + (-1))), some (.int x6)]) (ab_fg rfl) ?_
        refine g_less (bc' := 0) (bs' := 0) (Nat.le_of_ble_eq_true rfl) (Nat.le_of_ble_eq_true rfl) ?_
        exact tjJ6_getChars_ba4f3_104 hv hcap  _ _ _ _ h
    · have h := h.2 hc
      refine g_iload_n (n := 29) dJ6_getChars_ba4f3_28 rfl rfl rfl ?_
      refine g_bipush (n := 31) (v := (nI 100)) dJ6_getChars_ba4f3_29 rfl rfl ?_
      refine g_idiv (n := 32) dJ6_getChars_ba4f3_31 (by decide) rfl ?_
      refine g_topi (fun y_6 ey_6 => ?_)
      have h := h y_6 ey_6
      refine g_istore_n (n := 33) (ls' := [some (.int x0), none, some (.ref v), some (.int y_6), none, some (.int x5), some (.int x6)]) dJ6_getChars_ba4f3_32 rfl rfl (Nat.le_of_ble_eq_true rfl) (Nat.le_of_ble_eq_true rfl) rfl rfl ?_
      refine g_iload_n (n := 34) dJ6_getChars_ba4f3_33 rfl rfl rfl ?_
      refine g_bipush (n := 36) (v := (nI 100)) dJ6_getChars_ba4f3_34 rfl rfl ?_
      refine g_imul (n := 37) dJ6_getChars_ba4f3_36 rfl ?_
      refine g_iload_n (n := 38) dJ6_getChars_ba4f3_37 rfl rfl rfl ?_
      refine g_isub (n := 39) dJ6_getChars_ba4f3_38 rfl ?_
      refine g_topi (fun y_7 ey_7 => ?_)
      have h := h y_7 ey_7
      refine g_istore (n := 41) (ls' := [some (.int x0), none, some (.ref v), some (.int y_6), some (.int y_7), some (.int x5), some (.int x6)]) dJ6_getChars_ba4f3_39 rfl (Nat.le_of_ble_eq_true rfl) (Nat.le_of_ble_eq_true rfl) rfl rfl ?_
      refine g_iload_n (n := 42) dJ6_getChars_ba4f3_41 rfl rfl rfl ?_
      refine g_istore_n (n := 43) (ls' := [some (.int y_6), none, some (.ref v), some (.int y_6), some (.int y_7), some (.int x5), some (.int x6)]) dJ6_getChars_ba4f3_42 rfl rfl (Nat.le_of_ble_eq_true rfl) (Nat.le_of_ble_eq_true rfl) rfl rfl ?_
      refine g_aload_n (n := 44) dJ6_getChars_ba4f3_43 rfl rfl rfl ?_
      refine g_iinc (n := 47) (v := (x5 + (-1))) (ls' := [some (.int y_6), none, some (.ref v), some (.int y_6), some (.int y_7), some (.int (x5 + (-1))), some (.int x6)]) dJ6_getChars_ba4f3_44 rfl rfl rfl (Nat.le_of_ble_eq_true rfl) rfl rfl ?_
      refine g_iload (n := 49) dJ6_getChars_ba4f3_47 rfl rfl ?_
      refine g_ksta (n := 52) (i := 1) rfl dJ6_getChars_ba4f3_49 w_1166 rfl ?_
      refine g_iload (n := 54) dJ6_getChars_ba4f3_52 rfl rfl ?_
      obtain ⟨j_8, hj, hl, h⟩ := h
      refine g_kstab (n := 55) (j := j_8) (ab_stq (i := 1) (by decide)) rfl dJ6_getChars_ba4f3_54 hj hl (by decide) rfl ?_
      obtain ⟨j_9, hj, hl, h⟩ := h
      refine g_bastJ (n := 56) (j := j_9) dJ6_getChars_ba4f3_55 hv hj hl hcap rfl ?_
      refine g_aload_n (n := 57) dJ6_getChars_ba4f3_56 rfl rfl rfl ?_
      refine g_iinc (n := 60) (v := ((x5 + (-1)) + (-1))) (ls' := [some (.int y_6), none, some (.ref v), some (.int y_6), some (.int y_7), some (.int ((x5 + (-1)) + (-1))), some (.int x6)]) dJ6_getChars_ba4f3_57 rfl rfl rfl (Nat.le_of_ble_eq_true rfl) rfl rfl ?_
      refine g_iload (n := 62) dJ6_getChars_ba4f3_60 rfl rfl ?_
      refine g_ksta (n := 65) (i := 2) rfl dJ6_getChars_ba4f3_62 w_1168 rfl ?_
      refine g_iload (n := 67) dJ6_getChars_ba4f3_65 rfl rfl ?_
      obtain ⟨j_10, hj, hl, h⟩ := h
      refine g_kstab (n := 68) (j := j_10) (ab_stq (i := 2) (by decide)) rfl dJ6_getChars_ba4f3_67 hj hl (by decide) rfl ?_
      obtain ⟨j_11, hj, hl, h⟩ := h
      refine g_bastJ (n := 69) (j := j_11) dJ6_getChars_ba4f3_68 hv hj hl hcap rfl ?_
      refine g_goto 22 dJ6_getChars_ba4f3_69 (by decide) ?_
      refine g_forget (ls' := [some (.int y_6), none, some (.ref v), none, none, some (.int ((x5 + (-1)) + (-1))), some (.int x6)]) (ab_fg rfl) ?_
      exact hL22 _ _ _ _ _ h
set_option maxRecDepth 20000 in
theorem tjJ6_getChars_ba4f3_12 {C : ab_X} {sh : List ab_S} {v cap : Nat} (hv : sh[v]? = some (.inl (.byte, cap))) (hcap : cap < 2 ^ 31) {K : Int32 → ab_F → ab_F → Prop} (x0 : Int32) (x5 : Int32) (s0 : Int32) (I A : ab_F) (h : wjJ6_getChars_ba4f3_12 v cap K x0 x5 s0 I A) : ab_G mJ6_getChars_ba4f3 0 C (ab_Px sh ab_no (ab_ri K)) 12 [some (.int x0), none, some (.ref v), none, none, some (.int x5), none] [.int s0] sh I A 0 0 := by
  unfold wjJ6_getChars_ba4f3_12 at h
  refine g_istore (n := 14) (ls' := [some (.int x0), none, some (.ref v), none, none, some (.int x5), some (.int s0)]) dJ6_getChars_ba4f3_12 rfl (Nat.le_of_ble_eq_true rfl) (Nat.le_of_ble_eq_true rfl) rfl rfl ?_
  refine g_iload (n := 16) dJ6_getChars_ba4f3_14 rfl rfl ?_
  refine g_if_ne (n := 19) 22 dJ6_getChars_ba4f3_16 (by decide) rfl (fun hc => ?_) (fun hc => ?_)
  · have h := h.1 hc
    refine g_less (bc' := 0) (bs' := 0) (Nat.le_of_ble_eq_true rfl) (Nat.le_of_ble_eq_true rfl) ?_
    obtain ⟨n_f, h⟩ := h
    exact tlJ6_getChars_ba4f3_22 hv hcap  n_f _ _ _ _ _ h
  · have h := h.2 hc
    refine g_iload_n (n := 20) dJ6_getChars_ba4f3_19 rfl rfl rfl ?_
    refine g_ineg (n := 21) dJ6_getChars_ba4f3_20 rfl ?_
    refine g_topi (fun y_12 ey_12 => ?_)
    have h := h y_12 ey_12
    refine g_istore_n (n := 22) (ls' := [some (.int y_12), none, some (.ref v), none, none, some (.int x5), some (.int s0)]) dJ6_getChars_ba4f3_21 rfl rfl (Nat.le_of_ble_eq_true rfl) (Nat.le_of_ble_eq_true rfl) rfl rfl ?_
    refine g_less (bc' := 0) (bs' := 0) (Nat.le_of_ble_eq_true rfl) (Nat.le_of_ble_eq_true rfl) ?_
    obtain ⟨n_f, h⟩ := h
    exact tlJ6_getChars_ba4f3_22 hv hcap  n_f _ _ _ _ _ h
set_option maxRecDepth 20000 in
theorem ctJ6_getChars_ba4f3 {sh : List ab_S} {v cap : Nat} (hv : sh[v]? = some (.inl (.byte, cap))) (hcap : cap < 2 ^ 31) {K : Int32 → ab_F → ab_F → Prop} {I A : ab_F} {p0 : Int32} {p1 : Int32} (h : wJ6_getChars_ba4f3 v cap K I A p0 p1) : ab_Cl mJ6_getChars_ba4f3 0 0 0 [.int p0, .int p1, .ref v] sh I A (ab_Px sh ab_no (ab_ri K)) := by
  refine ab_enter (ls := [some (.int p0), some (.int p1), some (.ref v), none, none, none, none]) (by decide +kernel) (Nat.le_of_ble_eq_true rfl) rfl (fun C => ?_)
  unfold wJ6_getChars_ba4f3 at h
  refine g_iload_n (n := 1) dJ6_getChars_ba4f3_0 rfl rfl rfl ?_
  refine g_istore (n := 3) (ls' := [some (.int p0), some (.int p1), some (.ref v), none, none, some (.int p1), none]) dJ6_getChars_ba4f3_1 rfl (Nat.le_of_ble_eq_true rfl) (Nat.le_of_ble_eq_true rfl) rfl rfl ?_
  refine g_iload_n (n := 4) dJ6_getChars_ba4f3_3 rfl rfl rfl ?_
  refine g_if_ge (n := 7) 11 dJ6_getChars_ba4f3_4 (by decide) rfl (fun hc => ?_) (fun hc => ?_)
  · have h := h.1 hc
    refine g_iconst (n := 12) (v := (nI 0)) dJ6_getChars_ba4f3_11 rfl rfl ?_
    refine g_forget (ls' := [some (.int p0), none, some (.ref v), none, none, some (.int p1), none]) (ab_fg rfl) ?_
    refine g_less (bc' := 0) (bs' := 0) (Nat.le_of_ble_eq_true rfl) (Nat.le_of_ble_eq_true rfl) ?_
    exact tjJ6_getChars_ba4f3_12 hv hcap  _ _ _ _ _ h
  · have h := h.2 hc
    refine g_iconst (n := 8) (v := (nI 1)) dJ6_getChars_ba4f3_7 rfl rfl ?_
    refine g_goto 12 dJ6_getChars_ba4f3_8 (by decide) ?_
    refine g_forget (ls' := [some (.int p0), none, some (.ref v), none, none, some (.int p1), none]) (ab_fg rfl) ?_
    refine g_less (bc' := 0) (bs' := 0) (Nat.le_of_ble_eq_true rfl) (Nat.le_of_ble_eq_true rfl) ?_
    exact tjJ6_getChars_ba4f3_12 hv hcap  _ _ _ _ _ h
