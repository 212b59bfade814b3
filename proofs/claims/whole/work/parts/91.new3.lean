/-! install, while the object is being made -/
def shP : List ab_S := [.inr (.inr (15, [some (.ref 8), some (.null), some (.ref 1), some (.ref 3), some (.ref 6), some (.null), some (.null)])), .inr (.inr (14, [some (.ref 2), none, none, none, none])), .inl (.int, 400), .inr (.inr (13, [some (.ref 1), none, none, none, none, none, none, some (.ref 4), some (.ref 5)])), .inl (.int, 6), .inl (.int, 6), .inr (.inr (10, [some (.ref 1), some (.ref 7)])), .inl (.int, 3), .inr (.inr (12, [some (.ref 9), some (.ref 16), some (.ref 20), some (.ref 24), some (.ref 29), none, some (.ref 31)])), .inr (.inr (8, [none, some (.ref 10), some (.ref 11), some (.ref 12), some (.ref 13), some (.ref 14), some (.ref 15)])), .inl (.int, 6), .inl (.int, 6), .inl (.int, 6), .inl (.int, 48), .inl (.int, 48), .inl (.int, 48), .inr (.inr (6, [none, none, some (.ref 17), some (.ref 18), some (.ref 19)])), .inl (.int, 16), .inl (.int, 16), .inl (.int, 16), .inr (.inr (11, [none, none, some (.ref 21), some (.ref 22), some (.ref 23)])), .inl (.int, 48), .inl (.int, 48), .inl (.int, 48), .inr (.inr (5, [none, none, none, none, some (.ref 25), some (.ref 26), some (.ref 27), some (.ref 28)])), .inl (.int, 48), .inl (.int, 6), .inl (.int, 48), .inl (.int, 32), .inr (.inr (4, [none, none, none, some (.ref 30)])), .inl (.int, 64), .inl (.int, 48)]
theorem sP_0 : shP[0]? = some (.inr (.inr (15, [some (.ref 8), some (.null), some (.ref 1), some (.ref 3), some (.ref 6), some (.null), some (.null)]))) := rfl
theorem sP_1 : shP[1]? = some (.inr (.inr (14, [some (.ref 2), none, none, none, none]))) := rfl
theorem sP_2 : shP[2]? = some (.inl (.int, 400)) := rfl
theorem sP_3 : shP[3]? = some (.inr (.inr (13, [some (.ref 1), none, none, none, none, none, none, some (.ref 4), some (.ref 5)]))) := rfl
theorem sP_4 : shP[4]? = some (.inl (.int, 6)) := rfl
theorem sP_5 : shP[5]? = some (.inl (.int, 6)) := rfl
theorem sP_6 : shP[6]? = some (.inr (.inr (10, [some (.ref 1), some (.ref 7)]))) := rfl
theorem sP_7 : shP[7]? = some (.inl (.int, 3)) := rfl
theorem sP_8 : shP[8]? = some (.inr (.inr (12, [some (.ref 9), some (.ref 16), some (.ref 20), some (.ref 24), some (.ref 29), none, some (.ref 31)]))) := rfl
theorem sP_9 : shP[9]? = some (.inr (.inr (8, [none, some (.ref 10), some (.ref 11), some (.ref 12), some (.ref 13), some (.ref 14), some (.ref 15)]))) := rfl
theorem sP_10 : shP[10]? = some (.inl (.int, 6)) := rfl
theorem sP_11 : shP[11]? = some (.inl (.int, 6)) := rfl
theorem sP_12 : shP[12]? = some (.inl (.int, 6)) := rfl
theorem sP_13 : shP[13]? = some (.inl (.int, 48)) := rfl
theorem sP_14 : shP[14]? = some (.inl (.int, 48)) := rfl
theorem sP_15 : shP[15]? = some (.inl (.int, 48)) := rfl
theorem sP_16 : shP[16]? = some (.inr (.inr (6, [none, none, some (.ref 17), some (.ref 18), some (.ref 19)]))) := rfl
theorem sP_17 : shP[17]? = some (.inl (.int, 16)) := rfl
theorem sP_18 : shP[18]? = some (.inl (.int, 16)) := rfl
theorem sP_19 : shP[19]? = some (.inl (.int, 16)) := rfl
theorem sP_20 : shP[20]? = some (.inr (.inr (11, [none, none, some (.ref 21), some (.ref 22), some (.ref 23)]))) := rfl
theorem sP_21 : shP[21]? = some (.inl (.int, 48)) := rfl
theorem sP_22 : shP[22]? = some (.inl (.int, 48)) := rfl
theorem sP_23 : shP[23]? = some (.inl (.int, 48)) := rfl
theorem sP_24 : shP[24]? = some (.inr (.inr (5, [none, none, none, none, some (.ref 25), some (.ref 26), some (.ref 27), some (.ref 28)]))) := rfl
theorem sP_25 : shP[25]? = some (.inl (.int, 48)) := rfl
theorem sP_26 : shP[26]? = some (.inl (.int, 6)) := rfl
theorem sP_27 : shP[27]? = some (.inl (.int, 48)) := rfl
theorem sP_28 : shP[28]? = some (.inl (.int, 32)) := rfl
theorem sP_29 : shP[29]? = some (.inr (.inr (4, [none, none, none, some (.ref 30)]))) := rfl
theorem sP_30 : shP[30]? = some (.inl (.int, 64)) := rfl
theorem sP_31 : shP[31]? = some (.inl (.int, 48)) := rfl
set_option maxRecDepth 20000 in
theorem tplX4_install_85 {C : ab_X}  {K : ab_F → ab_F → Prop} : ∀ (n : Nat) (x2 : Int32) (I A : ab_F), wlX4_install_85 K n x2 I A → ab_G mX4_install 0 C (ab_Px shP ab_no (ab_rv K)) 85 [some (.ref 9), none, some (.int x2), none] [] shP I A 0 0 := by
  intro n
  induction n with
  | zero => intro x2 I A h; exact h.elim
  | succ n hL85 =>
    intro x2 I A h
    rw [wlX4_install_85] at h
    refine g_iload_n (n := 86) dX4_install_85 rfl rfl rfl ?_
    refine g_bipush (n := 88) (v := (nI 48)) dX4_install_86 rfl rfl ?_
    refine g_icmp_ge (n := 91) 118 dX4_install_88 (by decide) rfl (fun hc => ?_) (fun hc => ?_)
    · have h := h.1 hc
      exact g_vret rfl dX4_install_118 ⟨rfl, rfl, h⟩
    · have h := h.2 hc
      refine g_aload_n (n := 92) dX4_install_91 rfl rfl rfl ?_
      refine g_getR (n := 95) (k := 4) dX4_install_92 sP_9 vc_8 (Nat.le_of_ble_eq_true rfl) rfl w_247 rfl ?_
      refine g_iload_n (n := 96) dX4_install_95 rfl rfl rfl ?_
      refine g_iconst (n := 97) (v := (nI 0)) dX4_install_96 rfl rfl ?_
      obtain ⟨j_1, hj, hl, h⟩ := h
      refine g_iastJ (n := 98) (j := j_1) dX4_install_97 sP_13 hj hl (by decide) rfl ?_
      refine g_aload_n (n := 99) dX4_install_98 rfl rfl rfl ?_
      refine g_getR (n := 102) (k := 5) dX4_install_99 sP_9 vc_8 (Nat.le_of_ble_eq_true rfl) rfl w_250 rfl ?_
      refine g_iload_n (n := 103) dX4_install_102 rfl rfl rfl ?_
      refine g_iconst (n := 104) (v := (-1 : Int32)) dX4_install_103 rfl rfl ?_
      obtain ⟨j_2, hj, hl, h⟩ := h
      refine g_iastJ (n := 105) (j := j_2) dX4_install_104 sP_14 hj hl (by decide) rfl ?_
      refine g_aload_n (n := 106) dX4_install_105 rfl rfl rfl ?_
      refine g_getR (n := 109) (k := 6) dX4_install_106 sP_9 vc_8 (Nat.le_of_ble_eq_true rfl) rfl w_253 rfl ?_
      refine g_iload_n (n := 110) dX4_install_109 rfl rfl rfl ?_
      refine g_iconst (n := 111) (v := (-1 : Int32)) dX4_install_110 rfl rfl ?_
      obtain ⟨j_3, hj, hl, h⟩ := h
      refine g_iastJ (n := 112) (j := j_3) dX4_install_111 sP_15 hj hl (by decide) rfl ?_
      refine g_iinc (n := 115) (v := (x2 + nI 1)) (ls' := [some (.ref 9), none, some (.int (x2 + nI 1)), none]) dX4_install_112 rfl rfl rfl (Nat.le_of_ble_eq_true rfl) rfl rfl ?_
      refine g_goto 85 dX4_install_115 (by decide) ?_
      exact hL85 _ _ _ h
set_option maxRecDepth 20000 in
theorem tpjX4_install_69 {C : ab_X}  {K : ab_F → ab_F → Prop} {L10 : Int32 → ab_F → ab_F → Prop} (hL10 : ∀ (x2 : Int32) (I A : ab_F), L10 x2 I A → ab_G mX4_install 0 C (ab_Px shP ab_no (ab_rv K)) 10 [some (.ref 9), some (.ref 3), some (.int x2), none] [] shP I A 0 0) (x2 : Int32) (s0 : Int32) (s1 : Int32) (I A : ab_F) (h : wjX4_install_69 K L10 x2 s0 s1 I A) : ab_G mX4_install 0 C (ab_Px shP ab_no (ab_rv K)) 69 [some (.ref 9), some (.ref 3), some (.int x2), none] [.int s0, .int s1, .ref 11] shP I A 0 0 := by
  unfold wjX4_install_69 at h
  obtain ⟨j_5, hj, hl, h⟩ := h
  refine g_iastJ (n := 70) (j := j_5) dX4_install_69 sP_11 hj hl (by decide) rfl ?_
  refine g_aload_n (n := 71) dX4_install_70 rfl rfl rfl ?_
  refine g_getR (n := 74) (k := 3) dX4_install_71 sP_9 vc_8 (Nat.le_of_ble_eq_true rfl) rfl w_245 rfl ?_
  refine g_iload_n (n := 75) dX4_install_74 rfl rfl rfl ?_
  refine g_iconst (n := 76) (v := (nI 0)) dX4_install_75 rfl rfl ?_
  obtain ⟨j_6, hj, hl, h⟩ := h
  refine g_iastJ (n := 77) (j := j_6) dX4_install_76 sP_12 hj hl (by decide) rfl ?_
  refine g_iinc (n := 80) (v := (x2 + nI 1)) (ls' := [some (.ref 9), some (.ref 3), some (.int (x2 + nI 1)), none]) dX4_install_77 rfl rfl rfl (Nat.le_of_ble_eq_true rfl) rfl rfl ?_
  refine g_goto 10 dX4_install_80 (by decide) ?_
  exact hL10 _ _ _ h
set_option maxRecDepth 20000 in
theorem tpjX4_install_49 {C : ab_X}  {K : ab_F → ab_F → Prop} {L10 : Int32 → ab_F → ab_F → Prop} (hL10 : ∀ (x2 : Int32) (I A : ab_F), L10 x2 I A → ab_G mX4_install 0 C (ab_Px shP ab_no (ab_rv K)) 10 [some (.ref 9), some (.ref 3), some (.int x2), none] [] shP I A 0 0) (x2 : Int32) (x3 : Int32) (s0 : Int32) (s1 : Int32) (I A : ab_F) (h : wjX4_install_49 K L10 x2 x3 s0 s1 I A) : ab_G mX4_install 0 C (ab_Px shP ab_no (ab_rv K)) 49 [some (.ref 9), some (.ref 3), some (.int x2), some (.int x3)] [.int s0, .int s1, .ref 10] shP I A 0 0 := by
  unfold wjX4_install_49 at h
  obtain ⟨j_4, hj, hl, h⟩ := h
  refine g_iastJ (n := 50) (j := j_4) dX4_install_49 sP_10 hj hl (by decide) rfl ?_
  refine g_aload_n (n := 51) dX4_install_50 rfl rfl rfl ?_
  refine g_getR (n := 54) (k := 2) dX4_install_51 sP_9 vc_8 (Nat.le_of_ble_eq_true rfl) rfl w_243 rfl ?_
  refine g_iload_n (n := 55) dX4_install_54 rfl rfl rfl ?_
  refine g_iload_n (n := 56) dX4_install_55 rfl rfl rfl ?_
  refine g_if_eq (n := 59) 68 dX4_install_56 (by decide) rfl (fun hc => ?_) (fun hc => ?_)
  · have h := h.1 hc
    refine g_iconst (n := 69) (v := (nI 0)) dX4_install_68 rfl rfl ?_
    refine g_forget (ls' := [some (.ref 9), some (.ref 3), some (.int x2), none]) (ab_fg rfl) ?_
    refine g_less (bc' := 0) (bs' := 0) (Nat.le_of_ble_eq_true rfl) (Nat.le_of_ble_eq_true rfl) ?_
    exact tpjX4_install_69 hL10 _ _ _ _ _ h
  · have h := h.2 hc
    refine g_aload_n (n := 60) dX4_install_59 rfl rfl rfl ?_
    refine g_getR (n := 63) (k := 7) dX4_install_60 sP_3 vc_13 (Nat.le_of_ble_eq_true rfl) rfl w_190 rfl ?_
    refine g_iload_n (n := 64) dX4_install_63 rfl rfl rfl ?_
    obtain ⟨j_7, hj, hl, h⟩ := h
    refine g_ialdJ (n := 65) (j := j_7) (x := (A 4 j_7)) dX4_install_64 sP_4 hj hl (by decide) rfl rfl ?_
    refine g_goto 69 dX4_install_65 (by decide) ?_
    refine g_forget (ls' := [some (.ref 9), some (.ref 3), some (.int x2), none]) (ab_fg rfl) ?_
    refine g_less (bc' := 0) (bs' := 0) (Nat.le_of_ble_eq_true rfl) (Nat.le_of_ble_eq_true rfl) ?_
    exact tpjX4_install_69 hL10 _ _ _ _ _ h
set_option maxRecDepth 20000 in
theorem tpjX4_install_29 {C : ab_X}  {K : ab_F → ab_F → Prop} {L10 : Int32 → ab_F → ab_F → Prop} (hL10 : ∀ (x2 : Int32) (I A : ab_F), L10 x2 I A → ab_G mX4_install 0 C (ab_Px shP ab_no (ab_rv K)) 10 [some (.ref 9), some (.ref 3), some (.int x2), none] [] shP I A 0 0) (x2 : Int32) (s0 : Int32) (I A : ab_F) (h : wjX4_install_29 K L10 x2 s0 I A) : ab_G mX4_install 0 C (ab_Px shP ab_no (ab_rv K)) 29 [some (.ref 9), some (.ref 3), some (.int x2), none] [.int s0] shP I A 0 0 := by
  unfold wjX4_install_29 at h
  refine g_istore_n (n := 30) (ls' := [some (.ref 9), some (.ref 3), some (.int x2), some (.int s0)]) dX4_install_29 rfl rfl (Nat.le_of_ble_eq_true rfl) (Nat.le_of_ble_eq_true rfl) rfl rfl ?_
  refine g_aload_n (n := 31) dX4_install_30 rfl rfl rfl ?_
  refine g_getR (n := 34) (k := 1) dX4_install_31 sP_9 vc_8 (Nat.le_of_ble_eq_true rfl) rfl w_240 rfl ?_
  refine g_iload_n (n := 35) dX4_install_34 rfl rfl rfl ?_
  refine g_iload_n (n := 36) dX4_install_35 rfl rfl rfl ?_
  refine g_if_eq (n := 39) 48 dX4_install_36 (by decide) rfl (fun hc => ?_) (fun hc => ?_)
  · have h := h.1 hc
    refine g_iconst (n := 49) (v := (nI 0)) dX4_install_48 rfl rfl ?_
    refine g_less (bc' := 0) (bs' := 0) (Nat.le_of_ble_eq_true rfl) (Nat.le_of_ble_eq_true rfl) ?_
    exact tpjX4_install_49 hL10 _ _ _ _ _ _ h
  · have h := h.2 hc
    refine g_aload_n (n := 40) dX4_install_39 rfl rfl rfl ?_
    refine g_getR (n := 43) (k := 8) dX4_install_40 sP_3 vc_13 (Nat.le_of_ble_eq_true rfl) rfl w_192 rfl ?_
    refine g_iload_n (n := 44) dX4_install_43 rfl rfl rfl ?_
    obtain ⟨j_8, hj, hl, h⟩ := h
    refine g_ialdJ (n := 45) (j := j_8) (x := (A 5 j_8)) dX4_install_44 sP_5 hj hl (by decide) rfl rfl ?_
    refine g_goto 49 dX4_install_45 (by decide) ?_
    refine g_less (bc' := 0) (bs' := 0) (Nat.le_of_ble_eq_true rfl) (Nat.le_of_ble_eq_true rfl) ?_
    exact tpjX4_install_49 hL10 _ _ _ _ _ _ h
set_option maxRecDepth 20000 in
theorem tplX4_install_10 {C : ab_X}  {K : ab_F → ab_F → Prop} : ∀ (n : Nat) (x2 : Int32) (I A : ab_F), wlX4_install_10 K n x2 I A → ab_G mX4_install 0 C (ab_Px shP ab_no (ab_rv K)) 10 [some (.ref 9), some (.ref 3), some (.int x2), none] [] shP I A 0 0 := by
  intro n
  induction n with
  | zero => intro x2 I A h; exact h.elim
  | succ n hL10 =>
    intro x2 I A h
    rw [wlX4_install_10] at h
    refine g_iload_n (n := 11) dX4_install_10 rfl rfl rfl ?_
    refine g_bipush (n := 13) (v := (nI 6)) dX4_install_11 rfl rfl ?_
    refine g_icmp_ge (n := 16) 83 dX4_install_13 (by decide) rfl (fun hc => ?_) (fun hc => ?_)
    · have h := h.1 hc
      refine g_iconst (n := 84) (v := (nI 0)) dX4_install_83 rfl rfl ?_
      refine g_istore_n (n := 85) (ls' := [some (.ref 9), some (.ref 3), some (.int (nI 0)), none]) dX4_install_84 rfl rfl (Nat.le_of_ble_eq_true rfl) (Nat.le_of_ble_eq_true rfl) rfl rfl ?_
      refine g_forget (ls' := [some (.ref 9), none, some (.int (nI 0)), none]) (ab_fg rfl) ?_
      refine g_less (bc' := 0) (bs' := 0) (Nat.le_of_ble_eq_true rfl) (Nat.le_of_ble_eq_true rfl) ?_
      obtain ⟨n_f, h⟩ := h
      exact tplX4_install_85  n_f _ _ _ h
    · have h := h.2 hc
      refine g_iload_n (n := 17) dX4_install_16 rfl rfl rfl ?_
      refine g_aload_n (n := 18) dX4_install_17 rfl rfl rfl ?_
      refine g_getIE (n := 21) (k := 0) (x := (I 9 0)) dX4_install_18 sP_9 vc_8 (Nat.le_of_ble_eq_true rfl) rfl w_237 rfl rfl ?_
      refine g_icmp_ge (n := 24) 28 dX4_install_21 (by decide) rfl (fun hc => ?_) (fun hc => ?_)
      · have h := h.1 hc
        refine g_iconst (n := 29) (v := (nI 0)) dX4_install_28 rfl rfl ?_
        refine g_less (bc' := 0) (bs' := 0) (Nat.le_of_ble_eq_true rfl) (Nat.le_of_ble_eq_true rfl) ?_
        exact tpjX4_install_29 hL10 _ _ _ _ h
      · have h := h.2 hc
        refine g_iconst (n := 25) (v := (nI 1)) dX4_install_24 rfl rfl ?_
        refine g_goto 29 dX4_install_25 (by decide) ?_
        refine g_less (bc' := 0) (bs' := 0) (Nat.le_of_ble_eq_true rfl) (Nat.le_of_ble_eq_true rfl) ?_
        exact tpjX4_install_29 hL10 _ _ _ _ h
set_option maxRecDepth 20000 in
theorem cpX4_install  {K : ab_F → ab_F → Prop} {I A : ab_F}  (h : wX4_install K I A ) : ab_Cl mX4_install 0 0 0 [.ref 9, .ref 3] shP I A (ab_Px shP ab_no (ab_rv K)) := by
  refine ab_enter (ls := [some (.ref 9), some (.ref 3), none, none]) (by decide +kernel) (Nat.le_of_ble_eq_true rfl) rfl (fun C => ?_)
  unfold wX4_install at h
  refine g_aload_n (n := 1) dX4_install_0 rfl rfl rfl ?_
  refine g_aload_n (n := 2) dX4_install_1 rfl rfl rfl ?_
  refine g_getIE (n := 5) (k := 6) (x := (I 3 6)) dX4_install_2 sP_3 vc_13 (Nat.le_of_ble_eq_true rfl) rfl w_187 rfl rfl ?_
  refine g_putI (n := 8) (k := 0) dX4_install_5 sP_9 vc_8 (Nat.le_of_ble_eq_true rfl) rfl w_237 rfl rfl rfl rfl rfl ?_
  refine g_iconst (n := 9) (v := (nI 0)) dX4_install_8 rfl rfl ?_
  refine g_istore_n (n := 10) (ls' := [some (.ref 9), some (.ref 3), some (.int (nI 0)), none]) dX4_install_9 rfl rfl (Nat.le_of_ble_eq_true rfl) (Nat.le_of_ble_eq_true rfl) rfl rfl ?_
  refine g_less (bc' := 0) (bs' := 0) (Nat.le_of_ble_eq_true rfl) (Nat.le_of_ble_eq_true rfl) ?_
  obtain ⟨n_f, h⟩ := h
  exact tplX4_install_10  n_f _ _ _ h
set_option maxRecDepth 20000 in
theorem tplX2_install_18 {C : ab_X}  {K : ab_F → ab_F → Prop} : ∀ (n : Nat) (x2 : Int32) (I A : ab_F), wlX2_install_18 K n x2 I A → ab_G mX2_install 0 C (ab_Px shP ab_no (ab_rv K)) 18 [some (.ref 16), none, some (.int x2)] [] shP I A 0 0 := by
  intro n
  induction n with
  | zero => intro x2 I A h; exact h.elim
  | succ n hL18 =>
    intro x2 I A h
    rw [wlX2_install_18] at h
    refine g_iload_n (n := 19) dX2_install_18 rfl rfl rfl ?_
    refine g_bipush (n := 21) (v := (nI 16)) dX2_install_19 rfl rfl ?_
    refine g_icmp_ge (n := 24) 51 dX2_install_21 (by decide) rfl (fun hc => ?_) (fun hc => ?_)
    · have h := h.1 hc
      exact g_vret rfl dX2_install_51 ⟨rfl, rfl, h⟩
    · have h := h.2 hc
      refine g_aload_n (n := 25) dX2_install_24 rfl rfl rfl ?_
      refine g_getR (n := 28) (k := 2) dX2_install_25 sP_16 vc_6 (Nat.le_of_ble_eq_true rfl) rfl w_283 rfl ?_
      refine g_iload_n (n := 29) dX2_install_28 rfl rfl rfl ?_
      refine g_iconst (n := 30) (v := (-1 : Int32)) dX2_install_29 rfl rfl ?_
      obtain ⟨j_1, hj, hl, h⟩ := h
      refine g_iastJ (n := 31) (j := j_1) dX2_install_30 sP_17 hj hl (by decide) rfl ?_
      refine g_aload_n (n := 32) dX2_install_31 rfl rfl rfl ?_
      refine g_getR (n := 35) (k := 3) dX2_install_32 sP_16 vc_6 (Nat.le_of_ble_eq_true rfl) rfl w_286 rfl ?_
      refine g_iload_n (n := 36) dX2_install_35 rfl rfl rfl ?_
      refine g_iconst (n := 37) (v := (nI 0)) dX2_install_36 rfl rfl ?_
      obtain ⟨j_2, hj, hl, h⟩ := h
      refine g_iastJ (n := 38) (j := j_2) dX2_install_37 sP_18 hj hl (by decide) rfl ?_
      refine g_aload_n (n := 39) dX2_install_38 rfl rfl rfl ?_
      refine g_getR (n := 42) (k := 4) dX2_install_39 sP_16 vc_6 (Nat.le_of_ble_eq_true rfl) rfl w_289 rfl ?_
      refine g_iload_n (n := 43) dX2_install_42 rfl rfl rfl ?_
      refine g_iconst (n := 44) (v := (nI 0)) dX2_install_43 rfl rfl ?_
      obtain ⟨j_3, hj, hl, h⟩ := h
      refine g_iastJ (n := 45) (j := j_3) dX2_install_44 sP_19 hj hl (by decide) rfl ?_
      refine g_iinc (n := 48) (v := (x2 + nI 1)) (ls' := [some (.ref 16), none, some (.int (x2 + nI 1))]) dX2_install_45 rfl rfl rfl (Nat.le_of_ble_eq_true rfl) rfl rfl ?_
      refine g_goto 18 dX2_install_48 (by decide) ?_
      exact hL18 _ _ _ h
set_option maxRecDepth 20000 in
theorem cpX2_install  {K : ab_F → ab_F → Prop} {I A : ab_F}  (h : wX2_install K I A ) : ab_Cl mX2_install 0 0 0 [.ref 16, .ref 3] shP I A (ab_Px shP ab_no (ab_rv K)) := by
  refine ab_enter (ls := [some (.ref 16), some (.ref 3), none]) (by decide +kernel) (Nat.le_of_ble_eq_true rfl) rfl (fun C => ?_)
  unfold wX2_install at h
  refine g_aload_n (n := 1) dX2_install_0 rfl rfl rfl ?_
  refine g_aload_n (n := 2) dX2_install_1 rfl rfl rfl ?_
  refine g_getIE (n := 5) (k := 3) (x := (I 3 3)) dX2_install_2 sP_3 vc_13 (Nat.le_of_ble_eq_true rfl) rfl w_182 rfl rfl ?_
  refine g_putI (n := 8) (k := 0) dX2_install_5 sP_16 vc_6 (Nat.le_of_ble_eq_true rfl) rfl w_277 rfl rfl rfl rfl rfl ?_
  refine g_aload_n (n := 9) dX2_install_8 rfl rfl rfl ?_
  refine g_aload_n (n := 10) dX2_install_9 rfl rfl rfl ?_
  refine g_getIE (n := 13) (k := 5) (x := (I 3 5)) dX2_install_10 sP_3 vc_13 (Nat.le_of_ble_eq_true rfl) rfl w_185 rfl rfl ?_
  refine g_putI (n := 16) (k := 1) dX2_install_13 sP_16 vc_6 (Nat.le_of_ble_eq_true rfl) rfl w_280 rfl rfl rfl rfl rfl ?_
  refine g_iconst (n := 17) (v := (nI 0)) dX2_install_16 rfl rfl ?_
  refine g_istore_n (n := 18) (ls' := [some (.ref 16), some (.ref 3), some (.int (nI 0))]) dX2_install_17 rfl rfl (Nat.le_of_ble_eq_true rfl) (Nat.le_of_ble_eq_true rfl) rfl rfl ?_
  refine g_forget (ls' := [some (.ref 16), none, some (.int (nI 0))]) (ab_fg rfl) ?_
  refine g_less (bc' := 0) (bs' := 0) (Nat.le_of_ble_eq_true rfl) (Nat.le_of_ble_eq_true rfl) ?_
  obtain ⟨n_f, h⟩ := h
  exact tplX2_install_18  n_f _ _ _ h
set_option maxRecDepth 20000 in
theorem tplX7_install_15 {C : ab_X}  {K : ab_F → ab_F → Prop} : ∀ (n : Nat) (x2 : Int32) (I A : ab_F), wlX7_install_15 K n x2 I A → ab_G mX7_install 0 C (ab_Px shP ab_no (ab_rv K)) 15 [some (.ref 20), none, some (.int x2)] [] shP I A 0 0 := by
  intro n
  induction n with
  | zero => intro x2 I A h; exact h.elim
  | succ n hL15 =>
    intro x2 I A h
    rw [wlX7_install_15] at h
    refine g_iload_n (n := 16) dX7_install_15 rfl rfl rfl ?_
    refine g_bipush (n := 18) (v := (nI 48)) dX7_install_16 rfl rfl ?_
    refine g_icmp_ge (n := 21) 48 dX7_install_18 (by decide) rfl (fun hc => ?_) (fun hc => ?_)
    · have h := h.1 hc
      exact g_vret rfl dX7_install_48 ⟨rfl, rfl, h⟩
    · have h := h.2 hc
      refine g_aload_n (n := 22) dX7_install_21 rfl rfl rfl ?_
      refine g_getR (n := 25) (k := 2) dX7_install_22 sP_20 vc_11 (Nat.le_of_ble_eq_true rfl) rfl w_314 rfl ?_
      refine g_iload_n (n := 26) dX7_install_25 rfl rfl rfl ?_
      refine g_iconst (n := 27) (v := (nI 0)) dX7_install_26 rfl rfl ?_
      obtain ⟨j_1, hj, hl, h⟩ := h
      refine g_iastJ (n := 28) (j := j_1) dX7_install_27 sP_21 hj hl (by decide) rfl ?_
      refine g_aload_n (n := 29) dX7_install_28 rfl rfl rfl ?_
      refine g_getR (n := 32) (k := 3) dX7_install_29 sP_20 vc_11 (Nat.le_of_ble_eq_true rfl) rfl w_317 rfl ?_
      refine g_iload_n (n := 33) dX7_install_32 rfl rfl rfl ?_
      refine g_iconst (n := 34) (v := (-1 : Int32)) dX7_install_33 rfl rfl ?_
      obtain ⟨j_2, hj, hl, h⟩ := h
      refine g_iastJ (n := 35) (j := j_2) dX7_install_34 sP_22 hj hl (by decide) rfl ?_
      refine g_aload_n (n := 36) dX7_install_35 rfl rfl rfl ?_
      refine g_getR (n := 39) (k := 4) dX7_install_36 sP_20 vc_11 (Nat.le_of_ble_eq_true rfl) rfl w_319 rfl ?_
      refine g_iload_n (n := 40) dX7_install_39 rfl rfl rfl ?_
      refine g_iconst (n := 41) (v := (-1 : Int32)) dX7_install_40 rfl rfl ?_
      obtain ⟨j_3, hj, hl, h⟩ := h
      refine g_iastJ (n := 42) (j := j_3) dX7_install_41 sP_23 hj hl (by decide) rfl ?_
      refine g_iinc (n := 45) (v := (x2 + nI 1)) (ls' := [some (.ref 20), none, some (.int (x2 + nI 1))]) dX7_install_42 rfl rfl rfl (Nat.le_of_ble_eq_true rfl) rfl rfl ?_
      refine g_goto 15 dX7_install_45 (by decide) ?_
      exact hL15 _ _ _ h
set_option maxRecDepth 20000 in
theorem cpX7_install  {K : ab_F → ab_F → Prop} {I A : ab_F}  (h : wX7_install K I A ) : ab_Cl mX7_install 0 0 0 [.ref 20, .ref 3] shP I A (ab_Px shP ab_no (ab_rv K)) := by
  refine ab_enter (ls := [some (.ref 20), some (.ref 3), none]) (by decide +kernel) (Nat.le_of_ble_eq_true rfl) rfl (fun C => ?_)
  unfold wX7_install at h
  refine g_aload_n (n := 1) dX7_install_0 rfl rfl rfl ?_
  refine g_aload_n (n := 2) dX7_install_1 rfl rfl rfl ?_
  refine g_getIE (n := 5) (k := 4) (x := (I 3 4)) dX7_install_2 sP_3 vc_13 (Nat.le_of_ble_eq_true rfl) rfl w_184 rfl rfl ?_
  refine g_putI (n := 8) (k := 0) dX7_install_5 sP_20 vc_11 (Nat.le_of_ble_eq_true rfl) rfl w_309 rfl rfl rfl rfl rfl ?_
  refine g_aload_n (n := 9) dX7_install_8 rfl rfl rfl ?_
  refine g_iconst (n := 10) (v := (nI 0)) dX7_install_9 rfl rfl ?_
  refine g_putI (n := 13) (k := 1) dX7_install_10 sP_20 vc_11 (Nat.le_of_ble_eq_true rfl) rfl w_312 rfl rfl rfl rfl rfl ?_
  refine g_iconst (n := 14) (v := (nI 0)) dX7_install_13 rfl rfl ?_
  refine g_istore_n (n := 15) (ls' := [some (.ref 20), some (.ref 3), some (.int (nI 0))]) dX7_install_14 rfl rfl (Nat.le_of_ble_eq_true rfl) (Nat.le_of_ble_eq_true rfl) rfl rfl ?_
  refine g_forget (ls' := [some (.ref 20), none, some (.int (nI 0))]) (ab_fg rfl) ?_
  refine g_less (bc' := 0) (bs' := 0) (Nat.le_of_ble_eq_true rfl) (Nat.le_of_ble_eq_true rfl) ?_
  obtain ⟨n_f, h⟩ := h
  exact tplX7_install_15  n_f _ _ _ h
set_option maxRecDepth 20000 in
theorem tplX1_clearRecords_12 {C : ab_X}  {K : ab_F → ab_F → Prop} : ∀ (n : Nat) (x1 : Int32) (I A : ab_F), wlX1_clearRecords_12 K n x1 I A → ab_G mX1_clearRecords 0 C (ab_Px shP ab_no (ab_rv K)) 12 [some (.ref 24), some (.int x1)] [] shP I A 0 0 := by
  intro n
  induction n with
  | zero => intro x1 I A h; exact h.elim
  | succ n hL12 =>
    intro x1 I A h
    rw [wlX1_clearRecords_12] at h
    refine g_iload_n (n := 13) dX1_clearRecords_12 rfl rfl rfl ?_
    refine g_bipush (n := 15) (v := (nI 48)) dX1_clearRecords_13 rfl rfl ?_
    refine g_icmp_ge (n := 18) 31 dX1_clearRecords_15 (by decide) rfl (fun hc => ?_) (fun hc => ?_)
    · have h := h.1 hc
      exact g_vret rfl dX1_clearRecords_31 ⟨rfl, rfl, h⟩
    · have h := h.2 hc
      refine g_aload_n (n := 19) dX1_clearRecords_18 rfl rfl rfl ?_
      refine g_getR (n := 22) (k := 4) dX1_clearRecords_19 sP_24 vc_5 (Nat.le_of_ble_eq_true rfl) rfl w_349 rfl ?_
      refine g_iload_n (n := 23) dX1_clearRecords_22 rfl rfl rfl ?_
      refine g_iconst (n := 24) (v := (-1 : Int32)) dX1_clearRecords_23 rfl rfl ?_
      obtain ⟨j_1, hj, hl, h⟩ := h
      refine g_iastJ (n := 25) (j := j_1) dX1_clearRecords_24 sP_25 hj hl (by decide) rfl ?_
      refine g_iinc (n := 28) (v := (x1 + nI 1)) (ls' := [some (.ref 24), some (.int (x1 + nI 1))]) dX1_clearRecords_25 rfl rfl rfl (Nat.le_of_ble_eq_true rfl) rfl rfl ?_
      refine g_goto 12 dX1_clearRecords_28 (by decide) ?_
      exact hL12 _ _ _ h
set_option maxRecDepth 20000 in
theorem cpX1_clearRecords  {K : ab_F → ab_F → Prop} {I A : ab_F}  (h : wX1_clearRecords K I A ) : ab_Cl mX1_clearRecords 0 0 0 [.ref 24] shP I A (ab_Px shP ab_no (ab_rv K)) := by
  refine ab_enter (ls := [some (.ref 24), none]) (by decide +kernel) (Nat.le_of_ble_eq_true rfl) rfl (fun C => ?_)
  unfold wX1_clearRecords at h
  refine g_aload_n (n := 1) dX1_clearRecords_0 rfl rfl rfl ?_
  refine g_iconst (n := 2) (v := (nI 0)) dX1_clearRecords_1 rfl rfl ?_
  refine g_putI (n := 5) (k := 1) dX1_clearRecords_2 sP_24 vc_5 (Nat.le_of_ble_eq_true rfl) rfl w_342 rfl rfl rfl rfl rfl ?_
  refine g_aload_n (n := 6) dX1_clearRecords_5 rfl rfl rfl ?_
  refine g_iconst (n := 7) (v := (nI 0)) dX1_clearRecords_6 rfl rfl ?_
  refine g_putI (n := 10) (k := 2) dX1_clearRecords_7 sP_24 vc_5 (Nat.le_of_ble_eq_true rfl) rfl w_345 rfl rfl rfl rfl rfl ?_
  refine g_iconst (n := 11) (v := (nI 0)) dX1_clearRecords_10 rfl rfl ?_
  refine g_istore_n (n := 12) (ls' := [some (.ref 24), some (.int (nI 0))]) dX1_clearRecords_11 rfl rfl (Nat.le_of_ble_eq_true rfl) (Nat.le_of_ble_eq_true rfl) rfl rfl ?_
  refine g_less (bc' := 0) (bs' := 0) (Nat.le_of_ble_eq_true rfl) (Nat.le_of_ble_eq_true rfl) ?_
  obtain ⟨n_f, h⟩ := h
  exact tplX1_clearRecords_12  n_f _ _ _ h
set_option maxRecDepth 20000 in
theorem tplX1_install_37 {C : ab_X}  {K : ab_F → ab_F → Prop} : ∀ (n : Nat) (x1 : Int32) (I A : ab_F), wlX1_install_37 K n x1 I A → ab_G mX1_install 1 C (ab_Px shP ab_no (ab_rv K)) 37 [some (.ref 24), some (.int x1)] [] shP I A 0 0 := by
  intro n
  induction n with
  | zero => intro x1 I A h; exact h.elim
  | succ n hL37 =>
    intro x1 I A h
    rw [wlX1_install_37] at h
    refine g_iload_n (n := 38) dX1_install_37 rfl rfl rfl ?_
    refine g_bipush (n := 40) (v := (nI 48)) dX1_install_38 rfl rfl ?_
    refine g_icmp_ge (n := 43) 56 dX1_install_40 (by decide) rfl (fun hc => ?_) (fun hc => ?_)
    · have h := h.1 hc
      exact g_vret rfl dX1_install_56 ⟨rfl, rfl, h⟩
    · have h := h.2 hc
      refine g_aload_n (n := 44) dX1_install_43 rfl rfl rfl ?_
      refine g_getR (n := 47) (k := 6) dX1_install_44 sP_24 vc_5 (Nat.le_of_ble_eq_true rfl) rfl w_354 rfl ?_
      refine g_iload_n (n := 48) dX1_install_47 rfl rfl rfl ?_
      refine g_iconst (n := 49) (v := (-1 : Int32)) dX1_install_48 rfl rfl ?_
      obtain ⟨j_3, hj, hl, h⟩ := h
      refine g_iastJ (n := 50) (j := j_3) dX1_install_49 sP_27 hj hl (by decide) rfl ?_
      refine g_iinc (n := 53) (v := (x1 + nI 1)) (ls' := [some (.ref 24), some (.int (x1 + nI 1))]) dX1_install_50 rfl rfl rfl (Nat.le_of_ble_eq_true rfl) rfl rfl ?_
      refine g_goto 37 dX1_install_53 (by decide) ?_
      exact hL37 _ _ _ h
set_option maxRecDepth 20000 in
theorem tplX1_install_16 {C : ab_X}  {K : ab_F → ab_F → Prop} : ∀ (n : Nat) (x1 : Int32) (I A : ab_F), wlX1_install_16 K n x1 I A → ab_G mX1_install 1 C (ab_Px shP ab_no (ab_rv K)) 16 [some (.ref 24), some (.int x1)] [] shP I A 0 0 := by
  intro n
  induction n with
  | zero => intro x1 I A h; exact h.elim
  | succ n hL16 =>
    intro x1 I A h
    rw [wlX1_install_16] at h
    refine g_iload_n (n := 17) dX1_install_16 rfl rfl rfl ?_
    refine g_bipush (n := 19) (v := (nI 6)) dX1_install_17 rfl rfl ?_
    refine g_icmp_ge (n := 22) 35 dX1_install_19 (by decide) rfl (fun hc => ?_) (fun hc => ?_)
    · have h := h.1 hc
      refine g_iconst (n := 36) (v := (nI 0)) dX1_install_35 rfl rfl ?_
      refine g_istore_n (n := 37) (ls' := [some (.ref 24), some (.int (nI 0))]) dX1_install_36 rfl rfl (Nat.le_of_ble_eq_true rfl) (Nat.le_of_ble_eq_true rfl) rfl rfl ?_
      refine g_less (bc' := 0) (bs' := 0) (Nat.le_of_ble_eq_true rfl) (Nat.le_of_ble_eq_true rfl) ?_
      obtain ⟨n_f, h⟩ := h
      exact tplX1_install_37  n_f _ _ _ h
    · have h := h.2 hc
      refine g_aload_n (n := 23) dX1_install_22 rfl rfl rfl ?_
      refine g_getR (n := 26) (k := 5) dX1_install_23 sP_24 vc_5 (Nat.le_of_ble_eq_true rfl) rfl w_351 rfl ?_
      refine g_iload_n (n := 27) dX1_install_26 rfl rfl rfl ?_
      refine g_iconst (n := 28) (v := (-1 : Int32)) dX1_install_27 rfl rfl ?_
      obtain ⟨j_4, hj, hl, h⟩ := h
      refine g_iastJ (n := 29) (j := j_4) dX1_install_28 sP_26 hj hl (by decide) rfl ?_
      refine g_iinc (n := 32) (v := (x1 + nI 1)) (ls' := [some (.ref 24), some (.int (x1 + nI 1))]) dX1_install_29 rfl rfl rfl (Nat.le_of_ble_eq_true rfl) rfl rfl ?_
      refine g_goto 16 dX1_install_32 (by decide) ?_
      exact hL16 _ _ _ h
set_option maxRecDepth 20000 in
theorem cpX1_install  {K : ab_F → ab_F → Prop} {I A : ab_F}  (h : wX1_install K I A ) : ab_Cl mX1_install 1 0 0 [.ref 24] shP I A (ab_Px shP ab_no (ab_rv K)) := by
  refine ab_enter (ls := [some (.ref 24), none]) (by decide +kernel) (Nat.le_of_ble_eq_true rfl) rfl (fun C => ?_)
  unfold wX1_install at h
  refine g_aload_n (n := 1) dX1_install_0 rfl rfl rfl ?_
  refine g_iconst (n := 2) (v := (nI 0)) dX1_install_1 rfl rfl ?_
  refine g_putI (n := 5) (k := 0) dX1_install_2 sP_24 vc_5 (Nat.le_of_ble_eq_true rfl) rfl w_339 rfl rfl rfl rfl rfl ?_
  refine g_aload_n (n := 6) dX1_install_5 rfl rfl rfl ?_
  refine g_iconst (n := 7) (v := (nI 0)) dX1_install_6 rfl rfl ?_
  refine g_putI (n := 10) (k := 3) dX1_install_7 sP_24 vc_5 (Nat.le_of_ble_eq_true rfl) rfl w_347 rfl rfl rfl rfl rfl ?_
  refine g_aload_n (n := 11) dX1_install_10 rfl rfl rfl ?_
  refine g_callV (n := 14) (as := []) (bc' := 0) (bs' := 0) sP_24 vc_5 (cpX1_clearRecords h) okX1_clearRecords rfl w_447 w_448 w_449 w_104 dX1_install_11 rfl rfl (Nat.le_of_ble_eq_true rfl) (Nat.le_of_ble_eq_true rfl) (Nat.le_of_ble_eq_true rfl) (Nat.le_of_ble_eq_true rfl) rfl (fun E sh1 I1 A1 hp _ => hp.2.elim) (fun ro sh_ I_1 A_2 hp hle => ?_)
  obtain ⟨rfl, rfl, h⟩ := hp
  refine g_iconst (n := 15) (v := (nI 0)) dX1_install_14 rfl rfl ?_
  refine g_istore_n (n := 16) (ls' := [some (.ref 24), some (.int (nI 0))]) dX1_install_15 rfl rfl (Nat.le_of_ble_eq_true rfl) (Nat.le_of_ble_eq_true rfl) rfl rfl ?_
  refine g_less (bc' := 0) (bs' := 0) (Nat.le_of_ble_eq_true rfl) (Nat.le_of_ble_eq_true rfl) ?_
  obtain ⟨n_f, h⟩ := h
  exact tplX1_install_16  n_f _ _ _ h
set_option maxRecDepth 20000 in
theorem cpX0_install  {K : ab_F → ab_F → Prop} {I A : ab_F}  (h : wX0_install K I A ) : ab_Cl mX0_install 0 0 0 [.ref 29] shP I A (ab_Px shP ab_no (ab_rv K)) := by
  refine ab_enter (ls := [some (.ref 29)]) (by decide +kernel) (Nat.le_of_ble_eq_true rfl) rfl (fun C => ?_)
  unfold wX0_install at h
  refine g_aload_n (n := 1) dX0_install_0 rfl rfl rfl ?_
  refine g_iconst (n := 2) (v := (nI 0)) dX0_install_1 rfl rfl ?_
  refine g_putI (n := 5) (k := 0) dX0_install_2 sP_29 vc_4 (Nat.le_of_ble_eq_true rfl) rfl w_381 rfl rfl rfl rfl rfl ?_
  refine g_aload_n (n := 6) dX0_install_5 rfl rfl rfl ?_
  refine g_iconst (n := 7) (v := (nI 0)) dX0_install_6 rfl rfl ?_
  refine g_putI (n := 10) (k := 1) dX0_install_7 sP_29 vc_4 (Nat.le_of_ble_eq_true rfl) rfl w_384 rfl rfl rfl rfl rfl ?_
  refine g_aload_n (n := 11) dX0_install_10 rfl rfl rfl ?_
  refine g_iconst (n := 12) (v := (nI 0)) dX0_install_11 rfl rfl ?_
  refine g_putI (n := 15) (k := 2) dX0_install_12 sP_29 vc_4 (Nat.le_of_ble_eq_true rfl) rfl w_387 rfl rfl rfl rfl rfl ?_
  exact g_vret rfl dX0_install_15 ⟨rfl, rfl, h⟩
set_option maxRecDepth 20000 in
theorem cpX8_install  {K : ab_F → ab_F → Prop} {I A : ab_F}  (h : wX8_install K I A ) : ab_Cl mX8_install 2 0 0 [.ref 8, .ref 3] shP I A (ab_Px shP ab_no (ab_rv K)) := by
  refine ab_enter (ls := [some (.ref 8), some (.ref 3)]) (by decide +kernel) (Nat.le_of_ble_eq_true rfl) rfl (fun C => ?_)
  unfold wX8_install at h
  refine g_aload_n (n := 1) dX8_install_0 rfl rfl rfl ?_
  refine g_getR (n := 4) (k := 0) dX8_install_1 sP_8 vc_12 (Nat.le_of_ble_eq_true rfl) rfl w_399 rfl ?_
  refine g_aload_n (n := 5) dX8_install_4 rfl rfl rfl ?_
  refine g_callV (n := 8) (as := [.ref 3]) (bc' := 0) (bs' := 0) sP_9 vc_8 (cpX4_install h) okX4_install rfl w_431 w_432 w_433 w_101 dX8_install_5 rfl rfl (Nat.le_of_ble_eq_true rfl) (Nat.le_of_ble_eq_true rfl) (Nat.le_of_ble_eq_true rfl) (Nat.le_of_ble_eq_true rfl) rfl (fun E sh1 I1 A1 hp _ => hp.2.elim) (fun ro sh_ I_1 A_2 hp hle => ?_)
  obtain ⟨rfl, rfl, h⟩ := hp
  refine g_aload_n (n := 9) dX8_install_8 rfl rfl rfl ?_
  refine g_getR (n := 12) (k := 1) dX8_install_9 sP_8 vc_12 (Nat.le_of_ble_eq_true rfl) rfl w_401 rfl ?_
  refine g_aload_n (n := 13) dX8_install_12 rfl rfl rfl ?_
  refine g_callV (n := 16) (as := [.ref 3]) (bc' := 0) (bs' := 0) sP_16 vc_6 (cpX2_install h) okX2_install rfl w_435 w_436 w_437 w_102 dX8_install_13 rfl rfl (Nat.le_of_ble_eq_true rfl) (Nat.le_of_ble_eq_true rfl) (Nat.le_of_ble_eq_true rfl) (Nat.le_of_ble_eq_true rfl) rfl (fun E sh1 I1 A1 hp _ => hp.2.elim) (fun ro sh_ I_3 A_4 hp hle => ?_)
  obtain ⟨rfl, rfl, h⟩ := hp
  refine g_aload_n (n := 17) dX8_install_16 rfl rfl rfl ?_
  refine g_getR (n := 20) (k := 2) dX8_install_17 sP_8 vc_12 (Nat.le_of_ble_eq_true rfl) rfl w_403 rfl ?_
  refine g_aload_n (n := 21) dX8_install_20 rfl rfl rfl ?_
  refine g_callV (n := 24) (as := [.ref 3]) (bc' := 0) (bs' := 0) sP_20 vc_11 (cpX7_install h) okX7_install rfl w_439 w_440 w_441 w_103 dX8_install_21 rfl rfl (Nat.le_of_ble_eq_true rfl) (Nat.le_of_ble_eq_true rfl) (Nat.le_of_ble_eq_true rfl) (Nat.le_of_ble_eq_true rfl) rfl (fun E sh1 I1 A1 hp _ => hp.2.elim) (fun ro sh_ I_5 A_6 hp hle => ?_)
  obtain ⟨rfl, rfl, h⟩ := hp
  refine g_aload_n (n := 25) dX8_install_24 rfl rfl rfl ?_
  refine g_getR (n := 28) (k := 3) dX8_install_25 sP_8 vc_12 (Nat.le_of_ble_eq_true rfl) rfl w_405 rfl ?_
  refine g_callV (n := 31) (as := []) (bc' := 0) (bs' := 0) sP_24 vc_5 (cpX1_install h) okX1_install rfl w_443 w_444 w_445 w_104 dX8_install_28 rfl rfl (Nat.le_of_ble_eq_true rfl) (Nat.le_of_ble_eq_true rfl) (Nat.le_of_ble_eq_true rfl) (Nat.le_of_ble_eq_true rfl) rfl (fun E sh1 I1 A1 hp _ => hp.2.elim) (fun ro sh_ I_7 A_8 hp hle => ?_)
  obtain ⟨rfl, rfl, h⟩ := hp
  refine g_aload_n (n := 32) dX8_install_31 rfl rfl rfl ?_
  refine g_getR (n := 35) (k := 4) dX8_install_32 sP_8 vc_12 (Nat.le_of_ble_eq_true rfl) rfl w_407 rfl ?_
  refine g_callV (n := 38) (as := []) (bc' := 0) (bs' := 0) sP_29 vc_4 (cpX0_install h) okX0_install rfl w_451 w_452 w_453 w_105 dX8_install_35 rfl rfl (Nat.le_of_ble_eq_true rfl) (Nat.le_of_ble_eq_true rfl) (Nat.le_of_ble_eq_true rfl) (Nat.le_of_ble_eq_true rfl) rfl (fun E sh1 I1 A1 hp _ => hp.2.elim) (fun ro sh_ I_9 A_10 hp hle => ?_)
  obtain ⟨rfl, rfl, h⟩ := hp
  refine g_aload_n (n := 39) dX8_install_38 rfl rfl rfl ?_
  refine g_iconst (n := 40) (v := (nI 0)) dX8_install_39 rfl rfl ?_
  refine g_putI (n := 43) (k := 5) dX8_install_40 sP_8 vc_12 (Nat.le_of_ble_eq_true rfl) rfl w_409 rfl rfl rfl rfl rfl ?_
  exact g_vret rfl dX8_install_43 ⟨rfl, rfl, h⟩
