def wjX8_countFreedBy_42 (K : Int32 → ab_F → ab_F → Prop) (L9 : Int32 → Int32 → Int32 → ab_F → ab_F → Prop) (x1 : Int32) (x2 : Int32) (x3 : Int32) (x4 : Int32) (s0 : Int32) (I A : ab_F) : Prop := ((s0 = 0 → L9 x1 x2 (x3 + nI 1) I A) ∧ (¬ s0 = 0 → ((x4 = (-1 : Int32) → L9 x1 x2 (x3 + nI 1) I A) ∧ (¬ x4 = (-1 : Int32) → (∃ j_5 : Nat, x4 = nI j_5 ∧ j_5 < 48 ∧ ((¬ (A 31 j_5) = (nI 2) → L9 x1 x2 (x3 + nI 1) I A) ∧ ((A 31 j_5) = (nI 2) → L9 x1 (x2 + nI 1) (x3 + nI 1) I A)))))))
def wlX8_countFreedBy_9 (K : Int32 → ab_F → ab_F → Prop) : Nat → Int32 → Int32 → Int32 → ab_F → ab_F → Prop
  | 0, _, _, _, _, _ => False
  | n + 1, x1, x2, x3, I, A => (((nI 48) ≤ x3 → K x2 I A) ∧ (¬ (nI 48) ≤ x3 → (∃ j_3 : Nat, x3 = nI j_3 ∧ j_3 < 48 ∧ (∀ y_4 : Int32, y_4 = (A 27 j_3) → (((x1 &&& ((nI 1) <<< ((x3 / (nI 8)) &&& 31))) = 0 → wjX8_countFreedBy_42 K (wlX8_countFreedBy_9 K n) x1 x2 x3 y_4 (nI 0) I A) ∧ (¬ (x1 &&& ((nI 1) <<< ((x3 / (nI 8)) &&& 31))) = 0 → wjX8_countFreedBy_42 K (wlX8_countFreedBy_9 K n) x1 x2 x3 y_4 (nI 1) I A))))))
def wX8_countFreedBy (K : Int32 → ab_F → ab_F → Prop) (I A : ab_F) (p0 : Int32) : Prop := wX8_markUses (fun I_1 A_2 => (∃ nf : Nat, wlX8_countFreedBy_9 K nf p0 (nI 0) (nI 0) I_1 A_2)) I A 
set_option maxRecDepth 20000 in
theorem tjX8_countFreedBy_42 {C : ab_X} {Z : ab_Z} {K : Int32 → ab_F → ab_F → Prop} {L9 : Int32 → Int32 → Int32 → ab_F → ab_F → Prop} (hL9 : ∀ (x1 : Int32) (x2 : Int32) (x3 : Int32) (I A : ab_F), L9 x1 x2 x3 I A → ab_G mX8_countFreedBy 1 C (ab_Px (shC Z) ab_no (ab_ri K)) 9 [some (.ref 8), some (.int x1), some (.int x2), some (.int x3), none, none] [] (shC Z) I A 0 0) (x1 : Int32) (x2 : Int32) (x3 : Int32) (x4 : Int32) (s0 : Int32) (I A : ab_F) (h : wjX8_countFreedBy_42 K L9 x1 x2 x3 x4 s0 I A) : ab_G mX8_countFreedBy 1 C (ab_Px (shC Z) ab_no (ab_ri K)) 42 [some (.ref 8), some (.int x1), some (.int x2), some (.int x3), some (.int x4), none] [.int s0] (shC Z) I A 0 0 := by
  unfold wjX8_countFreedBy_42 at h
  refine g_istore (n := 44) (ls' := [some (.ref 8), some (.int x1), some (.int x2), some (.int x3), some (.int x4), some (.int s0)]) dX8_countFreedBy_42 rfl (Nat.le_of_ble_eq_true rfl) (Nat.le_of_ble_eq_true rfl) rfl rfl ?_
  refine g_iload (n := 46) dX8_countFreedBy_44 rfl rfl ?_
  refine g_if_eq (n := 49) 69 dX8_countFreedBy_46 (by decide) rfl (fun hc => ?_) (fun hc => ?_)
  · have h := h.1 hc
    refine g_iinc (n := 72) (v := (x3 + nI 1)) (ls' := [some (.ref 8), some (.int x1), some (.int x2), some (.int (x3 + nI 1)), some (.int x4), some (.int s0)]) dX8_countFreedBy_69 rfl rfl rfl (Nat.le_of_ble_eq_true rfl) rfl rfl ?_
    refine g_goto 9 dX8_countFreedBy_72 (by decide) ?_
    refine g_forget (ls' := [some (.ref 8), some (.int x1), some (.int x2), some (.int (x3 + nI 1)), none, none]) (ab_fg rfl) ?_
    exact hL9 _ _ _ _ _ h
  · have h := h.2 hc
    refine g_iload (n := 51) dX8_countFreedBy_49 rfl rfl ?_
    refine g_iconst (n := 52) (v := (-1 : Int32)) dX8_countFreedBy_51 rfl rfl ?_
    refine g_icmp_eq (n := 55) 69 dX8_countFreedBy_52 (by decide) rfl (fun hc => ?_) (fun hc => ?_)
    · have h := h.1 hc
      refine g_iinc (n := 72) (v := (x3 + nI 1)) (ls' := [some (.ref 8), some (.int x1), some (.int x2), some (.int (x3 + nI 1)), some (.int x4), some (.int s0)]) dX8_countFreedBy_69 rfl rfl rfl (Nat.le_of_ble_eq_true rfl) rfl rfl ?_
      refine g_goto 9 dX8_countFreedBy_72 (by decide) ?_
      refine g_forget (ls' := [some (.ref 8), some (.int x1), some (.int x2), some (.int (x3 + nI 1)), none, none]) (ab_fg rfl) ?_
      exact hL9 _ _ _ _ _ h
    · have h := h.2 hc
      refine g_aload_n (n := 56) dX8_countFreedBy_55 rfl rfl rfl ?_
      refine g_getR (n := 59) (k := 6) dX8_countFreedBy_56 sC_8 vc_12 (Nat.le_of_ble_eq_true rfl) rfl w_411 rfl ?_
      refine g_iload (n := 61) dX8_countFreedBy_59 rfl rfl ?_
      obtain ⟨j_5, hj, hl, h⟩ := h
      refine g_ialdJ (n := 62) (j := j_5) (x := (A 31 j_5)) dX8_countFreedBy_61 sC_31 hj hl (by decide) rfl rfl ?_
      refine g_iconst (n := 63) (v := (nI 2)) dX8_countFreedBy_62 rfl rfl ?_
      refine g_icmp_ne (n := 66) 69 dX8_countFreedBy_63 (by decide) rfl (fun hc => ?_) (fun hc => ?_)
      · have h := h.1 hc
        refine g_iinc (n := 72) (v := (x3 + nI 1)) (ls' := [some (.ref 8), some (.int x1), some (.int x2), some (.int (x3 + nI 1)), some (.int x4), some (.int s0)]) dX8_countFreedBy_69 rfl rfl rfl (Nat.le_of_ble_eq_true rfl) rfl rfl ?_
        refine g_goto 9 dX8_countFreedBy_72 (by decide) ?_
        refine g_forget (ls' := [some (.ref 8), some (.int x1), some (.int x2), some (.int (x3 + nI 1)), none, none]) (ab_fg rfl) ?_
        exact hL9 _ _ _ _ _ h
      · have h := h.2 hc
        refine g_iinc (n := 69) (v := (x2 + nI 1)) (ls' := [some (.ref 8), some (.int x1), some (.int (x2 + nI 1)), some (.int x3), some (.int x4), some (.int s0)]) dX8_countFreedBy_66 rfl rfl rfl (Nat.le_of_ble_eq_true rfl) rfl rfl ?_
        refine g_iinc (n := 72) (v := (x3 + nI 1)) (ls' := [some (.ref 8), some (.int x1), some (.int (x2 + nI 1)), some (.int (x3 + nI 1)), some (.int x4), some (.int s0)]) dX8_countFreedBy_69 rfl rfl rfl (Nat.le_of_ble_eq_true rfl) rfl rfl ?_
        refine g_goto 9 dX8_countFreedBy_72 (by decide) ?_
        refine g_forget (ls' := [some (.ref 8), some (.int x1), some (.int (x2 + nI 1)), some (.int (x3 + nI 1)), none, none]) (ab_fg rfl) ?_
        exact hL9 _ _ _ _ _ h
set_option maxRecDepth 20000 in
theorem tlX8_countFreedBy_9 {C : ab_X} {Z : ab_Z} {K : Int32 → ab_F → ab_F → Prop} : ∀ (n : Nat) (x1 : Int32) (x2 : Int32) (x3 : Int32) (I A : ab_F), wlX8_countFreedBy_9 K n x1 x2 x3 I A → ab_G mX8_countFreedBy 1 C (ab_Px (shC Z) ab_no (ab_ri K)) 9 [some (.ref 8), some (.int x1), some (.int x2), some (.int x3), none, none] [] (shC Z) I A 0 0 := by
  intro n
  induction n with
  | zero => intro x1 x2 x3 I A h; exact h.elim
  | succ n hL9 =>
    intro x1 x2 x3 I A h
    rw [wlX8_countFreedBy_9] at h
    refine g_iload_n (n := 10) dX8_countFreedBy_9 rfl rfl rfl ?_
    refine g_bipush (n := 12) (v := (nI 48)) dX8_countFreedBy_10 rfl rfl ?_
    refine g_icmp_ge (n := 15) 75 dX8_countFreedBy_12 (by decide) rfl (fun hc => ?_) (fun hc => ?_)
    · have h := h.1 hc
      refine g_iload_n (n := 76) dX8_countFreedBy_75 rfl rfl rfl ?_
      exact g_iret rfl rfl dX8_countFreedBy_76 ⟨rfl, _, rfl, h⟩
    · have h := h.2 hc
      refine g_aload_n (n := 16) dX8_countFreedBy_15 rfl rfl rfl ?_
      refine g_getR (n := 19) (k := 3) dX8_countFreedBy_16 sC_8 vc_12 (Nat.le_of_ble_eq_true rfl) rfl w_405 rfl ?_
      refine g_getR (n := 22) (k := 6) dX8_countFreedBy_19 sC_24 vc_5 (Nat.le_of_ble_eq_true rfl) rfl w_355 rfl ?_
      refine g_iload_n (n := 23) dX8_countFreedBy_22 rfl rfl rfl ?_
      obtain ⟨j_3, hj, hl, h⟩ := h
      refine g_ialdJ (n := 24) (j := j_3) (x := (A 27 j_3)) dX8_countFreedBy_23 sC_27 hj hl (by decide) rfl rfl ?_
      refine g_topi (fun y_4 ey_4 => ?_)
      have h := h y_4 ey_4
      refine g_istore (n := 26) (ls' := [some (.ref 8), some (.int x1), some (.int x2), some (.int x3), some (.int y_4), none]) dX8_countFreedBy_24 rfl (Nat.le_of_ble_eq_true rfl) (Nat.le_of_ble_eq_true rfl) rfl rfl ?_
      refine g_iload_n (n := 27) dX8_countFreedBy_26 rfl rfl rfl ?_
      refine g_iconst (n := 28) (v := (nI 1)) dX8_countFreedBy_27 rfl rfl ?_
      refine g_iload_n (n := 29) dX8_countFreedBy_28 rfl rfl rfl ?_
      refine g_bipush (n := 31) (v := (nI 8)) dX8_countFreedBy_29 rfl rfl ?_
      refine g_idiv (n := 32) dX8_countFreedBy_31 (by decide) rfl ?_
      refine g_ishl (n := 33) dX8_countFreedBy_32 rfl ?_
      refine g_iand (n := 34) dX8_countFreedBy_33 rfl ?_
      refine g_if_eq (n := 37) 41 dX8_countFreedBy_34 (by decide) rfl (fun hc => ?_) (fun hc => ?_)
      · have h := h.1 hc
        refine g_iconst (n := 42) (v := (nI 0)) dX8_countFreedBy_41 rfl rfl ?_
        refine g_less (bc' := 0) (bs' := 0) (Nat.le_of_ble_eq_true rfl) (Nat.le_of_ble_eq_true rfl) ?_
        exact tjX8_countFreedBy_42 hL9 _ _ _ _ _ _ _ h
      · have h := h.2 hc
        refine g_iconst (n := 38) (v := (nI 1)) dX8_countFreedBy_37 rfl rfl ?_
        refine g_goto 42 dX8_countFreedBy_38 (by decide) ?_
        refine g_less (bc' := 0) (bs' := 0) (Nat.le_of_ble_eq_true rfl) (Nat.le_of_ble_eq_true rfl) ?_
        exact tjX8_countFreedBy_42 hL9 _ _ _ _ _ _ _ h
set_option maxRecDepth 20000 in
theorem ctX8_countFreedBy {Z : ab_Z} {K : Int32 → ab_F → ab_F → Prop} {I A : ab_F} {p0 : Int32} (h : wX8_countFreedBy K I A p0) : ab_Cl mX8_countFreedBy 1 0 0 [.ref 8, .int p0] (shC Z) I A (ab_Px (shC Z) ab_no (ab_ri K)) := by
  refine ab_enter (ls := [some (.ref 8), some (.int p0), none, none, none, none]) (by decide +kernel) (Nat.le_of_ble_eq_true rfl) rfl (fun C => ?_)
  unfold wX8_countFreedBy at h
  refine g_aload_n (n := 1) dX8_countFreedBy_0 rfl rfl rfl ?_
  refine g_callV (n := 4) (as := []) (bc' := 0) (bs' := 0) sC_8 vc_12 (ctX8_markUses h) okX8_markUses rfl w_842 w_843 w_844 w_100 dX8_countFreedBy_1 rfl rfl (Nat.le_of_ble_eq_true rfl) (Nat.le_of_ble_eq_true rfl) (Nat.le_of_ble_eq_true rfl) (Nat.le_of_ble_eq_true rfl) rfl (fun E sh1 I1 A1 hp _ => hp.2.elim) (fun ro sh_ I_1 A_2 hp hle => ?_)
  obtain ⟨rfl, rfl, h⟩ := hp
  refine g_pop (n := 5) dX8_countFreedBy_4 rfl rfl ?_
  refine g_iconst (n := 6) (v := (nI 0)) dX8_countFreedBy_5 rfl rfl ?_
  refine g_istore_n (n := 7) (ls' := [some (.ref 8), some (.int p0), some (.int (nI 0)), none, none, none]) dX8_countFreedBy_6 rfl rfl (Nat.le_of_ble_eq_true rfl) (Nat.le_of_ble_eq_true rfl) rfl rfl ?_
  refine g_iconst (n := 8) (v := (nI 0)) dX8_countFreedBy_7 rfl rfl ?_
  refine g_istore_n (n := 9) (ls' := [some (.ref 8), some (.int p0), some (.int (nI 0)), some (.int (nI 0)), none, none]) dX8_countFreedBy_8 rfl rfl (Nat.le_of_ble_eq_true rfl) (Nat.le_of_ble_eq_true rfl) rfl rfl ?_
  refine g_less (bc' := 0) (bs' := 0) (Nat.le_of_ble_eq_true rfl) (Nat.le_of_ble_eq_true rfl) ?_
  obtain ⟨n_f, h⟩ := h
  exact tlX8_countFreedBy_9  n_f _ _ _ _ _ h
def wlX8_countLost_4 (K : Int32 → ab_F → ab_F → Prop) : Nat → Int32 → Int32 → Int32 → ab_F → ab_F → Prop
  | 0, _, _, _, _, _ => False
  | n + 1, x1, x2, x3, I, A => (((I 9 0) ≤ x3 → K x2 I A) ∧ (¬ (I 9 0) ≤ x3 → (((x1 &&& ((nI 1) <<< (x3 &&& 31))) = 0 → (wlX8_countLost_4 K n) x1 x2 (x3 + nI 1) I A) ∧ (¬ (x1 &&& ((nI 1) <<< (x3 &&& 31))) = 0 → wX8_lostSet (fun r_3 I_1 A_2 => wJ6_bitCount_0f7a4 (fun r_6 I_4 A_5 => (∀ y_7 : Int32, y_7 = (x2 + r_6) → (wlX8_countLost_4 K n) x1 y_7 (x3 + nI 1) I_4 A_5)) I_1 A_2 r_3) I A x3))))
def wX8_countLost (K : Int32 → ab_F → ab_F → Prop) (I A : ab_F) (p0 : Int32) : Prop := (∃ nf : Nat, wlX8_countLost_4 K nf p0 (nI 0) (nI 0) I A)
set_option maxRecDepth 20000 in
theorem tlX8_countLost_4 {C : ab_X} {Z : ab_Z} {K : Int32 → ab_F → ab_F → Prop} : ∀ (n : Nat) (x1 : Int32) (x2 : Int32) (x3 : Int32) (I A : ab_F), wlX8_countLost_4 K n x1 x2 x3 I A → ab_G mX8_countLost 2 C (ab_Px (shC Z) ab_no (ab_ri K)) 4 [some (.ref 8), some (.int x1), some (.int x2), some (.int x3)] [] (shC Z) I A 0 0 := by
  intro n
  induction n with
  | zero => intro x1 x2 x3 I A h; exact h.elim
  | succ n hL4 =>
    intro x1 x2 x3 I A h
    rw [wlX8_countLost_4] at h
    refine g_iload_n (n := 5) dX8_countLost_4 rfl rfl rfl ?_
    refine g_aload_n (n := 6) dX8_countLost_5 rfl rfl rfl ?_
    refine g_getR (n := 9) (k := 0) dX8_countLost_6 sC_8 vc_12 (Nat.le_of_ble_eq_true rfl) rfl w_399 rfl ?_
    refine g_getIE (n := 12) (k := 0) (x := (I 9 0)) dX8_countLost_9 sC_9 vc_8 (Nat.le_of_ble_eq_true rfl) rfl w_239 rfl rfl ?_
    refine g_icmp_ge (n := 15) 40 dX8_countLost_12 (by decide) rfl (fun hc => ?_) (fun hc => ?_)
    · have h := h.1 hc
      refine g_iload_n (n := 41) dX8_countLost_40 rfl rfl rfl ?_
      exact g_iret rfl rfl dX8_countLost_41 ⟨rfl, _, rfl, h⟩
    · have h := h.2 hc
      refine g_iload_n (n := 16) dX8_countLost_15 rfl rfl rfl ?_
      refine g_iconst (n := 17) (v := (nI 1)) dX8_countLost_16 rfl rfl ?_
      refine g_iload_n (n := 18) dX8_countLost_17 rfl rfl rfl ?_
      refine g_ishl (n := 19) dX8_countLost_18 rfl ?_
      refine g_iand (n := 20) dX8_countLost_19 rfl ?_
      refine g_if_eq (n := 23) 34 dX8_countLost_20 (by decide) rfl (fun hc => ?_) (fun hc => ?_)
      · have h := h.1 hc
        refine g_iinc (n := 37) (v := (x3 + nI 1)) (ls' := [some (.ref 8), some (.int x1), some (.int x2), some (.int (x3 + nI 1))]) dX8_countLost_34 rfl rfl rfl (Nat.le_of_ble_eq_true rfl) rfl rfl ?_
        refine g_goto 4 dX8_countLost_37 (by decide) ?_
        exact hL4 _ _ _ _ _ h
      · have h := h.2 hc
        refine g_iload_n (n := 24) dX8_countLost_23 rfl rfl rfl ?_
        refine g_aload_n (n := 25) dX8_countLost_24 rfl rfl rfl ?_
        refine g_iload_n (n := 26) dX8_countLost_25 rfl rfl rfl ?_
        refine g_callV (n := 29) (as := [.int x3]) (bc' := 0) (bs' := 0) sC_8 vc_12 (ctX8_lostSet h) okX8_lostSet rfl w_752 w_753 w_754 w_100 dX8_countLost_26 rfl rfl (Nat.le_of_ble_eq_true rfl) (Nat.le_of_ble_eq_true rfl) (Nat.le_of_ble_eq_true rfl) (Nat.le_of_ble_eq_true rfl) rfl (fun E sh1 I1 A1 hp _ => hp.2.elim) (fun ro sh_ I_1 A_2 hp hle => ?_)
        obtain ⟨rfl, r_3, rfl, h⟩ := hp
        refine g_callS (n := 32) (as := [.int r_3]) (bc' := 0) (bs' := 0) (ctJ6_bitCount_0f7a4 h) okJ6_bitCount_0f7a4 w_1013 w_1014 dX8_countLost_29 rfl rfl (Nat.le_of_ble_eq_true rfl) (Nat.le_of_ble_eq_true rfl) (Nat.le_of_ble_eq_true rfl) (Nat.le_of_ble_eq_true rfl) rfl (fun E sh1 I1 A1 hp _ => hp.2.elim) (fun ro sh_ I_4 A_5 hp hle => ?_)
        obtain ⟨rfl, r_6, rfl, h⟩ := hp
        refine g_iadd (n := 33) dX8_countLost_32 rfl ?_
        refine g_topi (fun y_7 ey_7 => ?_)
        have h := h y_7 ey_7
        refine g_istore_n (n := 34) (ls' := [some (.ref 8), some (.int x1), some (.int y_7), some (.int x3)]) dX8_countLost_33 rfl rfl (Nat.le_of_ble_eq_true rfl) (Nat.le_of_ble_eq_true rfl) rfl rfl ?_
        refine g_iinc (n := 37) (v := (x3 + nI 1)) (ls' := [some (.ref 8), some (.int x1), some (.int y_7), some (.int (x3 + nI 1))]) dX8_countLost_34 rfl rfl rfl (Nat.le_of_ble_eq_true rfl) rfl rfl ?_
        refine g_goto 4 dX8_countLost_37 (by decide) ?_
        exact hL4 _ _ _ _ _ h
set_option maxRecDepth 20000 in
theorem ctX8_countLost {Z : ab_Z} {K : Int32 → ab_F → ab_F → Prop} {I A : ab_F} {p0 : Int32} (h : wX8_countLost K I A p0) : ab_Cl mX8_countLost 2 0 0 [.ref 8, .int p0] (shC Z) I A (ab_Px (shC Z) ab_no (ab_ri K)) := by
  refine ab_enter (ls := [some (.ref 8), some (.int p0), none, none]) (by decide +kernel) (Nat.le_of_ble_eq_true rfl) rfl (fun C => ?_)
  unfold wX8_countLost at h
  refine g_iconst (n := 1) (v := (nI 0)) dX8_countLost_0 rfl rfl ?_
  refine g_istore_n (n := 2) (ls' := [some (.ref 8), some (.int p0), some (.int (nI 0)), none]) dX8_countLost_1 rfl rfl (Nat.le_of_ble_eq_true rfl) (Nat.le_of_ble_eq_true rfl) rfl rfl ?_
  refine g_iconst (n := 3) (v := (nI 0)) dX8_countLost_2 rfl rfl ?_
  refine g_istore_n (n := 4) (ls' := [some (.ref 8), some (.int p0), some (.int (nI 0)), some (.int (nI 0))]) dX8_countLost_3 rfl rfl (Nat.le_of_ble_eq_true rfl) (Nat.le_of_ble_eq_true rfl) rfl rfl ?_
  refine g_less (bc' := 0) (bs' := 0) (Nat.le_of_ble_eq_true rfl) (Nat.le_of_ble_eq_true rfl) ?_
  obtain ⟨n_f, h⟩ := h
  exact tlX8_countLost_4  n_f _ _ _ _ _ h
def wjX8_bestSet_91 (K : Int32 → ab_F → ab_F → Prop) (L19 : Int32 → Int32 → Int32 → Int32 → Int32 → Int32 → ab_F → ab_F → Prop) (x1 : Int32) (x5 : Int32) (x6 : Int32) (x7 : Int32) (x8 : Int32) (I A : ab_F) : Prop := L19 x1 x6 x8 x7 x5 (x6 + nI 1) I A
def wjX8_bestSet_74 (K : Int32 → ab_F → ab_F → Prop) (L19 : Int32 → Int32 → Int32 → Int32 → Int32 → Int32 → ab_F → ab_F → Prop) (x1 : Int32) (x2 : Int32) (x3 : Int32) (x4 : Int32) (x5 : Int32) (x6 : Int32) (x7 : Int32) (x8 : Int32) (s0 : Int32) (I A : ab_F) : Prop := ((x1 < x7 → L19 x1 x2 x3 x4 x5 (x6 + nI 1) I A) ∧ (¬ x1 < x7 → ((x2 = 0 → wjX8_bestSet_91 K L19 x1 x5 x6 x7 x8 I A) ∧ (¬ x2 = 0 → ((s0 = 0 → L19 x1 x2 x3 x4 x5 (x6 + nI 1) I A) ∧ (¬ s0 = 0 → wjX8_bestSet_91 K L19 x1 x5 x6 x7 x8 I A))))))
def wjX8_bestSet_69 (K : Int32 → ab_F → ab_F → Prop) (L19 : Int32 → Int32 → Int32 → Int32 → Int32 → Int32 → ab_F → ab_F → Prop) (x1 : Int32) (x2 : Int32) (x3 : Int32) (x4 : Int32) (x5 : Int32) (x6 : Int32) (x7 : Int32) (x8 : Int32) (I A : ab_F) : Prop := wjX8_bestSet_74 K L19 x1 x2 x3 x4 x5 x6 x7 x8 (nI 1) I A
def wjX8_bestSet_73 (K : Int32 → ab_F → ab_F → Prop) (L19 : Int32 → Int32 → Int32 → Int32 → Int32 → Int32 → ab_F → ab_F → Prop) (x1 : Int32) (x2 : Int32) (x3 : Int32) (x4 : Int32) (x5 : Int32) (x6 : Int32) (x7 : Int32) (x8 : Int32) (I A : ab_F) : Prop := wjX8_bestSet_74 K L19 x1 x2 x3 x4 x5 x6 x7 x8 (nI 0) I A
def wlX8_bestSet_19 (K : Int32 → ab_F → ab_F → Prop) : Nat → Int32 → Int32 → Int32 → Int32 → Int32 → Int32 → ab_F → ab_F → Prop
  | 0, _, _, _, _, _, _, _, _ => False
  | n + 1, x1, x2, x3, x4, x5, x6, I, A => ((x5 < x6 → K x2 I A) ∧ (¬ x5 < x6 → wX4_countDirty (fun r_6 I_4 A_5 => wX8_countLost (fun r_9 I_7 A_8 => ((r_9 < x3 → wjX8_bestSet_69 K (wlX8_bestSet_19 K n) x1 x2 x3 x4 x5 x6 r_6 r_9 I_7 A_8) ∧ (¬ r_9 < x3 → ((¬ r_9 = x3 → wjX8_bestSet_73 K (wlX8_bestSet_19 K n) x1 x2 x3 x4 x5 x6 r_6 r_9 I_7 A_8) ∧ (r_9 = x3 → ((x4 ≤ r_6 → wjX8_bestSet_73 K (wlX8_bestSet_19 K n) x1 x2 x3 x4 x5 x6 r_6 r_9 I_7 A_8) ∧ (¬ x4 ≤ r_6 → wjX8_bestSet_69 K (wlX8_bestSet_19 K n) x1 x2 x3 x4 x5 x6 r_6 r_9 I_7 A_8))))))) I_4 A_5 (x5 &&& (x6 ^^^ (-1 : Int32)))) I A x6))
def wX8_bestSet (K : Int32 → ab_F → ab_F → Prop) (I A : ab_F) (p0 : Int32) : Prop := wX4_everyProcess (fun r_3 I_1 A_2 => (∃ nf : Nat, wlX8_bestSet_19 K nf p0 (nI 0) (nI 0) (nI 0) r_3 (nI 1) I_1 A_2)) I A 
set_option maxRecDepth 20000 in
theorem tjX8_bestSet_91 {C : ab_X} {Z : ab_Z} {K : Int32 → ab_F → ab_F → Prop} {L19 : Int32 → Int32 → Int32 → Int32 → Int32 → Int32 → ab_F → ab_F → Prop} (hL19 : ∀ (x1 : Int32) (x2 : Int32) (x3 : Int32) (x4 : Int32) (x5 : Int32) (x6 : Int32) (I A : ab_F), L19 x1 x2 x3 x4 x5 x6 I A → ab_G mX8_bestSet 3 C (ab_Px (shC Z) ab_no (ab_ri K)) 19 [some (.ref 8), some (.int x1), some (.int x2), some (.int x3), some (.int x4), some (.int x5), some (.int x6), none, none, none] [] (shC Z) I A 0 0) (x1 : Int32) (x5 : Int32) (x6 : Int32) (x7 : Int32) (x8 : Int32) (I A : ab_F) (h : wjX8_bestSet_91 K L19 x1 x5 x6 x7 x8 I A) : ab_G mX8_bestSet 3 C (ab_Px (shC Z) ab_no (ab_ri K)) 91 [some (.ref 8), some (.int x1), none, none, none, some (.int x5), some (.int x6), some (.int x7), some (.int x8), none] [] (shC Z) I A 0 0 := by
  unfold wjX8_bestSet_91 at h
  refine g_iload (n := 93) dX8_bestSet_91 rfl rfl ?_
  refine g_istore_n (n := 94) (ls' := [some (.ref 8), some (.int x1), some (.int x6), none, none, some (.int x5), some (.int x6), some (.int x7), some (.int x8), none]) dX8_bestSet_93 rfl rfl (Nat.le_of_ble_eq_true rfl) (Nat.le_of_ble_eq_true rfl) rfl rfl ?_
  refine g_iload (n := 96) dX8_bestSet_94 rfl rfl ?_
  refine g_istore_n (n := 97) (ls' := [some (.ref 8), some (.int x1), some (.int x6), some (.int x8), none, some (.int x5), some (.int x6), some (.int x7), some (.int x8), none]) dX8_bestSet_96 rfl rfl (Nat.le_of_ble_eq_true rfl) (Nat.le_of_ble_eq_true rfl) rfl rfl ?_
  refine g_iload (n := 99) dX8_bestSet_97 rfl rfl ?_
  refine g_istore (n := 101) (ls' := [some (.ref 8), some (.int x1), some (.int x6), some (.int x8), some (.int x7), some (.int x5), some (.int x6), some (.int x7), some (.int x8), none]) dX8_bestSet_99 rfl (Nat.le_of_ble_eq_true rfl) (Nat.le_of_ble_eq_true rfl) rfl rfl ?_
  refine g_iinc (n := 104) (v := (x6 + nI 1)) (ls' := [some (.ref 8), some (.int x1), some (.int x6), some (.int x8), some (.int x7), some (.int x5), some (.int (x6 + nI 1)), some (.int x7), some (.int x8), none]) dX8_bestSet_101 rfl rfl rfl (Nat.le_of_ble_eq_true rfl) rfl rfl ?_
  refine g_goto 19 dX8_bestSet_104 (by decide) ?_
  refine g_forget (ls' := [some (.ref 8), some (.int x1), some (.int x6), some (.int x8), some (.int x7), some (.int x5), some (.int (x6 + nI 1)), none, none, none]) (ab_fg rfl) ?_
  exact hL19 _ _ _ _ _ _ _ _ h
set_option maxRecDepth 20000 in
theorem tjX8_bestSet_74 {C : ab_X} {Z : ab_Z} {K : Int32 → ab_F → ab_F → Prop} {L19 : Int32 → Int32 → Int32 → Int32 → Int32 → Int32 → ab_F → ab_F → Prop} (hL19 : ∀ (x1 : Int32) (x2 : Int32) (x3 : Int32) (x4 : Int32) (x5 : Int32) (x6 : Int32) (I A : ab_F), L19 x1 x2 x3 x4 x5 x6 I A → ab_G mX8_bestSet 3 C (ab_Px (shC Z) ab_no (ab_ri K)) 19 [some (.ref 8), some (.int x1), some (.int x2), some (.int x3), some (.int x4), some (.int x5), some (.int x6), none, none, none] [] (shC Z) I A 0 0) (x1 : Int32) (x2 : Int32) (x3 : Int32) (x4 : Int32) (x5 : Int32) (x6 : Int32) (x7 : Int32) (x8 : Int32) (s0 : Int32) (I A : ab_F) (h : wjX8_bestSet_74 K L19 x1 x2 x3 x4 x5 x6 x7 x8 s0 I A) : ab_G mX8_bestSet 3 C (ab_Px (shC Z) ab_no (ab_ri K)) 74 [some (.ref 8), some (.int x1), some (.int x2), some (.int x3), some (.int x4), some (.int x5), some (.int x6), some (.int x7), some (.int x8), none] [.int s0] (shC Z) I A 0 0 := by
  unfold wjX8_bestSet_74 at h
  refine g_istore (n := 76) (ls' := [some (.ref 8), some (.int x1), some (.int x2), some (.int x3), some (.int x4), some (.int x5), some (.int x6), some (.int x7), some (.int x8), some (.int s0)]) dX8_bestSet_74 rfl (Nat.le_of_ble_eq_true rfl) (Nat.le_of_ble_eq_true rfl) rfl rfl ?_
  refine g_iload (n := 78) dX8_bestSet_76 rfl rfl ?_
  refine g_iload_n (n := 79) dX8_bestSet_78 rfl rfl rfl ?_
  refine g_icmp_gt (n := 82) 101 dX8_bestSet_79 (by decide) rfl (fun hc => ?_) (fun hc => ?_)
  · have h := h.1 hc
    refine g_iinc (n := 104) (v := (x6 + nI 1)) (ls' := [some (.ref 8), some (.int x1), some (.int x2), some (.int x3), some (.int x4), some (.int x5), some (.int (x6 + nI 1)), some (.int x7), some (.int x8), some (.int s0)]) dX8_bestSet_101 rfl rfl rfl (Nat.le_of_ble_eq_true rfl) rfl rfl ?_
    refine g_goto 19 dX8_bestSet_104 (by decide) ?_
    refine g_forget (ls' := [some (.ref 8), some (.int x1), some (.int x2), some (.int x3), some (.int x4), some (.int x5), some (.int (x6 + nI 1)), none, none, none]) (ab_fg rfl) ?_
    exact hL19 _ _ _ _ _ _ _ _ h
  · have h := h.2 hc
    refine g_iload_n (n := 83) dX8_bestSet_82 rfl rfl rfl ?_
    refine g_if_eq (n := 86) 91 dX8_bestSet_83 (by decide) rfl (fun hc => ?_) (fun hc => ?_)
    · have h := h.1 hc
      refine g_forget (ls' := [some (.ref 8), some (.int x1), none, none, none, some (.int x5), some (.int x6), some (.int x7), some (.int x8), none]) (ab_fg rfl) ?_
      refine g_less (bc' := 0) (bs' := 0) (Nat.le_of_ble_eq_true rfl) (Nat.le_of_ble_eq_true rfl) ?_
      exact tjX8_bestSet_91 hL19 _ _ _ _ _ _ _ h
    · have h := h.2 hc
      refine g_iload (n := 88) dX8_bestSet_86 rfl rfl ?_
      refine g_if_eq (n := 91) 101 dX8_bestSet_88 (by decide) rfl (fun hc => ?_) (fun hc => ?_)
      · have h := h.1 hc
        refine g_iinc (n := 104) (v := (x6 + nI 1)) (ls' := [some (.ref 8), some (.int x1), some (.int x2), some (.int x3), some (.int x4), some (.int x5), some (.int (x6 + nI 1)), some (.int x7), some (.int x8), some (.int s0)]) dX8_bestSet_101 rfl rfl rfl (Nat.le_of_ble_eq_true rfl) rfl rfl ?_
        refine g_goto 19 dX8_bestSet_104 (by decide) ?_
        refine g_forget (ls' := [some (.ref 8), some (.int x1), some (.int x2), some (.int x3), some (.int x4), some (.int x5), some (.int (x6 + nI 1)), none, none, none]) (ab_fg rfl) ?_
        exact hL19 _ _ _ _ _ _ _ _ h
      · have h := h.2 hc
        refine g_forget (ls' := [some (.ref 8), some (.int x1), none, none, none, some (.int x5), some (.int x6), some (.int x7), some (.int x8), none]) (ab_fg rfl) ?_
        refine g_less (bc' := 0) (bs' := 0) (Nat.le_of_ble_eq_true rfl) (Nat.le_of_ble_eq_true rfl) ?_
        exact tjX8_bestSet_91 hL19 _ _ _ _ _ _ _ h
set_option maxRecDepth 20000 in
theorem tjX8_bestSet_69 {C : ab_X} {Z : ab_Z} {K : Int32 → ab_F → ab_F → Prop} {L19 : Int32 → Int32 → Int32 → Int32 → Int32 → Int32 → ab_F → ab_F → Prop} (hL19 : ∀ (x1 : Int32) (x2 : Int32) (x3 : Int32) (x4 : Int32) (x5 : Int32) (x6 : Int32) (I A : ab_F), L19 x1 x2 x3 x4 x5 x6 I A → ab_G mX8_bestSet 3 C (ab_Px (shC Z) ab_no (ab_ri K)) 19 [some (.ref 8), some (.int x1), some (.int x2), some (.int x3), some (.int x4), some (.int x5), some (.int x6), none, none, none] [] (shC Z) I A 0 0) (x1 : Int32) (x2 : Int32) (x3 : Int32) (x4 : Int32) (x5 : Int32) (x6 : Int32) (x7 : Int32) (x8 : Int32) (I A : ab_F) (h : wjX8_bestSet_69 K L19 x1 x2 x3 x4 x5 x6 x7 x8 I A) : ab_G mX8_bestSet 3 C (ab_Px (shC Z) ab_no (ab_ri K)) 69 [some (.ref 8), some (.int x1), some (.int x2), some (.int x3), some (.int x4), some (.int x5), some (.int x6), some (.int x7), some (.int x8), none] [] (shC Z) I A 0 0 := by
  unfold wjX8_bestSet_69 at h
  refine g_iconst (n := 70) (v := (nI 1)) dX8_bestSet_69 rfl rfl ?_
  refine g_goto 74 dX8_bestSet_70 (by decide) ?_
  refine g_less (bc' := 0) (bs' := 0) (Nat.le_of_ble_eq_true rfl) (Nat.le_of_ble_eq_true rfl) ?_
  exact tjX8_bestSet_74 hL19 _ _ _ _ _ _ _ _ _ _ _ h
set_option maxRecDepth 20000 in
theorem tjX8_bestSet_73 {C : ab_X} {Z : ab_Z} {K : Int32 → ab_F → ab_F → Prop} {L19 : Int32 → Int32 → Int32 → Int32 → Int32 → Int32 → ab_F → ab_F → Prop} (hL19 : ∀ (x1 : Int32) (x2 : Int32) (x3 : Int32) (x4 : Int32) (x5 : Int32) (x6 : Int32) (I A : ab_F), L19 x1 x2 x3 x4 x5 x6 I A → ab_G mX8_bestSet 3 C (ab_Px (shC Z) ab_no (ab_ri K)) 19 [some (.ref 8), some (.int x1), some (.int x2), some (.int x3), some (.int x4), some (.int x5), some (.int x6), none, none, none] [] (shC Z) I A 0 0) (x1 : Int32) (x2 : Int32) (x3 : Int32) (x4 : Int32) (x5 : Int32) (x6 : Int32) (x7 : Int32) (x8 : Int32) (I A : ab_F) (h : wjX8_bestSet_73 K L19 x1 x2 x3 x4 x5 x6 x7 x8 I A) : ab_G mX8_bestSet 3 C (ab_Px (shC Z) ab_no (ab_ri K)) 73 [some (.ref 8), some (.int x1), some (.int x2), some (.int x3), some (.int x4), some (.int x5), some (.int x6), some (.int x7), some (.int x8), none] [] (shC Z) I A 0 0 := by
  unfold wjX8_bestSet_73 at h
  refine g_iconst (n := 74) (v := (nI 0)) dX8_bestSet_73 rfl rfl ?_
  refine g_less (bc' := 0) (bs' := 0) (Nat.le_of_ble_eq_true rfl) (Nat.le_of_ble_eq_true rfl) ?_
  exact tjX8_bestSet_74 hL19 _ _ _ _ _ _ _ _ _ _ _ h
set_option maxRecDepth 20000 in
theorem tlX8_bestSet_19 {C : ab_X} {Z : ab_Z} {K : Int32 → ab_F → ab_F → Prop} : ∀ (n : Nat) (x1 : Int32) (x2 : Int32) (x3 : Int32) (x4 : Int32) (x5 : Int32) (x6 : Int32) (I A : ab_F), wlX8_bestSet_19 K n x1 x2 x3 x4 x5 x6 I A → ab_G mX8_bestSet 3 C (ab_Px (shC Z) ab_no (ab_ri K)) 19 [some (.ref 8), some (.int x1), some (.int x2), some (.int x3), some (.int x4), some (.int x5), some (.int x6), none, none, none] [] (shC Z) I A 0 0 := by
  intro n
  induction n with
  | zero => intro x1 x2 x3 x4 x5 x6 I A h; exact h.elim
  | succ n hL19 =>
    intro x1 x2 x3 x4 x5 x6 I A h
    rw [wlX8_bestSet_19] at h
    refine g_iload (n := 21) dX8_bestSet_19 rfl rfl ?_
    refine g_iload (n := 23) dX8_bestSet_21 rfl rfl ?_
    refine g_icmp_gt (n := 26) 107 dX8_bestSet_23 (by decide) rfl (fun hc => ?_) (fun hc => ?_)
    · have h := h.1 hc
      refine g_iload_n (n := 108) dX8_bestSet_107 rfl rfl rfl ?_
      exact g_iret rfl rfl dX8_bestSet_108 ⟨rfl, _, rfl, h⟩
    · have h := h.2 hc
      refine g_aload_n (n := 27) dX8_bestSet_26 rfl rfl rfl ?_
      refine g_getR (n := 30) (k := 0) dX8_bestSet_27 sC_8 vc_12 (Nat.le_of_ble_eq_true rfl) rfl w_399 rfl ?_
      refine g_iload (n := 32) dX8_bestSet_30 rfl rfl ?_
      refine g_callV (n := 35) (as := [.int x6]) (bc' := 0) (bs' := 0) sC_9 vc_8 (ctX4_countDirty h) okX4_countDirty rfl w_1800 w_1772 w_1773 w_101 dX8_bestSet_32 rfl rfl (Nat.le_of_ble_eq_true rfl) (Nat.le_of_ble_eq_true rfl) (Nat.le_of_ble_eq_true rfl) (Nat.le_of_ble_eq_true rfl) rfl (fun E sh1 I1 A1 hp _ => hp.2.elim) (fun ro sh_ I_4 A_5 hp hle => ?_)
      obtain ⟨rfl, r_6, rfl, h⟩ := hp
      refine g_istore (n := 37) (ls' := [some (.ref 8), some (.int x1), some (.int x2), some (.int x3), some (.int x4), some (.int x5), some (.int x6), some (.int r_6), none, none]) dX8_bestSet_35 rfl (Nat.le_of_ble_eq_true rfl) (Nat.le_of_ble_eq_true rfl) rfl rfl ?_
      refine g_aload_n (n := 38) dX8_bestSet_37 rfl rfl rfl ?_
      refine g_iload (n := 40) dX8_bestSet_38 rfl rfl ?_
      refine g_iload (n := 42) dX8_bestSet_40 rfl rfl ?_
      refine g_iconst (n := 43) (v := (-1 : Int32)) dX8_bestSet_42 rfl rfl ?_
      refine g_ixor (n := 44) dX8_bestSet_43 rfl ?_
      refine g_iand (n := 45) dX8_bestSet_44 rfl ?_
      refine g_callV (n := 48) (as := [.int (x5 &&& (x6 ^^^ (-1 : Int32)))]) (bc' := 0) (bs' := 0) sC_8 vc_12 (ctX8_countLost h) okX8_countLost rfl w_1801 w_1802 w_1803 w_100 dX8_bestSet_45 rfl rfl (Nat.le_of_ble_eq_true rfl) (Nat.le_of_ble_eq_true rfl) (Nat.le_of_ble_eq_true rfl) (Nat.le_of_ble_eq_true rfl) rfl (fun E sh1 I1 A1 hp _ => hp.2.elim) (fun ro sh_ I_7 A_8 hp hle => ?_)
      obtain ⟨rfl, r_9, rfl, h⟩ := hp
      refine g_istore (n := 50) (ls' := [some (.ref 8), some (.int x1), some (.int x2), some (.int x3), some (.int x4), some (.int x5), some (.int x6), some (.int r_6), some (.int r_9), none]) dX8_bestSet_48 rfl (Nat.le_of_ble_eq_true rfl) (Nat.le_of_ble_eq_true rfl) rfl rfl ?_
      refine g_iload (n := 52) dX8_bestSet_50 rfl rfl ?_
      refine g_iload_n (n := 53) dX8_bestSet_52 rfl rfl rfl ?_
      refine g_icmp_lt (n := 56) 69 dX8_bestSet_53 (by decide) rfl (fun hc => ?_) (fun hc => ?_)
      · have h := h.1 hc
        refine g_less (bc' := 0) (bs' := 0) (Nat.le_of_ble_eq_true rfl) (Nat.le_of_ble_eq_true rfl) ?_
        exact tjX8_bestSet_69 hL19 _ _ _ _ _ _ _ _ _ _ h
      · have h := h.2 hc
        refine g_iload (n := 58) dX8_bestSet_56 rfl rfl ?_
        refine g_iload_n (n := 59) dX8_bestSet_58 rfl rfl rfl ?_
        refine g_icmp_ne (n := 62) 73 dX8_bestSet_59 (by decide) rfl (fun hc => ?_) (fun hc => ?_)
        · have h := h.1 hc
          refine g_less (bc' := 0) (bs' := 0) (Nat.le_of_ble_eq_true rfl) (Nat.le_of_ble_eq_true rfl) ?_
          exact tjX8_bestSet_73 hL19 _ _ _ _ _ _ _ _ _ _ h
        · have h := h.2 hc
          refine g_iload (n := 64) dX8_bestSet_62 rfl rfl ?_
          refine g_iload (n := 66) dX8_bestSet_64 rfl rfl ?_
          refine g_icmp_ge (n := 69) 73 dX8_bestSet_66 (by decide) rfl (fun hc => ?_) (fun hc => ?_)
          · have h := h.1 hc
            refine g_less (bc' := 0) (bs' := 0) (Nat.le_of_ble_eq_true rfl) (Nat.le_of_ble_eq_true rfl) ?_
            exact tjX8_bestSet_73 hL19 _ _ _ _ _ _ _ _ _ _ h
          · have h := h.2 hc
            refine g_less (bc' := 0) (bs' := 0) (Nat.le_of_ble_eq_true rfl) (Nat.le_of_ble_eq_true rfl) ?_
            exact tjX8_bestSet_69 hL19 _ _ _ _ _ _ _ _ _ _ h
set_option maxRecDepth 20000 in
theorem ctX8_bestSet {Z : ab_Z} {K : Int32 → ab_F → ab_F → Prop} {I A : ab_F} {p0 : Int32} (h : wX8_bestSet K I A p0) : ab_Cl mX8_bestSet 3 0 0 [.ref 8, .int p0] (shC Z) I A (ab_Px (shC Z) ab_no (ab_ri K)) := by
  refine ab_enter (ls := [some (.ref 8), some (.int p0), none, none, none, none, none, none, none, none]) (by decide +kernel) (Nat.le_of_ble_eq_true rfl) rfl (fun C => ?_)
  unfold wX8_bestSet at h
  refine g_iconst (n := 1) (v := (nI 0)) dX8_bestSet_0 rfl rfl ?_
  refine g_istore_n (n := 2) (ls' := [some (.ref 8), some (.int p0), some (.int (nI 0)), none, none, none, none, none, none, none]) dX8_bestSet_1 rfl rfl (Nat.le_of_ble_eq_true rfl) (Nat.le_of_ble_eq_true rfl) rfl rfl ?_
  refine g_iconst (n := 3) (v := (nI 0)) dX8_bestSet_2 rfl rfl ?_
  refine g_istore_n (n := 4) (ls' := [some (.ref 8), some (.int p0), some (.int (nI 0)), some (.int (nI 0)), none, none, none, none, none, none]) dX8_bestSet_3 rfl rfl (Nat.le_of_ble_eq_true rfl) (Nat.le_of_ble_eq_true rfl) rfl rfl ?_
  refine g_iconst (n := 5) (v := (nI 0)) dX8_bestSet_4 rfl rfl ?_
  refine g_istore (n := 7) (ls' := [some (.ref 8), some (.int p0), some (.int (nI 0)), some (.int (nI 0)), some (.int (nI 0)), none, none, none, none, none]) dX8_bestSet_5 rfl (Nat.le_of_ble_eq_true rfl) (Nat.le_of_ble_eq_true rfl) rfl rfl ?_
  refine g_aload_n (n := 8) dX8_bestSet_7 rfl rfl rfl ?_
  refine g_getR (n := 11) (k := 0) dX8_bestSet_8 sC_8 vc_12 (Nat.le_of_ble_eq_true rfl) rfl w_399 rfl ?_
  refine g_callV (n := 14) (as := []) (bc' := 0) (bs' := 0) sC_9 vc_8 (ctX4_everyProcess h) okX4_everyProcess rfl w_1799 w_863 w_864 w_101 dX8_bestSet_11 rfl rfl (Nat.le_of_ble_eq_true rfl) (Nat.le_of_ble_eq_true rfl) (Nat.le_of_ble_eq_true rfl) (Nat.le_of_ble_eq_true rfl) rfl (fun E sh1 I1 A1 hp _ => hp.2.elim) (fun ro sh_ I_1 A_2 hp hle => ?_)
  obtain ⟨rfl, r_3, rfl, h⟩ := hp
  refine g_istore (n := 16) (ls' := [some (.ref 8), some (.int p0), some (.int (nI 0)), some (.int (nI 0)), some (.int (nI 0)), some (.int r_3), none, none, none, none]) dX8_bestSet_14 rfl (Nat.le_of_ble_eq_true rfl) (Nat.le_of_ble_eq_true rfl) rfl rfl ?_
  refine g_iconst (n := 17) (v := (nI 1)) dX8_bestSet_16 rfl rfl ?_
  refine g_istore (n := 19) (ls' := [some (.ref 8), some (.int p0), some (.int (nI 0)), some (.int (nI 0)), some (.int (nI 0)), some (.int r_3), some (.int (nI 1)), none, none, none]) dX8_bestSet_17 rfl (Nat.le_of_ble_eq_true rfl) (Nat.le_of_ble_eq_true rfl) rfl rfl ?_
  refine g_less (bc' := 0) (bs' := 0) (Nat.le_of_ble_eq_true rfl) (Nat.le_of_ble_eq_true rfl) ?_
  obtain ⟨n_f, h⟩ := h
  exact tlX8_bestSet_19  n_f _ _ _ _ _ _ _ _ h
def wX9_fail (K : Int32 → ab_F → ab_F → Prop) (I A : ab_F) (p0 : Int32) : Prop := K (nI 0) (wr (wr I 3 1 p0) 3 2 (I 1 2)) A
set_option maxRecDepth 20000 in
theorem ctX9_fail {Z : ab_Z} {K : Int32 → ab_F → ab_F → Prop} {I A : ab_F} {p0 : Int32} (h : wX9_fail K I A p0) : ab_Cl mX9_fail 0 0 0 [.ref 3, .int p0] (shC Z) I A (ab_Px (shC Z) ab_no (ab_ri K)) := by
  refine ab_enter (ls := [some (.ref 3), some (.int p0)]) (by decide +kernel) (Nat.le_of_ble_eq_true rfl) rfl (fun C => ?_)
  unfold wX9_fail at h
  refine g_aload_n (n := 1) dX9_fail_0 rfl rfl rfl ?_
  refine g_iload_n (n := 2) dX9_fail_1 rfl rfl rfl ?_
  refine g_putI (n := 5) (k := 1) dX9_fail_2 sC_3 vc_13 (Nat.le_of_ble_eq_true rfl) rfl w_177 rfl rfl rfl rfl rfl ?_
  refine g_aload_n (n := 6) dX9_fail_5 rfl rfl rfl ?_
  refine g_aload_n (n := 7) dX9_fail_6 rfl rfl rfl ?_
  refine g_getR (n := 10) (k := 0) dX9_fail_7 sC_3 vc_13 (Nat.le_of_ble_eq_true rfl) rfl w_176 rfl ?_
  refine g_getIE (n := 13) (k := 2) (x := (I 1 2)) dX9_fail_10 sC_1 vc_14 (Nat.le_of_ble_eq_true rfl) rfl w_153 rfl rfl ?_
  refine g_putI (n := 16) (k := 2) dX9_fail_13 sC_3 vc_13 (Nat.le_of_ble_eq_true rfl) rfl w_179 rfl rfl rfl rfl rfl ?_
  refine g_iconst (n := 17) (v := (nI 0)) dX9_fail_16 rfl rfl ?_
  exact g_iret rfl rfl dX9_fail_17 ⟨rfl, _, rfl, h⟩
def wjX9_readNumber_37 (K : Int32 → ab_F → ab_F → Prop)  (I A : ab_F) : Prop := wX9_fail (fun r_6 I_4 A_5 => K (-1 : Int32) I_4 A_5) I A (nI 2)
def wX9_readNumber (K : Int32 → ab_F → ab_F → Prop) (I A : ab_F) (p0 : Int32) : Prop := (((I 1 4) = (nI 2) → wX10_number (fun r_3 I_1 A_2 => ((r_3 < (nI 1) → wjX9_readNumber_37 K  I_1 A_2) ∧ (¬ r_3 < (nI 1) → ((r_3 ≤ p0 → wX10_nextToken (fun I_7 A_8 => K r_3 I_7 A_8) I_1 A_2 ) ∧ (¬ r_3 ≤ p0 → wjX9_readNumber_37 K  I_1 A_2))))) I A ) ∧ (¬ (I 1 4) = (nI 2) → wX9_fail (fun r_11 I_9 A_10 => K (-1 : Int32) I_9 A_10) I A (nI 1)))
set_option maxRecDepth 20000 in
theorem tjX9_readNumber_37 {C : ab_X} {Z : ab_Z} {K : Int32 → ab_F → ab_F → Prop}  (I A : ab_F) (h : wjX9_readNumber_37 K  I A) : ab_G mX9_readNumber 2 C (ab_Px (shC Z) ab_no (ab_ri K)) 37 [some (.ref 3), none, none] [] (shC Z) I A 0 0 := by
  unfold wjX9_readNumber_37 at h
  refine g_aload_n (n := 38) dX9_readNumber_37 rfl rfl rfl ?_
  refine g_iconst (n := 39) (v := (nI 2)) dX9_readNumber_38 rfl rfl ?_
  refine g_callV (n := 42) (as := [.int (nI 2)]) (bc' := 0) (bs' := 0) sC_3 vc_13 (ctX9_fail h) okX9_fail rfl w_632 w_634 w_1 w_98 dX9_readNumber_39 rfl rfl (Nat.le_of_ble_eq_true rfl) (Nat.le_of_ble_eq_true rfl) (Nat.le_of_ble_eq_true rfl) (Nat.le_of_ble_eq_true rfl) rfl (fun E sh1 I1 A1 hp _ => hp.2.elim) (fun ro sh_ I_4 A_5 hp hle => ?_)
  obtain ⟨rfl, r_6, rfl, h⟩ := hp
  refine g_pop (n := 43) dX9_readNumber_42 rfl rfl ?_
  refine g_iconst (n := 44) (v := (-1 : Int32)) dX9_readNumber_43 rfl rfl ?_
  exact g_iret rfl rfl dX9_readNumber_44 ⟨rfl, _, rfl, h⟩
set_option maxRecDepth 20000 in
theorem ctX9_readNumber {Z : ab_Z} {K : Int32 → ab_F → ab_F → Prop} {I A : ab_F} {p0 : Int32} (h : wX9_readNumber K I A p0) : ab_Cl mX9_readNumber 2 0 0 [.ref 3, .int p0] (shC Z) I A (ab_Px (shC Z) ab_no (ab_ri K)) := by
  refine ab_enter (ls := [some (.ref 3), some (.int p0), none]) (by decide +kernel) (Nat.le_of_ble_eq_true rfl) rfl (fun C => ?_)
  unfold wX9_readNumber at h
  refine g_aload_n (n := 1) dX9_readNumber_0 rfl rfl rfl ?_
  refine g_getR (n := 4) (k := 0) dX9_readNumber_1 sC_3 vc_13 (Nat.le_of_ble_eq_true rfl) rfl w_176 rfl ?_
  refine g_getIE (n := 7) (k := 4) (x := (I 1 4)) dX9_readNumber_4 sC_1 vc_14 (Nat.le_of_ble_eq_true rfl) rfl w_156 rfl rfl ?_
  refine g_iconst (n := 8) (v := (nI 2)) dX9_readNumber_7 rfl rfl ?_
  refine g_icmp_eq (n := 11) 19 dX9_readNumber_8 (by decide) rfl (fun hc => ?_) (fun hc => ?_)
  · have h := h.1 hc
    refine g_aload_n (n := 20) dX9_readNumber_19 rfl rfl rfl ?_
    refine g_getR (n := 23) (k := 0) dX9_readNumber_20 sC_3 vc_13 (Nat.le_of_ble_eq_true rfl) rfl w_176 rfl ?_
    refine g_callV (n := 26) (as := []) (bc' := 0) (bs' := 0) sC_1 vc_14 (ctX10_number h) okX10_number rfl w_641 w_642 w_643 w_97 dX9_readNumber_23 rfl rfl (Nat.le_of_ble_eq_true rfl) (Nat.le_of_ble_eq_true rfl) (Nat.le_of_ble_eq_true rfl) (Nat.le_of_ble_eq_true rfl) rfl (fun E sh1 I1 A1 hp _ => hp.2.elim) (fun ro sh_ I_1 A_2 hp hle => ?_)
    obtain ⟨rfl, r_3, rfl, h⟩ := hp
    refine g_istore_n (n := 27) (ls' := [some (.ref 3), some (.int p0), some (.int r_3)]) dX9_readNumber_26 rfl rfl (Nat.le_of_ble_eq_true rfl) (Nat.le_of_ble_eq_true rfl) rfl rfl ?_
    refine g_iload_n (n := 28) dX9_readNumber_27 rfl rfl rfl ?_
    refine g_iconst (n := 29) (v := (nI 1)) dX9_readNumber_28 rfl rfl ?_
    refine g_icmp_lt (n := 32) 37 dX9_readNumber_29 (by decide) rfl (fun hc => ?_) (fun hc => ?_)
    · have h := h.1 hc
      refine g_forget (ls' := [some (.ref 3), none, none]) (ab_fg rfl) ?_
      refine g_less (bc' := 0) (bs' := 0) (Nat.le_of_ble_eq_true rfl) (Nat.le_of_ble_eq_true rfl) ?_
      exact tjX9_readNumber_37   _ _ h
    · have h := h.2 hc
      refine g_iload_n (n := 33) dX9_readNumber_32 rfl rfl rfl ?_
      refine g_iload_n (n := 34) dX9_readNumber_33 rfl rfl rfl ?_
      refine g_icmp_le (n := 37) 45 dX9_readNumber_34 (by decide) rfl (fun hc => ?_) (fun hc => ?_)
      · have h := h.1 hc
        refine g_aload_n (n := 46) dX9_readNumber_45 rfl rfl rfl ?_
        refine g_getR (n := 49) (k := 0) dX9_readNumber_46 sC_3 vc_13 (Nat.le_of_ble_eq_true rfl) rfl w_176 rfl ?_
        refine g_callV (n := 52) (as := []) (bc' := 0) (bs' := 0) sC_1 vc_14 (ctX10_nextToken h) okX10_nextToken rfl w_636 w_570 w_571 w_97 dX9_readNumber_49 rfl rfl (Nat.le_of_ble_eq_true rfl) (Nat.le_of_ble_eq_true rfl) (Nat.le_of_ble_eq_true rfl) (Nat.le_of_ble_eq_true rfl) rfl (fun E sh1 I1 A1 hp _ => hp.2.elim) (fun ro sh_ I_7 A_8 hp hle => ?_)
        obtain ⟨rfl, rfl, h⟩ := hp
        refine g_iload_n (n := 53) dX9_readNumber_52 rfl rfl rfl ?_
        exact g_iret rfl rfl dX9_readNumber_53 ⟨rfl, _, rfl, h⟩
      · have h := h.2 hc
        refine g_forget (ls' := [some (.ref 3), none, none]) (ab_fg rfl) ?_
        refine g_less (bc' := 0) (bs' := 0) (Nat.le_of_ble_eq_true rfl) (Nat.le_of_ble_eq_true rfl) ?_
        exact tjX9_readNumber_37   _ _ h
  · have h := h.2 hc
    refine g_aload_n (n := 12) dX9_readNumber_11 rfl rfl rfl ?_
    refine g_iconst (n := 13) (v := (nI 1)) dX9_readNumber_12 rfl rfl ?_
    refine g_callV (n := 16) (as := [.int (nI 1)]) (bc' := 0) (bs' := 0) sC_3 vc_13 (ctX9_fail h) okX9_fail rfl w_632 w_634 w_1 w_98 dX9_readNumber_13 rfl rfl (Nat.le_of_ble_eq_true rfl) (Nat.le_of_ble_eq_true rfl) (Nat.le_of_ble_eq_true rfl) (Nat.le_of_ble_eq_true rfl) rfl (fun E sh1 I1 A1 hp _ => hp.2.elim) (fun ro sh_ I_9 A_10 hp hle => ?_)
    obtain ⟨rfl, r_11, rfl, h⟩ := hp
    refine g_pop (n := 17) dX9_readNumber_16 rfl rfl ?_
    refine g_iconst (n := 18) (v := (-1 : Int32)) dX9_readNumber_17 rfl rfl ?_
    exact g_iret rfl rfl dX9_readNumber_18 ⟨rfl, _, rfl, h⟩
def wjX9_readWord_51 (K : Int32 → ab_F → ab_F → Prop) (x4 : Int32) (I A : ab_F) : Prop := ((¬ x4 = (-1 : Int32) → wX10_nextToken (fun I_10 A_11 => K x4 I_10 A_11) I A ) ∧ (x4 = (-1 : Int32) → wX9_fail (fun r_14 I_12 A_13 => K x4 I_12 A_13) I A (nI 1)))
def wX9_readWord (K : Int32 → ab_F → ab_F → Prop) (I A : ab_F) (p0 : Nat) (p1 : Nat) (p2 : Nat) : Prop := wX10_isWord (fun r_3 I_1 A_2 => ((r_3 = 0 → wX10_isWord (fun r_6 I_4 A_5 => ((r_6 = 0 → wX10_isWord (fun r_9 I_7 A_8 => ((r_9 = 0 → wjX9_readWord_51 K (-1 : Int32) I_7 A_8) ∧ (¬ r_9 = 0 → wjX9_readWord_51 K (nI 2) I_7 A_8))) I_4 A_5 p2) ∧ (¬ r_6 = 0 → wjX9_readWord_51 K (nI 1) I_4 A_5))) I_1 A_2 p1) ∧ (¬ r_3 = 0 → wjX9_readWord_51 K (nI 0) I_1 A_2))) I A p0
set_option maxRecDepth 20000 in
theorem tjX9_readWord_51 {C : ab_X} {Z : ab_Z} {K : Int32 → ab_F → ab_F → Prop} (x4 : Int32) (I A : ab_F) (h : wjX9_readWord_51 K x4 I A) : ab_G mX9_readWord 7 C (ab_Px (shC Z) ab_no (ab_ri K)) 51 [some (.ref 3), none, none, none, some (.int x4)] [] (shC Z) I A 0 0 := by
  unfold wjX9_readWord_51 at h
  refine g_iload (n := 53) dX9_readWord_51 rfl rfl ?_
  refine g_iconst (n := 54) (v := (-1 : Int32)) dX9_readWord_53 rfl rfl ?_
  refine g_icmp_ne (n := 57) 66 dX9_readWord_54 (by decide) rfl (fun hc => ?_) (fun hc => ?_)
  · have h := h.1 hc
    refine g_aload_n (n := 67) dX9_readWord_66 rfl rfl rfl ?_
    refine g_getR (n := 70) (k := 0) dX9_readWord_67 sC_3 vc_13 (Nat.le_of_ble_eq_true rfl) rfl w_176 rfl ?_
    refine g_callV (n := 73) (as := []) (bc' := 0) (bs' := 0) sC_1 vc_14 (ctX10_nextToken h) okX10_nextToken rfl w_636 w_570 w_571 w_97 dX9_readWord_70 rfl rfl (Nat.le_of_ble_eq_true rfl) (Nat.le_of_ble_eq_true rfl) (Nat.le_of_ble_eq_true rfl) (Nat.le_of_ble_eq_true rfl) rfl (fun E sh1 I1 A1 hp _ => hp.2.elim) (fun ro sh_ I_10 A_11 hp hle => ?_)
    obtain ⟨rfl, rfl, h⟩ := hp
    refine g_iload (n := 75) dX9_readWord_73 rfl rfl ?_
    exact g_iret rfl rfl dX9_readWord_75 ⟨rfl, _, rfl, h⟩
  · have h := h.2 hc
    refine g_aload_n (n := 58) dX9_readWord_57 rfl rfl rfl ?_
    refine g_iconst (n := 59) (v := (nI 1)) dX9_readWord_58 rfl rfl ?_
    refine g_callV (n := 62) (as := [.int (nI 1)]) (bc' := 0) (bs' := 0) sC_3 vc_13 (ctX9_fail h) okX9_fail rfl w_632 w_634 w_1 w_98 dX9_readWord_59 rfl rfl (Nat.le_of_ble_eq_true rfl) (Nat.le_of_ble_eq_true rfl) (Nat.le_of_ble_eq_true rfl) (Nat.le_of_ble_eq_true rfl) rfl (fun E sh1 I1 A1 hp _ => hp.2.elim) (fun ro sh_ I_12 A_13 hp hle => ?_)
    obtain ⟨rfl, r_14, rfl, h⟩ := hp
    refine g_pop (n := 63) dX9_readWord_62 rfl rfl ?_
    refine g_goto 73 dX9_readWord_63 (by decide) ?_
    refine g_iload (n := 75) dX9_readWord_73 rfl rfl ?_
    exact g_iret rfl rfl dX9_readWord_75 ⟨rfl, _, rfl, h⟩
set_option maxRecDepth 20000 in
theorem ctX9_readWord {Z : ab_Z} {K : Int32 → ab_F → ab_F → Prop} {I A : ab_F} {p0 : Nat} {p1 : Nat} {p2 : Nat} (h : wX9_readWord K I A p0 p1 p2) : ab_Cl mX9_readWord 7 0 0 [.ref 3, .retAddr (2 * p0), .retAddr (2 * p1), .retAddr (2 * p2)] (shC Z) I A (ab_Px (shC Z) ab_no (ab_ri K)) := by
  refine ab_enter (ls := [some (.ref 3), some (.retAddr (2 * p0)), some (.retAddr (2 * p1)), some (.retAddr (2 * p2)), none]) (by decide +kernel) (Nat.le_of_ble_eq_true rfl) rfl (fun C => ?_)
  unfold wX9_readWord at h
  refine g_iconst (n := 1) (v := (-1 : Int32)) dX9_readWord_0 rfl rfl ?_
  refine g_istore (n := 3) (ls' := [some (.ref 3), some (.retAddr (2 * p0)), some (.retAddr (2 * p1)), some (.retAddr (2 * p2)), some (.int (-1 : Int32))]) dX9_readWord_1 rfl (Nat.le_of_ble_eq_true rfl) (Nat.le_of_ble_eq_true rfl) rfl rfl ?_
  refine g_aload_n (n := 4) dX9_readWord_3 rfl rfl rfl ?_
  refine g_getR (n := 7) (k := 0) dX9_readWord_4 sC_3 vc_13 (Nat.le_of_ble_eq_true rfl) rfl w_176 rfl ?_
  refine g_aload_nK (n := 8) (x := 2 * p0) dX9_readWord_7 rfl rfl rfl ?_
  refine g_callV (n := 11) (as := [.retAddr (2 * p0)]) (bc' := 0) (bs' := 0) sC_1 vc_14 (ctX10_isWord h) okX10_isWord rfl w_581 w_582 w_583 w_97 dX9_readWord_8 rfl rfl (Nat.le_of_ble_eq_true rfl) (Nat.le_of_ble_eq_true rfl) (Nat.le_of_ble_eq_true rfl) (Nat.le_of_ble_eq_true rfl) rfl (fun E sh1 I1 A1 hp _ => hp.2.elim) (fun ro sh_ I_1 A_2 hp hle => ?_)
  obtain ⟨rfl, r_3, rfl, h⟩ := hp
  refine g_if_eq (n := 14) 20 dX9_readWord_11 (by decide) rfl (fun hc => ?_) (fun hc => ?_)
  · have h := h.1 hc
    refine g_aload_n (n := 21) dX9_readWord_20 rfl rfl rfl ?_
    refine g_getR (n := 24) (k := 0) dX9_readWord_21 sC_3 vc_13 (Nat.le_of_ble_eq_true rfl) rfl w_176 rfl ?_
    refine g_aload_nK (n := 25) (x := 2 * p1) dX9_readWord_24 rfl rfl rfl ?_
    refine g_callV (n := 28) (as := [.retAddr (2 * p1)]) (bc' := 0) (bs' := 0) sC_1 vc_14 (ctX10_isWord h) okX10_isWord rfl w_581 w_582 w_583 w_97 dX9_readWord_25 rfl rfl (Nat.le_of_ble_eq_true rfl) (Nat.le_of_ble_eq_true rfl) (Nat.le_of_ble_eq_true rfl) (Nat.le_of_ble_eq_true rfl) rfl (fun E sh1 I1 A1 hp _ => hp.2.elim) (fun ro sh_ I_4 A_5 hp hle => ?_)
    obtain ⟨rfl, r_6, rfl, h⟩ := hp
    refine g_if_eq (n := 31) 37 dX9_readWord_28 (by decide) rfl (fun hc => ?_) (fun hc => ?_)
    · have h := h.1 hc
      refine g_aload_n (n := 38) dX9_readWord_37 rfl rfl rfl ?_
      refine g_getR (n := 41) (k := 0) dX9_readWord_38 sC_3 vc_13 (Nat.le_of_ble_eq_true rfl) rfl w_176 rfl ?_
      refine g_aload_nK (n := 42) (x := 2 * p2) dX9_readWord_41 rfl rfl rfl ?_
      refine g_callV (n := 45) (as := [.retAddr (2 * p2)]) (bc' := 0) (bs' := 0) sC_1 vc_14 (ctX10_isWord h) okX10_isWord rfl w_581 w_582 w_583 w_97 dX9_readWord_42 rfl rfl (Nat.le_of_ble_eq_true rfl) (Nat.le_of_ble_eq_true rfl) (Nat.le_of_ble_eq_true rfl) (Nat.le_of_ble_eq_true rfl) rfl (fun E sh1 I1 A1 hp _ => hp.2.elim) (fun ro sh_ I_7 A_8 hp hle => ?_)
      obtain ⟨rfl, r_9, rfl, h⟩ := hp
      refine g_if_eq (n := 48) 51 dX9_readWord_45 (by decide) rfl (fun hc => ?_) (fun hc => ?_)
      · have h := h.1 hc
        refine g_forget (ls' := [some (.ref 3), none, none, none, some (.int (-1 : Int32))]) (ab_fg rfl) ?_
        refine g_less (bc' := 0) (bs' := 0) (Nat.le_of_ble_eq_true rfl) (Nat.le_of_ble_eq_true rfl) ?_
        exact tjX9_readWord_51  _ _ _ h
      · have h := h.2 hc
        refine g_iconst (n := 49) (v := (nI 2)) dX9_readWord_48 rfl rfl ?_
        refine g_istore (n := 51) (ls' := [some (.ref 3), some (.retAddr (2 * p0)), some (.retAddr (2 * p1)), some (.retAddr (2 * p2)), some (.int (nI 2))]) dX9_readWord_49 rfl (Nat.le_of_ble_eq_true rfl) (Nat.le_of_ble_eq_true rfl) rfl rfl ?_
        refine g_forget (ls' := [some (.ref 3), none, none, none, some (.int (nI 2))]) (ab_fg rfl) ?_
        refine g_less (bc' := 0) (bs' := 0) (Nat.le_of_ble_eq_true rfl) (Nat.le_of_ble_eq_true rfl) ?_
        exact tjX9_readWord_51  _ _ _ h
    · have h := h.2 hc
      refine g_iconst (n := 32) (v := (nI 1)) dX9_readWord_31 rfl rfl ?_
      refine g_istore (n := 34) (ls' := [some (.ref 3), some (.retAddr (2 * p0)), some (.retAddr (2 * p1)), some (.retAddr (2 * p2)), some (.int (nI 1))]) dX9_readWord_32 rfl (Nat.le_of_ble_eq_true rfl) (Nat.le_of_ble_eq_true rfl) rfl rfl ?_
      refine g_goto 51 dX9_readWord_34 (by decide) ?_
      refine g_forget (ls' := [some (.ref 3), none, none, none, some (.int (nI 1))]) (ab_fg rfl) ?_
      refine g_less (bc' := 0) (bs' := 0) (Nat.le_of_ble_eq_true rfl) (Nat.le_of_ble_eq_true rfl) ?_
      exact tjX9_readWord_51  _ _ _ h
  · have h := h.2 hc
    refine g_iconst (n := 15) (v := (nI 0)) dX9_readWord_14 rfl rfl ?_
    refine g_istore (n := 17) (ls' := [some (.ref 3), some (.retAddr (2 * p0)), some (.retAddr (2 * p1)), some (.retAddr (2 * p2)), some (.int (nI 0))]) dX9_readWord_15 rfl (Nat.le_of_ble_eq_true rfl) (Nat.le_of_ble_eq_true rfl) rfl rfl ?_
    refine g_goto 51 dX9_readWord_17 (by decide) ?_
    refine g_forget (ls' := [some (.ref 3), none, none, none, some (.int (nI 0))]) (ab_fg rfl) ?_
    refine g_less (bc' := 0) (bs' := 0) (Nat.le_of_ble_eq_true rfl) (Nat.le_of_ble_eq_true rfl) ?_
    exact tjX9_readWord_51  _ _ _ h
def wX9_readSemicolon (K : Int32 → ab_F → ab_F → Prop) (I A : ab_F)  : Prop := (((I 1 4) = (nI 3) → wX10_nextToken (fun I_1 A_2 => K (nI 1) I_1 A_2) I A ) ∧ (¬ (I 1 4) = (nI 3) → wX9_fail (fun r_5 I_3 A_4 => (narrow .boolean (.int r_5) = .int r_5 ∧ K r_5 I_3 A_4)) I A (nI 1)))
set_option maxRecDepth 20000 in
theorem ctX9_readSemicolon {Z : ab_Z} {K : Int32 → ab_F → ab_F → Prop} {I A : ab_F}  (h : wX9_readSemicolon K I A ) : ab_Cl mX9_readSemicolon 2 0 0 [.ref 3] (shC Z) I A (ab_Px (shC Z) ab_no (ab_ri K)) := by
  refine ab_enter (ls := [some (.ref 3)]) (by decide +kernel) (Nat.le_of_ble_eq_true rfl) rfl (fun C => ?_)
  unfold wX9_readSemicolon at h
  refine g_aload_n (n := 1) dX9_readSemicolon_0 rfl rfl rfl ?_
  refine g_getR (n := 4) (k := 0) dX9_readSemicolon_1 sC_3 vc_13 (Nat.le_of_ble_eq_true rfl) rfl w_176 rfl ?_
  refine g_getIE (n := 7) (k := 4) (x := (I 1 4)) dX9_readSemicolon_4 sC_1 vc_14 (Nat.le_of_ble_eq_true rfl) rfl w_156 rfl rfl ?_
  refine g_iconst (n := 8) (v := (nI 3)) dX9_readSemicolon_7 rfl rfl ?_
  refine g_icmp_eq (n := 11) 17 dX9_readSemicolon_8 (by decide) rfl (fun hc => ?_) (fun hc => ?_)
  · have h := h.1 hc
    refine g_aload_n (n := 18) dX9_readSemicolon_17 rfl rfl rfl ?_
    refine g_getR (n := 21) (k := 0) dX9_readSemicolon_18 sC_3 vc_13 (Nat.le_of_ble_eq_true rfl) rfl w_176 rfl ?_
    refine g_callV (n := 24) (as := []) (bc' := 0) (bs' := 0) sC_1 vc_14 (ctX10_nextToken h) okX10_nextToken rfl w_636 w_570 w_571 w_97 dX9_readSemicolon_21 rfl rfl (Nat.le_of_ble_eq_true rfl) (Nat.le_of_ble_eq_true rfl) (Nat.le_of_ble_eq_true rfl) (Nat.le_of_ble_eq_true rfl) rfl (fun E sh1 I1 A1 hp _ => hp.2.elim) (fun ro sh_ I_1 A_2 hp hle => ?_)
    obtain ⟨rfl, rfl, h⟩ := hp
    refine g_iconst (n := 25) (v := (nI 1)) dX9_readSemicolon_24 rfl rfl ?_
    exact g_iret rfl rfl dX9_readSemicolon_25 ⟨rfl, _, rfl, h⟩
  · have h := h.2 hc
    refine g_aload_n (n := 12) dX9_readSemicolon_11 rfl rfl rfl ?_
    refine g_iconst (n := 13) (v := (nI 1)) dX9_readSemicolon_12 rfl rfl ?_
    refine g_callV (n := 16) (as := [.int (nI 1)]) (bc' := 0) (bs' := 0) sC_3 vc_13 (ctX9_fail h) okX9_fail rfl w_632 w_634 w_1 w_98 dX9_readSemicolon_13 rfl rfl (Nat.le_of_ble_eq_true rfl) (Nat.le_of_ble_eq_true rfl) (Nat.le_of_ble_eq_true rfl) (Nat.le_of_ble_eq_true rfl) rfl (fun E sh1 I1 A1 hp _ => hp.2.elim) (fun ro sh_ I_3 A_4 hp hle => ?_)
    obtain ⟨rfl, r_5, rfl, h⟩ := hp
    obtain ⟨hz, h⟩ := h
    exact g_iret rfl hz dX9_readSemicolon_16 ⟨rfl, _, rfl, h⟩
def wjX9_readHead_80 (K : Int32 → ab_F → ab_F → Prop) (s0 : Int32) (I A : ab_F) : Prop := (((s0) = (-1 : Int32) → K (nI 0) (wr I 3 5 s0) A) ∧ (¬ (s0) = (-1 : Int32) → wX9_readSemicolon (fun r_17 I_15 A_16 => ((r_17 = 0 → K (nI 0) I_15 A_16) ∧ (¬ r_17 = 0 → K (nI 1) I_15 A_16))) (wr I 3 5 s0) A ))
def wjX9_readHead_54 (K : Int32 → ab_F → ab_F → Prop) (s0 : Int32) (I A : ab_F) : Prop := ((¬ (s0) = (-1 : Int32) → wX9_readWord (fun r_14 I_12 A_13 => wjX9_readHead_80 K r_14 I_12 A_13) (wr I 3 4 s0) A 1 2 3) ∧ ((s0) = (-1 : Int32) → wjX9_readHead_80 K (-1 : Int32) (wr I 3 4 s0) A))
def wX9_readHead (K : Int32 → ab_F → ab_F → Prop) (I A : ab_F)  : Prop := wX10_isWord (fun r_3 I_1 A_2 => ((¬ r_3 = 0 → wX10_nextToken (fun I_4 A_5 => wX9_readNumber (fun r_8 I_6 A_7 => ((¬ (r_8) = (-1 : Int32) → wX9_readNumber (fun r_11 I_9 A_10 => wjX9_readHead_54 K r_11 I_9 A_10) (wr I_6 3 3 r_8) A_7 (nI 48)) ∧ ((r_8) = (-1 : Int32) → wjX9_readHead_54 K (-1 : Int32) (wr I_6 3 3 r_8) A_7))) I_4 A_5 (nI 16)) I_1 A_2 ) ∧ (r_3 = 0 → wX9_fail (fun r_20 I_18 A_19 => (narrow .boolean (.int r_20) = .int r_20 ∧ K r_20 I_18 A_19)) I_1 A_2 (nI 1)))) I A 0
set_option maxRecDepth 20000 in
theorem tjX9_readHead_80 {C : ab_X} {Z : ab_Z} {K : Int32 → ab_F → ab_F → Prop} (s0 : Int32) (I A : ab_F) (h : wjX9_readHead_80 K s0 I A) : ab_G mX9_readHead 8 C (ab_Px (shC Z) ab_no (ab_ri K)) 80 [some (.ref 3)] [.int s0, .ref 3] (shC Z) I A 0 0 := by
  unfold wjX9_readHead_80 at h
  refine g_putI (n := 83) (k := 5) dX9_readHead_80 sC_3 vc_13 (Nat.le_of_ble_eq_true rfl) rfl w_186 rfl rfl rfl rfl rfl ?_
  refine g_aload_n (n := 84) dX9_readHead_83 rfl rfl rfl ?_
  refine g_getIE (n := 87) (k := 5) (x := (s0)) dX9_readHead_84 sC_3 vc_13 (Nat.le_of_ble_eq_true rfl) rfl w_186 rfl rfl ?_
  refine g_iconst (n := 88) (v := (-1 : Int32)) dX9_readHead_87 rfl rfl ?_
  refine g_icmp_eq (n := 91) 102 dX9_readHead_88 (by decide) rfl (fun hc => ?_) (fun hc => ?_)
  · have h := h.1 hc
    refine g_iconst (n := 103) (v := (nI 0)) dX9_readHead_102 rfl rfl ?_
    exact g_iret rfl rfl dX9_readHead_103 ⟨rfl, _, rfl, h⟩
  · have h := h.2 hc
    refine g_aload_n (n := 92) dX9_readHead_91 rfl rfl rfl ?_
    refine g_callV (n := 95) (as := []) (bc' := 0) (bs' := 0) sC_3 vc_13 (ctX9_readSemicolon h) okX9_readSemicolon rfl w_652 w_654 w_4 w_98 dX9_readHead_92 rfl rfl (Nat.le_of_ble_eq_true rfl) (Nat.le_of_ble_eq_true rfl) (Nat.le_of_ble_eq_true rfl) (Nat.le_of_ble_eq_true rfl) rfl (fun E sh1 I1 A1 hp _ => hp.2.elim) (fun ro sh_ I_15 A_16 hp hle => ?_)
    obtain ⟨rfl, r_17, rfl, h⟩ := hp
    refine g_if_eq (n := 98) 102 dX9_readHead_95 (by decide) rfl (fun hc => ?_) (fun hc => ?_)
    · have h := h.1 hc
      refine g_iconst (n := 103) (v := (nI 0)) dX9_readHead_102 rfl rfl ?_
      exact g_iret rfl rfl dX9_readHead_103 ⟨rfl, _, rfl, h⟩
    · have h := h.2 hc
      refine g_iconst (n := 99) (v := (nI 1)) dX9_readHead_98 rfl rfl ?_
      refine g_goto 103 dX9_readHead_99 (by decide) ?_
      exact g_iret rfl rfl dX9_readHead_103 ⟨rfl, _, rfl, h⟩
set_option maxRecDepth 20000 in
theorem tjX9_readHead_54 {C : ab_X} {Z : ab_Z} {K : Int32 → ab_F → ab_F → Prop} (s0 : Int32) (I A : ab_F) (h : wjX9_readHead_54 K s0 I A) : ab_G mX9_readHead 8 C (ab_Px (shC Z) ab_no (ab_ri K)) 54 [some (.ref 3)] [.int s0, .ref 3] (shC Z) I A 0 0 := by
  unfold wjX9_readHead_54 at h
  refine g_putI (n := 57) (k := 4) dX9_readHead_54 sC_3 vc_13 (Nat.le_of_ble_eq_true rfl) rfl w_183 rfl rfl rfl rfl rfl ?_
  refine g_aload_n (n := 58) dX9_readHead_57 rfl rfl rfl ?_
  refine g_aload_n (n := 59) dX9_readHead_58 rfl rfl rfl ?_
  refine g_getIE (n := 62) (k := 4) (x := (s0)) dX9_readHead_59 sC_3 vc_13 (Nat.le_of_ble_eq_true rfl) rfl w_183 rfl rfl ?_
  refine g_iconst (n := 63) (v := (-1 : Int32)) dX9_readHead_62 rfl rfl ?_
  refine g_icmp_ne (n := 66) 70 dX9_readHead_63 (by decide) rfl (fun hc => ?_) (fun hc => ?_)
  · have h := h.1 hc
    refine g_aload_n (n := 71) dX9_readHead_70 rfl rfl rfl ?_
    refine g_ldcS (n := 73) (i := 1) dX9_readHead_71 rfl rfl ?_
    refine g_ldcS (n := 75) (i := 2) dX9_readHead_73 rfl rfl ?_
    refine g_ldcS (n := 77) (i := 3) dX9_readHead_75 rfl rfl ?_
    refine g_callV (n := 80) (as := [.retAddr (2 * 1), .retAddr (2 * 2), .retAddr (2 * 3)]) (bc' := 0) (bs' := 0) sC_3 vc_13 (ctX9_readWord h) okX9_readWord rfl w_648 w_650 w_3 w_98 dX9_readHead_77 rfl rfl (Nat.le_of_ble_eq_true rfl) (Nat.le_of_ble_eq_true rfl) (Nat.le_of_ble_eq_true rfl) (Nat.le_of_ble_eq_true rfl) rfl (fun E sh1 I1 A1 hp _ => hp.2.elim) (fun ro sh_ I_12 A_13 hp hle => ?_)
    obtain ⟨rfl, r_14, rfl, h⟩ := hp
    refine g_less (bc' := 0) (bs' := 0) (Nat.le_of_ble_eq_true rfl) (Nat.le_of_ble_eq_true rfl) ?_
    exact tjX9_readHead_80  _ _ _ h
  · have h := h.2 hc
    refine g_iconst (n := 67) (v := (-1 : Int32)) dX9_readHead_66 rfl rfl ?_
    refine g_goto 80 dX9_readHead_67 (by decide) ?_
    refine g_less (bc' := 0) (bs' := 0) (Nat.le_of_ble_eq_true rfl) (Nat.le_of_ble_eq_true rfl) ?_
    exact tjX9_readHead_80  _ _ _ h
set_option maxRecDepth 20000 in
theorem ctX9_readHead {Z : ab_Z} {K : Int32 → ab_F → ab_F → Prop} {I A : ab_F}  (h : wX9_readHead K I A ) : ab_Cl mX9_readHead 8 0 0 [.ref 3] (shC Z) I A (ab_Px (shC Z) ab_no (ab_ri K)) := by
  refine ab_enter (ls := [some (.ref 3)]) (by decide +kernel) (Nat.le_of_ble_eq_true rfl) rfl (fun C => ?_)
  unfold wX9_readHead at h
  refine g_aload_n (n := 1) dX9_readHead_0 rfl rfl rfl ?_
  refine g_getR (n := 4) (k := 0) dX9_readHead_1 sC_3 vc_13 (Nat.le_of_ble_eq_true rfl) rfl w_176 rfl ?_
  refine g_ldcS (n := 6) (i := 0) dX9_readHead_4 rfl rfl ?_
  refine g_callV (n := 9) (as := [.retAddr (2 * 0)]) (bc' := 0) (bs' := 0) sC_1 vc_14 (ctX10_isWord h) okX10_isWord rfl w_581 w_582 w_583 w_97 dX9_readHead_6 rfl rfl (Nat.le_of_ble_eq_true rfl) (Nat.le_of_ble_eq_true rfl) (Nat.le_of_ble_eq_true rfl) (Nat.le_of_ble_eq_true rfl) rfl (fun E sh1 I1 A1 hp _ => hp.2.elim) (fun ro sh_ I_1 A_2 hp hle => ?_)
  obtain ⟨rfl, r_3, rfl, h⟩ := hp
  refine g_if_ne (n := 12) 18 dX9_readHead_9 (by decide) rfl (fun hc => ?_) (fun hc => ?_)
  · have h := h.1 hc
    refine g_aload_n (n := 19) dX9_readHead_18 rfl rfl rfl ?_
    refine g_getR (n := 22) (k := 0) dX9_readHead_19 sC_3 vc_13 (Nat.le_of_ble_eq_true rfl) rfl w_176 rfl ?_
    refine g_callV (n := 25) (as := []) (bc' := 0) (bs' := 0) sC_1 vc_14 (ctX10_nextToken h) okX10_nextToken rfl w_636 w_570 w_571 w_97 dX9_readHead_22 rfl rfl (Nat.le_of_ble_eq_true rfl) (Nat.le_of_ble_eq_true rfl) (Nat.le_of_ble_eq_true rfl) (Nat.le_of_ble_eq_true rfl) rfl (fun E sh1 I1 A1 hp _ => hp.2.elim) (fun ro sh_ I_4 A_5 hp hle => ?_)
    obtain ⟨rfl, rfl, h⟩ := hp
    refine g_aload_n (n := 26) dX9_readHead_25 rfl rfl rfl ?_
    refine g_aload_n (n := 27) dX9_readHead_26 rfl rfl rfl ?_
    refine g_bipush (n := 29) (v := (nI 16)) dX9_readHead_27 rfl rfl ?_
    refine g_callV (n := 32) (as := [.int (nI 16)]) (bc' := 0) (bs' := 0) sC_3 vc_13 (ctX9_readNumber h) okX9_readNumber rfl w_637 w_639 w_2 w_98 dX9_readHead_29 rfl rfl (Nat.le_of_ble_eq_true rfl) (Nat.le_of_ble_eq_true rfl) (Nat.le_of_ble_eq_true rfl) (Nat.le_of_ble_eq_true rfl) rfl (fun E sh1 I1 A1 hp _ => hp.2.elim) (fun ro sh_ I_6 A_7 hp hle => ?_)
    obtain ⟨rfl, r_8, rfl, h⟩ := hp
    refine g_putI (n := 35) (k := 3) dX9_readHead_32 sC_3 vc_13 (Nat.le_of_ble_eq_true rfl) rfl w_181 rfl rfl rfl rfl rfl ?_
    refine g_aload_n (n := 36) dX9_readHead_35 rfl rfl rfl ?_
    refine g_aload_n (n := 37) dX9_readHead_36 rfl rfl rfl ?_
    refine g_getIE (n := 40) (k := 3) (x := (r_8)) dX9_readHead_37 sC_3 vc_13 (Nat.le_of_ble_eq_true rfl) rfl w_181 rfl rfl ?_
    refine g_iconst (n := 41) (v := (-1 : Int32)) dX9_readHead_40 rfl rfl ?_
    refine g_icmp_ne (n := 44) 48 dX9_readHead_41 (by decide) rfl (fun hc => ?_) (fun hc => ?_)
    · have h := h.1 hc
      refine g_aload_n (n := 49) dX9_readHead_48 rfl rfl rfl ?_
      refine g_bipush (n := 51) (v := (nI 48)) dX9_readHead_49 rfl rfl ?_
      refine g_callV (n := 54) (as := [.int (nI 48)]) (bc' := 0) (bs' := 0) sC_3 vc_13 (ctX9_readNumber h) okX9_readNumber rfl w_637 w_639 w_2 w_98 dX9_readHead_51 rfl rfl (Nat.le_of_ble_eq_true rfl) (Nat.le_of_ble_eq_true rfl) (Nat.le_of_ble_eq_true rfl) (Nat.le_of_ble_eq_true rfl) rfl (fun E sh1 I1 A1 hp _ => hp.2.elim) (fun ro sh_ I_9 A_10 hp hle => ?_)
      obtain ⟨rfl, r_11, rfl, h⟩ := hp
      refine g_less (bc' := 0) (bs' := 0) (Nat.le_of_ble_eq_true rfl) (Nat.le_of_ble_eq_true rfl) ?_
      exact tjX9_readHead_54  _ _ _ h
    · have h := h.2 hc
      refine g_iconst (n := 45) (v := (-1 : Int32)) dX9_readHead_44 rfl rfl ?_
      refine g_goto 54 dX9_readHead_45 (by decide) ?_
      refine g_less (bc' := 0) (bs' := 0) (Nat.le_of_ble_eq_true rfl) (Nat.le_of_ble_eq_true rfl) ?_
      exact tjX9_readHead_54  _ _ _ h
  · have h := h.2 hc
    refine g_aload_n (n := 13) dX9_readHead_12 rfl rfl rfl ?_
    refine g_iconst (n := 14) (v := (nI 1)) dX9_readHead_13 rfl rfl ?_
    refine g_callV (n := 17) (as := [.int (nI 1)]) (bc' := 0) (bs' := 0) sC_3 vc_13 (ctX9_fail h) okX9_fail rfl w_632 w_634 w_1 w_98 dX9_readHead_14 rfl rfl (Nat.le_of_ble_eq_true rfl) (Nat.le_of_ble_eq_true rfl) (Nat.le_of_ble_eq_true rfl) (Nat.le_of_ble_eq_true rfl) rfl (fun E sh1 I1 A1 hp _ => hp.2.elim) (fun ro sh_ I_18 A_19 hp hle => ?_)
    obtain ⟨rfl, r_20, rfl, h⟩ := hp
    obtain ⟨hz, h⟩ := h
    exact g_iret rfl hz dX9_readHead_17 ⟨rfl, _, rfl, h⟩
def wjX9_readProcess_66 (K : Int32 → ab_F → ab_F → Prop) (x1 : Int32) (s0 : Int32) (I A : ab_F) : Prop := ((s0 = (-1 : Int32) → K (nI 0) I A) ∧ (¬ s0 = (-1 : Int32) → wX9_readSemicolon (fun r_14 I_12 A_13 => ((¬ r_14 = 0 → (∃ j_15 : Nat, (I_12 3 6) = nI j_15 ∧ j_15 < 6 ∧ (∃ j_16 : Nat, (I_12 3 6) = nI j_16 ∧ j_16 < 6 ∧ K (nI 1) (wr I_12 3 6 ((I_12 3 6) + (nI 1))) (wr (wr A_13 4 j_15 x1) 5 j_16 s0)))) ∧ (r_14 = 0 → K (nI 0) I_12 A_13))) I A ))
def wX9_readProcess (K : Int32 → ab_F → ab_F → Prop) (I A : ab_F)  : Prop := wX10_isWord (fun r_3 I_1 A_2 => ((¬ r_3 = 0 → (((I_1 3 6) < (nI 6) → wX10_nextToken (fun I_4 A_5 => wX9_readWord (fun r_8 I_6 A_7 => ((¬ r_8 = (-1 : Int32) → wX9_readNumber (fun r_11 I_9 A_10 => wjX9_readProcess_66 K r_8 r_11 I_9 A_10) I_6 A_7 (nI 8)) ∧ (r_8 = (-1 : Int32) → wjX9_readProcess_66 K r_8 (-1 : Int32) I_6 A_7))) I_4 A_5 5 6 7) I_1 A_2 ) ∧ (¬ (I_1 3 6) < (nI 6) → wX9_fail (fun r_19 I_17 A_18 => (narrow .boolean (.int r_19) = .int r_19 ∧ K r_19 I_17 A_18)) I_1 A_2 (nI 3)))) ∧ (r_3 = 0 → wX9_fail (fun r_22 I_20 A_21 => (narrow .boolean (.int r_22) = .int r_22 ∧ K r_22 I_20 A_21)) I_1 A_2 (nI 1)))) I A 4
set_option maxRecDepth 20000 in
theorem tjX9_readProcess_66 {C : ab_X} {Z : ab_Z} {K : Int32 → ab_F → ab_F → Prop} (x1 : Int32) (s0 : Int32) (I A : ab_F) (h : wjX9_readProcess_66 K x1 s0 I A) : ab_G mX9_readProcess 8 C (ab_Px (shC Z) ab_no (ab_ri K)) 66 [some (.ref 3), some (.int x1), none] [.int s0] (shC Z) I A 0 0 := by
  unfold wjX9_readProcess_66 at h
  refine g_istore_n (n := 67) (ls' := [some (.ref 3), some (.int x1), some (.int s0)]) dX9_readProcess_66 rfl rfl (Nat.le_of_ble_eq_true rfl) (Nat.le_of_ble_eq_true rfl) rfl rfl ?_
  refine g_iload_n (n := 68) dX9_readProcess_67 rfl rfl rfl ?_
  refine g_iconst (n := 69) (v := (-1 : Int32)) dX9_readProcess_68 rfl rfl ?_
  refine g_icmp_eq (n := 72) 79 dX9_readProcess_69 (by decide) rfl (fun hc => ?_) (fun hc => ?_)
  · have h := h.1 hc
    refine g_iconst (n := 80) (v := (nI 0)) dX9_readProcess_79 rfl rfl ?_
    exact g_iret rfl rfl dX9_readProcess_80 ⟨rfl, _, rfl, h⟩
  · have h := h.2 hc
    refine g_aload_n (n := 73) dX9_readProcess_72 rfl rfl rfl ?_
    refine g_callV (n := 76) (as := []) (bc' := 0) (bs' := 0) sC_3 vc_13 (ctX9_readSemicolon h) okX9_readSemicolon rfl w_652 w_654 w_4 w_98 dX9_readProcess_73 rfl rfl (Nat.le_of_ble_eq_true rfl) (Nat.le_of_ble_eq_true rfl) (Nat.le_of_ble_eq_true rfl) (Nat.le_of_ble_eq_true rfl) rfl (fun E sh1 I1 A1 hp _ => hp.2.elim) (fun ro sh_ I_12 A_13 hp hle => ?_)
    obtain ⟨rfl, r_14, rfl, h⟩ := hp
    refine g_if_ne (n := 79) 81 dX9_readProcess_76 (by decide) rfl (fun hc => ?_) (fun hc => ?_)
    · have h := h.1 hc
      refine g_aload_n (n := 82) dX9_readProcess_81 rfl rfl rfl ?_
      refine g_getR (n := 85) (k := 7) dX9_readProcess_82 sC_3 vc_13 (Nat.le_of_ble_eq_true rfl) rfl w_189 rfl ?_
      refine g_aload_n (n := 86) dX9_readProcess_85 rfl rfl rfl ?_
      refine g_getIE (n := 89) (k := 6) (x := (I_12 3 6)) dX9_readProcess_86 sC_3 vc_13 (Nat.le_of_ble_eq_true rfl) rfl w_188 rfl rfl ?_
      refine g_iload_n (n := 90) dX9_readProcess_89 rfl rfl rfl ?_
      obtain ⟨j_15, hj, hl, h⟩ := h
      refine g_iastJ (n := 91) (j := j_15) dX9_readProcess_90 sC_4 hj hl (by decide) rfl ?_
      refine g_aload_n (n := 92) dX9_readProcess_91 rfl rfl rfl ?_
      refine g_getR (n := 95) (k := 8) dX9_readProcess_92 sC_3 vc_13 (Nat.le_of_ble_eq_true rfl) rfl w_191 rfl ?_
      refine g_aload_n (n := 96) dX9_readProcess_95 rfl rfl rfl ?_
      refine g_getIE (n := 99) (k := 6) (x := (I_12 3 6)) dX9_readProcess_96 sC_3 vc_13 (Nat.le_of_ble_eq_true rfl) rfl w_188 rfl rfl ?_
      refine g_iload_n (n := 100) dX9_readProcess_99 rfl rfl rfl ?_
      obtain ⟨j_16, hj, hl, h⟩ := h
      refine g_iastJ (n := 101) (j := j_16) dX9_readProcess_100 sC_5 hj hl (by decide) rfl ?_
      refine g_aload_n (n := 102) dX9_readProcess_101 rfl rfl rfl ?_
      refine g_dup (n := 103) dX9_readProcess_102 rfl rfl ?_
      refine g_getIE (n := 106) (k := 6) (x := (I_12 3 6)) dX9_readProcess_103 sC_3 vc_13 (Nat.le_of_ble_eq_true rfl) rfl w_188 rfl rfl ?_
      refine g_iconst (n := 107) (v := (nI 1)) dX9_readProcess_106 rfl rfl ?_
      refine g_iadd (n := 108) dX9_readProcess_107 rfl ?_
      refine g_putI (n := 111) (k := 6) dX9_readProcess_108 sC_3 vc_13 (Nat.le_of_ble_eq_true rfl) rfl w_188 rfl rfl rfl rfl rfl ?_
      refine g_iconst (n := 112) (v := (nI 1)) dX9_readProcess_111 rfl rfl ?_
      exact g_iret rfl rfl dX9_readProcess_112 ⟨rfl, _, rfl, h⟩
    · have h := h.2 hc
      refine g_iconst (n := 80) (v := (nI 0)) dX9_readProcess_79 rfl rfl ?_
      exact g_iret rfl rfl dX9_readProcess_80 ⟨rfl, _, rfl, h⟩
set_option maxRecDepth 20000 in
theorem ctX9_readProcess {Z : ab_Z} {K : Int32 → ab_F → ab_F → Prop} {I A : ab_F}  (h : wX9_readProcess K I A ) : ab_Cl mX9_readProcess 8 0 0 [.ref 3] (shC Z) I A (ab_Px (shC Z) ab_no (ab_ri K)) := by
  refine ab_enter (ls := [some (.ref 3), none, none]) (by decide +kernel) (Nat.le_of_ble_eq_true rfl) rfl (fun C => ?_)
  unfold wX9_readProcess at h
  refine g_aload_n (n := 1) dX9_readProcess_0 rfl rfl rfl ?_
  refine g_getR (n := 4) (k := 0) dX9_readProcess_1 sC_3 vc_13 (Nat.le_of_ble_eq_true rfl) rfl w_176 rfl ?_
  refine g_ldcS (n := 6) (i := 4) dX9_readProcess_4 rfl rfl ?_
  refine g_callV (n := 9) (as := [.retAddr (2 * 4)]) (bc' := 0) (bs' := 0) sC_1 vc_14 (ctX10_isWord h) okX10_isWord rfl w_581 w_582 w_583 w_97 dX9_readProcess_6 rfl rfl (Nat.le_of_ble_eq_true rfl) (Nat.le_of_ble_eq_true rfl) (Nat.le_of_ble_eq_true rfl) (Nat.le_of_ble_eq_true rfl) rfl (fun E sh1 I1 A1 hp _ => hp.2.elim) (fun ro sh_ I_1 A_2 hp hle => ?_)
  obtain ⟨rfl, r_3, rfl, h⟩ := hp
  refine g_if_ne (n := 12) 18 dX9_readProcess_9 (by decide) rfl (fun hc => ?_) (fun hc => ?_)
  · have h := h.1 hc
    refine g_aload_n (n := 19) dX9_readProcess_18 rfl rfl rfl ?_
    refine g_getIE (n := 22) (k := 6) (x := (I_1 3 6)) dX9_readProcess_19 sC_3 vc_13 (Nat.le_of_ble_eq_true rfl) rfl w_188 rfl rfl ?_
    refine g_bipush (n := 24) (v := (nI 6)) dX9_readProcess_22 rfl rfl ?_
    refine g_icmp_lt (n := 27) 33 dX9_readProcess_24 (by decide) rfl (fun hc => ?_) (fun hc => ?_)
    · have h := h.1 hc
      refine g_aload_n (n := 34) dX9_readProcess_33 rfl rfl rfl ?_
      refine g_getR (n := 37) (k := 0) dX9_readProcess_34 sC_3 vc_13 (Nat.le_of_ble_eq_true rfl) rfl w_176 rfl ?_
      refine g_callV (n := 40) (as := []) (bc' := 0) (bs' := 0) sC_1 vc_14 (ctX10_nextToken h) okX10_nextToken rfl w_636 w_570 w_571 w_97 dX9_readProcess_37 rfl rfl (Nat.le_of_ble_eq_true rfl) (Nat.le_of_ble_eq_true rfl) (Nat.le_of_ble_eq_true rfl) (Nat.le_of_ble_eq_true rfl) rfl (fun E sh1 I1 A1 hp _ => hp.2.elim) (fun ro sh_ I_4 A_5 hp hle => ?_)
      obtain ⟨rfl, rfl, h⟩ := hp
      refine g_aload_n (n := 41) dX9_readProcess_40 rfl rfl rfl ?_
      refine g_ldcS (n := 43) (i := 5) dX9_readProcess_41 rfl rfl ?_
      refine g_ldcS (n := 45) (i := 6) dX9_readProcess_43 rfl rfl ?_
      refine g_ldcS (n := 47) (i := 7) dX9_readProcess_45 rfl rfl ?_
      refine g_callV (n := 50) (as := [.retAddr (2 * 5), .retAddr (2 * 6), .retAddr (2 * 7)]) (bc' := 0) (bs' := 0) sC_3 vc_13 (ctX9_readWord h) okX9_readWord rfl w_648 w_650 w_3 w_98 dX9_readProcess_47 rfl rfl (Nat.le_of_ble_eq_true rfl) (Nat.le_of_ble_eq_true rfl) (Nat.le_of_ble_eq_true rfl) (Nat.le_of_ble_eq_true rfl) rfl (fun E sh1 I1 A1 hp _ => hp.2.elim) (fun ro sh_ I_6 A_7 hp hle => ?_)
      obtain ⟨rfl, r_8, rfl, h⟩ := hp
      refine g_istore_n (n := 51) (ls' := [some (.ref 3), some (.int r_8), none]) dX9_readProcess_50 rfl rfl (Nat.le_of_ble_eq_true rfl) (Nat.le_of_ble_eq_true rfl) rfl rfl ?_
      refine g_iload_n (n := 52) dX9_readProcess_51 rfl rfl rfl ?_
      refine g_iconst (n := 53) (v := (-1 : Int32)) dX9_readProcess_52 rfl rfl ?_
      refine g_icmp_ne (n := 56) 60 dX9_readProcess_53 (by decide) rfl (fun hc => ?_) (fun hc => ?_)
      · have h := h.1 hc
        refine g_aload_n (n := 61) dX9_readProcess_60 rfl rfl rfl ?_
        refine g_bipush (n := 63) (v := (nI 8)) dX9_readProcess_61 rfl rfl ?_
        refine g_callV (n := 66) (as := [.int (nI 8)]) (bc' := 0) (bs' := 0) sC_3 vc_13 (ctX9_readNumber h) okX9_readNumber rfl w_637 w_639 w_2 w_98 dX9_readProcess_63 rfl rfl (Nat.le_of_ble_eq_true rfl) (Nat.le_of_ble_eq_true rfl) (Nat.le_of_ble_eq_true rfl) (Nat.le_of_ble_eq_true rfl) rfl (fun E sh1 I1 A1 hp _ => hp.2.elim) (fun ro sh_ I_9 A_10 hp hle => ?_)
        obtain ⟨rfl, r_11, rfl, h⟩ := hp
        refine g_less (bc' := 0) (bs' := 0) (Nat.le_of_ble_eq_true rfl) (Nat.le_of_ble_eq_true rfl) ?_
        exact tjX9_readProcess_66  _ _ _ _ h
      · have h := h.2 hc
        refine g_iconst (n := 57) (v := (-1 : Int32)) dX9_readProcess_56 rfl rfl ?_
        refine g_goto 66 dX9_readProcess_57 (by decide) ?_
        refine g_less (bc' := 0) (bs' := 0) (Nat.le_of_ble_eq_true rfl) (Nat.le_of_ble_eq_true rfl) ?_
        exact tjX9_readProcess_66  _ _ _ _ h
    · have h := h.2 hc
      refine g_aload_n (n := 28) dX9_readProcess_27 rfl rfl rfl ?_
      refine g_iconst (n := 29) (v := (nI 3)) dX9_readProcess_28 rfl rfl ?_
      refine g_callV (n := 32) (as := [.int (nI 3)]) (bc' := 0) (bs' := 0) sC_3 vc_13 (ctX9_fail h) okX9_fail rfl w_632 w_634 w_1 w_98 dX9_readProcess_29 rfl rfl (Nat.le_of_ble_eq_true rfl) (Nat.le_of_ble_eq_true rfl) (Nat.le_of_ble_eq_true rfl) (Nat.le_of_ble_eq_true rfl) rfl (fun E sh1 I1 A1 hp _ => hp.2.elim) (fun ro sh_ I_17 A_18 hp hle => ?_)
      obtain ⟨rfl, r_19, rfl, h⟩ := hp
      obtain ⟨hz, h⟩ := h
      exact g_iret rfl hz dX9_readProcess_32 ⟨rfl, _, rfl, h⟩
  · have h := h.2 hc
    refine g_aload_n (n := 13) dX9_readProcess_12 rfl rfl rfl ?_
    refine g_iconst (n := 14) (v := (nI 1)) dX9_readProcess_13 rfl rfl ?_
    refine g_callV (n := 17) (as := [.int (nI 1)]) (bc' := 0) (bs' := 0) sC_3 vc_13 (ctX9_fail h) okX9_fail rfl w_632 w_634 w_1 w_98 dX9_readProcess_14 rfl rfl (Nat.le_of_ble_eq_true rfl) (Nat.le_of_ble_eq_true rfl) (Nat.le_of_ble_eq_true rfl) (Nat.le_of_ble_eq_true rfl) rfl (fun E sh1 I1 A1 hp _ => hp.2.elim) (fun ro sh_ I_20 A_21 hp hle => ?_)
    obtain ⟨rfl, r_22, rfl, h⟩ := hp
    obtain ⟨hz, h⟩ := h
    exact g_iret rfl hz dX9_readProcess_17 ⟨rfl, _, rfl, h⟩
def wjX9_parse_58 (K : Int32 → ab_F → ab_F → Prop) (L33 : Int32 → ab_F → ab_F → Prop) (x1 : Int32) (I A : ab_F) : Prop := wX9_readProcess (fun r_8 I_6 A_7 => ((¬ r_8 = 0 → L33 (x1 + nI 1) I_6 A_7) ∧ (r_8 = 0 → K (nI 0) I_6 A_7))) I A 
def wlX9_parse_33 (K : Int32 → ab_F → ab_F → Prop) : Nat → Int32 → ab_F → ab_F → Prop
  | 0, _, _, _ => False
  | n + 1, x1, I, A => (((nI 6) < x1 → K (nI 0) I A) ∧ (¬ (nI 6) < x1 → (((I 3 6) ≤ 0 → wjX9_parse_58 K (wlX9_parse_33 K n) x1 I A) ∧ (¬ (I 3 6) ≤ 0 → ((¬ (I 1 4) = 0 → wjX9_parse_58 K (wlX9_parse_33 K n) x1 I A) ∧ ((I 1 4) = 0 → K (nI 1) I A))))))
def wX9_parse (K : Int32 → ab_F → ab_F → Prop) (I A : ab_F)  : Prop := wX10_firstToken (fun I_1 A_2 => wX9_readHead (fun r_5 I_3 A_4 => ((¬ r_5 = 0 → (∃ nf : Nat, wlX9_parse_33 K nf (nI 0) I_3 A_4)) ∧ (r_5 = 0 → K (nI 0) I_3 A_4))) I_1 A_2 ) (wr (wr (wr I 3 1 (nI 0)) 3 2 (-1 : Int32)) 3 6 (nI 0)) A 
set_option maxRecDepth 20000 in
theorem tjX9_parse_58 {C : ab_X} {Z : ab_Z} {K : Int32 → ab_F → ab_F → Prop} {L33 : Int32 → ab_F → ab_F → Prop} (hL33 : ∀ (x1 : Int32) (I A : ab_F), L33 x1 I A → ab_G mX9_parse 9 C (ab_Px (shC Z) ab_no (ab_ri K)) 33 [some (.ref 3), some (.int x1)] [] (shC Z) I A 0 0) (x1 : Int32) (I A : ab_F) (h : wjX9_parse_58 K L33 x1 I A) : ab_G mX9_parse 9 C (ab_Px (shC Z) ab_no (ab_ri K)) 58 [some (.ref 3), some (.int x1)] [] (shC Z) I A 0 0 := by
  unfold wjX9_parse_58 at h
  refine g_aload_n (n := 59) dX9_parse_58 rfl rfl rfl ?_
  refine g_callV (n := 62) (as := []) (bc' := 0) (bs' := 0) sC_3 vc_13 (ctX9_readProcess h) okX9_readProcess rfl w_656 w_658 w_5 w_98 dX9_parse_59 rfl rfl (Nat.le_of_ble_eq_true rfl) (Nat.le_of_ble_eq_true rfl) (Nat.le_of_ble_eq_true rfl) (Nat.le_of_ble_eq_true rfl) rfl (fun E sh1 I1 A1 hp _ => hp.2.elim) (fun ro sh_ I_6 A_7 hp hle => ?_)
  obtain ⟨rfl, r_8, rfl, h⟩ := hp
  refine g_if_ne (n := 65) 67 dX9_parse_62 (by decide) rfl (fun hc => ?_) (fun hc => ?_)
  · have h := h.1 hc
    refine g_iinc (n := 70) (v := (x1 + nI 1)) (ls' := [some (.ref 3), some (.int (x1 + nI 1))]) dX9_parse_67 rfl rfl rfl (Nat.le_of_ble_eq_true rfl) rfl rfl ?_
    refine g_goto 33 dX9_parse_70 (by decide) ?_
    exact hL33 _ _ _ h
  · have h := h.2 hc
    refine g_iconst (n := 66) (v := (nI 0)) dX9_parse_65 rfl rfl ?_
    exact g_iret rfl rfl dX9_parse_66 ⟨rfl, _, rfl, h⟩
set_option maxRecDepth 20000 in
theorem tlX9_parse_33 {C : ab_X} {Z : ab_Z} {K : Int32 → ab_F → ab_F → Prop} : ∀ (n : Nat) (x1 : Int32) (I A : ab_F), wlX9_parse_33 K n x1 I A → ab_G mX9_parse 9 C (ab_Px (shC Z) ab_no (ab_ri K)) 33 [some (.ref 3), some (.int x1)] [] (shC Z) I A 0 0 := by
  intro n
  induction n with
  | zero => intro x1 I A h; exact h.elim
  | succ n hL33 =>
    intro x1 I A h
    rw [wlX9_parse_33] at h
    refine g_iload_n (n := 34) dX9_parse_33 rfl rfl rfl ?_
    refine g_bipush (n := 36) (v := (nI 6)) dX9_parse_34 rfl rfl ?_
    refine g_icmp_gt (n := 39) 73 dX9_parse_36 (by decide) rfl (fun hc => ?_) (fun hc => ?_)
    · have h := h.1 hc
      refine g_iconst (n := 74) (v := (nI 0)) dX9_parse_73 rfl rfl ?_
      exact g_iret rfl rfl dX9_parse_74 ⟨rfl, _, rfl, h⟩
    · have h := h.2 hc
      refine g_aload_n (n := 40) dX9_parse_39 rfl rfl rfl ?_
      refine g_getIE (n := 43) (k := 6) (x := (I 3 6)) dX9_parse_40 sC_3 vc_13 (Nat.le_of_ble_eq_true rfl) rfl w_188 rfl rfl ?_
      refine g_if_le (n := 46) 58 dX9_parse_43 (by decide) rfl (fun hc => ?_) (fun hc => ?_)
      · have h := h.1 hc
        refine g_less (bc' := 0) (bs' := 0) (Nat.le_of_ble_eq_true rfl) (Nat.le_of_ble_eq_true rfl) ?_
        exact tjX9_parse_58 hL33 _ _ _ h
      · have h := h.2 hc
        refine g_aload_n (n := 47) dX9_parse_46 rfl rfl rfl ?_
        refine g_getR (n := 50) (k := 0) dX9_parse_47 sC_3 vc_13 (Nat.le_of_ble_eq_true rfl) rfl w_176 rfl ?_
        refine g_getIE (n := 53) (k := 4) (x := (I 1 4)) dX9_parse_50 sC_1 vc_14 (Nat.le_of_ble_eq_true rfl) rfl w_156 rfl rfl ?_
        refine g_if_ne (n := 56) 58 dX9_parse_53 (by decide) rfl (fun hc => ?_) (fun hc => ?_)
        · have h := h.1 hc
          refine g_less (bc' := 0) (bs' := 0) (Nat.le_of_ble_eq_true rfl) (Nat.le_of_ble_eq_true rfl) ?_
          exact tjX9_parse_58 hL33 _ _ _ h
        · have h := h.2 hc
          refine g_iconst (n := 57) (v := (nI 1)) dX9_parse_56 rfl rfl ?_
          exact g_iret rfl rfl dX9_parse_57 ⟨rfl, _, rfl, h⟩
set_option maxRecDepth 20000 in
theorem ctX9_parse {Z : ab_Z} {K : Int32 → ab_F → ab_F → Prop} {I A : ab_F}  (h : wX9_parse K I A ) : ab_Cl mX9_parse 9 0 0 [.ref 3] (shC Z) I A (ab_Px (shC Z) ab_no (ab_ri K)) := by
  refine ab_enter (ls := [some (.ref 3), none]) (by decide +kernel) (Nat.le_of_ble_eq_true rfl) rfl (fun C => ?_)
  unfold wX9_parse at h
  refine g_aload_n (n := 1) dX9_parse_0 rfl rfl rfl ?_
  refine g_iconst (n := 2) (v := (nI 0)) dX9_parse_1 rfl rfl ?_
  refine g_putI (n := 5) (k := 1) dX9_parse_2 sC_3 vc_13 (Nat.le_of_ble_eq_true rfl) rfl w_177 rfl rfl rfl rfl rfl ?_
  refine g_aload_n (n := 6) dX9_parse_5 rfl rfl rfl ?_
  refine g_iconst (n := 7) (v := (-1 : Int32)) dX9_parse_6 rfl rfl ?_
  refine g_putI (n := 10) (k := 2) dX9_parse_7 sC_3 vc_13 (Nat.le_of_ble_eq_true rfl) rfl w_179 rfl rfl rfl rfl rfl ?_
  refine g_aload_n (n := 11) dX9_parse_10 rfl rfl rfl ?_
  refine g_iconst (n := 12) (v := (nI 0)) dX9_parse_11 rfl rfl ?_
  refine g_putI (n := 15) (k := 6) dX9_parse_12 sC_3 vc_13 (Nat.le_of_ble_eq_true rfl) rfl w_188 rfl rfl rfl rfl rfl ?_
  refine g_aload_n (n := 16) dX9_parse_15 rfl rfl rfl ?_
  refine g_getR (n := 19) (k := 0) dX9_parse_16 sC_3 vc_13 (Nat.le_of_ble_eq_true rfl) rfl w_176 rfl ?_
  refine g_callV (n := 22) (as := []) (bc' := 0) (bs' := 0) sC_1 vc_14 (ctX10_firstToken h) okX10_firstToken rfl w_565 w_566 w_567 w_97 dX9_parse_19 rfl rfl (Nat.le_of_ble_eq_true rfl) (Nat.le_of_ble_eq_true rfl) (Nat.le_of_ble_eq_true rfl) (Nat.le_of_ble_eq_true rfl) rfl (fun E sh1 I1 A1 hp _ => hp.2.elim) (fun ro sh_ I_1 A_2 hp hle => ?_)
  obtain ⟨rfl, rfl, h⟩ := hp
  refine g_aload_n (n := 23) dX9_parse_22 rfl rfl rfl ?_
  refine g_callV (n := 26) (as := []) (bc' := 0) (bs' := 0) sC_3 vc_13 (ctX9_readHead h) okX9_readHead rfl w_576 w_578 w_0 w_98 dX9_parse_23 rfl rfl (Nat.le_of_ble_eq_true rfl) (Nat.le_of_ble_eq_true rfl) (Nat.le_of_ble_eq_true rfl) (Nat.le_of_ble_eq_true rfl) rfl (fun E sh1 I1 A1 hp _ => hp.2.elim) (fun ro sh_ I_3 A_4 hp hle => ?_)
  obtain ⟨rfl, r_5, rfl, h⟩ := hp
  refine g_if_ne (n := 29) 31 dX9_parse_26 (by decide) rfl (fun hc => ?_) (fun hc => ?_)
  · have h := h.1 hc
    refine g_iconst (n := 32) (v := (nI 0)) dX9_parse_31 rfl rfl ?_
    refine g_istore_n (n := 33) (ls' := [some (.ref 3), some (.int (nI 0))]) dX9_parse_32 rfl rfl (Nat.le_of_ble_eq_true rfl) (Nat.le_of_ble_eq_true rfl) rfl rfl ?_
    refine g_less (bc' := 0) (bs' := 0) (Nat.le_of_ble_eq_true rfl) (Nat.le_of_ble_eq_true rfl) ?_
    obtain ⟨n_f, h⟩ := h
    exact tlX9_parse_33  n_f _ _ _ h
  · have h := h.2 hc
    refine g_iconst (n := 30) (v := (nI 0)) dX9_parse_29 rfl rfl ?_
    exact g_iret rfl rfl dX9_parse_30 ⟨rfl, _, rfl, h⟩
def wlX10_putWord_3 (K : ab_F → ab_F → Prop) : Nat → Int32 → Int32 → ab_F → ab_F → Prop
  | 0, _, _, _, _ => False
  | n + 1, x1, x2, I, A => ((x2 < 0 → K I A) ∧ (¬ x2 < 0 → (((nI 400) ≤ (I 1 1) → K I A) ∧ (¬ (nI 400) ≤ (I 1 1) → (∃ j_1 : Nat, (I 1 1) = nI j_1 ∧ j_1 < 400 ∧ (wlX10_putWord_3 K n) x1 (x2 + (-8)) (wr I 1 1 ((I 1 1) + (nI 1))) (wr A 2 j_1 ((((x1).toUInt32 >>> ((x2).toUInt32 &&& Int32.toUInt32 31)).toInt32) &&& (nI 255))))))))
def wX10_putWord (K : ab_F → ab_F → Prop) (I A : ab_F) (p0 : Int32) : Prop := (∃ nf : Nat, wlX10_putWord_3 K nf p0 (nI 24) I A)
set_option maxRecDepth 20000 in
theorem tlX10_putWord_3 {C : ab_X} {Z : ab_Z} {K : ab_F → ab_F → Prop} : ∀ (n : Nat) (x1 : Int32) (x2 : Int32) (I A : ab_F), wlX10_putWord_3 K n x1 x2 I A → ab_G mX10_putWord 0 C (ab_Px (shC Z) ab_no (ab_rv K)) 3 [some (.ref 1), some (.int x1), some (.int x2)] [] (shC Z) I A 0 0 := by
  intro n
  induction n with
  | zero => intro x1 x2 I A h; exact h.elim
  | succ n hL3 =>
    intro x1 x2 I A h
    rw [wlX10_putWord_3] at h
    refine g_iload_n (n := 4) dX10_putWord_3 rfl rfl rfl ?_
    refine g_if_lt (n := 7) 49 dX10_putWord_4 (by decide) rfl (fun hc => ?_) (fun hc => ?_)
    · have h := h.1 hc
      exact g_vret rfl dX10_putWord_49 ⟨rfl, rfl, h⟩
    · have h := h.2 hc
      refine g_aload_n (n := 8) dX10_putWord_7 rfl rfl rfl ?_
      refine g_getIE (n := 11) (k := 1) (x := (I 1 1)) dX10_putWord_8 sC_1 vc_14 (Nat.le_of_ble_eq_true rfl) rfl w_150 rfl rfl ?_
      refine g_sipush (n := 14) (v := (nI 400)) dX10_putWord_11 rfl rfl ?_
      refine g_icmp_ge (n := 17) 49 dX10_putWord_14 (by decide) rfl (fun hc => ?_) (fun hc => ?_)
      · have h := h.1 hc
        exact g_vret rfl dX10_putWord_49 ⟨rfl, rfl, h⟩
      · have h := h.2 hc
        refine g_aload_n (n := 18) dX10_putWord_17 rfl rfl rfl ?_
        refine g_getR (n := 21) (k := 0) dX10_putWord_18 sC_1 vc_14 (Nat.le_of_ble_eq_true rfl) rfl w_148 rfl ?_
        refine g_aload_n (n := 22) dX10_putWord_21 rfl rfl rfl ?_
        refine g_getIE (n := 25) (k := 1) (x := (I 1 1)) dX10_putWord_22 sC_1 vc_14 (Nat.le_of_ble_eq_true rfl) rfl w_150 rfl rfl ?_
        refine g_iload_n (n := 26) dX10_putWord_25 rfl rfl rfl ?_
        refine g_iload_n (n := 27) dX10_putWord_26 rfl rfl rfl ?_
        refine g_iushr (n := 28) dX10_putWord_27 rfl ?_
        refine g_sipush (n := 31) (v := (nI 255)) dX10_putWord_28 rfl rfl ?_
        refine g_iand (n := 32) dX10_putWord_31 rfl ?_
        obtain ⟨j_1, hj, hl, h⟩ := h
        refine g_iastJ (n := 33) (j := j_1) dX10_putWord_32 sC_2 hj hl (by decide) rfl ?_
        refine g_aload_n (n := 34) dX10_putWord_33 rfl rfl rfl ?_
        refine g_dup (n := 35) dX10_putWord_34 rfl rfl ?_
        refine g_getIE (n := 38) (k := 1) (x := (I 1 1)) dX10_putWord_35 sC_1 vc_14 (Nat.le_of_ble_eq_true rfl) rfl w_150 rfl rfl ?_
        refine g_iconst (n := 39) (v := (nI 1)) dX10_putWord_38 rfl rfl ?_
        refine g_iadd (n := 40) dX10_putWord_39 rfl ?_
        refine g_putI (n := 43) (k := 1) dX10_putWord_40 sC_1 vc_14 (Nat.le_of_ble_eq_true rfl) rfl w_150 rfl rfl rfl rfl rfl ?_
        refine g_iinc (n := 46) (v := (x2 + (-8))) (ls' := [some (.ref 1), some (.int x1), some (.int (x2 + (-8)))]) dX10_putWord_43 rfl rfl rfl (Nat.le_of_ble_eq_true rfl) rfl rfl ?_
        refine g_goto 3 dX10_putWord_46 (by decide) ?_
        exact hL3 _ _ _ _ h
set_option maxRecDepth 20000 in
theorem ctX10_putWord {Z : ab_Z} {K : ab_F → ab_F → Prop} {I A : ab_F} {p0 : Int32} (h : wX10_putWord K I A p0) : ab_Cl mX10_putWord 0 0 0 [.ref 1, .int p0] (shC Z) I A (ab_Px (shC Z) ab_no (ab_rv K)) := by
  refine ab_enter (ls := [some (.ref 1), some (.int p0), none]) (by decide +kernel) (Nat.le_of_ble_eq_true rfl) rfl (fun C => ?_)
  unfold wX10_putWord at h
  refine g_bipush (n := 2) (v := (nI 24)) dX10_putWord_0 rfl rfl ?_
  refine g_istore_n (n := 3) (ls' := [some (.ref 1), some (.int p0), some (.int (nI 24))]) dX10_putWord_2 rfl rfl (Nat.le_of_ble_eq_true rfl) (Nat.le_of_ble_eq_true rfl) rfl rfl ?_
  refine g_less (bc' := 0) (bs' := 0) (Nat.le_of_ble_eq_true rfl) (Nat.le_of_ble_eq_true rfl) ?_
  obtain ⟨n_f, h⟩ := h
  exact tlX10_putWord_3  n_f _ _ _ _ h
def wX11_appendText (K : Int32 → ab_F → ab_F → Prop) (KX : String → ab_F → ab_F → Prop) (I A : ab_F) (p0 : Int32) (p1 : Int32) (p2 : Int32) (p3 : Int32) (p4 : Int32) : Prop := ((((I 1 1) + (nI 20)) ≤ (nI 400) → wX10_putWord (fun I_1 A_2 => wX10_putWord (fun I_3 A_4 => wX10_putWord (fun I_5 A_6 => wX10_putWord (fun I_7 A_8 => wX10_putWord (fun I_9 A_10 => K (I_9 1 1) I_9 A_10) I_7 A_8 p4) I_5 A_6 p3) I_3 A_4 p2) I_1 A_2 p1) I A p0) ∧ (¬ ((I 1 1) + (nI 20)) ≤ (nI 400) → KX "java/lang/IllegalStateException" I A))
set_option maxRecDepth 20000 in
theorem ctX11_appendText {Z : ab_Z} {K : Int32 → ab_F → ab_F → Prop} {KX : String → ab_F → ab_F → Prop} {I A : ab_F} {p0 : Int32} {p1 : Int32} {p2 : Int32} {p3 : Int32} {p4 : Int32} (h : wX11_appendText K KX I A p0 p1 p2 p3 p4) : ab_Cl mX11_appendText 6 1 6 [.ref 0, .int p0, .int p1, .int p2, .int p3, .int p4] (shC Z) I A (ab_Px (shC Z) KX (ab_ri K)) := by
  refine ab_enter (ls := [some (.ref 0), some (.int p0), some (.int p1), some (.int p2), some (.int p3), some (.int p4)]) (by decide +kernel) (Nat.le_of_ble_eq_true rfl) rfl (fun C => ?_)
  unfold wX11_appendText at h
  refine g_aload_n (n := 1) dX11_appendText_0 rfl rfl rfl ?_
  refine g_getR (n := 4) (k := 2) dX11_appendText_1 sC_0 vc_15 (Nat.le_of_ble_eq_true rfl) rfl w_537 rfl ?_
  refine g_getIE (n := 7) (k := 1) (x := (I 1 1)) dX11_appendText_4 sC_1 vc_14 (Nat.le_of_ble_eq_true rfl) rfl w_149 rfl rfl ?_
  refine g_bipush (n := 9) (v := (nI 20)) dX11_appendText_7 rfl rfl ?_
  refine g_iadd (n := 10) dX11_appendText_9 rfl ?_
  refine g_sipush (n := 13) (v := (nI 400)) dX11_appendText_10 rfl rfl ?_
  refine g_icmp_le (n := 16) 26 dX11_appendText_13 (by decide) rfl (fun hc => ?_) (fun hc => ?_)
  · have h := h.1 hc
    refine g_aload_n (n := 27) dX11_appendText_26 rfl rfl rfl ?_
    refine g_getR (n := 30) (k := 2) dX11_appendText_27 sC_0 vc_15 (Nat.le_of_ble_eq_true rfl) rfl w_537 rfl ?_
    refine g_iload_n (n := 31) dX11_appendText_30 rfl rfl rfl ?_
    refine g_callV (n := 34) (as := [.int p0]) (bc' := 0) (bs' := 0) sC_1 vc_14 (ctX10_putWord h) okX10_putWord rfl w_1424 w_1425 w_1426 w_97 dX11_appendText_31 rfl rfl (Nat.le_of_ble_eq_true rfl) (Nat.le_of_ble_eq_true rfl) (Nat.le_of_ble_eq_true rfl) (Nat.le_of_ble_eq_true rfl) rfl (fun E sh1 I1 A1 hp _ => hp.2.elim) (fun ro sh_ I_1 A_2 hp hle => ?_)
    obtain ⟨rfl, rfl, h⟩ := hp
    refine g_aload_n (n := 35) dX11_appendText_34 rfl rfl rfl ?_
    refine g_getR (n := 38) (k := 2) dX11_appendText_35 sC_0 vc_15 (Nat.le_of_ble_eq_true rfl) rfl w_537 rfl ?_
    refine g_iload_n (n := 39) dX11_appendText_38 rfl rfl rfl ?_
    refine g_callV (n := 42) (as := [.int p1]) (bc' := 0) (bs' := 0) sC_1 vc_14 (ctX10_putWord h) okX10_putWord rfl w_1424 w_1425 w_1426 w_97 dX11_appendText_39 rfl rfl (Nat.le_of_ble_eq_true rfl) (Nat.le_of_ble_eq_true rfl) (Nat.le_of_ble_eq_true rfl) (Nat.le_of_ble_eq_true rfl) rfl (fun E sh1 I1 A1 hp _ => hp.2.elim) (fun ro sh_ I_3 A_4 hp hle => ?_)
    obtain ⟨rfl, rfl, h⟩ := hp
    refine g_aload_n (n := 43) dX11_appendText_42 rfl rfl rfl ?_
    refine g_getR (n := 46) (k := 2) dX11_appendText_43 sC_0 vc_15 (Nat.le_of_ble_eq_true rfl) rfl w_537 rfl ?_
    refine g_iload_n (n := 47) dX11_appendText_46 rfl rfl rfl ?_
    refine g_callV (n := 50) (as := [.int p2]) (bc' := 0) (bs' := 0) sC_1 vc_14 (ctX10_putWord h) okX10_putWord rfl w_1424 w_1425 w_1426 w_97 dX11_appendText_47 rfl rfl (Nat.le_of_ble_eq_true rfl) (Nat.le_of_ble_eq_true rfl) (Nat.le_of_ble_eq_true rfl) (Nat.le_of_ble_eq_true rfl) rfl (fun E sh1 I1 A1 hp _ => hp.2.elim) (fun ro sh_ I_5 A_6 hp hle => ?_)
    obtain ⟨rfl, rfl, h⟩ := hp
    refine g_aload_n (n := 51) dX11_appendText_50 rfl rfl rfl ?_
    refine g_getR (n := 54) (k := 2) dX11_appendText_51 sC_0 vc_15 (Nat.le_of_ble_eq_true rfl) rfl w_537 rfl ?_
    refine g_iload (n := 56) dX11_appendText_54 rfl rfl ?_
    refine g_callV (n := 59) (as := [.int p3]) (bc' := 0) (bs' := 0) sC_1 vc_14 (ctX10_putWord h) okX10_putWord rfl w_1424 w_1425 w_1426 w_97 dX11_appendText_56 rfl rfl (Nat.le_of_ble_eq_true rfl) (Nat.le_of_ble_eq_true rfl) (Nat.le_of_ble_eq_true rfl) (Nat.le_of_ble_eq_true rfl) rfl (fun E sh1 I1 A1 hp _ => hp.2.elim) (fun ro sh_ I_7 A_8 hp hle => ?_)
    obtain ⟨rfl, rfl, h⟩ := hp
    refine g_aload_n (n := 60) dX11_appendText_59 rfl rfl rfl ?_
    refine g_getR (n := 63) (k := 2) dX11_appendText_60 sC_0 vc_15 (Nat.le_of_ble_eq_true rfl) rfl w_537 rfl ?_
    refine g_iload (n := 65) dX11_appendText_63 rfl rfl ?_
    refine g_callV (n := 68) (as := [.int p4]) (bc' := 0) (bs' := 0) sC_1 vc_14 (ctX10_putWord h) okX10_putWord rfl w_1424 w_1425 w_1426 w_97 dX11_appendText_65 rfl rfl (Nat.le_of_ble_eq_true rfl) (Nat.le_of_ble_eq_true rfl) (Nat.le_of_ble_eq_true rfl) (Nat.le_of_ble_eq_true rfl) rfl (fun E sh1 I1 A1 hp _ => hp.2.elim) (fun ro sh_ I_9 A_10 hp hle => ?_)
    obtain ⟨rfl, rfl, h⟩ := hp
    refine g_aload_n (n := 69) dX11_appendText_68 rfl rfl rfl ?_
    refine g_getR (n := 72) (k := 2) dX11_appendText_69 sC_0 vc_15 (Nat.le_of_ble_eq_true rfl) rfl w_537 rfl ?_
    refine g_getIE (n := 75) (k := 1) (x := (I_9 1 1)) dX11_appendText_72 sC_1 vc_14 (Nat.le_of_ble_eq_true rfl) rfl w_149 rfl rfl ?_
    exact g_iret rfl rfl dX11_appendText_75 ⟨rfl, _, rfl, h⟩
  · have h := h.2 hc
    exact g_throw (n := 0) (i := 31) (names := ["java/lang/RuntimeException", "java/lang/Exception"]) dX11_appendText_16 dX11_appendText_19 dX11_appendText_20 dX11_appendText_22 dX11_appendText_25 rfl (by decide) w_1408 w_116 xn_X11_72_a xn_X11_72_b xn_X11_72_c rfl (by decide) (Nat.le_of_ble_eq_true rfl) (Nat.le_of_ble_eq_true rfl) (Nat.le_of_ble_eq_true rfl) ⟨rfl, h⟩
def wX11_demand (K : ab_F → ab_F → Prop) (KX : String → ab_F → ab_F → Prop) (I A : ab_F) (p0 : Int32) : Prop := (((p0).toInt = 1 → KX "java/lang/IndexOutOfBoundsException" I A) ∧ ((p0).toInt = 2 → KX "java/lang/IllegalArgumentException" I A) ∧ ((p0).toInt = 3 → KX "java/lang/IllegalStateException" I A) ∧ ((p0).toInt = 4 → KX "java/util/NoSuchElementException" I A) ∧ ((p0).toInt = 5 → KX "java/lang/UnsupportedOperationException" I A) ∧ ((p0).toInt < 1 ∨ 5 < (p0).toInt → K I A))
set_option maxRecDepth 20000 in
theorem ctX11_demand {Z : ab_Z} {K : ab_F → ab_F → Prop} {KX : String → ab_F → ab_F → Prop} {I A : ab_F} {p0 : Int32} (h : wX11_demand K KX I A p0) : ab_Cl mX11_demand 6 1 6 [.int p0] (shC Z) I A (ab_Px (shC Z) KX (ab_rv K)) := by
  refine ab_enter (ls := [some (.int p0)]) (by decide +kernel) (Nat.le_of_ble_eq_true rfl) rfl (fun C => ?_)
  unfold wX11_demand at h
  refine g_iload_n (n := 1) dX11_demand_0 rfl rfl rfl ?_
  by_cases hc0 : (p0).toInt = 1
  · have h := h.1 hc0
    refine g_tableIn 36 dX11_demand_1 (by rw [hc0]; decide) (by rw [hc0]; decide) (by rw [hc0]; rfl) (by decide) ?_
    exact g_throwW (n := 0) (i := 32) (names := ["java/lang/RuntimeException", "java/lang/Exception"]) dX11_demand_36 dX11_demand_39 dX11_demand_40 dX11_demand_43 dX11_demand_46 rfl (by decide) w_1442 w_117 xn_X11_442_a xn_X11_442_b xn_X11_442_c rfl (by decide) (Nat.le_of_ble_eq_true rfl) (Nat.le_of_ble_eq_true rfl) (Nat.le_of_ble_eq_true rfl) ⟨rfl, h⟩
  by_cases hc1 : (p0).toInt = 2
  · have h := h.2.1 hc1
    refine g_tableIn 47 dX11_demand_1 (by rw [hc1]; decide) (by rw [hc1]; decide) (by rw [hc1]; rfl) (by decide) ?_
    exact g_throwW (n := 0) (i := 33) (names := ["java/lang/RuntimeException", "java/lang/Exception"]) dX11_demand_47 dX11_demand_50 dX11_demand_51 dX11_demand_54 dX11_demand_57 rfl (by decide) w_1455 w_118 xn_X11_401_a xn_X11_401_b xn_X11_401_c rfl (by decide) (Nat.le_of_ble_eq_true rfl) (Nat.le_of_ble_eq_true rfl) (Nat.le_of_ble_eq_true rfl) ⟨rfl, h⟩
  by_cases hc2 : (p0).toInt = 3
  · have h := h.2.2.1 hc2
    refine g_tableIn 58 dX11_demand_1 (by rw [hc2]; decide) (by rw [hc2]; decide) (by rw [hc2]; rfl) (by decide) ?_
    exact g_throwW (n := 0) (i := 34) (names := ["java/lang/RuntimeException", "java/lang/Exception"]) dX11_demand_58 dX11_demand_61 dX11_demand_62 dX11_demand_65 dX11_demand_68 rfl (by decide) w_1408 w_116 xn_X11_72_a xn_X11_72_b xn_X11_72_c rfl (by decide) (Nat.le_of_ble_eq_true rfl) (Nat.le_of_ble_eq_true rfl) (Nat.le_of_ble_eq_true rfl) ⟨rfl, h⟩
  by_cases hc3 : (p0).toInt = 4
  · have h := h.2.2.2.1 hc3
    refine g_tableIn 69 dX11_demand_1 (by rw [hc3]; decide) (by rw [hc3]; decide) (by rw [hc3]; rfl) (by decide) ?_
    exact g_throwX ta_r0 ta_r1 ta_r2 ta_r5 (n := 0) (i := 35) (names := ["java/lang/RuntimeException", "java/lang/Exception"]) dX11_demand_69 dX11_demand_72 dX11_demand_73 dX11_demand_76 dX11_demand_79 rfl (by decide) w_1459 w_119 xn_X11_451_a xn_X11_451_b xn_X11_451_c rfl (by decide) (Nat.le_of_ble_eq_true rfl) (Nat.le_of_ble_eq_true rfl) (Nat.le_of_ble_eq_true rfl) ⟨rfl, h⟩
  by_cases hc4 : (p0).toInt = 5
  · have h := h.2.2.2.2.1 hc4
    refine g_tableIn 80 dX11_demand_1 (by rw [hc4]; decide) (by rw [hc4]; decide) (by rw [hc4]; rfl) (by decide) ?_
    exact g_throwW (n := 0) (i := 36) (names := ["java/lang/RuntimeException", "java/lang/Exception"]) dX11_demand_80 dX11_demand_83 dX11_demand_84 dX11_demand_87 dX11_demand_90 rfl (by decide) w_1475 w_120 xn_X11_235_a xn_X11_235_b xn_X11_235_c rfl (by decide) (Nat.le_of_ble_eq_true rfl) (Nat.le_of_ble_eq_true rfl) (Nat.le_of_ble_eq_true rfl) ⟨rfl, h⟩
  have hc : (p0).toInt < 1 ∨ 5 < (p0).toInt := by omega
  have h := h.2.2.2.2.2 hc
  refine g_tableOut 91 dX11_demand_1 hc (by decide) ?_
  exact g_vret rfl dX11_demand_91 ⟨rfl, rfl, h⟩
