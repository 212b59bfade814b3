def wjX12_runScript_94 (K : Int32 → ab_F → ab_F → Prop) (x1 : Int32) (x2 : Int32) (x4 : Int32) (I A : ab_F) : Prop := K x4 (wr (wr I 0 11 x1) 0 12 x2) A
def wjX12_runScript_74 (K : Int32 → ab_F → ab_F → Prop) (x1 : Int32) (x2 : Int32) (s0 : Int32) (I A : ab_F) : Prop := ((¬ (I 0 11) = 0 → wX12_takeBack (fun I_7 A_8 => wjX12_runScript_94 K x1 x2 s0 I_7 A_8) I A ) ∧ ((I 0 11) = 0 → wX12_push (fun I_9 A_10 => wjX12_runScript_94 K x1 x2 s0 I_9 A_10) I A ))
def wjX12_runScript_57 (K : Int32 → ab_F → ab_F → Prop) (x1 : Int32) (x2 : Int32) (x3 : Int32) (I A : ab_F) : Prop := ((¬ (I 0 11) = 0 → wjX12_runScript_74 K x1 x2 ((-1 : Int32) - (I 0 12)) I A) ∧ ((I 0 11) = 0 → wjX12_runScript_74 K x1 x2 x3 I A))
def wlX12_runScript_25 (K : Int32 → ab_F → ab_F → Prop) : Nat → Int32 → Int32 → Int32 → ab_F → ab_F → Prop
  | 0, _, _, _, _, _ => False
  | n + 1, x1, x2, x3, I, A => ((¬ (I 0 11) = 0 → wjX12_runScript_57 K x1 x2 x3 I A) ∧ ((I 0 11) = 0 → (((I 0 10) ≤ (I 0 8) → wjX12_runScript_57 K x1 x2 x3 I A) ∧ (¬ (I 0 10) ≤ (I 0 8) → wX12_goesThrough (fun I_11 A_12 => wX12_pass (fun I_13 A_14 => (wlX12_runScript_25 K n) x1 x2 (x3 + nI 1) I_13 A_14) I_11 A_12 ) I A ))))
def wX12_runScript (K : Int32 → ab_F → ab_F → Prop) (I A : ab_F)  : Prop := (∀ y_1 : Int32, y_1 = (I 0 11) → (∀ y_2 : Int32, y_2 = (I 0 12) → wX12_keepAside (fun I_3 A_4 => wX12_begin (fun I_5 A_6 => (∃ nf : Nat, wlX12_runScript_25 K nf y_1 y_2 (nI 0) I_5 A_6)) I_3 A_4 ) (wr I 0 5 (nI 0)) A ))
set_option maxRecDepth 20000 in
theorem tjX12_runScript_94 {C : ab_X}  {K : Int32 → ab_F → ab_F → Prop} (x1 : Int32) (x2 : Int32) (x4 : Int32) (I A : ab_F) (h : wjX12_runScript_94 K x1 x2 x4 I A) : ab_G mX12_runScript 10 C (ab_Px shM ab_no (ab_ri K)) 94 [some (.ref 0), some (.int x1), some (.int x2), none, some (.int x4)] [] shM I A 0 0 := by
  unfold wjX12_runScript_94 at h
  refine g_aload_n (n := 95) dX12_runScript_94 rfl rfl rfl ?_
  refine g_iload_n (n := 96) dX12_runScript_95 rfl rfl rfl ?_
  refine g_putI (n := 99) (k := 11) dX12_runScript_96 sM_0 vc_16 (Nat.le_of_ble_eq_true rfl) rfl w_2005 rfl rfl rfl rfl rfl ?_
  refine g_aload_n (n := 100) dX12_runScript_99 rfl rfl rfl ?_
  refine g_iload_n (n := 101) dX12_runScript_100 rfl rfl rfl ?_
  refine g_putI (n := 104) (k := 12) dX12_runScript_101 sM_0 vc_16 (Nat.le_of_ble_eq_true rfl) rfl w_2006 rfl rfl rfl rfl rfl ?_
  refine g_iload (n := 106) dX12_runScript_104 rfl rfl ?_
  exact g_iret rfl rfl dX12_runScript_106 ⟨rfl, _, rfl, h⟩
set_option maxRecDepth 20000 in
theorem tjX12_runScript_74 {C : ab_X}  {K : Int32 → ab_F → ab_F → Prop} (x1 : Int32) (x2 : Int32) (s0 : Int32) (I A : ab_F) (h : wjX12_runScript_74 K x1 x2 s0 I A) : ab_G mX12_runScript 10 C (ab_Px shM ab_no (ab_ri K)) 74 [some (.ref 0), some (.int x1), some (.int x2), none, none] [.int s0] shM I A 0 0 := by
  unfold wjX12_runScript_74 at h
  refine g_istore (n := 76) (ls' := [some (.ref 0), some (.int x1), some (.int x2), none, some (.int s0)]) dX12_runScript_74 rfl (Nat.le_of_ble_eq_true rfl) (Nat.le_of_ble_eq_true rfl) rfl rfl ?_
  refine g_aload_n (n := 77) dX12_runScript_76 rfl rfl rfl ?_
  refine g_getIE (n := 80) (k := 11) (x := (I 0 11)) dX12_runScript_77 sM_0 vc_16 (Nat.le_of_ble_eq_true rfl) rfl w_2005 rfl rfl ?_
  refine g_if_ne (n := 83) 90 dX12_runScript_80 (by decide) rfl (fun hc => ?_) (fun hc => ?_)
  · have h := h.1 hc
    refine g_aload_n (n := 91) dX12_runScript_90 rfl rfl rfl ?_
    refine g_callV (n := 94) (as := []) (bc' := 0) (bs' := 0) sM_0 vc_16 (ctX12_takeBack h) okX12_takeBack rfl w_2402 w_2404 w_79 w_112 dX12_runScript_91 rfl rfl (Nat.le_of_ble_eq_true rfl) (Nat.le_of_ble_eq_true rfl) (Nat.le_of_ble_eq_true rfl) (Nat.le_of_ble_eq_true rfl) rfl (fun E sh1 I1 A1 hp _ => hp.2.elim) (fun ro sh_ I_7 A_8 hp hle => ?_)
    obtain ⟨rfl, rfl, h⟩ := hp
    refine g_less (bc' := 0) (bs' := 0) (Nat.le_of_ble_eq_true rfl) (Nat.le_of_ble_eq_true rfl) ?_
    exact tjX12_runScript_94  _ _ _ _ _ h
  · have h := h.2 hc
    refine g_aload_n (n := 84) dX12_runScript_83 rfl rfl rfl ?_
    refine g_callV (n := 87) (as := []) (bc' := 0) (bs' := 0) sM_0 vc_16 (ctX12_push h) okX12_push rfl w_2243 w_2245 w_54 w_112 dX12_runScript_84 rfl rfl (Nat.le_of_ble_eq_true rfl) (Nat.le_of_ble_eq_true rfl) (Nat.le_of_ble_eq_true rfl) (Nat.le_of_ble_eq_true rfl) rfl (fun E sh1 I1 A1 hp _ => hp.2.elim) (fun ro sh_ I_9 A_10 hp hle => ?_)
    obtain ⟨rfl, rfl, h⟩ := hp
    refine g_goto 94 dX12_runScript_87 (by decide) ?_
    refine g_less (bc' := 0) (bs' := 0) (Nat.le_of_ble_eq_true rfl) (Nat.le_of_ble_eq_true rfl) ?_
    exact tjX12_runScript_94  _ _ _ _ _ h
set_option maxRecDepth 20000 in
theorem tjX12_runScript_57 {C : ab_X}  {K : Int32 → ab_F → ab_F → Prop} (x1 : Int32) (x2 : Int32) (x3 : Int32) (I A : ab_F) (h : wjX12_runScript_57 K x1 x2 x3 I A) : ab_G mX12_runScript 10 C (ab_Px shM ab_no (ab_ri K)) 57 [some (.ref 0), some (.int x1), some (.int x2), some (.int x3), none] [] shM I A 0 0 := by
  unfold wjX12_runScript_57 at h
  refine g_aload_n (n := 58) dX12_runScript_57 rfl rfl rfl ?_
  refine g_getIE (n := 61) (k := 11) (x := (I 0 11)) dX12_runScript_58 sM_0 vc_16 (Nat.le_of_ble_eq_true rfl) rfl w_2005 rfl rfl ?_
  refine g_if_ne (n := 64) 68 dX12_runScript_61 (by decide) rfl (fun hc => ?_) (fun hc => ?_)
  · have h := h.1 hc
    refine g_iconst (n := 69) (v := (-1 : Int32)) dX12_runScript_68 rfl rfl ?_
    refine g_aload_n (n := 70) dX12_runScript_69 rfl rfl rfl ?_
    refine g_getIE (n := 73) (k := 12) (x := (I 0 12)) dX12_runScript_70 sM_0 vc_16 (Nat.le_of_ble_eq_true rfl) rfl w_2006 rfl rfl ?_
    refine g_isub (n := 74) dX12_runScript_73 rfl ?_
    refine g_forget (ls' := [some (.ref 0), some (.int x1), some (.int x2), none, none]) (ab_fg rfl) ?_
    refine g_less (bc' := 0) (bs' := 0) (Nat.le_of_ble_eq_true rfl) (Nat.le_of_ble_eq_true rfl) ?_
    exact tjX12_runScript_74  _ _ _ _ _ h
  · have h := h.2 hc
    refine g_iload_n (n := 65) dX12_runScript_64 rfl rfl rfl ?_
    refine g_goto 74 dX12_runScript_65 (by decide) ?_
    refine g_forget (ls' := [some (.ref 0), some (.int x1), some (.int x2), none, none]) (ab_fg rfl) ?_
    refine g_less (bc' := 0) (bs' := 0) (Nat.le_of_ble_eq_true rfl) (Nat.le_of_ble_eq_true rfl) ?_
    exact tjX12_runScript_74  _ _ _ _ _ h
set_option maxRecDepth 20000 in
theorem tlX12_runScript_25 {C : ab_X}  {K : Int32 → ab_F → ab_F → Prop} : ∀ (n : Nat) (x1 : Int32) (x2 : Int32) (x3 : Int32) (I A : ab_F), wlX12_runScript_25 K n x1 x2 x3 I A → ab_G mX12_runScript 10 C (ab_Px shM ab_no (ab_ri K)) 25 [some (.ref 0), some (.int x1), some (.int x2), some (.int x3), none] [] shM I A 0 0 := by
  intro n
  induction n with
  | zero => intro x1 x2 x3 I A h; exact h.elim
  | succ n hL25 =>
    intro x1 x2 x3 I A h
    rw [wlX12_runScript_25] at h
    refine g_aload_n (n := 26) dX12_runScript_25 rfl rfl rfl ?_
    refine g_getIE (n := 29) (k := 11) (x := (I 0 11)) dX12_runScript_26 sM_0 vc_16 (Nat.le_of_ble_eq_true rfl) rfl w_2005 rfl rfl ?_
    refine g_if_ne (n := 32) 57 dX12_runScript_29 (by decide) rfl (fun hc => ?_) (fun hc => ?_)
    · have h := h.1 hc
      refine g_less (bc' := 0) (bs' := 0) (Nat.le_of_ble_eq_true rfl) (Nat.le_of_ble_eq_true rfl) ?_
      exact tjX12_runScript_57  _ _ _ _ _ h
    · have h := h.2 hc
      refine g_aload_n (n := 33) dX12_runScript_32 rfl rfl rfl ?_
      refine g_getIE (n := 36) (k := 8) (x := (I 0 8)) dX12_runScript_33 sM_0 vc_16 (Nat.le_of_ble_eq_true rfl) rfl w_2002 rfl rfl ?_
      refine g_aload_n (n := 37) dX12_runScript_36 rfl rfl rfl ?_
      refine g_getIE (n := 40) (k := 10) (x := (I 0 10)) dX12_runScript_37 sM_0 vc_16 (Nat.le_of_ble_eq_true rfl) rfl w_2004 rfl rfl ?_
      refine g_icmp_ge (n := 43) 57 dX12_runScript_40 (by decide) rfl (fun hc => ?_) (fun hc => ?_)
      · have h := h.1 hc
        refine g_less (bc' := 0) (bs' := 0) (Nat.le_of_ble_eq_true rfl) (Nat.le_of_ble_eq_true rfl) ?_
        exact tjX12_runScript_57  _ _ _ _ _ h
      · have h := h.2 hc
        refine g_aload_n (n := 44) dX12_runScript_43 rfl rfl rfl ?_
        refine g_callV (n := 47) (as := []) (bc' := 0) (bs' := 0) sM_0 vc_16 (ctX12_goesThrough h) okX12_goesThrough rfl w_2369 w_2371 w_74 w_112 dX12_runScript_44 rfl rfl (Nat.le_of_ble_eq_true rfl) (Nat.le_of_ble_eq_true rfl) (Nat.le_of_ble_eq_true rfl) (Nat.le_of_ble_eq_true rfl) rfl (fun E sh1 I1 A1 hp _ => hp.2.elim) (fun ro sh_ I_11 A_12 hp hle => ?_)
        obtain ⟨rfl, rfl, h⟩ := hp
        refine g_aload_n (n := 48) dX12_runScript_47 rfl rfl rfl ?_
        refine g_callV (n := 51) (as := []) (bc' := 0) (bs' := 0) sM_0 vc_16 (ctX12_pass h) okX12_pass rfl w_2122 w_2124 w_34 w_112 dX12_runScript_48 rfl rfl (Nat.le_of_ble_eq_true rfl) (Nat.le_of_ble_eq_true rfl) (Nat.le_of_ble_eq_true rfl) (Nat.le_of_ble_eq_true rfl) rfl (fun E sh1 I1 A1 hp _ => hp.2.elim) (fun ro sh_ I_13 A_14 hp hle => ?_)
        obtain ⟨rfl, rfl, h⟩ := hp
        refine g_iinc (n := 54) (v := (x3 + nI 1)) (ls' := [some (.ref 0), some (.int x1), some (.int x2), some (.int (x3 + nI 1)), none]) dX12_runScript_51 rfl rfl rfl (Nat.le_of_ble_eq_true rfl) rfl rfl ?_
        refine g_goto 25 dX12_runScript_54 (by decide) ?_
        exact hL25 _ _ _ _ _ h
set_option maxRecDepth 20000 in
theorem ctX12_runScript  {K : Int32 → ab_F → ab_F → Prop} {I A : ab_F}  (h : wX12_runScript K I A ) : ab_Cl mX12_runScript 10 0 0 [.ref 0] shM I A (ab_Px shM ab_no (ab_ri K)) := by
  refine ab_enter (ls := [some (.ref 0), none, none, none, none]) (by decide +kernel) (Nat.le_of_ble_eq_true rfl) rfl (fun C => ?_)
  unfold wX12_runScript at h
  refine g_aload_n (n := 1) dX12_runScript_0 rfl rfl rfl ?_
  refine g_iconst (n := 2) (v := (nI 0)) dX12_runScript_1 rfl rfl ?_
  refine g_putI (n := 5) (k := 5) dX12_runScript_2 sM_0 vc_16 (Nat.le_of_ble_eq_true rfl) rfl w_1999 rfl rfl rfl rfl rfl ?_
  refine g_aload_n (n := 6) dX12_runScript_5 rfl rfl rfl ?_
  refine g_getIE (n := 9) (k := 11) (x := (I 0 11)) dX12_runScript_6 sM_0 vc_16 (Nat.le_of_ble_eq_true rfl) rfl w_2005 rfl rfl ?_
  refine g_topi (fun y_1 ey_1 => ?_)
  have h := h y_1 ey_1
  refine g_istore_n (n := 10) (ls' := [some (.ref 0), some (.int y_1), none, none, none]) dX12_runScript_9 rfl rfl (Nat.le_of_ble_eq_true rfl) (Nat.le_of_ble_eq_true rfl) rfl rfl ?_
  refine g_aload_n (n := 11) dX12_runScript_10 rfl rfl rfl ?_
  refine g_getIE (n := 14) (k := 12) (x := (I 0 12)) dX12_runScript_11 sM_0 vc_16 (Nat.le_of_ble_eq_true rfl) rfl w_2006 rfl rfl ?_
  refine g_topi (fun y_2 ey_2 => ?_)
  have h := h y_2 ey_2
  refine g_istore_n (n := 15) (ls' := [some (.ref 0), some (.int y_1), some (.int y_2), none, none]) dX12_runScript_14 rfl rfl (Nat.le_of_ble_eq_true rfl) (Nat.le_of_ble_eq_true rfl) rfl rfl ?_
  refine g_aload_n (n := 16) dX12_runScript_15 rfl rfl rfl ?_
  refine g_callV (n := 19) (as := []) (bc' := 0) (bs' := 0) sM_0 vc_16 (ctX12_keepAside h) okX12_keepAside rfl w_2239 w_2241 w_53 w_112 dX12_runScript_16 rfl rfl (Nat.le_of_ble_eq_true rfl) (Nat.le_of_ble_eq_true rfl) (Nat.le_of_ble_eq_true rfl) (Nat.le_of_ble_eq_true rfl) rfl (fun E sh1 I1 A1 hp _ => hp.2.elim) (fun ro sh_ I_3 A_4 hp hle => ?_)
  obtain ⟨rfl, rfl, h⟩ := hp
  refine g_aload_n (n := 20) dX12_runScript_19 rfl rfl rfl ?_
  refine g_callV (n := 23) (as := []) (bc' := 0) (bs' := 0) sM_0 vc_16 (ctX12_begin h) okX12_begin rfl w_2087 w_2089 w_27 w_112 dX12_runScript_20 rfl rfl (Nat.le_of_ble_eq_true rfl) (Nat.le_of_ble_eq_true rfl) (Nat.le_of_ble_eq_true rfl) (Nat.le_of_ble_eq_true rfl) rfl (fun E sh1 I1 A1 hp _ => hp.2.elim) (fun ro sh_ I_5 A_6 hp hle => ?_)
  obtain ⟨rfl, rfl, h⟩ := hp
  refine g_iconst (n := 24) (v := (nI 0)) dX12_runScript_23 rfl rfl ?_
  refine g_istore_n (n := 25) (ls' := [some (.ref 0), some (.int y_1), some (.int y_2), some (.int (nI 0)), none]) dX12_runScript_24 rfl rfl (Nat.le_of_ble_eq_true rfl) (Nat.le_of_ble_eq_true rfl) rfl rfl ?_
  refine g_less (bc' := 0) (bs' := 0) (Nat.le_of_ble_eq_true rfl) (Nat.le_of_ble_eq_true rfl) ?_
  obtain ⟨n_f, h⟩ := h
  exact tlX12_runScript_25  n_f _ _ _ _ _ h
def wX12_pageCount (K : Int32 → ab_F → ab_F → Prop) (I A : ab_F) (p0 : Int32) : Prop := wX12_isNoProcess (fun r_3 I_1 A_2 => ((r_3 = 0 → (∃ j_4 : Nat, ((nI 20) + p0) = nI j_4 ∧ j_4 < 608 ∧ K (A_2 1 j_4) I_1 A_2)) ∧ (¬ r_3 = 0 → K (nI 0) I_1 A_2))) I A p0
set_option maxRecDepth 20000 in
theorem ctX12_pageCount  {K : Int32 → ab_F → ab_F → Prop} {I A : ab_F} {p0 : Int32} (h : wX12_pageCount K I A p0) : ab_Cl mX12_pageCount 3 0 0 [.ref 0, .int p0] shM I A (ab_Px shM ab_no (ab_ri K)) := by
  refine ab_enter (ls := [some (.ref 0), some (.int p0)]) (by decide +kernel) (Nat.le_of_ble_eq_true rfl) rfl (fun C => ?_)
  unfold wX12_pageCount at h
  refine g_aload_n (n := 1) dX12_pageCount_0 rfl rfl rfl ?_
  refine g_iload_n (n := 2) dX12_pageCount_1 rfl rfl rfl ?_
  refine g_callV (n := 5) (as := [.int p0]) (bc' := 0) (bs' := 0) sM_0 vc_16 (ctX12_isNoProcess h) okX12_isNoProcess rfl w_2349 w_2351 w_71 w_112 dX12_pageCount_2 rfl rfl (Nat.le_of_ble_eq_true rfl) (Nat.le_of_ble_eq_true rfl) (Nat.le_of_ble_eq_true rfl) (Nat.le_of_ble_eq_true rfl) rfl (fun E sh1 I1 A1 hp _ => hp.2.elim) (fun ro sh_ I_1 A_2 hp hle => ?_)
  obtain ⟨rfl, r_3, rfl, h⟩ := hp
  refine g_if_eq (n := 8) 12 dX12_pageCount_5 (by decide) rfl (fun hc => ?_) (fun hc => ?_)
  · have h := h.1 hc
    refine g_aload_n (n := 13) dX12_pageCount_12 rfl rfl rfl ?_
    refine g_getR (n := 16) (k := 0) dX12_pageCount_13 sM_0 vc_16 (Nat.le_of_ble_eq_true rfl) rfl w_1994 rfl ?_
    refine g_bipush (n := 18) (v := (nI 20)) dX12_pageCount_16 rfl rfl ?_
    refine g_iload_n (n := 19) dX12_pageCount_18 rfl rfl rfl ?_
    refine g_iadd (n := 20) dX12_pageCount_19 rfl ?_
    obtain ⟨j_4, hj, hl, h⟩ := h
    refine g_ialdJ (n := 21) (j := j_4) (x := (A_2 1 j_4)) dX12_pageCount_20 sM_1 hj hl (by decide) rfl rfl ?_
    exact g_iret rfl rfl dX12_pageCount_21 ⟨rfl, _, rfl, h⟩
  · have h := h.2 hc
    refine g_iconst (n := 9) (v := (nI 0)) dX12_pageCount_8 rfl rfl ?_
    refine g_goto 21 dX12_pageCount_9 (by decide) ?_
    exact g_iret rfl rfl dX12_pageCount_21 ⟨rfl, _, rfl, h⟩
def wX12_kindOf (K : Int32 → ab_F → ab_F → Prop) (I A : ab_F) (p0 : Int32) : Prop := wX12_isNoProcess (fun r_3 I_1 A_2 => ((r_3 = 0 → (∃ j_4 : Nat, ((nI 14) + p0) = nI j_4 ∧ j_4 < 608 ∧ K (A_2 1 j_4) I_1 A_2)) ∧ (¬ r_3 = 0 → K (nI 0) I_1 A_2))) I A p0
set_option maxRecDepth 20000 in
theorem ctX12_kindOf  {K : Int32 → ab_F → ab_F → Prop} {I A : ab_F} {p0 : Int32} (h : wX12_kindOf K I A p0) : ab_Cl mX12_kindOf 3 0 0 [.ref 0, .int p0] shM I A (ab_Px shM ab_no (ab_ri K)) := by
  refine ab_enter (ls := [some (.ref 0), some (.int p0)]) (by decide +kernel) (Nat.le_of_ble_eq_true rfl) rfl (fun C => ?_)
  unfold wX12_kindOf at h
  refine g_aload_n (n := 1) dX12_kindOf_0 rfl rfl rfl ?_
  refine g_iload_n (n := 2) dX12_kindOf_1 rfl rfl rfl ?_
  refine g_callV (n := 5) (as := [.int p0]) (bc' := 0) (bs' := 0) sM_0 vc_16 (ctX12_isNoProcess h) okX12_isNoProcess rfl w_2349 w_2351 w_71 w_112 dX12_kindOf_2 rfl rfl (Nat.le_of_ble_eq_true rfl) (Nat.le_of_ble_eq_true rfl) (Nat.le_of_ble_eq_true rfl) (Nat.le_of_ble_eq_true rfl) rfl (fun E sh1 I1 A1 hp _ => hp.2.elim) (fun ro sh_ I_1 A_2 hp hle => ?_)
  obtain ⟨rfl, r_3, rfl, h⟩ := hp
  refine g_if_eq (n := 8) 12 dX12_kindOf_5 (by decide) rfl (fun hc => ?_) (fun hc => ?_)
  · have h := h.1 hc
    refine g_aload_n (n := 13) dX12_kindOf_12 rfl rfl rfl ?_
    refine g_getR (n := 16) (k := 0) dX12_kindOf_13 sM_0 vc_16 (Nat.le_of_ble_eq_true rfl) rfl w_1994 rfl ?_
    refine g_bipush (n := 18) (v := (nI 14)) dX12_kindOf_16 rfl rfl ?_
    refine g_iload_n (n := 19) dX12_kindOf_18 rfl rfl rfl ?_
    refine g_iadd (n := 20) dX12_kindOf_19 rfl ?_
    obtain ⟨j_4, hj, hl, h⟩ := h
    refine g_ialdJ (n := 21) (j := j_4) (x := (A_2 1 j_4)) dX12_kindOf_20 sM_1 hj hl (by decide) rfl rfl ?_
    exact g_iret rfl rfl dX12_kindOf_21 ⟨rfl, _, rfl, h⟩
  · have h := h.2 hc
    refine g_iconst (n := 9) (v := (nI 0)) dX12_kindOf_8 rfl rfl ?_
    refine g_goto 21 dX12_kindOf_9 (by decide) ?_
    exact g_iret rfl rfl dX12_kindOf_21 ⟨rfl, _, rfl, h⟩
def wX12_peek (K : Int32 → ab_F → ab_F → Prop) (I A : ab_F) (p0 : Int32) (p1 : Int32) : Prop := wX12_isNoPage (fun r_3 I_1 A_2 => ((r_3 = 0 → wX12_pageOf (fun r_6 I_4 A_5 => (∃ j_7 : Nat, ((nI 32) + r_6) = nI j_7 ∧ j_7 < 608 ∧ K (A_5 1 j_7) I_4 A_5)) I_1 A_2 p0 p1) ∧ (¬ r_3 = 0 → K (nI 0) I_1 A_2))) I A p0 p1
set_option maxRecDepth 20000 in
theorem ctX12_peek  {K : Int32 → ab_F → ab_F → Prop} {I A : ab_F} {p0 : Int32} {p1 : Int32} (h : wX12_peek K I A p0 p1) : ab_Cl mX12_peek 4 0 0 [.ref 0, .int p0, .int p1] shM I A (ab_Px shM ab_no (ab_ri K)) := by
  refine ab_enter (ls := [some (.ref 0), some (.int p0), some (.int p1)]) (by decide +kernel) (Nat.le_of_ble_eq_true rfl) rfl (fun C => ?_)
  unfold wX12_peek at h
  refine g_aload_n (n := 1) dX12_peek_0 rfl rfl rfl ?_
  refine g_iload_n (n := 2) dX12_peek_1 rfl rfl rfl ?_
  refine g_iload_n (n := 3) dX12_peek_2 rfl rfl rfl ?_
  refine g_callV (n := 6) (as := [.int p0, .int p1]) (bc' := 0) (bs' := 0) sM_0 vc_16 (ctX12_isNoPage h) okX12_isNoPage rfl w_2177 w_2179 w_39 w_112 dX12_peek_3 rfl rfl (Nat.le_of_ble_eq_true rfl) (Nat.le_of_ble_eq_true rfl) (Nat.le_of_ble_eq_true rfl) (Nat.le_of_ble_eq_true rfl) rfl (fun E sh1 I1 A1 hp _ => hp.2.elim) (fun ro sh_ I_1 A_2 hp hle => ?_)
  obtain ⟨rfl, r_3, rfl, h⟩ := hp
  refine g_if_eq (n := 9) 13 dX12_peek_6 (by decide) rfl (fun hc => ?_) (fun hc => ?_)
  · have h := h.1 hc
    refine g_aload_n (n := 14) dX12_peek_13 rfl rfl rfl ?_
    refine g_getR (n := 17) (k := 0) dX12_peek_14 sM_0 vc_16 (Nat.le_of_ble_eq_true rfl) rfl w_1994 rfl ?_
    refine g_bipush (n := 19) (v := (nI 32)) dX12_peek_17 rfl rfl ?_
    refine g_iload_n (n := 20) dX12_peek_19 rfl rfl rfl ?_
    refine g_iload_n (n := 21) dX12_peek_20 rfl rfl rfl ?_
    refine g_callS (n := 24) (as := [.int p0, .int p1]) (bc' := 0) (bs' := 0) (ctX12_pageOf h) okX12_pageOf w_2193 w_2194 dX12_peek_21 rfl rfl (Nat.le_of_ble_eq_true rfl) (Nat.le_of_ble_eq_true rfl) (Nat.le_of_ble_eq_true rfl) (Nat.le_of_ble_eq_true rfl) rfl (fun E sh1 I1 A1 hp _ => hp.2.elim) (fun ro sh_ I_4 A_5 hp hle => ?_)
    obtain ⟨rfl, r_6, rfl, h⟩ := hp
    refine g_iadd (n := 25) dX12_peek_24 rfl ?_
    obtain ⟨j_7, hj, hl, h⟩ := h
    refine g_ialdJ (n := 26) (j := j_7) (x := (A_5 1 j_7)) dX12_peek_25 sM_1 hj hl (by decide) rfl rfl ?_
    exact g_iret rfl rfl dX12_peek_26 ⟨rfl, _, rfl, h⟩
  · have h := h.2 hc
    refine g_iconst (n := 10) (v := (nI 0)) dX12_peek_9 rfl rfl ?_
    refine g_goto 26 dX12_peek_10 (by decide) ?_
    exact g_iret rfl rfl dX12_peek_26 ⟨rfl, _, rfl, h⟩
def wjX12_peekFloat_27 (K : UInt32 → ab_F → ab_F → Prop) (x1 : Int32) (x2 : Int32) (s0 : Int32) (I A : ab_F) : Prop := wX12_fails (fun r_7 I_5 A_6 => ((r_7 = 0 → wX12_pageOf (fun r_10 I_8 A_9 => (∃ j_11 : Nat, ((nI 32) + r_10) = nI j_11 ∧ j_11 < 608 ∧ (vn_sni2f (A_9 1 j_11) = false ∧ K (((A_9 1 j_11)).toUInt32) I_8 A_9))) I_5 A_6 x1 x2) ∧ (¬ r_7 = 0 → K FP.fconst0 I_5 A_6))) I A s0 (nI 2)
def wX12_peekFloat (K : UInt32 → ab_F → ab_F → Prop) (I A : ab_F) (p0 : Int32) (p1 : Int32) : Prop := wX12_isNoPage (fun r_3 I_1 A_2 => ((¬ r_3 = 0 → K FP.fconst0 I_1 A_2) ∧ (r_3 = 0 → (∃ j_4 : Nat, ((nI 14) + p0) = nI j_4 ∧ j_4 < 608 ∧ ((¬ (A_2 1 j_4) = 0 → wjX12_peekFloat_27 K p0 p1 (nI 0) I_1 A_2) ∧ ((A_2 1 j_4) = 0 → wjX12_peekFloat_27 K p0 p1 (nI 1) I_1 A_2)))))) I A p0 p1
set_option maxRecDepth 20000 in
theorem tjX12_peekFloat_27 {C : ab_X}  {K : UInt32 → ab_F → ab_F → Prop} (x1 : Int32) (x2 : Int32) (s0 : Int32) (I A : ab_F) (h : wjX12_peekFloat_27 K x1 x2 s0 I A) : ab_G mX12_peekFloat 4 C (ab_Px shM ab_no (ab_rf K)) 27 [some (.ref 0), some (.int x1), some (.int x2)] [.int s0, .ref 0] shM I A 0 0 := by
  unfold wjX12_peekFloat_27 at h
  refine g_iconst (n := 28) (v := (nI 2)) dX12_peekFloat_27 rfl rfl ?_
  refine g_callV (n := 31) (as := [.int s0, .int (nI 2)]) (bc' := 0) (bs' := 0) sM_0 vc_16 (ctX12_fails h) okX12_fails rfl w_2189 w_2191 w_42 w_112 dX12_peekFloat_28 rfl rfl (Nat.le_of_ble_eq_true rfl) (Nat.le_of_ble_eq_true rfl) (Nat.le_of_ble_eq_true rfl) (Nat.le_of_ble_eq_true rfl) rfl (fun E sh1 I1 A1 hp _ => hp.2.elim) (fun ro sh_ I_5 A_6 hp hle => ?_)
  obtain ⟨rfl, r_7, rfl, h⟩ := hp
  refine g_if_eq (n := 34) 38 dX12_peekFloat_31 (by decide) rfl (fun hc => ?_) (fun hc => ?_)
  · have h := h.1 hc
    refine g_aload_n (n := 39) dX12_peekFloat_38 rfl rfl rfl ?_
    refine g_getR (n := 42) (k := 0) dX12_peekFloat_39 sM_0 vc_16 (Nat.le_of_ble_eq_true rfl) rfl w_1994 rfl ?_
    refine g_bipush (n := 44) (v := (nI 32)) dX12_peekFloat_42 rfl rfl ?_
    refine g_iload_n (n := 45) dX12_peekFloat_44 rfl rfl rfl ?_
    refine g_iload_n (n := 46) dX12_peekFloat_45 rfl rfl rfl ?_
    refine g_callS (n := 49) (as := [.int x1, .int x2]) (bc' := 0) (bs' := 0) (ctX12_pageOf h) okX12_pageOf w_2193 w_2194 dX12_peekFloat_46 rfl rfl (Nat.le_of_ble_eq_true rfl) (Nat.le_of_ble_eq_true rfl) (Nat.le_of_ble_eq_true rfl) (Nat.le_of_ble_eq_true rfl) rfl (fun E sh1 I1 A1 hp _ => hp.2.elim) (fun ro sh_ I_8 A_9 hp hle => ?_)
    obtain ⟨rfl, r_10, rfl, h⟩ := hp
    refine g_iadd (n := 50) dX12_peekFloat_49 rfl ?_
    obtain ⟨j_11, hj, hl, h⟩ := h
    refine g_ialdJ (n := 51) (j := j_11) (x := (A_9 1 j_11)) dX12_peekFloat_50 sM_1 hj hl (by decide) rfl rfl ?_
    obtain ⟨hz, h⟩ := h
    refine g_i2fN (n := 54) dX12_peekFloat_51 w_2422 w_2424 w_2423 w_127 hz (Nat.le_of_ble_eq_true rfl) (Nat.le_of_ble_eq_true rfl) rfl ?_
    exact g_fret rfl dX12_peekFloat_54 ⟨rfl, _, rfl, h⟩
  · have h := h.2 hc
    refine g_fconst0 (n := 35) dX12_peekFloat_34 rfl ?_
    refine g_goto 54 dX12_peekFloat_35 (by decide) ?_
    exact g_fret rfl dX12_peekFloat_54 ⟨rfl, _, rfl, h⟩
set_option maxRecDepth 20000 in
theorem ctX12_peekFloat  {K : UInt32 → ab_F → ab_F → Prop} {I A : ab_F} {p0 : Int32} {p1 : Int32} (h : wX12_peekFloat K I A p0 p1) : ab_Cl mX12_peekFloat 4 0 0 [.ref 0, .int p0, .int p1] shM I A (ab_Px shM ab_no (ab_rf K)) := by
  refine ab_enter (ls := [some (.ref 0), some (.int p0), some (.int p1)]) (by decide +kernel) (Nat.le_of_ble_eq_true rfl) rfl (fun C => ?_)
  unfold wX12_peekFloat at h
  refine g_aload_n (n := 1) dX12_peekFloat_0 rfl rfl rfl ?_
  refine g_iload_n (n := 2) dX12_peekFloat_1 rfl rfl rfl ?_
  refine g_iload_n (n := 3) dX12_peekFloat_2 rfl rfl rfl ?_
  refine g_callV (n := 6) (as := [.int p0, .int p1]) (bc' := 0) (bs' := 0) sM_0 vc_16 (ctX12_isNoPage h) okX12_isNoPage rfl w_2177 w_2179 w_39 w_112 dX12_peekFloat_3 rfl rfl (Nat.le_of_ble_eq_true rfl) (Nat.le_of_ble_eq_true rfl) (Nat.le_of_ble_eq_true rfl) (Nat.le_of_ble_eq_true rfl) rfl (fun E sh1 I1 A1 hp _ => hp.2.elim) (fun ro sh_ I_1 A_2 hp hle => ?_)
  obtain ⟨rfl, r_3, rfl, h⟩ := hp
  refine g_if_ne (n := 9) 34 dX12_peekFloat_6 (by decide) rfl (fun hc => ?_) (fun hc => ?_)
  · have h := h.1 hc
    refine g_fconst0 (n := 35) dX12_peekFloat_34 rfl ?_
    refine g_goto 54 dX12_peekFloat_35 (by decide) ?_
    exact g_fret rfl dX12_peekFloat_54 ⟨rfl, _, rfl, h⟩
  · have h := h.2 hc
    refine g_aload_n (n := 10) dX12_peekFloat_9 rfl rfl rfl ?_
    refine g_aload_n (n := 11) dX12_peekFloat_10 rfl rfl rfl ?_
    refine g_getR (n := 14) (k := 0) dX12_peekFloat_11 sM_0 vc_16 (Nat.le_of_ble_eq_true rfl) rfl w_1994 rfl ?_
    refine g_bipush (n := 16) (v := (nI 14)) dX12_peekFloat_14 rfl rfl ?_
    refine g_iload_n (n := 17) dX12_peekFloat_16 rfl rfl rfl ?_
    refine g_iadd (n := 18) dX12_peekFloat_17 rfl ?_
    obtain ⟨j_4, hj, hl, h⟩ := h
    refine g_ialdJ (n := 19) (j := j_4) (x := (A_2 1 j_4)) dX12_peekFloat_18 sM_1 hj hl (by decide) rfl rfl ?_
    refine g_if_ne (n := 22) 26 dX12_peekFloat_19 (by decide) rfl (fun hc => ?_) (fun hc => ?_)
    · have h := h.1 hc
      refine g_iconst (n := 27) (v := (nI 0)) dX12_peekFloat_26 rfl rfl ?_
      refine g_less (bc' := 0) (bs' := 0) (Nat.le_of_ble_eq_true rfl) (Nat.le_of_ble_eq_true rfl) ?_
      exact tjX12_peekFloat_27  _ _ _ _ _ h
    · have h := h.2 hc
      refine g_iconst (n := 23) (v := (nI 1)) dX12_peekFloat_22 rfl rfl ?_
      refine g_goto 27 dX12_peekFloat_23 (by decide) ?_
      refine g_less (bc' := 0) (bs' := 0) (Nat.le_of_ble_eq_true rfl) (Nat.le_of_ble_eq_true rfl) ?_
      exact tjX12_peekFloat_27  _ _ _ _ _ h
def wX12_stateOf (K : Int32 → ab_F → ab_F → Prop) (I A : ab_F) (p0 : Int32) : Prop := (∃ j_1 : Nat, ((nI 128) + p0) = nI j_1 ∧ j_1 < 608 ∧ (((A 1 j_1) = (-1 : Int32) → (∃ j_2 : Nat, ((nI 80) + p0) = nI j_2 ∧ j_2 < 608 ∧ ((¬ (A 1 j_2) = (-1 : Int32) → K (nI 1) I A) ∧ ((A 1 j_2) = (-1 : Int32) → K (nI 0) I A)))) ∧ (¬ (A 1 j_1) = (-1 : Int32) → (∃ j_3 : Nat, ((nI 176) + p0) = nI j_3 ∧ j_3 < 608 ∧ K ((nI 2) + (A 1 j_3)) I A))))
set_option maxRecDepth 20000 in
theorem ctX12_stateOf  {K : Int32 → ab_F → ab_F → Prop} {I A : ab_F} {p0 : Int32} (h : wX12_stateOf K I A p0) : ab_Cl mX12_stateOf 0 0 0 [.ref 0, .int p0] shM I A (ab_Px shM ab_no (ab_ri K)) := by
  refine ab_enter (ls := [some (.ref 0), some (.int p0)]) (by decide +kernel) (Nat.le_of_ble_eq_true rfl) rfl (fun C => ?_)
  unfold wX12_stateOf at h
  refine g_aload_n (n := 1) dX12_stateOf_0 rfl rfl rfl ?_
  refine g_getR (n := 4) (k := 0) dX12_stateOf_1 sM_0 vc_16 (Nat.le_of_ble_eq_true rfl) rfl w_1994 rfl ?_
  refine g_sipush (n := 7) (v := (nI 128)) dX12_stateOf_4 rfl rfl ?_
  refine g_iload_n (n := 8) dX12_stateOf_7 rfl rfl rfl ?_
  refine g_iadd (n := 9) dX12_stateOf_8 rfl ?_
  obtain ⟨j_1, hj, hl, h⟩ := h
  refine g_ialdJ (n := 10) (j := j_1) (x := (A 1 j_1)) dX12_stateOf_9 sM_1 hj hl (by decide) rfl rfl ?_
  refine g_iconst (n := 11) (v := (-1 : Int32)) dX12_stateOf_10 rfl rfl ?_
  refine g_icmp_eq (n := 14) 27 dX12_stateOf_11 (by decide) rfl (fun hc => ?_) (fun hc => ?_)
  · have h := h.1 hc
    refine g_aload_n (n := 28) dX12_stateOf_27 rfl rfl rfl ?_
    refine g_getR (n := 31) (k := 0) dX12_stateOf_28 sM_0 vc_16 (Nat.le_of_ble_eq_true rfl) rfl w_1994 rfl ?_
    refine g_bipush (n := 33) (v := (nI 80)) dX12_stateOf_31 rfl rfl ?_
    refine g_iload_n (n := 34) dX12_stateOf_33 rfl rfl rfl ?_
    refine g_iadd (n := 35) dX12_stateOf_34 rfl ?_
    obtain ⟨j_2, hj, hl, h⟩ := h
    refine g_ialdJ (n := 36) (j := j_2) (x := (A 1 j_2)) dX12_stateOf_35 sM_1 hj hl (by decide) rfl rfl ?_
    refine g_iconst (n := 37) (v := (-1 : Int32)) dX12_stateOf_36 rfl rfl ?_
    refine g_icmp_ne (n := 40) 44 dX12_stateOf_37 (by decide) rfl (fun hc => ?_) (fun hc => ?_)
    · have h := h.1 hc
      refine g_iconst (n := 45) (v := (nI 1)) dX12_stateOf_44 rfl rfl ?_
      exact g_iret rfl rfl dX12_stateOf_45 ⟨rfl, _, rfl, h⟩
    · have h := h.2 hc
      refine g_iconst (n := 41) (v := (nI 0)) dX12_stateOf_40 rfl rfl ?_
      refine g_goto 45 dX12_stateOf_41 (by decide) ?_
      exact g_iret rfl rfl dX12_stateOf_45 ⟨rfl, _, rfl, h⟩
  · have h := h.2 hc
    refine g_iconst (n := 15) (v := (nI 2)) dX12_stateOf_14 rfl rfl ?_
    refine g_aload_n (n := 16) dX12_stateOf_15 rfl rfl rfl ?_
    refine g_getR (n := 19) (k := 0) dX12_stateOf_16 sM_0 vc_16 (Nat.le_of_ble_eq_true rfl) rfl w_1994 rfl ?_
    refine g_sipush (n := 22) (v := (nI 176)) dX12_stateOf_19 rfl rfl ?_
    refine g_iload_n (n := 23) dX12_stateOf_22 rfl rfl rfl ?_
    refine g_iadd (n := 24) dX12_stateOf_23 rfl ?_
    obtain ⟨j_3, hj, hl, h⟩ := h
    refine g_ialdJ (n := 25) (j := j_3) (x := (A 1 j_3)) dX12_stateOf_24 sM_1 hj hl (by decide) rfl rfl ?_
    refine g_iadd (n := 26) dX12_stateOf_25 rfl ?_
    exact g_iret rfl rfl dX12_stateOf_26 ⟨rfl, _, rfl, h⟩
def wX12_pageState (K : Int32 → ab_F → ab_F → Prop) (I A : ab_F) (p0 : Int32) (p1 : Int32) : Prop := wX12_isNoPage (fun r_3 I_1 A_2 => ((r_3 = 0 → wX12_pageOf (fun r_6 I_4 A_5 => wX12_stateOf (fun r_9 I_7 A_8 => K r_9 I_7 A_8) I_4 A_5 r_6) I_1 A_2 p0 p1) ∧ (¬ r_3 = 0 → K (nI 0) I_1 A_2))) I A p0 p1
set_option maxRecDepth 20000 in
theorem ctX12_pageState  {K : Int32 → ab_F → ab_F → Prop} {I A : ab_F} {p0 : Int32} {p1 : Int32} (h : wX12_pageState K I A p0 p1) : ab_Cl mX12_pageState 4 0 0 [.ref 0, .int p0, .int p1] shM I A (ab_Px shM ab_no (ab_ri K)) := by
  refine ab_enter (ls := [some (.ref 0), some (.int p0), some (.int p1)]) (by decide +kernel) (Nat.le_of_ble_eq_true rfl) rfl (fun C => ?_)
  unfold wX12_pageState at h
  refine g_aload_n (n := 1) dX12_pageState_0 rfl rfl rfl ?_
  refine g_iload_n (n := 2) dX12_pageState_1 rfl rfl rfl ?_
  refine g_iload_n (n := 3) dX12_pageState_2 rfl rfl rfl ?_
  refine g_callV (n := 6) (as := [.int p0, .int p1]) (bc' := 0) (bs' := 0) sM_0 vc_16 (ctX12_isNoPage h) okX12_isNoPage rfl w_2177 w_2179 w_39 w_112 dX12_pageState_3 rfl rfl (Nat.le_of_ble_eq_true rfl) (Nat.le_of_ble_eq_true rfl) (Nat.le_of_ble_eq_true rfl) (Nat.le_of_ble_eq_true rfl) rfl (fun E sh1 I1 A1 hp _ => hp.2.elim) (fun ro sh_ I_1 A_2 hp hle => ?_)
  obtain ⟨rfl, r_3, rfl, h⟩ := hp
  refine g_if_eq (n := 9) 13 dX12_pageState_6 (by decide) rfl (fun hc => ?_) (fun hc => ?_)
  · have h := h.1 hc
    refine g_aload_n (n := 14) dX12_pageState_13 rfl rfl rfl ?_
    refine g_iload_n (n := 15) dX12_pageState_14 rfl rfl rfl ?_
    refine g_iload_n (n := 16) dX12_pageState_15 rfl rfl rfl ?_
    refine g_callS (n := 19) (as := [.int p0, .int p1]) (bc' := 0) (bs' := 0) (ctX12_pageOf h) okX12_pageOf w_2193 w_2194 dX12_pageState_16 rfl rfl (Nat.le_of_ble_eq_true rfl) (Nat.le_of_ble_eq_true rfl) (Nat.le_of_ble_eq_true rfl) (Nat.le_of_ble_eq_true rfl) rfl (fun E sh1 I1 A1 hp _ => hp.2.elim) (fun ro sh_ I_4 A_5 hp hle => ?_)
    obtain ⟨rfl, r_6, rfl, h⟩ := hp
    refine g_callV (n := 22) (as := [.int r_6]) (bc' := 0) (bs' := 0) sM_0 vc_16 (ctX12_stateOf h) okX12_stateOf rfl w_2429 w_2431 w_80 w_112 dX12_pageState_19 rfl rfl (Nat.le_of_ble_eq_true rfl) (Nat.le_of_ble_eq_true rfl) (Nat.le_of_ble_eq_true rfl) (Nat.le_of_ble_eq_true rfl) rfl (fun E sh1 I1 A1 hp _ => hp.2.elim) (fun ro sh_ I_7 A_8 hp hle => ?_)
    obtain ⟨rfl, r_9, rfl, h⟩ := hp
    exact g_iret rfl rfl dX12_pageState_22 ⟨rfl, _, rfl, h⟩
  · have h := h.2 hc
    refine g_iconst (n := 10) (v := (nI 0)) dX12_pageState_9 rfl rfl ?_
    refine g_goto 22 dX12_pageState_10 (by decide) ?_
    exact g_iret rfl rfl dX12_pageState_22 ⟨rfl, _, rfl, h⟩
def wX12_frameOf (K : Int32 → ab_F → ab_F → Prop) (I A : ab_F) (p0 : Int32) (p1 : Int32) : Prop := wX12_isNoPage (fun r_3 I_1 A_2 => ((r_3 = 0 → wX12_pageOf (fun r_6 I_4 A_5 => (∃ j_7 : Nat, ((nI 128) + r_6) = nI j_7 ∧ j_7 < 608 ∧ K (A_5 1 j_7) I_4 A_5)) I_1 A_2 p0 p1) ∧ (¬ r_3 = 0 → K (nI 0) I_1 A_2))) I A p0 p1
set_option maxRecDepth 20000 in
theorem ctX12_frameOf  {K : Int32 → ab_F → ab_F → Prop} {I A : ab_F} {p0 : Int32} {p1 : Int32} (h : wX12_frameOf K I A p0 p1) : ab_Cl mX12_frameOf 4 0 0 [.ref 0, .int p0, .int p1] shM I A (ab_Px shM ab_no (ab_ri K)) := by
  refine ab_enter (ls := [some (.ref 0), some (.int p0), some (.int p1)]) (by decide +kernel) (Nat.le_of_ble_eq_true rfl) rfl (fun C => ?_)
  unfold wX12_frameOf at h
  refine g_aload_n (n := 1) dX12_frameOf_0 rfl rfl rfl ?_
  refine g_iload_n (n := 2) dX12_frameOf_1 rfl rfl rfl ?_
  refine g_iload_n (n := 3) dX12_frameOf_2 rfl rfl rfl ?_
  refine g_callV (n := 6) (as := [.int p0, .int p1]) (bc' := 0) (bs' := 0) sM_0 vc_16 (ctX12_isNoPage h) okX12_isNoPage rfl w_2177 w_2179 w_39 w_112 dX12_frameOf_3 rfl rfl (Nat.le_of_ble_eq_true rfl) (Nat.le_of_ble_eq_true rfl) (Nat.le_of_ble_eq_true rfl) (Nat.le_of_ble_eq_true rfl) rfl (fun E sh1 I1 A1 hp _ => hp.2.elim) (fun ro sh_ I_1 A_2 hp hle => ?_)
  obtain ⟨rfl, r_3, rfl, h⟩ := hp
  refine g_if_eq (n := 9) 13 dX12_frameOf_6 (by decide) rfl (fun hc => ?_) (fun hc => ?_)
  · have h := h.1 hc
    refine g_aload_n (n := 14) dX12_frameOf_13 rfl rfl rfl ?_
    refine g_getR (n := 17) (k := 0) dX12_frameOf_14 sM_0 vc_16 (Nat.le_of_ble_eq_true rfl) rfl w_1994 rfl ?_
    refine g_sipush (n := 20) (v := (nI 128)) dX12_frameOf_17 rfl rfl ?_
    refine g_iload_n (n := 21) dX12_frameOf_20 rfl rfl rfl ?_
    refine g_iload_n (n := 22) dX12_frameOf_21 rfl rfl rfl ?_
    refine g_callS (n := 25) (as := [.int p0, .int p1]) (bc' := 0) (bs' := 0) (ctX12_pageOf h) okX12_pageOf w_2193 w_2194 dX12_frameOf_22 rfl rfl (Nat.le_of_ble_eq_true rfl) (Nat.le_of_ble_eq_true rfl) (Nat.le_of_ble_eq_true rfl) (Nat.le_of_ble_eq_true rfl) rfl (fun E sh1 I1 A1 hp _ => hp.2.elim) (fun ro sh_ I_4 A_5 hp hle => ?_)
    obtain ⟨rfl, r_6, rfl, h⟩ := hp
    refine g_iadd (n := 26) dX12_frameOf_25 rfl ?_
    obtain ⟨j_7, hj, hl, h⟩ := h
    refine g_ialdJ (n := 27) (j := j_7) (x := (A_5 1 j_7)) dX12_frameOf_26 sM_1 hj hl (by decide) rfl rfl ?_
    exact g_iret rfl rfl dX12_frameOf_27 ⟨rfl, _, rfl, h⟩
  · have h := h.2 hc
    refine g_iconst (n := 10) (v := (nI 0)) dX12_frameOf_9 rfl rfl ?_
    refine g_goto 27 dX12_frameOf_10 (by decide) ?_
    exact g_iret rfl rfl dX12_frameOf_27 ⟨rfl, _, rfl, h⟩
def wX12_slotOf (K : Int32 → ab_F → ab_F → Prop) (I A : ab_F) (p0 : Int32) (p1 : Int32) : Prop := wX12_isNoPage (fun r_3 I_1 A_2 => ((r_3 = 0 → wX12_pageOf (fun r_6 I_4 A_5 => (∃ j_7 : Nat, ((nI 80) + r_6) = nI j_7 ∧ j_7 < 608 ∧ K (A_5 1 j_7) I_4 A_5)) I_1 A_2 p0 p1) ∧ (¬ r_3 = 0 → K (nI 0) I_1 A_2))) I A p0 p1
set_option maxRecDepth 20000 in
theorem ctX12_slotOf  {K : Int32 → ab_F → ab_F → Prop} {I A : ab_F} {p0 : Int32} {p1 : Int32} (h : wX12_slotOf K I A p0 p1) : ab_Cl mX12_slotOf 4 0 0 [.ref 0, .int p0, .int p1] shM I A (ab_Px shM ab_no (ab_ri K)) := by
  refine ab_enter (ls := [some (.ref 0), some (.int p0), some (.int p1)]) (by decide +kernel) (Nat.le_of_ble_eq_true rfl) rfl (fun C => ?_)
  unfold wX12_slotOf at h
  refine g_aload_n (n := 1) dX12_slotOf_0 rfl rfl rfl ?_
  refine g_iload_n (n := 2) dX12_slotOf_1 rfl rfl rfl ?_
  refine g_iload_n (n := 3) dX12_slotOf_2 rfl rfl rfl ?_
  refine g_callV (n := 6) (as := [.int p0, .int p1]) (bc' := 0) (bs' := 0) sM_0 vc_16 (ctX12_isNoPage h) okX12_isNoPage rfl w_2177 w_2179 w_39 w_112 dX12_slotOf_3 rfl rfl (Nat.le_of_ble_eq_true rfl) (Nat.le_of_ble_eq_true rfl) (Nat.le_of_ble_eq_true rfl) (Nat.le_of_ble_eq_true rfl) rfl (fun E sh1 I1 A1 hp _ => hp.2.elim) (fun ro sh_ I_1 A_2 hp hle => ?_)
  obtain ⟨rfl, r_3, rfl, h⟩ := hp
  refine g_if_eq (n := 9) 13 dX12_slotOf_6 (by decide) rfl (fun hc => ?_) (fun hc => ?_)
  · have h := h.1 hc
    refine g_aload_n (n := 14) dX12_slotOf_13 rfl rfl rfl ?_
    refine g_getR (n := 17) (k := 0) dX12_slotOf_14 sM_0 vc_16 (Nat.le_of_ble_eq_true rfl) rfl w_1994 rfl ?_
    refine g_bipush (n := 19) (v := (nI 80)) dX12_slotOf_17 rfl rfl ?_
    refine g_iload_n (n := 20) dX12_slotOf_19 rfl rfl rfl ?_
    refine g_iload_n (n := 21) dX12_slotOf_20 rfl rfl rfl ?_
    refine g_callS (n := 24) (as := [.int p0, .int p1]) (bc' := 0) (bs' := 0) (ctX12_pageOf h) okX12_pageOf w_2193 w_2194 dX12_slotOf_21 rfl rfl (Nat.le_of_ble_eq_true rfl) (Nat.le_of_ble_eq_true rfl) (Nat.le_of_ble_eq_true rfl) (Nat.le_of_ble_eq_true rfl) rfl (fun E sh1 I1 A1 hp _ => hp.2.elim) (fun ro sh_ I_4 A_5 hp hle => ?_)
    obtain ⟨rfl, r_6, rfl, h⟩ := hp
    refine g_iadd (n := 25) dX12_slotOf_24 rfl ?_
    obtain ⟨j_7, hj, hl, h⟩ := h
    refine g_ialdJ (n := 26) (j := j_7) (x := (A_5 1 j_7)) dX12_slotOf_25 sM_1 hj hl (by decide) rfl rfl ?_
    exact g_iret rfl rfl dX12_slotOf_26 ⟨rfl, _, rfl, h⟩
  · have h := h.2 hc
    refine g_iconst (n := 10) (v := (nI 0)) dX12_slotOf_9 rfl rfl ?_
    refine g_goto 26 dX12_slotOf_10 (by decide) ?_
    exact g_iret rfl rfl dX12_slotOf_26 ⟨rfl, _, rfl, h⟩
def wX12_frameOwner (K : Int32 → ab_F → ab_F → Prop) (I A : ab_F) (p0 : Int32) : Prop := wX12_isNoFrame (fun r_3 I_1 A_2 => ((r_3 = 0 → (∃ j_4 : Nat, ((nI 320) + p0) = nI j_4 ∧ j_4 < 608 ∧ K (A_2 1 j_4) I_1 A_2)) ∧ (¬ r_3 = 0 → K (nI 0) I_1 A_2))) I A p0
set_option maxRecDepth 20000 in
theorem ctX12_frameOwner  {K : Int32 → ab_F → ab_F → Prop} {I A : ab_F} {p0 : Int32} (h : wX12_frameOwner K I A p0) : ab_Cl mX12_frameOwner 2 0 0 [.ref 0, .int p0] shM I A (ab_Px shM ab_no (ab_ri K)) := by
  refine ab_enter (ls := [some (.ref 0), some (.int p0)]) (by decide +kernel) (Nat.le_of_ble_eq_true rfl) rfl (fun C => ?_)
  unfold wX12_frameOwner at h
  refine g_aload_n (n := 1) dX12_frameOwner_0 rfl rfl rfl ?_
  refine g_iload_n (n := 2) dX12_frameOwner_1 rfl rfl rfl ?_
  refine g_callV (n := 5) (as := [.int p0]) (bc' := 0) (bs' := 0) sM_0 vc_16 (ctX12_isNoFrame h) okX12_isNoFrame rfl w_2445 w_2447 w_81 w_112 dX12_frameOwner_2 rfl rfl (Nat.le_of_ble_eq_true rfl) (Nat.le_of_ble_eq_true rfl) (Nat.le_of_ble_eq_true rfl) (Nat.le_of_ble_eq_true rfl) rfl (fun E sh1 I1 A1 hp _ => hp.2.elim) (fun ro sh_ I_1 A_2 hp hle => ?_)
  obtain ⟨rfl, r_3, rfl, h⟩ := hp
  refine g_if_eq (n := 8) 12 dX12_frameOwner_5 (by decide) rfl (fun hc => ?_) (fun hc => ?_)
  · have h := h.1 hc
    refine g_aload_n (n := 13) dX12_frameOwner_12 rfl rfl rfl ?_
    refine g_getR (n := 16) (k := 0) dX12_frameOwner_13 sM_0 vc_16 (Nat.le_of_ble_eq_true rfl) rfl w_1994 rfl ?_
    refine g_sipush (n := 19) (v := (nI 320)) dX12_frameOwner_16 rfl rfl ?_
    refine g_iload_n (n := 20) dX12_frameOwner_19 rfl rfl rfl ?_
    refine g_iadd (n := 21) dX12_frameOwner_20 rfl ?_
    obtain ⟨j_4, hj, hl, h⟩ := h
    refine g_ialdJ (n := 22) (j := j_4) (x := (A_2 1 j_4)) dX12_frameOwner_21 sM_1 hj hl (by decide) rfl rfl ?_
    exact g_iret rfl rfl dX12_frameOwner_22 ⟨rfl, _, rfl, h⟩
  · have h := h.2 hc
    refine g_iconst (n := 9) (v := (nI 0)) dX12_frameOwner_8 rfl rfl ?_
    refine g_goto 22 dX12_frameOwner_9 (by decide) ?_
    exact g_iret rfl rfl dX12_frameOwner_22 ⟨rfl, _, rfl, h⟩
def wjX12_frameTime_51 (K : Int32 → ab_F → ab_F → Prop) (x1 : Int32) (x2 : Int32) (s0 : Int32) (I A : ab_F) : Prop := wX12_fails (fun r_13 I_11 A_12 => ((r_13 = 0 → ((¬ x2 = 0 → (∃ j_14 : Nat, ((nI 352) + x1) = nI j_14 ∧ j_14 < 608 ∧ K (A_12 1 j_14) I_11 A_12)) ∧ (x2 = 0 → (∃ j_15 : Nat, ((nI 336) + x1) = nI j_15 ∧ j_15 < 608 ∧ K (A_12 1 j_15) I_11 A_12)))) ∧ (¬ r_13 = 0 → K (nI 0) I_11 A_12))) I A s0 (nI 3)
def wjX12_frameTime_28 (K : Int32 → ab_F → ab_F → Prop) (x1 : Int32) (x2 : Int32) (s0 : Int32) (I A : ab_F) : Prop := wX12_fails (fun r_7 I_5 A_6 => ((¬ r_7 = 0 → K (nI 0) I_5 A_6) ∧ (r_7 = 0 → wX12_in (fun r_10 I_8 A_9 => ((¬ r_10 = 0 → wjX12_frameTime_51 K x1 x2 (nI 0) I_8 A_9) ∧ (r_10 = 0 → wjX12_frameTime_51 K x1 x2 (nI 1) I_8 A_9))) I_5 A_6 ((x2).toInt64) (0 : Int64) (1 : Int64)))) I A s0 (nI 2)
def wX12_frameTime (K : Int32 → ab_F → ab_F → Prop) (I A : ab_F) (p0 : Int32) (p1 : Int32) : Prop := wX12_isNoFrame (fun r_3 I_1 A_2 => ((¬ r_3 = 0 → K (nI 0) I_1 A_2) ∧ (r_3 = 0 → (∃ j_4 : Nat, ((nI 320) + p0) = nI j_4 ∧ j_4 < 608 ∧ ((¬ (A_2 1 j_4) = (-1 : Int32) → wjX12_frameTime_28 K p0 p1 (nI 0) I_1 A_2) ∧ ((A_2 1 j_4) = (-1 : Int32) → wjX12_frameTime_28 K p0 p1 (nI 1) I_1 A_2)))))) I A p0
set_option maxRecDepth 20000 in
theorem tjX12_frameTime_51 {C : ab_X}  {K : Int32 → ab_F → ab_F → Prop} (x1 : Int32) (x2 : Int32) (s0 : Int32) (I A : ab_F) (h : wjX12_frameTime_51 K x1 x2 s0 I A) : ab_G mX12_frameTime 2 C (ab_Px shM ab_no (ab_ri K)) 51 [some (.ref 0), some (.int x1), some (.int x2)] [.int s0, .ref 0] shM I A 0 0 := by
  unfold wjX12_frameTime_51 at h
  refine g_iconst (n := 52) (v := (nI 3)) dX12_frameTime_51 rfl rfl ?_
  refine g_callV (n := 55) (as := [.int s0, .int (nI 3)]) (bc' := 0) (bs' := 0) sM_0 vc_16 (ctX12_fails h) okX12_fails rfl w_2189 w_2191 w_42 w_112 dX12_frameTime_52 rfl rfl (Nat.le_of_ble_eq_true rfl) (Nat.le_of_ble_eq_true rfl) (Nat.le_of_ble_eq_true rfl) (Nat.le_of_ble_eq_true rfl) rfl (fun E sh1 I1 A1 hp _ => hp.2.elim) (fun ro sh_ I_11 A_12 hp hle => ?_)
  obtain ⟨rfl, r_13, rfl, h⟩ := hp
  refine g_if_eq (n := 58) 60 dX12_frameTime_55 (by decide) rfl (fun hc => ?_) (fun hc => ?_)
  · have h := h.1 hc
    refine g_iload_n (n := 61) dX12_frameTime_60 rfl rfl rfl ?_
    refine g_if_ne (n := 64) 77 dX12_frameTime_61 (by decide) rfl (fun hc => ?_) (fun hc => ?_)
    · have h := h.1 hc
      refine g_aload_n (n := 78) dX12_frameTime_77 rfl rfl rfl ?_
      refine g_getR (n := 81) (k := 0) dX12_frameTime_78 sM_0 vc_16 (Nat.le_of_ble_eq_true rfl) rfl w_1994 rfl ?_
      refine g_sipush (n := 84) (v := (nI 352)) dX12_frameTime_81 rfl rfl ?_
      refine g_iload_n (n := 85) dX12_frameTime_84 rfl rfl rfl ?_
      refine g_iadd (n := 86) dX12_frameTime_85 rfl ?_
      obtain ⟨j_14, hj, hl, h⟩ := h
      refine g_ialdJ (n := 87) (j := j_14) (x := (A_12 1 j_14)) dX12_frameTime_86 sM_1 hj hl (by decide) rfl rfl ?_
      exact g_iret rfl rfl dX12_frameTime_87 ⟨rfl, _, rfl, h⟩
    · have h := h.2 hc
      refine g_aload_n (n := 65) dX12_frameTime_64 rfl rfl rfl ?_
      refine g_getR (n := 68) (k := 0) dX12_frameTime_65 sM_0 vc_16 (Nat.le_of_ble_eq_true rfl) rfl w_1994 rfl ?_
      refine g_sipush (n := 71) (v := (nI 336)) dX12_frameTime_68 rfl rfl ?_
      refine g_iload_n (n := 72) dX12_frameTime_71 rfl rfl rfl ?_
      refine g_iadd (n := 73) dX12_frameTime_72 rfl ?_
      obtain ⟨j_15, hj, hl, h⟩ := h
      refine g_ialdJ (n := 74) (j := j_15) (x := (A_12 1 j_15)) dX12_frameTime_73 sM_1 hj hl (by decide) rfl rfl ?_
      refine g_goto 87 dX12_frameTime_74 (by decide) ?_
      exact g_iret rfl rfl dX12_frameTime_87 ⟨rfl, _, rfl, h⟩
  · have h := h.2 hc
    refine g_iconst (n := 59) (v := (nI 0)) dX12_frameTime_58 rfl rfl ?_
    exact g_iret rfl rfl dX12_frameTime_59 ⟨rfl, _, rfl, h⟩
set_option maxRecDepth 20000 in
theorem tjX12_frameTime_28 {C : ab_X}  {K : Int32 → ab_F → ab_F → Prop} (x1 : Int32) (x2 : Int32) (s0 : Int32) (I A : ab_F) (h : wjX12_frameTime_28 K x1 x2 s0 I A) : ab_G mX12_frameTime 2 C (ab_Px shM ab_no (ab_ri K)) 28 [some (.ref 0), some (.int x1), some (.int x2)] [.int s0, .ref 0] shM I A 0 0 := by
  unfold wjX12_frameTime_28 at h
  refine g_iconst (n := 29) (v := (nI 2)) dX12_frameTime_28 rfl rfl ?_
  refine g_callV (n := 32) (as := [.int s0, .int (nI 2)]) (bc' := 0) (bs' := 0) sM_0 vc_16 (ctX12_fails h) okX12_fails rfl w_2189 w_2191 w_42 w_112 dX12_frameTime_29 rfl rfl (Nat.le_of_ble_eq_true rfl) (Nat.le_of_ble_eq_true rfl) (Nat.le_of_ble_eq_true rfl) (Nat.le_of_ble_eq_true rfl) rfl (fun E sh1 I1 A1 hp _ => hp.2.elim) (fun ro sh_ I_5 A_6 hp hle => ?_)
  obtain ⟨rfl, r_7, rfl, h⟩ := hp
  refine g_if_ne (n := 35) 58 dX12_frameTime_32 (by decide) rfl (fun hc => ?_) (fun hc => ?_)
  · have h := h.1 hc
    refine g_iconst (n := 59) (v := (nI 0)) dX12_frameTime_58 rfl rfl ?_
    exact g_iret rfl rfl dX12_frameTime_59 ⟨rfl, _, rfl, h⟩
  · have h := h.2 hc
    refine g_aload_n (n := 36) dX12_frameTime_35 rfl rfl rfl ?_
    refine g_iload_n (n := 37) dX12_frameTime_36 rfl rfl rfl ?_
    refine g_i2l (n := 38) dX12_frameTime_37 rfl ?_
    refine g_lconst (n := 39) (v := (0 : Int64)) dX12_frameTime_38 rfl rfl ?_
    refine g_lconst (n := 40) (v := (1 : Int64)) dX12_frameTime_39 rfl rfl ?_
    refine g_callS (n := 43) (as := [.long ((x2).toInt64), .long (0 : Int64), .long (1 : Int64)]) (bc' := 0) (bs' := 0) (ctX12_in h) okX12_in w_2080 w_2081 dX12_frameTime_40 rfl rfl (Nat.le_of_ble_eq_true rfl) (Nat.le_of_ble_eq_true rfl) (Nat.le_of_ble_eq_true rfl) (Nat.le_of_ble_eq_true rfl) rfl (fun E sh1 I1 A1 hp _ => hp.2.elim) (fun ro sh_ I_8 A_9 hp hle => ?_)
    obtain ⟨rfl, r_10, rfl, h⟩ := hp
    refine g_if_ne (n := 46) 50 dX12_frameTime_43 (by decide) rfl (fun hc => ?_) (fun hc => ?_)
    · have h := h.1 hc
      refine g_iconst (n := 51) (v := (nI 0)) dX12_frameTime_50 rfl rfl ?_
      refine g_less (bc' := 0) (bs' := 0) (Nat.le_of_ble_eq_true rfl) (Nat.le_of_ble_eq_true rfl) ?_
      exact tjX12_frameTime_51  _ _ _ _ _ h
    · have h := h.2 hc
      refine g_iconst (n := 47) (v := (nI 1)) dX12_frameTime_46 rfl rfl ?_
      refine g_goto 51 dX12_frameTime_47 (by decide) ?_
      refine g_less (bc' := 0) (bs' := 0) (Nat.le_of_ble_eq_true rfl) (Nat.le_of_ble_eq_true rfl) ?_
      exact tjX12_frameTime_51  _ _ _ _ _ h
set_option maxRecDepth 20000 in
theorem ctX12_frameTime  {K : Int32 → ab_F → ab_F → Prop} {I A : ab_F} {p0 : Int32} {p1 : Int32} (h : wX12_frameTime K I A p0 p1) : ab_Cl mX12_frameTime 2 0 0 [.ref 0, .int p0, .int p1] shM I A (ab_Px shM ab_no (ab_ri K)) := by
  refine ab_enter (ls := [some (.ref 0), some (.int p0), some (.int p1)]) (by decide +kernel) (Nat.le_of_ble_eq_true rfl) rfl (fun C => ?_)
  unfold wX12_frameTime at h
  refine g_aload_n (n := 1) dX12_frameTime_0 rfl rfl rfl ?_
  refine g_iload_n (n := 2) dX12_frameTime_1 rfl rfl rfl ?_
  refine g_callV (n := 5) (as := [.int p0]) (bc' := 0) (bs' := 0) sM_0 vc_16 (ctX12_isNoFrame h) okX12_isNoFrame rfl w_2445 w_2447 w_81 w_112 dX12_frameTime_2 rfl rfl (Nat.le_of_ble_eq_true rfl) (Nat.le_of_ble_eq_true rfl) (Nat.le_of_ble_eq_true rfl) (Nat.le_of_ble_eq_true rfl) rfl (fun E sh1 I1 A1 hp _ => hp.2.elim) (fun ro sh_ I_1 A_2 hp hle => ?_)
  obtain ⟨rfl, r_3, rfl, h⟩ := hp
  refine g_if_ne (n := 8) 58 dX12_frameTime_5 (by decide) rfl (fun hc => ?_) (fun hc => ?_)
  · have h := h.1 hc
    refine g_iconst (n := 59) (v := (nI 0)) dX12_frameTime_58 rfl rfl ?_
    exact g_iret rfl rfl dX12_frameTime_59 ⟨rfl, _, rfl, h⟩
  · have h := h.2 hc
    refine g_aload_n (n := 9) dX12_frameTime_8 rfl rfl rfl ?_
    refine g_aload_n (n := 10) dX12_frameTime_9 rfl rfl rfl ?_
    refine g_getR (n := 13) (k := 0) dX12_frameTime_10 sM_0 vc_16 (Nat.le_of_ble_eq_true rfl) rfl w_1994 rfl ?_
    refine g_sipush (n := 16) (v := (nI 320)) dX12_frameTime_13 rfl rfl ?_
    refine g_iload_n (n := 17) dX12_frameTime_16 rfl rfl rfl ?_
    refine g_iadd (n := 18) dX12_frameTime_17 rfl ?_
    obtain ⟨j_4, hj, hl, h⟩ := h
    refine g_ialdJ (n := 19) (j := j_4) (x := (A_2 1 j_4)) dX12_frameTime_18 sM_1 hj hl (by decide) rfl rfl ?_
    refine g_iconst (n := 20) (v := (-1 : Int32)) dX12_frameTime_19 rfl rfl ?_
    refine g_icmp_ne (n := 23) 27 dX12_frameTime_20 (by decide) rfl (fun hc => ?_) (fun hc => ?_)
    · have h := h.1 hc
      refine g_iconst (n := 28) (v := (nI 0)) dX12_frameTime_27 rfl rfl ?_
      refine g_less (bc' := 0) (bs' := 0) (Nat.le_of_ble_eq_true rfl) (Nat.le_of_ble_eq_true rfl) ?_
      exact tjX12_frameTime_28  _ _ _ _ _ h
    · have h := h.2 hc
      refine g_iconst (n := 24) (v := (nI 1)) dX12_frameTime_23 rfl rfl ?_
      refine g_goto 28 dX12_frameTime_24 (by decide) ?_
      refine g_less (bc' := 0) (bs' := 0) (Nat.le_of_ble_eq_true rfl) (Nat.le_of_ble_eq_true rfl) ?_
      exact tjX12_frameTime_28  _ _ _ _ _ h
def wX12_victim (K : Int32 → ab_F → ab_F → Prop) (I A : ab_F)  : Prop := wX12_freeFrame (fun r_3 I_1 A_2 => ((¬ r_3 = (-1 : Int32) → K (-1 : Int32) I_1 A_2) ∧ (r_3 = (-1 : Int32) → wX12_victimFrame (fun r_6 I_4 A_5 => K r_6 I_4 A_5) I_1 A_2 ))) (wr I 0 5 (nI 0)) A 
set_option maxRecDepth 20000 in
theorem ctX12_victim  {K : Int32 → ab_F → ab_F → Prop} {I A : ab_F}  (h : wX12_victim K I A ) : ab_Cl mX12_victim 2 0 0 [.ref 0] shM I A (ab_Px shM ab_no (ab_ri K)) := by
  refine ab_enter (ls := [some (.ref 0)]) (by decide +kernel) (Nat.le_of_ble_eq_true rfl) rfl (fun C => ?_)
  unfold wX12_victim at h
  refine g_aload_n (n := 1) dX12_victim_0 rfl rfl rfl ?_
  refine g_iconst (n := 2) (v := (nI 0)) dX12_victim_1 rfl rfl ?_
  refine g_putI (n := 5) (k := 5) dX12_victim_2 sM_0 vc_16 (Nat.le_of_ble_eq_true rfl) rfl w_1999 rfl rfl rfl rfl rfl ?_
  refine g_aload_n (n := 6) dX12_victim_5 rfl rfl rfl ?_
  refine g_callV (n := 9) (as := []) (bc' := 0) (bs' := 0) sM_0 vc_16 (ctX12_freeFrame h) okX12_freeFrame rfl w_2223 w_2225 w_49 w_112 dX12_victim_6 rfl rfl (Nat.le_of_ble_eq_true rfl) (Nat.le_of_ble_eq_true rfl) (Nat.le_of_ble_eq_true rfl) (Nat.le_of_ble_eq_true rfl) rfl (fun E sh1 I1 A1 hp _ => hp.2.elim) (fun ro sh_ I_1 A_2 hp hle => ?_)
  obtain ⟨rfl, r_3, rfl, h⟩ := hp
  refine g_iconst (n := 10) (v := (-1 : Int32)) dX12_victim_9 rfl rfl ?_
  refine g_icmp_ne (n := 13) 20 dX12_victim_10 (by decide) rfl (fun hc => ?_) (fun hc => ?_)
  · have h := h.1 hc
    refine g_iconst (n := 21) (v := (-1 : Int32)) dX12_victim_20 rfl rfl ?_
    exact g_iret rfl rfl dX12_victim_21 ⟨rfl, _, rfl, h⟩
  · have h := h.2 hc
    refine g_aload_n (n := 14) dX12_victim_13 rfl rfl rfl ?_
    refine g_callV (n := 17) (as := []) (bc' := 0) (bs' := 0) sM_0 vc_16 (ctX12_victimFrame h) okX12_victimFrame rfl w_2227 w_2229 w_50 w_112 dX12_victim_14 rfl rfl (Nat.le_of_ble_eq_true rfl) (Nat.le_of_ble_eq_true rfl) (Nat.le_of_ble_eq_true rfl) (Nat.le_of_ble_eq_true rfl) rfl (fun E sh1 I1 A1 hp _ => hp.2.elim) (fun ro sh_ I_4 A_5 hp hle => ?_)
    obtain ⟨rfl, r_6, rfl, h⟩ := hp
    refine g_goto 21 dX12_victim_17 (by decide) ?_
    exact g_iret rfl rfl dX12_victim_21 ⟨rfl, _, rfl, h⟩
def wlX12_pagesIn_6 (K : Int32 → ab_F → ab_F → Prop) : Nat → Int32 → Int32 → Int32 → Int32 → Int32 → ab_F → ab_F → Prop
  | 0, _, _, _, _, _, _, _ => False
  | n + 1, x1, x2, x3, x4, x5, I, A => (∃ j_1 : Nat, ((nI 20) + x1) = nI j_1 ∧ j_1 < 608 ∧ (((A 1 j_1) ≤ x5 → K x4 I A) ∧ (¬ (A 1 j_1) ≤ x5 → wX12_stateOf (fun r_4 I_2 A_3 => wX12_in (fun r_7 I_5 A_6 => ((r_7 = 0 → (∀ y_8 : Int32, y_8 = (x4 ||| (nI 0)) → (wlX12_pagesIn_6 K n) x1 x2 x3 y_8 (x5 + nI 1) I_5 A_6)) ∧ (¬ r_7 = 0 → (∀ y_9 : Int32, y_9 = (x4 ||| ((nI 1) <<< (x5 &&& 31))) → (wlX12_pagesIn_6 K n) x1 x2 x3 y_9 (x5 + nI 1) I_5 A_6)))) I_2 A_3 ((r_4).toInt64) ((x2).toInt64) ((x3).toInt64)) I A (((nI 8) * x1) + x5))))
def wX12_pagesIn (K : Int32 → ab_F → ab_F → Prop) (I A : ab_F) (p0 : Int32) (p1 : Int32) (p2 : Int32) : Prop := (∃ nf : Nat, wlX12_pagesIn_6 K nf p0 p1 p2 (nI 0) (nI 0) I A)
set_option maxRecDepth 20000 in
theorem tlX12_pagesIn_6 {C : ab_X}  {K : Int32 → ab_F → ab_F → Prop} : ∀ (n : Nat) (x1 : Int32) (x2 : Int32) (x3 : Int32) (x4 : Int32) (x5 : Int32) (I A : ab_F), wlX12_pagesIn_6 K n x1 x2 x3 x4 x5 I A → ab_G mX12_pagesIn 1 C (ab_Px shM ab_no (ab_ri K)) 6 [some (.ref 0), some (.int x1), some (.int x2), some (.int x3), some (.int x4), some (.int x5)] [] shM I A 0 0 := by
  intro n
  induction n with
  | zero => intro x1 x2 x3 x4 x5 I A h; exact h.elim
  | succ n hL6 =>
    intro x1 x2 x3 x4 x5 I A h
    rw [wlX12_pagesIn_6] at h
    refine g_iload (n := 8) dX12_pagesIn_6 rfl rfl ?_
    refine g_aload_n (n := 9) dX12_pagesIn_8 rfl rfl rfl ?_
    refine g_getR (n := 12) (k := 0) dX12_pagesIn_9 sM_0 vc_16 (Nat.le_of_ble_eq_true rfl) rfl w_1994 rfl ?_
    refine g_bipush (n := 14) (v := (nI 20)) dX12_pagesIn_12 rfl rfl ?_
    refine g_iload_n (n := 15) dX12_pagesIn_14 rfl rfl rfl ?_
    refine g_iadd (n := 16) dX12_pagesIn_15 rfl ?_
    obtain ⟨j_1, hj, hl, h⟩ := h
    refine g_ialdJ (n := 17) (j := j_1) (x := (A 1 j_1)) dX12_pagesIn_16 sM_1 hj hl (by decide) rfl rfl ?_
    refine g_icmp_ge (n := 20) 61 dX12_pagesIn_17 (by decide) rfl (fun hc => ?_) (fun hc => ?_)
    · have h := h.1 hc
      refine g_iload (n := 63) dX12_pagesIn_61 rfl rfl ?_
      exact g_iret rfl rfl dX12_pagesIn_63 ⟨rfl, _, rfl, h⟩
    · have h := h.2 hc
      refine g_iload (n := 22) dX12_pagesIn_20 rfl rfl ?_
      refine g_aload_n (n := 23) dX12_pagesIn_22 rfl rfl rfl ?_
      refine g_bipush (n := 25) (v := (nI 8)) dX12_pagesIn_23 rfl rfl ?_
      refine g_iload_n (n := 26) dX12_pagesIn_25 rfl rfl rfl ?_
      refine g_imul (n := 27) dX12_pagesIn_26 rfl ?_
      refine g_iload (n := 29) dX12_pagesIn_27 rfl rfl ?_
      refine g_iadd (n := 30) dX12_pagesIn_29 rfl ?_
      refine g_callV (n := 33) (as := [.int (((nI 8) * x1) + x5)]) (bc' := 0) (bs' := 0) sM_0 vc_16 (ctX12_stateOf h) okX12_stateOf rfl w_2429 w_2431 w_80 w_112 dX12_pagesIn_30 rfl rfl (Nat.le_of_ble_eq_true rfl) (Nat.le_of_ble_eq_true rfl) (Nat.le_of_ble_eq_true rfl) (Nat.le_of_ble_eq_true rfl) rfl (fun E sh1 I1 A1 hp _ => hp.2.elim) (fun ro sh_ I_2 A_3 hp hle => ?_)
      obtain ⟨rfl, r_4, rfl, h⟩ := hp
      refine g_i2l (n := 34) dX12_pagesIn_33 rfl ?_
      refine g_iload_n (n := 35) dX12_pagesIn_34 rfl rfl rfl ?_
      refine g_i2l (n := 36) dX12_pagesIn_35 rfl ?_
      refine g_iload_n (n := 37) dX12_pagesIn_36 rfl rfl rfl ?_
      refine g_i2l (n := 38) dX12_pagesIn_37 rfl ?_
      refine g_callS (n := 41) (as := [.long ((r_4).toInt64), .long ((x2).toInt64), .long ((x3).toInt64)]) (bc' := 0) (bs' := 0) (ctX12_in h) okX12_in w_2080 w_2081 dX12_pagesIn_38 rfl rfl (Nat.le_of_ble_eq_true rfl) (Nat.le_of_ble_eq_true rfl) (Nat.le_of_ble_eq_true rfl) (Nat.le_of_ble_eq_true rfl) rfl (fun E sh1 I1 A1 hp _ => hp.2.elim) (fun ro sh_ I_5 A_6 hp hle => ?_)
      obtain ⟨rfl, r_7, rfl, h⟩ := hp
      refine g_if_eq (n := 44) 51 dX12_pagesIn_41 (by decide) rfl (fun hc => ?_) (fun hc => ?_)
      · have h := h.1 hc
        refine g_iconst (n := 52) (v := (nI 0)) dX12_pagesIn_51 rfl rfl ?_
        refine g_ior (n := 53) dX12_pagesIn_52 rfl ?_
        refine g_topi (fun y_8 ey_8 => ?_)
        have h := h y_8 ey_8
        refine g_istore (n := 55) (ls' := [some (.ref 0), some (.int x1), some (.int x2), some (.int x3), some (.int y_8), some (.int x5)]) dX12_pagesIn_53 rfl (Nat.le_of_ble_eq_true rfl) (Nat.le_of_ble_eq_true rfl) rfl rfl ?_
        refine g_iinc (n := 58) (v := (x5 + nI 1)) (ls' := [some (.ref 0), some (.int x1), some (.int x2), some (.int x3), some (.int y_8), some (.int (x5 + nI 1))]) dX12_pagesIn_55 rfl rfl rfl (Nat.le_of_ble_eq_true rfl) rfl rfl ?_
        refine g_goto 6 dX12_pagesIn_58 (by decide) ?_
        exact hL6 _ _ _ _ _ _ _ h
      · have h := h.2 hc
        refine g_iconst (n := 45) (v := (nI 1)) dX12_pagesIn_44 rfl rfl ?_
        refine g_iload (n := 47) dX12_pagesIn_45 rfl rfl ?_
        refine g_ishl (n := 48) dX12_pagesIn_47 rfl ?_
        refine g_goto 52 dX12_pagesIn_48 (by decide) ?_
        refine g_ior (n := 53) dX12_pagesIn_52 rfl ?_
        refine g_topi (fun y_9 ey_9 => ?_)
        have h := h y_9 ey_9
        refine g_istore (n := 55) (ls' := [some (.ref 0), some (.int x1), some (.int x2), some (.int x3), some (.int y_9), some (.int x5)]) dX12_pagesIn_53 rfl (Nat.le_of_ble_eq_true rfl) (Nat.le_of_ble_eq_true rfl) rfl rfl ?_
        refine g_iinc (n := 58) (v := (x5 + nI 1)) (ls' := [some (.ref 0), some (.int x1), some (.int x2), some (.int x3), some (.int y_9), some (.int (x5 + nI 1))]) dX12_pagesIn_55 rfl rfl rfl (Nat.le_of_ble_eq_true rfl) rfl rfl ?_
        refine g_goto 6 dX12_pagesIn_58 (by decide) ?_
        exact hL6 _ _ _ _ _ _ _ h
set_option maxRecDepth 20000 in
theorem ctX12_pagesIn  {K : Int32 → ab_F → ab_F → Prop} {I A : ab_F} {p0 : Int32} {p1 : Int32} {p2 : Int32} (h : wX12_pagesIn K I A p0 p1 p2) : ab_Cl mX12_pagesIn 1 0 0 [.ref 0, .int p0, .int p1, .int p2] shM I A (ab_Px shM ab_no (ab_ri K)) := by
  refine ab_enter (ls := [some (.ref 0), some (.int p0), some (.int p1), some (.int p2), none, none]) (by decide +kernel) (Nat.le_of_ble_eq_true rfl) rfl (fun C => ?_)
  unfold wX12_pagesIn at h
  refine g_iconst (n := 1) (v := (nI 0)) dX12_pagesIn_0 rfl rfl ?_
  refine g_istore (n := 3) (ls' := [some (.ref 0), some (.int p0), some (.int p1), some (.int p2), some (.int (nI 0)), none]) dX12_pagesIn_1 rfl (Nat.le_of_ble_eq_true rfl) (Nat.le_of_ble_eq_true rfl) rfl rfl ?_
  refine g_iconst (n := 4) (v := (nI 0)) dX12_pagesIn_3 rfl rfl ?_
  refine g_istore (n := 6) (ls' := [some (.ref 0), some (.int p0), some (.int p1), some (.int p2), some (.int (nI 0)), some (.int (nI 0))]) dX12_pagesIn_4 rfl (Nat.le_of_ble_eq_true rfl) (Nat.le_of_ble_eq_true rfl) rfl rfl ?_
  refine g_less (bc' := 0) (bs' := 0) (Nat.le_of_ble_eq_true rfl) (Nat.le_of_ble_eq_true rfl) ?_
  obtain ⟨n_f, h⟩ := h
  exact tlX12_pagesIn_6  n_f _ _ _ _ _ _ _ h
def wX12_residentPages (K : Int32 → ab_F → ab_F → Prop) (I A : ab_F) (p0 : Int32) : Prop := wX12_isNoProcess (fun r_3 I_1 A_2 => ((r_3 = 0 → wX12_pagesIn (fun r_6 I_4 A_5 => K r_6 I_4 A_5) I_1 A_2 p0 (nI 2) (nI 3)) ∧ (¬ r_3 = 0 → K (nI 0) I_1 A_2))) I A p0
set_option maxRecDepth 20000 in
theorem ctX12_residentPages  {K : Int32 → ab_F → ab_F → Prop} {I A : ab_F} {p0 : Int32} (h : wX12_residentPages K I A p0) : ab_Cl mX12_residentPages 3 0 0 [.ref 0, .int p0] shM I A (ab_Px shM ab_no (ab_ri K)) := by
  refine ab_enter (ls := [some (.ref 0), some (.int p0)]) (by decide +kernel) (Nat.le_of_ble_eq_true rfl) rfl (fun C => ?_)
  unfold wX12_residentPages at h
  refine g_aload_n (n := 1) dX12_residentPages_0 rfl rfl rfl ?_
  refine g_iload_n (n := 2) dX12_residentPages_1 rfl rfl rfl ?_
  refine g_callV (n := 5) (as := [.int p0]) (bc' := 0) (bs' := 0) sM_0 vc_16 (ctX12_isNoProcess h) okX12_isNoProcess rfl w_2349 w_2351 w_71 w_112 dX12_residentPages_2 rfl rfl (Nat.le_of_ble_eq_true rfl) (Nat.le_of_ble_eq_true rfl) (Nat.le_of_ble_eq_true rfl) (Nat.le_of_ble_eq_true rfl) rfl (fun E sh1 I1 A1 hp _ => hp.2.elim) (fun ro sh_ I_1 A_2 hp hle => ?_)
  obtain ⟨rfl, r_3, rfl, h⟩ := hp
  refine g_if_eq (n := 8) 12 dX12_residentPages_5 (by decide) rfl (fun hc => ?_) (fun hc => ?_)
  · have h := h.1 hc
    refine g_aload_n (n := 13) dX12_residentPages_12 rfl rfl rfl ?_
    refine g_iload_n (n := 14) dX12_residentPages_13 rfl rfl rfl ?_
    refine g_iconst (n := 15) (v := (nI 2)) dX12_residentPages_14 rfl rfl ?_
    refine g_iconst (n := 16) (v := (nI 3)) dX12_residentPages_15 rfl rfl ?_
    refine g_callV (n := 19) (as := [.int p0, .int (nI 2), .int (nI 3)]) (bc' := 0) (bs' := 0) sM_0 vc_16 (ctX12_pagesIn h) okX12_pagesIn rfl w_2461 w_2463 w_82 w_112 dX12_residentPages_16 rfl rfl (Nat.le_of_ble_eq_true rfl) (Nat.le_of_ble_eq_true rfl) (Nat.le_of_ble_eq_true rfl) (Nat.le_of_ble_eq_true rfl) rfl (fun E sh1 I1 A1 hp _ => hp.2.elim) (fun ro sh_ I_4 A_5 hp hle => ?_)
    obtain ⟨rfl, r_6, rfl, h⟩ := hp
    exact g_iret rfl rfl dX12_residentPages_19 ⟨rfl, _, rfl, h⟩
  · have h := h.2 hc
    refine g_iconst (n := 9) (v := (nI 0)) dX12_residentPages_8 rfl rfl ?_
    refine g_goto 19 dX12_residentPages_9 (by decide) ?_
    exact g_iret rfl rfl dX12_residentPages_19 ⟨rfl, _, rfl, h⟩
def wX12_dirtyPages (K : Int32 → ab_F → ab_F → Prop) (I A : ab_F) (p0 : Int32) : Prop := wX12_isNoProcess (fun r_3 I_1 A_2 => ((r_3 = 0 → wX12_pagesIn (fun r_6 I_4 A_5 => K r_6 I_4 A_5) I_1 A_2 p0 (nI 3) (nI 3)) ∧ (¬ r_3 = 0 → K (nI 0) I_1 A_2))) I A p0
set_option maxRecDepth 20000 in
theorem ctX12_dirtyPages  {K : Int32 → ab_F → ab_F → Prop} {I A : ab_F} {p0 : Int32} (h : wX12_dirtyPages K I A p0) : ab_Cl mX12_dirtyPages 3 0 0 [.ref 0, .int p0] shM I A (ab_Px shM ab_no (ab_ri K)) := by
  refine ab_enter (ls := [some (.ref 0), some (.int p0)]) (by decide +kernel) (Nat.le_of_ble_eq_true rfl) rfl (fun C => ?_)
  unfold wX12_dirtyPages at h
  refine g_aload_n (n := 1) dX12_dirtyPages_0 rfl rfl rfl ?_
  refine g_iload_n (n := 2) dX12_dirtyPages_1 rfl rfl rfl ?_
  refine g_callV (n := 5) (as := [.int p0]) (bc' := 0) (bs' := 0) sM_0 vc_16 (ctX12_isNoProcess h) okX12_isNoProcess rfl w_2349 w_2351 w_71 w_112 dX12_dirtyPages_2 rfl rfl (Nat.le_of_ble_eq_true rfl) (Nat.le_of_ble_eq_true rfl) (Nat.le_of_ble_eq_true rfl) (Nat.le_of_ble_eq_true rfl) rfl (fun E sh1 I1 A1 hp _ => hp.2.elim) (fun ro sh_ I_1 A_2 hp hle => ?_)
  obtain ⟨rfl, r_3, rfl, h⟩ := hp
  refine g_if_eq (n := 8) 12 dX12_dirtyPages_5 (by decide) rfl (fun hc => ?_) (fun hc => ?_)
  · have h := h.1 hc
    refine g_aload_n (n := 13) dX12_dirtyPages_12 rfl rfl rfl ?_
    refine g_iload_n (n := 14) dX12_dirtyPages_13 rfl rfl rfl ?_
    refine g_iconst (n := 15) (v := (nI 3)) dX12_dirtyPages_14 rfl rfl ?_
    refine g_iconst (n := 16) (v := (nI 3)) dX12_dirtyPages_15 rfl rfl ?_
    refine g_callV (n := 19) (as := [.int p0, .int (nI 3), .int (nI 3)]) (bc' := 0) (bs' := 0) sM_0 vc_16 (ctX12_pagesIn h) okX12_pagesIn rfl w_2461 w_2463 w_82 w_112 dX12_dirtyPages_16 rfl rfl (Nat.le_of_ble_eq_true rfl) (Nat.le_of_ble_eq_true rfl) (Nat.le_of_ble_eq_true rfl) (Nat.le_of_ble_eq_true rfl) rfl (fun E sh1 I1 A1 hp _ => hp.2.elim) (fun ro sh_ I_4 A_5 hp hle => ?_)
    obtain ⟨rfl, r_6, rfl, h⟩ := hp
    exact g_iret rfl rfl dX12_dirtyPages_19 ⟨rfl, _, rfl, h⟩
  · have h := h.2 hc
    refine g_iconst (n := 9) (v := (nI 0)) dX12_dirtyPages_8 rfl rfl ?_
    refine g_goto 19 dX12_dirtyPages_9 (by decide) ?_
    exact g_iret rfl rfl dX12_dirtyPages_19 ⟨rfl, _, rfl, h⟩
def wX12_slotUse (K : Int32 → ab_F → ab_F → Prop) (I A : ab_F) (p0 : Int32) : Prop := wX12_isNoSlot (fun r_3 I_1 A_2 => ((r_3 = 0 → wX12_useOf (fun r_6 I_4 A_5 => K r_6 I_4 A_5) I_1 A_2 p0) ∧ (¬ r_3 = 0 → K (nI 0) I_1 A_2))) I A p0
set_option maxRecDepth 20000 in
theorem ctX12_slotUse  {K : Int32 → ab_F → ab_F → Prop} {I A : ab_F} {p0 : Int32} (h : wX12_slotUse K I A p0) : ab_Cl mX12_slotUse 2 0 0 [.ref 0, .int p0] shM I A (ab_Px shM ab_no (ab_ri K)) := by
  refine ab_enter (ls := [some (.ref 0), some (.int p0)]) (by decide +kernel) (Nat.le_of_ble_eq_true rfl) rfl (fun C => ?_)
  unfold wX12_slotUse at h
  refine g_aload_n (n := 1) dX12_slotUse_0 rfl rfl rfl ?_
  refine g_iload_n (n := 2) dX12_slotUse_1 rfl rfl rfl ?_
  refine g_callV (n := 5) (as := [.int p0]) (bc' := 0) (bs' := 0) sM_0 vc_16 (ctX12_isNoSlot h) okX12_isNoSlot rfl w_2473 w_2475 w_83 w_112 dX12_slotUse_2 rfl rfl (Nat.le_of_ble_eq_true rfl) (Nat.le_of_ble_eq_true rfl) (Nat.le_of_ble_eq_true rfl) (Nat.le_of_ble_eq_true rfl) rfl (fun E sh1 I1 A1 hp _ => hp.2.elim) (fun ro sh_ I_1 A_2 hp hle => ?_)
  obtain ⟨rfl, r_3, rfl, h⟩ := hp
  refine g_if_eq (n := 8) 12 dX12_slotUse_5 (by decide) rfl (fun hc => ?_) (fun hc => ?_)
  · have h := h.1 hc
    refine g_aload_n (n := 13) dX12_slotUse_12 rfl rfl rfl ?_
    refine g_iload_n (n := 14) dX12_slotUse_13 rfl rfl rfl ?_
    refine g_callV (n := 17) (as := [.int p0]) (bc' := 0) (bs' := 0) sM_0 vc_16 (ctX12_useOf h) okX12_useOf rfl w_2211 w_2213 w_46 w_112 dX12_slotUse_14 rfl rfl (Nat.le_of_ble_eq_true rfl) (Nat.le_of_ble_eq_true rfl) (Nat.le_of_ble_eq_true rfl) (Nat.le_of_ble_eq_true rfl) rfl (fun E sh1 I1 A1 hp _ => hp.2.elim) (fun ro sh_ I_4 A_5 hp hle => ?_)
    obtain ⟨rfl, r_6, rfl, h⟩ := hp
    exact g_iret rfl rfl dX12_slotUse_17 ⟨rfl, _, rfl, h⟩
  · have h := h.2 hc
    refine g_iconst (n := 9) (v := (nI 0)) dX12_slotUse_8 rfl rfl ?_
    refine g_goto 17 dX12_slotUse_9 (by decide) ?_
    exact g_iret rfl rfl dX12_slotUse_17 ⟨rfl, _, rfl, h⟩
def wX12_slotOwner (K : Int32 → ab_F → ab_F → Prop) (I A : ab_F) (p0 : Int32) : Prop := wX12_isNoSlot (fun r_3 I_1 A_2 => ((r_3 = 0 → (∃ j_4 : Nat, ((nI 416) + p0) = nI j_4 ∧ j_4 < 608 ∧ K (A_2 1 j_4) I_1 A_2)) ∧ (¬ r_3 = 0 → K (nI 0) I_1 A_2))) I A p0
set_option maxRecDepth 20000 in
theorem ctX12_slotOwner  {K : Int32 → ab_F → ab_F → Prop} {I A : ab_F} {p0 : Int32} (h : wX12_slotOwner K I A p0) : ab_Cl mX12_slotOwner 2 0 0 [.ref 0, .int p0] shM I A (ab_Px shM ab_no (ab_ri K)) := by
  refine ab_enter (ls := [some (.ref 0), some (.int p0)]) (by decide +kernel) (Nat.le_of_ble_eq_true rfl) rfl (fun C => ?_)
  unfold wX12_slotOwner at h
  refine g_aload_n (n := 1) dX12_slotOwner_0 rfl rfl rfl ?_
  refine g_iload_n (n := 2) dX12_slotOwner_1 rfl rfl rfl ?_
  refine g_callV (n := 5) (as := [.int p0]) (bc' := 0) (bs' := 0) sM_0 vc_16 (ctX12_isNoSlot h) okX12_isNoSlot rfl w_2473 w_2475 w_83 w_112 dX12_slotOwner_2 rfl rfl (Nat.le_of_ble_eq_true rfl) (Nat.le_of_ble_eq_true rfl) (Nat.le_of_ble_eq_true rfl) (Nat.le_of_ble_eq_true rfl) rfl (fun E sh1 I1 A1 hp _ => hp.2.elim) (fun ro sh_ I_1 A_2 hp hle => ?_)
  obtain ⟨rfl, r_3, rfl, h⟩ := hp
  refine g_if_eq (n := 8) 12 dX12_slotOwner_5 (by decide) rfl (fun hc => ?_) (fun hc => ?_)
  · have h := h.1 hc
    refine g_aload_n (n := 13) dX12_slotOwner_12 rfl rfl rfl ?_
    refine g_getR (n := 16) (k := 0) dX12_slotOwner_13 sM_0 vc_16 (Nat.le_of_ble_eq_true rfl) rfl w_1994 rfl ?_
    refine g_sipush (n := 19) (v := (nI 416)) dX12_slotOwner_16 rfl rfl ?_
    refine g_iload_n (n := 20) dX12_slotOwner_19 rfl rfl rfl ?_
    refine g_iadd (n := 21) dX12_slotOwner_20 rfl ?_
    obtain ⟨j_4, hj, hl, h⟩ := h
    refine g_ialdJ (n := 22) (j := j_4) (x := (A_2 1 j_4)) dX12_slotOwner_21 sM_1 hj hl (by decide) rfl rfl ?_
    exact g_iret rfl rfl dX12_slotOwner_22 ⟨rfl, _, rfl, h⟩
  · have h := h.2 hc
    refine g_iconst (n := 9) (v := (nI 0)) dX12_slotOwner_8 rfl rfl ?_
    refine g_goto 22 dX12_slotOwner_9 (by decide) ?_
    exact g_iret rfl rfl dX12_slotOwner_22 ⟨rfl, _, rfl, h⟩
def wX12_slotStamp (K : Int32 → ab_F → ab_F → Prop) (I A : ab_F) (p0 : Int32) : Prop := wX12_isNoSlot (fun r_3 I_1 A_2 => ((r_3 = 0 → (∃ j_4 : Nat, ((nI 464) + p0) = nI j_4 ∧ j_4 < 608 ∧ K (A_2 1 j_4) I_1 A_2)) ∧ (¬ r_3 = 0 → K (nI 0) I_1 A_2))) I A p0
set_option maxRecDepth 20000 in
theorem ctX12_slotStamp  {K : Int32 → ab_F → ab_F → Prop} {I A : ab_F} {p0 : Int32} (h : wX12_slotStamp K I A p0) : ab_Cl mX12_slotStamp 2 0 0 [.ref 0, .int p0] shM I A (ab_Px shM ab_no (ab_ri K)) := by
  refine ab_enter (ls := [some (.ref 0), some (.int p0)]) (by decide +kernel) (Nat.le_of_ble_eq_true rfl) rfl (fun C => ?_)
  unfold wX12_slotStamp at h
  refine g_aload_n (n := 1) dX12_slotStamp_0 rfl rfl rfl ?_
  refine g_iload_n (n := 2) dX12_slotStamp_1 rfl rfl rfl ?_
  refine g_callV (n := 5) (as := [.int p0]) (bc' := 0) (bs' := 0) sM_0 vc_16 (ctX12_isNoSlot h) okX12_isNoSlot rfl w_2473 w_2475 w_83 w_112 dX12_slotStamp_2 rfl rfl (Nat.le_of_ble_eq_true rfl) (Nat.le_of_ble_eq_true rfl) (Nat.le_of_ble_eq_true rfl) (Nat.le_of_ble_eq_true rfl) rfl (fun E sh1 I1 A1 hp _ => hp.2.elim) (fun ro sh_ I_1 A_2 hp hle => ?_)
  obtain ⟨rfl, r_3, rfl, h⟩ := hp
  refine g_if_eq (n := 8) 12 dX12_slotStamp_5 (by decide) rfl (fun hc => ?_) (fun hc => ?_)
  · have h := h.1 hc
    refine g_aload_n (n := 13) dX12_slotStamp_12 rfl rfl rfl ?_
    refine g_getR (n := 16) (k := 0) dX12_slotStamp_13 sM_0 vc_16 (Nat.le_of_ble_eq_true rfl) rfl w_1994 rfl ?_
    refine g_sipush (n := 19) (v := (nI 464)) dX12_slotStamp_16 rfl rfl ?_
    refine g_iload_n (n := 20) dX12_slotStamp_19 rfl rfl rfl ?_
    refine g_iadd (n := 21) dX12_slotStamp_20 rfl ?_
    obtain ⟨j_4, hj, hl, h⟩ := h
    refine g_ialdJ (n := 22) (j := j_4) (x := (A_2 1 j_4)) dX12_slotStamp_21 sM_1 hj hl (by decide) rfl rfl ?_
    exact g_iret rfl rfl dX12_slotStamp_22 ⟨rfl, _, rfl, h⟩
  · have h := h.2 hc
    refine g_iconst (n := 9) (v := (nI 0)) dX12_slotStamp_8 rfl rfl ?_
    refine g_goto 22 dX12_slotStamp_9 (by decide) ?_
    exact g_iret rfl rfl dX12_slotStamp_22 ⟨rfl, _, rfl, h⟩
def wX12_slotValue (K : Int32 → ab_F → ab_F → Prop) (I A : ab_F) (p0 : Int32) : Prop := wX12_isNoSlot (fun r_3 I_1 A_2 => ((r_3 = 0 → (∃ j_4 : Nat, ((nI 368) + p0) = nI j_4 ∧ j_4 < 608 ∧ K (A_2 1 j_4) I_1 A_2)) ∧ (¬ r_3 = 0 → K (nI 0) I_1 A_2))) I A p0
set_option maxRecDepth 20000 in
theorem ctX12_slotValue  {K : Int32 → ab_F → ab_F → Prop} {I A : ab_F} {p0 : Int32} (h : wX12_slotValue K I A p0) : ab_Cl mX12_slotValue 2 0 0 [.ref 0, .int p0] shM I A (ab_Px shM ab_no (ab_ri K)) := by
  refine ab_enter (ls := [some (.ref 0), some (.int p0)]) (by decide +kernel) (Nat.le_of_ble_eq_true rfl) rfl (fun C => ?_)
  unfold wX12_slotValue at h
  refine g_aload_n (n := 1) dX12_slotValue_0 rfl rfl rfl ?_
  refine g_iload_n (n := 2) dX12_slotValue_1 rfl rfl rfl ?_
  refine g_callV (n := 5) (as := [.int p0]) (bc' := 0) (bs' := 0) sM_0 vc_16 (ctX12_isNoSlot h) okX12_isNoSlot rfl w_2473 w_2475 w_83 w_112 dX12_slotValue_2 rfl rfl (Nat.le_of_ble_eq_true rfl) (Nat.le_of_ble_eq_true rfl) (Nat.le_of_ble_eq_true rfl) (Nat.le_of_ble_eq_true rfl) rfl (fun E sh1 I1 A1 hp _ => hp.2.elim) (fun ro sh_ I_1 A_2 hp hle => ?_)
  obtain ⟨rfl, r_3, rfl, h⟩ := hp
  refine g_if_eq (n := 8) 12 dX12_slotValue_5 (by decide) rfl (fun hc => ?_) (fun hc => ?_)
  · have h := h.1 hc
    refine g_aload_n (n := 13) dX12_slotValue_12 rfl rfl rfl ?_
    refine g_getR (n := 16) (k := 0) dX12_slotValue_13 sM_0 vc_16 (Nat.le_of_ble_eq_true rfl) rfl w_1994 rfl ?_
    refine g_sipush (n := 19) (v := (nI 368)) dX12_slotValue_16 rfl rfl ?_
    refine g_iload_n (n := 20) dX12_slotValue_19 rfl rfl rfl ?_
    refine g_iadd (n := 21) dX12_slotValue_20 rfl ?_
    obtain ⟨j_4, hj, hl, h⟩ := h
    refine g_ialdJ (n := 22) (j := j_4) (x := (A_2 1 j_4)) dX12_slotValue_21 sM_1 hj hl (by decide) rfl rfl ?_
    exact g_iret rfl rfl dX12_slotValue_22 ⟨rfl, _, rfl, h⟩
  · have h := h.2 hc
    refine g_iconst (n := 9) (v := (nI 0)) dX12_slotValue_8 rfl rfl ?_
    refine g_goto 22 dX12_slotValue_9 (by decide) ?_
    exact g_iret rfl rfl dX12_slotValue_22 ⟨rfl, _, rfl, h⟩
def wX12_nextSlot (K : Int32 → ab_F → ab_F → Prop) (I A : ab_F)  : Prop := wX12_nextFree (fun r_3 I_1 A_2 => K r_3 I_1 A_2) (wr I 0 5 (nI 0)) A 
set_option maxRecDepth 20000 in
theorem ctX12_nextSlot  {K : Int32 → ab_F → ab_F → Prop} {I A : ab_F}  (h : wX12_nextSlot K I A ) : ab_Cl mX12_nextSlot 3 0 0 [.ref 0] shM I A (ab_Px shM ab_no (ab_ri K)) := by
  refine ab_enter (ls := [some (.ref 0)]) (by decide +kernel) (Nat.le_of_ble_eq_true rfl) rfl (fun C => ?_)
  unfold wX12_nextSlot at h
  refine g_aload_n (n := 1) dX12_nextSlot_0 rfl rfl rfl ?_
  refine g_iconst (n := 2) (v := (nI 0)) dX12_nextSlot_1 rfl rfl ?_
  refine g_putI (n := 5) (k := 5) dX12_nextSlot_2 sM_0 vc_16 (Nat.le_of_ble_eq_true rfl) rfl w_1999 rfl rfl rfl rfl rfl ?_
  refine g_aload_n (n := 6) dX12_nextSlot_5 rfl rfl rfl ?_
  refine g_callV (n := 9) (as := []) (bc' := 0) (bs' := 0) sM_0 vc_16 (ctX12_nextFree h) okX12_nextFree rfl w_2207 w_2209 w_45 w_112 dX12_nextSlot_6 rfl rfl (Nat.le_of_ble_eq_true rfl) (Nat.le_of_ble_eq_true rfl) (Nat.le_of_ble_eq_true rfl) (Nat.le_of_ble_eq_true rfl) rfl (fun E sh1 I1 A1 hp _ => hp.2.elim) (fun ro sh_ I_1 A_2 hp hle => ?_)
  obtain ⟨rfl, r_3, rfl, h⟩ := hp
  exact g_iret rfl rfl dX12_nextSlot_9 ⟨rfl, _, rfl, h⟩
def wX12_freeSlots (K : Int32 → ab_F → ab_F → Prop) (I A : ab_F)  : Prop := wX12_freeCount (fun r_3 I_1 A_2 => K r_3 I_1 A_2) (wr I 0 5 (nI 0)) A 
set_option maxRecDepth 20000 in
theorem ctX12_freeSlots  {K : Int32 → ab_F → ab_F → Prop} {I A : ab_F}  (h : wX12_freeSlots K I A ) : ab_Cl mX12_freeSlots 3 0 0 [.ref 0] shM I A (ab_Px shM ab_no (ab_ri K)) := by
  refine ab_enter (ls := [some (.ref 0)]) (by decide +kernel) (Nat.le_of_ble_eq_true rfl) rfl (fun C => ?_)
  unfold wX12_freeSlots at h
  refine g_aload_n (n := 1) dX12_freeSlots_0 rfl rfl rfl ?_
  refine g_iconst (n := 2) (v := (nI 0)) dX12_freeSlots_1 rfl rfl ?_
  refine g_putI (n := 5) (k := 5) dX12_freeSlots_2 sM_0 vc_16 (Nat.le_of_ble_eq_true rfl) rfl w_1999 rfl rfl rfl rfl rfl ?_
  refine g_aload_n (n := 6) dX12_freeSlots_5 rfl rfl rfl ?_
  refine g_callV (n := 9) (as := []) (bc' := 0) (bs' := 0) sM_0 vc_16 (ctX12_freeCount h) okX12_freeCount rfl w_2313 w_2315 w_65 w_112 dX12_freeSlots_6 rfl rfl (Nat.le_of_ble_eq_true rfl) (Nat.le_of_ble_eq_true rfl) (Nat.le_of_ble_eq_true rfl) (Nat.le_of_ble_eq_true rfl) rfl (fun E sh1 I1 A1 hp _ => hp.2.elim) (fun ro sh_ I_1 A_2 hp hle => ?_)
  obtain ⟨rfl, r_3, rfl, h⟩ := hp
  exact g_iret rfl rfl dX12_freeSlots_9 ⟨rfl, _, rfl, h⟩
def wlX12_sharedSlots_9 (K : Int32 → ab_F → ab_F → Prop) : Nat → Int32 → Int32 → ab_F → ab_F → Prop
  | 0, _, _, _, _ => False
  | n + 1, x1, x2, I, A => (((A 1 1) ≤ x2 → K x1 I A) ∧ (¬ (A 1 1) ≤ x2 → wX12_useOf (fun r_3 I_1 A_2 => wX12_size (fun r_6 I_4 A_5 => ((r_6 ≤ (nI 1) → (∀ y_7 : Int32, y_7 = (x1 + (nI 0)) → (wlX12_sharedSlots_9 K n) y_7 (x2 + nI 1) I_4 A_5)) ∧ (¬ r_6 ≤ (nI 1) → (∀ y_8 : Int32, y_8 = (x1 + (nI 1)) → (wlX12_sharedSlots_9 K n) y_8 (x2 + nI 1) I_4 A_5)))) I_1 A_2 r_3) I A x2))
def wX12_sharedSlots (K : Int32 → ab_F → ab_F → Prop) (I A : ab_F)  : Prop := (∃ nf : Nat, wlX12_sharedSlots_9 K nf (nI 0) (nI 0) (wr I 0 5 (nI 0)) A)
set_option maxRecDepth 20000 in
theorem tlX12_sharedSlots_9 {C : ab_X}  {K : Int32 → ab_F → ab_F → Prop} : ∀ (n : Nat) (x1 : Int32) (x2 : Int32) (I A : ab_F), wlX12_sharedSlots_9 K n x1 x2 I A → ab_G mX12_sharedSlots 2 C (ab_Px shM ab_no (ab_ri K)) 9 [some (.ref 0), some (.int x1), some (.int x2)] [] shM I A 0 0 := by
  intro n
  induction n with
  | zero => intro x1 x2 I A h; exact h.elim
  | succ n hL9 =>
    intro x1 x2 I A h
    rw [wlX12_sharedSlots_9] at h
    refine g_iload_n (n := 10) dX12_sharedSlots_9 rfl rfl rfl ?_
    refine g_aload_n (n := 11) dX12_sharedSlots_10 rfl rfl rfl ?_
    refine g_getR (n := 14) (k := 0) dX12_sharedSlots_11 sM_0 vc_16 (Nat.le_of_ble_eq_true rfl) rfl w_1994 rfl ?_
    refine g_iconst (n := 15) (v := (nI 1)) dX12_sharedSlots_14 rfl rfl ?_
    refine g_ialdJ (n := 16) (j := 1) (x := (A 1 1)) dX12_sharedSlots_15 sM_1 rfl (Nat.le_of_ble_eq_true rfl) (by decide) rfl rfl ?_
    refine g_icmp_ge (n := 19) 45 dX12_sharedSlots_16 (by decide) rfl (fun hc => ?_) (fun hc => ?_)
    · have h := h.1 hc
      refine g_iload_n (n := 46) dX12_sharedSlots_45 rfl rfl rfl ?_
      exact g_iret rfl rfl dX12_sharedSlots_46 ⟨rfl, _, rfl, h⟩
    · have h := h.2 hc
      refine g_iload_n (n := 20) dX12_sharedSlots_19 rfl rfl rfl ?_
      refine g_aload_n (n := 21) dX12_sharedSlots_20 rfl rfl rfl ?_
      refine g_iload_n (n := 22) dX12_sharedSlots_21 rfl rfl rfl ?_
      refine g_callV (n := 25) (as := [.int x2]) (bc' := 0) (bs' := 0) sM_0 vc_16 (ctX12_useOf h) okX12_useOf rfl w_2211 w_2213 w_46 w_112 dX12_sharedSlots_22 rfl rfl (Nat.le_of_ble_eq_true rfl) (Nat.le_of_ble_eq_true rfl) (Nat.le_of_ble_eq_true rfl) (Nat.le_of_ble_eq_true rfl) rfl (fun E sh1 I1 A1 hp _ => hp.2.elim) (fun ro sh_ I_1 A_2 hp hle => ?_)
      obtain ⟨rfl, r_3, rfl, h⟩ := hp
      refine g_callS (n := 28) (as := [.int r_3]) (bc' := 0) (bs' := 0) (ctX12_size h) okX12_size w_2501 w_2502 dX12_sharedSlots_25 rfl rfl (Nat.le_of_ble_eq_true rfl) (Nat.le_of_ble_eq_true rfl) (Nat.le_of_ble_eq_true rfl) (Nat.le_of_ble_eq_true rfl) rfl (fun E sh1 I1 A1 hp _ => hp.2.elim) (fun ro sh_ I_4 A_5 hp hle => ?_)
      obtain ⟨rfl, r_6, rfl, h⟩ := hp
      refine g_iconst (n := 29) (v := (nI 1)) dX12_sharedSlots_28 rfl rfl ?_
      refine g_icmp_le (n := 32) 36 dX12_sharedSlots_29 (by decide) rfl (fun hc => ?_) (fun hc => ?_)
      · have h := h.1 hc
        refine g_iconst (n := 37) (v := (nI 0)) dX12_sharedSlots_36 rfl rfl ?_
        refine g_iadd (n := 38) dX12_sharedSlots_37 rfl ?_
        refine g_topi (fun y_7 ey_7 => ?_)
        have h := h y_7 ey_7
        refine g_istore_n (n := 39) (ls' := [some (.ref 0), some (.int y_7), some (.int x2)]) dX12_sharedSlots_38 rfl rfl (Nat.le_of_ble_eq_true rfl) (Nat.le_of_ble_eq_true rfl) rfl rfl ?_
        refine g_iinc (n := 42) (v := (x2 + nI 1)) (ls' := [some (.ref 0), some (.int y_7), some (.int (x2 + nI 1))]) dX12_sharedSlots_39 rfl rfl rfl (Nat.le_of_ble_eq_true rfl) rfl rfl ?_
        refine g_goto 9 dX12_sharedSlots_42 (by decide) ?_
        exact hL9 _ _ _ _ h
      · have h := h.2 hc
        refine g_iconst (n := 33) (v := (nI 1)) dX12_sharedSlots_32 rfl rfl ?_
        refine g_goto 37 dX12_sharedSlots_33 (by decide) ?_
        refine g_iadd (n := 38) dX12_sharedSlots_37 rfl ?_
        refine g_topi (fun y_8 ey_8 => ?_)
        have h := h y_8 ey_8
        refine g_istore_n (n := 39) (ls' := [some (.ref 0), some (.int y_8), some (.int x2)]) dX12_sharedSlots_38 rfl rfl (Nat.le_of_ble_eq_true rfl) (Nat.le_of_ble_eq_true rfl) rfl rfl ?_
        refine g_iinc (n := 42) (v := (x2 + nI 1)) (ls' := [some (.ref 0), some (.int y_8), some (.int (x2 + nI 1))]) dX12_sharedSlots_39 rfl rfl rfl (Nat.le_of_ble_eq_true rfl) rfl rfl ?_
        refine g_goto 9 dX12_sharedSlots_42 (by decide) ?_
        exact hL9 _ _ _ _ h
set_option maxRecDepth 20000 in
theorem ctX12_sharedSlots  {K : Int32 → ab_F → ab_F → Prop} {I A : ab_F}  (h : wX12_sharedSlots K I A ) : ab_Cl mX12_sharedSlots 2 0 0 [.ref 0] shM I A (ab_Px shM ab_no (ab_ri K)) := by
  refine ab_enter (ls := [some (.ref 0), none, none]) (by decide +kernel) (Nat.le_of_ble_eq_true rfl) rfl (fun C => ?_)
  unfold wX12_sharedSlots at h
  refine g_aload_n (n := 1) dX12_sharedSlots_0 rfl rfl rfl ?_
  refine g_iconst (n := 2) (v := (nI 0)) dX12_sharedSlots_1 rfl rfl ?_
  refine g_putI (n := 5) (k := 5) dX12_sharedSlots_2 sM_0 vc_16 (Nat.le_of_ble_eq_true rfl) rfl w_1999 rfl rfl rfl rfl rfl ?_
  refine g_iconst (n := 6) (v := (nI 0)) dX12_sharedSlots_5 rfl rfl ?_
  refine g_istore_n (n := 7) (ls' := [some (.ref 0), some (.int (nI 0)), none]) dX12_sharedSlots_6 rfl rfl (Nat.le_of_ble_eq_true rfl) (Nat.le_of_ble_eq_true rfl) rfl rfl ?_
  refine g_iconst (n := 8) (v := (nI 0)) dX12_sharedSlots_7 rfl rfl ?_
  refine g_istore_n (n := 9) (ls' := [some (.ref 0), some (.int (nI 0)), some (.int (nI 0))]) dX12_sharedSlots_8 rfl rfl (Nat.le_of_ble_eq_true rfl) (Nat.le_of_ble_eq_true rfl) rfl rfl ?_
  refine g_less (bc' := 0) (bs' := 0) (Nat.le_of_ble_eq_true rfl) (Nat.le_of_ble_eq_true rfl) ?_
  obtain ⟨n_f, h⟩ := h
  exact tlX12_sharedSlots_9  n_f _ _ _ _ h
def wjX12_longestRun_36 (K : Int32 → ab_F → ab_F → Prop) (L11 : Int32 → Int32 → Int32 → ab_F → ab_F → Prop) (x1 : Int32) (x3 : Int32) (s0 : Int32) (I A : ab_F) : Prop := (∀ y_4 : Int32, y_4 = (if x1 < s0 then s0 else x1) → L11 y_4 s0 (x3 + nI 1) I A)
def wlX12_longestRun_11 (K : Int32 → ab_F → ab_F → Prop) : Nat → Int32 → Int32 → Int32 → ab_F → ab_F → Prop
  | 0, _, _, _, _, _ => False
  | n + 1, x1, x2, x3, I, A => (((A 1 1) ≤ x3 → K x1 I A) ∧ (¬ (A 1 1) ≤ x3 → wX12_useOf (fun r_3 I_1 A_2 => ((¬ r_3 = 0 → wjX12_longestRun_36 K (wlX12_longestRun_11 K n) x1 x3 (nI 0) I_1 A_2) ∧ (r_3 = 0 → wjX12_longestRun_36 K (wlX12_longestRun_11 K n) x1 x3 (x2 + (nI 1)) I_1 A_2))) I A x3))
def wX12_longestRun (K : Int32 → ab_F → ab_F → Prop) (I A : ab_F)  : Prop := (∃ nf : Nat, wlX12_longestRun_11 K nf (nI 0) (nI 0) (nI 0) (wr I 0 5 (nI 0)) A)
set_option maxRecDepth 20000 in
theorem tjX12_longestRun_36 {C : ab_X}  {K : Int32 → ab_F → ab_F → Prop} {L11 : Int32 → Int32 → Int32 → ab_F → ab_F → Prop} (hL11 : ∀ (x1 : Int32) (x2 : Int32) (x3 : Int32) (I A : ab_F), L11 x1 x2 x3 I A → ab_G mX12_longestRun 2 C (ab_Px shM ab_no (ab_ri K)) 11 [some (.ref 0), some (.int x1), some (.int x2), some (.int x3)] [] shM I A 0 0) (x1 : Int32) (x3 : Int32) (s0 : Int32) (I A : ab_F) (h : wjX12_longestRun_36 K L11 x1 x3 s0 I A) : ab_G mX12_longestRun 2 C (ab_Px shM ab_no (ab_ri K)) 36 [some (.ref 0), some (.int x1), none, some (.int x3)] [.int s0] shM I A 0 0 := by
  unfold wjX12_longestRun_36 at h
  refine g_istore_n (n := 37) (ls' := [some (.ref 0), some (.int x1), some (.int s0), some (.int x3)]) dX12_longestRun_36 rfl rfl (Nat.le_of_ble_eq_true rfl) (Nat.le_of_ble_eq_true rfl) rfl rfl ?_
  refine g_iload_n (n := 38) dX12_longestRun_37 rfl rfl rfl ?_
  refine g_iload_n (n := 39) dX12_longestRun_38 rfl rfl rfl ?_
  refine g_mmax (n := 42) dX12_longestRun_39 w_2508 w_1028 w_125 w_1029 (Nat.le_of_ble_eq_true rfl) (Nat.le_of_ble_eq_true rfl) rfl ?_
  refine g_topi (fun y_4 ey_4 => ?_)
  have h := h y_4 ey_4
  refine g_istore_n (n := 43) (ls' := [some (.ref 0), some (.int y_4), some (.int s0), some (.int x3)]) dX12_longestRun_42 rfl rfl (Nat.le_of_ble_eq_true rfl) (Nat.le_of_ble_eq_true rfl) rfl rfl ?_
  refine g_iinc (n := 46) (v := (x3 + nI 1)) (ls' := [some (.ref 0), some (.int y_4), some (.int s0), some (.int (x3 + nI 1))]) dX12_longestRun_43 rfl rfl rfl (Nat.le_of_ble_eq_true rfl) rfl rfl ?_
  refine g_goto 11 dX12_longestRun_46 (by decide) ?_
  exact hL11 _ _ _ _ _ h
set_option maxRecDepth 20000 in
theorem tlX12_longestRun_11 {C : ab_X}  {K : Int32 → ab_F → ab_F → Prop} : ∀ (n : Nat) (x1 : Int32) (x2 : Int32) (x3 : Int32) (I A : ab_F), wlX12_longestRun_11 K n x1 x2 x3 I A → ab_G mX12_longestRun 2 C (ab_Px shM ab_no (ab_ri K)) 11 [some (.ref 0), some (.int x1), some (.int x2), some (.int x3)] [] shM I A 0 0 := by
  intro n
  induction n with
  | zero => intro x1 x2 x3 I A h; exact h.elim
  | succ n hL11 =>
    intro x1 x2 x3 I A h
    rw [wlX12_longestRun_11] at h
    refine g_iload_n (n := 12) dX12_longestRun_11 rfl rfl rfl ?_
    refine g_aload_n (n := 13) dX12_longestRun_12 rfl rfl rfl ?_
    refine g_getR (n := 16) (k := 0) dX12_longestRun_13 sM_0 vc_16 (Nat.le_of_ble_eq_true rfl) rfl w_1994 rfl ?_
    refine g_iconst (n := 17) (v := (nI 1)) dX12_longestRun_16 rfl rfl ?_
    refine g_ialdJ (n := 18) (j := 1) (x := (A 1 1)) dX12_longestRun_17 sM_1 rfl (Nat.le_of_ble_eq_true rfl) (by decide) rfl rfl ?_
    refine g_icmp_ge (n := 21) 49 dX12_longestRun_18 (by decide) rfl (fun hc => ?_) (fun hc => ?_)
    · have h := h.1 hc
      refine g_iload_n (n := 50) dX12_longestRun_49 rfl rfl rfl ?_
      exact g_iret rfl rfl dX12_longestRun_50 ⟨rfl, _, rfl, h⟩
    · have h := h.2 hc
      refine g_aload_n (n := 22) dX12_longestRun_21 rfl rfl rfl ?_
      refine g_iload_n (n := 23) dX12_longestRun_22 rfl rfl rfl ?_
      refine g_callV (n := 26) (as := [.int x3]) (bc' := 0) (bs' := 0) sM_0 vc_16 (ctX12_useOf h) okX12_useOf rfl w_2211 w_2213 w_46 w_112 dX12_longestRun_23 rfl rfl (Nat.le_of_ble_eq_true rfl) (Nat.le_of_ble_eq_true rfl) (Nat.le_of_ble_eq_true rfl) (Nat.le_of_ble_eq_true rfl) rfl (fun E sh1 I1 A1 hp _ => hp.2.elim) (fun ro sh_ I_1 A_2 hp hle => ?_)
      obtain ⟨rfl, r_3, rfl, h⟩ := hp
      refine g_if_ne (n := 29) 35 dX12_longestRun_26 (by decide) rfl (fun hc => ?_) (fun hc => ?_)
      · have h := h.1 hc
        refine g_iconst (n := 36) (v := (nI 0)) dX12_longestRun_35 rfl rfl ?_
        refine g_forget (ls' := [some (.ref 0), some (.int x1), none, some (.int x3)]) (ab_fg rfl) ?_
        refine g_less (bc' := 0) (bs' := 0) (Nat.le_of_ble_eq_true rfl) (Nat.le_of_ble_eq_true rfl) ?_
        exact tjX12_longestRun_36 hL11 _ _ _ _ _ h
      · have h := h.2 hc
        refine g_iload_n (n := 30) dX12_longestRun_29 rfl rfl rfl ?_
        refine g_iconst (n := 31) (v := (nI 1)) dX12_longestRun_30 rfl rfl ?_
        refine g_iadd (n := 32) dX12_longestRun_31 rfl ?_
        refine g_goto 36 dX12_longestRun_32 (by decide) ?_
        refine g_forget (ls' := [some (.ref 0), some (.int x1), none, some (.int x3)]) (ab_fg rfl) ?_
        refine g_less (bc' := 0) (bs' := 0) (Nat.le_of_ble_eq_true rfl) (Nat.le_of_ble_eq_true rfl) ?_
        exact tjX12_longestRun_36 hL11 _ _ _ _ _ h
set_option maxRecDepth 20000 in
theorem ctX12_longestRun  {K : Int32 → ab_F → ab_F → Prop} {I A : ab_F}  (h : wX12_longestRun K I A ) : ab_Cl mX12_longestRun 2 0 0 [.ref 0] shM I A (ab_Px shM ab_no (ab_ri K)) := by
  refine ab_enter (ls := [some (.ref 0), none, none, none]) (by decide +kernel) (Nat.le_of_ble_eq_true rfl) rfl (fun C => ?_)
  unfold wX12_longestRun at h
  refine g_aload_n (n := 1) dX12_longestRun_0 rfl rfl rfl ?_
  refine g_iconst (n := 2) (v := (nI 0)) dX12_longestRun_1 rfl rfl ?_
  refine g_putI (n := 5) (k := 5) dX12_longestRun_2 sM_0 vc_16 (Nat.le_of_ble_eq_true rfl) rfl w_1999 rfl rfl rfl rfl rfl ?_
  refine g_iconst (n := 6) (v := (nI 0)) dX12_longestRun_5 rfl rfl ?_
  refine g_istore_n (n := 7) (ls' := [some (.ref 0), some (.int (nI 0)), none, none]) dX12_longestRun_6 rfl rfl (Nat.le_of_ble_eq_true rfl) (Nat.le_of_ble_eq_true rfl) rfl rfl ?_
  refine g_iconst (n := 8) (v := (nI 0)) dX12_longestRun_7 rfl rfl ?_
  refine g_istore_n (n := 9) (ls' := [some (.ref 0), some (.int (nI 0)), some (.int (nI 0)), none]) dX12_longestRun_8 rfl rfl (Nat.le_of_ble_eq_true rfl) (Nat.le_of_ble_eq_true rfl) rfl rfl ?_
  refine g_iconst (n := 10) (v := (nI 0)) dX12_longestRun_9 rfl rfl ?_
  refine g_istore_n (n := 11) (ls' := [some (.ref 0), some (.int (nI 0)), some (.int (nI 0)), some (.int (nI 0))]) dX12_longestRun_10 rfl rfl (Nat.le_of_ble_eq_true rfl) (Nat.le_of_ble_eq_true rfl) rfl rfl ?_
  refine g_less (bc' := 0) (bs' := 0) (Nat.le_of_ble_eq_true rfl) (Nat.le_of_ble_eq_true rfl) ?_
  obtain ⟨n_f, h⟩ := h
  exact tlX12_longestRun_11  n_f _ _ _ _ _ h
def wjX12_freeSlot_68 (K : Int32 → ab_F → ab_F → Prop) (L7 : Int32 → Int32 → ab_F → ab_F → Prop) (L33 : Int32 → Int32 → Int32 → Int32 → ab_F → ab_F → Prop) (x1 : Int32) (x2 : Int32) (x4 : Int32) (s0 : Int32) (I A : ab_F) : Prop := (∀ y_10 : Int32, y_10 = (s0 + (nI 0)) → L33 x1 x2 y_10 (x4 + nI 1) I A)
def wlX12_freeSlot_33 (K : Int32 → ab_F → ab_F → Prop) (L7 : Int32 → Int32 → ab_F → ab_F → Prop) : Nat → Int32 → Int32 → Int32 → Int32 → ab_F → ab_F → Prop
  | 0, _, _, _, _, _, _ => False
  | n + 1, x1, x2, x3, x4, I, A => (((A 1 1) ≤ x4 → ((¬ x3 = x1 → L7 x1 (x2 + nI 1) I A) ∧ (x3 = x1 → K x2 I A))) ∧ (¬ (A 1 1) ≤ x4 → wX12_useOf (fun r_9 I_7 A_8 => ((¬ r_9 = 0 → wjX12_freeSlot_68 K L7 (wlX12_freeSlot_33 K L7 n) x1 x2 x4 x3 I_7 A_8) ∧ (r_9 = 0 → wX12_isSooner (fun r_13 I_11 A_12 => ((r_13 = 0 → wjX12_freeSlot_68 K L7 (wlX12_freeSlot_33 K L7 n) x1 x2 x4 x3 I_11 A_12) ∧ (¬ r_13 = 0 → (∀ y_14 : Int32, y_14 = (x3 + (nI 1)) → (wlX12_freeSlot_33 K L7 n) x1 x2 y_14 (x4 + nI 1) I_11 A_12)))) I_7 A_8 x4 x2))) I A x4))
def wlX12_freeSlot_7 (K : Int32 → ab_F → ab_F → Prop) : Nat → Int32 → Int32 → ab_F → ab_F → Prop
  | 0, _, _, _, _ => False
  | n + 1, x1, x2, I, A => (((A 1 1) ≤ x2 → wX12_no (fun r_3 I_1 A_2 => K r_3 I_1 A_2) I A (nI 1)) ∧ (¬ (A 1 1) ≤ x2 → wX12_useOf (fun r_6 I_4 A_5 => ((r_6 = 0 → (∃ nf : Nat, wlX12_freeSlot_33 K (wlX12_freeSlot_7 K n) nf x1 x2 (nI 0) (nI 0) I_4 A_5)) ∧ (¬ r_6 = 0 → (wlX12_freeSlot_7 K n) x1 (x2 + nI 1) I_4 A_5))) I A x2))
def wX12_freeSlot (K : Int32 → ab_F → ab_F → Prop) (I A : ab_F) (p0 : Int32) : Prop := (∃ nf : Nat, wlX12_freeSlot_7 K nf p0 (nI 0) (wr I 0 5 (nI 0)) A)
set_option maxRecDepth 20000 in
theorem tjX12_freeSlot_68 {C : ab_X}  {K : Int32 → ab_F → ab_F → Prop} {L7 : Int32 → Int32 → ab_F → ab_F → Prop} {L33 : Int32 → Int32 → Int32 → Int32 → ab_F → ab_F → Prop} (hL7 : ∀ (x1 : Int32) (x2 : Int32) (I A : ab_F), L7 x1 x2 I A → ab_G mX12_freeSlot 2 C (ab_Px shM ab_no (ab_ri K)) 7 [some (.ref 0), some (.int x1), some (.int x2), none, none] [] shM I A 0 0) (hL33 : ∀ (x1 : Int32) (x2 : Int32) (x3 : Int32) (x4 : Int32) (I A : ab_F), L33 x1 x2 x3 x4 I A → ab_G mX12_freeSlot 2 C (ab_Px shM ab_no (ab_ri K)) 33 [some (.ref 0), some (.int x1), some (.int x2), some (.int x3), some (.int x4)] [] shM I A 0 0) (x1 : Int32) (x2 : Int32) (x4 : Int32) (s0 : Int32) (I A : ab_F) (h : wjX12_freeSlot_68 K L7 L33 x1 x2 x4 s0 I A) : ab_G mX12_freeSlot 2 C (ab_Px shM ab_no (ab_ri K)) 68 [some (.ref 0), some (.int x1), some (.int x2), none, some (.int x4)] [.int s0] shM I A 0 0 := by
  unfold wjX12_freeSlot_68 at h
  refine g_iconst (n := 69) (v := (nI 0)) dX12_freeSlot_68 rfl rfl ?_
  refine g_iadd (n := 70) dX12_freeSlot_69 rfl ?_
  refine g_topi (fun y_10 ey_10 => ?_)
  have h := h y_10 ey_10
  refine g_istore_n (n := 71) (ls' := [some (.ref 0), some (.int x1), some (.int x2), some (.int y_10), some (.int x4)]) dX12_freeSlot_70 rfl rfl (Nat.le_of_ble_eq_true rfl) (Nat.le_of_ble_eq_true rfl) rfl rfl ?_
  refine g_iinc (n := 74) (v := (x4 + nI 1)) (ls' := [some (.ref 0), some (.int x1), some (.int x2), some (.int y_10), some (.int (x4 + nI 1))]) dX12_freeSlot_71 rfl rfl rfl (Nat.le_of_ble_eq_true rfl) rfl rfl ?_
  refine g_goto 33 dX12_freeSlot_74 (by decide) ?_
  exact hL33 _ _ _ _ _ _ h
set_option maxRecDepth 20000 in
theorem tlX12_freeSlot_33 {C : ab_X}  {K : Int32 → ab_F → ab_F → Prop} {L7 : Int32 → Int32 → ab_F → ab_F → Prop} (hL7 : ∀ (x1 : Int32) (x2 : Int32) (I A : ab_F), L7 x1 x2 I A → ab_G mX12_freeSlot 2 C (ab_Px shM ab_no (ab_ri K)) 7 [some (.ref 0), some (.int x1), some (.int x2), none, none] [] shM I A 0 0) : ∀ (n : Nat) (x1 : Int32) (x2 : Int32) (x3 : Int32) (x4 : Int32) (I A : ab_F), wlX12_freeSlot_33 K L7 n x1 x2 x3 x4 I A → ab_G mX12_freeSlot 2 C (ab_Px shM ab_no (ab_ri K)) 33 [some (.ref 0), some (.int x1), some (.int x2), some (.int x3), some (.int x4)] [] shM I A 0 0 := by
  intro n
  induction n with
  | zero => intro x1 x2 x3 x4 I A h; exact h.elim
  | succ n hL33 =>
    intro x1 x2 x3 x4 I A h
    rw [wlX12_freeSlot_33] at h
    refine g_iload (n := 35) dX12_freeSlot_33 rfl rfl ?_
    refine g_aload_n (n := 36) dX12_freeSlot_35 rfl rfl rfl ?_
    refine g_getR (n := 39) (k := 0) dX12_freeSlot_36 sM_0 vc_16 (Nat.le_of_ble_eq_true rfl) rfl w_1994 rfl ?_
    refine g_iconst (n := 40) (v := (nI 1)) dX12_freeSlot_39 rfl rfl ?_
    refine g_ialdJ (n := 41) (j := 1) (x := (A 1 1)) dX12_freeSlot_40 sM_1 rfl (Nat.le_of_ble_eq_true rfl) (by decide) rfl rfl ?_
    refine g_icmp_ge (n := 44) 77 dX12_freeSlot_41 (by decide) rfl (fun hc => ?_) (fun hc => ?_)
    · have h := h.1 hc
      refine g_iload_n (n := 78) dX12_freeSlot_77 rfl rfl rfl ?_
      refine g_iload_n (n := 79) dX12_freeSlot_78 rfl rfl rfl ?_
      refine g_icmp_ne (n := 82) 84 dX12_freeSlot_79 (by decide) rfl (fun hc => ?_) (fun hc => ?_)
      · have h := h.1 hc
        refine g_iinc (n := 87) (v := (x2 + nI 1)) (ls' := [some (.ref 0), some (.int x1), some (.int (x2 + nI 1)), some (.int x3), some (.int x4)]) dX12_freeSlot_84 rfl rfl rfl (Nat.le_of_ble_eq_true rfl) rfl rfl ?_
        refine g_goto 7 dX12_freeSlot_87 (by decide) ?_
        refine g_forget (ls' := [some (.ref 0), some (.int x1), some (.int (x2 + nI 1)), none, none]) (ab_fg rfl) ?_
        exact hL7 _ _ _ _ h
      · have h := h.2 hc
        refine g_iload_n (n := 83) dX12_freeSlot_82 rfl rfl rfl ?_
        exact g_iret rfl rfl dX12_freeSlot_83 ⟨rfl, _, rfl, h⟩
    · have h := h.2 hc
      refine g_iload_n (n := 45) dX12_freeSlot_44 rfl rfl rfl ?_
      refine g_aload_n (n := 46) dX12_freeSlot_45 rfl rfl rfl ?_
      refine g_iload (n := 48) dX12_freeSlot_46 rfl rfl ?_
      refine g_callV (n := 51) (as := [.int x4]) (bc' := 0) (bs' := 0) sM_0 vc_16 (ctX12_useOf h) okX12_useOf rfl w_2211 w_2213 w_46 w_112 dX12_freeSlot_48 rfl rfl (Nat.le_of_ble_eq_true rfl) (Nat.le_of_ble_eq_true rfl) (Nat.le_of_ble_eq_true rfl) (Nat.le_of_ble_eq_true rfl) rfl (fun E sh1 I1 A1 hp _ => hp.2.elim) (fun ro sh_ I_7 A_8 hp hle => ?_)
      obtain ⟨rfl, r_9, rfl, h⟩ := hp
      refine g_if_ne (n := 54) 68 dX12_freeSlot_51 (by decide) rfl (fun hc => ?_) (fun hc => ?_)
      · have h := h.1 hc
        refine g_forget (ls' := [some (.ref 0), some (.int x1), some (.int x2), none, some (.int x4)]) (ab_fg rfl) ?_
        refine g_less (bc' := 0) (bs' := 0) (Nat.le_of_ble_eq_true rfl) (Nat.le_of_ble_eq_true rfl) ?_
        exact tjX12_freeSlot_68 hL7 hL33 _ _ _ _ _ _ h
      · have h := h.2 hc
        refine g_aload_n (n := 55) dX12_freeSlot_54 rfl rfl rfl ?_
        refine g_iload (n := 57) dX12_freeSlot_55 rfl rfl ?_
        refine g_iload_n (n := 58) dX12_freeSlot_57 rfl rfl rfl ?_
        refine g_callV (n := 61) (as := [.int x4, .int x2]) (bc' := 0) (bs' := 0) sM_0 vc_16 (ctX12_isSooner h) okX12_isSooner rfl w_2219 w_2221 w_48 w_112 dX12_freeSlot_58 rfl rfl (Nat.le_of_ble_eq_true rfl) (Nat.le_of_ble_eq_true rfl) (Nat.le_of_ble_eq_true rfl) (Nat.le_of_ble_eq_true rfl) rfl (fun E sh1 I1 A1 hp _ => hp.2.elim) (fun ro sh_ I_11 A_12 hp hle => ?_)
        obtain ⟨rfl, r_13, rfl, h⟩ := hp
        refine g_if_eq (n := 64) 68 dX12_freeSlot_61 (by decide) rfl (fun hc => ?_) (fun hc => ?_)
        · have h := h.1 hc
          refine g_forget (ls' := [some (.ref 0), some (.int x1), some (.int x2), none, some (.int x4)]) (ab_fg rfl) ?_
          refine g_less (bc' := 0) (bs' := 0) (Nat.le_of_ble_eq_true rfl) (Nat.le_of_ble_eq_true rfl) ?_
          exact tjX12_freeSlot_68 hL7 hL33 _ _ _ _ _ _ h
        · have h := h.2 hc
          refine g_iconst (n := 65) (v := (nI 1)) dX12_freeSlot_64 rfl rfl ?_
          refine g_goto 69 dX12_freeSlot_65 (by decide) ?_
          refine g_iadd (n := 70) dX12_freeSlot_69 rfl ?_
          refine g_topi (fun y_14 ey_14 => ?_)
          have h := h y_14 ey_14
          refine g_istore_n (n := 71) (ls' := [some (.ref 0), some (.int x1), some (.int x2), some (.int y_14), some (.int x4)]) dX12_freeSlot_70 rfl rfl (Nat.le_of_ble_eq_true rfl) (Nat.le_of_ble_eq_true rfl) rfl rfl ?_
          refine g_iinc (n := 74) (v := (x4 + nI 1)) (ls' := [some (.ref 0), some (.int x1), some (.int x2), some (.int y_14), some (.int (x4 + nI 1))]) dX12_freeSlot_71 rfl rfl rfl (Nat.le_of_ble_eq_true rfl) rfl rfl ?_
          refine g_goto 33 dX12_freeSlot_74 (by decide) ?_
          exact hL33 _ _ _ _ _ _ h
set_option maxRecDepth 20000 in
theorem tlX12_freeSlot_7 {C : ab_X}  {K : Int32 → ab_F → ab_F → Prop} : ∀ (n : Nat) (x1 : Int32) (x2 : Int32) (I A : ab_F), wlX12_freeSlot_7 K n x1 x2 I A → ab_G mX12_freeSlot 2 C (ab_Px shM ab_no (ab_ri K)) 7 [some (.ref 0), some (.int x1), some (.int x2), none, none] [] shM I A 0 0 := by
  intro n
  induction n with
  | zero => intro x1 x2 I A h; exact h.elim
  | succ n hL7 =>
    intro x1 x2 I A h
    rw [wlX12_freeSlot_7] at h
    refine g_iload_n (n := 8) dX12_freeSlot_7 rfl rfl rfl ?_
    refine g_aload_n (n := 9) dX12_freeSlot_8 rfl rfl rfl ?_
    refine g_getR (n := 12) (k := 0) dX12_freeSlot_9 sM_0 vc_16 (Nat.le_of_ble_eq_true rfl) rfl w_1994 rfl ?_
    refine g_iconst (n := 13) (v := (nI 1)) dX12_freeSlot_12 rfl rfl ?_
    refine g_ialdJ (n := 14) (j := 1) (x := (A 1 1)) dX12_freeSlot_13 sM_1 rfl (Nat.le_of_ble_eq_true rfl) (by decide) rfl rfl ?_
    refine g_icmp_ge (n := 17) 90 dX12_freeSlot_14 (by decide) rfl (fun hc => ?_) (fun hc => ?_)
    · have h := h.1 hc
      refine g_aload_n (n := 91) dX12_freeSlot_90 rfl rfl rfl ?_
      refine g_iconst (n := 92) (v := (nI 1)) dX12_freeSlot_91 rfl rfl ?_
      refine g_callV (n := 95) (as := [.int (nI 1)]) (bc' := 0) (bs' := 0) sM_0 vc_16 (ctX12_no h) okX12_no rfl w_2060 w_2062 w_25 w_112 dX12_freeSlot_92 rfl rfl (Nat.le_of_ble_eq_true rfl) (Nat.le_of_ble_eq_true rfl) (Nat.le_of_ble_eq_true rfl) (Nat.le_of_ble_eq_true rfl) rfl (fun E sh1 I1 A1 hp _ => hp.2.elim) (fun ro sh_ I_1 A_2 hp hle => ?_)
      obtain ⟨rfl, r_3, rfl, h⟩ := hp
      exact g_iret rfl rfl dX12_freeSlot_95 ⟨rfl, _, rfl, h⟩
    · have h := h.2 hc
      refine g_aload_n (n := 18) dX12_freeSlot_17 rfl rfl rfl ?_
      refine g_iload_n (n := 19) dX12_freeSlot_18 rfl rfl rfl ?_
      refine g_callV (n := 22) (as := [.int x2]) (bc' := 0) (bs' := 0) sM_0 vc_16 (ctX12_useOf h) okX12_useOf rfl w_2211 w_2213 w_46 w_112 dX12_freeSlot_19 rfl rfl (Nat.le_of_ble_eq_true rfl) (Nat.le_of_ble_eq_true rfl) (Nat.le_of_ble_eq_true rfl) (Nat.le_of_ble_eq_true rfl) rfl (fun E sh1 I1 A1 hp _ => hp.2.elim) (fun ro sh_ I_4 A_5 hp hle => ?_)
      obtain ⟨rfl, r_6, rfl, h⟩ := hp
      refine g_if_eq (n := 25) 28 dX12_freeSlot_22 (by decide) rfl (fun hc => ?_) (fun hc => ?_)
      · have h := h.1 hc
        refine g_iconst (n := 29) (v := (nI 0)) dX12_freeSlot_28 rfl rfl ?_
        refine g_istore_n (n := 30) (ls' := [some (.ref 0), some (.int x1), some (.int x2), some (.int (nI 0)), none]) dX12_freeSlot_29 rfl rfl (Nat.le_of_ble_eq_true rfl) (Nat.le_of_ble_eq_true rfl) rfl rfl ?_
        refine g_iconst (n := 31) (v := (nI 0)) dX12_freeSlot_30 rfl rfl ?_
        refine g_istore (n := 33) (ls' := [some (.ref 0), some (.int x1), some (.int x2), some (.int (nI 0)), some (.int (nI 0))]) dX12_freeSlot_31 rfl (Nat.le_of_ble_eq_true rfl) (Nat.le_of_ble_eq_true rfl) rfl rfl ?_
        refine g_less (bc' := 0) (bs' := 0) (Nat.le_of_ble_eq_true rfl) (Nat.le_of_ble_eq_true rfl) ?_
        obtain ⟨n_f, h⟩ := h
        exact tlX12_freeSlot_33 hL7 n_f _ _ _ _ _ _ h
      · have h := h.2 hc
        refine g_goto 84 dX12_freeSlot_25 (by decide) ?_
        refine g_iinc (n := 87) (v := (x2 + nI 1)) (ls' := [some (.ref 0), some (.int x1), some (.int (x2 + nI 1)), none, none]) dX12_freeSlot_84 rfl rfl rfl (Nat.le_of_ble_eq_true rfl) rfl rfl ?_
        refine g_goto 7 dX12_freeSlot_87 (by decide) ?_
        exact hL7 _ _ _ _ h
set_option maxRecDepth 20000 in
theorem ctX12_freeSlot  {K : Int32 → ab_F → ab_F → Prop} {I A : ab_F} {p0 : Int32} (h : wX12_freeSlot K I A p0) : ab_Cl mX12_freeSlot 2 0 0 [.ref 0, .int p0] shM I A (ab_Px shM ab_no (ab_ri K)) := by
  refine ab_enter (ls := [some (.ref 0), some (.int p0), none, none, none]) (by decide +kernel) (Nat.le_of_ble_eq_true rfl) rfl (fun C => ?_)
  unfold wX12_freeSlot at h
  refine g_aload_n (n := 1) dX12_freeSlot_0 rfl rfl rfl ?_
  refine g_iconst (n := 2) (v := (nI 0)) dX12_freeSlot_1 rfl rfl ?_
  refine g_putI (n := 5) (k := 5) dX12_freeSlot_2 sM_0 vc_16 (Nat.le_of_ble_eq_true rfl) rfl w_1999 rfl rfl rfl rfl rfl ?_
  refine g_iconst (n := 6) (v := (nI 0)) dX12_freeSlot_5 rfl rfl ?_
  refine g_istore_n (n := 7) (ls' := [some (.ref 0), some (.int p0), some (.int (nI 0)), none, none]) dX12_freeSlot_6 rfl rfl (Nat.le_of_ble_eq_true rfl) (Nat.le_of_ble_eq_true rfl) rfl rfl ?_
  refine g_less (bc' := 0) (bs' := 0) (Nat.le_of_ble_eq_true rfl) (Nat.le_of_ble_eq_true rfl) ?_
  obtain ⟨n_f, h⟩ := h
  exact tlX12_freeSlot_7  n_f _ _ _ _ h
