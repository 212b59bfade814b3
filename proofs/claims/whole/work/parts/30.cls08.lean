def wjX11_faultsWith_33 (K : Int32 → ab_F → ab_F → Prop) (KX : String → ab_F → ab_F → Prop) (x1 : Int32) (x2 : Int32) (s0 : Int32) (I A : ab_F) : Prop := wX11_demandArgument (fun I_3 A_4 => wX5_countFaults (fun r_7 I_5 A_6 => K r_7 I_5 A_6) I_3 A_4 x1 x2) KX I A s0
def wjX11_faultsWith_32 (K : Int32 → ab_F → ab_F → Prop) (KX : String → ab_F → ab_F → Prop) (x1 : Int32) (x2 : Int32) (I A : ab_F) : Prop := wjX11_faultsWith_33 K KX x1 x2 (nI 0) I A
def wjX11_faultsWith_16 (K : Int32 → ab_F → ab_F → Prop) (KX : String → ab_F → ab_F → Prop) (x1 : Int32) (x2 : Int32) (s0 : Int32) (I A : ab_F) : Prop := wX11_demandArgument (fun I_1 A_2 => ((x2 < 0 → wjX11_faultsWith_32 K KX x1 x2 I_1 A_2) ∧ (¬ x2 < 0 → (((nI 2) < x2 → wjX11_faultsWith_32 K KX x1 x2 I_1 A_2) ∧ (¬ (nI 2) < x2 → wjX11_faultsWith_33 K KX x1 x2 (nI 1) I_1 A_2))))) KX I A s0
def wjX11_faultsWith_15 (K : Int32 → ab_F → ab_F → Prop) (KX : String → ab_F → ab_F → Prop) (x1 : Int32) (x2 : Int32) (I A : ab_F) : Prop := wjX11_faultsWith_16 K KX x1 x2 (nI 0) I A
def wX11_faultsWith (K : Int32 → ab_F → ab_F → Prop) (KX : String → ab_F → ab_F → Prop) (I A : ab_F) (p0 : Int32) (p1 : Int32) : Prop := ((p0 < (nI 1) → wjX11_faultsWith_15 K KX p0 p1 I A) ∧ (¬ p0 < (nI 1) → (((nI 16) < p0 → wjX11_faultsWith_15 K KX p0 p1 I A) ∧ (¬ (nI 16) < p0 → wjX11_faultsWith_16 K KX p0 p1 (nI 1) I A))))
set_option maxRecDepth 20000 in
theorem tjX11_faultsWith_33 {C : ab_X} {Z : ab_Z} {K : Int32 → ab_F → ab_F → Prop} {KX : String → ab_F → ab_F → Prop} (x1 : Int32) (x2 : Int32) (s0 : Int32) (I A : ab_F) (h : wjX11_faultsWith_33 K KX x1 x2 s0 I A) : ab_G mX11_faultsWith 8 C (ab_Px (shC Z) KX (ab_ri K)) 33 [some (.ref 0), some (.int x1), some (.int x2)] [.int s0] (shC Z) I A 1 6 := by
  unfold wjX11_faultsWith_33 at h
  refine g_callS (n := 36) (as := [.int s0]) (bc' := 0) (bs' := 0) (ctX11_demandArgument h) okX11_demandArgument w_1436 w_1437 dX11_faultsWith_33 rfl rfl (Nat.le_of_ble_eq_true rfl) (Nat.le_of_ble_eq_true rfl) (Nat.le_of_ble_eq_true rfl) (Nat.le_of_ble_eq_true rfl) rfl (fun E sh1 I1 A1 hp _ => hp) (fun ro sh_ I_3 A_4 hp hle => ?_)
  obtain ⟨rfl, rfl, h⟩ := hp
  refine g_aload_n (n := 37) dX11_faultsWith_36 rfl rfl rfl ?_
  refine g_getR (n := 40) (k := 5) dX11_faultsWith_37 sC_0 vc_15 (Nat.le_of_ble_eq_true rfl) rfl w_540 rfl ?_
  refine g_aload_n (n := 41) dX11_faultsWith_40 rfl rfl rfl ?_
  refine g_getR (n := 44) (k := 0) dX11_faultsWith_41 sC_0 vc_15 (Nat.le_of_ble_eq_true rfl) rfl w_535 rfl ?_
  refine g_getR (n := 47) (k := 4) dX11_faultsWith_44 sC_8 vc_12 (Nat.le_of_ble_eq_true rfl) rfl w_408 rfl ?_
  refine g_iload_n (n := 48) dX11_faultsWith_47 rfl rfl rfl ?_
  refine g_iload_n (n := 49) dX11_faultsWith_48 rfl rfl rfl ?_
  refine g_callV (n := 52) (as := [.ref 29, .int x1, .int x2]) (bc' := 0) (bs' := 0) sC_34 vc_9 (ctX5_countFaults h) okX5_countFaults rfl w_1852 w_1853 w_1854 w_107 dX11_faultsWith_49 rfl rfl (Nat.le_of_ble_eq_true rfl) (Nat.le_of_ble_eq_true rfl) (Nat.le_of_ble_eq_true rfl) (Nat.le_of_ble_eq_true rfl) rfl (fun E sh1 I1 A1 hp _ => hp.2.elim) (fun ro sh_ I_5 A_6 hp hle => ?_)
  obtain ⟨rfl, r_7, rfl, h⟩ := hp
  exact g_iret rfl rfl dX11_faultsWith_52 ⟨rfl, _, rfl, h⟩
set_option maxRecDepth 20000 in
theorem tjX11_faultsWith_32 {C : ab_X} {Z : ab_Z} {K : Int32 → ab_F → ab_F → Prop} {KX : String → ab_F → ab_F → Prop} (x1 : Int32) (x2 : Int32) (I A : ab_F) (h : wjX11_faultsWith_32 K KX x1 x2 I A) : ab_G mX11_faultsWith 8 C (ab_Px (shC Z) KX (ab_ri K)) 32 [some (.ref 0), some (.int x1), some (.int x2)] [] (shC Z) I A 1 6 := by
  unfold wjX11_faultsWith_32 at h
  refine g_iconst (n := 33) (v := (nI 0)) dX11_faultsWith_32 rfl rfl ?_
  refine g_less (bc' := 1) (bs' := 6) (Nat.le_of_ble_eq_true rfl) (Nat.le_of_ble_eq_true rfl) ?_
  exact tjX11_faultsWith_33  _ _ _ _ _ h
set_option maxRecDepth 20000 in
theorem tjX11_faultsWith_16 {C : ab_X} {Z : ab_Z} {K : Int32 → ab_F → ab_F → Prop} {KX : String → ab_F → ab_F → Prop} (x1 : Int32) (x2 : Int32) (s0 : Int32) (I A : ab_F) (h : wjX11_faultsWith_16 K KX x1 x2 s0 I A) : ab_G mX11_faultsWith 8 C (ab_Px (shC Z) KX (ab_ri K)) 16 [some (.ref 0), some (.int x1), some (.int x2)] [.int s0] (shC Z) I A 2 12 := by
  unfold wjX11_faultsWith_16 at h
  refine g_callS (n := 19) (as := [.int s0]) (bc' := 1) (bs' := 6) (ctX11_demandArgument h) okX11_demandArgument w_1436 w_1437 dX11_faultsWith_16 rfl rfl (Nat.le_of_ble_eq_true rfl) (Nat.le_of_ble_eq_true rfl) (Nat.le_of_ble_eq_true rfl) (Nat.le_of_ble_eq_true rfl) rfl (fun E sh1 I1 A1 hp _ => hp) (fun ro sh_ I_1 A_2 hp hle => ?_)
  obtain ⟨rfl, rfl, h⟩ := hp
  refine g_iload_n (n := 20) dX11_faultsWith_19 rfl rfl rfl ?_
  refine g_if_lt (n := 23) 32 dX11_faultsWith_20 (by decide) rfl (fun hc => ?_) (fun hc => ?_)
  · have h := h.1 hc
    refine g_less (bc' := 1) (bs' := 6) (Nat.le_of_ble_eq_true rfl) (Nat.le_of_ble_eq_true rfl) ?_
    exact tjX11_faultsWith_32  _ _ _ _ h
  · have h := h.2 hc
    refine g_iload_n (n := 24) dX11_faultsWith_23 rfl rfl rfl ?_
    refine g_iconst (n := 25) (v := (nI 2)) dX11_faultsWith_24 rfl rfl ?_
    refine g_icmp_gt (n := 28) 32 dX11_faultsWith_25 (by decide) rfl (fun hc => ?_) (fun hc => ?_)
    · have h := h.1 hc
      refine g_less (bc' := 1) (bs' := 6) (Nat.le_of_ble_eq_true rfl) (Nat.le_of_ble_eq_true rfl) ?_
      exact tjX11_faultsWith_32  _ _ _ _ h
    · have h := h.2 hc
      refine g_iconst (n := 29) (v := (nI 1)) dX11_faultsWith_28 rfl rfl ?_
      refine g_goto 33 dX11_faultsWith_29 (by decide) ?_
      refine g_less (bc' := 1) (bs' := 6) (Nat.le_of_ble_eq_true rfl) (Nat.le_of_ble_eq_true rfl) ?_
      exact tjX11_faultsWith_33  _ _ _ _ _ h
set_option maxRecDepth 20000 in
theorem tjX11_faultsWith_15 {C : ab_X} {Z : ab_Z} {K : Int32 → ab_F → ab_F → Prop} {KX : String → ab_F → ab_F → Prop} (x1 : Int32) (x2 : Int32) (I A : ab_F) (h : wjX11_faultsWith_15 K KX x1 x2 I A) : ab_G mX11_faultsWith 8 C (ab_Px (shC Z) KX (ab_ri K)) 15 [some (.ref 0), some (.int x1), some (.int x2)] [] (shC Z) I A 2 12 := by
  unfold wjX11_faultsWith_15 at h
  refine g_iconst (n := 16) (v := (nI 0)) dX11_faultsWith_15 rfl rfl ?_
  refine g_less (bc' := 2) (bs' := 12) (Nat.le_of_ble_eq_true rfl) (Nat.le_of_ble_eq_true rfl) ?_
  exact tjX11_faultsWith_16  _ _ _ _ _ h
set_option maxRecDepth 20000 in
theorem ctX11_faultsWith {Z : ab_Z} {K : Int32 → ab_F → ab_F → Prop} {KX : String → ab_F → ab_F → Prop} {I A : ab_F} {p0 : Int32} {p1 : Int32} (h : wX11_faultsWith K KX I A p0 p1) : ab_Cl mX11_faultsWith 8 2 12 [.ref 0, .int p0, .int p1] (shC Z) I A (ab_Px (shC Z) KX (ab_ri K)) := by
  refine ab_enter (ls := [some (.ref 0), some (.int p0), some (.int p1)]) (by decide +kernel) (Nat.le_of_ble_eq_true rfl) rfl (fun C => ?_)
  unfold wX11_faultsWith at h
  refine g_iload_n (n := 1) dX11_faultsWith_0 rfl rfl rfl ?_
  refine g_iconst (n := 2) (v := (nI 1)) dX11_faultsWith_1 rfl rfl ?_
  refine g_icmp_lt (n := 5) 15 dX11_faultsWith_2 (by decide) rfl (fun hc => ?_) (fun hc => ?_)
  · have h := h.1 hc
    refine g_less (bc' := 2) (bs' := 12) (Nat.le_of_ble_eq_true rfl) (Nat.le_of_ble_eq_true rfl) ?_
    exact tjX11_faultsWith_15  _ _ _ _ h
  · have h := h.2 hc
    refine g_iload_n (n := 6) dX11_faultsWith_5 rfl rfl rfl ?_
    refine g_bipush (n := 8) (v := (nI 16)) dX11_faultsWith_6 rfl rfl ?_
    refine g_icmp_gt (n := 11) 15 dX11_faultsWith_8 (by decide) rfl (fun hc => ?_) (fun hc => ?_)
    · have h := h.1 hc
      refine g_less (bc' := 2) (bs' := 12) (Nat.le_of_ble_eq_true rfl) (Nat.le_of_ble_eq_true rfl) ?_
      exact tjX11_faultsWith_15  _ _ _ _ h
    · have h := h.2 hc
      refine g_iconst (n := 12) (v := (nI 1)) dX11_faultsWith_11 rfl rfl ?_
      refine g_goto 16 dX11_faultsWith_12 (by decide) ?_
      refine g_less (bc' := 2) (bs' := 12) (Nat.le_of_ble_eq_true rfl) (Nat.le_of_ble_eq_true rfl) ?_
      exact tjX11_faultsWith_16  _ _ _ _ _ h
def wjX11_leastFrames_44 (K : Int32 → ab_F → ab_F → Prop) (KX : String → ab_F → ab_F → Prop) (x2 : Int32) (s0 : Int32) (I A : ab_F) : Prop := wX11_demandElement (fun I_6 A_7 => K x2 I_6 A_7) KX I A s0
def wjX11_leastFrames_15 (K : Int32 → ab_F → ab_F → Prop) (KX : String → ab_F → ab_F → Prop) (x1 : Int32) (s0 : Int32) (I A : ab_F) : Prop := wX11_demandArgument (fun I_1 A_2 => wX5_fewestFrames (fun r_5 I_3 A_4 => ((r_5 = (-1 : Int32) → wjX11_leastFrames_44 K KX r_5 (nI 0) I_3 A_4) ∧ (¬ r_5 = (-1 : Int32) → wjX11_leastFrames_44 K KX r_5 (nI 1) I_3 A_4))) I_1 A_2 x1) KX I A s0
def wjX11_leastFrames_14 (K : Int32 → ab_F → ab_F → Prop) (KX : String → ab_F → ab_F → Prop) (x1 : Int32) (I A : ab_F) : Prop := wjX11_leastFrames_15 K KX x1 (nI 0) I A
def wX11_leastFrames (K : Int32 → ab_F → ab_F → Prop) (KX : String → ab_F → ab_F → Prop) (I A : ab_F) (p0 : Int32) : Prop := ((p0 < 0 → wjX11_leastFrames_14 K KX p0 I A) ∧ (¬ p0 < 0 → (((nI 64) < p0 → wjX11_leastFrames_14 K KX p0 I A) ∧ (¬ (nI 64) < p0 → wjX11_leastFrames_15 K KX p0 (nI 1) I A))))
set_option maxRecDepth 20000 in
theorem tjX11_leastFrames_44 {C : ab_X} {Z : ab_Z} {K : Int32 → ab_F → ab_F → Prop} {KX : String → ab_F → ab_F → Prop} (x2 : Int32) (s0 : Int32) (I A : ab_F) (h : wjX11_leastFrames_44 K KX x2 s0 I A) : ab_G mX11_leastFrames 8 C (ab_Px (shC Z) KX (ab_ri K)) 44 [none, none, some (.int x2)] [.int s0] (shC Z) I A 1 6 := by
  unfold wjX11_leastFrames_44 at h
  refine g_callS (n := 47) (as := [.int s0]) (bc' := 0) (bs' := 0) (ctX11_demandElement h) okX11_demandElement w_1656 w_1657 dX11_leastFrames_44 rfl rfl (Nat.le_of_ble_eq_true rfl) (Nat.le_of_ble_eq_true rfl) (Nat.le_of_ble_eq_true rfl) (Nat.le_of_ble_eq_true rfl) rfl (fun E sh1 I1 A1 hp _ => hp) (fun ro sh_ I_6 A_7 hp hle => ?_)
  obtain ⟨rfl, rfl, h⟩ := hp
  refine g_iload_n (n := 48) dX11_leastFrames_47 rfl rfl rfl ?_
  exact g_iret rfl rfl dX11_leastFrames_48 ⟨rfl, _, rfl, h⟩
set_option maxRecDepth 20000 in
theorem tjX11_leastFrames_15 {C : ab_X} {Z : ab_Z} {K : Int32 → ab_F → ab_F → Prop} {KX : String → ab_F → ab_F → Prop} (x1 : Int32) (s0 : Int32) (I A : ab_F) (h : wjX11_leastFrames_15 K KX x1 s0 I A) : ab_G mX11_leastFrames 8 C (ab_Px (shC Z) KX (ab_ri K)) 15 [some (.ref 0), some (.int x1), none] [.int s0] (shC Z) I A 2 12 := by
  unfold wjX11_leastFrames_15 at h
  refine g_callS (n := 18) (as := [.int s0]) (bc' := 1) (bs' := 6) (ctX11_demandArgument h) okX11_demandArgument w_1436 w_1437 dX11_leastFrames_15 rfl rfl (Nat.le_of_ble_eq_true rfl) (Nat.le_of_ble_eq_true rfl) (Nat.le_of_ble_eq_true rfl) (Nat.le_of_ble_eq_true rfl) rfl (fun E sh1 I1 A1 hp _ => hp) (fun ro sh_ I_1 A_2 hp hle => ?_)
  obtain ⟨rfl, rfl, h⟩ := hp
  refine g_aload_n (n := 19) dX11_leastFrames_18 rfl rfl rfl ?_
  refine g_getR (n := 22) (k := 5) dX11_leastFrames_19 sC_0 vc_15 (Nat.le_of_ble_eq_true rfl) rfl w_540 rfl ?_
  refine g_aload_n (n := 23) dX11_leastFrames_22 rfl rfl rfl ?_
  refine g_getR (n := 26) (k := 0) dX11_leastFrames_23 sC_0 vc_15 (Nat.le_of_ble_eq_true rfl) rfl w_535 rfl ?_
  refine g_getR (n := 29) (k := 4) dX11_leastFrames_26 sC_8 vc_12 (Nat.le_of_ble_eq_true rfl) rfl w_408 rfl ?_
  refine g_iload_n (n := 30) dX11_leastFrames_29 rfl rfl rfl ?_
  refine g_callV (n := 33) (as := [.ref 29, .int x1]) (bc' := 1) (bs' := 6) sC_34 vc_9 (ctX5_fewestFrames h) okX5_fewestFrames rfl w_1878 w_1879 w_1880 w_107 dX11_leastFrames_30 rfl rfl (Nat.le_of_ble_eq_true rfl) (Nat.le_of_ble_eq_true rfl) (Nat.le_of_ble_eq_true rfl) (Nat.le_of_ble_eq_true rfl) rfl (fun E sh1 I1 A1 hp _ => hp.2.elim) (fun ro sh_ I_3 A_4 hp hle => ?_)
  obtain ⟨rfl, r_5, rfl, h⟩ := hp
  refine g_istore_n (n := 34) (ls' := [some (.ref 0), some (.int x1), some (.int r_5)]) dX11_leastFrames_33 rfl rfl (Nat.le_of_ble_eq_true rfl) (Nat.le_of_ble_eq_true rfl) rfl rfl ?_
  refine g_iload_n (n := 35) dX11_leastFrames_34 rfl rfl rfl ?_
  refine g_iconst (n := 36) (v := (-1 : Int32)) dX11_leastFrames_35 rfl rfl ?_
  refine g_icmp_eq (n := 39) 43 dX11_leastFrames_36 (by decide) rfl (fun hc => ?_) (fun hc => ?_)
  · have h := h.1 hc
    refine g_iconst (n := 44) (v := (nI 0)) dX11_leastFrames_43 rfl rfl ?_
    refine g_forget (ls' := [none, none, some (.int r_5)]) (ab_fg rfl) ?_
    refine g_less (bc' := 1) (bs' := 6) (Nat.le_of_ble_eq_true rfl) (Nat.le_of_ble_eq_true rfl) ?_
    exact tjX11_leastFrames_44  _ _ _ _ h
  · have h := h.2 hc
    refine g_iconst (n := 40) (v := (nI 1)) dX11_leastFrames_39 rfl rfl ?_
    refine g_goto 44 dX11_leastFrames_40 (by decide) ?_
    refine g_forget (ls' := [none, none, some (.int r_5)]) (ab_fg rfl) ?_
    refine g_less (bc' := 1) (bs' := 6) (Nat.le_of_ble_eq_true rfl) (Nat.le_of_ble_eq_true rfl) ?_
    exact tjX11_leastFrames_44  _ _ _ _ h
set_option maxRecDepth 20000 in
theorem tjX11_leastFrames_14 {C : ab_X} {Z : ab_Z} {K : Int32 → ab_F → ab_F → Prop} {KX : String → ab_F → ab_F → Prop} (x1 : Int32) (I A : ab_F) (h : wjX11_leastFrames_14 K KX x1 I A) : ab_G mX11_leastFrames 8 C (ab_Px (shC Z) KX (ab_ri K)) 14 [some (.ref 0), some (.int x1), none] [] (shC Z) I A 2 12 := by
  unfold wjX11_leastFrames_14 at h
  refine g_iconst (n := 15) (v := (nI 0)) dX11_leastFrames_14 rfl rfl ?_
  refine g_less (bc' := 2) (bs' := 12) (Nat.le_of_ble_eq_true rfl) (Nat.le_of_ble_eq_true rfl) ?_
  exact tjX11_leastFrames_15  _ _ _ _ h
set_option maxRecDepth 20000 in
theorem ctX11_leastFrames {Z : ab_Z} {K : Int32 → ab_F → ab_F → Prop} {KX : String → ab_F → ab_F → Prop} {I A : ab_F} {p0 : Int32} (h : wX11_leastFrames K KX I A p0) : ab_Cl mX11_leastFrames 8 2 12 [.ref 0, .int p0] (shC Z) I A (ab_Px (shC Z) KX (ab_ri K)) := by
  refine ab_enter (ls := [some (.ref 0), some (.int p0), none]) (by decide +kernel) (Nat.le_of_ble_eq_true rfl) rfl (fun C => ?_)
  unfold wX11_leastFrames at h
  refine g_iload_n (n := 1) dX11_leastFrames_0 rfl rfl rfl ?_
  refine g_if_lt (n := 4) 14 dX11_leastFrames_1 (by decide) rfl (fun hc => ?_) (fun hc => ?_)
  · have h := h.1 hc
    refine g_less (bc' := 2) (bs' := 12) (Nat.le_of_ble_eq_true rfl) (Nat.le_of_ble_eq_true rfl) ?_
    exact tjX11_leastFrames_14  _ _ _ h
  · have h := h.2 hc
    refine g_iload_n (n := 5) dX11_leastFrames_4 rfl rfl rfl ?_
    refine g_bipush (n := 7) (v := (nI 64)) dX11_leastFrames_5 rfl rfl ?_
    refine g_icmp_gt (n := 10) 14 dX11_leastFrames_7 (by decide) rfl (fun hc => ?_) (fun hc => ?_)
    · have h := h.1 hc
      refine g_less (bc' := 2) (bs' := 12) (Nat.le_of_ble_eq_true rfl) (Nat.le_of_ble_eq_true rfl) ?_
      exact tjX11_leastFrames_14  _ _ _ h
    · have h := h.2 hc
      refine g_iconst (n := 11) (v := (nI 1)) dX11_leastFrames_10 rfl rfl ?_
      refine g_goto 15 dX11_leastFrames_11 (by decide) ?_
      refine g_less (bc' := 2) (bs' := 12) (Nat.le_of_ble_eq_true rfl) (Nat.le_of_ble_eq_true rfl) ?_
      exact tjX11_leastFrames_15  _ _ _ _ h
def wjX11_workingSet_16 (K : Int32 → ab_F → ab_F → Prop) (KX : String → ab_F → ab_F → Prop) (x1 : Int32) (s0 : Int32) (I A : ab_F) : Prop := wX11_demandArgument (fun I_1 A_2 => wX0_countDifferent (fun r_5 I_3 A_4 => K r_5 I_3 A_4) I_1 A_2 x1) KX I A s0
def wjX11_workingSet_15 (K : Int32 → ab_F → ab_F → Prop) (KX : String → ab_F → ab_F → Prop) (x1 : Int32) (I A : ab_F) : Prop := wjX11_workingSet_16 K KX x1 (nI 0) I A
def wX11_workingSet (K : Int32 → ab_F → ab_F → Prop) (KX : String → ab_F → ab_F → Prop) (I A : ab_F) (p0 : Int32) : Prop := ((p0 < (nI 1) → wjX11_workingSet_15 K KX p0 I A) ∧ (¬ p0 < (nI 1) → (((nI 64) < p0 → wjX11_workingSet_15 K KX p0 I A) ∧ (¬ (nI 64) < p0 → wjX11_workingSet_16 K KX p0 (nI 1) I A))))
set_option maxRecDepth 20000 in
theorem tjX11_workingSet_16 {C : ab_X} {Z : ab_Z} {K : Int32 → ab_F → ab_F → Prop} {KX : String → ab_F → ab_F → Prop} (x1 : Int32) (s0 : Int32) (I A : ab_F) (h : wjX11_workingSet_16 K KX x1 s0 I A) : ab_G mX11_workingSet 8 C (ab_Px (shC Z) KX (ab_ri K)) 16 [some (.ref 0), some (.int x1)] [.int s0] (shC Z) I A 1 6 := by
  unfold wjX11_workingSet_16 at h
  refine g_callS (n := 19) (as := [.int s0]) (bc' := 0) (bs' := 0) (ctX11_demandArgument h) okX11_demandArgument w_1436 w_1437 dX11_workingSet_16 rfl rfl (Nat.le_of_ble_eq_true rfl) (Nat.le_of_ble_eq_true rfl) (Nat.le_of_ble_eq_true rfl) (Nat.le_of_ble_eq_true rfl) rfl (fun E sh1 I1 A1 hp _ => hp) (fun ro sh_ I_1 A_2 hp hle => ?_)
  obtain ⟨rfl, rfl, h⟩ := hp
  refine g_aload_n (n := 20) dX11_workingSet_19 rfl rfl rfl ?_
  refine g_getR (n := 23) (k := 0) dX11_workingSet_20 sC_0 vc_15 (Nat.le_of_ble_eq_true rfl) rfl w_535 rfl ?_
  refine g_getR (n := 26) (k := 4) dX11_workingSet_23 sC_8 vc_12 (Nat.le_of_ble_eq_true rfl) rfl w_408 rfl ?_
  refine g_iload_n (n := 27) dX11_workingSet_26 rfl rfl rfl ?_
  refine g_callV (n := 30) (as := [.int x1]) (bc' := 0) (bs' := 0) sC_29 vc_4 (ctX0_countDifferent h) okX0_countDifferent rfl w_1890 w_1891 w_1892 w_105 dX11_workingSet_27 rfl rfl (Nat.le_of_ble_eq_true rfl) (Nat.le_of_ble_eq_true rfl) (Nat.le_of_ble_eq_true rfl) (Nat.le_of_ble_eq_true rfl) rfl (fun E sh1 I1 A1 hp _ => hp.2.elim) (fun ro sh_ I_3 A_4 hp hle => ?_)
  obtain ⟨rfl, r_5, rfl, h⟩ := hp
  exact g_iret rfl rfl dX11_workingSet_30 ⟨rfl, _, rfl, h⟩
set_option maxRecDepth 20000 in
theorem tjX11_workingSet_15 {C : ab_X} {Z : ab_Z} {K : Int32 → ab_F → ab_F → Prop} {KX : String → ab_F → ab_F → Prop} (x1 : Int32) (I A : ab_F) (h : wjX11_workingSet_15 K KX x1 I A) : ab_G mX11_workingSet 8 C (ab_Px (shC Z) KX (ab_ri K)) 15 [some (.ref 0), some (.int x1)] [] (shC Z) I A 1 6 := by
  unfold wjX11_workingSet_15 at h
  refine g_iconst (n := 16) (v := (nI 0)) dX11_workingSet_15 rfl rfl ?_
  refine g_less (bc' := 1) (bs' := 6) (Nat.le_of_ble_eq_true rfl) (Nat.le_of_ble_eq_true rfl) ?_
  exact tjX11_workingSet_16  _ _ _ _ h
set_option maxRecDepth 20000 in
theorem ctX11_workingSet {Z : ab_Z} {K : Int32 → ab_F → ab_F → Prop} {KX : String → ab_F → ab_F → Prop} {I A : ab_F} {p0 : Int32} (h : wX11_workingSet K KX I A p0) : ab_Cl mX11_workingSet 8 1 6 [.ref 0, .int p0] (shC Z) I A (ab_Px (shC Z) KX (ab_ri K)) := by
  refine ab_enter (ls := [some (.ref 0), some (.int p0)]) (by decide +kernel) (Nat.le_of_ble_eq_true rfl) rfl (fun C => ?_)
  unfold wX11_workingSet at h
  refine g_iload_n (n := 1) dX11_workingSet_0 rfl rfl rfl ?_
  refine g_iconst (n := 2) (v := (nI 1)) dX11_workingSet_1 rfl rfl ?_
  refine g_icmp_lt (n := 5) 15 dX11_workingSet_2 (by decide) rfl (fun hc => ?_) (fun hc => ?_)
  · have h := h.1 hc
    refine g_less (bc' := 1) (bs' := 6) (Nat.le_of_ble_eq_true rfl) (Nat.le_of_ble_eq_true rfl) ?_
    exact tjX11_workingSet_15  _ _ _ h
  · have h := h.2 hc
    refine g_iload_n (n := 6) dX11_workingSet_5 rfl rfl rfl ?_
    refine g_bipush (n := 8) (v := (nI 64)) dX11_workingSet_6 rfl rfl ?_
    refine g_icmp_gt (n := 11) 15 dX11_workingSet_8 (by decide) rfl (fun hc => ?_) (fun hc => ?_)
    · have h := h.1 hc
      refine g_less (bc' := 1) (bs' := 6) (Nat.le_of_ble_eq_true rfl) (Nat.le_of_ble_eq_true rfl) ?_
      exact tjX11_workingSet_15  _ _ _ h
    · have h := h.2 hc
      refine g_iconst (n := 12) (v := (nI 1)) dX11_workingSet_11 rfl rfl ?_
      refine g_goto 16 dX11_workingSet_12 (by decide) ?_
      refine g_less (bc' := 1) (bs' := 6) (Nat.le_of_ble_eq_true rfl) (Nat.le_of_ble_eq_true rfl) ?_
      exact tjX11_workingSet_16  _ _ _ _ h
def wjX11_hottestPage_18 (K : Int32 → ab_F → ab_F → Prop) (KX : String → ab_F → ab_F → Prop) (s0 : Int32) (I A : ab_F) : Prop := wX11_demandElement (fun I_4 A_5 => wX0_mostFrequent (fun r_8 I_6 A_7 => K r_8 I_6 A_7) I_4 A_5 ) KX I A s0
def wX11_hottestPage (K : Int32 → ab_F → ab_F → Prop) (KX : String → ab_F → ab_F → Prop) (I A : ab_F)  : Prop := wX0_countRecent (fun r_3 I_1 A_2 => ((r_3 ≤ 0 → wjX11_hottestPage_18 K KX (nI 0) I_1 A_2) ∧ (¬ r_3 ≤ 0 → wjX11_hottestPage_18 K KX (nI 1) I_1 A_2))) I A 
set_option maxRecDepth 20000 in
theorem tjX11_hottestPage_18 {C : ab_X} {Z : ab_Z} {K : Int32 → ab_F → ab_F → Prop} {KX : String → ab_F → ab_F → Prop} (s0 : Int32) (I A : ab_F) (h : wjX11_hottestPage_18 K KX s0 I A) : ab_G mX11_hottestPage 8 C (ab_Px (shC Z) KX (ab_ri K)) 18 [some (.ref 0)] [.int s0] (shC Z) I A 1 6 := by
  unfold wjX11_hottestPage_18 at h
  refine g_callS (n := 21) (as := [.int s0]) (bc' := 0) (bs' := 0) (ctX11_demandElement h) okX11_demandElement w_1656 w_1657 dX11_hottestPage_18 rfl rfl (Nat.le_of_ble_eq_true rfl) (Nat.le_of_ble_eq_true rfl) (Nat.le_of_ble_eq_true rfl) (Nat.le_of_ble_eq_true rfl) rfl (fun E sh1 I1 A1 hp _ => hp) (fun ro sh_ I_4 A_5 hp hle => ?_)
  obtain ⟨rfl, rfl, h⟩ := hp
  refine g_aload_n (n := 22) dX11_hottestPage_21 rfl rfl rfl ?_
  refine g_getR (n := 25) (k := 0) dX11_hottestPage_22 sC_0 vc_15 (Nat.le_of_ble_eq_true rfl) rfl w_535 rfl ?_
  refine g_getR (n := 28) (k := 4) dX11_hottestPage_25 sC_8 vc_12 (Nat.le_of_ble_eq_true rfl) rfl w_408 rfl ?_
  refine g_callV (n := 31) (as := []) (bc' := 0) (bs' := 0) sC_29 vc_4 (ctX0_mostFrequent h) okX0_mostFrequent rfl w_1909 w_1910 w_1911 w_105 dX11_hottestPage_28 rfl rfl (Nat.le_of_ble_eq_true rfl) (Nat.le_of_ble_eq_true rfl) (Nat.le_of_ble_eq_true rfl) (Nat.le_of_ble_eq_true rfl) rfl (fun E sh1 I1 A1 hp _ => hp.2.elim) (fun ro sh_ I_6 A_7 hp hle => ?_)
  obtain ⟨rfl, r_8, rfl, h⟩ := hp
  exact g_iret rfl rfl dX11_hottestPage_31 ⟨rfl, _, rfl, h⟩
set_option maxRecDepth 20000 in
theorem ctX11_hottestPage {Z : ab_Z} {K : Int32 → ab_F → ab_F → Prop} {KX : String → ab_F → ab_F → Prop} {I A : ab_F}  (h : wX11_hottestPage K KX I A ) : ab_Cl mX11_hottestPage 8 1 6 [.ref 0] (shC Z) I A (ab_Px (shC Z) KX (ab_ri K)) := by
  refine ab_enter (ls := [some (.ref 0)]) (by decide +kernel) (Nat.le_of_ble_eq_true rfl) rfl (fun C => ?_)
  unfold wX11_hottestPage at h
  refine g_aload_n (n := 1) dX11_hottestPage_0 rfl rfl rfl ?_
  refine g_getR (n := 4) (k := 0) dX11_hottestPage_1 sC_0 vc_15 (Nat.le_of_ble_eq_true rfl) rfl w_535 rfl ?_
  refine g_getR (n := 7) (k := 4) dX11_hottestPage_4 sC_8 vc_12 (Nat.le_of_ble_eq_true rfl) rfl w_408 rfl ?_
  refine g_callV (n := 10) (as := []) (bc' := 1) (bs' := 6) sC_29 vc_4 (ctX0_countRecent h) okX0_countRecent rfl w_1836 w_1837 w_1838 w_105 dX11_hottestPage_7 rfl rfl (Nat.le_of_ble_eq_true rfl) (Nat.le_of_ble_eq_true rfl) (Nat.le_of_ble_eq_true rfl) (Nat.le_of_ble_eq_true rfl) rfl (fun E sh1 I1 A1 hp _ => hp.2.elim) (fun ro sh_ I_1 A_2 hp hle => ?_)
  obtain ⟨rfl, r_3, rfl, h⟩ := hp
  refine g_if_le (n := 13) 17 dX11_hottestPage_10 (by decide) rfl (fun hc => ?_) (fun hc => ?_)
  · have h := h.1 hc
    refine g_iconst (n := 18) (v := (nI 0)) dX11_hottestPage_17 rfl rfl ?_
    refine g_less (bc' := 1) (bs' := 6) (Nat.le_of_ble_eq_true rfl) (Nat.le_of_ble_eq_true rfl) ?_
    exact tjX11_hottestPage_18  _ _ _ h
  · have h := h.2 hc
    refine g_iconst (n := 14) (v := (nI 1)) dX11_hottestPage_13 rfl rfl ?_
    refine g_goto 18 dX11_hottestPage_14 (by decide) ?_
    refine g_less (bc' := 1) (bs' := 6) (Nat.le_of_ble_eq_true rfl) (Nat.le_of_ble_eq_true rfl) ?_
    exact tjX11_hottestPage_18  _ _ _ h
def wjX11_bitsOfRatio_34 (K : Int32 → ab_F → ab_F → Prop) (x1 : UInt32) (x2 : Int32) (I A : ab_F) : Prop := (vf_n32 (FP.fmul x1 (1258291200 : UInt32)) ∧ K (((x2 <<< ((nI 23) &&& 31)) + (FP.f2i (FP.fmul x1 (1258291200 : UInt32)))) - (nI 8388608)) I A)
def wlX11_bitsOfRatio_13 (K : Int32 → ab_F → ab_F → Prop) : Nat → UInt32 → Int32 → ab_F → ab_F → Prop
  | 0, _, _, _, _ => False
  | n + 1, x1, x2, I, A => ((0 ≤ (Op.cmpValue (FP.fcmp x1 FP.fconst1) .g) → wjX11_bitsOfRatio_34 K x1 x2 I A) ∧ (¬ 0 ≤ (Op.cmpValue (FP.fcmp x1 FP.fconst1) .g) → ((x2 ≤ (nI 1) → wjX11_bitsOfRatio_34 K x1 x2 I A) ∧ (¬ x2 ≤ (nI 1) → (vf_n32 (FP.fmul x1 FP.fconst2) ∧ (∀ y_1 : UInt32, y_1 = (FP.fmul x1 FP.fconst2) → (wlX11_bitsOfRatio_13 K n) y_1 (x2 + (-1)) I A))))))
def wX11_bitsOfRatio (K : Int32 → ab_F → ab_F → Prop) (I A : ab_F) (p0 : UInt32) : Prop := ((0 < (Op.cmpValue (FP.fcmp p0 FP.fconst0) .g) → (∃ nf : Nat, wlX11_bitsOfRatio_13 K nf p0 (nI 127) I A)) ∧ (¬ 0 < (Op.cmpValue (FP.fcmp p0 FP.fconst0) .g) → K (nI 0) I A))
set_option maxRecDepth 20000 in
theorem tjX11_bitsOfRatio_34 {C : ab_X} {Z : ab_Z} {K : Int32 → ab_F → ab_F → Prop} (x1 : UInt32) (x2 : Int32) (I A : ab_F) (h : wjX11_bitsOfRatio_34 K x1 x2 I A) : ab_G mX11_bitsOfRatio 0 C (ab_Px (shC Z) ab_no (ab_ri K)) 34 [none, some (.float x1), some (.int x2)] [] (shC Z) I A 0 0 := by
  unfold wjX11_bitsOfRatio_34 at h
  refine g_iload_n (n := 35) dX11_bitsOfRatio_34 rfl rfl rfl ?_
  refine g_bipush (n := 37) (v := (nI 23)) dX11_bitsOfRatio_35 rfl rfl ?_
  refine g_ishl (n := 38) dX11_bitsOfRatio_37 rfl ?_
  refine g_fload_n (n := 39) dX11_bitsOfRatio_38 rfl rfl rfl ?_
  refine g_ldcwF (n := 42) (v := (1258291200 : UInt32)) dX11_bitsOfRatio_39 w_1944 rfl ?_
  obtain ⟨hz, h⟩ := h
  refine g_fmul (n := 43) dX11_bitsOfRatio_42 hz rfl ?_
  refine g_f2i (n := 44) dX11_bitsOfRatio_43 rfl ?_
  refine g_iadd (n := 45) dX11_bitsOfRatio_44 rfl ?_
  refine g_ldcw (n := 48) (v := (nI 8388608)) dX11_bitsOfRatio_45 w_1614 rfl ?_
  refine g_isub (n := 49) dX11_bitsOfRatio_48 rfl ?_
  exact g_iret rfl rfl dX11_bitsOfRatio_49 ⟨rfl, _, rfl, h⟩
set_option maxRecDepth 20000 in
theorem tlX11_bitsOfRatio_13 {C : ab_X} {Z : ab_Z} {K : Int32 → ab_F → ab_F → Prop} : ∀ (n : Nat) (x1 : UInt32) (x2 : Int32) (I A : ab_F), wlX11_bitsOfRatio_13 K n x1 x2 I A → ab_G mX11_bitsOfRatio 0 C (ab_Px (shC Z) ab_no (ab_ri K)) 13 [none, some (.float x1), some (.int x2)] [] (shC Z) I A 0 0 := by
  intro n
  induction n with
  | zero => intro x1 x2 I A h; exact h.elim
  | succ n hL13 =>
    intro x1 x2 I A h
    rw [wlX11_bitsOfRatio_13] at h
    refine g_fload_n (n := 14) dX11_bitsOfRatio_13 rfl rfl rfl ?_
    refine g_fconst1 (n := 15) dX11_bitsOfRatio_14 rfl ?_
    refine g_fcmp (n := 16) dX11_bitsOfRatio_15 rfl ?_
    refine g_if_ge (n := 19) 34 dX11_bitsOfRatio_16 (by decide) rfl (fun hc => ?_) (fun hc => ?_)
    · have h := h.1 hc
      refine g_less (bc' := 0) (bs' := 0) (Nat.le_of_ble_eq_true rfl) (Nat.le_of_ble_eq_true rfl) ?_
      exact tjX11_bitsOfRatio_34  _ _ _ _ h
    · have h := h.2 hc
      refine g_iload_n (n := 20) dX11_bitsOfRatio_19 rfl rfl rfl ?_
      refine g_iconst (n := 21) (v := (nI 1)) dX11_bitsOfRatio_20 rfl rfl ?_
      refine g_icmp_le (n := 24) 34 dX11_bitsOfRatio_21 (by decide) rfl (fun hc => ?_) (fun hc => ?_)
      · have h := h.1 hc
        refine g_less (bc' := 0) (bs' := 0) (Nat.le_of_ble_eq_true rfl) (Nat.le_of_ble_eq_true rfl) ?_
        exact tjX11_bitsOfRatio_34  _ _ _ _ h
      · have h := h.2 hc
        refine g_fload_n (n := 25) dX11_bitsOfRatio_24 rfl rfl rfl ?_
        refine g_fconst2 (n := 26) dX11_bitsOfRatio_25 rfl ?_
        obtain ⟨hz, h⟩ := h
        refine g_fmul (n := 27) dX11_bitsOfRatio_26 hz rfl ?_
        refine g_topf (fun y_1 ey_1 => ?_)
        have h := h y_1 ey_1
        refine g_fstore_n (n := 28) (ls' := [none, some (.float y_1), some (.int x2)]) dX11_bitsOfRatio_27 rfl rfl (Nat.le_of_ble_eq_true rfl) (Nat.le_of_ble_eq_true rfl) rfl rfl ?_
        refine g_iinc (n := 31) (v := (x2 + (-1))) (ls' := [none, some (.float y_1), some (.int (x2 + (-1)))]) dX11_bitsOfRatio_28 rfl rfl rfl (Nat.le_of_ble_eq_true rfl) rfl rfl ?_
        refine g_goto 13 dX11_bitsOfRatio_31 (by decide) ?_
        exact hL13 _ _ _ _ h
set_option maxRecDepth 20000 in
theorem ctX11_bitsOfRatio {Z : ab_Z} {K : Int32 → ab_F → ab_F → Prop} {I A : ab_F} {p0 : UInt32} (h : wX11_bitsOfRatio K I A p0) : ab_Cl mX11_bitsOfRatio 0 0 0 [.float p0] (shC Z) I A (ab_Px (shC Z) ab_no (ab_ri K)) := by
  refine ab_enter (ls := [some (.float p0), none, none]) (by decide +kernel) (Nat.le_of_ble_eq_true rfl) rfl (fun C => ?_)
  unfold wX11_bitsOfRatio at h
  refine g_fload_n (n := 1) dX11_bitsOfRatio_0 rfl rfl rfl ?_
  refine g_fconst0 (n := 2) dX11_bitsOfRatio_1 rfl ?_
  refine g_fcmp (n := 3) dX11_bitsOfRatio_2 rfl ?_
  refine g_if_gt (n := 6) 8 dX11_bitsOfRatio_3 (by decide) rfl (fun hc => ?_) (fun hc => ?_)
  · have h := h.1 hc
    refine g_fload_n (n := 9) dX11_bitsOfRatio_8 rfl rfl rfl ?_
    refine g_fstore_n (n := 10) (ls' := [some (.float p0), some (.float p0), none]) dX11_bitsOfRatio_9 rfl rfl (Nat.le_of_ble_eq_true rfl) (Nat.le_of_ble_eq_true rfl) rfl rfl ?_
    refine g_bipush (n := 12) (v := (nI 127)) dX11_bitsOfRatio_10 rfl rfl ?_
    refine g_istore_n (n := 13) (ls' := [some (.float p0), some (.float p0), some (.int (nI 127))]) dX11_bitsOfRatio_12 rfl rfl (Nat.le_of_ble_eq_true rfl) (Nat.le_of_ble_eq_true rfl) rfl rfl ?_
    refine g_forget (ls' := [none, some (.float p0), some (.int (nI 127))]) (ab_fg rfl) ?_
    refine g_less (bc' := 0) (bs' := 0) (Nat.le_of_ble_eq_true rfl) (Nat.le_of_ble_eq_true rfl) ?_
    obtain ⟨n_f, h⟩ := h
    exact tlX11_bitsOfRatio_13  n_f _ _ _ _ h
  · have h := h.2 hc
    refine g_iconst (n := 7) (v := (nI 0)) dX11_bitsOfRatio_6 rfl rfl ?_
    exact g_iret rfl rfl dX11_bitsOfRatio_7 ⟨rfl, _, rfl, h⟩
def wX11_hitRatioBits (K : Int32 → ab_F → ab_F → Prop) (KX : String → ab_F → ab_F → Prop) (I A : ab_F)  : Prop := (∀ y_1 : Int32, y_1 = (I 29 0) → ((¬ y_1 = 0 → (vf_n32 (FP.fdiv (FP.i2f (y_1 - (I 29 1))) (FP.i2f y_1)) ∧ wX11_bitsOfRatio (fun r_4 I_2 A_3 => K r_4 I_2 A_3) I A (FP.fdiv (FP.i2f (y_1 - (I 29 1))) (FP.i2f y_1)))) ∧ (y_1 = 0 → KX "java/lang/ArithmeticException" I A)))
set_option maxRecDepth 20000 in
theorem ctX11_hitRatioBits {Z : ab_Z} {K : Int32 → ab_F → ab_F → Prop} {KX : String → ab_F → ab_F → Prop} {I A : ab_F}  (h : wX11_hitRatioBits K KX I A ) : ab_Cl mX11_hitRatioBits 6 1 6 [.ref 0] (shC Z) I A (ab_Px (shC Z) KX (ab_ri K)) := by
  refine ab_enter (ls := [some (.ref 0), none]) (by decide +kernel) (Nat.le_of_ble_eq_true rfl) rfl (fun C => ?_)
  unfold wX11_hitRatioBits at h
  refine g_aload_n (n := 1) dX11_hitRatioBits_0 rfl rfl rfl ?_
  refine g_getR (n := 4) (k := 0) dX11_hitRatioBits_1 sC_0 vc_15 (Nat.le_of_ble_eq_true rfl) rfl w_535 rfl ?_
  refine g_getR (n := 7) (k := 4) dX11_hitRatioBits_4 sC_8 vc_12 (Nat.le_of_ble_eq_true rfl) rfl w_408 rfl ?_
  refine g_getIE (n := 10) (k := 0) (x := (I 29 0)) dX11_hitRatioBits_7 sC_29 vc_4 (Nat.le_of_ble_eq_true rfl) rfl w_383 rfl rfl ?_
  refine g_topi (fun y_1 ey_1 => ?_)
  have h := h y_1 ey_1
  refine g_istore_n (n := 11) (ls' := [some (.ref 0), some (.int y_1)]) dX11_hitRatioBits_10 rfl rfl (Nat.le_of_ble_eq_true rfl) (Nat.le_of_ble_eq_true rfl) rfl rfl ?_
  refine g_iload_n (n := 12) dX11_hitRatioBits_11 rfl rfl rfl ?_
  refine g_if_ne (n := 15) 26 dX11_hitRatioBits_12 (by decide) rfl (fun hc => ?_) (fun hc => ?_)
  · have h := h.1 hc
    refine g_iload_n (n := 27) dX11_hitRatioBits_26 rfl rfl rfl ?_
    refine g_aload_n (n := 28) dX11_hitRatioBits_27 rfl rfl rfl ?_
    refine g_getR (n := 31) (k := 0) dX11_hitRatioBits_28 sC_0 vc_15 (Nat.le_of_ble_eq_true rfl) rfl w_535 rfl ?_
    refine g_getR (n := 34) (k := 4) dX11_hitRatioBits_31 sC_8 vc_12 (Nat.le_of_ble_eq_true rfl) rfl w_408 rfl ?_
    refine g_getIE (n := 37) (k := 1) (x := (I 29 1)) dX11_hitRatioBits_34 sC_29 vc_4 (Nat.le_of_ble_eq_true rfl) rfl w_386 rfl rfl ?_
    refine g_isub (n := 38) dX11_hitRatioBits_37 rfl ?_
    refine g_i2f (n := 39) dX11_hitRatioBits_38 rfl ?_
    refine g_iload_n (n := 40) dX11_hitRatioBits_39 rfl rfl rfl ?_
    refine g_i2f (n := 41) dX11_hitRatioBits_40 rfl ?_
    obtain ⟨hz, h⟩ := h
    refine g_fdiv (n := 42) dX11_hitRatioBits_41 hz rfl ?_
    refine g_callS (n := 45) (as := [.float (FP.fdiv (FP.i2f (y_1 - (I 29 1))) (FP.i2f y_1))]) (bc' := 0) (bs' := 0) (ctX11_bitsOfRatio h) okX11_bitsOfRatio w_1941 w_1942 dX11_hitRatioBits_42 rfl rfl (Nat.le_of_ble_eq_true rfl) (Nat.le_of_ble_eq_true rfl) (Nat.le_of_ble_eq_true rfl) (Nat.le_of_ble_eq_true rfl) rfl (fun E sh1 I1 A1 hp _ => hp.2.elim) (fun ro sh_ I_2 A_3 hp hle => ?_)
    obtain ⟨rfl, r_4, rfl, h⟩ := hp
    exact g_iret rfl rfl dX11_hitRatioBits_45 ⟨rfl, _, rfl, h⟩
  · have h := h.2 hc
    exact g_throwW (n := 0) (i := 39) (names := ["java/lang/RuntimeException", "java/lang/Exception"]) dX11_hitRatioBits_15 dX11_hitRatioBits_18 dX11_hitRatioBits_19 dX11_hitRatioBits_22 dX11_hitRatioBits_25 rfl (by decide) w_1938 w_130 xn_X11_374_a xn_X11_374_b xn_X11_374_c rfl (by decide) (Nat.le_of_ble_eq_true rfl) (Nat.le_of_ble_eq_true rfl) (Nat.le_of_ble_eq_true rfl) ⟨rfl, h⟩
def wX11_total (K : Int32 → ab_F → ab_F → Prop) (KX : String → ab_F → ab_F → Prop) (I A : ab_F) (p0 : Int32) : Prop := (((p0).toInt = 0 → K (I 29 0) I A) ∧ ((p0).toInt = 1 → K (I 29 1) I A) ∧ ((p0).toInt = 2 → K (I 20 1) I A) ∧ ((p0).toInt = 3 → K (I 24 3) I A) ∧ ((p0).toInt = 4 → K (I 8 5) I A) ∧ ((p0).toInt = 5 → wX4_everyProcess (fun r_3 I_1 A_2 => wX8_countLost (fun r_6 I_4 A_5 => K r_6 I_4 A_5) I_1 A_2 r_3) I A ) ∧ ((p0).toInt = 6 → wX4_everyProcess (fun r_9 I_7 A_8 => wX4_countDirty (fun r_12 I_10 A_11 => K r_12 I_10 A_11) I_7 A_8 r_9) I A ) ∧ ((p0).toInt = 7 → K (I 16 1) I A) ∧ ((p0).toInt < 0 ∨ 7 < (p0).toInt → KX "java/lang/IllegalArgumentException" I A))
set_option maxRecDepth 20000 in
theorem ctX11_total {Z : ab_Z} {K : Int32 → ab_F → ab_F → Prop} {KX : String → ab_F → ab_F → Prop} {I A : ab_F} {p0 : Int32} (h : wX11_total K KX I A p0) : ab_Cl mX11_total 6 1 6 [.ref 0, .int p0] (shC Z) I A (ab_Px (shC Z) KX (ab_ri K)) := by
  refine ab_enter (ls := [some (.ref 0), some (.int p0)]) (by decide +kernel) (Nat.le_of_ble_eq_true rfl) rfl (fun C => ?_)
  unfold wX11_total at h
  refine g_iload_n (n := 1) dX11_total_0 rfl rfl rfl ?_
  by_cases hc0 : (p0).toInt = 0
  · have h := h.1 hc0
    refine g_tableIn 48 dX11_total_1 (by rw [hc0]; decide) (by rw [hc0]; decide) (by rw [hc0]; rfl) (by decide) ?_
    refine g_aload_n (n := 49) dX11_total_48 rfl rfl rfl ?_
    refine g_getR (n := 52) (k := 0) dX11_total_49 sC_0 vc_15 (Nat.le_of_ble_eq_true rfl) rfl w_535 rfl ?_
    refine g_getR (n := 55) (k := 4) dX11_total_52 sC_8 vc_12 (Nat.le_of_ble_eq_true rfl) rfl w_408 rfl ?_
    refine g_getIE (n := 58) (k := 0) (x := (I 29 0)) dX11_total_55 sC_29 vc_4 (Nat.le_of_ble_eq_true rfl) rfl w_383 rfl rfl ?_
    exact g_iret rfl rfl dX11_total_58 ⟨rfl, _, rfl, h⟩
  by_cases hc1 : (p0).toInt = 1
  · have h := h.2.1 hc1
    refine g_tableIn 59 dX11_total_1 (by rw [hc1]; decide) (by rw [hc1]; decide) (by rw [hc1]; rfl) (by decide) ?_
    refine g_aload_n (n := 60) dX11_total_59 rfl rfl rfl ?_
    refine g_getR (n := 63) (k := 0) dX11_total_60 sC_0 vc_15 (Nat.le_of_ble_eq_true rfl) rfl w_535 rfl ?_
    refine g_getR (n := 66) (k := 4) dX11_total_63 sC_8 vc_12 (Nat.le_of_ble_eq_true rfl) rfl w_408 rfl ?_
    refine g_getIE (n := 69) (k := 1) (x := (I 29 1)) dX11_total_66 sC_29 vc_4 (Nat.le_of_ble_eq_true rfl) rfl w_386 rfl rfl ?_
    exact g_iret rfl rfl dX11_total_69 ⟨rfl, _, rfl, h⟩
  by_cases hc2 : (p0).toInt = 2
  · have h := h.2.2.1 hc2
    refine g_tableIn 70 dX11_total_1 (by rw [hc2]; decide) (by rw [hc2]; decide) (by rw [hc2]; rfl) (by decide) ?_
    refine g_aload_n (n := 71) dX11_total_70 rfl rfl rfl ?_
    refine g_getR (n := 74) (k := 0) dX11_total_71 sC_0 vc_15 (Nat.le_of_ble_eq_true rfl) rfl w_535 rfl ?_
    refine g_getR (n := 77) (k := 2) dX11_total_74 sC_8 vc_12 (Nat.le_of_ble_eq_true rfl) rfl w_404 rfl ?_
    refine g_getIE (n := 80) (k := 1) (x := (I 20 1)) dX11_total_77 sC_20 vc_11 (Nat.le_of_ble_eq_true rfl) rfl w_313 rfl rfl ?_
    exact g_iret rfl rfl dX11_total_80 ⟨rfl, _, rfl, h⟩
  by_cases hc3 : (p0).toInt = 3
  · have h := h.2.2.2.1 hc3
    refine g_tableIn 81 dX11_total_1 (by rw [hc3]; decide) (by rw [hc3]; decide) (by rw [hc3]; rfl) (by decide) ?_
    refine g_aload_n (n := 82) dX11_total_81 rfl rfl rfl ?_
    refine g_getR (n := 85) (k := 0) dX11_total_82 sC_0 vc_15 (Nat.le_of_ble_eq_true rfl) rfl w_535 rfl ?_
    refine g_getR (n := 88) (k := 3) dX11_total_85 sC_8 vc_12 (Nat.le_of_ble_eq_true rfl) rfl w_406 rfl ?_
    refine g_getIE (n := 91) (k := 3) (x := (I 24 3)) dX11_total_88 sC_24 vc_5 (Nat.le_of_ble_eq_true rfl) rfl w_348 rfl rfl ?_
    exact g_iret rfl rfl dX11_total_91 ⟨rfl, _, rfl, h⟩
  by_cases hc4 : (p0).toInt = 4
  · have h := h.2.2.2.2.1 hc4
    refine g_tableIn 92 dX11_total_1 (by rw [hc4]; decide) (by rw [hc4]; decide) (by rw [hc4]; rfl) (by decide) ?_
    refine g_aload_n (n := 93) dX11_total_92 rfl rfl rfl ?_
    refine g_getR (n := 96) (k := 0) dX11_total_93 sC_0 vc_15 (Nat.le_of_ble_eq_true rfl) rfl w_535 rfl ?_
    refine g_getIE (n := 99) (k := 5) (x := (I 8 5)) dX11_total_96 sC_8 vc_12 (Nat.le_of_ble_eq_true rfl) rfl w_410 rfl rfl ?_
    exact g_iret rfl rfl dX11_total_99 ⟨rfl, _, rfl, h⟩
  by_cases hc5 : (p0).toInt = 5
  · have h := h.2.2.2.2.2.1 hc5
    refine g_tableIn 100 dX11_total_1 (by rw [hc5]; decide) (by rw [hc5]; decide) (by rw [hc5]; rfl) (by decide) ?_
    refine g_aload_n (n := 101) dX11_total_100 rfl rfl rfl ?_
    refine g_getR (n := 104) (k := 0) dX11_total_101 sC_0 vc_15 (Nat.le_of_ble_eq_true rfl) rfl w_535 rfl ?_
    refine g_aload_n (n := 105) dX11_total_104 rfl rfl rfl ?_
    refine g_getR (n := 108) (k := 0) dX11_total_105 sC_0 vc_15 (Nat.le_of_ble_eq_true rfl) rfl w_535 rfl ?_
    refine g_getR (n := 111) (k := 0) dX11_total_108 sC_8 vc_12 (Nat.le_of_ble_eq_true rfl) rfl w_400 rfl ?_
    refine g_callV (n := 114) (as := []) (bc' := 0) (bs' := 0) sC_9 vc_8 (ctX4_everyProcess h) okX4_everyProcess rfl w_1952 w_863 w_864 w_101 dX11_total_111 rfl rfl (Nat.le_of_ble_eq_true rfl) (Nat.le_of_ble_eq_true rfl) (Nat.le_of_ble_eq_true rfl) (Nat.le_of_ble_eq_true rfl) rfl (fun E sh1 I1 A1 hp _ => hp.2.elim) (fun ro sh_ I_1 A_2 hp hle => ?_)
    obtain ⟨rfl, r_3, rfl, h⟩ := hp
    refine g_callV (n := 117) (as := [.int r_3]) (bc' := 0) (bs' := 0) sC_8 vc_12 (ctX8_countLost h) okX8_countLost rfl w_1953 w_1802 w_1803 w_100 dX11_total_114 rfl rfl (Nat.le_of_ble_eq_true rfl) (Nat.le_of_ble_eq_true rfl) (Nat.le_of_ble_eq_true rfl) (Nat.le_of_ble_eq_true rfl) rfl (fun E sh1 I1 A1 hp _ => hp.2.elim) (fun ro sh_ I_4 A_5 hp hle => ?_)
    obtain ⟨rfl, r_6, rfl, h⟩ := hp
    exact g_iret rfl rfl dX11_total_117 ⟨rfl, _, rfl, h⟩
  by_cases hc6 : (p0).toInt = 6
  · have h := h.2.2.2.2.2.2.1 hc6
    refine g_tableIn 118 dX11_total_1 (by rw [hc6]; decide) (by rw [hc6]; decide) (by rw [hc6]; rfl) (by decide) ?_
    refine g_aload_n (n := 119) dX11_total_118 rfl rfl rfl ?_
    refine g_getR (n := 122) (k := 0) dX11_total_119 sC_0 vc_15 (Nat.le_of_ble_eq_true rfl) rfl w_535 rfl ?_
    refine g_getR (n := 125) (k := 0) dX11_total_122 sC_8 vc_12 (Nat.le_of_ble_eq_true rfl) rfl w_400 rfl ?_
    refine g_aload_n (n := 126) dX11_total_125 rfl rfl rfl ?_
    refine g_getR (n := 129) (k := 0) dX11_total_126 sC_0 vc_15 (Nat.le_of_ble_eq_true rfl) rfl w_535 rfl ?_
    refine g_getR (n := 132) (k := 0) dX11_total_129 sC_8 vc_12 (Nat.le_of_ble_eq_true rfl) rfl w_400 rfl ?_
    refine g_callV (n := 135) (as := []) (bc' := 0) (bs' := 0) sC_9 vc_8 (ctX4_everyProcess h) okX4_everyProcess rfl w_1952 w_863 w_864 w_101 dX11_total_132 rfl rfl (Nat.le_of_ble_eq_true rfl) (Nat.le_of_ble_eq_true rfl) (Nat.le_of_ble_eq_true rfl) (Nat.le_of_ble_eq_true rfl) rfl (fun E sh1 I1 A1 hp _ => hp.2.elim) (fun ro sh_ I_7 A_8 hp hle => ?_)
    obtain ⟨rfl, r_9, rfl, h⟩ := hp
    refine g_callV (n := 138) (as := [.int r_9]) (bc' := 0) (bs' := 0) sC_9 vc_8 (ctX4_countDirty h) okX4_countDirty rfl w_1771 w_1772 w_1773 w_101 dX11_total_135 rfl rfl (Nat.le_of_ble_eq_true rfl) (Nat.le_of_ble_eq_true rfl) (Nat.le_of_ble_eq_true rfl) (Nat.le_of_ble_eq_true rfl) rfl (fun E sh1 I1 A1 hp _ => hp.2.elim) (fun ro sh_ I_10 A_11 hp hle => ?_)
    obtain ⟨rfl, r_12, rfl, h⟩ := hp
    exact g_iret rfl rfl dX11_total_138 ⟨rfl, _, rfl, h⟩
  by_cases hc7 : (p0).toInt = 7
  · have h := h.2.2.2.2.2.2.2.1 hc7
    refine g_tableIn 139 dX11_total_1 (by rw [hc7]; decide) (by rw [hc7]; decide) (by rw [hc7]; rfl) (by decide) ?_
    refine g_aload_n (n := 140) dX11_total_139 rfl rfl rfl ?_
    refine g_getR (n := 143) (k := 0) dX11_total_140 sC_0 vc_15 (Nat.le_of_ble_eq_true rfl) rfl w_535 rfl ?_
    refine g_getR (n := 146) (k := 1) dX11_total_143 sC_8 vc_12 (Nat.le_of_ble_eq_true rfl) rfl w_402 rfl ?_
    refine g_getIE (n := 149) (k := 1) (x := (I 16 1)) dX11_total_146 sC_16 vc_6 (Nat.le_of_ble_eq_true rfl) rfl w_282 rfl rfl ?_
    exact g_iret rfl rfl dX11_total_149 ⟨rfl, _, rfl, h⟩
  have hc : (p0).toInt < 0 ∨ 7 < (p0).toInt := by omega
  have h := h.2.2.2.2.2.2.2.2 hc
  refine g_tableOut 150 dX11_total_1 hc (by decide) ?_
  exact g_throwW (n := 0) (i := 40) (names := ["java/lang/RuntimeException", "java/lang/Exception"]) dX11_total_150 dX11_total_153 dX11_total_154 dX11_total_157 dX11_total_160 rfl (by decide) w_1455 w_118 xn_X11_401_a xn_X11_401_b xn_X11_401_c rfl (by decide) (Nat.le_of_ble_eq_true rfl) (Nat.le_of_ble_eq_true rfl) (Nat.le_of_ble_eq_true rfl) ⟨rfl, h⟩
def wjX11_reportByte_20 (K : Int32 → ab_Z → ab_F → ab_F → Prop) (KX : String → ab_Z → ab_F → ab_F → Prop) (x1 : Int32) (s0 : Int32) (Z : ab_Z) (I A : ab_F) : Prop := wX11_demandIndex (fun I_1 A_2 => wJ4_charAt_5068e (fun r_6 Z_3 I_4 A_5 => K r_6 Z_3 I_4 A_5) Z I_1 A_2 x1) (fun E I A => KX E Z I A) I A s0
def wjX11_reportByte_19 (K : Int32 → ab_Z → ab_F → ab_F → Prop) (KX : String → ab_Z → ab_F → ab_F → Prop) (x1 : Int32) (Z : ab_Z) (I A : ab_F) : Prop := wjX11_reportByte_20 K KX x1 (nI 0) Z I A
def wX11_reportByte (K : Int32 → ab_Z → ab_F → ab_F → Prop) (KX : String → ab_Z → ab_F → ab_F → Prop) (Z : ab_Z) (I A : ab_F) (p0 : Int32) : Prop := ((p0 < 0 → wjX11_reportByte_19 K KX p0 Z I A) ∧ (¬ p0 < 0 → wJ4_length_8abf5 (fun r_9 I_7 A_8 => ((r_9 ≤ p0 → wjX11_reportByte_19 K KX p0 Z I_7 A_8) ∧ (¬ r_9 ≤ p0 → wjX11_reportByte_20 K KX p0 (nI 1) Z I_7 A_8))) I A ))
set_option maxRecDepth 20000 in
theorem tjX11_reportByte_20 {C : ab_X}  {K : Int32 → ab_Z → ab_F → ab_F → Prop} {KX : String → ab_Z → ab_F → ab_F → Prop} (x1 : Int32) (s0 : Int32) (Z : ab_Z) (I A : ab_F) (h : wjX11_reportByte_20 K KX x1 s0 Z I A) : ab_G mX11_reportByte 8 C (ab_Pz KX (ab_zi K)) 20 [some (.ref 0), some (.int x1)] [.int s0] (shC Z) I A 1 6 := by
  unfold wjX11_reportByte_20 at h
  refine g_callS (n := 23) (as := [.int s0]) (bc' := 0) (bs' := 0) (ctX11_demandIndex h) okX11_demandIndex w_1583 w_1584 dX11_reportByte_20 rfl rfl (Nat.le_of_ble_eq_true rfl) (Nat.le_of_ble_eq_true rfl) (Nat.le_of_ble_eq_true rfl) (Nat.le_of_ble_eq_true rfl) rfl (fun E sh1 I1 A1 hp _ => ⟨_, hp⟩) (fun ro sh_ I_1 A_2 hp hle => ?_)
  obtain ⟨rfl, rfl, h⟩ := hp
  refine g_aload_n (n := 24) dX11_reportByte_23 rfl rfl rfl ?_
  refine g_getR (n := 27) (k := 6) dX11_reportByte_24 sC_0 vc_15 (Nat.le_of_ble_eq_true rfl) rfl w_541 rfl ?_
  refine g_iload_n (n := 28) dX11_reportByte_27 rfl rfl rfl ?_
  refine g_callV (n := 31) (as := [.int x1]) (bc' := 0) (bs' := 0) sC_40 vc_1 (ctJ4_charAt_5068e h) okJ4_charAt_5068e rfl w_1962 w_1963 w_1964 w_109 dX11_reportByte_28 rfl rfl (Nat.le_of_ble_eq_true rfl) (Nat.le_of_ble_eq_true rfl) (Nat.le_of_ble_eq_true rfl) (Nat.le_of_ble_eq_true rfl) rfl (fun E sh1 I1 A1 hp _ => hp.elim (fun _ q => q.2.elim)) (fun ro sh_ I_4 A_5 hp hle => ?_)
  obtain ⟨Z_3, rfl, r_6, rfl, h⟩ := hp
  exact g_iret rfl rfl dX11_reportByte_31 ⟨_, rfl, _, rfl, h⟩
set_option maxRecDepth 20000 in
theorem tjX11_reportByte_19 {C : ab_X}  {K : Int32 → ab_Z → ab_F → ab_F → Prop} {KX : String → ab_Z → ab_F → ab_F → Prop} (x1 : Int32) (Z : ab_Z) (I A : ab_F) (h : wjX11_reportByte_19 K KX x1 Z I A) : ab_G mX11_reportByte 8 C (ab_Pz KX (ab_zi K)) 19 [some (.ref 0), some (.int x1)] [] (shC Z) I A 1 6 := by
  unfold wjX11_reportByte_19 at h
  refine g_iconst (n := 20) (v := (nI 0)) dX11_reportByte_19 rfl rfl ?_
  refine g_less (bc' := 1) (bs' := 6) (Nat.le_of_ble_eq_true rfl) (Nat.le_of_ble_eq_true rfl) ?_
  exact tjX11_reportByte_20  _ _ _ _ _ h
set_option maxRecDepth 20000 in
theorem ctX11_reportByte {Z : ab_Z} {K : Int32 → ab_Z → ab_F → ab_F → Prop} {KX : String → ab_Z → ab_F → ab_F → Prop} {I A : ab_F} {p0 : Int32} (h : wX11_reportByte K KX Z I A p0) : ab_Cl mX11_reportByte 8 1 6 [.ref 0, .int p0] (shC Z) I A (ab_Pz KX (ab_zi K)) := by
  refine ab_enter (ls := [some (.ref 0), some (.int p0)]) (by decide +kernel) (Nat.le_of_ble_eq_true rfl) rfl (fun C => ?_)
  unfold wX11_reportByte at h
  refine g_iload_n (n := 1) dX11_reportByte_0 rfl rfl rfl ?_
  refine g_if_lt (n := 4) 19 dX11_reportByte_1 (by decide) rfl (fun hc => ?_) (fun hc => ?_)
  · have h := h.1 hc
    refine g_less (bc' := 1) (bs' := 6) (Nat.le_of_ble_eq_true rfl) (Nat.le_of_ble_eq_true rfl) ?_
    exact tjX11_reportByte_19  _ _ _ _ h
  · have h := h.2 hc
    refine g_iload_n (n := 5) dX11_reportByte_4 rfl rfl rfl ?_
    refine g_aload_n (n := 6) dX11_reportByte_5 rfl rfl rfl ?_
    refine g_getR (n := 9) (k := 6) dX11_reportByte_6 sC_0 vc_15 (Nat.le_of_ble_eq_true rfl) rfl w_541 rfl ?_
    refine g_callV (n := 12) (as := []) (bc' := 1) (bs' := 6) sC_40 vc_1 (ctJ4_length_8abf5 h) okJ4_length_8abf5 rfl w_1395 w_1200 w_2675 w_109 dX11_reportByte_9 rfl rfl (Nat.le_of_ble_eq_true rfl) (Nat.le_of_ble_eq_true rfl) (Nat.le_of_ble_eq_true rfl) (Nat.le_of_ble_eq_true rfl) rfl (fun E sh1 I1 A1 hp _ => hp.2.elim) (fun ro sh_ I_7 A_8 hp hle => ?_)
    obtain ⟨rfl, r_9, rfl, h⟩ := hp
    refine g_icmp_ge (n := 15) 19 dX11_reportByte_12 (by decide) rfl (fun hc => ?_) (fun hc => ?_)
    · have h := h.1 hc
      refine g_less (bc' := 1) (bs' := 6) (Nat.le_of_ble_eq_true rfl) (Nat.le_of_ble_eq_true rfl) ?_
      exact tjX11_reportByte_19  _ _ _ _ h
    · have h := h.2 hc
      refine g_iconst (n := 16) (v := (nI 1)) dX11_reportByte_15 rfl rfl ?_
      refine g_goto 20 dX11_reportByte_16 (by decide) ?_
      refine g_less (bc' := 1) (bs' := 6) (Nat.le_of_ble_eq_true rfl) (Nat.le_of_ble_eq_true rfl) ?_
      exact tjX11_reportByte_20  _ _ _ _ _ h
def wX11_undo (K : Int32 → ab_Z → ab_F → ab_F → Prop) (KX : String → ab_Z → ab_F → ab_F → Prop) (Z : ab_Z) (I A : ab_F)  : Prop := ((¬ (I 32 2) = 0 → wX3_takeBack (fun Z_1 I_2 A_3 => K (I_2 32 2) Z_1 I_2 A_3) Z I A ) ∧ ((I 32 2) = 0 → KX "java/lang/IllegalStateException" Z I A))
set_option maxRecDepth 20000 in
theorem ctX11_undo {Z : ab_Z} {K : Int32 → ab_Z → ab_F → ab_F → Prop} {KX : String → ab_Z → ab_F → ab_F → Prop} {I A : ab_F}  (h : wX11_undo K KX Z I A ) : ab_Cl mX11_undo 6 1 6 [.ref 0] (shC Z) I A (ab_Pz KX (ab_zi K)) := by
  refine ab_enter (ls := [some (.ref 0)]) (by decide +kernel) (Nat.le_of_ble_eq_true rfl) rfl (fun C => ?_)
  unfold wX11_undo at h
  refine g_aload_n (n := 1) dX11_undo_0 rfl rfl rfl ?_
  refine g_getR (n := 4) (k := 1) dX11_undo_1 sC_0 vc_15 (Nat.le_of_ble_eq_true rfl) rfl w_536 rfl ?_
  refine g_getIE (n := 7) (k := 2) (x := (I 32 2)) dX11_undo_4 sC_32 vc_7 (Nat.le_of_ble_eq_true rfl) rfl w_466 rfl rfl ?_
  refine g_if_ne (n := 10) 21 dX11_undo_7 (by decide) rfl (fun hc => ?_) (fun hc => ?_)
  · have h := h.1 hc
    refine g_aload_n (n := 22) dX11_undo_21 rfl rfl rfl ?_
    refine g_getR (n := 25) (k := 1) dX11_undo_22 sC_0 vc_15 (Nat.le_of_ble_eq_true rfl) rfl w_536 rfl ?_
    refine g_aload_n (n := 26) dX11_undo_25 rfl rfl rfl ?_
    refine g_getR (n := 29) (k := 0) dX11_undo_26 sC_0 vc_15 (Nat.le_of_ble_eq_true rfl) rfl w_535 rfl ?_
    refine g_callV (n := 32) (as := [.ref 8]) (bc' := 0) (bs' := 0) sC_32 vc_7 (ctX3_takeBack h) okX3_takeBack rfl w_1980 w_1981 w_1982 w_106 dX11_undo_29 rfl rfl (Nat.le_of_ble_eq_true rfl) (Nat.le_of_ble_eq_true rfl) (Nat.le_of_ble_eq_true rfl) (Nat.le_of_ble_eq_true rfl) rfl (fun E sh1 I1 A1 hp _ => hp.elim (fun _ q => q.2.elim)) (fun ro sh_ I_2 A_3 hp hle => ?_)
    obtain ⟨Z_1, rfl, rfl, h⟩ := hp
    refine g_aload_n (n := 33) dX11_undo_32 rfl rfl rfl ?_
    refine g_getR (n := 36) (k := 1) dX11_undo_33 sC_0 vc_15 (Nat.le_of_ble_eq_true rfl) rfl w_536 rfl ?_
    refine g_getIE (n := 39) (k := 2) (x := (I_2 32 2)) dX11_undo_36 sC_32 vc_7 (Nat.le_of_ble_eq_true rfl) rfl w_466 rfl rfl ?_
    exact g_iret rfl rfl dX11_undo_39 ⟨_, rfl, _, rfl, h⟩
  · have h := h.2 hc
    exact g_throwW (n := 0) (i := 41) (names := ["java/lang/RuntimeException", "java/lang/Exception"]) dX11_undo_10 dX11_undo_13 dX11_undo_14 dX11_undo_17 dX11_undo_20 rfl (by decide) w_1408 w_116 xn_X11_72_a xn_X11_72_b xn_X11_72_c rfl (by decide) (Nat.le_of_ble_eq_true rfl) (Nat.le_of_ble_eq_true rfl) (Nat.le_of_ble_eq_true rfl) ⟨_, rfl, h⟩
def wX11_undoDepth (K : Int32 → ab_F → ab_F → Prop) (I A : ab_F)  : Prop := K (I 32 2) I A
set_option maxRecDepth 20000 in
theorem ctX11_undoDepth {Z : ab_Z} {K : Int32 → ab_F → ab_F → Prop} {I A : ab_F}  (h : wX11_undoDepth K I A ) : ab_Cl mX11_undoDepth 0 0 0 [.ref 0] (shC Z) I A (ab_Px (shC Z) ab_no (ab_ri K)) := by
  refine ab_enter (ls := [some (.ref 0)]) (by decide +kernel) (Nat.le_of_ble_eq_true rfl) rfl (fun C => ?_)
  unfold wX11_undoDepth at h
  refine g_aload_n (n := 1) dX11_undoDepth_0 rfl rfl rfl ?_
  refine g_getR (n := 4) (k := 1) dX11_undoDepth_1 sC_0 vc_15 (Nat.le_of_ble_eq_true rfl) rfl w_536 rfl ?_
  refine g_getIE (n := 7) (k := 2) (x := (I 32 2)) dX11_undoDepth_4 sC_32 vc_7 (Nat.le_of_ble_eq_true rfl) rfl w_466 rfl rfl ?_
  exact g_iret rfl rfl dX11_undoDepth_7 ⟨rfl, _, rfl, h⟩
