def wX11_frameOwner (K : Int32 → ab_F → ab_F → Prop) (KX : String → ab_F → ab_F → Prop) (I A : ab_F) (p0 : Int32) : Prop := wX2_hasFrame (fun r_3 I_1 A_2 => wX11_demandIndex (fun I_4 A_5 => (∃ j_6 : Nat, p0 = nI j_6 ∧ j_6 < 16 ∧ K (A_5 17 j_6) I_4 A_5)) KX I_1 A_2 r_3) I A p0
set_option maxRecDepth 20000 in
theorem ctX11_frameOwner {Z : ab_Z} {K : Int32 → ab_F → ab_F → Prop} {KX : String → ab_F → ab_F → Prop} {I A : ab_F} {p0 : Int32} (h : wX11_frameOwner K KX I A p0) : ab_Cl mX11_frameOwner 8 1 6 [.ref 0, .int p0] (shC Z) I A (ab_Px (shC Z) KX (ab_ri K)) := by
  refine ab_enter (ls := [some (.ref 0), some (.int p0)]) (by decide +kernel) (Nat.le_of_ble_eq_true rfl) rfl (fun C => ?_)
  unfold wX11_frameOwner at h
  refine g_aload_n (n := 1) dX11_frameOwner_0 rfl rfl rfl ?_
  refine g_getR (n := 4) (k := 0) dX11_frameOwner_1 sC_0 vc_15 (Nat.le_of_ble_eq_true rfl) rfl w_535 rfl ?_
  refine g_getR (n := 7) (k := 1) dX11_frameOwner_4 sC_8 vc_12 (Nat.le_of_ble_eq_true rfl) rfl w_402 rfl ?_
  refine g_iload_n (n := 8) dX11_frameOwner_7 rfl rfl rfl ?_
  refine g_callV (n := 11) (as := [.int p0]) (bc' := 1) (bs' := 6) sC_16 vc_6 (ctX2_hasFrame h) okX2_hasFrame rfl w_1645 w_1646 w_1647 w_102 dX11_frameOwner_8 rfl rfl (Nat.le_of_ble_eq_true rfl) (Nat.le_of_ble_eq_true rfl) (Nat.le_of_ble_eq_true rfl) (Nat.le_of_ble_eq_true rfl) rfl (fun E sh1 I1 A1 hp _ => hp.2.elim) (fun ro sh_ I_1 A_2 hp hle => ?_)
  obtain ⟨rfl, r_3, rfl, h⟩ := hp
  refine g_callS (n := 14) (as := [.int r_3]) (bc' := 0) (bs' := 0) (ctX11_demandIndex h) okX11_demandIndex w_1583 w_1584 dX11_frameOwner_11 rfl rfl (Nat.le_of_ble_eq_true rfl) (Nat.le_of_ble_eq_true rfl) (Nat.le_of_ble_eq_true rfl) (Nat.le_of_ble_eq_true rfl) rfl (fun E sh1 I1 A1 hp _ => hp) (fun ro sh_ I_4 A_5 hp hle => ?_)
  obtain ⟨rfl, rfl, h⟩ := hp
  refine g_aload_n (n := 15) dX11_frameOwner_14 rfl rfl rfl ?_
  refine g_getR (n := 18) (k := 0) dX11_frameOwner_15 sC_0 vc_15 (Nat.le_of_ble_eq_true rfl) rfl w_535 rfl ?_
  refine g_getR (n := 21) (k := 1) dX11_frameOwner_18 sC_8 vc_12 (Nat.le_of_ble_eq_true rfl) rfl w_402 rfl ?_
  refine g_getR (n := 24) (k := 2) dX11_frameOwner_21 sC_16 vc_6 (Nat.le_of_ble_eq_true rfl) rfl w_285 rfl ?_
  refine g_iload_n (n := 25) dX11_frameOwner_24 rfl rfl rfl ?_
  obtain ⟨j_6, hj, hl, h⟩ := h
  refine g_ialdJ (n := 26) (j := j_6) (x := (A_5 17 j_6)) dX11_frameOwner_25 sC_17 hj hl (by decide) rfl rfl ?_
  exact g_iret rfl rfl dX11_frameOwner_26 ⟨rfl, _, rfl, h⟩
def wjX11_demandElement_9 (K : ab_F → ab_F → Prop) (KX : String → ab_F → ab_F → Prop) (s0 : Int32) (I A : ab_F) : Prop := wX11_demand (fun I_1 A_2 => K I_1 A_2) KX I A s0
def wX11_demandElement (K : ab_F → ab_F → Prop) (KX : String → ab_F → ab_F → Prop) (I A : ab_F) (p0 : Int32) : Prop := ((p0 = 0 → wjX11_demandElement_9 K KX (nI 4) I A) ∧ (¬ p0 = 0 → wjX11_demandElement_9 K KX (nI 0) I A))
set_option maxRecDepth 20000 in
theorem tjX11_demandElement_9 {C : ab_X} {Z : ab_Z} {K : ab_F → ab_F → Prop} {KX : String → ab_F → ab_F → Prop} (s0 : Int32) (I A : ab_F) (h : wjX11_demandElement_9 K KX s0 I A) : ab_G mX11_demandElement 7 C (ab_Px (shC Z) KX (ab_rv K)) 9 [none] [.int s0] (shC Z) I A 1 6 := by
  unfold wjX11_demandElement_9 at h
  refine g_callS (n := 12) (as := [.int s0]) (bc' := 0) (bs' := 0) (ctX11_demand h) okX11_demand w_1439 w_1440 dX11_demandElement_9 rfl rfl (Nat.le_of_ble_eq_true rfl) (Nat.le_of_ble_eq_true rfl) (Nat.le_of_ble_eq_true rfl) (Nat.le_of_ble_eq_true rfl) rfl (fun E sh1 I1 A1 hp _ => hp) (fun ro sh_ I_1 A_2 hp hle => ?_)
  obtain ⟨rfl, rfl, h⟩ := hp
  exact g_vret rfl dX11_demandElement_12 ⟨rfl, rfl, h⟩
set_option maxRecDepth 20000 in
theorem ctX11_demandElement {Z : ab_Z} {K : ab_F → ab_F → Prop} {KX : String → ab_F → ab_F → Prop} {I A : ab_F} {p0 : Int32} (h : wX11_demandElement K KX I A p0) : ab_Cl mX11_demandElement 7 1 6 [.int p0] (shC Z) I A (ab_Px (shC Z) KX (ab_rv K)) := by
  refine ab_enter (ls := [some (.int p0)]) (by decide +kernel) (Nat.le_of_ble_eq_true rfl) rfl (fun C => ?_)
  unfold wX11_demandElement at h
  refine g_iload_n (n := 1) dX11_demandElement_0 rfl rfl rfl ?_
  refine g_if_eq (n := 4) 8 dX11_demandElement_1 (by decide) rfl (fun hc => ?_) (fun hc => ?_)
  · have h := h.1 hc
    refine g_iconst (n := 9) (v := (nI 4)) dX11_demandElement_8 rfl rfl ?_
    refine g_forget (ls' := [none]) (ab_fg rfl) ?_
    refine g_less (bc' := 1) (bs' := 6) (Nat.le_of_ble_eq_true rfl) (Nat.le_of_ble_eq_true rfl) ?_
    exact tjX11_demandElement_9  _ _ _ h
  · have h := h.2 hc
    refine g_iconst (n := 5) (v := (nI 0)) dX11_demandElement_4 rfl rfl ?_
    refine g_goto 9 dX11_demandElement_5 (by decide) ?_
    refine g_forget (ls' := [none]) (ab_fg rfl) ?_
    refine g_less (bc' := 1) (bs' := 6) (Nat.le_of_ble_eq_true rfl) (Nat.le_of_ble_eq_true rfl) ?_
    exact tjX11_demandElement_9  _ _ _ h
def wjX11_frameTime_52 (K : Int32 → ab_F → ab_F → Prop) (KX : String → ab_F → ab_F → Prop) (x1 : Int32) (x2 : Int32) (s0 : Int32) (I A : ab_F) : Prop := wX11_demandArgument (fun I_9 A_10 => ((¬ x2 = 0 → (∃ j_11 : Nat, x1 = nI j_11 ∧ j_11 < 16 ∧ K (A_10 19 j_11) I_9 A_10)) ∧ (x2 = 0 → (∃ j_12 : Nat, x1 = nI j_12 ∧ j_12 < 16 ∧ K (A_10 18 j_12) I_9 A_10)))) KX I A s0
def wjX11_frameTime_47 (K : Int32 → ab_F → ab_F → Prop) (KX : String → ab_F → ab_F → Prop) (x1 : Int32) (x2 : Int32) (I A : ab_F) : Prop := wjX11_frameTime_52 K KX x1 x2 (nI 1) I A
def wjX11_frameTime_35 (K : Int32 → ab_F → ab_F → Prop) (KX : String → ab_F → ab_F → Prop) (x1 : Int32) (x2 : Int32) (s0 : Int32) (I A : ab_F) : Prop := wX11_demandElement (fun I_7 A_8 => ((x2 = 0 → wjX11_frameTime_47 K KX x1 x2 I_7 A_8) ∧ (¬ x2 = 0 → ((¬ x2 = (nI 1) → wjX11_frameTime_52 K KX x1 x2 (nI 0) I_7 A_8) ∧ (x2 = (nI 1) → wjX11_frameTime_47 K KX x1 x2 I_7 A_8))))) KX I A s0
def wX11_frameTime (K : Int32 → ab_F → ab_F → Prop) (KX : String → ab_F → ab_F → Prop) (I A : ab_F) (p0 : Int32) (p1 : Int32) : Prop := wX2_hasFrame (fun r_3 I_1 A_2 => wX11_demandIndex (fun I_4 A_5 => (∃ j_6 : Nat, p0 = nI j_6 ∧ j_6 < 16 ∧ (((A_5 17 j_6) = (-1 : Int32) → wjX11_frameTime_35 K KX p0 p1 (nI 0) I_4 A_5) ∧ (¬ (A_5 17 j_6) = (-1 : Int32) → wjX11_frameTime_35 K KX p0 p1 (nI 1) I_4 A_5)))) KX I_1 A_2 r_3) I A p0
set_option maxRecDepth 20000 in
theorem tjX11_frameTime_52 {C : ab_X} {Z : ab_Z} {K : Int32 → ab_F → ab_F → Prop} {KX : String → ab_F → ab_F → Prop} (x1 : Int32) (x2 : Int32) (s0 : Int32) (I A : ab_F) (h : wjX11_frameTime_52 K KX x1 x2 s0 I A) : ab_G mX11_frameTime 8 C (ab_Px (shC Z) KX (ab_ri K)) 52 [some (.ref 0), some (.int x1), some (.int x2)] [.int s0] (shC Z) I A 1 6 := by
  unfold wjX11_frameTime_52 at h
  refine g_callS (n := 55) (as := [.int s0]) (bc' := 0) (bs' := 0) (ctX11_demandArgument h) okX11_demandArgument w_1436 w_1437 dX11_frameTime_52 rfl rfl (Nat.le_of_ble_eq_true rfl) (Nat.le_of_ble_eq_true rfl) (Nat.le_of_ble_eq_true rfl) (Nat.le_of_ble_eq_true rfl) rfl (fun E sh1 I1 A1 hp _ => hp) (fun ro sh_ I_9 A_10 hp hle => ?_)
  obtain ⟨rfl, rfl, h⟩ := hp
  refine g_iload_n (n := 56) dX11_frameTime_55 rfl rfl rfl ?_
  refine g_if_ne (n := 59) 74 dX11_frameTime_56 (by decide) rfl (fun hc => ?_) (fun hc => ?_)
  · have h := h.1 hc
    refine g_aload_n (n := 75) dX11_frameTime_74 rfl rfl rfl ?_
    refine g_getR (n := 78) (k := 0) dX11_frameTime_75 sC_0 vc_15 (Nat.le_of_ble_eq_true rfl) rfl w_535 rfl ?_
    refine g_getR (n := 81) (k := 1) dX11_frameTime_78 sC_8 vc_12 (Nat.le_of_ble_eq_true rfl) rfl w_402 rfl ?_
    refine g_getR (n := 84) (k := 4) dX11_frameTime_81 sC_16 vc_6 (Nat.le_of_ble_eq_true rfl) rfl w_291 rfl ?_
    refine g_iload_n (n := 85) dX11_frameTime_84 rfl rfl rfl ?_
    obtain ⟨j_11, hj, hl, h⟩ := h
    refine g_ialdJ (n := 86) (j := j_11) (x := (A_10 19 j_11)) dX11_frameTime_85 sC_19 hj hl (by decide) rfl rfl ?_
    exact g_iret rfl rfl dX11_frameTime_86 ⟨rfl, _, rfl, h⟩
  · have h := h.2 hc
    refine g_aload_n (n := 60) dX11_frameTime_59 rfl rfl rfl ?_
    refine g_getR (n := 63) (k := 0) dX11_frameTime_60 sC_0 vc_15 (Nat.le_of_ble_eq_true rfl) rfl w_535 rfl ?_
    refine g_getR (n := 66) (k := 1) dX11_frameTime_63 sC_8 vc_12 (Nat.le_of_ble_eq_true rfl) rfl w_402 rfl ?_
    refine g_getR (n := 69) (k := 3) dX11_frameTime_66 sC_16 vc_6 (Nat.le_of_ble_eq_true rfl) rfl w_288 rfl ?_
    refine g_iload_n (n := 70) dX11_frameTime_69 rfl rfl rfl ?_
    obtain ⟨j_12, hj, hl, h⟩ := h
    refine g_ialdJ (n := 71) (j := j_12) (x := (A_10 18 j_12)) dX11_frameTime_70 sC_18 hj hl (by decide) rfl rfl ?_
    refine g_goto 86 dX11_frameTime_71 (by decide) ?_
    exact g_iret rfl rfl dX11_frameTime_86 ⟨rfl, _, rfl, h⟩
set_option maxRecDepth 20000 in
theorem tjX11_frameTime_47 {C : ab_X} {Z : ab_Z} {K : Int32 → ab_F → ab_F → Prop} {KX : String → ab_F → ab_F → Prop} (x1 : Int32) (x2 : Int32) (I A : ab_F) (h : wjX11_frameTime_47 K KX x1 x2 I A) : ab_G mX11_frameTime 8 C (ab_Px (shC Z) KX (ab_ri K)) 47 [some (.ref 0), some (.int x1), some (.int x2)] [] (shC Z) I A 1 6 := by
  unfold wjX11_frameTime_47 at h
  refine g_iconst (n := 48) (v := (nI 1)) dX11_frameTime_47 rfl rfl ?_
  refine g_goto 52 dX11_frameTime_48 (by decide) ?_
  refine g_less (bc' := 1) (bs' := 6) (Nat.le_of_ble_eq_true rfl) (Nat.le_of_ble_eq_true rfl) ?_
  exact tjX11_frameTime_52  _ _ _ _ _ h
set_option maxRecDepth 20000 in
theorem tjX11_frameTime_35 {C : ab_X} {Z : ab_Z} {K : Int32 → ab_F → ab_F → Prop} {KX : String → ab_F → ab_F → Prop} (x1 : Int32) (x2 : Int32) (s0 : Int32) (I A : ab_F) (h : wjX11_frameTime_35 K KX x1 x2 s0 I A) : ab_G mX11_frameTime 8 C (ab_Px (shC Z) KX (ab_ri K)) 35 [some (.ref 0), some (.int x1), some (.int x2)] [.int s0] (shC Z) I A 2 12 := by
  unfold wjX11_frameTime_35 at h
  refine g_callS (n := 38) (as := [.int s0]) (bc' := 1) (bs' := 6) (ctX11_demandElement h) okX11_demandElement w_1656 w_1657 dX11_frameTime_35 rfl rfl (Nat.le_of_ble_eq_true rfl) (Nat.le_of_ble_eq_true rfl) (Nat.le_of_ble_eq_true rfl) (Nat.le_of_ble_eq_true rfl) rfl (fun E sh1 I1 A1 hp _ => hp) (fun ro sh_ I_7 A_8 hp hle => ?_)
  obtain ⟨rfl, rfl, h⟩ := hp
  refine g_iload_n (n := 39) dX11_frameTime_38 rfl rfl rfl ?_
  refine g_if_eq (n := 42) 47 dX11_frameTime_39 (by decide) rfl (fun hc => ?_) (fun hc => ?_)
  · have h := h.1 hc
    refine g_less (bc' := 1) (bs' := 6) (Nat.le_of_ble_eq_true rfl) (Nat.le_of_ble_eq_true rfl) ?_
    exact tjX11_frameTime_47  _ _ _ _ h
  · have h := h.2 hc
    refine g_iload_n (n := 43) dX11_frameTime_42 rfl rfl rfl ?_
    refine g_iconst (n := 44) (v := (nI 1)) dX11_frameTime_43 rfl rfl ?_
    refine g_icmp_ne (n := 47) 51 dX11_frameTime_44 (by decide) rfl (fun hc => ?_) (fun hc => ?_)
    · have h := h.1 hc
      refine g_iconst (n := 52) (v := (nI 0)) dX11_frameTime_51 rfl rfl ?_
      refine g_less (bc' := 1) (bs' := 6) (Nat.le_of_ble_eq_true rfl) (Nat.le_of_ble_eq_true rfl) ?_
      exact tjX11_frameTime_52  _ _ _ _ _ h
    · have h := h.2 hc
      refine g_less (bc' := 1) (bs' := 6) (Nat.le_of_ble_eq_true rfl) (Nat.le_of_ble_eq_true rfl) ?_
      exact tjX11_frameTime_47  _ _ _ _ h
set_option maxRecDepth 20000 in
theorem ctX11_frameTime {Z : ab_Z} {K : Int32 → ab_F → ab_F → Prop} {KX : String → ab_F → ab_F → Prop} {I A : ab_F} {p0 : Int32} {p1 : Int32} (h : wX11_frameTime K KX I A p0 p1) : ab_Cl mX11_frameTime 8 3 18 [.ref 0, .int p0, .int p1] (shC Z) I A (ab_Px (shC Z) KX (ab_ri K)) := by
  refine ab_enter (ls := [some (.ref 0), some (.int p0), some (.int p1)]) (by decide +kernel) (Nat.le_of_ble_eq_true rfl) rfl (fun C => ?_)
  unfold wX11_frameTime at h
  refine g_aload_n (n := 1) dX11_frameTime_0 rfl rfl rfl ?_
  refine g_getR (n := 4) (k := 0) dX11_frameTime_1 sC_0 vc_15 (Nat.le_of_ble_eq_true rfl) rfl w_535 rfl ?_
  refine g_getR (n := 7) (k := 1) dX11_frameTime_4 sC_8 vc_12 (Nat.le_of_ble_eq_true rfl) rfl w_402 rfl ?_
  refine g_iload_n (n := 8) dX11_frameTime_7 rfl rfl rfl ?_
  refine g_callV (n := 11) (as := [.int p0]) (bc' := 3) (bs' := 18) sC_16 vc_6 (ctX2_hasFrame h) okX2_hasFrame rfl w_1645 w_1646 w_1647 w_102 dX11_frameTime_8 rfl rfl (Nat.le_of_ble_eq_true rfl) (Nat.le_of_ble_eq_true rfl) (Nat.le_of_ble_eq_true rfl) (Nat.le_of_ble_eq_true rfl) rfl (fun E sh1 I1 A1 hp _ => hp.2.elim) (fun ro sh_ I_1 A_2 hp hle => ?_)
  obtain ⟨rfl, r_3, rfl, h⟩ := hp
  refine g_callS (n := 14) (as := [.int r_3]) (bc' := 2) (bs' := 12) (ctX11_demandIndex h) okX11_demandIndex w_1583 w_1584 dX11_frameTime_11 rfl rfl (Nat.le_of_ble_eq_true rfl) (Nat.le_of_ble_eq_true rfl) (Nat.le_of_ble_eq_true rfl) (Nat.le_of_ble_eq_true rfl) rfl (fun E sh1 I1 A1 hp _ => hp) (fun ro sh_ I_4 A_5 hp hle => ?_)
  obtain ⟨rfl, rfl, h⟩ := hp
  refine g_aload_n (n := 15) dX11_frameTime_14 rfl rfl rfl ?_
  refine g_getR (n := 18) (k := 0) dX11_frameTime_15 sC_0 vc_15 (Nat.le_of_ble_eq_true rfl) rfl w_535 rfl ?_
  refine g_getR (n := 21) (k := 1) dX11_frameTime_18 sC_8 vc_12 (Nat.le_of_ble_eq_true rfl) rfl w_402 rfl ?_
  refine g_getR (n := 24) (k := 2) dX11_frameTime_21 sC_16 vc_6 (Nat.le_of_ble_eq_true rfl) rfl w_285 rfl ?_
  refine g_iload_n (n := 25) dX11_frameTime_24 rfl rfl rfl ?_
  obtain ⟨j_6, hj, hl, h⟩ := h
  refine g_ialdJ (n := 26) (j := j_6) (x := (A_5 17 j_6)) dX11_frameTime_25 sC_17 hj hl (by decide) rfl rfl ?_
  refine g_iconst (n := 27) (v := (-1 : Int32)) dX11_frameTime_26 rfl rfl ?_
  refine g_icmp_eq (n := 30) 34 dX11_frameTime_27 (by decide) rfl (fun hc => ?_) (fun hc => ?_)
  · have h := h.1 hc
    refine g_iconst (n := 35) (v := (nI 0)) dX11_frameTime_34 rfl rfl ?_
    refine g_less (bc' := 2) (bs' := 12) (Nat.le_of_ble_eq_true rfl) (Nat.le_of_ble_eq_true rfl) ?_
    exact tjX11_frameTime_35  _ _ _ _ _ h
  · have h := h.2 hc
    refine g_iconst (n := 31) (v := (nI 1)) dX11_frameTime_30 rfl rfl ?_
    refine g_goto 35 dX11_frameTime_31 (by decide) ?_
    refine g_less (bc' := 2) (bs' := 12) (Nat.le_of_ble_eq_true rfl) (Nat.le_of_ble_eq_true rfl) ?_
    exact tjX11_frameTime_35  _ _ _ _ _ h
def wX11_victim (K : Int32 → ab_F → ab_F → Prop) (I A : ab_F)  : Prop := wX8_nextVictim (fun r_3 I_1 A_2 => K r_3 I_1 A_2) I A 
set_option maxRecDepth 20000 in
theorem ctX11_victim {Z : ab_Z} {K : Int32 → ab_F → ab_F → Prop} {I A : ab_F}  (h : wX11_victim K I A ) : ab_Cl mX11_victim 3 0 0 [.ref 0] (shC Z) I A (ab_Px (shC Z) ab_no (ab_ri K)) := by
  refine ab_enter (ls := [some (.ref 0)]) (by decide +kernel) (Nat.le_of_ble_eq_true rfl) rfl (fun C => ?_)
  unfold wX11_victim at h
  refine g_aload_n (n := 1) dX11_victim_0 rfl rfl rfl ?_
  refine g_getR (n := 4) (k := 0) dX11_victim_1 sC_0 vc_15 (Nat.le_of_ble_eq_true rfl) rfl w_535 rfl ?_
  refine g_callV (n := 7) (as := []) (bc' := 0) (bs' := 0) sC_8 vc_12 (ctX8_nextVictim h) okX8_nextVictim rfl w_994 w_823 w_824 w_100 dX11_victim_4 rfl rfl (Nat.le_of_ble_eq_true rfl) (Nat.le_of_ble_eq_true rfl) (Nat.le_of_ble_eq_true rfl) (Nat.le_of_ble_eq_true rfl) rfl (fun E sh1 I1 A1 hp _ => hp.2.elim) (fun ro sh_ I_1 A_2 hp hle => ?_)
  obtain ⟨rfl, r_3, rfl, h⟩ := hp
  exact g_iret rfl rfl dX11_victim_7 ⟨rfl, _, rfl, h⟩
def wX11_residentPages (K : Int32 → ab_F → ab_F → Prop) (KX : String → ab_F → ab_F → Prop) (I A : ab_F) (p0 : Int32) : Prop := wX4_hasProcess (fun r_3 I_1 A_2 => wX11_demandIndex (fun I_4 A_5 => wX4_residentSet (fun r_8 I_6 A_7 => K r_8 I_6 A_7) I_4 A_5 p0) KX I_1 A_2 r_3) I A p0
set_option maxRecDepth 20000 in
theorem ctX11_residentPages {Z : ab_Z} {K : Int32 → ab_F → ab_F → Prop} {KX : String → ab_F → ab_F → Prop} {I A : ab_F} {p0 : Int32} (h : wX11_residentPages K KX I A p0) : ab_Cl mX11_residentPages 8 1 6 [.ref 0, .int p0] (shC Z) I A (ab_Px (shC Z) KX (ab_ri K)) := by
  refine ab_enter (ls := [some (.ref 0), some (.int p0)]) (by decide +kernel) (Nat.le_of_ble_eq_true rfl) rfl (fun C => ?_)
  unfold wX11_residentPages at h
  refine g_aload_n (n := 1) dX11_residentPages_0 rfl rfl rfl ?_
  refine g_getR (n := 4) (k := 0) dX11_residentPages_1 sC_0 vc_15 (Nat.le_of_ble_eq_true rfl) rfl w_535 rfl ?_
  refine g_getR (n := 7) (k := 0) dX11_residentPages_4 sC_8 vc_12 (Nat.le_of_ble_eq_true rfl) rfl w_400 rfl ?_
  refine g_iload_n (n := 8) dX11_residentPages_7 rfl rfl rfl ?_
  refine g_callV (n := 11) (as := [.int p0]) (bc' := 1) (bs' := 6) sC_9 vc_8 (ctX4_hasProcess h) okX4_hasProcess rfl w_1582 w_815 w_816 w_101 dX11_residentPages_8 rfl rfl (Nat.le_of_ble_eq_true rfl) (Nat.le_of_ble_eq_true rfl) (Nat.le_of_ble_eq_true rfl) (Nat.le_of_ble_eq_true rfl) rfl (fun E sh1 I1 A1 hp _ => hp.2.elim) (fun ro sh_ I_1 A_2 hp hle => ?_)
  obtain ⟨rfl, r_3, rfl, h⟩ := hp
  refine g_callS (n := 14) (as := [.int r_3]) (bc' := 0) (bs' := 0) (ctX11_demandIndex h) okX11_demandIndex w_1583 w_1584 dX11_residentPages_11 rfl rfl (Nat.le_of_ble_eq_true rfl) (Nat.le_of_ble_eq_true rfl) (Nat.le_of_ble_eq_true rfl) (Nat.le_of_ble_eq_true rfl) rfl (fun E sh1 I1 A1 hp _ => hp) (fun ro sh_ I_4 A_5 hp hle => ?_)
  obtain ⟨rfl, rfl, h⟩ := hp
  refine g_aload_n (n := 15) dX11_residentPages_14 rfl rfl rfl ?_
  refine g_getR (n := 18) (k := 0) dX11_residentPages_15 sC_0 vc_15 (Nat.le_of_ble_eq_true rfl) rfl w_535 rfl ?_
  refine g_getR (n := 21) (k := 0) dX11_residentPages_18 sC_8 vc_12 (Nat.le_of_ble_eq_true rfl) rfl w_400 rfl ?_
  refine g_iload_n (n := 22) dX11_residentPages_21 rfl rfl rfl ?_
  refine g_callV (n := 25) (as := [.int p0]) (bc' := 0) (bs' := 0) sC_9 vc_8 (ctX4_residentSet h) okX4_residentSet rfl w_1666 w_1667 w_1668 w_101 dX11_residentPages_22 rfl rfl (Nat.le_of_ble_eq_true rfl) (Nat.le_of_ble_eq_true rfl) (Nat.le_of_ble_eq_true rfl) (Nat.le_of_ble_eq_true rfl) rfl (fun E sh1 I1 A1 hp _ => hp.2.elim) (fun ro sh_ I_6 A_7 hp hle => ?_)
  obtain ⟨rfl, r_8, rfl, h⟩ := hp
  exact g_iret rfl rfl dX11_residentPages_25 ⟨rfl, _, rfl, h⟩
def wX11_dirtyPages (K : Int32 → ab_F → ab_F → Prop) (KX : String → ab_F → ab_F → Prop) (I A : ab_F) (p0 : Int32) : Prop := wX4_hasProcess (fun r_3 I_1 A_2 => wX11_demandIndex (fun I_4 A_5 => (∃ j_6 : Nat, p0 = nI j_6 ∧ j_6 < 6 ∧ K (A_5 12 j_6) I_4 A_5)) KX I_1 A_2 r_3) I A p0
set_option maxRecDepth 20000 in
theorem ctX11_dirtyPages {Z : ab_Z} {K : Int32 → ab_F → ab_F → Prop} {KX : String → ab_F → ab_F → Prop} {I A : ab_F} {p0 : Int32} (h : wX11_dirtyPages K KX I A p0) : ab_Cl mX11_dirtyPages 8 1 6 [.ref 0, .int p0] (shC Z) I A (ab_Px (shC Z) KX (ab_ri K)) := by
  refine ab_enter (ls := [some (.ref 0), some (.int p0)]) (by decide +kernel) (Nat.le_of_ble_eq_true rfl) rfl (fun C => ?_)
  unfold wX11_dirtyPages at h
  refine g_aload_n (n := 1) dX11_dirtyPages_0 rfl rfl rfl ?_
  refine g_getR (n := 4) (k := 0) dX11_dirtyPages_1 sC_0 vc_15 (Nat.le_of_ble_eq_true rfl) rfl w_535 rfl ?_
  refine g_getR (n := 7) (k := 0) dX11_dirtyPages_4 sC_8 vc_12 (Nat.le_of_ble_eq_true rfl) rfl w_400 rfl ?_
  refine g_iload_n (n := 8) dX11_dirtyPages_7 rfl rfl rfl ?_
  refine g_callV (n := 11) (as := [.int p0]) (bc' := 1) (bs' := 6) sC_9 vc_8 (ctX4_hasProcess h) okX4_hasProcess rfl w_1582 w_815 w_816 w_101 dX11_dirtyPages_8 rfl rfl (Nat.le_of_ble_eq_true rfl) (Nat.le_of_ble_eq_true rfl) (Nat.le_of_ble_eq_true rfl) (Nat.le_of_ble_eq_true rfl) rfl (fun E sh1 I1 A1 hp _ => hp.2.elim) (fun ro sh_ I_1 A_2 hp hle => ?_)
  obtain ⟨rfl, r_3, rfl, h⟩ := hp
  refine g_callS (n := 14) (as := [.int r_3]) (bc' := 0) (bs' := 0) (ctX11_demandIndex h) okX11_demandIndex w_1583 w_1584 dX11_dirtyPages_11 rfl rfl (Nat.le_of_ble_eq_true rfl) (Nat.le_of_ble_eq_true rfl) (Nat.le_of_ble_eq_true rfl) (Nat.le_of_ble_eq_true rfl) rfl (fun E sh1 I1 A1 hp _ => hp) (fun ro sh_ I_4 A_5 hp hle => ?_)
  obtain ⟨rfl, rfl, h⟩ := hp
  refine g_aload_n (n := 15) dX11_dirtyPages_14 rfl rfl rfl ?_
  refine g_getR (n := 18) (k := 0) dX11_dirtyPages_15 sC_0 vc_15 (Nat.le_of_ble_eq_true rfl) rfl w_535 rfl ?_
  refine g_getR (n := 21) (k := 0) dX11_dirtyPages_18 sC_8 vc_12 (Nat.le_of_ble_eq_true rfl) rfl w_400 rfl ?_
  refine g_getR (n := 24) (k := 3) dX11_dirtyPages_21 sC_9 vc_8 (Nat.le_of_ble_eq_true rfl) rfl w_246 rfl ?_
  refine g_iload_n (n := 25) dX11_dirtyPages_24 rfl rfl rfl ?_
  obtain ⟨j_6, hj, hl, h⟩ := h
  refine g_ialdJ (n := 26) (j := j_6) (x := (A_5 12 j_6)) dX11_dirtyPages_25 sC_12 hj hl (by decide) rfl rfl ?_
  exact g_iret rfl rfl dX11_dirtyPages_26 ⟨rfl, _, rfl, h⟩
def wX11_slotUse (K : Int32 → ab_F → ab_F → Prop) (KX : String → ab_F → ab_F → Prop) (I A : ab_F) (p0 : Int32) : Prop := wX7_hasSlot (fun r_3 I_1 A_2 => wX11_demandIndex (fun I_4 A_5 => wX8_markUses (fun I_6 A_7 => (∃ j_8 : Nat, p0 = nI j_8 ∧ j_8 < 48 ∧ K (A_7 31 j_8) I_6 A_7)) I_4 A_5 ) KX I_1 A_2 r_3) I A p0
set_option maxRecDepth 20000 in
theorem ctX11_slotUse {Z : ab_Z} {K : Int32 → ab_F → ab_F → Prop} {KX : String → ab_F → ab_F → Prop} {I A : ab_F} {p0 : Int32} (h : wX11_slotUse K KX I A p0) : ab_Cl mX11_slotUse 8 1 6 [.ref 0, .int p0] (shC Z) I A (ab_Px (shC Z) KX (ab_ri K)) := by
  refine ab_enter (ls := [some (.ref 0), some (.int p0)]) (by decide +kernel) (Nat.le_of_ble_eq_true rfl) rfl (fun C => ?_)
  unfold wX11_slotUse at h
  refine g_aload_n (n := 1) dX11_slotUse_0 rfl rfl rfl ?_
  refine g_getR (n := 4) (k := 0) dX11_slotUse_1 sC_0 vc_15 (Nat.le_of_ble_eq_true rfl) rfl w_535 rfl ?_
  refine g_getR (n := 7) (k := 2) dX11_slotUse_4 sC_8 vc_12 (Nat.le_of_ble_eq_true rfl) rfl w_404 rfl ?_
  refine g_iload_n (n := 8) dX11_slotUse_7 rfl rfl rfl ?_
  refine g_callV (n := 11) (as := [.int p0]) (bc' := 1) (bs' := 6) sC_20 vc_11 (ctX7_hasSlot h) okX7_hasSlot rfl w_1685 w_1686 w_1687 w_103 dX11_slotUse_8 rfl rfl (Nat.le_of_ble_eq_true rfl) (Nat.le_of_ble_eq_true rfl) (Nat.le_of_ble_eq_true rfl) (Nat.le_of_ble_eq_true rfl) rfl (fun E sh1 I1 A1 hp _ => hp.2.elim) (fun ro sh_ I_1 A_2 hp hle => ?_)
  obtain ⟨rfl, r_3, rfl, h⟩ := hp
  refine g_callS (n := 14) (as := [.int r_3]) (bc' := 0) (bs' := 0) (ctX11_demandIndex h) okX11_demandIndex w_1583 w_1584 dX11_slotUse_11 rfl rfl (Nat.le_of_ble_eq_true rfl) (Nat.le_of_ble_eq_true rfl) (Nat.le_of_ble_eq_true rfl) (Nat.le_of_ble_eq_true rfl) rfl (fun E sh1 I1 A1 hp _ => hp) (fun ro sh_ I_4 A_5 hp hle => ?_)
  obtain ⟨rfl, rfl, h⟩ := hp
  refine g_aload_n (n := 15) dX11_slotUse_14 rfl rfl rfl ?_
  refine g_getR (n := 18) (k := 0) dX11_slotUse_15 sC_0 vc_15 (Nat.le_of_ble_eq_true rfl) rfl w_535 rfl ?_
  refine g_callV (n := 21) (as := []) (bc' := 0) (bs' := 0) sC_8 vc_12 (ctX8_markUses h) okX8_markUses rfl w_1689 w_843 w_844 w_100 dX11_slotUse_18 rfl rfl (Nat.le_of_ble_eq_true rfl) (Nat.le_of_ble_eq_true rfl) (Nat.le_of_ble_eq_true rfl) (Nat.le_of_ble_eq_true rfl) rfl (fun E sh1 I1 A1 hp _ => hp.2.elim) (fun ro sh_ I_6 A_7 hp hle => ?_)
  obtain ⟨rfl, rfl, h⟩ := hp
  refine g_iload_n (n := 22) dX11_slotUse_21 rfl rfl rfl ?_
  obtain ⟨j_8, hj, hl, h⟩ := h
  refine g_ialdJ (n := 23) (j := j_8) (x := (A_7 31 j_8)) dX11_slotUse_22 sC_31 hj hl (by decide) rfl rfl ?_
  exact g_iret rfl rfl dX11_slotUse_23 ⟨rfl, _, rfl, h⟩
def wX11_slotOwner (K : Int32 → ab_F → ab_F → Prop) (KX : String → ab_F → ab_F → Prop) (I A : ab_F) (p0 : Int32) : Prop := wX7_hasSlot (fun r_3 I_1 A_2 => wX11_demandIndex (fun I_4 A_5 => (∃ j_6 : Nat, p0 = nI j_6 ∧ j_6 < 48 ∧ K (A_5 22 j_6) I_4 A_5)) KX I_1 A_2 r_3) I A p0
set_option maxRecDepth 20000 in
theorem ctX11_slotOwner {Z : ab_Z} {K : Int32 → ab_F → ab_F → Prop} {KX : String → ab_F → ab_F → Prop} {I A : ab_F} {p0 : Int32} (h : wX11_slotOwner K KX I A p0) : ab_Cl mX11_slotOwner 8 1 6 [.ref 0, .int p0] (shC Z) I A (ab_Px (shC Z) KX (ab_ri K)) := by
  refine ab_enter (ls := [some (.ref 0), some (.int p0)]) (by decide +kernel) (Nat.le_of_ble_eq_true rfl) rfl (fun C => ?_)
  unfold wX11_slotOwner at h
  refine g_aload_n (n := 1) dX11_slotOwner_0 rfl rfl rfl ?_
  refine g_getR (n := 4) (k := 0) dX11_slotOwner_1 sC_0 vc_15 (Nat.le_of_ble_eq_true rfl) rfl w_535 rfl ?_
  refine g_getR (n := 7) (k := 2) dX11_slotOwner_4 sC_8 vc_12 (Nat.le_of_ble_eq_true rfl) rfl w_404 rfl ?_
  refine g_iload_n (n := 8) dX11_slotOwner_7 rfl rfl rfl ?_
  refine g_callV (n := 11) (as := [.int p0]) (bc' := 1) (bs' := 6) sC_20 vc_11 (ctX7_hasSlot h) okX7_hasSlot rfl w_1685 w_1686 w_1687 w_103 dX11_slotOwner_8 rfl rfl (Nat.le_of_ble_eq_true rfl) (Nat.le_of_ble_eq_true rfl) (Nat.le_of_ble_eq_true rfl) (Nat.le_of_ble_eq_true rfl) rfl (fun E sh1 I1 A1 hp _ => hp.2.elim) (fun ro sh_ I_1 A_2 hp hle => ?_)
  obtain ⟨rfl, r_3, rfl, h⟩ := hp
  refine g_callS (n := 14) (as := [.int r_3]) (bc' := 0) (bs' := 0) (ctX11_demandIndex h) okX11_demandIndex w_1583 w_1584 dX11_slotOwner_11 rfl rfl (Nat.le_of_ble_eq_true rfl) (Nat.le_of_ble_eq_true rfl) (Nat.le_of_ble_eq_true rfl) (Nat.le_of_ble_eq_true rfl) rfl (fun E sh1 I1 A1 hp _ => hp) (fun ro sh_ I_4 A_5 hp hle => ?_)
  obtain ⟨rfl, rfl, h⟩ := hp
  refine g_aload_n (n := 15) dX11_slotOwner_14 rfl rfl rfl ?_
  refine g_getR (n := 18) (k := 0) dX11_slotOwner_15 sC_0 vc_15 (Nat.le_of_ble_eq_true rfl) rfl w_535 rfl ?_
  refine g_getR (n := 21) (k := 2) dX11_slotOwner_18 sC_8 vc_12 (Nat.le_of_ble_eq_true rfl) rfl w_404 rfl ?_
  refine g_getR (n := 24) (k := 3) dX11_slotOwner_21 sC_20 vc_11 (Nat.le_of_ble_eq_true rfl) rfl w_318 rfl ?_
  refine g_iload_n (n := 25) dX11_slotOwner_24 rfl rfl rfl ?_
  obtain ⟨j_6, hj, hl, h⟩ := h
  refine g_ialdJ (n := 26) (j := j_6) (x := (A_5 22 j_6)) dX11_slotOwner_25 sC_22 hj hl (by decide) rfl rfl ?_
  exact g_iret rfl rfl dX11_slotOwner_26 ⟨rfl, _, rfl, h⟩
def wX11_slotStamp (K : Int32 → ab_F → ab_F → Prop) (KX : String → ab_F → ab_F → Prop) (I A : ab_F) (p0 : Int32) : Prop := wX7_hasSlot (fun r_3 I_1 A_2 => wX11_demandIndex (fun I_4 A_5 => (∃ j_6 : Nat, p0 = nI j_6 ∧ j_6 < 48 ∧ K (A_5 23 j_6) I_4 A_5)) KX I_1 A_2 r_3) I A p0
set_option maxRecDepth 20000 in
theorem ctX11_slotStamp {Z : ab_Z} {K : Int32 → ab_F → ab_F → Prop} {KX : String → ab_F → ab_F → Prop} {I A : ab_F} {p0 : Int32} (h : wX11_slotStamp K KX I A p0) : ab_Cl mX11_slotStamp 8 1 6 [.ref 0, .int p0] (shC Z) I A (ab_Px (shC Z) KX (ab_ri K)) := by
  refine ab_enter (ls := [some (.ref 0), some (.int p0)]) (by decide +kernel) (Nat.le_of_ble_eq_true rfl) rfl (fun C => ?_)
  unfold wX11_slotStamp at h
  refine g_aload_n (n := 1) dX11_slotStamp_0 rfl rfl rfl ?_
  refine g_getR (n := 4) (k := 0) dX11_slotStamp_1 sC_0 vc_15 (Nat.le_of_ble_eq_true rfl) rfl w_535 rfl ?_
  refine g_getR (n := 7) (k := 2) dX11_slotStamp_4 sC_8 vc_12 (Nat.le_of_ble_eq_true rfl) rfl w_404 rfl ?_
  refine g_iload_n (n := 8) dX11_slotStamp_7 rfl rfl rfl ?_
  refine g_callV (n := 11) (as := [.int p0]) (bc' := 1) (bs' := 6) sC_20 vc_11 (ctX7_hasSlot h) okX7_hasSlot rfl w_1685 w_1686 w_1687 w_103 dX11_slotStamp_8 rfl rfl (Nat.le_of_ble_eq_true rfl) (Nat.le_of_ble_eq_true rfl) (Nat.le_of_ble_eq_true rfl) (Nat.le_of_ble_eq_true rfl) rfl (fun E sh1 I1 A1 hp _ => hp.2.elim) (fun ro sh_ I_1 A_2 hp hle => ?_)
  obtain ⟨rfl, r_3, rfl, h⟩ := hp
  refine g_callS (n := 14) (as := [.int r_3]) (bc' := 0) (bs' := 0) (ctX11_demandIndex h) okX11_demandIndex w_1583 w_1584 dX11_slotStamp_11 rfl rfl (Nat.le_of_ble_eq_true rfl) (Nat.le_of_ble_eq_true rfl) (Nat.le_of_ble_eq_true rfl) (Nat.le_of_ble_eq_true rfl) rfl (fun E sh1 I1 A1 hp _ => hp) (fun ro sh_ I_4 A_5 hp hle => ?_)
  obtain ⟨rfl, rfl, h⟩ := hp
  refine g_aload_n (n := 15) dX11_slotStamp_14 rfl rfl rfl ?_
  refine g_getR (n := 18) (k := 0) dX11_slotStamp_15 sC_0 vc_15 (Nat.le_of_ble_eq_true rfl) rfl w_535 rfl ?_
  refine g_getR (n := 21) (k := 2) dX11_slotStamp_18 sC_8 vc_12 (Nat.le_of_ble_eq_true rfl) rfl w_404 rfl ?_
  refine g_getR (n := 24) (k := 4) dX11_slotStamp_21 sC_20 vc_11 (Nat.le_of_ble_eq_true rfl) rfl w_321 rfl ?_
  refine g_iload_n (n := 25) dX11_slotStamp_24 rfl rfl rfl ?_
  obtain ⟨j_6, hj, hl, h⟩ := h
  refine g_ialdJ (n := 26) (j := j_6) (x := (A_5 23 j_6)) dX11_slotStamp_25 sC_23 hj hl (by decide) rfl rfl ?_
  exact g_iret rfl rfl dX11_slotStamp_26 ⟨rfl, _, rfl, h⟩
def wX11_slotValue (K : Int32 → ab_F → ab_F → Prop) (KX : String → ab_F → ab_F → Prop) (I A : ab_F) (p0 : Int32) : Prop := wX7_hasSlot (fun r_3 I_1 A_2 => wX11_demandIndex (fun I_4 A_5 => (∃ j_6 : Nat, p0 = nI j_6 ∧ j_6 < 48 ∧ K (A_5 21 j_6) I_4 A_5)) KX I_1 A_2 r_3) I A p0
set_option maxRecDepth 20000 in
theorem ctX11_slotValue {Z : ab_Z} {K : Int32 → ab_F → ab_F → Prop} {KX : String → ab_F → ab_F → Prop} {I A : ab_F} {p0 : Int32} (h : wX11_slotValue K KX I A p0) : ab_Cl mX11_slotValue 8 1 6 [.ref 0, .int p0] (shC Z) I A (ab_Px (shC Z) KX (ab_ri K)) := by
  refine ab_enter (ls := [some (.ref 0), some (.int p0)]) (by decide +kernel) (Nat.le_of_ble_eq_true rfl) rfl (fun C => ?_)
  unfold wX11_slotValue at h
  refine g_aload_n (n := 1) dX11_slotValue_0 rfl rfl rfl ?_
  refine g_getR (n := 4) (k := 0) dX11_slotValue_1 sC_0 vc_15 (Nat.le_of_ble_eq_true rfl) rfl w_535 rfl ?_
  refine g_getR (n := 7) (k := 2) dX11_slotValue_4 sC_8 vc_12 (Nat.le_of_ble_eq_true rfl) rfl w_404 rfl ?_
  refine g_iload_n (n := 8) dX11_slotValue_7 rfl rfl rfl ?_
  refine g_callV (n := 11) (as := [.int p0]) (bc' := 1) (bs' := 6) sC_20 vc_11 (ctX7_hasSlot h) okX7_hasSlot rfl w_1685 w_1686 w_1687 w_103 dX11_slotValue_8 rfl rfl (Nat.le_of_ble_eq_true rfl) (Nat.le_of_ble_eq_true rfl) (Nat.le_of_ble_eq_true rfl) (Nat.le_of_ble_eq_true rfl) rfl (fun E sh1 I1 A1 hp _ => hp.2.elim) (fun ro sh_ I_1 A_2 hp hle => ?_)
  obtain ⟨rfl, r_3, rfl, h⟩ := hp
  refine g_callS (n := 14) (as := [.int r_3]) (bc' := 0) (bs' := 0) (ctX11_demandIndex h) okX11_demandIndex w_1583 w_1584 dX11_slotValue_11 rfl rfl (Nat.le_of_ble_eq_true rfl) (Nat.le_of_ble_eq_true rfl) (Nat.le_of_ble_eq_true rfl) (Nat.le_of_ble_eq_true rfl) rfl (fun E sh1 I1 A1 hp _ => hp) (fun ro sh_ I_4 A_5 hp hle => ?_)
  obtain ⟨rfl, rfl, h⟩ := hp
  refine g_aload_n (n := 15) dX11_slotValue_14 rfl rfl rfl ?_
  refine g_getR (n := 18) (k := 0) dX11_slotValue_15 sC_0 vc_15 (Nat.le_of_ble_eq_true rfl) rfl w_535 rfl ?_
  refine g_getR (n := 21) (k := 2) dX11_slotValue_18 sC_8 vc_12 (Nat.le_of_ble_eq_true rfl) rfl w_404 rfl ?_
  refine g_getR (n := 24) (k := 2) dX11_slotValue_21 sC_20 vc_11 (Nat.le_of_ble_eq_true rfl) rfl w_316 rfl ?_
  refine g_iload_n (n := 25) dX11_slotValue_24 rfl rfl rfl ?_
  obtain ⟨j_6, hj, hl, h⟩ := h
  refine g_ialdJ (n := 26) (j := j_6) (x := (A_5 21 j_6)) dX11_slotValue_25 sC_21 hj hl (by decide) rfl rfl ?_
  exact g_iret rfl rfl dX11_slotValue_26 ⟨rfl, _, rfl, h⟩
def wX11_nextSlot (K : Int32 → ab_F → ab_F → Prop) (I A : ab_F)  : Prop := wX8_nextFree (fun r_3 I_1 A_2 => K r_3 I_1 A_2) I A 
set_option maxRecDepth 20000 in
theorem ctX11_nextSlot {Z : ab_Z} {K : Int32 → ab_F → ab_F → Prop} {I A : ab_F}  (h : wX11_nextSlot K I A ) : ab_Cl mX11_nextSlot 2 0 0 [.ref 0] (shC Z) I A (ab_Px (shC Z) ab_no (ab_ri K)) := by
  refine ab_enter (ls := [some (.ref 0)]) (by decide +kernel) (Nat.le_of_ble_eq_true rfl) rfl (fun C => ?_)
  unfold wX11_nextSlot at h
  refine g_aload_n (n := 1) dX11_nextSlot_0 rfl rfl rfl ?_
  refine g_getR (n := 4) (k := 0) dX11_nextSlot_1 sC_0 vc_15 (Nat.le_of_ble_eq_true rfl) rfl w_535 rfl ?_
  refine g_callV (n := 7) (as := []) (bc' := 0) (bs' := 0) sC_8 vc_12 (ctX8_nextFree h) okX8_nextFree rfl w_999 w_839 w_840 w_100 dX11_nextSlot_4 rfl rfl (Nat.le_of_ble_eq_true rfl) (Nat.le_of_ble_eq_true rfl) (Nat.le_of_ble_eq_true rfl) (Nat.le_of_ble_eq_true rfl) rfl (fun E sh1 I1 A1 hp _ => hp.2.elim) (fun ro sh_ I_1 A_2 hp hle => ?_)
  obtain ⟨rfl, r_3, rfl, h⟩ := hp
  exact g_iret rfl rfl dX11_nextSlot_7 ⟨rfl, _, rfl, h⟩
def wX11_freeSlots (K : Int32 → ab_F → ab_F → Prop) (I A : ab_F)  : Prop := wX8_countFree (fun r_3 I_1 A_2 => K r_3 I_1 A_2) I A 
set_option maxRecDepth 20000 in
theorem ctX11_freeSlots {Z : ab_Z} {K : Int32 → ab_F → ab_F → Prop} {I A : ab_F}  (h : wX11_freeSlots K I A ) : ab_Cl mX11_freeSlots 2 0 0 [.ref 0] (shC Z) I A (ab_Px (shC Z) ab_no (ab_ri K)) := by
  refine ab_enter (ls := [some (.ref 0)]) (by decide +kernel) (Nat.le_of_ble_eq_true rfl) rfl (fun C => ?_)
  unfold wX11_freeSlots at h
  refine g_aload_n (n := 1) dX11_freeSlots_0 rfl rfl rfl ?_
  refine g_getR (n := 4) (k := 0) dX11_freeSlots_1 sC_0 vc_15 (Nat.le_of_ble_eq_true rfl) rfl w_535 rfl ?_
  refine g_callV (n := 7) (as := []) (bc' := 0) (bs' := 0) sC_8 vc_12 (ctX8_countFree h) okX8_countFree rfl w_1004 w_967 w_968 w_100 dX11_freeSlots_4 rfl rfl (Nat.le_of_ble_eq_true rfl) (Nat.le_of_ble_eq_true rfl) (Nat.le_of_ble_eq_true rfl) (Nat.le_of_ble_eq_true rfl) rfl (fun E sh1 I1 A1 hp _ => hp.2.elim) (fun ro sh_ I_1 A_2 hp hle => ?_)
  obtain ⟨rfl, r_3, rfl, h⟩ := hp
  exact g_iret rfl rfl dX11_freeSlots_7 ⟨rfl, _, rfl, h⟩
def wX11_sharedSlots (K : Int32 → ab_F → ab_F → Prop) (I A : ab_F)  : Prop := wX8_countShared (fun r_3 I_1 A_2 => K r_3 I_1 A_2) I A 
set_option maxRecDepth 20000 in
theorem ctX11_sharedSlots {Z : ab_Z} {K : Int32 → ab_F → ab_F → Prop} {I A : ab_F}  (h : wX11_sharedSlots K I A ) : ab_Cl mX11_sharedSlots 2 0 0 [.ref 0] (shC Z) I A (ab_Px (shC Z) ab_no (ab_ri K)) := by
  refine ab_enter (ls := [some (.ref 0)]) (by decide +kernel) (Nat.le_of_ble_eq_true rfl) rfl (fun C => ?_)
  unfold wX11_sharedSlots at h
  refine g_aload_n (n := 1) dX11_sharedSlots_0 rfl rfl rfl ?_
  refine g_getR (n := 4) (k := 0) dX11_sharedSlots_1 sC_0 vc_15 (Nat.le_of_ble_eq_true rfl) rfl w_535 rfl ?_
  refine g_callV (n := 7) (as := []) (bc' := 0) (bs' := 0) sC_8 vc_12 (ctX8_countShared h) okX8_countShared rfl w_1009 w_1010 w_1011 w_100 dX11_sharedSlots_4 rfl rfl (Nat.le_of_ble_eq_true rfl) (Nat.le_of_ble_eq_true rfl) (Nat.le_of_ble_eq_true rfl) (Nat.le_of_ble_eq_true rfl) rfl (fun E sh1 I1 A1 hp _ => hp.2.elim) (fun ro sh_ I_1 A_2 hp hle => ?_)
  obtain ⟨rfl, r_3, rfl, h⟩ := hp
  exact g_iret rfl rfl dX11_sharedSlots_7 ⟨rfl, _, rfl, h⟩
def wX11_longestRun (K : Int32 → ab_F → ab_F → Prop) (I A : ab_F)  : Prop := wX8_longestFreeRun (fun r_3 I_1 A_2 => K r_3 I_1 A_2) I A 
set_option maxRecDepth 20000 in
theorem ctX11_longestRun {Z : ab_Z} {K : Int32 → ab_F → ab_F → Prop} {I A : ab_F}  (h : wX11_longestRun K I A ) : ab_Cl mX11_longestRun 2 0 0 [.ref 0] (shC Z) I A (ab_Px (shC Z) ab_no (ab_ri K)) := by
  refine ab_enter (ls := [some (.ref 0)]) (by decide +kernel) (Nat.le_of_ble_eq_true rfl) rfl (fun C => ?_)
  unfold wX11_longestRun at h
  refine g_aload_n (n := 1) dX11_longestRun_0 rfl rfl rfl ?_
  refine g_getR (n := 4) (k := 0) dX11_longestRun_1 sC_0 vc_15 (Nat.le_of_ble_eq_true rfl) rfl w_535 rfl ?_
  refine g_callV (n := 7) (as := []) (bc' := 0) (bs' := 0) sC_8 vc_12 (ctX8_longestFreeRun h) okX8_longestFreeRun rfl w_1023 w_1024 w_1025 w_100 dX11_longestRun_4 rfl rfl (Nat.le_of_ble_eq_true rfl) (Nat.le_of_ble_eq_true rfl) (Nat.le_of_ble_eq_true rfl) (Nat.le_of_ble_eq_true rfl) rfl (fun E sh1 I1 A1 hp _ => hp.2.elim) (fun ro sh_ I_1 A_2 hp hle => ?_)
  obtain ⟨rfl, r_3, rfl, h⟩ := hp
  exact g_iret rfl rfl dX11_longestRun_7 ⟨rfl, _, rfl, h⟩
def wjX11_freeSlot_20 (K : Int32 → ab_F → ab_F → Prop) (KX : String → ab_F → ab_F → Prop) (x1 : Int32) (s0 : Int32) (I A : ab_F) : Prop := wX11_demandIndex (fun I_1 A_2 => wX8_freeAt (fun r_5 I_3 A_4 => K r_5 I_3 A_4) I_1 A_2 x1) KX I A s0
def wjX11_freeSlot_19 (K : Int32 → ab_F → ab_F → Prop) (KX : String → ab_F → ab_F → Prop) (x1 : Int32) (I A : ab_F) : Prop := wjX11_freeSlot_20 K KX x1 (nI 0) I A
def wX11_freeSlot (K : Int32 → ab_F → ab_F → Prop) (KX : String → ab_F → ab_F → Prop) (I A : ab_F) (p0 : Int32) : Prop := ((p0 < 0 → wjX11_freeSlot_19 K KX p0 I A) ∧ (¬ p0 < 0 → wX8_countFree (fun r_8 I_6 A_7 => ((r_8 ≤ p0 → wjX11_freeSlot_19 K KX p0 I_6 A_7) ∧ (¬ r_8 ≤ p0 → wjX11_freeSlot_20 K KX p0 (nI 1) I_6 A_7))) I A ))
set_option maxRecDepth 20000 in
theorem tjX11_freeSlot_20 {C : ab_X} {Z : ab_Z} {K : Int32 → ab_F → ab_F → Prop} {KX : String → ab_F → ab_F → Prop} (x1 : Int32) (s0 : Int32) (I A : ab_F) (h : wjX11_freeSlot_20 K KX x1 s0 I A) : ab_G mX11_freeSlot 8 C (ab_Px (shC Z) KX (ab_ri K)) 20 [some (.ref 0), some (.int x1)] [.int s0] (shC Z) I A 1 6 := by
  unfold wjX11_freeSlot_20 at h
  refine g_callS (n := 23) (as := [.int s0]) (bc' := 0) (bs' := 0) (ctX11_demandIndex h) okX11_demandIndex w_1583 w_1584 dX11_freeSlot_20 rfl rfl (Nat.le_of_ble_eq_true rfl) (Nat.le_of_ble_eq_true rfl) (Nat.le_of_ble_eq_true rfl) (Nat.le_of_ble_eq_true rfl) rfl (fun E sh1 I1 A1 hp _ => hp) (fun ro sh_ I_1 A_2 hp hle => ?_)
  obtain ⟨rfl, rfl, h⟩ := hp
  refine g_aload_n (n := 24) dX11_freeSlot_23 rfl rfl rfl ?_
  refine g_getR (n := 27) (k := 0) dX11_freeSlot_24 sC_0 vc_15 (Nat.le_of_ble_eq_true rfl) rfl w_535 rfl ?_
  refine g_iload_n (n := 28) dX11_freeSlot_27 rfl rfl rfl ?_
  refine g_callV (n := 31) (as := [.int x1]) (bc' := 0) (bs' := 0) sC_8 vc_12 (ctX8_freeAt h) okX8_freeAt rfl w_1718 w_1719 w_1720 w_100 dX11_freeSlot_28 rfl rfl (Nat.le_of_ble_eq_true rfl) (Nat.le_of_ble_eq_true rfl) (Nat.le_of_ble_eq_true rfl) (Nat.le_of_ble_eq_true rfl) rfl (fun E sh1 I1 A1 hp _ => hp.2.elim) (fun ro sh_ I_3 A_4 hp hle => ?_)
  obtain ⟨rfl, r_5, rfl, h⟩ := hp
  exact g_iret rfl rfl dX11_freeSlot_31 ⟨rfl, _, rfl, h⟩
set_option maxRecDepth 20000 in
theorem tjX11_freeSlot_19 {C : ab_X} {Z : ab_Z} {K : Int32 → ab_F → ab_F → Prop} {KX : String → ab_F → ab_F → Prop} (x1 : Int32) (I A : ab_F) (h : wjX11_freeSlot_19 K KX x1 I A) : ab_G mX11_freeSlot 8 C (ab_Px (shC Z) KX (ab_ri K)) 19 [some (.ref 0), some (.int x1)] [] (shC Z) I A 1 6 := by
  unfold wjX11_freeSlot_19 at h
  refine g_iconst (n := 20) (v := (nI 0)) dX11_freeSlot_19 rfl rfl ?_
  refine g_less (bc' := 1) (bs' := 6) (Nat.le_of_ble_eq_true rfl) (Nat.le_of_ble_eq_true rfl) ?_
  exact tjX11_freeSlot_20  _ _ _ _ h
set_option maxRecDepth 20000 in
theorem ctX11_freeSlot {Z : ab_Z} {K : Int32 → ab_F → ab_F → Prop} {KX : String → ab_F → ab_F → Prop} {I A : ab_F} {p0 : Int32} (h : wX11_freeSlot K KX I A p0) : ab_Cl mX11_freeSlot 8 1 6 [.ref 0, .int p0] (shC Z) I A (ab_Px (shC Z) KX (ab_ri K)) := by
  refine ab_enter (ls := [some (.ref 0), some (.int p0)]) (by decide +kernel) (Nat.le_of_ble_eq_true rfl) rfl (fun C => ?_)
  unfold wX11_freeSlot at h
  refine g_iload_n (n := 1) dX11_freeSlot_0 rfl rfl rfl ?_
  refine g_if_lt (n := 4) 19 dX11_freeSlot_1 (by decide) rfl (fun hc => ?_) (fun hc => ?_)
  · have h := h.1 hc
    refine g_less (bc' := 1) (bs' := 6) (Nat.le_of_ble_eq_true rfl) (Nat.le_of_ble_eq_true rfl) ?_
    exact tjX11_freeSlot_19  _ _ _ h
  · have h := h.2 hc
    refine g_iload_n (n := 5) dX11_freeSlot_4 rfl rfl rfl ?_
    refine g_aload_n (n := 6) dX11_freeSlot_5 rfl rfl rfl ?_
    refine g_getR (n := 9) (k := 0) dX11_freeSlot_6 sC_0 vc_15 (Nat.le_of_ble_eq_true rfl) rfl w_535 rfl ?_
    refine g_callV (n := 12) (as := []) (bc' := 1) (bs' := 6) sC_8 vc_12 (ctX8_countFree h) okX8_countFree rfl w_1004 w_967 w_968 w_100 dX11_freeSlot_9 rfl rfl (Nat.le_of_ble_eq_true rfl) (Nat.le_of_ble_eq_true rfl) (Nat.le_of_ble_eq_true rfl) (Nat.le_of_ble_eq_true rfl) rfl (fun E sh1 I1 A1 hp _ => hp.2.elim) (fun ro sh_ I_6 A_7 hp hle => ?_)
    obtain ⟨rfl, r_8, rfl, h⟩ := hp
    refine g_icmp_ge (n := 15) 19 dX11_freeSlot_12 (by decide) rfl (fun hc => ?_) (fun hc => ?_)
    · have h := h.1 hc
      refine g_less (bc' := 1) (bs' := 6) (Nat.le_of_ble_eq_true rfl) (Nat.le_of_ble_eq_true rfl) ?_
      exact tjX11_freeSlot_19  _ _ _ h
    · have h := h.2 hc
      refine g_iconst (n := 16) (v := (nI 1)) dX11_freeSlot_15 rfl rfl ?_
      refine g_goto 20 dX11_freeSlot_16 (by decide) ?_
      refine g_less (bc' := 1) (bs' := 6) (Nat.le_of_ble_eq_true rfl) (Nat.le_of_ble_eq_true rfl) ?_
      exact tjX11_freeSlot_20  _ _ _ _ h
def wjX11_twins_31 (K : Int32 → ab_F → ab_F → Prop) (KX : String → ab_F → ab_F → Prop) (x1 : Int32) (s0 : Int32) (I A : ab_F) : Prop := wX11_demandElement (fun I_9 A_10 => wX8_countTwins (fun r_13 I_11 A_12 => K r_13 I_11 A_12) I_9 A_10 x1) KX I A s0
def wX11_twins (K : Int32 → ab_F → ab_F → Prop) (KX : String → ab_F → ab_F → Prop) (I A : ab_F) (p0 : Int32) : Prop := wX7_hasSlot (fun r_3 I_1 A_2 => wX11_demandIndex (fun I_4 A_5 => wX8_markUses (fun I_6 A_7 => (∃ j_8 : Nat, p0 = nI j_8 ∧ j_8 < 48 ∧ (((A_7 31 j_8) = 0 → wjX11_twins_31 K KX p0 (nI 0) I_6 A_7) ∧ (¬ (A_7 31 j_8) = 0 → wjX11_twins_31 K KX p0 (nI 1) I_6 A_7)))) I_4 A_5 ) KX I_1 A_2 r_3) I A p0
set_option maxRecDepth 20000 in
theorem tjX11_twins_31 {C : ab_X} {Z : ab_Z} {K : Int32 → ab_F → ab_F → Prop} {KX : String → ab_F → ab_F → Prop} (x1 : Int32) (s0 : Int32) (I A : ab_F) (h : wjX11_twins_31 K KX x1 s0 I A) : ab_G mX11_twins 8 C (ab_Px (shC Z) KX (ab_ri K)) 31 [some (.ref 0), some (.int x1)] [.int s0] (shC Z) I A 1 6 := by
  unfold wjX11_twins_31 at h
  refine g_callS (n := 34) (as := [.int s0]) (bc' := 0) (bs' := 0) (ctX11_demandElement h) okX11_demandElement w_1656 w_1657 dX11_twins_31 rfl rfl (Nat.le_of_ble_eq_true rfl) (Nat.le_of_ble_eq_true rfl) (Nat.le_of_ble_eq_true rfl) (Nat.le_of_ble_eq_true rfl) rfl (fun E sh1 I1 A1 hp _ => hp) (fun ro sh_ I_9 A_10 hp hle => ?_)
  obtain ⟨rfl, rfl, h⟩ := hp
  refine g_aload_n (n := 35) dX11_twins_34 rfl rfl rfl ?_
  refine g_getR (n := 38) (k := 0) dX11_twins_35 sC_0 vc_15 (Nat.le_of_ble_eq_true rfl) rfl w_535 rfl ?_
  refine g_iload_n (n := 39) dX11_twins_38 rfl rfl rfl ?_
  refine g_callV (n := 42) (as := [.int x1]) (bc' := 0) (bs' := 0) sC_8 vc_12 (ctX8_countTwins h) okX8_countTwins rfl w_1729 w_1730 w_1731 w_100 dX11_twins_39 rfl rfl (Nat.le_of_ble_eq_true rfl) (Nat.le_of_ble_eq_true rfl) (Nat.le_of_ble_eq_true rfl) (Nat.le_of_ble_eq_true rfl) rfl (fun E sh1 I1 A1 hp _ => hp.2.elim) (fun ro sh_ I_11 A_12 hp hle => ?_)
  obtain ⟨rfl, r_13, rfl, h⟩ := hp
  exact g_iret rfl rfl dX11_twins_42 ⟨rfl, _, rfl, h⟩
set_option maxRecDepth 20000 in
theorem ctX11_twins {Z : ab_Z} {K : Int32 → ab_F → ab_F → Prop} {KX : String → ab_F → ab_F → Prop} {I A : ab_F} {p0 : Int32} (h : wX11_twins K KX I A p0) : ab_Cl mX11_twins 8 2 12 [.ref 0, .int p0] (shC Z) I A (ab_Px (shC Z) KX (ab_ri K)) := by
  refine ab_enter (ls := [some (.ref 0), some (.int p0)]) (by decide +kernel) (Nat.le_of_ble_eq_true rfl) rfl (fun C => ?_)
  unfold wX11_twins at h
  refine g_aload_n (n := 1) dX11_twins_0 rfl rfl rfl ?_
  refine g_getR (n := 4) (k := 0) dX11_twins_1 sC_0 vc_15 (Nat.le_of_ble_eq_true rfl) rfl w_535 rfl ?_
  refine g_getR (n := 7) (k := 2) dX11_twins_4 sC_8 vc_12 (Nat.le_of_ble_eq_true rfl) rfl w_404 rfl ?_
  refine g_iload_n (n := 8) dX11_twins_7 rfl rfl rfl ?_
  refine g_callV (n := 11) (as := [.int p0]) (bc' := 2) (bs' := 12) sC_20 vc_11 (ctX7_hasSlot h) okX7_hasSlot rfl w_1685 w_1686 w_1687 w_103 dX11_twins_8 rfl rfl (Nat.le_of_ble_eq_true rfl) (Nat.le_of_ble_eq_true rfl) (Nat.le_of_ble_eq_true rfl) (Nat.le_of_ble_eq_true rfl) rfl (fun E sh1 I1 A1 hp _ => hp.2.elim) (fun ro sh_ I_1 A_2 hp hle => ?_)
  obtain ⟨rfl, r_3, rfl, h⟩ := hp
  refine g_callS (n := 14) (as := [.int r_3]) (bc' := 1) (bs' := 6) (ctX11_demandIndex h) okX11_demandIndex w_1583 w_1584 dX11_twins_11 rfl rfl (Nat.le_of_ble_eq_true rfl) (Nat.le_of_ble_eq_true rfl) (Nat.le_of_ble_eq_true rfl) (Nat.le_of_ble_eq_true rfl) rfl (fun E sh1 I1 A1 hp _ => hp) (fun ro sh_ I_4 A_5 hp hle => ?_)
  obtain ⟨rfl, rfl, h⟩ := hp
  refine g_aload_n (n := 15) dX11_twins_14 rfl rfl rfl ?_
  refine g_getR (n := 18) (k := 0) dX11_twins_15 sC_0 vc_15 (Nat.le_of_ble_eq_true rfl) rfl w_535 rfl ?_
  refine g_callV (n := 21) (as := []) (bc' := 1) (bs' := 6) sC_8 vc_12 (ctX8_markUses h) okX8_markUses rfl w_1689 w_843 w_844 w_100 dX11_twins_18 rfl rfl (Nat.le_of_ble_eq_true rfl) (Nat.le_of_ble_eq_true rfl) (Nat.le_of_ble_eq_true rfl) (Nat.le_of_ble_eq_true rfl) rfl (fun E sh1 I1 A1 hp _ => hp.2.elim) (fun ro sh_ I_6 A_7 hp hle => ?_)
  obtain ⟨rfl, rfl, h⟩ := hp
  refine g_iload_n (n := 22) dX11_twins_21 rfl rfl rfl ?_
  obtain ⟨j_8, hj, hl, h⟩ := h
  refine g_ialdJ (n := 23) (j := j_8) (x := (A_7 31 j_8)) dX11_twins_22 sC_31 hj hl (by decide) rfl rfl ?_
  refine g_if_eq (n := 26) 30 dX11_twins_23 (by decide) rfl (fun hc => ?_) (fun hc => ?_)
  · have h := h.1 hc
    refine g_iconst (n := 31) (v := (nI 0)) dX11_twins_30 rfl rfl ?_
    refine g_less (bc' := 1) (bs' := 6) (Nat.le_of_ble_eq_true rfl) (Nat.le_of_ble_eq_true rfl) ?_
    exact tjX11_twins_31  _ _ _ _ h
  · have h := h.2 hc
    refine g_iconst (n := 27) (v := (nI 1)) dX11_twins_26 rfl rfl ?_
    refine g_goto 31 dX11_twins_27 (by decide) ?_
    refine g_less (bc' := 1) (bs' := 6) (Nat.le_of_ble_eq_true rfl) (Nat.le_of_ble_eq_true rfl) ?_
    exact tjX11_twins_31  _ _ _ _ h
def wX11_barrierSet (K : Int32 → ab_F → ab_F → Prop) (I A : ab_F)  : Prop := K (I 24 1) I A
set_option maxRecDepth 20000 in
theorem ctX11_barrierSet {Z : ab_Z} {K : Int32 → ab_F → ab_F → Prop} {I A : ab_F}  (h : wX11_barrierSet K I A ) : ab_Cl mX11_barrierSet 0 0 0 [.ref 0] (shC Z) I A (ab_Px (shC Z) ab_no (ab_ri K)) := by
  refine ab_enter (ls := [some (.ref 0)]) (by decide +kernel) (Nat.le_of_ble_eq_true rfl) rfl (fun C => ?_)
  unfold wX11_barrierSet at h
  refine g_aload_n (n := 1) dX11_barrierSet_0 rfl rfl rfl ?_
  refine g_getR (n := 4) (k := 0) dX11_barrierSet_1 sC_0 vc_15 (Nat.le_of_ble_eq_true rfl) rfl w_535 rfl ?_
  refine g_getR (n := 7) (k := 3) dX11_barrierSet_4 sC_8 vc_12 (Nat.le_of_ble_eq_true rfl) rfl w_406 rfl ?_
  refine g_getIE (n := 10) (k := 1) (x := (I 24 1)) dX11_barrierSet_7 sC_24 vc_5 (Nat.le_of_ble_eq_true rfl) rfl w_344 rfl rfl ?_
  exact g_iret rfl rfl dX11_barrierSet_10 ⟨rfl, _, rfl, h⟩
def wX11_pendingPages (K : Int32 → ab_F → ab_F → Prop) (I A : ab_F)  : Prop := wX1_countPending (fun r_3 I_1 A_2 => K r_3 I_1 A_2) I A 
set_option maxRecDepth 20000 in
theorem ctX11_pendingPages {Z : ab_Z} {K : Int32 → ab_F → ab_F → Prop} {I A : ab_F}  (h : wX11_pendingPages K I A ) : ab_Cl mX11_pendingPages 1 0 0 [.ref 0] (shC Z) I A (ab_Px (shC Z) ab_no (ab_ri K)) := by
  refine ab_enter (ls := [some (.ref 0)]) (by decide +kernel) (Nat.le_of_ble_eq_true rfl) rfl (fun C => ?_)
  unfold wX11_pendingPages at h
  refine g_aload_n (n := 1) dX11_pendingPages_0 rfl rfl rfl ?_
  refine g_getR (n := 4) (k := 0) dX11_pendingPages_1 sC_0 vc_15 (Nat.le_of_ble_eq_true rfl) rfl w_535 rfl ?_
  refine g_getR (n := 7) (k := 3) dX11_pendingPages_4 sC_8 vc_12 (Nat.le_of_ble_eq_true rfl) rfl w_406 rfl ?_
  refine g_callV (n := 10) (as := []) (bc' := 0) (bs' := 0) sC_24 vc_5 (ctX1_countPending h) okX1_countPending rfl w_1038 w_875 w_876 w_104 dX11_pendingPages_7 rfl rfl (Nat.le_of_ble_eq_true rfl) (Nat.le_of_ble_eq_true rfl) (Nat.le_of_ble_eq_true rfl) (Nat.le_of_ble_eq_true rfl) rfl (fun E sh1 I1 A1 hp _ => hp.2.elim) (fun ro sh_ I_1 A_2 hp hle => ?_)
  obtain ⟨rfl, r_3, rfl, h⟩ := hp
  exact g_iret rfl rfl dX11_pendingPages_10 ⟨rfl, _, rfl, h⟩
def wjX11_pendingPage_23 (K : Int32 → ab_F → ab_F → Prop) (KX : String → ab_F → ab_F → Prop) (x1 : Int32) (s0 : Int32) (I A : ab_F) : Prop := wX11_demandIndex (fun I_1 A_2 => wX1_pendingAt (fun r_5 I_3 A_4 => K r_5 I_3 A_4) I_1 A_2 x1) KX I A s0
def wjX11_pendingPage_22 (K : Int32 → ab_F → ab_F → Prop) (KX : String → ab_F → ab_F → Prop) (x1 : Int32) (I A : ab_F) : Prop := wjX11_pendingPage_23 K KX x1 (nI 0) I A
def wX11_pendingPage (K : Int32 → ab_F → ab_F → Prop) (KX : String → ab_F → ab_F → Prop) (I A : ab_F) (p0 : Int32) : Prop := ((p0 < 0 → wjX11_pendingPage_22 K KX p0 I A) ∧ (¬ p0 < 0 → wX1_countPending (fun r_8 I_6 A_7 => ((r_8 ≤ p0 → wjX11_pendingPage_22 K KX p0 I_6 A_7) ∧ (¬ r_8 ≤ p0 → wjX11_pendingPage_23 K KX p0 (nI 1) I_6 A_7))) I A ))
set_option maxRecDepth 20000 in
theorem tjX11_pendingPage_23 {C : ab_X} {Z : ab_Z} {K : Int32 → ab_F → ab_F → Prop} {KX : String → ab_F → ab_F → Prop} (x1 : Int32) (s0 : Int32) (I A : ab_F) (h : wjX11_pendingPage_23 K KX x1 s0 I A) : ab_G mX11_pendingPage 8 C (ab_Px (shC Z) KX (ab_ri K)) 23 [some (.ref 0), some (.int x1)] [.int s0] (shC Z) I A 1 6 := by
  unfold wjX11_pendingPage_23 at h
  refine g_callS (n := 26) (as := [.int s0]) (bc' := 0) (bs' := 0) (ctX11_demandIndex h) okX11_demandIndex w_1583 w_1584 dX11_pendingPage_23 rfl rfl (Nat.le_of_ble_eq_true rfl) (Nat.le_of_ble_eq_true rfl) (Nat.le_of_ble_eq_true rfl) (Nat.le_of_ble_eq_true rfl) rfl (fun E sh1 I1 A1 hp _ => hp) (fun ro sh_ I_1 A_2 hp hle => ?_)
  obtain ⟨rfl, rfl, h⟩ := hp
  refine g_aload_n (n := 27) dX11_pendingPage_26 rfl rfl rfl ?_
  refine g_getR (n := 30) (k := 0) dX11_pendingPage_27 sC_0 vc_15 (Nat.le_of_ble_eq_true rfl) rfl w_535 rfl ?_
  refine g_getR (n := 33) (k := 3) dX11_pendingPage_30 sC_8 vc_12 (Nat.le_of_ble_eq_true rfl) rfl w_406 rfl ?_
  refine g_iload_n (n := 34) dX11_pendingPage_33 rfl rfl rfl ?_
  refine g_callV (n := 37) (as := [.int x1]) (bc' := 0) (bs' := 0) sC_24 vc_5 (ctX1_pendingAt h) okX1_pendingAt rfl w_1740 w_959 w_960 w_104 dX11_pendingPage_34 rfl rfl (Nat.le_of_ble_eq_true rfl) (Nat.le_of_ble_eq_true rfl) (Nat.le_of_ble_eq_true rfl) (Nat.le_of_ble_eq_true rfl) rfl (fun E sh1 I1 A1 hp _ => hp.2.elim) (fun ro sh_ I_3 A_4 hp hle => ?_)
  obtain ⟨rfl, r_5, rfl, h⟩ := hp
  exact g_iret rfl rfl dX11_pendingPage_37 ⟨rfl, _, rfl, h⟩
set_option maxRecDepth 20000 in
theorem tjX11_pendingPage_22 {C : ab_X} {Z : ab_Z} {K : Int32 → ab_F → ab_F → Prop} {KX : String → ab_F → ab_F → Prop} (x1 : Int32) (I A : ab_F) (h : wjX11_pendingPage_22 K KX x1 I A) : ab_G mX11_pendingPage 8 C (ab_Px (shC Z) KX (ab_ri K)) 22 [some (.ref 0), some (.int x1)] [] (shC Z) I A 1 6 := by
  unfold wjX11_pendingPage_22 at h
  refine g_iconst (n := 23) (v := (nI 0)) dX11_pendingPage_22 rfl rfl ?_
  refine g_less (bc' := 1) (bs' := 6) (Nat.le_of_ble_eq_true rfl) (Nat.le_of_ble_eq_true rfl) ?_
  exact tjX11_pendingPage_23  _ _ _ _ h
set_option maxRecDepth 20000 in
theorem ctX11_pendingPage {Z : ab_Z} {K : Int32 → ab_F → ab_F → Prop} {KX : String → ab_F → ab_F → Prop} {I A : ab_F} {p0 : Int32} (h : wX11_pendingPage K KX I A p0) : ab_Cl mX11_pendingPage 8 1 6 [.ref 0, .int p0] (shC Z) I A (ab_Px (shC Z) KX (ab_ri K)) := by
  refine ab_enter (ls := [some (.ref 0), some (.int p0)]) (by decide +kernel) (Nat.le_of_ble_eq_true rfl) rfl (fun C => ?_)
  unfold wX11_pendingPage at h
  refine g_iload_n (n := 1) dX11_pendingPage_0 rfl rfl rfl ?_
  refine g_if_lt (n := 4) 22 dX11_pendingPage_1 (by decide) rfl (fun hc => ?_) (fun hc => ?_)
  · have h := h.1 hc
    refine g_less (bc' := 1) (bs' := 6) (Nat.le_of_ble_eq_true rfl) (Nat.le_of_ble_eq_true rfl) ?_
    exact tjX11_pendingPage_22  _ _ _ h
  · have h := h.2 hc
    refine g_iload_n (n := 5) dX11_pendingPage_4 rfl rfl rfl ?_
    refine g_aload_n (n := 6) dX11_pendingPage_5 rfl rfl rfl ?_
    refine g_getR (n := 9) (k := 0) dX11_pendingPage_6 sC_0 vc_15 (Nat.le_of_ble_eq_true rfl) rfl w_535 rfl ?_
    refine g_getR (n := 12) (k := 3) dX11_pendingPage_9 sC_8 vc_12 (Nat.le_of_ble_eq_true rfl) rfl w_406 rfl ?_
    refine g_callV (n := 15) (as := []) (bc' := 1) (bs' := 6) sC_24 vc_5 (ctX1_countPending h) okX1_countPending rfl w_1038 w_875 w_876 w_104 dX11_pendingPage_12 rfl rfl (Nat.le_of_ble_eq_true rfl) (Nat.le_of_ble_eq_true rfl) (Nat.le_of_ble_eq_true rfl) (Nat.le_of_ble_eq_true rfl) rfl (fun E sh1 I1 A1 hp _ => hp.2.elim) (fun ro sh_ I_6 A_7 hp hle => ?_)
    obtain ⟨rfl, r_8, rfl, h⟩ := hp
    refine g_icmp_ge (n := 18) 22 dX11_pendingPage_15 (by decide) rfl (fun hc => ?_) (fun hc => ?_)
    · have h := h.1 hc
      refine g_less (bc' := 1) (bs' := 6) (Nat.le_of_ble_eq_true rfl) (Nat.le_of_ble_eq_true rfl) ?_
      exact tjX11_pendingPage_22  _ _ _ h
    · have h := h.2 hc
      refine g_iconst (n := 19) (v := (nI 1)) dX11_pendingPage_18 rfl rfl ?_
      refine g_goto 23 dX11_pendingPage_19 (by decide) ?_
      refine g_less (bc' := 1) (bs' := 6) (Nat.le_of_ble_eq_true rfl) (Nat.le_of_ble_eq_true rfl) ?_
      exact tjX11_pendingPage_23  _ _ _ _ h
def wX11_checkpointEpoch (K : Int32 → ab_F → ab_F → Prop) (KX : String → ab_F → ab_F → Prop) (I A : ab_F) (p0 : Int32) : Prop := wX4_hasProcess (fun r_3 I_1 A_2 => wX11_demandIndex (fun I_4 A_5 => (∃ j_6 : Nat, p0 = nI j_6 ∧ j_6 < 6 ∧ K (A_5 26 j_6) I_4 A_5)) KX I_1 A_2 r_3) I A p0
set_option maxRecDepth 20000 in
theorem ctX11_checkpointEpoch {Z : ab_Z} {K : Int32 → ab_F → ab_F → Prop} {KX : String → ab_F → ab_F → Prop} {I A : ab_F} {p0 : Int32} (h : wX11_checkpointEpoch K KX I A p0) : ab_Cl mX11_checkpointEpoch 8 1 6 [.ref 0, .int p0] (shC Z) I A (ab_Px (shC Z) KX (ab_ri K)) := by
  refine ab_enter (ls := [some (.ref 0), some (.int p0)]) (by decide +kernel) (Nat.le_of_ble_eq_true rfl) rfl (fun C => ?_)
  unfold wX11_checkpointEpoch at h
  refine g_aload_n (n := 1) dX11_checkpointEpoch_0 rfl rfl rfl ?_
  refine g_getR (n := 4) (k := 0) dX11_checkpointEpoch_1 sC_0 vc_15 (Nat.le_of_ble_eq_true rfl) rfl w_535 rfl ?_
  refine g_getR (n := 7) (k := 0) dX11_checkpointEpoch_4 sC_8 vc_12 (Nat.le_of_ble_eq_true rfl) rfl w_400 rfl ?_
  refine g_iload_n (n := 8) dX11_checkpointEpoch_7 rfl rfl rfl ?_
  refine g_callV (n := 11) (as := [.int p0]) (bc' := 1) (bs' := 6) sC_9 vc_8 (ctX4_hasProcess h) okX4_hasProcess rfl w_1582 w_815 w_816 w_101 dX11_checkpointEpoch_8 rfl rfl (Nat.le_of_ble_eq_true rfl) (Nat.le_of_ble_eq_true rfl) (Nat.le_of_ble_eq_true rfl) (Nat.le_of_ble_eq_true rfl) rfl (fun E sh1 I1 A1 hp _ => hp.2.elim) (fun ro sh_ I_1 A_2 hp hle => ?_)
  obtain ⟨rfl, r_3, rfl, h⟩ := hp
  refine g_callS (n := 14) (as := [.int r_3]) (bc' := 0) (bs' := 0) (ctX11_demandIndex h) okX11_demandIndex w_1583 w_1584 dX11_checkpointEpoch_11 rfl rfl (Nat.le_of_ble_eq_true rfl) (Nat.le_of_ble_eq_true rfl) (Nat.le_of_ble_eq_true rfl) (Nat.le_of_ble_eq_true rfl) rfl (fun E sh1 I1 A1 hp _ => hp) (fun ro sh_ I_4 A_5 hp hle => ?_)
  obtain ⟨rfl, rfl, h⟩ := hp
  refine g_aload_n (n := 15) dX11_checkpointEpoch_14 rfl rfl rfl ?_
  refine g_getR (n := 18) (k := 0) dX11_checkpointEpoch_15 sC_0 vc_15 (Nat.le_of_ble_eq_true rfl) rfl w_535 rfl ?_
  refine g_getR (n := 21) (k := 3) dX11_checkpointEpoch_18 sC_8 vc_12 (Nat.le_of_ble_eq_true rfl) rfl w_406 rfl ?_
  refine g_getR (n := 24) (k := 5) dX11_checkpointEpoch_21 sC_24 vc_5 (Nat.le_of_ble_eq_true rfl) rfl w_353 rfl ?_
  refine g_iload_n (n := 25) dX11_checkpointEpoch_24 rfl rfl rfl ?_
  obtain ⟨j_6, hj, hl, h⟩ := h
  refine g_ialdJ (n := 26) (j := j_6) (x := (A_5 26 j_6)) dX11_checkpointEpoch_25 sC_26 hj hl (by decide) rfl rfl ?_
  exact g_iret rfl rfl dX11_checkpointEpoch_26 ⟨rfl, _, rfl, h⟩
def wjX11_checkpointSlot_36 (K : Int32 → ab_F → ab_F → Prop) (KX : String → ab_F → ab_F → Prop) (x1 : Int32) (x2 : Int32) (s0 : Int32) (I A : ab_F) : Prop := wX11_demandElement (fun I_7 A_8 => wX11_idOf (fun r_11 I_9 A_10 => (∃ j_12 : Nat, r_11 = nI j_12 ∧ j_12 < 48 ∧ K (A_10 27 j_12) I_9 A_10)) I_7 A_8 x1 x2) KX I A s0
def wX11_checkpointSlot (K : Int32 → ab_F → ab_F → Prop) (KX : String → ab_F → ab_F → Prop) (I A : ab_F) (p0 : Int32) (p1 : Int32) : Prop := wX4_hasPage (fun r_3 I_1 A_2 => wX11_demandIndex (fun I_4 A_5 => (∃ j_6 : Nat, p0 = nI j_6 ∧ j_6 < 6 ∧ (((A_5 26 j_6) = (-1 : Int32) → wjX11_checkpointSlot_36 K KX p0 p1 (nI 0) I_4 A_5) ∧ (¬ (A_5 26 j_6) = (-1 : Int32) → wjX11_checkpointSlot_36 K KX p0 p1 (nI 1) I_4 A_5)))) KX I_1 A_2 r_3) I A p0 p1
set_option maxRecDepth 20000 in
theorem tjX11_checkpointSlot_36 {C : ab_X} {Z : ab_Z} {K : Int32 → ab_F → ab_F → Prop} {KX : String → ab_F → ab_F → Prop} (x1 : Int32) (x2 : Int32) (s0 : Int32) (I A : ab_F) (h : wjX11_checkpointSlot_36 K KX x1 x2 s0 I A) : ab_G mX11_checkpointSlot 8 C (ab_Px (shC Z) KX (ab_ri K)) 36 [some (.ref 0), some (.int x1), some (.int x2)] [.int s0] (shC Z) I A 1 6 := by
  unfold wjX11_checkpointSlot_36 at h
  refine g_callS (n := 39) (as := [.int s0]) (bc' := 0) (bs' := 0) (ctX11_demandElement h) okX11_demandElement w_1656 w_1657 dX11_checkpointSlot_36 rfl rfl (Nat.le_of_ble_eq_true rfl) (Nat.le_of_ble_eq_true rfl) (Nat.le_of_ble_eq_true rfl) (Nat.le_of_ble_eq_true rfl) rfl (fun E sh1 I1 A1 hp _ => hp) (fun ro sh_ I_7 A_8 hp hle => ?_)
  obtain ⟨rfl, rfl, h⟩ := hp
  refine g_aload_n (n := 40) dX11_checkpointSlot_39 rfl rfl rfl ?_
  refine g_getR (n := 43) (k := 0) dX11_checkpointSlot_40 sC_0 vc_15 (Nat.le_of_ble_eq_true rfl) rfl w_535 rfl ?_
  refine g_getR (n := 46) (k := 3) dX11_checkpointSlot_43 sC_8 vc_12 (Nat.le_of_ble_eq_true rfl) rfl w_406 rfl ?_
  refine g_getR (n := 49) (k := 6) dX11_checkpointSlot_46 sC_24 vc_5 (Nat.le_of_ble_eq_true rfl) rfl w_356 rfl ?_
  refine g_iload_n (n := 50) dX11_checkpointSlot_49 rfl rfl rfl ?_
  refine g_iload_n (n := 51) dX11_checkpointSlot_50 rfl rfl rfl ?_
  refine g_callS (n := 54) (as := [.int x1, .int x2]) (bc' := 0) (bs' := 0) (ctX11_idOf h) okX11_idOf w_1389 w_757 dX11_checkpointSlot_51 rfl rfl (Nat.le_of_ble_eq_true rfl) (Nat.le_of_ble_eq_true rfl) (Nat.le_of_ble_eq_true rfl) (Nat.le_of_ble_eq_true rfl) rfl (fun E sh1 I1 A1 hp _ => hp.2.elim) (fun ro sh_ I_9 A_10 hp hle => ?_)
  obtain ⟨rfl, r_11, rfl, h⟩ := hp
  obtain ⟨j_12, hj, hl, h⟩ := h
  refine g_ialdJ (n := 55) (j := j_12) (x := (A_10 27 j_12)) dX11_checkpointSlot_54 sC_27 hj hl (by decide) rfl rfl ?_
  exact g_iret rfl rfl dX11_checkpointSlot_55 ⟨rfl, _, rfl, h⟩
set_option maxRecDepth 20000 in
theorem ctX11_checkpointSlot {Z : ab_Z} {K : Int32 → ab_F → ab_F → Prop} {KX : String → ab_F → ab_F → Prop} {I A : ab_F} {p0 : Int32} {p1 : Int32} (h : wX11_checkpointSlot K KX I A p0 p1) : ab_Cl mX11_checkpointSlot 8 2 12 [.ref 0, .int p0, .int p1] (shC Z) I A (ab_Px (shC Z) KX (ab_ri K)) := by
  refine ab_enter (ls := [some (.ref 0), some (.int p0), some (.int p1)]) (by decide +kernel) (Nat.le_of_ble_eq_true rfl) rfl (fun C => ?_)
  unfold wX11_checkpointSlot at h
  refine g_aload_n (n := 1) dX11_checkpointSlot_0 rfl rfl rfl ?_
  refine g_getR (n := 4) (k := 0) dX11_checkpointSlot_1 sC_0 vc_15 (Nat.le_of_ble_eq_true rfl) rfl w_535 rfl ?_
  refine g_getR (n := 7) (k := 0) dX11_checkpointSlot_4 sC_8 vc_12 (Nat.le_of_ble_eq_true rfl) rfl w_400 rfl ?_
  refine g_iload_n (n := 8) dX11_checkpointSlot_7 rfl rfl rfl ?_
  refine g_iload_n (n := 9) dX11_checkpointSlot_8 rfl rfl rfl ?_
  refine g_callV (n := 12) (as := [.int p0, .int p1]) (bc' := 2) (bs' := 12) sC_9 vc_8 (ctX4_hasPage h) okX4_hasPage rfl w_1600 w_811 w_812 w_101 dX11_checkpointSlot_9 rfl rfl (Nat.le_of_ble_eq_true rfl) (Nat.le_of_ble_eq_true rfl) (Nat.le_of_ble_eq_true rfl) (Nat.le_of_ble_eq_true rfl) rfl (fun E sh1 I1 A1 hp _ => hp.2.elim) (fun ro sh_ I_1 A_2 hp hle => ?_)
  obtain ⟨rfl, r_3, rfl, h⟩ := hp
  refine g_callS (n := 15) (as := [.int r_3]) (bc' := 1) (bs' := 6) (ctX11_demandIndex h) okX11_demandIndex w_1583 w_1584 dX11_checkpointSlot_12 rfl rfl (Nat.le_of_ble_eq_true rfl) (Nat.le_of_ble_eq_true rfl) (Nat.le_of_ble_eq_true rfl) (Nat.le_of_ble_eq_true rfl) rfl (fun E sh1 I1 A1 hp _ => hp) (fun ro sh_ I_4 A_5 hp hle => ?_)
  obtain ⟨rfl, rfl, h⟩ := hp
  refine g_aload_n (n := 16) dX11_checkpointSlot_15 rfl rfl rfl ?_
  refine g_getR (n := 19) (k := 0) dX11_checkpointSlot_16 sC_0 vc_15 (Nat.le_of_ble_eq_true rfl) rfl w_535 rfl ?_
  refine g_getR (n := 22) (k := 3) dX11_checkpointSlot_19 sC_8 vc_12 (Nat.le_of_ble_eq_true rfl) rfl w_406 rfl ?_
  refine g_getR (n := 25) (k := 5) dX11_checkpointSlot_22 sC_24 vc_5 (Nat.le_of_ble_eq_true rfl) rfl w_353 rfl ?_
  refine g_iload_n (n := 26) dX11_checkpointSlot_25 rfl rfl rfl ?_
  obtain ⟨j_6, hj, hl, h⟩ := h
  refine g_ialdJ (n := 27) (j := j_6) (x := (A_5 26 j_6)) dX11_checkpointSlot_26 sC_26 hj hl (by decide) rfl rfl ?_
  refine g_iconst (n := 28) (v := (-1 : Int32)) dX11_checkpointSlot_27 rfl rfl ?_
  refine g_icmp_eq (n := 31) 35 dX11_checkpointSlot_28 (by decide) rfl (fun hc => ?_) (fun hc => ?_)
  · have h := h.1 hc
    refine g_iconst (n := 36) (v := (nI 0)) dX11_checkpointSlot_35 rfl rfl ?_
    refine g_less (bc' := 1) (bs' := 6) (Nat.le_of_ble_eq_true rfl) (Nat.le_of_ble_eq_true rfl) ?_
    exact tjX11_checkpointSlot_36  _ _ _ _ _ h
  · have h := h.2 hc
    refine g_iconst (n := 32) (v := (nI 1)) dX11_checkpointSlot_31 rfl rfl ?_
    refine g_goto 36 dX11_checkpointSlot_32 (by decide) ?_
    refine g_less (bc' := 1) (bs' := 6) (Nat.le_of_ble_eq_true rfl) (Nat.le_of_ble_eq_true rfl) ?_
    exact tjX11_checkpointSlot_36  _ _ _ _ _ h
def wjX11_checkpointValue_36 (K : Int32 → ab_F → ab_F → Prop) (KX : String → ab_F → ab_F → Prop) (x1 : Int32) (x2 : Int32) (s0 : Int32) (I A : ab_F) : Prop := wX11_demandElement (fun I_7 A_8 => wX11_idOf (fun r_11 I_9 A_10 => wX8_restoredValue (fun r_14 I_12 A_13 => K r_14 I_12 A_13) I_9 A_10 r_11) I_7 A_8 x1 x2) KX I A s0
def wX11_checkpointValue (K : Int32 → ab_F → ab_F → Prop) (KX : String → ab_F → ab_F → Prop) (I A : ab_F) (p0 : Int32) (p1 : Int32) : Prop := wX4_hasPage (fun r_3 I_1 A_2 => wX11_demandIndex (fun I_4 A_5 => (∃ j_6 : Nat, p0 = nI j_6 ∧ j_6 < 6 ∧ (((A_5 26 j_6) = (-1 : Int32) → wjX11_checkpointValue_36 K KX p0 p1 (nI 0) I_4 A_5) ∧ (¬ (A_5 26 j_6) = (-1 : Int32) → wjX11_checkpointValue_36 K KX p0 p1 (nI 1) I_4 A_5)))) KX I_1 A_2 r_3) I A p0 p1
set_option maxRecDepth 20000 in
theorem tjX11_checkpointValue_36 {C : ab_X} {Z : ab_Z} {K : Int32 → ab_F → ab_F → Prop} {KX : String → ab_F → ab_F → Prop} (x1 : Int32) (x2 : Int32) (s0 : Int32) (I A : ab_F) (h : wjX11_checkpointValue_36 K KX x1 x2 s0 I A) : ab_G mX11_checkpointValue 8 C (ab_Px (shC Z) KX (ab_ri K)) 36 [some (.ref 0), some (.int x1), some (.int x2)] [.int s0] (shC Z) I A 1 6 := by
  unfold wjX11_checkpointValue_36 at h
  refine g_callS (n := 39) (as := [.int s0]) (bc' := 0) (bs' := 0) (ctX11_demandElement h) okX11_demandElement w_1656 w_1657 dX11_checkpointValue_36 rfl rfl (Nat.le_of_ble_eq_true rfl) (Nat.le_of_ble_eq_true rfl) (Nat.le_of_ble_eq_true rfl) (Nat.le_of_ble_eq_true rfl) rfl (fun E sh1 I1 A1 hp _ => hp) (fun ro sh_ I_7 A_8 hp hle => ?_)
  obtain ⟨rfl, rfl, h⟩ := hp
  refine g_aload_n (n := 40) dX11_checkpointValue_39 rfl rfl rfl ?_
  refine g_getR (n := 43) (k := 0) dX11_checkpointValue_40 sC_0 vc_15 (Nat.le_of_ble_eq_true rfl) rfl w_535 rfl ?_
  refine g_iload_n (n := 44) dX11_checkpointValue_43 rfl rfl rfl ?_
  refine g_iload_n (n := 45) dX11_checkpointValue_44 rfl rfl rfl ?_
  refine g_callS (n := 48) (as := [.int x1, .int x2]) (bc' := 0) (bs' := 0) (ctX11_idOf h) okX11_idOf w_1389 w_757 dX11_checkpointValue_45 rfl rfl (Nat.le_of_ble_eq_true rfl) (Nat.le_of_ble_eq_true rfl) (Nat.le_of_ble_eq_true rfl) (Nat.le_of_ble_eq_true rfl) rfl (fun E sh1 I1 A1 hp _ => hp.2.elim) (fun ro sh_ I_9 A_10 hp hle => ?_)
  obtain ⟨rfl, r_11, rfl, h⟩ := hp
  refine g_callV (n := 51) (as := [.int r_11]) (bc' := 0) (bs' := 0) sC_8 vc_12 (ctX8_restoredValue h) okX8_restoredValue rfl w_1762 w_760 w_761 w_100 dX11_checkpointValue_48 rfl rfl (Nat.le_of_ble_eq_true rfl) (Nat.le_of_ble_eq_true rfl) (Nat.le_of_ble_eq_true rfl) (Nat.le_of_ble_eq_true rfl) rfl (fun E sh1 I1 A1 hp _ => hp.2.elim) (fun ro sh_ I_12 A_13 hp hle => ?_)
  obtain ⟨rfl, r_14, rfl, h⟩ := hp
  exact g_iret rfl rfl dX11_checkpointValue_51 ⟨rfl, _, rfl, h⟩
set_option maxRecDepth 20000 in
theorem ctX11_checkpointValue {Z : ab_Z} {K : Int32 → ab_F → ab_F → Prop} {KX : String → ab_F → ab_F → Prop} {I A : ab_F} {p0 : Int32} {p1 : Int32} (h : wX11_checkpointValue K KX I A p0 p1) : ab_Cl mX11_checkpointValue 8 2 12 [.ref 0, .int p0, .int p1] (shC Z) I A (ab_Px (shC Z) KX (ab_ri K)) := by
  refine ab_enter (ls := [some (.ref 0), some (.int p0), some (.int p1)]) (by decide +kernel) (Nat.le_of_ble_eq_true rfl) rfl (fun C => ?_)
  unfold wX11_checkpointValue at h
  refine g_aload_n (n := 1) dX11_checkpointValue_0 rfl rfl rfl ?_
  refine g_getR (n := 4) (k := 0) dX11_checkpointValue_1 sC_0 vc_15 (Nat.le_of_ble_eq_true rfl) rfl w_535 rfl ?_
  refine g_getR (n := 7) (k := 0) dX11_checkpointValue_4 sC_8 vc_12 (Nat.le_of_ble_eq_true rfl) rfl w_400 rfl ?_
  refine g_iload_n (n := 8) dX11_checkpointValue_7 rfl rfl rfl ?_
  refine g_iload_n (n := 9) dX11_checkpointValue_8 rfl rfl rfl ?_
  refine g_callV (n := 12) (as := [.int p0, .int p1]) (bc' := 2) (bs' := 12) sC_9 vc_8 (ctX4_hasPage h) okX4_hasPage rfl w_1600 w_811 w_812 w_101 dX11_checkpointValue_9 rfl rfl (Nat.le_of_ble_eq_true rfl) (Nat.le_of_ble_eq_true rfl) (Nat.le_of_ble_eq_true rfl) (Nat.le_of_ble_eq_true rfl) rfl (fun E sh1 I1 A1 hp _ => hp.2.elim) (fun ro sh_ I_1 A_2 hp hle => ?_)
  obtain ⟨rfl, r_3, rfl, h⟩ := hp
  refine g_callS (n := 15) (as := [.int r_3]) (bc' := 1) (bs' := 6) (ctX11_demandIndex h) okX11_demandIndex w_1583 w_1584 dX11_checkpointValue_12 rfl rfl (Nat.le_of_ble_eq_true rfl) (Nat.le_of_ble_eq_true rfl) (Nat.le_of_ble_eq_true rfl) (Nat.le_of_ble_eq_true rfl) rfl (fun E sh1 I1 A1 hp _ => hp) (fun ro sh_ I_4 A_5 hp hle => ?_)
  obtain ⟨rfl, rfl, h⟩ := hp
  refine g_aload_n (n := 16) dX11_checkpointValue_15 rfl rfl rfl ?_
  refine g_getR (n := 19) (k := 0) dX11_checkpointValue_16 sC_0 vc_15 (Nat.le_of_ble_eq_true rfl) rfl w_535 rfl ?_
  refine g_getR (n := 22) (k := 3) dX11_checkpointValue_19 sC_8 vc_12 (Nat.le_of_ble_eq_true rfl) rfl w_406 rfl ?_
  refine g_getR (n := 25) (k := 5) dX11_checkpointValue_22 sC_24 vc_5 (Nat.le_of_ble_eq_true rfl) rfl w_353 rfl ?_
  refine g_iload_n (n := 26) dX11_checkpointValue_25 rfl rfl rfl ?_
  obtain ⟨j_6, hj, hl, h⟩ := h
  refine g_ialdJ (n := 27) (j := j_6) (x := (A_5 26 j_6)) dX11_checkpointValue_26 sC_26 hj hl (by decide) rfl rfl ?_
  refine g_iconst (n := 28) (v := (-1 : Int32)) dX11_checkpointValue_27 rfl rfl ?_
  refine g_icmp_eq (n := 31) 35 dX11_checkpointValue_28 (by decide) rfl (fun hc => ?_) (fun hc => ?_)
  · have h := h.1 hc
    refine g_iconst (n := 36) (v := (nI 0)) dX11_checkpointValue_35 rfl rfl ?_
    refine g_less (bc' := 1) (bs' := 6) (Nat.le_of_ble_eq_true rfl) (Nat.le_of_ble_eq_true rfl) ?_
    exact tjX11_checkpointValue_36  _ _ _ _ _ h
  · have h := h.2 hc
    refine g_iconst (n := 32) (v := (nI 1)) dX11_checkpointValue_31 rfl rfl ?_
    refine g_goto 36 dX11_checkpointValue_32 (by decide) ?_
    refine g_less (bc' := 1) (bs' := 6) (Nat.le_of_ble_eq_true rfl) (Nat.le_of_ble_eq_true rfl) ?_
    exact tjX11_checkpointValue_36  _ _ _ _ _ h
def wX11_wouldWrite (K : Int32 → ab_F → ab_F → Prop) (KX : String → ab_F → ab_F → Prop) (I A : ab_F) (p0 : Int32) : Prop := wX4_isProcessSet (fun r_3 I_1 A_2 => wX11_demandArgument (fun I_4 A_5 => wX4_countDirty (fun r_8 I_6 A_7 => K r_8 I_6 A_7) I_4 A_5 p0) KX I_1 A_2 r_3) I A p0
set_option maxRecDepth 20000 in
theorem ctX11_wouldWrite {Z : ab_Z} {K : Int32 → ab_F → ab_F → Prop} {KX : String → ab_F → ab_F → Prop} {I A : ab_F} {p0 : Int32} (h : wX11_wouldWrite K KX I A p0) : ab_Cl mX11_wouldWrite 8 1 6 [.ref 0, .int p0] (shC Z) I A (ab_Px (shC Z) KX (ab_ri K)) := by
  refine ab_enter (ls := [some (.ref 0), some (.int p0)]) (by decide +kernel) (Nat.le_of_ble_eq_true rfl) rfl (fun C => ?_)
  unfold wX11_wouldWrite at h
  refine g_aload_n (n := 1) dX11_wouldWrite_0 rfl rfl rfl ?_
  refine g_getR (n := 4) (k := 0) dX11_wouldWrite_1 sC_0 vc_15 (Nat.le_of_ble_eq_true rfl) rfl w_535 rfl ?_
  refine g_getR (n := 7) (k := 0) dX11_wouldWrite_4 sC_8 vc_12 (Nat.le_of_ble_eq_true rfl) rfl w_400 rfl ?_
  refine g_iload_n (n := 8) dX11_wouldWrite_7 rfl rfl rfl ?_
  refine g_callV (n := 11) (as := [.int p0]) (bc' := 1) (bs' := 6) sC_9 vc_8 (ctX4_isProcessSet h) okX4_isProcessSet rfl w_1770 w_859 w_860 w_101 dX11_wouldWrite_8 rfl rfl (Nat.le_of_ble_eq_true rfl) (Nat.le_of_ble_eq_true rfl) (Nat.le_of_ble_eq_true rfl) (Nat.le_of_ble_eq_true rfl) rfl (fun E sh1 I1 A1 hp _ => hp.2.elim) (fun ro sh_ I_1 A_2 hp hle => ?_)
  obtain ⟨rfl, r_3, rfl, h⟩ := hp
  refine g_callS (n := 14) (as := [.int r_3]) (bc' := 0) (bs' := 0) (ctX11_demandArgument h) okX11_demandArgument w_1436 w_1437 dX11_wouldWrite_11 rfl rfl (Nat.le_of_ble_eq_true rfl) (Nat.le_of_ble_eq_true rfl) (Nat.le_of_ble_eq_true rfl) (Nat.le_of_ble_eq_true rfl) rfl (fun E sh1 I1 A1 hp _ => hp) (fun ro sh_ I_4 A_5 hp hle => ?_)
  obtain ⟨rfl, rfl, h⟩ := hp
  refine g_aload_n (n := 15) dX11_wouldWrite_14 rfl rfl rfl ?_
  refine g_getR (n := 18) (k := 0) dX11_wouldWrite_15 sC_0 vc_15 (Nat.le_of_ble_eq_true rfl) rfl w_535 rfl ?_
  refine g_getR (n := 21) (k := 0) dX11_wouldWrite_18 sC_8 vc_12 (Nat.le_of_ble_eq_true rfl) rfl w_400 rfl ?_
  refine g_iload_n (n := 22) dX11_wouldWrite_21 rfl rfl rfl ?_
  refine g_callV (n := 25) (as := [.int p0]) (bc' := 0) (bs' := 0) sC_9 vc_8 (ctX4_countDirty h) okX4_countDirty rfl w_1771 w_1772 w_1773 w_101 dX11_wouldWrite_22 rfl rfl (Nat.le_of_ble_eq_true rfl) (Nat.le_of_ble_eq_true rfl) (Nat.le_of_ble_eq_true rfl) (Nat.le_of_ble_eq_true rfl) rfl (fun E sh1 I1 A1 hp _ => hp.2.elim) (fun ro sh_ I_6 A_7 hp hle => ?_)
  obtain ⟨rfl, r_8, rfl, h⟩ := hp
  exact g_iret rfl rfl dX11_wouldWrite_25 ⟨rfl, _, rfl, h⟩
def wX11_wouldFree (K : Int32 → ab_F → ab_F → Prop) (KX : String → ab_F → ab_F → Prop) (I A : ab_F) (p0 : Int32) : Prop := wX8_refusalToStart (fun r_3 I_1 A_2 => wX11_demand (fun I_4 A_5 => wX8_countFreedBy (fun r_8 I_6 A_7 => K r_8 I_6 A_7) I_4 A_5 p0) KX I_1 A_2 r_3) I A p0
set_option maxRecDepth 20000 in
theorem ctX11_wouldFree {Z : ab_Z} {K : Int32 → ab_F → ab_F → Prop} {KX : String → ab_F → ab_F → Prop} {I A : ab_F} {p0 : Int32} (h : wX11_wouldFree K KX I A p0) : ab_Cl mX11_wouldFree 7 1 6 [.ref 0, .int p0] (shC Z) I A (ab_Px (shC Z) KX (ab_ri K)) := by
  refine ab_enter (ls := [some (.ref 0), some (.int p0)]) (by decide +kernel) (Nat.le_of_ble_eq_true rfl) rfl (fun C => ?_)
  unfold wX11_wouldFree at h
  refine g_aload_n (n := 1) dX11_wouldFree_0 rfl rfl rfl ?_
  refine g_getR (n := 4) (k := 0) dX11_wouldFree_1 sC_0 vc_15 (Nat.le_of_ble_eq_true rfl) rfl w_535 rfl ?_
  refine g_iload_n (n := 5) dX11_wouldFree_4 rfl rfl rfl ?_
  refine g_callV (n := 8) (as := [.int p0]) (bc' := 1) (bs' := 6) sC_8 vc_12 (ctX8_refusalToStart h) okX8_refusalToStart rfl w_1526 w_855 w_856 w_100 dX11_wouldFree_5 rfl rfl (Nat.le_of_ble_eq_true rfl) (Nat.le_of_ble_eq_true rfl) (Nat.le_of_ble_eq_true rfl) (Nat.le_of_ble_eq_true rfl) rfl (fun E sh1 I1 A1 hp _ => hp.2.elim) (fun ro sh_ I_1 A_2 hp hle => ?_)
  obtain ⟨rfl, r_3, rfl, h⟩ := hp
  refine g_callS (n := 11) (as := [.int r_3]) (bc' := 0) (bs' := 0) (ctX11_demand h) okX11_demand w_1439 w_1440 dX11_wouldFree_8 rfl rfl (Nat.le_of_ble_eq_true rfl) (Nat.le_of_ble_eq_true rfl) (Nat.le_of_ble_eq_true rfl) (Nat.le_of_ble_eq_true rfl) rfl (fun E sh1 I1 A1 hp _ => hp) (fun ro sh_ I_4 A_5 hp hle => ?_)
  obtain ⟨rfl, rfl, h⟩ := hp
  refine g_aload_n (n := 12) dX11_wouldFree_11 rfl rfl rfl ?_
  refine g_getR (n := 15) (k := 0) dX11_wouldFree_12 sC_0 vc_15 (Nat.le_of_ble_eq_true rfl) rfl w_535 rfl ?_
  refine g_iload_n (n := 16) dX11_wouldFree_15 rfl rfl rfl ?_
  refine g_callV (n := 19) (as := [.int p0]) (bc' := 0) (bs' := 0) sC_8 vc_12 (ctX8_countFreedBy h) okX8_countFreedBy rfl w_1783 w_1784 w_1785 w_100 dX11_wouldFree_16 rfl rfl (Nat.le_of_ble_eq_true rfl) (Nat.le_of_ble_eq_true rfl) (Nat.le_of_ble_eq_true rfl) (Nat.le_of_ble_eq_true rfl) rfl (fun E sh1 I1 A1 hp _ => hp.2.elim) (fun ro sh_ I_6 A_7 hp hle => ?_)
  obtain ⟨rfl, r_8, rfl, h⟩ := hp
  exact g_iret rfl rfl dX11_wouldFree_19 ⟨rfl, _, rfl, h⟩
def wjX11_bestBarrier_15 (K : Int32 → ab_F → ab_F → Prop) (KX : String → ab_F → ab_F → Prop) (x1 : Int32) (s0 : Int32) (I A : ab_F) : Prop := wX11_demandArgument (fun I_1 A_2 => (((I_1 24 1) = 0 → wX8_bestSet (fun r_5 I_3 A_4 => K r_5 I_3 A_4) I_1 A_2 x1) ∧ (¬ (I_1 24 1) = 0 → KX "java/lang/IllegalStateException" I_1 A_2))) KX I A s0
def wjX11_bestBarrier_14 (K : Int32 → ab_F → ab_F → Prop) (KX : String → ab_F → ab_F → Prop) (x1 : Int32) (I A : ab_F) : Prop := wjX11_bestBarrier_15 K KX x1 (nI 0) I A
def wX11_bestBarrier (K : Int32 → ab_F → ab_F → Prop) (KX : String → ab_F → ab_F → Prop) (I A : ab_F) (p0 : Int32) : Prop := ((p0 < 0 → wjX11_bestBarrier_14 K KX p0 I A) ∧ (¬ p0 < 0 → (((nI 48) < p0 → wjX11_bestBarrier_14 K KX p0 I A) ∧ (¬ (nI 48) < p0 → wjX11_bestBarrier_15 K KX p0 (nI 1) I A))))
set_option maxRecDepth 20000 in
theorem tjX11_bestBarrier_15 {C : ab_X} {Z : ab_Z} {K : Int32 → ab_F → ab_F → Prop} {KX : String → ab_F → ab_F → Prop} (x1 : Int32) (s0 : Int32) (I A : ab_F) (h : wjX11_bestBarrier_15 K KX x1 s0 I A) : ab_G mX11_bestBarrier 8 C (ab_Px (shC Z) KX (ab_ri K)) 15 [some (.ref 0), some (.int x1)] [.int s0] (shC Z) I A 2 12 := by
  unfold wjX11_bestBarrier_15 at h
  refine g_callS (n := 18) (as := [.int s0]) (bc' := 1) (bs' := 6) (ctX11_demandArgument h) okX11_demandArgument w_1436 w_1437 dX11_bestBarrier_15 rfl rfl (Nat.le_of_ble_eq_true rfl) (Nat.le_of_ble_eq_true rfl) (Nat.le_of_ble_eq_true rfl) (Nat.le_of_ble_eq_true rfl) rfl (fun E sh1 I1 A1 hp _ => hp) (fun ro sh_ I_1 A_2 hp hle => ?_)
  obtain ⟨rfl, rfl, h⟩ := hp
  refine g_aload_n (n := 19) dX11_bestBarrier_18 rfl rfl rfl ?_
  refine g_getR (n := 22) (k := 0) dX11_bestBarrier_19 sC_0 vc_15 (Nat.le_of_ble_eq_true rfl) rfl w_535 rfl ?_
  refine g_getR (n := 25) (k := 3) dX11_bestBarrier_22 sC_8 vc_12 (Nat.le_of_ble_eq_true rfl) rfl w_406 rfl ?_
  refine g_getIE (n := 28) (k := 1) (x := (I_1 24 1)) dX11_bestBarrier_25 sC_24 vc_5 (Nat.le_of_ble_eq_true rfl) rfl w_344 rfl rfl ?_
  refine g_if_eq (n := 31) 42 dX11_bestBarrier_28 (by decide) rfl (fun hc => ?_) (fun hc => ?_)
  · have h := h.1 hc
    refine g_aload_n (n := 43) dX11_bestBarrier_42 rfl rfl rfl ?_
    refine g_getR (n := 46) (k := 0) dX11_bestBarrier_43 sC_0 vc_15 (Nat.le_of_ble_eq_true rfl) rfl w_535 rfl ?_
    refine g_iload_n (n := 47) dX11_bestBarrier_46 rfl rfl rfl ?_
    refine g_callV (n := 50) (as := [.int x1]) (bc' := 0) (bs' := 0) sC_8 vc_12 (ctX8_bestSet h) okX8_bestSet rfl w_1795 w_1796 w_1797 w_100 dX11_bestBarrier_47 rfl rfl (Nat.le_of_ble_eq_true rfl) (Nat.le_of_ble_eq_true rfl) (Nat.le_of_ble_eq_true rfl) (Nat.le_of_ble_eq_true rfl) rfl (fun E sh1 I1 A1 hp _ => hp.2.elim) (fun ro sh_ I_3 A_4 hp hle => ?_)
    obtain ⟨rfl, r_5, rfl, h⟩ := hp
    exact g_iret rfl rfl dX11_bestBarrier_50 ⟨rfl, _, rfl, h⟩
  · have h := h.2 hc
    exact g_throwW (n := 0) (i := 38) (names := ["java/lang/RuntimeException", "java/lang/Exception"]) dX11_bestBarrier_31 dX11_bestBarrier_34 dX11_bestBarrier_35 dX11_bestBarrier_38 dX11_bestBarrier_41 rfl (by decide) w_1408 w_116 xn_X11_72_a xn_X11_72_b xn_X11_72_c rfl (by decide) (Nat.le_of_ble_eq_true rfl) (Nat.le_of_ble_eq_true rfl) (Nat.le_of_ble_eq_true rfl) ⟨rfl, h⟩
set_option maxRecDepth 20000 in
theorem tjX11_bestBarrier_14 {C : ab_X} {Z : ab_Z} {K : Int32 → ab_F → ab_F → Prop} {KX : String → ab_F → ab_F → Prop} (x1 : Int32) (I A : ab_F) (h : wjX11_bestBarrier_14 K KX x1 I A) : ab_G mX11_bestBarrier 8 C (ab_Px (shC Z) KX (ab_ri K)) 14 [some (.ref 0), some (.int x1)] [] (shC Z) I A 2 12 := by
  unfold wjX11_bestBarrier_14 at h
  refine g_iconst (n := 15) (v := (nI 0)) dX11_bestBarrier_14 rfl rfl ?_
  refine g_less (bc' := 2) (bs' := 12) (Nat.le_of_ble_eq_true rfl) (Nat.le_of_ble_eq_true rfl) ?_
  exact tjX11_bestBarrier_15  _ _ _ _ h
set_option maxRecDepth 20000 in
theorem ctX11_bestBarrier {Z : ab_Z} {K : Int32 → ab_F → ab_F → Prop} {KX : String → ab_F → ab_F → Prop} {I A : ab_F} {p0 : Int32} (h : wX11_bestBarrier K KX I A p0) : ab_Cl mX11_bestBarrier 8 2 12 [.ref 0, .int p0] (shC Z) I A (ab_Px (shC Z) KX (ab_ri K)) := by
  refine ab_enter (ls := [some (.ref 0), some (.int p0)]) (by decide +kernel) (Nat.le_of_ble_eq_true rfl) rfl (fun C => ?_)
  unfold wX11_bestBarrier at h
  refine g_iload_n (n := 1) dX11_bestBarrier_0 rfl rfl rfl ?_
  refine g_if_lt (n := 4) 14 dX11_bestBarrier_1 (by decide) rfl (fun hc => ?_) (fun hc => ?_)
  · have h := h.1 hc
    refine g_less (bc' := 2) (bs' := 12) (Nat.le_of_ble_eq_true rfl) (Nat.le_of_ble_eq_true rfl) ?_
    exact tjX11_bestBarrier_14  _ _ _ h
  · have h := h.2 hc
    refine g_iload_n (n := 5) dX11_bestBarrier_4 rfl rfl rfl ?_
    refine g_bipush (n := 7) (v := (nI 48)) dX11_bestBarrier_5 rfl rfl ?_
    refine g_icmp_gt (n := 10) 14 dX11_bestBarrier_7 (by decide) rfl (fun hc => ?_) (fun hc => ?_)
    · have h := h.1 hc
      refine g_less (bc' := 2) (bs' := 12) (Nat.le_of_ble_eq_true rfl) (Nat.le_of_ble_eq_true rfl) ?_
      exact tjX11_bestBarrier_14  _ _ _ h
    · have h := h.2 hc
      refine g_iconst (n := 11) (v := (nI 1)) dX11_bestBarrier_10 rfl rfl ?_
      refine g_goto 15 dX11_bestBarrier_11 (by decide) ?_
      refine g_less (bc' := 2) (bs' := 12) (Nat.le_of_ble_eq_true rfl) (Nat.le_of_ble_eq_true rfl) ?_
      exact tjX11_bestBarrier_15  _ _ _ _ h
def wX11_lostPages (K : Int32 → ab_F → ab_F → Prop) (KX : String → ab_F → ab_F → Prop) (I A : ab_F) (p0 : Int32) : Prop := wX4_hasProcess (fun r_3 I_1 A_2 => wX11_demandIndex (fun I_4 A_5 => wX8_lostSet (fun r_8 I_6 A_7 => K r_8 I_6 A_7) I_4 A_5 p0) KX I_1 A_2 r_3) I A p0
set_option maxRecDepth 20000 in
theorem ctX11_lostPages {Z : ab_Z} {K : Int32 → ab_F → ab_F → Prop} {KX : String → ab_F → ab_F → Prop} {I A : ab_F} {p0 : Int32} (h : wX11_lostPages K KX I A p0) : ab_Cl mX11_lostPages 8 1 6 [.ref 0, .int p0] (shC Z) I A (ab_Px (shC Z) KX (ab_ri K)) := by
  refine ab_enter (ls := [some (.ref 0), some (.int p0)]) (by decide +kernel) (Nat.le_of_ble_eq_true rfl) rfl (fun C => ?_)
  unfold wX11_lostPages at h
  refine g_aload_n (n := 1) dX11_lostPages_0 rfl rfl rfl ?_
  refine g_getR (n := 4) (k := 0) dX11_lostPages_1 sC_0 vc_15 (Nat.le_of_ble_eq_true rfl) rfl w_535 rfl ?_
  refine g_getR (n := 7) (k := 0) dX11_lostPages_4 sC_8 vc_12 (Nat.le_of_ble_eq_true rfl) rfl w_400 rfl ?_
  refine g_iload_n (n := 8) dX11_lostPages_7 rfl rfl rfl ?_
  refine g_callV (n := 11) (as := [.int p0]) (bc' := 1) (bs' := 6) sC_9 vc_8 (ctX4_hasProcess h) okX4_hasProcess rfl w_1582 w_815 w_816 w_101 dX11_lostPages_8 rfl rfl (Nat.le_of_ble_eq_true rfl) (Nat.le_of_ble_eq_true rfl) (Nat.le_of_ble_eq_true rfl) (Nat.le_of_ble_eq_true rfl) rfl (fun E sh1 I1 A1 hp _ => hp.2.elim) (fun ro sh_ I_1 A_2 hp hle => ?_)
  obtain ⟨rfl, r_3, rfl, h⟩ := hp
  refine g_callS (n := 14) (as := [.int r_3]) (bc' := 0) (bs' := 0) (ctX11_demandIndex h) okX11_demandIndex w_1583 w_1584 dX11_lostPages_11 rfl rfl (Nat.le_of_ble_eq_true rfl) (Nat.le_of_ble_eq_true rfl) (Nat.le_of_ble_eq_true rfl) (Nat.le_of_ble_eq_true rfl) rfl (fun E sh1 I1 A1 hp _ => hp) (fun ro sh_ I_4 A_5 hp hle => ?_)
  obtain ⟨rfl, rfl, h⟩ := hp
  refine g_aload_n (n := 15) dX11_lostPages_14 rfl rfl rfl ?_
  refine g_getR (n := 18) (k := 0) dX11_lostPages_15 sC_0 vc_15 (Nat.le_of_ble_eq_true rfl) rfl w_535 rfl ?_
  refine g_iload_n (n := 19) dX11_lostPages_18 rfl rfl rfl ?_
  refine g_callV (n := 22) (as := [.int p0]) (bc' := 0) (bs' := 0) sC_8 vc_12 (ctX8_lostSet h) okX8_lostSet rfl w_1812 w_753 w_754 w_100 dX11_lostPages_19 rfl rfl (Nat.le_of_ble_eq_true rfl) (Nat.le_of_ble_eq_true rfl) (Nat.le_of_ble_eq_true rfl) (Nat.le_of_ble_eq_true rfl) rfl (fun E sh1 I1 A1 hp _ => hp.2.elim) (fun ro sh_ I_6 A_7 hp hle => ?_)
  obtain ⟨rfl, r_8, rfl, h⟩ := hp
  exact g_iret rfl rfl dX11_lostPages_22 ⟨rfl, _, rfl, h⟩
def wjX11_barrierLog_40 (K : Int32 → ab_F → ab_F → Prop) (KX : String → ab_F → ab_F → Prop) (x1 : Int32) (x2 : Int32) (s0 : Int32) (I A : ab_F) : Prop := wX11_demandArgument (fun I_3 A_4 => wX1_logged (fun r_7 I_5 A_6 => K r_7 I_5 A_6) I_3 A_4 x1 x2) KX I A s0
def wjX11_barrierLog_39 (K : Int32 → ab_F → ab_F → Prop) (KX : String → ab_F → ab_F → Prop) (x1 : Int32) (x2 : Int32) (I A : ab_F) : Prop := wjX11_barrierLog_40 K KX x1 x2 (nI 0) I A
def wjX11_barrierLog_23 (K : Int32 → ab_F → ab_F → Prop) (KX : String → ab_F → ab_F → Prop) (x1 : Int32) (x2 : Int32) (s0 : Int32) (I A : ab_F) : Prop := wX11_demandIndex (fun I_1 A_2 => ((x2 < 0 → wjX11_barrierLog_39 K KX x1 x2 I_1 A_2) ∧ (¬ x2 < 0 → (((nI 4) ≤ x2 → wjX11_barrierLog_39 K KX x1 x2 I_1 A_2) ∧ (¬ (nI 4) ≤ x2 → wjX11_barrierLog_40 K KX x1 x2 (nI 1) I_1 A_2))))) KX I A s0
def wjX11_barrierLog_22 (K : Int32 → ab_F → ab_F → Prop) (KX : String → ab_F → ab_F → Prop) (x1 : Int32) (x2 : Int32) (I A : ab_F) : Prop := wjX11_barrierLog_23 K KX x1 x2 (nI 0) I A
def wX11_barrierLog (K : Int32 → ab_F → ab_F → Prop) (KX : String → ab_F → ab_F → Prop) (I A : ab_F) (p0 : Int32) (p1 : Int32) : Prop := ((p0 < 0 → wjX11_barrierLog_22 K KX p0 p1 I A) ∧ (¬ p0 < 0 → wX1_countLogged (fun r_10 I_8 A_9 => ((r_10 ≤ p0 → wjX11_barrierLog_22 K KX p0 p1 I_8 A_9) ∧ (¬ r_10 ≤ p0 → wjX11_barrierLog_23 K KX p0 p1 (nI 1) I_8 A_9))) I A ))
set_option maxRecDepth 20000 in
theorem tjX11_barrierLog_40 {C : ab_X} {Z : ab_Z} {K : Int32 → ab_F → ab_F → Prop} {KX : String → ab_F → ab_F → Prop} (x1 : Int32) (x2 : Int32) (s0 : Int32) (I A : ab_F) (h : wjX11_barrierLog_40 K KX x1 x2 s0 I A) : ab_G mX11_barrierLog 8 C (ab_Px (shC Z) KX (ab_ri K)) 40 [some (.ref 0), some (.int x1), some (.int x2)] [.int s0] (shC Z) I A 1 6 := by
  unfold wjX11_barrierLog_40 at h
  refine g_callS (n := 43) (as := [.int s0]) (bc' := 0) (bs' := 0) (ctX11_demandArgument h) okX11_demandArgument w_1436 w_1437 dX11_barrierLog_40 rfl rfl (Nat.le_of_ble_eq_true rfl) (Nat.le_of_ble_eq_true rfl) (Nat.le_of_ble_eq_true rfl) (Nat.le_of_ble_eq_true rfl) rfl (fun E sh1 I1 A1 hp _ => hp) (fun ro sh_ I_3 A_4 hp hle => ?_)
  obtain ⟨rfl, rfl, h⟩ := hp
  refine g_aload_n (n := 44) dX11_barrierLog_43 rfl rfl rfl ?_
  refine g_getR (n := 47) (k := 0) dX11_barrierLog_44 sC_0 vc_15 (Nat.le_of_ble_eq_true rfl) rfl w_535 rfl ?_
  refine g_getR (n := 50) (k := 3) dX11_barrierLog_47 sC_8 vc_12 (Nat.le_of_ble_eq_true rfl) rfl w_406 rfl ?_
  refine g_iload_n (n := 51) dX11_barrierLog_50 rfl rfl rfl ?_
  refine g_iload_n (n := 52) dX11_barrierLog_51 rfl rfl rfl ?_
  refine g_callV (n := 55) (as := [.int x1, .int x2]) (bc' := 0) (bs' := 0) sC_24 vc_5 (ctX1_logged h) okX1_logged rfl w_1825 w_1826 w_1827 w_104 dX11_barrierLog_52 rfl rfl (Nat.le_of_ble_eq_true rfl) (Nat.le_of_ble_eq_true rfl) (Nat.le_of_ble_eq_true rfl) (Nat.le_of_ble_eq_true rfl) rfl (fun E sh1 I1 A1 hp _ => hp.2.elim) (fun ro sh_ I_5 A_6 hp hle => ?_)
  obtain ⟨rfl, r_7, rfl, h⟩ := hp
  exact g_iret rfl rfl dX11_barrierLog_55 ⟨rfl, _, rfl, h⟩
set_option maxRecDepth 20000 in
theorem tjX11_barrierLog_39 {C : ab_X} {Z : ab_Z} {K : Int32 → ab_F → ab_F → Prop} {KX : String → ab_F → ab_F → Prop} (x1 : Int32) (x2 : Int32) (I A : ab_F) (h : wjX11_barrierLog_39 K KX x1 x2 I A) : ab_G mX11_barrierLog 8 C (ab_Px (shC Z) KX (ab_ri K)) 39 [some (.ref 0), some (.int x1), some (.int x2)] [] (shC Z) I A 1 6 := by
  unfold wjX11_barrierLog_39 at h
  refine g_iconst (n := 40) (v := (nI 0)) dX11_barrierLog_39 rfl rfl ?_
  refine g_less (bc' := 1) (bs' := 6) (Nat.le_of_ble_eq_true rfl) (Nat.le_of_ble_eq_true rfl) ?_
  exact tjX11_barrierLog_40  _ _ _ _ _ h
set_option maxRecDepth 20000 in
theorem tjX11_barrierLog_23 {C : ab_X} {Z : ab_Z} {K : Int32 → ab_F → ab_F → Prop} {KX : String → ab_F → ab_F → Prop} (x1 : Int32) (x2 : Int32) (s0 : Int32) (I A : ab_F) (h : wjX11_barrierLog_23 K KX x1 x2 s0 I A) : ab_G mX11_barrierLog 8 C (ab_Px (shC Z) KX (ab_ri K)) 23 [some (.ref 0), some (.int x1), some (.int x2)] [.int s0] (shC Z) I A 2 12 := by
  unfold wjX11_barrierLog_23 at h
  refine g_callS (n := 26) (as := [.int s0]) (bc' := 1) (bs' := 6) (ctX11_demandIndex h) okX11_demandIndex w_1583 w_1584 dX11_barrierLog_23 rfl rfl (Nat.le_of_ble_eq_true rfl) (Nat.le_of_ble_eq_true rfl) (Nat.le_of_ble_eq_true rfl) (Nat.le_of_ble_eq_true rfl) rfl (fun E sh1 I1 A1 hp _ => hp) (fun ro sh_ I_1 A_2 hp hle => ?_)
  obtain ⟨rfl, rfl, h⟩ := hp
  refine g_iload_n (n := 27) dX11_barrierLog_26 rfl rfl rfl ?_
  refine g_if_lt (n := 30) 39 dX11_barrierLog_27 (by decide) rfl (fun hc => ?_) (fun hc => ?_)
  · have h := h.1 hc
    refine g_less (bc' := 1) (bs' := 6) (Nat.le_of_ble_eq_true rfl) (Nat.le_of_ble_eq_true rfl) ?_
    exact tjX11_barrierLog_39  _ _ _ _ h
  · have h := h.2 hc
    refine g_iload_n (n := 31) dX11_barrierLog_30 rfl rfl rfl ?_
    refine g_iconst (n := 32) (v := (nI 4)) dX11_barrierLog_31 rfl rfl ?_
    refine g_icmp_ge (n := 35) 39 dX11_barrierLog_32 (by decide) rfl (fun hc => ?_) (fun hc => ?_)
    · have h := h.1 hc
      refine g_less (bc' := 1) (bs' := 6) (Nat.le_of_ble_eq_true rfl) (Nat.le_of_ble_eq_true rfl) ?_
      exact tjX11_barrierLog_39  _ _ _ _ h
    · have h := h.2 hc
      refine g_iconst (n := 36) (v := (nI 1)) dX11_barrierLog_35 rfl rfl ?_
      refine g_goto 40 dX11_barrierLog_36 (by decide) ?_
      refine g_less (bc' := 1) (bs' := 6) (Nat.le_of_ble_eq_true rfl) (Nat.le_of_ble_eq_true rfl) ?_
      exact tjX11_barrierLog_40  _ _ _ _ _ h
set_option maxRecDepth 20000 in
theorem tjX11_barrierLog_22 {C : ab_X} {Z : ab_Z} {K : Int32 → ab_F → ab_F → Prop} {KX : String → ab_F → ab_F → Prop} (x1 : Int32) (x2 : Int32) (I A : ab_F) (h : wjX11_barrierLog_22 K KX x1 x2 I A) : ab_G mX11_barrierLog 8 C (ab_Px (shC Z) KX (ab_ri K)) 22 [some (.ref 0), some (.int x1), some (.int x2)] [] (shC Z) I A 2 12 := by
  unfold wjX11_barrierLog_22 at h
  refine g_iconst (n := 23) (v := (nI 0)) dX11_barrierLog_22 rfl rfl ?_
  refine g_less (bc' := 2) (bs' := 12) (Nat.le_of_ble_eq_true rfl) (Nat.le_of_ble_eq_true rfl) ?_
  exact tjX11_barrierLog_23  _ _ _ _ _ h
set_option maxRecDepth 20000 in
theorem ctX11_barrierLog {Z : ab_Z} {K : Int32 → ab_F → ab_F → Prop} {KX : String → ab_F → ab_F → Prop} {I A : ab_F} {p0 : Int32} {p1 : Int32} (h : wX11_barrierLog K KX I A p0 p1) : ab_Cl mX11_barrierLog 8 2 12 [.ref 0, .int p0, .int p1] (shC Z) I A (ab_Px (shC Z) KX (ab_ri K)) := by
  refine ab_enter (ls := [some (.ref 0), some (.int p0), some (.int p1)]) (by decide +kernel) (Nat.le_of_ble_eq_true rfl) rfl (fun C => ?_)
  unfold wX11_barrierLog at h
  refine g_iload_n (n := 1) dX11_barrierLog_0 rfl rfl rfl ?_
  refine g_if_lt (n := 4) 22 dX11_barrierLog_1 (by decide) rfl (fun hc => ?_) (fun hc => ?_)
  · have h := h.1 hc
    refine g_less (bc' := 2) (bs' := 12) (Nat.le_of_ble_eq_true rfl) (Nat.le_of_ble_eq_true rfl) ?_
    exact tjX11_barrierLog_22  _ _ _ _ h
  · have h := h.2 hc
    refine g_iload_n (n := 5) dX11_barrierLog_4 rfl rfl rfl ?_
    refine g_aload_n (n := 6) dX11_barrierLog_5 rfl rfl rfl ?_
    refine g_getR (n := 9) (k := 0) dX11_barrierLog_6 sC_0 vc_15 (Nat.le_of_ble_eq_true rfl) rfl w_535 rfl ?_
    refine g_getR (n := 12) (k := 3) dX11_barrierLog_9 sC_8 vc_12 (Nat.le_of_ble_eq_true rfl) rfl w_406 rfl ?_
    refine g_callV (n := 15) (as := []) (bc' := 2) (bs' := 12) sC_24 vc_5 (ctX1_countLogged h) okX1_countLogged rfl w_1820 w_1821 w_1822 w_104 dX11_barrierLog_12 rfl rfl (Nat.le_of_ble_eq_true rfl) (Nat.le_of_ble_eq_true rfl) (Nat.le_of_ble_eq_true rfl) (Nat.le_of_ble_eq_true rfl) rfl (fun E sh1 I1 A1 hp _ => hp.2.elim) (fun ro sh_ I_8 A_9 hp hle => ?_)
    obtain ⟨rfl, r_10, rfl, h⟩ := hp
    refine g_icmp_ge (n := 18) 22 dX11_barrierLog_15 (by decide) rfl (fun hc => ?_) (fun hc => ?_)
    · have h := h.1 hc
      refine g_less (bc' := 2) (bs' := 12) (Nat.le_of_ble_eq_true rfl) (Nat.le_of_ble_eq_true rfl) ?_
      exact tjX11_barrierLog_22  _ _ _ _ h
    · have h := h.2 hc
      refine g_iconst (n := 19) (v := (nI 1)) dX11_barrierLog_18 rfl rfl ?_
      refine g_goto 23 dX11_barrierLog_19 (by decide) ?_
      refine g_less (bc' := 2) (bs' := 12) (Nat.le_of_ble_eq_true rfl) (Nat.le_of_ble_eq_true rfl) ?_
      exact tjX11_barrierLog_23  _ _ _ _ _ h
def wjX11_recentAccess_23 (K : Int32 → ab_F → ab_F → Prop) (KX : String → ab_F → ab_F → Prop) (x1 : Int32) (s0 : Int32) (I A : ab_F) : Prop := wX11_demandIndex (fun I_1 A_2 => wX0_recentAt (fun r_5 I_3 A_4 => K r_5 I_3 A_4) I_1 A_2 x1) KX I A s0
def wjX11_recentAccess_22 (K : Int32 → ab_F → ab_F → Prop) (KX : String → ab_F → ab_F → Prop) (x1 : Int32) (I A : ab_F) : Prop := wjX11_recentAccess_23 K KX x1 (nI 0) I A
def wX11_recentAccess (K : Int32 → ab_F → ab_F → Prop) (KX : String → ab_F → ab_F → Prop) (I A : ab_F) (p0 : Int32) : Prop := ((p0 < 0 → wjX11_recentAccess_22 K KX p0 I A) ∧ (¬ p0 < 0 → wX0_countRecent (fun r_8 I_6 A_7 => ((r_8 ≤ p0 → wjX11_recentAccess_22 K KX p0 I_6 A_7) ∧ (¬ r_8 ≤ p0 → wjX11_recentAccess_23 K KX p0 (nI 1) I_6 A_7))) I A ))
set_option maxRecDepth 20000 in
theorem tjX11_recentAccess_23 {C : ab_X} {Z : ab_Z} {K : Int32 → ab_F → ab_F → Prop} {KX : String → ab_F → ab_F → Prop} (x1 : Int32) (s0 : Int32) (I A : ab_F) (h : wjX11_recentAccess_23 K KX x1 s0 I A) : ab_G mX11_recentAccess 8 C (ab_Px (shC Z) KX (ab_ri K)) 23 [some (.ref 0), some (.int x1)] [.int s0] (shC Z) I A 1 6 := by
  unfold wjX11_recentAccess_23 at h
  refine g_callS (n := 26) (as := [.int s0]) (bc' := 0) (bs' := 0) (ctX11_demandIndex h) okX11_demandIndex w_1583 w_1584 dX11_recentAccess_23 rfl rfl (Nat.le_of_ble_eq_true rfl) (Nat.le_of_ble_eq_true rfl) (Nat.le_of_ble_eq_true rfl) (Nat.le_of_ble_eq_true rfl) rfl (fun E sh1 I1 A1 hp _ => hp) (fun ro sh_ I_1 A_2 hp hle => ?_)
  obtain ⟨rfl, rfl, h⟩ := hp
  refine g_aload_n (n := 27) dX11_recentAccess_26 rfl rfl rfl ?_
  refine g_getR (n := 30) (k := 0) dX11_recentAccess_27 sC_0 vc_15 (Nat.le_of_ble_eq_true rfl) rfl w_535 rfl ?_
  refine g_getR (n := 33) (k := 4) dX11_recentAccess_30 sC_8 vc_12 (Nat.le_of_ble_eq_true rfl) rfl w_408 rfl ?_
  refine g_iload_n (n := 34) dX11_recentAccess_33 rfl rfl rfl ?_
  refine g_callV (n := 37) (as := [.int x1]) (bc' := 0) (bs' := 0) sC_29 vc_4 (ctX0_recentAt h) okX0_recentAt rfl w_1841 w_1842 w_1843 w_105 dX11_recentAccess_34 rfl rfl (Nat.le_of_ble_eq_true rfl) (Nat.le_of_ble_eq_true rfl) (Nat.le_of_ble_eq_true rfl) (Nat.le_of_ble_eq_true rfl) rfl (fun E sh1 I1 A1 hp _ => hp.2.elim) (fun ro sh_ I_3 A_4 hp hle => ?_)
  obtain ⟨rfl, r_5, rfl, h⟩ := hp
  exact g_iret rfl rfl dX11_recentAccess_37 ⟨rfl, _, rfl, h⟩
set_option maxRecDepth 20000 in
theorem tjX11_recentAccess_22 {C : ab_X} {Z : ab_Z} {K : Int32 → ab_F → ab_F → Prop} {KX : String → ab_F → ab_F → Prop} (x1 : Int32) (I A : ab_F) (h : wjX11_recentAccess_22 K KX x1 I A) : ab_G mX11_recentAccess 8 C (ab_Px (shC Z) KX (ab_ri K)) 22 [some (.ref 0), some (.int x1)] [] (shC Z) I A 1 6 := by
  unfold wjX11_recentAccess_22 at h
  refine g_iconst (n := 23) (v := (nI 0)) dX11_recentAccess_22 rfl rfl ?_
  refine g_less (bc' := 1) (bs' := 6) (Nat.le_of_ble_eq_true rfl) (Nat.le_of_ble_eq_true rfl) ?_
  exact tjX11_recentAccess_23  _ _ _ _ h
set_option maxRecDepth 20000 in
theorem ctX11_recentAccess {Z : ab_Z} {K : Int32 → ab_F → ab_F → Prop} {KX : String → ab_F → ab_F → Prop} {I A : ab_F} {p0 : Int32} (h : wX11_recentAccess K KX I A p0) : ab_Cl mX11_recentAccess 8 1 6 [.ref 0, .int p0] (shC Z) I A (ab_Px (shC Z) KX (ab_ri K)) := by
  refine ab_enter (ls := [some (.ref 0), some (.int p0)]) (by decide +kernel) (Nat.le_of_ble_eq_true rfl) rfl (fun C => ?_)
  unfold wX11_recentAccess at h
  refine g_iload_n (n := 1) dX11_recentAccess_0 rfl rfl rfl ?_
  refine g_if_lt (n := 4) 22 dX11_recentAccess_1 (by decide) rfl (fun hc => ?_) (fun hc => ?_)
  · have h := h.1 hc
    refine g_less (bc' := 1) (bs' := 6) (Nat.le_of_ble_eq_true rfl) (Nat.le_of_ble_eq_true rfl) ?_
    exact tjX11_recentAccess_22  _ _ _ h
  · have h := h.2 hc
    refine g_iload_n (n := 5) dX11_recentAccess_4 rfl rfl rfl ?_
    refine g_aload_n (n := 6) dX11_recentAccess_5 rfl rfl rfl ?_
    refine g_getR (n := 9) (k := 0) dX11_recentAccess_6 sC_0 vc_15 (Nat.le_of_ble_eq_true rfl) rfl w_535 rfl ?_
    refine g_getR (n := 12) (k := 4) dX11_recentAccess_9 sC_8 vc_12 (Nat.le_of_ble_eq_true rfl) rfl w_408 rfl ?_
    refine g_callV (n := 15) (as := []) (bc' := 1) (bs' := 6) sC_29 vc_4 (ctX0_countRecent h) okX0_countRecent rfl w_1836 w_1837 w_1838 w_105 dX11_recentAccess_12 rfl rfl (Nat.le_of_ble_eq_true rfl) (Nat.le_of_ble_eq_true rfl) (Nat.le_of_ble_eq_true rfl) (Nat.le_of_ble_eq_true rfl) rfl (fun E sh1 I1 A1 hp _ => hp.2.elim) (fun ro sh_ I_6 A_7 hp hle => ?_)
    obtain ⟨rfl, r_8, rfl, h⟩ := hp
    refine g_icmp_ge (n := 18) 22 dX11_recentAccess_15 (by decide) rfl (fun hc => ?_) (fun hc => ?_)
    · have h := h.1 hc
      refine g_less (bc' := 1) (bs' := 6) (Nat.le_of_ble_eq_true rfl) (Nat.le_of_ble_eq_true rfl) ?_
      exact tjX11_recentAccess_22  _ _ _ h
    · have h := h.2 hc
      refine g_iconst (n := 19) (v := (nI 1)) dX11_recentAccess_18 rfl rfl ?_
      refine g_goto 23 dX11_recentAccess_19 (by decide) ?_
      refine g_less (bc' := 1) (bs' := 6) (Nat.le_of_ble_eq_true rfl) (Nat.le_of_ble_eq_true rfl) ?_
      exact tjX11_recentAccess_23  _ _ _ _ h
