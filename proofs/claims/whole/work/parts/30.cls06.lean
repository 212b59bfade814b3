def wjX11_demandArgument_9 (K : ab_F → ab_F → Prop) (KX : String → ab_F → ab_F → Prop) (s0 : Int32) (I A : ab_F) : Prop := wX11_demand (fun I_1 A_2 => K I_1 A_2) KX I A s0
def wX11_demandArgument (K : ab_F → ab_F → Prop) (KX : String → ab_F → ab_F → Prop) (I A : ab_F) (p0 : Int32) : Prop := ((p0 = 0 → wjX11_demandArgument_9 K KX (nI 2) I A) ∧ (¬ p0 = 0 → wjX11_demandArgument_9 K KX (nI 0) I A))
set_option maxRecDepth 20000 in
theorem tjX11_demandArgument_9 {C : ab_X} {Z : ab_Z} {K : ab_F → ab_F → Prop} {KX : String → ab_F → ab_F → Prop} (s0 : Int32) (I A : ab_F) (h : wjX11_demandArgument_9 K KX s0 I A) : ab_G mX11_demandArgument 7 C (ab_Px (shC Z) KX (ab_rv K)) 9 [none] [.int s0] (shC Z) I A 1 6 := by
  unfold wjX11_demandArgument_9 at h
  refine g_callS (n := 12) (as := [.int s0]) (bc' := 0) (bs' := 0) (ctX11_demand h) okX11_demand w_1439 w_1440 dX11_demandArgument_9 rfl rfl (Nat.le_of_ble_eq_true rfl) (Nat.le_of_ble_eq_true rfl) (Nat.le_of_ble_eq_true rfl) (Nat.le_of_ble_eq_true rfl) rfl (fun E sh1 I1 A1 hp _ => hp) (fun ro sh_ I_1 A_2 hp hle => ?_)
  obtain ⟨rfl, rfl, h⟩ := hp
  exact g_vret rfl dX11_demandArgument_12 ⟨rfl, rfl, h⟩
set_option maxRecDepth 20000 in
theorem ctX11_demandArgument {Z : ab_Z} {K : ab_F → ab_F → Prop} {KX : String → ab_F → ab_F → Prop} {I A : ab_F} {p0 : Int32} (h : wX11_demandArgument K KX I A p0) : ab_Cl mX11_demandArgument 7 1 6 [.int p0] (shC Z) I A (ab_Px (shC Z) KX (ab_rv K)) := by
  refine ab_enter (ls := [some (.int p0)]) (by decide +kernel) (Nat.le_of_ble_eq_true rfl) rfl (fun C => ?_)
  unfold wX11_demandArgument at h
  refine g_iload_n (n := 1) dX11_demandArgument_0 rfl rfl rfl ?_
  refine g_if_eq (n := 4) 8 dX11_demandArgument_1 (by decide) rfl (fun hc => ?_) (fun hc => ?_)
  · have h := h.1 hc
    refine g_iconst (n := 9) (v := (nI 2)) dX11_demandArgument_8 rfl rfl ?_
    refine g_forget (ls' := [none]) (ab_fg rfl) ?_
    refine g_less (bc' := 1) (bs' := 6) (Nat.le_of_ble_eq_true rfl) (Nat.le_of_ble_eq_true rfl) ?_
    exact tjX11_demandArgument_9  _ _ _ h
  · have h := h.2 hc
    refine g_iconst (n := 5) (v := (nI 0)) dX11_demandArgument_4 rfl rfl ?_
    refine g_goto 9 dX11_demandArgument_5 (by decide) ?_
    refine g_forget (ls' := [none]) (ab_fg rfl) ?_
    refine g_less (bc' := 1) (bs' := 6) (Nat.le_of_ble_eq_true rfl) (Nat.le_of_ble_eq_true rfl) ?_
    exact tjX11_demandArgument_9  _ _ _ h
def wjX11_truncateText_20 (K : Int32 → ab_F → ab_F → Prop) (KX : String → ab_F → ab_F → Prop) (x1 : Int32) (s0 : Int32) (I A : ab_F) : Prop := wX11_demandArgument (fun I_1 A_2 => K x1 (wr I_1 1 1 x1) A_2) KX I A s0
def wjX11_truncateText_19 (K : Int32 → ab_F → ab_F → Prop) (KX : String → ab_F → ab_F → Prop) (x1 : Int32) (I A : ab_F) : Prop := wjX11_truncateText_20 K KX x1 (nI 0) I A
def wX11_truncateText (K : Int32 → ab_F → ab_F → Prop) (KX : String → ab_F → ab_F → Prop) (I A : ab_F) (p0 : Int32) : Prop := ((p0 < 0 → wjX11_truncateText_19 K KX p0 I A) ∧ (¬ p0 < 0 → (((I 1 1) < p0 → wjX11_truncateText_19 K KX p0 I A) ∧ (¬ (I 1 1) < p0 → wjX11_truncateText_20 K KX p0 (nI 1) I A))))
set_option maxRecDepth 20000 in
theorem tjX11_truncateText_20 {C : ab_X} {Z : ab_Z} {K : Int32 → ab_F → ab_F → Prop} {KX : String → ab_F → ab_F → Prop} (x1 : Int32) (s0 : Int32) (I A : ab_F) (h : wjX11_truncateText_20 K KX x1 s0 I A) : ab_G mX11_truncateText 8 C (ab_Px (shC Z) KX (ab_ri K)) 20 [some (.ref 0), some (.int x1)] [.int s0] (shC Z) I A 1 6 := by
  unfold wjX11_truncateText_20 at h
  refine g_callS (n := 23) (as := [.int s0]) (bc' := 0) (bs' := 0) (ctX11_demandArgument h) okX11_demandArgument w_1436 w_1437 dX11_truncateText_20 rfl rfl (Nat.le_of_ble_eq_true rfl) (Nat.le_of_ble_eq_true rfl) (Nat.le_of_ble_eq_true rfl) (Nat.le_of_ble_eq_true rfl) rfl (fun E sh1 I1 A1 hp _ => hp) (fun ro sh_ I_1 A_2 hp hle => ?_)
  obtain ⟨rfl, rfl, h⟩ := hp
  refine g_aload_n (n := 24) dX11_truncateText_23 rfl rfl rfl ?_
  refine g_getR (n := 27) (k := 2) dX11_truncateText_24 sC_0 vc_15 (Nat.le_of_ble_eq_true rfl) rfl w_537 rfl ?_
  refine g_iload_n (n := 28) dX11_truncateText_27 rfl rfl rfl ?_
  refine g_putI (n := 31) (k := 1) dX11_truncateText_28 sC_1 vc_14 (Nat.le_of_ble_eq_true rfl) rfl w_149 rfl rfl rfl rfl rfl ?_
  refine g_iload_n (n := 32) dX11_truncateText_31 rfl rfl rfl ?_
  exact g_iret rfl rfl dX11_truncateText_32 ⟨rfl, _, rfl, h⟩
set_option maxRecDepth 20000 in
theorem tjX11_truncateText_19 {C : ab_X} {Z : ab_Z} {K : Int32 → ab_F → ab_F → Prop} {KX : String → ab_F → ab_F → Prop} (x1 : Int32) (I A : ab_F) (h : wjX11_truncateText_19 K KX x1 I A) : ab_G mX11_truncateText 8 C (ab_Px (shC Z) KX (ab_ri K)) 19 [some (.ref 0), some (.int x1)] [] (shC Z) I A 1 6 := by
  unfold wjX11_truncateText_19 at h
  refine g_iconst (n := 20) (v := (nI 0)) dX11_truncateText_19 rfl rfl ?_
  refine g_less (bc' := 1) (bs' := 6) (Nat.le_of_ble_eq_true rfl) (Nat.le_of_ble_eq_true rfl) ?_
  exact tjX11_truncateText_20  _ _ _ _ h
set_option maxRecDepth 20000 in
theorem ctX11_truncateText {Z : ab_Z} {K : Int32 → ab_F → ab_F → Prop} {KX : String → ab_F → ab_F → Prop} {I A : ab_F} {p0 : Int32} (h : wX11_truncateText K KX I A p0) : ab_Cl mX11_truncateText 8 1 6 [.ref 0, .int p0] (shC Z) I A (ab_Px (shC Z) KX (ab_ri K)) := by
  refine ab_enter (ls := [some (.ref 0), some (.int p0)]) (by decide +kernel) (Nat.le_of_ble_eq_true rfl) rfl (fun C => ?_)
  unfold wX11_truncateText at h
  refine g_iload_n (n := 1) dX11_truncateText_0 rfl rfl rfl ?_
  refine g_if_lt (n := 4) 19 dX11_truncateText_1 (by decide) rfl (fun hc => ?_) (fun hc => ?_)
  · have h := h.1 hc
    refine g_less (bc' := 1) (bs' := 6) (Nat.le_of_ble_eq_true rfl) (Nat.le_of_ble_eq_true rfl) ?_
    exact tjX11_truncateText_19  _ _ _ h
  · have h := h.2 hc
    refine g_iload_n (n := 5) dX11_truncateText_4 rfl rfl rfl ?_
    refine g_aload_n (n := 6) dX11_truncateText_5 rfl rfl rfl ?_
    refine g_getR (n := 9) (k := 2) dX11_truncateText_6 sC_0 vc_15 (Nat.le_of_ble_eq_true rfl) rfl w_537 rfl ?_
    refine g_getIE (n := 12) (k := 1) (x := (I 1 1)) dX11_truncateText_9 sC_1 vc_14 (Nat.le_of_ble_eq_true rfl) rfl w_149 rfl rfl ?_
    refine g_icmp_gt (n := 15) 19 dX11_truncateText_12 (by decide) rfl (fun hc => ?_) (fun hc => ?_)
    · have h := h.1 hc
      refine g_less (bc' := 1) (bs' := 6) (Nat.le_of_ble_eq_true rfl) (Nat.le_of_ble_eq_true rfl) ?_
      exact tjX11_truncateText_19  _ _ _ h
    · have h := h.2 hc
      refine g_iconst (n := 16) (v := (nI 1)) dX11_truncateText_15 rfl rfl ?_
      refine g_goto 20 dX11_truncateText_16 (by decide) ?_
      refine g_less (bc' := 1) (bs' := 6) (Nat.le_of_ble_eq_true rfl) (Nat.le_of_ble_eq_true rfl) ?_
      exact tjX11_truncateText_20  _ _ _ _ h
def wX11_parseSystem (K : Int32 → ab_F → ab_F → Prop) (I A : ab_F)  : Prop := wX9_parse (fun r_3 I_1 A_2 => ((¬ r_3 = 0 → wX8_install (fun I_4 A_5 => wX3_forget (fun I_6 A_7 => K (I_6 9 0) I_6 A_7) I_4 A_5 ) (wr I_1 1 1 (nI 0)) A_2 ) ∧ (r_3 = 0 → K (-1 : Int32) (wr I_1 1 1 (nI 0)) A_2))) I A 
set_option maxRecDepth 20000 in
theorem ctX11_parseSystem {Z : ab_Z} {K : Int32 → ab_F → ab_F → Prop} {I A : ab_F}  (h : wX11_parseSystem K I A ) : ab_Cl mX11_parseSystem 10 0 0 [.ref 0] (shC Z) I A (ab_Px (shC Z) ab_no (ab_ri K)) := by
  refine ab_enter (ls := [some (.ref 0), none]) (by decide +kernel) (Nat.le_of_ble_eq_true rfl) rfl (fun C => ?_)
  unfold wX11_parseSystem at h
  refine g_aload_n (n := 1) dX11_parseSystem_0 rfl rfl rfl ?_
  refine g_getR (n := 4) (k := 3) dX11_parseSystem_1 sC_0 vc_15 (Nat.le_of_ble_eq_true rfl) rfl w_538 rfl ?_
  refine g_callV (n := 7) (as := []) (bc' := 0) (bs' := 0) sC_3 vc_13 (ctX9_parse h) okX9_parse rfl w_561 w_562 w_563 w_98 dX11_parseSystem_4 rfl rfl (Nat.le_of_ble_eq_true rfl) (Nat.le_of_ble_eq_true rfl) (Nat.le_of_ble_eq_true rfl) (Nat.le_of_ble_eq_true rfl) rfl (fun E sh1 I1 A1 hp _ => hp.2.elim) (fun ro sh_ I_1 A_2 hp hle => ?_)
  obtain ⟨rfl, r_3, rfl, h⟩ := hp
  refine g_istore_n (n := 8) (ls' := [some (.ref 0), some (.int r_3)]) dX11_parseSystem_7 rfl rfl (Nat.le_of_ble_eq_true rfl) (Nat.le_of_ble_eq_true rfl) rfl rfl ?_
  refine g_aload_n (n := 9) dX11_parseSystem_8 rfl rfl rfl ?_
  refine g_getR (n := 12) (k := 2) dX11_parseSystem_9 sC_0 vc_15 (Nat.le_of_ble_eq_true rfl) rfl w_537 rfl ?_
  refine g_iconst (n := 13) (v := (nI 0)) dX11_parseSystem_12 rfl rfl ?_
  refine g_putI (n := 16) (k := 1) dX11_parseSystem_13 sC_1 vc_14 (Nat.le_of_ble_eq_true rfl) rfl w_149 rfl rfl rfl rfl rfl ?_
  refine g_iload_n (n := 17) dX11_parseSystem_16 rfl rfl rfl ?_
  refine g_if_ne (n := 20) 22 dX11_parseSystem_17 (by decide) rfl (fun hc => ?_) (fun hc => ?_)
  · have h := h.1 hc
    refine g_aload_n (n := 23) dX11_parseSystem_22 rfl rfl rfl ?_
    refine g_getR (n := 26) (k := 0) dX11_parseSystem_23 sC_0 vc_15 (Nat.le_of_ble_eq_true rfl) rfl w_535 rfl ?_
    refine g_aload_n (n := 27) dX11_parseSystem_26 rfl rfl rfl ?_
    refine g_getR (n := 30) (k := 3) dX11_parseSystem_27 sC_0 vc_15 (Nat.le_of_ble_eq_true rfl) rfl w_538 rfl ?_
    refine g_callV (n := 33) (as := [.ref 3]) (bc' := 0) (bs' := 0) sC_8 vc_12 (ctX8_install h) okX8_install rfl w_427 w_428 w_429 w_100 dX11_parseSystem_30 rfl rfl (Nat.le_of_ble_eq_true rfl) (Nat.le_of_ble_eq_true rfl) (Nat.le_of_ble_eq_true rfl) (Nat.le_of_ble_eq_true rfl) rfl (fun E sh1 I1 A1 hp _ => hp.2.elim) (fun ro sh_ I_4 A_5 hp hle => ?_)
    obtain ⟨rfl, rfl, h⟩ := hp
    refine g_aload_n (n := 34) dX11_parseSystem_33 rfl rfl rfl ?_
    refine g_getR (n := 37) (k := 1) dX11_parseSystem_34 sC_0 vc_15 (Nat.le_of_ble_eq_true rfl) rfl w_536 rfl ?_
    refine g_callV (n := 40) (as := []) (bc' := 0) (bs' := 0) sC_32 vc_7 (ctX3_forget h) okX3_forget rfl w_664 w_665 w_666 w_106 dX11_parseSystem_37 rfl rfl (Nat.le_of_ble_eq_true rfl) (Nat.le_of_ble_eq_true rfl) (Nat.le_of_ble_eq_true rfl) (Nat.le_of_ble_eq_true rfl) rfl (fun E sh1 I1 A1 hp _ => hp.2.elim) (fun ro sh_ I_6 A_7 hp hle => ?_)
    obtain ⟨rfl, rfl, h⟩ := hp
    refine g_aload_n (n := 41) dX11_parseSystem_40 rfl rfl rfl ?_
    refine g_getR (n := 44) (k := 0) dX11_parseSystem_41 sC_0 vc_15 (Nat.le_of_ble_eq_true rfl) rfl w_535 rfl ?_
    refine g_getR (n := 47) (k := 0) dX11_parseSystem_44 sC_8 vc_12 (Nat.le_of_ble_eq_true rfl) rfl w_400 rfl ?_
    refine g_getIE (n := 50) (k := 0) (x := (I_6 9 0)) dX11_parseSystem_47 sC_9 vc_8 (Nat.le_of_ble_eq_true rfl) rfl w_238 rfl rfl ?_
    exact g_iret rfl rfl dX11_parseSystem_50 ⟨rfl, _, rfl, h⟩
  · have h := h.2 hc
    refine g_iconst (n := 21) (v := (-1 : Int32)) dX11_parseSystem_20 rfl rfl ?_
    exact g_iret rfl rfl dX11_parseSystem_21 ⟨rfl, _, rfl, h⟩
def wX11_errorCode (K : Int32 → ab_F → ab_F → Prop) (I A : ab_F)  : Prop := K (I 3 1) I A
set_option maxRecDepth 20000 in
theorem ctX11_errorCode {Z : ab_Z} {K : Int32 → ab_F → ab_F → Prop} {I A : ab_F}  (h : wX11_errorCode K I A ) : ab_Cl mX11_errorCode 0 0 0 [.ref 0] (shC Z) I A (ab_Px (shC Z) ab_no (ab_ri K)) := by
  refine ab_enter (ls := [some (.ref 0)]) (by decide +kernel) (Nat.le_of_ble_eq_true rfl) rfl (fun C => ?_)
  unfold wX11_errorCode at h
  refine g_aload_n (n := 1) dX11_errorCode_0 rfl rfl rfl ?_
  refine g_getR (n := 4) (k := 3) dX11_errorCode_1 sC_0 vc_15 (Nat.le_of_ble_eq_true rfl) rfl w_538 rfl ?_
  refine g_getIE (n := 7) (k := 1) (x := (I 3 1)) dX11_errorCode_4 sC_3 vc_13 (Nat.le_of_ble_eq_true rfl) rfl w_178 rfl rfl ?_
  exact g_iret rfl rfl dX11_errorCode_7 ⟨rfl, _, rfl, h⟩
def wX11_errorPosition (K : Int32 → ab_F → ab_F → Prop) (I A : ab_F)  : Prop := K (I 3 2) I A
set_option maxRecDepth 20000 in
theorem ctX11_errorPosition {Z : ab_Z} {K : Int32 → ab_F → ab_F → Prop} {I A : ab_F}  (h : wX11_errorPosition K I A ) : ab_Cl mX11_errorPosition 0 0 0 [.ref 0] (shC Z) I A (ab_Px (shC Z) ab_no (ab_ri K)) := by
  refine ab_enter (ls := [some (.ref 0)]) (by decide +kernel) (Nat.le_of_ble_eq_true rfl) rfl (fun C => ?_)
  unfold wX11_errorPosition at h
  refine g_aload_n (n := 1) dX11_errorPosition_0 rfl rfl rfl ?_
  refine g_getR (n := 4) (k := 3) dX11_errorPosition_1 sC_0 vc_15 (Nat.le_of_ble_eq_true rfl) rfl w_538 rfl ?_
  refine g_getIE (n := 7) (k := 2) (x := (I 3 2)) dX11_errorPosition_4 sC_3 vc_13 (Nat.le_of_ble_eq_true rfl) rfl w_180 rfl rfl ?_
  exact g_iret rfl rfl dX11_errorPosition_7 ⟨rfl, _, rfl, h⟩
def wX11_processCount (K : Int32 → ab_F → ab_F → Prop) (I A : ab_F)  : Prop := K (I 9 0) I A
set_option maxRecDepth 20000 in
theorem ctX11_processCount {Z : ab_Z} {K : Int32 → ab_F → ab_F → Prop} {I A : ab_F}  (h : wX11_processCount K I A ) : ab_Cl mX11_processCount 0 0 0 [.ref 0] (shC Z) I A (ab_Px (shC Z) ab_no (ab_ri K)) := by
  refine ab_enter (ls := [some (.ref 0)]) (by decide +kernel) (Nat.le_of_ble_eq_true rfl) rfl (fun C => ?_)
  unfold wX11_processCount at h
  refine g_aload_n (n := 1) dX11_processCount_0 rfl rfl rfl ?_
  refine g_getR (n := 4) (k := 0) dX11_processCount_1 sC_0 vc_15 (Nat.le_of_ble_eq_true rfl) rfl w_535 rfl ?_
  refine g_getR (n := 7) (k := 0) dX11_processCount_4 sC_8 vc_12 (Nat.le_of_ble_eq_true rfl) rfl w_400 rfl ?_
  refine g_getIE (n := 10) (k := 0) (x := (I 9 0)) dX11_processCount_7 sC_9 vc_8 (Nat.le_of_ble_eq_true rfl) rfl w_238 rfl rfl ?_
  exact g_iret rfl rfl dX11_processCount_10 ⟨rfl, _, rfl, h⟩
def wX11_frameCount (K : Int32 → ab_F → ab_F → Prop) (I A : ab_F)  : Prop := K (I 16 0) I A
set_option maxRecDepth 20000 in
theorem ctX11_frameCount {Z : ab_Z} {K : Int32 → ab_F → ab_F → Prop} {I A : ab_F}  (h : wX11_frameCount K I A ) : ab_Cl mX11_frameCount 0 0 0 [.ref 0] (shC Z) I A (ab_Px (shC Z) ab_no (ab_ri K)) := by
  refine ab_enter (ls := [some (.ref 0)]) (by decide +kernel) (Nat.le_of_ble_eq_true rfl) rfl (fun C => ?_)
  unfold wX11_frameCount at h
  refine g_aload_n (n := 1) dX11_frameCount_0 rfl rfl rfl ?_
  refine g_getR (n := 4) (k := 0) dX11_frameCount_1 sC_0 vc_15 (Nat.le_of_ble_eq_true rfl) rfl w_535 rfl ?_
  refine g_getR (n := 7) (k := 1) dX11_frameCount_4 sC_8 vc_12 (Nat.le_of_ble_eq_true rfl) rfl w_402 rfl ?_
  refine g_getIE (n := 10) (k := 0) (x := (I 16 0)) dX11_frameCount_7 sC_16 vc_6 (Nat.le_of_ble_eq_true rfl) rfl w_278 rfl rfl ?_
  exact g_iret rfl rfl dX11_frameCount_10 ⟨rfl, _, rfl, h⟩
def wX11_slotCount (K : Int32 → ab_F → ab_F → Prop) (I A : ab_F)  : Prop := K (I 20 0) I A
set_option maxRecDepth 20000 in
theorem ctX11_slotCount {Z : ab_Z} {K : Int32 → ab_F → ab_F → Prop} {I A : ab_F}  (h : wX11_slotCount K I A ) : ab_Cl mX11_slotCount 0 0 0 [.ref 0] (shC Z) I A (ab_Px (shC Z) ab_no (ab_ri K)) := by
  refine ab_enter (ls := [some (.ref 0)]) (by decide +kernel) (Nat.le_of_ble_eq_true rfl) rfl (fun C => ?_)
  unfold wX11_slotCount at h
  refine g_aload_n (n := 1) dX11_slotCount_0 rfl rfl rfl ?_
  refine g_getR (n := 4) (k := 0) dX11_slotCount_1 sC_0 vc_15 (Nat.le_of_ble_eq_true rfl) rfl w_535 rfl ?_
  refine g_getR (n := 7) (k := 2) dX11_slotCount_4 sC_8 vc_12 (Nat.le_of_ble_eq_true rfl) rfl w_404 rfl ?_
  refine g_getIE (n := 10) (k := 0) (x := (I 20 0)) dX11_slotCount_7 sC_20 vc_11 (Nat.le_of_ble_eq_true rfl) rfl w_311 rfl rfl ?_
  exact g_iret rfl rfl dX11_slotCount_10 ⟨rfl, _, rfl, h⟩
def wX11_epoch (K : Int32 → ab_F → ab_F → Prop) (I A : ab_F)  : Prop := K (I 24 0) I A
set_option maxRecDepth 20000 in
theorem ctX11_epoch {Z : ab_Z} {K : Int32 → ab_F → ab_F → Prop} {I A : ab_F}  (h : wX11_epoch K I A ) : ab_Cl mX11_epoch 0 0 0 [.ref 0] (shC Z) I A (ab_Px (shC Z) ab_no (ab_ri K)) := by
  refine ab_enter (ls := [some (.ref 0)]) (by decide +kernel) (Nat.le_of_ble_eq_true rfl) rfl (fun C => ?_)
  unfold wX11_epoch at h
  refine g_aload_n (n := 1) dX11_epoch_0 rfl rfl rfl ?_
  refine g_getR (n := 4) (k := 0) dX11_epoch_1 sC_0 vc_15 (Nat.le_of_ble_eq_true rfl) rfl w_535 rfl ?_
  refine g_getR (n := 7) (k := 3) dX11_epoch_4 sC_8 vc_12 (Nat.le_of_ble_eq_true rfl) rfl w_406 rfl ?_
  refine g_getIE (n := 10) (k := 0) (x := (I 24 0)) dX11_epoch_7 sC_24 vc_5 (Nat.le_of_ble_eq_true rfl) rfl w_340 rfl rfl ?_
  exact g_iret rfl rfl dX11_epoch_10 ⟨rfl, _, rfl, h⟩
def wX11_remember (K : ab_Z → ab_F → ab_F → Prop) (Z : ab_Z) (I A : ab_F)  : Prop := wX3_keep (fun Z_1 I_2 A_3 => wX3_accept (fun I_4 A_5 => K Z_1 I_4 A_5) I_2 A_3 ) Z I A 
set_option maxRecDepth 20000 in
theorem ctX11_remember {Z : ab_Z} {K : ab_Z → ab_F → ab_F → Prop} {I A : ab_F}  (h : wX11_remember K Z I A ) : ab_Cl mX11_remember 7 24 900 [.ref 0] (shC Z) I A (ab_Pz ab_noz (ab_zv K)) := by
  refine ab_enter (ls := [some (.ref 0)]) (by decide +kernel) (Nat.le_of_ble_eq_true rfl) rfl (fun C => ?_)
  unfold wX11_remember at h
  refine g_aload_n (n := 1) dX11_remember_0 rfl rfl rfl ?_
  refine g_getR (n := 4) (k := 1) dX11_remember_1 sC_0 vc_15 (Nat.le_of_ble_eq_true rfl) rfl w_536 rfl ?_
  refine g_aload_n (n := 5) dX11_remember_4 rfl rfl rfl ?_
  refine g_getR (n := 8) (k := 0) dX11_remember_5 sC_0 vc_15 (Nat.le_of_ble_eq_true rfl) rfl w_535 rfl ?_
  refine g_callV (n := 11) (as := [.ref 8]) (bc' := 0) (bs' := 0) sC_32 vc_7 (ctX3_keep h) okX3_keep rfl w_700 w_701 w_702 w_106 dX11_remember_8 rfl rfl (Nat.le_of_ble_eq_true rfl) (Nat.le_of_ble_eq_true rfl) (Nat.le_of_ble_eq_true rfl) (Nat.le_of_ble_eq_true rfl) rfl (fun E sh1 I1 A1 hp _ => hp.elim (fun _ q => q.2.elim)) (fun ro sh_ I_2 A_3 hp hle => ?_)
  obtain ⟨Z_1, rfl, rfl, h⟩ := hp
  refine g_aload_n (n := 12) dX11_remember_11 rfl rfl rfl ?_
  refine g_getR (n := 15) (k := 1) dX11_remember_12 sC_0 vc_15 (Nat.le_of_ble_eq_true rfl) rfl w_536 rfl ?_
  refine g_callV (n := 18) (as := []) (bc' := 0) (bs' := 0) sC_32 vc_7 (ctX3_accept h) okX3_accept rfl w_736 w_737 w_738 w_106 dX11_remember_15 rfl rfl (Nat.le_of_ble_eq_true rfl) (Nat.le_of_ble_eq_true rfl) (Nat.le_of_ble_eq_true rfl) (Nat.le_of_ble_eq_true rfl) rfl (fun E sh1 I1 A1 hp _ => hp.2.elim) (fun ro sh_ I_4 A_5 hp hle => ?_)
  obtain ⟨rfl, rfl, h⟩ := hp
  exact g_vret rfl dX11_remember_18 ⟨_, rfl, rfl, h⟩
def wX11_readPage (K : Int32 → ab_Z → ab_F → ab_F → Prop) (KX : String → ab_Z → ab_F → ab_F → Prop) (Z : ab_Z) (I A : ab_F) (p0 : Int32) (p1 : Int32) : Prop := wX8_refusalToRead (fun r_3 I_1 A_2 => wX11_demand (fun I_4 A_5 => wX11_remember (fun Z_6 I_7 A_8 => wX11_idOf (fun r_11 I_9 A_10 => wX8_read (fun r_14 I_12 A_13 => K r_14 Z_6 I_12 A_13) I_9 A_10 r_11) I_7 A_8 p0 p1) Z I_4 A_5 ) (fun E I A => KX E Z I A) I_1 A_2 r_3) I A p0 p1
set_option maxRecDepth 20000 in
theorem ctX11_readPage {Z : ab_Z} {K : Int32 → ab_Z → ab_F → ab_F → Prop} {KX : String → ab_Z → ab_F → ab_F → Prop} {I A : ab_F} {p0 : Int32} {p1 : Int32} (h : wX11_readPage K KX Z I A p0 p1) : ab_Cl mX11_readPage 8 25 906 [.ref 0, .int p0, .int p1] (shC Z) I A (ab_Pz KX (ab_zi K)) := by
  refine ab_enter (ls := [some (.ref 0), some (.int p0), some (.int p1)]) (by decide +kernel) (Nat.le_of_ble_eq_true rfl) rfl (fun C => ?_)
  unfold wX11_readPage at h
  refine g_aload_n (n := 1) dX11_readPage_0 rfl rfl rfl ?_
  refine g_getR (n := 4) (k := 0) dX11_readPage_1 sC_0 vc_15 (Nat.le_of_ble_eq_true rfl) rfl w_535 rfl ?_
  refine g_iload_n (n := 5) dX11_readPage_4 rfl rfl rfl ?_
  refine g_iload_n (n := 6) dX11_readPage_5 rfl rfl rfl ?_
  refine g_callV (n := 9) (as := [.int p0, .int p1]) (bc' := 25) (bs' := 906) sC_8 vc_12 (ctX8_refusalToRead h) okX8_refusalToRead rfl w_1501 w_807 w_808 w_100 dX11_readPage_6 rfl rfl (Nat.le_of_ble_eq_true rfl) (Nat.le_of_ble_eq_true rfl) (Nat.le_of_ble_eq_true rfl) (Nat.le_of_ble_eq_true rfl) rfl (fun E sh1 I1 A1 hp _ => hp.2.elim) (fun ro sh_ I_1 A_2 hp hle => ?_)
  obtain ⟨rfl, r_3, rfl, h⟩ := hp
  refine g_callS (n := 12) (as := [.int r_3]) (bc' := 24) (bs' := 900) (ctX11_demand h) okX11_demand w_1439 w_1440 dX11_readPage_9 rfl rfl (Nat.le_of_ble_eq_true rfl) (Nat.le_of_ble_eq_true rfl) (Nat.le_of_ble_eq_true rfl) (Nat.le_of_ble_eq_true rfl) rfl (fun E sh1 I1 A1 hp _ => ⟨_, hp⟩) (fun ro sh_ I_4 A_5 hp hle => ?_)
  obtain ⟨rfl, rfl, h⟩ := hp
  refine g_aload_n (n := 13) dX11_readPage_12 rfl rfl rfl ?_
  refine g_callV (n := 16) (as := []) (bc' := 0) (bs' := 0) sC_0 vc_15 (ctX11_remember h) okX11_remember rfl w_696 w_698 w_6 w_96 dX11_readPage_13 rfl rfl (Nat.le_of_ble_eq_true rfl) (Nat.le_of_ble_eq_true rfl) (Nat.le_of_ble_eq_true rfl) (Nat.le_of_ble_eq_true rfl) rfl (fun E sh1 I1 A1 hp _ => hp.elim (fun _ q => q.2.elim)) (fun ro sh_ I_7 A_8 hp hle => ?_)
  obtain ⟨Z_6, rfl, rfl, h⟩ := hp
  refine g_aload_n (n := 17) dX11_readPage_16 rfl rfl rfl ?_
  refine g_getR (n := 20) (k := 0) dX11_readPage_17 sC_0 vc_15 (Nat.le_of_ble_eq_true rfl) rfl w_535 rfl ?_
  refine g_iload_n (n := 21) dX11_readPage_20 rfl rfl rfl ?_
  refine g_iload_n (n := 22) dX11_readPage_21 rfl rfl rfl ?_
  refine g_callS (n := 25) (as := [.int p0, .int p1]) (bc' := 0) (bs' := 0) (ctX11_idOf h) okX11_idOf w_1389 w_757 dX11_readPage_22 rfl rfl (Nat.le_of_ble_eq_true rfl) (Nat.le_of_ble_eq_true rfl) (Nat.le_of_ble_eq_true rfl) (Nat.le_of_ble_eq_true rfl) rfl (fun E sh1 I1 A1 hp _ => hp.2.elim) (fun ro sh_ I_9 A_10 hp hle => ?_)
  obtain ⟨rfl, r_11, rfl, h⟩ := hp
  refine g_callV (n := 28) (as := [.int r_11]) (bc' := 0) (bs' := 0) sC_8 vc_12 (ctX8_read h) okX8_read rfl w_1502 w_901 w_902 w_100 dX11_readPage_25 rfl rfl (Nat.le_of_ble_eq_true rfl) (Nat.le_of_ble_eq_true rfl) (Nat.le_of_ble_eq_true rfl) (Nat.le_of_ble_eq_true rfl) rfl (fun E sh1 I1 A1 hp _ => hp.2.elim) (fun ro sh_ I_12 A_13 hp hle => ?_)
  obtain ⟨rfl, r_14, rfl, h⟩ := hp
  exact g_iret rfl rfl dX11_readPage_28 ⟨_, rfl, _, rfl, h⟩
def wX11_writePage (K : Int32 → ab_Z → ab_F → ab_F → Prop) (KX : String → ab_Z → ab_F → ab_F → Prop) (Z : ab_Z) (I A : ab_F) (p0 : Int32) (p1 : Int32) (p2 : Int32) : Prop := wX8_refusalToWrite (fun r_3 I_1 A_2 => wX11_demand (fun I_4 A_5 => wX11_remember (fun Z_6 I_7 A_8 => wX11_idOf (fun r_11 I_9 A_10 => wX8_write (fun r_14 I_12 A_13 => K r_14 Z_6 I_12 A_13) I_9 A_10 r_11 p2) I_7 A_8 p0 p1) Z I_4 A_5 ) (fun E I A => KX E Z I A) I_1 A_2 r_3) I A p0 p1
set_option maxRecDepth 20000 in
theorem ctX11_writePage {Z : ab_Z} {K : Int32 → ab_Z → ab_F → ab_F → Prop} {KX : String → ab_Z → ab_F → ab_F → Prop} {I A : ab_F} {p0 : Int32} {p1 : Int32} {p2 : Int32} (h : wX11_writePage K KX Z I A p0 p1 p2) : ab_Cl mX11_writePage 8 25 906 [.ref 0, .int p0, .int p1, .int p2] (shC Z) I A (ab_Pz KX (ab_zi K)) := by
  refine ab_enter (ls := [some (.ref 0), some (.int p0), some (.int p1), some (.int p2)]) (by decide +kernel) (Nat.le_of_ble_eq_true rfl) rfl (fun C => ?_)
  unfold wX11_writePage at h
  refine g_aload_n (n := 1) dX11_writePage_0 rfl rfl rfl ?_
  refine g_getR (n := 4) (k := 0) dX11_writePage_1 sC_0 vc_15 (Nat.le_of_ble_eq_true rfl) rfl w_535 rfl ?_
  refine g_iload_n (n := 5) dX11_writePage_4 rfl rfl rfl ?_
  refine g_iload_n (n := 6) dX11_writePage_5 rfl rfl rfl ?_
  refine g_callV (n := 9) (as := [.int p0, .int p1]) (bc' := 25) (bs' := 906) sC_8 vc_12 (ctX8_refusalToWrite h) okX8_refusalToWrite rfl w_1510 w_851 w_852 w_100 dX11_writePage_6 rfl rfl (Nat.le_of_ble_eq_true rfl) (Nat.le_of_ble_eq_true rfl) (Nat.le_of_ble_eq_true rfl) (Nat.le_of_ble_eq_true rfl) rfl (fun E sh1 I1 A1 hp _ => hp.2.elim) (fun ro sh_ I_1 A_2 hp hle => ?_)
  obtain ⟨rfl, r_3, rfl, h⟩ := hp
  refine g_callS (n := 12) (as := [.int r_3]) (bc' := 24) (bs' := 900) (ctX11_demand h) okX11_demand w_1439 w_1440 dX11_writePage_9 rfl rfl (Nat.le_of_ble_eq_true rfl) (Nat.le_of_ble_eq_true rfl) (Nat.le_of_ble_eq_true rfl) (Nat.le_of_ble_eq_true rfl) rfl (fun E sh1 I1 A1 hp _ => ⟨_, hp⟩) (fun ro sh_ I_4 A_5 hp hle => ?_)
  obtain ⟨rfl, rfl, h⟩ := hp
  refine g_aload_n (n := 13) dX11_writePage_12 rfl rfl rfl ?_
  refine g_callV (n := 16) (as := []) (bc' := 0) (bs' := 0) sC_0 vc_15 (ctX11_remember h) okX11_remember rfl w_696 w_698 w_6 w_96 dX11_writePage_13 rfl rfl (Nat.le_of_ble_eq_true rfl) (Nat.le_of_ble_eq_true rfl) (Nat.le_of_ble_eq_true rfl) (Nat.le_of_ble_eq_true rfl) rfl (fun E sh1 I1 A1 hp _ => hp.elim (fun _ q => q.2.elim)) (fun ro sh_ I_7 A_8 hp hle => ?_)
  obtain ⟨Z_6, rfl, rfl, h⟩ := hp
  refine g_aload_n (n := 17) dX11_writePage_16 rfl rfl rfl ?_
  refine g_getR (n := 20) (k := 0) dX11_writePage_17 sC_0 vc_15 (Nat.le_of_ble_eq_true rfl) rfl w_535 rfl ?_
  refine g_iload_n (n := 21) dX11_writePage_20 rfl rfl rfl ?_
  refine g_iload_n (n := 22) dX11_writePage_21 rfl rfl rfl ?_
  refine g_callS (n := 25) (as := [.int p0, .int p1]) (bc' := 0) (bs' := 0) (ctX11_idOf h) okX11_idOf w_1389 w_757 dX11_writePage_22 rfl rfl (Nat.le_of_ble_eq_true rfl) (Nat.le_of_ble_eq_true rfl) (Nat.le_of_ble_eq_true rfl) (Nat.le_of_ble_eq_true rfl) rfl (fun E sh1 I1 A1 hp _ => hp.2.elim) (fun ro sh_ I_9 A_10 hp hle => ?_)
  obtain ⟨rfl, r_11, rfl, h⟩ := hp
  refine g_iload_n (n := 26) dX11_writePage_25 rfl rfl rfl ?_
  refine g_callV (n := 29) (as := [.int r_11, .int p2]) (bc' := 0) (bs' := 0) sC_8 vc_12 (ctX8_write h) okX8_write rfl w_1511 w_933 w_934 w_100 dX11_writePage_26 rfl rfl (Nat.le_of_ble_eq_true rfl) (Nat.le_of_ble_eq_true rfl) (Nat.le_of_ble_eq_true rfl) (Nat.le_of_ble_eq_true rfl) rfl (fun E sh1 I1 A1 hp _ => hp.2.elim) (fun ro sh_ I_12 A_13 hp hle => ?_)
  obtain ⟨rfl, r_14, rfl, h⟩ := hp
  exact g_iret rfl rfl dX11_writePage_29 ⟨_, rfl, _, rfl, h⟩
def wjX11_setPolicy_14 (K : Int32 → ab_Z → ab_F → ab_F → Prop) (KX : String → ab_Z → ab_F → ab_F → Prop) (x1 : Int32) (s0 : Int32) (Z : ab_Z) (I A : ab_F) : Prop := wX11_demandArgument (fun I_1 A_2 => wX11_remember (fun Z_3 I_4 A_5 => (∀ y_6 : Int32, y_6 = (I_4 16 1) → K y_6 Z_3 (wr I_4 16 1 x1) A_5)) Z I_1 A_2 ) (fun E I A => KX E Z I A) I A s0
def wjX11_setPolicy_13 (K : Int32 → ab_Z → ab_F → ab_F → Prop) (KX : String → ab_Z → ab_F → ab_F → Prop) (x1 : Int32) (Z : ab_Z) (I A : ab_F) : Prop := wjX11_setPolicy_14 K KX x1 (nI 0) Z I A
def wX11_setPolicy (K : Int32 → ab_Z → ab_F → ab_F → Prop) (KX : String → ab_Z → ab_F → ab_F → Prop) (Z : ab_Z) (I A : ab_F) (p0 : Int32) : Prop := ((p0 < 0 → wjX11_setPolicy_13 K KX p0 Z I A) ∧ (¬ p0 < 0 → (((nI 2) < p0 → wjX11_setPolicy_13 K KX p0 Z I A) ∧ (¬ (nI 2) < p0 → wjX11_setPolicy_14 K KX p0 (nI 1) Z I A))))
set_option maxRecDepth 20000 in
theorem tjX11_setPolicy_14 {C : ab_X}  {K : Int32 → ab_Z → ab_F → ab_F → Prop} {KX : String → ab_Z → ab_F → ab_F → Prop} (x1 : Int32) (s0 : Int32) (Z : ab_Z) (I A : ab_F) (h : wjX11_setPolicy_14 K KX x1 s0 Z I A) : ab_G mX11_setPolicy 8 C (ab_Pz KX (ab_zi K)) 14 [some (.ref 0), some (.int x1), none] [.int s0] (shC Z) I A 25 906 := by
  unfold wjX11_setPolicy_14 at h
  refine g_callS (n := 17) (as := [.int s0]) (bc' := 24) (bs' := 900) (ctX11_demandArgument h) okX11_demandArgument w_1436 w_1437 dX11_setPolicy_14 rfl rfl (Nat.le_of_ble_eq_true rfl) (Nat.le_of_ble_eq_true rfl) (Nat.le_of_ble_eq_true rfl) (Nat.le_of_ble_eq_true rfl) rfl (fun E sh1 I1 A1 hp _ => ⟨_, hp⟩) (fun ro sh_ I_1 A_2 hp hle => ?_)
  obtain ⟨rfl, rfl, h⟩ := hp
  refine g_aload_n (n := 18) dX11_setPolicy_17 rfl rfl rfl ?_
  refine g_callV (n := 21) (as := []) (bc' := 0) (bs' := 0) sC_0 vc_15 (ctX11_remember h) okX11_remember rfl w_696 w_698 w_6 w_96 dX11_setPolicy_18 rfl rfl (Nat.le_of_ble_eq_true rfl) (Nat.le_of_ble_eq_true rfl) (Nat.le_of_ble_eq_true rfl) (Nat.le_of_ble_eq_true rfl) rfl (fun E sh1 I1 A1 hp _ => hp.elim (fun _ q => q.2.elim)) (fun ro sh_ I_4 A_5 hp hle => ?_)
  obtain ⟨Z_3, rfl, rfl, h⟩ := hp
  refine g_aload_n (n := 22) dX11_setPolicy_21 rfl rfl rfl ?_
  refine g_getR (n := 25) (k := 0) dX11_setPolicy_22 sC_0 vc_15 (Nat.le_of_ble_eq_true rfl) rfl w_535 rfl ?_
  refine g_getR (n := 28) (k := 1) dX11_setPolicy_25 sC_8 vc_12 (Nat.le_of_ble_eq_true rfl) rfl w_402 rfl ?_
  refine g_getIE (n := 31) (k := 1) (x := (I_4 16 1)) dX11_setPolicy_28 sC_16 vc_6 (Nat.le_of_ble_eq_true rfl) rfl w_282 rfl rfl ?_
  refine g_topi (fun y_6 ey_6 => ?_)
  have h := h y_6 ey_6
  refine g_istore_n (n := 32) (ls' := [some (.ref 0), some (.int x1), some (.int y_6)]) dX11_setPolicy_31 rfl rfl (Nat.le_of_ble_eq_true rfl) (Nat.le_of_ble_eq_true rfl) rfl rfl ?_
  refine g_aload_n (n := 33) dX11_setPolicy_32 rfl rfl rfl ?_
  refine g_getR (n := 36) (k := 0) dX11_setPolicy_33 sC_0 vc_15 (Nat.le_of_ble_eq_true rfl) rfl w_535 rfl ?_
  refine g_getR (n := 39) (k := 1) dX11_setPolicy_36 sC_8 vc_12 (Nat.le_of_ble_eq_true rfl) rfl w_402 rfl ?_
  refine g_iload_n (n := 40) dX11_setPolicy_39 rfl rfl rfl ?_
  refine g_putI (n := 43) (k := 1) dX11_setPolicy_40 sC_16 vc_6 (Nat.le_of_ble_eq_true rfl) rfl w_282 rfl rfl rfl rfl rfl ?_
  refine g_iload_n (n := 44) dX11_setPolicy_43 rfl rfl rfl ?_
  exact g_iret rfl rfl dX11_setPolicy_44 ⟨_, rfl, _, rfl, h⟩
set_option maxRecDepth 20000 in
theorem tjX11_setPolicy_13 {C : ab_X}  {K : Int32 → ab_Z → ab_F → ab_F → Prop} {KX : String → ab_Z → ab_F → ab_F → Prop} (x1 : Int32) (Z : ab_Z) (I A : ab_F) (h : wjX11_setPolicy_13 K KX x1 Z I A) : ab_G mX11_setPolicy 8 C (ab_Pz KX (ab_zi K)) 13 [some (.ref 0), some (.int x1), none] [] (shC Z) I A 25 906 := by
  unfold wjX11_setPolicy_13 at h
  refine g_iconst (n := 14) (v := (nI 0)) dX11_setPolicy_13 rfl rfl ?_
  refine g_less (bc' := 25) (bs' := 906) (Nat.le_of_ble_eq_true rfl) (Nat.le_of_ble_eq_true rfl) ?_
  exact tjX11_setPolicy_14  _ _ _ _ _ h
set_option maxRecDepth 20000 in
theorem ctX11_setPolicy {Z : ab_Z} {K : Int32 → ab_Z → ab_F → ab_F → Prop} {KX : String → ab_Z → ab_F → ab_F → Prop} {I A : ab_F} {p0 : Int32} (h : wX11_setPolicy K KX Z I A p0) : ab_Cl mX11_setPolicy 8 25 906 [.ref 0, .int p0] (shC Z) I A (ab_Pz KX (ab_zi K)) := by
  refine ab_enter (ls := [some (.ref 0), some (.int p0), none]) (by decide +kernel) (Nat.le_of_ble_eq_true rfl) rfl (fun C => ?_)
  unfold wX11_setPolicy at h
  refine g_iload_n (n := 1) dX11_setPolicy_0 rfl rfl rfl ?_
  refine g_if_lt (n := 4) 13 dX11_setPolicy_1 (by decide) rfl (fun hc => ?_) (fun hc => ?_)
  · have h := h.1 hc
    refine g_less (bc' := 25) (bs' := 906) (Nat.le_of_ble_eq_true rfl) (Nat.le_of_ble_eq_true rfl) ?_
    exact tjX11_setPolicy_13  _ _ _ _ h
  · have h := h.2 hc
    refine g_iload_n (n := 5) dX11_setPolicy_4 rfl rfl rfl ?_
    refine g_iconst (n := 6) (v := (nI 2)) dX11_setPolicy_5 rfl rfl ?_
    refine g_icmp_gt (n := 9) 13 dX11_setPolicy_6 (by decide) rfl (fun hc => ?_) (fun hc => ?_)
    · have h := h.1 hc
      refine g_less (bc' := 25) (bs' := 906) (Nat.le_of_ble_eq_true rfl) (Nat.le_of_ble_eq_true rfl) ?_
      exact tjX11_setPolicy_13  _ _ _ _ h
    · have h := h.2 hc
      refine g_iconst (n := 10) (v := (nI 1)) dX11_setPolicy_9 rfl rfl ?_
      refine g_goto 14 dX11_setPolicy_10 (by decide) ?_
      refine g_less (bc' := 25) (bs' := 906) (Nat.le_of_ble_eq_true rfl) (Nat.le_of_ble_eq_true rfl) ?_
      exact tjX11_setPolicy_14  _ _ _ _ _ h
def wX11_startBarrier (K : Int32 → ab_Z → ab_F → ab_F → Prop) (KX : String → ab_Z → ab_F → ab_F → Prop) (Z : ab_Z) (I A : ab_F) (p0 : Int32) : Prop := wX8_refusalToStart (fun r_3 I_1 A_2 => wX11_demand (fun I_4 A_5 => wX11_remember (fun Z_6 I_7 A_8 => wX8_start (fun r_11 I_9 A_10 => K r_11 Z_6 I_9 A_10) I_7 A_8 p0) Z I_4 A_5 ) (fun E I A => KX E Z I A) I_1 A_2 r_3) I A p0
set_option maxRecDepth 20000 in
theorem ctX11_startBarrier {Z : ab_Z} {K : Int32 → ab_Z → ab_F → ab_F → Prop} {KX : String → ab_Z → ab_F → ab_F → Prop} {I A : ab_F} {p0 : Int32} (h : wX11_startBarrier K KX Z I A p0) : ab_Cl mX11_startBarrier 8 25 906 [.ref 0, .int p0] (shC Z) I A (ab_Pz KX (ab_zi K)) := by
  refine ab_enter (ls := [some (.ref 0), some (.int p0)]) (by decide +kernel) (Nat.le_of_ble_eq_true rfl) rfl (fun C => ?_)
  unfold wX11_startBarrier at h
  refine g_aload_n (n := 1) dX11_startBarrier_0 rfl rfl rfl ?_
  refine g_getR (n := 4) (k := 0) dX11_startBarrier_1 sC_0 vc_15 (Nat.le_of_ble_eq_true rfl) rfl w_535 rfl ?_
  refine g_iload_n (n := 5) dX11_startBarrier_4 rfl rfl rfl ?_
  refine g_callV (n := 8) (as := [.int p0]) (bc' := 25) (bs' := 906) sC_8 vc_12 (ctX8_refusalToStart h) okX8_refusalToStart rfl w_1526 w_855 w_856 w_100 dX11_startBarrier_5 rfl rfl (Nat.le_of_ble_eq_true rfl) (Nat.le_of_ble_eq_true rfl) (Nat.le_of_ble_eq_true rfl) (Nat.le_of_ble_eq_true rfl) rfl (fun E sh1 I1 A1 hp _ => hp.2.elim) (fun ro sh_ I_1 A_2 hp hle => ?_)
  obtain ⟨rfl, r_3, rfl, h⟩ := hp
  refine g_callS (n := 11) (as := [.int r_3]) (bc' := 24) (bs' := 900) (ctX11_demand h) okX11_demand w_1439 w_1440 dX11_startBarrier_8 rfl rfl (Nat.le_of_ble_eq_true rfl) (Nat.le_of_ble_eq_true rfl) (Nat.le_of_ble_eq_true rfl) (Nat.le_of_ble_eq_true rfl) rfl (fun E sh1 I1 A1 hp _ => ⟨_, hp⟩) (fun ro sh_ I_4 A_5 hp hle => ?_)
  obtain ⟨rfl, rfl, h⟩ := hp
  refine g_aload_n (n := 12) dX11_startBarrier_11 rfl rfl rfl ?_
  refine g_callV (n := 15) (as := []) (bc' := 0) (bs' := 0) sC_0 vc_15 (ctX11_remember h) okX11_remember rfl w_696 w_698 w_6 w_96 dX11_startBarrier_12 rfl rfl (Nat.le_of_ble_eq_true rfl) (Nat.le_of_ble_eq_true rfl) (Nat.le_of_ble_eq_true rfl) (Nat.le_of_ble_eq_true rfl) rfl (fun E sh1 I1 A1 hp _ => hp.elim (fun _ q => q.2.elim)) (fun ro sh_ I_7 A_8 hp hle => ?_)
  obtain ⟨Z_6, rfl, rfl, h⟩ := hp
  refine g_aload_n (n := 16) dX11_startBarrier_15 rfl rfl rfl ?_
  refine g_getR (n := 19) (k := 0) dX11_startBarrier_16 sC_0 vc_15 (Nat.le_of_ble_eq_true rfl) rfl w_535 rfl ?_
  refine g_iload_n (n := 20) dX11_startBarrier_19 rfl rfl rfl ?_
  refine g_callV (n := 23) (as := [.int p0]) (bc' := 0) (bs' := 0) sC_8 vc_12 (ctX8_start h) okX8_start rfl w_1527 w_951 w_952 w_100 dX11_startBarrier_20 rfl rfl (Nat.le_of_ble_eq_true rfl) (Nat.le_of_ble_eq_true rfl) (Nat.le_of_ble_eq_true rfl) (Nat.le_of_ble_eq_true rfl) rfl (fun E sh1 I1 A1 hp _ => hp.2.elim) (fun ro sh_ I_9 A_10 hp hle => ?_)
  obtain ⟨rfl, r_11, rfl, h⟩ := hp
  exact g_iret rfl rfl dX11_startBarrier_23 ⟨_, rfl, _, rfl, h⟩
def wX11_writeBarrier (K : Int32 → ab_Z → ab_F → ab_F → Prop) (KX : String → ab_Z → ab_F → ab_F → Prop) (Z : ab_Z) (I A : ab_F) (p0 : Int32) : Prop := wX8_refusalToFlush (fun r_3 I_1 A_2 => wX11_demand (fun I_4 A_5 => wX11_remember (fun Z_6 I_7 A_8 => wX8_flush (fun r_11 I_9 A_10 => K r_11 Z_6 I_9 A_10) I_7 A_8 p0) Z I_4 A_5 ) (fun E I A => KX E Z I A) I_1 A_2 r_3) I A p0
set_option maxRecDepth 20000 in
theorem ctX11_writeBarrier {Z : ab_Z} {K : Int32 → ab_Z → ab_F → ab_F → Prop} {KX : String → ab_Z → ab_F → ab_F → Prop} {I A : ab_F} {p0 : Int32} (h : wX11_writeBarrier K KX Z I A p0) : ab_Cl mX11_writeBarrier 8 25 906 [.ref 0, .int p0] (shC Z) I A (ab_Pz KX (ab_zi K)) := by
  refine ab_enter (ls := [some (.ref 0), some (.int p0)]) (by decide +kernel) (Nat.le_of_ble_eq_true rfl) rfl (fun C => ?_)
  unfold wX11_writeBarrier at h
  refine g_aload_n (n := 1) dX11_writeBarrier_0 rfl rfl rfl ?_
  refine g_getR (n := 4) (k := 0) dX11_writeBarrier_1 sC_0 vc_15 (Nat.le_of_ble_eq_true rfl) rfl w_535 rfl ?_
  refine g_iload_n (n := 5) dX11_writeBarrier_4 rfl rfl rfl ?_
  refine g_callV (n := 8) (as := [.int p0]) (bc' := 25) (bs' := 906) sC_8 vc_12 (ctX8_refusalToFlush h) okX8_refusalToFlush rfl w_1535 w_867 w_868 w_100 dX11_writeBarrier_5 rfl rfl (Nat.le_of_ble_eq_true rfl) (Nat.le_of_ble_eq_true rfl) (Nat.le_of_ble_eq_true rfl) (Nat.le_of_ble_eq_true rfl) rfl (fun E sh1 I1 A1 hp _ => hp.2.elim) (fun ro sh_ I_1 A_2 hp hle => ?_)
  obtain ⟨rfl, r_3, rfl, h⟩ := hp
  refine g_callS (n := 11) (as := [.int r_3]) (bc' := 24) (bs' := 900) (ctX11_demand h) okX11_demand w_1439 w_1440 dX11_writeBarrier_8 rfl rfl (Nat.le_of_ble_eq_true rfl) (Nat.le_of_ble_eq_true rfl) (Nat.le_of_ble_eq_true rfl) (Nat.le_of_ble_eq_true rfl) rfl (fun E sh1 I1 A1 hp _ => ⟨_, hp⟩) (fun ro sh_ I_4 A_5 hp hle => ?_)
  obtain ⟨rfl, rfl, h⟩ := hp
  refine g_aload_n (n := 12) dX11_writeBarrier_11 rfl rfl rfl ?_
  refine g_callV (n := 15) (as := []) (bc' := 0) (bs' := 0) sC_0 vc_15 (ctX11_remember h) okX11_remember rfl w_696 w_698 w_6 w_96 dX11_writeBarrier_12 rfl rfl (Nat.le_of_ble_eq_true rfl) (Nat.le_of_ble_eq_true rfl) (Nat.le_of_ble_eq_true rfl) (Nat.le_of_ble_eq_true rfl) rfl (fun E sh1 I1 A1 hp _ => hp.elim (fun _ q => q.2.elim)) (fun ro sh_ I_7 A_8 hp hle => ?_)
  obtain ⟨Z_6, rfl, rfl, h⟩ := hp
  refine g_aload_n (n := 16) dX11_writeBarrier_15 rfl rfl rfl ?_
  refine g_getR (n := 19) (k := 0) dX11_writeBarrier_16 sC_0 vc_15 (Nat.le_of_ble_eq_true rfl) rfl w_535 rfl ?_
  refine g_iload_n (n := 20) dX11_writeBarrier_19 rfl rfl rfl ?_
  refine g_callV (n := 23) (as := [.int p0]) (bc' := 0) (bs' := 0) sC_8 vc_12 (ctX8_flush h) okX8_flush rfl w_1536 w_955 w_956 w_100 dX11_writeBarrier_20 rfl rfl (Nat.le_of_ble_eq_true rfl) (Nat.le_of_ble_eq_true rfl) (Nat.le_of_ble_eq_true rfl) (Nat.le_of_ble_eq_true rfl) rfl (fun E sh1 I1 A1 hp _ => hp.2.elim) (fun ro sh_ I_9 A_10 hp hle => ?_)
  obtain ⟨rfl, r_11, rfl, h⟩ := hp
  exact g_iret rfl rfl dX11_writeBarrier_23 ⟨_, rfl, _, rfl, h⟩
def wX11_commitBarrier (K : Int32 → ab_Z → ab_F → ab_F → Prop) (KX : String → ab_Z → ab_F → ab_F → Prop) (Z : ab_Z) (I A : ab_F)  : Prop := wX8_refusalToCommit (fun r_3 I_1 A_2 => wX11_demand (fun I_4 A_5 => wX11_remember (fun Z_6 I_7 A_8 => wX8_commit (fun r_11 I_9 A_10 => K r_11 Z_6 I_9 A_10) I_7 A_8 ) Z I_4 A_5 ) (fun E I A => KX E Z I A) I_1 A_2 r_3) I A 
set_option maxRecDepth 20000 in
theorem ctX11_commitBarrier {Z : ab_Z} {K : Int32 → ab_Z → ab_F → ab_F → Prop} {KX : String → ab_Z → ab_F → ab_F → Prop} {I A : ab_F}  (h : wX11_commitBarrier K KX Z I A ) : ab_Cl mX11_commitBarrier 8 25 906 [.ref 0] (shC Z) I A (ab_Pz KX (ab_zi K)) := by
  refine ab_enter (ls := [some (.ref 0)]) (by decide +kernel) (Nat.le_of_ble_eq_true rfl) rfl (fun C => ?_)
  unfold wX11_commitBarrier at h
  refine g_aload_n (n := 1) dX11_commitBarrier_0 rfl rfl rfl ?_
  refine g_getR (n := 4) (k := 0) dX11_commitBarrier_1 sC_0 vc_15 (Nat.le_of_ble_eq_true rfl) rfl w_535 rfl ?_
  refine g_callV (n := 7) (as := []) (bc' := 25) (bs' := 906) sC_8 vc_12 (ctX8_refusalToCommit h) okX8_refusalToCommit rfl w_1545 w_871 w_872 w_100 dX11_commitBarrier_4 rfl rfl (Nat.le_of_ble_eq_true rfl) (Nat.le_of_ble_eq_true rfl) (Nat.le_of_ble_eq_true rfl) (Nat.le_of_ble_eq_true rfl) rfl (fun E sh1 I1 A1 hp _ => hp.2.elim) (fun ro sh_ I_1 A_2 hp hle => ?_)
  obtain ⟨rfl, r_3, rfl, h⟩ := hp
  refine g_callS (n := 10) (as := [.int r_3]) (bc' := 24) (bs' := 900) (ctX11_demand h) okX11_demand w_1439 w_1440 dX11_commitBarrier_7 rfl rfl (Nat.le_of_ble_eq_true rfl) (Nat.le_of_ble_eq_true rfl) (Nat.le_of_ble_eq_true rfl) (Nat.le_of_ble_eq_true rfl) rfl (fun E sh1 I1 A1 hp _ => ⟨_, hp⟩) (fun ro sh_ I_4 A_5 hp hle => ?_)
  obtain ⟨rfl, rfl, h⟩ := hp
  refine g_aload_n (n := 11) dX11_commitBarrier_10 rfl rfl rfl ?_
  refine g_callV (n := 14) (as := []) (bc' := 0) (bs' := 0) sC_0 vc_15 (ctX11_remember h) okX11_remember rfl w_696 w_698 w_6 w_96 dX11_commitBarrier_11 rfl rfl (Nat.le_of_ble_eq_true rfl) (Nat.le_of_ble_eq_true rfl) (Nat.le_of_ble_eq_true rfl) (Nat.le_of_ble_eq_true rfl) rfl (fun E sh1 I1 A1 hp _ => hp.elim (fun _ q => q.2.elim)) (fun ro sh_ I_7 A_8 hp hle => ?_)
  obtain ⟨Z_6, rfl, rfl, h⟩ := hp
  refine g_aload_n (n := 15) dX11_commitBarrier_14 rfl rfl rfl ?_
  refine g_getR (n := 18) (k := 0) dX11_commitBarrier_15 sC_0 vc_15 (Nat.le_of_ble_eq_true rfl) rfl w_535 rfl ?_
  refine g_callV (n := 21) (as := []) (bc' := 0) (bs' := 0) sC_8 vc_12 (ctX8_commit h) okX8_commit rfl w_1546 w_963 w_964 w_100 dX11_commitBarrier_18 rfl rfl (Nat.le_of_ble_eq_true rfl) (Nat.le_of_ble_eq_true rfl) (Nat.le_of_ble_eq_true rfl) (Nat.le_of_ble_eq_true rfl) rfl (fun E sh1 I1 A1 hp _ => hp.2.elim) (fun ro sh_ I_9 A_10 hp hle => ?_)
  obtain ⟨rfl, r_11, rfl, h⟩ := hp
  exact g_iret rfl rfl dX11_commitBarrier_21 ⟨_, rfl, _, rfl, h⟩
def wX11_abandonBarrier (K : Int32 → ab_Z → ab_F → ab_F → Prop) (KX : String → ab_Z → ab_F → ab_F → Prop) (Z : ab_Z) (I A : ab_F)  : Prop := wX8_refusalToAbandon (fun r_3 I_1 A_2 => wX11_demand (fun I_4 A_5 => wX11_remember (fun Z_6 I_7 A_8 => wX8_abandon (fun r_11 I_9 A_10 => K r_11 Z_6 I_9 A_10) I_7 A_8 ) Z I_4 A_5 ) (fun E I A => KX E Z I A) I_1 A_2 r_3) I A 
set_option maxRecDepth 20000 in
theorem ctX11_abandonBarrier {Z : ab_Z} {K : Int32 → ab_Z → ab_F → ab_F → Prop} {KX : String → ab_Z → ab_F → ab_F → Prop} {I A : ab_F}  (h : wX11_abandonBarrier K KX Z I A ) : ab_Cl mX11_abandonBarrier 8 25 906 [.ref 0] (shC Z) I A (ab_Pz KX (ab_zi K)) := by
  refine ab_enter (ls := [some (.ref 0)]) (by decide +kernel) (Nat.le_of_ble_eq_true rfl) rfl (fun C => ?_)
  unfold wX11_abandonBarrier at h
  refine g_aload_n (n := 1) dX11_abandonBarrier_0 rfl rfl rfl ?_
  refine g_getR (n := 4) (k := 0) dX11_abandonBarrier_1 sC_0 vc_15 (Nat.le_of_ble_eq_true rfl) rfl w_535 rfl ?_
  refine g_callV (n := 7) (as := []) (bc' := 25) (bs' := 906) sC_8 vc_12 (ctX8_refusalToAbandon h) okX8_refusalToAbandon rfl w_1554 w_879 w_880 w_100 dX11_abandonBarrier_4 rfl rfl (Nat.le_of_ble_eq_true rfl) (Nat.le_of_ble_eq_true rfl) (Nat.le_of_ble_eq_true rfl) (Nat.le_of_ble_eq_true rfl) rfl (fun E sh1 I1 A1 hp _ => hp.2.elim) (fun ro sh_ I_1 A_2 hp hle => ?_)
  obtain ⟨rfl, r_3, rfl, h⟩ := hp
  refine g_callS (n := 10) (as := [.int r_3]) (bc' := 24) (bs' := 900) (ctX11_demand h) okX11_demand w_1439 w_1440 dX11_abandonBarrier_7 rfl rfl (Nat.le_of_ble_eq_true rfl) (Nat.le_of_ble_eq_true rfl) (Nat.le_of_ble_eq_true rfl) (Nat.le_of_ble_eq_true rfl) rfl (fun E sh1 I1 A1 hp _ => ⟨_, hp⟩) (fun ro sh_ I_4 A_5 hp hle => ?_)
  obtain ⟨rfl, rfl, h⟩ := hp
  refine g_aload_n (n := 11) dX11_abandonBarrier_10 rfl rfl rfl ?_
  refine g_callV (n := 14) (as := []) (bc' := 0) (bs' := 0) sC_0 vc_15 (ctX11_remember h) okX11_remember rfl w_696 w_698 w_6 w_96 dX11_abandonBarrier_11 rfl rfl (Nat.le_of_ble_eq_true rfl) (Nat.le_of_ble_eq_true rfl) (Nat.le_of_ble_eq_true rfl) (Nat.le_of_ble_eq_true rfl) rfl (fun E sh1 I1 A1 hp _ => hp.elim (fun _ q => q.2.elim)) (fun ro sh_ I_7 A_8 hp hle => ?_)
  obtain ⟨Z_6, rfl, rfl, h⟩ := hp
  refine g_aload_n (n := 15) dX11_abandonBarrier_14 rfl rfl rfl ?_
  refine g_getR (n := 18) (k := 0) dX11_abandonBarrier_15 sC_0 vc_15 (Nat.le_of_ble_eq_true rfl) rfl w_535 rfl ?_
  refine g_callV (n := 21) (as := []) (bc' := 0) (bs' := 0) sC_8 vc_12 (ctX8_abandon h) okX8_abandon rfl w_1555 w_980 w_981 w_100 dX11_abandonBarrier_18 rfl rfl (Nat.le_of_ble_eq_true rfl) (Nat.le_of_ble_eq_true rfl) (Nat.le_of_ble_eq_true rfl) (Nat.le_of_ble_eq_true rfl) rfl (fun E sh1 I1 A1 hp _ => hp.2.elim) (fun ro sh_ I_9 A_10 hp hle => ?_)
  obtain ⟨rfl, r_11, rfl, h⟩ := hp
  exact g_iret rfl rfl dX11_abandonBarrier_21 ⟨_, rfl, _, rfl, h⟩
def wX11_crash (K : Int32 → ab_Z → ab_F → ab_F → Prop) (Z : ab_Z) (I A : ab_F)  : Prop := wX11_remember (fun Z_1 I_2 A_3 => wX8_crashAll (fun r_6 I_4 A_5 => K r_6 Z_1 I_4 A_5) I_2 A_3 ) Z I A 
set_option maxRecDepth 20000 in
theorem ctX11_crash {Z : ab_Z} {K : Int32 → ab_Z → ab_F → ab_F → Prop} {I A : ab_F}  (h : wX11_crash K Z I A ) : ab_Cl mX11_crash 8 24 900 [.ref 0] (shC Z) I A (ab_Pz ab_noz (ab_zi K)) := by
  refine ab_enter (ls := [some (.ref 0)]) (by decide +kernel) (Nat.le_of_ble_eq_true rfl) rfl (fun C => ?_)
  unfold wX11_crash at h
  refine g_aload_n (n := 1) dX11_crash_0 rfl rfl rfl ?_
  refine g_callV (n := 4) (as := []) (bc' := 0) (bs' := 0) sC_0 vc_15 (ctX11_remember h) okX11_remember rfl w_696 w_698 w_6 w_96 dX11_crash_1 rfl rfl (Nat.le_of_ble_eq_true rfl) (Nat.le_of_ble_eq_true rfl) (Nat.le_of_ble_eq_true rfl) (Nat.le_of_ble_eq_true rfl) rfl (fun E sh1 I1 A1 hp _ => hp.elim (fun _ q => q.2.elim)) (fun ro sh_ I_2 A_3 hp hle => ?_)
  obtain ⟨Z_1, rfl, rfl, h⟩ := hp
  refine g_aload_n (n := 5) dX11_crash_4 rfl rfl rfl ?_
  refine g_getR (n := 8) (k := 0) dX11_crash_5 sC_0 vc_15 (Nat.le_of_ble_eq_true rfl) rfl w_535 rfl ?_
  refine g_callV (n := 11) (as := []) (bc' := 0) (bs' := 0) sC_8 vc_12 (ctX8_crashAll h) okX8_crashAll rfl w_743 w_744 w_745 w_100 dX11_crash_8 rfl rfl (Nat.le_of_ble_eq_true rfl) (Nat.le_of_ble_eq_true rfl) (Nat.le_of_ble_eq_true rfl) (Nat.le_of_ble_eq_true rfl) rfl (fun E sh1 I1 A1 hp _ => hp.2.elim) (fun ro sh_ I_4 A_5 hp hle => ?_)
  obtain ⟨rfl, r_6, rfl, h⟩ := hp
  exact g_iret rfl rfl dX11_crash_11 ⟨_, rfl, _, rfl, h⟩
def wX11_rollback (K : Int32 → ab_Z → ab_F → ab_F → Prop) (KX : String → ab_Z → ab_F → ab_F → Prop) (Z : ab_Z) (I A : ab_F) (p0 : Int32) : Prop := wX8_refusalToRestore (fun r_3 I_1 A_2 => wX11_demand (fun I_4 A_5 => wX11_remember (fun Z_6 I_7 A_8 => wX8_restore (fun r_11 I_9 A_10 => K r_11 Z_6 I_9 A_10) I_7 A_8 p0) Z I_4 A_5 ) (fun E I A => KX E Z I A) I_1 A_2 r_3) I A p0
set_option maxRecDepth 20000 in
theorem ctX11_rollback {Z : ab_Z} {K : Int32 → ab_Z → ab_F → ab_F → Prop} {KX : String → ab_Z → ab_F → ab_F → Prop} {I A : ab_F} {p0 : Int32} (h : wX11_rollback K KX Z I A p0) : ab_Cl mX11_rollback 8 25 906 [.ref 0, .int p0] (shC Z) I A (ab_Pz KX (ab_zi K)) := by
  refine ab_enter (ls := [some (.ref 0), some (.int p0)]) (by decide +kernel) (Nat.le_of_ble_eq_true rfl) rfl (fun C => ?_)
  unfold wX11_rollback at h
  refine g_aload_n (n := 1) dX11_rollback_0 rfl rfl rfl ?_
  refine g_getR (n := 4) (k := 0) dX11_rollback_1 sC_0 vc_15 (Nat.le_of_ble_eq_true rfl) rfl w_535 rfl ?_
  refine g_iload_n (n := 5) dX11_rollback_4 rfl rfl rfl ?_
  refine g_callV (n := 8) (as := [.int p0]) (bc' := 25) (bs' := 906) sC_8 vc_12 (ctX8_refusalToRestore h) okX8_refusalToRestore rfl w_1564 w_883 w_884 w_100 dX11_rollback_5 rfl rfl (Nat.le_of_ble_eq_true rfl) (Nat.le_of_ble_eq_true rfl) (Nat.le_of_ble_eq_true rfl) (Nat.le_of_ble_eq_true rfl) rfl (fun E sh1 I1 A1 hp _ => hp.2.elim) (fun ro sh_ I_1 A_2 hp hle => ?_)
  obtain ⟨rfl, r_3, rfl, h⟩ := hp
  refine g_callS (n := 11) (as := [.int r_3]) (bc' := 24) (bs' := 900) (ctX11_demand h) okX11_demand w_1439 w_1440 dX11_rollback_8 rfl rfl (Nat.le_of_ble_eq_true rfl) (Nat.le_of_ble_eq_true rfl) (Nat.le_of_ble_eq_true rfl) (Nat.le_of_ble_eq_true rfl) rfl (fun E sh1 I1 A1 hp _ => ⟨_, hp⟩) (fun ro sh_ I_4 A_5 hp hle => ?_)
  obtain ⟨rfl, rfl, h⟩ := hp
  refine g_aload_n (n := 12) dX11_rollback_11 rfl rfl rfl ?_
  refine g_callV (n := 15) (as := []) (bc' := 0) (bs' := 0) sC_0 vc_15 (ctX11_remember h) okX11_remember rfl w_696 w_698 w_6 w_96 dX11_rollback_12 rfl rfl (Nat.le_of_ble_eq_true rfl) (Nat.le_of_ble_eq_true rfl) (Nat.le_of_ble_eq_true rfl) (Nat.le_of_ble_eq_true rfl) rfl (fun E sh1 I1 A1 hp _ => hp.elim (fun _ q => q.2.elim)) (fun ro sh_ I_7 A_8 hp hle => ?_)
  obtain ⟨Z_6, rfl, rfl, h⟩ := hp
  refine g_aload_n (n := 16) dX11_rollback_15 rfl rfl rfl ?_
  refine g_getR (n := 19) (k := 0) dX11_rollback_16 sC_0 vc_15 (Nat.le_of_ble_eq_true rfl) rfl w_535 rfl ?_
  refine g_iload_n (n := 20) dX11_rollback_19 rfl rfl rfl ?_
  refine g_callV (n := 23) (as := [.int p0]) (bc' := 0) (bs' := 0) sC_8 vc_12 (ctX8_restore h) okX8_restore rfl w_1565 w_749 w_750 w_100 dX11_rollback_20 rfl rfl (Nat.le_of_ble_eq_true rfl) (Nat.le_of_ble_eq_true rfl) (Nat.le_of_ble_eq_true rfl) (Nat.le_of_ble_eq_true rfl) rfl (fun E sh1 I1 A1 hp _ => hp.2.elim) (fun ro sh_ I_9 A_10 hp hle => ?_)
  obtain ⟨rfl, r_11, rfl, h⟩ := hp
  exact g_iret rfl rfl dX11_rollback_23 ⟨_, rfl, _, rfl, h⟩
def wX11_evictPage (K : Int32 → ab_Z → ab_F → ab_F → Prop) (KX : String → ab_Z → ab_F → ab_F → Prop) (Z : ab_Z) (I A : ab_F) (p0 : Int32) (p1 : Int32) : Prop := wX8_refusalToEvict (fun r_3 I_1 A_2 => wX11_demand (fun I_4 A_5 => wX11_remember (fun Z_6 I_7 A_8 => wX11_idOf (fun r_11 I_9 A_10 => wX8_evict (fun r_14 I_12 A_13 => K r_14 Z_6 I_12 A_13) I_9 A_10 r_11) I_7 A_8 p0 p1) Z I_4 A_5 ) (fun E I A => KX E Z I A) I_1 A_2 r_3) I A p0 p1
set_option maxRecDepth 20000 in
theorem ctX11_evictPage {Z : ab_Z} {K : Int32 → ab_Z → ab_F → ab_F → Prop} {KX : String → ab_Z → ab_F → ab_F → Prop} {I A : ab_F} {p0 : Int32} {p1 : Int32} (h : wX11_evictPage K KX Z I A p0 p1) : ab_Cl mX11_evictPage 8 25 906 [.ref 0, .int p0, .int p1] (shC Z) I A (ab_Pz KX (ab_zi K)) := by
  refine ab_enter (ls := [some (.ref 0), some (.int p0), some (.int p1)]) (by decide +kernel) (Nat.le_of_ble_eq_true rfl) rfl (fun C => ?_)
  unfold wX11_evictPage at h
  refine g_aload_n (n := 1) dX11_evictPage_0 rfl rfl rfl ?_
  refine g_getR (n := 4) (k := 0) dX11_evictPage_1 sC_0 vc_15 (Nat.le_of_ble_eq_true rfl) rfl w_535 rfl ?_
  refine g_iload_n (n := 5) dX11_evictPage_4 rfl rfl rfl ?_
  refine g_iload_n (n := 6) dX11_evictPage_5 rfl rfl rfl ?_
  refine g_callV (n := 9) (as := [.int p0, .int p1]) (bc' := 25) (bs' := 906) sC_8 vc_12 (ctX8_refusalToEvict h) okX8_refusalToEvict rfl w_1573 w_892 w_893 w_100 dX11_evictPage_6 rfl rfl (Nat.le_of_ble_eq_true rfl) (Nat.le_of_ble_eq_true rfl) (Nat.le_of_ble_eq_true rfl) (Nat.le_of_ble_eq_true rfl) rfl (fun E sh1 I1 A1 hp _ => hp.2.elim) (fun ro sh_ I_1 A_2 hp hle => ?_)
  obtain ⟨rfl, r_3, rfl, h⟩ := hp
  refine g_callS (n := 12) (as := [.int r_3]) (bc' := 24) (bs' := 900) (ctX11_demand h) okX11_demand w_1439 w_1440 dX11_evictPage_9 rfl rfl (Nat.le_of_ble_eq_true rfl) (Nat.le_of_ble_eq_true rfl) (Nat.le_of_ble_eq_true rfl) (Nat.le_of_ble_eq_true rfl) rfl (fun E sh1 I1 A1 hp _ => ⟨_, hp⟩) (fun ro sh_ I_4 A_5 hp hle => ?_)
  obtain ⟨rfl, rfl, h⟩ := hp
  refine g_aload_n (n := 13) dX11_evictPage_12 rfl rfl rfl ?_
  refine g_callV (n := 16) (as := []) (bc' := 0) (bs' := 0) sC_0 vc_15 (ctX11_remember h) okX11_remember rfl w_696 w_698 w_6 w_96 dX11_evictPage_13 rfl rfl (Nat.le_of_ble_eq_true rfl) (Nat.le_of_ble_eq_true rfl) (Nat.le_of_ble_eq_true rfl) (Nat.le_of_ble_eq_true rfl) rfl (fun E sh1 I1 A1 hp _ => hp.elim (fun _ q => q.2.elim)) (fun ro sh_ I_7 A_8 hp hle => ?_)
  obtain ⟨Z_6, rfl, rfl, h⟩ := hp
  refine g_aload_n (n := 17) dX11_evictPage_16 rfl rfl rfl ?_
  refine g_getR (n := 20) (k := 0) dX11_evictPage_17 sC_0 vc_15 (Nat.le_of_ble_eq_true rfl) rfl w_535 rfl ?_
  refine g_iload_n (n := 21) dX11_evictPage_20 rfl rfl rfl ?_
  refine g_iload_n (n := 22) dX11_evictPage_21 rfl rfl rfl ?_
  refine g_callS (n := 25) (as := [.int p0, .int p1]) (bc' := 0) (bs' := 0) (ctX11_idOf h) okX11_idOf w_1389 w_757 dX11_evictPage_22 rfl rfl (Nat.le_of_ble_eq_true rfl) (Nat.le_of_ble_eq_true rfl) (Nat.le_of_ble_eq_true rfl) (Nat.le_of_ble_eq_true rfl) rfl (fun E sh1 I1 A1 hp _ => hp.2.elim) (fun ro sh_ I_9 A_10 hp hle => ?_)
  obtain ⟨rfl, r_11, rfl, h⟩ := hp
  refine g_callV (n := 28) (as := [.int r_11]) (bc' := 0) (bs' := 0) sC_8 vc_12 (ctX8_evict h) okX8_evict rfl w_1574 w_909 w_910 w_100 dX11_evictPage_25 rfl rfl (Nat.le_of_ble_eq_true rfl) (Nat.le_of_ble_eq_true rfl) (Nat.le_of_ble_eq_true rfl) (Nat.le_of_ble_eq_true rfl) rfl (fun E sh1 I1 A1 hp _ => hp.2.elim) (fun ro sh_ I_12 A_13 hp hle => ?_)
  obtain ⟨rfl, r_14, rfl, h⟩ := hp
  exact g_iret rfl rfl dX11_evictPage_28 ⟨_, rfl, _, rfl, h⟩
def wX11_runScript (K : Int32 → ab_Z → ab_F → ab_F → Prop) (Z : ab_Z) (I A : ab_F)  : Prop := wX3_keep (fun Z_1 I_2 A_3 => wX6_runOn (fun r_6 I_4 A_5 => ((r_6 < 0 → wX3_giveBack (fun Z_7 I_8 A_9 => K r_6 Z_7 I_8 A_9) Z_1 (wr I_4 1 1 (nI 0)) A_5 ) ∧ (¬ r_6 < 0 → wX3_accept (fun I_10 A_11 => K r_6 Z_1 I_10 A_11) (wr I_4 1 1 (nI 0)) A_5 ))) I_2 A_3 ) Z I A 
set_option maxRecDepth 20000 in
theorem ctX11_runScript {Z : ab_Z} {K : Int32 → ab_Z → ab_F → ab_F → Prop} {I A : ab_F}  (h : wX11_runScript K Z I A ) : ab_Cl mX11_runScript 9 24 900 [.ref 0] (shC Z) I A (ab_Pz ab_noz (ab_zi K)) := by
  refine ab_enter (ls := [some (.ref 0), none]) (by decide +kernel) (Nat.le_of_ble_eq_true rfl) rfl (fun C => ?_)
  unfold wX11_runScript at h
  refine g_aload_n (n := 1) dX11_runScript_0 rfl rfl rfl ?_
  refine g_getR (n := 4) (k := 1) dX11_runScript_1 sC_0 vc_15 (Nat.le_of_ble_eq_true rfl) rfl w_536 rfl ?_
  refine g_aload_n (n := 5) dX11_runScript_4 rfl rfl rfl ?_
  refine g_getR (n := 8) (k := 0) dX11_runScript_5 sC_0 vc_15 (Nat.le_of_ble_eq_true rfl) rfl w_535 rfl ?_
  refine g_callV (n := 11) (as := [.ref 8]) (bc' := 0) (bs' := 0) sC_32 vc_7 (ctX3_keep h) okX3_keep rfl w_700 w_701 w_702 w_106 dX11_runScript_8 rfl rfl (Nat.le_of_ble_eq_true rfl) (Nat.le_of_ble_eq_true rfl) (Nat.le_of_ble_eq_true rfl) (Nat.le_of_ble_eq_true rfl) rfl (fun E sh1 I1 A1 hp _ => hp.elim (fun _ q => q.2.elim)) (fun ro sh_ I_2 A_3 hp hle => ?_)
  obtain ⟨Z_1, rfl, rfl, h⟩ := hp
  refine g_aload_n (n := 12) dX11_runScript_11 rfl rfl rfl ?_
  refine g_getR (n := 15) (k := 4) dX11_runScript_12 sC_0 vc_15 (Nat.le_of_ble_eq_true rfl) rfl w_539 rfl ?_
  refine g_aload_n (n := 16) dX11_runScript_15 rfl rfl rfl ?_
  refine g_getR (n := 19) (k := 0) dX11_runScript_16 sC_0 vc_15 (Nat.le_of_ble_eq_true rfl) rfl w_535 rfl ?_
  refine g_callV (n := 22) (as := [.ref 8]) (bc' := 0) (bs' := 0) sC_6 vc_10 (ctX6_runOn h) okX6_runOn rfl w_775 w_776 w_777 w_99 dX11_runScript_19 rfl rfl (Nat.le_of_ble_eq_true rfl) (Nat.le_of_ble_eq_true rfl) (Nat.le_of_ble_eq_true rfl) (Nat.le_of_ble_eq_true rfl) rfl (fun E sh1 I1 A1 hp _ => hp.2.elim) (fun ro sh_ I_4 A_5 hp hle => ?_)
  obtain ⟨rfl, r_6, rfl, h⟩ := hp
  refine g_istore_n (n := 23) (ls' := [some (.ref 0), some (.int r_6)]) dX11_runScript_22 rfl rfl (Nat.le_of_ble_eq_true rfl) (Nat.le_of_ble_eq_true rfl) rfl rfl ?_
  refine g_aload_n (n := 24) dX11_runScript_23 rfl rfl rfl ?_
  refine g_getR (n := 27) (k := 2) dX11_runScript_24 sC_0 vc_15 (Nat.le_of_ble_eq_true rfl) rfl w_537 rfl ?_
  refine g_iconst (n := 28) (v := (nI 0)) dX11_runScript_27 rfl rfl ?_
  refine g_putI (n := 31) (k := 1) dX11_runScript_28 sC_1 vc_14 (Nat.le_of_ble_eq_true rfl) rfl w_149 rfl rfl rfl rfl rfl ?_
  refine g_iload_n (n := 32) dX11_runScript_31 rfl rfl rfl ?_
  refine g_if_lt (n := 35) 45 dX11_runScript_32 (by decide) rfl (fun hc => ?_) (fun hc => ?_)
  · have h := h.1 hc
    refine g_aload_n (n := 46) dX11_runScript_45 rfl rfl rfl ?_
    refine g_getR (n := 49) (k := 1) dX11_runScript_46 sC_0 vc_15 (Nat.le_of_ble_eq_true rfl) rfl w_536 rfl ?_
    refine g_aload_n (n := 50) dX11_runScript_49 rfl rfl rfl ?_
    refine g_getR (n := 53) (k := 0) dX11_runScript_50 sC_0 vc_15 (Nat.le_of_ble_eq_true rfl) rfl w_535 rfl ?_
    refine g_callV (n := 56) (as := [.ref 8]) (bc' := 0) (bs' := 0) sC_32 vc_7 (ctX3_giveBack h) okX3_giveBack rfl w_986 w_987 w_988 w_106 dX11_runScript_53 rfl rfl (Nat.le_of_ble_eq_true rfl) (Nat.le_of_ble_eq_true rfl) (Nat.le_of_ble_eq_true rfl) (Nat.le_of_ble_eq_true rfl) rfl (fun E sh1 I1 A1 hp _ => hp.elim (fun _ q => q.2.elim)) (fun ro sh_ I_8 A_9 hp hle => ?_)
    obtain ⟨Z_7, rfl, rfl, h⟩ := hp
    refine g_iload_n (n := 57) dX11_runScript_56 rfl rfl rfl ?_
    exact g_iret rfl rfl dX11_runScript_57 ⟨_, rfl, _, rfl, h⟩
  · have h := h.2 hc
    refine g_aload_n (n := 36) dX11_runScript_35 rfl rfl rfl ?_
    refine g_getR (n := 39) (k := 1) dX11_runScript_36 sC_0 vc_15 (Nat.le_of_ble_eq_true rfl) rfl w_536 rfl ?_
    refine g_callV (n := 42) (as := []) (bc' := 0) (bs' := 0) sC_32 vc_7 (ctX3_accept h) okX3_accept rfl w_736 w_737 w_738 w_106 dX11_runScript_39 rfl rfl (Nat.le_of_ble_eq_true rfl) (Nat.le_of_ble_eq_true rfl) (Nat.le_of_ble_eq_true rfl) (Nat.le_of_ble_eq_true rfl) rfl (fun E sh1 I1 A1 hp _ => hp.2.elim) (fun ro sh_ I_10 A_11 hp hle => ?_)
    obtain ⟨rfl, rfl, h⟩ := hp
    refine g_goto 56 dX11_runScript_42 (by decide) ?_
    refine g_iload_n (n := 57) dX11_runScript_56 rfl rfl rfl ?_
    exact g_iret rfl rfl dX11_runScript_57 ⟨_, rfl, _, rfl, h⟩
def wjX11_demandIndex_9 (K : ab_F → ab_F → Prop) (KX : String → ab_F → ab_F → Prop) (s0 : Int32) (I A : ab_F) : Prop := wX11_demand (fun I_1 A_2 => K I_1 A_2) KX I A s0
def wX11_demandIndex (K : ab_F → ab_F → Prop) (KX : String → ab_F → ab_F → Prop) (I A : ab_F) (p0 : Int32) : Prop := ((p0 = 0 → wjX11_demandIndex_9 K KX (nI 1) I A) ∧ (¬ p0 = 0 → wjX11_demandIndex_9 K KX (nI 0) I A))
set_option maxRecDepth 20000 in
theorem tjX11_demandIndex_9 {C : ab_X} {Z : ab_Z} {K : ab_F → ab_F → Prop} {KX : String → ab_F → ab_F → Prop} (s0 : Int32) (I A : ab_F) (h : wjX11_demandIndex_9 K KX s0 I A) : ab_G mX11_demandIndex 7 C (ab_Px (shC Z) KX (ab_rv K)) 9 [none] [.int s0] (shC Z) I A 1 6 := by
  unfold wjX11_demandIndex_9 at h
  refine g_callS (n := 12) (as := [.int s0]) (bc' := 0) (bs' := 0) (ctX11_demand h) okX11_demand w_1439 w_1440 dX11_demandIndex_9 rfl rfl (Nat.le_of_ble_eq_true rfl) (Nat.le_of_ble_eq_true rfl) (Nat.le_of_ble_eq_true rfl) (Nat.le_of_ble_eq_true rfl) rfl (fun E sh1 I1 A1 hp _ => hp) (fun ro sh_ I_1 A_2 hp hle => ?_)
  obtain ⟨rfl, rfl, h⟩ := hp
  exact g_vret rfl dX11_demandIndex_12 ⟨rfl, rfl, h⟩
set_option maxRecDepth 20000 in
theorem ctX11_demandIndex {Z : ab_Z} {K : ab_F → ab_F → Prop} {KX : String → ab_F → ab_F → Prop} {I A : ab_F} {p0 : Int32} (h : wX11_demandIndex K KX I A p0) : ab_Cl mX11_demandIndex 7 1 6 [.int p0] (shC Z) I A (ab_Px (shC Z) KX (ab_rv K)) := by
  refine ab_enter (ls := [some (.int p0)]) (by decide +kernel) (Nat.le_of_ble_eq_true rfl) rfl (fun C => ?_)
  unfold wX11_demandIndex at h
  refine g_iload_n (n := 1) dX11_demandIndex_0 rfl rfl rfl ?_
  refine g_if_eq (n := 4) 8 dX11_demandIndex_1 (by decide) rfl (fun hc => ?_) (fun hc => ?_)
  · have h := h.1 hc
    refine g_iconst (n := 9) (v := (nI 1)) dX11_demandIndex_8 rfl rfl ?_
    refine g_forget (ls' := [none]) (ab_fg rfl) ?_
    refine g_less (bc' := 1) (bs' := 6) (Nat.le_of_ble_eq_true rfl) (Nat.le_of_ble_eq_true rfl) ?_
    exact tjX11_demandIndex_9  _ _ _ h
  · have h := h.2 hc
    refine g_iconst (n := 5) (v := (nI 0)) dX11_demandIndex_4 rfl rfl ?_
    refine g_goto 9 dX11_demandIndex_5 (by decide) ?_
    refine g_forget (ls' := [none]) (ab_fg rfl) ?_
    refine g_less (bc' := 1) (bs' := 6) (Nat.le_of_ble_eq_true rfl) (Nat.le_of_ble_eq_true rfl) ?_
    exact tjX11_demandIndex_9  _ _ _ h
def wX11_pageCount (K : Int32 → ab_F → ab_F → Prop) (KX : String → ab_F → ab_F → Prop) (I A : ab_F) (p0 : Int32) : Prop := wX4_hasProcess (fun r_3 I_1 A_2 => wX11_demandIndex (fun I_4 A_5 => (∃ j_6 : Nat, p0 = nI j_6 ∧ j_6 < 6 ∧ K (A_5 10 j_6) I_4 A_5)) KX I_1 A_2 r_3) I A p0
set_option maxRecDepth 20000 in
theorem ctX11_pageCount {Z : ab_Z} {K : Int32 → ab_F → ab_F → Prop} {KX : String → ab_F → ab_F → Prop} {I A : ab_F} {p0 : Int32} (h : wX11_pageCount K KX I A p0) : ab_Cl mX11_pageCount 8 1 6 [.ref 0, .int p0] (shC Z) I A (ab_Px (shC Z) KX (ab_ri K)) := by
  refine ab_enter (ls := [some (.ref 0), some (.int p0)]) (by decide +kernel) (Nat.le_of_ble_eq_true rfl) rfl (fun C => ?_)
  unfold wX11_pageCount at h
  refine g_aload_n (n := 1) dX11_pageCount_0 rfl rfl rfl ?_
  refine g_getR (n := 4) (k := 0) dX11_pageCount_1 sC_0 vc_15 (Nat.le_of_ble_eq_true rfl) rfl w_535 rfl ?_
  refine g_getR (n := 7) (k := 0) dX11_pageCount_4 sC_8 vc_12 (Nat.le_of_ble_eq_true rfl) rfl w_400 rfl ?_
  refine g_iload_n (n := 8) dX11_pageCount_7 rfl rfl rfl ?_
  refine g_callV (n := 11) (as := [.int p0]) (bc' := 1) (bs' := 6) sC_9 vc_8 (ctX4_hasProcess h) okX4_hasProcess rfl w_1582 w_815 w_816 w_101 dX11_pageCount_8 rfl rfl (Nat.le_of_ble_eq_true rfl) (Nat.le_of_ble_eq_true rfl) (Nat.le_of_ble_eq_true rfl) (Nat.le_of_ble_eq_true rfl) rfl (fun E sh1 I1 A1 hp _ => hp.2.elim) (fun ro sh_ I_1 A_2 hp hle => ?_)
  obtain ⟨rfl, r_3, rfl, h⟩ := hp
  refine g_callS (n := 14) (as := [.int r_3]) (bc' := 0) (bs' := 0) (ctX11_demandIndex h) okX11_demandIndex w_1583 w_1584 dX11_pageCount_11 rfl rfl (Nat.le_of_ble_eq_true rfl) (Nat.le_of_ble_eq_true rfl) (Nat.le_of_ble_eq_true rfl) (Nat.le_of_ble_eq_true rfl) rfl (fun E sh1 I1 A1 hp _ => hp) (fun ro sh_ I_4 A_5 hp hle => ?_)
  obtain ⟨rfl, rfl, h⟩ := hp
  refine g_aload_n (n := 15) dX11_pageCount_14 rfl rfl rfl ?_
  refine g_getR (n := 18) (k := 0) dX11_pageCount_15 sC_0 vc_15 (Nat.le_of_ble_eq_true rfl) rfl w_535 rfl ?_
  refine g_getR (n := 21) (k := 0) dX11_pageCount_18 sC_8 vc_12 (Nat.le_of_ble_eq_true rfl) rfl w_400 rfl ?_
  refine g_getR (n := 24) (k := 1) dX11_pageCount_21 sC_9 vc_8 (Nat.le_of_ble_eq_true rfl) rfl w_241 rfl ?_
  refine g_iload_n (n := 25) dX11_pageCount_24 rfl rfl rfl ?_
  obtain ⟨j_6, hj, hl, h⟩ := h
  refine g_ialdJ (n := 26) (j := j_6) (x := (A_5 10 j_6)) dX11_pageCount_25 sC_10 hj hl (by decide) rfl rfl ?_
  exact g_iret rfl rfl dX11_pageCount_26 ⟨rfl, _, rfl, h⟩
def wX11_kindOf (K : Int32 → ab_F → ab_F → Prop) (KX : String → ab_F → ab_F → Prop) (I A : ab_F) (p0 : Int32) : Prop := wX4_hasProcess (fun r_3 I_1 A_2 => wX11_demandIndex (fun I_4 A_5 => (∃ j_6 : Nat, p0 = nI j_6 ∧ j_6 < 6 ∧ K (A_5 11 j_6) I_4 A_5)) KX I_1 A_2 r_3) I A p0
set_option maxRecDepth 20000 in
theorem ctX11_kindOf {Z : ab_Z} {K : Int32 → ab_F → ab_F → Prop} {KX : String → ab_F → ab_F → Prop} {I A : ab_F} {p0 : Int32} (h : wX11_kindOf K KX I A p0) : ab_Cl mX11_kindOf 8 1 6 [.ref 0, .int p0] (shC Z) I A (ab_Px (shC Z) KX (ab_ri K)) := by
  refine ab_enter (ls := [some (.ref 0), some (.int p0)]) (by decide +kernel) (Nat.le_of_ble_eq_true rfl) rfl (fun C => ?_)
  unfold wX11_kindOf at h
  refine g_aload_n (n := 1) dX11_kindOf_0 rfl rfl rfl ?_
  refine g_getR (n := 4) (k := 0) dX11_kindOf_1 sC_0 vc_15 (Nat.le_of_ble_eq_true rfl) rfl w_535 rfl ?_
  refine g_getR (n := 7) (k := 0) dX11_kindOf_4 sC_8 vc_12 (Nat.le_of_ble_eq_true rfl) rfl w_400 rfl ?_
  refine g_iload_n (n := 8) dX11_kindOf_7 rfl rfl rfl ?_
  refine g_callV (n := 11) (as := [.int p0]) (bc' := 1) (bs' := 6) sC_9 vc_8 (ctX4_hasProcess h) okX4_hasProcess rfl w_1582 w_815 w_816 w_101 dX11_kindOf_8 rfl rfl (Nat.le_of_ble_eq_true rfl) (Nat.le_of_ble_eq_true rfl) (Nat.le_of_ble_eq_true rfl) (Nat.le_of_ble_eq_true rfl) rfl (fun E sh1 I1 A1 hp _ => hp.2.elim) (fun ro sh_ I_1 A_2 hp hle => ?_)
  obtain ⟨rfl, r_3, rfl, h⟩ := hp
  refine g_callS (n := 14) (as := [.int r_3]) (bc' := 0) (bs' := 0) (ctX11_demandIndex h) okX11_demandIndex w_1583 w_1584 dX11_kindOf_11 rfl rfl (Nat.le_of_ble_eq_true rfl) (Nat.le_of_ble_eq_true rfl) (Nat.le_of_ble_eq_true rfl) (Nat.le_of_ble_eq_true rfl) rfl (fun E sh1 I1 A1 hp _ => hp) (fun ro sh_ I_4 A_5 hp hle => ?_)
  obtain ⟨rfl, rfl, h⟩ := hp
  refine g_aload_n (n := 15) dX11_kindOf_14 rfl rfl rfl ?_
  refine g_getR (n := 18) (k := 0) dX11_kindOf_15 sC_0 vc_15 (Nat.le_of_ble_eq_true rfl) rfl w_535 rfl ?_
  refine g_getR (n := 21) (k := 0) dX11_kindOf_18 sC_8 vc_12 (Nat.le_of_ble_eq_true rfl) rfl w_400 rfl ?_
  refine g_getR (n := 24) (k := 2) dX11_kindOf_21 sC_9 vc_8 (Nat.le_of_ble_eq_true rfl) rfl w_244 rfl ?_
  refine g_iload_n (n := 25) dX11_kindOf_24 rfl rfl rfl ?_
  obtain ⟨j_6, hj, hl, h⟩ := h
  refine g_ialdJ (n := 26) (j := j_6) (x := (A_5 11 j_6)) dX11_kindOf_25 sC_11 hj hl (by decide) rfl rfl ?_
  exact g_iret rfl rfl dX11_kindOf_26 ⟨rfl, _, rfl, h⟩
def wX11_peek (K : Int32 → ab_F → ab_F → Prop) (KX : String → ab_F → ab_F → Prop) (I A : ab_F) (p0 : Int32) (p1 : Int32) : Prop := wX4_hasPage (fun r_3 I_1 A_2 => wX11_demandIndex (fun I_4 A_5 => wX11_idOf (fun r_8 I_6 A_7 => (∃ j_9 : Nat, r_8 = nI j_9 ∧ j_9 < 48 ∧ K (A_7 13 j_9) I_6 A_7)) I_4 A_5 p0 p1) KX I_1 A_2 r_3) I A p0 p1
set_option maxRecDepth 20000 in
theorem ctX11_peek {Z : ab_Z} {K : Int32 → ab_F → ab_F → Prop} {KX : String → ab_F → ab_F → Prop} {I A : ab_F} {p0 : Int32} {p1 : Int32} (h : wX11_peek K KX I A p0 p1) : ab_Cl mX11_peek 8 1 6 [.ref 0, .int p0, .int p1] (shC Z) I A (ab_Px (shC Z) KX (ab_ri K)) := by
  refine ab_enter (ls := [some (.ref 0), some (.int p0), some (.int p1)]) (by decide +kernel) (Nat.le_of_ble_eq_true rfl) rfl (fun C => ?_)
  unfold wX11_peek at h
  refine g_aload_n (n := 1) dX11_peek_0 rfl rfl rfl ?_
  refine g_getR (n := 4) (k := 0) dX11_peek_1 sC_0 vc_15 (Nat.le_of_ble_eq_true rfl) rfl w_535 rfl ?_
  refine g_getR (n := 7) (k := 0) dX11_peek_4 sC_8 vc_12 (Nat.le_of_ble_eq_true rfl) rfl w_400 rfl ?_
  refine g_iload_n (n := 8) dX11_peek_7 rfl rfl rfl ?_
  refine g_iload_n (n := 9) dX11_peek_8 rfl rfl rfl ?_
  refine g_callV (n := 12) (as := [.int p0, .int p1]) (bc' := 1) (bs' := 6) sC_9 vc_8 (ctX4_hasPage h) okX4_hasPage rfl w_1600 w_811 w_812 w_101 dX11_peek_9 rfl rfl (Nat.le_of_ble_eq_true rfl) (Nat.le_of_ble_eq_true rfl) (Nat.le_of_ble_eq_true rfl) (Nat.le_of_ble_eq_true rfl) rfl (fun E sh1 I1 A1 hp _ => hp.2.elim) (fun ro sh_ I_1 A_2 hp hle => ?_)
  obtain ⟨rfl, r_3, rfl, h⟩ := hp
  refine g_callS (n := 15) (as := [.int r_3]) (bc' := 0) (bs' := 0) (ctX11_demandIndex h) okX11_demandIndex w_1583 w_1584 dX11_peek_12 rfl rfl (Nat.le_of_ble_eq_true rfl) (Nat.le_of_ble_eq_true rfl) (Nat.le_of_ble_eq_true rfl) (Nat.le_of_ble_eq_true rfl) rfl (fun E sh1 I1 A1 hp _ => hp) (fun ro sh_ I_4 A_5 hp hle => ?_)
  obtain ⟨rfl, rfl, h⟩ := hp
  refine g_aload_n (n := 16) dX11_peek_15 rfl rfl rfl ?_
  refine g_getR (n := 19) (k := 0) dX11_peek_16 sC_0 vc_15 (Nat.le_of_ble_eq_true rfl) rfl w_535 rfl ?_
  refine g_getR (n := 22) (k := 0) dX11_peek_19 sC_8 vc_12 (Nat.le_of_ble_eq_true rfl) rfl w_400 rfl ?_
  refine g_getR (n := 25) (k := 4) dX11_peek_22 sC_9 vc_8 (Nat.le_of_ble_eq_true rfl) rfl w_249 rfl ?_
  refine g_iload_n (n := 26) dX11_peek_25 rfl rfl rfl ?_
  refine g_iload_n (n := 27) dX11_peek_26 rfl rfl rfl ?_
  refine g_callS (n := 30) (as := [.int p0, .int p1]) (bc' := 0) (bs' := 0) (ctX11_idOf h) okX11_idOf w_1389 w_757 dX11_peek_27 rfl rfl (Nat.le_of_ble_eq_true rfl) (Nat.le_of_ble_eq_true rfl) (Nat.le_of_ble_eq_true rfl) (Nat.le_of_ble_eq_true rfl) rfl (fun E sh1 I1 A1 hp _ => hp.2.elim) (fun ro sh_ I_6 A_7 hp hle => ?_)
  obtain ⟨rfl, r_8, rfl, h⟩ := hp
  obtain ⟨j_9, hj, hl, h⟩ := h
  refine g_ialdJ (n := 31) (j := j_9) (x := (A_7 13 j_9)) dX11_peek_30 sC_13 hj hl (by decide) rfl rfl ?_
  exact g_iret rfl rfl dX11_peek_31 ⟨rfl, _, rfl, h⟩
def wlX11_floatOfBits_79 (K : UInt32 → ab_F → ab_F → Prop) : Nat → Int32 → UInt32 → Int32 → Int32 → ab_F → ab_F → Prop
  | 0, _, _, _, _, _, _ => False
  | n + 1, x0, x3, x4, x5, I, A => ((x5 ≤ x4 → ((0 ≤ x0 → K x3 I A) ∧ (¬ 0 ≤ x0 → (vf_n32 (FP.fmul x3 (3212836864 : UInt32)) ∧ K (FP.fmul x3 (3212836864 : UInt32)) I A)))) ∧ (¬ x5 ≤ x4 → (vf_n32 (FP.fmul x3 (1056964608 : UInt32)) ∧ (∀ y_8 : UInt32, y_8 = (FP.fmul x3 (1056964608 : UInt32)) → (wlX11_floatOfBits_79 K n) x0 y_8 x4 (x5 + (-1)) I A))))
def wlX11_floatOfBits_59 (K : UInt32 → ab_F → ab_F → Prop) : Nat → Int32 → UInt32 → Int32 → Int32 → ab_F → ab_F → Prop
  | 0, _, _, _, _, _, _ => False
  | n + 1, x0, x3, x4, x5, I, A => ((x4 ≤ x5 → (∃ nf : Nat, wlX11_floatOfBits_79 K nf x0 x3 x4 (nI 0) I A)) ∧ (¬ x4 ≤ x5 → (vf_n32 (FP.fmul x3 FP.fconst2) ∧ (∀ y_9 : UInt32, y_9 = (FP.fmul x3 FP.fconst2) → (wlX11_floatOfBits_59 K n) x0 y_9 x4 (x5 + nI 1) I A))))
def wjX11_floatOfBits_50 (K : UInt32 → ab_F → ab_F → Prop) (x0 : Int32) (x3 : UInt32) (s0 : Int32) (I A : ab_F) : Prop := (∀ y_7 : Int32, y_7 = (s0 - (nI 150)) → (∃ nf : Nat, wlX11_floatOfBits_59 K nf x0 x3 y_7 (nI 0) I A))
def wjX11_floatOfBits_39 (K : UInt32 → ab_F → ab_F → Prop) (x0 : Int32) (x1 : Int32) (s0 : Int32) (I A : ab_F) : Prop := (∀ y_6 : UInt32, y_6 = (FP.i2f s0) → ((¬ x1 = 0 → wjX11_floatOfBits_50 K x0 y_6 x1 I A) ∧ (x1 = 0 → wjX11_floatOfBits_50 K x0 y_6 (nI 1) I A)))
def wX11_floatOfBits (K : UInt32 → ab_F → ab_F → Prop) (I A : ab_F) (p0 : Int32) : Prop := wX11_isNanPattern (fun r_3 I_1 A_2 => ((r_3 = 0 → (∀ y_4 : Int32, y_4 = ((p0 &&& (nI 2139095040)) >>> ((nI 23) &&& 31)) → (∀ y_5 : Int32, y_5 = (p0 &&& (nI 8388607)) → ((¬ y_4 = 0 → wjX11_floatOfBits_39 K p0 y_4 (y_5 + (nI 8388608)) I_1 A_2) ∧ (y_4 = 0 → wjX11_floatOfBits_39 K p0 y_4 y_5 I_1 A_2))))) ∧ (¬ r_3 = 0 → K (2143289344 : UInt32) I_1 A_2))) I A p0
set_option maxRecDepth 20000 in
theorem tlX11_floatOfBits_79 {C : ab_X} {Z : ab_Z} {K : UInt32 → ab_F → ab_F → Prop} : ∀ (n : Nat) (x0 : Int32) (x3 : UInt32) (x4 : Int32) (x5 : Int32) (I A : ab_F), wlX11_floatOfBits_79 K n x0 x3 x4 x5 I A → ab_G mX11_floatOfBits 1 C (ab_Px (shC Z) ab_no (ab_rf K)) 79 [some (.int x0), none, none, some (.float x3), some (.int x4), some (.int x5)] [] (shC Z) I A 0 0 := by
  intro n
  induction n with
  | zero => intro x0 x3 x4 x5 I A h; exact h.elim
  | succ n hL79 =>
    intro x0 x3 x4 x5 I A h
    rw [wlX11_floatOfBits_79] at h
    refine g_iload (n := 81) dX11_floatOfBits_79 rfl rfl ?_
    refine g_iload (n := 83) dX11_floatOfBits_81 rfl rfl ?_
    refine g_icmp_le (n := 86) 98 dX11_floatOfBits_83 (by decide) rfl (fun hc => ?_) (fun hc => ?_)
    · have h := h.1 hc
      refine g_iload_n (n := 99) dX11_floatOfBits_98 rfl rfl rfl ?_
      refine g_if_ge (n := 102) 110 dX11_floatOfBits_99 (by decide) rfl (fun hc => ?_) (fun hc => ?_)
      · have h := h.1 hc
        refine g_fload_n (n := 111) dX11_floatOfBits_110 rfl rfl rfl ?_
        exact g_fret rfl dX11_floatOfBits_111 ⟨rfl, _, rfl, h⟩
      · have h := h.2 hc
        refine g_fload_n (n := 103) dX11_floatOfBits_102 rfl rfl rfl ?_
        refine g_ldcwF (n := 106) (v := (3212836864 : UInt32)) dX11_floatOfBits_103 w_1616 rfl ?_
        obtain ⟨hz, h⟩ := h
        refine g_fmul (n := 107) dX11_floatOfBits_106 hz rfl ?_
        refine g_goto 111 dX11_floatOfBits_107 (by decide) ?_
        exact g_fret rfl dX11_floatOfBits_111 ⟨rfl, _, rfl, h⟩
    · have h := h.2 hc
      refine g_fload_n (n := 87) dX11_floatOfBits_86 rfl rfl rfl ?_
      refine g_ldcwF (n := 90) (v := (1056964608 : UInt32)) dX11_floatOfBits_87 w_1615 rfl ?_
      obtain ⟨hz, h⟩ := h
      refine g_fmul (n := 91) dX11_floatOfBits_90 hz rfl ?_
      refine g_topf (fun y_8 ey_8 => ?_)
      have h := h y_8 ey_8
      refine g_fstore_n (n := 92) (ls' := [some (.int x0), none, none, some (.float y_8), some (.int x4), some (.int x5)]) dX11_floatOfBits_91 rfl rfl (Nat.le_of_ble_eq_true rfl) (Nat.le_of_ble_eq_true rfl) rfl rfl ?_
      refine g_iinc (n := 95) (v := (x5 + (-1))) (ls' := [some (.int x0), none, none, some (.float y_8), some (.int x4), some (.int (x5 + (-1)))]) dX11_floatOfBits_92 rfl rfl rfl (Nat.le_of_ble_eq_true rfl) rfl rfl ?_
      refine g_goto 79 dX11_floatOfBits_95 (by decide) ?_
      exact hL79 _ _ _ _ _ _ h
set_option maxRecDepth 20000 in
theorem tlX11_floatOfBits_59 {C : ab_X} {Z : ab_Z} {K : UInt32 → ab_F → ab_F → Prop} : ∀ (n : Nat) (x0 : Int32) (x3 : UInt32) (x4 : Int32) (x5 : Int32) (I A : ab_F), wlX11_floatOfBits_59 K n x0 x3 x4 x5 I A → ab_G mX11_floatOfBits 1 C (ab_Px (shC Z) ab_no (ab_rf K)) 59 [some (.int x0), none, none, some (.float x3), some (.int x4), some (.int x5)] [] (shC Z) I A 0 0 := by
  intro n
  induction n with
  | zero => intro x0 x3 x4 x5 I A h; exact h.elim
  | succ n hL59 =>
    intro x0 x3 x4 x5 I A h
    rw [wlX11_floatOfBits_59] at h
    refine g_iload (n := 61) dX11_floatOfBits_59 rfl rfl ?_
    refine g_iload (n := 63) dX11_floatOfBits_61 rfl rfl ?_
    refine g_icmp_ge (n := 66) 76 dX11_floatOfBits_63 (by decide) rfl (fun hc => ?_) (fun hc => ?_)
    · have h := h.1 hc
      refine g_iconst (n := 77) (v := (nI 0)) dX11_floatOfBits_76 rfl rfl ?_
      refine g_istore (n := 79) (ls' := [some (.int x0), none, none, some (.float x3), some (.int x4), some (.int (nI 0))]) dX11_floatOfBits_77 rfl (Nat.le_of_ble_eq_true rfl) (Nat.le_of_ble_eq_true rfl) rfl rfl ?_
      refine g_less (bc' := 0) (bs' := 0) (Nat.le_of_ble_eq_true rfl) (Nat.le_of_ble_eq_true rfl) ?_
      obtain ⟨n_f, h⟩ := h
      exact tlX11_floatOfBits_79  n_f _ _ _ _ _ _ h
    · have h := h.2 hc
      refine g_fload_n (n := 67) dX11_floatOfBits_66 rfl rfl rfl ?_
      refine g_fconst2 (n := 68) dX11_floatOfBits_67 rfl ?_
      obtain ⟨hz, h⟩ := h
      refine g_fmul (n := 69) dX11_floatOfBits_68 hz rfl ?_
      refine g_topf (fun y_9 ey_9 => ?_)
      have h := h y_9 ey_9
      refine g_fstore_n (n := 70) (ls' := [some (.int x0), none, none, some (.float y_9), some (.int x4), some (.int x5)]) dX11_floatOfBits_69 rfl rfl (Nat.le_of_ble_eq_true rfl) (Nat.le_of_ble_eq_true rfl) rfl rfl ?_
      refine g_iinc (n := 73) (v := (x5 + nI 1)) (ls' := [some (.int x0), none, none, some (.float y_9), some (.int x4), some (.int (x5 + nI 1))]) dX11_floatOfBits_70 rfl rfl rfl (Nat.le_of_ble_eq_true rfl) rfl rfl ?_
      refine g_goto 59 dX11_floatOfBits_73 (by decide) ?_
      exact hL59 _ _ _ _ _ _ h
set_option maxRecDepth 20000 in
theorem tjX11_floatOfBits_50 {C : ab_X} {Z : ab_Z} {K : UInt32 → ab_F → ab_F → Prop} (x0 : Int32) (x3 : UInt32) (s0 : Int32) (I A : ab_F) (h : wjX11_floatOfBits_50 K x0 x3 s0 I A) : ab_G mX11_floatOfBits 1 C (ab_Px (shC Z) ab_no (ab_rf K)) 50 [some (.int x0), none, none, some (.float x3), none, none] [.int s0] (shC Z) I A 0 0 := by
  unfold wjX11_floatOfBits_50 at h
  refine g_sipush (n := 53) (v := (nI 150)) dX11_floatOfBits_50 rfl rfl ?_
  refine g_isub (n := 54) dX11_floatOfBits_53 rfl ?_
  refine g_topi (fun y_7 ey_7 => ?_)
  have h := h y_7 ey_7
  refine g_istore (n := 56) (ls' := [some (.int x0), none, none, some (.float x3), some (.int y_7), none]) dX11_floatOfBits_54 rfl (Nat.le_of_ble_eq_true rfl) (Nat.le_of_ble_eq_true rfl) rfl rfl ?_
  refine g_iconst (n := 57) (v := (nI 0)) dX11_floatOfBits_56 rfl rfl ?_
  refine g_istore (n := 59) (ls' := [some (.int x0), none, none, some (.float x3), some (.int y_7), some (.int (nI 0))]) dX11_floatOfBits_57 rfl (Nat.le_of_ble_eq_true rfl) (Nat.le_of_ble_eq_true rfl) rfl rfl ?_
  refine g_less (bc' := 0) (bs' := 0) (Nat.le_of_ble_eq_true rfl) (Nat.le_of_ble_eq_true rfl) ?_
  obtain ⟨n_f, h⟩ := h
  exact tlX11_floatOfBits_59  n_f _ _ _ _ _ _ h
set_option maxRecDepth 20000 in
theorem tjX11_floatOfBits_39 {C : ab_X} {Z : ab_Z} {K : UInt32 → ab_F → ab_F → Prop} (x0 : Int32) (x1 : Int32) (s0 : Int32) (I A : ab_F) (h : wjX11_floatOfBits_39 K x0 x1 s0 I A) : ab_G mX11_floatOfBits 1 C (ab_Px (shC Z) ab_no (ab_rf K)) 39 [some (.int x0), some (.int x1), none, none, none, none] [.int s0] (shC Z) I A 0 0 := by
  unfold wjX11_floatOfBits_39 at h
  refine g_i2f (n := 40) dX11_floatOfBits_39 rfl ?_
  refine g_topf (fun y_6 ey_6 => ?_)
  have h := h y_6 ey_6
  refine g_fstore_n (n := 41) (ls' := [some (.int x0), some (.int x1), none, some (.float y_6), none, none]) dX11_floatOfBits_40 rfl rfl (Nat.le_of_ble_eq_true rfl) (Nat.le_of_ble_eq_true rfl) rfl rfl ?_
  refine g_iload_n (n := 42) dX11_floatOfBits_41 rfl rfl rfl ?_
  refine g_if_ne (n := 45) 49 dX11_floatOfBits_42 (by decide) rfl (fun hc => ?_) (fun hc => ?_)
  · have h := h.1 hc
    refine g_iload_n (n := 50) dX11_floatOfBits_49 rfl rfl rfl ?_
    refine g_forget (ls' := [some (.int x0), none, none, some (.float y_6), none, none]) (ab_fg rfl) ?_
    refine g_less (bc' := 0) (bs' := 0) (Nat.le_of_ble_eq_true rfl) (Nat.le_of_ble_eq_true rfl) ?_
    exact tjX11_floatOfBits_50  _ _ _ _ _ h
  · have h := h.2 hc
    refine g_iconst (n := 46) (v := (nI 1)) dX11_floatOfBits_45 rfl rfl ?_
    refine g_goto 50 dX11_floatOfBits_46 (by decide) ?_
    refine g_forget (ls' := [some (.int x0), none, none, some (.float y_6), none, none]) (ab_fg rfl) ?_
    refine g_less (bc' := 0) (bs' := 0) (Nat.le_of_ble_eq_true rfl) (Nat.le_of_ble_eq_true rfl) ?_
    exact tjX11_floatOfBits_50  _ _ _ _ _ h
set_option maxRecDepth 20000 in
theorem ctX11_floatOfBits {Z : ab_Z} {K : UInt32 → ab_F → ab_F → Prop} {I A : ab_F} {p0 : Int32} (h : wX11_floatOfBits K I A p0) : ab_Cl mX11_floatOfBits 1 0 0 [.int p0] (shC Z) I A (ab_Px (shC Z) ab_no (ab_rf K)) := by
  refine ab_enter (ls := [some (.int p0), none, none, none, none, none]) (by decide +kernel) (Nat.le_of_ble_eq_true rfl) rfl (fun C => ?_)
  unfold wX11_floatOfBits at h
  refine g_iload_n (n := 1) dX11_floatOfBits_0 rfl rfl rfl ?_
  refine g_callS (n := 4) (as := [.int p0]) (bc' := 0) (bs' := 0) (ctX11_isNanPattern h) okX11_isNanPattern w_1612 w_941 dX11_floatOfBits_1 rfl rfl (Nat.le_of_ble_eq_true rfl) (Nat.le_of_ble_eq_true rfl) (Nat.le_of_ble_eq_true rfl) (Nat.le_of_ble_eq_true rfl) rfl (fun E sh1 I1 A1 hp _ => hp.2.elim) (fun ro sh_ I_1 A_2 hp hle => ?_)
  obtain ⟨rfl, r_3, rfl, h⟩ := hp
  refine g_if_eq (n := 7) 11 dX11_floatOfBits_4 (by decide) rfl (fun hc => ?_) (fun hc => ?_)
  · have h := h.1 hc
    refine g_iload_n (n := 12) dX11_floatOfBits_11 rfl rfl rfl ?_
    refine g_ldcw (n := 15) (v := (nI 2139095040)) dX11_floatOfBits_12 w_943 rfl ?_
    refine g_iand (n := 16) dX11_floatOfBits_15 rfl ?_
    refine g_bipush (n := 18) (v := (nI 23)) dX11_floatOfBits_16 rfl rfl ?_
    refine g_ishr (n := 19) dX11_floatOfBits_18 rfl ?_
    refine g_topi (fun y_4 ey_4 => ?_)
    have h := h y_4 ey_4
    refine g_istore_n (n := 20) (ls' := [some (.int p0), some (.int y_4), none, none, none, none]) dX11_floatOfBits_19 rfl rfl (Nat.le_of_ble_eq_true rfl) (Nat.le_of_ble_eq_true rfl) rfl rfl ?_
    refine g_iload_n (n := 21) dX11_floatOfBits_20 rfl rfl rfl ?_
    refine g_ldcw (n := 24) (v := (nI 8388607)) dX11_floatOfBits_21 w_944 rfl ?_
    refine g_iand (n := 25) dX11_floatOfBits_24 rfl ?_
    refine g_topi (fun y_5 ey_5 => ?_)
    have h := h y_5 ey_5
    refine g_istore_n (n := 26) (ls' := [some (.int p0), some (.int y_4), some (.int y_5), none, none, none]) dX11_floatOfBits_25 rfl rfl (Nat.le_of_ble_eq_true rfl) (Nat.le_of_ble_eq_true rfl) rfl rfl ?_
    refine g_iload_n (n := 27) dX11_floatOfBits_26 rfl rfl rfl ?_
    refine g_if_ne (n := 30) 34 dX11_floatOfBits_27 (by decide) rfl (fun hc => ?_) (fun hc => ?_)
    · have h := h.1 hc
      refine g_iload_n (n := 35) dX11_floatOfBits_34 rfl rfl rfl ?_
      refine g_ldcw (n := 38) (v := (nI 8388608)) dX11_floatOfBits_35 w_1614 rfl ?_
      refine g_iadd (n := 39) dX11_floatOfBits_38 rfl ?_
      refine g_forget (ls' := [some (.int p0), some (.int y_4), none, none, none, none]) (ab_fg rfl) ?_
      refine g_less (bc' := 0) (bs' := 0) (Nat.le_of_ble_eq_true rfl) (Nat.le_of_ble_eq_true rfl) ?_
      exact tjX11_floatOfBits_39  _ _ _ _ _ h
    · have h := h.2 hc
      refine g_iload_n (n := 31) dX11_floatOfBits_30 rfl rfl rfl ?_
      refine g_goto 39 dX11_floatOfBits_31 (by decide) ?_
      refine g_forget (ls' := [some (.int p0), some (.int y_4), none, none, none, none]) (ab_fg rfl) ?_
      refine g_less (bc' := 0) (bs' := 0) (Nat.le_of_ble_eq_true rfl) (Nat.le_of_ble_eq_true rfl) ?_
      exact tjX11_floatOfBits_39  _ _ _ _ _ h
  · have h := h.2 hc
    refine g_ldcwF (n := 10) (v := (2143289344 : UInt32)) dX11_floatOfBits_7 w_1613 rfl ?_
    exact g_fret rfl dX11_floatOfBits_10 ⟨rfl, _, rfl, h⟩
def wX11_peekFloat (K : UInt32 → ab_F → ab_F → Prop) (KX : String → ab_F → ab_F → Prop) (I A : ab_F) (p0 : Int32) (p1 : Int32) : Prop := wX4_hasPage (fun r_3 I_1 A_2 => wX11_demandIndex (fun I_4 A_5 => (∃ j_6 : Nat, p0 = nI j_6 ∧ j_6 < 6 ∧ (((A_5 11 j_6) = (nI 1) → wX11_idOf (fun r_9 I_7 A_8 => (∃ j_10 : Nat, r_9 = nI j_10 ∧ j_10 < 48 ∧ wX11_floatOfBits (fun r_13 I_11 A_12 => K r_13 I_11 A_12) I_7 A_8 (A_8 13 j_10))) I_4 A_5 p0 p1) ∧ (¬ (A_5 11 j_6) = (nI 1) → KX "java/lang/UnsupportedOperationException" I_4 A_5)))) KX I_1 A_2 r_3) I A p0 p1
set_option maxRecDepth 20000 in
theorem ctX11_peekFloat {Z : ab_Z} {K : UInt32 → ab_F → ab_F → Prop} {KX : String → ab_F → ab_F → Prop} {I A : ab_F} {p0 : Int32} {p1 : Int32} (h : wX11_peekFloat K KX I A p0 p1) : ab_Cl mX11_peekFloat 8 2 12 [.ref 0, .int p0, .int p1] (shC Z) I A (ab_Px (shC Z) KX (ab_rf K)) := by
  refine ab_enter (ls := [some (.ref 0), some (.int p0), some (.int p1)]) (by decide +kernel) (Nat.le_of_ble_eq_true rfl) rfl (fun C => ?_)
  unfold wX11_peekFloat at h
  refine g_aload_n (n := 1) dX11_peekFloat_0 rfl rfl rfl ?_
  refine g_getR (n := 4) (k := 0) dX11_peekFloat_1 sC_0 vc_15 (Nat.le_of_ble_eq_true rfl) rfl w_535 rfl ?_
  refine g_getR (n := 7) (k := 0) dX11_peekFloat_4 sC_8 vc_12 (Nat.le_of_ble_eq_true rfl) rfl w_400 rfl ?_
  refine g_iload_n (n := 8) dX11_peekFloat_7 rfl rfl rfl ?_
  refine g_iload_n (n := 9) dX11_peekFloat_8 rfl rfl rfl ?_
  refine g_callV (n := 12) (as := [.int p0, .int p1]) (bc' := 2) (bs' := 12) sC_9 vc_8 (ctX4_hasPage h) okX4_hasPage rfl w_1600 w_811 w_812 w_101 dX11_peekFloat_9 rfl rfl (Nat.le_of_ble_eq_true rfl) (Nat.le_of_ble_eq_true rfl) (Nat.le_of_ble_eq_true rfl) (Nat.le_of_ble_eq_true rfl) rfl (fun E sh1 I1 A1 hp _ => hp.2.elim) (fun ro sh_ I_1 A_2 hp hle => ?_)
  obtain ⟨rfl, r_3, rfl, h⟩ := hp
  refine g_callS (n := 15) (as := [.int r_3]) (bc' := 1) (bs' := 6) (ctX11_demandIndex h) okX11_demandIndex w_1583 w_1584 dX11_peekFloat_12 rfl rfl (Nat.le_of_ble_eq_true rfl) (Nat.le_of_ble_eq_true rfl) (Nat.le_of_ble_eq_true rfl) (Nat.le_of_ble_eq_true rfl) rfl (fun E sh1 I1 A1 hp _ => hp) (fun ro sh_ I_4 A_5 hp hle => ?_)
  obtain ⟨rfl, rfl, h⟩ := hp
  refine g_aload_n (n := 16) dX11_peekFloat_15 rfl rfl rfl ?_
  refine g_getR (n := 19) (k := 0) dX11_peekFloat_16 sC_0 vc_15 (Nat.le_of_ble_eq_true rfl) rfl w_535 rfl ?_
  refine g_getR (n := 22) (k := 0) dX11_peekFloat_19 sC_8 vc_12 (Nat.le_of_ble_eq_true rfl) rfl w_400 rfl ?_
  refine g_getR (n := 25) (k := 2) dX11_peekFloat_22 sC_9 vc_8 (Nat.le_of_ble_eq_true rfl) rfl w_244 rfl ?_
  refine g_iload_n (n := 26) dX11_peekFloat_25 rfl rfl rfl ?_
  obtain ⟨j_6, hj, hl, h⟩ := h
  refine g_ialdJ (n := 27) (j := j_6) (x := (A_5 11 j_6)) dX11_peekFloat_26 sC_11 hj hl (by decide) rfl rfl ?_
  refine g_iconst (n := 28) (v := (nI 1)) dX11_peekFloat_27 rfl rfl ?_
  refine g_icmp_eq (n := 31) 41 dX11_peekFloat_28 (by decide) rfl (fun hc => ?_) (fun hc => ?_)
  · have h := h.1 hc
    refine g_aload_n (n := 42) dX11_peekFloat_41 rfl rfl rfl ?_
    refine g_getR (n := 45) (k := 0) dX11_peekFloat_42 sC_0 vc_15 (Nat.le_of_ble_eq_true rfl) rfl w_535 rfl ?_
    refine g_getR (n := 48) (k := 0) dX11_peekFloat_45 sC_8 vc_12 (Nat.le_of_ble_eq_true rfl) rfl w_400 rfl ?_
    refine g_getR (n := 51) (k := 4) dX11_peekFloat_48 sC_9 vc_8 (Nat.le_of_ble_eq_true rfl) rfl w_249 rfl ?_
    refine g_iload_n (n := 52) dX11_peekFloat_51 rfl rfl rfl ?_
    refine g_iload_n (n := 53) dX11_peekFloat_52 rfl rfl rfl ?_
    refine g_callS (n := 56) (as := [.int p0, .int p1]) (bc' := 0) (bs' := 0) (ctX11_idOf h) okX11_idOf w_1389 w_757 dX11_peekFloat_53 rfl rfl (Nat.le_of_ble_eq_true rfl) (Nat.le_of_ble_eq_true rfl) (Nat.le_of_ble_eq_true rfl) (Nat.le_of_ble_eq_true rfl) rfl (fun E sh1 I1 A1 hp _ => hp.2.elim) (fun ro sh_ I_7 A_8 hp hle => ?_)
    obtain ⟨rfl, r_9, rfl, h⟩ := hp
    obtain ⟨j_10, hj, hl, h⟩ := h
    refine g_ialdJ (n := 57) (j := j_10) (x := (A_8 13 j_10)) dX11_peekFloat_56 sC_13 hj hl (by decide) rfl rfl ?_
    refine g_callS (n := 60) (as := [.int (A_8 13 j_10)]) (bc' := 0) (bs' := 0) (ctX11_floatOfBits h) okX11_floatOfBits w_1609 w_1610 dX11_peekFloat_57 rfl rfl (Nat.le_of_ble_eq_true rfl) (Nat.le_of_ble_eq_true rfl) (Nat.le_of_ble_eq_true rfl) (Nat.le_of_ble_eq_true rfl) rfl (fun E sh1 I1 A1 hp _ => hp.2.elim) (fun ro sh_ I_11 A_12 hp hle => ?_)
    obtain ⟨rfl, r_13, rfl, h⟩ := hp
    exact g_fret rfl dX11_peekFloat_60 ⟨rfl, _, rfl, h⟩
  · have h := h.2 hc
    exact g_throw (n := 0) (i := 37) (names := ["java/lang/RuntimeException", "java/lang/Exception"]) dX11_peekFloat_31 dX11_peekFloat_34 dX11_peekFloat_35 dX11_peekFloat_37 dX11_peekFloat_40 rfl (by decide) w_1475 w_120 xn_X11_235_a xn_X11_235_b xn_X11_235_c rfl (by decide) (Nat.le_of_ble_eq_true rfl) (Nat.le_of_ble_eq_true rfl) (Nat.le_of_ble_eq_true rfl) ⟨rfl, h⟩
def wX11_pageState (K : Int32 → ab_F → ab_F → Prop) (KX : String → ab_F → ab_F → Prop) (I A : ab_F) (p0 : Int32) (p1 : Int32) : Prop := wX4_hasPage (fun r_3 I_1 A_2 => wX11_demandIndex (fun I_4 A_5 => wX11_idOf (fun r_8 I_6 A_7 => wX4_stateAt (fun r_11 I_9 A_10 => K r_11 I_9 A_10) I_6 A_7 r_8) I_4 A_5 p0 p1) KX I_1 A_2 r_3) I A p0 p1
set_option maxRecDepth 20000 in
theorem ctX11_pageState {Z : ab_Z} {K : Int32 → ab_F → ab_F → Prop} {KX : String → ab_F → ab_F → Prop} {I A : ab_F} {p0 : Int32} {p1 : Int32} (h : wX11_pageState K KX I A p0 p1) : ab_Cl mX11_pageState 8 1 6 [.ref 0, .int p0, .int p1] (shC Z) I A (ab_Px (shC Z) KX (ab_ri K)) := by
  refine ab_enter (ls := [some (.ref 0), some (.int p0), some (.int p1)]) (by decide +kernel) (Nat.le_of_ble_eq_true rfl) rfl (fun C => ?_)
  unfold wX11_pageState at h
  refine g_aload_n (n := 1) dX11_pageState_0 rfl rfl rfl ?_
  refine g_getR (n := 4) (k := 0) dX11_pageState_1 sC_0 vc_15 (Nat.le_of_ble_eq_true rfl) rfl w_535 rfl ?_
  refine g_getR (n := 7) (k := 0) dX11_pageState_4 sC_8 vc_12 (Nat.le_of_ble_eq_true rfl) rfl w_400 rfl ?_
  refine g_iload_n (n := 8) dX11_pageState_7 rfl rfl rfl ?_
  refine g_iload_n (n := 9) dX11_pageState_8 rfl rfl rfl ?_
  refine g_callV (n := 12) (as := [.int p0, .int p1]) (bc' := 1) (bs' := 6) sC_9 vc_8 (ctX4_hasPage h) okX4_hasPage rfl w_1600 w_811 w_812 w_101 dX11_pageState_9 rfl rfl (Nat.le_of_ble_eq_true rfl) (Nat.le_of_ble_eq_true rfl) (Nat.le_of_ble_eq_true rfl) (Nat.le_of_ble_eq_true rfl) rfl (fun E sh1 I1 A1 hp _ => hp.2.elim) (fun ro sh_ I_1 A_2 hp hle => ?_)
  obtain ⟨rfl, r_3, rfl, h⟩ := hp
  refine g_callS (n := 15) (as := [.int r_3]) (bc' := 0) (bs' := 0) (ctX11_demandIndex h) okX11_demandIndex w_1583 w_1584 dX11_pageState_12 rfl rfl (Nat.le_of_ble_eq_true rfl) (Nat.le_of_ble_eq_true rfl) (Nat.le_of_ble_eq_true rfl) (Nat.le_of_ble_eq_true rfl) rfl (fun E sh1 I1 A1 hp _ => hp) (fun ro sh_ I_4 A_5 hp hle => ?_)
  obtain ⟨rfl, rfl, h⟩ := hp
  refine g_aload_n (n := 16) dX11_pageState_15 rfl rfl rfl ?_
  refine g_getR (n := 19) (k := 0) dX11_pageState_16 sC_0 vc_15 (Nat.le_of_ble_eq_true rfl) rfl w_535 rfl ?_
  refine g_getR (n := 22) (k := 0) dX11_pageState_19 sC_8 vc_12 (Nat.le_of_ble_eq_true rfl) rfl w_400 rfl ?_
  refine g_iload_n (n := 23) dX11_pageState_22 rfl rfl rfl ?_
  refine g_iload_n (n := 24) dX11_pageState_23 rfl rfl rfl ?_
  refine g_callS (n := 27) (as := [.int p0, .int p1]) (bc' := 0) (bs' := 0) (ctX11_idOf h) okX11_idOf w_1389 w_757 dX11_pageState_24 rfl rfl (Nat.le_of_ble_eq_true rfl) (Nat.le_of_ble_eq_true rfl) (Nat.le_of_ble_eq_true rfl) (Nat.le_of_ble_eq_true rfl) rfl (fun E sh1 I1 A1 hp _ => hp.2.elim) (fun ro sh_ I_6 A_7 hp hle => ?_)
  obtain ⟨rfl, r_8, rfl, h⟩ := hp
  refine g_callV (n := 30) (as := [.int r_8]) (bc' := 0) (bs' := 0) sC_9 vc_8 (ctX4_stateAt h) okX4_stateAt rfl w_1390 w_1391 w_1392 w_101 dX11_pageState_27 rfl rfl (Nat.le_of_ble_eq_true rfl) (Nat.le_of_ble_eq_true rfl) (Nat.le_of_ble_eq_true rfl) (Nat.le_of_ble_eq_true rfl) rfl (fun E sh1 I1 A1 hp _ => hp.2.elim) (fun ro sh_ I_9 A_10 hp hle => ?_)
  obtain ⟨rfl, r_11, rfl, h⟩ := hp
  exact g_iret rfl rfl dX11_pageState_30 ⟨rfl, _, rfl, h⟩
def wX11_frameOf (K : Int32 → ab_F → ab_F → Prop) (KX : String → ab_F → ab_F → Prop) (I A : ab_F) (p0 : Int32) (p1 : Int32) : Prop := wX4_hasPage (fun r_3 I_1 A_2 => wX11_demandIndex (fun I_4 A_5 => wX11_idOf (fun r_8 I_6 A_7 => (∃ j_9 : Nat, r_8 = nI j_9 ∧ j_9 < 48 ∧ K (A_7 14 j_9) I_6 A_7)) I_4 A_5 p0 p1) KX I_1 A_2 r_3) I A p0 p1
set_option maxRecDepth 20000 in
theorem ctX11_frameOf {Z : ab_Z} {K : Int32 → ab_F → ab_F → Prop} {KX : String → ab_F → ab_F → Prop} {I A : ab_F} {p0 : Int32} {p1 : Int32} (h : wX11_frameOf K KX I A p0 p1) : ab_Cl mX11_frameOf 8 1 6 [.ref 0, .int p0, .int p1] (shC Z) I A (ab_Px (shC Z) KX (ab_ri K)) := by
  refine ab_enter (ls := [some (.ref 0), some (.int p0), some (.int p1)]) (by decide +kernel) (Nat.le_of_ble_eq_true rfl) rfl (fun C => ?_)
  unfold wX11_frameOf at h
  refine g_aload_n (n := 1) dX11_frameOf_0 rfl rfl rfl ?_
  refine g_getR (n := 4) (k := 0) dX11_frameOf_1 sC_0 vc_15 (Nat.le_of_ble_eq_true rfl) rfl w_535 rfl ?_
  refine g_getR (n := 7) (k := 0) dX11_frameOf_4 sC_8 vc_12 (Nat.le_of_ble_eq_true rfl) rfl w_400 rfl ?_
  refine g_iload_n (n := 8) dX11_frameOf_7 rfl rfl rfl ?_
  refine g_iload_n (n := 9) dX11_frameOf_8 rfl rfl rfl ?_
  refine g_callV (n := 12) (as := [.int p0, .int p1]) (bc' := 1) (bs' := 6) sC_9 vc_8 (ctX4_hasPage h) okX4_hasPage rfl w_1600 w_811 w_812 w_101 dX11_frameOf_9 rfl rfl (Nat.le_of_ble_eq_true rfl) (Nat.le_of_ble_eq_true rfl) (Nat.le_of_ble_eq_true rfl) (Nat.le_of_ble_eq_true rfl) rfl (fun E sh1 I1 A1 hp _ => hp.2.elim) (fun ro sh_ I_1 A_2 hp hle => ?_)
  obtain ⟨rfl, r_3, rfl, h⟩ := hp
  refine g_callS (n := 15) (as := [.int r_3]) (bc' := 0) (bs' := 0) (ctX11_demandIndex h) okX11_demandIndex w_1583 w_1584 dX11_frameOf_12 rfl rfl (Nat.le_of_ble_eq_true rfl) (Nat.le_of_ble_eq_true rfl) (Nat.le_of_ble_eq_true rfl) (Nat.le_of_ble_eq_true rfl) rfl (fun E sh1 I1 A1 hp _ => hp) (fun ro sh_ I_4 A_5 hp hle => ?_)
  obtain ⟨rfl, rfl, h⟩ := hp
  refine g_aload_n (n := 16) dX11_frameOf_15 rfl rfl rfl ?_
  refine g_getR (n := 19) (k := 0) dX11_frameOf_16 sC_0 vc_15 (Nat.le_of_ble_eq_true rfl) rfl w_535 rfl ?_
  refine g_getR (n := 22) (k := 0) dX11_frameOf_19 sC_8 vc_12 (Nat.le_of_ble_eq_true rfl) rfl w_400 rfl ?_
  refine g_getR (n := 25) (k := 5) dX11_frameOf_22 sC_9 vc_8 (Nat.le_of_ble_eq_true rfl) rfl w_252 rfl ?_
  refine g_iload_n (n := 26) dX11_frameOf_25 rfl rfl rfl ?_
  refine g_iload_n (n := 27) dX11_frameOf_26 rfl rfl rfl ?_
  refine g_callS (n := 30) (as := [.int p0, .int p1]) (bc' := 0) (bs' := 0) (ctX11_idOf h) okX11_idOf w_1389 w_757 dX11_frameOf_27 rfl rfl (Nat.le_of_ble_eq_true rfl) (Nat.le_of_ble_eq_true rfl) (Nat.le_of_ble_eq_true rfl) (Nat.le_of_ble_eq_true rfl) rfl (fun E sh1 I1 A1 hp _ => hp.2.elim) (fun ro sh_ I_6 A_7 hp hle => ?_)
  obtain ⟨rfl, r_8, rfl, h⟩ := hp
  obtain ⟨j_9, hj, hl, h⟩ := h
  refine g_ialdJ (n := 31) (j := j_9) (x := (A_7 14 j_9)) dX11_frameOf_30 sC_14 hj hl (by decide) rfl rfl ?_
  exact g_iret rfl rfl dX11_frameOf_31 ⟨rfl, _, rfl, h⟩
def wX11_slotOf (K : Int32 → ab_F → ab_F → Prop) (KX : String → ab_F → ab_F → Prop) (I A : ab_F) (p0 : Int32) (p1 : Int32) : Prop := wX4_hasPage (fun r_3 I_1 A_2 => wX11_demandIndex (fun I_4 A_5 => wX11_idOf (fun r_8 I_6 A_7 => (∃ j_9 : Nat, r_8 = nI j_9 ∧ j_9 < 48 ∧ K (A_7 15 j_9) I_6 A_7)) I_4 A_5 p0 p1) KX I_1 A_2 r_3) I A p0 p1
set_option maxRecDepth 20000 in
theorem ctX11_slotOf {Z : ab_Z} {K : Int32 → ab_F → ab_F → Prop} {KX : String → ab_F → ab_F → Prop} {I A : ab_F} {p0 : Int32} {p1 : Int32} (h : wX11_slotOf K KX I A p0 p1) : ab_Cl mX11_slotOf 8 1 6 [.ref 0, .int p0, .int p1] (shC Z) I A (ab_Px (shC Z) KX (ab_ri K)) := by
  refine ab_enter (ls := [some (.ref 0), some (.int p0), some (.int p1)]) (by decide +kernel) (Nat.le_of_ble_eq_true rfl) rfl (fun C => ?_)
  unfold wX11_slotOf at h
  refine g_aload_n (n := 1) dX11_slotOf_0 rfl rfl rfl ?_
  refine g_getR (n := 4) (k := 0) dX11_slotOf_1 sC_0 vc_15 (Nat.le_of_ble_eq_true rfl) rfl w_535 rfl ?_
  refine g_getR (n := 7) (k := 0) dX11_slotOf_4 sC_8 vc_12 (Nat.le_of_ble_eq_true rfl) rfl w_400 rfl ?_
  refine g_iload_n (n := 8) dX11_slotOf_7 rfl rfl rfl ?_
  refine g_iload_n (n := 9) dX11_slotOf_8 rfl rfl rfl ?_
  refine g_callV (n := 12) (as := [.int p0, .int p1]) (bc' := 1) (bs' := 6) sC_9 vc_8 (ctX4_hasPage h) okX4_hasPage rfl w_1600 w_811 w_812 w_101 dX11_slotOf_9 rfl rfl (Nat.le_of_ble_eq_true rfl) (Nat.le_of_ble_eq_true rfl) (Nat.le_of_ble_eq_true rfl) (Nat.le_of_ble_eq_true rfl) rfl (fun E sh1 I1 A1 hp _ => hp.2.elim) (fun ro sh_ I_1 A_2 hp hle => ?_)
  obtain ⟨rfl, r_3, rfl, h⟩ := hp
  refine g_callS (n := 15) (as := [.int r_3]) (bc' := 0) (bs' := 0) (ctX11_demandIndex h) okX11_demandIndex w_1583 w_1584 dX11_slotOf_12 rfl rfl (Nat.le_of_ble_eq_true rfl) (Nat.le_of_ble_eq_true rfl) (Nat.le_of_ble_eq_true rfl) (Nat.le_of_ble_eq_true rfl) rfl (fun E sh1 I1 A1 hp _ => hp) (fun ro sh_ I_4 A_5 hp hle => ?_)
  obtain ⟨rfl, rfl, h⟩ := hp
  refine g_aload_n (n := 16) dX11_slotOf_15 rfl rfl rfl ?_
  refine g_getR (n := 19) (k := 0) dX11_slotOf_16 sC_0 vc_15 (Nat.le_of_ble_eq_true rfl) rfl w_535 rfl ?_
  refine g_getR (n := 22) (k := 0) dX11_slotOf_19 sC_8 vc_12 (Nat.le_of_ble_eq_true rfl) rfl w_400 rfl ?_
  refine g_getR (n := 25) (k := 6) dX11_slotOf_22 sC_9 vc_8 (Nat.le_of_ble_eq_true rfl) rfl w_255 rfl ?_
  refine g_iload_n (n := 26) dX11_slotOf_25 rfl rfl rfl ?_
  refine g_iload_n (n := 27) dX11_slotOf_26 rfl rfl rfl ?_
  refine g_callS (n := 30) (as := [.int p0, .int p1]) (bc' := 0) (bs' := 0) (ctX11_idOf h) okX11_idOf w_1389 w_757 dX11_slotOf_27 rfl rfl (Nat.le_of_ble_eq_true rfl) (Nat.le_of_ble_eq_true rfl) (Nat.le_of_ble_eq_true rfl) (Nat.le_of_ble_eq_true rfl) rfl (fun E sh1 I1 A1 hp _ => hp.2.elim) (fun ro sh_ I_6 A_7 hp hle => ?_)
  obtain ⟨rfl, r_8, rfl, h⟩ := hp
  obtain ⟨j_9, hj, hl, h⟩ := h
  refine g_ialdJ (n := 31) (j := j_9) (x := (A_7 15 j_9)) dX11_slotOf_30 sC_15 hj hl (by decide) rfl rfl ?_
  exact g_iret rfl rfl dX11_slotOf_31 ⟨rfl, _, rfl, h⟩
