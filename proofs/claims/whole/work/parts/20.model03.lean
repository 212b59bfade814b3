def wX12_pageOf (K : Int32 → ab_F → ab_F → Prop) (I A : ab_F) (p0 : Int32) (p1 : Int32) : Prop := K (((nI 8) * p0) + p1) I A
set_option maxRecDepth 20000 in
theorem ctX12_pageOf  {K : Int32 → ab_F → ab_F → Prop} {I A : ab_F} {p0 : Int32} {p1 : Int32} (h : wX12_pageOf K I A p0 p1) : ab_Cl mX12_pageOf 0 0 0 [.int p0, .int p1] shM I A (ab_Px shM ab_no (ab_ri K)) := by
  refine ab_enter (ls := [some (.int p0), some (.int p1)]) (by decide +kernel) (Nat.le_of_ble_eq_true rfl) rfl (fun C => ?_)
  unfold wX12_pageOf at h
  refine g_bipush (n := 2) (v := (nI 8)) dX12_pageOf_0 rfl rfl ?_
  refine g_iload_n (n := 3) dX12_pageOf_2 rfl rfl rfl ?_
  refine g_imul (n := 4) dX12_pageOf_3 rfl ?_
  refine g_iload_n (n := 5) dX12_pageOf_4 rfl rfl rfl ?_
  refine g_iadd (n := 6) dX12_pageOf_5 rfl ?_
  exact g_iret rfl rfl dX12_pageOf_6 ⟨rfl, _, rfl, h⟩
def wX12_readPage (K : Int32 → ab_F → ab_F → Prop) (I A : ab_F) (p0 : Int32) (p1 : Int32) : Prop := wX12_isNoPage (fun r_3 I_1 A_2 => ((¬ r_3 = 0 → K (nI 0) I_1 A_2) ∧ (r_3 = 0 → wX12_pageOf (fun r_6 I_4 A_5 => wX12_isStuck (fun r_9 I_7 A_8 => wX12_fails (fun r_12 I_10 A_11 => ((r_12 = 0 → wX12_remember (fun I_13 A_14 => wX12_pageOf (fun r_17 I_15 A_16 => wX12_access (fun I_18 A_19 => wX12_pageOf (fun r_22 I_20 A_21 => (∃ j_23 : Nat, ((nI 32) + r_22) = nI j_23 ∧ j_23 < 608 ∧ K (A_21 1 j_23) I_20 A_21)) I_18 A_19 p0 p1) I_15 A_16 r_17) I_13 A_14 p0 p1) I_10 A_11 ) ∧ (¬ r_12 = 0 → K (nI 0) I_10 A_11))) I_7 A_8 r_9 (nI 2)) I_4 A_5 r_6 (nI 0)) I_1 A_2 p0 p1))) I A p0 p1
set_option maxRecDepth 20000 in
theorem ctX12_readPage  {K : Int32 → ab_F → ab_F → Prop} {I A : ab_F} {p0 : Int32} {p1 : Int32} (h : wX12_readPage K I A p0 p1) : ab_Cl mX12_readPage 6 0 0 [.ref 0, .int p0, .int p1] shM I A (ab_Px shM ab_no (ab_ri K)) := by
  refine ab_enter (ls := [some (.ref 0), some (.int p0), some (.int p1)]) (by decide +kernel) (Nat.le_of_ble_eq_true rfl) rfl (fun C => ?_)
  unfold wX12_readPage at h
  refine g_aload_n (n := 1) dX12_readPage_0 rfl rfl rfl ?_
  refine g_iload_n (n := 2) dX12_readPage_1 rfl rfl rfl ?_
  refine g_iload_n (n := 3) dX12_readPage_2 rfl rfl rfl ?_
  refine g_callV (n := 6) (as := [.int p0, .int p1]) (bc' := 0) (bs' := 0) sM_0 vc_16 (ctX12_isNoPage h) okX12_isNoPage rfl w_2177 w_2179 w_39 w_112 dX12_readPage_3 rfl rfl (Nat.le_of_ble_eq_true rfl) (Nat.le_of_ble_eq_true rfl) (Nat.le_of_ble_eq_true rfl) (Nat.le_of_ble_eq_true rfl) rfl (fun E sh1 I1 A1 hp _ => hp.2.elim) (fun ro sh_ I_1 A_2 hp hle => ?_)
  obtain ⟨rfl, r_3, rfl, h⟩ := hp
  refine g_if_ne (n := 9) 27 dX12_readPage_6 (by decide) rfl (fun hc => ?_) (fun hc => ?_)
  · have h := h.1 hc
    refine g_iconst (n := 28) (v := (nI 0)) dX12_readPage_27 rfl rfl ?_
    exact g_iret rfl rfl dX12_readPage_28 ⟨rfl, _, rfl, h⟩
  · have h := h.2 hc
    refine g_aload_n (n := 10) dX12_readPage_9 rfl rfl rfl ?_
    refine g_aload_n (n := 11) dX12_readPage_10 rfl rfl rfl ?_
    refine g_iload_n (n := 12) dX12_readPage_11 rfl rfl rfl ?_
    refine g_iload_n (n := 13) dX12_readPage_12 rfl rfl rfl ?_
    refine g_callS (n := 16) (as := [.int p0, .int p1]) (bc' := 0) (bs' := 0) (ctX12_pageOf h) okX12_pageOf w_2193 w_2194 dX12_readPage_13 rfl rfl (Nat.le_of_ble_eq_true rfl) (Nat.le_of_ble_eq_true rfl) (Nat.le_of_ble_eq_true rfl) (Nat.le_of_ble_eq_true rfl) rfl (fun E sh1 I1 A1 hp _ => hp.2.elim) (fun ro sh_ I_4 A_5 hp hle => ?_)
    obtain ⟨rfl, r_6, rfl, h⟩ := hp
    refine g_iconst (n := 17) (v := (nI 0)) dX12_readPage_16 rfl rfl ?_
    refine g_callV (n := 20) (as := [.int r_6, .int (nI 0)]) (bc' := 0) (bs' := 0) sM_0 vc_16 (ctX12_isStuck h) okX12_isStuck rfl w_2196 w_2198 w_43 w_112 dX12_readPage_17 rfl rfl (Nat.le_of_ble_eq_true rfl) (Nat.le_of_ble_eq_true rfl) (Nat.le_of_ble_eq_true rfl) (Nat.le_of_ble_eq_true rfl) rfl (fun E sh1 I1 A1 hp _ => hp.2.elim) (fun ro sh_ I_7 A_8 hp hle => ?_)
    obtain ⟨rfl, r_9, rfl, h⟩ := hp
    refine g_iconst (n := 21) (v := (nI 2)) dX12_readPage_20 rfl rfl ?_
    refine g_callV (n := 24) (as := [.int r_9, .int (nI 2)]) (bc' := 0) (bs' := 0) sM_0 vc_16 (ctX12_fails h) okX12_fails rfl w_2189 w_2191 w_42 w_112 dX12_readPage_21 rfl rfl (Nat.le_of_ble_eq_true rfl) (Nat.le_of_ble_eq_true rfl) (Nat.le_of_ble_eq_true rfl) (Nat.le_of_ble_eq_true rfl) rfl (fun E sh1 I1 A1 hp _ => hp.2.elim) (fun ro sh_ I_10 A_11 hp hle => ?_)
    obtain ⟨rfl, r_12, rfl, h⟩ := hp
    refine g_if_eq (n := 27) 29 dX12_readPage_24 (by decide) rfl (fun hc => ?_) (fun hc => ?_)
    · have h := h.1 hc
      refine g_aload_n (n := 30) dX12_readPage_29 rfl rfl rfl ?_
      refine g_callV (n := 33) (as := []) (bc' := 0) (bs' := 0) sM_0 vc_16 (ctX12_remember h) okX12_remember rfl w_2235 w_2237 w_52 w_112 dX12_readPage_30 rfl rfl (Nat.le_of_ble_eq_true rfl) (Nat.le_of_ble_eq_true rfl) (Nat.le_of_ble_eq_true rfl) (Nat.le_of_ble_eq_true rfl) rfl (fun E sh1 I1 A1 hp _ => hp.2.elim) (fun ro sh_ I_13 A_14 hp hle => ?_)
      obtain ⟨rfl, rfl, h⟩ := hp
      refine g_aload_n (n := 34) dX12_readPage_33 rfl rfl rfl ?_
      refine g_iload_n (n := 35) dX12_readPage_34 rfl rfl rfl ?_
      refine g_iload_n (n := 36) dX12_readPage_35 rfl rfl rfl ?_
      refine g_callS (n := 39) (as := [.int p0, .int p1]) (bc' := 0) (bs' := 0) (ctX12_pageOf h) okX12_pageOf w_2193 w_2194 dX12_readPage_36 rfl rfl (Nat.le_of_ble_eq_true rfl) (Nat.le_of_ble_eq_true rfl) (Nat.le_of_ble_eq_true rfl) (Nat.le_of_ble_eq_true rfl) rfl (fun E sh1 I1 A1 hp _ => hp.2.elim) (fun ro sh_ I_15 A_16 hp hle => ?_)
      obtain ⟨rfl, r_17, rfl, h⟩ := hp
      refine g_callV (n := 42) (as := [.int r_17]) (bc' := 0) (bs' := 0) sM_0 vc_16 (ctX12_access h) okX12_access rfl w_2247 w_2249 w_55 w_112 dX12_readPage_39 rfl rfl (Nat.le_of_ble_eq_true rfl) (Nat.le_of_ble_eq_true rfl) (Nat.le_of_ble_eq_true rfl) (Nat.le_of_ble_eq_true rfl) rfl (fun E sh1 I1 A1 hp _ => hp.2.elim) (fun ro sh_ I_18 A_19 hp hle => ?_)
      obtain ⟨rfl, rfl, h⟩ := hp
      refine g_aload_n (n := 43) dX12_readPage_42 rfl rfl rfl ?_
      refine g_getR (n := 46) (k := 0) dX12_readPage_43 sM_0 vc_16 (Nat.le_of_ble_eq_true rfl) rfl w_1994 rfl ?_
      refine g_bipush (n := 48) (v := (nI 32)) dX12_readPage_46 rfl rfl ?_
      refine g_iload_n (n := 49) dX12_readPage_48 rfl rfl rfl ?_
      refine g_iload_n (n := 50) dX12_readPage_49 rfl rfl rfl ?_
      refine g_callS (n := 53) (as := [.int p0, .int p1]) (bc' := 0) (bs' := 0) (ctX12_pageOf h) okX12_pageOf w_2193 w_2194 dX12_readPage_50 rfl rfl (Nat.le_of_ble_eq_true rfl) (Nat.le_of_ble_eq_true rfl) (Nat.le_of_ble_eq_true rfl) (Nat.le_of_ble_eq_true rfl) rfl (fun E sh1 I1 A1 hp _ => hp.2.elim) (fun ro sh_ I_20 A_21 hp hle => ?_)
      obtain ⟨rfl, r_22, rfl, h⟩ := hp
      refine g_iadd (n := 54) dX12_readPage_53 rfl ?_
      obtain ⟨j_23, hj, hl, h⟩ := h
      refine g_ialdJ (n := 55) (j := j_23) (x := (A_21 1 j_23)) dX12_readPage_54 sM_1 hj hl (by decide) rfl rfl ?_
      exact g_iret rfl rfl dX12_readPage_55 ⟨rfl, _, rfl, h⟩
    · have h := h.2 hc
      refine g_iconst (n := 28) (v := (nI 0)) dX12_readPage_27 rfl rfl ?_
      exact g_iret rfl rfl dX12_readPage_28 ⟨rfl, _, rfl, h⟩
def wX12_writePage (K : Int32 → ab_F → ab_F → Prop) (I A : ab_F) (p0 : Int32) (p1 : Int32) (p2 : Int32) : Prop := wX12_isNoPage (fun r_3 I_1 A_2 => ((¬ r_3 = 0 → K (nI 0) I_1 A_2) ∧ (r_3 = 0 → wX12_pageOf (fun r_6 I_4 A_5 => wX12_isStuck (fun r_9 I_7 A_8 => wX12_fails (fun r_12 I_10 A_11 => ((r_12 = 0 → wX12_remember (fun I_13 A_14 => wX12_pageOf (fun r_17 I_15 A_16 => (∃ j_18 : Nat, ((nI 32) + r_17) = nI j_18 ∧ j_18 < 608 ∧ (∀ y_19 : Int32, y_19 = (A_16 1 j_18) → wX12_pageOf (fun r_22 I_20 A_21 => wX12_write (fun I_23 A_24 => K y_19 I_23 A_24) I_20 A_21 r_22 p2) I_15 A_16 p0 p1))) I_13 A_14 p0 p1) I_10 A_11 ) ∧ (¬ r_12 = 0 → K (nI 0) I_10 A_11))) I_7 A_8 r_9 (nI 2)) I_4 A_5 r_6 (nI 1)) I_1 A_2 p0 p1))) I A p0 p1
set_option maxRecDepth 20000 in
theorem ctX12_writePage  {K : Int32 → ab_F → ab_F → Prop} {I A : ab_F} {p0 : Int32} {p1 : Int32} {p2 : Int32} (h : wX12_writePage K I A p0 p1 p2) : ab_Cl mX12_writePage 7 0 0 [.ref 0, .int p0, .int p1, .int p2] shM I A (ab_Px shM ab_no (ab_ri K)) := by
  refine ab_enter (ls := [some (.ref 0), some (.int p0), some (.int p1), some (.int p2), none]) (by decide +kernel) (Nat.le_of_ble_eq_true rfl) rfl (fun C => ?_)
  unfold wX12_writePage at h
  refine g_aload_n (n := 1) dX12_writePage_0 rfl rfl rfl ?_
  refine g_iload_n (n := 2) dX12_writePage_1 rfl rfl rfl ?_
  refine g_iload_n (n := 3) dX12_writePage_2 rfl rfl rfl ?_
  refine g_callV (n := 6) (as := [.int p0, .int p1]) (bc' := 0) (bs' := 0) sM_0 vc_16 (ctX12_isNoPage h) okX12_isNoPage rfl w_2177 w_2179 w_39 w_112 dX12_writePage_3 rfl rfl (Nat.le_of_ble_eq_true rfl) (Nat.le_of_ble_eq_true rfl) (Nat.le_of_ble_eq_true rfl) (Nat.le_of_ble_eq_true rfl) rfl (fun E sh1 I1 A1 hp _ => hp.2.elim) (fun ro sh_ I_1 A_2 hp hle => ?_)
  obtain ⟨rfl, r_3, rfl, h⟩ := hp
  refine g_if_ne (n := 9) 27 dX12_writePage_6 (by decide) rfl (fun hc => ?_) (fun hc => ?_)
  · have h := h.1 hc
    refine g_iconst (n := 28) (v := (nI 0)) dX12_writePage_27 rfl rfl ?_
    exact g_iret rfl rfl dX12_writePage_28 ⟨rfl, _, rfl, h⟩
  · have h := h.2 hc
    refine g_aload_n (n := 10) dX12_writePage_9 rfl rfl rfl ?_
    refine g_aload_n (n := 11) dX12_writePage_10 rfl rfl rfl ?_
    refine g_iload_n (n := 12) dX12_writePage_11 rfl rfl rfl ?_
    refine g_iload_n (n := 13) dX12_writePage_12 rfl rfl rfl ?_
    refine g_callS (n := 16) (as := [.int p0, .int p1]) (bc' := 0) (bs' := 0) (ctX12_pageOf h) okX12_pageOf w_2193 w_2194 dX12_writePage_13 rfl rfl (Nat.le_of_ble_eq_true rfl) (Nat.le_of_ble_eq_true rfl) (Nat.le_of_ble_eq_true rfl) (Nat.le_of_ble_eq_true rfl) rfl (fun E sh1 I1 A1 hp _ => hp.2.elim) (fun ro sh_ I_4 A_5 hp hle => ?_)
    obtain ⟨rfl, r_6, rfl, h⟩ := hp
    refine g_iconst (n := 17) (v := (nI 1)) dX12_writePage_16 rfl rfl ?_
    refine g_callV (n := 20) (as := [.int r_6, .int (nI 1)]) (bc' := 0) (bs' := 0) sM_0 vc_16 (ctX12_isStuck h) okX12_isStuck rfl w_2196 w_2198 w_43 w_112 dX12_writePage_17 rfl rfl (Nat.le_of_ble_eq_true rfl) (Nat.le_of_ble_eq_true rfl) (Nat.le_of_ble_eq_true rfl) (Nat.le_of_ble_eq_true rfl) rfl (fun E sh1 I1 A1 hp _ => hp.2.elim) (fun ro sh_ I_7 A_8 hp hle => ?_)
    obtain ⟨rfl, r_9, rfl, h⟩ := hp
    refine g_iconst (n := 21) (v := (nI 2)) dX12_writePage_20 rfl rfl ?_
    refine g_callV (n := 24) (as := [.int r_9, .int (nI 2)]) (bc' := 0) (bs' := 0) sM_0 vc_16 (ctX12_fails h) okX12_fails rfl w_2189 w_2191 w_42 w_112 dX12_writePage_21 rfl rfl (Nat.le_of_ble_eq_true rfl) (Nat.le_of_ble_eq_true rfl) (Nat.le_of_ble_eq_true rfl) (Nat.le_of_ble_eq_true rfl) rfl (fun E sh1 I1 A1 hp _ => hp.2.elim) (fun ro sh_ I_10 A_11 hp hle => ?_)
    obtain ⟨rfl, r_12, rfl, h⟩ := hp
    refine g_if_eq (n := 27) 29 dX12_writePage_24 (by decide) rfl (fun hc => ?_) (fun hc => ?_)
    · have h := h.1 hc
      refine g_aload_n (n := 30) dX12_writePage_29 rfl rfl rfl ?_
      refine g_callV (n := 33) (as := []) (bc' := 0) (bs' := 0) sM_0 vc_16 (ctX12_remember h) okX12_remember rfl w_2235 w_2237 w_52 w_112 dX12_writePage_30 rfl rfl (Nat.le_of_ble_eq_true rfl) (Nat.le_of_ble_eq_true rfl) (Nat.le_of_ble_eq_true rfl) (Nat.le_of_ble_eq_true rfl) rfl (fun E sh1 I1 A1 hp _ => hp.2.elim) (fun ro sh_ I_13 A_14 hp hle => ?_)
      obtain ⟨rfl, rfl, h⟩ := hp
      refine g_aload_n (n := 34) dX12_writePage_33 rfl rfl rfl ?_
      refine g_getR (n := 37) (k := 0) dX12_writePage_34 sM_0 vc_16 (Nat.le_of_ble_eq_true rfl) rfl w_1994 rfl ?_
      refine g_bipush (n := 39) (v := (nI 32)) dX12_writePage_37 rfl rfl ?_
      refine g_iload_n (n := 40) dX12_writePage_39 rfl rfl rfl ?_
      refine g_iload_n (n := 41) dX12_writePage_40 rfl rfl rfl ?_
      refine g_callS (n := 44) (as := [.int p0, .int p1]) (bc' := 0) (bs' := 0) (ctX12_pageOf h) okX12_pageOf w_2193 w_2194 dX12_writePage_41 rfl rfl (Nat.le_of_ble_eq_true rfl) (Nat.le_of_ble_eq_true rfl) (Nat.le_of_ble_eq_true rfl) (Nat.le_of_ble_eq_true rfl) rfl (fun E sh1 I1 A1 hp _ => hp.2.elim) (fun ro sh_ I_15 A_16 hp hle => ?_)
      obtain ⟨rfl, r_17, rfl, h⟩ := hp
      refine g_iadd (n := 45) dX12_writePage_44 rfl ?_
      obtain ⟨j_18, hj, hl, h⟩ := h
      refine g_ialdJ (n := 46) (j := j_18) (x := (A_16 1 j_18)) dX12_writePage_45 sM_1 hj hl (by decide) rfl rfl ?_
      refine g_topi (fun y_19 ey_19 => ?_)
      have h := h y_19 ey_19
      refine g_istore (n := 48) (ls' := [some (.ref 0), some (.int p0), some (.int p1), some (.int p2), some (.int y_19)]) dX12_writePage_46 rfl (Nat.le_of_ble_eq_true rfl) (Nat.le_of_ble_eq_true rfl) rfl rfl ?_
      refine g_aload_n (n := 49) dX12_writePage_48 rfl rfl rfl ?_
      refine g_iload_n (n := 50) dX12_writePage_49 rfl rfl rfl ?_
      refine g_iload_n (n := 51) dX12_writePage_50 rfl rfl rfl ?_
      refine g_callS (n := 54) (as := [.int p0, .int p1]) (bc' := 0) (bs' := 0) (ctX12_pageOf h) okX12_pageOf w_2193 w_2194 dX12_writePage_51 rfl rfl (Nat.le_of_ble_eq_true rfl) (Nat.le_of_ble_eq_true rfl) (Nat.le_of_ble_eq_true rfl) (Nat.le_of_ble_eq_true rfl) rfl (fun E sh1 I1 A1 hp _ => hp.2.elim) (fun ro sh_ I_20 A_21 hp hle => ?_)
      obtain ⟨rfl, r_22, rfl, h⟩ := hp
      refine g_iload_n (n := 55) dX12_writePage_54 rfl rfl rfl ?_
      refine g_callV (n := 58) (as := [.int r_22, .int p2]) (bc' := 0) (bs' := 0) sM_0 vc_16 (ctX12_write h) okX12_write rfl w_2267 w_2269 w_59 w_112 dX12_writePage_55 rfl rfl (Nat.le_of_ble_eq_true rfl) (Nat.le_of_ble_eq_true rfl) (Nat.le_of_ble_eq_true rfl) (Nat.le_of_ble_eq_true rfl) rfl (fun E sh1 I1 A1 hp _ => hp.2.elim) (fun ro sh_ I_23 A_24 hp hle => ?_)
      obtain ⟨rfl, rfl, h⟩ := hp
      refine g_iload (n := 60) dX12_writePage_58 rfl rfl ?_
      exact g_iret rfl rfl dX12_writePage_60 ⟨rfl, _, rfl, h⟩
    · have h := h.2 hc
      refine g_iconst (n := 28) (v := (nI 0)) dX12_writePage_27 rfl rfl ?_
      exact g_iret rfl rfl dX12_writePage_28 ⟨rfl, _, rfl, h⟩
def wjX12_setPolicy_18 (K : Int32 → ab_F → ab_F → Prop) (x1 : Int32) (s0 : Int32) (I A : ab_F) : Prop := wX12_fails (fun r_6 I_4 A_5 => ((r_6 = 0 → wX12_remember (fun I_7 A_8 => (∀ y_9 : Int32, y_9 = (A_8 1 2) → K y_9 I_7 (wr A_8 1 2 x1))) I_4 A_5 ) ∧ (¬ r_6 = 0 → K (nI 0) I_4 A_5))) I A s0 (nI 1)
def wX12_setPolicy (K : Int32 → ab_F → ab_F → Prop) (I A : ab_F) (p0 : Int32) : Prop := wX12_in (fun r_3 I_1 A_2 => ((¬ r_3 = 0 → wjX12_setPolicy_18 K p0 (nI 0) I_1 A_2) ∧ (r_3 = 0 → wjX12_setPolicy_18 K p0 (nI 1) I_1 A_2))) I A ((p0).toInt64) (0 : Int64) (2 : Int64)
set_option maxRecDepth 20000 in
theorem tjX12_setPolicy_18 {C : ab_X}  {K : Int32 → ab_F → ab_F → Prop} (x1 : Int32) (s0 : Int32) (I A : ab_F) (h : wjX12_setPolicy_18 K x1 s0 I A) : ab_G mX12_setPolicy 2 C (ab_Px shM ab_no (ab_ri K)) 18 [some (.ref 0), some (.int x1), none] [.int s0, .ref 0] shM I A 0 0 := by
  unfold wjX12_setPolicy_18 at h
  refine g_iconst (n := 19) (v := (nI 1)) dX12_setPolicy_18 rfl rfl ?_
  refine g_callV (n := 22) (as := [.int s0, .int (nI 1)]) (bc' := 0) (bs' := 0) sM_0 vc_16 (ctX12_fails h) okX12_fails rfl w_2189 w_2191 w_42 w_112 dX12_setPolicy_19 rfl rfl (Nat.le_of_ble_eq_true rfl) (Nat.le_of_ble_eq_true rfl) (Nat.le_of_ble_eq_true rfl) (Nat.le_of_ble_eq_true rfl) rfl (fun E sh1 I1 A1 hp _ => hp.2.elim) (fun ro sh_ I_4 A_5 hp hle => ?_)
  obtain ⟨rfl, r_6, rfl, h⟩ := hp
  refine g_if_eq (n := 25) 27 dX12_setPolicy_22 (by decide) rfl (fun hc => ?_) (fun hc => ?_)
  · have h := h.1 hc
    refine g_aload_n (n := 28) dX12_setPolicy_27 rfl rfl rfl ?_
    refine g_callV (n := 31) (as := []) (bc' := 0) (bs' := 0) sM_0 vc_16 (ctX12_remember h) okX12_remember rfl w_2235 w_2237 w_52 w_112 dX12_setPolicy_28 rfl rfl (Nat.le_of_ble_eq_true rfl) (Nat.le_of_ble_eq_true rfl) (Nat.le_of_ble_eq_true rfl) (Nat.le_of_ble_eq_true rfl) rfl (fun E sh1 I1 A1 hp _ => hp.2.elim) (fun ro sh_ I_7 A_8 hp hle => ?_)
    obtain ⟨rfl, rfl, h⟩ := hp
    refine g_aload_n (n := 32) dX12_setPolicy_31 rfl rfl rfl ?_
    refine g_getR (n := 35) (k := 0) dX12_setPolicy_32 sM_0 vc_16 (Nat.le_of_ble_eq_true rfl) rfl w_1994 rfl ?_
    refine g_iconst (n := 36) (v := (nI 2)) dX12_setPolicy_35 rfl rfl ?_
    refine g_ialdJ (n := 37) (j := 2) (x := (A_8 1 2)) dX12_setPolicy_36 sM_1 rfl (Nat.le_of_ble_eq_true rfl) (by decide) rfl rfl ?_
    refine g_topi (fun y_9 ey_9 => ?_)
    have h := h y_9 ey_9
    refine g_istore_n (n := 38) (ls' := [some (.ref 0), some (.int x1), some (.int y_9)]) dX12_setPolicy_37 rfl rfl (Nat.le_of_ble_eq_true rfl) (Nat.le_of_ble_eq_true rfl) rfl rfl ?_
    refine g_aload_n (n := 39) dX12_setPolicy_38 rfl rfl rfl ?_
    refine g_getR (n := 42) (k := 0) dX12_setPolicy_39 sM_0 vc_16 (Nat.le_of_ble_eq_true rfl) rfl w_1994 rfl ?_
    refine g_iconst (n := 43) (v := (nI 2)) dX12_setPolicy_42 rfl rfl ?_
    refine g_iload_n (n := 44) dX12_setPolicy_43 rfl rfl rfl ?_
    refine g_iastJ (n := 45) (j := 2) dX12_setPolicy_44 sM_1 rfl (Nat.le_of_ble_eq_true rfl) (by decide) rfl ?_
    refine g_iload_n (n := 46) dX12_setPolicy_45 rfl rfl rfl ?_
    exact g_iret rfl rfl dX12_setPolicy_46 ⟨rfl, _, rfl, h⟩
  · have h := h.2 hc
    refine g_iconst (n := 26) (v := (nI 0)) dX12_setPolicy_25 rfl rfl ?_
    exact g_iret rfl rfl dX12_setPolicy_26 ⟨rfl, _, rfl, h⟩
set_option maxRecDepth 20000 in
theorem ctX12_setPolicy  {K : Int32 → ab_F → ab_F → Prop} {I A : ab_F} {p0 : Int32} (h : wX12_setPolicy K I A p0) : ab_Cl mX12_setPolicy 2 0 0 [.ref 0, .int p0] shM I A (ab_Px shM ab_no (ab_ri K)) := by
  refine ab_enter (ls := [some (.ref 0), some (.int p0), none]) (by decide +kernel) (Nat.le_of_ble_eq_true rfl) rfl (fun C => ?_)
  unfold wX12_setPolicy at h
  refine g_aload_n (n := 1) dX12_setPolicy_0 rfl rfl rfl ?_
  refine g_iload_n (n := 2) dX12_setPolicy_1 rfl rfl rfl ?_
  refine g_i2l (n := 3) dX12_setPolicy_2 rfl ?_
  refine g_lconst (n := 4) (v := (0 : Int64)) dX12_setPolicy_3 rfl rfl ?_
  refine g_ldc2 (n := 7) (v := (2 : Int64)) dX12_setPolicy_4 w_2280 rfl ?_
  refine g_callS (n := 10) (as := [.long ((p0).toInt64), .long (0 : Int64), .long (2 : Int64)]) (bc' := 0) (bs' := 0) (ctX12_in h) okX12_in w_2080 w_2081 dX12_setPolicy_7 rfl rfl (Nat.le_of_ble_eq_true rfl) (Nat.le_of_ble_eq_true rfl) (Nat.le_of_ble_eq_true rfl) (Nat.le_of_ble_eq_true rfl) rfl (fun E sh1 I1 A1 hp _ => hp.2.elim) (fun ro sh_ I_1 A_2 hp hle => ?_)
  obtain ⟨rfl, r_3, rfl, h⟩ := hp
  refine g_if_ne (n := 13) 17 dX12_setPolicy_10 (by decide) rfl (fun hc => ?_) (fun hc => ?_)
  · have h := h.1 hc
    refine g_iconst (n := 18) (v := (nI 0)) dX12_setPolicy_17 rfl rfl ?_
    refine g_less (bc' := 0) (bs' := 0) (Nat.le_of_ble_eq_true rfl) (Nat.le_of_ble_eq_true rfl) ?_
    exact tjX12_setPolicy_18  _ _ _ _ h
  · have h := h.2 hc
    refine g_iconst (n := 14) (v := (nI 1)) dX12_setPolicy_13 rfl rfl ?_
    refine g_goto 18 dX12_setPolicy_14 (by decide) ?_
    refine g_less (bc' := 0) (bs' := 0) (Nat.le_of_ble_eq_true rfl) (Nat.le_of_ble_eq_true rfl) ?_
    exact tjX12_setPolicy_18  _ _ _ _ h
def wjX12_pendingCount_31 (K : Int32 → ab_F → ab_F → Prop) (L4 : Int32 → Int32 → ab_F → ab_F → Prop) (x2 : Int32) (s0 : Int32) (I A : ab_F) : Prop := (∀ y_4 : Int32, y_4 = (s0 + (nI 0)) → L4 y_4 (x2 + nI 1) I A)
def wlX12_pendingCount_4 (K : Int32 → ab_F → ab_F → Prop) : Nat → Int32 → Int32 → ab_F → ab_F → Prop
  | 0, _, _, _, _ => False
  | n + 1, x1, x2, I, A => (((nI 48) ≤ x2 → K x1 I A) ∧ (¬ (nI 48) ≤ x2 → wX12_isThere (fun r_3 I_1 A_2 => ((r_3 = 0 → wjX12_pendingCount_31 K (wlX12_pendingCount_4 K n) x2 x1 I_1 A_2) ∧ (¬ r_3 = 0 → wX12_isPending (fun r_7 I_5 A_6 => ((r_7 = 0 → wjX12_pendingCount_31 K (wlX12_pendingCount_4 K n) x2 x1 I_5 A_6) ∧ (¬ r_7 = 0 → (∀ y_8 : Int32, y_8 = (x1 + (nI 1)) → (wlX12_pendingCount_4 K n) y_8 (x2 + nI 1) I_5 A_6)))) I_1 A_2 x2))) I A x2))
def wX12_pendingCount (K : Int32 → ab_F → ab_F → Prop) (I A : ab_F)  : Prop := (∃ nf : Nat, wlX12_pendingCount_4 K nf (nI 0) (nI 0) I A)
set_option maxRecDepth 20000 in
theorem tjX12_pendingCount_31 {C : ab_X}  {K : Int32 → ab_F → ab_F → Prop} {L4 : Int32 → Int32 → ab_F → ab_F → Prop} (hL4 : ∀ (x1 : Int32) (x2 : Int32) (I A : ab_F), L4 x1 x2 I A → ab_G mX12_pendingCount 2 C (ab_Px shM ab_no (ab_ri K)) 4 [some (.ref 0), some (.int x1), some (.int x2)] [] shM I A 0 0) (x2 : Int32) (s0 : Int32) (I A : ab_F) (h : wjX12_pendingCount_31 K L4 x2 s0 I A) : ab_G mX12_pendingCount 2 C (ab_Px shM ab_no (ab_ri K)) 31 [some (.ref 0), none, some (.int x2)] [.int s0] shM I A 0 0 := by
  unfold wjX12_pendingCount_31 at h
  refine g_iconst (n := 32) (v := (nI 0)) dX12_pendingCount_31 rfl rfl ?_
  refine g_iadd (n := 33) dX12_pendingCount_32 rfl ?_
  refine g_topi (fun y_4 ey_4 => ?_)
  have h := h y_4 ey_4
  refine g_istore_n (n := 34) (ls' := [some (.ref 0), some (.int y_4), some (.int x2)]) dX12_pendingCount_33 rfl rfl (Nat.le_of_ble_eq_true rfl) (Nat.le_of_ble_eq_true rfl) rfl rfl ?_
  refine g_iinc (n := 37) (v := (x2 + nI 1)) (ls' := [some (.ref 0), some (.int y_4), some (.int (x2 + nI 1))]) dX12_pendingCount_34 rfl rfl rfl (Nat.le_of_ble_eq_true rfl) rfl rfl ?_
  refine g_goto 4 dX12_pendingCount_37 (by decide) ?_
  exact hL4 _ _ _ _ h
set_option maxRecDepth 20000 in
theorem tlX12_pendingCount_4 {C : ab_X}  {K : Int32 → ab_F → ab_F → Prop} : ∀ (n : Nat) (x1 : Int32) (x2 : Int32) (I A : ab_F), wlX12_pendingCount_4 K n x1 x2 I A → ab_G mX12_pendingCount 2 C (ab_Px shM ab_no (ab_ri K)) 4 [some (.ref 0), some (.int x1), some (.int x2)] [] shM I A 0 0 := by
  intro n
  induction n with
  | zero => intro x1 x2 I A h; exact h.elim
  | succ n hL4 =>
    intro x1 x2 I A h
    rw [wlX12_pendingCount_4] at h
    refine g_iload_n (n := 5) dX12_pendingCount_4 rfl rfl rfl ?_
    refine g_bipush (n := 7) (v := (nI 48)) dX12_pendingCount_5 rfl rfl ?_
    refine g_icmp_ge (n := 10) 40 dX12_pendingCount_7 (by decide) rfl (fun hc => ?_) (fun hc => ?_)
    · have h := h.1 hc
      refine g_iload_n (n := 41) dX12_pendingCount_40 rfl rfl rfl ?_
      exact g_iret rfl rfl dX12_pendingCount_41 ⟨rfl, _, rfl, h⟩
    · have h := h.2 hc
      refine g_iload_n (n := 11) dX12_pendingCount_10 rfl rfl rfl ?_
      refine g_aload_n (n := 12) dX12_pendingCount_11 rfl rfl rfl ?_
      refine g_iload_n (n := 13) dX12_pendingCount_12 rfl rfl rfl ?_
      refine g_callV (n := 16) (as := [.int x2]) (bc' := 0) (bs' := 0) sM_0 vc_16 (ctX12_isThere h) okX12_isThere rfl w_2215 w_2217 w_47 w_112 dX12_pendingCount_13 rfl rfl (Nat.le_of_ble_eq_true rfl) (Nat.le_of_ble_eq_true rfl) (Nat.le_of_ble_eq_true rfl) (Nat.le_of_ble_eq_true rfl) rfl (fun E sh1 I1 A1 hp _ => hp.2.elim) (fun ro sh_ I_1 A_2 hp hle => ?_)
      obtain ⟨rfl, r_3, rfl, h⟩ := hp
      refine g_if_eq (n := 19) 31 dX12_pendingCount_16 (by decide) rfl (fun hc => ?_) (fun hc => ?_)
      · have h := h.1 hc
        refine g_forget (ls' := [some (.ref 0), none, some (.int x2)]) (ab_fg rfl) ?_
        refine g_less (bc' := 0) (bs' := 0) (Nat.le_of_ble_eq_true rfl) (Nat.le_of_ble_eq_true rfl) ?_
        exact tjX12_pendingCount_31 hL4 _ _ _ _ h
      · have h := h.2 hc
        refine g_aload_n (n := 20) dX12_pendingCount_19 rfl rfl rfl ?_
        refine g_iload_n (n := 21) dX12_pendingCount_20 rfl rfl rfl ?_
        refine g_callV (n := 24) (as := [.int x2]) (bc' := 0) (bs' := 0) sM_0 vc_16 (ctX12_isPending h) okX12_isPending rfl w_2200 w_2202 w_44 w_112 dX12_pendingCount_21 rfl rfl (Nat.le_of_ble_eq_true rfl) (Nat.le_of_ble_eq_true rfl) (Nat.le_of_ble_eq_true rfl) (Nat.le_of_ble_eq_true rfl) rfl (fun E sh1 I1 A1 hp _ => hp.2.elim) (fun ro sh_ I_5 A_6 hp hle => ?_)
        obtain ⟨rfl, r_7, rfl, h⟩ := hp
        refine g_if_eq (n := 27) 31 dX12_pendingCount_24 (by decide) rfl (fun hc => ?_) (fun hc => ?_)
        · have h := h.1 hc
          refine g_forget (ls' := [some (.ref 0), none, some (.int x2)]) (ab_fg rfl) ?_
          refine g_less (bc' := 0) (bs' := 0) (Nat.le_of_ble_eq_true rfl) (Nat.le_of_ble_eq_true rfl) ?_
          exact tjX12_pendingCount_31 hL4 _ _ _ _ h
        · have h := h.2 hc
          refine g_iconst (n := 28) (v := (nI 1)) dX12_pendingCount_27 rfl rfl ?_
          refine g_goto 32 dX12_pendingCount_28 (by decide) ?_
          refine g_iadd (n := 33) dX12_pendingCount_32 rfl ?_
          refine g_topi (fun y_8 ey_8 => ?_)
          have h := h y_8 ey_8
          refine g_istore_n (n := 34) (ls' := [some (.ref 0), some (.int y_8), some (.int x2)]) dX12_pendingCount_33 rfl rfl (Nat.le_of_ble_eq_true rfl) (Nat.le_of_ble_eq_true rfl) rfl rfl ?_
          refine g_iinc (n := 37) (v := (x2 + nI 1)) (ls' := [some (.ref 0), some (.int y_8), some (.int (x2 + nI 1))]) dX12_pendingCount_34 rfl rfl rfl (Nat.le_of_ble_eq_true rfl) rfl rfl ?_
          refine g_goto 4 dX12_pendingCount_37 (by decide) ?_
          exact hL4 _ _ _ _ h
set_option maxRecDepth 20000 in
theorem ctX12_pendingCount  {K : Int32 → ab_F → ab_F → Prop} {I A : ab_F}  (h : wX12_pendingCount K I A ) : ab_Cl mX12_pendingCount 2 0 0 [.ref 0] shM I A (ab_Px shM ab_no (ab_ri K)) := by
  refine ab_enter (ls := [some (.ref 0), none, none]) (by decide +kernel) (Nat.le_of_ble_eq_true rfl) rfl (fun C => ?_)
  unfold wX12_pendingCount at h
  refine g_iconst (n := 1) (v := (nI 0)) dX12_pendingCount_0 rfl rfl ?_
  refine g_istore_n (n := 2) (ls' := [some (.ref 0), some (.int (nI 0)), none]) dX12_pendingCount_1 rfl rfl (Nat.le_of_ble_eq_true rfl) (Nat.le_of_ble_eq_true rfl) rfl rfl ?_
  refine g_iconst (n := 3) (v := (nI 0)) dX12_pendingCount_2 rfl rfl ?_
  refine g_istore_n (n := 4) (ls' := [some (.ref 0), some (.int (nI 0)), some (.int (nI 0))]) dX12_pendingCount_3 rfl rfl (Nat.le_of_ble_eq_true rfl) (Nat.le_of_ble_eq_true rfl) rfl rfl ?_
  refine g_less (bc' := 0) (bs' := 0) (Nat.le_of_ble_eq_true rfl) (Nat.le_of_ble_eq_true rfl) ?_
  obtain ⟨n_f, h⟩ := h
  exact tlX12_pendingCount_4  n_f _ _ _ _ h
def wjX12_startFor_71 (K : ab_F → ab_F → Prop) (L28 : Int32 → ab_F → ab_F → Prop) (x2 : Int32) (s0 : Int32) (s1 : Int32) (I A : ab_F) : Prop := (∃ j_3 : Nat, s1 = nI j_3 ∧ j_3 < 608 ∧ L28 (x2 + nI 1) I (wr A 1 j_3 s0))
def wlX12_startFor_28 (K : ab_F → ab_F → Prop) : Nat → Int32 → ab_F → ab_F → Prop
  | 0, _, _, _ => False
  | n + 1, x2, I, A => (((nI 48) ≤ x2 → K I A) ∧ (¬ (nI 48) ≤ x2 → (∃ j_1 : Nat, ((nI 176) + x2) = nI j_1 ∧ j_1 < 608 ∧ ((¬ (A 1 j_1) = (nI 1) → (∃ j_2 : Nat, ((nI 80) + x2) = nI j_2 ∧ j_2 < 608 ∧ wjX12_startFor_71 K (wlX12_startFor_28 K n) x2 (A 1 j_2) ((nI 224) + x2) I A)) ∧ ((A 1 j_1) = (nI 1) → wjX12_startFor_71 K (wlX12_startFor_28 K n) x2 (-2 : Int32) ((nI 224) + x2) I A)))))
def wX12_startFor (K : ab_F → ab_F → Prop) (I A : ab_F) (p0 : Int32) : Prop := (∃ nf : Nat, wlX12_startFor_28 K nf (nI 0) I (wr (wr (wr A 1 4 ((A 1 4) + (nI 1))) 1 10 p0) 1 11 (nI 0)))
set_option maxRecDepth 20000 in
theorem tjX12_startFor_71 {C : ab_X}  {K : ab_F → ab_F → Prop} {L28 : Int32 → ab_F → ab_F → Prop} (hL28 : ∀ (x2 : Int32) (I A : ab_F), L28 x2 I A → ab_G mX12_startFor 0 C (ab_Px shM ab_no (ab_rv K)) 28 [some (.ref 0), none, some (.int x2)] [] shM I A 0 0) (x2 : Int32) (s0 : Int32) (s1 : Int32) (I A : ab_F) (h : wjX12_startFor_71 K L28 x2 s0 s1 I A) : ab_G mX12_startFor 0 C (ab_Px shM ab_no (ab_rv K)) 71 [some (.ref 0), none, some (.int x2)] [.int s0, .int s1, .ref 1] shM I A 0 0 := by
  unfold wjX12_startFor_71 at h
  obtain ⟨j_3, hj, hl, h⟩ := h
  refine g_iastJ (n := 72) (j := j_3) dX12_startFor_71 sM_1 hj hl (by decide) rfl ?_
  refine g_iinc (n := 75) (v := (x2 + nI 1)) (ls' := [some (.ref 0), none, some (.int (x2 + nI 1))]) dX12_startFor_72 rfl rfl rfl (Nat.le_of_ble_eq_true rfl) rfl rfl ?_
  refine g_goto 28 dX12_startFor_75 (by decide) ?_
  exact hL28 _ _ _ h
set_option maxRecDepth 20000 in
theorem tlX12_startFor_28 {C : ab_X}  {K : ab_F → ab_F → Prop} : ∀ (n : Nat) (x2 : Int32) (I A : ab_F), wlX12_startFor_28 K n x2 I A → ab_G mX12_startFor 0 C (ab_Px shM ab_no (ab_rv K)) 28 [some (.ref 0), none, some (.int x2)] [] shM I A 0 0 := by
  intro n
  induction n with
  | zero => intro x2 I A h; exact h.elim
  | succ n hL28 =>
    intro x2 I A h
    rw [wlX12_startFor_28] at h
    refine g_iload_n (n := 29) dX12_startFor_28 rfl rfl rfl ?_
    refine g_bipush (n := 31) (v := (nI 48)) dX12_startFor_29 rfl rfl ?_
    refine g_icmp_ge (n := 34) 78 dX12_startFor_31 (by decide) rfl (fun hc => ?_) (fun hc => ?_)
    · have h := h.1 hc
      exact g_vret rfl dX12_startFor_78 ⟨rfl, rfl, h⟩
    · have h := h.2 hc
      refine g_aload_n (n := 35) dX12_startFor_34 rfl rfl rfl ?_
      refine g_getR (n := 38) (k := 0) dX12_startFor_35 sM_0 vc_16 (Nat.le_of_ble_eq_true rfl) rfl w_1994 rfl ?_
      refine g_sipush (n := 41) (v := (nI 224)) dX12_startFor_38 rfl rfl ?_
      refine g_iload_n (n := 42) dX12_startFor_41 rfl rfl rfl ?_
      refine g_iadd (n := 43) dX12_startFor_42 rfl ?_
      refine g_aload_n (n := 44) dX12_startFor_43 rfl rfl rfl ?_
      refine g_getR (n := 47) (k := 0) dX12_startFor_44 sM_0 vc_16 (Nat.le_of_ble_eq_true rfl) rfl w_1994 rfl ?_
      refine g_sipush (n := 50) (v := (nI 176)) dX12_startFor_47 rfl rfl ?_
      refine g_iload_n (n := 51) dX12_startFor_50 rfl rfl rfl ?_
      refine g_iadd (n := 52) dX12_startFor_51 rfl ?_
      obtain ⟨j_1, hj, hl, h⟩ := h
      refine g_ialdJ (n := 53) (j := j_1) (x := (A 1 j_1)) dX12_startFor_52 sM_1 hj hl (by decide) rfl rfl ?_
      refine g_iconst (n := 54) (v := (nI 1)) dX12_startFor_53 rfl rfl ?_
      refine g_icmp_ne (n := 57) 62 dX12_startFor_54 (by decide) rfl (fun hc => ?_) (fun hc => ?_)
      · have h := h.1 hc
        refine g_aload_n (n := 63) dX12_startFor_62 rfl rfl rfl ?_
        refine g_getR (n := 66) (k := 0) dX12_startFor_63 sM_0 vc_16 (Nat.le_of_ble_eq_true rfl) rfl w_1994 rfl ?_
        refine g_bipush (n := 68) (v := (nI 80)) dX12_startFor_66 rfl rfl ?_
        refine g_iload_n (n := 69) dX12_startFor_68 rfl rfl rfl ?_
        refine g_iadd (n := 70) dX12_startFor_69 rfl ?_
        obtain ⟨j_2, hj, hl, h⟩ := h
        refine g_ialdJ (n := 71) (j := j_2) (x := (A 1 j_2)) dX12_startFor_70 sM_1 hj hl (by decide) rfl rfl ?_
        refine g_less (bc' := 0) (bs' := 0) (Nat.le_of_ble_eq_true rfl) (Nat.le_of_ble_eq_true rfl) ?_
        exact tjX12_startFor_71 hL28 _ _ _ _ _ h
      · have h := h.2 hc
        refine g_bipush (n := 59) (v := (-2 : Int32)) dX12_startFor_57 rfl rfl ?_
        refine g_goto 71 dX12_startFor_59 (by decide) ?_
        refine g_less (bc' := 0) (bs' := 0) (Nat.le_of_ble_eq_true rfl) (Nat.le_of_ble_eq_true rfl) ?_
        exact tjX12_startFor_71 hL28 _ _ _ _ _ h
set_option maxRecDepth 20000 in
theorem ctX12_startFor  {K : ab_F → ab_F → Prop} {I A : ab_F} {p0 : Int32} (h : wX12_startFor K I A p0) : ab_Cl mX12_startFor 0 0 0 [.ref 0, .int p0] shM I A (ab_Px shM ab_no (ab_rv K)) := by
  refine ab_enter (ls := [some (.ref 0), some (.int p0), none]) (by decide +kernel) (Nat.le_of_ble_eq_true rfl) rfl (fun C => ?_)
  unfold wX12_startFor at h
  refine g_aload_n (n := 1) dX12_startFor_0 rfl rfl rfl ?_
  refine g_getR (n := 4) (k := 0) dX12_startFor_1 sM_0 vc_16 (Nat.le_of_ble_eq_true rfl) rfl w_1994 rfl ?_
  refine g_iconst (n := 5) (v := (nI 4)) dX12_startFor_4 rfl rfl ?_
  refine g_dup2 (n := 6) dX12_startFor_5 rfl rfl rfl ?_
  refine g_ialdJ (n := 7) (j := 4) (x := (A 1 4)) dX12_startFor_6 sM_1 rfl (Nat.le_of_ble_eq_true rfl) (by decide) rfl rfl ?_
  refine g_iconst (n := 8) (v := (nI 1)) dX12_startFor_7 rfl rfl ?_
  refine g_iadd (n := 9) dX12_startFor_8 rfl ?_
  refine g_iastJ (n := 10) (j := 4) dX12_startFor_9 sM_1 rfl (Nat.le_of_ble_eq_true rfl) (by decide) rfl ?_
  refine g_aload_n (n := 11) dX12_startFor_10 rfl rfl rfl ?_
  refine g_getR (n := 14) (k := 0) dX12_startFor_11 sM_0 vc_16 (Nat.le_of_ble_eq_true rfl) rfl w_1994 rfl ?_
  refine g_bipush (n := 16) (v := (nI 10)) dX12_startFor_14 rfl rfl ?_
  refine g_iload_n (n := 17) dX12_startFor_16 rfl rfl rfl ?_
  refine g_iastJ (n := 18) (j := 10) dX12_startFor_17 sM_1 rfl (Nat.le_of_ble_eq_true rfl) (by decide) rfl ?_
  refine g_aload_n (n := 19) dX12_startFor_18 rfl rfl rfl ?_
  refine g_getR (n := 22) (k := 0) dX12_startFor_19 sM_0 vc_16 (Nat.le_of_ble_eq_true rfl) rfl w_1994 rfl ?_
  refine g_bipush (n := 24) (v := (nI 11)) dX12_startFor_22 rfl rfl ?_
  refine g_iconst (n := 25) (v := (nI 0)) dX12_startFor_24 rfl rfl ?_
  refine g_iastJ (n := 26) (j := 11) dX12_startFor_25 sM_1 rfl (Nat.le_of_ble_eq_true rfl) (by decide) rfl ?_
  refine g_iconst (n := 27) (v := (nI 0)) dX12_startFor_26 rfl rfl ?_
  refine g_istore_n (n := 28) (ls' := [some (.ref 0), some (.int p0), some (.int (nI 0))]) dX12_startFor_27 rfl rfl (Nat.le_of_ble_eq_true rfl) (Nat.le_of_ble_eq_true rfl) rfl rfl ?_
  refine g_forget (ls' := [some (.ref 0), none, some (.int (nI 0))]) (ab_fg rfl) ?_
  refine g_less (bc' := 0) (bs' := 0) (Nat.le_of_ble_eq_true rfl) (Nat.le_of_ble_eq_true rfl) ?_
  obtain ⟨n_f, h⟩ := h
  exact tlX12_startFor_28  n_f _ _ _ h
def wjX12_startBarrier_29 (K : Int32 → ab_F → ab_F → Prop) (x1 : Int32) (s0 : Int32) (I A : ab_F) : Prop := wX12_fails (fun r_9 I_7 A_8 => ((r_9 = 0 → wX12_remember (fun I_10 A_11 => wX12_startFor (fun I_12 A_13 => wX12_pendingCount (fun r_16 I_14 A_15 => K r_16 I_14 A_15) I_12 A_13 ) I_10 A_11 x1) I_7 A_8 ) ∧ (¬ r_9 = 0 → K (nI 0) I_7 A_8))) I A s0 (nI 2)
def wX12_startBarrier (K : Int32 → ab_F → ab_F → Prop) (I A : ab_F) (p0 : Int32) : Prop := wX12_isNoSet (fun r_3 I_1 A_2 => wX12_fails (fun r_6 I_4 A_5 => ((¬ r_6 = 0 → K (nI 0) I_4 A_5) ∧ (r_6 = 0 → (((A_5 1 10) = 0 → wjX12_startBarrier_29 K p0 (nI 0) I_4 A_5) ∧ (¬ (A_5 1 10) = 0 → wjX12_startBarrier_29 K p0 (nI 1) I_4 A_5))))) I_1 A_2 r_3 (nI 1)) I A p0
set_option maxRecDepth 20000 in
theorem tjX12_startBarrier_29 {C : ab_X}  {K : Int32 → ab_F → ab_F → Prop} (x1 : Int32) (s0 : Int32) (I A : ab_F) (h : wjX12_startBarrier_29 K x1 s0 I A) : ab_G mX12_startBarrier 3 C (ab_Px shM ab_no (ab_ri K)) 29 [some (.ref 0), some (.int x1)] [.int s0, .ref 0] shM I A 0 0 := by
  unfold wjX12_startBarrier_29 at h
  refine g_iconst (n := 30) (v := (nI 2)) dX12_startBarrier_29 rfl rfl ?_
  refine g_callV (n := 33) (as := [.int s0, .int (nI 2)]) (bc' := 0) (bs' := 0) sM_0 vc_16 (ctX12_fails h) okX12_fails rfl w_2189 w_2191 w_42 w_112 dX12_startBarrier_30 rfl rfl (Nat.le_of_ble_eq_true rfl) (Nat.le_of_ble_eq_true rfl) (Nat.le_of_ble_eq_true rfl) (Nat.le_of_ble_eq_true rfl) rfl (fun E sh1 I1 A1 hp _ => hp.2.elim) (fun ro sh_ I_7 A_8 hp hle => ?_)
  obtain ⟨rfl, r_9, rfl, h⟩ := hp
  refine g_if_eq (n := 36) 38 dX12_startBarrier_33 (by decide) rfl (fun hc => ?_) (fun hc => ?_)
  · have h := h.1 hc
    refine g_aload_n (n := 39) dX12_startBarrier_38 rfl rfl rfl ?_
    refine g_callV (n := 42) (as := []) (bc' := 0) (bs' := 0) sM_0 vc_16 (ctX12_remember h) okX12_remember rfl w_2235 w_2237 w_52 w_112 dX12_startBarrier_39 rfl rfl (Nat.le_of_ble_eq_true rfl) (Nat.le_of_ble_eq_true rfl) (Nat.le_of_ble_eq_true rfl) (Nat.le_of_ble_eq_true rfl) rfl (fun E sh1 I1 A1 hp _ => hp.2.elim) (fun ro sh_ I_10 A_11 hp hle => ?_)
    obtain ⟨rfl, rfl, h⟩ := hp
    refine g_aload_n (n := 43) dX12_startBarrier_42 rfl rfl rfl ?_
    refine g_iload_n (n := 44) dX12_startBarrier_43 rfl rfl rfl ?_
    refine g_callV (n := 47) (as := [.int x1]) (bc' := 0) (bs' := 0) sM_0 vc_16 (ctX12_startFor h) okX12_startFor rfl w_2289 w_2291 w_61 w_112 dX12_startBarrier_44 rfl rfl (Nat.le_of_ble_eq_true rfl) (Nat.le_of_ble_eq_true rfl) (Nat.le_of_ble_eq_true rfl) (Nat.le_of_ble_eq_true rfl) rfl (fun E sh1 I1 A1 hp _ => hp.2.elim) (fun ro sh_ I_12 A_13 hp hle => ?_)
    obtain ⟨rfl, rfl, h⟩ := hp
    refine g_aload_n (n := 48) dX12_startBarrier_47 rfl rfl rfl ?_
    refine g_callV (n := 51) (as := []) (bc' := 0) (bs' := 0) sM_0 vc_16 (ctX12_pendingCount h) okX12_pendingCount rfl w_2293 w_2295 w_62 w_112 dX12_startBarrier_48 rfl rfl (Nat.le_of_ble_eq_true rfl) (Nat.le_of_ble_eq_true rfl) (Nat.le_of_ble_eq_true rfl) (Nat.le_of_ble_eq_true rfl) rfl (fun E sh1 I1 A1 hp _ => hp.2.elim) (fun ro sh_ I_14 A_15 hp hle => ?_)
    obtain ⟨rfl, r_16, rfl, h⟩ := hp
    exact g_iret rfl rfl dX12_startBarrier_51 ⟨rfl, _, rfl, h⟩
  · have h := h.2 hc
    refine g_iconst (n := 37) (v := (nI 0)) dX12_startBarrier_36 rfl rfl ?_
    exact g_iret rfl rfl dX12_startBarrier_37 ⟨rfl, _, rfl, h⟩
set_option maxRecDepth 20000 in
theorem ctX12_startBarrier  {K : Int32 → ab_F → ab_F → Prop} {I A : ab_F} {p0 : Int32} (h : wX12_startBarrier K I A p0) : ab_Cl mX12_startBarrier 3 0 0 [.ref 0, .int p0] shM I A (ab_Px shM ab_no (ab_ri K)) := by
  refine ab_enter (ls := [some (.ref 0), some (.int p0)]) (by decide +kernel) (Nat.le_of_ble_eq_true rfl) rfl (fun C => ?_)
  unfold wX12_startBarrier at h
  refine g_aload_n (n := 1) dX12_startBarrier_0 rfl rfl rfl ?_
  refine g_aload_n (n := 2) dX12_startBarrier_1 rfl rfl rfl ?_
  refine g_iload_n (n := 3) dX12_startBarrier_2 rfl rfl rfl ?_
  refine g_callV (n := 6) (as := [.int p0]) (bc' := 0) (bs' := 0) sM_0 vc_16 (ctX12_isNoSet h) okX12_isNoSet rfl w_2285 w_2287 w_60 w_112 dX12_startBarrier_3 rfl rfl (Nat.le_of_ble_eq_true rfl) (Nat.le_of_ble_eq_true rfl) (Nat.le_of_ble_eq_true rfl) (Nat.le_of_ble_eq_true rfl) rfl (fun E sh1 I1 A1 hp _ => hp.2.elim) (fun ro sh_ I_1 A_2 hp hle => ?_)
  obtain ⟨rfl, r_3, rfl, h⟩ := hp
  refine g_iconst (n := 7) (v := (nI 1)) dX12_startBarrier_6 rfl rfl ?_
  refine g_callV (n := 10) (as := [.int r_3, .int (nI 1)]) (bc' := 0) (bs' := 0) sM_0 vc_16 (ctX12_fails h) okX12_fails rfl w_2189 w_2191 w_42 w_112 dX12_startBarrier_7 rfl rfl (Nat.le_of_ble_eq_true rfl) (Nat.le_of_ble_eq_true rfl) (Nat.le_of_ble_eq_true rfl) (Nat.le_of_ble_eq_true rfl) rfl (fun E sh1 I1 A1 hp _ => hp.2.elim) (fun ro sh_ I_4 A_5 hp hle => ?_)
  obtain ⟨rfl, r_6, rfl, h⟩ := hp
  refine g_if_ne (n := 13) 36 dX12_startBarrier_10 (by decide) rfl (fun hc => ?_) (fun hc => ?_)
  · have h := h.1 hc
    refine g_iconst (n := 37) (v := (nI 0)) dX12_startBarrier_36 rfl rfl ?_
    exact g_iret rfl rfl dX12_startBarrier_37 ⟨rfl, _, rfl, h⟩
  · have h := h.2 hc
    refine g_aload_n (n := 14) dX12_startBarrier_13 rfl rfl rfl ?_
    refine g_aload_n (n := 15) dX12_startBarrier_14 rfl rfl rfl ?_
    refine g_getR (n := 18) (k := 0) dX12_startBarrier_15 sM_0 vc_16 (Nat.le_of_ble_eq_true rfl) rfl w_1994 rfl ?_
    refine g_bipush (n := 20) (v := (nI 10)) dX12_startBarrier_18 rfl rfl ?_
    refine g_ialdJ (n := 21) (j := 10) (x := (A_5 1 10)) dX12_startBarrier_20 sM_1 rfl (Nat.le_of_ble_eq_true rfl) (by decide) rfl rfl ?_
    refine g_if_eq (n := 24) 28 dX12_startBarrier_21 (by decide) rfl (fun hc => ?_) (fun hc => ?_)
    · have h := h.1 hc
      refine g_iconst (n := 29) (v := (nI 0)) dX12_startBarrier_28 rfl rfl ?_
      refine g_less (bc' := 0) (bs' := 0) (Nat.le_of_ble_eq_true rfl) (Nat.le_of_ble_eq_true rfl) ?_
      exact tjX12_startBarrier_29  _ _ _ _ h
    · have h := h.2 hc
      refine g_iconst (n := 25) (v := (nI 1)) dX12_startBarrier_24 rfl rfl ?_
      refine g_goto 29 dX12_startBarrier_25 (by decide) ?_
      refine g_less (bc' := 0) (bs' := 0) (Nat.le_of_ble_eq_true rfl) (Nat.le_of_ble_eq_true rfl) ?_
      exact tjX12_startBarrier_29  _ _ _ _ h
def wlX12_flush_4 (K : ab_F → ab_F → Prop) : Nat → Int32 → Int32 → ab_F → ab_F → Prop
  | 0, _, _, _, _ => False
  | n + 1, x2, x3, I, A => (((nI 48) ≤ x3 → K I A) ∧ (¬ (nI 48) ≤ x3 → ((x2 ≤ 0 → K I A) ∧ (¬ x2 ≤ 0 → wX12_isThere (fun r_3 I_1 A_2 => ((r_3 = 0 → (wlX12_flush_4 K n) x2 (x3 + nI 1) I_1 A_2) ∧ (¬ r_3 = 0 → wX12_isPending (fun r_6 I_4 A_5 => ((¬ r_6 = 0 → wX12_nextFree (fun r_9 I_7 A_8 => ((¬ r_9 = (-1 : Int32) → wX12_take (fun I_10 A_11 => (wlX12_flush_4 K n) (x2 + (-1)) (x3 + nI 1) I_10 A_11) I_7 A_8 x3) ∧ (r_9 = (-1 : Int32) → K I_7 A_8))) I_4 A_5 ) ∧ (r_6 = 0 → (wlX12_flush_4 K n) x2 (x3 + nI 1) I_4 A_5))) I_1 A_2 x3))) I A x3))))
def wX12_flush (K : ab_F → ab_F → Prop) (I A : ab_F) (p0 : Int32) : Prop := (∃ nf : Nat, wlX12_flush_4 K nf p0 (nI 0) I A)
set_option maxRecDepth 20000 in
theorem tlX12_flush_4 {C : ab_X}  {K : ab_F → ab_F → Prop} : ∀ (n : Nat) (x2 : Int32) (x3 : Int32) (I A : ab_F), wlX12_flush_4 K n x2 x3 I A → ab_G mX12_flush 4 C (ab_Px shM ab_no (ab_rv K)) 4 [some (.ref 0), none, some (.int x2), some (.int x3)] [] shM I A 0 0 := by
  intro n
  induction n with
  | zero => intro x2 x3 I A h; exact h.elim
  | succ n hL4 =>
    intro x2 x3 I A h
    rw [wlX12_flush_4] at h
    refine g_iload_n (n := 5) dX12_flush_4 rfl rfl rfl ?_
    refine g_bipush (n := 7) (v := (nI 48)) dX12_flush_5 rfl rfl ?_
    refine g_icmp_ge (n := 10) 56 dX12_flush_7 (by decide) rfl (fun hc => ?_) (fun hc => ?_)
    · have h := h.1 hc
      exact g_vret rfl dX12_flush_56 ⟨rfl, rfl, h⟩
    · have h := h.2 hc
      refine g_iload_n (n := 11) dX12_flush_10 rfl rfl rfl ?_
      refine g_if_le (n := 14) 56 dX12_flush_11 (by decide) rfl (fun hc => ?_) (fun hc => ?_)
      · have h := h.1 hc
        exact g_vret rfl dX12_flush_56 ⟨rfl, rfl, h⟩
      · have h := h.2 hc
        refine g_aload_n (n := 15) dX12_flush_14 rfl rfl rfl ?_
        refine g_iload_n (n := 16) dX12_flush_15 rfl rfl rfl ?_
        refine g_callV (n := 19) (as := [.int x3]) (bc' := 0) (bs' := 0) sM_0 vc_16 (ctX12_isThere h) okX12_isThere rfl w_2215 w_2217 w_47 w_112 dX12_flush_16 rfl rfl (Nat.le_of_ble_eq_true rfl) (Nat.le_of_ble_eq_true rfl) (Nat.le_of_ble_eq_true rfl) (Nat.le_of_ble_eq_true rfl) rfl (fun E sh1 I1 A1 hp _ => hp.2.elim) (fun ro sh_ I_1 A_2 hp hle => ?_)
        obtain ⟨rfl, r_3, rfl, h⟩ := hp
        refine g_if_eq (n := 22) 50 dX12_flush_19 (by decide) rfl (fun hc => ?_) (fun hc => ?_)
        · have h := h.1 hc
          refine g_iinc (n := 53) (v := (x3 + nI 1)) (ls' := [some (.ref 0), none, some (.int x2), some (.int (x3 + nI 1))]) dX12_flush_50 rfl rfl rfl (Nat.le_of_ble_eq_true rfl) rfl rfl ?_
          refine g_goto 4 dX12_flush_53 (by decide) ?_
          exact hL4 _ _ _ _ h
        · have h := h.2 hc
          refine g_aload_n (n := 23) dX12_flush_22 rfl rfl rfl ?_
          refine g_iload_n (n := 24) dX12_flush_23 rfl rfl rfl ?_
          refine g_callV (n := 27) (as := [.int x3]) (bc' := 0) (bs' := 0) sM_0 vc_16 (ctX12_isPending h) okX12_isPending rfl w_2200 w_2202 w_44 w_112 dX12_flush_24 rfl rfl (Nat.le_of_ble_eq_true rfl) (Nat.le_of_ble_eq_true rfl) (Nat.le_of_ble_eq_true rfl) (Nat.le_of_ble_eq_true rfl) rfl (fun E sh1 I1 A1 hp _ => hp.2.elim) (fun ro sh_ I_4 A_5 hp hle => ?_)
          obtain ⟨rfl, r_6, rfl, h⟩ := hp
          refine g_if_ne (n := 30) 33 dX12_flush_27 (by decide) rfl (fun hc => ?_) (fun hc => ?_)
          · have h := h.1 hc
            refine g_aload_n (n := 34) dX12_flush_33 rfl rfl rfl ?_
            refine g_callV (n := 37) (as := []) (bc' := 0) (bs' := 0) sM_0 vc_16 (ctX12_nextFree h) okX12_nextFree rfl w_2207 w_2209 w_45 w_112 dX12_flush_34 rfl rfl (Nat.le_of_ble_eq_true rfl) (Nat.le_of_ble_eq_true rfl) (Nat.le_of_ble_eq_true rfl) (Nat.le_of_ble_eq_true rfl) rfl (fun E sh1 I1 A1 hp _ => hp.2.elim) (fun ro sh_ I_7 A_8 hp hle => ?_)
            obtain ⟨rfl, r_9, rfl, h⟩ := hp
            refine g_iconst (n := 38) (v := (-1 : Int32)) dX12_flush_37 rfl rfl ?_
            refine g_icmp_ne (n := 41) 42 dX12_flush_38 (by decide) rfl (fun hc => ?_) (fun hc => ?_)
            · have h := h.1 hc
              refine g_aload_n (n := 43) dX12_flush_42 rfl rfl rfl ?_
              refine g_iload_n (n := 44) dX12_flush_43 rfl rfl rfl ?_
              refine g_callV (n := 47) (as := [.int x3]) (bc' := 0) (bs' := 0) sM_0 vc_16 (ctX12_take h) okX12_take rfl w_2255 w_2257 w_57 w_112 dX12_flush_44 rfl rfl (Nat.le_of_ble_eq_true rfl) (Nat.le_of_ble_eq_true rfl) (Nat.le_of_ble_eq_true rfl) (Nat.le_of_ble_eq_true rfl) rfl (fun E sh1 I1 A1 hp _ => hp.2.elim) (fun ro sh_ I_10 A_11 hp hle => ?_)
              obtain ⟨rfl, rfl, h⟩ := hp
              refine g_iinc (n := 50) (v := (x2 + (-1))) (ls' := [some (.ref 0), none, some (.int (x2 + (-1))), some (.int x3)]) dX12_flush_47 rfl rfl rfl (Nat.le_of_ble_eq_true rfl) rfl rfl ?_
              refine g_iinc (n := 53) (v := (x3 + nI 1)) (ls' := [some (.ref 0), none, some (.int (x2 + (-1))), some (.int (x3 + nI 1))]) dX12_flush_50 rfl rfl rfl (Nat.le_of_ble_eq_true rfl) rfl rfl ?_
              refine g_goto 4 dX12_flush_53 (by decide) ?_
              exact hL4 _ _ _ _ h
            · have h := h.2 hc
              exact g_vret rfl dX12_flush_41 ⟨rfl, rfl, h⟩
          · have h := h.2 hc
            refine g_goto 50 dX12_flush_30 (by decide) ?_
            refine g_iinc (n := 53) (v := (x3 + nI 1)) (ls' := [some (.ref 0), none, some (.int x2), some (.int (x3 + nI 1))]) dX12_flush_50 rfl rfl rfl (Nat.le_of_ble_eq_true rfl) rfl rfl ?_
            refine g_goto 4 dX12_flush_53 (by decide) ?_
            exact hL4 _ _ _ _ h
set_option maxRecDepth 20000 in
theorem ctX12_flush  {K : ab_F → ab_F → Prop} {I A : ab_F} {p0 : Int32} (h : wX12_flush K I A p0) : ab_Cl mX12_flush 4 0 0 [.ref 0, .int p0] shM I A (ab_Px shM ab_no (ab_rv K)) := by
  refine ab_enter (ls := [some (.ref 0), some (.int p0), none, none]) (by decide +kernel) (Nat.le_of_ble_eq_true rfl) rfl (fun C => ?_)
  unfold wX12_flush at h
  refine g_iload_n (n := 1) dX12_flush_0 rfl rfl rfl ?_
  refine g_istore_n (n := 2) (ls' := [some (.ref 0), some (.int p0), some (.int p0), none]) dX12_flush_1 rfl rfl (Nat.le_of_ble_eq_true rfl) (Nat.le_of_ble_eq_true rfl) rfl rfl ?_
  refine g_iconst (n := 3) (v := (nI 0)) dX12_flush_2 rfl rfl ?_
  refine g_istore_n (n := 4) (ls' := [some (.ref 0), some (.int p0), some (.int p0), some (.int (nI 0))]) dX12_flush_3 rfl rfl (Nat.le_of_ble_eq_true rfl) (Nat.le_of_ble_eq_true rfl) rfl rfl ?_
  refine g_forget (ls' := [some (.ref 0), none, some (.int p0), some (.int (nI 0))]) (ab_fg rfl) ?_
  refine g_less (bc' := 0) (bs' := 0) (Nat.le_of_ble_eq_true rfl) (Nat.le_of_ble_eq_true rfl) ?_
  obtain ⟨n_f, h⟩ := h
  exact tlX12_flush_4  n_f _ _ _ _ h
def wjX12_writeBarrier_41 (K : Int32 → ab_F → ab_F → Prop) (x1 : Int32) (s0 : Int32) (I A : ab_F) : Prop := wX12_fails (fun r_9 I_7 A_8 => ((r_9 = 0 → wX12_remember (fun I_10 A_11 => wX12_flush (fun I_12 A_13 => wX12_pendingCount (fun r_16 I_14 A_15 => K r_16 I_14 A_15) I_12 A_13 ) I_10 A_11 x1) I_7 A_8 ) ∧ (¬ r_9 = 0 → K (nI 0) I_7 A_8))) I A s0 (nI 2)
def wjX12_writeBarrier_18 (K : Int32 → ab_F → ab_F → Prop) (x1 : Int32) (s0 : Int32) (I A : ab_F) : Prop := wX12_fails (fun r_6 I_4 A_5 => ((¬ r_6 = 0 → K (nI 0) I_4 A_5) ∧ (r_6 = 0 → ((¬ (A_5 1 10) = 0 → wjX12_writeBarrier_41 K x1 (nI 0) I_4 A_5) ∧ ((A_5 1 10) = 0 → wjX12_writeBarrier_41 K x1 (nI 1) I_4 A_5))))) I A s0 (nI 1)
def wX12_writeBarrier (K : Int32 → ab_F → ab_F → Prop) (I A : ab_F) (p0 : Int32) : Prop := wX12_in (fun r_3 I_1 A_2 => ((¬ r_3 = 0 → wjX12_writeBarrier_18 K p0 (nI 0) I_1 A_2) ∧ (r_3 = 0 → wjX12_writeBarrier_18 K p0 (nI 1) I_1 A_2))) I A ((p0).toInt64) (1 : Int64) (48 : Int64)
set_option maxRecDepth 20000 in
theorem tjX12_writeBarrier_41 {C : ab_X}  {K : Int32 → ab_F → ab_F → Prop} (x1 : Int32) (s0 : Int32) (I A : ab_F) (h : wjX12_writeBarrier_41 K x1 s0 I A) : ab_G mX12_writeBarrier 5 C (ab_Px shM ab_no (ab_ri K)) 41 [some (.ref 0), some (.int x1)] [.int s0, .ref 0] shM I A 0 0 := by
  unfold wjX12_writeBarrier_41 at h
  refine g_iconst (n := 42) (v := (nI 2)) dX12_writeBarrier_41 rfl rfl ?_
  refine g_callV (n := 45) (as := [.int s0, .int (nI 2)]) (bc' := 0) (bs' := 0) sM_0 vc_16 (ctX12_fails h) okX12_fails rfl w_2189 w_2191 w_42 w_112 dX12_writeBarrier_42 rfl rfl (Nat.le_of_ble_eq_true rfl) (Nat.le_of_ble_eq_true rfl) (Nat.le_of_ble_eq_true rfl) (Nat.le_of_ble_eq_true rfl) rfl (fun E sh1 I1 A1 hp _ => hp.2.elim) (fun ro sh_ I_7 A_8 hp hle => ?_)
  obtain ⟨rfl, r_9, rfl, h⟩ := hp
  refine g_if_eq (n := 48) 50 dX12_writeBarrier_45 (by decide) rfl (fun hc => ?_) (fun hc => ?_)
  · have h := h.1 hc
    refine g_aload_n (n := 51) dX12_writeBarrier_50 rfl rfl rfl ?_
    refine g_callV (n := 54) (as := []) (bc' := 0) (bs' := 0) sM_0 vc_16 (ctX12_remember h) okX12_remember rfl w_2235 w_2237 w_52 w_112 dX12_writeBarrier_51 rfl rfl (Nat.le_of_ble_eq_true rfl) (Nat.le_of_ble_eq_true rfl) (Nat.le_of_ble_eq_true rfl) (Nat.le_of_ble_eq_true rfl) rfl (fun E sh1 I1 A1 hp _ => hp.2.elim) (fun ro sh_ I_10 A_11 hp hle => ?_)
    obtain ⟨rfl, rfl, h⟩ := hp
    refine g_aload_n (n := 55) dX12_writeBarrier_54 rfl rfl rfl ?_
    refine g_iload_n (n := 56) dX12_writeBarrier_55 rfl rfl rfl ?_
    refine g_callV (n := 59) (as := [.int x1]) (bc' := 0) (bs' := 0) sM_0 vc_16 (ctX12_flush h) okX12_flush rfl w_2301 w_2303 w_63 w_112 dX12_writeBarrier_56 rfl rfl (Nat.le_of_ble_eq_true rfl) (Nat.le_of_ble_eq_true rfl) (Nat.le_of_ble_eq_true rfl) (Nat.le_of_ble_eq_true rfl) rfl (fun E sh1 I1 A1 hp _ => hp.2.elim) (fun ro sh_ I_12 A_13 hp hle => ?_)
    obtain ⟨rfl, rfl, h⟩ := hp
    refine g_aload_n (n := 60) dX12_writeBarrier_59 rfl rfl rfl ?_
    refine g_callV (n := 63) (as := []) (bc' := 0) (bs' := 0) sM_0 vc_16 (ctX12_pendingCount h) okX12_pendingCount rfl w_2293 w_2295 w_62 w_112 dX12_writeBarrier_60 rfl rfl (Nat.le_of_ble_eq_true rfl) (Nat.le_of_ble_eq_true rfl) (Nat.le_of_ble_eq_true rfl) (Nat.le_of_ble_eq_true rfl) rfl (fun E sh1 I1 A1 hp _ => hp.2.elim) (fun ro sh_ I_14 A_15 hp hle => ?_)
    obtain ⟨rfl, r_16, rfl, h⟩ := hp
    exact g_iret rfl rfl dX12_writeBarrier_63 ⟨rfl, _, rfl, h⟩
  · have h := h.2 hc
    refine g_iconst (n := 49) (v := (nI 0)) dX12_writeBarrier_48 rfl rfl ?_
    exact g_iret rfl rfl dX12_writeBarrier_49 ⟨rfl, _, rfl, h⟩
set_option maxRecDepth 20000 in
theorem tjX12_writeBarrier_18 {C : ab_X}  {K : Int32 → ab_F → ab_F → Prop} (x1 : Int32) (s0 : Int32) (I A : ab_F) (h : wjX12_writeBarrier_18 K x1 s0 I A) : ab_G mX12_writeBarrier 5 C (ab_Px shM ab_no (ab_ri K)) 18 [some (.ref 0), some (.int x1)] [.int s0, .ref 0] shM I A 0 0 := by
  unfold wjX12_writeBarrier_18 at h
  refine g_iconst (n := 19) (v := (nI 1)) dX12_writeBarrier_18 rfl rfl ?_
  refine g_callV (n := 22) (as := [.int s0, .int (nI 1)]) (bc' := 0) (bs' := 0) sM_0 vc_16 (ctX12_fails h) okX12_fails rfl w_2189 w_2191 w_42 w_112 dX12_writeBarrier_19 rfl rfl (Nat.le_of_ble_eq_true rfl) (Nat.le_of_ble_eq_true rfl) (Nat.le_of_ble_eq_true rfl) (Nat.le_of_ble_eq_true rfl) rfl (fun E sh1 I1 A1 hp _ => hp.2.elim) (fun ro sh_ I_4 A_5 hp hle => ?_)
  obtain ⟨rfl, r_6, rfl, h⟩ := hp
  refine g_if_ne (n := 25) 48 dX12_writeBarrier_22 (by decide) rfl (fun hc => ?_) (fun hc => ?_)
  · have h := h.1 hc
    refine g_iconst (n := 49) (v := (nI 0)) dX12_writeBarrier_48 rfl rfl ?_
    exact g_iret rfl rfl dX12_writeBarrier_49 ⟨rfl, _, rfl, h⟩
  · have h := h.2 hc
    refine g_aload_n (n := 26) dX12_writeBarrier_25 rfl rfl rfl ?_
    refine g_aload_n (n := 27) dX12_writeBarrier_26 rfl rfl rfl ?_
    refine g_getR (n := 30) (k := 0) dX12_writeBarrier_27 sM_0 vc_16 (Nat.le_of_ble_eq_true rfl) rfl w_1994 rfl ?_
    refine g_bipush (n := 32) (v := (nI 10)) dX12_writeBarrier_30 rfl rfl ?_
    refine g_ialdJ (n := 33) (j := 10) (x := (A_5 1 10)) dX12_writeBarrier_32 sM_1 rfl (Nat.le_of_ble_eq_true rfl) (by decide) rfl rfl ?_
    refine g_if_ne (n := 36) 40 dX12_writeBarrier_33 (by decide) rfl (fun hc => ?_) (fun hc => ?_)
    · have h := h.1 hc
      refine g_iconst (n := 41) (v := (nI 0)) dX12_writeBarrier_40 rfl rfl ?_
      refine g_less (bc' := 0) (bs' := 0) (Nat.le_of_ble_eq_true rfl) (Nat.le_of_ble_eq_true rfl) ?_
      exact tjX12_writeBarrier_41  _ _ _ _ h
    · have h := h.2 hc
      refine g_iconst (n := 37) (v := (nI 1)) dX12_writeBarrier_36 rfl rfl ?_
      refine g_goto 41 dX12_writeBarrier_37 (by decide) ?_
      refine g_less (bc' := 0) (bs' := 0) (Nat.le_of_ble_eq_true rfl) (Nat.le_of_ble_eq_true rfl) ?_
      exact tjX12_writeBarrier_41  _ _ _ _ h
set_option maxRecDepth 20000 in
theorem ctX12_writeBarrier  {K : Int32 → ab_F → ab_F → Prop} {I A : ab_F} {p0 : Int32} (h : wX12_writeBarrier K I A p0) : ab_Cl mX12_writeBarrier 5 0 0 [.ref 0, .int p0] shM I A (ab_Px shM ab_no (ab_ri K)) := by
  refine ab_enter (ls := [some (.ref 0), some (.int p0)]) (by decide +kernel) (Nat.le_of_ble_eq_true rfl) rfl (fun C => ?_)
  unfold wX12_writeBarrier at h
  refine g_aload_n (n := 1) dX12_writeBarrier_0 rfl rfl rfl ?_
  refine g_iload_n (n := 2) dX12_writeBarrier_1 rfl rfl rfl ?_
  refine g_i2l (n := 3) dX12_writeBarrier_2 rfl ?_
  refine g_lconst (n := 4) (v := (1 : Int64)) dX12_writeBarrier_3 rfl rfl ?_
  refine g_ldc2 (n := 7) (v := (48 : Int64)) dX12_writeBarrier_4 w_2101 rfl ?_
  refine g_callS (n := 10) (as := [.long ((p0).toInt64), .long (1 : Int64), .long (48 : Int64)]) (bc' := 0) (bs' := 0) (ctX12_in h) okX12_in w_2080 w_2081 dX12_writeBarrier_7 rfl rfl (Nat.le_of_ble_eq_true rfl) (Nat.le_of_ble_eq_true rfl) (Nat.le_of_ble_eq_true rfl) (Nat.le_of_ble_eq_true rfl) rfl (fun E sh1 I1 A1 hp _ => hp.2.elim) (fun ro sh_ I_1 A_2 hp hle => ?_)
  obtain ⟨rfl, r_3, rfl, h⟩ := hp
  refine g_if_ne (n := 13) 17 dX12_writeBarrier_10 (by decide) rfl (fun hc => ?_) (fun hc => ?_)
  · have h := h.1 hc
    refine g_iconst (n := 18) (v := (nI 0)) dX12_writeBarrier_17 rfl rfl ?_
    refine g_less (bc' := 0) (bs' := 0) (Nat.le_of_ble_eq_true rfl) (Nat.le_of_ble_eq_true rfl) ?_
    exact tjX12_writeBarrier_18  _ _ _ _ h
  · have h := h.2 hc
    refine g_iconst (n := 14) (v := (nI 1)) dX12_writeBarrier_13 rfl rfl ?_
    refine g_goto 18 dX12_writeBarrier_14 (by decide) ?_
    refine g_less (bc' := 0) (bs' := 0) (Nat.le_of_ble_eq_true rfl) (Nat.le_of_ble_eq_true rfl) ?_
    exact tjX12_writeBarrier_18  _ _ _ _ h
def wjX12_commit_228 (K : Int32 → ab_F → ab_F → Prop)  (I A : ab_F) : Prop := K (A 1 579) I (wr A 1 8 ((A 1 8) + (nI 1)))
def wlX12_commit_106 (K : Int32 → ab_F → ab_F → Prop) : Nat → Int32 → Int32 → ab_F → ab_F → Prop
  | 0, _, _, _, _ => False
  | n + 1, x1, x2, I, A => ((x2 < (nI 4) → wX12_freeCount (fun r_6 I_4 A_5 => (((nI 8) ≤ (A_5 1 13) → wjX12_commit_228 K  I_4 (wr A_5 1 579 (r_6 - x1))) ∧ (¬ (nI 8) ≤ (A_5 1 13) → wjX12_commit_228 K  I_4 (wr (wr A_5 1 579 (r_6 - x1)) 1 13 ((A_5 1 13) + (nI 1)))))) I (wr (wr (wr (wr A 1 576 (A 1 10)) 1 577 (A 1 4)) 1 578 (A 1 11)) 1 10 (nI 0)) ) ∧ (¬ x2 < (nI 4) → (∃ j_7 : Nat, (((nI 576) + x2) - (nI 4)) = nI j_7 ∧ j_7 < 608 ∧ (∃ j_8 : Nat, ((nI 576) + x2) = nI j_8 ∧ j_8 < 608 ∧ (wlX12_commit_106 K n) x1 (x2 + (-1)) I (wr A 1 j_8 (A 1 j_7))))))
def wlX12_commit_58 (K : Int32 → ab_F → ab_F → Prop) : Nat → Int32 → Int32 → ab_F → ab_F → Prop
  | 0, _, _, _, _ => False
  | n + 1, x1, x2, I, A => (((A 1 3) ≤ x2 → (∃ nf : Nat, wlX12_commit_106 K nf x1 (nI 31) I A)) ∧ (¬ (A 1 3) ≤ x2 → wX12_has (fun r_11 I_9 A_10 => ((r_11 = 0 → (wlX12_commit_58 K n) x1 (x2 + nI 1) I_9 A_10) ∧ (¬ r_11 = 0 → (∃ j_12 : Nat, ((nI 26) + x2) = nI j_12 ∧ j_12 < 608 ∧ (wlX12_commit_58 K n) x1 (x2 + nI 1) I_9 (wr A_10 1 j_12 (A_10 1 4)))))) I A (A 1 10) x2))
def wlX12_commit_7 (K : Int32 → ab_F → ab_F → Prop) : Nat → Int32 → Int32 → ab_F → ab_F → Prop
  | 0, _, _, _, _ => False
  | n + 1, x1, x2, I, A => (((nI 48) ≤ x2 → (∃ nf : Nat, wlX12_commit_58 K nf x1 (nI 0) I A)) ∧ (¬ (nI 48) ≤ x2 → wX12_has (fun r_15 I_13 A_14 => ((r_15 = 0 → (wlX12_commit_7 K n) x1 (x2 + nI 1) I_13 A_14) ∧ (¬ r_15 = 0 → (∃ j_16 : Nat, ((nI 224) + x2) = nI j_16 ∧ j_16 < 608 ∧ (∃ j_17 : Nat, ((nI 272) + x2) = nI j_17 ∧ j_17 < 608 ∧ (wlX12_commit_7 K n) x1 (x2 + nI 1) I_13 (wr A_14 1 j_17 (A_14 1 j_16))))))) I A (A 1 10) (x2 / (nI 8))))
def wX12_commit (K : Int32 → ab_F → ab_F → Prop) (I A : ab_F)  : Prop := wX12_freeCount (fun r_3 I_1 A_2 => (∃ nf : Nat, wlX12_commit_7 K nf r_3 (nI 0) I_1 A_2)) I A 
set_option maxRecDepth 20000 in
theorem tjX12_commit_228 {C : ab_X}  {K : Int32 → ab_F → ab_F → Prop}  (I A : ab_F) (h : wjX12_commit_228 K  I A) : ab_G mX12_commit 3 C (ab_Px shM ab_no (ab_ri K)) 228 [some (.ref 0), none, none] [] shM I A 0 0 := by
  unfold wjX12_commit_228 at h
  refine g_aload_n (n := 229) dX12_commit_228 rfl rfl rfl ?_
  refine g_getR (n := 232) (k := 0) dX12_commit_229 sM_0 vc_16 (Nat.le_of_ble_eq_true rfl) rfl w_1994 rfl ?_
  refine g_bipush (n := 234) (v := (nI 8)) dX12_commit_232 rfl rfl ?_
  refine g_dup2 (n := 235) dX12_commit_234 rfl rfl rfl ?_
  refine g_ialdJ (n := 236) (j := 8) (x := (A 1 8)) dX12_commit_235 sM_1 rfl (Nat.le_of_ble_eq_true rfl) (by decide) rfl rfl ?_
  refine g_iconst (n := 237) (v := (nI 1)) dX12_commit_236 rfl rfl ?_
  refine g_iadd (n := 238) dX12_commit_237 rfl ?_
  refine g_iastJ (n := 239) (j := 8) dX12_commit_238 sM_1 rfl (Nat.le_of_ble_eq_true rfl) (by decide) rfl ?_
  refine g_aload_n (n := 240) dX12_commit_239 rfl rfl rfl ?_
  refine g_getR (n := 243) (k := 0) dX12_commit_240 sM_0 vc_16 (Nat.le_of_ble_eq_true rfl) rfl w_1994 rfl ?_
  refine g_sipush (n := 246) (v := (nI 579)) dX12_commit_243 rfl rfl ?_
  refine g_ialdJ (n := 247) (j := 579) (x := (A 1 579)) dX12_commit_246 sM_1 rfl (Nat.le_of_ble_eq_true rfl) (by decide) rfl rfl ?_
  exact g_iret rfl rfl dX12_commit_247 ⟨rfl, _, rfl, h⟩
set_option maxRecDepth 20000 in
theorem tlX12_commit_106 {C : ab_X}  {K : Int32 → ab_F → ab_F → Prop} : ∀ (n : Nat) (x1 : Int32) (x2 : Int32) (I A : ab_F), wlX12_commit_106 K n x1 x2 I A → ab_G mX12_commit 3 C (ab_Px shM ab_no (ab_ri K)) 106 [some (.ref 0), some (.int x1), some (.int x2)] [] shM I A 0 0 := by
  intro n
  induction n with
  | zero => intro x1 x2 I A h; exact h.elim
  | succ n hL106 =>
    intro x1 x2 I A h
    rw [wlX12_commit_106] at h
    refine g_iload_n (n := 107) dX12_commit_106 rfl rfl rfl ?_
    refine g_iconst (n := 108) (v := (nI 4)) dX12_commit_107 rfl rfl ?_
    refine g_icmp_lt (n := 111) 139 dX12_commit_108 (by decide) rfl (fun hc => ?_) (fun hc => ?_)
    · have h := h.1 hc
      refine g_aload_n (n := 140) dX12_commit_139 rfl rfl rfl ?_
      refine g_getR (n := 143) (k := 0) dX12_commit_140 sM_0 vc_16 (Nat.le_of_ble_eq_true rfl) rfl w_1994 rfl ?_
      refine g_sipush (n := 146) (v := (nI 576)) dX12_commit_143 rfl rfl ?_
      refine g_aload_n (n := 147) dX12_commit_146 rfl rfl rfl ?_
      refine g_getR (n := 150) (k := 0) dX12_commit_147 sM_0 vc_16 (Nat.le_of_ble_eq_true rfl) rfl w_1994 rfl ?_
      refine g_bipush (n := 152) (v := (nI 10)) dX12_commit_150 rfl rfl ?_
      refine g_ialdJ (n := 153) (j := 10) (x := (A 1 10)) dX12_commit_152 sM_1 rfl (Nat.le_of_ble_eq_true rfl) (by decide) rfl rfl ?_
      refine g_iastJ (n := 154) (j := 576) dX12_commit_153 sM_1 rfl (Nat.le_of_ble_eq_true rfl) (by decide) rfl ?_
      refine g_aload_n (n := 155) dX12_commit_154 rfl rfl rfl ?_
      refine g_getR (n := 158) (k := 0) dX12_commit_155 sM_0 vc_16 (Nat.le_of_ble_eq_true rfl) rfl w_1994 rfl ?_
      refine g_sipush (n := 161) (v := (nI 577)) dX12_commit_158 rfl rfl ?_
      refine g_aload_n (n := 162) dX12_commit_161 rfl rfl rfl ?_
      refine g_getR (n := 165) (k := 0) dX12_commit_162 sM_0 vc_16 (Nat.le_of_ble_eq_true rfl) rfl w_1994 rfl ?_
      refine g_iconst (n := 166) (v := (nI 4)) dX12_commit_165 rfl rfl ?_
      refine g_ialdJ (n := 167) (j := 4) (x := (A 1 4)) dX12_commit_166 sM_1 rfl (Nat.le_of_ble_eq_true rfl) (by decide) rfl rfl ?_
      refine g_iastJ (n := 168) (j := 577) dX12_commit_167 sM_1 rfl (Nat.le_of_ble_eq_true rfl) (by decide) rfl ?_
      refine g_aload_n (n := 169) dX12_commit_168 rfl rfl rfl ?_
      refine g_getR (n := 172) (k := 0) dX12_commit_169 sM_0 vc_16 (Nat.le_of_ble_eq_true rfl) rfl w_1994 rfl ?_
      refine g_sipush (n := 175) (v := (nI 578)) dX12_commit_172 rfl rfl ?_
      refine g_aload_n (n := 176) dX12_commit_175 rfl rfl rfl ?_
      refine g_getR (n := 179) (k := 0) dX12_commit_176 sM_0 vc_16 (Nat.le_of_ble_eq_true rfl) rfl w_1994 rfl ?_
      refine g_bipush (n := 181) (v := (nI 11)) dX12_commit_179 rfl rfl ?_
      refine g_ialdJ (n := 182) (j := 11) (x := (A 1 11)) dX12_commit_181 sM_1 rfl (Nat.le_of_ble_eq_true rfl) (by decide) rfl rfl ?_
      refine g_iastJ (n := 183) (j := 578) dX12_commit_182 sM_1 rfl (Nat.le_of_ble_eq_true rfl) (by decide) rfl ?_
      refine g_aload_n (n := 184) dX12_commit_183 rfl rfl rfl ?_
      refine g_getR (n := 187) (k := 0) dX12_commit_184 sM_0 vc_16 (Nat.le_of_ble_eq_true rfl) rfl w_1994 rfl ?_
      refine g_bipush (n := 189) (v := (nI 10)) dX12_commit_187 rfl rfl ?_
      refine g_iconst (n := 190) (v := (nI 0)) dX12_commit_189 rfl rfl ?_
      refine g_iastJ (n := 191) (j := 10) dX12_commit_190 sM_1 rfl (Nat.le_of_ble_eq_true rfl) (by decide) rfl ?_
      refine g_aload_n (n := 192) dX12_commit_191 rfl rfl rfl ?_
      refine g_getR (n := 195) (k := 0) dX12_commit_192 sM_0 vc_16 (Nat.le_of_ble_eq_true rfl) rfl w_1994 rfl ?_
      refine g_sipush (n := 198) (v := (nI 579)) dX12_commit_195 rfl rfl ?_
      refine g_aload_n (n := 199) dX12_commit_198 rfl rfl rfl ?_
      refine g_callV (n := 202) (as := []) (bc' := 0) (bs' := 0) sM_0 vc_16 (ctX12_freeCount h) okX12_freeCount rfl w_2313 w_2315 w_65 w_112 dX12_commit_199 rfl rfl (Nat.le_of_ble_eq_true rfl) (Nat.le_of_ble_eq_true rfl) (Nat.le_of_ble_eq_true rfl) (Nat.le_of_ble_eq_true rfl) rfl (fun E sh1 I1 A1 hp _ => hp.2.elim) (fun ro sh_ I_4 A_5 hp hle => ?_)
      obtain ⟨rfl, r_6, rfl, h⟩ := hp
      refine g_iload_n (n := 203) dX12_commit_202 rfl rfl rfl ?_
      refine g_isub (n := 204) dX12_commit_203 rfl ?_
      refine g_iastJ (n := 205) (j := 579) dX12_commit_204 sM_1 rfl (Nat.le_of_ble_eq_true rfl) (by decide) rfl ?_
      refine g_aload_n (n := 206) dX12_commit_205 rfl rfl rfl ?_
      refine g_getR (n := 209) (k := 0) dX12_commit_206 sM_0 vc_16 (Nat.le_of_ble_eq_true rfl) rfl w_1994 rfl ?_
      refine g_bipush (n := 211) (v := (nI 13)) dX12_commit_209 rfl rfl ?_
      refine g_ialdJ (n := 212) (j := 13) (x := (A_5 1 13)) dX12_commit_211 sM_1 rfl (Nat.le_of_ble_eq_true rfl) (by decide) rfl rfl ?_
      refine g_bipush (n := 214) (v := (nI 8)) dX12_commit_212 rfl rfl ?_
      refine g_icmp_ge (n := 217) 228 dX12_commit_214 (by decide) rfl (fun hc => ?_) (fun hc => ?_)
      · have h := h.1 hc
        refine g_forget (ls' := [some (.ref 0), none, none]) (ab_fg rfl) ?_
        refine g_less (bc' := 0) (bs' := 0) (Nat.le_of_ble_eq_true rfl) (Nat.le_of_ble_eq_true rfl) ?_
        exact tjX12_commit_228   _ _ h
      · have h := h.2 hc
        refine g_aload_n (n := 218) dX12_commit_217 rfl rfl rfl ?_
        refine g_getR (n := 221) (k := 0) dX12_commit_218 sM_0 vc_16 (Nat.le_of_ble_eq_true rfl) rfl w_1994 rfl ?_
        refine g_bipush (n := 223) (v := (nI 13)) dX12_commit_221 rfl rfl ?_
        refine g_dup2 (n := 224) dX12_commit_223 rfl rfl rfl ?_
        refine g_ialdJ (n := 225) (j := 13) (x := (A_5 1 13)) dX12_commit_224 sM_1 rfl (Nat.le_of_ble_eq_true rfl) (by decide) rfl rfl ?_
        refine g_iconst (n := 226) (v := (nI 1)) dX12_commit_225 rfl rfl ?_
        refine g_iadd (n := 227) dX12_commit_226 rfl ?_
        refine g_iastJ (n := 228) (j := 13) dX12_commit_227 sM_1 rfl (Nat.le_of_ble_eq_true rfl) (by decide) rfl ?_
        refine g_forget (ls' := [some (.ref 0), none, none]) (ab_fg rfl) ?_
        refine g_less (bc' := 0) (bs' := 0) (Nat.le_of_ble_eq_true rfl) (Nat.le_of_ble_eq_true rfl) ?_
        exact tjX12_commit_228   _ _ h
    · have h := h.2 hc
      refine g_aload_n (n := 112) dX12_commit_111 rfl rfl rfl ?_
      refine g_getR (n := 115) (k := 0) dX12_commit_112 sM_0 vc_16 (Nat.le_of_ble_eq_true rfl) rfl w_1994 rfl ?_
      refine g_sipush (n := 118) (v := (nI 576)) dX12_commit_115 rfl rfl ?_
      refine g_iload_n (n := 119) dX12_commit_118 rfl rfl rfl ?_
      refine g_iadd (n := 120) dX12_commit_119 rfl ?_
      refine g_aload_n (n := 121) dX12_commit_120 rfl rfl rfl ?_
      refine g_getR (n := 124) (k := 0) dX12_commit_121 sM_0 vc_16 (Nat.le_of_ble_eq_true rfl) rfl w_1994 rfl ?_
      refine g_sipush (n := 127) (v := (nI 576)) dX12_commit_124 rfl rfl ?_
      refine g_iload_n (n := 128) dX12_commit_127 rfl rfl rfl ?_
      refine g_iadd (n := 129) dX12_commit_128 rfl ?_
      refine g_iconst (n := 130) (v := (nI 4)) dX12_commit_129 rfl rfl ?_
      refine g_isub (n := 131) dX12_commit_130 rfl ?_
      obtain ⟨j_7, hj, hl, h⟩ := h
      refine g_ialdJ (n := 132) (j := j_7) (x := (A 1 j_7)) dX12_commit_131 sM_1 hj hl (by decide) rfl rfl ?_
      obtain ⟨j_8, hj, hl, h⟩ := h
      refine g_iastJ (n := 133) (j := j_8) dX12_commit_132 sM_1 hj hl (by decide) rfl ?_
      refine g_iinc (n := 136) (v := (x2 + (-1))) (ls' := [some (.ref 0), some (.int x1), some (.int (x2 + (-1)))]) dX12_commit_133 rfl rfl rfl (Nat.le_of_ble_eq_true rfl) rfl rfl ?_
      refine g_goto 106 dX12_commit_136 (by decide) ?_
      exact hL106 _ _ _ _ h
set_option maxRecDepth 20000 in
theorem tlX12_commit_58 {C : ab_X}  {K : Int32 → ab_F → ab_F → Prop} : ∀ (n : Nat) (x1 : Int32) (x2 : Int32) (I A : ab_F), wlX12_commit_58 K n x1 x2 I A → ab_G mX12_commit 3 C (ab_Px shM ab_no (ab_ri K)) 58 [some (.ref 0), some (.int x1), some (.int x2)] [] shM I A 0 0 := by
  intro n
  induction n with
  | zero => intro x1 x2 I A h; exact h.elim
  | succ n hL58 =>
    intro x1 x2 I A h
    rw [wlX12_commit_58] at h
    refine g_iload_n (n := 59) dX12_commit_58 rfl rfl rfl ?_
    refine g_aload_n (n := 60) dX12_commit_59 rfl rfl rfl ?_
    refine g_getR (n := 63) (k := 0) dX12_commit_60 sM_0 vc_16 (Nat.le_of_ble_eq_true rfl) rfl w_1994 rfl ?_
    refine g_iconst (n := 64) (v := (nI 3)) dX12_commit_63 rfl rfl ?_
    refine g_ialdJ (n := 65) (j := 3) (x := (A 1 3)) dX12_commit_64 sM_1 rfl (Nat.le_of_ble_eq_true rfl) (by decide) rfl rfl ?_
    refine g_icmp_ge (n := 68) 103 dX12_commit_65 (by decide) rfl (fun hc => ?_) (fun hc => ?_)
    · have h := h.1 hc
      refine g_bipush (n := 105) (v := (nI 31)) dX12_commit_103 rfl rfl ?_
      refine g_istore_n (n := 106) (ls' := [some (.ref 0), some (.int x1), some (.int (nI 31))]) dX12_commit_105 rfl rfl (Nat.le_of_ble_eq_true rfl) (Nat.le_of_ble_eq_true rfl) rfl rfl ?_
      refine g_less (bc' := 0) (bs' := 0) (Nat.le_of_ble_eq_true rfl) (Nat.le_of_ble_eq_true rfl) ?_
      obtain ⟨n_f, h⟩ := h
      exact tlX12_commit_106  n_f _ _ _ _ h
    · have h := h.2 hc
      refine g_aload_n (n := 69) dX12_commit_68 rfl rfl rfl ?_
      refine g_getR (n := 72) (k := 0) dX12_commit_69 sM_0 vc_16 (Nat.le_of_ble_eq_true rfl) rfl w_1994 rfl ?_
      refine g_bipush (n := 74) (v := (nI 10)) dX12_commit_72 rfl rfl ?_
      refine g_ialdJ (n := 75) (j := 10) (x := (A 1 10)) dX12_commit_74 sM_1 rfl (Nat.le_of_ble_eq_true rfl) (by decide) rfl rfl ?_
      refine g_iload_n (n := 76) dX12_commit_75 rfl rfl rfl ?_
      refine g_callS (n := 79) (as := [.int (A 1 10), .int x2]) (bc' := 0) (bs' := 0) (ctX12_has h) okX12_has w_2204 w_2205 dX12_commit_76 rfl rfl (Nat.le_of_ble_eq_true rfl) (Nat.le_of_ble_eq_true rfl) (Nat.le_of_ble_eq_true rfl) (Nat.le_of_ble_eq_true rfl) rfl (fun E sh1 I1 A1 hp _ => hp.2.elim) (fun ro sh_ I_9 A_10 hp hle => ?_)
      obtain ⟨rfl, r_11, rfl, h⟩ := hp
      refine g_if_eq (n := 82) 97 dX12_commit_79 (by decide) rfl (fun hc => ?_) (fun hc => ?_)
      · have h := h.1 hc
        refine g_iinc (n := 100) (v := (x2 + nI 1)) (ls' := [some (.ref 0), some (.int x1), some (.int (x2 + nI 1))]) dX12_commit_97 rfl rfl rfl (Nat.le_of_ble_eq_true rfl) rfl rfl ?_
        refine g_goto 58 dX12_commit_100 (by decide) ?_
        exact hL58 _ _ _ _ h
      · have h := h.2 hc
        refine g_aload_n (n := 83) dX12_commit_82 rfl rfl rfl ?_
        refine g_getR (n := 86) (k := 0) dX12_commit_83 sM_0 vc_16 (Nat.le_of_ble_eq_true rfl) rfl w_1994 rfl ?_
        refine g_bipush (n := 88) (v := (nI 26)) dX12_commit_86 rfl rfl ?_
        refine g_iload_n (n := 89) dX12_commit_88 rfl rfl rfl ?_
        refine g_iadd (n := 90) dX12_commit_89 rfl ?_
        refine g_aload_n (n := 91) dX12_commit_90 rfl rfl rfl ?_
        refine g_getR (n := 94) (k := 0) dX12_commit_91 sM_0 vc_16 (Nat.le_of_ble_eq_true rfl) rfl w_1994 rfl ?_
        refine g_iconst (n := 95) (v := (nI 4)) dX12_commit_94 rfl rfl ?_
        refine g_ialdJ (n := 96) (j := 4) (x := (A_10 1 4)) dX12_commit_95 sM_1 rfl (Nat.le_of_ble_eq_true rfl) (by decide) rfl rfl ?_
        obtain ⟨j_12, hj, hl, h⟩ := h
        refine g_iastJ (n := 97) (j := j_12) dX12_commit_96 sM_1 hj hl (by decide) rfl ?_
        refine g_iinc (n := 100) (v := (x2 + nI 1)) (ls' := [some (.ref 0), some (.int x1), some (.int (x2 + nI 1))]) dX12_commit_97 rfl rfl rfl (Nat.le_of_ble_eq_true rfl) rfl rfl ?_
        refine g_goto 58 dX12_commit_100 (by decide) ?_
        exact hL58 _ _ _ _ h
set_option maxRecDepth 20000 in
theorem tlX12_commit_7 {C : ab_X}  {K : Int32 → ab_F → ab_F → Prop} : ∀ (n : Nat) (x1 : Int32) (x2 : Int32) (I A : ab_F), wlX12_commit_7 K n x1 x2 I A → ab_G mX12_commit 3 C (ab_Px shM ab_no (ab_ri K)) 7 [some (.ref 0), some (.int x1), some (.int x2)] [] shM I A 0 0 := by
  intro n
  induction n with
  | zero => intro x1 x2 I A h; exact h.elim
  | succ n hL7 =>
    intro x1 x2 I A h
    rw [wlX12_commit_7] at h
    refine g_iload_n (n := 8) dX12_commit_7 rfl rfl rfl ?_
    refine g_bipush (n := 10) (v := (nI 48)) dX12_commit_8 rfl rfl ?_
    refine g_icmp_ge (n := 13) 56 dX12_commit_10 (by decide) rfl (fun hc => ?_) (fun hc => ?_)
    · have h := h.1 hc
      refine g_iconst (n := 57) (v := (nI 0)) dX12_commit_56 rfl rfl ?_
      refine g_istore_n (n := 58) (ls' := [some (.ref 0), some (.int x1), some (.int (nI 0))]) dX12_commit_57 rfl rfl (Nat.le_of_ble_eq_true rfl) (Nat.le_of_ble_eq_true rfl) rfl rfl ?_
      refine g_less (bc' := 0) (bs' := 0) (Nat.le_of_ble_eq_true rfl) (Nat.le_of_ble_eq_true rfl) ?_
      obtain ⟨n_f, h⟩ := h
      exact tlX12_commit_58  n_f _ _ _ _ h
    · have h := h.2 hc
      refine g_aload_n (n := 14) dX12_commit_13 rfl rfl rfl ?_
      refine g_getR (n := 17) (k := 0) dX12_commit_14 sM_0 vc_16 (Nat.le_of_ble_eq_true rfl) rfl w_1994 rfl ?_
      refine g_bipush (n := 19) (v := (nI 10)) dX12_commit_17 rfl rfl ?_
      refine g_ialdJ (n := 20) (j := 10) (x := (A 1 10)) dX12_commit_19 sM_1 rfl (Nat.le_of_ble_eq_true rfl) (by decide) rfl rfl ?_
      refine g_iload_n (n := 21) dX12_commit_20 rfl rfl rfl ?_
      refine g_bipush (n := 23) (v := (nI 8)) dX12_commit_21 rfl rfl ?_
      refine g_idiv (n := 24) dX12_commit_23 (by decide) rfl ?_
      refine g_callS (n := 27) (as := [.int (A 1 10), .int (x2 / (nI 8))]) (bc' := 0) (bs' := 0) (ctX12_has h) okX12_has w_2204 w_2205 dX12_commit_24 rfl rfl (Nat.le_of_ble_eq_true rfl) (Nat.le_of_ble_eq_true rfl) (Nat.le_of_ble_eq_true rfl) (Nat.le_of_ble_eq_true rfl) rfl (fun E sh1 I1 A1 hp _ => hp.2.elim) (fun ro sh_ I_13 A_14 hp hle => ?_)
      obtain ⟨rfl, r_15, rfl, h⟩ := hp
      refine g_if_eq (n := 30) 50 dX12_commit_27 (by decide) rfl (fun hc => ?_) (fun hc => ?_)
      · have h := h.1 hc
        refine g_iinc (n := 53) (v := (x2 + nI 1)) (ls' := [some (.ref 0), some (.int x1), some (.int (x2 + nI 1))]) dX12_commit_50 rfl rfl rfl (Nat.le_of_ble_eq_true rfl) rfl rfl ?_
        refine g_goto 7 dX12_commit_53 (by decide) ?_
        exact hL7 _ _ _ _ h
      · have h := h.2 hc
        refine g_aload_n (n := 31) dX12_commit_30 rfl rfl rfl ?_
        refine g_getR (n := 34) (k := 0) dX12_commit_31 sM_0 vc_16 (Nat.le_of_ble_eq_true rfl) rfl w_1994 rfl ?_
        refine g_sipush (n := 37) (v := (nI 272)) dX12_commit_34 rfl rfl ?_
        refine g_iload_n (n := 38) dX12_commit_37 rfl rfl rfl ?_
        refine g_iadd (n := 39) dX12_commit_38 rfl ?_
        refine g_aload_n (n := 40) dX12_commit_39 rfl rfl rfl ?_
        refine g_getR (n := 43) (k := 0) dX12_commit_40 sM_0 vc_16 (Nat.le_of_ble_eq_true rfl) rfl w_1994 rfl ?_
        refine g_sipush (n := 46) (v := (nI 224)) dX12_commit_43 rfl rfl ?_
        refine g_iload_n (n := 47) dX12_commit_46 rfl rfl rfl ?_
        refine g_iadd (n := 48) dX12_commit_47 rfl ?_
        obtain ⟨j_16, hj, hl, h⟩ := h
        refine g_ialdJ (n := 49) (j := j_16) (x := (A_14 1 j_16)) dX12_commit_48 sM_1 hj hl (by decide) rfl rfl ?_
        obtain ⟨j_17, hj, hl, h⟩ := h
        refine g_iastJ (n := 50) (j := j_17) dX12_commit_49 sM_1 hj hl (by decide) rfl ?_
        refine g_iinc (n := 53) (v := (x2 + nI 1)) (ls' := [some (.ref 0), some (.int x1), some (.int (x2 + nI 1))]) dX12_commit_50 rfl rfl rfl (Nat.le_of_ble_eq_true rfl) rfl rfl ?_
        refine g_goto 7 dX12_commit_53 (by decide) ?_
        exact hL7 _ _ _ _ h
set_option maxRecDepth 20000 in
theorem ctX12_commit  {K : Int32 → ab_F → ab_F → Prop} {I A : ab_F}  (h : wX12_commit K I A ) : ab_Cl mX12_commit 3 0 0 [.ref 0] shM I A (ab_Px shM ab_no (ab_ri K)) := by
  refine ab_enter (ls := [some (.ref 0), none, none]) (by decide +kernel) (Nat.le_of_ble_eq_true rfl) rfl (fun C => ?_)
  unfold wX12_commit at h
  refine g_aload_n (n := 1) dX12_commit_0 rfl rfl rfl ?_
  refine g_callV (n := 4) (as := []) (bc' := 0) (bs' := 0) sM_0 vc_16 (ctX12_freeCount h) okX12_freeCount rfl w_2313 w_2315 w_65 w_112 dX12_commit_1 rfl rfl (Nat.le_of_ble_eq_true rfl) (Nat.le_of_ble_eq_true rfl) (Nat.le_of_ble_eq_true rfl) (Nat.le_of_ble_eq_true rfl) rfl (fun E sh1 I1 A1 hp _ => hp.2.elim) (fun ro sh_ I_1 A_2 hp hle => ?_)
  obtain ⟨rfl, r_3, rfl, h⟩ := hp
  refine g_istore_n (n := 5) (ls' := [some (.ref 0), some (.int r_3), none]) dX12_commit_4 rfl rfl (Nat.le_of_ble_eq_true rfl) (Nat.le_of_ble_eq_true rfl) rfl rfl ?_
  refine g_iconst (n := 6) (v := (nI 0)) dX12_commit_5 rfl rfl ?_
  refine g_istore_n (n := 7) (ls' := [some (.ref 0), some (.int r_3), some (.int (nI 0))]) dX12_commit_6 rfl rfl (Nat.le_of_ble_eq_true rfl) (Nat.le_of_ble_eq_true rfl) rfl rfl ?_
  refine g_less (bc' := 0) (bs' := 0) (Nat.le_of_ble_eq_true rfl) (Nat.le_of_ble_eq_true rfl) ?_
  obtain ⟨n_f, h⟩ := h
  exact tlX12_commit_7  n_f _ _ _ _ h
def wjX12_commitBarrier_36 (K : Int32 → ab_F → ab_F → Prop) (s0 : Int32) (I A : ab_F) : Prop := wX12_fails (fun r_9 I_7 A_8 => ((r_9 = 0 → wX12_remember (fun I_10 A_11 => wX12_commit (fun r_14 I_12 A_13 => K r_14 I_12 A_13) I_10 A_11 ) I_7 A_8 ) ∧ (¬ r_9 = 0 → K (nI 0) I_7 A_8))) I A s0 (nI 2)
def wjX12_commitBarrier_16 (K : Int32 → ab_F → ab_F → Prop) (s0 : Int32) (I A : ab_F) : Prop := wX12_fails (fun r_3 I_1 A_2 => ((¬ r_3 = 0 → K (nI 0) I_1 A_2) ∧ (r_3 = 0 → wX12_pendingCount (fun r_6 I_4 A_5 => ((r_6 ≤ 0 → wjX12_commitBarrier_36 K (nI 0) I_4 A_5) ∧ (¬ r_6 ≤ 0 → wjX12_commitBarrier_36 K (nI 1) I_4 A_5))) I_1 A_2 ))) I A s0 (nI 1)
def wX12_commitBarrier (K : Int32 → ab_F → ab_F → Prop) (I A : ab_F)  : Prop := ((¬ (A 1 10) = 0 → wjX12_commitBarrier_16 K (nI 0) I A) ∧ ((A 1 10) = 0 → wjX12_commitBarrier_16 K (nI 1) I A))
set_option maxRecDepth 20000 in
theorem tjX12_commitBarrier_36 {C : ab_X}  {K : Int32 → ab_F → ab_F → Prop} (s0 : Int32) (I A : ab_F) (h : wjX12_commitBarrier_36 K s0 I A) : ab_G mX12_commitBarrier 4 C (ab_Px shM ab_no (ab_ri K)) 36 [some (.ref 0)] [.int s0, .ref 0] shM I A 0 0 := by
  unfold wjX12_commitBarrier_36 at h
  refine g_iconst (n := 37) (v := (nI 2)) dX12_commitBarrier_36 rfl rfl ?_
  refine g_callV (n := 40) (as := [.int s0, .int (nI 2)]) (bc' := 0) (bs' := 0) sM_0 vc_16 (ctX12_fails h) okX12_fails rfl w_2189 w_2191 w_42 w_112 dX12_commitBarrier_37 rfl rfl (Nat.le_of_ble_eq_true rfl) (Nat.le_of_ble_eq_true rfl) (Nat.le_of_ble_eq_true rfl) (Nat.le_of_ble_eq_true rfl) rfl (fun E sh1 I1 A1 hp _ => hp.2.elim) (fun ro sh_ I_7 A_8 hp hle => ?_)
  obtain ⟨rfl, r_9, rfl, h⟩ := hp
  refine g_if_eq (n := 43) 45 dX12_commitBarrier_40 (by decide) rfl (fun hc => ?_) (fun hc => ?_)
  · have h := h.1 hc
    refine g_aload_n (n := 46) dX12_commitBarrier_45 rfl rfl rfl ?_
    refine g_callV (n := 49) (as := []) (bc' := 0) (bs' := 0) sM_0 vc_16 (ctX12_remember h) okX12_remember rfl w_2235 w_2237 w_52 w_112 dX12_commitBarrier_46 rfl rfl (Nat.le_of_ble_eq_true rfl) (Nat.le_of_ble_eq_true rfl) (Nat.le_of_ble_eq_true rfl) (Nat.le_of_ble_eq_true rfl) rfl (fun E sh1 I1 A1 hp _ => hp.2.elim) (fun ro sh_ I_10 A_11 hp hle => ?_)
    obtain ⟨rfl, rfl, h⟩ := hp
    refine g_aload_n (n := 50) dX12_commitBarrier_49 rfl rfl rfl ?_
    refine g_callV (n := 53) (as := []) (bc' := 0) (bs' := 0) sM_0 vc_16 (ctX12_commit h) okX12_commit rfl w_2309 w_2311 w_64 w_112 dX12_commitBarrier_50 rfl rfl (Nat.le_of_ble_eq_true rfl) (Nat.le_of_ble_eq_true rfl) (Nat.le_of_ble_eq_true rfl) (Nat.le_of_ble_eq_true rfl) rfl (fun E sh1 I1 A1 hp _ => hp.2.elim) (fun ro sh_ I_12 A_13 hp hle => ?_)
    obtain ⟨rfl, r_14, rfl, h⟩ := hp
    exact g_iret rfl rfl dX12_commitBarrier_53 ⟨rfl, _, rfl, h⟩
  · have h := h.2 hc
    refine g_iconst (n := 44) (v := (nI 0)) dX12_commitBarrier_43 rfl rfl ?_
    exact g_iret rfl rfl dX12_commitBarrier_44 ⟨rfl, _, rfl, h⟩
set_option maxRecDepth 20000 in
theorem tjX12_commitBarrier_16 {C : ab_X}  {K : Int32 → ab_F → ab_F → Prop} (s0 : Int32) (I A : ab_F) (h : wjX12_commitBarrier_16 K s0 I A) : ab_G mX12_commitBarrier 4 C (ab_Px shM ab_no (ab_ri K)) 16 [some (.ref 0)] [.int s0, .ref 0] shM I A 0 0 := by
  unfold wjX12_commitBarrier_16 at h
  refine g_iconst (n := 17) (v := (nI 1)) dX12_commitBarrier_16 rfl rfl ?_
  refine g_callV (n := 20) (as := [.int s0, .int (nI 1)]) (bc' := 0) (bs' := 0) sM_0 vc_16 (ctX12_fails h) okX12_fails rfl w_2189 w_2191 w_42 w_112 dX12_commitBarrier_17 rfl rfl (Nat.le_of_ble_eq_true rfl) (Nat.le_of_ble_eq_true rfl) (Nat.le_of_ble_eq_true rfl) (Nat.le_of_ble_eq_true rfl) rfl (fun E sh1 I1 A1 hp _ => hp.2.elim) (fun ro sh_ I_1 A_2 hp hle => ?_)
  obtain ⟨rfl, r_3, rfl, h⟩ := hp
  refine g_if_ne (n := 23) 43 dX12_commitBarrier_20 (by decide) rfl (fun hc => ?_) (fun hc => ?_)
  · have h := h.1 hc
    refine g_iconst (n := 44) (v := (nI 0)) dX12_commitBarrier_43 rfl rfl ?_
    exact g_iret rfl rfl dX12_commitBarrier_44 ⟨rfl, _, rfl, h⟩
  · have h := h.2 hc
    refine g_aload_n (n := 24) dX12_commitBarrier_23 rfl rfl rfl ?_
    refine g_aload_n (n := 25) dX12_commitBarrier_24 rfl rfl rfl ?_
    refine g_callV (n := 28) (as := []) (bc' := 0) (bs' := 0) sM_0 vc_16 (ctX12_pendingCount h) okX12_pendingCount rfl w_2293 w_2295 w_62 w_112 dX12_commitBarrier_25 rfl rfl (Nat.le_of_ble_eq_true rfl) (Nat.le_of_ble_eq_true rfl) (Nat.le_of_ble_eq_true rfl) (Nat.le_of_ble_eq_true rfl) rfl (fun E sh1 I1 A1 hp _ => hp.2.elim) (fun ro sh_ I_4 A_5 hp hle => ?_)
    obtain ⟨rfl, r_6, rfl, h⟩ := hp
    refine g_if_le (n := 31) 35 dX12_commitBarrier_28 (by decide) rfl (fun hc => ?_) (fun hc => ?_)
    · have h := h.1 hc
      refine g_iconst (n := 36) (v := (nI 0)) dX12_commitBarrier_35 rfl rfl ?_
      refine g_less (bc' := 0) (bs' := 0) (Nat.le_of_ble_eq_true rfl) (Nat.le_of_ble_eq_true rfl) ?_
      exact tjX12_commitBarrier_36  _ _ _ h
    · have h := h.2 hc
      refine g_iconst (n := 32) (v := (nI 1)) dX12_commitBarrier_31 rfl rfl ?_
      refine g_goto 36 dX12_commitBarrier_32 (by decide) ?_
      refine g_less (bc' := 0) (bs' := 0) (Nat.le_of_ble_eq_true rfl) (Nat.le_of_ble_eq_true rfl) ?_
      exact tjX12_commitBarrier_36  _ _ _ h
set_option maxRecDepth 20000 in
theorem ctX12_commitBarrier  {K : Int32 → ab_F → ab_F → Prop} {I A : ab_F}  (h : wX12_commitBarrier K I A ) : ab_Cl mX12_commitBarrier 4 0 0 [.ref 0] shM I A (ab_Px shM ab_no (ab_ri K)) := by
  refine ab_enter (ls := [some (.ref 0)]) (by decide +kernel) (Nat.le_of_ble_eq_true rfl) rfl (fun C => ?_)
  unfold wX12_commitBarrier at h
  refine g_aload_n (n := 1) dX12_commitBarrier_0 rfl rfl rfl ?_
  refine g_aload_n (n := 2) dX12_commitBarrier_1 rfl rfl rfl ?_
  refine g_getR (n := 5) (k := 0) dX12_commitBarrier_2 sM_0 vc_16 (Nat.le_of_ble_eq_true rfl) rfl w_1994 rfl ?_
  refine g_bipush (n := 7) (v := (nI 10)) dX12_commitBarrier_5 rfl rfl ?_
  refine g_ialdJ (n := 8) (j := 10) (x := (A 1 10)) dX12_commitBarrier_7 sM_1 rfl (Nat.le_of_ble_eq_true rfl) (by decide) rfl rfl ?_
  refine g_if_ne (n := 11) 15 dX12_commitBarrier_8 (by decide) rfl (fun hc => ?_) (fun hc => ?_)
  · have h := h.1 hc
    refine g_iconst (n := 16) (v := (nI 0)) dX12_commitBarrier_15 rfl rfl ?_
    refine g_less (bc' := 0) (bs' := 0) (Nat.le_of_ble_eq_true rfl) (Nat.le_of_ble_eq_true rfl) ?_
    exact tjX12_commitBarrier_16  _ _ _ h
  · have h := h.2 hc
    refine g_iconst (n := 12) (v := (nI 1)) dX12_commitBarrier_11 rfl rfl ?_
    refine g_goto 16 dX12_commitBarrier_12 (by decide) ?_
    refine g_less (bc' := 0) (bs' := 0) (Nat.le_of_ble_eq_true rfl) (Nat.le_of_ble_eq_true rfl) ?_
    exact tjX12_commitBarrier_16  _ _ _ h
def wX12_abandon (K : Int32 → ab_F → ab_F → Prop) (I A : ab_F)  : Prop := wX12_freeCount (fun r_3 I_1 A_2 => wX12_freeCount (fun r_6 I_4 A_5 => K (r_6 - r_3) I_4 A_5) I_1 (wr A_2 1 10 (nI 0)) ) I A 
set_option maxRecDepth 20000 in
theorem ctX12_abandon  {K : Int32 → ab_F → ab_F → Prop} {I A : ab_F}  (h : wX12_abandon K I A ) : ab_Cl mX12_abandon 3 0 0 [.ref 0] shM I A (ab_Px shM ab_no (ab_ri K)) := by
  refine ab_enter (ls := [some (.ref 0), none]) (by decide +kernel) (Nat.le_of_ble_eq_true rfl) rfl (fun C => ?_)
  unfold wX12_abandon at h
  refine g_aload_n (n := 1) dX12_abandon_0 rfl rfl rfl ?_
  refine g_callV (n := 4) (as := []) (bc' := 0) (bs' := 0) sM_0 vc_16 (ctX12_freeCount h) okX12_freeCount rfl w_2313 w_2315 w_65 w_112 dX12_abandon_1 rfl rfl (Nat.le_of_ble_eq_true rfl) (Nat.le_of_ble_eq_true rfl) (Nat.le_of_ble_eq_true rfl) (Nat.le_of_ble_eq_true rfl) rfl (fun E sh1 I1 A1 hp _ => hp.2.elim) (fun ro sh_ I_1 A_2 hp hle => ?_)
  obtain ⟨rfl, r_3, rfl, h⟩ := hp
  refine g_istore_n (n := 5) (ls' := [some (.ref 0), some (.int r_3)]) dX12_abandon_4 rfl rfl (Nat.le_of_ble_eq_true rfl) (Nat.le_of_ble_eq_true rfl) rfl rfl ?_
  refine g_aload_n (n := 6) dX12_abandon_5 rfl rfl rfl ?_
  refine g_getR (n := 9) (k := 0) dX12_abandon_6 sM_0 vc_16 (Nat.le_of_ble_eq_true rfl) rfl w_1994 rfl ?_
  refine g_bipush (n := 11) (v := (nI 10)) dX12_abandon_9 rfl rfl ?_
  refine g_iconst (n := 12) (v := (nI 0)) dX12_abandon_11 rfl rfl ?_
  refine g_iastJ (n := 13) (j := 10) dX12_abandon_12 sM_1 rfl (Nat.le_of_ble_eq_true rfl) (by decide) rfl ?_
  refine g_aload_n (n := 14) dX12_abandon_13 rfl rfl rfl ?_
  refine g_callV (n := 17) (as := []) (bc' := 0) (bs' := 0) sM_0 vc_16 (ctX12_freeCount h) okX12_freeCount rfl w_2313 w_2315 w_65 w_112 dX12_abandon_14 rfl rfl (Nat.le_of_ble_eq_true rfl) (Nat.le_of_ble_eq_true rfl) (Nat.le_of_ble_eq_true rfl) (Nat.le_of_ble_eq_true rfl) rfl (fun E sh1 I1 A1 hp _ => hp.2.elim) (fun ro sh_ I_4 A_5 hp hle => ?_)
  obtain ⟨rfl, r_6, rfl, h⟩ := hp
  refine g_iload_n (n := 18) dX12_abandon_17 rfl rfl rfl ?_
  refine g_isub (n := 19) dX12_abandon_18 rfl ?_
  exact g_iret rfl rfl dX12_abandon_19 ⟨rfl, _, rfl, h⟩
def wjX12_abandonBarrier_16 (K : Int32 → ab_F → ab_F → Prop) (s0 : Int32) (I A : ab_F) : Prop := wX12_fails (fun r_3 I_1 A_2 => ((r_3 = 0 → wX12_remember (fun I_4 A_5 => wX12_abandon (fun r_8 I_6 A_7 => K r_8 I_6 A_7) I_4 A_5 ) I_1 A_2 ) ∧ (¬ r_3 = 0 → K (nI 0) I_1 A_2))) I A s0 (nI 1)
def wX12_abandonBarrier (K : Int32 → ab_F → ab_F → Prop) (I A : ab_F)  : Prop := ((¬ (A 1 10) = 0 → wjX12_abandonBarrier_16 K (nI 0) I A) ∧ ((A 1 10) = 0 → wjX12_abandonBarrier_16 K (nI 1) I A))
set_option maxRecDepth 20000 in
theorem tjX12_abandonBarrier_16 {C : ab_X}  {K : Int32 → ab_F → ab_F → Prop} (s0 : Int32) (I A : ab_F) (h : wjX12_abandonBarrier_16 K s0 I A) : ab_G mX12_abandonBarrier 4 C (ab_Px shM ab_no (ab_ri K)) 16 [some (.ref 0)] [.int s0, .ref 0] shM I A 0 0 := by
  unfold wjX12_abandonBarrier_16 at h
  refine g_iconst (n := 17) (v := (nI 1)) dX12_abandonBarrier_16 rfl rfl ?_
  refine g_callV (n := 20) (as := [.int s0, .int (nI 1)]) (bc' := 0) (bs' := 0) sM_0 vc_16 (ctX12_fails h) okX12_fails rfl w_2189 w_2191 w_42 w_112 dX12_abandonBarrier_17 rfl rfl (Nat.le_of_ble_eq_true rfl) (Nat.le_of_ble_eq_true rfl) (Nat.le_of_ble_eq_true rfl) (Nat.le_of_ble_eq_true rfl) rfl (fun E sh1 I1 A1 hp _ => hp.2.elim) (fun ro sh_ I_1 A_2 hp hle => ?_)
  obtain ⟨rfl, r_3, rfl, h⟩ := hp
  refine g_if_eq (n := 23) 25 dX12_abandonBarrier_20 (by decide) rfl (fun hc => ?_) (fun hc => ?_)
  · have h := h.1 hc
    refine g_aload_n (n := 26) dX12_abandonBarrier_25 rfl rfl rfl ?_
    refine g_callV (n := 29) (as := []) (bc' := 0) (bs' := 0) sM_0 vc_16 (ctX12_remember h) okX12_remember rfl w_2235 w_2237 w_52 w_112 dX12_abandonBarrier_26 rfl rfl (Nat.le_of_ble_eq_true rfl) (Nat.le_of_ble_eq_true rfl) (Nat.le_of_ble_eq_true rfl) (Nat.le_of_ble_eq_true rfl) rfl (fun E sh1 I1 A1 hp _ => hp.2.elim) (fun ro sh_ I_4 A_5 hp hle => ?_)
    obtain ⟨rfl, rfl, h⟩ := hp
    refine g_aload_n (n := 30) dX12_abandonBarrier_29 rfl rfl rfl ?_
    refine g_callV (n := 33) (as := []) (bc' := 0) (bs' := 0) sM_0 vc_16 (ctX12_abandon h) okX12_abandon rfl w_2321 w_2323 w_66 w_112 dX12_abandonBarrier_30 rfl rfl (Nat.le_of_ble_eq_true rfl) (Nat.le_of_ble_eq_true rfl) (Nat.le_of_ble_eq_true rfl) (Nat.le_of_ble_eq_true rfl) rfl (fun E sh1 I1 A1 hp _ => hp.2.elim) (fun ro sh_ I_6 A_7 hp hle => ?_)
    obtain ⟨rfl, r_8, rfl, h⟩ := hp
    exact g_iret rfl rfl dX12_abandonBarrier_33 ⟨rfl, _, rfl, h⟩
  · have h := h.2 hc
    refine g_iconst (n := 24) (v := (nI 0)) dX12_abandonBarrier_23 rfl rfl ?_
    exact g_iret rfl rfl dX12_abandonBarrier_24 ⟨rfl, _, rfl, h⟩
set_option maxRecDepth 20000 in
theorem ctX12_abandonBarrier  {K : Int32 → ab_F → ab_F → Prop} {I A : ab_F}  (h : wX12_abandonBarrier K I A ) : ab_Cl mX12_abandonBarrier 4 0 0 [.ref 0] shM I A (ab_Px shM ab_no (ab_ri K)) := by
  refine ab_enter (ls := [some (.ref 0)]) (by decide +kernel) (Nat.le_of_ble_eq_true rfl) rfl (fun C => ?_)
  unfold wX12_abandonBarrier at h
  refine g_aload_n (n := 1) dX12_abandonBarrier_0 rfl rfl rfl ?_
  refine g_aload_n (n := 2) dX12_abandonBarrier_1 rfl rfl rfl ?_
  refine g_getR (n := 5) (k := 0) dX12_abandonBarrier_2 sM_0 vc_16 (Nat.le_of_ble_eq_true rfl) rfl w_1994 rfl ?_
  refine g_bipush (n := 7) (v := (nI 10)) dX12_abandonBarrier_5 rfl rfl ?_
  refine g_ialdJ (n := 8) (j := 10) (x := (A 1 10)) dX12_abandonBarrier_7 sM_1 rfl (Nat.le_of_ble_eq_true rfl) (by decide) rfl rfl ?_
  refine g_if_ne (n := 11) 15 dX12_abandonBarrier_8 (by decide) rfl (fun hc => ?_) (fun hc => ?_)
  · have h := h.1 hc
    refine g_iconst (n := 16) (v := (nI 0)) dX12_abandonBarrier_15 rfl rfl ?_
    refine g_less (bc' := 0) (bs' := 0) (Nat.le_of_ble_eq_true rfl) (Nat.le_of_ble_eq_true rfl) ?_
    exact tjX12_abandonBarrier_16  _ _ _ h
  · have h := h.2 hc
    refine g_iconst (n := 12) (v := (nI 1)) dX12_abandonBarrier_11 rfl rfl ?_
    refine g_goto 16 dX12_abandonBarrier_12 (by decide) ?_
    refine g_less (bc' := 0) (bs' := 0) (Nat.le_of_ble_eq_true rfl) (Nat.le_of_ble_eq_true rfl) ?_
    exact tjX12_abandonBarrier_16  _ _ _ h
def wX12_restored (K : Int32 → ab_F → ab_F → Prop) (I A : ab_F) (p0 : Int32) : Prop := (∃ j_1 : Nat, ((nI 26) + (p0 / (nI 8))) = nI j_1 ∧ j_1 < 608 ∧ (((A 1 j_1) = (-1 : Int32) → K (nI 0) I A) ∧ (¬ (A 1 j_1) = (-1 : Int32) → (∃ j_2 : Nat, ((nI 272) + p0) = nI j_2 ∧ j_2 < 608 ∧ ((¬ (A 1 j_2) = (-1 : Int32) → (∃ j_3 : Nat, ((nI 272) + p0) = nI j_3 ∧ j_3 < 608 ∧ (∃ j_4 : Nat, ((nI 368) + (A 1 j_3)) = nI j_4 ∧ j_4 < 608 ∧ K (A 1 j_4) I A))) ∧ ((A 1 j_2) = (-1 : Int32) → K (nI 0) I A))))))
set_option maxRecDepth 20000 in
theorem ctX12_restored  {K : Int32 → ab_F → ab_F → Prop} {I A : ab_F} {p0 : Int32} (h : wX12_restored K I A p0) : ab_Cl mX12_restored 0 0 0 [.ref 0, .int p0] shM I A (ab_Px shM ab_no (ab_ri K)) := by
  refine ab_enter (ls := [some (.ref 0), some (.int p0)]) (by decide +kernel) (Nat.le_of_ble_eq_true rfl) rfl (fun C => ?_)
  unfold wX12_restored at h
  refine g_aload_n (n := 1) dX12_restored_0 rfl rfl rfl ?_
  refine g_getR (n := 4) (k := 0) dX12_restored_1 sM_0 vc_16 (Nat.le_of_ble_eq_true rfl) rfl w_1994 rfl ?_
  refine g_bipush (n := 6) (v := (nI 26)) dX12_restored_4 rfl rfl ?_
  refine g_iload_n (n := 7) dX12_restored_6 rfl rfl rfl ?_
  refine g_bipush (n := 9) (v := (nI 8)) dX12_restored_7 rfl rfl ?_
  refine g_idiv (n := 10) dX12_restored_9 (by decide) rfl ?_
  refine g_iadd (n := 11) dX12_restored_10 rfl ?_
  obtain ⟨j_1, hj, hl, h⟩ := h
  refine g_ialdJ (n := 12) (j := j_1) (x := (A 1 j_1)) dX12_restored_11 sM_1 hj hl (by decide) rfl rfl ?_
  refine g_iconst (n := 13) (v := (-1 : Int32)) dX12_restored_12 rfl rfl ?_
  refine g_icmp_eq (n := 16) 30 dX12_restored_13 (by decide) rfl (fun hc => ?_) (fun hc => ?_)
  · have h := h.1 hc
    refine g_iconst (n := 31) (v := (nI 0)) dX12_restored_30 rfl rfl ?_
    refine g_goto 53 dX12_restored_31 (by decide) ?_
    exact g_iret rfl rfl dX12_restored_53 ⟨rfl, _, rfl, h⟩
  · have h := h.2 hc
    refine g_aload_n (n := 17) dX12_restored_16 rfl rfl rfl ?_
    refine g_getR (n := 20) (k := 0) dX12_restored_17 sM_0 vc_16 (Nat.le_of_ble_eq_true rfl) rfl w_1994 rfl ?_
    refine g_sipush (n := 23) (v := (nI 272)) dX12_restored_20 rfl rfl ?_
    refine g_iload_n (n := 24) dX12_restored_23 rfl rfl rfl ?_
    refine g_iadd (n := 25) dX12_restored_24 rfl ?_
    obtain ⟨j_2, hj, hl, h⟩ := h
    refine g_ialdJ (n := 26) (j := j_2) (x := (A 1 j_2)) dX12_restored_25 sM_1 hj hl (by decide) rfl rfl ?_
    refine g_iconst (n := 27) (v := (-1 : Int32)) dX12_restored_26 rfl rfl ?_
    refine g_icmp_ne (n := 30) 34 dX12_restored_27 (by decide) rfl (fun hc => ?_) (fun hc => ?_)
    · have h := h.1 hc
      refine g_aload_n (n := 35) dX12_restored_34 rfl rfl rfl ?_
      refine g_getR (n := 38) (k := 0) dX12_restored_35 sM_0 vc_16 (Nat.le_of_ble_eq_true rfl) rfl w_1994 rfl ?_
      refine g_sipush (n := 41) (v := (nI 368)) dX12_restored_38 rfl rfl ?_
      refine g_aload_n (n := 42) dX12_restored_41 rfl rfl rfl ?_
      refine g_getR (n := 45) (k := 0) dX12_restored_42 sM_0 vc_16 (Nat.le_of_ble_eq_true rfl) rfl w_1994 rfl ?_
      refine g_sipush (n := 48) (v := (nI 272)) dX12_restored_45 rfl rfl ?_
      refine g_iload_n (n := 49) dX12_restored_48 rfl rfl rfl ?_
      refine g_iadd (n := 50) dX12_restored_49 rfl ?_
      obtain ⟨j_3, hj, hl, h⟩ := h
      refine g_ialdJ (n := 51) (j := j_3) (x := (A 1 j_3)) dX12_restored_50 sM_1 hj hl (by decide) rfl rfl ?_
      refine g_iadd (n := 52) dX12_restored_51 rfl ?_
      obtain ⟨j_4, hj, hl, h⟩ := h
      refine g_ialdJ (n := 53) (j := j_4) (x := (A 1 j_4)) dX12_restored_52 sM_1 hj hl (by decide) rfl rfl ?_
      exact g_iret rfl rfl dX12_restored_53 ⟨rfl, _, rfl, h⟩
    · have h := h.2 hc
      refine g_iconst (n := 31) (v := (nI 0)) dX12_restored_30 rfl rfl ?_
      refine g_goto 53 dX12_restored_31 (by decide) ?_
      exact g_iret rfl rfl dX12_restored_53 ⟨rfl, _, rfl, h⟩
def wjX12_restore_88 (K : ab_F → ab_F → Prop) (L5 : Int32 → Int32 → ab_F → ab_F → Prop) (x1 : Int32) (x2 : Int32) (s0 : Int32) (s1 : Int32) (I A : ab_F) : Prop := (∃ j_7 : Nat, s1 = nI j_7 ∧ j_7 < 608 ∧ wX12_restored (fun r_10 I_8 A_9 => (∃ j_11 : Nat, ((nI 32) + x2) = nI j_11 ∧ j_11 < 608 ∧ L5 x1 (x2 + nI 1) I_8 (wr A_9 1 j_11 r_10))) I (wr A 1 j_7 s0) x2)
def wjX12_restore_42 (K : ab_F → ab_F → Prop) (L5 : Int32 → Int32 → ab_F → ab_F → Prop) (x1 : Int32) (x2 : Int32) (I A : ab_F) : Prop := (∃ j_4 : Nat, ((nI 176) + x2) = nI j_4 ∧ j_4 < 608 ∧ (∃ j_5 : Nat, ((nI 26) + x1) = nI j_5 ∧ j_5 < 608 ∧ ((¬ ((wr A 1 j_4 (nI 0)) 1 j_5) = (-1 : Int32) → (∃ j_6 : Nat, ((nI 272) + x2) = nI j_6 ∧ j_6 < 608 ∧ wjX12_restore_88 K L5 x1 x2 ((wr A 1 j_4 (nI 0)) 1 j_6) ((nI 80) + x2) I (wr A 1 j_4 (nI 0)))) ∧ (((wr A 1 j_4 (nI 0)) 1 j_5) = (-1 : Int32) → wjX12_restore_88 K L5 x1 x2 (-1 : Int32) ((nI 80) + x2) I (wr A 1 j_4 (nI 0))))))
def wlX12_restore_5 (K : ab_F → ab_F → Prop) : Nat → Int32 → Int32 → ab_F → ab_F → Prop
  | 0, _, _, _, _ => False
  | n + 1, x1, x2, I, A => (∃ j_2 : Nat, ((nI 20) + x1) = nI j_2 ∧ j_2 < 608 ∧ (((((nI 8) * x1) + (A 1 j_2)) ≤ x2 → K I A) ∧ (¬ (((nI 8) * x1) + (A 1 j_2)) ≤ x2 → (∃ j_3 : Nat, ((nI 128) + x2) = nI j_3 ∧ j_3 < 608 ∧ (((A 1 j_3) = (-1 : Int32) → wjX12_restore_42 K (wlX12_restore_5 K n) x1 x2 I A) ∧ (¬ (A 1 j_3) = (-1 : Int32) → wX12_leave (fun I_12 A_13 => wjX12_restore_42 K (wlX12_restore_5 K n) x1 x2 I_12 A_13) I A x2))))))
def wX12_restore (K : ab_F → ab_F → Prop) (I A : ab_F) (p0 : Int32) : Prop := (∀ y_1 : Int32, y_1 = ((nI 8) * p0) → (∃ nf : Nat, wlX12_restore_5 K nf p0 y_1 I A))
set_option maxRecDepth 20000 in
theorem tjX12_restore_88 {C : ab_X}  {K : ab_F → ab_F → Prop} {L5 : Int32 → Int32 → ab_F → ab_F → Prop} (hL5 : ∀ (x1 : Int32) (x2 : Int32) (I A : ab_F), L5 x1 x2 I A → ab_G mX12_restore 1 C (ab_Px shM ab_no (ab_rv K)) 5 [some (.ref 0), some (.int x1), some (.int x2)] [] shM I A 0 0) (x1 : Int32) (x2 : Int32) (s0 : Int32) (s1 : Int32) (I A : ab_F) (h : wjX12_restore_88 K L5 x1 x2 s0 s1 I A) : ab_G mX12_restore 1 C (ab_Px shM ab_no (ab_rv K)) 88 [some (.ref 0), some (.int x1), some (.int x2)] [.int s0, .int s1, .ref 1] shM I A 0 0 := by
  unfold wjX12_restore_88 at h
  obtain ⟨j_7, hj, hl, h⟩ := h
  refine g_iastJ (n := 89) (j := j_7) dX12_restore_88 sM_1 hj hl (by decide) rfl ?_
  refine g_aload_n (n := 90) dX12_restore_89 rfl rfl rfl ?_
  refine g_getR (n := 93) (k := 0) dX12_restore_90 sM_0 vc_16 (Nat.le_of_ble_eq_true rfl) rfl w_1994 rfl ?_
  refine g_bipush (n := 95) (v := (nI 32)) dX12_restore_93 rfl rfl ?_
  refine g_iload_n (n := 96) dX12_restore_95 rfl rfl rfl ?_
  refine g_iadd (n := 97) dX12_restore_96 rfl ?_
  refine g_aload_n (n := 98) dX12_restore_97 rfl rfl rfl ?_
  refine g_iload_n (n := 99) dX12_restore_98 rfl rfl rfl ?_
  refine g_callV (n := 102) (as := [.int x2]) (bc' := 0) (bs' := 0) sM_0 vc_16 (ctX12_restored h) okX12_restored rfl w_2337 w_2339 w_69 w_112 dX12_restore_99 rfl rfl (Nat.le_of_ble_eq_true rfl) (Nat.le_of_ble_eq_true rfl) (Nat.le_of_ble_eq_true rfl) (Nat.le_of_ble_eq_true rfl) rfl (fun E sh1 I1 A1 hp _ => hp.2.elim) (fun ro sh_ I_8 A_9 hp hle => ?_)
  obtain ⟨rfl, r_10, rfl, h⟩ := hp
  obtain ⟨j_11, hj, hl, h⟩ := h
  refine g_iastJ (n := 103) (j := j_11) dX12_restore_102 sM_1 hj hl (by decide) rfl ?_
  refine g_iinc (n := 106) (v := (x2 + nI 1)) (ls' := [some (.ref 0), some (.int x1), some (.int (x2 + nI 1))]) dX12_restore_103 rfl rfl rfl (Nat.le_of_ble_eq_true rfl) rfl rfl ?_
  refine g_goto 5 dX12_restore_106 (by decide) ?_
  exact hL5 _ _ _ _ h
set_option maxRecDepth 20000 in
theorem tjX12_restore_42 {C : ab_X}  {K : ab_F → ab_F → Prop} {L5 : Int32 → Int32 → ab_F → ab_F → Prop} (hL5 : ∀ (x1 : Int32) (x2 : Int32) (I A : ab_F), L5 x1 x2 I A → ab_G mX12_restore 1 C (ab_Px shM ab_no (ab_rv K)) 5 [some (.ref 0), some (.int x1), some (.int x2)] [] shM I A 0 0) (x1 : Int32) (x2 : Int32) (I A : ab_F) (h : wjX12_restore_42 K L5 x1 x2 I A) : ab_G mX12_restore 1 C (ab_Px shM ab_no (ab_rv K)) 42 [some (.ref 0), some (.int x1), some (.int x2)] [] shM I A 0 0 := by
  unfold wjX12_restore_42 at h
  refine g_aload_n (n := 43) dX12_restore_42 rfl rfl rfl ?_
  refine g_getR (n := 46) (k := 0) dX12_restore_43 sM_0 vc_16 (Nat.le_of_ble_eq_true rfl) rfl w_1994 rfl ?_
  refine g_sipush (n := 49) (v := (nI 176)) dX12_restore_46 rfl rfl ?_
  refine g_iload_n (n := 50) dX12_restore_49 rfl rfl rfl ?_
  refine g_iadd (n := 51) dX12_restore_50 rfl ?_
  refine g_iconst (n := 52) (v := (nI 0)) dX12_restore_51 rfl rfl ?_
  obtain ⟨j_4, hj, hl, h⟩ := h
  refine g_iastJ (n := 53) (j := j_4) dX12_restore_52 sM_1 hj hl (by decide) rfl ?_
  refine g_aload_n (n := 54) dX12_restore_53 rfl rfl rfl ?_
  refine g_getR (n := 57) (k := 0) dX12_restore_54 sM_0 vc_16 (Nat.le_of_ble_eq_true rfl) rfl w_1994 rfl ?_
  refine g_bipush (n := 59) (v := (nI 80)) dX12_restore_57 rfl rfl ?_
  refine g_iload_n (n := 60) dX12_restore_59 rfl rfl rfl ?_
  refine g_iadd (n := 61) dX12_restore_60 rfl ?_
  refine g_aload_n (n := 62) dX12_restore_61 rfl rfl rfl ?_
  refine g_getR (n := 65) (k := 0) dX12_restore_62 sM_0 vc_16 (Nat.le_of_ble_eq_true rfl) rfl w_1994 rfl ?_
  refine g_bipush (n := 67) (v := (nI 26)) dX12_restore_65 rfl rfl ?_
  refine g_iload_n (n := 68) dX12_restore_67 rfl rfl rfl ?_
  refine g_iadd (n := 69) dX12_restore_68 rfl ?_
  obtain ⟨j_5, hj, hl, h⟩ := h
  refine g_ialdJ (n := 70) (j := j_5) (x := ((wr A 1 j_4 (nI 0)) 1 j_5)) dX12_restore_69 sM_1 hj hl (by decide) rfl rfl ?_
  refine g_iconst (n := 71) (v := (-1 : Int32)) dX12_restore_70 rfl rfl ?_
  refine g_icmp_ne (n := 74) 78 dX12_restore_71 (by decide) rfl (fun hc => ?_) (fun hc => ?_)
  · have h := h.1 hc
    refine g_aload_n (n := 79) dX12_restore_78 rfl rfl rfl ?_
    refine g_getR (n := 82) (k := 0) dX12_restore_79 sM_0 vc_16 (Nat.le_of_ble_eq_true rfl) rfl w_1994 rfl ?_
    refine g_sipush (n := 85) (v := (nI 272)) dX12_restore_82 rfl rfl ?_
    refine g_iload_n (n := 86) dX12_restore_85 rfl rfl rfl ?_
    refine g_iadd (n := 87) dX12_restore_86 rfl ?_
    obtain ⟨j_6, hj, hl, h⟩ := h
    refine g_ialdJ (n := 88) (j := j_6) (x := ((wr A 1 j_4 (nI 0)) 1 j_6)) dX12_restore_87 sM_1 hj hl (by decide) rfl rfl ?_
    refine g_less (bc' := 0) (bs' := 0) (Nat.le_of_ble_eq_true rfl) (Nat.le_of_ble_eq_true rfl) ?_
    exact tjX12_restore_88 hL5 _ _ _ _ _ _ h
  · have h := h.2 hc
    refine g_iconst (n := 75) (v := (-1 : Int32)) dX12_restore_74 rfl rfl ?_
    refine g_goto 88 dX12_restore_75 (by decide) ?_
    refine g_less (bc' := 0) (bs' := 0) (Nat.le_of_ble_eq_true rfl) (Nat.le_of_ble_eq_true rfl) ?_
    exact tjX12_restore_88 hL5 _ _ _ _ _ _ h
set_option maxRecDepth 20000 in
theorem tlX12_restore_5 {C : ab_X}  {K : ab_F → ab_F → Prop} : ∀ (n : Nat) (x1 : Int32) (x2 : Int32) (I A : ab_F), wlX12_restore_5 K n x1 x2 I A → ab_G mX12_restore 1 C (ab_Px shM ab_no (ab_rv K)) 5 [some (.ref 0), some (.int x1), some (.int x2)] [] shM I A 0 0 := by
  intro n
  induction n with
  | zero => intro x1 x2 I A h; exact h.elim
  | succ n hL5 =>
    intro x1 x2 I A h
    rw [wlX12_restore_5] at h
    refine g_iload_n (n := 6) dX12_restore_5 rfl rfl rfl ?_
    refine g_bipush (n := 8) (v := (nI 8)) dX12_restore_6 rfl rfl ?_
    refine g_iload_n (n := 9) dX12_restore_8 rfl rfl rfl ?_
    refine g_imul (n := 10) dX12_restore_9 rfl ?_
    refine g_aload_n (n := 11) dX12_restore_10 rfl rfl rfl ?_
    refine g_getR (n := 14) (k := 0) dX12_restore_11 sM_0 vc_16 (Nat.le_of_ble_eq_true rfl) rfl w_1994 rfl ?_
    refine g_bipush (n := 16) (v := (nI 20)) dX12_restore_14 rfl rfl ?_
    refine g_iload_n (n := 17) dX12_restore_16 rfl rfl rfl ?_
    refine g_iadd (n := 18) dX12_restore_17 rfl ?_
    obtain ⟨j_2, hj, hl, h⟩ := h
    refine g_ialdJ (n := 19) (j := j_2) (x := (A 1 j_2)) dX12_restore_18 sM_1 hj hl (by decide) rfl rfl ?_
    refine g_iadd (n := 20) dX12_restore_19 rfl ?_
    refine g_icmp_ge (n := 23) 109 dX12_restore_20 (by decide) rfl (fun hc => ?_) (fun hc => ?_)
    · have h := h.1 hc
      exact g_vret rfl dX12_restore_109 ⟨rfl, rfl, h⟩
    · have h := h.2 hc
      refine g_aload_n (n := 24) dX12_restore_23 rfl rfl rfl ?_
      refine g_getR (n := 27) (k := 0) dX12_restore_24 sM_0 vc_16 (Nat.le_of_ble_eq_true rfl) rfl w_1994 rfl ?_
      refine g_sipush (n := 30) (v := (nI 128)) dX12_restore_27 rfl rfl ?_
      refine g_iload_n (n := 31) dX12_restore_30 rfl rfl rfl ?_
      refine g_iadd (n := 32) dX12_restore_31 rfl ?_
      obtain ⟨j_3, hj, hl, h⟩ := h
      refine g_ialdJ (n := 33) (j := j_3) (x := (A 1 j_3)) dX12_restore_32 sM_1 hj hl (by decide) rfl rfl ?_
      refine g_iconst (n := 34) (v := (-1 : Int32)) dX12_restore_33 rfl rfl ?_
      refine g_icmp_eq (n := 37) 42 dX12_restore_34 (by decide) rfl (fun hc => ?_) (fun hc => ?_)
      · have h := h.1 hc
        refine g_less (bc' := 0) (bs' := 0) (Nat.le_of_ble_eq_true rfl) (Nat.le_of_ble_eq_true rfl) ?_
        exact tjX12_restore_42 hL5 _ _ _ _ h
      · have h := h.2 hc
        refine g_aload_n (n := 38) dX12_restore_37 rfl rfl rfl ?_
        refine g_iload_n (n := 39) dX12_restore_38 rfl rfl rfl ?_
        refine g_callV (n := 42) (as := [.int x2]) (bc' := 0) (bs' := 0) sM_0 vc_16 (ctX12_leave h) okX12_leave rfl w_2259 w_2261 w_58 w_112 dX12_restore_39 rfl rfl (Nat.le_of_ble_eq_true rfl) (Nat.le_of_ble_eq_true rfl) (Nat.le_of_ble_eq_true rfl) (Nat.le_of_ble_eq_true rfl) rfl (fun E sh1 I1 A1 hp _ => hp.2.elim) (fun ro sh_ I_12 A_13 hp hle => ?_)
        obtain ⟨rfl, rfl, h⟩ := hp
        refine g_less (bc' := 0) (bs' := 0) (Nat.le_of_ble_eq_true rfl) (Nat.le_of_ble_eq_true rfl) ?_
        exact tjX12_restore_42 hL5 _ _ _ _ h
set_option maxRecDepth 20000 in
theorem ctX12_restore  {K : ab_F → ab_F → Prop} {I A : ab_F} {p0 : Int32} (h : wX12_restore K I A p0) : ab_Cl mX12_restore 1 0 0 [.ref 0, .int p0] shM I A (ab_Px shM ab_no (ab_rv K)) := by
  refine ab_enter (ls := [some (.ref 0), some (.int p0), none]) (by decide +kernel) (Nat.le_of_ble_eq_true rfl) rfl (fun C => ?_)
  unfold wX12_restore at h
  refine g_bipush (n := 2) (v := (nI 8)) dX12_restore_0 rfl rfl ?_
  refine g_iload_n (n := 3) dX12_restore_2 rfl rfl rfl ?_
  refine g_imul (n := 4) dX12_restore_3 rfl ?_
  refine g_topi (fun y_1 ey_1 => ?_)
  have h := h y_1 ey_1
  refine g_istore_n (n := 5) (ls' := [some (.ref 0), some (.int p0), some (.int y_1)]) dX12_restore_4 rfl rfl (Nat.le_of_ble_eq_true rfl) (Nat.le_of_ble_eq_true rfl) rfl rfl ?_
  refine g_less (bc' := 0) (bs' := 0) (Nat.le_of_ble_eq_true rfl) (Nat.le_of_ble_eq_true rfl) ?_
  obtain ⟨n_f, h⟩ := h
  exact tlX12_restore_5  n_f _ _ _ _ h
