section
variable {p : Program} {l : Launch} {e : Env} {s : State} {m : MethodId} {below : List Frame} {meth : Method} {c : Code} {b L : Nat} {xs : Nat → Int32} {D : va_G} {cT : FieldType → ClassId} {cL cD : ClassId} {ac : Nat → Nat}
theorem cz_evictPage {st : st_S} {x0 x1 : Int32} {k : Nat} (h : k = (s_evict st x0 x1).1) (hz : nI k = 0) : k = 0 := by
  have hc : k ≤ 3 := by
    rw [h]
    unfold s_evict
    (repeat' split) <;> exact Nat.le_of_ble_eq_true rfl
  have h1 : k = 0 ∨ k = 1 ∨ k = 2 ∨ k = 3 := by omega
  rcases h1 with e | e | e | e <;> subst e <;> first | rfl | exact absurd hz (by decide)
theorem la_evictPage (C0 : lw_X p l s m meth c b L xs D cT cL cD ac) {i B cells slots : Nat} {st : st_S} (hi : i + 6 ≤ L) (hL : L ≤ 3072) (hB : B + 401 < 2 ^ 24) (hc : cells + 25 ≤ 603072) (hs : slots + 906 ≤ 7186538) (kk : lw_G p l e s m below meth c b D cT cL cD ac 3304 i (B + 401) (cells + 25) (slots + 906) (s_evict st (xs (i + 1)) (xs (i + 2))).2.2) : lw_G p l e s m below meth c b D cT cL cD ac 1040 i B cells slots st := by
  intro d0 H locs ls adC adM o1 o2 v1 v2 Z I A J B1 hd0 hV hr hm hk hl
  have hx := C0.1
  have hb := C0.2.1
  have hX : va_X b L xs (s.setDrawn d0) (s.setDrawn d0).heap := C0.2.2.2.2.2.2.2.2.2.1
  have hbl : b < s.heap.size := C0.2.2.2.2.2.2.2.2.2.2.1
  refine lv_aload_n hx hb dL_law_1040 rfl (lv_at hl 4 rfl) ?_
  refine lv_aload_n hx hb dL_law_1041 rfl (lv_at hl 5 rfl) ?_
  refine lv_iload hx hb dL_law_1042 (lv_at hl 0 rfl) ?_
  refine lv_iconst (v := nI 1) hx hb dL_law_1044 (by decide) ?_
  refine lv_iadd hx hb dL_law_1045 ?_
  rw [nI_add]
  refine va_sld (L := L) hx hb hX hbl (show ¬ s.heap.size ≤ b from Nat.not_le_of_lt hbl) hV.2.2.2 (vp_in_nI (by omega) (by omega)) dL_law_1046 ?_
  rw [nI_clamp (by omega)]
  refine lv_aload_n hx hb dL_law_1047 rfl (lv_at hl 5 rfl) ?_
  refine lv_iload hx hb dL_law_1048 (lv_at hl 0 rfl) ?_
  refine lv_iconst (v := nI 2) hx hb dL_law_1050 (by decide) ?_
  refine lv_iadd hx hb dL_law_1051 ?_
  rw [nI_add]
  refine va_sld (L := L) hx hb hX hbl (show ¬ s.heap.size ≤ b from Nat.not_le_of_lt hbl) hV.2.2.2 (vp_in_nI (by omega) (by omega)) dL_law_1052 ?_
  rw [nI_clamp (by omega)]
  refine lv_aload_n hx hb dL_law_1053 rfl (lv_at hl 2 rfl) ?_
  refine lw_wcall (as := [.int (xs (i + 1)), .int (xs (i + 2))]) (na := 2) (rest := []) C0 hV (wr_evictPage C0.2.2.2.2.2.2.2.2.1 (hc_evictPage hB hk hr) hV.1.1) ⟨by decide, by decide, by decide +kernel⟩ (ab_in 1568 (by decide +kernel) rfl) (ab_in 1566 (by decide +kernel) rfl) (ab_in 1567 (by decide +kernel) rfl) (ab_in 95 (by decide +kernel) rfl) dL_law_1054 rfl rfl hl.1 (Nat.le_of_ble_eq_true rfl) (Nat.le_of_ble_eq_true rfl) (Nat.le_of_ble_eq_true rfl) hc hs (fun k r Z1 I1 A1 ad1 v3 H1 locs1 hK hv3 had hV1 => ?_)
  obtain ⟨hk1, hk2, hr1⟩ := hK
  rw [lb_C had] at hl
  refine lv_istore (lv' := (6, .int (nI k)) :: LB b ad1 adM o1 o2 i) hx hb dL_law_1057 hl (by decide) rfl (fun ls hl => ?_)
  refine lv_aload_n hx hb dL_law_1059 rfl (lv_at hl 4 rfl) ?_
  refine lv_aload_n hx hb dL_law_1060 rfl (lv_at hl 6 rfl) ?_
  refine lv_iload hx hb dL_law_1061 (lv_at hl 1 rfl) ?_
  refine lv_iconst (v := nI 1) hx hb dL_law_1063 (by decide) ?_
  refine lv_iadd hx hb dL_law_1064 ?_
  rw [nI_add]
  refine va_sld (L := L) hx hb hX hbl (show ¬ s.heap.size ≤ b from Nat.not_le_of_lt hbl) hV1.2.2.2 (vp_in_nI (by omega) (by omega)) dL_law_1065 ?_
  rw [nI_clamp (by omega)]
  refine lv_aload_n hx hb dL_law_1066 rfl (lv_at hl 6 rfl) ?_
  refine lv_iload hx hb dL_law_1067 (lv_at hl 1 rfl) ?_
  refine lv_iconst (v := nI 2) hx hb dL_law_1069 (by decide) ?_
  refine lv_iadd hx hb dL_law_1070 ?_
  rw [nI_add]
  refine va_sld (L := L) hx hb hX hbl (show ¬ s.heap.size ≤ b from Nat.not_le_of_lt hbl) hV1.2.2.2 (vp_in_nI (by omega) (by omega)) dL_law_1071 ?_
  rw [nI_clamp (by omega)]
  refine lw_mcall (as := [.int (xs (i + 1)), .int (xs (i + 2))]) (rest := []) C0 hV1 (hm_evictPage hB hk hm) okX12_evictPage rfl (ab_in 2357 (by decide +kernel) rfl) (ab_in 2358 (by decide +kernel) rfl) (ab_in 2359 (by decide +kernel) rfl) dL_law_1072 rfl (fun v hv => by simp only [List.mem_cons, List.not_mem_nil, or_false] at hv; rcases hv with h | h <;> subst h <;> exact trivial) rfl hl.1 (Nat.le_of_ble_eq_true rfl) (Nat.le_of_ble_eq_true rfl) (by omega) (by omega) (fun _ _ _ _ z => z.2) (fun r2 sh1 J2 B2 ad2 H2 locs2 hp had2 hV2 => ?_)
  obtain ⟨rfl, x, rfl, hm1, hm5, hmx⟩ := hp
  have hV2 := hV2 rfl
  rw [lb_M had2] at hl
  refine lv_istore (lv' := (7, .int x) :: (6, .int (nI k)) :: LB b ad1 ad2 o1 o2 i) hx hb dL_law_1075 hl (by decide) rfl (fun ls hl => ?_)
  refine lv_aload_n hx hb dL_law_1077 rfl (lv_at hl 5 rfl) ?_
  refine lw_mcall (as := []) (rest := []) C0 hV2 (ctX12_thrown (K := fun r3 J3 B3 => r3 = J2 0 5 ∧ J2 = J3 ∧ B2 = B3) ⟨rfl, rfl, rfl⟩) okX12_thrown rfl (ab_in 2052 (by decide +kernel) rfl) (ab_in 2053 (by decide +kernel) rfl) (ab_in 2054 (by decide +kernel) rfl) dL_law_1078 rfl (fun v hv => absurd hv List.not_mem_nil) rfl hl.1 (Nat.le_of_ble_eq_true rfl) (Nat.le_of_ble_eq_true rfl) (by omega) (by omega) (fun _ _ _ _ z => z.2) (fun r4 sh1 J3 B3 ad3 H3 locs3 hp had3 hV3 => ?_)
  obtain ⟨rfl, y, rfl, rfl, rfl, rfl⟩ := hp
  have hV3 := hV3 rfl
  rw [lb_M had3] at hl
  refine lv_iload hx hb dL_law_1081 (lv_at hl 1 rfl) ?_
  refine lv_icmp_eq (tgt := 1088) hx hb dL_law_1083 (by decide) (fun _ => ?_) (fun hn => absurd (hm5.trans (by rw [hk1])) hn)
  have hfin := fun ls (hl : lv_has ls 8 ((7, .int x) :: (6, .int (nI k)) :: LB b ad1 ad3 o1 o2 i)) => kk d0 H3 locs3 ls ad1 ad3 o1 o2 v3 v2 Z1 I1 A1 J2 B2 hd0 hV3 hr1 hm1 (ik_evictPage hB hk hm) (lv_sub hl [2, 3, 4, 5, 6, 7] rfl)
  refine lv_iload hx hb dL_law_1088 (lv_at hl 1 rfl) ?_
  refine lv_if_ne (tgt := 1105) hx hb dL_law_1090 (by decide) (fun _ => ?_) (fun hz => ?_)
  · refine lv_goto (tgt := 3304) hx hb dL_law_1105 (by decide) (hfin ls hl)
  · have hk0 : k = 0 := by
      exact cz_evictPage hk1 hz
    refine lv_aload_n hx hb dL_law_1093 rfl (lv_at hl 4 rfl) ?_
    refine lv_iconst (v := 0) hx hb dL_law_1094 (by decide) ?_
    refine va_lald (i := 0) hx hb (va_K.moved (u := s) (U := s.setDrawn d0) (Vm.Alike.refl s.vm) C0.2.2.2.2.2.2.1) hV3.1.2.2.2.1 0 3 rfl rfl (by unfold vp_in; decide) dL_law_1095 ?_
    refine lv_iload hx hb dL_law_1096 (lv_at hl 0 rfl) ?_
    refine lv_i2l (v := x.toInt64) hx hb dL_law_1098 rfl ?_
    refine W.lcmp hx hb dL_law_1099 ?_
    rw [show (v3 (0 : Int32).toNatClampNeg) = x.toInt64 by rw [sb_cl0, hv3 hk0, hk2 hk0, hmx (hk1.symm.trans hk0)], lg_same]
    refine lv_if_eq (tgt := 1105) hx hb dL_law_1100 (by decide) (fun _ => ?_) (fun hn => absurd rfl hn)
    exact lv_goto (tgt := 3304) hx hb dL_law_1105 (by decide) (hfin ls hl)
theorem la_runScript (C0 : lw_X p l s m meth c b L xs D cT cL cD ac) {i B cells slots : Nat} {st : st_S} (hi : i + 6 ≤ L) (hL : L ≤ 3072) (hB : B + 401 < 2 ^ 24) (hc : cells + 24 ≤ 603072) (hs : slots + 900 ≤ 7186538) (kk : lw_G p l e s m below meth c b D cT cL cD ac 3304 i (B + 401) (cells + 24) (slots + 900) (s_runS st).2.2) : lw_G p l e s m below meth c b D cT cL cD ac 1108 i B cells slots st := by
  intro d0 H locs ls adC adM o1 o2 v1 v2 Z I A J B1 hd0 hV hr hm hk hl
  have hx := C0.1
  have hb := C0.2.1
  have hX : va_X b L xs (s.setDrawn d0) (s.setDrawn d0).heap := C0.2.2.2.2.2.2.2.2.2.1
  have hbl : b < s.heap.size := C0.2.2.2.2.2.2.2.2.2.2.1
  refine lv_aload_n hx hb dL_law_1108 rfl (lv_at hl 4 rfl) ?_
  refine lw_ccall (rest := []) C0 hV (hc_runScript hB hk hr) okX11_runScript rfl (ab_in 771 (by decide +kernel) rfl) (ab_in 772 (by decide +kernel) rfl) (ab_in 773 (by decide +kernel) rfl) dL_law_1109 rfl hl.1 (Nat.le_of_ble_eq_true rfl) (Nat.le_of_ble_eq_true rfl) hc hs (fun _ _ _ _ z => by obtain ⟨_, _, j, hj, _⟩ := z; exact nomatch hj) (fun r1 sh1 I1 A1 ad1 H1 locs1 hp had hV1 => ?_)
  obtain ⟨Z1, rfl, r, rfl, hk1, hk2, hr1⟩ := hp
  have hV1 := hV1 Z1 rfl
  rw [lb_C had] at hl
  refine lv_aload_n hx hb dL_law_1112 rfl (lv_at hl 3 rfl) ?_
  refine lw_mcall (as := []) (rest := [.int r]) C0 hV1 (hm_runScript hB hk hm) okX12_runScript rfl (ab_in 2365 (by decide +kernel) rfl) (ab_in 2366 (by decide +kernel) rfl) (ab_in 2367 (by decide +kernel) rfl) dL_law_1113 rfl (fun v hv => absurd hv List.not_mem_nil) rfl hl.1 (Nat.le_of_ble_eq_true rfl) (Nat.le_of_ble_eq_true rfl) (by omega) (by omega) (fun _ _ _ _ z => z.2) (fun r2 sh1 J2 B2 ad2 H2 locs2 hp had2 hV2 => ?_)
  obtain ⟨rfl, x, rfl, hm1, hm5, hmx⟩ := hp
  have hV2 := hV2 rfl
  rw [lb_M had2] at hl
  exact lv_icmp_eq (tgt := 3304) hx hb dL_law_1116 (by decide) (fun _ => kk d0 H2 locs2 ls ad1 ad2 o1 o2 v1 v2 Z1 I1 A1 J2 B2 hd0 hV2 hr1 hm1 (ik_runScript hB hk hm) hl) (fun hn => absurd ((hk2 rfl).trans (hmx hk1.symm).symm) hn)
theorem cz_pageCount {st : st_S} {x0 : Int32} {k : Nat} (h : k = (s_pgc st x0).1) (hz : nI k = 0) : k = 0 := by
  have hc : k ≤ 3 := by
    rw [h]
    unfold s_pgc
    (repeat' split) <;> exact Nat.le_of_ble_eq_true rfl
  have h1 : k = 0 ∨ k = 1 ∨ k = 2 ∨ k = 3 := by omega
  rcases h1 with e | e | e | e <;> subst e <;> first | rfl | exact absurd hz (by decide)
theorem la_pageCount (C0 : lw_X p l s m meth c b L xs D cT cL cD ac) {i B cells slots : Nat} {st : st_S} (hi : i + 6 ≤ L) (hL : L ≤ 3072) (hB : B + 401 < 2 ^ 24) (hc : cells + 1 ≤ 603072) (hs : slots + 6 ≤ 7186538) (kk : lw_G p l e s m below meth c b D cT cL cD ac 3304 i (B + 401) (cells + 1) (slots + 6) (s_pgc st (xs (i + 1))).2.2) : lw_G p l e s m below meth c b D cT cL cD ac 1121 i B cells slots st := by
  intro d0 H locs ls adC adM o1 o2 v1 v2 Z I A J B1 hd0 hV hr hm hk hl
  have hx := C0.1
  have hb := C0.2.1
  have hX : va_X b L xs (s.setDrawn d0) (s.setDrawn d0).heap := C0.2.2.2.2.2.2.2.2.2.1
  have hbl : b < s.heap.size := C0.2.2.2.2.2.2.2.2.2.2.1
  refine lv_aload_n hx hb dL_law_1121 rfl (lv_at hl 4 rfl) ?_
  refine lv_aload_n hx hb dL_law_1122 rfl (lv_at hl 5 rfl) ?_
  refine lv_iload hx hb dL_law_1123 (lv_at hl 0 rfl) ?_
  refine lv_iconst (v := nI 1) hx hb dL_law_1125 (by decide) ?_
  refine lv_iadd hx hb dL_law_1126 ?_
  rw [nI_add]
  refine va_sld (L := L) hx hb hX hbl (show ¬ s.heap.size ≤ b from Nat.not_le_of_lt hbl) hV.2.2.2 (vp_in_nI (by omega) (by omega)) dL_law_1127 ?_
  rw [nI_clamp (by omega)]
  refine lv_aload_n hx hb dL_law_1128 rfl (lv_at hl 2 rfl) ?_
  refine lw_wcall (as := [.int (xs (i + 1))]) (na := 1) (rest := []) C0 hV (wr_pageCount C0.2.2.2.2.2.2.2.2.1 (hc_pageCount hB hk hr) hV.1.1) ⟨by decide, by decide, by decide +kernel⟩ (ab_in 1577 (by decide +kernel) rfl) (ab_in 1575 (by decide +kernel) rfl) (ab_in 1576 (by decide +kernel) rfl) (ab_in 95 (by decide +kernel) rfl) dL_law_1129 rfl rfl hl.1 (Nat.le_of_ble_eq_true rfl) (Nat.le_of_ble_eq_true rfl) (Nat.le_of_ble_eq_true rfl) hc hs (fun k r Z1 I1 A1 ad1 v3 H1 locs1 hK hv3 had hV1 => ?_)
  obtain ⟨hk1, hk2, hr1⟩ := hK
  rw [lb_C had] at hl
  refine lv_istore (lv' := (6, .int (nI k)) :: LB b ad1 adM o1 o2 i) hx hb dL_law_1132 hl (by decide) rfl (fun ls hl => ?_)
  refine lv_aload_n hx hb dL_law_1134 rfl (lv_at hl 4 rfl) ?_
  refine lv_aload_n hx hb dL_law_1135 rfl (lv_at hl 6 rfl) ?_
  refine lv_iload hx hb dL_law_1136 (lv_at hl 1 rfl) ?_
  refine lv_iconst (v := nI 1) hx hb dL_law_1138 (by decide) ?_
  refine lv_iadd hx hb dL_law_1139 ?_
  rw [nI_add]
  refine va_sld (L := L) hx hb hX hbl (show ¬ s.heap.size ≤ b from Nat.not_le_of_lt hbl) hV1.2.2.2 (vp_in_nI (by omega) (by omega)) dL_law_1140 ?_
  rw [nI_clamp (by omega)]
  refine lw_mcall (as := [.int (xs (i + 1))]) (rest := []) C0 hV1 (hm_pageCount hB hk hm) okX12_pageCount rfl (ab_in 2406 (by decide +kernel) rfl) (ab_in 2407 (by decide +kernel) rfl) (ab_in 2408 (by decide +kernel) rfl) dL_law_1141 rfl (fun v hv => by rw [List.mem_singleton.mp hv]; exact trivial) rfl hl.1 (Nat.le_of_ble_eq_true rfl) (Nat.le_of_ble_eq_true rfl) (by omega) (by omega) (fun _ _ _ _ z => z.2) (fun r2 sh1 J2 B2 ad2 H2 locs2 hp had2 hV2 => ?_)
  obtain ⟨rfl, x, rfl, hm1, hm5, hmx⟩ := hp
  have hV2 := hV2 rfl
  rw [lb_M had2] at hl
  refine lv_istore (lv' := (7, .int x) :: (6, .int (nI k)) :: LB b ad1 ad2 o1 o2 i) hx hb dL_law_1144 hl (by decide) rfl (fun ls hl => ?_)
  refine lv_aload_n hx hb dL_law_1146 rfl (lv_at hl 5 rfl) ?_
  refine lw_mcall (as := []) (rest := []) C0 hV2 (ctX12_thrown (K := fun r3 J3 B3 => r3 = J2 0 5 ∧ J2 = J3 ∧ B2 = B3) ⟨rfl, rfl, rfl⟩) okX12_thrown rfl (ab_in 2052 (by decide +kernel) rfl) (ab_in 2053 (by decide +kernel) rfl) (ab_in 2054 (by decide +kernel) rfl) dL_law_1147 rfl (fun v hv => absurd hv List.not_mem_nil) rfl hl.1 (Nat.le_of_ble_eq_true rfl) (Nat.le_of_ble_eq_true rfl) (by omega) (by omega) (fun _ _ _ _ z => z.2) (fun r4 sh1 J3 B3 ad3 H3 locs3 hp had3 hV3 => ?_)
  obtain ⟨rfl, y, rfl, rfl, rfl, rfl⟩ := hp
  have hV3 := hV3 rfl
  rw [lb_M had3] at hl
  refine lv_iload hx hb dL_law_1150 (lv_at hl 1 rfl) ?_
  refine lv_icmp_eq (tgt := 1157) hx hb dL_law_1152 (by decide) (fun _ => ?_) (fun hn => absurd (hm5.trans (by rw [hk1])) hn)
  have hfin := fun ls (hl : lv_has ls 8 ((7, .int x) :: (6, .int (nI k)) :: LB b ad1 ad3 o1 o2 i)) => kk d0 H3 locs3 ls ad1 ad3 o1 o2 v3 v2 Z1 I1 A1 J2 B2 hd0 hV3 hr1 hm1 (ik_pageCount hB hk hm) (lv_sub hl [2, 3, 4, 5, 6, 7] rfl)
  refine lv_iload hx hb dL_law_1157 (lv_at hl 1 rfl) ?_
  refine lv_if_ne (tgt := 1174) hx hb dL_law_1159 (by decide) (fun _ => ?_) (fun hz => ?_)
  · refine lv_goto (tgt := 3304) hx hb dL_law_1174 (by decide) (hfin ls hl)
  · have hk0 : k = 0 := by
      exact cz_pageCount hk1 hz
    refine lv_aload_n hx hb dL_law_1162 rfl (lv_at hl 4 rfl) ?_
    refine lv_iconst (v := 0) hx hb dL_law_1163 (by decide) ?_
    refine va_lald (i := 0) hx hb (va_K.moved (u := s) (U := s.setDrawn d0) (Vm.Alike.refl s.vm) C0.2.2.2.2.2.2.1) hV3.1.2.2.2.1 0 3 rfl rfl (by unfold vp_in; decide) dL_law_1164 ?_
    refine lv_iload hx hb dL_law_1165 (lv_at hl 0 rfl) ?_
    refine lv_i2l (v := x.toInt64) hx hb dL_law_1167 rfl ?_
    refine W.lcmp hx hb dL_law_1168 ?_
    rw [show (v3 (0 : Int32).toNatClampNeg) = x.toInt64 by rw [sb_cl0, hv3 hk0, hk2 hk0, hmx (hk1.symm.trans hk0)], lg_same]
    refine lv_if_eq (tgt := 1174) hx hb dL_law_1169 (by decide) (fun _ => ?_) (fun hn => absurd rfl hn)
    exact lv_goto (tgt := 3304) hx hb dL_law_1174 (by decide) (hfin ls hl)
theorem cz_kindOf {st : st_S} {x0 : Int32} {k : Nat} (h : k = (s_kind st x0).1) (hz : nI k = 0) : k = 0 := by
  have hc : k ≤ 3 := by
    rw [h]
    unfold s_kind
    (repeat' split) <;> exact Nat.le_of_ble_eq_true rfl
  have h1 : k = 0 ∨ k = 1 ∨ k = 2 ∨ k = 3 := by omega
  rcases h1 with e | e | e | e <;> subst e <;> first | rfl | exact absurd hz (by decide)
theorem la_kindOf (C0 : lw_X p l s m meth c b L xs D cT cL cD ac) {i B cells slots : Nat} {st : st_S} (hi : i + 6 ≤ L) (hL : L ≤ 3072) (hB : B + 401 < 2 ^ 24) (hc : cells + 1 ≤ 603072) (hs : slots + 6 ≤ 7186538) (kk : lw_G p l e s m below meth c b D cT cL cD ac 3304 i (B + 401) (cells + 1) (slots + 6) (s_kind st (xs (i + 1))).2.2) : lw_G p l e s m below meth c b D cT cL cD ac 1177 i B cells slots st := by
  intro d0 H locs ls adC adM o1 o2 v1 v2 Z I A J B1 hd0 hV hr hm hk hl
  have hx := C0.1
  have hb := C0.2.1
  have hX : va_X b L xs (s.setDrawn d0) (s.setDrawn d0).heap := C0.2.2.2.2.2.2.2.2.2.1
  have hbl : b < s.heap.size := C0.2.2.2.2.2.2.2.2.2.2.1
  refine lv_aload_n hx hb dL_law_1177 rfl (lv_at hl 4 rfl) ?_
  refine lv_aload_n hx hb dL_law_1178 rfl (lv_at hl 5 rfl) ?_
  refine lv_iload hx hb dL_law_1179 (lv_at hl 0 rfl) ?_
  refine lv_iconst (v := nI 1) hx hb dL_law_1181 (by decide) ?_
  refine lv_iadd hx hb dL_law_1182 ?_
  rw [nI_add]
  refine va_sld (L := L) hx hb hX hbl (show ¬ s.heap.size ≤ b from Nat.not_le_of_lt hbl) hV.2.2.2 (vp_in_nI (by omega) (by omega)) dL_law_1183 ?_
  rw [nI_clamp (by omega)]
  refine lv_aload_n hx hb dL_law_1184 rfl (lv_at hl 2 rfl) ?_
  refine lw_wcall (as := [.int (xs (i + 1))]) (na := 1) (rest := []) C0 hV (wr_kindOf C0.2.2.2.2.2.2.2.2.1 (hc_kindOf hB hk hr) hV.1.1) ⟨by decide, by decide, by decide +kernel⟩ (ab_in 1588 (by decide +kernel) rfl) (ab_in 1586 (by decide +kernel) rfl) (ab_in 1587 (by decide +kernel) rfl) (ab_in 95 (by decide +kernel) rfl) dL_law_1185 rfl rfl hl.1 (Nat.le_of_ble_eq_true rfl) (Nat.le_of_ble_eq_true rfl) (Nat.le_of_ble_eq_true rfl) hc hs (fun k r Z1 I1 A1 ad1 v3 H1 locs1 hK hv3 had hV1 => ?_)
  obtain ⟨hk1, hk2, hr1⟩ := hK
  rw [lb_C had] at hl
  refine lv_istore (lv' := (6, .int (nI k)) :: LB b ad1 adM o1 o2 i) hx hb dL_law_1188 hl (by decide) rfl (fun ls hl => ?_)
  refine lv_aload_n hx hb dL_law_1190 rfl (lv_at hl 4 rfl) ?_
  refine lv_aload_n hx hb dL_law_1191 rfl (lv_at hl 6 rfl) ?_
  refine lv_iload hx hb dL_law_1192 (lv_at hl 1 rfl) ?_
  refine lv_iconst (v := nI 1) hx hb dL_law_1194 (by decide) ?_
  refine lv_iadd hx hb dL_law_1195 ?_
  rw [nI_add]
  refine va_sld (L := L) hx hb hX hbl (show ¬ s.heap.size ≤ b from Nat.not_le_of_lt hbl) hV1.2.2.2 (vp_in_nI (by omega) (by omega)) dL_law_1196 ?_
  rw [nI_clamp (by omega)]
  refine lw_mcall (as := [.int (xs (i + 1))]) (rest := []) C0 hV1 (hm_kindOf hB hk hm) okX12_kindOf rfl (ab_in 2410 (by decide +kernel) rfl) (ab_in 2411 (by decide +kernel) rfl) (ab_in 2412 (by decide +kernel) rfl) dL_law_1197 rfl (fun v hv => by rw [List.mem_singleton.mp hv]; exact trivial) rfl hl.1 (Nat.le_of_ble_eq_true rfl) (Nat.le_of_ble_eq_true rfl) (by omega) (by omega) (fun _ _ _ _ z => z.2) (fun r2 sh1 J2 B2 ad2 H2 locs2 hp had2 hV2 => ?_)
  obtain ⟨rfl, x, rfl, hm1, hm5, hmx⟩ := hp
  have hV2 := hV2 rfl
  rw [lb_M had2] at hl
  refine lv_istore (lv' := (7, .int x) :: (6, .int (nI k)) :: LB b ad1 ad2 o1 o2 i) hx hb dL_law_1200 hl (by decide) rfl (fun ls hl => ?_)
  refine lv_aload_n hx hb dL_law_1202 rfl (lv_at hl 5 rfl) ?_
  refine lw_mcall (as := []) (rest := []) C0 hV2 (ctX12_thrown (K := fun r3 J3 B3 => r3 = J2 0 5 ∧ J2 = J3 ∧ B2 = B3) ⟨rfl, rfl, rfl⟩) okX12_thrown rfl (ab_in 2052 (by decide +kernel) rfl) (ab_in 2053 (by decide +kernel) rfl) (ab_in 2054 (by decide +kernel) rfl) dL_law_1203 rfl (fun v hv => absurd hv List.not_mem_nil) rfl hl.1 (Nat.le_of_ble_eq_true rfl) (Nat.le_of_ble_eq_true rfl) (by omega) (by omega) (fun _ _ _ _ z => z.2) (fun r4 sh1 J3 B3 ad3 H3 locs3 hp had3 hV3 => ?_)
  obtain ⟨rfl, y, rfl, rfl, rfl, rfl⟩ := hp
  have hV3 := hV3 rfl
  rw [lb_M had3] at hl
  refine lv_iload hx hb dL_law_1206 (lv_at hl 1 rfl) ?_
  refine lv_icmp_eq (tgt := 1213) hx hb dL_law_1208 (by decide) (fun _ => ?_) (fun hn => absurd (hm5.trans (by rw [hk1])) hn)
  have hfin := fun ls (hl : lv_has ls 8 ((7, .int x) :: (6, .int (nI k)) :: LB b ad1 ad3 o1 o2 i)) => kk d0 H3 locs3 ls ad1 ad3 o1 o2 v3 v2 Z1 I1 A1 J2 B2 hd0 hV3 hr1 hm1 (ik_kindOf hB hk hm) (lv_sub hl [2, 3, 4, 5, 6, 7] rfl)
  refine lv_iload hx hb dL_law_1213 (lv_at hl 1 rfl) ?_
  refine lv_if_ne (tgt := 1230) hx hb dL_law_1215 (by decide) (fun _ => ?_) (fun hz => ?_)
  · refine lv_goto (tgt := 3304) hx hb dL_law_1230 (by decide) (hfin ls hl)
  · have hk0 : k = 0 := by
      exact cz_kindOf hk1 hz
    refine lv_aload_n hx hb dL_law_1218 rfl (lv_at hl 4 rfl) ?_
    refine lv_iconst (v := 0) hx hb dL_law_1219 (by decide) ?_
    refine va_lald (i := 0) hx hb (va_K.moved (u := s) (U := s.setDrawn d0) (Vm.Alike.refl s.vm) C0.2.2.2.2.2.2.1) hV3.1.2.2.2.1 0 3 rfl rfl (by unfold vp_in; decide) dL_law_1220 ?_
    refine lv_iload hx hb dL_law_1221 (lv_at hl 0 rfl) ?_
    refine lv_i2l (v := x.toInt64) hx hb dL_law_1223 rfl ?_
    refine W.lcmp hx hb dL_law_1224 ?_
    rw [show (v3 (0 : Int32).toNatClampNeg) = x.toInt64 by rw [sb_cl0, hv3 hk0, hk2 hk0, hmx (hk1.symm.trans hk0)], lg_same]
    refine lv_if_eq (tgt := 1230) hx hb dL_law_1225 (by decide) (fun _ => ?_) (fun hn => absurd rfl hn)
    exact lv_goto (tgt := 3304) hx hb dL_law_1230 (by decide) (hfin ls hl)
theorem cz_peek {st : st_S} {x0 x1 : Int32} {k : Nat} (h : k = (s_peek st x0 x1).1) (hz : nI k = 0) : k = 0 := by
  have hc : k ≤ 3 := by
    rw [h]
    unfold s_peek
    (repeat' split) <;> exact Nat.le_of_ble_eq_true rfl
  have h1 : k = 0 ∨ k = 1 ∨ k = 2 ∨ k = 3 := by omega
  rcases h1 with e | e | e | e <;> subst e <;> first | rfl | exact absurd hz (by decide)
theorem la_peek (C0 : lw_X p l s m meth c b L xs D cT cL cD ac) {i B cells slots : Nat} {st : st_S} (hi : i + 6 ≤ L) (hL : L ≤ 3072) (hB : B + 401 < 2 ^ 24) (hc : cells + 1 ≤ 603072) (hs : slots + 6 ≤ 7186538) (kk : lw_G p l e s m below meth c b D cT cL cD ac 3304 i (B + 401) (cells + 1) (slots + 6) (s_peek st (xs (i + 1)) (xs (i + 2))).2.2) : lw_G p l e s m below meth c b D cT cL cD ac 1233 i B cells slots st := by
  intro d0 H locs ls adC adM o1 o2 v1 v2 Z I A J B1 hd0 hV hr hm hk hl
  have hx := C0.1
  have hb := C0.2.1
  have hX : va_X b L xs (s.setDrawn d0) (s.setDrawn d0).heap := C0.2.2.2.2.2.2.2.2.2.1
  have hbl : b < s.heap.size := C0.2.2.2.2.2.2.2.2.2.2.1
  refine lv_aload_n hx hb dL_law_1233 rfl (lv_at hl 4 rfl) ?_
  refine lv_aload_n hx hb dL_law_1234 rfl (lv_at hl 5 rfl) ?_
  refine lv_iload hx hb dL_law_1235 (lv_at hl 0 rfl) ?_
  refine lv_iconst (v := nI 1) hx hb dL_law_1237 (by decide) ?_
  refine lv_iadd hx hb dL_law_1238 ?_
  rw [nI_add]
  refine va_sld (L := L) hx hb hX hbl (show ¬ s.heap.size ≤ b from Nat.not_le_of_lt hbl) hV.2.2.2 (vp_in_nI (by omega) (by omega)) dL_law_1239 ?_
  rw [nI_clamp (by omega)]
  refine lv_aload_n hx hb dL_law_1240 rfl (lv_at hl 5 rfl) ?_
  refine lv_iload hx hb dL_law_1241 (lv_at hl 0 rfl) ?_
  refine lv_iconst (v := nI 2) hx hb dL_law_1243 (by decide) ?_
  refine lv_iadd hx hb dL_law_1244 ?_
  rw [nI_add]
  refine va_sld (L := L) hx hb hX hbl (show ¬ s.heap.size ≤ b from Nat.not_le_of_lt hbl) hV.2.2.2 (vp_in_nI (by omega) (by omega)) dL_law_1245 ?_
  rw [nI_clamp (by omega)]
  refine lv_aload_n hx hb dL_law_1246 rfl (lv_at hl 2 rfl) ?_
  refine lw_wcall (as := [.int (xs (i + 1)), .int (xs (i + 2))]) (na := 2) (rest := []) C0 hV (wr_peek C0.2.2.2.2.2.2.2.2.1 (hc_peek hB hk hr) hV.1.1) ⟨by decide, by decide, by decide +kernel⟩ (ab_in 1595 (by decide +kernel) rfl) (ab_in 1593 (by decide +kernel) rfl) (ab_in 1594 (by decide +kernel) rfl) (ab_in 95 (by decide +kernel) rfl) dL_law_1247 rfl rfl hl.1 (Nat.le_of_ble_eq_true rfl) (Nat.le_of_ble_eq_true rfl) (Nat.le_of_ble_eq_true rfl) hc hs (fun k r Z1 I1 A1 ad1 v3 H1 locs1 hK hv3 had hV1 => ?_)
  obtain ⟨hk1, hk2, hr1⟩ := hK
  rw [lb_C had] at hl
  refine lv_istore (lv' := (6, .int (nI k)) :: LB b ad1 adM o1 o2 i) hx hb dL_law_1250 hl (by decide) rfl (fun ls hl => ?_)
  refine lv_aload_n hx hb dL_law_1252 rfl (lv_at hl 4 rfl) ?_
  refine lv_aload_n hx hb dL_law_1253 rfl (lv_at hl 6 rfl) ?_
  refine lv_iload hx hb dL_law_1254 (lv_at hl 1 rfl) ?_
  refine lv_iconst (v := nI 1) hx hb dL_law_1256 (by decide) ?_
  refine lv_iadd hx hb dL_law_1257 ?_
  rw [nI_add]
  refine va_sld (L := L) hx hb hX hbl (show ¬ s.heap.size ≤ b from Nat.not_le_of_lt hbl) hV1.2.2.2 (vp_in_nI (by omega) (by omega)) dL_law_1258 ?_
  rw [nI_clamp (by omega)]
  refine lv_aload_n hx hb dL_law_1259 rfl (lv_at hl 6 rfl) ?_
  refine lv_iload hx hb dL_law_1260 (lv_at hl 1 rfl) ?_
  refine lv_iconst (v := nI 2) hx hb dL_law_1262 (by decide) ?_
  refine lv_iadd hx hb dL_law_1263 ?_
  rw [nI_add]
  refine va_sld (L := L) hx hb hX hbl (show ¬ s.heap.size ≤ b from Nat.not_le_of_lt hbl) hV1.2.2.2 (vp_in_nI (by omega) (by omega)) dL_law_1264 ?_
  rw [nI_clamp (by omega)]
  refine lw_mcall (as := [.int (xs (i + 1)), .int (xs (i + 2))]) (rest := []) C0 hV1 (hm_peek hB hk hm) okX12_peek rfl (ab_in 2414 (by decide +kernel) rfl) (ab_in 2415 (by decide +kernel) rfl) (ab_in 2416 (by decide +kernel) rfl) dL_law_1265 rfl (fun v hv => by simp only [List.mem_cons, List.not_mem_nil, or_false] at hv; rcases hv with h | h <;> subst h <;> exact trivial) rfl hl.1 (Nat.le_of_ble_eq_true rfl) (Nat.le_of_ble_eq_true rfl) (by omega) (by omega) (fun _ _ _ _ z => z.2) (fun r2 sh1 J2 B2 ad2 H2 locs2 hp had2 hV2 => ?_)
  obtain ⟨rfl, x, rfl, hm1, hm5, hmx⟩ := hp
  have hV2 := hV2 rfl
  rw [lb_M had2] at hl
  refine lv_istore (lv' := (7, .int x) :: (6, .int (nI k)) :: LB b ad1 ad2 o1 o2 i) hx hb dL_law_1268 hl (by decide) rfl (fun ls hl => ?_)
  refine lv_aload_n hx hb dL_law_1270 rfl (lv_at hl 5 rfl) ?_
  refine lw_mcall (as := []) (rest := []) C0 hV2 (ctX12_thrown (K := fun r3 J3 B3 => r3 = J2 0 5 ∧ J2 = J3 ∧ B2 = B3) ⟨rfl, rfl, rfl⟩) okX12_thrown rfl (ab_in 2052 (by decide +kernel) rfl) (ab_in 2053 (by decide +kernel) rfl) (ab_in 2054 (by decide +kernel) rfl) dL_law_1271 rfl (fun v hv => absurd hv List.not_mem_nil) rfl hl.1 (Nat.le_of_ble_eq_true rfl) (Nat.le_of_ble_eq_true rfl) (by omega) (by omega) (fun _ _ _ _ z => z.2) (fun r4 sh1 J3 B3 ad3 H3 locs3 hp had3 hV3 => ?_)
  obtain ⟨rfl, y, rfl, rfl, rfl, rfl⟩ := hp
  have hV3 := hV3 rfl
  rw [lb_M had3] at hl
  refine lv_iload hx hb dL_law_1274 (lv_at hl 1 rfl) ?_
  refine lv_icmp_eq (tgt := 1281) hx hb dL_law_1276 (by decide) (fun _ => ?_) (fun hn => absurd (hm5.trans (by rw [hk1])) hn)
  have hfin := fun ls (hl : lv_has ls 8 ((7, .int x) :: (6, .int (nI k)) :: LB b ad1 ad3 o1 o2 i)) => kk d0 H3 locs3 ls ad1 ad3 o1 o2 v3 v2 Z1 I1 A1 J2 B2 hd0 hV3 hr1 hm1 (ik_peek hB hk hm) (lv_sub hl [2, 3, 4, 5, 6, 7] rfl)
  refine lv_iload hx hb dL_law_1281 (lv_at hl 1 rfl) ?_
  refine lv_if_ne (tgt := 1298) hx hb dL_law_1283 (by decide) (fun _ => ?_) (fun hz => ?_)
  · refine lv_goto (tgt := 3304) hx hb dL_law_1298 (by decide) (hfin ls hl)
  · have hk0 : k = 0 := by
      exact cz_peek hk1 hz
    refine lv_aload_n hx hb dL_law_1286 rfl (lv_at hl 4 rfl) ?_
    refine lv_iconst (v := 0) hx hb dL_law_1287 (by decide) ?_
    refine va_lald (i := 0) hx hb (va_K.moved (u := s) (U := s.setDrawn d0) (Vm.Alike.refl s.vm) C0.2.2.2.2.2.2.1) hV3.1.2.2.2.1 0 3 rfl rfl (by unfold vp_in; decide) dL_law_1288 ?_
    refine lv_iload hx hb dL_law_1289 (lv_at hl 0 rfl) ?_
    refine lv_i2l (v := x.toInt64) hx hb dL_law_1291 rfl ?_
    refine W.lcmp hx hb dL_law_1292 ?_
    rw [show (v3 (0 : Int32).toNatClampNeg) = x.toInt64 by rw [sb_cl0, hv3 hk0, hk2 hk0, hmx (hk1.symm.trans hk0)], lg_same]
    refine lv_if_eq (tgt := 1298) hx hb dL_law_1293 (by decide) (fun _ => ?_) (fun hn => absurd rfl hn)
    exact lv_goto (tgt := 3304) hx hb dL_law_1298 (by decide) (hfin ls hl)
theorem cz_pageState {st : st_S} {x0 x1 : Int32} {k : Nat} (h : k = (s_state st x0 x1).1) (hz : nI k = 0) : k = 0 := by
  have hc : k ≤ 3 := by
    rw [h]
    unfold s_state
    (repeat' split) <;> exact Nat.le_of_ble_eq_true rfl
  have h1 : k = 0 ∨ k = 1 ∨ k = 2 ∨ k = 3 := by omega
  rcases h1 with e | e | e | e <;> subst e <;> first | rfl | exact absurd hz (by decide)
theorem la_pageState (C0 : lw_X p l s m meth c b L xs D cT cL cD ac) {i B cells slots : Nat} {st : st_S} (hi : i + 6 ≤ L) (hL : L ≤ 3072) (hB : B + 401 < 2 ^ 24) (hc : cells + 1 ≤ 603072) (hs : slots + 6 ≤ 7186538) (kk : lw_G p l e s m below meth c b D cT cL cD ac 3304 i (B + 401) (cells + 1) (slots + 6) (s_state st (xs (i + 1)) (xs (i + 2))).2.2) : lw_G p l e s m below meth c b D cT cL cD ac 1391 i B cells slots st := by
  intro d0 H locs ls adC adM o1 o2 v1 v2 Z I A J B1 hd0 hV hr hm hk hl
  have hx := C0.1
  have hb := C0.2.1
  have hX : va_X b L xs (s.setDrawn d0) (s.setDrawn d0).heap := C0.2.2.2.2.2.2.2.2.2.1
  have hbl : b < s.heap.size := C0.2.2.2.2.2.2.2.2.2.2.1
  refine lv_aload_n hx hb dL_law_1391 rfl (lv_at hl 4 rfl) ?_
  refine lv_aload_n hx hb dL_law_1392 rfl (lv_at hl 5 rfl) ?_
  refine lv_iload hx hb dL_law_1393 (lv_at hl 0 rfl) ?_
  refine lv_iconst (v := nI 1) hx hb dL_law_1395 (by decide) ?_
  refine lv_iadd hx hb dL_law_1396 ?_
  rw [nI_add]
  refine va_sld (L := L) hx hb hX hbl (show ¬ s.heap.size ≤ b from Nat.not_le_of_lt hbl) hV.2.2.2 (vp_in_nI (by omega) (by omega)) dL_law_1397 ?_
  rw [nI_clamp (by omega)]
  refine lv_aload_n hx hb dL_law_1398 rfl (lv_at hl 5 rfl) ?_
  refine lv_iload hx hb dL_law_1399 (lv_at hl 0 rfl) ?_
  refine lv_iconst (v := nI 2) hx hb dL_law_1401 (by decide) ?_
  refine lv_iadd hx hb dL_law_1402 ?_
  rw [nI_add]
  refine va_sld (L := L) hx hb hX hbl (show ¬ s.heap.size ≤ b from Nat.not_le_of_lt hbl) hV.2.2.2 (vp_in_nI (by omega) (by omega)) dL_law_1403 ?_
  rw [nI_clamp (by omega)]
  refine lv_aload_n hx hb dL_law_1404 rfl (lv_at hl 2 rfl) ?_
  refine lw_wcall (as := [.int (xs (i + 1)), .int (xs (i + 2))]) (na := 2) (rest := []) C0 hV (wr_pageState C0.2.2.2.2.2.2.2.2.1 (hc_pageState hB hk hr) hV.1.1) ⟨by decide, by decide, by decide +kernel⟩ (ab_in 1619 (by decide +kernel) rfl) (ab_in 1617 (by decide +kernel) rfl) (ab_in 1618 (by decide +kernel) rfl) (ab_in 95 (by decide +kernel) rfl) dL_law_1405 rfl rfl hl.1 (Nat.le_of_ble_eq_true rfl) (Nat.le_of_ble_eq_true rfl) (Nat.le_of_ble_eq_true rfl) hc hs (fun k r Z1 I1 A1 ad1 v3 H1 locs1 hK hv3 had hV1 => ?_)
  obtain ⟨hk1, hk2, hr1⟩ := hK
  rw [lb_C had] at hl
  refine lv_istore (lv' := (6, .int (nI k)) :: LB b ad1 adM o1 o2 i) hx hb dL_law_1408 hl (by decide) rfl (fun ls hl => ?_)
  refine lv_aload_n hx hb dL_law_1410 rfl (lv_at hl 4 rfl) ?_
  refine lv_aload_n hx hb dL_law_1411 rfl (lv_at hl 6 rfl) ?_
  refine lv_iload hx hb dL_law_1412 (lv_at hl 1 rfl) ?_
  refine lv_iconst (v := nI 1) hx hb dL_law_1414 (by decide) ?_
  refine lv_iadd hx hb dL_law_1415 ?_
  rw [nI_add]
  refine va_sld (L := L) hx hb hX hbl (show ¬ s.heap.size ≤ b from Nat.not_le_of_lt hbl) hV1.2.2.2 (vp_in_nI (by omega) (by omega)) dL_law_1416 ?_
  rw [nI_clamp (by omega)]
  refine lv_aload_n hx hb dL_law_1417 rfl (lv_at hl 6 rfl) ?_
  refine lv_iload hx hb dL_law_1418 (lv_at hl 1 rfl) ?_
  refine lv_iconst (v := nI 2) hx hb dL_law_1420 (by decide) ?_
  refine lv_iadd hx hb dL_law_1421 ?_
  rw [nI_add]
  refine va_sld (L := L) hx hb hX hbl (show ¬ s.heap.size ≤ b from Nat.not_le_of_lt hbl) hV1.2.2.2 (vp_in_nI (by omega) (by omega)) dL_law_1422 ?_
  rw [nI_clamp (by omega)]
  refine lw_mcall (as := [.int (xs (i + 1)), .int (xs (i + 2))]) (rest := []) C0 hV1 (hm_pageState hB hk hm) okX12_pageState rfl (ab_in 2425 (by decide +kernel) rfl) (ab_in 2426 (by decide +kernel) rfl) (ab_in 2427 (by decide +kernel) rfl) dL_law_1423 rfl (fun v hv => by simp only [List.mem_cons, List.not_mem_nil, or_false] at hv; rcases hv with h | h <;> subst h <;> exact trivial) rfl hl.1 (Nat.le_of_ble_eq_true rfl) (Nat.le_of_ble_eq_true rfl) (by omega) (by omega) (fun _ _ _ _ z => z.2) (fun r2 sh1 J2 B2 ad2 H2 locs2 hp had2 hV2 => ?_)
  obtain ⟨rfl, x, rfl, hm1, hm5, hmx⟩ := hp
  have hV2 := hV2 rfl
  rw [lb_M had2] at hl
  refine lv_istore (lv' := (7, .int x) :: (6, .int (nI k)) :: LB b ad1 ad2 o1 o2 i) hx hb dL_law_1426 hl (by decide) rfl (fun ls hl => ?_)
  refine lv_aload_n hx hb dL_law_1428 rfl (lv_at hl 5 rfl) ?_
  refine lw_mcall (as := []) (rest := []) C0 hV2 (ctX12_thrown (K := fun r3 J3 B3 => r3 = J2 0 5 ∧ J2 = J3 ∧ B2 = B3) ⟨rfl, rfl, rfl⟩) okX12_thrown rfl (ab_in 2052 (by decide +kernel) rfl) (ab_in 2053 (by decide +kernel) rfl) (ab_in 2054 (by decide +kernel) rfl) dL_law_1429 rfl (fun v hv => absurd hv List.not_mem_nil) rfl hl.1 (Nat.le_of_ble_eq_true rfl) (Nat.le_of_ble_eq_true rfl) (by omega) (by omega) (fun _ _ _ _ z => z.2) (fun r4 sh1 J3 B3 ad3 H3 locs3 hp had3 hV3 => ?_)
  obtain ⟨rfl, y, rfl, rfl, rfl, rfl⟩ := hp
  have hV3 := hV3 rfl
  rw [lb_M had3] at hl
  refine lv_iload hx hb dL_law_1432 (lv_at hl 1 rfl) ?_
  refine lv_icmp_eq (tgt := 1439) hx hb dL_law_1434 (by decide) (fun _ => ?_) (fun hn => absurd (hm5.trans (by rw [hk1])) hn)
  have hfin := fun ls (hl : lv_has ls 8 ((7, .int x) :: (6, .int (nI k)) :: LB b ad1 ad3 o1 o2 i)) => kk d0 H3 locs3 ls ad1 ad3 o1 o2 v3 v2 Z1 I1 A1 J2 B2 hd0 hV3 hr1 hm1 (ik_pageState hB hk hm) (lv_sub hl [2, 3, 4, 5, 6, 7] rfl)
  refine lv_iload hx hb dL_law_1439 (lv_at hl 1 rfl) ?_
  refine lv_if_ne (tgt := 1456) hx hb dL_law_1441 (by decide) (fun _ => ?_) (fun hz => ?_)
  · refine lv_goto (tgt := 3304) hx hb dL_law_1456 (by decide) (hfin ls hl)
  · have hk0 : k = 0 := by
      exact cz_pageState hk1 hz
    refine lv_aload_n hx hb dL_law_1444 rfl (lv_at hl 4 rfl) ?_
    refine lv_iconst (v := 0) hx hb dL_law_1445 (by decide) ?_
    refine va_lald (i := 0) hx hb (va_K.moved (u := s) (U := s.setDrawn d0) (Vm.Alike.refl s.vm) C0.2.2.2.2.2.2.1) hV3.1.2.2.2.1 0 3 rfl rfl (by unfold vp_in; decide) dL_law_1446 ?_
    refine lv_iload hx hb dL_law_1447 (lv_at hl 0 rfl) ?_
    refine lv_i2l (v := x.toInt64) hx hb dL_law_1449 rfl ?_
    refine W.lcmp hx hb dL_law_1450 ?_
    rw [show (v3 (0 : Int32).toNatClampNeg) = x.toInt64 by rw [sb_cl0, hv3 hk0, hk2 hk0, hmx (hk1.symm.trans hk0)], lg_same]
    refine lv_if_eq (tgt := 1456) hx hb dL_law_1451 (by decide) (fun _ => ?_) (fun hn => absurd rfl hn)
    exact lv_goto (tgt := 3304) hx hb dL_law_1456 (by decide) (hfin ls hl)
theorem cz_frameOf {st : st_S} {x0 x1 : Int32} {k : Nat} (h : k = (s_frof st x0 x1).1) (hz : nI k = 0) : k = 0 := by
  have hc : k ≤ 3 := by
    rw [h]
    unfold s_frof
    (repeat' split) <;> exact Nat.le_of_ble_eq_true rfl
  have h1 : k = 0 ∨ k = 1 ∨ k = 2 ∨ k = 3 := by omega
  rcases h1 with e | e | e | e <;> subst e <;> first | rfl | exact absurd hz (by decide)
theorem la_frameOf (C0 : lw_X p l s m meth c b L xs D cT cL cD ac) {i B cells slots : Nat} {st : st_S} (hi : i + 6 ≤ L) (hL : L ≤ 3072) (hB : B + 401 < 2 ^ 24) (hc : cells + 1 ≤ 603072) (hs : slots + 6 ≤ 7186538) (kk : lw_G p l e s m below meth c b D cT cL cD ac 3304 i (B + 401) (cells + 1) (slots + 6) (s_frof st (xs (i + 1)) (xs (i + 2))).2.2) : lw_G p l e s m below meth c b D cT cL cD ac 1459 i B cells slots st := by
  intro d0 H locs ls adC adM o1 o2 v1 v2 Z I A J B1 hd0 hV hr hm hk hl
  have hx := C0.1
  have hb := C0.2.1
  have hX : va_X b L xs (s.setDrawn d0) (s.setDrawn d0).heap := C0.2.2.2.2.2.2.2.2.2.1
  have hbl : b < s.heap.size := C0.2.2.2.2.2.2.2.2.2.2.1
  refine lv_aload_n hx hb dL_law_1459 rfl (lv_at hl 4 rfl) ?_
  refine lv_aload_n hx hb dL_law_1460 rfl (lv_at hl 5 rfl) ?_
  refine lv_iload hx hb dL_law_1461 (lv_at hl 0 rfl) ?_
  refine lv_iconst (v := nI 1) hx hb dL_law_1463 (by decide) ?_
  refine lv_iadd hx hb dL_law_1464 ?_
  rw [nI_add]
  refine va_sld (L := L) hx hb hX hbl (show ¬ s.heap.size ≤ b from Nat.not_le_of_lt hbl) hV.2.2.2 (vp_in_nI (by omega) (by omega)) dL_law_1465 ?_
  rw [nI_clamp (by omega)]
  refine lv_aload_n hx hb dL_law_1466 rfl (lv_at hl 5 rfl) ?_
  refine lv_iload hx hb dL_law_1467 (lv_at hl 0 rfl) ?_
  refine lv_iconst (v := nI 2) hx hb dL_law_1469 (by decide) ?_
  refine lv_iadd hx hb dL_law_1470 ?_
  rw [nI_add]
  refine va_sld (L := L) hx hb hX hbl (show ¬ s.heap.size ≤ b from Nat.not_le_of_lt hbl) hV.2.2.2 (vp_in_nI (by omega) (by omega)) dL_law_1471 ?_
  rw [nI_clamp (by omega)]
  refine lv_aload_n hx hb dL_law_1472 rfl (lv_at hl 2 rfl) ?_
  refine lw_wcall (as := [.int (xs (i + 1)), .int (xs (i + 2))]) (na := 2) (rest := []) C0 hV (wr_frameOf C0.2.2.2.2.2.2.2.2.1 (hc_frameOf hB hk hr) hV.1.1) ⟨by decide, by decide, by decide +kernel⟩ (ab_in 1626 (by decide +kernel) rfl) (ab_in 1624 (by decide +kernel) rfl) (ab_in 1625 (by decide +kernel) rfl) (ab_in 95 (by decide +kernel) rfl) dL_law_1473 rfl rfl hl.1 (Nat.le_of_ble_eq_true rfl) (Nat.le_of_ble_eq_true rfl) (Nat.le_of_ble_eq_true rfl) hc hs (fun k r Z1 I1 A1 ad1 v3 H1 locs1 hK hv3 had hV1 => ?_)
  obtain ⟨hk1, hk2, hr1⟩ := hK
  rw [lb_C had] at hl
  refine lv_istore (lv' := (6, .int (nI k)) :: LB b ad1 adM o1 o2 i) hx hb dL_law_1476 hl (by decide) rfl (fun ls hl => ?_)
  refine lv_aload_n hx hb dL_law_1478 rfl (lv_at hl 4 rfl) ?_
  refine lv_aload_n hx hb dL_law_1479 rfl (lv_at hl 6 rfl) ?_
  refine lv_iload hx hb dL_law_1480 (lv_at hl 1 rfl) ?_
  refine lv_iconst (v := nI 1) hx hb dL_law_1482 (by decide) ?_
  refine lv_iadd hx hb dL_law_1483 ?_
  rw [nI_add]
  refine va_sld (L := L) hx hb hX hbl (show ¬ s.heap.size ≤ b from Nat.not_le_of_lt hbl) hV1.2.2.2 (vp_in_nI (by omega) (by omega)) dL_law_1484 ?_
  rw [nI_clamp (by omega)]
  refine lv_aload_n hx hb dL_law_1485 rfl (lv_at hl 6 rfl) ?_
  refine lv_iload hx hb dL_law_1486 (lv_at hl 1 rfl) ?_
  refine lv_iconst (v := nI 2) hx hb dL_law_1488 (by decide) ?_
  refine lv_iadd hx hb dL_law_1489 ?_
  rw [nI_add]
  refine va_sld (L := L) hx hb hX hbl (show ¬ s.heap.size ≤ b from Nat.not_le_of_lt hbl) hV1.2.2.2 (vp_in_nI (by omega) (by omega)) dL_law_1490 ?_
  rw [nI_clamp (by omega)]
  refine lw_mcall (as := [.int (xs (i + 1)), .int (xs (i + 2))]) (rest := []) C0 hV1 (hm_frameOf hB hk hm) okX12_frameOf rfl (ab_in 2433 (by decide +kernel) rfl) (ab_in 2434 (by decide +kernel) rfl) (ab_in 2435 (by decide +kernel) rfl) dL_law_1491 rfl (fun v hv => by simp only [List.mem_cons, List.not_mem_nil, or_false] at hv; rcases hv with h | h <;> subst h <;> exact trivial) rfl hl.1 (Nat.le_of_ble_eq_true rfl) (Nat.le_of_ble_eq_true rfl) (by omega) (by omega) (fun _ _ _ _ z => z.2) (fun r2 sh1 J2 B2 ad2 H2 locs2 hp had2 hV2 => ?_)
  obtain ⟨rfl, x, rfl, hm1, hm5, hmx⟩ := hp
  have hV2 := hV2 rfl
  rw [lb_M had2] at hl
  refine lv_istore (lv' := (7, .int x) :: (6, .int (nI k)) :: LB b ad1 ad2 o1 o2 i) hx hb dL_law_1494 hl (by decide) rfl (fun ls hl => ?_)
  refine lv_aload_n hx hb dL_law_1496 rfl (lv_at hl 5 rfl) ?_
  refine lw_mcall (as := []) (rest := []) C0 hV2 (ctX12_thrown (K := fun r3 J3 B3 => r3 = J2 0 5 ∧ J2 = J3 ∧ B2 = B3) ⟨rfl, rfl, rfl⟩) okX12_thrown rfl (ab_in 2052 (by decide +kernel) rfl) (ab_in 2053 (by decide +kernel) rfl) (ab_in 2054 (by decide +kernel) rfl) dL_law_1497 rfl (fun v hv => absurd hv List.not_mem_nil) rfl hl.1 (Nat.le_of_ble_eq_true rfl) (Nat.le_of_ble_eq_true rfl) (by omega) (by omega) (fun _ _ _ _ z => z.2) (fun r4 sh1 J3 B3 ad3 H3 locs3 hp had3 hV3 => ?_)
  obtain ⟨rfl, y, rfl, rfl, rfl, rfl⟩ := hp
  have hV3 := hV3 rfl
  rw [lb_M had3] at hl
  refine lv_iload hx hb dL_law_1500 (lv_at hl 1 rfl) ?_
  refine lv_icmp_eq (tgt := 1507) hx hb dL_law_1502 (by decide) (fun _ => ?_) (fun hn => absurd (hm5.trans (by rw [hk1])) hn)
  have hfin := fun ls (hl : lv_has ls 8 ((7, .int x) :: (6, .int (nI k)) :: LB b ad1 ad3 o1 o2 i)) => kk d0 H3 locs3 ls ad1 ad3 o1 o2 v3 v2 Z1 I1 A1 J2 B2 hd0 hV3 hr1 hm1 (ik_frameOf hB hk hm) (lv_sub hl [2, 3, 4, 5, 6, 7] rfl)
  refine lv_iload hx hb dL_law_1507 (lv_at hl 1 rfl) ?_
  refine lv_if_ne (tgt := 1524) hx hb dL_law_1509 (by decide) (fun _ => ?_) (fun hz => ?_)
  · refine lv_goto (tgt := 3304) hx hb dL_law_1524 (by decide) (hfin ls hl)
  · have hk0 : k = 0 := by
      exact cz_frameOf hk1 hz
    refine lv_aload_n hx hb dL_law_1512 rfl (lv_at hl 4 rfl) ?_
    refine lv_iconst (v := 0) hx hb dL_law_1513 (by decide) ?_
    refine va_lald (i := 0) hx hb (va_K.moved (u := s) (U := s.setDrawn d0) (Vm.Alike.refl s.vm) C0.2.2.2.2.2.2.1) hV3.1.2.2.2.1 0 3 rfl rfl (by unfold vp_in; decide) dL_law_1514 ?_
    refine lv_iload hx hb dL_law_1515 (lv_at hl 0 rfl) ?_
    refine lv_i2l (v := x.toInt64) hx hb dL_law_1517 rfl ?_
    refine W.lcmp hx hb dL_law_1518 ?_
    rw [show (v3 (0 : Int32).toNatClampNeg) = x.toInt64 by rw [sb_cl0, hv3 hk0, hk2 hk0, hmx (hk1.symm.trans hk0)], lg_same]
    refine lv_if_eq (tgt := 1524) hx hb dL_law_1519 (by decide) (fun _ => ?_) (fun hn => absurd rfl hn)
    exact lv_goto (tgt := 3304) hx hb dL_law_1524 (by decide) (hfin ls hl)
theorem cz_slotOf {st : st_S} {x0 x1 : Int32} {k : Nat} (h : k = (s_slof st x0 x1).1) (hz : nI k = 0) : k = 0 := by
  have hc : k ≤ 3 := by
    rw [h]
    unfold s_slof
    (repeat' split) <;> exact Nat.le_of_ble_eq_true rfl
  have h1 : k = 0 ∨ k = 1 ∨ k = 2 ∨ k = 3 := by omega
  rcases h1 with e | e | e | e <;> subst e <;> first | rfl | exact absurd hz (by decide)
theorem la_slotOf (C0 : lw_X p l s m meth c b L xs D cT cL cD ac) {i B cells slots : Nat} {st : st_S} (hi : i + 6 ≤ L) (hL : L ≤ 3072) (hB : B + 401 < 2 ^ 24) (hc : cells + 1 ≤ 603072) (hs : slots + 6 ≤ 7186538) (kk : lw_G p l e s m below meth c b D cT cL cD ac 3304 i (B + 401) (cells + 1) (slots + 6) (s_slof st (xs (i + 1)) (xs (i + 2))).2.2) : lw_G p l e s m below meth c b D cT cL cD ac 1527 i B cells slots st := by
  intro d0 H locs ls adC adM o1 o2 v1 v2 Z I A J B1 hd0 hV hr hm hk hl
  have hx := C0.1
  have hb := C0.2.1
  have hX : va_X b L xs (s.setDrawn d0) (s.setDrawn d0).heap := C0.2.2.2.2.2.2.2.2.2.1
  have hbl : b < s.heap.size := C0.2.2.2.2.2.2.2.2.2.2.1
  refine lv_aload_n hx hb dL_law_1527 rfl (lv_at hl 4 rfl) ?_
  refine lv_aload_n hx hb dL_law_1528 rfl (lv_at hl 5 rfl) ?_
  refine lv_iload hx hb dL_law_1529 (lv_at hl 0 rfl) ?_
  refine lv_iconst (v := nI 1) hx hb dL_law_1531 (by decide) ?_
  refine lv_iadd hx hb dL_law_1532 ?_
  rw [nI_add]
  refine va_sld (L := L) hx hb hX hbl (show ¬ s.heap.size ≤ b from Nat.not_le_of_lt hbl) hV.2.2.2 (vp_in_nI (by omega) (by omega)) dL_law_1533 ?_
  rw [nI_clamp (by omega)]
  refine lv_aload_n hx hb dL_law_1534 rfl (lv_at hl 5 rfl) ?_
  refine lv_iload hx hb dL_law_1535 (lv_at hl 0 rfl) ?_
  refine lv_iconst (v := nI 2) hx hb dL_law_1537 (by decide) ?_
  refine lv_iadd hx hb dL_law_1538 ?_
  rw [nI_add]
  refine va_sld (L := L) hx hb hX hbl (show ¬ s.heap.size ≤ b from Nat.not_le_of_lt hbl) hV.2.2.2 (vp_in_nI (by omega) (by omega)) dL_law_1539 ?_
  rw [nI_clamp (by omega)]
  refine lv_aload_n hx hb dL_law_1540 rfl (lv_at hl 2 rfl) ?_
  refine lw_wcall (as := [.int (xs (i + 1)), .int (xs (i + 2))]) (na := 2) (rest := []) C0 hV (wr_slotOf C0.2.2.2.2.2.2.2.2.1 (hc_slotOf hB hk hr) hV.1.1) ⟨by decide, by decide, by decide +kernel⟩ (ab_in 1633 (by decide +kernel) rfl) (ab_in 1631 (by decide +kernel) rfl) (ab_in 1632 (by decide +kernel) rfl) (ab_in 95 (by decide +kernel) rfl) dL_law_1541 rfl rfl hl.1 (Nat.le_of_ble_eq_true rfl) (Nat.le_of_ble_eq_true rfl) (Nat.le_of_ble_eq_true rfl) hc hs (fun k r Z1 I1 A1 ad1 v3 H1 locs1 hK hv3 had hV1 => ?_)
  obtain ⟨hk1, hk2, hr1⟩ := hK
  rw [lb_C had] at hl
  refine lv_istore (lv' := (6, .int (nI k)) :: LB b ad1 adM o1 o2 i) hx hb dL_law_1544 hl (by decide) rfl (fun ls hl => ?_)
  refine lv_aload_n hx hb dL_law_1546 rfl (lv_at hl 4 rfl) ?_
  refine lv_aload_n hx hb dL_law_1547 rfl (lv_at hl 6 rfl) ?_
  refine lv_iload hx hb dL_law_1548 (lv_at hl 1 rfl) ?_
  refine lv_iconst (v := nI 1) hx hb dL_law_1550 (by decide) ?_
  refine lv_iadd hx hb dL_law_1551 ?_
  rw [nI_add]
  refine va_sld (L := L) hx hb hX hbl (show ¬ s.heap.size ≤ b from Nat.not_le_of_lt hbl) hV1.2.2.2 (vp_in_nI (by omega) (by omega)) dL_law_1552 ?_
  rw [nI_clamp (by omega)]
  refine lv_aload_n hx hb dL_law_1553 rfl (lv_at hl 6 rfl) ?_
  refine lv_iload hx hb dL_law_1554 (lv_at hl 1 rfl) ?_
  refine lv_iconst (v := nI 2) hx hb dL_law_1556 (by decide) ?_
  refine lv_iadd hx hb dL_law_1557 ?_
  rw [nI_add]
  refine va_sld (L := L) hx hb hX hbl (show ¬ s.heap.size ≤ b from Nat.not_le_of_lt hbl) hV1.2.2.2 (vp_in_nI (by omega) (by omega)) dL_law_1558 ?_
  rw [nI_clamp (by omega)]
  refine lw_mcall (as := [.int (xs (i + 1)), .int (xs (i + 2))]) (rest := []) C0 hV1 (hm_slotOf hB hk hm) okX12_slotOf rfl (ab_in 2437 (by decide +kernel) rfl) (ab_in 2438 (by decide +kernel) rfl) (ab_in 2439 (by decide +kernel) rfl) dL_law_1559 rfl (fun v hv => by simp only [List.mem_cons, List.not_mem_nil, or_false] at hv; rcases hv with h | h <;> subst h <;> exact trivial) rfl hl.1 (Nat.le_of_ble_eq_true rfl) (Nat.le_of_ble_eq_true rfl) (by omega) (by omega) (fun _ _ _ _ z => z.2) (fun r2 sh1 J2 B2 ad2 H2 locs2 hp had2 hV2 => ?_)
  obtain ⟨rfl, x, rfl, hm1, hm5, hmx⟩ := hp
  have hV2 := hV2 rfl
  rw [lb_M had2] at hl
  refine lv_istore (lv' := (7, .int x) :: (6, .int (nI k)) :: LB b ad1 ad2 o1 o2 i) hx hb dL_law_1562 hl (by decide) rfl (fun ls hl => ?_)
  refine lv_aload_n hx hb dL_law_1564 rfl (lv_at hl 5 rfl) ?_
  refine lw_mcall (as := []) (rest := []) C0 hV2 (ctX12_thrown (K := fun r3 J3 B3 => r3 = J2 0 5 ∧ J2 = J3 ∧ B2 = B3) ⟨rfl, rfl, rfl⟩) okX12_thrown rfl (ab_in 2052 (by decide +kernel) rfl) (ab_in 2053 (by decide +kernel) rfl) (ab_in 2054 (by decide +kernel) rfl) dL_law_1565 rfl (fun v hv => absurd hv List.not_mem_nil) rfl hl.1 (Nat.le_of_ble_eq_true rfl) (Nat.le_of_ble_eq_true rfl) (by omega) (by omega) (fun _ _ _ _ z => z.2) (fun r4 sh1 J3 B3 ad3 H3 locs3 hp had3 hV3 => ?_)
  obtain ⟨rfl, y, rfl, rfl, rfl, rfl⟩ := hp
  have hV3 := hV3 rfl
  rw [lb_M had3] at hl
  refine lv_iload hx hb dL_law_1568 (lv_at hl 1 rfl) ?_
  refine lv_icmp_eq (tgt := 1575) hx hb dL_law_1570 (by decide) (fun _ => ?_) (fun hn => absurd (hm5.trans (by rw [hk1])) hn)
  have hfin := fun ls (hl : lv_has ls 8 ((7, .int x) :: (6, .int (nI k)) :: LB b ad1 ad3 o1 o2 i)) => kk d0 H3 locs3 ls ad1 ad3 o1 o2 v3 v2 Z1 I1 A1 J2 B2 hd0 hV3 hr1 hm1 (ik_slotOf hB hk hm) (lv_sub hl [2, 3, 4, 5, 6, 7] rfl)
  refine lv_iload hx hb dL_law_1575 (lv_at hl 1 rfl) ?_
  refine lv_if_ne (tgt := 1592) hx hb dL_law_1577 (by decide) (fun _ => ?_) (fun hz => ?_)
  · refine lv_goto (tgt := 3304) hx hb dL_law_1592 (by decide) (hfin ls hl)
  · have hk0 : k = 0 := by
      exact cz_slotOf hk1 hz
    refine lv_aload_n hx hb dL_law_1580 rfl (lv_at hl 4 rfl) ?_
    refine lv_iconst (v := 0) hx hb dL_law_1581 (by decide) ?_
    refine va_lald (i := 0) hx hb (va_K.moved (u := s) (U := s.setDrawn d0) (Vm.Alike.refl s.vm) C0.2.2.2.2.2.2.1) hV3.1.2.2.2.1 0 3 rfl rfl (by unfold vp_in; decide) dL_law_1582 ?_
    refine lv_iload hx hb dL_law_1583 (lv_at hl 0 rfl) ?_
    refine lv_i2l (v := x.toInt64) hx hb dL_law_1585 rfl ?_
    refine W.lcmp hx hb dL_law_1586 ?_
    rw [show (v3 (0 : Int32).toNatClampNeg) = x.toInt64 by rw [sb_cl0, hv3 hk0, hk2 hk0, hmx (hk1.symm.trans hk0)], lg_same]
    refine lv_if_eq (tgt := 1592) hx hb dL_law_1587 (by decide) (fun _ => ?_) (fun hn => absurd rfl hn)
    exact lv_goto (tgt := 3304) hx hb dL_law_1592 (by decide) (hfin ls hl)
theorem cz_frameOwner {st : st_S} {x0 : Int32} {k : Nat} (h : k = (s_frow st x0).1) (hz : nI k = 0) : k = 0 := by
  have hc : k ≤ 3 := by
    rw [h]
    unfold s_frow
    (repeat' split) <;> exact Nat.le_of_ble_eq_true rfl
  have h1 : k = 0 ∨ k = 1 ∨ k = 2 ∨ k = 3 := by omega
  rcases h1 with e | e | e | e <;> subst e <;> first | rfl | exact absurd hz (by decide)
theorem la_frameOwner (C0 : lw_X p l s m meth c b L xs D cT cL cD ac) {i B cells slots : Nat} {st : st_S} (hi : i + 6 ≤ L) (hL : L ≤ 3072) (hB : B + 401 < 2 ^ 24) (hc : cells + 1 ≤ 603072) (hs : slots + 6 ≤ 7186538) (kk : lw_G p l e s m below meth c b D cT cL cD ac 3304 i (B + 401) (cells + 1) (slots + 6) (s_frow st (xs (i + 1))).2.2) : lw_G p l e s m below meth c b D cT cL cD ac 1595 i B cells slots st := by
  intro d0 H locs ls adC adM o1 o2 v1 v2 Z I A J B1 hd0 hV hr hm hk hl
  have hx := C0.1
  have hb := C0.2.1
  have hX : va_X b L xs (s.setDrawn d0) (s.setDrawn d0).heap := C0.2.2.2.2.2.2.2.2.2.1
  have hbl : b < s.heap.size := C0.2.2.2.2.2.2.2.2.2.2.1
  refine lv_aload_n hx hb dL_law_1595 rfl (lv_at hl 4 rfl) ?_
  refine lv_aload_n hx hb dL_law_1596 rfl (lv_at hl 5 rfl) ?_
  refine lv_iload hx hb dL_law_1597 (lv_at hl 0 rfl) ?_
  refine lv_iconst (v := nI 1) hx hb dL_law_1599 (by decide) ?_
  refine lv_iadd hx hb dL_law_1600 ?_
  rw [nI_add]
  refine va_sld (L := L) hx hb hX hbl (show ¬ s.heap.size ≤ b from Nat.not_le_of_lt hbl) hV.2.2.2 (vp_in_nI (by omega) (by omega)) dL_law_1601 ?_
  rw [nI_clamp (by omega)]
  refine lv_aload_n hx hb dL_law_1602 rfl (lv_at hl 2 rfl) ?_
  refine lw_wcall (as := [.int (xs (i + 1))]) (na := 1) (rest := []) C0 hV (wr_frameOwner C0.2.2.2.2.2.2.2.2.1 (hc_frameOwner hB hk hr) hV.1.1) ⟨by decide, by decide, by decide +kernel⟩ (ab_in 1640 (by decide +kernel) rfl) (ab_in 1638 (by decide +kernel) rfl) (ab_in 1639 (by decide +kernel) rfl) (ab_in 95 (by decide +kernel) rfl) dL_law_1603 rfl rfl hl.1 (Nat.le_of_ble_eq_true rfl) (Nat.le_of_ble_eq_true rfl) (Nat.le_of_ble_eq_true rfl) hc hs (fun k r Z1 I1 A1 ad1 v3 H1 locs1 hK hv3 had hV1 => ?_)
  obtain ⟨hk1, hk2, hr1⟩ := hK
  rw [lb_C had] at hl
  refine lv_istore (lv' := (6, .int (nI k)) :: LB b ad1 adM o1 o2 i) hx hb dL_law_1606 hl (by decide) rfl (fun ls hl => ?_)
  refine lv_aload_n hx hb dL_law_1608 rfl (lv_at hl 4 rfl) ?_
  refine lv_aload_n hx hb dL_law_1609 rfl (lv_at hl 6 rfl) ?_
  refine lv_iload hx hb dL_law_1610 (lv_at hl 1 rfl) ?_
  refine lv_iconst (v := nI 1) hx hb dL_law_1612 (by decide) ?_
  refine lv_iadd hx hb dL_law_1613 ?_
  rw [nI_add]
  refine va_sld (L := L) hx hb hX hbl (show ¬ s.heap.size ≤ b from Nat.not_le_of_lt hbl) hV1.2.2.2 (vp_in_nI (by omega) (by omega)) dL_law_1614 ?_
  rw [nI_clamp (by omega)]
  refine lw_mcall (as := [.int (xs (i + 1))]) (rest := []) C0 hV1 (hm_frameOwner hB hk hm) okX12_frameOwner rfl (ab_in 2441 (by decide +kernel) rfl) (ab_in 2442 (by decide +kernel) rfl) (ab_in 2443 (by decide +kernel) rfl) dL_law_1615 rfl (fun v hv => by rw [List.mem_singleton.mp hv]; exact trivial) rfl hl.1 (Nat.le_of_ble_eq_true rfl) (Nat.le_of_ble_eq_true rfl) (by omega) (by omega) (fun _ _ _ _ z => z.2) (fun r2 sh1 J2 B2 ad2 H2 locs2 hp had2 hV2 => ?_)
  obtain ⟨rfl, x, rfl, hm1, hm5, hmx⟩ := hp
  have hV2 := hV2 rfl
  rw [lb_M had2] at hl
  refine lv_istore (lv' := (7, .int x) :: (6, .int (nI k)) :: LB b ad1 ad2 o1 o2 i) hx hb dL_law_1618 hl (by decide) rfl (fun ls hl => ?_)
  refine lv_aload_n hx hb dL_law_1620 rfl (lv_at hl 5 rfl) ?_
  refine lw_mcall (as := []) (rest := []) C0 hV2 (ctX12_thrown (K := fun r3 J3 B3 => r3 = J2 0 5 ∧ J2 = J3 ∧ B2 = B3) ⟨rfl, rfl, rfl⟩) okX12_thrown rfl (ab_in 2052 (by decide +kernel) rfl) (ab_in 2053 (by decide +kernel) rfl) (ab_in 2054 (by decide +kernel) rfl) dL_law_1621 rfl (fun v hv => absurd hv List.not_mem_nil) rfl hl.1 (Nat.le_of_ble_eq_true rfl) (Nat.le_of_ble_eq_true rfl) (by omega) (by omega) (fun _ _ _ _ z => z.2) (fun r4 sh1 J3 B3 ad3 H3 locs3 hp had3 hV3 => ?_)
  obtain ⟨rfl, y, rfl, rfl, rfl, rfl⟩ := hp
  have hV3 := hV3 rfl
  rw [lb_M had3] at hl
  refine lv_iload hx hb dL_law_1624 (lv_at hl 1 rfl) ?_
  refine lv_icmp_eq (tgt := 1631) hx hb dL_law_1626 (by decide) (fun _ => ?_) (fun hn => absurd (hm5.trans (by rw [hk1])) hn)
  have hfin := fun ls (hl : lv_has ls 8 ((7, .int x) :: (6, .int (nI k)) :: LB b ad1 ad3 o1 o2 i)) => kk d0 H3 locs3 ls ad1 ad3 o1 o2 v3 v2 Z1 I1 A1 J2 B2 hd0 hV3 hr1 hm1 (ik_frameOwner hB hk hm) (lv_sub hl [2, 3, 4, 5, 6, 7] rfl)
  refine lv_iload hx hb dL_law_1631 (lv_at hl 1 rfl) ?_
  refine lv_if_ne (tgt := 1648) hx hb dL_law_1633 (by decide) (fun _ => ?_) (fun hz => ?_)
  · refine lv_goto (tgt := 3304) hx hb dL_law_1648 (by decide) (hfin ls hl)
  · have hk0 : k = 0 := by
      exact cz_frameOwner hk1 hz
    refine lv_aload_n hx hb dL_law_1636 rfl (lv_at hl 4 rfl) ?_
    refine lv_iconst (v := 0) hx hb dL_law_1637 (by decide) ?_
    refine va_lald (i := 0) hx hb (va_K.moved (u := s) (U := s.setDrawn d0) (Vm.Alike.refl s.vm) C0.2.2.2.2.2.2.1) hV3.1.2.2.2.1 0 3 rfl rfl (by unfold vp_in; decide) dL_law_1638 ?_
    refine lv_iload hx hb dL_law_1639 (lv_at hl 0 rfl) ?_
    refine lv_i2l (v := x.toInt64) hx hb dL_law_1641 rfl ?_
    refine W.lcmp hx hb dL_law_1642 ?_
    rw [show (v3 (0 : Int32).toNatClampNeg) = x.toInt64 by rw [sb_cl0, hv3 hk0, hk2 hk0, hmx (hk1.symm.trans hk0)], lg_same]
    refine lv_if_eq (tgt := 1648) hx hb dL_law_1643 (by decide) (fun _ => ?_) (fun hn => absurd rfl hn)
    exact lv_goto (tgt := 3304) hx hb dL_law_1648 (by decide) (hfin ls hl)
theorem cz_frameTime {st : st_S} {x0 x1 : Int32} {k : Nat} (h : k = (s_ftime st x0 x1).1) (hz : nI k = 0) : k = 0 := by
  have hc : k ≤ 3 := by
    rw [h]
    unfold s_ftime
    (repeat' split) <;> exact Nat.le_of_ble_eq_true rfl
  have h1 : k = 0 ∨ k = 1 ∨ k = 2 ∨ k = 3 := by omega
  rcases h1 with e | e | e | e <;> subst e <;> first | rfl | exact absurd hz (by decide)
theorem la_frameTime (C0 : lw_X p l s m meth c b L xs D cT cL cD ac) {i B cells slots : Nat} {st : st_S} (hi : i + 6 ≤ L) (hL : L ≤ 3072) (hB : B + 401 < 2 ^ 24) (hc : cells + 3 ≤ 603072) (hs : slots + 18 ≤ 7186538) (kk : lw_G p l e s m below meth c b D cT cL cD ac 3304 i (B + 401) (cells + 3) (slots + 18) (s_ftime st (xs (i + 1)) (xs (i + 2))).2.2) : lw_G p l e s m below meth c b D cT cL cD ac 1651 i B cells slots st := by
  intro d0 H locs ls adC adM o1 o2 v1 v2 Z I A J B1 hd0 hV hr hm hk hl
  have hx := C0.1
  have hb := C0.2.1
  have hX : va_X b L xs (s.setDrawn d0) (s.setDrawn d0).heap := C0.2.2.2.2.2.2.2.2.2.1
  have hbl : b < s.heap.size := C0.2.2.2.2.2.2.2.2.2.2.1
  refine lv_aload_n hx hb dL_law_1651 rfl (lv_at hl 4 rfl) ?_
  refine lv_aload_n hx hb dL_law_1652 rfl (lv_at hl 5 rfl) ?_
  refine lv_iload hx hb dL_law_1653 (lv_at hl 0 rfl) ?_
  refine lv_iconst (v := nI 1) hx hb dL_law_1655 (by decide) ?_
  refine lv_iadd hx hb dL_law_1656 ?_
  rw [nI_add]
  refine va_sld (L := L) hx hb hX hbl (show ¬ s.heap.size ≤ b from Nat.not_le_of_lt hbl) hV.2.2.2 (vp_in_nI (by omega) (by omega)) dL_law_1657 ?_
  rw [nI_clamp (by omega)]
  refine lv_aload_n hx hb dL_law_1658 rfl (lv_at hl 5 rfl) ?_
  refine lv_iload hx hb dL_law_1659 (lv_at hl 0 rfl) ?_
  refine lv_iconst (v := nI 2) hx hb dL_law_1661 (by decide) ?_
  refine lv_iadd hx hb dL_law_1662 ?_
  rw [nI_add]
  refine va_sld (L := L) hx hb hX hbl (show ¬ s.heap.size ≤ b from Nat.not_le_of_lt hbl) hV.2.2.2 (vp_in_nI (by omega) (by omega)) dL_law_1663 ?_
  rw [nI_clamp (by omega)]
  refine lv_aload_n hx hb dL_law_1664 rfl (lv_at hl 2 rfl) ?_
  refine lw_wcall (as := [.int (xs (i + 1)), .int (xs (i + 2))]) (na := 2) (rest := []) C0 hV (wr_frameTime C0.2.2.2.2.2.2.2.2.1 (hc_frameTime hB hk hr) hV.1.1) ⟨by decide, by decide, by decide +kernel⟩ (ab_in 1651 (by decide +kernel) rfl) (ab_in 1649 (by decide +kernel) rfl) (ab_in 1650 (by decide +kernel) rfl) (ab_in 95 (by decide +kernel) rfl) dL_law_1665 rfl rfl hl.1 (Nat.le_of_ble_eq_true rfl) (Nat.le_of_ble_eq_true rfl) (Nat.le_of_ble_eq_true rfl) hc hs (fun k r Z1 I1 A1 ad1 v3 H1 locs1 hK hv3 had hV1 => ?_)
  obtain ⟨hk1, hk2, hr1⟩ := hK
  rw [lb_C had] at hl
  refine lv_istore (lv' := (6, .int (nI k)) :: LB b ad1 adM o1 o2 i) hx hb dL_law_1668 hl (by decide) rfl (fun ls hl => ?_)
  refine lv_aload_n hx hb dL_law_1670 rfl (lv_at hl 4 rfl) ?_
  refine lv_aload_n hx hb dL_law_1671 rfl (lv_at hl 6 rfl) ?_
  refine lv_iload hx hb dL_law_1672 (lv_at hl 1 rfl) ?_
  refine lv_iconst (v := nI 1) hx hb dL_law_1674 (by decide) ?_
  refine lv_iadd hx hb dL_law_1675 ?_
  rw [nI_add]
  refine va_sld (L := L) hx hb hX hbl (show ¬ s.heap.size ≤ b from Nat.not_le_of_lt hbl) hV1.2.2.2 (vp_in_nI (by omega) (by omega)) dL_law_1676 ?_
  rw [nI_clamp (by omega)]
  refine lv_aload_n hx hb dL_law_1677 rfl (lv_at hl 6 rfl) ?_
  refine lv_iload hx hb dL_law_1678 (lv_at hl 1 rfl) ?_
  refine lv_iconst (v := nI 2) hx hb dL_law_1680 (by decide) ?_
  refine lv_iadd hx hb dL_law_1681 ?_
  rw [nI_add]
  refine va_sld (L := L) hx hb hX hbl (show ¬ s.heap.size ≤ b from Nat.not_le_of_lt hbl) hV1.2.2.2 (vp_in_nI (by omega) (by omega)) dL_law_1682 ?_
  rw [nI_clamp (by omega)]
  refine lw_mcall (as := [.int (xs (i + 1)), .int (xs (i + 2))]) (rest := []) C0 hV1 (hm_frameTime hB hk hm) okX12_frameTime rfl (ab_in 2449 (by decide +kernel) rfl) (ab_in 2450 (by decide +kernel) rfl) (ab_in 2451 (by decide +kernel) rfl) dL_law_1683 rfl (fun v hv => by simp only [List.mem_cons, List.not_mem_nil, or_false] at hv; rcases hv with h | h <;> subst h <;> exact trivial) rfl hl.1 (Nat.le_of_ble_eq_true rfl) (Nat.le_of_ble_eq_true rfl) (by omega) (by omega) (fun _ _ _ _ z => z.2) (fun r2 sh1 J2 B2 ad2 H2 locs2 hp had2 hV2 => ?_)
  obtain ⟨rfl, x, rfl, hm1, hm5, hmx⟩ := hp
  have hV2 := hV2 rfl
  rw [lb_M had2] at hl
  refine lv_istore (lv' := (7, .int x) :: (6, .int (nI k)) :: LB b ad1 ad2 o1 o2 i) hx hb dL_law_1686 hl (by decide) rfl (fun ls hl => ?_)
  refine lv_aload_n hx hb dL_law_1688 rfl (lv_at hl 5 rfl) ?_
  refine lw_mcall (as := []) (rest := []) C0 hV2 (ctX12_thrown (K := fun r3 J3 B3 => r3 = J2 0 5 ∧ J2 = J3 ∧ B2 = B3) ⟨rfl, rfl, rfl⟩) okX12_thrown rfl (ab_in 2052 (by decide +kernel) rfl) (ab_in 2053 (by decide +kernel) rfl) (ab_in 2054 (by decide +kernel) rfl) dL_law_1689 rfl (fun v hv => absurd hv List.not_mem_nil) rfl hl.1 (Nat.le_of_ble_eq_true rfl) (Nat.le_of_ble_eq_true rfl) (by omega) (by omega) (fun _ _ _ _ z => z.2) (fun r4 sh1 J3 B3 ad3 H3 locs3 hp had3 hV3 => ?_)
  obtain ⟨rfl, y, rfl, rfl, rfl, rfl⟩ := hp
  have hV3 := hV3 rfl
  rw [lb_M had3] at hl
  refine lv_iload hx hb dL_law_1692 (lv_at hl 1 rfl) ?_
  refine lv_icmp_eq (tgt := 1699) hx hb dL_law_1694 (by decide) (fun _ => ?_) (fun hn => absurd (hm5.trans (by rw [hk1])) hn)
  have hfin := fun ls (hl : lv_has ls 8 ((7, .int x) :: (6, .int (nI k)) :: LB b ad1 ad3 o1 o2 i)) => kk d0 H3 locs3 ls ad1 ad3 o1 o2 v3 v2 Z1 I1 A1 J2 B2 hd0 hV3 hr1 hm1 (ik_frameTime hB hk hm) (lv_sub hl [2, 3, 4, 5, 6, 7] rfl)
  refine lv_iload hx hb dL_law_1699 (lv_at hl 1 rfl) ?_
  refine lv_if_ne (tgt := 1716) hx hb dL_law_1701 (by decide) (fun _ => ?_) (fun hz => ?_)
  · refine lv_goto (tgt := 3304) hx hb dL_law_1716 (by decide) (hfin ls hl)
  · have hk0 : k = 0 := by
      exact cz_frameTime hk1 hz
    refine lv_aload_n hx hb dL_law_1704 rfl (lv_at hl 4 rfl) ?_
    refine lv_iconst (v := 0) hx hb dL_law_1705 (by decide) ?_
    refine va_lald (i := 0) hx hb (va_K.moved (u := s) (U := s.setDrawn d0) (Vm.Alike.refl s.vm) C0.2.2.2.2.2.2.1) hV3.1.2.2.2.1 0 3 rfl rfl (by unfold vp_in; decide) dL_law_1706 ?_
    refine lv_iload hx hb dL_law_1707 (lv_at hl 0 rfl) ?_
    refine lv_i2l (v := x.toInt64) hx hb dL_law_1709 rfl ?_
    refine W.lcmp hx hb dL_law_1710 ?_
    rw [show (v3 (0 : Int32).toNatClampNeg) = x.toInt64 by rw [sb_cl0, hv3 hk0, hk2 hk0, hmx (hk1.symm.trans hk0)], lg_same]
    refine lv_if_eq (tgt := 1716) hx hb dL_law_1711 (by decide) (fun _ => ?_) (fun hn => absurd rfl hn)
    exact lv_goto (tgt := 3304) hx hb dL_law_1716 (by decide) (hfin ls hl)
theorem la_victim (C0 : lw_X p l s m meth c b L xs D cT cL cD ac) {i B cells slots : Nat} {st : st_S} (hi : i + 6 ≤ L) (hL : L ≤ 3072) (hB : B + 401 < 2 ^ 24) (hc : cells + 0 ≤ 603072) (hs : slots + 0 ≤ 7186538) (kk : lw_G p l e s m below meth c b D cT cL cD ac 3304 i (B + 401) (cells + 0) (slots + 0) (s_victim st).2.2) : lw_G p l e s m below meth c b D cT cL cD ac 1719 i B cells slots st := by
  intro d0 H locs ls adC adM o1 o2 v1 v2 Z I A J B1 hd0 hV hr hm hk hl
  have hx := C0.1
  have hb := C0.2.1
  have hX : va_X b L xs (s.setDrawn d0) (s.setDrawn d0).heap := C0.2.2.2.2.2.2.2.2.2.1
  have hbl : b < s.heap.size := C0.2.2.2.2.2.2.2.2.2.2.1
  refine lv_aload_n hx hb dL_law_1719 rfl (lv_at hl 4 rfl) ?_
  refine lw_ccall (rest := []) C0 hV (hc_victim hB hk hr) okX11_victim rfl (ab_in 990 (by decide +kernel) rfl) (ab_in 991 (by decide +kernel) rfl) (ab_in 992 (by decide +kernel) rfl) dL_law_1720 rfl hl.1 (Nat.le_of_ble_eq_true rfl) (Nat.le_of_ble_eq_true rfl) hc hs (fun _ _ _ _ z => by obtain ⟨_, _, j, hj, _⟩ := z; exact nomatch hj) (fun r1 sh1 I1 A1 ad1 H1 locs1 hp had hV1 => ?_)
  obtain ⟨Z1, rfl, r, rfl, hk1, hk2, hr1⟩ := hp
  have hV1 := hV1 Z1 rfl
  rw [lb_C had] at hl
  refine lv_aload_n hx hb dL_law_1723 rfl (lv_at hl 3 rfl) ?_
  refine lw_mcall (as := []) (rest := [.int r]) C0 hV1 (hm_victim hB hk hm) okX12_victim rfl (ab_in 2453 (by decide +kernel) rfl) (ab_in 2454 (by decide +kernel) rfl) (ab_in 2455 (by decide +kernel) rfl) dL_law_1724 rfl (fun v hv => absurd hv List.not_mem_nil) rfl hl.1 (Nat.le_of_ble_eq_true rfl) (Nat.le_of_ble_eq_true rfl) (by omega) (by omega) (fun _ _ _ _ z => z.2) (fun r2 sh1 J2 B2 ad2 H2 locs2 hp had2 hV2 => ?_)
  obtain ⟨rfl, x, rfl, hm1, hm5, hmx⟩ := hp
  have hV2 := hV2 rfl
  rw [lb_M had2] at hl
  exact lv_icmp_eq (tgt := 3304) hx hb dL_law_1727 (by decide) (fun _ => kk d0 H2 locs2 ls ad1 ad2 o1 o2 v1 v2 Z1 I1 A1 J2 B2 hd0 hV2 hr1 hm1 (ik_victim hB hk hm) hl) (fun hn => absurd ((hk2 rfl).trans (hmx hk1.symm).symm) hn)
theorem cz_residentPages {st : st_S} {x0 : Int32} {k : Nat} (h : k = (s_res st x0).1) (hz : nI k = 0) : k = 0 := by
  have hc : k ≤ 3 := by
    rw [h]
    unfold s_res
    (repeat' split) <;> exact Nat.le_of_ble_eq_true rfl
  have h1 : k = 0 ∨ k = 1 ∨ k = 2 ∨ k = 3 := by omega
  rcases h1 with e | e | e | e <;> subst e <;> first | rfl | exact absurd hz (by decide)
theorem la_residentPages (C0 : lw_X p l s m meth c b L xs D cT cL cD ac) {i B cells slots : Nat} {st : st_S} (hi : i + 6 ≤ L) (hL : L ≤ 3072) (hB : B + 401 < 2 ^ 24) (hc : cells + 1 ≤ 603072) (hs : slots + 6 ≤ 7186538) (kk : lw_G p l e s m below meth c b D cT cL cD ac 3304 i (B + 401) (cells + 1) (slots + 6) (s_res st (xs (i + 1))).2.2) : lw_G p l e s m below meth c b D cT cL cD ac 1732 i B cells slots st := by
  intro d0 H locs ls adC adM o1 o2 v1 v2 Z I A J B1 hd0 hV hr hm hk hl
  have hx := C0.1
  have hb := C0.2.1
  have hX : va_X b L xs (s.setDrawn d0) (s.setDrawn d0).heap := C0.2.2.2.2.2.2.2.2.2.1
  have hbl : b < s.heap.size := C0.2.2.2.2.2.2.2.2.2.2.1
  refine lv_aload_n hx hb dL_law_1732 rfl (lv_at hl 4 rfl) ?_
  refine lv_aload_n hx hb dL_law_1733 rfl (lv_at hl 5 rfl) ?_
  refine lv_iload hx hb dL_law_1734 (lv_at hl 0 rfl) ?_
  refine lv_iconst (v := nI 1) hx hb dL_law_1736 (by decide) ?_
  refine lv_iadd hx hb dL_law_1737 ?_
  rw [nI_add]
  refine va_sld (L := L) hx hb hX hbl (show ¬ s.heap.size ≤ b from Nat.not_le_of_lt hbl) hV.2.2.2 (vp_in_nI (by omega) (by omega)) dL_law_1738 ?_
  rw [nI_clamp (by omega)]
  refine lv_aload_n hx hb dL_law_1739 rfl (lv_at hl 2 rfl) ?_
  refine lw_wcall (as := [.int (xs (i + 1))]) (na := 1) (rest := []) C0 hV (wr_residentPages C0.2.2.2.2.2.2.2.2.1 (hc_residentPages hB hk hr) hV.1.1) ⟨by decide, by decide, by decide +kernel⟩ (ab_in 1661 (by decide +kernel) rfl) (ab_in 1659 (by decide +kernel) rfl) (ab_in 1660 (by decide +kernel) rfl) (ab_in 95 (by decide +kernel) rfl) dL_law_1740 rfl rfl hl.1 (Nat.le_of_ble_eq_true rfl) (Nat.le_of_ble_eq_true rfl) (Nat.le_of_ble_eq_true rfl) hc hs (fun k r Z1 I1 A1 ad1 v3 H1 locs1 hK hv3 had hV1 => ?_)
  obtain ⟨hk1, hk2, hr1⟩ := hK
  rw [lb_C had] at hl
  refine lv_istore (lv' := (6, .int (nI k)) :: LB b ad1 adM o1 o2 i) hx hb dL_law_1743 hl (by decide) rfl (fun ls hl => ?_)
  refine lv_aload_n hx hb dL_law_1745 rfl (lv_at hl 4 rfl) ?_
  refine lv_aload_n hx hb dL_law_1746 rfl (lv_at hl 6 rfl) ?_
  refine lv_iload hx hb dL_law_1747 (lv_at hl 1 rfl) ?_
  refine lv_iconst (v := nI 1) hx hb dL_law_1749 (by decide) ?_
  refine lv_iadd hx hb dL_law_1750 ?_
  rw [nI_add]
  refine va_sld (L := L) hx hb hX hbl (show ¬ s.heap.size ≤ b from Nat.not_le_of_lt hbl) hV1.2.2.2 (vp_in_nI (by omega) (by omega)) dL_law_1751 ?_
  rw [nI_clamp (by omega)]
  refine lw_mcall (as := [.int (xs (i + 1))]) (rest := []) C0 hV1 (hm_residentPages hB hk hm) okX12_residentPages rfl (ab_in 2457 (by decide +kernel) rfl) (ab_in 2458 (by decide +kernel) rfl) (ab_in 2459 (by decide +kernel) rfl) dL_law_1752 rfl (fun v hv => by rw [List.mem_singleton.mp hv]; exact trivial) rfl hl.1 (Nat.le_of_ble_eq_true rfl) (Nat.le_of_ble_eq_true rfl) (by omega) (by omega) (fun _ _ _ _ z => z.2) (fun r2 sh1 J2 B2 ad2 H2 locs2 hp had2 hV2 => ?_)
  obtain ⟨rfl, x, rfl, hm1, hm5, hmx⟩ := hp
  have hV2 := hV2 rfl
  rw [lb_M had2] at hl
  refine lv_istore (lv' := (7, .int x) :: (6, .int (nI k)) :: LB b ad1 ad2 o1 o2 i) hx hb dL_law_1755 hl (by decide) rfl (fun ls hl => ?_)
  refine lv_aload_n hx hb dL_law_1757 rfl (lv_at hl 5 rfl) ?_
  refine lw_mcall (as := []) (rest := []) C0 hV2 (ctX12_thrown (K := fun r3 J3 B3 => r3 = J2 0 5 ∧ J2 = J3 ∧ B2 = B3) ⟨rfl, rfl, rfl⟩) okX12_thrown rfl (ab_in 2052 (by decide +kernel) rfl) (ab_in 2053 (by decide +kernel) rfl) (ab_in 2054 (by decide +kernel) rfl) dL_law_1758 rfl (fun v hv => absurd hv List.not_mem_nil) rfl hl.1 (Nat.le_of_ble_eq_true rfl) (Nat.le_of_ble_eq_true rfl) (by omega) (by omega) (fun _ _ _ _ z => z.2) (fun r4 sh1 J3 B3 ad3 H3 locs3 hp had3 hV3 => ?_)
  obtain ⟨rfl, y, rfl, rfl, rfl, rfl⟩ := hp
  have hV3 := hV3 rfl
  rw [lb_M had3] at hl
  refine lv_iload hx hb dL_law_1761 (lv_at hl 1 rfl) ?_
  refine lv_icmp_eq (tgt := 1768) hx hb dL_law_1763 (by decide) (fun _ => ?_) (fun hn => absurd (hm5.trans (by rw [hk1])) hn)
  have hfin := fun ls (hl : lv_has ls 8 ((7, .int x) :: (6, .int (nI k)) :: LB b ad1 ad3 o1 o2 i)) => kk d0 H3 locs3 ls ad1 ad3 o1 o2 v3 v2 Z1 I1 A1 J2 B2 hd0 hV3 hr1 hm1 (ik_residentPages hB hk hm) (lv_sub hl [2, 3, 4, 5, 6, 7] rfl)
  refine lv_iload hx hb dL_law_1768 (lv_at hl 1 rfl) ?_
  refine lv_if_ne (tgt := 1785) hx hb dL_law_1770 (by decide) (fun _ => ?_) (fun hz => ?_)
  · refine lv_goto (tgt := 3304) hx hb dL_law_1785 (by decide) (hfin ls hl)
  · have hk0 : k = 0 := by
      exact cz_residentPages hk1 hz
    refine lv_aload_n hx hb dL_law_1773 rfl (lv_at hl 4 rfl) ?_
    refine lv_iconst (v := 0) hx hb dL_law_1774 (by decide) ?_
    refine va_lald (i := 0) hx hb (va_K.moved (u := s) (U := s.setDrawn d0) (Vm.Alike.refl s.vm) C0.2.2.2.2.2.2.1) hV3.1.2.2.2.1 0 3 rfl rfl (by unfold vp_in; decide) dL_law_1775 ?_
    refine lv_iload hx hb dL_law_1776 (lv_at hl 0 rfl) ?_
    refine lv_i2l (v := x.toInt64) hx hb dL_law_1778 rfl ?_
    refine W.lcmp hx hb dL_law_1779 ?_
    rw [show (v3 (0 : Int32).toNatClampNeg) = x.toInt64 by rw [sb_cl0, hv3 hk0, hk2 hk0, hmx (hk1.symm.trans hk0)], lg_same]
    refine lv_if_eq (tgt := 1785) hx hb dL_law_1780 (by decide) (fun _ => ?_) (fun hn => absurd rfl hn)
    exact lv_goto (tgt := 3304) hx hb dL_law_1785 (by decide) (hfin ls hl)
theorem cz_dirtyPages {st : st_S} {x0 : Int32} {k : Nat} (h : k = (s_dir st x0).1) (hz : nI k = 0) : k = 0 := by
  have hc : k ≤ 3 := by
    rw [h]
    unfold s_dir
    (repeat' split) <;> exact Nat.le_of_ble_eq_true rfl
  have h1 : k = 0 ∨ k = 1 ∨ k = 2 ∨ k = 3 := by omega
  rcases h1 with e | e | e | e <;> subst e <;> first | rfl | exact absurd hz (by decide)
theorem la_dirtyPages (C0 : lw_X p l s m meth c b L xs D cT cL cD ac) {i B cells slots : Nat} {st : st_S} (hi : i + 6 ≤ L) (hL : L ≤ 3072) (hB : B + 401 < 2 ^ 24) (hc : cells + 1 ≤ 603072) (hs : slots + 6 ≤ 7186538) (kk : lw_G p l e s m below meth c b D cT cL cD ac 3304 i (B + 401) (cells + 1) (slots + 6) (s_dir st (xs (i + 1))).2.2) : lw_G p l e s m below meth c b D cT cL cD ac 1788 i B cells slots st := by
  intro d0 H locs ls adC adM o1 o2 v1 v2 Z I A J B1 hd0 hV hr hm hk hl
  have hx := C0.1
  have hb := C0.2.1
  have hX : va_X b L xs (s.setDrawn d0) (s.setDrawn d0).heap := C0.2.2.2.2.2.2.2.2.2.1
  have hbl : b < s.heap.size := C0.2.2.2.2.2.2.2.2.2.2.1
  refine lv_aload_n hx hb dL_law_1788 rfl (lv_at hl 4 rfl) ?_
  refine lv_aload_n hx hb dL_law_1789 rfl (lv_at hl 5 rfl) ?_
  refine lv_iload hx hb dL_law_1790 (lv_at hl 0 rfl) ?_
  refine lv_iconst (v := nI 1) hx hb dL_law_1792 (by decide) ?_
  refine lv_iadd hx hb dL_law_1793 ?_
  rw [nI_add]
  refine va_sld (L := L) hx hb hX hbl (show ¬ s.heap.size ≤ b from Nat.not_le_of_lt hbl) hV.2.2.2 (vp_in_nI (by omega) (by omega)) dL_law_1794 ?_
  rw [nI_clamp (by omega)]
  refine lv_aload_n hx hb dL_law_1795 rfl (lv_at hl 2 rfl) ?_
  refine lw_wcall (as := [.int (xs (i + 1))]) (na := 1) (rest := []) C0 hV (wr_dirtyPages C0.2.2.2.2.2.2.2.2.1 (hc_dirtyPages hB hk hr) hV.1.1) ⟨by decide, by decide, by decide +kernel⟩ (ab_in 1673 (by decide +kernel) rfl) (ab_in 1671 (by decide +kernel) rfl) (ab_in 1672 (by decide +kernel) rfl) (ab_in 95 (by decide +kernel) rfl) dL_law_1796 rfl rfl hl.1 (Nat.le_of_ble_eq_true rfl) (Nat.le_of_ble_eq_true rfl) (Nat.le_of_ble_eq_true rfl) hc hs (fun k r Z1 I1 A1 ad1 v3 H1 locs1 hK hv3 had hV1 => ?_)
  obtain ⟨hk1, hk2, hr1⟩ := hK
  rw [lb_C had] at hl
  refine lv_istore (lv' := (6, .int (nI k)) :: LB b ad1 adM o1 o2 i) hx hb dL_law_1799 hl (by decide) rfl (fun ls hl => ?_)
  refine lv_aload_n hx hb dL_law_1801 rfl (lv_at hl 4 rfl) ?_
  refine lv_aload_n hx hb dL_law_1802 rfl (lv_at hl 6 rfl) ?_
  refine lv_iload hx hb dL_law_1803 (lv_at hl 1 rfl) ?_
  refine lv_iconst (v := nI 1) hx hb dL_law_1805 (by decide) ?_
  refine lv_iadd hx hb dL_law_1806 ?_
  rw [nI_add]
  refine va_sld (L := L) hx hb hX hbl (show ¬ s.heap.size ≤ b from Nat.not_le_of_lt hbl) hV1.2.2.2 (vp_in_nI (by omega) (by omega)) dL_law_1807 ?_
  rw [nI_clamp (by omega)]
  refine lw_mcall (as := [.int (xs (i + 1))]) (rest := []) C0 hV1 (hm_dirtyPages hB hk hm) okX12_dirtyPages rfl (ab_in 2465 (by decide +kernel) rfl) (ab_in 2466 (by decide +kernel) rfl) (ab_in 2467 (by decide +kernel) rfl) dL_law_1808 rfl (fun v hv => by rw [List.mem_singleton.mp hv]; exact trivial) rfl hl.1 (Nat.le_of_ble_eq_true rfl) (Nat.le_of_ble_eq_true rfl) (by omega) (by omega) (fun _ _ _ _ z => z.2) (fun r2 sh1 J2 B2 ad2 H2 locs2 hp had2 hV2 => ?_)
  obtain ⟨rfl, x, rfl, hm1, hm5, hmx⟩ := hp
  have hV2 := hV2 rfl
  rw [lb_M had2] at hl
  refine lv_istore (lv' := (7, .int x) :: (6, .int (nI k)) :: LB b ad1 ad2 o1 o2 i) hx hb dL_law_1811 hl (by decide) rfl (fun ls hl => ?_)
  refine lv_aload_n hx hb dL_law_1813 rfl (lv_at hl 5 rfl) ?_
  refine lw_mcall (as := []) (rest := []) C0 hV2 (ctX12_thrown (K := fun r3 J3 B3 => r3 = J2 0 5 ∧ J2 = J3 ∧ B2 = B3) ⟨rfl, rfl, rfl⟩) okX12_thrown rfl (ab_in 2052 (by decide +kernel) rfl) (ab_in 2053 (by decide +kernel) rfl) (ab_in 2054 (by decide +kernel) rfl) dL_law_1814 rfl (fun v hv => absurd hv List.not_mem_nil) rfl hl.1 (Nat.le_of_ble_eq_true rfl) (Nat.le_of_ble_eq_true rfl) (by omega) (by omega) (fun _ _ _ _ z => z.2) (fun r4 sh1 J3 B3 ad3 H3 locs3 hp had3 hV3 => ?_)
  obtain ⟨rfl, y, rfl, rfl, rfl, rfl⟩ := hp
  have hV3 := hV3 rfl
  rw [lb_M had3] at hl
  refine lv_iload hx hb dL_law_1817 (lv_at hl 1 rfl) ?_
  refine lv_icmp_eq (tgt := 1824) hx hb dL_law_1819 (by decide) (fun _ => ?_) (fun hn => absurd (hm5.trans (by rw [hk1])) hn)
  have hfin := fun ls (hl : lv_has ls 8 ((7, .int x) :: (6, .int (nI k)) :: LB b ad1 ad3 o1 o2 i)) => kk d0 H3 locs3 ls ad1 ad3 o1 o2 v3 v2 Z1 I1 A1 J2 B2 hd0 hV3 hr1 hm1 (ik_dirtyPages hB hk hm) (lv_sub hl [2, 3, 4, 5, 6, 7] rfl)
  refine lv_iload hx hb dL_law_1824 (lv_at hl 1 rfl) ?_
  refine lv_if_ne (tgt := 1841) hx hb dL_law_1826 (by decide) (fun _ => ?_) (fun hz => ?_)
  · refine lv_goto (tgt := 3304) hx hb dL_law_1841 (by decide) (hfin ls hl)
  · have hk0 : k = 0 := by
      exact cz_dirtyPages hk1 hz
    refine lv_aload_n hx hb dL_law_1829 rfl (lv_at hl 4 rfl) ?_
    refine lv_iconst (v := 0) hx hb dL_law_1830 (by decide) ?_
    refine va_lald (i := 0) hx hb (va_K.moved (u := s) (U := s.setDrawn d0) (Vm.Alike.refl s.vm) C0.2.2.2.2.2.2.1) hV3.1.2.2.2.1 0 3 rfl rfl (by unfold vp_in; decide) dL_law_1831 ?_
    refine lv_iload hx hb dL_law_1832 (lv_at hl 0 rfl) ?_
    refine lv_i2l (v := x.toInt64) hx hb dL_law_1834 rfl ?_
    refine W.lcmp hx hb dL_law_1835 ?_
    rw [show (v3 (0 : Int32).toNatClampNeg) = x.toInt64 by rw [sb_cl0, hv3 hk0, hk2 hk0, hmx (hk1.symm.trans hk0)], lg_same]
    refine lv_if_eq (tgt := 1841) hx hb dL_law_1836 (by decide) (fun _ => ?_) (fun hn => absurd rfl hn)
    exact lv_goto (tgt := 3304) hx hb dL_law_1841 (by decide) (hfin ls hl)
theorem cz_slotUse {st : st_S} {x0 : Int32} {k : Nat} (h : k = (s_use st x0).1) (hz : nI k = 0) : k = 0 := by
  have hc : k ≤ 3 := by
    rw [h]
    unfold s_use
    (repeat' split) <;> exact Nat.le_of_ble_eq_true rfl
  have h1 : k = 0 ∨ k = 1 ∨ k = 2 ∨ k = 3 := by omega
  rcases h1 with e | e | e | e <;> subst e <;> first | rfl | exact absurd hz (by decide)
theorem la_slotUse (C0 : lw_X p l s m meth c b L xs D cT cL cD ac) {i B cells slots : Nat} {st : st_S} (hi : i + 6 ≤ L) (hL : L ≤ 3072) (hB : B + 401 < 2 ^ 24) (hc : cells + 1 ≤ 603072) (hs : slots + 6 ≤ 7186538) (kk : lw_G p l e s m below meth c b D cT cL cD ac 3304 i (B + 401) (cells + 1) (slots + 6) (s_use st (xs (i + 1))).2.2) : lw_G p l e s m below meth c b D cT cL cD ac 1844 i B cells slots st := by
  intro d0 H locs ls adC adM o1 o2 v1 v2 Z I A J B1 hd0 hV hr hm hk hl
  have hx := C0.1
  have hb := C0.2.1
  have hX : va_X b L xs (s.setDrawn d0) (s.setDrawn d0).heap := C0.2.2.2.2.2.2.2.2.2.1
  have hbl : b < s.heap.size := C0.2.2.2.2.2.2.2.2.2.2.1
  refine lv_aload_n hx hb dL_law_1844 rfl (lv_at hl 4 rfl) ?_
  refine lv_aload_n hx hb dL_law_1845 rfl (lv_at hl 5 rfl) ?_
  refine lv_iload hx hb dL_law_1846 (lv_at hl 0 rfl) ?_
  refine lv_iconst (v := nI 1) hx hb dL_law_1848 (by decide) ?_
  refine lv_iadd hx hb dL_law_1849 ?_
  rw [nI_add]
  refine va_sld (L := L) hx hb hX hbl (show ¬ s.heap.size ≤ b from Nat.not_le_of_lt hbl) hV.2.2.2 (vp_in_nI (by omega) (by omega)) dL_law_1850 ?_
  rw [nI_clamp (by omega)]
  refine lv_aload_n hx hb dL_law_1851 rfl (lv_at hl 2 rfl) ?_
  refine lw_wcall (as := [.int (xs (i + 1))]) (na := 1) (rest := []) C0 hV (wr_slotUse C0.2.2.2.2.2.2.2.2.1 (hc_slotUse hB hk hr) hV.1.1) ⟨by decide, by decide, by decide +kernel⟩ (ab_in 1680 (by decide +kernel) rfl) (ab_in 1678 (by decide +kernel) rfl) (ab_in 1679 (by decide +kernel) rfl) (ab_in 95 (by decide +kernel) rfl) dL_law_1852 rfl rfl hl.1 (Nat.le_of_ble_eq_true rfl) (Nat.le_of_ble_eq_true rfl) (Nat.le_of_ble_eq_true rfl) hc hs (fun k r Z1 I1 A1 ad1 v3 H1 locs1 hK hv3 had hV1 => ?_)
  obtain ⟨hk1, hk2, hr1⟩ := hK
  rw [lb_C had] at hl
  refine lv_istore (lv' := (6, .int (nI k)) :: LB b ad1 adM o1 o2 i) hx hb dL_law_1855 hl (by decide) rfl (fun ls hl => ?_)
  refine lv_aload_n hx hb dL_law_1857 rfl (lv_at hl 4 rfl) ?_
  refine lv_aload_n hx hb dL_law_1858 rfl (lv_at hl 6 rfl) ?_
  refine lv_iload hx hb dL_law_1859 (lv_at hl 1 rfl) ?_
  refine lv_iconst (v := nI 1) hx hb dL_law_1861 (by decide) ?_
  refine lv_iadd hx hb dL_law_1862 ?_
  rw [nI_add]
  refine va_sld (L := L) hx hb hX hbl (show ¬ s.heap.size ≤ b from Nat.not_le_of_lt hbl) hV1.2.2.2 (vp_in_nI (by omega) (by omega)) dL_law_1863 ?_
  rw [nI_clamp (by omega)]
  refine lw_mcall (as := [.int (xs (i + 1))]) (rest := []) C0 hV1 (hm_slotUse hB hk hm) okX12_slotUse rfl (ab_in 2469 (by decide +kernel) rfl) (ab_in 2470 (by decide +kernel) rfl) (ab_in 2471 (by decide +kernel) rfl) dL_law_1864 rfl (fun v hv => by rw [List.mem_singleton.mp hv]; exact trivial) rfl hl.1 (Nat.le_of_ble_eq_true rfl) (Nat.le_of_ble_eq_true rfl) (by omega) (by omega) (fun _ _ _ _ z => z.2) (fun r2 sh1 J2 B2 ad2 H2 locs2 hp had2 hV2 => ?_)
  obtain ⟨rfl, x, rfl, hm1, hm5, hmx⟩ := hp
  have hV2 := hV2 rfl
  rw [lb_M had2] at hl
  refine lv_istore (lv' := (7, .int x) :: (6, .int (nI k)) :: LB b ad1 ad2 o1 o2 i) hx hb dL_law_1867 hl (by decide) rfl (fun ls hl => ?_)
  refine lv_aload_n hx hb dL_law_1869 rfl (lv_at hl 5 rfl) ?_
  refine lw_mcall (as := []) (rest := []) C0 hV2 (ctX12_thrown (K := fun r3 J3 B3 => r3 = J2 0 5 ∧ J2 = J3 ∧ B2 = B3) ⟨rfl, rfl, rfl⟩) okX12_thrown rfl (ab_in 2052 (by decide +kernel) rfl) (ab_in 2053 (by decide +kernel) rfl) (ab_in 2054 (by decide +kernel) rfl) dL_law_1870 rfl (fun v hv => absurd hv List.not_mem_nil) rfl hl.1 (Nat.le_of_ble_eq_true rfl) (Nat.le_of_ble_eq_true rfl) (by omega) (by omega) (fun _ _ _ _ z => z.2) (fun r4 sh1 J3 B3 ad3 H3 locs3 hp had3 hV3 => ?_)
  obtain ⟨rfl, y, rfl, rfl, rfl, rfl⟩ := hp
  have hV3 := hV3 rfl
  rw [lb_M had3] at hl
  refine lv_iload hx hb dL_law_1873 (lv_at hl 1 rfl) ?_
  refine lv_icmp_eq (tgt := 1880) hx hb dL_law_1875 (by decide) (fun _ => ?_) (fun hn => absurd (hm5.trans (by rw [hk1])) hn)
  have hfin := fun ls (hl : lv_has ls 8 ((7, .int x) :: (6, .int (nI k)) :: LB b ad1 ad3 o1 o2 i)) => kk d0 H3 locs3 ls ad1 ad3 o1 o2 v3 v2 Z1 I1 A1 J2 B2 hd0 hV3 hr1 hm1 (ik_slotUse hB hk hm) (lv_sub hl [2, 3, 4, 5, 6, 7] rfl)
  refine lv_iload hx hb dL_law_1880 (lv_at hl 1 rfl) ?_
  refine lv_if_ne (tgt := 1897) hx hb dL_law_1882 (by decide) (fun _ => ?_) (fun hz => ?_)
  · refine lv_goto (tgt := 3304) hx hb dL_law_1897 (by decide) (hfin ls hl)
  · have hk0 : k = 0 := by
      exact cz_slotUse hk1 hz
    refine lv_aload_n hx hb dL_law_1885 rfl (lv_at hl 4 rfl) ?_
    refine lv_iconst (v := 0) hx hb dL_law_1886 (by decide) ?_
    refine va_lald (i := 0) hx hb (va_K.moved (u := s) (U := s.setDrawn d0) (Vm.Alike.refl s.vm) C0.2.2.2.2.2.2.1) hV3.1.2.2.2.1 0 3 rfl rfl (by unfold vp_in; decide) dL_law_1887 ?_
    refine lv_iload hx hb dL_law_1888 (lv_at hl 0 rfl) ?_
    refine lv_i2l (v := x.toInt64) hx hb dL_law_1890 rfl ?_
    refine W.lcmp hx hb dL_law_1891 ?_
    rw [show (v3 (0 : Int32).toNatClampNeg) = x.toInt64 by rw [sb_cl0, hv3 hk0, hk2 hk0, hmx (hk1.symm.trans hk0)], lg_same]
    refine lv_if_eq (tgt := 1897) hx hb dL_law_1892 (by decide) (fun _ => ?_) (fun hn => absurd rfl hn)
    exact lv_goto (tgt := 3304) hx hb dL_law_1897 (by decide) (hfin ls hl)
theorem cz_slotOwner {st : st_S} {x0 : Int32} {k : Nat} (h : k = (s_slow st x0).1) (hz : nI k = 0) : k = 0 := by
  have hc : k ≤ 3 := by
    rw [h]
    unfold s_slow
    (repeat' split) <;> exact Nat.le_of_ble_eq_true rfl
  have h1 : k = 0 ∨ k = 1 ∨ k = 2 ∨ k = 3 := by omega
  rcases h1 with e | e | e | e <;> subst e <;> first | rfl | exact absurd hz (by decide)
theorem la_slotOwner (C0 : lw_X p l s m meth c b L xs D cT cL cD ac) {i B cells slots : Nat} {st : st_S} (hi : i + 6 ≤ L) (hL : L ≤ 3072) (hB : B + 401 < 2 ^ 24) (hc : cells + 1 ≤ 603072) (hs : slots + 6 ≤ 7186538) (kk : lw_G p l e s m below meth c b D cT cL cD ac 3304 i (B + 401) (cells + 1) (slots + 6) (s_slow st (xs (i + 1))).2.2) : lw_G p l e s m below meth c b D cT cL cD ac 1900 i B cells slots st := by
  intro d0 H locs ls adC adM o1 o2 v1 v2 Z I A J B1 hd0 hV hr hm hk hl
  have hx := C0.1
  have hb := C0.2.1
  have hX : va_X b L xs (s.setDrawn d0) (s.setDrawn d0).heap := C0.2.2.2.2.2.2.2.2.2.1
  have hbl : b < s.heap.size := C0.2.2.2.2.2.2.2.2.2.2.1
  refine lv_aload_n hx hb dL_law_1900 rfl (lv_at hl 4 rfl) ?_
  refine lv_aload_n hx hb dL_law_1901 rfl (lv_at hl 5 rfl) ?_
  refine lv_iload hx hb dL_law_1902 (lv_at hl 0 rfl) ?_
  refine lv_iconst (v := nI 1) hx hb dL_law_1904 (by decide) ?_
  refine lv_iadd hx hb dL_law_1905 ?_
  rw [nI_add]
  refine va_sld (L := L) hx hb hX hbl (show ¬ s.heap.size ≤ b from Nat.not_le_of_lt hbl) hV.2.2.2 (vp_in_nI (by omega) (by omega)) dL_law_1906 ?_
  rw [nI_clamp (by omega)]
  refine lv_aload_n hx hb dL_law_1907 rfl (lv_at hl 2 rfl) ?_
  refine lw_wcall (as := [.int (xs (i + 1))]) (na := 1) (rest := []) C0 hV (wr_slotOwner C0.2.2.2.2.2.2.2.2.1 (hc_slotOwner hB hk hr) hV.1.1) ⟨by decide, by decide, by decide +kernel⟩ (ab_in 1692 (by decide +kernel) rfl) (ab_in 1690 (by decide +kernel) rfl) (ab_in 1691 (by decide +kernel) rfl) (ab_in 95 (by decide +kernel) rfl) dL_law_1908 rfl rfl hl.1 (Nat.le_of_ble_eq_true rfl) (Nat.le_of_ble_eq_true rfl) (Nat.le_of_ble_eq_true rfl) hc hs (fun k r Z1 I1 A1 ad1 v3 H1 locs1 hK hv3 had hV1 => ?_)
  obtain ⟨hk1, hk2, hr1⟩ := hK
  rw [lb_C had] at hl
  refine lv_istore (lv' := (6, .int (nI k)) :: LB b ad1 adM o1 o2 i) hx hb dL_law_1911 hl (by decide) rfl (fun ls hl => ?_)
  refine lv_aload_n hx hb dL_law_1913 rfl (lv_at hl 4 rfl) ?_
  refine lv_aload_n hx hb dL_law_1914 rfl (lv_at hl 6 rfl) ?_
  refine lv_iload hx hb dL_law_1915 (lv_at hl 1 rfl) ?_
  refine lv_iconst (v := nI 1) hx hb dL_law_1917 (by decide) ?_
  refine lv_iadd hx hb dL_law_1918 ?_
  rw [nI_add]
  refine va_sld (L := L) hx hb hX hbl (show ¬ s.heap.size ≤ b from Nat.not_le_of_lt hbl) hV1.2.2.2 (vp_in_nI (by omega) (by omega)) dL_law_1919 ?_
  rw [nI_clamp (by omega)]
  refine lw_mcall (as := [.int (xs (i + 1))]) (rest := []) C0 hV1 (hm_slotOwner hB hk hm) okX12_slotOwner rfl (ab_in 2477 (by decide +kernel) rfl) (ab_in 2478 (by decide +kernel) rfl) (ab_in 2479 (by decide +kernel) rfl) dL_law_1920 rfl (fun v hv => by rw [List.mem_singleton.mp hv]; exact trivial) rfl hl.1 (Nat.le_of_ble_eq_true rfl) (Nat.le_of_ble_eq_true rfl) (by omega) (by omega) (fun _ _ _ _ z => z.2) (fun r2 sh1 J2 B2 ad2 H2 locs2 hp had2 hV2 => ?_)
  obtain ⟨rfl, x, rfl, hm1, hm5, hmx⟩ := hp
  have hV2 := hV2 rfl
  rw [lb_M had2] at hl
  refine lv_istore (lv' := (7, .int x) :: (6, .int (nI k)) :: LB b ad1 ad2 o1 o2 i) hx hb dL_law_1923 hl (by decide) rfl (fun ls hl => ?_)
  refine lv_aload_n hx hb dL_law_1925 rfl (lv_at hl 5 rfl) ?_
  refine lw_mcall (as := []) (rest := []) C0 hV2 (ctX12_thrown (K := fun r3 J3 B3 => r3 = J2 0 5 ∧ J2 = J3 ∧ B2 = B3) ⟨rfl, rfl, rfl⟩) okX12_thrown rfl (ab_in 2052 (by decide +kernel) rfl) (ab_in 2053 (by decide +kernel) rfl) (ab_in 2054 (by decide +kernel) rfl) dL_law_1926 rfl (fun v hv => absurd hv List.not_mem_nil) rfl hl.1 (Nat.le_of_ble_eq_true rfl) (Nat.le_of_ble_eq_true rfl) (by omega) (by omega) (fun _ _ _ _ z => z.2) (fun r4 sh1 J3 B3 ad3 H3 locs3 hp had3 hV3 => ?_)
  obtain ⟨rfl, y, rfl, rfl, rfl, rfl⟩ := hp
  have hV3 := hV3 rfl
  rw [lb_M had3] at hl
  refine lv_iload hx hb dL_law_1929 (lv_at hl 1 rfl) ?_
  refine lv_icmp_eq (tgt := 1936) hx hb dL_law_1931 (by decide) (fun _ => ?_) (fun hn => absurd (hm5.trans (by rw [hk1])) hn)
  have hfin := fun ls (hl : lv_has ls 8 ((7, .int x) :: (6, .int (nI k)) :: LB b ad1 ad3 o1 o2 i)) => kk d0 H3 locs3 ls ad1 ad3 o1 o2 v3 v2 Z1 I1 A1 J2 B2 hd0 hV3 hr1 hm1 (ik_slotOwner hB hk hm) (lv_sub hl [2, 3, 4, 5, 6, 7] rfl)
  refine lv_iload hx hb dL_law_1936 (lv_at hl 1 rfl) ?_
  refine lv_if_ne (tgt := 1953) hx hb dL_law_1938 (by decide) (fun _ => ?_) (fun hz => ?_)
  · refine lv_goto (tgt := 3304) hx hb dL_law_1953 (by decide) (hfin ls hl)
  · have hk0 : k = 0 := by
      exact cz_slotOwner hk1 hz
    refine lv_aload_n hx hb dL_law_1941 rfl (lv_at hl 4 rfl) ?_
    refine lv_iconst (v := 0) hx hb dL_law_1942 (by decide) ?_
    refine va_lald (i := 0) hx hb (va_K.moved (u := s) (U := s.setDrawn d0) (Vm.Alike.refl s.vm) C0.2.2.2.2.2.2.1) hV3.1.2.2.2.1 0 3 rfl rfl (by unfold vp_in; decide) dL_law_1943 ?_
    refine lv_iload hx hb dL_law_1944 (lv_at hl 0 rfl) ?_
    refine lv_i2l (v := x.toInt64) hx hb dL_law_1946 rfl ?_
    refine W.lcmp hx hb dL_law_1947 ?_
    rw [show (v3 (0 : Int32).toNatClampNeg) = x.toInt64 by rw [sb_cl0, hv3 hk0, hk2 hk0, hmx (hk1.symm.trans hk0)], lg_same]
    refine lv_if_eq (tgt := 1953) hx hb dL_law_1948 (by decide) (fun _ => ?_) (fun hn => absurd rfl hn)
    exact lv_goto (tgt := 3304) hx hb dL_law_1953 (by decide) (hfin ls hl)
end
