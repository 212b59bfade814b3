section
variable {p : Program} {l : Launch} {e : Env} {s : State} {m : MethodId} {below : List Frame} {meth : Method} {c : Code} {b L : Nat} {xs : Nat → Int32} {D : va_G} {cT : FieldType → ClassId} {cL cD : ClassId} {ac : Nat → Nat}
theorem cz_slotStamp {st : st_S} {x0 : Int32} {k : Nat} (h : k = (s_slst st x0).1) (hz : nI k = 0) : k = 0 := by
  have hc : k ≤ 3 := by
    rw [h]
    unfold s_slst
    (repeat' split) <;> exact Nat.le_of_ble_eq_true rfl
  have h1 : k = 0 ∨ k = 1 ∨ k = 2 ∨ k = 3 := by omega
  rcases h1 with e | e | e | e <;> subst e <;> first | rfl | exact absurd hz (by decide)
theorem la_slotStamp (C0 : lw_X p l s m meth c b L xs D cT cL cD ac) {i B cells slots : Nat} {st : st_S} (hi : i + 6 ≤ L) (hL : L ≤ 3072) (hB : B + 401 < 2 ^ 24) (hc : cells + 1 ≤ 603072) (hs : slots + 6 ≤ 7186538) (kk : lw_G p l e s m below meth c b D cT cL cD ac 3304 i (B + 401) (cells + 1) (slots + 6) (s_slst st (xs (i + 1))).2.2) : lw_G p l e s m below meth c b D cT cL cD ac 1956 i B cells slots st := by
  intro d0 H locs ls adC adM o1 o2 v1 v2 Z I A J B1 hd0 hV hr hm hk hl
  have hx := C0.1
  have hb := C0.2.1
  have hX : va_X b L xs (s.setDrawn d0) (s.setDrawn d0).heap := C0.2.2.2.2.2.2.2.2.2.1
  have hbl : b < s.heap.size := C0.2.2.2.2.2.2.2.2.2.2.1
  refine lv_aload_n hx hb dL_law_1956 rfl (lv_at hl 4 rfl) ?_
  refine lv_aload_n hx hb dL_law_1957 rfl (lv_at hl 5 rfl) ?_
  refine lv_iload hx hb dL_law_1958 (lv_at hl 0 rfl) ?_
  refine lv_iconst (v := nI 1) hx hb dL_law_1960 (by decide) ?_
  refine lv_iadd hx hb dL_law_1961 ?_
  rw [nI_add]
  refine va_sld (L := L) hx hb hX hbl (show ¬ s.heap.size ≤ b from Nat.not_le_of_lt hbl) hV.2.2.2 (vp_in_nI (by omega) (by omega)) dL_law_1962 ?_
  rw [nI_clamp (by omega)]
  refine lv_aload_n hx hb dL_law_1963 rfl (lv_at hl 2 rfl) ?_
  refine lw_wcall (as := [.int (xs (i + 1))]) (na := 1) (rest := []) C0 hV (wr_slotStamp C0.2.2.2.2.2.2.2.2.1 (hc_slotStamp hB hk hr) hV.1.1) ⟨by decide, by decide, by decide +kernel⟩ (ab_in 1699 (by decide +kernel) rfl) (ab_in 1697 (by decide +kernel) rfl) (ab_in 1698 (by decide +kernel) rfl) (ab_in 95 (by decide +kernel) rfl) dL_law_1964 rfl rfl hl.1 (Nat.le_of_ble_eq_true rfl) (Nat.le_of_ble_eq_true rfl) (Nat.le_of_ble_eq_true rfl) hc hs (fun k r Z1 I1 A1 ad1 v3 H1 locs1 hK hv3 had hV1 => ?_)
  obtain ⟨hk1, hk2, hr1⟩ := hK
  rw [lb_C had] at hl
  refine lv_istore (lv' := (6, .int (nI k)) :: LB b ad1 adM o1 o2 i) hx hb dL_law_1967 hl (by decide) rfl (fun ls hl => ?_)
  refine lv_aload_n hx hb dL_law_1969 rfl (lv_at hl 4 rfl) ?_
  refine lv_aload_n hx hb dL_law_1970 rfl (lv_at hl 6 rfl) ?_
  refine lv_iload hx hb dL_law_1971 (lv_at hl 1 rfl) ?_
  refine lv_iconst (v := nI 1) hx hb dL_law_1973 (by decide) ?_
  refine lv_iadd hx hb dL_law_1974 ?_
  rw [nI_add]
  refine va_sld (L := L) hx hb hX hbl (show ¬ s.heap.size ≤ b from Nat.not_le_of_lt hbl) hV1.2.2.2 (vp_in_nI (by omega) (by omega)) dL_law_1975 ?_
  rw [nI_clamp (by omega)]
  refine lw_mcall (as := [.int (xs (i + 1))]) (rest := []) C0 hV1 (hm_slotStamp hB hk hm) okX12_slotStamp rfl (ab_in 2481 (by decide +kernel) rfl) (ab_in 2482 (by decide +kernel) rfl) (ab_in 2483 (by decide +kernel) rfl) dL_law_1976 rfl (fun v hv => by rw [List.mem_singleton.mp hv]; exact trivial) rfl hl.1 (Nat.le_of_ble_eq_true rfl) (Nat.le_of_ble_eq_true rfl) (by omega) (by omega) (fun _ _ _ _ z => z.2) (fun r2 sh1 J2 B2 ad2 H2 locs2 hp had2 hV2 => ?_)
  obtain ⟨rfl, x, rfl, hm1, hm5, hmx⟩ := hp
  have hV2 := hV2 rfl
  rw [lb_M had2] at hl
  refine lv_istore (lv' := (7, .int x) :: (6, .int (nI k)) :: LB b ad1 ad2 o1 o2 i) hx hb dL_law_1979 hl (by decide) rfl (fun ls hl => ?_)
  refine lv_aload_n hx hb dL_law_1981 rfl (lv_at hl 5 rfl) ?_
  refine lw_mcall (as := []) (rest := []) C0 hV2 (ctX12_thrown (K := fun r3 J3 B3 => r3 = J2 0 5 ∧ J2 = J3 ∧ B2 = B3) ⟨rfl, rfl, rfl⟩) okX12_thrown rfl (ab_in 2052 (by decide +kernel) rfl) (ab_in 2053 (by decide +kernel) rfl) (ab_in 2054 (by decide +kernel) rfl) dL_law_1982 rfl (fun v hv => absurd hv List.not_mem_nil) rfl hl.1 (Nat.le_of_ble_eq_true rfl) (Nat.le_of_ble_eq_true rfl) (by omega) (by omega) (fun _ _ _ _ z => z.2) (fun r4 sh1 J3 B3 ad3 H3 locs3 hp had3 hV3 => ?_)
  obtain ⟨rfl, y, rfl, rfl, rfl, rfl⟩ := hp
  have hV3 := hV3 rfl
  rw [lb_M had3] at hl
  refine lv_iload hx hb dL_law_1985 (lv_at hl 1 rfl) ?_
  refine lv_icmp_eq (tgt := 1992) hx hb dL_law_1987 (by decide) (fun _ => ?_) (fun hn => absurd (hm5.trans (by rw [hk1])) hn)
  have hfin := fun ls (hl : lv_has ls 8 ((7, .int x) :: (6, .int (nI k)) :: LB b ad1 ad3 o1 o2 i)) => kk d0 H3 locs3 ls ad1 ad3 o1 o2 v3 v2 Z1 I1 A1 J2 B2 hd0 hV3 hr1 hm1 (ik_slotStamp hB hk hm) (lv_sub hl [2, 3, 4, 5, 6, 7] rfl)
  refine lv_iload hx hb dL_law_1992 (lv_at hl 1 rfl) ?_
  refine lv_if_ne (tgt := 2009) hx hb dL_law_1994 (by decide) (fun _ => ?_) (fun hz => ?_)
  · refine lv_goto (tgt := 3304) hx hb dL_law_2009 (by decide) (hfin ls hl)
  · have hk0 : k = 0 := by
      exact cz_slotStamp hk1 hz
    refine lv_aload_n hx hb dL_law_1997 rfl (lv_at hl 4 rfl) ?_
    refine lv_iconst (v := 0) hx hb dL_law_1998 (by decide) ?_
    refine va_lald (i := 0) hx hb (va_K.moved (u := s) (U := s.setDrawn d0) (Vm.Alike.refl s.vm) C0.2.2.2.2.2.2.1) hV3.1.2.2.2.1 0 3 rfl rfl (by unfold vp_in; decide) dL_law_1999 ?_
    refine lv_iload hx hb dL_law_2000 (lv_at hl 0 rfl) ?_
    refine lv_i2l (v := x.toInt64) hx hb dL_law_2002 rfl ?_
    refine W.lcmp hx hb dL_law_2003 ?_
    rw [show (v3 (0 : Int32).toNatClampNeg) = x.toInt64 by rw [sb_cl0, hv3 hk0, hk2 hk0, hmx (hk1.symm.trans hk0)], lg_same]
    refine lv_if_eq (tgt := 2009) hx hb dL_law_2004 (by decide) (fun _ => ?_) (fun hn => absurd rfl hn)
    exact lv_goto (tgt := 3304) hx hb dL_law_2009 (by decide) (hfin ls hl)
theorem cz_slotValue {st : st_S} {x0 : Int32} {k : Nat} (h : k = (s_slva st x0).1) (hz : nI k = 0) : k = 0 := by
  have hc : k ≤ 3 := by
    rw [h]
    unfold s_slva
    (repeat' split) <;> exact Nat.le_of_ble_eq_true rfl
  have h1 : k = 0 ∨ k = 1 ∨ k = 2 ∨ k = 3 := by omega
  rcases h1 with e | e | e | e <;> subst e <;> first | rfl | exact absurd hz (by decide)
theorem la_slotValue (C0 : lw_X p l s m meth c b L xs D cT cL cD ac) {i B cells slots : Nat} {st : st_S} (hi : i + 6 ≤ L) (hL : L ≤ 3072) (hB : B + 401 < 2 ^ 24) (hc : cells + 1 ≤ 603072) (hs : slots + 6 ≤ 7186538) (kk : lw_G p l e s m below meth c b D cT cL cD ac 3304 i (B + 401) (cells + 1) (slots + 6) (s_slva st (xs (i + 1))).2.2) : lw_G p l e s m below meth c b D cT cL cD ac 2012 i B cells slots st := by
  intro d0 H locs ls adC adM o1 o2 v1 v2 Z I A J B1 hd0 hV hr hm hk hl
  have hx := C0.1
  have hb := C0.2.1
  have hX : va_X b L xs (s.setDrawn d0) (s.setDrawn d0).heap := C0.2.2.2.2.2.2.2.2.2.1
  have hbl : b < s.heap.size := C0.2.2.2.2.2.2.2.2.2.2.1
  refine lv_aload_n hx hb dL_law_2012 rfl (lv_at hl 4 rfl) ?_
  refine lv_aload_n hx hb dL_law_2013 rfl (lv_at hl 5 rfl) ?_
  refine lv_iload hx hb dL_law_2014 (lv_at hl 0 rfl) ?_
  refine lv_iconst (v := nI 1) hx hb dL_law_2016 (by decide) ?_
  refine lv_iadd hx hb dL_law_2017 ?_
  rw [nI_add]
  refine va_sld (L := L) hx hb hX hbl (show ¬ s.heap.size ≤ b from Nat.not_le_of_lt hbl) hV.2.2.2 (vp_in_nI (by omega) (by omega)) dL_law_2018 ?_
  rw [nI_clamp (by omega)]
  refine lv_aload_n hx hb dL_law_2019 rfl (lv_at hl 2 rfl) ?_
  refine lw_wcall (as := [.int (xs (i + 1))]) (na := 1) (rest := []) C0 hV (wr_slotValue C0.2.2.2.2.2.2.2.2.1 (hc_slotValue hB hk hr) hV.1.1) ⟨by decide, by decide, by decide +kernel⟩ (ab_in 1706 (by decide +kernel) rfl) (ab_in 1704 (by decide +kernel) rfl) (ab_in 1705 (by decide +kernel) rfl) (ab_in 95 (by decide +kernel) rfl) dL_law_2020 rfl rfl hl.1 (Nat.le_of_ble_eq_true rfl) (Nat.le_of_ble_eq_true rfl) (Nat.le_of_ble_eq_true rfl) hc hs (fun k r Z1 I1 A1 ad1 v3 H1 locs1 hK hv3 had hV1 => ?_)
  obtain ⟨hk1, hk2, hr1⟩ := hK
  rw [lb_C had] at hl
  refine lv_istore (lv' := (6, .int (nI k)) :: LB b ad1 adM o1 o2 i) hx hb dL_law_2023 hl (by decide) rfl (fun ls hl => ?_)
  refine lv_aload_n hx hb dL_law_2025 rfl (lv_at hl 4 rfl) ?_
  refine lv_aload_n hx hb dL_law_2026 rfl (lv_at hl 6 rfl) ?_
  refine lv_iload hx hb dL_law_2027 (lv_at hl 1 rfl) ?_
  refine lv_iconst (v := nI 1) hx hb dL_law_2029 (by decide) ?_
  refine lv_iadd hx hb dL_law_2030 ?_
  rw [nI_add]
  refine va_sld (L := L) hx hb hX hbl (show ¬ s.heap.size ≤ b from Nat.not_le_of_lt hbl) hV1.2.2.2 (vp_in_nI (by omega) (by omega)) dL_law_2031 ?_
  rw [nI_clamp (by omega)]
  refine lw_mcall (as := [.int (xs (i + 1))]) (rest := []) C0 hV1 (hm_slotValue hB hk hm) okX12_slotValue rfl (ab_in 2485 (by decide +kernel) rfl) (ab_in 2486 (by decide +kernel) rfl) (ab_in 2487 (by decide +kernel) rfl) dL_law_2032 rfl (fun v hv => by rw [List.mem_singleton.mp hv]; exact trivial) rfl hl.1 (Nat.le_of_ble_eq_true rfl) (Nat.le_of_ble_eq_true rfl) (by omega) (by omega) (fun _ _ _ _ z => z.2) (fun r2 sh1 J2 B2 ad2 H2 locs2 hp had2 hV2 => ?_)
  obtain ⟨rfl, x, rfl, hm1, hm5, hmx⟩ := hp
  have hV2 := hV2 rfl
  rw [lb_M had2] at hl
  refine lv_istore (lv' := (7, .int x) :: (6, .int (nI k)) :: LB b ad1 ad2 o1 o2 i) hx hb dL_law_2035 hl (by decide) rfl (fun ls hl => ?_)
  refine lv_aload_n hx hb dL_law_2037 rfl (lv_at hl 5 rfl) ?_
  refine lw_mcall (as := []) (rest := []) C0 hV2 (ctX12_thrown (K := fun r3 J3 B3 => r3 = J2 0 5 ∧ J2 = J3 ∧ B2 = B3) ⟨rfl, rfl, rfl⟩) okX12_thrown rfl (ab_in 2052 (by decide +kernel) rfl) (ab_in 2053 (by decide +kernel) rfl) (ab_in 2054 (by decide +kernel) rfl) dL_law_2038 rfl (fun v hv => absurd hv List.not_mem_nil) rfl hl.1 (Nat.le_of_ble_eq_true rfl) (Nat.le_of_ble_eq_true rfl) (by omega) (by omega) (fun _ _ _ _ z => z.2) (fun r4 sh1 J3 B3 ad3 H3 locs3 hp had3 hV3 => ?_)
  obtain ⟨rfl, y, rfl, rfl, rfl, rfl⟩ := hp
  have hV3 := hV3 rfl
  rw [lb_M had3] at hl
  refine lv_iload hx hb dL_law_2041 (lv_at hl 1 rfl) ?_
  refine lv_icmp_eq (tgt := 2048) hx hb dL_law_2043 (by decide) (fun _ => ?_) (fun hn => absurd (hm5.trans (by rw [hk1])) hn)
  have hfin := fun ls (hl : lv_has ls 8 ((7, .int x) :: (6, .int (nI k)) :: LB b ad1 ad3 o1 o2 i)) => kk d0 H3 locs3 ls ad1 ad3 o1 o2 v3 v2 Z1 I1 A1 J2 B2 hd0 hV3 hr1 hm1 (ik_slotValue hB hk hm) (lv_sub hl [2, 3, 4, 5, 6, 7] rfl)
  refine lv_iload hx hb dL_law_2048 (lv_at hl 1 rfl) ?_
  refine lv_if_ne (tgt := 2065) hx hb dL_law_2050 (by decide) (fun _ => ?_) (fun hz => ?_)
  · refine lv_goto (tgt := 3304) hx hb dL_law_2065 (by decide) (hfin ls hl)
  · have hk0 : k = 0 := by
      exact cz_slotValue hk1 hz
    refine lv_aload_n hx hb dL_law_2053 rfl (lv_at hl 4 rfl) ?_
    refine lv_iconst (v := 0) hx hb dL_law_2054 (by decide) ?_
    refine va_lald (i := 0) hx hb (va_K.moved (u := s) (U := s.setDrawn d0) (Vm.Alike.refl s.vm) C0.2.2.2.2.2.2.1) hV3.1.2.2.2.1 0 3 rfl rfl (by unfold vp_in; decide) dL_law_2055 ?_
    refine lv_iload hx hb dL_law_2056 (lv_at hl 0 rfl) ?_
    refine lv_i2l (v := x.toInt64) hx hb dL_law_2058 rfl ?_
    refine W.lcmp hx hb dL_law_2059 ?_
    rw [show (v3 (0 : Int32).toNatClampNeg) = x.toInt64 by rw [sb_cl0, hv3 hk0, hk2 hk0, hmx (hk1.symm.trans hk0)], lg_same]
    refine lv_if_eq (tgt := 2065) hx hb dL_law_2060 (by decide) (fun _ => ?_) (fun hn => absurd rfl hn)
    exact lv_goto (tgt := 3304) hx hb dL_law_2065 (by decide) (hfin ls hl)
theorem la_nextSlot (C0 : lw_X p l s m meth c b L xs D cT cL cD ac) {i B cells slots : Nat} {st : st_S} (hi : i + 6 ≤ L) (hL : L ≤ 3072) (hB : B + 401 < 2 ^ 24) (hc : cells + 0 ≤ 603072) (hs : slots + 0 ≤ 7186538) (kk : lw_G p l e s m below meth c b D cT cL cD ac 3304 i (B + 401) (cells + 0) (slots + 0) (s_next st).2.2) : lw_G p l e s m below meth c b D cT cL cD ac 2068 i B cells slots st := by
  intro d0 H locs ls adC adM o1 o2 v1 v2 Z I A J B1 hd0 hV hr hm hk hl
  have hx := C0.1
  have hb := C0.2.1
  have hX : va_X b L xs (s.setDrawn d0) (s.setDrawn d0).heap := C0.2.2.2.2.2.2.2.2.2.1
  have hbl : b < s.heap.size := C0.2.2.2.2.2.2.2.2.2.2.1
  refine lv_aload_n hx hb dL_law_2068 rfl (lv_at hl 4 rfl) ?_
  refine lw_ccall (rest := []) C0 hV (hc_nextSlot hB hk hr) okX11_nextSlot rfl (ab_in 995 (by decide +kernel) rfl) (ab_in 996 (by decide +kernel) rfl) (ab_in 997 (by decide +kernel) rfl) dL_law_2069 rfl hl.1 (Nat.le_of_ble_eq_true rfl) (Nat.le_of_ble_eq_true rfl) hc hs (fun _ _ _ _ z => by obtain ⟨_, _, j, hj, _⟩ := z; exact nomatch hj) (fun r1 sh1 I1 A1 ad1 H1 locs1 hp had hV1 => ?_)
  obtain ⟨Z1, rfl, r, rfl, hk1, hk2, hr1⟩ := hp
  have hV1 := hV1 Z1 rfl
  rw [lb_C had] at hl
  refine lv_aload_n hx hb dL_law_2072 rfl (lv_at hl 3 rfl) ?_
  refine lw_mcall (as := []) (rest := [.int r]) C0 hV1 (hm_nextSlot hB hk hm) okX12_nextSlot rfl (ab_in 2489 (by decide +kernel) rfl) (ab_in 2490 (by decide +kernel) rfl) (ab_in 2491 (by decide +kernel) rfl) dL_law_2073 rfl (fun v hv => absurd hv List.not_mem_nil) rfl hl.1 (Nat.le_of_ble_eq_true rfl) (Nat.le_of_ble_eq_true rfl) (by omega) (by omega) (fun _ _ _ _ z => z.2) (fun r2 sh1 J2 B2 ad2 H2 locs2 hp had2 hV2 => ?_)
  obtain ⟨rfl, x, rfl, hm1, hm5, hmx⟩ := hp
  have hV2 := hV2 rfl
  rw [lb_M had2] at hl
  exact lv_icmp_eq (tgt := 3304) hx hb dL_law_2076 (by decide) (fun _ => kk d0 H2 locs2 ls ad1 ad2 o1 o2 v1 v2 Z1 I1 A1 J2 B2 hd0 hV2 hr1 hm1 (ik_nextSlot hB hk hm) hl) (fun hn => absurd ((hk2 rfl).trans (hmx hk1.symm).symm) hn)
theorem la_freeSlots (C0 : lw_X p l s m meth c b L xs D cT cL cD ac) {i B cells slots : Nat} {st : st_S} (hi : i + 6 ≤ L) (hL : L ≤ 3072) (hB : B + 401 < 2 ^ 24) (hc : cells + 0 ≤ 603072) (hs : slots + 0 ≤ 7186538) (kk : lw_G p l e s m below meth c b D cT cL cD ac 3304 i (B + 401) (cells + 0) (slots + 0) (s_free st).2.2) : lw_G p l e s m below meth c b D cT cL cD ac 2081 i B cells slots st := by
  intro d0 H locs ls adC adM o1 o2 v1 v2 Z I A J B1 hd0 hV hr hm hk hl
  have hx := C0.1
  have hb := C0.2.1
  have hX : va_X b L xs (s.setDrawn d0) (s.setDrawn d0).heap := C0.2.2.2.2.2.2.2.2.2.1
  have hbl : b < s.heap.size := C0.2.2.2.2.2.2.2.2.2.2.1
  refine lv_aload_n hx hb dL_law_2081 rfl (lv_at hl 4 rfl) ?_
  refine lw_ccall (rest := []) C0 hV (hc_freeSlots hB hk hr) okX11_freeSlots rfl (ab_in 1000 (by decide +kernel) rfl) (ab_in 1001 (by decide +kernel) rfl) (ab_in 1002 (by decide +kernel) rfl) dL_law_2082 rfl hl.1 (Nat.le_of_ble_eq_true rfl) (Nat.le_of_ble_eq_true rfl) hc hs (fun _ _ _ _ z => by obtain ⟨_, _, j, hj, _⟩ := z; exact nomatch hj) (fun r1 sh1 I1 A1 ad1 H1 locs1 hp had hV1 => ?_)
  obtain ⟨Z1, rfl, r, rfl, hk1, hk2, hr1⟩ := hp
  have hV1 := hV1 Z1 rfl
  rw [lb_C had] at hl
  refine lv_aload_n hx hb dL_law_2085 rfl (lv_at hl 3 rfl) ?_
  refine lw_mcall (as := []) (rest := [.int r]) C0 hV1 (hm_freeSlots hB hk hm) okX12_freeSlots rfl (ab_in 2493 (by decide +kernel) rfl) (ab_in 2494 (by decide +kernel) rfl) (ab_in 2495 (by decide +kernel) rfl) dL_law_2086 rfl (fun v hv => absurd hv List.not_mem_nil) rfl hl.1 (Nat.le_of_ble_eq_true rfl) (Nat.le_of_ble_eq_true rfl) (by omega) (by omega) (fun _ _ _ _ z => z.2) (fun r2 sh1 J2 B2 ad2 H2 locs2 hp had2 hV2 => ?_)
  obtain ⟨rfl, x, rfl, hm1, hm5, hmx⟩ := hp
  have hV2 := hV2 rfl
  rw [lb_M had2] at hl
  exact lv_icmp_eq (tgt := 3304) hx hb dL_law_2089 (by decide) (fun _ => kk d0 H2 locs2 ls ad1 ad2 o1 o2 v1 v2 Z1 I1 A1 J2 B2 hd0 hV2 hr1 hm1 (ik_freeSlots hB hk hm) hl) (fun hn => absurd ((hk2 rfl).trans (hmx hk1.symm).symm) hn)
theorem la_sharedSlots (C0 : lw_X p l s m meth c b L xs D cT cL cD ac) {i B cells slots : Nat} {st : st_S} (hi : i + 6 ≤ L) (hL : L ≤ 3072) (hB : B + 401 < 2 ^ 24) (hc : cells + 0 ≤ 603072) (hs : slots + 0 ≤ 7186538) (kk : lw_G p l e s m below meth c b D cT cL cD ac 3304 i (B + 401) (cells + 0) (slots + 0) (s_shared st).2.2) : lw_G p l e s m below meth c b D cT cL cD ac 2094 i B cells slots st := by
  intro d0 H locs ls adC adM o1 o2 v1 v2 Z I A J B1 hd0 hV hr hm hk hl
  have hx := C0.1
  have hb := C0.2.1
  have hX : va_X b L xs (s.setDrawn d0) (s.setDrawn d0).heap := C0.2.2.2.2.2.2.2.2.2.1
  have hbl : b < s.heap.size := C0.2.2.2.2.2.2.2.2.2.2.1
  refine lv_aload_n hx hb dL_law_2094 rfl (lv_at hl 4 rfl) ?_
  refine lw_ccall (rest := []) C0 hV (hc_sharedSlots hB hk hr) okX11_sharedSlots rfl (ab_in 1005 (by decide +kernel) rfl) (ab_in 1006 (by decide +kernel) rfl) (ab_in 1007 (by decide +kernel) rfl) dL_law_2095 rfl hl.1 (Nat.le_of_ble_eq_true rfl) (Nat.le_of_ble_eq_true rfl) hc hs (fun _ _ _ _ z => by obtain ⟨_, _, j, hj, _⟩ := z; exact nomatch hj) (fun r1 sh1 I1 A1 ad1 H1 locs1 hp had hV1 => ?_)
  obtain ⟨Z1, rfl, r, rfl, hk1, hk2, hr1⟩ := hp
  have hV1 := hV1 Z1 rfl
  rw [lb_C had] at hl
  refine lv_aload_n hx hb dL_law_2098 rfl (lv_at hl 3 rfl) ?_
  refine lw_mcall (as := []) (rest := [.int r]) C0 hV1 (hm_sharedSlots hB hk hm) okX12_sharedSlots rfl (ab_in 2497 (by decide +kernel) rfl) (ab_in 2498 (by decide +kernel) rfl) (ab_in 2499 (by decide +kernel) rfl) dL_law_2099 rfl (fun v hv => absurd hv List.not_mem_nil) rfl hl.1 (Nat.le_of_ble_eq_true rfl) (Nat.le_of_ble_eq_true rfl) (by omega) (by omega) (fun _ _ _ _ z => z.2) (fun r2 sh1 J2 B2 ad2 H2 locs2 hp had2 hV2 => ?_)
  obtain ⟨rfl, x, rfl, hm1, hm5, hmx⟩ := hp
  have hV2 := hV2 rfl
  rw [lb_M had2] at hl
  exact lv_icmp_eq (tgt := 3304) hx hb dL_law_2102 (by decide) (fun _ => kk d0 H2 locs2 ls ad1 ad2 o1 o2 v1 v2 Z1 I1 A1 J2 B2 hd0 hV2 hr1 hm1 (ik_sharedSlots hB hk hm) hl) (fun hn => absurd ((hk2 rfl).trans (hmx hk1.symm).symm) hn)
theorem la_longestRun (C0 : lw_X p l s m meth c b L xs D cT cL cD ac) {i B cells slots : Nat} {st : st_S} (hi : i + 6 ≤ L) (hL : L ≤ 3072) (hB : B + 401 < 2 ^ 24) (hc : cells + 0 ≤ 603072) (hs : slots + 0 ≤ 7186538) (kk : lw_G p l e s m below meth c b D cT cL cD ac 3304 i (B + 401) (cells + 0) (slots + 0) (s_run st).2.2) : lw_G p l e s m below meth c b D cT cL cD ac 2107 i B cells slots st := by
  intro d0 H locs ls adC adM o1 o2 v1 v2 Z I A J B1 hd0 hV hr hm hk hl
  have hx := C0.1
  have hb := C0.2.1
  have hX : va_X b L xs (s.setDrawn d0) (s.setDrawn d0).heap := C0.2.2.2.2.2.2.2.2.2.1
  have hbl : b < s.heap.size := C0.2.2.2.2.2.2.2.2.2.2.1
  refine lv_aload_n hx hb dL_law_2107 rfl (lv_at hl 4 rfl) ?_
  refine lw_ccall (rest := []) C0 hV (hc_longestRun hB hk hr) okX11_longestRun rfl (ab_in 1019 (by decide +kernel) rfl) (ab_in 1020 (by decide +kernel) rfl) (ab_in 1021 (by decide +kernel) rfl) dL_law_2108 rfl hl.1 (Nat.le_of_ble_eq_true rfl) (Nat.le_of_ble_eq_true rfl) hc hs (fun _ _ _ _ z => by obtain ⟨_, _, j, hj, _⟩ := z; exact nomatch hj) (fun r1 sh1 I1 A1 ad1 H1 locs1 hp had hV1 => ?_)
  obtain ⟨Z1, rfl, r, rfl, hk1, hk2, hr1⟩ := hp
  have hV1 := hV1 Z1 rfl
  rw [lb_C had] at hl
  refine lv_aload_n hx hb dL_law_2111 rfl (lv_at hl 3 rfl) ?_
  refine lw_mcall (as := []) (rest := [.int r]) C0 hV1 (hm_longestRun hB hk hm) okX12_longestRun rfl (ab_in 2504 (by decide +kernel) rfl) (ab_in 2505 (by decide +kernel) rfl) (ab_in 2506 (by decide +kernel) rfl) dL_law_2112 rfl (fun v hv => absurd hv List.not_mem_nil) rfl hl.1 (Nat.le_of_ble_eq_true rfl) (Nat.le_of_ble_eq_true rfl) (by omega) (by omega) (fun _ _ _ _ z => z.2) (fun r2 sh1 J2 B2 ad2 H2 locs2 hp had2 hV2 => ?_)
  obtain ⟨rfl, x, rfl, hm1, hm5, hmx⟩ := hp
  have hV2 := hV2 rfl
  rw [lb_M had2] at hl
  exact lv_icmp_eq (tgt := 3304) hx hb dL_law_2115 (by decide) (fun _ => kk d0 H2 locs2 ls ad1 ad2 o1 o2 v1 v2 Z1 I1 A1 J2 B2 hd0 hV2 hr1 hm1 (ik_longestRun hB hk hm) hl) (fun hn => absurd ((hk2 rfl).trans (hmx hk1.symm).symm) hn)
theorem cz_freeSlot {st : st_S} {x0 : Int32} {k : Nat} (h : k = (s_fsl st x0).1) (hz : nI k = 0) : k = 0 := by
  have hc : k ≤ 3 := by
    rw [h]
    unfold s_fsl
    (repeat' split) <;> exact Nat.le_of_ble_eq_true rfl
  have h1 : k = 0 ∨ k = 1 ∨ k = 2 ∨ k = 3 := by omega
  rcases h1 with e | e | e | e <;> subst e <;> first | rfl | exact absurd hz (by decide)
theorem la_freeSlot (C0 : lw_X p l s m meth c b L xs D cT cL cD ac) {i B cells slots : Nat} {st : st_S} (hi : i + 6 ≤ L) (hL : L ≤ 3072) (hB : B + 401 < 2 ^ 24) (hc : cells + 1 ≤ 603072) (hs : slots + 6 ≤ 7186538) (kk : lw_G p l e s m below meth c b D cT cL cD ac 3304 i (B + 401) (cells + 1) (slots + 6) (s_fsl st (xs (i + 1))).2.2) : lw_G p l e s m below meth c b D cT cL cD ac 2120 i B cells slots st := by
  intro d0 H locs ls adC adM o1 o2 v1 v2 Z I A J B1 hd0 hV hr hm hk hl
  have hx := C0.1
  have hb := C0.2.1
  have hX : va_X b L xs (s.setDrawn d0) (s.setDrawn d0).heap := C0.2.2.2.2.2.2.2.2.2.1
  have hbl : b < s.heap.size := C0.2.2.2.2.2.2.2.2.2.2.1
  refine lv_aload_n hx hb dL_law_2120 rfl (lv_at hl 4 rfl) ?_
  refine lv_aload_n hx hb dL_law_2121 rfl (lv_at hl 5 rfl) ?_
  refine lv_iload hx hb dL_law_2122 (lv_at hl 0 rfl) ?_
  refine lv_iconst (v := nI 1) hx hb dL_law_2124 (by decide) ?_
  refine lv_iadd hx hb dL_law_2125 ?_
  rw [nI_add]
  refine va_sld (L := L) hx hb hX hbl (show ¬ s.heap.size ≤ b from Nat.not_le_of_lt hbl) hV.2.2.2 (vp_in_nI (by omega) (by omega)) dL_law_2126 ?_
  rw [nI_clamp (by omega)]
  refine lv_aload_n hx hb dL_law_2127 rfl (lv_at hl 2 rfl) ?_
  refine lw_wcall (as := [.int (xs (i + 1))]) (na := 1) (rest := []) C0 hV (wr_freeSlot C0.2.2.2.2.2.2.2.2.1 (hc_freeSlot hB hk hr) hV.1.1) ⟨by decide, by decide, by decide +kernel⟩ (ab_in 1713 (by decide +kernel) rfl) (ab_in 1711 (by decide +kernel) rfl) (ab_in 1712 (by decide +kernel) rfl) (ab_in 95 (by decide +kernel) rfl) dL_law_2128 rfl rfl hl.1 (Nat.le_of_ble_eq_true rfl) (Nat.le_of_ble_eq_true rfl) (Nat.le_of_ble_eq_true rfl) hc hs (fun k r Z1 I1 A1 ad1 v3 H1 locs1 hK hv3 had hV1 => ?_)
  obtain ⟨hk1, hk2, hr1⟩ := hK
  rw [lb_C had] at hl
  refine lv_istore (lv' := (6, .int (nI k)) :: LB b ad1 adM o1 o2 i) hx hb dL_law_2131 hl (by decide) rfl (fun ls hl => ?_)
  refine lv_aload_n hx hb dL_law_2133 rfl (lv_at hl 4 rfl) ?_
  refine lv_aload_n hx hb dL_law_2134 rfl (lv_at hl 6 rfl) ?_
  refine lv_iload hx hb dL_law_2135 (lv_at hl 1 rfl) ?_
  refine lv_iconst (v := nI 1) hx hb dL_law_2137 (by decide) ?_
  refine lv_iadd hx hb dL_law_2138 ?_
  rw [nI_add]
  refine va_sld (L := L) hx hb hX hbl (show ¬ s.heap.size ≤ b from Nat.not_le_of_lt hbl) hV1.2.2.2 (vp_in_nI (by omega) (by omega)) dL_law_2139 ?_
  rw [nI_clamp (by omega)]
  refine lw_mcall (as := [.int (xs (i + 1))]) (rest := []) C0 hV1 (hm_freeSlot hB hk hm) okX12_freeSlot rfl (ab_in 2509 (by decide +kernel) rfl) (ab_in 2510 (by decide +kernel) rfl) (ab_in 2511 (by decide +kernel) rfl) dL_law_2140 rfl (fun v hv => by rw [List.mem_singleton.mp hv]; exact trivial) rfl hl.1 (Nat.le_of_ble_eq_true rfl) (Nat.le_of_ble_eq_true rfl) (by omega) (by omega) (fun _ _ _ _ z => z.2) (fun r2 sh1 J2 B2 ad2 H2 locs2 hp had2 hV2 => ?_)
  obtain ⟨rfl, x, rfl, hm1, hm5, hmx⟩ := hp
  have hV2 := hV2 rfl
  rw [lb_M had2] at hl
  refine lv_istore (lv' := (7, .int x) :: (6, .int (nI k)) :: LB b ad1 ad2 o1 o2 i) hx hb dL_law_2143 hl (by decide) rfl (fun ls hl => ?_)
  refine lv_aload_n hx hb dL_law_2145 rfl (lv_at hl 5 rfl) ?_
  refine lw_mcall (as := []) (rest := []) C0 hV2 (ctX12_thrown (K := fun r3 J3 B3 => r3 = J2 0 5 ∧ J2 = J3 ∧ B2 = B3) ⟨rfl, rfl, rfl⟩) okX12_thrown rfl (ab_in 2052 (by decide +kernel) rfl) (ab_in 2053 (by decide +kernel) rfl) (ab_in 2054 (by decide +kernel) rfl) dL_law_2146 rfl (fun v hv => absurd hv List.not_mem_nil) rfl hl.1 (Nat.le_of_ble_eq_true rfl) (Nat.le_of_ble_eq_true rfl) (by omega) (by omega) (fun _ _ _ _ z => z.2) (fun r4 sh1 J3 B3 ad3 H3 locs3 hp had3 hV3 => ?_)
  obtain ⟨rfl, y, rfl, rfl, rfl, rfl⟩ := hp
  have hV3 := hV3 rfl
  rw [lb_M had3] at hl
  refine lv_iload hx hb dL_law_2149 (lv_at hl 1 rfl) ?_
  refine lv_icmp_eq (tgt := 2156) hx hb dL_law_2151 (by decide) (fun _ => ?_) (fun hn => absurd (hm5.trans (by rw [hk1])) hn)
  have hfin := fun ls (hl : lv_has ls 8 ((7, .int x) :: (6, .int (nI k)) :: LB b ad1 ad3 o1 o2 i)) => kk d0 H3 locs3 ls ad1 ad3 o1 o2 v3 v2 Z1 I1 A1 J2 B2 hd0 hV3 hr1 hm1 (ik_freeSlot hB hk hm) (lv_sub hl [2, 3, 4, 5, 6, 7] rfl)
  refine lv_iload hx hb dL_law_2156 (lv_at hl 1 rfl) ?_
  refine lv_if_ne (tgt := 2173) hx hb dL_law_2158 (by decide) (fun _ => ?_) (fun hz => ?_)
  · refine lv_goto (tgt := 3304) hx hb dL_law_2173 (by decide) (hfin ls hl)
  · have hk0 : k = 0 := by
      exact cz_freeSlot hk1 hz
    refine lv_aload_n hx hb dL_law_2161 rfl (lv_at hl 4 rfl) ?_
    refine lv_iconst (v := 0) hx hb dL_law_2162 (by decide) ?_
    refine va_lald (i := 0) hx hb (va_K.moved (u := s) (U := s.setDrawn d0) (Vm.Alike.refl s.vm) C0.2.2.2.2.2.2.1) hV3.1.2.2.2.1 0 3 rfl rfl (by unfold vp_in; decide) dL_law_2163 ?_
    refine lv_iload hx hb dL_law_2164 (lv_at hl 0 rfl) ?_
    refine lv_i2l (v := x.toInt64) hx hb dL_law_2166 rfl ?_
    refine W.lcmp hx hb dL_law_2167 ?_
    rw [show (v3 (0 : Int32).toNatClampNeg) = x.toInt64 by rw [sb_cl0, hv3 hk0, hk2 hk0, hmx (hk1.symm.trans hk0)], lg_same]
    refine lv_if_eq (tgt := 2173) hx hb dL_law_2168 (by decide) (fun _ => ?_) (fun hn => absurd rfl hn)
    exact lv_goto (tgt := 3304) hx hb dL_law_2173 (by decide) (hfin ls hl)
theorem cz_twins {st : st_S} {x0 : Int32} {k : Nat} (h : k = (s_twins st x0).1) (hz : nI k = 0) : k = 0 := by
  have hc : k ≤ 3 := by
    rw [h]
    unfold s_twins
    (repeat' split) <;> exact Nat.le_of_ble_eq_true rfl
  have h1 : k = 0 ∨ k = 1 ∨ k = 2 ∨ k = 3 := by omega
  rcases h1 with e | e | e | e <;> subst e <;> first | rfl | exact absurd hz (by decide)
theorem la_twins (C0 : lw_X p l s m meth c b L xs D cT cL cD ac) {i B cells slots : Nat} {st : st_S} (hi : i + 6 ≤ L) (hL : L ≤ 3072) (hB : B + 401 < 2 ^ 24) (hc : cells + 2 ≤ 603072) (hs : slots + 12 ≤ 7186538) (kk : lw_G p l e s m below meth c b D cT cL cD ac 3304 i (B + 401) (cells + 2) (slots + 12) (s_twins st (xs (i + 1))).2.2) : lw_G p l e s m below meth c b D cT cL cD ac 2176 i B cells slots st := by
  intro d0 H locs ls adC adM o1 o2 v1 v2 Z I A J B1 hd0 hV hr hm hk hl
  have hx := C0.1
  have hb := C0.2.1
  have hX : va_X b L xs (s.setDrawn d0) (s.setDrawn d0).heap := C0.2.2.2.2.2.2.2.2.2.1
  have hbl : b < s.heap.size := C0.2.2.2.2.2.2.2.2.2.2.1
  refine lv_aload_n hx hb dL_law_2176 rfl (lv_at hl 4 rfl) ?_
  refine lv_aload_n hx hb dL_law_2177 rfl (lv_at hl 5 rfl) ?_
  refine lv_iload hx hb dL_law_2178 (lv_at hl 0 rfl) ?_
  refine lv_iconst (v := nI 1) hx hb dL_law_2180 (by decide) ?_
  refine lv_iadd hx hb dL_law_2181 ?_
  rw [nI_add]
  refine va_sld (L := L) hx hb hX hbl (show ¬ s.heap.size ≤ b from Nat.not_le_of_lt hbl) hV.2.2.2 (vp_in_nI (by omega) (by omega)) dL_law_2182 ?_
  rw [nI_clamp (by omega)]
  refine lv_aload_n hx hb dL_law_2183 rfl (lv_at hl 2 rfl) ?_
  refine lw_wcall (as := [.int (xs (i + 1))]) (na := 1) (rest := []) C0 hV (wr_twins C0.2.2.2.2.2.2.2.2.1 (hc_twins hB hk hr) hV.1.1) ⟨by decide, by decide, by decide +kernel⟩ (ab_in 1724 (by decide +kernel) rfl) (ab_in 1722 (by decide +kernel) rfl) (ab_in 1723 (by decide +kernel) rfl) (ab_in 95 (by decide +kernel) rfl) dL_law_2184 rfl rfl hl.1 (Nat.le_of_ble_eq_true rfl) (Nat.le_of_ble_eq_true rfl) (Nat.le_of_ble_eq_true rfl) hc hs (fun k r Z1 I1 A1 ad1 v3 H1 locs1 hK hv3 had hV1 => ?_)
  obtain ⟨hk1, hk2, hr1⟩ := hK
  rw [lb_C had] at hl
  refine lv_istore (lv' := (6, .int (nI k)) :: LB b ad1 adM o1 o2 i) hx hb dL_law_2187 hl (by decide) rfl (fun ls hl => ?_)
  refine lv_aload_n hx hb dL_law_2189 rfl (lv_at hl 4 rfl) ?_
  refine lv_aload_n hx hb dL_law_2190 rfl (lv_at hl 6 rfl) ?_
  refine lv_iload hx hb dL_law_2191 (lv_at hl 1 rfl) ?_
  refine lv_iconst (v := nI 1) hx hb dL_law_2193 (by decide) ?_
  refine lv_iadd hx hb dL_law_2194 ?_
  rw [nI_add]
  refine va_sld (L := L) hx hb hX hbl (show ¬ s.heap.size ≤ b from Nat.not_le_of_lt hbl) hV1.2.2.2 (vp_in_nI (by omega) (by omega)) dL_law_2195 ?_
  rw [nI_clamp (by omega)]
  refine lw_mcall (as := [.int (xs (i + 1))]) (rest := []) C0 hV1 (hm_twins hB hk hm) okX12_twins rfl (ab_in 2513 (by decide +kernel) rfl) (ab_in 2514 (by decide +kernel) rfl) (ab_in 2515 (by decide +kernel) rfl) dL_law_2196 rfl (fun v hv => by rw [List.mem_singleton.mp hv]; exact trivial) rfl hl.1 (Nat.le_of_ble_eq_true rfl) (Nat.le_of_ble_eq_true rfl) (by omega) (by omega) (fun _ _ _ _ z => z.2) (fun r2 sh1 J2 B2 ad2 H2 locs2 hp had2 hV2 => ?_)
  obtain ⟨rfl, x, rfl, hm1, hm5, hmx⟩ := hp
  have hV2 := hV2 rfl
  rw [lb_M had2] at hl
  refine lv_istore (lv' := (7, .int x) :: (6, .int (nI k)) :: LB b ad1 ad2 o1 o2 i) hx hb dL_law_2199 hl (by decide) rfl (fun ls hl => ?_)
  refine lv_aload_n hx hb dL_law_2201 rfl (lv_at hl 5 rfl) ?_
  refine lw_mcall (as := []) (rest := []) C0 hV2 (ctX12_thrown (K := fun r3 J3 B3 => r3 = J2 0 5 ∧ J2 = J3 ∧ B2 = B3) ⟨rfl, rfl, rfl⟩) okX12_thrown rfl (ab_in 2052 (by decide +kernel) rfl) (ab_in 2053 (by decide +kernel) rfl) (ab_in 2054 (by decide +kernel) rfl) dL_law_2202 rfl (fun v hv => absurd hv List.not_mem_nil) rfl hl.1 (Nat.le_of_ble_eq_true rfl) (Nat.le_of_ble_eq_true rfl) (by omega) (by omega) (fun _ _ _ _ z => z.2) (fun r4 sh1 J3 B3 ad3 H3 locs3 hp had3 hV3 => ?_)
  obtain ⟨rfl, y, rfl, rfl, rfl, rfl⟩ := hp
  have hV3 := hV3 rfl
  rw [lb_M had3] at hl
  refine lv_iload hx hb dL_law_2205 (lv_at hl 1 rfl) ?_
  refine lv_icmp_eq (tgt := 2212) hx hb dL_law_2207 (by decide) (fun _ => ?_) (fun hn => absurd (hm5.trans (by rw [hk1])) hn)
  have hfin := fun ls (hl : lv_has ls 8 ((7, .int x) :: (6, .int (nI k)) :: LB b ad1 ad3 o1 o2 i)) => kk d0 H3 locs3 ls ad1 ad3 o1 o2 v3 v2 Z1 I1 A1 J2 B2 hd0 hV3 hr1 hm1 (ik_twins hB hk hm) (lv_sub hl [2, 3, 4, 5, 6, 7] rfl)
  refine lv_iload hx hb dL_law_2212 (lv_at hl 1 rfl) ?_
  refine lv_if_ne (tgt := 2229) hx hb dL_law_2214 (by decide) (fun _ => ?_) (fun hz => ?_)
  · refine lv_goto (tgt := 3304) hx hb dL_law_2229 (by decide) (hfin ls hl)
  · have hk0 : k = 0 := by
      exact cz_twins hk1 hz
    refine lv_aload_n hx hb dL_law_2217 rfl (lv_at hl 4 rfl) ?_
    refine lv_iconst (v := 0) hx hb dL_law_2218 (by decide) ?_
    refine va_lald (i := 0) hx hb (va_K.moved (u := s) (U := s.setDrawn d0) (Vm.Alike.refl s.vm) C0.2.2.2.2.2.2.1) hV3.1.2.2.2.1 0 3 rfl rfl (by unfold vp_in; decide) dL_law_2219 ?_
    refine lv_iload hx hb dL_law_2220 (lv_at hl 0 rfl) ?_
    refine lv_i2l (v := x.toInt64) hx hb dL_law_2222 rfl ?_
    refine W.lcmp hx hb dL_law_2223 ?_
    rw [show (v3 (0 : Int32).toNatClampNeg) = x.toInt64 by rw [sb_cl0, hv3 hk0, hk2 hk0, hmx (hk1.symm.trans hk0)], lg_same]
    refine lv_if_eq (tgt := 2229) hx hb dL_law_2224 (by decide) (fun _ => ?_) (fun hn => absurd rfl hn)
    exact lv_goto (tgt := 3304) hx hb dL_law_2229 (by decide) (hfin ls hl)
theorem la_barrierSet (C0 : lw_X p l s m meth c b L xs D cT cL cD ac) {i B cells slots : Nat} {st : st_S} (hi : i + 6 ≤ L) (hL : L ≤ 3072) (hB : B + 401 < 2 ^ 24) (hc : cells + 0 ≤ 603072) (hs : slots + 0 ≤ 7186538) (kk : lw_G p l e s m below meth c b D cT cL cD ac 3304 i (B + 401) (cells + 0) (slots + 0) (s_bset st).2.2) : lw_G p l e s m below meth c b D cT cL cD ac 2232 i B cells slots st := by
  intro d0 H locs ls adC adM o1 o2 v1 v2 Z I A J B1 hd0 hV hr hm hk hl
  have hx := C0.1
  have hb := C0.2.1
  have hX : va_X b L xs (s.setDrawn d0) (s.setDrawn d0).heap := C0.2.2.2.2.2.2.2.2.2.1
  have hbl : b < s.heap.size := C0.2.2.2.2.2.2.2.2.2.2.1
  refine lv_aload_n hx hb dL_law_2232 rfl (lv_at hl 4 rfl) ?_
  refine lw_ccall (rest := []) C0 hV (hc_barrierSet hB hk hr) okX11_barrierSet rfl (ab_in 1030 (by decide +kernel) rfl) (ab_in 1031 (by decide +kernel) rfl) (ab_in 1032 (by decide +kernel) rfl) dL_law_2233 rfl hl.1 (Nat.le_of_ble_eq_true rfl) (Nat.le_of_ble_eq_true rfl) hc hs (fun _ _ _ _ z => by obtain ⟨_, _, j, hj, _⟩ := z; exact nomatch hj) (fun r1 sh1 I1 A1 ad1 H1 locs1 hp had hV1 => ?_)
  obtain ⟨Z1, rfl, r, rfl, hk1, hk2, hr1⟩ := hp
  have hV1 := hV1 Z1 rfl
  rw [lb_C had] at hl
  refine lv_aload_n hx hb dL_law_2236 rfl (lv_at hl 3 rfl) ?_
  refine lw_mcall (as := []) (rest := [.int r]) C0 hV1 (hm_barrierSet hB hk hm) okX12_barrierSet rfl (ab_in 2517 (by decide +kernel) rfl) (ab_in 2518 (by decide +kernel) rfl) (ab_in 2519 (by decide +kernel) rfl) dL_law_2237 rfl (fun v hv => absurd hv List.not_mem_nil) rfl hl.1 (Nat.le_of_ble_eq_true rfl) (Nat.le_of_ble_eq_true rfl) (by omega) (by omega) (fun _ _ _ _ z => z.2) (fun r2 sh1 J2 B2 ad2 H2 locs2 hp had2 hV2 => ?_)
  obtain ⟨rfl, x, rfl, hm1, hm5, hmx⟩ := hp
  have hV2 := hV2 rfl
  rw [lb_M had2] at hl
  exact lv_icmp_eq (tgt := 3304) hx hb dL_law_2240 (by decide) (fun _ => kk d0 H2 locs2 ls ad1 ad2 o1 o2 v1 v2 Z1 I1 A1 J2 B2 hd0 hV2 hr1 hm1 (ik_barrierSet hB hk hm) hl) (fun hn => absurd ((hk2 rfl).trans (hmx hk1.symm).symm) hn)
theorem la_pendingPages (C0 : lw_X p l s m meth c b L xs D cT cL cD ac) {i B cells slots : Nat} {st : st_S} (hi : i + 6 ≤ L) (hL : L ≤ 3072) (hB : B + 401 < 2 ^ 24) (hc : cells + 0 ≤ 603072) (hs : slots + 0 ≤ 7186538) (kk : lw_G p l e s m below meth c b D cT cL cD ac 3304 i (B + 401) (cells + 0) (slots + 0) (s_pend st).2.2) : lw_G p l e s m below meth c b D cT cL cD ac 2245 i B cells slots st := by
  intro d0 H locs ls adC adM o1 o2 v1 v2 Z I A J B1 hd0 hV hr hm hk hl
  have hx := C0.1
  have hb := C0.2.1
  have hX : va_X b L xs (s.setDrawn d0) (s.setDrawn d0).heap := C0.2.2.2.2.2.2.2.2.2.1
  have hbl : b < s.heap.size := C0.2.2.2.2.2.2.2.2.2.2.1
  refine lv_aload_n hx hb dL_law_2245 rfl (lv_at hl 4 rfl) ?_
  refine lw_ccall (rest := []) C0 hV (hc_pendingPages hB hk hr) okX11_pendingPages rfl (ab_in 1034 (by decide +kernel) rfl) (ab_in 1035 (by decide +kernel) rfl) (ab_in 1036 (by decide +kernel) rfl) dL_law_2246 rfl hl.1 (Nat.le_of_ble_eq_true rfl) (Nat.le_of_ble_eq_true rfl) hc hs (fun _ _ _ _ z => by obtain ⟨_, _, j, hj, _⟩ := z; exact nomatch hj) (fun r1 sh1 I1 A1 ad1 H1 locs1 hp had hV1 => ?_)
  obtain ⟨Z1, rfl, r, rfl, hk1, hk2, hr1⟩ := hp
  have hV1 := hV1 Z1 rfl
  rw [lb_C had] at hl
  refine lv_aload_n hx hb dL_law_2249 rfl (lv_at hl 3 rfl) ?_
  refine lw_mcall (as := []) (rest := [.int r]) C0 hV1 (hm_pendingPages hB hk hm) okX12_pendingPages rfl (ab_in 2521 (by decide +kernel) rfl) (ab_in 2522 (by decide +kernel) rfl) (ab_in 2523 (by decide +kernel) rfl) dL_law_2250 rfl (fun v hv => absurd hv List.not_mem_nil) rfl hl.1 (Nat.le_of_ble_eq_true rfl) (Nat.le_of_ble_eq_true rfl) (by omega) (by omega) (fun _ _ _ _ z => z.2) (fun r2 sh1 J2 B2 ad2 H2 locs2 hp had2 hV2 => ?_)
  obtain ⟨rfl, x, rfl, hm1, hm5, hmx⟩ := hp
  have hV2 := hV2 rfl
  rw [lb_M had2] at hl
  exact lv_icmp_eq (tgt := 3304) hx hb dL_law_2253 (by decide) (fun _ => kk d0 H2 locs2 ls ad1 ad2 o1 o2 v1 v2 Z1 I1 A1 J2 B2 hd0 hV2 hr1 hm1 (ik_pendingPages hB hk hm) hl) (fun hn => absurd ((hk2 rfl).trans (hmx hk1.symm).symm) hn)
theorem cz_pendingPage {st : st_S} {x0 : Int32} {k : Nat} (h : k = (s_pendAt st x0).1) (hz : nI k = 0) : k = 0 := by
  have hc : k ≤ 3 := by
    rw [h]
    unfold s_pendAt
    (repeat' split) <;> exact Nat.le_of_ble_eq_true rfl
  have h1 : k = 0 ∨ k = 1 ∨ k = 2 ∨ k = 3 := by omega
  rcases h1 with e | e | e | e <;> subst e <;> first | rfl | exact absurd hz (by decide)
theorem la_pendingPage (C0 : lw_X p l s m meth c b L xs D cT cL cD ac) {i B cells slots : Nat} {st : st_S} (hi : i + 6 ≤ L) (hL : L ≤ 3072) (hB : B + 401 < 2 ^ 24) (hc : cells + 1 ≤ 603072) (hs : slots + 6 ≤ 7186538) (kk : lw_G p l e s m below meth c b D cT cL cD ac 3304 i (B + 401) (cells + 1) (slots + 6) (s_pendAt st (xs (i + 1))).2.2) : lw_G p l e s m below meth c b D cT cL cD ac 2258 i B cells slots st := by
  intro d0 H locs ls adC adM o1 o2 v1 v2 Z I A J B1 hd0 hV hr hm hk hl
  have hx := C0.1
  have hb := C0.2.1
  have hX : va_X b L xs (s.setDrawn d0) (s.setDrawn d0).heap := C0.2.2.2.2.2.2.2.2.2.1
  have hbl : b < s.heap.size := C0.2.2.2.2.2.2.2.2.2.2.1
  refine lv_aload_n hx hb dL_law_2258 rfl (lv_at hl 4 rfl) ?_
  refine lv_aload_n hx hb dL_law_2259 rfl (lv_at hl 5 rfl) ?_
  refine lv_iload hx hb dL_law_2260 (lv_at hl 0 rfl) ?_
  refine lv_iconst (v := nI 1) hx hb dL_law_2262 (by decide) ?_
  refine lv_iadd hx hb dL_law_2263 ?_
  rw [nI_add]
  refine va_sld (L := L) hx hb hX hbl (show ¬ s.heap.size ≤ b from Nat.not_le_of_lt hbl) hV.2.2.2 (vp_in_nI (by omega) (by omega)) dL_law_2264 ?_
  rw [nI_clamp (by omega)]
  refine lv_aload_n hx hb dL_law_2265 rfl (lv_at hl 2 rfl) ?_
  refine lw_wcall (as := [.int (xs (i + 1))]) (na := 1) (rest := []) C0 hV (wr_pendingPage C0.2.2.2.2.2.2.2.2.1 (hc_pendingPage hB hk hr) hV.1.1) ⟨by decide, by decide, by decide +kernel⟩ (ab_in 1735 (by decide +kernel) rfl) (ab_in 1733 (by decide +kernel) rfl) (ab_in 1734 (by decide +kernel) rfl) (ab_in 95 (by decide +kernel) rfl) dL_law_2266 rfl rfl hl.1 (Nat.le_of_ble_eq_true rfl) (Nat.le_of_ble_eq_true rfl) (Nat.le_of_ble_eq_true rfl) hc hs (fun k r Z1 I1 A1 ad1 v3 H1 locs1 hK hv3 had hV1 => ?_)
  obtain ⟨hk1, hk2, hr1⟩ := hK
  rw [lb_C had] at hl
  refine lv_istore (lv' := (6, .int (nI k)) :: LB b ad1 adM o1 o2 i) hx hb dL_law_2269 hl (by decide) rfl (fun ls hl => ?_)
  refine lv_aload_n hx hb dL_law_2271 rfl (lv_at hl 4 rfl) ?_
  refine lv_aload_n hx hb dL_law_2272 rfl (lv_at hl 6 rfl) ?_
  refine lv_iload hx hb dL_law_2273 (lv_at hl 1 rfl) ?_
  refine lv_iconst (v := nI 1) hx hb dL_law_2275 (by decide) ?_
  refine lv_iadd hx hb dL_law_2276 ?_
  rw [nI_add]
  refine va_sld (L := L) hx hb hX hbl (show ¬ s.heap.size ≤ b from Nat.not_le_of_lt hbl) hV1.2.2.2 (vp_in_nI (by omega) (by omega)) dL_law_2277 ?_
  rw [nI_clamp (by omega)]
  refine lw_mcall (as := [.int (xs (i + 1))]) (rest := []) C0 hV1 (hm_pendingPage hB hk hm) okX12_pendingPage rfl (ab_in 2525 (by decide +kernel) rfl) (ab_in 2526 (by decide +kernel) rfl) (ab_in 2527 (by decide +kernel) rfl) dL_law_2278 rfl (fun v hv => by rw [List.mem_singleton.mp hv]; exact trivial) rfl hl.1 (Nat.le_of_ble_eq_true rfl) (Nat.le_of_ble_eq_true rfl) (by omega) (by omega) (fun _ _ _ _ z => z.2) (fun r2 sh1 J2 B2 ad2 H2 locs2 hp had2 hV2 => ?_)
  obtain ⟨rfl, x, rfl, hm1, hm5, hmx⟩ := hp
  have hV2 := hV2 rfl
  rw [lb_M had2] at hl
  refine lv_istore (lv' := (7, .int x) :: (6, .int (nI k)) :: LB b ad1 ad2 o1 o2 i) hx hb dL_law_2281 hl (by decide) rfl (fun ls hl => ?_)
  refine lv_aload_n hx hb dL_law_2283 rfl (lv_at hl 5 rfl) ?_
  refine lw_mcall (as := []) (rest := []) C0 hV2 (ctX12_thrown (K := fun r3 J3 B3 => r3 = J2 0 5 ∧ J2 = J3 ∧ B2 = B3) ⟨rfl, rfl, rfl⟩) okX12_thrown rfl (ab_in 2052 (by decide +kernel) rfl) (ab_in 2053 (by decide +kernel) rfl) (ab_in 2054 (by decide +kernel) rfl) dL_law_2284 rfl (fun v hv => absurd hv List.not_mem_nil) rfl hl.1 (Nat.le_of_ble_eq_true rfl) (Nat.le_of_ble_eq_true rfl) (by omega) (by omega) (fun _ _ _ _ z => z.2) (fun r4 sh1 J3 B3 ad3 H3 locs3 hp had3 hV3 => ?_)
  obtain ⟨rfl, y, rfl, rfl, rfl, rfl⟩ := hp
  have hV3 := hV3 rfl
  rw [lb_M had3] at hl
  refine lv_iload hx hb dL_law_2287 (lv_at hl 1 rfl) ?_
  refine lv_icmp_eq (tgt := 2294) hx hb dL_law_2289 (by decide) (fun _ => ?_) (fun hn => absurd (hm5.trans (by rw [hk1])) hn)
  have hfin := fun ls (hl : lv_has ls 8 ((7, .int x) :: (6, .int (nI k)) :: LB b ad1 ad3 o1 o2 i)) => kk d0 H3 locs3 ls ad1 ad3 o1 o2 v3 v2 Z1 I1 A1 J2 B2 hd0 hV3 hr1 hm1 (ik_pendingPage hB hk hm) (lv_sub hl [2, 3, 4, 5, 6, 7] rfl)
  refine lv_iload hx hb dL_law_2294 (lv_at hl 1 rfl) ?_
  refine lv_if_ne (tgt := 2311) hx hb dL_law_2296 (by decide) (fun _ => ?_) (fun hz => ?_)
  · refine lv_goto (tgt := 3304) hx hb dL_law_2311 (by decide) (hfin ls hl)
  · have hk0 : k = 0 := by
      exact cz_pendingPage hk1 hz
    refine lv_aload_n hx hb dL_law_2299 rfl (lv_at hl 4 rfl) ?_
    refine lv_iconst (v := 0) hx hb dL_law_2300 (by decide) ?_
    refine va_lald (i := 0) hx hb (va_K.moved (u := s) (U := s.setDrawn d0) (Vm.Alike.refl s.vm) C0.2.2.2.2.2.2.1) hV3.1.2.2.2.1 0 3 rfl rfl (by unfold vp_in; decide) dL_law_2301 ?_
    refine lv_iload hx hb dL_law_2302 (lv_at hl 0 rfl) ?_
    refine lv_i2l (v := x.toInt64) hx hb dL_law_2304 rfl ?_
    refine W.lcmp hx hb dL_law_2305 ?_
    rw [show (v3 (0 : Int32).toNatClampNeg) = x.toInt64 by rw [sb_cl0, hv3 hk0, hk2 hk0, hmx (hk1.symm.trans hk0)], lg_same]
    refine lv_if_eq (tgt := 2311) hx hb dL_law_2306 (by decide) (fun _ => ?_) (fun hn => absurd rfl hn)
    exact lv_goto (tgt := 3304) hx hb dL_law_2311 (by decide) (hfin ls hl)
theorem cz_checkpointEpoch {st : st_S} {x0 : Int32} {k : Nat} (h : k = (s_cke st x0).1) (hz : nI k = 0) : k = 0 := by
  have hc : k ≤ 3 := by
    rw [h]
    unfold s_cke
    (repeat' split) <;> exact Nat.le_of_ble_eq_true rfl
  have h1 : k = 0 ∨ k = 1 ∨ k = 2 ∨ k = 3 := by omega
  rcases h1 with e | e | e | e <;> subst e <;> first | rfl | exact absurd hz (by decide)
theorem la_checkpointEpoch (C0 : lw_X p l s m meth c b L xs D cT cL cD ac) {i B cells slots : Nat} {st : st_S} (hi : i + 6 ≤ L) (hL : L ≤ 3072) (hB : B + 401 < 2 ^ 24) (hc : cells + 1 ≤ 603072) (hs : slots + 6 ≤ 7186538) (kk : lw_G p l e s m below meth c b D cT cL cD ac 3304 i (B + 401) (cells + 1) (slots + 6) (s_cke st (xs (i + 1))).2.2) : lw_G p l e s m below meth c b D cT cL cD ac 2314 i B cells slots st := by
  intro d0 H locs ls adC adM o1 o2 v1 v2 Z I A J B1 hd0 hV hr hm hk hl
  have hx := C0.1
  have hb := C0.2.1
  have hX : va_X b L xs (s.setDrawn d0) (s.setDrawn d0).heap := C0.2.2.2.2.2.2.2.2.2.1
  have hbl : b < s.heap.size := C0.2.2.2.2.2.2.2.2.2.2.1
  refine lv_aload_n hx hb dL_law_2314 rfl (lv_at hl 4 rfl) ?_
  refine lv_aload_n hx hb dL_law_2315 rfl (lv_at hl 5 rfl) ?_
  refine lv_iload hx hb dL_law_2316 (lv_at hl 0 rfl) ?_
  refine lv_iconst (v := nI 1) hx hb dL_law_2318 (by decide) ?_
  refine lv_iadd hx hb dL_law_2319 ?_
  rw [nI_add]
  refine va_sld (L := L) hx hb hX hbl (show ¬ s.heap.size ≤ b from Nat.not_le_of_lt hbl) hV.2.2.2 (vp_in_nI (by omega) (by omega)) dL_law_2320 ?_
  rw [nI_clamp (by omega)]
  refine lv_aload_n hx hb dL_law_2321 rfl (lv_at hl 2 rfl) ?_
  refine lw_wcall (as := [.int (xs (i + 1))]) (na := 1) (rest := []) C0 hV (wr_checkpointEpoch C0.2.2.2.2.2.2.2.2.1 (hc_checkpointEpoch hB hk hr) hV.1.1) ⟨by decide, by decide, by decide +kernel⟩ (ab_in 1743 (by decide +kernel) rfl) (ab_in 1741 (by decide +kernel) rfl) (ab_in 1742 (by decide +kernel) rfl) (ab_in 95 (by decide +kernel) rfl) dL_law_2322 rfl rfl hl.1 (Nat.le_of_ble_eq_true rfl) (Nat.le_of_ble_eq_true rfl) (Nat.le_of_ble_eq_true rfl) hc hs (fun k r Z1 I1 A1 ad1 v3 H1 locs1 hK hv3 had hV1 => ?_)
  obtain ⟨hk1, hk2, hr1⟩ := hK
  rw [lb_C had] at hl
  refine lv_istore (lv' := (6, .int (nI k)) :: LB b ad1 adM o1 o2 i) hx hb dL_law_2325 hl (by decide) rfl (fun ls hl => ?_)
  refine lv_aload_n hx hb dL_law_2327 rfl (lv_at hl 4 rfl) ?_
  refine lv_aload_n hx hb dL_law_2328 rfl (lv_at hl 6 rfl) ?_
  refine lv_iload hx hb dL_law_2329 (lv_at hl 1 rfl) ?_
  refine lv_iconst (v := nI 1) hx hb dL_law_2331 (by decide) ?_
  refine lv_iadd hx hb dL_law_2332 ?_
  rw [nI_add]
  refine va_sld (L := L) hx hb hX hbl (show ¬ s.heap.size ≤ b from Nat.not_le_of_lt hbl) hV1.2.2.2 (vp_in_nI (by omega) (by omega)) dL_law_2333 ?_
  rw [nI_clamp (by omega)]
  refine lw_mcall (as := [.int (xs (i + 1))]) (rest := []) C0 hV1 (hm_checkpointEpoch hB hk hm) okX12_checkpointEpoch rfl (ab_in 2529 (by decide +kernel) rfl) (ab_in 2530 (by decide +kernel) rfl) (ab_in 2531 (by decide +kernel) rfl) dL_law_2334 rfl (fun v hv => by rw [List.mem_singleton.mp hv]; exact trivial) rfl hl.1 (Nat.le_of_ble_eq_true rfl) (Nat.le_of_ble_eq_true rfl) (by omega) (by omega) (fun _ _ _ _ z => z.2) (fun r2 sh1 J2 B2 ad2 H2 locs2 hp had2 hV2 => ?_)
  obtain ⟨rfl, x, rfl, hm1, hm5, hmx⟩ := hp
  have hV2 := hV2 rfl
  rw [lb_M had2] at hl
  refine lv_istore (lv' := (7, .int x) :: (6, .int (nI k)) :: LB b ad1 ad2 o1 o2 i) hx hb dL_law_2337 hl (by decide) rfl (fun ls hl => ?_)
  refine lv_aload_n hx hb dL_law_2339 rfl (lv_at hl 5 rfl) ?_
  refine lw_mcall (as := []) (rest := []) C0 hV2 (ctX12_thrown (K := fun r3 J3 B3 => r3 = J2 0 5 ∧ J2 = J3 ∧ B2 = B3) ⟨rfl, rfl, rfl⟩) okX12_thrown rfl (ab_in 2052 (by decide +kernel) rfl) (ab_in 2053 (by decide +kernel) rfl) (ab_in 2054 (by decide +kernel) rfl) dL_law_2340 rfl (fun v hv => absurd hv List.not_mem_nil) rfl hl.1 (Nat.le_of_ble_eq_true rfl) (Nat.le_of_ble_eq_true rfl) (by omega) (by omega) (fun _ _ _ _ z => z.2) (fun r4 sh1 J3 B3 ad3 H3 locs3 hp had3 hV3 => ?_)
  obtain ⟨rfl, y, rfl, rfl, rfl, rfl⟩ := hp
  have hV3 := hV3 rfl
  rw [lb_M had3] at hl
  refine lv_iload hx hb dL_law_2343 (lv_at hl 1 rfl) ?_
  refine lv_icmp_eq (tgt := 2350) hx hb dL_law_2345 (by decide) (fun _ => ?_) (fun hn => absurd (hm5.trans (by rw [hk1])) hn)
  have hfin := fun ls (hl : lv_has ls 8 ((7, .int x) :: (6, .int (nI k)) :: LB b ad1 ad3 o1 o2 i)) => kk d0 H3 locs3 ls ad1 ad3 o1 o2 v3 v2 Z1 I1 A1 J2 B2 hd0 hV3 hr1 hm1 (ik_checkpointEpoch hB hk hm) (lv_sub hl [2, 3, 4, 5, 6, 7] rfl)
  refine lv_iload hx hb dL_law_2350 (lv_at hl 1 rfl) ?_
  refine lv_if_ne (tgt := 2367) hx hb dL_law_2352 (by decide) (fun _ => ?_) (fun hz => ?_)
  · refine lv_goto (tgt := 3304) hx hb dL_law_2367 (by decide) (hfin ls hl)
  · have hk0 : k = 0 := by
      exact cz_checkpointEpoch hk1 hz
    refine lv_aload_n hx hb dL_law_2355 rfl (lv_at hl 4 rfl) ?_
    refine lv_iconst (v := 0) hx hb dL_law_2356 (by decide) ?_
    refine va_lald (i := 0) hx hb (va_K.moved (u := s) (U := s.setDrawn d0) (Vm.Alike.refl s.vm) C0.2.2.2.2.2.2.1) hV3.1.2.2.2.1 0 3 rfl rfl (by unfold vp_in; decide) dL_law_2357 ?_
    refine lv_iload hx hb dL_law_2358 (lv_at hl 0 rfl) ?_
    refine lv_i2l (v := x.toInt64) hx hb dL_law_2360 rfl ?_
    refine W.lcmp hx hb dL_law_2361 ?_
    rw [show (v3 (0 : Int32).toNatClampNeg) = x.toInt64 by rw [sb_cl0, hv3 hk0, hk2 hk0, hmx (hk1.symm.trans hk0)], lg_same]
    refine lv_if_eq (tgt := 2367) hx hb dL_law_2362 (by decide) (fun _ => ?_) (fun hn => absurd rfl hn)
    exact lv_goto (tgt := 3304) hx hb dL_law_2367 (by decide) (hfin ls hl)
theorem cz_checkpointSlot {st : st_S} {x0 x1 : Int32} {k : Nat} (h : k = (s_ckSlot st x0 x1).1) (hz : nI k = 0) : k = 0 := by
  have hc : k ≤ 3 := by
    rw [h]
    unfold s_ckSlot
    (repeat' split) <;> exact Nat.le_of_ble_eq_true rfl
  have h1 : k = 0 ∨ k = 1 ∨ k = 2 ∨ k = 3 := by omega
  rcases h1 with e | e | e | e <;> subst e <;> first | rfl | exact absurd hz (by decide)
theorem la_checkpointSlot (C0 : lw_X p l s m meth c b L xs D cT cL cD ac) {i B cells slots : Nat} {st : st_S} (hi : i + 6 ≤ L) (hL : L ≤ 3072) (hB : B + 401 < 2 ^ 24) (hc : cells + 2 ≤ 603072) (hs : slots + 12 ≤ 7186538) (kk : lw_G p l e s m below meth c b D cT cL cD ac 3304 i (B + 401) (cells + 2) (slots + 12) (s_ckSlot st (xs (i + 1)) (xs (i + 2))).2.2) : lw_G p l e s m below meth c b D cT cL cD ac 2370 i B cells slots st := by
  intro d0 H locs ls adC adM o1 o2 v1 v2 Z I A J B1 hd0 hV hr hm hk hl
  have hx := C0.1
  have hb := C0.2.1
  have hX : va_X b L xs (s.setDrawn d0) (s.setDrawn d0).heap := C0.2.2.2.2.2.2.2.2.2.1
  have hbl : b < s.heap.size := C0.2.2.2.2.2.2.2.2.2.2.1
  refine lv_aload_n hx hb dL_law_2370 rfl (lv_at hl 4 rfl) ?_
  refine lv_aload_n hx hb dL_law_2371 rfl (lv_at hl 5 rfl) ?_
  refine lv_iload hx hb dL_law_2372 (lv_at hl 0 rfl) ?_
  refine lv_iconst (v := nI 1) hx hb dL_law_2374 (by decide) ?_
  refine lv_iadd hx hb dL_law_2375 ?_
  rw [nI_add]
  refine va_sld (L := L) hx hb hX hbl (show ¬ s.heap.size ≤ b from Nat.not_le_of_lt hbl) hV.2.2.2 (vp_in_nI (by omega) (by omega)) dL_law_2376 ?_
  rw [nI_clamp (by omega)]
  refine lv_aload_n hx hb dL_law_2377 rfl (lv_at hl 5 rfl) ?_
  refine lv_iload hx hb dL_law_2378 (lv_at hl 0 rfl) ?_
  refine lv_iconst (v := nI 2) hx hb dL_law_2380 (by decide) ?_
  refine lv_iadd hx hb dL_law_2381 ?_
  rw [nI_add]
  refine va_sld (L := L) hx hb hX hbl (show ¬ s.heap.size ≤ b from Nat.not_le_of_lt hbl) hV.2.2.2 (vp_in_nI (by omega) (by omega)) dL_law_2382 ?_
  rw [nI_clamp (by omega)]
  refine lv_aload_n hx hb dL_law_2383 rfl (lv_at hl 2 rfl) ?_
  refine lw_wcall (as := [.int (xs (i + 1)), .int (xs (i + 2))]) (na := 2) (rest := []) C0 hV (wr_checkpointSlot C0.2.2.2.2.2.2.2.2.1 (hc_checkpointSlot hB hk hr) hV.1.1) ⟨by decide, by decide, by decide +kernel⟩ (ab_in 1750 (by decide +kernel) rfl) (ab_in 1748 (by decide +kernel) rfl) (ab_in 1749 (by decide +kernel) rfl) (ab_in 95 (by decide +kernel) rfl) dL_law_2384 rfl rfl hl.1 (Nat.le_of_ble_eq_true rfl) (Nat.le_of_ble_eq_true rfl) (Nat.le_of_ble_eq_true rfl) hc hs (fun k r Z1 I1 A1 ad1 v3 H1 locs1 hK hv3 had hV1 => ?_)
  obtain ⟨hk1, hk2, hr1⟩ := hK
  rw [lb_C had] at hl
  refine lv_istore (lv' := (6, .int (nI k)) :: LB b ad1 adM o1 o2 i) hx hb dL_law_2387 hl (by decide) rfl (fun ls hl => ?_)
  refine lv_aload_n hx hb dL_law_2389 rfl (lv_at hl 4 rfl) ?_
  refine lv_aload_n hx hb dL_law_2390 rfl (lv_at hl 6 rfl) ?_
  refine lv_iload hx hb dL_law_2391 (lv_at hl 1 rfl) ?_
  refine lv_iconst (v := nI 1) hx hb dL_law_2393 (by decide) ?_
  refine lv_iadd hx hb dL_law_2394 ?_
  rw [nI_add]
  refine va_sld (L := L) hx hb hX hbl (show ¬ s.heap.size ≤ b from Nat.not_le_of_lt hbl) hV1.2.2.2 (vp_in_nI (by omega) (by omega)) dL_law_2395 ?_
  rw [nI_clamp (by omega)]
  refine lv_aload_n hx hb dL_law_2396 rfl (lv_at hl 6 rfl) ?_
  refine lv_iload hx hb dL_law_2397 (lv_at hl 1 rfl) ?_
  refine lv_iconst (v := nI 2) hx hb dL_law_2399 (by decide) ?_
  refine lv_iadd hx hb dL_law_2400 ?_
  rw [nI_add]
  refine va_sld (L := L) hx hb hX hbl (show ¬ s.heap.size ≤ b from Nat.not_le_of_lt hbl) hV1.2.2.2 (vp_in_nI (by omega) (by omega)) dL_law_2401 ?_
  rw [nI_clamp (by omega)]
  refine lw_mcall (as := [.int (xs (i + 1)), .int (xs (i + 2))]) (rest := []) C0 hV1 (hm_checkpointSlot hB hk hm) okX12_checkpointSlot rfl (ab_in 2533 (by decide +kernel) rfl) (ab_in 2534 (by decide +kernel) rfl) (ab_in 2535 (by decide +kernel) rfl) dL_law_2402 rfl (fun v hv => by simp only [List.mem_cons, List.not_mem_nil, or_false] at hv; rcases hv with h | h <;> subst h <;> exact trivial) rfl hl.1 (Nat.le_of_ble_eq_true rfl) (Nat.le_of_ble_eq_true rfl) (by omega) (by omega) (fun _ _ _ _ z => z.2) (fun r2 sh1 J2 B2 ad2 H2 locs2 hp had2 hV2 => ?_)
  obtain ⟨rfl, x, rfl, hm1, hm5, hmx⟩ := hp
  have hV2 := hV2 rfl
  rw [lb_M had2] at hl
  refine lv_istore (lv' := (7, .int x) :: (6, .int (nI k)) :: LB b ad1 ad2 o1 o2 i) hx hb dL_law_2405 hl (by decide) rfl (fun ls hl => ?_)
  refine lv_aload_n hx hb dL_law_2407 rfl (lv_at hl 5 rfl) ?_
  refine lw_mcall (as := []) (rest := []) C0 hV2 (ctX12_thrown (K := fun r3 J3 B3 => r3 = J2 0 5 ∧ J2 = J3 ∧ B2 = B3) ⟨rfl, rfl, rfl⟩) okX12_thrown rfl (ab_in 2052 (by decide +kernel) rfl) (ab_in 2053 (by decide +kernel) rfl) (ab_in 2054 (by decide +kernel) rfl) dL_law_2408 rfl (fun v hv => absurd hv List.not_mem_nil) rfl hl.1 (Nat.le_of_ble_eq_true rfl) (Nat.le_of_ble_eq_true rfl) (by omega) (by omega) (fun _ _ _ _ z => z.2) (fun r4 sh1 J3 B3 ad3 H3 locs3 hp had3 hV3 => ?_)
  obtain ⟨rfl, y, rfl, rfl, rfl, rfl⟩ := hp
  have hV3 := hV3 rfl
  rw [lb_M had3] at hl
  refine lv_iload hx hb dL_law_2411 (lv_at hl 1 rfl) ?_
  refine lv_icmp_eq (tgt := 2418) hx hb dL_law_2413 (by decide) (fun _ => ?_) (fun hn => absurd (hm5.trans (by rw [hk1])) hn)
  have hfin := fun ls (hl : lv_has ls 8 ((7, .int x) :: (6, .int (nI k)) :: LB b ad1 ad3 o1 o2 i)) => kk d0 H3 locs3 ls ad1 ad3 o1 o2 v3 v2 Z1 I1 A1 J2 B2 hd0 hV3 hr1 hm1 (ik_checkpointSlot hB hk hm) (lv_sub hl [2, 3, 4, 5, 6, 7] rfl)
  refine lv_iload hx hb dL_law_2418 (lv_at hl 1 rfl) ?_
  refine lv_if_ne (tgt := 2435) hx hb dL_law_2420 (by decide) (fun _ => ?_) (fun hz => ?_)
  · refine lv_goto (tgt := 3304) hx hb dL_law_2435 (by decide) (hfin ls hl)
  · have hk0 : k = 0 := by
      exact cz_checkpointSlot hk1 hz
    refine lv_aload_n hx hb dL_law_2423 rfl (lv_at hl 4 rfl) ?_
    refine lv_iconst (v := 0) hx hb dL_law_2424 (by decide) ?_
    refine va_lald (i := 0) hx hb (va_K.moved (u := s) (U := s.setDrawn d0) (Vm.Alike.refl s.vm) C0.2.2.2.2.2.2.1) hV3.1.2.2.2.1 0 3 rfl rfl (by unfold vp_in; decide) dL_law_2425 ?_
    refine lv_iload hx hb dL_law_2426 (lv_at hl 0 rfl) ?_
    refine lv_i2l (v := x.toInt64) hx hb dL_law_2428 rfl ?_
    refine W.lcmp hx hb dL_law_2429 ?_
    rw [show (v3 (0 : Int32).toNatClampNeg) = x.toInt64 by rw [sb_cl0, hv3 hk0, hk2 hk0, hmx (hk1.symm.trans hk0)], lg_same]
    refine lv_if_eq (tgt := 2435) hx hb dL_law_2430 (by decide) (fun _ => ?_) (fun hn => absurd rfl hn)
    exact lv_goto (tgt := 3304) hx hb dL_law_2435 (by decide) (hfin ls hl)
theorem cz_checkpointValue {st : st_S} {x0 x1 : Int32} {k : Nat} (h : k = (s_ckVal st x0 x1).1) (hz : nI k = 0) : k = 0 := by
  have hc : k ≤ 3 := by
    rw [h]
    unfold s_ckVal
    (repeat' split) <;> exact Nat.le_of_ble_eq_true rfl
  have h1 : k = 0 ∨ k = 1 ∨ k = 2 ∨ k = 3 := by omega
  rcases h1 with e | e | e | e <;> subst e <;> first | rfl | exact absurd hz (by decide)
theorem la_checkpointValue (C0 : lw_X p l s m meth c b L xs D cT cL cD ac) {i B cells slots : Nat} {st : st_S} (hi : i + 6 ≤ L) (hL : L ≤ 3072) (hB : B + 401 < 2 ^ 24) (hc : cells + 2 ≤ 603072) (hs : slots + 12 ≤ 7186538) (kk : lw_G p l e s m below meth c b D cT cL cD ac 3304 i (B + 401) (cells + 2) (slots + 12) (s_ckVal st (xs (i + 1)) (xs (i + 2))).2.2) : lw_G p l e s m below meth c b D cT cL cD ac 2438 i B cells slots st := by
  intro d0 H locs ls adC adM o1 o2 v1 v2 Z I A J B1 hd0 hV hr hm hk hl
  have hx := C0.1
  have hb := C0.2.1
  have hX : va_X b L xs (s.setDrawn d0) (s.setDrawn d0).heap := C0.2.2.2.2.2.2.2.2.2.1
  have hbl : b < s.heap.size := C0.2.2.2.2.2.2.2.2.2.2.1
  refine lv_aload_n hx hb dL_law_2438 rfl (lv_at hl 4 rfl) ?_
  refine lv_aload_n hx hb dL_law_2439 rfl (lv_at hl 5 rfl) ?_
  refine lv_iload hx hb dL_law_2440 (lv_at hl 0 rfl) ?_
  refine lv_iconst (v := nI 1) hx hb dL_law_2442 (by decide) ?_
  refine lv_iadd hx hb dL_law_2443 ?_
  rw [nI_add]
  refine va_sld (L := L) hx hb hX hbl (show ¬ s.heap.size ≤ b from Nat.not_le_of_lt hbl) hV.2.2.2 (vp_in_nI (by omega) (by omega)) dL_law_2444 ?_
  rw [nI_clamp (by omega)]
  refine lv_aload_n hx hb dL_law_2445 rfl (lv_at hl 5 rfl) ?_
  refine lv_iload hx hb dL_law_2446 (lv_at hl 0 rfl) ?_
  refine lv_iconst (v := nI 2) hx hb dL_law_2448 (by decide) ?_
  refine lv_iadd hx hb dL_law_2449 ?_
  rw [nI_add]
  refine va_sld (L := L) hx hb hX hbl (show ¬ s.heap.size ≤ b from Nat.not_le_of_lt hbl) hV.2.2.2 (vp_in_nI (by omega) (by omega)) dL_law_2450 ?_
  rw [nI_clamp (by omega)]
  refine lv_aload_n hx hb dL_law_2451 rfl (lv_at hl 2 rfl) ?_
  refine lw_wcall (as := [.int (xs (i + 1)), .int (xs (i + 2))]) (na := 2) (rest := []) C0 hV (wr_checkpointValue C0.2.2.2.2.2.2.2.2.1 (hc_checkpointValue hB hk hr) hV.1.1) ⟨by decide, by decide, by decide +kernel⟩ (ab_in 1757 (by decide +kernel) rfl) (ab_in 1755 (by decide +kernel) rfl) (ab_in 1756 (by decide +kernel) rfl) (ab_in 95 (by decide +kernel) rfl) dL_law_2452 rfl rfl hl.1 (Nat.le_of_ble_eq_true rfl) (Nat.le_of_ble_eq_true rfl) (Nat.le_of_ble_eq_true rfl) hc hs (fun k r Z1 I1 A1 ad1 v3 H1 locs1 hK hv3 had hV1 => ?_)
  obtain ⟨hk1, hk2, hr1⟩ := hK
  rw [lb_C had] at hl
  refine lv_istore (lv' := (6, .int (nI k)) :: LB b ad1 adM o1 o2 i) hx hb dL_law_2455 hl (by decide) rfl (fun ls hl => ?_)
  refine lv_aload_n hx hb dL_law_2457 rfl (lv_at hl 4 rfl) ?_
  refine lv_aload_n hx hb dL_law_2458 rfl (lv_at hl 6 rfl) ?_
  refine lv_iload hx hb dL_law_2459 (lv_at hl 1 rfl) ?_
  refine lv_iconst (v := nI 1) hx hb dL_law_2461 (by decide) ?_
  refine lv_iadd hx hb dL_law_2462 ?_
  rw [nI_add]
  refine va_sld (L := L) hx hb hX hbl (show ¬ s.heap.size ≤ b from Nat.not_le_of_lt hbl) hV1.2.2.2 (vp_in_nI (by omega) (by omega)) dL_law_2463 ?_
  rw [nI_clamp (by omega)]
  refine lv_aload_n hx hb dL_law_2464 rfl (lv_at hl 6 rfl) ?_
  refine lv_iload hx hb dL_law_2465 (lv_at hl 1 rfl) ?_
  refine lv_iconst (v := nI 2) hx hb dL_law_2467 (by decide) ?_
  refine lv_iadd hx hb dL_law_2468 ?_
  rw [nI_add]
  refine va_sld (L := L) hx hb hX hbl (show ¬ s.heap.size ≤ b from Nat.not_le_of_lt hbl) hV1.2.2.2 (vp_in_nI (by omega) (by omega)) dL_law_2469 ?_
  rw [nI_clamp (by omega)]
  refine lw_mcall (as := [.int (xs (i + 1)), .int (xs (i + 2))]) (rest := []) C0 hV1 (hm_checkpointValue hB hk hm) okX12_checkpointValue rfl (ab_in 2541 (by decide +kernel) rfl) (ab_in 2542 (by decide +kernel) rfl) (ab_in 2543 (by decide +kernel) rfl) dL_law_2470 rfl (fun v hv => by simp only [List.mem_cons, List.not_mem_nil, or_false] at hv; rcases hv with h | h <;> subst h <;> exact trivial) rfl hl.1 (Nat.le_of_ble_eq_true rfl) (Nat.le_of_ble_eq_true rfl) (by omega) (by omega) (fun _ _ _ _ z => z.2) (fun r2 sh1 J2 B2 ad2 H2 locs2 hp had2 hV2 => ?_)
  obtain ⟨rfl, x, rfl, hm1, hm5, hmx⟩ := hp
  have hV2 := hV2 rfl
  rw [lb_M had2] at hl
  refine lv_istore (lv' := (7, .int x) :: (6, .int (nI k)) :: LB b ad1 ad2 o1 o2 i) hx hb dL_law_2473 hl (by decide) rfl (fun ls hl => ?_)
  refine lv_aload_n hx hb dL_law_2475 rfl (lv_at hl 5 rfl) ?_
  refine lw_mcall (as := []) (rest := []) C0 hV2 (ctX12_thrown (K := fun r3 J3 B3 => r3 = J2 0 5 ∧ J2 = J3 ∧ B2 = B3) ⟨rfl, rfl, rfl⟩) okX12_thrown rfl (ab_in 2052 (by decide +kernel) rfl) (ab_in 2053 (by decide +kernel) rfl) (ab_in 2054 (by decide +kernel) rfl) dL_law_2476 rfl (fun v hv => absurd hv List.not_mem_nil) rfl hl.1 (Nat.le_of_ble_eq_true rfl) (Nat.le_of_ble_eq_true rfl) (by omega) (by omega) (fun _ _ _ _ z => z.2) (fun r4 sh1 J3 B3 ad3 H3 locs3 hp had3 hV3 => ?_)
  obtain ⟨rfl, y, rfl, rfl, rfl, rfl⟩ := hp
  have hV3 := hV3 rfl
  rw [lb_M had3] at hl
  refine lv_iload hx hb dL_law_2479 (lv_at hl 1 rfl) ?_
  refine lv_icmp_eq (tgt := 2486) hx hb dL_law_2481 (by decide) (fun _ => ?_) (fun hn => absurd (hm5.trans (by rw [hk1])) hn)
  have hfin := fun ls (hl : lv_has ls 8 ((7, .int x) :: (6, .int (nI k)) :: LB b ad1 ad3 o1 o2 i)) => kk d0 H3 locs3 ls ad1 ad3 o1 o2 v3 v2 Z1 I1 A1 J2 B2 hd0 hV3 hr1 hm1 (ik_checkpointValue hB hk hm) (lv_sub hl [2, 3, 4, 5, 6, 7] rfl)
  refine lv_iload hx hb dL_law_2486 (lv_at hl 1 rfl) ?_
  refine lv_if_ne (tgt := 2503) hx hb dL_law_2488 (by decide) (fun _ => ?_) (fun hz => ?_)
  · refine lv_goto (tgt := 3304) hx hb dL_law_2503 (by decide) (hfin ls hl)
  · have hk0 : k = 0 := by
      exact cz_checkpointValue hk1 hz
    refine lv_aload_n hx hb dL_law_2491 rfl (lv_at hl 4 rfl) ?_
    refine lv_iconst (v := 0) hx hb dL_law_2492 (by decide) ?_
    refine va_lald (i := 0) hx hb (va_K.moved (u := s) (U := s.setDrawn d0) (Vm.Alike.refl s.vm) C0.2.2.2.2.2.2.1) hV3.1.2.2.2.1 0 3 rfl rfl (by unfold vp_in; decide) dL_law_2493 ?_
    refine lv_iload hx hb dL_law_2494 (lv_at hl 0 rfl) ?_
    refine lv_i2l (v := x.toInt64) hx hb dL_law_2496 rfl ?_
    refine W.lcmp hx hb dL_law_2497 ?_
    rw [show (v3 (0 : Int32).toNatClampNeg) = x.toInt64 by rw [sb_cl0, hv3 hk0, hk2 hk0, hmx (hk1.symm.trans hk0)], lg_same]
    refine lv_if_eq (tgt := 2503) hx hb dL_law_2498 (by decide) (fun _ => ?_) (fun hn => absurd rfl hn)
    exact lv_goto (tgt := 3304) hx hb dL_law_2503 (by decide) (hfin ls hl)
theorem cz_wouldWrite {st : st_S} {x0 : Int32} {k : Nat} (h : k = (s_wW st x0).1) (hz : nI k = 0) : k = 0 := by
  have hc : k ≤ 3 := by
    rw [h]
    unfold s_wW
    (repeat' split) <;> exact Nat.le_of_ble_eq_true rfl
  have h1 : k = 0 ∨ k = 1 ∨ k = 2 ∨ k = 3 := by omega
  rcases h1 with e | e | e | e <;> subst e <;> first | rfl | exact absurd hz (by decide)
theorem la_wouldWrite (C0 : lw_X p l s m meth c b L xs D cT cL cD ac) {i B cells slots : Nat} {st : st_S} (hi : i + 6 ≤ L) (hL : L ≤ 3072) (hB : B + 401 < 2 ^ 24) (hc : cells + 1 ≤ 603072) (hs : slots + 6 ≤ 7186538) (kk : lw_G p l e s m below meth c b D cT cL cD ac 3304 i (B + 401) (cells + 1) (slots + 6) (s_wW st (xs (i + 1))).2.2) : lw_G p l e s m below meth c b D cT cL cD ac 2506 i B cells slots st := by
  intro d0 H locs ls adC adM o1 o2 v1 v2 Z I A J B1 hd0 hV hr hm hk hl
  have hx := C0.1
  have hb := C0.2.1
  have hX : va_X b L xs (s.setDrawn d0) (s.setDrawn d0).heap := C0.2.2.2.2.2.2.2.2.2.1
  have hbl : b < s.heap.size := C0.2.2.2.2.2.2.2.2.2.2.1
  refine lv_aload_n hx hb dL_law_2506 rfl (lv_at hl 4 rfl) ?_
  refine lv_aload_n hx hb dL_law_2507 rfl (lv_at hl 5 rfl) ?_
  refine lv_iload hx hb dL_law_2508 (lv_at hl 0 rfl) ?_
  refine lv_iconst (v := nI 1) hx hb dL_law_2510 (by decide) ?_
  refine lv_iadd hx hb dL_law_2511 ?_
  rw [nI_add]
  refine va_sld (L := L) hx hb hX hbl (show ¬ s.heap.size ≤ b from Nat.not_le_of_lt hbl) hV.2.2.2 (vp_in_nI (by omega) (by omega)) dL_law_2512 ?_
  rw [nI_clamp (by omega)]
  refine lv_aload_n hx hb dL_law_2513 rfl (lv_at hl 2 rfl) ?_
  refine lw_wcall (as := [.int (xs (i + 1))]) (na := 1) (rest := []) C0 hV (wr_wouldWrite C0.2.2.2.2.2.2.2.2.1 (hc_wouldWrite hB hk hr) hV.1.1) ⟨by decide, by decide, by decide +kernel⟩ (ab_in 1765 (by decide +kernel) rfl) (ab_in 1763 (by decide +kernel) rfl) (ab_in 1764 (by decide +kernel) rfl) (ab_in 95 (by decide +kernel) rfl) dL_law_2514 rfl rfl hl.1 (Nat.le_of_ble_eq_true rfl) (Nat.le_of_ble_eq_true rfl) (Nat.le_of_ble_eq_true rfl) hc hs (fun k r Z1 I1 A1 ad1 v3 H1 locs1 hK hv3 had hV1 => ?_)
  obtain ⟨hk1, hk2, hr1⟩ := hK
  rw [lb_C had] at hl
  refine lv_istore (lv' := (6, .int (nI k)) :: LB b ad1 adM o1 o2 i) hx hb dL_law_2517 hl (by decide) rfl (fun ls hl => ?_)
  refine lv_aload_n hx hb dL_law_2519 rfl (lv_at hl 4 rfl) ?_
  refine lv_aload_n hx hb dL_law_2520 rfl (lv_at hl 6 rfl) ?_
  refine lv_iload hx hb dL_law_2521 (lv_at hl 1 rfl) ?_
  refine lv_iconst (v := nI 1) hx hb dL_law_2523 (by decide) ?_
  refine lv_iadd hx hb dL_law_2524 ?_
  rw [nI_add]
  refine va_sld (L := L) hx hb hX hbl (show ¬ s.heap.size ≤ b from Nat.not_le_of_lt hbl) hV1.2.2.2 (vp_in_nI (by omega) (by omega)) dL_law_2525 ?_
  rw [nI_clamp (by omega)]
  refine lw_mcall (as := [.int (xs (i + 1))]) (rest := []) C0 hV1 (hm_wouldWrite hB hk hm) okX12_wouldWrite rfl (ab_in 2545 (by decide +kernel) rfl) (ab_in 2546 (by decide +kernel) rfl) (ab_in 2547 (by decide +kernel) rfl) dL_law_2526 rfl (fun v hv => by rw [List.mem_singleton.mp hv]; exact trivial) rfl hl.1 (Nat.le_of_ble_eq_true rfl) (Nat.le_of_ble_eq_true rfl) (by omega) (by omega) (fun _ _ _ _ z => z.2) (fun r2 sh1 J2 B2 ad2 H2 locs2 hp had2 hV2 => ?_)
  obtain ⟨rfl, x, rfl, hm1, hm5, hmx⟩ := hp
  have hV2 := hV2 rfl
  rw [lb_M had2] at hl
  refine lv_istore (lv' := (7, .int x) :: (6, .int (nI k)) :: LB b ad1 ad2 o1 o2 i) hx hb dL_law_2529 hl (by decide) rfl (fun ls hl => ?_)
  refine lv_aload_n hx hb dL_law_2531 rfl (lv_at hl 5 rfl) ?_
  refine lw_mcall (as := []) (rest := []) C0 hV2 (ctX12_thrown (K := fun r3 J3 B3 => r3 = J2 0 5 ∧ J2 = J3 ∧ B2 = B3) ⟨rfl, rfl, rfl⟩) okX12_thrown rfl (ab_in 2052 (by decide +kernel) rfl) (ab_in 2053 (by decide +kernel) rfl) (ab_in 2054 (by decide +kernel) rfl) dL_law_2532 rfl (fun v hv => absurd hv List.not_mem_nil) rfl hl.1 (Nat.le_of_ble_eq_true rfl) (Nat.le_of_ble_eq_true rfl) (by omega) (by omega) (fun _ _ _ _ z => z.2) (fun r4 sh1 J3 B3 ad3 H3 locs3 hp had3 hV3 => ?_)
  obtain ⟨rfl, y, rfl, rfl, rfl, rfl⟩ := hp
  have hV3 := hV3 rfl
  rw [lb_M had3] at hl
  refine lv_iload hx hb dL_law_2535 (lv_at hl 1 rfl) ?_
  refine lv_icmp_eq (tgt := 2542) hx hb dL_law_2537 (by decide) (fun _ => ?_) (fun hn => absurd (hm5.trans (by rw [hk1])) hn)
  have hfin := fun ls (hl : lv_has ls 8 ((7, .int x) :: (6, .int (nI k)) :: LB b ad1 ad3 o1 o2 i)) => kk d0 H3 locs3 ls ad1 ad3 o1 o2 v3 v2 Z1 I1 A1 J2 B2 hd0 hV3 hr1 hm1 (ik_wouldWrite hB hk hm) (lv_sub hl [2, 3, 4, 5, 6, 7] rfl)
  refine lv_iload hx hb dL_law_2542 (lv_at hl 1 rfl) ?_
  refine lv_if_ne (tgt := 2559) hx hb dL_law_2544 (by decide) (fun _ => ?_) (fun hz => ?_)
  · refine lv_goto (tgt := 3304) hx hb dL_law_2559 (by decide) (hfin ls hl)
  · have hk0 : k = 0 := by
      exact cz_wouldWrite hk1 hz
    refine lv_aload_n hx hb dL_law_2547 rfl (lv_at hl 4 rfl) ?_
    refine lv_iconst (v := 0) hx hb dL_law_2548 (by decide) ?_
    refine va_lald (i := 0) hx hb (va_K.moved (u := s) (U := s.setDrawn d0) (Vm.Alike.refl s.vm) C0.2.2.2.2.2.2.1) hV3.1.2.2.2.1 0 3 rfl rfl (by unfold vp_in; decide) dL_law_2549 ?_
    refine lv_iload hx hb dL_law_2550 (lv_at hl 0 rfl) ?_
    refine lv_i2l (v := x.toInt64) hx hb dL_law_2552 rfl ?_
    refine W.lcmp hx hb dL_law_2553 ?_
    rw [show (v3 (0 : Int32).toNatClampNeg) = x.toInt64 by rw [sb_cl0, hv3 hk0, hk2 hk0, hmx (hk1.symm.trans hk0)], lg_same]
    refine lv_if_eq (tgt := 2559) hx hb dL_law_2554 (by decide) (fun _ => ?_) (fun hn => absurd rfl hn)
    exact lv_goto (tgt := 3304) hx hb dL_law_2559 (by decide) (hfin ls hl)
end
