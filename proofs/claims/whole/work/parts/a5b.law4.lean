section
variable {p : Program} {l : Launch} {e : Env} {s : State} {m : MethodId} {below : List Frame} {meth : Method} {c : Code} {b L : Nat} {xs : Nat → Int32} {D : va_G} {cT : FieldType → ClassId} {cL cD : ClassId} {ac : Nat → Nat}
theorem la_errorCode (C0 : lw_X p l s m meth c b L xs D cT cL cD ac) {i B cells slots : Nat} {st : st_S} (hi : i + 6 ≤ L) (hL : L ≤ 3072) (hB : B + 401 < 2 ^ 24) (hc : cells + 0 ≤ 603072) (hs : slots + 0 ≤ 7186538) (kk : lw_G p l e s m below meth c b D cT cL cD ac 3304 i (B + 401) (cells + 0) (slots + 0) (s_ec st).2.2) : lw_G p l e s m below meth c b D cT cL cD ac 489 i B cells slots st := by
  intro d0 H locs ls adC adM o1 o2 v1 v2 Z I A J B1 hd0 hV hr hm hk hl
  have hx := C0.1
  have hb := C0.2.1
  have hX : va_X b L xs (s.setDrawn d0) (s.setDrawn d0).heap := C0.2.2.2.2.2.2.2.2.2.1
  have hbl : b < s.heap.size := C0.2.2.2.2.2.2.2.2.2.2.1
  refine lv_aload_n hx hb dL_law_489 rfl (lv_at hl 4 rfl) ?_
  refine lw_ccall (rest := []) C0 hV (hc_errorCode hB hk hr) okX11_errorCode rfl (ab_in 668 (by decide +kernel) rfl) (ab_in 669 (by decide +kernel) rfl) (ab_in 670 (by decide +kernel) rfl) dL_law_490 rfl hl.1 (Nat.le_of_ble_eq_true rfl) (Nat.le_of_ble_eq_true rfl) hc hs (fun _ _ _ _ z => by obtain ⟨_, _, j, hj, _⟩ := z; exact nomatch hj) (fun r1 sh1 I1 A1 ad1 H1 locs1 hp had hV1 => ?_)
  obtain ⟨Z1, rfl, r, rfl, hk1, hk2, hr1⟩ := hp
  have hV1 := hV1 Z1 rfl
  rw [lb_C had] at hl
  refine lv_aload_n hx hb dL_law_493 rfl (lv_at hl 3 rfl) ?_
  refine lw_mcall (as := []) (rest := [.int r]) C0 hV1 (hm_errorCode hB hk hm) okX12_errorCode rfl (ab_in 2149 (by decide +kernel) rfl) (ab_in 2150 (by decide +kernel) rfl) (ab_in 2151 (by decide +kernel) rfl) dL_law_494 rfl (fun v hv => absurd hv List.not_mem_nil) rfl hl.1 (Nat.le_of_ble_eq_true rfl) (Nat.le_of_ble_eq_true rfl) (by omega) (by omega) (fun _ _ _ _ z => z.2) (fun r2 sh1 J2 B2 ad2 H2 locs2 hp had2 hV2 => ?_)
  obtain ⟨rfl, x, rfl, hm1, hm5, hmx⟩ := hp
  have hV2 := hV2 rfl
  rw [lb_M had2] at hl
  exact lv_icmp_eq (tgt := 3304) hx hb dL_law_497 (by decide) (fun _ => kk d0 H2 locs2 ls ad1 ad2 o1 o2 v1 v2 Z1 I1 A1 J2 B2 hd0 hV2 hr1 hm1 (ik_errorCode hB hk hm) hl) (fun hn => absurd ((hk2 rfl).trans (hmx hk1.symm).symm) hn)
theorem la_errorPosition (C0 : lw_X p l s m meth c b L xs D cT cL cD ac) {i B cells slots : Nat} {st : st_S} (hi : i + 6 ≤ L) (hL : L ≤ 3072) (hB : B + 401 < 2 ^ 24) (hc : cells + 0 ≤ 603072) (hs : slots + 0 ≤ 7186538) (kk : lw_G p l e s m below meth c b D cT cL cD ac 3304 i (B + 401) (cells + 0) (slots + 0) (s_ep st).2.2) : lw_G p l e s m below meth c b D cT cL cD ac 502 i B cells slots st := by
  intro d0 H locs ls adC adM o1 o2 v1 v2 Z I A J B1 hd0 hV hr hm hk hl
  have hx := C0.1
  have hb := C0.2.1
  have hX : va_X b L xs (s.setDrawn d0) (s.setDrawn d0).heap := C0.2.2.2.2.2.2.2.2.2.1
  have hbl : b < s.heap.size := C0.2.2.2.2.2.2.2.2.2.2.1
  refine lv_aload_n hx hb dL_law_502 rfl (lv_at hl 4 rfl) ?_
  refine lw_ccall (rest := []) C0 hV (hc_errorPosition hB hk hr) okX11_errorPosition rfl (ab_in 672 (by decide +kernel) rfl) (ab_in 673 (by decide +kernel) rfl) (ab_in 674 (by decide +kernel) rfl) dL_law_503 rfl hl.1 (Nat.le_of_ble_eq_true rfl) (Nat.le_of_ble_eq_true rfl) hc hs (fun _ _ _ _ z => by obtain ⟨_, _, j, hj, _⟩ := z; exact nomatch hj) (fun r1 sh1 I1 A1 ad1 H1 locs1 hp had hV1 => ?_)
  obtain ⟨Z1, rfl, r, rfl, hk1, hk2, hr1⟩ := hp
  have hV1 := hV1 Z1 rfl
  rw [lb_C had] at hl
  refine lv_aload_n hx hb dL_law_506 rfl (lv_at hl 3 rfl) ?_
  refine lw_mcall (as := []) (rest := [.int r]) C0 hV1 (hm_errorPosition hB hk hm) okX12_errorPosition rfl (ab_in 2153 (by decide +kernel) rfl) (ab_in 2154 (by decide +kernel) rfl) (ab_in 2155 (by decide +kernel) rfl) dL_law_507 rfl (fun v hv => absurd hv List.not_mem_nil) rfl hl.1 (Nat.le_of_ble_eq_true rfl) (Nat.le_of_ble_eq_true rfl) (by omega) (by omega) (fun _ _ _ _ z => z.2) (fun r2 sh1 J2 B2 ad2 H2 locs2 hp had2 hV2 => ?_)
  obtain ⟨rfl, x, rfl, hm1, hm5, hmx⟩ := hp
  have hV2 := hV2 rfl
  rw [lb_M had2] at hl
  exact lv_icmp_eq (tgt := 3304) hx hb dL_law_510 (by decide) (fun _ => kk d0 H2 locs2 ls ad1 ad2 o1 o2 v1 v2 Z1 I1 A1 J2 B2 hd0 hV2 hr1 hm1 (ik_errorPosition hB hk hm) hl) (fun hn => absurd ((hk2 rfl).trans (hmx hk1.symm).symm) hn)
theorem la_processCount (C0 : lw_X p l s m meth c b L xs D cT cL cD ac) {i B cells slots : Nat} {st : st_S} (hi : i + 6 ≤ L) (hL : L ≤ 3072) (hB : B + 401 < 2 ^ 24) (hc : cells + 0 ≤ 603072) (hs : slots + 0 ≤ 7186538) (kk : lw_G p l e s m below meth c b D cT cL cD ac 3304 i (B + 401) (cells + 0) (slots + 0) (s_pc st).2.2) : lw_G p l e s m below meth c b D cT cL cD ac 515 i B cells slots st := by
  intro d0 H locs ls adC adM o1 o2 v1 v2 Z I A J B1 hd0 hV hr hm hk hl
  have hx := C0.1
  have hb := C0.2.1
  have hX : va_X b L xs (s.setDrawn d0) (s.setDrawn d0).heap := C0.2.2.2.2.2.2.2.2.2.1
  have hbl : b < s.heap.size := C0.2.2.2.2.2.2.2.2.2.2.1
  refine lv_aload_n hx hb dL_law_515 rfl (lv_at hl 4 rfl) ?_
  refine lw_ccall (rest := []) C0 hV (hc_processCount hB hk hr) okX11_processCount rfl (ab_in 676 (by decide +kernel) rfl) (ab_in 677 (by decide +kernel) rfl) (ab_in 678 (by decide +kernel) rfl) dL_law_516 rfl hl.1 (Nat.le_of_ble_eq_true rfl) (Nat.le_of_ble_eq_true rfl) hc hs (fun _ _ _ _ z => by obtain ⟨_, _, j, hj, _⟩ := z; exact nomatch hj) (fun r1 sh1 I1 A1 ad1 H1 locs1 hp had hV1 => ?_)
  obtain ⟨Z1, rfl, r, rfl, hk1, hk2, hr1⟩ := hp
  have hV1 := hV1 Z1 rfl
  rw [lb_C had] at hl
  refine lv_aload_n hx hb dL_law_519 rfl (lv_at hl 3 rfl) ?_
  refine lw_mcall (as := []) (rest := [.int r]) C0 hV1 (hm_processCount hB hk hm) okX12_processCount rfl (ab_in 2157 (by decide +kernel) rfl) (ab_in 2158 (by decide +kernel) rfl) (ab_in 2159 (by decide +kernel) rfl) dL_law_520 rfl (fun v hv => absurd hv List.not_mem_nil) rfl hl.1 (Nat.le_of_ble_eq_true rfl) (Nat.le_of_ble_eq_true rfl) (by omega) (by omega) (fun _ _ _ _ z => z.2) (fun r2 sh1 J2 B2 ad2 H2 locs2 hp had2 hV2 => ?_)
  obtain ⟨rfl, x, rfl, hm1, hm5, hmx⟩ := hp
  have hV2 := hV2 rfl
  rw [lb_M had2] at hl
  exact lv_icmp_eq (tgt := 3304) hx hb dL_law_523 (by decide) (fun _ => kk d0 H2 locs2 ls ad1 ad2 o1 o2 v1 v2 Z1 I1 A1 J2 B2 hd0 hV2 hr1 hm1 (ik_processCount hB hk hm) hl) (fun hn => absurd ((hk2 rfl).trans (hmx hk1.symm).symm) hn)
theorem la_frameCount (C0 : lw_X p l s m meth c b L xs D cT cL cD ac) {i B cells slots : Nat} {st : st_S} (hi : i + 6 ≤ L) (hL : L ≤ 3072) (hB : B + 401 < 2 ^ 24) (hc : cells + 0 ≤ 603072) (hs : slots + 0 ≤ 7186538) (kk : lw_G p l e s m below meth c b D cT cL cD ac 3304 i (B + 401) (cells + 0) (slots + 0) (s_fc st).2.2) : lw_G p l e s m below meth c b D cT cL cD ac 528 i B cells slots st := by
  intro d0 H locs ls adC adM o1 o2 v1 v2 Z I A J B1 hd0 hV hr hm hk hl
  have hx := C0.1
  have hb := C0.2.1
  have hX : va_X b L xs (s.setDrawn d0) (s.setDrawn d0).heap := C0.2.2.2.2.2.2.2.2.2.1
  have hbl : b < s.heap.size := C0.2.2.2.2.2.2.2.2.2.2.1
  refine lv_aload_n hx hb dL_law_528 rfl (lv_at hl 4 rfl) ?_
  refine lw_ccall (rest := []) C0 hV (hc_frameCount hB hk hr) okX11_frameCount rfl (ab_in 680 (by decide +kernel) rfl) (ab_in 681 (by decide +kernel) rfl) (ab_in 682 (by decide +kernel) rfl) dL_law_529 rfl hl.1 (Nat.le_of_ble_eq_true rfl) (Nat.le_of_ble_eq_true rfl) hc hs (fun _ _ _ _ z => by obtain ⟨_, _, j, hj, _⟩ := z; exact nomatch hj) (fun r1 sh1 I1 A1 ad1 H1 locs1 hp had hV1 => ?_)
  obtain ⟨Z1, rfl, r, rfl, hk1, hk2, hr1⟩ := hp
  have hV1 := hV1 Z1 rfl
  rw [lb_C had] at hl
  refine lv_aload_n hx hb dL_law_532 rfl (lv_at hl 3 rfl) ?_
  refine lw_mcall (as := []) (rest := [.int r]) C0 hV1 (hm_frameCount hB hk hm) okX12_frameCount rfl (ab_in 2161 (by decide +kernel) rfl) (ab_in 2162 (by decide +kernel) rfl) (ab_in 2163 (by decide +kernel) rfl) dL_law_533 rfl (fun v hv => absurd hv List.not_mem_nil) rfl hl.1 (Nat.le_of_ble_eq_true rfl) (Nat.le_of_ble_eq_true rfl) (by omega) (by omega) (fun _ _ _ _ z => z.2) (fun r2 sh1 J2 B2 ad2 H2 locs2 hp had2 hV2 => ?_)
  obtain ⟨rfl, x, rfl, hm1, hm5, hmx⟩ := hp
  have hV2 := hV2 rfl
  rw [lb_M had2] at hl
  exact lv_icmp_eq (tgt := 3304) hx hb dL_law_536 (by decide) (fun _ => kk d0 H2 locs2 ls ad1 ad2 o1 o2 v1 v2 Z1 I1 A1 J2 B2 hd0 hV2 hr1 hm1 (ik_frameCount hB hk hm) hl) (fun hn => absurd ((hk2 rfl).trans (hmx hk1.symm).symm) hn)
theorem la_slotCount (C0 : lw_X p l s m meth c b L xs D cT cL cD ac) {i B cells slots : Nat} {st : st_S} (hi : i + 6 ≤ L) (hL : L ≤ 3072) (hB : B + 401 < 2 ^ 24) (hc : cells + 0 ≤ 603072) (hs : slots + 0 ≤ 7186538) (kk : lw_G p l e s m below meth c b D cT cL cD ac 3304 i (B + 401) (cells + 0) (slots + 0) (s_sc st).2.2) : lw_G p l e s m below meth c b D cT cL cD ac 541 i B cells slots st := by
  intro d0 H locs ls adC adM o1 o2 v1 v2 Z I A J B1 hd0 hV hr hm hk hl
  have hx := C0.1
  have hb := C0.2.1
  have hX : va_X b L xs (s.setDrawn d0) (s.setDrawn d0).heap := C0.2.2.2.2.2.2.2.2.2.1
  have hbl : b < s.heap.size := C0.2.2.2.2.2.2.2.2.2.2.1
  refine lv_aload_n hx hb dL_law_541 rfl (lv_at hl 4 rfl) ?_
  refine lw_ccall (rest := []) C0 hV (hc_slotCount hB hk hr) okX11_slotCount rfl (ab_in 684 (by decide +kernel) rfl) (ab_in 685 (by decide +kernel) rfl) (ab_in 686 (by decide +kernel) rfl) dL_law_542 rfl hl.1 (Nat.le_of_ble_eq_true rfl) (Nat.le_of_ble_eq_true rfl) hc hs (fun _ _ _ _ z => by obtain ⟨_, _, j, hj, _⟩ := z; exact nomatch hj) (fun r1 sh1 I1 A1 ad1 H1 locs1 hp had hV1 => ?_)
  obtain ⟨Z1, rfl, r, rfl, hk1, hk2, hr1⟩ := hp
  have hV1 := hV1 Z1 rfl
  rw [lb_C had] at hl
  refine lv_aload_n hx hb dL_law_545 rfl (lv_at hl 3 rfl) ?_
  refine lw_mcall (as := []) (rest := [.int r]) C0 hV1 (hm_slotCount hB hk hm) okX12_slotCount rfl (ab_in 2165 (by decide +kernel) rfl) (ab_in 2166 (by decide +kernel) rfl) (ab_in 2167 (by decide +kernel) rfl) dL_law_546 rfl (fun v hv => absurd hv List.not_mem_nil) rfl hl.1 (Nat.le_of_ble_eq_true rfl) (Nat.le_of_ble_eq_true rfl) (by omega) (by omega) (fun _ _ _ _ z => z.2) (fun r2 sh1 J2 B2 ad2 H2 locs2 hp had2 hV2 => ?_)
  obtain ⟨rfl, x, rfl, hm1, hm5, hmx⟩ := hp
  have hV2 := hV2 rfl
  rw [lb_M had2] at hl
  exact lv_icmp_eq (tgt := 3304) hx hb dL_law_549 (by decide) (fun _ => kk d0 H2 locs2 ls ad1 ad2 o1 o2 v1 v2 Z1 I1 A1 J2 B2 hd0 hV2 hr1 hm1 (ik_slotCount hB hk hm) hl) (fun hn => absurd ((hk2 rfl).trans (hmx hk1.symm).symm) hn)
theorem la_epoch (C0 : lw_X p l s m meth c b L xs D cT cL cD ac) {i B cells slots : Nat} {st : st_S} (hi : i + 6 ≤ L) (hL : L ≤ 3072) (hB : B + 401 < 2 ^ 24) (hc : cells + 0 ≤ 603072) (hs : slots + 0 ≤ 7186538) (kk : lw_G p l e s m below meth c b D cT cL cD ac 3304 i (B + 401) (cells + 0) (slots + 0) (s_epo st).2.2) : lw_G p l e s m below meth c b D cT cL cD ac 554 i B cells slots st := by
  intro d0 H locs ls adC adM o1 o2 v1 v2 Z I A J B1 hd0 hV hr hm hk hl
  have hx := C0.1
  have hb := C0.2.1
  have hX : va_X b L xs (s.setDrawn d0) (s.setDrawn d0).heap := C0.2.2.2.2.2.2.2.2.2.1
  have hbl : b < s.heap.size := C0.2.2.2.2.2.2.2.2.2.2.1
  refine lv_aload_n hx hb dL_law_554 rfl (lv_at hl 4 rfl) ?_
  refine lw_ccall (rest := []) C0 hV (hc_epoch hB hk hr) okX11_epoch rfl (ab_in 688 (by decide +kernel) rfl) (ab_in 689 (by decide +kernel) rfl) (ab_in 690 (by decide +kernel) rfl) dL_law_555 rfl hl.1 (Nat.le_of_ble_eq_true rfl) (Nat.le_of_ble_eq_true rfl) hc hs (fun _ _ _ _ z => by obtain ⟨_, _, j, hj, _⟩ := z; exact nomatch hj) (fun r1 sh1 I1 A1 ad1 H1 locs1 hp had hV1 => ?_)
  obtain ⟨Z1, rfl, r, rfl, hk1, hk2, hr1⟩ := hp
  have hV1 := hV1 Z1 rfl
  rw [lb_C had] at hl
  refine lv_aload_n hx hb dL_law_558 rfl (lv_at hl 3 rfl) ?_
  refine lw_mcall (as := []) (rest := [.int r]) C0 hV1 (hm_epoch hB hk hm) okX12_epoch rfl (ab_in 2169 (by decide +kernel) rfl) (ab_in 2170 (by decide +kernel) rfl) (ab_in 2171 (by decide +kernel) rfl) dL_law_559 rfl (fun v hv => absurd hv List.not_mem_nil) rfl hl.1 (Nat.le_of_ble_eq_true rfl) (Nat.le_of_ble_eq_true rfl) (by omega) (by omega) (fun _ _ _ _ z => z.2) (fun r2 sh1 J2 B2 ad2 H2 locs2 hp had2 hV2 => ?_)
  obtain ⟨rfl, x, rfl, hm1, hm5, hmx⟩ := hp
  have hV2 := hV2 rfl
  rw [lb_M had2] at hl
  exact lv_icmp_eq (tgt := 3304) hx hb dL_law_562 (by decide) (fun _ => kk d0 H2 locs2 ls ad1 ad2 o1 o2 v1 v2 Z1 I1 A1 J2 B2 hd0 hV2 hr1 hm1 (ik_epoch hB hk hm) hl) (fun hn => absurd ((hk2 rfl).trans (hmx hk1.symm).symm) hn)
theorem cz_readPage {st : st_S} {x0 x1 : Int32} {k : Nat} (h : k = (s_read st x0 x1).1) (hz : nI k = 0) : k = 0 := by
  have hc : k ≤ 3 := by
    rw [h]
    unfold s_read
    (repeat' split) <;> exact Nat.le_of_ble_eq_true rfl
  have h1 : k = 0 ∨ k = 1 ∨ k = 2 ∨ k = 3 := by omega
  rcases h1 with e | e | e | e <;> subst e <;> first | rfl | exact absurd hz (by decide)
theorem la_readPage (C0 : lw_X p l s m meth c b L xs D cT cL cD ac) {i B cells slots : Nat} {st : st_S} (hi : i + 6 ≤ L) (hL : L ≤ 3072) (hB : B + 401 < 2 ^ 24) (hc : cells + 25 ≤ 603072) (hs : slots + 906 ≤ 7186538) (kk : lw_G p l e s m below meth c b D cT cL cD ac 3304 i (B + 401) (cells + 25) (slots + 906) (s_read st (xs (i + 1)) (xs (i + 2))).2.2) : lw_G p l e s m below meth c b D cT cL cD ac 567 i B cells slots st := by
  intro d0 H locs ls adC adM o1 o2 v1 v2 Z I A J B1 hd0 hV hr hm hk hl
  have hx := C0.1
  have hb := C0.2.1
  have hX : va_X b L xs (s.setDrawn d0) (s.setDrawn d0).heap := C0.2.2.2.2.2.2.2.2.2.1
  have hbl : b < s.heap.size := C0.2.2.2.2.2.2.2.2.2.2.1
  refine lv_aload_n hx hb dL_law_567 rfl (lv_at hl 4 rfl) ?_
  refine lv_aload_n hx hb dL_law_568 rfl (lv_at hl 5 rfl) ?_
  refine lv_iload hx hb dL_law_569 (lv_at hl 0 rfl) ?_
  refine lv_iconst (v := nI 1) hx hb dL_law_571 (by decide) ?_
  refine lv_iadd hx hb dL_law_572 ?_
  rw [nI_add]
  refine va_sld (L := L) hx hb hX hbl (show ¬ s.heap.size ≤ b from Nat.not_le_of_lt hbl) hV.2.2.2 (vp_in_nI (by omega) (by omega)) dL_law_573 ?_
  rw [nI_clamp (by omega)]
  refine lv_aload_n hx hb dL_law_574 rfl (lv_at hl 5 rfl) ?_
  refine lv_iload hx hb dL_law_575 (lv_at hl 0 rfl) ?_
  refine lv_iconst (v := nI 2) hx hb dL_law_577 (by decide) ?_
  refine lv_iadd hx hb dL_law_578 ?_
  rw [nI_add]
  refine va_sld (L := L) hx hb hX hbl (show ¬ s.heap.size ≤ b from Nat.not_le_of_lt hbl) hV.2.2.2 (vp_in_nI (by omega) (by omega)) dL_law_579 ?_
  rw [nI_clamp (by omega)]
  refine lv_aload_n hx hb dL_law_580 rfl (lv_at hl 2 rfl) ?_
  refine lw_wcall (as := [.int (xs (i + 1)), .int (xs (i + 2))]) (na := 2) (rest := []) C0 hV (wr_readPage C0.2.2.2.2.2.2.2.2.1 (hc_readPage hB hk hr) hV.1.1) ⟨by decide, by decide, by decide +kernel⟩ (ab_in 1493 (by decide +kernel) rfl) (ab_in 1491 (by decide +kernel) rfl) (ab_in 1492 (by decide +kernel) rfl) (ab_in 95 (by decide +kernel) rfl) dL_law_581 rfl rfl hl.1 (Nat.le_of_ble_eq_true rfl) (Nat.le_of_ble_eq_true rfl) (Nat.le_of_ble_eq_true rfl) hc hs (fun k r Z1 I1 A1 ad1 v3 H1 locs1 hK hv3 had hV1 => ?_)
  obtain ⟨hk1, hk2, hr1⟩ := hK
  rw [lb_C had] at hl
  refine lv_istore (lv' := (6, .int (nI k)) :: LB b ad1 adM o1 o2 i) hx hb dL_law_584 hl (by decide) rfl (fun ls hl => ?_)
  refine lv_aload_n hx hb dL_law_586 rfl (lv_at hl 4 rfl) ?_
  refine lv_aload_n hx hb dL_law_587 rfl (lv_at hl 6 rfl) ?_
  refine lv_iload hx hb dL_law_588 (lv_at hl 1 rfl) ?_
  refine lv_iconst (v := nI 1) hx hb dL_law_590 (by decide) ?_
  refine lv_iadd hx hb dL_law_591 ?_
  rw [nI_add]
  refine va_sld (L := L) hx hb hX hbl (show ¬ s.heap.size ≤ b from Nat.not_le_of_lt hbl) hV1.2.2.2 (vp_in_nI (by omega) (by omega)) dL_law_592 ?_
  rw [nI_clamp (by omega)]
  refine lv_aload_n hx hb dL_law_593 rfl (lv_at hl 6 rfl) ?_
  refine lv_iload hx hb dL_law_594 (lv_at hl 1 rfl) ?_
  refine lv_iconst (v := nI 2) hx hb dL_law_596 (by decide) ?_
  refine lv_iadd hx hb dL_law_597 ?_
  rw [nI_add]
  refine va_sld (L := L) hx hb hX hbl (show ¬ s.heap.size ≤ b from Nat.not_le_of_lt hbl) hV1.2.2.2 (vp_in_nI (by omega) (by omega)) dL_law_598 ?_
  rw [nI_clamp (by omega)]
  refine lw_mcall (as := [.int (xs (i + 1)), .int (xs (i + 2))]) (rest := []) C0 hV1 (hm_readPage hB hk hm) okX12_readPage rfl (ab_in 2173 (by decide +kernel) rfl) (ab_in 2174 (by decide +kernel) rfl) (ab_in 2175 (by decide +kernel) rfl) dL_law_599 rfl (fun v hv => by simp only [List.mem_cons, List.not_mem_nil, or_false] at hv; rcases hv with h | h <;> subst h <;> exact trivial) rfl hl.1 (Nat.le_of_ble_eq_true rfl) (Nat.le_of_ble_eq_true rfl) (by omega) (by omega) (fun _ _ _ _ z => z.2) (fun r2 sh1 J2 B2 ad2 H2 locs2 hp had2 hV2 => ?_)
  obtain ⟨rfl, x, rfl, hm1, hm5, hmx⟩ := hp
  have hV2 := hV2 rfl
  rw [lb_M had2] at hl
  refine lv_istore (lv' := (7, .int x) :: (6, .int (nI k)) :: LB b ad1 ad2 o1 o2 i) hx hb dL_law_602 hl (by decide) rfl (fun ls hl => ?_)
  refine lv_aload_n hx hb dL_law_604 rfl (lv_at hl 5 rfl) ?_
  refine lw_mcall (as := []) (rest := []) C0 hV2 (ctX12_thrown (K := fun r3 J3 B3 => r3 = J2 0 5 ∧ J2 = J3 ∧ B2 = B3) ⟨rfl, rfl, rfl⟩) okX12_thrown rfl (ab_in 2052 (by decide +kernel) rfl) (ab_in 2053 (by decide +kernel) rfl) (ab_in 2054 (by decide +kernel) rfl) dL_law_605 rfl (fun v hv => absurd hv List.not_mem_nil) rfl hl.1 (Nat.le_of_ble_eq_true rfl) (Nat.le_of_ble_eq_true rfl) (by omega) (by omega) (fun _ _ _ _ z => z.2) (fun r4 sh1 J3 B3 ad3 H3 locs3 hp had3 hV3 => ?_)
  obtain ⟨rfl, y, rfl, rfl, rfl, rfl⟩ := hp
  have hV3 := hV3 rfl
  rw [lb_M had3] at hl
  refine lv_iload hx hb dL_law_608 (lv_at hl 1 rfl) ?_
  refine lv_icmp_eq (tgt := 615) hx hb dL_law_610 (by decide) (fun _ => ?_) (fun hn => absurd (hm5.trans (by rw [hk1])) hn)
  have hfin := fun ls (hl : lv_has ls 8 ((7, .int x) :: (6, .int (nI k)) :: LB b ad1 ad3 o1 o2 i)) => kk d0 H3 locs3 ls ad1 ad3 o1 o2 v3 v2 Z1 I1 A1 J2 B2 hd0 hV3 hr1 hm1 (ik_readPage hB hk hm) (lv_sub hl [2, 3, 4, 5, 6, 7] rfl)
  refine lv_iload hx hb dL_law_615 (lv_at hl 1 rfl) ?_
  refine lv_if_ne (tgt := 632) hx hb dL_law_617 (by decide) (fun _ => ?_) (fun hz => ?_)
  · refine lv_goto (tgt := 3304) hx hb dL_law_632 (by decide) (hfin ls hl)
  · have hk0 : k = 0 := by
      exact cz_readPage hk1 hz
    refine lv_aload_n hx hb dL_law_620 rfl (lv_at hl 4 rfl) ?_
    refine lv_iconst (v := 0) hx hb dL_law_621 (by decide) ?_
    refine va_lald (i := 0) hx hb (va_K.moved (u := s) (U := s.setDrawn d0) (Vm.Alike.refl s.vm) C0.2.2.2.2.2.2.1) hV3.1.2.2.2.1 0 3 rfl rfl (by unfold vp_in; decide) dL_law_622 ?_
    refine lv_iload hx hb dL_law_623 (lv_at hl 0 rfl) ?_
    refine lv_i2l (v := x.toInt64) hx hb dL_law_625 rfl ?_
    refine W.lcmp hx hb dL_law_626 ?_
    rw [show (v3 (0 : Int32).toNatClampNeg) = x.toInt64 by rw [sb_cl0, hv3 hk0, hk2 hk0, hmx (hk1.symm.trans hk0)], lg_same]
    refine lv_if_eq (tgt := 632) hx hb dL_law_627 (by decide) (fun _ => ?_) (fun hn => absurd rfl hn)
    exact lv_goto (tgt := 3304) hx hb dL_law_632 (by decide) (hfin ls hl)
theorem cz_writePage {st : st_S} {x0 x1 x2 : Int32} {k : Nat} (h : k = (s_write st x0 x1 x2).1) (hz : nI k = 0) : k = 0 := by
  have hc : k ≤ 3 := by
    rw [h]
    unfold s_write
    (repeat' split) <;> exact Nat.le_of_ble_eq_true rfl
  have h1 : k = 0 ∨ k = 1 ∨ k = 2 ∨ k = 3 := by omega
  rcases h1 with e | e | e | e <;> subst e <;> first | rfl | exact absurd hz (by decide)
theorem la_writePage (C0 : lw_X p l s m meth c b L xs D cT cL cD ac) {i B cells slots : Nat} {st : st_S} (hi : i + 6 ≤ L) (hL : L ≤ 3072) (hB : B + 401 < 2 ^ 24) (hc : cells + 25 ≤ 603072) (hs : slots + 906 ≤ 7186538) (kk : lw_G p l e s m below meth c b D cT cL cD ac 3304 i (B + 401) (cells + 25) (slots + 906) (s_write st (xs (i + 1)) (xs (i + 2)) (xs (i + 3))).2.2) : lw_G p l e s m below meth c b D cT cL cD ac 635 i B cells slots st := by
  intro d0 H locs ls adC adM o1 o2 v1 v2 Z I A J B1 hd0 hV hr hm hk hl
  have hx := C0.1
  have hb := C0.2.1
  have hX : va_X b L xs (s.setDrawn d0) (s.setDrawn d0).heap := C0.2.2.2.2.2.2.2.2.2.1
  have hbl : b < s.heap.size := C0.2.2.2.2.2.2.2.2.2.2.1
  refine lv_aload_n hx hb dL_law_635 rfl (lv_at hl 4 rfl) ?_
  refine lv_aload_n hx hb dL_law_636 rfl (lv_at hl 5 rfl) ?_
  refine lv_iload hx hb dL_law_637 (lv_at hl 0 rfl) ?_
  refine lv_iconst (v := nI 1) hx hb dL_law_639 (by decide) ?_
  refine lv_iadd hx hb dL_law_640 ?_
  rw [nI_add]
  refine va_sld (L := L) hx hb hX hbl (show ¬ s.heap.size ≤ b from Nat.not_le_of_lt hbl) hV.2.2.2 (vp_in_nI (by omega) (by omega)) dL_law_641 ?_
  rw [nI_clamp (by omega)]
  refine lv_aload_n hx hb dL_law_642 rfl (lv_at hl 5 rfl) ?_
  refine lv_iload hx hb dL_law_643 (lv_at hl 0 rfl) ?_
  refine lv_iconst (v := nI 2) hx hb dL_law_645 (by decide) ?_
  refine lv_iadd hx hb dL_law_646 ?_
  rw [nI_add]
  refine va_sld (L := L) hx hb hX hbl (show ¬ s.heap.size ≤ b from Nat.not_le_of_lt hbl) hV.2.2.2 (vp_in_nI (by omega) (by omega)) dL_law_647 ?_
  rw [nI_clamp (by omega)]
  refine lv_aload_n hx hb dL_law_648 rfl (lv_at hl 5 rfl) ?_
  refine lv_iload hx hb dL_law_649 (lv_at hl 0 rfl) ?_
  refine lv_iconst (v := nI 3) hx hb dL_law_651 (by decide) ?_
  refine lv_iadd hx hb dL_law_652 ?_
  rw [nI_add]
  refine va_sld (L := L) hx hb hX hbl (show ¬ s.heap.size ≤ b from Nat.not_le_of_lt hbl) hV.2.2.2 (vp_in_nI (by omega) (by omega)) dL_law_653 ?_
  rw [nI_clamp (by omega)]
  refine lv_aload_n hx hb dL_law_654 rfl (lv_at hl 2 rfl) ?_
  refine lw_wcall (as := [.int (xs (i + 1)), .int (xs (i + 2)), .int (xs (i + 3))]) (na := 3) (rest := []) C0 hV (wr_writePage C0.2.2.2.2.2.2.2.2.1 (hc_writePage hB hk hr) hV.1.1) ⟨by decide, by decide, by decide +kernel⟩ (ab_in 1505 (by decide +kernel) rfl) (ab_in 1503 (by decide +kernel) rfl) (ab_in 1504 (by decide +kernel) rfl) (ab_in 95 (by decide +kernel) rfl) dL_law_655 rfl rfl hl.1 (Nat.le_of_ble_eq_true rfl) (Nat.le_of_ble_eq_true rfl) (Nat.le_of_ble_eq_true rfl) hc hs (fun k r Z1 I1 A1 ad1 v3 H1 locs1 hK hv3 had hV1 => ?_)
  obtain ⟨hk1, hk2, hr1⟩ := hK
  rw [lb_C had] at hl
  refine lv_istore (lv' := (6, .int (nI k)) :: LB b ad1 adM o1 o2 i) hx hb dL_law_658 hl (by decide) rfl (fun ls hl => ?_)
  refine lv_aload_n hx hb dL_law_660 rfl (lv_at hl 4 rfl) ?_
  refine lv_aload_n hx hb dL_law_661 rfl (lv_at hl 6 rfl) ?_
  refine lv_iload hx hb dL_law_662 (lv_at hl 1 rfl) ?_
  refine lv_iconst (v := nI 1) hx hb dL_law_664 (by decide) ?_
  refine lv_iadd hx hb dL_law_665 ?_
  rw [nI_add]
  refine va_sld (L := L) hx hb hX hbl (show ¬ s.heap.size ≤ b from Nat.not_le_of_lt hbl) hV1.2.2.2 (vp_in_nI (by omega) (by omega)) dL_law_666 ?_
  rw [nI_clamp (by omega)]
  refine lv_aload_n hx hb dL_law_667 rfl (lv_at hl 6 rfl) ?_
  refine lv_iload hx hb dL_law_668 (lv_at hl 1 rfl) ?_
  refine lv_iconst (v := nI 2) hx hb dL_law_670 (by decide) ?_
  refine lv_iadd hx hb dL_law_671 ?_
  rw [nI_add]
  refine va_sld (L := L) hx hb hX hbl (show ¬ s.heap.size ≤ b from Nat.not_le_of_lt hbl) hV1.2.2.2 (vp_in_nI (by omega) (by omega)) dL_law_672 ?_
  rw [nI_clamp (by omega)]
  refine lv_aload_n hx hb dL_law_673 rfl (lv_at hl 6 rfl) ?_
  refine lv_iload hx hb dL_law_674 (lv_at hl 1 rfl) ?_
  refine lv_iconst (v := nI 3) hx hb dL_law_676 (by decide) ?_
  refine lv_iadd hx hb dL_law_677 ?_
  rw [nI_add]
  refine va_sld (L := L) hx hb hX hbl (show ¬ s.heap.size ≤ b from Nat.not_le_of_lt hbl) hV1.2.2.2 (vp_in_nI (by omega) (by omega)) dL_law_678 ?_
  rw [nI_clamp (by omega)]
  refine lw_mcall (as := [.int (xs (i + 1)), .int (xs (i + 2)), .int (xs (i + 3))]) (rest := []) C0 hV1 (hm_writePage hB hk hm) okX12_writePage rfl (ab_in 2263 (by decide +kernel) rfl) (ab_in 2264 (by decide +kernel) rfl) (ab_in 2265 (by decide +kernel) rfl) dL_law_679 rfl (fun v hv => by simp only [List.mem_cons, List.not_mem_nil, or_false] at hv; rcases hv with h | h | h <;> subst h <;> exact trivial) rfl hl.1 (Nat.le_of_ble_eq_true rfl) (Nat.le_of_ble_eq_true rfl) (by omega) (by omega) (fun _ _ _ _ z => z.2) (fun r2 sh1 J2 B2 ad2 H2 locs2 hp had2 hV2 => ?_)
  obtain ⟨rfl, x, rfl, hm1, hm5, hmx⟩ := hp
  have hV2 := hV2 rfl
  rw [lb_M had2] at hl
  refine lv_istore (lv' := (7, .int x) :: (6, .int (nI k)) :: LB b ad1 ad2 o1 o2 i) hx hb dL_law_682 hl (by decide) rfl (fun ls hl => ?_)
  refine lv_aload_n hx hb dL_law_684 rfl (lv_at hl 5 rfl) ?_
  refine lw_mcall (as := []) (rest := []) C0 hV2 (ctX12_thrown (K := fun r3 J3 B3 => r3 = J2 0 5 ∧ J2 = J3 ∧ B2 = B3) ⟨rfl, rfl, rfl⟩) okX12_thrown rfl (ab_in 2052 (by decide +kernel) rfl) (ab_in 2053 (by decide +kernel) rfl) (ab_in 2054 (by decide +kernel) rfl) dL_law_685 rfl (fun v hv => absurd hv List.not_mem_nil) rfl hl.1 (Nat.le_of_ble_eq_true rfl) (Nat.le_of_ble_eq_true rfl) (by omega) (by omega) (fun _ _ _ _ z => z.2) (fun r4 sh1 J3 B3 ad3 H3 locs3 hp had3 hV3 => ?_)
  obtain ⟨rfl, y, rfl, rfl, rfl, rfl⟩ := hp
  have hV3 := hV3 rfl
  rw [lb_M had3] at hl
  refine lv_iload hx hb dL_law_688 (lv_at hl 1 rfl) ?_
  refine lv_icmp_eq (tgt := 695) hx hb dL_law_690 (by decide) (fun _ => ?_) (fun hn => absurd (hm5.trans (by rw [hk1])) hn)
  have hfin := fun ls (hl : lv_has ls 8 ((7, .int x) :: (6, .int (nI k)) :: LB b ad1 ad3 o1 o2 i)) => kk d0 H3 locs3 ls ad1 ad3 o1 o2 v3 v2 Z1 I1 A1 J2 B2 hd0 hV3 hr1 hm1 (ik_writePage hB hk hm) (lv_sub hl [2, 3, 4, 5, 6, 7] rfl)
  refine lv_iload hx hb dL_law_695 (lv_at hl 1 rfl) ?_
  refine lv_if_ne (tgt := 712) hx hb dL_law_697 (by decide) (fun _ => ?_) (fun hz => ?_)
  · refine lv_goto (tgt := 3304) hx hb dL_law_712 (by decide) (hfin ls hl)
  · have hk0 : k = 0 := by
      exact cz_writePage hk1 hz
    refine lv_aload_n hx hb dL_law_700 rfl (lv_at hl 4 rfl) ?_
    refine lv_iconst (v := 0) hx hb dL_law_701 (by decide) ?_
    refine va_lald (i := 0) hx hb (va_K.moved (u := s) (U := s.setDrawn d0) (Vm.Alike.refl s.vm) C0.2.2.2.2.2.2.1) hV3.1.2.2.2.1 0 3 rfl rfl (by unfold vp_in; decide) dL_law_702 ?_
    refine lv_iload hx hb dL_law_703 (lv_at hl 0 rfl) ?_
    refine lv_i2l (v := x.toInt64) hx hb dL_law_705 rfl ?_
    refine W.lcmp hx hb dL_law_706 ?_
    rw [show (v3 (0 : Int32).toNatClampNeg) = x.toInt64 by rw [sb_cl0, hv3 hk0, hk2 hk0, hmx (hk1.symm.trans hk0)], lg_same]
    refine lv_if_eq (tgt := 712) hx hb dL_law_707 (by decide) (fun _ => ?_) (fun hn => absurd rfl hn)
    exact lv_goto (tgt := 3304) hx hb dL_law_712 (by decide) (hfin ls hl)
theorem cz_setPolicy {st : st_S} {x0 : Int32} {k : Nat} (h : k = (s_policy st x0).1) (hz : nI k = 0) : k = 0 := by
  have hc : k ≤ 3 := by
    rw [h]
    unfold s_policy
    (repeat' split) <;> exact Nat.le_of_ble_eq_true rfl
  have h1 : k = 0 ∨ k = 1 ∨ k = 2 ∨ k = 3 := by omega
  rcases h1 with e | e | e | e <;> subst e <;> first | rfl | exact absurd hz (by decide)
theorem la_setPolicy (C0 : lw_X p l s m meth c b L xs D cT cL cD ac) {i B cells slots : Nat} {st : st_S} (hi : i + 6 ≤ L) (hL : L ≤ 3072) (hB : B + 401 < 2 ^ 24) (hc : cells + 25 ≤ 603072) (hs : slots + 906 ≤ 7186538) (kk : lw_G p l e s m below meth c b D cT cL cD ac 3304 i (B + 401) (cells + 25) (slots + 906) (s_policy st (xs (i + 1))).2.2) : lw_G p l e s m below meth c b D cT cL cD ac 715 i B cells slots st := by
  intro d0 H locs ls adC adM o1 o2 v1 v2 Z I A J B1 hd0 hV hr hm hk hl
  have hx := C0.1
  have hb := C0.2.1
  have hX : va_X b L xs (s.setDrawn d0) (s.setDrawn d0).heap := C0.2.2.2.2.2.2.2.2.2.1
  have hbl : b < s.heap.size := C0.2.2.2.2.2.2.2.2.2.2.1
  refine lv_aload_n hx hb dL_law_715 rfl (lv_at hl 4 rfl) ?_
  refine lv_aload_n hx hb dL_law_716 rfl (lv_at hl 5 rfl) ?_
  refine lv_iload hx hb dL_law_717 (lv_at hl 0 rfl) ?_
  refine lv_iconst (v := nI 1) hx hb dL_law_719 (by decide) ?_
  refine lv_iadd hx hb dL_law_720 ?_
  rw [nI_add]
  refine va_sld (L := L) hx hb hX hbl (show ¬ s.heap.size ≤ b from Nat.not_le_of_lt hbl) hV.2.2.2 (vp_in_nI (by omega) (by omega)) dL_law_721 ?_
  rw [nI_clamp (by omega)]
  refine lv_aload_n hx hb dL_law_722 rfl (lv_at hl 2 rfl) ?_
  refine lw_wcall (as := [.int (xs (i + 1))]) (na := 1) (rest := []) C0 hV (wr_setPolicy C0.2.2.2.2.2.2.2.2.1 (hc_setPolicy hB hk hr) hV.1.1) ⟨by decide, by decide, by decide +kernel⟩ (ab_in 1514 (by decide +kernel) rfl) (ab_in 1512 (by decide +kernel) rfl) (ab_in 1513 (by decide +kernel) rfl) (ab_in 95 (by decide +kernel) rfl) dL_law_723 rfl rfl hl.1 (Nat.le_of_ble_eq_true rfl) (Nat.le_of_ble_eq_true rfl) (Nat.le_of_ble_eq_true rfl) hc hs (fun k r Z1 I1 A1 ad1 v3 H1 locs1 hK hv3 had hV1 => ?_)
  obtain ⟨hk1, hk2, hr1⟩ := hK
  rw [lb_C had] at hl
  refine lv_istore (lv' := (6, .int (nI k)) :: LB b ad1 adM o1 o2 i) hx hb dL_law_726 hl (by decide) rfl (fun ls hl => ?_)
  refine lv_aload_n hx hb dL_law_728 rfl (lv_at hl 4 rfl) ?_
  refine lv_aload_n hx hb dL_law_729 rfl (lv_at hl 6 rfl) ?_
  refine lv_iload hx hb dL_law_730 (lv_at hl 1 rfl) ?_
  refine lv_iconst (v := nI 1) hx hb dL_law_732 (by decide) ?_
  refine lv_iadd hx hb dL_law_733 ?_
  rw [nI_add]
  refine va_sld (L := L) hx hb hX hbl (show ¬ s.heap.size ≤ b from Nat.not_le_of_lt hbl) hV1.2.2.2 (vp_in_nI (by omega) (by omega)) dL_law_734 ?_
  rw [nI_clamp (by omega)]
  refine lw_mcall (as := [.int (xs (i + 1))]) (rest := []) C0 hV1 (hm_setPolicy hB hk hm) okX12_setPolicy rfl (ab_in 2276 (by decide +kernel) rfl) (ab_in 2277 (by decide +kernel) rfl) (ab_in 2278 (by decide +kernel) rfl) dL_law_735 rfl (fun v hv => by rw [List.mem_singleton.mp hv]; exact trivial) rfl hl.1 (Nat.le_of_ble_eq_true rfl) (Nat.le_of_ble_eq_true rfl) (by omega) (by omega) (fun _ _ _ _ z => z.2) (fun r2 sh1 J2 B2 ad2 H2 locs2 hp had2 hV2 => ?_)
  obtain ⟨rfl, x, rfl, hm1, hm5, hmx⟩ := hp
  have hV2 := hV2 rfl
  rw [lb_M had2] at hl
  refine lv_istore (lv' := (7, .int x) :: (6, .int (nI k)) :: LB b ad1 ad2 o1 o2 i) hx hb dL_law_738 hl (by decide) rfl (fun ls hl => ?_)
  refine lv_aload_n hx hb dL_law_740 rfl (lv_at hl 5 rfl) ?_
  refine lw_mcall (as := []) (rest := []) C0 hV2 (ctX12_thrown (K := fun r3 J3 B3 => r3 = J2 0 5 ∧ J2 = J3 ∧ B2 = B3) ⟨rfl, rfl, rfl⟩) okX12_thrown rfl (ab_in 2052 (by decide +kernel) rfl) (ab_in 2053 (by decide +kernel) rfl) (ab_in 2054 (by decide +kernel) rfl) dL_law_741 rfl (fun v hv => absurd hv List.not_mem_nil) rfl hl.1 (Nat.le_of_ble_eq_true rfl) (Nat.le_of_ble_eq_true rfl) (by omega) (by omega) (fun _ _ _ _ z => z.2) (fun r4 sh1 J3 B3 ad3 H3 locs3 hp had3 hV3 => ?_)
  obtain ⟨rfl, y, rfl, rfl, rfl, rfl⟩ := hp
  have hV3 := hV3 rfl
  rw [lb_M had3] at hl
  refine lv_iload hx hb dL_law_744 (lv_at hl 1 rfl) ?_
  refine lv_icmp_eq (tgt := 751) hx hb dL_law_746 (by decide) (fun _ => ?_) (fun hn => absurd (hm5.trans (by rw [hk1])) hn)
  have hfin := fun ls (hl : lv_has ls 8 ((7, .int x) :: (6, .int (nI k)) :: LB b ad1 ad3 o1 o2 i)) => kk d0 H3 locs3 ls ad1 ad3 o1 o2 v3 v2 Z1 I1 A1 J2 B2 hd0 hV3 hr1 hm1 (ik_setPolicy hB hk hm) (lv_sub hl [2, 3, 4, 5, 6, 7] rfl)
  refine lv_iload hx hb dL_law_751 (lv_at hl 1 rfl) ?_
  refine lv_if_ne (tgt := 768) hx hb dL_law_753 (by decide) (fun _ => ?_) (fun hz => ?_)
  · refine lv_goto (tgt := 3304) hx hb dL_law_768 (by decide) (hfin ls hl)
  · have hk0 : k = 0 := by
      exact cz_setPolicy hk1 hz
    refine lv_aload_n hx hb dL_law_756 rfl (lv_at hl 4 rfl) ?_
    refine lv_iconst (v := 0) hx hb dL_law_757 (by decide) ?_
    refine va_lald (i := 0) hx hb (va_K.moved (u := s) (U := s.setDrawn d0) (Vm.Alike.refl s.vm) C0.2.2.2.2.2.2.1) hV3.1.2.2.2.1 0 3 rfl rfl (by unfold vp_in; decide) dL_law_758 ?_
    refine lv_iload hx hb dL_law_759 (lv_at hl 0 rfl) ?_
    refine lv_i2l (v := x.toInt64) hx hb dL_law_761 rfl ?_
    refine W.lcmp hx hb dL_law_762 ?_
    rw [show (v3 (0 : Int32).toNatClampNeg) = x.toInt64 by rw [sb_cl0, hv3 hk0, hk2 hk0, hmx (hk1.symm.trans hk0)], lg_same]
    refine lv_if_eq (tgt := 768) hx hb dL_law_763 (by decide) (fun _ => ?_) (fun hn => absurd rfl hn)
    exact lv_goto (tgt := 3304) hx hb dL_law_768 (by decide) (hfin ls hl)
theorem cz_startBarrier {st : st_S} {x0 : Int32} {k : Nat} (h : k = (s_start st x0).1) (hz : nI k = 0) : k = 0 := by
  have hc : k ≤ 3 := by
    rw [h]
    unfold s_start
    (repeat' split) <;> exact Nat.le_of_ble_eq_true rfl
  have h1 : k = 0 ∨ k = 1 ∨ k = 2 ∨ k = 3 := by omega
  rcases h1 with e | e | e | e <;> subst e <;> first | rfl | exact absurd hz (by decide)
theorem la_startBarrier (C0 : lw_X p l s m meth c b L xs D cT cL cD ac) {i B cells slots : Nat} {st : st_S} (hi : i + 6 ≤ L) (hL : L ≤ 3072) (hB : B + 401 < 2 ^ 24) (hc : cells + 25 ≤ 603072) (hs : slots + 906 ≤ 7186538) (kk : lw_G p l e s m below meth c b D cT cL cD ac 3304 i (B + 401) (cells + 25) (slots + 906) (s_start st (xs (i + 1))).2.2) : lw_G p l e s m below meth c b D cT cL cD ac 771 i B cells slots st := by
  intro d0 H locs ls adC adM o1 o2 v1 v2 Z I A J B1 hd0 hV hr hm hk hl
  have hx := C0.1
  have hb := C0.2.1
  have hX : va_X b L xs (s.setDrawn d0) (s.setDrawn d0).heap := C0.2.2.2.2.2.2.2.2.2.1
  have hbl : b < s.heap.size := C0.2.2.2.2.2.2.2.2.2.2.1
  refine lv_aload_n hx hb dL_law_771 rfl (lv_at hl 4 rfl) ?_
  refine lv_aload_n hx hb dL_law_772 rfl (lv_at hl 5 rfl) ?_
  refine lv_iload hx hb dL_law_773 (lv_at hl 0 rfl) ?_
  refine lv_iconst (v := nI 1) hx hb dL_law_775 (by decide) ?_
  refine lv_iadd hx hb dL_law_776 ?_
  rw [nI_add]
  refine va_sld (L := L) hx hb hX hbl (show ¬ s.heap.size ≤ b from Nat.not_le_of_lt hbl) hV.2.2.2 (vp_in_nI (by omega) (by omega)) dL_law_777 ?_
  rw [nI_clamp (by omega)]
  refine lv_aload_n hx hb dL_law_778 rfl (lv_at hl 2 rfl) ?_
  refine lw_wcall (as := [.int (xs (i + 1))]) (na := 1) (rest := []) C0 hV (wr_startBarrier C0.2.2.2.2.2.2.2.2.1 (hc_startBarrier hB hk hr) hV.1.1) ⟨by decide, by decide, by decide +kernel⟩ (ab_in 1521 (by decide +kernel) rfl) (ab_in 1519 (by decide +kernel) rfl) (ab_in 1520 (by decide +kernel) rfl) (ab_in 95 (by decide +kernel) rfl) dL_law_779 rfl rfl hl.1 (Nat.le_of_ble_eq_true rfl) (Nat.le_of_ble_eq_true rfl) (Nat.le_of_ble_eq_true rfl) hc hs (fun k r Z1 I1 A1 ad1 v3 H1 locs1 hK hv3 had hV1 => ?_)
  obtain ⟨hk1, hk2, hr1⟩ := hK
  rw [lb_C had] at hl
  refine lv_istore (lv' := (6, .int (nI k)) :: LB b ad1 adM o1 o2 i) hx hb dL_law_782 hl (by decide) rfl (fun ls hl => ?_)
  refine lv_aload_n hx hb dL_law_784 rfl (lv_at hl 4 rfl) ?_
  refine lv_aload_n hx hb dL_law_785 rfl (lv_at hl 6 rfl) ?_
  refine lv_iload hx hb dL_law_786 (lv_at hl 1 rfl) ?_
  refine lv_iconst (v := nI 1) hx hb dL_law_788 (by decide) ?_
  refine lv_iadd hx hb dL_law_789 ?_
  rw [nI_add]
  refine va_sld (L := L) hx hb hX hbl (show ¬ s.heap.size ≤ b from Nat.not_le_of_lt hbl) hV1.2.2.2 (vp_in_nI (by omega) (by omega)) dL_law_790 ?_
  rw [nI_clamp (by omega)]
  refine lw_mcall (as := [.int (xs (i + 1))]) (rest := []) C0 hV1 (hm_startBarrier hB hk hm) okX12_startBarrier rfl (ab_in 2281 (by decide +kernel) rfl) (ab_in 2282 (by decide +kernel) rfl) (ab_in 2283 (by decide +kernel) rfl) dL_law_791 rfl (fun v hv => by rw [List.mem_singleton.mp hv]; exact trivial) rfl hl.1 (Nat.le_of_ble_eq_true rfl) (Nat.le_of_ble_eq_true rfl) (by omega) (by omega) (fun _ _ _ _ z => z.2) (fun r2 sh1 J2 B2 ad2 H2 locs2 hp had2 hV2 => ?_)
  obtain ⟨rfl, x, rfl, hm1, hm5, hmx⟩ := hp
  have hV2 := hV2 rfl
  rw [lb_M had2] at hl
  refine lv_istore (lv' := (7, .int x) :: (6, .int (nI k)) :: LB b ad1 ad2 o1 o2 i) hx hb dL_law_794 hl (by decide) rfl (fun ls hl => ?_)
  refine lv_aload_n hx hb dL_law_796 rfl (lv_at hl 5 rfl) ?_
  refine lw_mcall (as := []) (rest := []) C0 hV2 (ctX12_thrown (K := fun r3 J3 B3 => r3 = J2 0 5 ∧ J2 = J3 ∧ B2 = B3) ⟨rfl, rfl, rfl⟩) okX12_thrown rfl (ab_in 2052 (by decide +kernel) rfl) (ab_in 2053 (by decide +kernel) rfl) (ab_in 2054 (by decide +kernel) rfl) dL_law_797 rfl (fun v hv => absurd hv List.not_mem_nil) rfl hl.1 (Nat.le_of_ble_eq_true rfl) (Nat.le_of_ble_eq_true rfl) (by omega) (by omega) (fun _ _ _ _ z => z.2) (fun r4 sh1 J3 B3 ad3 H3 locs3 hp had3 hV3 => ?_)
  obtain ⟨rfl, y, rfl, rfl, rfl, rfl⟩ := hp
  have hV3 := hV3 rfl
  rw [lb_M had3] at hl
  refine lv_iload hx hb dL_law_800 (lv_at hl 1 rfl) ?_
  refine lv_icmp_eq (tgt := 807) hx hb dL_law_802 (by decide) (fun _ => ?_) (fun hn => absurd (hm5.trans (by rw [hk1])) hn)
  have hfin := fun ls (hl : lv_has ls 8 ((7, .int x) :: (6, .int (nI k)) :: LB b ad1 ad3 o1 o2 i)) => kk d0 H3 locs3 ls ad1 ad3 o1 o2 v3 v2 Z1 I1 A1 J2 B2 hd0 hV3 hr1 hm1 (ik_startBarrier hB hk hm) (lv_sub hl [2, 3, 4, 5, 6, 7] rfl)
  refine lv_iload hx hb dL_law_807 (lv_at hl 1 rfl) ?_
  refine lv_if_ne (tgt := 824) hx hb dL_law_809 (by decide) (fun _ => ?_) (fun hz => ?_)
  · refine lv_goto (tgt := 3304) hx hb dL_law_824 (by decide) (hfin ls hl)
  · have hk0 : k = 0 := by
      exact cz_startBarrier hk1 hz
    refine lv_aload_n hx hb dL_law_812 rfl (lv_at hl 4 rfl) ?_
    refine lv_iconst (v := 0) hx hb dL_law_813 (by decide) ?_
    refine va_lald (i := 0) hx hb (va_K.moved (u := s) (U := s.setDrawn d0) (Vm.Alike.refl s.vm) C0.2.2.2.2.2.2.1) hV3.1.2.2.2.1 0 3 rfl rfl (by unfold vp_in; decide) dL_law_814 ?_
    refine lv_iload hx hb dL_law_815 (lv_at hl 0 rfl) ?_
    refine lv_i2l (v := x.toInt64) hx hb dL_law_817 rfl ?_
    refine W.lcmp hx hb dL_law_818 ?_
    rw [show (v3 (0 : Int32).toNatClampNeg) = x.toInt64 by rw [sb_cl0, hv3 hk0, hk2 hk0, hmx (hk1.symm.trans hk0)], lg_same]
    refine lv_if_eq (tgt := 824) hx hb dL_law_819 (by decide) (fun _ => ?_) (fun hn => absurd rfl hn)
    exact lv_goto (tgt := 3304) hx hb dL_law_824 (by decide) (hfin ls hl)
theorem cz_writeBarrier {st : st_S} {x0 : Int32} {k : Nat} (h : k = (s_flush st x0).1) (hz : nI k = 0) : k = 0 := by
  have hc : k ≤ 3 := by
    rw [h]
    unfold s_flush
    (repeat' split) <;> exact Nat.le_of_ble_eq_true rfl
  have h1 : k = 0 ∨ k = 1 ∨ k = 2 ∨ k = 3 := by omega
  rcases h1 with e | e | e | e <;> subst e <;> first | rfl | exact absurd hz (by decide)
theorem la_writeBarrier (C0 : lw_X p l s m meth c b L xs D cT cL cD ac) {i B cells slots : Nat} {st : st_S} (hi : i + 6 ≤ L) (hL : L ≤ 3072) (hB : B + 401 < 2 ^ 24) (hc : cells + 25 ≤ 603072) (hs : slots + 906 ≤ 7186538) (kk : lw_G p l e s m below meth c b D cT cL cD ac 3304 i (B + 401) (cells + 25) (slots + 906) (s_flush st (xs (i + 1))).2.2) : lw_G p l e s m below meth c b D cT cL cD ac 827 i B cells slots st := by
  intro d0 H locs ls adC adM o1 o2 v1 v2 Z I A J B1 hd0 hV hr hm hk hl
  have hx := C0.1
  have hb := C0.2.1
  have hX : va_X b L xs (s.setDrawn d0) (s.setDrawn d0).heap := C0.2.2.2.2.2.2.2.2.2.1
  have hbl : b < s.heap.size := C0.2.2.2.2.2.2.2.2.2.2.1
  refine lv_aload_n hx hb dL_law_827 rfl (lv_at hl 4 rfl) ?_
  refine lv_aload_n hx hb dL_law_828 rfl (lv_at hl 5 rfl) ?_
  refine lv_iload hx hb dL_law_829 (lv_at hl 0 rfl) ?_
  refine lv_iconst (v := nI 1) hx hb dL_law_831 (by decide) ?_
  refine lv_iadd hx hb dL_law_832 ?_
  rw [nI_add]
  refine va_sld (L := L) hx hb hX hbl (show ¬ s.heap.size ≤ b from Nat.not_le_of_lt hbl) hV.2.2.2 (vp_in_nI (by omega) (by omega)) dL_law_833 ?_
  rw [nI_clamp (by omega)]
  refine lv_aload_n hx hb dL_law_834 rfl (lv_at hl 2 rfl) ?_
  refine lw_wcall (as := [.int (xs (i + 1))]) (na := 1) (rest := []) C0 hV (wr_writeBarrier C0.2.2.2.2.2.2.2.2.1 (hc_writeBarrier hB hk hr) hV.1.1) ⟨by decide, by decide, by decide +kernel⟩ (ab_in 1530 (by decide +kernel) rfl) (ab_in 1528 (by decide +kernel) rfl) (ab_in 1529 (by decide +kernel) rfl) (ab_in 95 (by decide +kernel) rfl) dL_law_835 rfl rfl hl.1 (Nat.le_of_ble_eq_true rfl) (Nat.le_of_ble_eq_true rfl) (Nat.le_of_ble_eq_true rfl) hc hs (fun k r Z1 I1 A1 ad1 v3 H1 locs1 hK hv3 had hV1 => ?_)
  obtain ⟨hk1, hk2, hr1⟩ := hK
  rw [lb_C had] at hl
  refine lv_istore (lv' := (6, .int (nI k)) :: LB b ad1 adM o1 o2 i) hx hb dL_law_838 hl (by decide) rfl (fun ls hl => ?_)
  refine lv_aload_n hx hb dL_law_840 rfl (lv_at hl 4 rfl) ?_
  refine lv_aload_n hx hb dL_law_841 rfl (lv_at hl 6 rfl) ?_
  refine lv_iload hx hb dL_law_842 (lv_at hl 1 rfl) ?_
  refine lv_iconst (v := nI 1) hx hb dL_law_844 (by decide) ?_
  refine lv_iadd hx hb dL_law_845 ?_
  rw [nI_add]
  refine va_sld (L := L) hx hb hX hbl (show ¬ s.heap.size ≤ b from Nat.not_le_of_lt hbl) hV1.2.2.2 (vp_in_nI (by omega) (by omega)) dL_law_846 ?_
  rw [nI_clamp (by omega)]
  refine lw_mcall (as := [.int (xs (i + 1))]) (rest := []) C0 hV1 (hm_writeBarrier hB hk hm) okX12_writeBarrier rfl (ab_in 2297 (by decide +kernel) rfl) (ab_in 2298 (by decide +kernel) rfl) (ab_in 2299 (by decide +kernel) rfl) dL_law_847 rfl (fun v hv => by rw [List.mem_singleton.mp hv]; exact trivial) rfl hl.1 (Nat.le_of_ble_eq_true rfl) (Nat.le_of_ble_eq_true rfl) (by omega) (by omega) (fun _ _ _ _ z => z.2) (fun r2 sh1 J2 B2 ad2 H2 locs2 hp had2 hV2 => ?_)
  obtain ⟨rfl, x, rfl, hm1, hm5, hmx⟩ := hp
  have hV2 := hV2 rfl
  rw [lb_M had2] at hl
  refine lv_istore (lv' := (7, .int x) :: (6, .int (nI k)) :: LB b ad1 ad2 o1 o2 i) hx hb dL_law_850 hl (by decide) rfl (fun ls hl => ?_)
  refine lv_aload_n hx hb dL_law_852 rfl (lv_at hl 5 rfl) ?_
  refine lw_mcall (as := []) (rest := []) C0 hV2 (ctX12_thrown (K := fun r3 J3 B3 => r3 = J2 0 5 ∧ J2 = J3 ∧ B2 = B3) ⟨rfl, rfl, rfl⟩) okX12_thrown rfl (ab_in 2052 (by decide +kernel) rfl) (ab_in 2053 (by decide +kernel) rfl) (ab_in 2054 (by decide +kernel) rfl) dL_law_853 rfl (fun v hv => absurd hv List.not_mem_nil) rfl hl.1 (Nat.le_of_ble_eq_true rfl) (Nat.le_of_ble_eq_true rfl) (by omega) (by omega) (fun _ _ _ _ z => z.2) (fun r4 sh1 J3 B3 ad3 H3 locs3 hp had3 hV3 => ?_)
  obtain ⟨rfl, y, rfl, rfl, rfl, rfl⟩ := hp
  have hV3 := hV3 rfl
  rw [lb_M had3] at hl
  refine lv_iload hx hb dL_law_856 (lv_at hl 1 rfl) ?_
  refine lv_icmp_eq (tgt := 863) hx hb dL_law_858 (by decide) (fun _ => ?_) (fun hn => absurd (hm5.trans (by rw [hk1])) hn)
  have hfin := fun ls (hl : lv_has ls 8 ((7, .int x) :: (6, .int (nI k)) :: LB b ad1 ad3 o1 o2 i)) => kk d0 H3 locs3 ls ad1 ad3 o1 o2 v3 v2 Z1 I1 A1 J2 B2 hd0 hV3 hr1 hm1 (ik_writeBarrier hB hk hm) (lv_sub hl [2, 3, 4, 5, 6, 7] rfl)
  refine lv_iload hx hb dL_law_863 (lv_at hl 1 rfl) ?_
  refine lv_if_ne (tgt := 880) hx hb dL_law_865 (by decide) (fun _ => ?_) (fun hz => ?_)
  · refine lv_goto (tgt := 3304) hx hb dL_law_880 (by decide) (hfin ls hl)
  · have hk0 : k = 0 := by
      exact cz_writeBarrier hk1 hz
    refine lv_aload_n hx hb dL_law_868 rfl (lv_at hl 4 rfl) ?_
    refine lv_iconst (v := 0) hx hb dL_law_869 (by decide) ?_
    refine va_lald (i := 0) hx hb (va_K.moved (u := s) (U := s.setDrawn d0) (Vm.Alike.refl s.vm) C0.2.2.2.2.2.2.1) hV3.1.2.2.2.1 0 3 rfl rfl (by unfold vp_in; decide) dL_law_870 ?_
    refine lv_iload hx hb dL_law_871 (lv_at hl 0 rfl) ?_
    refine lv_i2l (v := x.toInt64) hx hb dL_law_873 rfl ?_
    refine W.lcmp hx hb dL_law_874 ?_
    rw [show (v3 (0 : Int32).toNatClampNeg) = x.toInt64 by rw [sb_cl0, hv3 hk0, hk2 hk0, hmx (hk1.symm.trans hk0)], lg_same]
    refine lv_if_eq (tgt := 880) hx hb dL_law_875 (by decide) (fun _ => ?_) (fun hn => absurd rfl hn)
    exact lv_goto (tgt := 3304) hx hb dL_law_880 (by decide) (hfin ls hl)
theorem cz_commitBarrier {st : st_S} {k : Nat} (h : k = (s_commit st).1) (hz : nI k = 0) : k = 0 := by
  have hc : k ≤ 3 := by
    rw [h]
    unfold s_commit
    (repeat' split) <;> exact Nat.le_of_ble_eq_true rfl
  have h1 : k = 0 ∨ k = 1 ∨ k = 2 ∨ k = 3 := by omega
  rcases h1 with e | e | e | e <;> subst e <;> first | rfl | exact absurd hz (by decide)
theorem la_commitBarrier (C0 : lw_X p l s m meth c b L xs D cT cL cD ac) {i B cells slots : Nat} {st : st_S} (hi : i + 6 ≤ L) (hL : L ≤ 3072) (hB : B + 401 < 2 ^ 24) (hc : cells + 25 ≤ 603072) (hs : slots + 906 ≤ 7186538) (kk : lw_G p l e s m below meth c b D cT cL cD ac 3304 i (B + 401) (cells + 25) (slots + 906) (s_commit st).2.2) : lw_G p l e s m below meth c b D cT cL cD ac 883 i B cells slots st := by
  intro d0 H locs ls adC adM o1 o2 v1 v2 Z I A J B1 hd0 hV hr hm hk hl
  have hx := C0.1
  have hb := C0.2.1
  have hX : va_X b L xs (s.setDrawn d0) (s.setDrawn d0).heap := C0.2.2.2.2.2.2.2.2.2.1
  have hbl : b < s.heap.size := C0.2.2.2.2.2.2.2.2.2.2.1
  refine lv_aload_n hx hb dL_law_883 rfl (lv_at hl 4 rfl) ?_
  refine lv_aload_n hx hb dL_law_884 rfl (lv_at hl 2 rfl) ?_
  refine lw_wcall (as := []) (na := 0) (rest := []) C0 hV (wr_commitBarrier C0.2.2.2.2.2.2.2.2.1 (hc_commitBarrier hB hk hr) hV.1.1) ⟨by decide, by decide, by decide +kernel⟩ (ab_in 1539 (by decide +kernel) rfl) (ab_in 1537 (by decide +kernel) rfl) (ab_in 1538 (by decide +kernel) rfl) (ab_in 95 (by decide +kernel) rfl) dL_law_885 rfl rfl hl.1 (Nat.le_of_ble_eq_true rfl) (Nat.le_of_ble_eq_true rfl) (Nat.le_of_ble_eq_true rfl) hc hs (fun k r Z1 I1 A1 ad1 v3 H1 locs1 hK hv3 had hV1 => ?_)
  obtain ⟨hk1, hk2, hr1⟩ := hK
  rw [lb_C had] at hl
  refine lv_istore (lv' := (6, .int (nI k)) :: LB b ad1 adM o1 o2 i) hx hb dL_law_888 hl (by decide) rfl (fun ls hl => ?_)
  refine lv_aload_n hx hb dL_law_890 rfl (lv_at hl 4 rfl) ?_
  refine lw_mcall (as := []) (rest := []) C0 hV1 (hm_commitBarrier hB hk hm) okX12_commitBarrier rfl (ab_in 2305 (by decide +kernel) rfl) (ab_in 2306 (by decide +kernel) rfl) (ab_in 2307 (by decide +kernel) rfl) dL_law_891 rfl (fun v hv => by exact absurd hv List.not_mem_nil) rfl hl.1 (Nat.le_of_ble_eq_true rfl) (Nat.le_of_ble_eq_true rfl) (by omega) (by omega) (fun _ _ _ _ z => z.2) (fun r2 sh1 J2 B2 ad2 H2 locs2 hp had2 hV2 => ?_)
  obtain ⟨rfl, x, rfl, hm1, hm5, hmx⟩ := hp
  have hV2 := hV2 rfl
  rw [lb_M had2] at hl
  refine lv_istore (lv' := (7, .int x) :: (6, .int (nI k)) :: LB b ad1 ad2 o1 o2 i) hx hb dL_law_894 hl (by decide) rfl (fun ls hl => ?_)
  refine lv_aload_n hx hb dL_law_896 rfl (lv_at hl 5 rfl) ?_
  refine lw_mcall (as := []) (rest := []) C0 hV2 (ctX12_thrown (K := fun r3 J3 B3 => r3 = J2 0 5 ∧ J2 = J3 ∧ B2 = B3) ⟨rfl, rfl, rfl⟩) okX12_thrown rfl (ab_in 2052 (by decide +kernel) rfl) (ab_in 2053 (by decide +kernel) rfl) (ab_in 2054 (by decide +kernel) rfl) dL_law_897 rfl (fun v hv => absurd hv List.not_mem_nil) rfl hl.1 (Nat.le_of_ble_eq_true rfl) (Nat.le_of_ble_eq_true rfl) (by omega) (by omega) (fun _ _ _ _ z => z.2) (fun r4 sh1 J3 B3 ad3 H3 locs3 hp had3 hV3 => ?_)
  obtain ⟨rfl, y, rfl, rfl, rfl, rfl⟩ := hp
  have hV3 := hV3 rfl
  rw [lb_M had3] at hl
  refine lv_iload hx hb dL_law_900 (lv_at hl 1 rfl) ?_
  refine lv_icmp_eq (tgt := 907) hx hb dL_law_902 (by decide) (fun _ => ?_) (fun hn => absurd (hm5.trans (by rw [hk1])) hn)
  have hfin := fun ls (hl : lv_has ls 8 ((7, .int x) :: (6, .int (nI k)) :: LB b ad1 ad3 o1 o2 i)) => kk d0 H3 locs3 ls ad1 ad3 o1 o2 v3 v2 Z1 I1 A1 J2 B2 hd0 hV3 hr1 hm1 (ik_commitBarrier hB hk hm) (lv_sub hl [2, 3, 4, 5, 6, 7] rfl)
  refine lv_iload hx hb dL_law_907 (lv_at hl 1 rfl) ?_
  refine lv_if_ne (tgt := 924) hx hb dL_law_909 (by decide) (fun _ => ?_) (fun hz => ?_)
  · refine lv_goto (tgt := 3304) hx hb dL_law_924 (by decide) (hfin ls hl)
  · have hk0 : k = 0 := by
      exact cz_commitBarrier hk1 hz
    refine lv_aload_n hx hb dL_law_912 rfl (lv_at hl 4 rfl) ?_
    refine lv_iconst (v := 0) hx hb dL_law_913 (by decide) ?_
    refine va_lald (i := 0) hx hb (va_K.moved (u := s) (U := s.setDrawn d0) (Vm.Alike.refl s.vm) C0.2.2.2.2.2.2.1) hV3.1.2.2.2.1 0 3 rfl rfl (by unfold vp_in; decide) dL_law_914 ?_
    refine lv_iload hx hb dL_law_915 (lv_at hl 0 rfl) ?_
    refine lv_i2l (v := x.toInt64) hx hb dL_law_917 rfl ?_
    refine W.lcmp hx hb dL_law_918 ?_
    rw [show (v3 (0 : Int32).toNatClampNeg) = x.toInt64 by rw [sb_cl0, hv3 hk0, hk2 hk0, hmx (hk1.symm.trans hk0)], lg_same]
    refine lv_if_eq (tgt := 924) hx hb dL_law_919 (by decide) (fun _ => ?_) (fun hn => absurd rfl hn)
    exact lv_goto (tgt := 3304) hx hb dL_law_924 (by decide) (hfin ls hl)
theorem cz_abandonBarrier {st : st_S} {k : Nat} (h : k = (s_abandon st).1) (hz : nI k = 0) : k = 0 := by
  have hc : k ≤ 3 := by
    rw [h]
    unfold s_abandon
    (repeat' split) <;> exact Nat.le_of_ble_eq_true rfl
  have h1 : k = 0 ∨ k = 1 ∨ k = 2 ∨ k = 3 := by omega
  rcases h1 with e | e | e | e <;> subst e <;> first | rfl | exact absurd hz (by decide)
theorem la_abandonBarrier (C0 : lw_X p l s m meth c b L xs D cT cL cD ac) {i B cells slots : Nat} {st : st_S} (hi : i + 6 ≤ L) (hL : L ≤ 3072) (hB : B + 401 < 2 ^ 24) (hc : cells + 25 ≤ 603072) (hs : slots + 906 ≤ 7186538) (kk : lw_G p l e s m below meth c b D cT cL cD ac 3304 i (B + 401) (cells + 25) (slots + 906) (s_abandon st).2.2) : lw_G p l e s m below meth c b D cT cL cD ac 927 i B cells slots st := by
  intro d0 H locs ls adC adM o1 o2 v1 v2 Z I A J B1 hd0 hV hr hm hk hl
  have hx := C0.1
  have hb := C0.2.1
  have hX : va_X b L xs (s.setDrawn d0) (s.setDrawn d0).heap := C0.2.2.2.2.2.2.2.2.2.1
  have hbl : b < s.heap.size := C0.2.2.2.2.2.2.2.2.2.2.1
  refine lv_aload_n hx hb dL_law_927 rfl (lv_at hl 4 rfl) ?_
  refine lv_aload_n hx hb dL_law_928 rfl (lv_at hl 2 rfl) ?_
  refine lw_wcall (as := []) (na := 0) (rest := []) C0 hV (wr_abandonBarrier C0.2.2.2.2.2.2.2.2.1 (hc_abandonBarrier hB hk hr) hV.1.1) ⟨by decide, by decide, by decide +kernel⟩ (ab_in 1549 (by decide +kernel) rfl) (ab_in 1547 (by decide +kernel) rfl) (ab_in 1548 (by decide +kernel) rfl) (ab_in 95 (by decide +kernel) rfl) dL_law_929 rfl rfl hl.1 (Nat.le_of_ble_eq_true rfl) (Nat.le_of_ble_eq_true rfl) (Nat.le_of_ble_eq_true rfl) hc hs (fun k r Z1 I1 A1 ad1 v3 H1 locs1 hK hv3 had hV1 => ?_)
  obtain ⟨hk1, hk2, hr1⟩ := hK
  rw [lb_C had] at hl
  refine lv_istore (lv' := (6, .int (nI k)) :: LB b ad1 adM o1 o2 i) hx hb dL_law_932 hl (by decide) rfl (fun ls hl => ?_)
  refine lv_aload_n hx hb dL_law_934 rfl (lv_at hl 4 rfl) ?_
  refine lw_mcall (as := []) (rest := []) C0 hV1 (hm_abandonBarrier hB hk hm) okX12_abandonBarrier rfl (ab_in 2317 (by decide +kernel) rfl) (ab_in 2318 (by decide +kernel) rfl) (ab_in 2319 (by decide +kernel) rfl) dL_law_935 rfl (fun v hv => by exact absurd hv List.not_mem_nil) rfl hl.1 (Nat.le_of_ble_eq_true rfl) (Nat.le_of_ble_eq_true rfl) (by omega) (by omega) (fun _ _ _ _ z => z.2) (fun r2 sh1 J2 B2 ad2 H2 locs2 hp had2 hV2 => ?_)
  obtain ⟨rfl, x, rfl, hm1, hm5, hmx⟩ := hp
  have hV2 := hV2 rfl
  rw [lb_M had2] at hl
  refine lv_istore (lv' := (7, .int x) :: (6, .int (nI k)) :: LB b ad1 ad2 o1 o2 i) hx hb dL_law_938 hl (by decide) rfl (fun ls hl => ?_)
  refine lv_aload_n hx hb dL_law_940 rfl (lv_at hl 5 rfl) ?_
  refine lw_mcall (as := []) (rest := []) C0 hV2 (ctX12_thrown (K := fun r3 J3 B3 => r3 = J2 0 5 ∧ J2 = J3 ∧ B2 = B3) ⟨rfl, rfl, rfl⟩) okX12_thrown rfl (ab_in 2052 (by decide +kernel) rfl) (ab_in 2053 (by decide +kernel) rfl) (ab_in 2054 (by decide +kernel) rfl) dL_law_941 rfl (fun v hv => absurd hv List.not_mem_nil) rfl hl.1 (Nat.le_of_ble_eq_true rfl) (Nat.le_of_ble_eq_true rfl) (by omega) (by omega) (fun _ _ _ _ z => z.2) (fun r4 sh1 J3 B3 ad3 H3 locs3 hp had3 hV3 => ?_)
  obtain ⟨rfl, y, rfl, rfl, rfl, rfl⟩ := hp
  have hV3 := hV3 rfl
  rw [lb_M had3] at hl
  refine lv_iload hx hb dL_law_944 (lv_at hl 1 rfl) ?_
  refine lv_icmp_eq (tgt := 951) hx hb dL_law_946 (by decide) (fun _ => ?_) (fun hn => absurd (hm5.trans (by rw [hk1])) hn)
  have hfin := fun ls (hl : lv_has ls 8 ((7, .int x) :: (6, .int (nI k)) :: LB b ad1 ad3 o1 o2 i)) => kk d0 H3 locs3 ls ad1 ad3 o1 o2 v3 v2 Z1 I1 A1 J2 B2 hd0 hV3 hr1 hm1 (ik_abandonBarrier hB hk hm) (lv_sub hl [2, 3, 4, 5, 6, 7] rfl)
  refine lv_iload hx hb dL_law_951 (lv_at hl 1 rfl) ?_
  refine lv_if_ne (tgt := 968) hx hb dL_law_953 (by decide) (fun _ => ?_) (fun hz => ?_)
  · refine lv_goto (tgt := 3304) hx hb dL_law_968 (by decide) (hfin ls hl)
  · have hk0 : k = 0 := by
      exact cz_abandonBarrier hk1 hz
    refine lv_aload_n hx hb dL_law_956 rfl (lv_at hl 4 rfl) ?_
    refine lv_iconst (v := 0) hx hb dL_law_957 (by decide) ?_
    refine va_lald (i := 0) hx hb (va_K.moved (u := s) (U := s.setDrawn d0) (Vm.Alike.refl s.vm) C0.2.2.2.2.2.2.1) hV3.1.2.2.2.1 0 3 rfl rfl (by unfold vp_in; decide) dL_law_958 ?_
    refine lv_iload hx hb dL_law_959 (lv_at hl 0 rfl) ?_
    refine lv_i2l (v := x.toInt64) hx hb dL_law_961 rfl ?_
    refine W.lcmp hx hb dL_law_962 ?_
    rw [show (v3 (0 : Int32).toNatClampNeg) = x.toInt64 by rw [sb_cl0, hv3 hk0, hk2 hk0, hmx (hk1.symm.trans hk0)], lg_same]
    refine lv_if_eq (tgt := 968) hx hb dL_law_963 (by decide) (fun _ => ?_) (fun hn => absurd rfl hn)
    exact lv_goto (tgt := 3304) hx hb dL_law_968 (by decide) (hfin ls hl)
theorem la_crash (C0 : lw_X p l s m meth c b L xs D cT cL cD ac) {i B cells slots : Nat} {st : st_S} (hi : i + 6 ≤ L) (hL : L ≤ 3072) (hB : B + 401 < 2 ^ 24) (hc : cells + 24 ≤ 603072) (hs : slots + 900 ≤ 7186538) (kk : lw_G p l e s m below meth c b D cT cL cD ac 3304 i (B + 401) (cells + 24) (slots + 900) (s_crash st).2.2) : lw_G p l e s m below meth c b D cT cL cD ac 971 i B cells slots st := by
  intro d0 H locs ls adC adM o1 o2 v1 v2 Z I A J B1 hd0 hV hr hm hk hl
  have hx := C0.1
  have hb := C0.2.1
  have hX : va_X b L xs (s.setDrawn d0) (s.setDrawn d0).heap := C0.2.2.2.2.2.2.2.2.2.1
  have hbl : b < s.heap.size := C0.2.2.2.2.2.2.2.2.2.2.1
  refine lv_aload_n hx hb dL_law_971 rfl (lv_at hl 4 rfl) ?_
  refine lw_ccall (rest := []) C0 hV (hc_crash hB hk hr) okX11_crash rfl (ab_in 692 (by decide +kernel) rfl) (ab_in 693 (by decide +kernel) rfl) (ab_in 694 (by decide +kernel) rfl) dL_law_972 rfl hl.1 (Nat.le_of_ble_eq_true rfl) (Nat.le_of_ble_eq_true rfl) hc hs (fun _ _ _ _ z => by obtain ⟨_, _, j, hj, _⟩ := z; exact nomatch hj) (fun r1 sh1 I1 A1 ad1 H1 locs1 hp had hV1 => ?_)
  obtain ⟨Z1, rfl, r, rfl, hk1, hk2, hr1⟩ := hp
  have hV1 := hV1 Z1 rfl
  rw [lb_C had] at hl
  refine lv_aload_n hx hb dL_law_975 rfl (lv_at hl 3 rfl) ?_
  refine lw_mcall (as := []) (rest := [.int r]) C0 hV1 (hm_crash hB hk hm) okX12_crash rfl (ab_in 2325 (by decide +kernel) rfl) (ab_in 2326 (by decide +kernel) rfl) (ab_in 2327 (by decide +kernel) rfl) dL_law_976 rfl (fun v hv => absurd hv List.not_mem_nil) rfl hl.1 (Nat.le_of_ble_eq_true rfl) (Nat.le_of_ble_eq_true rfl) (by omega) (by omega) (fun _ _ _ _ z => z.2) (fun r2 sh1 J2 B2 ad2 H2 locs2 hp had2 hV2 => ?_)
  obtain ⟨rfl, x, rfl, hm1, hm5, hmx⟩ := hp
  have hV2 := hV2 rfl
  rw [lb_M had2] at hl
  exact lv_icmp_eq (tgt := 3304) hx hb dL_law_979 (by decide) (fun _ => kk d0 H2 locs2 ls ad1 ad2 o1 o2 v1 v2 Z1 I1 A1 J2 B2 hd0 hV2 hr1 hm1 (ik_crash hB hk hm) hl) (fun hn => absurd ((hk2 rfl).trans (hmx hk1.symm).symm) hn)
theorem cz_rollback {st : st_S} {x0 : Int32} {k : Nat} (h : k = (s_roll st x0).1) (hz : nI k = 0) : k = 0 := by
  have hc : k ≤ 3 := by
    rw [h]
    unfold s_roll
    (repeat' split) <;> exact Nat.le_of_ble_eq_true rfl
  have h1 : k = 0 ∨ k = 1 ∨ k = 2 ∨ k = 3 := by omega
  rcases h1 with e | e | e | e <;> subst e <;> first | rfl | exact absurd hz (by decide)
theorem la_rollback (C0 : lw_X p l s m meth c b L xs D cT cL cD ac) {i B cells slots : Nat} {st : st_S} (hi : i + 6 ≤ L) (hL : L ≤ 3072) (hB : B + 401 < 2 ^ 24) (hc : cells + 25 ≤ 603072) (hs : slots + 906 ≤ 7186538) (kk : lw_G p l e s m below meth c b D cT cL cD ac 3304 i (B + 401) (cells + 25) (slots + 906) (s_roll st (xs (i + 1))).2.2) : lw_G p l e s m below meth c b D cT cL cD ac 984 i B cells slots st := by
  intro d0 H locs ls adC adM o1 o2 v1 v2 Z I A J B1 hd0 hV hr hm hk hl
  have hx := C0.1
  have hb := C0.2.1
  have hX : va_X b L xs (s.setDrawn d0) (s.setDrawn d0).heap := C0.2.2.2.2.2.2.2.2.2.1
  have hbl : b < s.heap.size := C0.2.2.2.2.2.2.2.2.2.2.1
  refine lv_aload_n hx hb dL_law_984 rfl (lv_at hl 4 rfl) ?_
  refine lv_aload_n hx hb dL_law_985 rfl (lv_at hl 5 rfl) ?_
  refine lv_iload hx hb dL_law_986 (lv_at hl 0 rfl) ?_
  refine lv_iconst (v := nI 1) hx hb dL_law_988 (by decide) ?_
  refine lv_iadd hx hb dL_law_989 ?_
  rw [nI_add]
  refine va_sld (L := L) hx hb hX hbl (show ¬ s.heap.size ≤ b from Nat.not_le_of_lt hbl) hV.2.2.2 (vp_in_nI (by omega) (by omega)) dL_law_990 ?_
  rw [nI_clamp (by omega)]
  refine lv_aload_n hx hb dL_law_991 rfl (lv_at hl 2 rfl) ?_
  refine lw_wcall (as := [.int (xs (i + 1))]) (na := 1) (rest := []) C0 hV (wr_rollback C0.2.2.2.2.2.2.2.2.1 (hc_rollback hB hk hr) hV.1.1) ⟨by decide, by decide, by decide +kernel⟩ (ab_in 1558 (by decide +kernel) rfl) (ab_in 1556 (by decide +kernel) rfl) (ab_in 1557 (by decide +kernel) rfl) (ab_in 95 (by decide +kernel) rfl) dL_law_992 rfl rfl hl.1 (Nat.le_of_ble_eq_true rfl) (Nat.le_of_ble_eq_true rfl) (Nat.le_of_ble_eq_true rfl) hc hs (fun k r Z1 I1 A1 ad1 v3 H1 locs1 hK hv3 had hV1 => ?_)
  obtain ⟨hk1, hk2, hr1⟩ := hK
  rw [lb_C had] at hl
  refine lv_istore (lv' := (6, .int (nI k)) :: LB b ad1 adM o1 o2 i) hx hb dL_law_995 hl (by decide) rfl (fun ls hl => ?_)
  refine lv_aload_n hx hb dL_law_997 rfl (lv_at hl 4 rfl) ?_
  refine lv_aload_n hx hb dL_law_998 rfl (lv_at hl 6 rfl) ?_
  refine lv_iload hx hb dL_law_999 (lv_at hl 1 rfl) ?_
  refine lv_iconst (v := nI 1) hx hb dL_law_1001 (by decide) ?_
  refine lv_iadd hx hb dL_law_1002 ?_
  rw [nI_add]
  refine va_sld (L := L) hx hb hX hbl (show ¬ s.heap.size ≤ b from Nat.not_le_of_lt hbl) hV1.2.2.2 (vp_in_nI (by omega) (by omega)) dL_law_1003 ?_
  rw [nI_clamp (by omega)]
  refine lw_mcall (as := [.int (xs (i + 1))]) (rest := []) C0 hV1 (hm_rollback hB hk hm) okX12_rollback rfl (ab_in 2345 (by decide +kernel) rfl) (ab_in 2346 (by decide +kernel) rfl) (ab_in 2347 (by decide +kernel) rfl) dL_law_1004 rfl (fun v hv => by rw [List.mem_singleton.mp hv]; exact trivial) rfl hl.1 (Nat.le_of_ble_eq_true rfl) (Nat.le_of_ble_eq_true rfl) (by omega) (by omega) (fun _ _ _ _ z => z.2) (fun r2 sh1 J2 B2 ad2 H2 locs2 hp had2 hV2 => ?_)
  obtain ⟨rfl, x, rfl, hm1, hm5, hmx⟩ := hp
  have hV2 := hV2 rfl
  rw [lb_M had2] at hl
  refine lv_istore (lv' := (7, .int x) :: (6, .int (nI k)) :: LB b ad1 ad2 o1 o2 i) hx hb dL_law_1007 hl (by decide) rfl (fun ls hl => ?_)
  refine lv_aload_n hx hb dL_law_1009 rfl (lv_at hl 5 rfl) ?_
  refine lw_mcall (as := []) (rest := []) C0 hV2 (ctX12_thrown (K := fun r3 J3 B3 => r3 = J2 0 5 ∧ J2 = J3 ∧ B2 = B3) ⟨rfl, rfl, rfl⟩) okX12_thrown rfl (ab_in 2052 (by decide +kernel) rfl) (ab_in 2053 (by decide +kernel) rfl) (ab_in 2054 (by decide +kernel) rfl) dL_law_1010 rfl (fun v hv => absurd hv List.not_mem_nil) rfl hl.1 (Nat.le_of_ble_eq_true rfl) (Nat.le_of_ble_eq_true rfl) (by omega) (by omega) (fun _ _ _ _ z => z.2) (fun r4 sh1 J3 B3 ad3 H3 locs3 hp had3 hV3 => ?_)
  obtain ⟨rfl, y, rfl, rfl, rfl, rfl⟩ := hp
  have hV3 := hV3 rfl
  rw [lb_M had3] at hl
  refine lv_iload hx hb dL_law_1013 (lv_at hl 1 rfl) ?_
  refine lv_icmp_eq (tgt := 1020) hx hb dL_law_1015 (by decide) (fun _ => ?_) (fun hn => absurd (hm5.trans (by rw [hk1])) hn)
  have hfin := fun ls (hl : lv_has ls 8 ((7, .int x) :: (6, .int (nI k)) :: LB b ad1 ad3 o1 o2 i)) => kk d0 H3 locs3 ls ad1 ad3 o1 o2 v3 v2 Z1 I1 A1 J2 B2 hd0 hV3 hr1 hm1 (ik_rollback hB hk hm) (lv_sub hl [2, 3, 4, 5, 6, 7] rfl)
  refine lv_iload hx hb dL_law_1020 (lv_at hl 1 rfl) ?_
  refine lv_if_ne (tgt := 1037) hx hb dL_law_1022 (by decide) (fun _ => ?_) (fun hz => ?_)
  · refine lv_goto (tgt := 3304) hx hb dL_law_1037 (by decide) (hfin ls hl)
  · have hk0 : k = 0 := by
      exact cz_rollback hk1 hz
    refine lv_aload_n hx hb dL_law_1025 rfl (lv_at hl 4 rfl) ?_
    refine lv_iconst (v := 0) hx hb dL_law_1026 (by decide) ?_
    refine va_lald (i := 0) hx hb (va_K.moved (u := s) (U := s.setDrawn d0) (Vm.Alike.refl s.vm) C0.2.2.2.2.2.2.1) hV3.1.2.2.2.1 0 3 rfl rfl (by unfold vp_in; decide) dL_law_1027 ?_
    refine lv_iload hx hb dL_law_1028 (lv_at hl 0 rfl) ?_
    refine lv_i2l (v := x.toInt64) hx hb dL_law_1030 rfl ?_
    refine W.lcmp hx hb dL_law_1031 ?_
    rw [show (v3 (0 : Int32).toNatClampNeg) = x.toInt64 by rw [sb_cl0, hv3 hk0, hk2 hk0, hmx (hk1.symm.trans hk0)], lg_same]
    refine lv_if_eq (tgt := 1037) hx hb dL_law_1032 (by decide) (fun _ => ?_) (fun hn => absurd rfl hn)
    exact lv_goto (tgt := 3304) hx hb dL_law_1037 (by decide) (hfin ls hl)
end
