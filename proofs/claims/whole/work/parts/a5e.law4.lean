section
variable {p : Program} {l : Launch} {e : Env} {s : State} {m : MethodId} {below : List Frame} {meth : Method} {c : Code} {b L : Nat} {xs : Nat → Int32} {D : va_G} {cT : FieldType → ClassId} {cL cD : ClassId} {ac : Nat → Nat}
theorem cz_wouldFree {st : st_S} {x0 : Int32} {k : Nat} (h : k = (s_wF st x0).1) (hz : nI k = 0) : k = 0 := by
  have hc : k ≤ 3 := by
    rw [h]
    unfold s_wF
    (repeat' split) <;> exact Nat.le_of_ble_eq_true rfl
  have h1 : k = 0 ∨ k = 1 ∨ k = 2 ∨ k = 3 := by omega
  rcases h1 with e | e | e | e <;> subst e <;> first | rfl | exact absurd hz (by decide)
theorem la_wouldFree (C0 : lw_X p l s m meth c b L xs D cT cL cD ac) {i B cells slots : Nat} {st : st_S} (hi : i + 6 ≤ L) (hL : L ≤ 3072) (hB : B + 401 < 2 ^ 24) (hc : cells + 1 ≤ 603072) (hs : slots + 6 ≤ 7186538) (kk : lw_G p l e s m below meth c b D cT cL cD ac 3304 i (B + 401) (cells + 1) (slots + 6) (s_wF st (xs (i + 1))).2.2) : lw_G p l e s m below meth c b D cT cL cD ac 2562 i B cells slots st := by
  intro d0 H locs ls adC adM o1 o2 v1 v2 Z I A J B1 hd0 hV hr hm hk hl
  have hx := C0.1
  have hb := C0.2.1
  have hX : va_X b L xs (s.setDrawn d0) (s.setDrawn d0).heap := C0.2.2.2.2.2.2.2.2.2.1
  have hbl : b < s.heap.size := C0.2.2.2.2.2.2.2.2.2.2.1
  refine lv_aload_n hx hb dL_law_2562 rfl (lv_at hl 4 rfl) ?_
  refine lv_aload_n hx hb dL_law_2563 rfl (lv_at hl 5 rfl) ?_
  refine lv_iload hx hb dL_law_2564 (lv_at hl 0 rfl) ?_
  refine lv_iconst (v := nI 1) hx hb dL_law_2566 (by decide) ?_
  refine lv_iadd hx hb dL_law_2567 ?_
  rw [nI_add]
  refine va_sld (L := L) hx hb hX hbl (show ¬ s.heap.size ≤ b from Nat.not_le_of_lt hbl) hV.2.2.2 (vp_in_nI (by omega) (by omega)) dL_law_2568 ?_
  rw [nI_clamp (by omega)]
  refine lv_aload_n hx hb dL_law_2569 rfl (lv_at hl 2 rfl) ?_
  refine lw_wcall (as := [.int (xs (i + 1))]) (na := 1) (rest := []) C0 hV (wr_wouldFree C0.2.2.2.2.2.2.2.2.1 (hc_wouldFree hB hk hr) hV.1.1) ⟨by decide, by decide, by decide +kernel⟩ (ab_in 1778 (by decide +kernel) rfl) (ab_in 1776 (by decide +kernel) rfl) (ab_in 1777 (by decide +kernel) rfl) (ab_in 95 (by decide +kernel) rfl) dL_law_2570 rfl rfl hl.1 (Nat.le_of_ble_eq_true rfl) (Nat.le_of_ble_eq_true rfl) (Nat.le_of_ble_eq_true rfl) hc hs (fun k r Z1 I1 A1 ad1 v3 H1 locs1 hK hv3 had hV1 => ?_)
  obtain ⟨hk1, hk2, hr1⟩ := hK
  rw [lb_C had] at hl
  refine lv_istore (lv' := (6, .int (nI k)) :: LB b ad1 adM o1 o2 i) hx hb dL_law_2573 hl (by decide) rfl (fun ls hl => ?_)
  refine lv_aload_n hx hb dL_law_2575 rfl (lv_at hl 4 rfl) ?_
  refine lv_aload_n hx hb dL_law_2576 rfl (lv_at hl 6 rfl) ?_
  refine lv_iload hx hb dL_law_2577 (lv_at hl 1 rfl) ?_
  refine lv_iconst (v := nI 1) hx hb dL_law_2579 (by decide) ?_
  refine lv_iadd hx hb dL_law_2580 ?_
  rw [nI_add]
  refine va_sld (L := L) hx hb hX hbl (show ¬ s.heap.size ≤ b from Nat.not_le_of_lt hbl) hV1.2.2.2 (vp_in_nI (by omega) (by omega)) dL_law_2581 ?_
  rw [nI_clamp (by omega)]
  refine lw_mcall (as := [.int (xs (i + 1))]) (rest := []) C0 hV1 (hm_wouldFree hB hk hm) okX12_wouldFree rfl (ab_in 2553 (by decide +kernel) rfl) (ab_in 2554 (by decide +kernel) rfl) (ab_in 2555 (by decide +kernel) rfl) dL_law_2582 rfl (fun v hv => by rw [List.mem_singleton.mp hv]; exact trivial) rfl hl.1 (Nat.le_of_ble_eq_true rfl) (Nat.le_of_ble_eq_true rfl) (by omega) (by omega) (fun _ _ _ _ z => z.2) (fun r2 sh1 J2 B2 ad2 H2 locs2 hp had2 hV2 => ?_)
  obtain ⟨rfl, x, rfl, hm1, hm5, hmx⟩ := hp
  have hV2 := hV2 rfl
  rw [lb_M had2] at hl
  refine lv_istore (lv' := (7, .int x) :: (6, .int (nI k)) :: LB b ad1 ad2 o1 o2 i) hx hb dL_law_2585 hl (by decide) rfl (fun ls hl => ?_)
  refine lv_aload_n hx hb dL_law_2587 rfl (lv_at hl 5 rfl) ?_
  refine lw_mcall (as := []) (rest := []) C0 hV2 (ctX12_thrown (K := fun r3 J3 B3 => r3 = J2 0 5 ∧ J2 = J3 ∧ B2 = B3) ⟨rfl, rfl, rfl⟩) okX12_thrown rfl (ab_in 2052 (by decide +kernel) rfl) (ab_in 2053 (by decide +kernel) rfl) (ab_in 2054 (by decide +kernel) rfl) dL_law_2588 rfl (fun v hv => absurd hv List.not_mem_nil) rfl hl.1 (Nat.le_of_ble_eq_true rfl) (Nat.le_of_ble_eq_true rfl) (by omega) (by omega) (fun _ _ _ _ z => z.2) (fun r4 sh1 J3 B3 ad3 H3 locs3 hp had3 hV3 => ?_)
  obtain ⟨rfl, y, rfl, rfl, rfl, rfl⟩ := hp
  have hV3 := hV3 rfl
  rw [lb_M had3] at hl
  refine lv_iload hx hb dL_law_2591 (lv_at hl 1 rfl) ?_
  refine lv_icmp_eq (tgt := 2598) hx hb dL_law_2593 (by decide) (fun _ => ?_) (fun hn => absurd (hm5.trans (by rw [hk1])) hn)
  have hfin := fun ls (hl : lv_has ls 8 ((7, .int x) :: (6, .int (nI k)) :: LB b ad1 ad3 o1 o2 i)) => kk d0 H3 locs3 ls ad1 ad3 o1 o2 v3 v2 Z1 I1 A1 J2 B2 hd0 hV3 hr1 hm1 (ik_wouldFree hB hk hm) (lv_sub hl [2, 3, 4, 5, 6, 7] rfl)
  refine lv_iload hx hb dL_law_2598 (lv_at hl 1 rfl) ?_
  refine lv_if_ne (tgt := 2615) hx hb dL_law_2600 (by decide) (fun _ => ?_) (fun hz => ?_)
  · refine lv_goto (tgt := 3304) hx hb dL_law_2615 (by decide) (hfin ls hl)
  · have hk0 : k = 0 := by
      exact cz_wouldFree hk1 hz
    refine lv_aload_n hx hb dL_law_2603 rfl (lv_at hl 4 rfl) ?_
    refine lv_iconst (v := 0) hx hb dL_law_2604 (by decide) ?_
    refine va_lald (i := 0) hx hb (va_K.moved (u := s) (U := s.setDrawn d0) (Vm.Alike.refl s.vm) C0.2.2.2.2.2.2.1) hV3.1.2.2.2.1 0 3 rfl rfl (by unfold vp_in; decide) dL_law_2605 ?_
    refine lv_iload hx hb dL_law_2606 (lv_at hl 0 rfl) ?_
    refine lv_i2l (v := x.toInt64) hx hb dL_law_2608 rfl ?_
    refine W.lcmp hx hb dL_law_2609 ?_
    rw [show (v3 (0 : Int32).toNatClampNeg) = x.toInt64 by rw [sb_cl0, hv3 hk0, hk2 hk0, hmx (hk1.symm.trans hk0)], lg_same]
    refine lv_if_eq (tgt := 2615) hx hb dL_law_2610 (by decide) (fun _ => ?_) (fun hn => absurd rfl hn)
    exact lv_goto (tgt := 3304) hx hb dL_law_2615 (by decide) (hfin ls hl)
theorem cz_bestBarrier {st : st_S} {x0 : Int32} {k : Nat} (h : k = (s_best st x0).1) (hz : nI k = 0) : k = 0 := by
  have hc : k ≤ 3 := by
    rw [h]
    unfold s_best
    (repeat' split) <;> exact Nat.le_of_ble_eq_true rfl
  have h1 : k = 0 ∨ k = 1 ∨ k = 2 ∨ k = 3 := by omega
  rcases h1 with e | e | e | e <;> subst e <;> first | rfl | exact absurd hz (by decide)
theorem la_bestBarrier (C0 : lw_X p l s m meth c b L xs D cT cL cD ac) {i B cells slots : Nat} {st : st_S} (hi : i + 6 ≤ L) (hL : L ≤ 3072) (hB : B + 401 < 2 ^ 24) (hc : cells + 2 ≤ 603072) (hs : slots + 12 ≤ 7186538) (kk : lw_G p l e s m below meth c b D cT cL cD ac 3304 i (B + 401) (cells + 2) (slots + 12) (s_best st (xs (i + 1))).2.2) : lw_G p l e s m below meth c b D cT cL cD ac 2618 i B cells slots st := by
  intro d0 H locs ls adC adM o1 o2 v1 v2 Z I A J B1 hd0 hV hr hm hk hl
  have hx := C0.1
  have hb := C0.2.1
  have hX : va_X b L xs (s.setDrawn d0) (s.setDrawn d0).heap := C0.2.2.2.2.2.2.2.2.2.1
  have hbl : b < s.heap.size := C0.2.2.2.2.2.2.2.2.2.2.1
  refine lv_aload_n hx hb dL_law_2618 rfl (lv_at hl 4 rfl) ?_
  refine lv_aload_n hx hb dL_law_2619 rfl (lv_at hl 5 rfl) ?_
  refine lv_iload hx hb dL_law_2620 (lv_at hl 0 rfl) ?_
  refine lv_iconst (v := nI 1) hx hb dL_law_2622 (by decide) ?_
  refine lv_iadd hx hb dL_law_2623 ?_
  rw [nI_add]
  refine va_sld (L := L) hx hb hX hbl (show ¬ s.heap.size ≤ b from Nat.not_le_of_lt hbl) hV.2.2.2 (vp_in_nI (by omega) (by omega)) dL_law_2624 ?_
  rw [nI_clamp (by omega)]
  refine lv_aload_n hx hb dL_law_2625 rfl (lv_at hl 2 rfl) ?_
  refine lw_wcall (as := [.int (xs (i + 1))]) (na := 1) (rest := []) C0 hV (wr_bestBarrier C0.2.2.2.2.2.2.2.2.1 (hc_bestBarrier hB hk hr) hV.1.1) ⟨by decide, by decide, by decide +kernel⟩ (ab_in 1789 (by decide +kernel) rfl) (ab_in 1787 (by decide +kernel) rfl) (ab_in 1788 (by decide +kernel) rfl) (ab_in 95 (by decide +kernel) rfl) dL_law_2626 rfl rfl hl.1 (Nat.le_of_ble_eq_true rfl) (Nat.le_of_ble_eq_true rfl) (Nat.le_of_ble_eq_true rfl) hc hs (fun k r Z1 I1 A1 ad1 v3 H1 locs1 hK hv3 had hV1 => ?_)
  obtain ⟨hk1, hk2, hr1⟩ := hK
  rw [lb_C had] at hl
  refine lv_istore (lv' := (6, .int (nI k)) :: LB b ad1 adM o1 o2 i) hx hb dL_law_2629 hl (by decide) rfl (fun ls hl => ?_)
  refine lv_aload_n hx hb dL_law_2631 rfl (lv_at hl 4 rfl) ?_
  refine lv_aload_n hx hb dL_law_2632 rfl (lv_at hl 6 rfl) ?_
  refine lv_iload hx hb dL_law_2633 (lv_at hl 1 rfl) ?_
  refine lv_iconst (v := nI 1) hx hb dL_law_2635 (by decide) ?_
  refine lv_iadd hx hb dL_law_2636 ?_
  rw [nI_add]
  refine va_sld (L := L) hx hb hX hbl (show ¬ s.heap.size ≤ b from Nat.not_le_of_lt hbl) hV1.2.2.2 (vp_in_nI (by omega) (by omega)) dL_law_2637 ?_
  rw [nI_clamp (by omega)]
  refine lw_mcall (as := [.int (xs (i + 1))]) (rest := []) C0 hV1 (hm_bestBarrier hB hk hm) okX12_bestBarrier rfl (ab_in 2557 (by decide +kernel) rfl) (ab_in 2558 (by decide +kernel) rfl) (ab_in 2559 (by decide +kernel) rfl) dL_law_2638 rfl (fun v hv => by rw [List.mem_singleton.mp hv]; exact trivial) rfl hl.1 (Nat.le_of_ble_eq_true rfl) (Nat.le_of_ble_eq_true rfl) (by omega) (by omega) (fun _ _ _ _ z => z.2) (fun r2 sh1 J2 B2 ad2 H2 locs2 hp had2 hV2 => ?_)
  obtain ⟨rfl, x, rfl, hm1, hm5, hmx⟩ := hp
  have hV2 := hV2 rfl
  rw [lb_M had2] at hl
  refine lv_istore (lv' := (7, .int x) :: (6, .int (nI k)) :: LB b ad1 ad2 o1 o2 i) hx hb dL_law_2641 hl (by decide) rfl (fun ls hl => ?_)
  refine lv_aload_n hx hb dL_law_2643 rfl (lv_at hl 5 rfl) ?_
  refine lw_mcall (as := []) (rest := []) C0 hV2 (ctX12_thrown (K := fun r3 J3 B3 => r3 = J2 0 5 ∧ J2 = J3 ∧ B2 = B3) ⟨rfl, rfl, rfl⟩) okX12_thrown rfl (ab_in 2052 (by decide +kernel) rfl) (ab_in 2053 (by decide +kernel) rfl) (ab_in 2054 (by decide +kernel) rfl) dL_law_2644 rfl (fun v hv => absurd hv List.not_mem_nil) rfl hl.1 (Nat.le_of_ble_eq_true rfl) (Nat.le_of_ble_eq_true rfl) (by omega) (by omega) (fun _ _ _ _ z => z.2) (fun r4 sh1 J3 B3 ad3 H3 locs3 hp had3 hV3 => ?_)
  obtain ⟨rfl, y, rfl, rfl, rfl, rfl⟩ := hp
  have hV3 := hV3 rfl
  rw [lb_M had3] at hl
  refine lv_iload hx hb dL_law_2647 (lv_at hl 1 rfl) ?_
  refine lv_icmp_eq (tgt := 2654) hx hb dL_law_2649 (by decide) (fun _ => ?_) (fun hn => absurd (hm5.trans (by rw [hk1])) hn)
  have hfin := fun ls (hl : lv_has ls 8 ((7, .int x) :: (6, .int (nI k)) :: LB b ad1 ad3 o1 o2 i)) => kk d0 H3 locs3 ls ad1 ad3 o1 o2 v3 v2 Z1 I1 A1 J2 B2 hd0 hV3 hr1 hm1 (ik_bestBarrier hB hk hm) (lv_sub hl [2, 3, 4, 5, 6, 7] rfl)
  refine lv_iload hx hb dL_law_2654 (lv_at hl 1 rfl) ?_
  refine lv_if_ne (tgt := 2671) hx hb dL_law_2656 (by decide) (fun _ => ?_) (fun hz => ?_)
  · refine lv_goto (tgt := 3304) hx hb dL_law_2671 (by decide) (hfin ls hl)
  · have hk0 : k = 0 := by
      exact cz_bestBarrier hk1 hz
    refine lv_aload_n hx hb dL_law_2659 rfl (lv_at hl 4 rfl) ?_
    refine lv_iconst (v := 0) hx hb dL_law_2660 (by decide) ?_
    refine va_lald (i := 0) hx hb (va_K.moved (u := s) (U := s.setDrawn d0) (Vm.Alike.refl s.vm) C0.2.2.2.2.2.2.1) hV3.1.2.2.2.1 0 3 rfl rfl (by unfold vp_in; decide) dL_law_2661 ?_
    refine lv_iload hx hb dL_law_2662 (lv_at hl 0 rfl) ?_
    refine lv_i2l (v := x.toInt64) hx hb dL_law_2664 rfl ?_
    refine W.lcmp hx hb dL_law_2665 ?_
    rw [show (v3 (0 : Int32).toNatClampNeg) = x.toInt64 by rw [sb_cl0, hv3 hk0, hk2 hk0, hmx (hk1.symm.trans hk0)], lg_same]
    refine lv_if_eq (tgt := 2671) hx hb dL_law_2666 (by decide) (fun _ => ?_) (fun hn => absurd rfl hn)
    exact lv_goto (tgt := 3304) hx hb dL_law_2671 (by decide) (hfin ls hl)
theorem cz_lostPages {st : st_S} {x0 : Int32} {k : Nat} (h : k = (s_lost st x0).1) (hz : nI k = 0) : k = 0 := by
  have hc : k ≤ 3 := by
    rw [h]
    unfold s_lost
    (repeat' split) <;> exact Nat.le_of_ble_eq_true rfl
  have h1 : k = 0 ∨ k = 1 ∨ k = 2 ∨ k = 3 := by omega
  rcases h1 with e | e | e | e <;> subst e <;> first | rfl | exact absurd hz (by decide)
theorem la_lostPages (C0 : lw_X p l s m meth c b L xs D cT cL cD ac) {i B cells slots : Nat} {st : st_S} (hi : i + 6 ≤ L) (hL : L ≤ 3072) (hB : B + 401 < 2 ^ 24) (hc : cells + 1 ≤ 603072) (hs : slots + 6 ≤ 7186538) (kk : lw_G p l e s m below meth c b D cT cL cD ac 3304 i (B + 401) (cells + 1) (slots + 6) (s_lost st (xs (i + 1))).2.2) : lw_G p l e s m below meth c b D cT cL cD ac 2674 i B cells slots st := by
  intro d0 H locs ls adC adM o1 o2 v1 v2 Z I A J B1 hd0 hV hr hm hk hl
  have hx := C0.1
  have hb := C0.2.1
  have hX : va_X b L xs (s.setDrawn d0) (s.setDrawn d0).heap := C0.2.2.2.2.2.2.2.2.2.1
  have hbl : b < s.heap.size := C0.2.2.2.2.2.2.2.2.2.2.1
  refine lv_aload_n hx hb dL_law_2674 rfl (lv_at hl 4 rfl) ?_
  refine lv_aload_n hx hb dL_law_2675 rfl (lv_at hl 5 rfl) ?_
  refine lv_iload hx hb dL_law_2676 (lv_at hl 0 rfl) ?_
  refine lv_iconst (v := nI 1) hx hb dL_law_2678 (by decide) ?_
  refine lv_iadd hx hb dL_law_2679 ?_
  rw [nI_add]
  refine va_sld (L := L) hx hb hX hbl (show ¬ s.heap.size ≤ b from Nat.not_le_of_lt hbl) hV.2.2.2 (vp_in_nI (by omega) (by omega)) dL_law_2680 ?_
  rw [nI_clamp (by omega)]
  refine lv_aload_n hx hb dL_law_2681 rfl (lv_at hl 2 rfl) ?_
  refine lw_wcall (as := [.int (xs (i + 1))]) (na := 1) (rest := []) C0 hV (wr_lostPages C0.2.2.2.2.2.2.2.2.1 (hc_lostPages hB hk hr) hV.1.1) ⟨by decide, by decide, by decide +kernel⟩ (ab_in 1807 (by decide +kernel) rfl) (ab_in 1805 (by decide +kernel) rfl) (ab_in 1806 (by decide +kernel) rfl) (ab_in 95 (by decide +kernel) rfl) dL_law_2682 rfl rfl hl.1 (Nat.le_of_ble_eq_true rfl) (Nat.le_of_ble_eq_true rfl) (Nat.le_of_ble_eq_true rfl) hc hs (fun k r Z1 I1 A1 ad1 v3 H1 locs1 hK hv3 had hV1 => ?_)
  obtain ⟨hk1, hk2, hr1⟩ := hK
  rw [lb_C had] at hl
  refine lv_istore (lv' := (6, .int (nI k)) :: LB b ad1 adM o1 o2 i) hx hb dL_law_2685 hl (by decide) rfl (fun ls hl => ?_)
  refine lv_aload_n hx hb dL_law_2687 rfl (lv_at hl 4 rfl) ?_
  refine lv_aload_n hx hb dL_law_2688 rfl (lv_at hl 6 rfl) ?_
  refine lv_iload hx hb dL_law_2689 (lv_at hl 1 rfl) ?_
  refine lv_iconst (v := nI 1) hx hb dL_law_2691 (by decide) ?_
  refine lv_iadd hx hb dL_law_2692 ?_
  rw [nI_add]
  refine va_sld (L := L) hx hb hX hbl (show ¬ s.heap.size ≤ b from Nat.not_le_of_lt hbl) hV1.2.2.2 (vp_in_nI (by omega) (by omega)) dL_law_2693 ?_
  rw [nI_clamp (by omega)]
  refine lw_mcall (as := [.int (xs (i + 1))]) (rest := []) C0 hV1 (hm_lostPages hB hk hm) okX12_lostPages rfl (ab_in 2565 (by decide +kernel) rfl) (ab_in 2566 (by decide +kernel) rfl) (ab_in 2567 (by decide +kernel) rfl) dL_law_2694 rfl (fun v hv => by rw [List.mem_singleton.mp hv]; exact trivial) rfl hl.1 (Nat.le_of_ble_eq_true rfl) (Nat.le_of_ble_eq_true rfl) (by omega) (by omega) (fun _ _ _ _ z => z.2) (fun r2 sh1 J2 B2 ad2 H2 locs2 hp had2 hV2 => ?_)
  obtain ⟨rfl, x, rfl, hm1, hm5, hmx⟩ := hp
  have hV2 := hV2 rfl
  rw [lb_M had2] at hl
  refine lv_istore (lv' := (7, .int x) :: (6, .int (nI k)) :: LB b ad1 ad2 o1 o2 i) hx hb dL_law_2697 hl (by decide) rfl (fun ls hl => ?_)
  refine lv_aload_n hx hb dL_law_2699 rfl (lv_at hl 5 rfl) ?_
  refine lw_mcall (as := []) (rest := []) C0 hV2 (ctX12_thrown (K := fun r3 J3 B3 => r3 = J2 0 5 ∧ J2 = J3 ∧ B2 = B3) ⟨rfl, rfl, rfl⟩) okX12_thrown rfl (ab_in 2052 (by decide +kernel) rfl) (ab_in 2053 (by decide +kernel) rfl) (ab_in 2054 (by decide +kernel) rfl) dL_law_2700 rfl (fun v hv => absurd hv List.not_mem_nil) rfl hl.1 (Nat.le_of_ble_eq_true rfl) (Nat.le_of_ble_eq_true rfl) (by omega) (by omega) (fun _ _ _ _ z => z.2) (fun r4 sh1 J3 B3 ad3 H3 locs3 hp had3 hV3 => ?_)
  obtain ⟨rfl, y, rfl, rfl, rfl, rfl⟩ := hp
  have hV3 := hV3 rfl
  rw [lb_M had3] at hl
  refine lv_iload hx hb dL_law_2703 (lv_at hl 1 rfl) ?_
  refine lv_icmp_eq (tgt := 2710) hx hb dL_law_2705 (by decide) (fun _ => ?_) (fun hn => absurd (hm5.trans (by rw [hk1])) hn)
  have hfin := fun ls (hl : lv_has ls 8 ((7, .int x) :: (6, .int (nI k)) :: LB b ad1 ad3 o1 o2 i)) => kk d0 H3 locs3 ls ad1 ad3 o1 o2 v3 v2 Z1 I1 A1 J2 B2 hd0 hV3 hr1 hm1 (ik_lostPages hB hk hm) (lv_sub hl [2, 3, 4, 5, 6, 7] rfl)
  refine lv_iload hx hb dL_law_2710 (lv_at hl 1 rfl) ?_
  refine lv_if_ne (tgt := 2727) hx hb dL_law_2712 (by decide) (fun _ => ?_) (fun hz => ?_)
  · refine lv_goto (tgt := 3304) hx hb dL_law_2727 (by decide) (hfin ls hl)
  · have hk0 : k = 0 := by
      exact cz_lostPages hk1 hz
    refine lv_aload_n hx hb dL_law_2715 rfl (lv_at hl 4 rfl) ?_
    refine lv_iconst (v := 0) hx hb dL_law_2716 (by decide) ?_
    refine va_lald (i := 0) hx hb (va_K.moved (u := s) (U := s.setDrawn d0) (Vm.Alike.refl s.vm) C0.2.2.2.2.2.2.1) hV3.1.2.2.2.1 0 3 rfl rfl (by unfold vp_in; decide) dL_law_2717 ?_
    refine lv_iload hx hb dL_law_2718 (lv_at hl 0 rfl) ?_
    refine lv_i2l (v := x.toInt64) hx hb dL_law_2720 rfl ?_
    refine W.lcmp hx hb dL_law_2721 ?_
    rw [show (v3 (0 : Int32).toNatClampNeg) = x.toInt64 by rw [sb_cl0, hv3 hk0, hk2 hk0, hmx (hk1.symm.trans hk0)], lg_same]
    refine lv_if_eq (tgt := 2727) hx hb dL_law_2722 (by decide) (fun _ => ?_) (fun hn => absurd rfl hn)
    exact lv_goto (tgt := 3304) hx hb dL_law_2727 (by decide) (hfin ls hl)
theorem cz_barrierLog {st : st_S} {x0 x1 : Int32} {k : Nat} (h : k = (s_log st x0 x1).1) (hz : nI k = 0) : k = 0 := by
  have hc : k ≤ 3 := by
    rw [h]
    unfold s_log
    (repeat' split) <;> exact Nat.le_of_ble_eq_true rfl
  have h1 : k = 0 ∨ k = 1 ∨ k = 2 ∨ k = 3 := by omega
  rcases h1 with e | e | e | e <;> subst e <;> first | rfl | exact absurd hz (by decide)
theorem la_barrierLog (C0 : lw_X p l s m meth c b L xs D cT cL cD ac) {i B cells slots : Nat} {st : st_S} (hi : i + 6 ≤ L) (hL : L ≤ 3072) (hB : B + 401 < 2 ^ 24) (hc : cells + 2 ≤ 603072) (hs : slots + 12 ≤ 7186538) (kk : lw_G p l e s m below meth c b D cT cL cD ac 3304 i (B + 401) (cells + 2) (slots + 12) (s_log st (xs (i + 1)) (xs (i + 2))).2.2) : lw_G p l e s m below meth c b D cT cL cD ac 2730 i B cells slots st := by
  intro d0 H locs ls adC adM o1 o2 v1 v2 Z I A J B1 hd0 hV hr hm hk hl
  have hx := C0.1
  have hb := C0.2.1
  have hX : va_X b L xs (s.setDrawn d0) (s.setDrawn d0).heap := C0.2.2.2.2.2.2.2.2.2.1
  have hbl : b < s.heap.size := C0.2.2.2.2.2.2.2.2.2.2.1
  refine lv_aload_n hx hb dL_law_2730 rfl (lv_at hl 4 rfl) ?_
  refine lv_aload_n hx hb dL_law_2731 rfl (lv_at hl 5 rfl) ?_
  refine lv_iload hx hb dL_law_2732 (lv_at hl 0 rfl) ?_
  refine lv_iconst (v := nI 1) hx hb dL_law_2734 (by decide) ?_
  refine lv_iadd hx hb dL_law_2735 ?_
  rw [nI_add]
  refine va_sld (L := L) hx hb hX hbl (show ¬ s.heap.size ≤ b from Nat.not_le_of_lt hbl) hV.2.2.2 (vp_in_nI (by omega) (by omega)) dL_law_2736 ?_
  rw [nI_clamp (by omega)]
  refine lv_aload_n hx hb dL_law_2737 rfl (lv_at hl 5 rfl) ?_
  refine lv_iload hx hb dL_law_2738 (lv_at hl 0 rfl) ?_
  refine lv_iconst (v := nI 2) hx hb dL_law_2740 (by decide) ?_
  refine lv_iadd hx hb dL_law_2741 ?_
  rw [nI_add]
  refine va_sld (L := L) hx hb hX hbl (show ¬ s.heap.size ≤ b from Nat.not_le_of_lt hbl) hV.2.2.2 (vp_in_nI (by omega) (by omega)) dL_law_2742 ?_
  rw [nI_clamp (by omega)]
  refine lv_aload_n hx hb dL_law_2743 rfl (lv_at hl 2 rfl) ?_
  refine lw_wcall (as := [.int (xs (i + 1)), .int (xs (i + 2))]) (na := 2) (rest := []) C0 hV (wr_barrierLog C0.2.2.2.2.2.2.2.2.1 (hc_barrierLog hB hk hr) hV.1.1) ⟨by decide, by decide, by decide +kernel⟩ (ab_in 1815 (by decide +kernel) rfl) (ab_in 1813 (by decide +kernel) rfl) (ab_in 1814 (by decide +kernel) rfl) (ab_in 95 (by decide +kernel) rfl) dL_law_2744 rfl rfl hl.1 (Nat.le_of_ble_eq_true rfl) (Nat.le_of_ble_eq_true rfl) (Nat.le_of_ble_eq_true rfl) hc hs (fun k r Z1 I1 A1 ad1 v3 H1 locs1 hK hv3 had hV1 => ?_)
  obtain ⟨hk1, hk2, hr1⟩ := hK
  rw [lb_C had] at hl
  refine lv_istore (lv' := (6, .int (nI k)) :: LB b ad1 adM o1 o2 i) hx hb dL_law_2747 hl (by decide) rfl (fun ls hl => ?_)
  refine lv_aload_n hx hb dL_law_2749 rfl (lv_at hl 4 rfl) ?_
  refine lv_aload_n hx hb dL_law_2750 rfl (lv_at hl 6 rfl) ?_
  refine lv_iload hx hb dL_law_2751 (lv_at hl 1 rfl) ?_
  refine lv_iconst (v := nI 1) hx hb dL_law_2753 (by decide) ?_
  refine lv_iadd hx hb dL_law_2754 ?_
  rw [nI_add]
  refine va_sld (L := L) hx hb hX hbl (show ¬ s.heap.size ≤ b from Nat.not_le_of_lt hbl) hV1.2.2.2 (vp_in_nI (by omega) (by omega)) dL_law_2755 ?_
  rw [nI_clamp (by omega)]
  refine lv_aload_n hx hb dL_law_2756 rfl (lv_at hl 6 rfl) ?_
  refine lv_iload hx hb dL_law_2757 (lv_at hl 1 rfl) ?_
  refine lv_iconst (v := nI 2) hx hb dL_law_2759 (by decide) ?_
  refine lv_iadd hx hb dL_law_2760 ?_
  rw [nI_add]
  refine va_sld (L := L) hx hb hX hbl (show ¬ s.heap.size ≤ b from Nat.not_le_of_lt hbl) hV1.2.2.2 (vp_in_nI (by omega) (by omega)) dL_law_2761 ?_
  rw [nI_clamp (by omega)]
  refine lw_mcall (as := [.int (xs (i + 1)), .int (xs (i + 2))]) (rest := []) C0 hV1 (hm_barrierLog hB hk hm) okX12_barrierLog rfl (ab_in 2569 (by decide +kernel) rfl) (ab_in 2570 (by decide +kernel) rfl) (ab_in 2571 (by decide +kernel) rfl) dL_law_2762 rfl (fun v hv => by simp only [List.mem_cons, List.not_mem_nil, or_false] at hv; rcases hv with h | h <;> subst h <;> exact trivial) rfl hl.1 (Nat.le_of_ble_eq_true rfl) (Nat.le_of_ble_eq_true rfl) (by omega) (by omega) (fun _ _ _ _ z => z.2) (fun r2 sh1 J2 B2 ad2 H2 locs2 hp had2 hV2 => ?_)
  obtain ⟨rfl, x, rfl, hm1, hm5, hmx⟩ := hp
  have hV2 := hV2 rfl
  rw [lb_M had2] at hl
  refine lv_istore (lv' := (7, .int x) :: (6, .int (nI k)) :: LB b ad1 ad2 o1 o2 i) hx hb dL_law_2765 hl (by decide) rfl (fun ls hl => ?_)
  refine lv_aload_n hx hb dL_law_2767 rfl (lv_at hl 5 rfl) ?_
  refine lw_mcall (as := []) (rest := []) C0 hV2 (ctX12_thrown (K := fun r3 J3 B3 => r3 = J2 0 5 ∧ J2 = J3 ∧ B2 = B3) ⟨rfl, rfl, rfl⟩) okX12_thrown rfl (ab_in 2052 (by decide +kernel) rfl) (ab_in 2053 (by decide +kernel) rfl) (ab_in 2054 (by decide +kernel) rfl) dL_law_2768 rfl (fun v hv => absurd hv List.not_mem_nil) rfl hl.1 (Nat.le_of_ble_eq_true rfl) (Nat.le_of_ble_eq_true rfl) (by omega) (by omega) (fun _ _ _ _ z => z.2) (fun r4 sh1 J3 B3 ad3 H3 locs3 hp had3 hV3 => ?_)
  obtain ⟨rfl, y, rfl, rfl, rfl, rfl⟩ := hp
  have hV3 := hV3 rfl
  rw [lb_M had3] at hl
  refine lv_iload hx hb dL_law_2771 (lv_at hl 1 rfl) ?_
  refine lv_icmp_eq (tgt := 2778) hx hb dL_law_2773 (by decide) (fun _ => ?_) (fun hn => absurd (hm5.trans (by rw [hk1])) hn)
  have hfin := fun ls (hl : lv_has ls 8 ((7, .int x) :: (6, .int (nI k)) :: LB b ad1 ad3 o1 o2 i)) => kk d0 H3 locs3 ls ad1 ad3 o1 o2 v3 v2 Z1 I1 A1 J2 B2 hd0 hV3 hr1 hm1 (ik_barrierLog hB hk hm) (lv_sub hl [2, 3, 4, 5, 6, 7] rfl)
  refine lv_iload hx hb dL_law_2778 (lv_at hl 1 rfl) ?_
  refine lv_if_ne (tgt := 2795) hx hb dL_law_2780 (by decide) (fun _ => ?_) (fun hz => ?_)
  · refine lv_goto (tgt := 3304) hx hb dL_law_2795 (by decide) (hfin ls hl)
  · have hk0 : k = 0 := by
      exact cz_barrierLog hk1 hz
    refine lv_aload_n hx hb dL_law_2783 rfl (lv_at hl 4 rfl) ?_
    refine lv_iconst (v := 0) hx hb dL_law_2784 (by decide) ?_
    refine va_lald (i := 0) hx hb (va_K.moved (u := s) (U := s.setDrawn d0) (Vm.Alike.refl s.vm) C0.2.2.2.2.2.2.1) hV3.1.2.2.2.1 0 3 rfl rfl (by unfold vp_in; decide) dL_law_2785 ?_
    refine lv_iload hx hb dL_law_2786 (lv_at hl 0 rfl) ?_
    refine lv_i2l (v := x.toInt64) hx hb dL_law_2788 rfl ?_
    refine W.lcmp hx hb dL_law_2789 ?_
    rw [show (v3 (0 : Int32).toNatClampNeg) = x.toInt64 by rw [sb_cl0, hv3 hk0, hk2 hk0, hmx (hk1.symm.trans hk0)], lg_same]
    refine lv_if_eq (tgt := 2795) hx hb dL_law_2790 (by decide) (fun _ => ?_) (fun hn => absurd rfl hn)
    exact lv_goto (tgt := 3304) hx hb dL_law_2795 (by decide) (hfin ls hl)
theorem cz_recentAccess {st : st_S} {x0 : Int32} {k : Nat} (h : k = (s_rec st x0).1) (hz : nI k = 0) : k = 0 := by
  have hc : k ≤ 3 := by
    rw [h]
    unfold s_rec
    (repeat' split) <;> exact Nat.le_of_ble_eq_true rfl
  have h1 : k = 0 ∨ k = 1 ∨ k = 2 ∨ k = 3 := by omega
  rcases h1 with e | e | e | e <;> subst e <;> first | rfl | exact absurd hz (by decide)
theorem la_recentAccess (C0 : lw_X p l s m meth c b L xs D cT cL cD ac) {i B cells slots : Nat} {st : st_S} (hi : i + 6 ≤ L) (hL : L ≤ 3072) (hB : B + 401 < 2 ^ 24) (hc : cells + 1 ≤ 603072) (hs : slots + 6 ≤ 7186538) (kk : lw_G p l e s m below meth c b D cT cL cD ac 3304 i (B + 401) (cells + 1) (slots + 6) (s_rec st (xs (i + 1))).2.2) : lw_G p l e s m below meth c b D cT cL cD ac 2798 i B cells slots st := by
  intro d0 H locs ls adC adM o1 o2 v1 v2 Z I A J B1 hd0 hV hr hm hk hl
  have hx := C0.1
  have hb := C0.2.1
  have hX : va_X b L xs (s.setDrawn d0) (s.setDrawn d0).heap := C0.2.2.2.2.2.2.2.2.2.1
  have hbl : b < s.heap.size := C0.2.2.2.2.2.2.2.2.2.2.1
  refine lv_aload_n hx hb dL_law_2798 rfl (lv_at hl 4 rfl) ?_
  refine lv_aload_n hx hb dL_law_2799 rfl (lv_at hl 5 rfl) ?_
  refine lv_iload hx hb dL_law_2800 (lv_at hl 0 rfl) ?_
  refine lv_iconst (v := nI 1) hx hb dL_law_2802 (by decide) ?_
  refine lv_iadd hx hb dL_law_2803 ?_
  rw [nI_add]
  refine va_sld (L := L) hx hb hX hbl (show ¬ s.heap.size ≤ b from Nat.not_le_of_lt hbl) hV.2.2.2 (vp_in_nI (by omega) (by omega)) dL_law_2804 ?_
  rw [nI_clamp (by omega)]
  refine lv_aload_n hx hb dL_law_2805 rfl (lv_at hl 2 rfl) ?_
  refine lw_wcall (as := [.int (xs (i + 1))]) (na := 1) (rest := []) C0 hV (wr_recentAccess C0.2.2.2.2.2.2.2.2.1 (hc_recentAccess hB hk hr) hV.1.1) ⟨by decide, by decide, by decide +kernel⟩ (ab_in 1831 (by decide +kernel) rfl) (ab_in 1829 (by decide +kernel) rfl) (ab_in 1830 (by decide +kernel) rfl) (ab_in 95 (by decide +kernel) rfl) dL_law_2806 rfl rfl hl.1 (Nat.le_of_ble_eq_true rfl) (Nat.le_of_ble_eq_true rfl) (Nat.le_of_ble_eq_true rfl) hc hs (fun k r Z1 I1 A1 ad1 v3 H1 locs1 hK hv3 had hV1 => ?_)
  obtain ⟨hk1, hk2, hr1⟩ := hK
  rw [lb_C had] at hl
  refine lv_istore (lv' := (6, .int (nI k)) :: LB b ad1 adM o1 o2 i) hx hb dL_law_2809 hl (by decide) rfl (fun ls hl => ?_)
  refine lv_aload_n hx hb dL_law_2811 rfl (lv_at hl 4 rfl) ?_
  refine lv_aload_n hx hb dL_law_2812 rfl (lv_at hl 6 rfl) ?_
  refine lv_iload hx hb dL_law_2813 (lv_at hl 1 rfl) ?_
  refine lv_iconst (v := nI 1) hx hb dL_law_2815 (by decide) ?_
  refine lv_iadd hx hb dL_law_2816 ?_
  rw [nI_add]
  refine va_sld (L := L) hx hb hX hbl (show ¬ s.heap.size ≤ b from Nat.not_le_of_lt hbl) hV1.2.2.2 (vp_in_nI (by omega) (by omega)) dL_law_2817 ?_
  rw [nI_clamp (by omega)]
  refine lw_mcall (as := [.int (xs (i + 1))]) (rest := []) C0 hV1 (hm_recentAccess hB hk hm) okX12_recentAccess rfl (ab_in 2574 (by decide +kernel) rfl) (ab_in 2575 (by decide +kernel) rfl) (ab_in 2576 (by decide +kernel) rfl) dL_law_2818 rfl (fun v hv => by rw [List.mem_singleton.mp hv]; exact trivial) rfl hl.1 (Nat.le_of_ble_eq_true rfl) (Nat.le_of_ble_eq_true rfl) (by omega) (by omega) (fun _ _ _ _ z => z.2) (fun r2 sh1 J2 B2 ad2 H2 locs2 hp had2 hV2 => ?_)
  obtain ⟨rfl, x, rfl, hm1, hm5, hmx⟩ := hp
  have hV2 := hV2 rfl
  rw [lb_M had2] at hl
  refine lv_istore (lv' := (7, .int x) :: (6, .int (nI k)) :: LB b ad1 ad2 o1 o2 i) hx hb dL_law_2821 hl (by decide) rfl (fun ls hl => ?_)
  refine lv_aload_n hx hb dL_law_2823 rfl (lv_at hl 5 rfl) ?_
  refine lw_mcall (as := []) (rest := []) C0 hV2 (ctX12_thrown (K := fun r3 J3 B3 => r3 = J2 0 5 ∧ J2 = J3 ∧ B2 = B3) ⟨rfl, rfl, rfl⟩) okX12_thrown rfl (ab_in 2052 (by decide +kernel) rfl) (ab_in 2053 (by decide +kernel) rfl) (ab_in 2054 (by decide +kernel) rfl) dL_law_2824 rfl (fun v hv => absurd hv List.not_mem_nil) rfl hl.1 (Nat.le_of_ble_eq_true rfl) (Nat.le_of_ble_eq_true rfl) (by omega) (by omega) (fun _ _ _ _ z => z.2) (fun r4 sh1 J3 B3 ad3 H3 locs3 hp had3 hV3 => ?_)
  obtain ⟨rfl, y, rfl, rfl, rfl, rfl⟩ := hp
  have hV3 := hV3 rfl
  rw [lb_M had3] at hl
  refine lv_iload hx hb dL_law_2827 (lv_at hl 1 rfl) ?_
  refine lv_icmp_eq (tgt := 2834) hx hb dL_law_2829 (by decide) (fun _ => ?_) (fun hn => absurd (hm5.trans (by rw [hk1])) hn)
  have hfin := fun ls (hl : lv_has ls 8 ((7, .int x) :: (6, .int (nI k)) :: LB b ad1 ad3 o1 o2 i)) => kk d0 H3 locs3 ls ad1 ad3 o1 o2 v3 v2 Z1 I1 A1 J2 B2 hd0 hV3 hr1 hm1 (ik_recentAccess hB hk hm) (lv_sub hl [2, 3, 4, 5, 6, 7] rfl)
  refine lv_iload hx hb dL_law_2834 (lv_at hl 1 rfl) ?_
  refine lv_if_ne (tgt := 2851) hx hb dL_law_2836 (by decide) (fun _ => ?_) (fun hz => ?_)
  · refine lv_goto (tgt := 3304) hx hb dL_law_2851 (by decide) (hfin ls hl)
  · have hk0 : k = 0 := by
      exact cz_recentAccess hk1 hz
    refine lv_aload_n hx hb dL_law_2839 rfl (lv_at hl 4 rfl) ?_
    refine lv_iconst (v := 0) hx hb dL_law_2840 (by decide) ?_
    refine va_lald (i := 0) hx hb (va_K.moved (u := s) (U := s.setDrawn d0) (Vm.Alike.refl s.vm) C0.2.2.2.2.2.2.1) hV3.1.2.2.2.1 0 3 rfl rfl (by unfold vp_in; decide) dL_law_2841 ?_
    refine lv_iload hx hb dL_law_2842 (lv_at hl 0 rfl) ?_
    refine lv_i2l (v := x.toInt64) hx hb dL_law_2844 rfl ?_
    refine W.lcmp hx hb dL_law_2845 ?_
    rw [show (v3 (0 : Int32).toNatClampNeg) = x.toInt64 by rw [sb_cl0, hv3 hk0, hk2 hk0, hmx (hk1.symm.trans hk0)], lg_same]
    refine lv_if_eq (tgt := 2851) hx hb dL_law_2846 (by decide) (fun _ => ?_) (fun hn => absurd rfl hn)
    exact lv_goto (tgt := 3304) hx hb dL_law_2851 (by decide) (hfin ls hl)
theorem cz_faultsWith {st : st_S} {x0 x1 : Int32} {k : Nat} (h : k = (s_flt st x0 x1).1) (hz : nI k = 0) : k = 0 := by
  have hc : k ≤ 3 := by
    rw [h]
    unfold s_flt
    (repeat' split) <;> exact Nat.le_of_ble_eq_true rfl
  have h1 : k = 0 ∨ k = 1 ∨ k = 2 ∨ k = 3 := by omega
  rcases h1 with e | e | e | e <;> subst e <;> first | rfl | exact absurd hz (by decide)
theorem la_faultsWith (C0 : lw_X p l s m meth c b L xs D cT cL cD ac) {i B cells slots : Nat} {st : st_S} (hi : i + 6 ≤ L) (hL : L ≤ 3072) (hB : B + 401 < 2 ^ 24) (hc : cells + 2 ≤ 603072) (hs : slots + 12 ≤ 7186538) (kk : lw_G p l e s m below meth c b D cT cL cD ac 3304 i (B + 401) (cells + 2) (slots + 12) (s_flt st (xs (i + 1)) (xs (i + 2))).2.2) : lw_G p l e s m below meth c b D cT cL cD ac 2854 i B cells slots st := by
  intro d0 H locs ls adC adM o1 o2 v1 v2 Z I A J B1 hd0 hV hr hm hk hl
  have hx := C0.1
  have hb := C0.2.1
  have hX : va_X b L xs (s.setDrawn d0) (s.setDrawn d0).heap := C0.2.2.2.2.2.2.2.2.2.1
  have hbl : b < s.heap.size := C0.2.2.2.2.2.2.2.2.2.2.1
  refine lv_aload_n hx hb dL_law_2854 rfl (lv_at hl 4 rfl) ?_
  refine lv_aload_n hx hb dL_law_2855 rfl (lv_at hl 5 rfl) ?_
  refine lv_iload hx hb dL_law_2856 (lv_at hl 0 rfl) ?_
  refine lv_iconst (v := nI 1) hx hb dL_law_2858 (by decide) ?_
  refine lv_iadd hx hb dL_law_2859 ?_
  rw [nI_add]
  refine va_sld (L := L) hx hb hX hbl (show ¬ s.heap.size ≤ b from Nat.not_le_of_lt hbl) hV.2.2.2 (vp_in_nI (by omega) (by omega)) dL_law_2860 ?_
  rw [nI_clamp (by omega)]
  refine lv_aload_n hx hb dL_law_2861 rfl (lv_at hl 5 rfl) ?_
  refine lv_iload hx hb dL_law_2862 (lv_at hl 0 rfl) ?_
  refine lv_iconst (v := nI 2) hx hb dL_law_2864 (by decide) ?_
  refine lv_iadd hx hb dL_law_2865 ?_
  rw [nI_add]
  refine va_sld (L := L) hx hb hX hbl (show ¬ s.heap.size ≤ b from Nat.not_le_of_lt hbl) hV.2.2.2 (vp_in_nI (by omega) (by omega)) dL_law_2866 ?_
  rw [nI_clamp (by omega)]
  refine lv_aload_n hx hb dL_law_2867 rfl (lv_at hl 2 rfl) ?_
  refine lw_wcall (as := [.int (xs (i + 1)), .int (xs (i + 2))]) (na := 2) (rest := []) C0 hV (wr_faultsWith C0.2.2.2.2.2.2.2.2.1 (hc_faultsWith hB hk hr) hV.1.1) ⟨by decide, by decide, by decide +kernel⟩ (ab_in 1847 (by decide +kernel) rfl) (ab_in 1845 (by decide +kernel) rfl) (ab_in 1846 (by decide +kernel) rfl) (ab_in 95 (by decide +kernel) rfl) dL_law_2868 rfl rfl hl.1 (Nat.le_of_ble_eq_true rfl) (Nat.le_of_ble_eq_true rfl) (Nat.le_of_ble_eq_true rfl) hc hs (fun k r Z1 I1 A1 ad1 v3 H1 locs1 hK hv3 had hV1 => ?_)
  obtain ⟨hk1, hk2, hr1⟩ := hK
  rw [lb_C had] at hl
  refine lv_istore (lv' := (6, .int (nI k)) :: LB b ad1 adM o1 o2 i) hx hb dL_law_2871 hl (by decide) rfl (fun ls hl => ?_)
  refine lv_aload_n hx hb dL_law_2873 rfl (lv_at hl 4 rfl) ?_
  refine lv_aload_n hx hb dL_law_2874 rfl (lv_at hl 6 rfl) ?_
  refine lv_iload hx hb dL_law_2875 (lv_at hl 1 rfl) ?_
  refine lv_iconst (v := nI 1) hx hb dL_law_2877 (by decide) ?_
  refine lv_iadd hx hb dL_law_2878 ?_
  rw [nI_add]
  refine va_sld (L := L) hx hb hX hbl (show ¬ s.heap.size ≤ b from Nat.not_le_of_lt hbl) hV1.2.2.2 (vp_in_nI (by omega) (by omega)) dL_law_2879 ?_
  rw [nI_clamp (by omega)]
  refine lv_aload_n hx hb dL_law_2880 rfl (lv_at hl 6 rfl) ?_
  refine lv_iload hx hb dL_law_2881 (lv_at hl 1 rfl) ?_
  refine lv_iconst (v := nI 2) hx hb dL_law_2883 (by decide) ?_
  refine lv_iadd hx hb dL_law_2884 ?_
  rw [nI_add]
  refine va_sld (L := L) hx hb hX hbl (show ¬ s.heap.size ≤ b from Nat.not_le_of_lt hbl) hV1.2.2.2 (vp_in_nI (by omega) (by omega)) dL_law_2885 ?_
  rw [nI_clamp (by omega)]
  refine lw_mcall (as := [.int (xs (i + 1)), .int (xs (i + 2))]) (rest := []) C0 hV1 (hm_faultsWith hB hk hm) okX12_faultsWith rfl (ab_in 2578 (by decide +kernel) rfl) (ab_in 2579 (by decide +kernel) rfl) (ab_in 2580 (by decide +kernel) rfl) dL_law_2886 rfl (fun v hv => by simp only [List.mem_cons, List.not_mem_nil, or_false] at hv; rcases hv with h | h <;> subst h <;> exact trivial) rfl hl.1 (Nat.le_of_ble_eq_true rfl) (Nat.le_of_ble_eq_true rfl) (by omega) (by omega) (fun _ _ _ _ z => z.2) (fun r2 sh1 J2 B2 ad2 H2 locs2 hp had2 hV2 => ?_)
  obtain ⟨rfl, x, rfl, hm1, hm5, hmx⟩ := hp
  have hV2 := hV2 rfl
  rw [lb_M had2] at hl
  refine lv_istore (lv' := (7, .int x) :: (6, .int (nI k)) :: LB b ad1 ad2 o1 o2 i) hx hb dL_law_2889 hl (by decide) rfl (fun ls hl => ?_)
  refine lv_aload_n hx hb dL_law_2891 rfl (lv_at hl 5 rfl) ?_
  refine lw_mcall (as := []) (rest := []) C0 hV2 (ctX12_thrown (K := fun r3 J3 B3 => r3 = J2 0 5 ∧ J2 = J3 ∧ B2 = B3) ⟨rfl, rfl, rfl⟩) okX12_thrown rfl (ab_in 2052 (by decide +kernel) rfl) (ab_in 2053 (by decide +kernel) rfl) (ab_in 2054 (by decide +kernel) rfl) dL_law_2892 rfl (fun v hv => absurd hv List.not_mem_nil) rfl hl.1 (Nat.le_of_ble_eq_true rfl) (Nat.le_of_ble_eq_true rfl) (by omega) (by omega) (fun _ _ _ _ z => z.2) (fun r4 sh1 J3 B3 ad3 H3 locs3 hp had3 hV3 => ?_)
  obtain ⟨rfl, y, rfl, rfl, rfl, rfl⟩ := hp
  have hV3 := hV3 rfl
  rw [lb_M had3] at hl
  refine lv_iload hx hb dL_law_2895 (lv_at hl 1 rfl) ?_
  refine lv_icmp_eq (tgt := 2902) hx hb dL_law_2897 (by decide) (fun _ => ?_) (fun hn => absurd (hm5.trans (by rw [hk1])) hn)
  have hfin := fun ls (hl : lv_has ls 8 ((7, .int x) :: (6, .int (nI k)) :: LB b ad1 ad3 o1 o2 i)) => kk d0 H3 locs3 ls ad1 ad3 o1 o2 v3 v2 Z1 I1 A1 J2 B2 hd0 hV3 hr1 hm1 (ik_faultsWith hB hk hm) (lv_sub hl [2, 3, 4, 5, 6, 7] rfl)
  refine lv_iload hx hb dL_law_2902 (lv_at hl 1 rfl) ?_
  refine lv_if_ne (tgt := 2919) hx hb dL_law_2904 (by decide) (fun _ => ?_) (fun hz => ?_)
  · refine lv_goto (tgt := 3304) hx hb dL_law_2919 (by decide) (hfin ls hl)
  · have hk0 : k = 0 := by
      exact cz_faultsWith hk1 hz
    refine lv_aload_n hx hb dL_law_2907 rfl (lv_at hl 4 rfl) ?_
    refine lv_iconst (v := 0) hx hb dL_law_2908 (by decide) ?_
    refine va_lald (i := 0) hx hb (va_K.moved (u := s) (U := s.setDrawn d0) (Vm.Alike.refl s.vm) C0.2.2.2.2.2.2.1) hV3.1.2.2.2.1 0 3 rfl rfl (by unfold vp_in; decide) dL_law_2909 ?_
    refine lv_iload hx hb dL_law_2910 (lv_at hl 0 rfl) ?_
    refine lv_i2l (v := x.toInt64) hx hb dL_law_2912 rfl ?_
    refine W.lcmp hx hb dL_law_2913 ?_
    rw [show (v3 (0 : Int32).toNatClampNeg) = x.toInt64 by rw [sb_cl0, hv3 hk0, hk2 hk0, hmx (hk1.symm.trans hk0)], lg_same]
    refine lv_if_eq (tgt := 2919) hx hb dL_law_2914 (by decide) (fun _ => ?_) (fun hn => absurd rfl hn)
    exact lv_goto (tgt := 3304) hx hb dL_law_2919 (by decide) (hfin ls hl)
theorem cz_leastFrames {st : st_S} {x0 : Int32} {k : Nat} (h : k = (s_lf st x0).1) (hz : nI k = 0) : k = 0 := by
  have hc : k ≤ 3 := by
    rw [h]
    unfold s_lf
    (repeat' split) <;> exact Nat.le_of_ble_eq_true rfl
  have h1 : k = 0 ∨ k = 1 ∨ k = 2 ∨ k = 3 := by omega
  rcases h1 with e | e | e | e <;> subst e <;> first | rfl | exact absurd hz (by decide)
theorem la_leastFrames (C0 : lw_X p l s m meth c b L xs D cT cL cD ac) {i B cells slots : Nat} {st : st_S} (hi : i + 6 ≤ L) (hL : L ≤ 3072) (hB : B + 401 < 2 ^ 24) (hc : cells + 2 ≤ 603072) (hs : slots + 12 ≤ 7186538) (kk : lw_G p l e s m below meth c b D cT cL cD ac 3304 i (B + 401) (cells + 2) (slots + 12) (s_lf st (xs (i + 1))).2.2) : lw_G p l e s m below meth c b D cT cL cD ac 2922 i B cells slots st := by
  intro d0 H locs ls adC adM o1 o2 v1 v2 Z I A J B1 hd0 hV hr hm hk hl
  have hx := C0.1
  have hb := C0.2.1
  have hX : va_X b L xs (s.setDrawn d0) (s.setDrawn d0).heap := C0.2.2.2.2.2.2.2.2.2.1
  have hbl : b < s.heap.size := C0.2.2.2.2.2.2.2.2.2.2.1
  refine lv_aload_n hx hb dL_law_2922 rfl (lv_at hl 4 rfl) ?_
  refine lv_aload_n hx hb dL_law_2923 rfl (lv_at hl 5 rfl) ?_
  refine lv_iload hx hb dL_law_2924 (lv_at hl 0 rfl) ?_
  refine lv_iconst (v := nI 1) hx hb dL_law_2926 (by decide) ?_
  refine lv_iadd hx hb dL_law_2927 ?_
  rw [nI_add]
  refine va_sld (L := L) hx hb hX hbl (show ¬ s.heap.size ≤ b from Nat.not_le_of_lt hbl) hV.2.2.2 (vp_in_nI (by omega) (by omega)) dL_law_2928 ?_
  rw [nI_clamp (by omega)]
  refine lv_aload_n hx hb dL_law_2929 rfl (lv_at hl 2 rfl) ?_
  refine lw_wcall (as := [.int (xs (i + 1))]) (na := 1) (rest := []) C0 hV (wr_leastFrames C0.2.2.2.2.2.2.2.2.1 (hc_leastFrames hB hk hr) hV.1.1) ⟨by decide, by decide, by decide +kernel⟩ (ab_in 1873 (by decide +kernel) rfl) (ab_in 1871 (by decide +kernel) rfl) (ab_in 1872 (by decide +kernel) rfl) (ab_in 95 (by decide +kernel) rfl) dL_law_2930 rfl rfl hl.1 (Nat.le_of_ble_eq_true rfl) (Nat.le_of_ble_eq_true rfl) (Nat.le_of_ble_eq_true rfl) hc hs (fun k r Z1 I1 A1 ad1 v3 H1 locs1 hK hv3 had hV1 => ?_)
  obtain ⟨hk1, hk2, hr1⟩ := hK
  rw [lb_C had] at hl
  refine lv_istore (lv' := (6, .int (nI k)) :: LB b ad1 adM o1 o2 i) hx hb dL_law_2933 hl (by decide) rfl (fun ls hl => ?_)
  refine lv_aload_n hx hb dL_law_2935 rfl (lv_at hl 4 rfl) ?_
  refine lv_aload_n hx hb dL_law_2936 rfl (lv_at hl 6 rfl) ?_
  refine lv_iload hx hb dL_law_2937 (lv_at hl 1 rfl) ?_
  refine lv_iconst (v := nI 1) hx hb dL_law_2939 (by decide) ?_
  refine lv_iadd hx hb dL_law_2940 ?_
  rw [nI_add]
  refine va_sld (L := L) hx hb hX hbl (show ¬ s.heap.size ≤ b from Nat.not_le_of_lt hbl) hV1.2.2.2 (vp_in_nI (by omega) (by omega)) dL_law_2941 ?_
  rw [nI_clamp (by omega)]
  refine lw_mcall (as := [.int (xs (i + 1))]) (rest := []) C0 hV1 (hm_leastFrames hB hk hm) okX12_leastFrames rfl (ab_in 2595 (by decide +kernel) rfl) (ab_in 2596 (by decide +kernel) rfl) (ab_in 2597 (by decide +kernel) rfl) dL_law_2942 rfl (fun v hv => by rw [List.mem_singleton.mp hv]; exact trivial) rfl hl.1 (Nat.le_of_ble_eq_true rfl) (Nat.le_of_ble_eq_true rfl) (by omega) (by omega) (fun _ _ _ _ z => z.2) (fun r2 sh1 J2 B2 ad2 H2 locs2 hp had2 hV2 => ?_)
  obtain ⟨rfl, x, rfl, hm1, hm5, hmx⟩ := hp
  have hV2 := hV2 rfl
  rw [lb_M had2] at hl
  refine lv_istore (lv' := (7, .int x) :: (6, .int (nI k)) :: LB b ad1 ad2 o1 o2 i) hx hb dL_law_2945 hl (by decide) rfl (fun ls hl => ?_)
  refine lv_aload_n hx hb dL_law_2947 rfl (lv_at hl 5 rfl) ?_
  refine lw_mcall (as := []) (rest := []) C0 hV2 (ctX12_thrown (K := fun r3 J3 B3 => r3 = J2 0 5 ∧ J2 = J3 ∧ B2 = B3) ⟨rfl, rfl, rfl⟩) okX12_thrown rfl (ab_in 2052 (by decide +kernel) rfl) (ab_in 2053 (by decide +kernel) rfl) (ab_in 2054 (by decide +kernel) rfl) dL_law_2948 rfl (fun v hv => absurd hv List.not_mem_nil) rfl hl.1 (Nat.le_of_ble_eq_true rfl) (Nat.le_of_ble_eq_true rfl) (by omega) (by omega) (fun _ _ _ _ z => z.2) (fun r4 sh1 J3 B3 ad3 H3 locs3 hp had3 hV3 => ?_)
  obtain ⟨rfl, y, rfl, rfl, rfl, rfl⟩ := hp
  have hV3 := hV3 rfl
  rw [lb_M had3] at hl
  refine lv_iload hx hb dL_law_2951 (lv_at hl 1 rfl) ?_
  refine lv_icmp_eq (tgt := 2958) hx hb dL_law_2953 (by decide) (fun _ => ?_) (fun hn => absurd (hm5.trans (by rw [hk1])) hn)
  have hfin := fun ls (hl : lv_has ls 8 ((7, .int x) :: (6, .int (nI k)) :: LB b ad1 ad3 o1 o2 i)) => kk d0 H3 locs3 ls ad1 ad3 o1 o2 v3 v2 Z1 I1 A1 J2 B2 hd0 hV3 hr1 hm1 (ik_leastFrames hB hk hm) (lv_sub hl [2, 3, 4, 5, 6, 7] rfl)
  refine lv_iload hx hb dL_law_2958 (lv_at hl 1 rfl) ?_
  refine lv_if_ne (tgt := 2975) hx hb dL_law_2960 (by decide) (fun _ => ?_) (fun hz => ?_)
  · refine lv_goto (tgt := 3304) hx hb dL_law_2975 (by decide) (hfin ls hl)
  · have hk0 : k = 0 := by
      exact cz_leastFrames hk1 hz
    refine lv_aload_n hx hb dL_law_2963 rfl (lv_at hl 4 rfl) ?_
    refine lv_iconst (v := 0) hx hb dL_law_2964 (by decide) ?_
    refine va_lald (i := 0) hx hb (va_K.moved (u := s) (U := s.setDrawn d0) (Vm.Alike.refl s.vm) C0.2.2.2.2.2.2.1) hV3.1.2.2.2.1 0 3 rfl rfl (by unfold vp_in; decide) dL_law_2965 ?_
    refine lv_iload hx hb dL_law_2966 (lv_at hl 0 rfl) ?_
    refine lv_i2l (v := x.toInt64) hx hb dL_law_2968 rfl ?_
    refine W.lcmp hx hb dL_law_2969 ?_
    rw [show (v3 (0 : Int32).toNatClampNeg) = x.toInt64 by rw [sb_cl0, hv3 hk0, hk2 hk0, hmx (hk1.symm.trans hk0)], lg_same]
    refine lv_if_eq (tgt := 2975) hx hb dL_law_2970 (by decide) (fun _ => ?_) (fun hn => absurd rfl hn)
    exact lv_goto (tgt := 3304) hx hb dL_law_2975 (by decide) (hfin ls hl)
theorem cz_workingSet {st : st_S} {x0 : Int32} {k : Nat} (h : k = (s_ws st x0).1) (hz : nI k = 0) : k = 0 := by
  have hc : k ≤ 3 := by
    rw [h]
    unfold s_ws
    (repeat' split) <;> exact Nat.le_of_ble_eq_true rfl
  have h1 : k = 0 ∨ k = 1 ∨ k = 2 ∨ k = 3 := by omega
  rcases h1 with e | e | e | e <;> subst e <;> first | rfl | exact absurd hz (by decide)
theorem la_workingSet (C0 : lw_X p l s m meth c b L xs D cT cL cD ac) {i B cells slots : Nat} {st : st_S} (hi : i + 6 ≤ L) (hL : L ≤ 3072) (hB : B + 401 < 2 ^ 24) (hc : cells + 1 ≤ 603072) (hs : slots + 6 ≤ 7186538) (kk : lw_G p l e s m below meth c b D cT cL cD ac 3304 i (B + 401) (cells + 1) (slots + 6) (s_ws st (xs (i + 1))).2.2) : lw_G p l e s m below meth c b D cT cL cD ac 2978 i B cells slots st := by
  intro d0 H locs ls adC adM o1 o2 v1 v2 Z I A J B1 hd0 hV hr hm hk hl
  have hx := C0.1
  have hb := C0.2.1
  have hX : va_X b L xs (s.setDrawn d0) (s.setDrawn d0).heap := C0.2.2.2.2.2.2.2.2.2.1
  have hbl : b < s.heap.size := C0.2.2.2.2.2.2.2.2.2.2.1
  refine lv_aload_n hx hb dL_law_2978 rfl (lv_at hl 4 rfl) ?_
  refine lv_aload_n hx hb dL_law_2979 rfl (lv_at hl 5 rfl) ?_
  refine lv_iload hx hb dL_law_2980 (lv_at hl 0 rfl) ?_
  refine lv_iconst (v := nI 1) hx hb dL_law_2982 (by decide) ?_
  refine lv_iadd hx hb dL_law_2983 ?_
  rw [nI_add]
  refine va_sld (L := L) hx hb hX hbl (show ¬ s.heap.size ≤ b from Nat.not_le_of_lt hbl) hV.2.2.2 (vp_in_nI (by omega) (by omega)) dL_law_2984 ?_
  rw [nI_clamp (by omega)]
  refine lv_aload_n hx hb dL_law_2985 rfl (lv_at hl 2 rfl) ?_
  refine lw_wcall (as := [.int (xs (i + 1))]) (na := 1) (rest := []) C0 hV (wr_workingSet C0.2.2.2.2.2.2.2.2.1 (hc_workingSet hB hk hr) hV.1.1) ⟨by decide, by decide, by decide +kernel⟩ (ab_in 1885 (by decide +kernel) rfl) (ab_in 1883 (by decide +kernel) rfl) (ab_in 1884 (by decide +kernel) rfl) (ab_in 95 (by decide +kernel) rfl) dL_law_2986 rfl rfl hl.1 (Nat.le_of_ble_eq_true rfl) (Nat.le_of_ble_eq_true rfl) (Nat.le_of_ble_eq_true rfl) hc hs (fun k r Z1 I1 A1 ad1 v3 H1 locs1 hK hv3 had hV1 => ?_)
  obtain ⟨hk1, hk2, hr1⟩ := hK
  rw [lb_C had] at hl
  refine lv_istore (lv' := (6, .int (nI k)) :: LB b ad1 adM o1 o2 i) hx hb dL_law_2989 hl (by decide) rfl (fun ls hl => ?_)
  refine lv_aload_n hx hb dL_law_2991 rfl (lv_at hl 4 rfl) ?_
  refine lv_aload_n hx hb dL_law_2992 rfl (lv_at hl 6 rfl) ?_
  refine lv_iload hx hb dL_law_2993 (lv_at hl 1 rfl) ?_
  refine lv_iconst (v := nI 1) hx hb dL_law_2995 (by decide) ?_
  refine lv_iadd hx hb dL_law_2996 ?_
  rw [nI_add]
  refine va_sld (L := L) hx hb hX hbl (show ¬ s.heap.size ≤ b from Nat.not_le_of_lt hbl) hV1.2.2.2 (vp_in_nI (by omega) (by omega)) dL_law_2997 ?_
  rw [nI_clamp (by omega)]
  refine lw_mcall (as := [.int (xs (i + 1))]) (rest := []) C0 hV1 (hm_workingSet hB hk hm) okX12_workingSet rfl (ab_in 2600 (by decide +kernel) rfl) (ab_in 2601 (by decide +kernel) rfl) (ab_in 2602 (by decide +kernel) rfl) dL_law_2998 rfl (fun v hv => by rw [List.mem_singleton.mp hv]; exact trivial) rfl hl.1 (Nat.le_of_ble_eq_true rfl) (Nat.le_of_ble_eq_true rfl) (by omega) (by omega) (fun _ _ _ _ z => z.2) (fun r2 sh1 J2 B2 ad2 H2 locs2 hp had2 hV2 => ?_)
  obtain ⟨rfl, x, rfl, hm1, hm5, hmx⟩ := hp
  have hV2 := hV2 rfl
  rw [lb_M had2] at hl
  refine lv_istore (lv' := (7, .int x) :: (6, .int (nI k)) :: LB b ad1 ad2 o1 o2 i) hx hb dL_law_3001 hl (by decide) rfl (fun ls hl => ?_)
  refine lv_aload_n hx hb dL_law_3003 rfl (lv_at hl 5 rfl) ?_
  refine lw_mcall (as := []) (rest := []) C0 hV2 (ctX12_thrown (K := fun r3 J3 B3 => r3 = J2 0 5 ∧ J2 = J3 ∧ B2 = B3) ⟨rfl, rfl, rfl⟩) okX12_thrown rfl (ab_in 2052 (by decide +kernel) rfl) (ab_in 2053 (by decide +kernel) rfl) (ab_in 2054 (by decide +kernel) rfl) dL_law_3004 rfl (fun v hv => absurd hv List.not_mem_nil) rfl hl.1 (Nat.le_of_ble_eq_true rfl) (Nat.le_of_ble_eq_true rfl) (by omega) (by omega) (fun _ _ _ _ z => z.2) (fun r4 sh1 J3 B3 ad3 H3 locs3 hp had3 hV3 => ?_)
  obtain ⟨rfl, y, rfl, rfl, rfl, rfl⟩ := hp
  have hV3 := hV3 rfl
  rw [lb_M had3] at hl
  refine lv_iload hx hb dL_law_3007 (lv_at hl 1 rfl) ?_
  refine lv_icmp_eq (tgt := 3014) hx hb dL_law_3009 (by decide) (fun _ => ?_) (fun hn => absurd (hm5.trans (by rw [hk1])) hn)
  have hfin := fun ls (hl : lv_has ls 8 ((7, .int x) :: (6, .int (nI k)) :: LB b ad1 ad3 o1 o2 i)) => kk d0 H3 locs3 ls ad1 ad3 o1 o2 v3 v2 Z1 I1 A1 J2 B2 hd0 hV3 hr1 hm1 (ik_workingSet hB hk hm) (lv_sub hl [2, 3, 4, 5, 6, 7] rfl)
  refine lv_iload hx hb dL_law_3014 (lv_at hl 1 rfl) ?_
  refine lv_if_ne (tgt := 3031) hx hb dL_law_3016 (by decide) (fun _ => ?_) (fun hz => ?_)
  · refine lv_goto (tgt := 3304) hx hb dL_law_3031 (by decide) (hfin ls hl)
  · have hk0 : k = 0 := by
      exact cz_workingSet hk1 hz
    refine lv_aload_n hx hb dL_law_3019 rfl (lv_at hl 4 rfl) ?_
    refine lv_iconst (v := 0) hx hb dL_law_3020 (by decide) ?_
    refine va_lald (i := 0) hx hb (va_K.moved (u := s) (U := s.setDrawn d0) (Vm.Alike.refl s.vm) C0.2.2.2.2.2.2.1) hV3.1.2.2.2.1 0 3 rfl rfl (by unfold vp_in; decide) dL_law_3021 ?_
    refine lv_iload hx hb dL_law_3022 (lv_at hl 0 rfl) ?_
    refine lv_i2l (v := x.toInt64) hx hb dL_law_3024 rfl ?_
    refine W.lcmp hx hb dL_law_3025 ?_
    rw [show (v3 (0 : Int32).toNatClampNeg) = x.toInt64 by rw [sb_cl0, hv3 hk0, hk2 hk0, hmx (hk1.symm.trans hk0)], lg_same]
    refine lv_if_eq (tgt := 3031) hx hb dL_law_3026 (by decide) (fun _ => ?_) (fun hn => absurd rfl hn)
    exact lv_goto (tgt := 3304) hx hb dL_law_3031 (by decide) (hfin ls hl)
theorem cz_hottestPage {st : st_S} {k : Nat} (h : k = (s_hot st).1) (hz : nI k = 0) : k = 0 := by
  have hc : k ≤ 3 := by
    rw [h]
    unfold s_hot
    (repeat' split) <;> exact Nat.le_of_ble_eq_true rfl
  have h1 : k = 0 ∨ k = 1 ∨ k = 2 ∨ k = 3 := by omega
  rcases h1 with e | e | e | e <;> subst e <;> first | rfl | exact absurd hz (by decide)
theorem la_hottestPage (C0 : lw_X p l s m meth c b L xs D cT cL cD ac) {i B cells slots : Nat} {st : st_S} (hi : i + 6 ≤ L) (hL : L ≤ 3072) (hB : B + 401 < 2 ^ 24) (hc : cells + 1 ≤ 603072) (hs : slots + 6 ≤ 7186538) (kk : lw_G p l e s m below meth c b D cT cL cD ac 3304 i (B + 401) (cells + 1) (slots + 6) (s_hot st).2.2) : lw_G p l e s m below meth c b D cT cL cD ac 3034 i B cells slots st := by
  intro d0 H locs ls adC adM o1 o2 v1 v2 Z I A J B1 hd0 hV hr hm hk hl
  have hx := C0.1
  have hb := C0.2.1
  have hX : va_X b L xs (s.setDrawn d0) (s.setDrawn d0).heap := C0.2.2.2.2.2.2.2.2.2.1
  have hbl : b < s.heap.size := C0.2.2.2.2.2.2.2.2.2.2.1
  refine lv_aload_n hx hb dL_law_3034 rfl (lv_at hl 4 rfl) ?_
  refine lv_aload_n hx hb dL_law_3035 rfl (lv_at hl 2 rfl) ?_
  refine lw_wcall (as := []) (na := 0) (rest := []) C0 hV (wr_hottestPage C0.2.2.2.2.2.2.2.2.1 (hc_hottestPage hB hk hr) hV.1.1) ⟨by decide, by decide, by decide +kernel⟩ (ab_in 1904 (by decide +kernel) rfl) (ab_in 1902 (by decide +kernel) rfl) (ab_in 1903 (by decide +kernel) rfl) (ab_in 95 (by decide +kernel) rfl) dL_law_3036 rfl rfl hl.1 (Nat.le_of_ble_eq_true rfl) (Nat.le_of_ble_eq_true rfl) (Nat.le_of_ble_eq_true rfl) hc hs (fun k r Z1 I1 A1 ad1 v3 H1 locs1 hK hv3 had hV1 => ?_)
  obtain ⟨hk1, hk2, hr1⟩ := hK
  rw [lb_C had] at hl
  refine lv_istore (lv' := (6, .int (nI k)) :: LB b ad1 adM o1 o2 i) hx hb dL_law_3039 hl (by decide) rfl (fun ls hl => ?_)
  refine lv_aload_n hx hb dL_law_3041 rfl (lv_at hl 4 rfl) ?_
  refine lw_mcall (as := []) (rest := []) C0 hV1 (hm_hottestPage hB hk hm) okX12_hottestPage rfl (ab_in 2608 (by decide +kernel) rfl) (ab_in 2609 (by decide +kernel) rfl) (ab_in 2610 (by decide +kernel) rfl) dL_law_3042 rfl (fun v hv => by exact absurd hv List.not_mem_nil) rfl hl.1 (Nat.le_of_ble_eq_true rfl) (Nat.le_of_ble_eq_true rfl) (by omega) (by omega) (fun _ _ _ _ z => z.2) (fun r2 sh1 J2 B2 ad2 H2 locs2 hp had2 hV2 => ?_)
  obtain ⟨rfl, x, rfl, hm1, hm5, hmx⟩ := hp
  have hV2 := hV2 rfl
  rw [lb_M had2] at hl
  refine lv_istore (lv' := (7, .int x) :: (6, .int (nI k)) :: LB b ad1 ad2 o1 o2 i) hx hb dL_law_3045 hl (by decide) rfl (fun ls hl => ?_)
  refine lv_aload_n hx hb dL_law_3047 rfl (lv_at hl 5 rfl) ?_
  refine lw_mcall (as := []) (rest := []) C0 hV2 (ctX12_thrown (K := fun r3 J3 B3 => r3 = J2 0 5 ∧ J2 = J3 ∧ B2 = B3) ⟨rfl, rfl, rfl⟩) okX12_thrown rfl (ab_in 2052 (by decide +kernel) rfl) (ab_in 2053 (by decide +kernel) rfl) (ab_in 2054 (by decide +kernel) rfl) dL_law_3048 rfl (fun v hv => absurd hv List.not_mem_nil) rfl hl.1 (Nat.le_of_ble_eq_true rfl) (Nat.le_of_ble_eq_true rfl) (by omega) (by omega) (fun _ _ _ _ z => z.2) (fun r4 sh1 J3 B3 ad3 H3 locs3 hp had3 hV3 => ?_)
  obtain ⟨rfl, y, rfl, rfl, rfl, rfl⟩ := hp
  have hV3 := hV3 rfl
  rw [lb_M had3] at hl
  refine lv_iload hx hb dL_law_3051 (lv_at hl 1 rfl) ?_
  refine lv_icmp_eq (tgt := 3058) hx hb dL_law_3053 (by decide) (fun _ => ?_) (fun hn => absurd (hm5.trans (by rw [hk1])) hn)
  have hfin := fun ls (hl : lv_has ls 8 ((7, .int x) :: (6, .int (nI k)) :: LB b ad1 ad3 o1 o2 i)) => kk d0 H3 locs3 ls ad1 ad3 o1 o2 v3 v2 Z1 I1 A1 J2 B2 hd0 hV3 hr1 hm1 (ik_hottestPage hB hk hm) (lv_sub hl [2, 3, 4, 5, 6, 7] rfl)
  refine lv_iload hx hb dL_law_3058 (lv_at hl 1 rfl) ?_
  refine lv_if_ne (tgt := 3075) hx hb dL_law_3060 (by decide) (fun _ => ?_) (fun hz => ?_)
  · refine lv_goto (tgt := 3304) hx hb dL_law_3075 (by decide) (hfin ls hl)
  · have hk0 : k = 0 := by
      exact cz_hottestPage hk1 hz
    refine lv_aload_n hx hb dL_law_3063 rfl (lv_at hl 4 rfl) ?_
    refine lv_iconst (v := 0) hx hb dL_law_3064 (by decide) ?_
    refine va_lald (i := 0) hx hb (va_K.moved (u := s) (U := s.setDrawn d0) (Vm.Alike.refl s.vm) C0.2.2.2.2.2.2.1) hV3.1.2.2.2.1 0 3 rfl rfl (by unfold vp_in; decide) dL_law_3065 ?_
    refine lv_iload hx hb dL_law_3066 (lv_at hl 0 rfl) ?_
    refine lv_i2l (v := x.toInt64) hx hb dL_law_3068 rfl ?_
    refine W.lcmp hx hb dL_law_3069 ?_
    rw [show (v3 (0 : Int32).toNatClampNeg) = x.toInt64 by rw [sb_cl0, hv3 hk0, hk2 hk0, hmx (hk1.symm.trans hk0)], lg_same]
    refine lv_if_eq (tgt := 3075) hx hb dL_law_3070 (by decide) (fun _ => ?_) (fun hn => absurd rfl hn)
    exact lv_goto (tgt := 3304) hx hb dL_law_3075 (by decide) (hfin ls hl)
theorem cz_hitRatioBits {st : st_S} {k : Nat} (h : k = (s_hit st).1) (hz : nI k = 0) : k = 0 := by
  have hc : k ≤ 3 := by
    rw [h]
    unfold s_hit
    (repeat' split) <;> exact Nat.le_of_ble_eq_true rfl
  have h1 : k = 0 ∨ k = 1 ∨ k = 2 ∨ k = 3 := by omega
  rcases h1 with e | e | e | e <;> subst e <;> first | rfl | exact absurd hz (by decide)
theorem la_hitRatioBits (C0 : lw_X p l s m meth c b L xs D cT cL cD ac) {i B cells slots : Nat} {st : st_S} (hi : i + 6 ≤ L) (hL : L ≤ 3072) (hB : B + 401 < 2 ^ 24) (hc : cells + 1 ≤ 603072) (hs : slots + 6 ≤ 7186538) (kk : lw_G p l e s m below meth c b D cT cL cD ac 3304 i (B + 401) (cells + 1) (slots + 6) (s_hit st).2.2) : lw_G p l e s m below meth c b D cT cL cD ac 3078 i B cells slots st := by
  intro d0 H locs ls adC adM o1 o2 v1 v2 Z I A J B1 hd0 hV hr hm hk hl
  have hx := C0.1
  have hb := C0.2.1
  have hX : va_X b L xs (s.setDrawn d0) (s.setDrawn d0).heap := C0.2.2.2.2.2.2.2.2.2.1
  have hbl : b < s.heap.size := C0.2.2.2.2.2.2.2.2.2.2.1
  refine lv_aload_n hx hb dL_law_3078 rfl (lv_at hl 4 rfl) ?_
  refine lv_aload_n hx hb dL_law_3079 rfl (lv_at hl 2 rfl) ?_
  refine lw_wcall (as := []) (na := 0) (rest := []) C0 hV (wr_hitRatioBits C0.2.2.2.2.2.2.2.2.1 (hc_hitRatioBits hB hk hr) hV.1.1) ⟨by decide, by decide, by decide +kernel⟩ (ab_in 1919 (by decide +kernel) rfl) (ab_in 1917 (by decide +kernel) rfl) (ab_in 1918 (by decide +kernel) rfl) (ab_in 95 (by decide +kernel) rfl) dL_law_3080 rfl rfl hl.1 (Nat.le_of_ble_eq_true rfl) (Nat.le_of_ble_eq_true rfl) (Nat.le_of_ble_eq_true rfl) hc hs (fun k r Z1 I1 A1 ad1 v3 H1 locs1 hK hv3 had hV1 => ?_)
  obtain ⟨hk1, hk2, hr1⟩ := hK
  rw [lb_C had] at hl
  refine lv_istore (lv' := (6, .int (nI k)) :: LB b ad1 adM o1 o2 i) hx hb dL_law_3083 hl (by decide) rfl (fun ls hl => ?_)
  refine lv_aload_n hx hb dL_law_3085 rfl (lv_at hl 4 rfl) ?_
  refine lw_mcall (as := []) (rest := []) C0 hV1 (hm_hitRatioBits hB hk hm) okX12_hitRatioBits rfl (ab_in 2612 (by decide +kernel) rfl) (ab_in 2613 (by decide +kernel) rfl) (ab_in 2614 (by decide +kernel) rfl) dL_law_3086 rfl (fun v hv => by exact absurd hv List.not_mem_nil) rfl hl.1 (Nat.le_of_ble_eq_true rfl) (Nat.le_of_ble_eq_true rfl) (by omega) (by omega) (fun _ _ _ _ z => z.2) (fun r2 sh1 J2 B2 ad2 H2 locs2 hp had2 hV2 => ?_)
  obtain ⟨rfl, x, rfl, hm1, hm5, hmx⟩ := hp
  have hV2 := hV2 rfl
  rw [lb_M had2] at hl
  refine lv_istore (lv' := (7, .int x) :: (6, .int (nI k)) :: LB b ad1 ad2 o1 o2 i) hx hb dL_law_3089 hl (by decide) rfl (fun ls hl => ?_)
  refine lv_aload_n hx hb dL_law_3091 rfl (lv_at hl 5 rfl) ?_
  refine lw_mcall (as := []) (rest := []) C0 hV2 (ctX12_thrown (K := fun r3 J3 B3 => r3 = J2 0 5 ∧ J2 = J3 ∧ B2 = B3) ⟨rfl, rfl, rfl⟩) okX12_thrown rfl (ab_in 2052 (by decide +kernel) rfl) (ab_in 2053 (by decide +kernel) rfl) (ab_in 2054 (by decide +kernel) rfl) dL_law_3092 rfl (fun v hv => absurd hv List.not_mem_nil) rfl hl.1 (Nat.le_of_ble_eq_true rfl) (Nat.le_of_ble_eq_true rfl) (by omega) (by omega) (fun _ _ _ _ z => z.2) (fun r4 sh1 J3 B3 ad3 H3 locs3 hp had3 hV3 => ?_)
  obtain ⟨rfl, y, rfl, rfl, rfl, rfl⟩ := hp
  have hV3 := hV3 rfl
  rw [lb_M had3] at hl
  refine lv_iload hx hb dL_law_3095 (lv_at hl 1 rfl) ?_
  refine lv_icmp_eq (tgt := 3102) hx hb dL_law_3097 (by decide) (fun _ => ?_) (fun hn => absurd (hm5.trans (by rw [hk1])) hn)
  have hfin := fun ls (hl : lv_has ls 8 ((7, .int x) :: (6, .int (nI k)) :: LB b ad1 ad3 o1 o2 i)) => kk d0 H3 locs3 ls ad1 ad3 o1 o2 v3 v2 Z1 I1 A1 J2 B2 hd0 hV3 hr1 hm1 (ik_hitRatioBits hB hk hm) (lv_sub hl [2, 3, 4, 5, 6, 7] rfl)
  refine lv_iload hx hb dL_law_3102 (lv_at hl 1 rfl) ?_
  refine lv_if_ne (tgt := 3119) hx hb dL_law_3104 (by decide) (fun _ => ?_) (fun hz => ?_)
  · refine lv_goto (tgt := 3304) hx hb dL_law_3119 (by decide) (hfin ls hl)
  · have hk0 : k = 0 := by
      exact cz_hitRatioBits hk1 hz
    refine lv_aload_n hx hb dL_law_3107 rfl (lv_at hl 4 rfl) ?_
    refine lv_iconst (v := 0) hx hb dL_law_3108 (by decide) ?_
    refine va_lald (i := 0) hx hb (va_K.moved (u := s) (U := s.setDrawn d0) (Vm.Alike.refl s.vm) C0.2.2.2.2.2.2.1) hV3.1.2.2.2.1 0 3 rfl rfl (by unfold vp_in; decide) dL_law_3109 ?_
    refine lv_iload hx hb dL_law_3110 (lv_at hl 0 rfl) ?_
    refine lv_i2l (v := x.toInt64) hx hb dL_law_3112 rfl ?_
    refine W.lcmp hx hb dL_law_3113 ?_
    rw [show (v3 (0 : Int32).toNatClampNeg) = x.toInt64 by rw [sb_cl0, hv3 hk0, hk2 hk0, hmx (hk1.symm.trans hk0)], lg_same]
    refine lv_if_eq (tgt := 3119) hx hb dL_law_3114 (by decide) (fun _ => ?_) (fun hn => absurd rfl hn)
    exact lv_goto (tgt := 3304) hx hb dL_law_3119 (by decide) (hfin ls hl)
theorem cz_total {st : st_S} {x0 : Int32} {k : Nat} (h : k = (s_total st x0).1) (hz : nI k = 0) : k = 0 := by
  have hc : k ≤ 3 := by
    rw [h]
    unfold s_total
    (repeat' split) <;> exact Nat.le_of_ble_eq_true rfl
  have h1 : k = 0 ∨ k = 1 ∨ k = 2 ∨ k = 3 := by omega
  rcases h1 with e | e | e | e <;> subst e <;> first | rfl | exact absurd hz (by decide)
theorem la_total (C0 : lw_X p l s m meth c b L xs D cT cL cD ac) {i B cells slots : Nat} {st : st_S} (hi : i + 6 ≤ L) (hL : L ≤ 3072) (hB : B + 401 < 2 ^ 24) (hc : cells + 1 ≤ 603072) (hs : slots + 6 ≤ 7186538) (kk : lw_G p l e s m below meth c b D cT cL cD ac 3304 i (B + 401) (cells + 1) (slots + 6) (s_total st (xs (i + 1))).2.2) : lw_G p l e s m below meth c b D cT cL cD ac 3122 i B cells slots st := by
  intro d0 H locs ls adC adM o1 o2 v1 v2 Z I A J B1 hd0 hV hr hm hk hl
  have hx := C0.1
  have hb := C0.2.1
  have hX : va_X b L xs (s.setDrawn d0) (s.setDrawn d0).heap := C0.2.2.2.2.2.2.2.2.2.1
  have hbl : b < s.heap.size := C0.2.2.2.2.2.2.2.2.2.2.1
  refine lv_aload_n hx hb dL_law_3122 rfl (lv_at hl 4 rfl) ?_
  refine lv_aload_n hx hb dL_law_3123 rfl (lv_at hl 5 rfl) ?_
  refine lv_iload hx hb dL_law_3124 (lv_at hl 0 rfl) ?_
  refine lv_iconst (v := nI 1) hx hb dL_law_3126 (by decide) ?_
  refine lv_iadd hx hb dL_law_3127 ?_
  rw [nI_add]
  refine va_sld (L := L) hx hb hX hbl (show ¬ s.heap.size ≤ b from Nat.not_le_of_lt hbl) hV.2.2.2 (vp_in_nI (by omega) (by omega)) dL_law_3128 ?_
  rw [nI_clamp (by omega)]
  refine lv_aload_n hx hb dL_law_3129 rfl (lv_at hl 2 rfl) ?_
  refine lw_wcall (as := [.int (xs (i + 1))]) (na := 1) (rest := []) C0 hV (wr_total C0.2.2.2.2.2.2.2.2.1 (hc_total hB hk hr) hV.1.1) ⟨by decide, by decide, by decide +kernel⟩ (ab_in 1947 (by decide +kernel) rfl) (ab_in 1945 (by decide +kernel) rfl) (ab_in 1946 (by decide +kernel) rfl) (ab_in 95 (by decide +kernel) rfl) dL_law_3130 rfl rfl hl.1 (Nat.le_of_ble_eq_true rfl) (Nat.le_of_ble_eq_true rfl) (Nat.le_of_ble_eq_true rfl) hc hs (fun k r Z1 I1 A1 ad1 v3 H1 locs1 hK hv3 had hV1 => ?_)
  obtain ⟨hk1, hk2, hr1⟩ := hK
  rw [lb_C had] at hl
  refine lv_istore (lv' := (6, .int (nI k)) :: LB b ad1 adM o1 o2 i) hx hb dL_law_3133 hl (by decide) rfl (fun ls hl => ?_)
  refine lv_aload_n hx hb dL_law_3135 rfl (lv_at hl 4 rfl) ?_
  refine lv_aload_n hx hb dL_law_3136 rfl (lv_at hl 6 rfl) ?_
  refine lv_iload hx hb dL_law_3137 (lv_at hl 1 rfl) ?_
  refine lv_iconst (v := nI 1) hx hb dL_law_3139 (by decide) ?_
  refine lv_iadd hx hb dL_law_3140 ?_
  rw [nI_add]
  refine va_sld (L := L) hx hb hX hbl (show ¬ s.heap.size ≤ b from Nat.not_le_of_lt hbl) hV1.2.2.2 (vp_in_nI (by omega) (by omega)) dL_law_3141 ?_
  rw [nI_clamp (by omega)]
  refine lw_mcall (as := [.int (xs (i + 1))]) (rest := []) C0 hV1 (hm_total hB hk hm) okX12_total rfl (ab_in 2626 (by decide +kernel) rfl) (ab_in 2627 (by decide +kernel) rfl) (ab_in 2628 (by decide +kernel) rfl) dL_law_3142 rfl (fun v hv => by rw [List.mem_singleton.mp hv]; exact trivial) rfl hl.1 (Nat.le_of_ble_eq_true rfl) (Nat.le_of_ble_eq_true rfl) (by omega) (by omega) (fun _ _ _ _ z => z.2) (fun r2 sh1 J2 B2 ad2 H2 locs2 hp had2 hV2 => ?_)
  obtain ⟨rfl, x, rfl, hm1, hm5, hmx⟩ := hp
  have hV2 := hV2 rfl
  rw [lb_M had2] at hl
  refine lv_istore (lv' := (7, .int x) :: (6, .int (nI k)) :: LB b ad1 ad2 o1 o2 i) hx hb dL_law_3145 hl (by decide) rfl (fun ls hl => ?_)
  refine lv_aload_n hx hb dL_law_3147 rfl (lv_at hl 5 rfl) ?_
  refine lw_mcall (as := []) (rest := []) C0 hV2 (ctX12_thrown (K := fun r3 J3 B3 => r3 = J2 0 5 ∧ J2 = J3 ∧ B2 = B3) ⟨rfl, rfl, rfl⟩) okX12_thrown rfl (ab_in 2052 (by decide +kernel) rfl) (ab_in 2053 (by decide +kernel) rfl) (ab_in 2054 (by decide +kernel) rfl) dL_law_3148 rfl (fun v hv => absurd hv List.not_mem_nil) rfl hl.1 (Nat.le_of_ble_eq_true rfl) (Nat.le_of_ble_eq_true rfl) (by omega) (by omega) (fun _ _ _ _ z => z.2) (fun r4 sh1 J3 B3 ad3 H3 locs3 hp had3 hV3 => ?_)
  obtain ⟨rfl, y, rfl, rfl, rfl, rfl⟩ := hp
  have hV3 := hV3 rfl
  rw [lb_M had3] at hl
  refine lv_iload hx hb dL_law_3151 (lv_at hl 1 rfl) ?_
  refine lv_icmp_eq (tgt := 3158) hx hb dL_law_3153 (by decide) (fun _ => ?_) (fun hn => absurd (hm5.trans (by rw [hk1])) hn)
  have hfin := fun ls (hl : lv_has ls 8 ((7, .int x) :: (6, .int (nI k)) :: LB b ad1 ad3 o1 o2 i)) => kk d0 H3 locs3 ls ad1 ad3 o1 o2 v3 v2 Z1 I1 A1 J2 B2 hd0 hV3 hr1 hm1 (ik_total hB hk hm) (lv_sub hl [2, 3, 4, 5, 6, 7] rfl)
  refine lv_iload hx hb dL_law_3158 (lv_at hl 1 rfl) ?_
  refine lv_if_ne (tgt := 3175) hx hb dL_law_3160 (by decide) (fun _ => ?_) (fun hz => ?_)
  · refine lv_goto (tgt := 3304) hx hb dL_law_3175 (by decide) (hfin ls hl)
  · have hk0 : k = 0 := by
      exact cz_total hk1 hz
    refine lv_aload_n hx hb dL_law_3163 rfl (lv_at hl 4 rfl) ?_
    refine lv_iconst (v := 0) hx hb dL_law_3164 (by decide) ?_
    refine va_lald (i := 0) hx hb (va_K.moved (u := s) (U := s.setDrawn d0) (Vm.Alike.refl s.vm) C0.2.2.2.2.2.2.1) hV3.1.2.2.2.1 0 3 rfl rfl (by unfold vp_in; decide) dL_law_3165 ?_
    refine lv_iload hx hb dL_law_3166 (lv_at hl 0 rfl) ?_
    refine lv_i2l (v := x.toInt64) hx hb dL_law_3168 rfl ?_
    refine W.lcmp hx hb dL_law_3169 ?_
    rw [show (v3 (0 : Int32).toNatClampNeg) = x.toInt64 by rw [sb_cl0, hv3 hk0, hk2 hk0, hmx (hk1.symm.trans hk0)], lg_same]
    refine lv_if_eq (tgt := 3175) hx hb dL_law_3170 (by decide) (fun _ => ?_) (fun hn => absurd rfl hn)
    exact lv_goto (tgt := 3304) hx hb dL_law_3175 (by decide) (hfin ls hl)
theorem la_writeReport (C0 : lw_X p l s m meth c b L xs D cT cL cD ac) {i B cells slots : Nat} {st : st_S} (hi : i + 6 ≤ L) (hL : L ≤ 3072) (hB : B + 401 < 2 ^ 24) (hc : cells + 800 ≤ 603072) (hs : slots + 1600 ≤ 7186538) (kk : lw_G p l e s m below meth c b D cT cL cD ac 3304 i (B + 401) (cells + 800) (slots + 1600) (s_rep st).2.2) : lw_G p l e s m below meth c b D cT cL cD ac 3178 i B cells slots st := by
  intro d0 H locs ls adC adM o1 o2 v1 v2 Z I A J B1 hd0 hV hr hm hk hl
  have hx := C0.1
  have hb := C0.2.1
  have hX : va_X b L xs (s.setDrawn d0) (s.setDrawn d0).heap := C0.2.2.2.2.2.2.2.2.2.1
  have hbl : b < s.heap.size := C0.2.2.2.2.2.2.2.2.2.2.1
  refine lv_aload_n hx hb dL_law_3178 rfl (lv_at hl 4 rfl) ?_
  refine lw_ccall (rest := []) C0 hV (hc_writeReport hB hk hr) okX11_writeReport rfl (ab_in 1039 (by decide +kernel) rfl) (ab_in 1040 (by decide +kernel) rfl) (ab_in 1041 (by decide +kernel) rfl) dL_law_3179 rfl hl.1 (Nat.le_of_ble_eq_true rfl) (Nat.le_of_ble_eq_true rfl) hc hs (fun _ _ _ _ z => by obtain ⟨_, _, j, hj, _⟩ := z; exact nomatch hj) (fun r1 sh1 I1 A1 ad1 H1 locs1 hp had hV1 => ?_)
  obtain ⟨Z1, rfl, r, rfl, hk1, hk2, hr1⟩ := hp
  have hV1 := hV1 Z1 rfl
  rw [lb_C had] at hl
  refine lv_aload_n hx hb dL_law_3182 rfl (lv_at hl 3 rfl) ?_
  refine lw_mcall (as := []) (rest := [.int r]) C0 hV1 (hm_writeReport hB hk hm) okX12_writeReport rfl (ab_in 2631 (by decide +kernel) rfl) (ab_in 2632 (by decide +kernel) rfl) (ab_in 2633 (by decide +kernel) rfl) dL_law_3183 rfl (fun v hv => absurd hv List.not_mem_nil) rfl hl.1 (Nat.le_of_ble_eq_true rfl) (Nat.le_of_ble_eq_true rfl) (by omega) (by omega) (fun _ _ _ _ z => z.2) (fun r2 sh1 J2 B2 ad2 H2 locs2 hp had2 hV2 => ?_)
  obtain ⟨rfl, x, rfl, hm1, hm5, hmx⟩ := hp
  have hV2 := hV2 rfl
  rw [lb_M had2] at hl
  exact lv_icmp_eq (tgt := 3304) hx hb dL_law_3186 (by decide) (fun _ => kk d0 H2 locs2 ls ad1 ad2 o1 o2 v1 v2 Z1 I1 A1 J2 B2 hd0 hV2 hr1 hm1 (ik_writeReport hB hk hm) hl) (fun hn => absurd ((hk2 rfl).trans (hmx hk1.symm).symm) hn)
theorem cz_reportByte {st : st_S} {x0 : Int32} {k : Nat} (h : k = (s_repB st x0).1) (hz : nI k = 0) : k = 0 := by
  have hc : k ≤ 3 := by
    rw [h]
    unfold s_repB
    (repeat' split) <;> exact Nat.le_of_ble_eq_true rfl
  have h1 : k = 0 ∨ k = 1 ∨ k = 2 ∨ k = 3 := by omega
  rcases h1 with e | e | e | e <;> subst e <;> first | rfl | exact absurd hz (by decide)
theorem la_reportByte (C0 : lw_X p l s m meth c b L xs D cT cL cD ac) {i B cells slots : Nat} {st : st_S} (hi : i + 6 ≤ L) (hL : L ≤ 3072) (hB : B + 401 < 2 ^ 24) (hc : cells + 1 ≤ 603072) (hs : slots + 6 ≤ 7186538) (kk : lw_G p l e s m below meth c b D cT cL cD ac 3304 i (B + 401) (cells + 1) (slots + 6) (s_repB st (xs (i + 1))).2.2) : lw_G p l e s m below meth c b D cT cL cD ac 3191 i B cells slots st := by
  intro d0 H locs ls adC adM o1 o2 v1 v2 Z I A J B1 hd0 hV hr hm hk hl
  have hx := C0.1
  have hb := C0.2.1
  have hX : va_X b L xs (s.setDrawn d0) (s.setDrawn d0).heap := C0.2.2.2.2.2.2.2.2.2.1
  have hbl : b < s.heap.size := C0.2.2.2.2.2.2.2.2.2.2.1
  refine lv_aload_n hx hb dL_law_3191 rfl (lv_at hl 4 rfl) ?_
  refine lv_aload_n hx hb dL_law_3192 rfl (lv_at hl 5 rfl) ?_
  refine lv_iload hx hb dL_law_3193 (lv_at hl 0 rfl) ?_
  refine lv_iconst (v := nI 1) hx hb dL_law_3195 (by decide) ?_
  refine lv_iadd hx hb dL_law_3196 ?_
  rw [nI_add]
  refine va_sld (L := L) hx hb hX hbl (show ¬ s.heap.size ≤ b from Nat.not_le_of_lt hbl) hV.2.2.2 (vp_in_nI (by omega) (by omega)) dL_law_3197 ?_
  rw [nI_clamp (by omega)]
  refine lv_aload_n hx hb dL_law_3198 rfl (lv_at hl 2 rfl) ?_
  refine lw_wcall (as := [.int (xs (i + 1))]) (na := 1) (rest := []) C0 hV (wr_reportByte C0.2.2.2.2.2.2.2.2.1 (hc_reportByte hB hk hr) hV.1.1) ⟨by decide, by decide, by decide +kernel⟩ (ab_in 1957 (by decide +kernel) rfl) (ab_in 1955 (by decide +kernel) rfl) (ab_in 1956 (by decide +kernel) rfl) (ab_in 95 (by decide +kernel) rfl) dL_law_3199 rfl rfl hl.1 (Nat.le_of_ble_eq_true rfl) (Nat.le_of_ble_eq_true rfl) (Nat.le_of_ble_eq_true rfl) hc hs (fun k r Z1 I1 A1 ad1 v3 H1 locs1 hK hv3 had hV1 => ?_)
  obtain ⟨hk1, hk2, hr1⟩ := hK
  rw [lb_C had] at hl
  refine lv_istore (lv' := (6, .int (nI k)) :: LB b ad1 adM o1 o2 i) hx hb dL_law_3202 hl (by decide) rfl (fun ls hl => ?_)
  refine lv_aload_n hx hb dL_law_3204 rfl (lv_at hl 4 rfl) ?_
  refine lv_aload_n hx hb dL_law_3205 rfl (lv_at hl 6 rfl) ?_
  refine lv_iload hx hb dL_law_3206 (lv_at hl 1 rfl) ?_
  refine lv_iconst (v := nI 1) hx hb dL_law_3208 (by decide) ?_
  refine lv_iadd hx hb dL_law_3209 ?_
  rw [nI_add]
  refine va_sld (L := L) hx hb hX hbl (show ¬ s.heap.size ≤ b from Nat.not_le_of_lt hbl) hV1.2.2.2 (vp_in_nI (by omega) (by omega)) dL_law_3210 ?_
  rw [nI_clamp (by omega)]
  refine lw_mcall (as := [.int (xs (i + 1))]) (rest := []) C0 hV1 (hm_reportByte hB hk hm) okX12_reportByte rfl (ab_in 2658 (by decide +kernel) rfl) (ab_in 2659 (by decide +kernel) rfl) (ab_in 2660 (by decide +kernel) rfl) dL_law_3211 rfl (fun v hv => by rw [List.mem_singleton.mp hv]; exact trivial) rfl hl.1 (Nat.le_of_ble_eq_true rfl) (Nat.le_of_ble_eq_true rfl) (by omega) (by omega) (fun _ _ _ _ z => z.2) (fun r2 sh1 J2 B2 ad2 H2 locs2 hp had2 hV2 => ?_)
  obtain ⟨rfl, x, rfl, hm1, hm5, hmx⟩ := hp
  have hV2 := hV2 rfl
  rw [lb_M had2] at hl
  refine lv_istore (lv' := (7, .int x) :: (6, .int (nI k)) :: LB b ad1 ad2 o1 o2 i) hx hb dL_law_3214 hl (by decide) rfl (fun ls hl => ?_)
  refine lv_aload_n hx hb dL_law_3216 rfl (lv_at hl 5 rfl) ?_
  refine lw_mcall (as := []) (rest := []) C0 hV2 (ctX12_thrown (K := fun r3 J3 B3 => r3 = J2 0 5 ∧ J2 = J3 ∧ B2 = B3) ⟨rfl, rfl, rfl⟩) okX12_thrown rfl (ab_in 2052 (by decide +kernel) rfl) (ab_in 2053 (by decide +kernel) rfl) (ab_in 2054 (by decide +kernel) rfl) dL_law_3217 rfl (fun v hv => absurd hv List.not_mem_nil) rfl hl.1 (Nat.le_of_ble_eq_true rfl) (Nat.le_of_ble_eq_true rfl) (by omega) (by omega) (fun _ _ _ _ z => z.2) (fun r4 sh1 J3 B3 ad3 H3 locs3 hp had3 hV3 => ?_)
  obtain ⟨rfl, y, rfl, rfl, rfl, rfl⟩ := hp
  have hV3 := hV3 rfl
  rw [lb_M had3] at hl
  refine lv_iload hx hb dL_law_3220 (lv_at hl 1 rfl) ?_
  refine lv_icmp_eq (tgt := 3227) hx hb dL_law_3222 (by decide) (fun _ => ?_) (fun hn => absurd (hm5.trans (by rw [hk1])) hn)
  have hfin := fun ls (hl : lv_has ls 8 ((7, .int x) :: (6, .int (nI k)) :: LB b ad1 ad3 o1 o2 i)) => kk d0 H3 locs3 ls ad1 ad3 o1 o2 v3 v2 Z1 I1 A1 J2 B2 hd0 hV3 hr1 hm1 (ik_reportByte hB hk hm) (lv_sub hl [2, 3, 4, 5, 6, 7] rfl)
  refine lv_iload hx hb dL_law_3227 (lv_at hl 1 rfl) ?_
  refine lv_if_ne (tgt := 3244) hx hb dL_law_3229 (by decide) (fun _ => ?_) (fun hz => ?_)
  · refine lv_goto (tgt := 3304) hx hb dL_law_3244 (by decide) (hfin ls hl)
  · have hk0 : k = 0 := by
      exact cz_reportByte hk1 hz
    refine lv_aload_n hx hb dL_law_3232 rfl (lv_at hl 4 rfl) ?_
    refine lv_iconst (v := 0) hx hb dL_law_3233 (by decide) ?_
    refine va_lald (i := 0) hx hb (va_K.moved (u := s) (U := s.setDrawn d0) (Vm.Alike.refl s.vm) C0.2.2.2.2.2.2.1) hV3.1.2.2.2.1 0 3 rfl rfl (by unfold vp_in; decide) dL_law_3234 ?_
    refine lv_iload hx hb dL_law_3235 (lv_at hl 0 rfl) ?_
    refine lv_i2l (v := x.toInt64) hx hb dL_law_3237 rfl ?_
    refine W.lcmp hx hb dL_law_3238 ?_
    rw [show (v3 (0 : Int32).toNatClampNeg) = x.toInt64 by rw [sb_cl0, hv3 hk0, hk2 hk0, hmx (hk1.symm.trans hk0)], lg_same]
    refine lv_if_eq (tgt := 3244) hx hb dL_law_3239 (by decide) (fun _ => ?_) (fun hn => absurd rfl hn)
    exact lv_goto (tgt := 3304) hx hb dL_law_3244 (by decide) (hfin ls hl)
theorem cz_undo {st : st_S} {k : Nat} (h : k = (s_undo st).1) (hz : nI k = 0) : k = 0 := by
  have hc : k ≤ 3 := by
    rw [h]
    unfold s_undo
    (repeat' split) <;> exact Nat.le_of_ble_eq_true rfl
  have h1 : k = 0 ∨ k = 1 ∨ k = 2 ∨ k = 3 := by omega
  rcases h1 with e | e | e | e <;> subst e <;> first | rfl | exact absurd hz (by decide)
theorem la_undo (C0 : lw_X p l s m meth c b L xs D cT cL cD ac) {i B cells slots : Nat} {st : st_S} (hi : i + 6 ≤ L) (hL : L ≤ 3072) (hB : B + 401 < 2 ^ 24) (hc : cells + 1 ≤ 603072) (hs : slots + 6 ≤ 7186538) (kk : lw_G p l e s m below meth c b D cT cL cD ac 3304 i (B + 401) (cells + 1) (slots + 6) (s_undo st).2.2) : lw_G p l e s m below meth c b D cT cL cD ac 3247 i B cells slots st := by
  intro d0 H locs ls adC adM o1 o2 v1 v2 Z I A J B1 hd0 hV hr hm hk hl
  have hx := C0.1
  have hb := C0.2.1
  have hX : va_X b L xs (s.setDrawn d0) (s.setDrawn d0).heap := C0.2.2.2.2.2.2.2.2.2.1
  have hbl : b < s.heap.size := C0.2.2.2.2.2.2.2.2.2.2.1
  refine lv_aload_n hx hb dL_law_3247 rfl (lv_at hl 4 rfl) ?_
  refine lv_aload_n hx hb dL_law_3248 rfl (lv_at hl 2 rfl) ?_
  refine lw_wcall (as := []) (na := 0) (rest := []) C0 hV (wr_undo C0.2.2.2.2.2.2.2.2.1 (hc_undo hB hk hr) hV.1.1) ⟨by decide, by decide, by decide +kernel⟩ (ab_in 1974 (by decide +kernel) rfl) (ab_in 1972 (by decide +kernel) rfl) (ab_in 1973 (by decide +kernel) rfl) (ab_in 95 (by decide +kernel) rfl) dL_law_3249 rfl rfl hl.1 (Nat.le_of_ble_eq_true rfl) (Nat.le_of_ble_eq_true rfl) (Nat.le_of_ble_eq_true rfl) hc hs (fun k r Z1 I1 A1 ad1 v3 H1 locs1 hK hv3 had hV1 => ?_)
  obtain ⟨hk1, hk2, hr1⟩ := hK
  rw [lb_C had] at hl
  refine lv_istore (lv' := (6, .int (nI k)) :: LB b ad1 adM o1 o2 i) hx hb dL_law_3252 hl (by decide) rfl (fun ls hl => ?_)
  refine lv_aload_n hx hb dL_law_3254 rfl (lv_at hl 4 rfl) ?_
  refine lw_mcall (as := []) (rest := []) C0 hV1 (hm_undo hB hk hm) okX12_undo rfl (ab_in 2056 (by decide +kernel) rfl) (ab_in 2057 (by decide +kernel) rfl) (ab_in 2058 (by decide +kernel) rfl) dL_law_3255 rfl (fun v hv => by exact absurd hv List.not_mem_nil) rfl hl.1 (Nat.le_of_ble_eq_true rfl) (Nat.le_of_ble_eq_true rfl) (by omega) (by omega) (fun _ _ _ _ z => z.2) (fun r2 sh1 J2 B2 ad2 H2 locs2 hp had2 hV2 => ?_)
  obtain ⟨rfl, x, rfl, hm1, hm5, hmx⟩ := hp
  have hV2 := hV2 rfl
  rw [lb_M had2] at hl
  refine lv_istore (lv' := (7, .int x) :: (6, .int (nI k)) :: LB b ad1 ad2 o1 o2 i) hx hb dL_law_3258 hl (by decide) rfl (fun ls hl => ?_)
  refine lv_aload_n hx hb dL_law_3260 rfl (lv_at hl 5 rfl) ?_
  refine lw_mcall (as := []) (rest := []) C0 hV2 (ctX12_thrown (K := fun r3 J3 B3 => r3 = J2 0 5 ∧ J2 = J3 ∧ B2 = B3) ⟨rfl, rfl, rfl⟩) okX12_thrown rfl (ab_in 2052 (by decide +kernel) rfl) (ab_in 2053 (by decide +kernel) rfl) (ab_in 2054 (by decide +kernel) rfl) dL_law_3261 rfl (fun v hv => absurd hv List.not_mem_nil) rfl hl.1 (Nat.le_of_ble_eq_true rfl) (Nat.le_of_ble_eq_true rfl) (by omega) (by omega) (fun _ _ _ _ z => z.2) (fun r4 sh1 J3 B3 ad3 H3 locs3 hp had3 hV3 => ?_)
  obtain ⟨rfl, y, rfl, rfl, rfl, rfl⟩ := hp
  have hV3 := hV3 rfl
  rw [lb_M had3] at hl
  refine lv_iload hx hb dL_law_3264 (lv_at hl 1 rfl) ?_
  refine lv_icmp_eq (tgt := 3271) hx hb dL_law_3266 (by decide) (fun _ => ?_) (fun hn => absurd (hm5.trans (by rw [hk1])) hn)
  have hfin := fun ls (hl : lv_has ls 8 ((7, .int x) :: (6, .int (nI k)) :: LB b ad1 ad3 o1 o2 i)) => kk d0 H3 locs3 ls ad1 ad3 o1 o2 v3 v2 Z1 I1 A1 J2 B2 hd0 hV3 hr1 hm1 (ik_undo hB hk hm) (lv_sub hl [2, 3, 4, 5, 6, 7] rfl)
  refine lv_iload hx hb dL_law_3271 (lv_at hl 1 rfl) ?_
  refine lv_if_ne (tgt := 3288) hx hb dL_law_3273 (by decide) (fun _ => ?_) (fun hz => ?_)
  · refine lv_goto (tgt := 3304) hx hb dL_law_3288 (by decide) (hfin ls hl)
  · have hk0 : k = 0 := by
      exact cz_undo hk1 hz
    refine lv_aload_n hx hb dL_law_3276 rfl (lv_at hl 4 rfl) ?_
    refine lv_iconst (v := 0) hx hb dL_law_3277 (by decide) ?_
    refine va_lald (i := 0) hx hb (va_K.moved (u := s) (U := s.setDrawn d0) (Vm.Alike.refl s.vm) C0.2.2.2.2.2.2.1) hV3.1.2.2.2.1 0 3 rfl rfl (by unfold vp_in; decide) dL_law_3278 ?_
    refine lv_iload hx hb dL_law_3279 (lv_at hl 0 rfl) ?_
    refine lv_i2l (v := x.toInt64) hx hb dL_law_3281 rfl ?_
    refine W.lcmp hx hb dL_law_3282 ?_
    rw [show (v3 (0 : Int32).toNatClampNeg) = x.toInt64 by rw [sb_cl0, hv3 hk0, hk2 hk0, hmx (hk1.symm.trans hk0)], lg_same]
    refine lv_if_eq (tgt := 3288) hx hb dL_law_3283 (by decide) (fun _ => ?_) (fun hn => absurd rfl hn)
    exact lv_goto (tgt := 3304) hx hb dL_law_3288 (by decide) (hfin ls hl)
theorem la_undoDepth (C0 : lw_X p l s m meth c b L xs D cT cL cD ac) {i B cells slots : Nat} {st : st_S} (hi : i + 6 ≤ L) (hL : L ≤ 3072) (hB : B + 401 < 2 ^ 24) (hc : cells + 0 ≤ 603072) (hs : slots + 0 ≤ 7186538) (kk : lw_G p l e s m below meth c b D cT cL cD ac 3304 i (B + 401) (cells + 0) (slots + 0) (s_udep st).2.2) : lw_G p l e s m below meth c b D cT cL cD ac 3291 i B cells slots st := by
  intro d0 H locs ls adC adM o1 o2 v1 v2 Z I A J B1 hd0 hV hr hm hk hl
  have hx := C0.1
  have hb := C0.2.1
  have hX : va_X b L xs (s.setDrawn d0) (s.setDrawn d0).heap := C0.2.2.2.2.2.2.2.2.2.1
  have hbl : b < s.heap.size := C0.2.2.2.2.2.2.2.2.2.2.1
  refine lv_aload_n hx hb dL_law_3291 rfl (lv_at hl 4 rfl) ?_
  refine lw_ccall (rest := []) C0 hV (hc_undoDepth hB hk hr) okX11_undoDepth rfl (ab_in 1396 (by decide +kernel) rfl) (ab_in 1397 (by decide +kernel) rfl) (ab_in 1398 (by decide +kernel) rfl) dL_law_3292 rfl hl.1 (Nat.le_of_ble_eq_true rfl) (Nat.le_of_ble_eq_true rfl) hc hs (fun _ _ _ _ z => by obtain ⟨_, _, j, hj, _⟩ := z; exact nomatch hj) (fun r1 sh1 I1 A1 ad1 H1 locs1 hp had hV1 => ?_)
  obtain ⟨Z1, rfl, r, rfl, hk1, hk2, hr1⟩ := hp
  have hV1 := hV1 Z1 rfl
  rw [lb_C had] at hl
  refine lv_aload_n hx hb dL_law_3295 rfl (lv_at hl 3 rfl) ?_
  refine lw_mcall (as := []) (rest := [.int r]) C0 hV1 (hm_undoDepth hB hk hm) okX12_undoDepth rfl (ab_in 2064 (by decide +kernel) rfl) (ab_in 2065 (by decide +kernel) rfl) (ab_in 2066 (by decide +kernel) rfl) dL_law_3296 rfl (fun v hv => absurd hv List.not_mem_nil) rfl hl.1 (Nat.le_of_ble_eq_true rfl) (Nat.le_of_ble_eq_true rfl) (by omega) (by omega) (fun _ _ _ _ z => z.2) (fun r2 sh1 J2 B2 ad2 H2 locs2 hp had2 hV2 => ?_)
  obtain ⟨rfl, x, rfl, hm1, hm5, hmx⟩ := hp
  have hV2 := hV2 rfl
  rw [lb_M had2] at hl
  exact lv_icmp_eq (tgt := 3304) hx hb dL_law_3299 (by decide) (fun _ => kk d0 H2 locs2 ls ad1 ad2 o1 o2 v1 v2 Z1 I1 A1 J2 B2 hd0 hV2 hr1 hm1 (ik_undoDepth hB hk hm) hl) (fun hn => absurd ((hk2 rfl).trans (hmx hk1.symm).symm) hn)
end
