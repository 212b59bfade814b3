/-! the law's calls, one by one -/
abbrev LB (b : Nat) (adC adM : Nat → Nat) (o1 o2 i : Nat) : List (Nat × Value) := [(5, .int (nI i)), (4, .ref o2), (3, .ref o1), (2, .ref (adM 0)), (1, .ref (adC 0)), (0, .ref b)]
def lw_G (p : Program) (l : Launch) (e : Env) (s : State) (m : MethodId) (below : List Frame) (meth : Method) (c : Code) (b : Nat) (D : va_G) (cT : FieldType → ClassId) (cL cD : ClassId) (ac : Nat → Nat) (pc i B cells slots : Nat) (st : st_S) : Prop := ∀ (d0 : Drawn) (H : Heap) (locs : List Loc) (ls : Array Slot) (adC adM : Nat → Nat) (o1 o2 : Nat) (v1 : Nat → Int64) (v2 : Nat → UInt64) (Z : ab_Z) (I A J B1 : ab_F), s.drawn.sameBut d0 lw_cs → lw_V D cT cL cD ac s H locs (adC, adM, (o1, o2), v1, v2, Z, (I, A), (J, B1)) → RCs B st Z I A → RMs B st J B1 → Ok st → lv_has ls 8 (LB b adC adM o1 o2 i) → W p l e room_1 (s.setDrawn d0) m #[Value.ref b] below meth c H locs cells slots (lw_Z below #[Value.ref b] s) (F0 m pc ls [])
theorem lb_C {b i o1 o2 : Nat} {adC ad1 adM : Nat → Nat} (h : ad1 0 = adC 0) : LB b adC adM o1 o2 i = LB b ad1 adM o1 o2 i := by unfold LB; rw [h]
theorem lb_M {b i o1 o2 : Nat} {adC ad1 adM : Nat → Nat} (h : ad1 0 = adM 0) : LB b adC adM o1 o2 i = LB b adC ad1 o1 o2 i := by unfold LB; rw [h]
theorem lg_same (x : Int64) : lg_cmp x x = 0 := by unfold lg_cmp; simp
section
variable {p : Program} {l : Launch} {e : Env} {s : State} {m : MethodId} {below : List Frame} {meth : Method} {c : Code} {b L : Nat} {xs : Nat → Int32} {D : va_G} {cT : FieldType → ClassId} {cL cD : ClassId} {ac : Nat → Nat}
theorem cz_appendText {st : st_S} {x0 x1 x2 x3 x4 : Int32} {k : Nat} (h : k = (s_app st x0 x1 x2 x3 x4).1) (hz : nI k = 0) : k = 0 := by
  have hc : k ≤ 3 := by
    rw [h]
    unfold s_app
    (repeat' split) <;> exact Nat.le_of_ble_eq_true rfl
  have h1 : k = 0 ∨ k = 1 ∨ k = 2 ∨ k = 3 := by omega
  rcases h1 with e | e | e | e <;> subst e <;> first | rfl | exact absurd hz (by decide)
theorem la_appendText (C0 : lw_X p l s m meth c b L xs D cT cL cD ac) {i B cells slots : Nat} {st : st_S} (hi : i + 6 ≤ L) (hL : L ≤ 3072) (hB : B + 401 < 2 ^ 24) (hc : cells + 1 ≤ 603072) (hs : slots + 6 ≤ 7186538) (kk : lw_G p l e s m below meth c b D cT cL cD ac 3304 i (B + 401) (cells + 1) (slots + 6) (s_app st (xs (i + 1)) (xs (i + 2)) (xs (i + 3)) (xs (i + 4)) (xs (i + 5))).2.2) : lw_G p l e s m below meth c b D cT cL cD ac 316 i B cells slots st := by
  intro d0 H locs ls adC adM o1 o2 v1 v2 Z I A J B1 hd0 hV hr hm hk hl
  have hx := C0.1
  have hb := C0.2.1
  have hX : va_X b L xs (s.setDrawn d0) (s.setDrawn d0).heap := C0.2.2.2.2.2.2.2.2.2.1
  have hbl : b < s.heap.size := C0.2.2.2.2.2.2.2.2.2.2.1
  refine lv_aload_n hx hb dL_law_316 rfl (lv_at hl 4 rfl) ?_
  refine lv_aload_n hx hb dL_law_317 rfl (lv_at hl 5 rfl) ?_
  refine lv_iload hx hb dL_law_318 (lv_at hl 0 rfl) ?_
  refine lv_iconst (v := nI 1) hx hb dL_law_320 (by decide) ?_
  refine lv_iadd hx hb dL_law_321 ?_
  rw [nI_add]
  refine va_sld (L := L) hx hb hX hbl (show ¬ s.heap.size ≤ b from Nat.not_le_of_lt hbl) hV.2.2.2 (vp_in_nI (by omega) (by omega)) dL_law_322 ?_
  rw [nI_clamp (by omega)]
  refine lv_aload_n hx hb dL_law_323 rfl (lv_at hl 5 rfl) ?_
  refine lv_iload hx hb dL_law_324 (lv_at hl 0 rfl) ?_
  refine lv_iconst (v := nI 2) hx hb dL_law_326 (by decide) ?_
  refine lv_iadd hx hb dL_law_327 ?_
  rw [nI_add]
  refine va_sld (L := L) hx hb hX hbl (show ¬ s.heap.size ≤ b from Nat.not_le_of_lt hbl) hV.2.2.2 (vp_in_nI (by omega) (by omega)) dL_law_328 ?_
  rw [nI_clamp (by omega)]
  refine lv_aload_n hx hb dL_law_329 rfl (lv_at hl 5 rfl) ?_
  refine lv_iload hx hb dL_law_330 (lv_at hl 0 rfl) ?_
  refine lv_iconst (v := nI 3) hx hb dL_law_332 (by decide) ?_
  refine lv_iadd hx hb dL_law_333 ?_
  rw [nI_add]
  refine va_sld (L := L) hx hb hX hbl (show ¬ s.heap.size ≤ b from Nat.not_le_of_lt hbl) hV.2.2.2 (vp_in_nI (by omega) (by omega)) dL_law_334 ?_
  rw [nI_clamp (by omega)]
  refine lv_aload_n hx hb dL_law_335 rfl (lv_at hl 5 rfl) ?_
  refine lv_iload hx hb dL_law_336 (lv_at hl 0 rfl) ?_
  refine lv_iconst (v := nI 4) hx hb dL_law_338 (by decide) ?_
  refine lv_iadd hx hb dL_law_339 ?_
  rw [nI_add]
  refine va_sld (L := L) hx hb hX hbl (show ¬ s.heap.size ≤ b from Nat.not_le_of_lt hbl) hV.2.2.2 (vp_in_nI (by omega) (by omega)) dL_law_340 ?_
  rw [nI_clamp (by omega)]
  refine lv_aload_n hx hb dL_law_341 rfl (lv_at hl 5 rfl) ?_
  refine lv_iload hx hb dL_law_342 (lv_at hl 0 rfl) ?_
  refine lv_iconst (v := nI 5) hx hb dL_law_344 (by decide) ?_
  refine lv_iadd hx hb dL_law_345 ?_
  rw [nI_add]
  refine va_sld (L := L) hx hb hX hbl (show ¬ s.heap.size ≤ b from Nat.not_le_of_lt hbl) hV.2.2.2 (vp_in_nI (by omega) (by omega)) dL_law_346 ?_
  rw [nI_clamp (by omega)]
  refine lv_aload_n hx hb dL_law_347 rfl (lv_at hl 2 rfl) ?_
  refine lw_wcall (as := [.int (xs (i + 1)), .int (xs (i + 2)), .int (xs (i + 3)), .int (xs (i + 4)), .int (xs (i + 5))]) (na := 5) (rest := []) C0 hV (wr_appendText C0.2.2.2.2.2.2.2.2.1 (hc_appendText hB hk hr) hV.1.1) ⟨by decide, by decide, by decide +kernel⟩ (ab_in 1402 (by decide +kernel) rfl) (ab_in 1400 (by decide +kernel) rfl) (ab_in 1401 (by decide +kernel) rfl) (ab_in 95 (by decide +kernel) rfl) dL_law_348 rfl rfl hl.1 (Nat.le_of_ble_eq_true rfl) (Nat.le_of_ble_eq_true rfl) (Nat.le_of_ble_eq_true rfl) hc hs (fun k r Z1 I1 A1 ad1 v3 H1 locs1 hK hv3 had hV1 => ?_)
  obtain ⟨hk1, hk2, hr1⟩ := hK
  rw [lb_C had] at hl
  refine lv_istore (lv' := (6, .int (nI k)) :: LB b ad1 adM o1 o2 i) hx hb dL_law_351 hl (by decide) rfl (fun ls hl => ?_)
  refine lv_aload_n hx hb dL_law_353 rfl (lv_at hl 4 rfl) ?_
  refine lv_aload_n hx hb dL_law_354 rfl (lv_at hl 6 rfl) ?_
  refine lv_iload hx hb dL_law_355 (lv_at hl 1 rfl) ?_
  refine lv_iconst (v := nI 1) hx hb dL_law_357 (by decide) ?_
  refine lv_iadd hx hb dL_law_358 ?_
  rw [nI_add]
  refine va_sld (L := L) hx hb hX hbl (show ¬ s.heap.size ≤ b from Nat.not_le_of_lt hbl) hV1.2.2.2 (vp_in_nI (by omega) (by omega)) dL_law_359 ?_
  rw [nI_clamp (by omega)]
  refine lv_aload_n hx hb dL_law_360 rfl (lv_at hl 6 rfl) ?_
  refine lv_iload hx hb dL_law_361 (lv_at hl 1 rfl) ?_
  refine lv_iconst (v := nI 2) hx hb dL_law_363 (by decide) ?_
  refine lv_iadd hx hb dL_law_364 ?_
  rw [nI_add]
  refine va_sld (L := L) hx hb hX hbl (show ¬ s.heap.size ≤ b from Nat.not_le_of_lt hbl) hV1.2.2.2 (vp_in_nI (by omega) (by omega)) dL_law_365 ?_
  rw [nI_clamp (by omega)]
  refine lv_aload_n hx hb dL_law_366 rfl (lv_at hl 6 rfl) ?_
  refine lv_iload hx hb dL_law_367 (lv_at hl 1 rfl) ?_
  refine lv_iconst (v := nI 3) hx hb dL_law_369 (by decide) ?_
  refine lv_iadd hx hb dL_law_370 ?_
  rw [nI_add]
  refine va_sld (L := L) hx hb hX hbl (show ¬ s.heap.size ≤ b from Nat.not_le_of_lt hbl) hV1.2.2.2 (vp_in_nI (by omega) (by omega)) dL_law_371 ?_
  rw [nI_clamp (by omega)]
  refine lv_aload_n hx hb dL_law_372 rfl (lv_at hl 6 rfl) ?_
  refine lv_iload hx hb dL_law_373 (lv_at hl 1 rfl) ?_
  refine lv_iconst (v := nI 4) hx hb dL_law_375 (by decide) ?_
  refine lv_iadd hx hb dL_law_376 ?_
  rw [nI_add]
  refine va_sld (L := L) hx hb hX hbl (show ¬ s.heap.size ≤ b from Nat.not_le_of_lt hbl) hV1.2.2.2 (vp_in_nI (by omega) (by omega)) dL_law_377 ?_
  rw [nI_clamp (by omega)]
  refine lv_aload_n hx hb dL_law_378 rfl (lv_at hl 6 rfl) ?_
  refine lv_iload hx hb dL_law_379 (lv_at hl 1 rfl) ?_
  refine lv_iconst (v := nI 5) hx hb dL_law_381 (by decide) ?_
  refine lv_iadd hx hb dL_law_382 ?_
  rw [nI_add]
  refine va_sld (L := L) hx hb hX hbl (show ¬ s.heap.size ≤ b from Nat.not_le_of_lt hbl) hV1.2.2.2 (vp_in_nI (by omega) (by omega)) dL_law_383 ?_
  rw [nI_clamp (by omega)]
  refine lw_mcall (as := [.int (xs (i + 1)), .int (xs (i + 2)), .int (xs (i + 3)), .int (xs (i + 4)), .int (xs (i + 5))]) (rest := []) C0 hV1 (hm_appendText hB hk hm) okX12_appendText rfl (ab_in 2068 (by decide +kernel) rfl) (ab_in 2069 (by decide +kernel) rfl) (ab_in 2070 (by decide +kernel) rfl) dL_law_384 rfl (fun v hv => by simp only [List.mem_cons, List.not_mem_nil, or_false] at hv; rcases hv with h | h | h | h | h <;> subst h <;> exact trivial) rfl hl.1 (Nat.le_of_ble_eq_true rfl) (Nat.le_of_ble_eq_true rfl) (by omega) (by omega) (fun _ _ _ _ z => z.2) (fun r2 sh1 J2 B2 ad2 H2 locs2 hp had2 hV2 => ?_)
  obtain ⟨rfl, x, rfl, hm1, hm5, hmx⟩ := hp
  have hV2 := hV2 rfl
  rw [lb_M had2] at hl
  refine lv_istore (lv' := (7, .int x) :: (6, .int (nI k)) :: LB b ad1 ad2 o1 o2 i) hx hb dL_law_387 hl (by decide) rfl (fun ls hl => ?_)
  refine lv_aload_n hx hb dL_law_389 rfl (lv_at hl 5 rfl) ?_
  refine lw_mcall (as := []) (rest := []) C0 hV2 (ctX12_thrown (K := fun r3 J3 B3 => r3 = J2 0 5 ∧ J2 = J3 ∧ B2 = B3) ⟨rfl, rfl, rfl⟩) okX12_thrown rfl (ab_in 2052 (by decide +kernel) rfl) (ab_in 2053 (by decide +kernel) rfl) (ab_in 2054 (by decide +kernel) rfl) dL_law_390 rfl (fun v hv => absurd hv List.not_mem_nil) rfl hl.1 (Nat.le_of_ble_eq_true rfl) (Nat.le_of_ble_eq_true rfl) (by omega) (by omega) (fun _ _ _ _ z => z.2) (fun r4 sh1 J3 B3 ad3 H3 locs3 hp had3 hV3 => ?_)
  obtain ⟨rfl, y, rfl, rfl, rfl, rfl⟩ := hp
  have hV3 := hV3 rfl
  rw [lb_M had3] at hl
  refine lv_iload hx hb dL_law_393 (lv_at hl 1 rfl) ?_
  refine lv_icmp_eq (tgt := 400) hx hb dL_law_395 (by decide) (fun _ => ?_) (fun hn => absurd (hm5.trans (by rw [hk1])) hn)
  have hfin := fun ls (hl : lv_has ls 8 ((7, .int x) :: (6, .int (nI k)) :: LB b ad1 ad3 o1 o2 i)) => kk d0 H3 locs3 ls ad1 ad3 o1 o2 v3 v2 Z1 I1 A1 J2 B2 hd0 hV3 hr1 hm1 (ik_appendText hB hk hm) (lv_sub hl [2, 3, 4, 5, 6, 7] rfl)
  refine lv_iload hx hb dL_law_400 (lv_at hl 1 rfl) ?_
  refine lv_if_ne (tgt := 417) hx hb dL_law_402 (by decide) (fun _ => ?_) (fun hz => ?_)
  · refine lv_goto (tgt := 3304) hx hb dL_law_417 (by decide) (hfin ls hl)
  · have hk0 : k = 0 := by
      exact cz_appendText hk1 hz
    refine lv_aload_n hx hb dL_law_405 rfl (lv_at hl 4 rfl) ?_
    refine lv_iconst (v := 0) hx hb dL_law_406 (by decide) ?_
    refine va_lald (i := 0) hx hb (va_K.moved (u := s) (U := s.setDrawn d0) (Vm.Alike.refl s.vm) C0.2.2.2.2.2.2.1) hV3.1.2.2.2.1 0 3 rfl rfl (by unfold vp_in; decide) dL_law_407 ?_
    refine lv_iload hx hb dL_law_408 (lv_at hl 0 rfl) ?_
    refine lv_i2l (v := x.toInt64) hx hb dL_law_410 rfl ?_
    refine W.lcmp hx hb dL_law_411 ?_
    rw [show (v3 (0 : Int32).toNatClampNeg) = x.toInt64 by rw [sb_cl0, hv3 hk0, hk2 hk0, hmx (hk1.symm.trans hk0)], lg_same]
    refine lv_if_eq (tgt := 417) hx hb dL_law_412 (by decide) (fun _ => ?_) (fun hn => absurd rfl hn)
    exact lv_goto (tgt := 3304) hx hb dL_law_417 (by decide) (hfin ls hl)
theorem cz_truncateText {st : st_S} {x0 : Int32} {k : Nat} (h : k = (s_trunc st x0).1) (hz : nI k = 0) : k = 0 := by
  have hc : k ≤ 3 := by
    rw [h]
    unfold s_trunc
    (repeat' split) <;> exact Nat.le_of_ble_eq_true rfl
  have h1 : k = 0 ∨ k = 1 ∨ k = 2 ∨ k = 3 := by omega
  rcases h1 with e | e | e | e <;> subst e <;> first | rfl | exact absurd hz (by decide)
theorem la_truncateText (C0 : lw_X p l s m meth c b L xs D cT cL cD ac) {i B cells slots : Nat} {st : st_S} (hi : i + 6 ≤ L) (hL : L ≤ 3072) (hB : B + 401 < 2 ^ 24) (hc : cells + 1 ≤ 603072) (hs : slots + 6 ≤ 7186538) (kk : lw_G p l e s m below meth c b D cT cL cD ac 3304 i (B + 401) (cells + 1) (slots + 6) (s_trunc st (xs (i + 1))).2.2) : lw_G p l e s m below meth c b D cT cL cD ac 420 i B cells slots st := by
  intro d0 H locs ls adC adM o1 o2 v1 v2 Z I A J B1 hd0 hV hr hm hk hl
  have hx := C0.1
  have hb := C0.2.1
  have hX : va_X b L xs (s.setDrawn d0) (s.setDrawn d0).heap := C0.2.2.2.2.2.2.2.2.2.1
  have hbl : b < s.heap.size := C0.2.2.2.2.2.2.2.2.2.2.1
  refine lv_aload_n hx hb dL_law_420 rfl (lv_at hl 4 rfl) ?_
  refine lv_aload_n hx hb dL_law_421 rfl (lv_at hl 5 rfl) ?_
  refine lv_iload hx hb dL_law_422 (lv_at hl 0 rfl) ?_
  refine lv_iconst (v := nI 1) hx hb dL_law_424 (by decide) ?_
  refine lv_iadd hx hb dL_law_425 ?_
  rw [nI_add]
  refine va_sld (L := L) hx hb hX hbl (show ¬ s.heap.size ≤ b from Nat.not_le_of_lt hbl) hV.2.2.2 (vp_in_nI (by omega) (by omega)) dL_law_426 ?_
  rw [nI_clamp (by omega)]
  refine lv_aload_n hx hb dL_law_427 rfl (lv_at hl 2 rfl) ?_
  refine lw_wcall (as := [.int (xs (i + 1))]) (na := 1) (rest := []) C0 hV (wr_truncateText C0.2.2.2.2.2.2.2.2.1 (hc_truncateText hB hk hr) hV.1.1) ⟨by decide, by decide, by decide +kernel⟩ (ab_in 1430 (by decide +kernel) rfl) (ab_in 1428 (by decide +kernel) rfl) (ab_in 1429 (by decide +kernel) rfl) (ab_in 95 (by decide +kernel) rfl) dL_law_428 rfl rfl hl.1 (Nat.le_of_ble_eq_true rfl) (Nat.le_of_ble_eq_true rfl) (Nat.le_of_ble_eq_true rfl) hc hs (fun k r Z1 I1 A1 ad1 v3 H1 locs1 hK hv3 had hV1 => ?_)
  obtain ⟨hk1, hk2, hr1⟩ := hK
  rw [lb_C had] at hl
  refine lv_istore (lv' := (6, .int (nI k)) :: LB b ad1 adM o1 o2 i) hx hb dL_law_431 hl (by decide) rfl (fun ls hl => ?_)
  refine lv_aload_n hx hb dL_law_433 rfl (lv_at hl 4 rfl) ?_
  refine lv_aload_n hx hb dL_law_434 rfl (lv_at hl 6 rfl) ?_
  refine lv_iload hx hb dL_law_435 (lv_at hl 1 rfl) ?_
  refine lv_iconst (v := nI 1) hx hb dL_law_437 (by decide) ?_
  refine lv_iadd hx hb dL_law_438 ?_
  rw [nI_add]
  refine va_sld (L := L) hx hb hX hbl (show ¬ s.heap.size ≤ b from Nat.not_le_of_lt hbl) hV1.2.2.2 (vp_in_nI (by omega) (by omega)) dL_law_439 ?_
  rw [nI_clamp (by omega)]
  refine lw_mcall (as := [.int (xs (i + 1))]) (rest := []) C0 hV1 (hm_truncateText hB hk hm) okX12_truncateText rfl (ab_in 2076 (by decide +kernel) rfl) (ab_in 2077 (by decide +kernel) rfl) (ab_in 2078 (by decide +kernel) rfl) dL_law_440 rfl (fun v hv => by rw [List.mem_singleton.mp hv]; exact trivial) rfl hl.1 (Nat.le_of_ble_eq_true rfl) (Nat.le_of_ble_eq_true rfl) (by omega) (by omega) (fun _ _ _ _ z => z.2) (fun r2 sh1 J2 B2 ad2 H2 locs2 hp had2 hV2 => ?_)
  obtain ⟨rfl, x, rfl, hm1, hm5, hmx⟩ := hp
  have hV2 := hV2 rfl
  rw [lb_M had2] at hl
  refine lv_istore (lv' := (7, .int x) :: (6, .int (nI k)) :: LB b ad1 ad2 o1 o2 i) hx hb dL_law_443 hl (by decide) rfl (fun ls hl => ?_)
  refine lv_aload_n hx hb dL_law_445 rfl (lv_at hl 5 rfl) ?_
  refine lw_mcall (as := []) (rest := []) C0 hV2 (ctX12_thrown (K := fun r3 J3 B3 => r3 = J2 0 5 ∧ J2 = J3 ∧ B2 = B3) ⟨rfl, rfl, rfl⟩) okX12_thrown rfl (ab_in 2052 (by decide +kernel) rfl) (ab_in 2053 (by decide +kernel) rfl) (ab_in 2054 (by decide +kernel) rfl) dL_law_446 rfl (fun v hv => absurd hv List.not_mem_nil) rfl hl.1 (Nat.le_of_ble_eq_true rfl) (Nat.le_of_ble_eq_true rfl) (by omega) (by omega) (fun _ _ _ _ z => z.2) (fun r4 sh1 J3 B3 ad3 H3 locs3 hp had3 hV3 => ?_)
  obtain ⟨rfl, y, rfl, rfl, rfl, rfl⟩ := hp
  have hV3 := hV3 rfl
  rw [lb_M had3] at hl
  refine lv_iload hx hb dL_law_449 (lv_at hl 1 rfl) ?_
  refine lv_icmp_eq (tgt := 456) hx hb dL_law_451 (by decide) (fun _ => ?_) (fun hn => absurd (hm5.trans (by rw [hk1])) hn)
  have hfin := fun ls (hl : lv_has ls 8 ((7, .int x) :: (6, .int (nI k)) :: LB b ad1 ad3 o1 o2 i)) => kk d0 H3 locs3 ls ad1 ad3 o1 o2 v3 v2 Z1 I1 A1 J2 B2 hd0 hV3 hr1 hm1 (ik_truncateText hB hk hm) (lv_sub hl [2, 3, 4, 5, 6, 7] rfl)
  refine lv_iload hx hb dL_law_456 (lv_at hl 1 rfl) ?_
  refine lv_if_ne (tgt := 473) hx hb dL_law_458 (by decide) (fun _ => ?_) (fun hz => ?_)
  · refine lv_goto (tgt := 3304) hx hb dL_law_473 (by decide) (hfin ls hl)
  · have hk0 : k = 0 := by
      exact cz_truncateText hk1 hz
    refine lv_aload_n hx hb dL_law_461 rfl (lv_at hl 4 rfl) ?_
    refine lv_iconst (v := 0) hx hb dL_law_462 (by decide) ?_
    refine va_lald (i := 0) hx hb (va_K.moved (u := s) (U := s.setDrawn d0) (Vm.Alike.refl s.vm) C0.2.2.2.2.2.2.1) hV3.1.2.2.2.1 0 3 rfl rfl (by unfold vp_in; decide) dL_law_463 ?_
    refine lv_iload hx hb dL_law_464 (lv_at hl 0 rfl) ?_
    refine lv_i2l (v := x.toInt64) hx hb dL_law_466 rfl ?_
    refine W.lcmp hx hb dL_law_467 ?_
    rw [show (v3 (0 : Int32).toNatClampNeg) = x.toInt64 by rw [sb_cl0, hv3 hk0, hk2 hk0, hmx (hk1.symm.trans hk0)], lg_same]
    refine lv_if_eq (tgt := 473) hx hb dL_law_468 (by decide) (fun _ => ?_) (fun hn => absurd rfl hn)
    exact lv_goto (tgt := 3304) hx hb dL_law_473 (by decide) (hfin ls hl)
theorem la_parseSystem (C0 : lw_X p l s m meth c b L xs D cT cL cD ac) {i B cells slots : Nat} {st : st_S} (hi : i + 6 ≤ L) (hL : L ≤ 3072) (hB : B + 401 < 2 ^ 24) (hc : cells + 0 ≤ 603072) (hs : slots + 0 ≤ 7186538) (kk : lw_G p l e s m below meth c b D cT cL cD ac 3304 i (B + 401) (cells + 0) (slots + 0) (s_parse st).2.2) : lw_G p l e s m below meth c b D cT cL cD ac 476 i B cells slots st := by
  intro d0 H locs ls adC adM o1 o2 v1 v2 Z I A J B1 hd0 hV hr hm hk hl
  have hx := C0.1
  have hb := C0.2.1
  have hX : va_X b L xs (s.setDrawn d0) (s.setDrawn d0).heap := C0.2.2.2.2.2.2.2.2.2.1
  have hbl : b < s.heap.size := C0.2.2.2.2.2.2.2.2.2.2.1
  refine lv_aload_n hx hb dL_law_476 rfl (lv_at hl 4 rfl) ?_
  refine lw_ccall (rest := []) C0 hV (hc_parseSystem hB hk hr) okX11_parseSystem rfl (ab_in 557 (by decide +kernel) rfl) (ab_in 558 (by decide +kernel) rfl) (ab_in 559 (by decide +kernel) rfl) dL_law_477 rfl hl.1 (Nat.le_of_ble_eq_true rfl) (Nat.le_of_ble_eq_true rfl) hc hs (fun _ _ _ _ z => by obtain ⟨_, _, j, hj, _⟩ := z; exact nomatch hj) (fun r1 sh1 I1 A1 ad1 H1 locs1 hp had hV1 => ?_)
  obtain ⟨Z1, rfl, r, rfl, hk1, hk2, hr1⟩ := hp
  have hV1 := hV1 Z1 rfl
  rw [lb_C had] at hl
  refine lv_aload_n hx hb dL_law_480 rfl (lv_at hl 3 rfl) ?_
  refine lw_mcall (as := []) (rest := [.int r]) C0 hV1 (hm_parseSystem hB hk hm) okX12_parseSystem rfl (ab_in 2083 (by decide +kernel) rfl) (ab_in 2084 (by decide +kernel) rfl) (ab_in 2085 (by decide +kernel) rfl) dL_law_481 rfl (fun v hv => absurd hv List.not_mem_nil) rfl hl.1 (Nat.le_of_ble_eq_true rfl) (Nat.le_of_ble_eq_true rfl) (by omega) (by omega) (fun _ _ _ _ z => z.2) (fun r2 sh1 J2 B2 ad2 H2 locs2 hp had2 hV2 => ?_)
  obtain ⟨rfl, x, rfl, hm1, hm5, hmx⟩ := hp
  have hV2 := hV2 rfl
  rw [lb_M had2] at hl
  exact lv_icmp_eq (tgt := 3304) hx hb dL_law_484 (by decide) (fun _ => kk d0 H2 locs2 ls ad1 ad2 o1 o2 v1 v2 Z1 I1 A1 J2 B2 hd0 hV2 hr1 hm1 (ik_parseSystem hB hk hm) hl) (fun hn => absurd ((hk2 rfl).trans (hmx hk1.symm).symm) hn)
end
