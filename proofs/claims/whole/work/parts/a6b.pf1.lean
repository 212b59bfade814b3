/-! peekFloat in the law -/
section
variable {p : Program} {l : Launch} {e : Env} {s : State} {m : MethodId} {below : List Frame} {meth : Method} {c : Code} {b L : Nat} {xs : Nat → Int32} {D : va_G} {cT : FieldType → ClassId} {cL cD : ClassId} {ac : Nat → Nat}
variable {d0 : Drawn} {H : Heap} {locs : List Loc} {cells slots : Nat} {ls : Array Slot} {Q : State → Prop}
theorem lw_wcallD (hd0 : s.drawn.sameBut d0 lw_cs) (C0 : lw_X p l s m meth c b L xs D cT cL cD ac) {adC adM : Nat → Nat} {o1 o2 : Nat} {v1 : Nat → Int64} {v2 : Nat → UInt64} {Z : ab_Z} {I A J B : ab_F} (hV : lw_V D cT cL cD ac s H locs (adC, adM, (o1, o2), v1, v2, Z, (I, A), (J, B))) {y : MethodName} {bytes : ByteArray} {maxL d mc ms na idx pc : Nat} {hh : List (Nat × Nat × Nat × Nat)} {as rest stk : List Value} {K : Nat → UInt32 → ab_Z → ab_F → ab_F → Prop}
    (hM : MetD lw_cs l y (Cond.codeWith y bytes maxL (some .int) hh :: ab_ws) (ab_rm d mc ms) (pf_wP D cT cL cD ac adC H.size o2 v2 as Z I A) (pf_wQ D cT cD ac adC o2 (va_A (wD o2 cD v2 :: ab_w cT adC ac I A 0 (shC Z)) H.size) K) mc ms (va_A (wD o2 cD v2 :: ab_w cT adC ac I A 0 (shC Z)) H.size))
    (hy : y.cls ≠ "java/lang/invoke/MethodHandle" ∧ y.cls ≠ "java/lang/invoke/VarHandle" ∧ (parseMethodDescriptor y.desc).map (fun d => d.parameters.length) = some (na + 2)) (hw0 : Cond.codeWith y bytes maxL (some .int) hh ∈ ab_ws) (hw1 : Cond.methodLink "CheckpointSwapLaw" idx y ∈ ab_ws) (hw2 : Cond.static y ∈ ab_ws) (hw3 : Cond.initialized y.cls ∈ ab_ws) (dg : decode code pc = .ok (.invokestatic idx, 3)) (hna : as.length = na) (hstk : stk = .ref o2 :: (as.reverse ++ .ref (adC 0) :: rest)) (hlsz : ls.size = 8) (hs8 : (rest.map fun v => v.category).sum ≤ 8) (hd : d ≤ 20) (hml : maxL ≤ 20) (hce : cells + mc ≤ 603072) (hsl : slots + ms ≤ 7186538)
    (kk : ∀ (k : Nat) (r : UInt32) (Z1 : ab_Z) (I1 A1 : ab_F) (ad1 : Nat → Nat) (v3 : Nat → UInt64) (H1 : Heap) (locs1 : List Loc) (d1 : Drawn), s.drawn.sameBut d1 lw_cs → K k r Z1 I1 A1 → (k = 0 → alike64 (v3 0) (FP.f2d r) = true) → ad1 0 = adC 0 → lw_V D cT cL cD ac s H1 locs1 (ad1, adM, (o1, o2), v1, v3, Z1, (I1, A1), (J, B)) → W p l e room_1 (s.setDrawn d1) m #[Value.ref b] below meth c H1 locs1 (cells + mc) (slots + ms) Q (F0 m (pc + 3) ls (.int (nI k) :: rest))) : W p l e room_1 (s.setDrawn d0) m #[Value.ref b] below meth c H locs cells slots Q (F0 m pc ls stk) := by
  obtain ⟨⟨a1, a2, a3, a4, a5⟩, ⟨b1, b2, b3, b4⟩, ⟨c1, c2, c3, c4, c5, c6⟩, hS⟩ := hV
  have hDw : va_D (fun q => s.heap.size ≤ q) (wD o2 cD v2 :: ab_w cT adC ac I A 0 (shC Z)) := wo_D b4 b1 c3
  have hF := fr_A hDw hS (fun q h => h)
  have hDM : Dj (wD o2 cD v2 :: ab_w cT adC ac I A 0 (shC Z)) (ab_w cT adM ac J B 0 shM) := by
    intro i j p q hi hj
    cases i with
    | zero => cases hi; exact fun e => c5 j 0 _ _ hj rfl e.symm
    | succ i => exact c1 i j p q hi hj
  have hDD : Dj (wD o2 cD v2 :: ab_w cT adC ac I A 0 (shC Z)) [wO o1 cL v1] := by
    intro i j p q hi hj
    cases i with
    | zero =>
      have : j = 0 := by have := (List.getElem?_eq_some_iff.mp hj).1; simp at this; omega
      subst this; cases hi; cases hj; exact c6.symm
    | succ i => exact c2 i j p q hi hj
  have hrun := pf_runSD (cs := lw_cs) (cc := code) (nL := 8) (Ts := ab_ws) (As := (Value.ref (adC 0) :: as) ++ [.ref o2]) (rest := rest) (g := F0 m pc ls stk) (H := H) (locs := locs) (cells := cells) (slots := slots) (R := room_1) (e := e) (below := below) (meth := meth) (lw_fix (d0 := d0) C0) hM (vx_cwSW (na + 2) (lw_fix (d0 := d0) C0).2.2.2.2 (ab_gdS hw1 hw2 hw3 hw0) rfl rfl rfl hy ⟨show d + 1 ≤ 2048 by omega, show 8 + (maxL + 11) + 100 * d ≤ 94400 by omega⟩) ⟨(fun a U g mk q => by obtain ⟨q0, q1, qP, qO, qK, qD, qJ, qC, qN⟩ := q; exact ⟨q0, q1, qP, qO, va_K.moved (u := U) (U := U.calling g mk a) (Vm.Alike.refl U.vm) qK, qD, qJ, qC.at (U := U.calling g mk a) (H0 := U.heap) (State.WarmedH.refl U) (fun _ _ _ => rfl) (fun _ h => h), lw_NC.moved (u := U) (U := U.calling g mk a) (Vm.Alike.refl U.vm) qN⟩), (fun U hU hW => ⟨rfl, by rw [hU], by rw [hU]; exact a2, by rw [hU]; exact a5, va_K.moved hW.alike C0.2.2.2.2.2.2.1, b1.weaken (fun _ _ _ _ => trivial), c3, by rw [hU]; exact (lw_ck (d0 := d0) C0).at hW (fun a ha hn9 => hS.2.1 a ha hn9) hF, lw_NC.moved hW.alike C0.2.2.2.2.2.2.2.2.2.2.2.2⟩)⟩ rfl (by simp [hna]) hlsz (by rw [hstk]; simp) (lv_room hs8) dg ⟨hce, hsl⟩
  intro T hT X
  obtain ⟨v, st₀, t, T', L9, d', hd', h0, X', hL, e1, e2, ⟨⟨k, r, Z1, I1, A1, ad1, v3, hv, hp, hk0, had, hokh, hPw, hPo, hDw1, hDj1⟩, hFr⟩, stp⟩ := hrun T hT X
  cases hv
  obtain ⟨k1, k2, k3⟩ := vx_keep h0 e1 hS (fun q _ h => hF q h) hF hL hFr
  obtain ⟨t2, g1, g2⟩ := kk k r Z1 I1 A1 ad1 v3 T'.heap (locs ++ L9) d' (hd0.trans hd') hp hk0 had ⟨⟨hokh, by rw [e1]; exact hPw, fr_keep a3 hDM k2, fr_keep a4 hDD k2, by rw [e1]; exact hPo⟩, ⟨fr_D hF hDw1, b2, b3, b4⟩, ⟨fr_dj a3 hDM hDw1, fr_dj a4 hDD hDw1, hDj1, c4, pf_dj c5, c6⟩, k3⟩ T' rfl X'
  exact ⟨t2, stp t2 g1, g2⟩
end
section
variable {p : Program} {l : Launch} {e : Env} {s : State} {m : MethodId} {below : List Frame} {meth : Method} {c : Code} {b L : Nat} {xs : Nat → Int32} {D : va_G} {cT : FieldType → ClassId} {cL cD : ClassId} {ac : Nat → Nat}
theorem cz_peekFloat {st : st_S} {x0 x1 : Int32} {k : Nat} (h : k = (s_peekF st x0 x1).1) (hz : nI k = 0) : k = 0 := by
  have hc : k ≤ 3 := by
    rw [h]
    unfold s_peekF
    (repeat' split) <;> exact Nat.le_of_ble_eq_true rfl
  have h1 : k = 0 ∨ k = 1 ∨ k = 2 ∨ k = 3 := by omega
  rcases h1 with e | e | e | e <;> subst e <;> first | rfl | exact absurd hz (by decide)
theorem la_peekFloat (C0 : lw_X p l s m meth c b L xs D cT cL cD ac) {i B cells slots : Nat} {st : st_S} (hi : i + 6 ≤ L) (hL : L ≤ 3072) (hB : B + 401 < 2 ^ 24) (hc : cells + 2 ≤ 603072) (hs : slots + 12 ≤ 7186538) (kk : lw_G p l e s m below meth c b D cT cL cD ac 3304 i (B + 401) (cells + 2) (slots + 12) (s_peekF st (xs (i + 1)) (xs (i + 2))).2.2) : lw_G p l e s m below meth c b D cT cL cD ac 1301 i B cells slots st := by
  intro d0 H locs ls adC adM o1 o2 v1 v2 Z I A J B1 hd0 hV hr hm hk hl
  have hx := C0.1
  have hb := C0.2.1
  have hX : va_X b L xs (s.setDrawn d0) (s.setDrawn d0).heap := C0.2.2.2.2.2.2.2.2.2.1
  have hbl : b < s.heap.size := C0.2.2.2.2.2.2.2.2.2.2.1
  refine lv_aload_n hx hb dL_law_1301 rfl (lv_at hl 4 rfl) ?_
  refine lv_aload_n hx hb dL_law_1302 rfl (lv_at hl 5 rfl) ?_
  refine lv_iload hx hb dL_law_1303 (lv_at hl 0 rfl) ?_
  refine lv_iconst (v := nI 1) hx hb dL_law_1305 (by decide) ?_
  refine lv_iadd hx hb dL_law_1306 ?_
  rw [nI_add]
  refine va_sld (L := L) hx hb hX hbl (show ¬ s.heap.size ≤ b from Nat.not_le_of_lt hbl) hV.2.2.2 (vp_in_nI (by omega) (by omega)) dL_law_1307 ?_
  rw [nI_clamp (by omega)]
  refine lv_aload_n hx hb dL_law_1308 rfl (lv_at hl 5 rfl) ?_
  refine lv_iload hx hb dL_law_1309 (lv_at hl 0 rfl) ?_
  refine lv_iconst (v := nI 2) hx hb dL_law_1311 (by decide) ?_
  refine lv_iadd hx hb dL_law_1312 ?_
  rw [nI_add]
  refine va_sld (L := L) hx hb hX hbl (show ¬ s.heap.size ≤ b from Nat.not_le_of_lt hbl) hV.2.2.2 (vp_in_nI (by omega) (by omega)) dL_law_1313 ?_
  rw [nI_clamp (by omega)]
  refine lv_aload hx hb dL_law_1314 (lv_at hl 1 rfl) ?_
  refine lw_wcallD hd0 (as := [.int (xs (i + 1)), .int (xs (i + 2))]) (na := 2) (rest := []) C0 hV (wr_peekFloat C0.2.2.2.2.2.2.2.2.1 (hc_peekFloat hB hk hr) hV.1.1) ⟨by decide, by decide, by decide +kernel⟩ (ab_in 1603 (by decide +kernel) rfl) (ab_in 1601 (by decide +kernel) rfl) (ab_in 1602 (by decide +kernel) rfl) (ab_in 95 (by decide +kernel) rfl) dL_law_1316 rfl rfl hl.1 (Nat.le_of_ble_eq_true rfl) (Nat.le_of_ble_eq_true rfl) (Nat.le_of_ble_eq_true rfl) hc hs (fun k r Z1 I1 A1 ad1 v3 H1 locs1 d1 hd1 hK hv3 had hV1 => ?_)
  have hX1 : va_X b L xs (s.setDrawn d1) (s.setDrawn d1).heap := C0.2.2.2.2.2.2.2.2.2.1
  obtain ⟨hk1, hk2, hr1⟩ := hK
  rw [lb_C had] at hl
  refine lv_istore (lv' := (6, .int (nI k)) :: LB b ad1 adM o1 o2 i) hx hb dL_law_1319 hl (by decide) rfl (fun ls hl => ?_)
  refine lv_aload_n hx hb dL_law_1321 rfl (lv_at hl 4 rfl) ?_
  refine lv_aload_n hx hb dL_law_1322 rfl (lv_at hl 6 rfl) ?_
  refine lv_iload hx hb dL_law_1323 (lv_at hl 1 rfl) ?_
  refine lv_iconst (v := nI 1) hx hb dL_law_1325 (by decide) ?_
  refine lv_iadd hx hb dL_law_1326 ?_
  rw [nI_add]
  refine va_sld (L := L) hx hb hX1 hbl (show ¬ s.heap.size ≤ b from Nat.not_le_of_lt hbl) hV1.2.2.2 (vp_in_nI (by omega) (by omega)) dL_law_1327 ?_
  rw [nI_clamp (by omega)]
  refine lv_aload_n hx hb dL_law_1328 rfl (lv_at hl 6 rfl) ?_
  refine lv_iload hx hb dL_law_1329 (lv_at hl 1 rfl) ?_
  refine lv_iconst (v := nI 2) hx hb dL_law_1331 (by decide) ?_
  refine lv_iadd hx hb dL_law_1332 ?_
  rw [nI_add]
  refine va_sld (L := L) hx hb hX1 hbl (show ¬ s.heap.size ≤ b from Nat.not_le_of_lt hbl) hV1.2.2.2 (vp_in_nI (by omega) (by omega)) dL_law_1333 ?_
  rw [nI_clamp (by omega)]
  refine lw_mcall (as := [.int (xs (i + 1)), .int (xs (i + 2))]) (rest := []) C0 hV1 (hm_peekFloat hB hk hm) okX12_peekFloat rfl (ab_in 2418 (by decide +kernel) rfl) (ab_in 2419 (by decide +kernel) rfl) (ab_in 2420 (by decide +kernel) rfl) dL_law_1334 rfl (fun v hv => by simp only [List.mem_cons, List.not_mem_nil, or_false] at hv; rcases hv with h | h <;> subst h <;> exact trivial) rfl hl.1 (Nat.le_of_ble_eq_true rfl) (Nat.le_of_ble_eq_true rfl) (by omega) (by omega) (fun _ _ _ _ z => z.2) (fun r2 sh1 J2 B2 ad2 H2 locs2 hp had2 hV2 => ?_)
  obtain ⟨rfl, x, rfl, hm1, hm5, hmx⟩ := hp
  have hV2 := hV2 rfl
  rw [lb_M had2] at hl
  refine lv_fstore (lv' := (7, .float x) :: (6, .int (nI k)) :: LB b ad1 ad2 o1 o2 i) hx hb dL_law_1337 hl (by decide) rfl (fun ls hl => ?_)
  refine lv_aload_n hx hb dL_law_1339 rfl (lv_at hl 5 rfl) ?_
  refine lw_mcall (as := []) (rest := []) C0 hV2 (ctX12_thrown (K := fun r3 J3 B3 => r3 = J2 0 5 ∧ J2 = J3 ∧ B2 = B3) ⟨rfl, rfl, rfl⟩) okX12_thrown rfl (ab_in 2052 (by decide +kernel) rfl) (ab_in 2053 (by decide +kernel) rfl) (ab_in 2054 (by decide +kernel) rfl) dL_law_1340 rfl (fun v hv => absurd hv List.not_mem_nil) rfl hl.1 (Nat.le_of_ble_eq_true rfl) (Nat.le_of_ble_eq_true rfl) (by omega) (by omega) (fun _ _ _ _ z => z.2) (fun r4 sh1 J3 B3 ad3 H3 locs3 hp had3 hV3 => ?_)
  obtain ⟨rfl, y, rfl, rfl, rfl, rfl⟩ := hp
  have hV3 := hV3 rfl
  rw [lb_M had3] at hl
  refine lv_iload hx hb dL_law_1343 (lv_at hl 1 rfl) ?_
  refine lv_icmp_eq (tgt := 1350) hx hb dL_law_1345 (by decide) (fun _ => ?_) (fun hn => absurd (hm5.trans (by rw [hk1])) hn)
  have hfin := fun d9 (hd9 : s.drawn.sameBut d9 lw_cs) ls (hl : lv_has ls 8 ((7, .float x) :: (6, .int (nI k)) :: LB b ad1 ad3 o1 o2 i)) => kk d9 H3 locs3 ls ad1 ad3 o1 o2 v1 v3 Z1 I1 A1 J2 B2 hd9 hV3 hr1 hm1 (ik_peekFloat hB hk hm) (lv_sub hl [2, 3, 4, 5, 6, 7] rfl)
  refine lv_iload hx hb dL_law_1350 (lv_at hl 1 rfl) ?_
  refine lv_if_ne (tgt := 1388) hx hb dL_law_1352 (by decide) (fun _ => ?_) (fun hz => ?_)
  · refine lv_goto (tgt := 3304) hx hb dL_law_1388 (by decide) (hfin d1 hd1 ls hl)
  · have hk0 : k = 0 := cz_peekFloat hk1 hz
    have hxr : r = x := (hk2 hk0).trans (hmx (hk1.symm.trans hk0)).symm
    have hal0 := hv3 hk0
    rw [hxr] at hal0
    refine lv_aload hx hb dL_law_1355 (lv_at hl 3 rfl) ?_
    refine lv_iconst (v := 0) hx hb dL_law_1357 (by decide) ?_
    refine va_dald (i := 0) hx hb (va_K.moved (u := s) (U := s.setDrawn d1) (Vm.Alike.refl s.vm) C0.2.2.2.2.2.2.1) hV3.1.2.2.2.2 0 4 rfl rfl (by unfold vp_in; decide) dL_law_1358 ?_
    rw [sb_cl0]
    refine lv_fload hx hb dL_law_1359 (lv_at hl 0 rfl) ?_
    refine lv_f2d_any hd1 lw_bits hx hb dL_law_1361 (fun r9 d2 hal2 hd2 => ?_)
    refine lv_dcmp hx hb dL_law_1362 ?_
    refine lv_if_eq (tgt := 1388) hx hb dL_law_1363 (by decide) (fun _ => lv_goto (tgt := 3304) hx hb dL_law_1388 (by decide) (hfin d2 hd2 ls hl)) (fun hn => ?_)
    have hN : FP.Core.val64 (FP.f2d x) = .nan := Classical.byContradiction (fun z => hn (pf_eq hal0 hal2 z))
    refine lv_aload hx hb dL_law_1366 (lv_at hl 3 rfl) ?_
    refine lv_iconst (v := 0) hx hb dL_law_1368 (by decide) ?_
    refine va_dald (i := 0) hx hb (va_K.moved (u := s) (U := s.setDrawn d2) (Vm.Alike.refl s.vm) C0.2.2.2.2.2.2.1) hV3.1.2.2.2.2 0 4 rfl rfl (by unfold vp_in; decide) dL_law_1369 ?_
    rw [sb_cl0]
    refine lv_aload hx hb dL_law_1370 (lv_at hl 3 rfl) ?_
    refine lv_iconst (v := 0) hx hb dL_law_1372 (by decide) ?_
    refine va_dald (i := 0) hx hb (va_K.moved (u := s) (U := s.setDrawn d2) (Vm.Alike.refl s.vm) C0.2.2.2.2.2.2.1) hV3.1.2.2.2.2 0 4 rfl rfl (by unfold vp_in; decide) dL_law_1373 ?_
    rw [sb_cl0]
    refine lv_dcmp hx hb dL_law_1374 ?_
    rw [pf_ne hal0 hN]
    refine lv_if_eq (tgt := 1386) hx hb dL_law_1375 (by decide) (fun z => absurd z (by decide)) (fun _ => ?_)
    refine lv_fload hx hb dL_law_1378 (lv_at hl 0 rfl) ?_
    refine lv_fload hx hb dL_law_1380 (lv_at hl 0 rfl) ?_
    refine lv_fcmp hx hb dL_law_1382 ?_
    rw [pf_nf (pf_n32 hN)]
    exact lv_if_ne (tgt := 1388) hx hb dL_law_1383 (by decide) (fun _ => lv_goto (tgt := 3304) hx hb dL_law_1388 (by decide) (hfin d2 hd2 ls hl)) (fun z => absurd z (by decide))
end
