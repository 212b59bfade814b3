/-! StringBuilder: append, setLength, charAt -/
theorem a255 (z : Int32) : ∃ b, b < 256 ∧ z &&& nI 255 = nI b := by
  refine ⟨z.toBitVec.toNat % 256, Nat.mod_lt _ (by decide), ?_⟩
  rw [← Int32.toBitVec_inj]
  apply BitVec.eq_of_toNat_eq
  have e1 : (nI 255).toBitVec.toNat = 255 := by decide
  show (z.toBitVec &&& (nI 255).toBitVec).toNat = (BitVec.ofNat 32 (z.toBitVec.toNat % 256)).toNat
  rw [BitVec.toNat_and, e1, show (255 : Nat) = 2 ^ 8 - 1 from rfl, Nat.and_two_pow_sub_one_eq_mod, BitVec.toNat_ofNat, Nat.mod_eq_of_lt (a := z.toBitVec.toNat % 256) (by have := Nat.mod_lt z.toBitVec.toNat (show 0 < 256 by decide); omega)]
theorem a255c (z : Int32) : ((z &&& nI 255).toUInt32 % 65536).toInt32 = z &&& nI 255 ∧ narrow .char (.int (z &&& nI 255)) = .int (z &&& nI 255) := by
  obtain ⟨b, hb, e⟩ := a255 z
  rw [e]
  exact ⟨(sb_byte b hb).2.1, (pk_charN (by omega)).1⟩
theorem s_kfit : ∀ i, i < 66 → ∀ j, j < (ab_st i).2.2.2.length → fits .byte (.int ((ab_st i).2.2.2.getD j 0)) = true := by decide +kernel
theorem s_c128 : ∀ c, c < 128 → vp_nar .byte ((nI c).toInt8.toInt32) = nI c ∧ fits .byte (.int (nI c)) = true := by decide +kernel
/-- the letters of the constant i -/
def s_kl (i : Nat) : Nat := (ab_st i).2.2.2.length
def s_kc (i : Nat) : Nat → Int32 := fun j => (ab_st i).2.2.2.getD j 0
def sb_Pa (sh : List ab_S) (q v n L cap : Nat) (s : Nat → Int32) (I A : ab_F) : ab_O → Prop := fun o => o.1 = .inl (some (.ref q)) ∧ o.2.1 = sb_gs sh q (n + L) cap ∧ o.2.2.1 = wr I q 3 (nI (n + L)) ∧ (∀ c, c ≠ sb_gv sh v (n + L) cap → o.2.2.2 c = A c) ∧ (∀ j, j < n → o.2.2.2 (sb_gv sh v (n + L) cap) j = A v j) ∧ (∀ j, j < L → o.2.2.2 (sb_gv sh v (n + L) cap) (n + j) = s j) ∧ sb_Fit (o.2.2.2 (sb_gv sh v (n + L) cap))
section
variable {sh : List ab_S} {I A : ab_F} {q v n cap : Nat}
theorem sb_Pm {L : Nat} {s : Nat → Int32} {A1 A2 : ab_F} (hn : n ≤ cap) (a1 : ∀ c, c ≠ sb_gv sh v (n + L) cap → A1 c = A c) (a2 : ∀ j, j < cap → A1 (sb_gv sh v (n + L) cap) j = A v j) (a3 : sb_Fit (A1 (sb_gv sh v (n + L) cap))) (b0 : ∀ c, c ≠ sb_gv sh v (n + L) cap → A2 c = A1 c) (b1 : ∀ j, j < n → A2 (sb_gv sh v (n + L) cap) j = A1 (sb_gv sh v (n + L) cap) j) (b2 : ∀ j, j < L → A2 (sb_gv sh v (n + L) cap) (n + j) = s j) (b3 : sb_Fit (A1 (sb_gv sh v (n + L) cap)) → sb_Fit (A2 (sb_gv sh v (n + L) cap))) : sb_Pa sh q v n L cap s I A (.inl (some (.ref q)), sb_gs sh q (n + L) cap, wr I q 3 (nI (n + L)), A2) :=
  ⟨rfl, rfl, rfl, fun c hc => (b0 c hc).trans (a1 c hc), fun j hj => (b1 j hj).trans (a2 j (by omega)), b2, b3 a3⟩
theorem ctJ5_infl {i : Nat} {K : ab_F → ab_F → Prop} (hi : i < 66) (hq : sh[q]? = some (sb_ob v)) (h0 : I q 1 = 0) (h : K I A) : ab_Cl mJ5_inflateIfNeededFor_a7421 1 0 0 [.ref q, .retAddr (2 * i)] sh I A (ab_Px sh ab_no (ab_rv K)) := by
  refine ab_enter (ls := [some (.ref q), some (.retAddr (2 * i))]) (by decide +kernel) (Nat.le_of_ble_eq_true rfl) rfl (fun C => ?_)
  refine g_compact (n := 3) dJ5_inflateIfNeededFor_a7421_0 (ab_in 511 (by decide +kernel) rfl) rfl ?_
  refine g_if_eq 21 dJ5_inflateIfNeededFor_a7421_3 (by decide) (n := 6) rfl (fun hc => absurd hc (by decide)) (fun _ => ?_)
  refine g_aload_n (n := 7) dJ5_inflateIfNeededFor_a7421_6 rfl rfl rfl ?_
  refine g_getIE (n := 10) (k := 1) (x := (0 : Int32)) dJ5_inflateIfNeededFor_a7421_7 hq vc_1 (Nat.le_of_ble_eq_true rfl) rfl (ab_in 521 (by decide +kernel) rfl) (h0) rfl ?_
  refine g_aload_nK (x := (2 * i)) (n := 11) dJ5_inflateIfNeededFor_a7421_10 rfl rfl rfl ?_
  refine g_callVK (i := i) (n := 14) (as := []) (bc' := 0) (bs' := 0) (ab_kq hi) (ctJ0_coder (K := (fun r I1 A1 => r = 0 ∧ I = I1 ∧ A = A1)) hi ⟨rfl, rfl, rfl⟩) okJ0_coder_7d493 rfl (ab_in 1127 (by decide +kernel) rfl) (ab_in 590 (by decide +kernel) rfl) (ab_in 591 (by decide +kernel) rfl) (ab_in 110 (by decide +kernel) rfl) dJ5_inflateIfNeededFor_a7421_11 rfl rfl (Nat.le_of_ble_eq_true rfl) (Nat.le_of_ble_eq_true rfl) (Nat.le_of_ble_eq_true rfl) (Nat.le_of_ble_eq_true rfl) rfl (fun E sh1 I1 A1 hp _ => hp.2.elim) (fun ro sh1 I1 A1 hp _ => ?_)
  obtain ⟨rfl, r, rfl, rfl, rfl, rfl⟩ := hp
  refine g_icmp_eq 21 dJ5_inflateIfNeededFor_a7421_14 (by decide) (n := 17) rfl (fun _ => ?_) (fun hc => absurd (rfl) hc)
  exact g_vret rfl dJ5_inflateIfNeededFor_a7421_21 (⟨rfl, rfl, h⟩)
theorem ctJ0_getBytes {i : Nat} {K : ab_F → ab_F → Prop} (hi : i < 66) (hv : sh[v]? = some (.inl (.byte, cap))) (hn : n + s_kl i ≤ cap) (hc : cap < 65536) (h : K I (wrow A v (va_cpy (s_kc i) (A v) 0 n (s_kl i)))) : ab_Cl mJ0_getBytes_840e7 1 0 0 [.retAddr (2 * i), .ref v, .int (nI n), .int (0 : Int32)] sh I A (ab_Px sh ab_no (ab_rv K)) := by
  refine ab_enter (ls := [some (.retAddr (2 * i)), some (.ref v), some (.int (nI n)), some (.int (0 : Int32))]) (by decide +kernel) (Nat.le_of_ble_eq_true rfl) rfl (fun C => ?_)
  refine g_aload_nK (x := (2 * i)) (n := 1) dJ0_getBytes_840e7_0 rfl rfl rfl ?_
  refine g_callVK (i := i) (n := 4) (as := []) (bc' := 0) (bs' := 0) (ab_kq hi) (ctJ0_coder (K := (fun r I1 A1 => r = 0 ∧ I = I1 ∧ A = A1)) hi ⟨rfl, rfl, rfl⟩) okJ0_coder_7d493 rfl (ab_in 589 (by decide +kernel) rfl) (ab_in 590 (by decide +kernel) rfl) (ab_in 591 (by decide +kernel) rfl) (ab_in 110 (by decide +kernel) rfl) dJ0_getBytes_840e7_1 rfl rfl (Nat.le_of_ble_eq_true rfl) (Nat.le_of_ble_eq_true rfl) (Nat.le_of_ble_eq_true rfl) (Nat.le_of_ble_eq_true rfl) rfl (fun E sh1 I1 A1 hp _ => hp.2.elim) (fun ro sh1 I1 A1 hp _ => ?_)
  obtain ⟨rfl, r, rfl, rfl, rfl, rfl⟩ := hp
  refine g_iload_n (n := 5) dJ0_getBytes_840e7_4 rfl rfl rfl ?_
  refine g_icmp_ne 28 dJ0_getBytes_840e7_5 (by decide) (n := 8) rfl (fun hc => absurd hc (fun hc => hc rfl)) (fun _ => ?_)
  refine g_aload_nK (x := (2 * i)) (n := 9) dJ0_getBytes_840e7_8 rfl rfl rfl ?_
  refine g_kval (n := 12) (ab_kq hi) dJ0_getBytes_840e7_9 (ab_in 1301 (by decide +kernel) rfl) rfl ?_
  refine g_iconst (n := 13) (v := (nI 0)) dJ0_getBytes_840e7_12 rfl rfl ?_
  refine g_aload_n (n := 14) dJ0_getBytes_840e7_13 rfl rfl rfl ?_
  refine g_iload_n (n := 15) dJ0_getBytes_840e7_14 rfl rfl rfl ?_
  refine g_iload_n (n := 16) dJ0_getBytes_840e7_15 rfl rfl rfl ?_
  refine g_ishl (n := 17) dJ0_getBytes_840e7_16 rfl ?_
  rw [show ((nI n) <<< ((0 : Int32) &&& 31)) = (nI n) from sb_shl0 _]
  refine g_aload_nK (x := (2 * i)) (n := 18) dJ0_getBytes_840e7_17 rfl rfl rfl ?_
  refine g_kval (n := 21) (ab_kq hi) dJ0_getBytes_840e7_18 (ab_in 1301 (by decide +kernel) rfl) rfl ?_
  refine g_klen (n := 22) (ab_kq hi) dJ0_getBytes_840e7_21 rfl ?_
  refine g_copyK (i := i) (n := 25) (ab_kq hi) (ab_in 1151 (by decide +kernel) rfl) wy_2 wy_3 wy_4 dJ0_getBytes_840e7_22 hv (Nat.le_refl _) hn hc (s_kfit i hi) (Nat.le_of_ble_eq_true rfl) (Nat.le_of_ble_eq_true rfl) rfl ?_
  refine g_goto 43 dJ0_getBytes_840e7_25 (by decide) ?_
  exact g_vret rfl dJ0_getBytes_840e7_43 (⟨rfl, rfl, h⟩)
theorem ctJ5_putStr {i : Nat} {K : ab_F → ab_F → Prop} (hi : i < 66) (hq : sh[q]? = some (sb_ob v)) (hv : sh[v]? = some (.inl (.byte, cap))) (h0 : I q 1 = 0) (hn : n + s_kl i ≤ cap) (hc : cap < 65536) (h : K I (wrow A v (va_cpy (s_kc i) (A v) 0 n (s_kl i)))) : ab_Cl mJ5_putStringAt_47b60 2 0 0 [.ref q, .int (nI n), .retAddr (2 * i)] sh I A (ab_Px sh ab_no (ab_rv K)) := by
  refine ab_enter (ls := [some (.ref q), some (.int (nI n)), some (.retAddr (2 * i))]) (by decide +kernel) (Nat.le_of_ble_eq_true rfl) rfl (fun C => ?_)
  refine g_aload_n (n := 1) dJ5_putStringAt_47b60_0 rfl rfl rfl ?_
  refine g_aload_nK (x := (2 * i)) (n := 2) dJ5_putStringAt_47b60_1 rfl rfl rfl ?_
  refine g_callU (n := 5) (as := [.retAddr (2 * i)]) (bc' := 0) (bs' := 0) hq vc_1 (ctJ5_infl (K := fun I1 A1 => I = I1 ∧ A = A1) hi hq h0 ⟨rfl, rfl⟩) okJ5_inflateIfNeededFor_a7421 (ab_in 2670 (by decide +kernel) rfl) (ab_in 1123 (by decide +kernel) rfl) (ab_in 1125 (by decide +kernel) rfl) (ab_inM 3 rfl rfl) dJ5_putStringAt_47b60_2 rfl rfl (Nat.le_of_ble_eq_true rfl) (Nat.le_of_ble_eq_true rfl) (Nat.le_of_ble_eq_true rfl) (Nat.le_of_ble_eq_true rfl) rfl (fun E sh1 I1 A1 hp _ => hp.2.elim) (fun ro sh1 I1 A1 hp _ => ?_)
  obtain ⟨rfl, rfl, rfl, rfl⟩ := hp
  refine g_aload_nK (x := (2 * i)) (n := 6) dJ5_putStringAt_47b60_5 rfl rfl rfl ?_
  refine g_aload_n (n := 7) dJ5_putStringAt_47b60_6 rfl rfl rfl ?_
  refine g_getR (n := 10) (k := 0) dJ5_putStringAt_47b60_7 hq vc_1 (Nat.le_of_ble_eq_true rfl) rfl (ab_in 520 (by decide +kernel) rfl) rfl ?_
  refine g_iload_n (n := 11) dJ5_putStringAt_47b60_10 rfl rfl rfl ?_
  refine g_aload_n (n := 12) dJ5_putStringAt_47b60_11 rfl rfl rfl ?_
  refine g_getIE (n := 15) (k := 1) (x := (0 : Int32)) dJ5_putStringAt_47b60_12 hq vc_1 (Nat.le_of_ble_eq_true rfl) rfl (ab_in 521 (by decide +kernel) rfl) (h0) rfl ?_
  refine g_callVK (i := i) (n := 18) (as := [.ref v, .int (nI n), .int (0 : Int32)]) (bc' := 0) (bs' := 0) (ab_kq hi) (ctJ0_getBytes (K := fun I1 A1 => I = I1 ∧ wrow A v (va_cpy (s_kc i) (A v) 0 n (s_kl i)) = A1) hi hv hn hc ⟨rfl, rfl⟩) okJ0_getBytes_840e7 rfl (ab_in 1147 (by decide +kernel) rfl) (ab_in 1148 (by decide +kernel) rfl) (ab_in 1149 (by decide +kernel) rfl) (ab_in 110 (by decide +kernel) rfl) dJ5_putStringAt_47b60_15 rfl rfl (Nat.le_of_ble_eq_true rfl) (Nat.le_of_ble_eq_true rfl) (Nat.le_of_ble_eq_true rfl) (Nat.le_of_ble_eq_true rfl) rfl (fun E sh1 I1 A1 hp _ => hp.2.elim) (fun ro sh1 I1 A1 hp _ => ?_)
  obtain ⟨rfl, rfl, rfl, rfl⟩ := hp
  exact g_vret rfl dJ5_putStringAt_47b60_18 (⟨rfl, rfl, h⟩)
theorem s_kF {i n : Nat} {g : Nat → Int32} (hi : i < 66) (hg : sb_Fit g) : sb_Fit (va_cpy (s_kc i) g 0 n (s_kl i)) := by
  intro j
  unfold va_cpy
  by_cases h : n ≤ j ∧ j < n + s_kl i
  · rw [if_pos h]
    exact s_kfit i hi _ (by have : s_kl i = (ab_st i).2.2.2.length := rfl; omega)
  · rw [if_neg h]; exact hg j
theorem ctJ5_appS {i mc ms : Nat} (hi : i < 66) (hq : sh[q]? = some (sb_ob v)) (hv : sh[v]? = some (.inl (.byte, cap))) (h0 : I q 1 = 0) (hn : I q 3 = nI n) (hnc : n ≤ cap) (hc : cap < 65536) (hs : sb_cap (n + s_kl i) cap < 65536) (hf : sb_Fit (A v)) (hr : n + s_kl i ≤ cap ∨ (1 ≤ mc ∧ sb_cap (n + s_kl i) cap ≤ ms)) : ab_Cl mJ5_append_cf1ce 4 mc ms [.ref q, .retAddr (2 * i)] sh I A (sb_Pa sh q v n (s_kl i) cap (s_kc i) I A) := by
  refine ab_enter (ls := [some (.ref q), some (.retAddr (2 * i)), none]) (by decide +kernel) (Nat.le_of_ble_eq_true rfl) rfl (fun C => ?_)
  refine g_aload_nK (x := (2 * i)) (n := 1) dJ5_append_cf1ce_0 rfl rfl rfl ?_
  refine g_ifnonnullK 9 dJ5_append_cf1ce_1 (by decide) ?_
  refine g_aload_nK (x := (2 * i)) (n := 10) dJ5_append_cf1ce_9 rfl rfl rfl ?_
  refine g_callVK (i := i) (n := 13) (as := []) (bc' := mc) (bs' := ms) (ab_kq hi) (ctJ0_length_8abf5 (K := (fun r I1 A1 => r = nI (s_kl i) ∧ I = I1 ∧ A = A1)) ⟨hi, rfl, rfl, rfl⟩) okJ0_length_8abf5 rfl (ab_in 1118 (by decide +kernel) rfl) (ab_in 586 (by decide +kernel) rfl) (ab_in 587 (by decide +kernel) rfl) (ab_in 110 (by decide +kernel) rfl) dJ5_append_cf1ce_10 rfl rfl (Nat.le_of_ble_eq_true rfl) (Nat.le_refl _) (Nat.le_refl _) (Nat.le_of_ble_eq_true rfl) rfl (fun E sh1 I1 A1 hp _ => hp.2.elim) (fun ro sh I1 A1 hp _ => ?_)
  obtain ⟨rfl, r, rfl, rfl, rfl, rfl⟩ := hp
  refine g_istore_n (n := 14) (ls' := [some (.ref q), some (.retAddr (2 * i)), some (.int (nI (s_kl i)))]) dJ5_append_cf1ce_13 rfl rfl (Nat.le_of_ble_eq_true rfl) (Nat.le_of_ble_eq_true rfl) rfl rfl ?_
  refine g_aload_n (n := 15) dJ5_append_cf1ce_14 rfl rfl rfl ?_
  refine g_aload_n (n := 16) dJ5_append_cf1ce_15 rfl rfl rfl ?_
  refine g_getIE (n := 19) (k := 3) (x := (nI n)) dJ5_append_cf1ce_16 hq vc_1 (Nat.le_of_ble_eq_true rfl) rfl (ab_in 524 (by decide +kernel) rfl) (hn) rfl ?_
  refine g_iload_n (n := 20) dJ5_append_cf1ce_19 rfl rfl rfl ?_
  refine g_iadd (n := 21) dJ5_append_cf1ce_20 rfl ?_
  rw [show ((nI n) + (nI (s_kl i))) = (nI (n + s_kl i)) from nI_add _ _]
  refine g_callU (n := 24) (as := [.int (nI (n + s_kl i))]) (bc' := 0) (bs' := 0) hq vc_1 (ctJ5_ensure (m := n + s_kl i) (mc := mc) (ms := ms) hq hv h0 (by have := sb_cap_ge (n + s_kl i) cap; omega) hc hs hf hr) okJ5_ensureCapacityInternal_d00df (ab_in 2667 (by decide +kernel) rfl) (ab_in 1069 (by decide +kernel) rfl) (ab_in 1071 (by decide +kernel) rfl) (ab_inM 0 rfl rfl) dJ5_append_cf1ce_21 rfl rfl (Nat.le_of_ble_eq_true rfl) (by omega) (by omega) (Nat.le_of_ble_eq_true rfl) rfl (fun E sh1 I1 A1 hp _ => by have z : (Sum.inr E : Option Value ⊕ String) = .inl none := hp.1; cases z) (fun ro sh1 I1 A1 hp _ => ?_)
  have e1 : (Sum.inl ro : Option Value ⊕ String) = .inl none := hp.1
  cases e1
  have e2 : sh1 = sb_gs sh q (n + s_kl i) cap := hp.2.1
  have e3 : I = I1 := hp.2.2.1.symm
  subst e2
  subst e3
  obtain ⟨-, -, -, a1, a2, a3, -⟩ := hp
  have hq2 := sb_gq (m := n + s_kl i) (cap := cap) hq
  have hv2 := sb_gw (m := n + s_kl i) hq hv
  have hg2 := sb_cap_ge (n + s_kl i) cap
  refine g_aload_n (n := 25) dJ5_append_cf1ce_24 rfl rfl rfl ?_
  refine g_aload_n (n := 26) dJ5_append_cf1ce_25 rfl rfl rfl ?_
  refine g_getIE (n := 29) (k := 3) (x := (nI n)) dJ5_append_cf1ce_26 hq2 vc_1 (Nat.le_of_ble_eq_true rfl) rfl (ab_in 524 (by decide +kernel) rfl) (hn) rfl ?_
  refine g_aload_nK (x := (2 * i)) (n := 30) dJ5_append_cf1ce_29 rfl rfl rfl ?_
  refine g_callU (n := 33) (as := [.int (nI n), .retAddr (2 * i)]) (bc' := 0) (bs' := 0) hq2 vc_1 (ctJ5_putStr (K := fun I1 A2 => I = I1 ∧ wrow A1 (sb_gv sh v (n + s_kl i) cap) (va_cpy (s_kc i) (A1 (sb_gv sh v (n + s_kl i) cap)) 0 n (s_kl i)) = A2) hi hq2 hv2 h0 hg2 hs ⟨rfl, rfl⟩) okJ5_putStringAt_47b60 (ab_in 2669 (by decide +kernel) rfl) (ab_in 1119 (by decide +kernel) rfl) (ab_in 1121 (by decide +kernel) rfl) (ab_inM 2 rfl rfl) dJ5_append_cf1ce_30 rfl rfl (Nat.le_of_ble_eq_true rfl) (Nat.le_of_ble_eq_true rfl) (Nat.le_of_ble_eq_true rfl) (Nat.le_of_ble_eq_true rfl) rfl (fun E sh1 I1 A1 hp _ => hp.2.elim) (fun ro sh1 I1 A1 hp _ => ?_)
  obtain ⟨rfl, rfl, rfl, rfl⟩ := hp
  refine g_aload_n (n := 34) dJ5_append_cf1ce_33 rfl rfl rfl ?_
  refine g_dup (n := 35) dJ5_append_cf1ce_34 rfl rfl ?_
  refine g_getIE (n := 38) (k := 3) (x := (nI n)) dJ5_append_cf1ce_35 hq2 vc_1 (Nat.le_of_ble_eq_true rfl) rfl (ab_in 524 (by decide +kernel) rfl) (hn) rfl ?_
  refine g_iload_n (n := 39) dJ5_append_cf1ce_38 rfl rfl rfl ?_
  refine g_iadd (n := 40) dJ5_append_cf1ce_39 rfl ?_
  rw [show ((nI n) + (nI (s_kl i))) = (nI (n + s_kl i)) from nI_add _ _]
  refine g_putI (n := 43) (k := 3) dJ5_append_cf1ce_40 hq2 vc_1 (Nat.le_of_ble_eq_true rfl) rfl (ab_in 524 (by decide +kernel) rfl) rfl rfl rfl rfl rfl ?_
  refine g_aload_n (n := 44) dJ5_append_cf1ce_43 rfl rfl rfl ?_
  exact g_aret (n := 0) rfl (Or.inl ⟨_, rfl⟩) dJ5_append_cf1ce_44 (sb_Pm hnc a1 a2 a3 (fun c hc => wrow_ne hc) (fun j hj => by rw [wrow_at, pk_cpy_out (Or.inl hj)]) (fun j hj => by rw [wrow_at, pk_cpy_in (by omega) (by omega), show 0 + (n + j - n) = j by omega]) (fun hf => by rw [wrow_at]; exact s_kF hi hf))
theorem ctJ1_canEnc {c : Nat} {K : Int32 → ab_F → ab_F → Prop} (hc : c < 128) (h : K (nI 1) I A) : ab_Cl mJ1_canEncode_fc78d 0 0 0 [.int (nI c)] sh I A (ab_Px sh ab_no (ab_ri K)) := by
  refine ab_enter (ls := [some (.int (nI c))]) (by decide +kernel) (Nat.le_of_ble_eq_true rfl) rfl (fun C => ?_)
  refine g_iload_n (n := 1) dJ1_canEncode_fc78d_0 rfl rfl rfl ?_
  refine g_sipush (n := 4) (v := (nI 255)) dJ1_canEncode_fc78d_1 rfl rfl ?_
  refine g_icmp_gt 11 dJ1_canEncode_fc78d_4 (by decide) (n := 7) rfl (fun hc => absurd hc (nI_nlt (by omega) (by omega))) (fun _ => ?_)
  refine g_iconst (n := 8) (v := (nI 1)) dJ1_canEncode_fc78d_7 rfl rfl ?_
  refine g_goto 12 dJ1_canEncode_fc78d_8 (by decide) ?_
  exact g_iret rfl rfl dJ1_canEncode_fc78d_12 ⟨rfl, _, rfl, h⟩
theorem ctJ5_appC {c mc ms : Nat} (hcc : c < 128) (hq : sh[q]? = some (sb_ob v)) (hv : sh[v]? = some (.inl (.byte, cap))) (h0 : I q 1 = 0) (hn : I q 3 = nI n) (hnc : n ≤ cap) (hc : cap < 65536) (hs : sb_cap (n + 1) cap < 65536) (hf : sb_Fit (A v)) (hr : n + 1 ≤ cap ∨ (1 ≤ mc ∧ sb_cap (n + 1) cap ≤ ms)) : ab_Cl mJ5_append_3fe6f 4 mc ms [.ref q, .int (nI c)] sh I A (sb_Pa sh q v n 1 cap (fun _ => nI c) I A) := by
  refine ab_enter (ls := [some (.ref q), some (.int (nI c))]) (by decide +kernel) (Nat.le_of_ble_eq_true rfl) rfl (fun C => ?_)
  refine g_aload_n (n := 1) dJ5_append_3fe6f_0 rfl rfl rfl ?_
  refine g_aload_n (n := 2) dJ5_append_3fe6f_1 rfl rfl rfl ?_
  refine g_getIE (n := 5) (k := 3) (x := (nI n)) dJ5_append_3fe6f_2 hq vc_1 (Nat.le_of_ble_eq_true rfl) rfl (ab_in 524 (by decide +kernel) rfl) (hn) rfl ?_
  refine g_iconst (n := 6) (v := (nI 1)) dJ5_append_3fe6f_5 rfl rfl ?_
  refine g_iadd (n := 7) dJ5_append_3fe6f_6 rfl ?_
  rw [show ((nI n) + (nI 1)) = (nI (n + 1)) from nI_add _ _]
  refine g_callU (n := 10) (as := [.int (nI (n + 1))]) (bc' := 0) (bs' := 0) hq vc_1 (ctJ5_ensure (m := n + 1) (mc := mc) (ms := ms) hq hv h0 (by have := sb_cap_ge (n + 1) cap; omega) hc hs hf hr) okJ5_ensureCapacityInternal_d00df (ab_in 2667 (by decide +kernel) rfl) (ab_in 1069 (by decide +kernel) rfl) (ab_in 1071 (by decide +kernel) rfl) (ab_inM 0 rfl rfl) dJ5_append_3fe6f_7 rfl rfl (Nat.le_of_ble_eq_true rfl) (by omega) (by omega) (Nat.le_of_ble_eq_true rfl) rfl (fun E sh1 I1 A1 hp _ => by have z : (Sum.inr E : Option Value ⊕ String) = .inl none := hp.1; cases z) (fun ro sh1 I1 A1 hp _ => ?_)
  have e1 : (Sum.inl ro : Option Value ⊕ String) = .inl none := hp.1
  cases e1
  have e2 : sh1 = sb_gs sh q (n + 1) cap := hp.2.1
  have e3 : I = I1 := hp.2.2.1.symm
  subst e2
  subst e3
  obtain ⟨-, -, -, a1, a2, a3, -⟩ := hp
  have hq2 := sb_gq (m := n + 1) (cap := cap) hq
  have hv2 := sb_gw (m := n + 1) hq hv
  have hg2 := sb_cap_ge (n + 1) cap
  refine g_aload_n (n := 11) dJ5_append_3fe6f_10 rfl rfl rfl ?_
  refine g_callU (n := 14) (as := []) (bc' := 0) (bs' := 0) hq2 vc_1 (ctJ5_isLatin1 (K := fun r I1 A2 => r = nI 1 ∧ I = I1 ∧ A1 = A2) hq2 h0 ⟨rfl, rfl, rfl⟩) okJ5_isLatin1_aae02 (ab_in 1100 (by decide +kernel) rfl) (ab_in 1098 (by decide +kernel) rfl) (ab_in 1099 (by decide +kernel) rfl) (ab_in 1101 (by decide +kernel) rfl) dJ5_append_3fe6f_11 rfl rfl (Nat.le_of_ble_eq_true rfl) (Nat.le_of_ble_eq_true rfl) (Nat.le_of_ble_eq_true rfl) (Nat.le_of_ble_eq_true rfl) rfl (fun E sh1 I1 A1 hp _ => hp.2.elim) (fun ro sh1 I1 A1 hp _ => ?_)
  obtain ⟨rfl, r, rfl, rfl, rfl, rfl⟩ := hp
  refine g_if_eq 45 dJ5_append_3fe6f_14 (by decide) (n := 17) rfl (fun hc => absurd hc (by decide)) (fun _ => ?_)
  refine g_iload_n (n := 18) dJ5_append_3fe6f_17 rfl rfl rfl ?_
  refine g_callS (n := 21) (as := [.int (nI c)]) (bc' := 0) (bs' := 0) (ctJ1_canEnc (K := fun r I1 A2 => r = nI 1 ∧ I = I1 ∧ A1 = A2) hcc ⟨rfl, rfl, rfl⟩) okJ1_canEncode_fc78d (ab_in 1374 (by decide +kernel) rfl) (ab_in 1375 (by decide +kernel) rfl) dJ5_append_3fe6f_18 rfl rfl (Nat.le_of_ble_eq_true rfl) (Nat.le_of_ble_eq_true rfl) (Nat.le_of_ble_eq_true rfl) (Nat.le_of_ble_eq_true rfl) rfl (fun E sh1 I1 A1 hp _ => hp.2.elim) (fun ro sh1 I1 A1 hp _ => ?_)
  obtain ⟨rfl, r, rfl, rfl, rfl, rfl⟩ := hp
  refine g_if_eq 45 dJ5_append_3fe6f_21 (by decide) (n := 24) rfl (fun hc => absurd hc (by decide)) (fun _ => ?_)
  refine g_aload_n (n := 25) dJ5_append_3fe6f_24 rfl rfl rfl ?_
  refine g_getR (n := 28) (k := 0) dJ5_append_3fe6f_25 hq2 vc_1 (Nat.le_of_ble_eq_true rfl) rfl (ab_in 520 (by decide +kernel) rfl) rfl ?_
  refine g_aload_n (n := 29) dJ5_append_3fe6f_28 rfl rfl rfl ?_
  refine g_dup (n := 30) dJ5_append_3fe6f_29 rfl rfl ?_
  refine g_getIE (n := 33) (k := 3) (x := (nI n)) dJ5_append_3fe6f_30 hq2 vc_1 (Nat.le_of_ble_eq_true rfl) rfl (ab_in 524 (by decide +kernel) rfl) (hn) rfl ?_
  refine g_dup_x1 (n := 34) dJ5_append_3fe6f_33 rfl rfl rfl ?_
  refine g_iconst (n := 35) (v := (nI 1)) dJ5_append_3fe6f_34 rfl rfl ?_
  refine g_iadd (n := 36) dJ5_append_3fe6f_35 rfl ?_
  rw [show ((nI n) + (nI 1)) = (nI (n + 1)) from nI_add _ _]
  refine g_putI (n := 39) (k := 3) dJ5_append_3fe6f_36 hq2 vc_1 (Nat.le_of_ble_eq_true rfl) rfl (ab_in 524 (by decide +kernel) rfl) rfl rfl rfl rfl rfl ?_
  refine g_iload_n (n := 40) dJ5_append_3fe6f_39 rfl rfl rfl ?_
  refine g_i2b (n := 41) dJ5_append_3fe6f_40 rfl ?_
  refine g_bastJ (n := 42) (j := n) dJ5_append_3fe6f_41 hv2 rfl (by omega) (by omega) rfl ?_
  rw [(s_c128 c hcc).1]
  refine g_goto 75 dJ5_append_3fe6f_42 (by decide) ?_
  refine g_aload_n (n := 76) dJ5_append_3fe6f_75 rfl rfl rfl ?_
  exact g_aret (n := 0) rfl (Or.inl ⟨_, rfl⟩) dJ5_append_3fe6f_76 (sb_Pm hnc a1 a2 a3 (fun c hc => wr_ne hc) (fun j hj => by rw [wr_rw, pk_un (by omega)]) (fun j hj => by rw [wr_rw, show n + j = n by omega, pk_us]) (fun hf => by rw [wr_rw]; exact sb_fitU hf (s_c128 c hcc).2))
theorem ctJ5_appI {x mc ms : Nat} (hx : x < 2 ^ 31) (hq : sh[q]? = some (sb_ob v)) (hv : sh[v]? = some (.inl (.byte, cap))) (h0 : I q 1 = 0) (hn : I q 3 = nI n) (hnc : n ≤ cap) (hc : cap < 65536) (hs : sb_cap (n + sb_dg x) cap < 65536) (hf : sb_Fit (A v)) (hr : n + sb_dg x ≤ cap ∨ (1 ≤ mc ∧ sb_cap (n + sb_dg x) cap ≤ ms)) : ab_Cl mJ5_append_c97b9 4 mc ms [.ref q, .int (nI x)] sh I A (sb_Pa sh q v n (sb_dg x) cap (fun i => sb_b (sb_dec x i)) I A) := by
  refine ab_enter (ls := [some (.ref q), some (.int (nI x)), none, none]) (by decide +kernel) (Nat.le_of_ble_eq_true rfl) rfl (fun C => ?_)
  refine g_aload_n (n := 1) dJ5_append_c97b9_0 rfl rfl rfl ?_
  refine g_getIE (n := 4) (k := 3) (x := (nI n)) dJ5_append_c97b9_1 hq vc_1 (Nat.le_of_ble_eq_true rfl) rfl (ab_in 524 (by decide +kernel) rfl) (hn) rfl ?_
  refine g_istore_n (n := 5) (ls' := [some (.ref q), some (.int (nI x)), some (.int (nI n)), none]) dJ5_append_c97b9_4 rfl rfl (Nat.le_of_ble_eq_true rfl) (Nat.le_of_ble_eq_true rfl) rfl rfl ?_
  refine g_iload_n (n := 6) dJ5_append_c97b9_5 rfl rfl rfl ?_
  refine g_iload_n (n := 7) dJ5_append_c97b9_6 rfl rfl rfl ?_
  refine g_callS (n := 10) (as := [.int (nI x)]) (bc' := mc) (bs' := ms) (ctJ6_stringSize_0f7a4 (c_ssz (K := (fun r I1 A1 => r = nI (sb_dg x) ∧ I = I1 ∧ A = A1)) hx ⟨rfl, rfl, rfl⟩)) okJ6_stringSize_0f7a4 (ab_in 1160 (by decide +kernel) rfl) (ab_in 1161 (by decide +kernel) rfl) dJ5_append_c97b9_7 rfl rfl (Nat.le_of_ble_eq_true rfl) (Nat.le_refl _) (Nat.le_refl _) (Nat.le_of_ble_eq_true rfl) rfl (fun E sh1 I1 A1 hp _ => hp.2.elim) (fun ro sh I1 A1 hp _ => ?_)
  obtain ⟨rfl, r, rfl, rfl, rfl, rfl⟩ := hp
  refine g_iadd (n := 11) dJ5_append_c97b9_10 rfl ?_
  rw [show ((nI n) + (nI (sb_dg x))) = (nI (n + sb_dg x)) from nI_add _ _]
  refine g_istore_n (n := 12) (ls' := [some (.ref q), some (.int (nI x)), some (.int (nI n)), some (.int (nI (n + sb_dg x)))]) dJ5_append_c97b9_11 rfl rfl (Nat.le_of_ble_eq_true rfl) (Nat.le_of_ble_eq_true rfl) rfl rfl ?_
  refine g_aload_n (n := 13) dJ5_append_c97b9_12 rfl rfl rfl ?_
  refine g_iload_n (n := 14) dJ5_append_c97b9_13 rfl rfl rfl ?_
  refine g_callU (n := 17) (as := [.int (nI (n + sb_dg x))]) (bc' := 0) (bs' := 0) hq vc_1 (ctJ5_ensure (m := n + sb_dg x) (mc := mc) (ms := ms) hq hv h0 (by have := sb_cap_ge (n + sb_dg x) cap; omega) hc hs hf hr) okJ5_ensureCapacityInternal_d00df (ab_in 2667 (by decide +kernel) rfl) (ab_in 1069 (by decide +kernel) rfl) (ab_in 1071 (by decide +kernel) rfl) (ab_inM 0 rfl rfl) dJ5_append_c97b9_14 rfl rfl (Nat.le_of_ble_eq_true rfl) (by omega) (by omega) (Nat.le_of_ble_eq_true rfl) rfl (fun E sh1 I1 A1 hp _ => by have z : (Sum.inr E : Option Value ⊕ String) = .inl none := hp.1; cases z) (fun ro sh1 I1 A1 hp _ => ?_)
  have e1 : (Sum.inl ro : Option Value ⊕ String) = .inl none := hp.1
  cases e1
  have e2 : sh1 = sb_gs sh q (n + sb_dg x) cap := hp.2.1
  have e3 : I = I1 := hp.2.2.1.symm
  subst e2
  subst e3
  obtain ⟨-, -, -, a1, a2, a3, -⟩ := hp
  have hq2 := sb_gq (m := n + sb_dg x) (cap := cap) hq
  have hv2 := sb_gw (m := n + sb_dg x) hq hv
  have hg2 := sb_cap_ge (n + sb_dg x) cap
  refine g_aload_n (n := 18) dJ5_append_c97b9_17 rfl rfl rfl ?_
  refine g_callU (n := 21) (as := []) (bc' := 0) (bs' := 0) hq2 vc_1 (ctJ5_isLatin1 (K := fun r I1 A2 => r = nI 1 ∧ I = I1 ∧ A1 = A2) hq2 h0 ⟨rfl, rfl, rfl⟩) okJ5_isLatin1_aae02 (ab_in 1100 (by decide +kernel) rfl) (ab_in 1098 (by decide +kernel) rfl) (ab_in 1099 (by decide +kernel) rfl) (ab_in 1101 (by decide +kernel) rfl) dJ5_append_c97b9_18 rfl rfl (Nat.le_of_ble_eq_true rfl) (Nat.le_of_ble_eq_true rfl) (Nat.le_of_ble_eq_true rfl) (Nat.le_of_ble_eq_true rfl) rfl (fun E sh1 I1 A1 hp _ => hp.2.elim) (fun ro sh1 I1 A1 hp _ => ?_)
  obtain ⟨rfl, r, rfl, rfl, rfl, rfl⟩ := hp
  refine g_if_eq 37 dJ5_append_c97b9_21 (by decide) (n := 24) rfl (fun hc => absurd hc (by decide)) (fun _ => ?_)
  refine g_iload_n (n := 25) dJ5_append_c97b9_24 rfl rfl rfl ?_
  refine g_iload_n (n := 26) dJ5_append_c97b9_25 rfl rfl rfl ?_
  refine g_aload_n (n := 27) dJ5_append_c97b9_26 rfl rfl rfl ?_
  refine g_getR (n := 30) (k := 0) dJ5_append_c97b9_27 hq2 vc_1 (Nat.le_of_ble_eq_true rfl) rfl (ab_in 520 (by decide +kernel) rfl) rfl ?_
  refine g_callS (n := 33) (as := [.int (nI x), .int (nI (n + sb_dg x)), .ref (sb_gv sh v (n + sb_dg x) cap)]) (bc' := 0) (bs' := 0) (ctJ6_getChars_ba4f3 hv2 (by omega) (c_gch (K := fun r I1 A2 => r = nI n ∧ I = I1 ∧ (∀ c, c ≠ (sb_gv sh v (n + sb_dg x) cap) → A2 c = A1 c) ∧ (∀ j, j < n → A2 (sb_gv sh v (n + sb_dg x) cap) j = A1 (sb_gv sh v (n + sb_dg x) cap) j) ∧ (∀ i, i < sb_dg x → A2 (sb_gv sh v (n + sb_dg x) cap) (n + i) = sb_b (sb_dec x i)) ∧ (sb_Fit (A1 (sb_gv sh v (n + sb_dg x) cap)) → sb_Fit (A2 (sb_gv sh v (n + sb_dg x) cap)))) (by omega) hx hg2 (fun A2 b0 b1 b2 b3 => ⟨rfl, rfl, b0, b1, b2, b3⟩))) okJ6_getChars_ba4f3 (ab_in 1163 (by decide +kernel) rfl) (ab_in 1164 (by decide +kernel) rfl) dJ5_append_c97b9_30 rfl rfl (Nat.le_of_ble_eq_true rfl) (Nat.le_of_ble_eq_true rfl) (Nat.le_of_ble_eq_true rfl) (Nat.le_of_ble_eq_true rfl) rfl (fun E sh1 I1 A1 hp _ => hp.2.elim) (fun ro sh1 I1 A2 hp _ => ?_)
  obtain ⟨rfl, r, rfl, rfl, rfl, b0, b1, b2, b3⟩ := hp
  refine g_pop (n := 34) dJ5_append_c97b9_33 rfl rfl ?_
  refine g_goto 48 dJ5_append_c97b9_34 (by decide) ?_
  refine g_aload_n (n := 49) dJ5_append_c97b9_48 rfl rfl rfl ?_
  refine g_iload_n (n := 50) dJ5_append_c97b9_49 rfl rfl rfl ?_
  refine g_putI (n := 53) (k := 3) dJ5_append_c97b9_50 hq2 vc_1 (Nat.le_of_ble_eq_true rfl) rfl (ab_in 524 (by decide +kernel) rfl) rfl rfl rfl rfl rfl ?_
  refine g_aload_n (n := 54) dJ5_append_c97b9_53 rfl rfl rfl ?_
  exact g_aret (n := 0) rfl (Or.inl ⟨_, rfl⟩) dJ5_append_c97b9_54 (sb_Pm hnc a1 a2 a3 b0 b1 b2 b3)
theorem ctJ4_appS {i mc ms : Nat} (hi : i < 66) (hq : sh[q]? = some (sb_ob v)) (hv : sh[v]? = some (.inl (.byte, cap))) (h0 : I q 1 = 0) (hn : I q 3 = nI n) (hnc : n ≤ cap) (hc : cap < 65536) (hs : sb_cap (n + s_kl i) cap < 65536) (hf : sb_Fit (A v)) (hr : n + s_kl i ≤ cap ∨ (1 ≤ mc ∧ sb_cap (n + s_kl i) cap ≤ ms)) : ab_Cl mJ4_append_15ec4 5 mc ms [.ref q, .retAddr (2 * i)] sh I A (sb_Pa sh q v n (s_kl i) cap (s_kc i) I A) := by
  refine ab_enter (ls := [some (.ref q), some (.retAddr (2 * i))]) (by decide +kernel) (Nat.le_of_ble_eq_true rfl) rfl (fun C => ?_)
  refine g_aload_n (n := 1) dJ4_append_15ec4_0 rfl rfl rfl ?_
  refine g_aload_nK (x := (2 * i)) (n := 2) dJ4_append_15ec4_1 rfl rfl rfl ?_
  refine g_callSU (n := 5) (as := [.retAddr (2 * i)]) (bc' := 0) (bs' := 0) hq vc_1 (ctJ5_appS hi (mc := mc) (ms := ms) hq hv h0 hn hnc hc hs hf hr) okJ5_append_cf1ce (ab_in 2665 (by decide +kernel) rfl) (by decide) (ab_in 1062 (by decide +kernel) rfl) (ab_in 1063 (by decide +kernel) rfl) (ab_in 533 (by decide +kernel) rfl) dJ4_append_15ec4_2 rfl rfl (Nat.le_of_ble_eq_true rfl) (by omega) (by omega) (Nat.le_of_ble_eq_true rfl) rfl (fun E sh1 I1 A1 hp _ => by have z : (Sum.inr E : Option Value ⊕ String) = .inl (some (.ref q)) := hp.1; cases z) (fun ro sh1 I1 A1 hp _ => ?_)
  have e1 : (Sum.inl ro : Option Value ⊕ String) = .inl (some (.ref q)) := hp.1
  cases e1
  refine g_pop (n := 6) dJ4_append_15ec4_5 rfl rfl ?_
  refine g_aload_n (n := 7) dJ4_append_15ec4_6 rfl rfl rfl ?_
  exact g_aret (n := 0) rfl (Or.inl ⟨_, rfl⟩) dJ4_append_15ec4_7 hp
theorem ctJ4_appC {c mc ms : Nat} (hcc : c < 128) (hq : sh[q]? = some (sb_ob v)) (hv : sh[v]? = some (.inl (.byte, cap))) (h0 : I q 1 = 0) (hn : I q 3 = nI n) (hnc : n ≤ cap) (hc : cap < 65536) (hs : sb_cap (n + 1) cap < 65536) (hf : sb_Fit (A v)) (hr : n + 1 ≤ cap ∨ (1 ≤ mc ∧ sb_cap (n + 1) cap ≤ ms)) : ab_Cl mJ4_append_cf468 5 mc ms [.ref q, .int (nI c)] sh I A (sb_Pa sh q v n (1) cap (fun _ => nI c) I A) := by
  refine ab_enter (ls := [some (.ref q), some (.int (nI c))]) (by decide +kernel) (Nat.le_of_ble_eq_true rfl) rfl (fun C => ?_)
  refine g_aload_n (n := 1) dJ4_append_cf468_0 rfl rfl rfl ?_
  refine g_iload_n (n := 2) dJ4_append_cf468_1 rfl rfl rfl ?_
  refine g_callSU (n := 5) (as := [.int (nI c)]) (bc' := 0) (bs' := 0) hq vc_1 (ctJ5_appC hcc (mc := mc) (ms := ms) hq hv h0 hn hnc hc hs hf hr) okJ5_append_3fe6f (ab_in 2674 (by decide +kernel) rfl) (by decide) (ab_in 1371 (by decide +kernel) rfl) (ab_in 1372 (by decide +kernel) rfl) (ab_in 533 (by decide +kernel) rfl) dJ4_append_cf468_2 rfl rfl (Nat.le_of_ble_eq_true rfl) (by omega) (by omega) (Nat.le_of_ble_eq_true rfl) rfl (fun E sh1 I1 A1 hp _ => by have z : (Sum.inr E : Option Value ⊕ String) = .inl (some (.ref q)) := hp.1; cases z) (fun ro sh1 I1 A1 hp _ => ?_)
  have e1 : (Sum.inl ro : Option Value ⊕ String) = .inl (some (.ref q)) := hp.1
  cases e1
  refine g_pop (n := 6) dJ4_append_cf468_5 rfl rfl ?_
  refine g_aload_n (n := 7) dJ4_append_cf468_6 rfl rfl rfl ?_
  exact g_aret (n := 0) rfl (Or.inl ⟨_, rfl⟩) dJ4_append_cf468_7 hp
theorem ctJ4_appI {x mc ms : Nat} (hx : x < 2 ^ 31) (hq : sh[q]? = some (sb_ob v)) (hv : sh[v]? = some (.inl (.byte, cap))) (h0 : I q 1 = 0) (hn : I q 3 = nI n) (hnc : n ≤ cap) (hc : cap < 65536) (hs : sb_cap (n + sb_dg x) cap < 65536) (hf : sb_Fit (A v)) (hr : n + sb_dg x ≤ cap ∨ (1 ≤ mc ∧ sb_cap (n + sb_dg x) cap ≤ ms)) : ab_Cl mJ4_append_bf812 5 mc ms [.ref q, .int (nI x)] sh I A (sb_Pa sh q v n (sb_dg x) cap (fun i => sb_b (sb_dec x i)) I A) := by
  refine ab_enter (ls := [some (.ref q), some (.int (nI x))]) (by decide +kernel) (Nat.le_of_ble_eq_true rfl) rfl (fun C => ?_)
  refine g_aload_n (n := 1) dJ4_append_bf812_0 rfl rfl rfl ?_
  refine g_iload_n (n := 2) dJ4_append_bf812_1 rfl rfl rfl ?_
  refine g_callSU (n := 5) (as := [.int (nI x)]) (bc' := 0) (bs' := 0) hq vc_1 (ctJ5_appI hx (mc := mc) (ms := ms) hq hv h0 hn hnc hc hs hf hr) okJ5_append_c97b9 (ab_in 2672 (by decide +kernel) rfl) (by decide) (ab_in 1157 (by decide +kernel) rfl) (ab_in 1158 (by decide +kernel) rfl) (ab_in 533 (by decide +kernel) rfl) dJ4_append_bf812_2 rfl rfl (Nat.le_of_ble_eq_true rfl) (by omega) (by omega) (Nat.le_of_ble_eq_true rfl) rfl (fun E sh1 I1 A1 hp _ => by have z : (Sum.inr E : Option Value ⊕ String) = .inl (some (.ref q)) := hp.1; cases z) (fun ro sh1 I1 A1 hp _ => ?_)
  have e1 : (Sum.inl ro : Option Value ⊕ String) = .inl (some (.ref q)) := hp.1
  cases e1
  refine g_pop (n := 6) dJ4_append_bf812_5 rfl rfl ?_
  refine g_aload_n (n := 7) dJ4_append_bf812_6 rfl rfl rfl ?_
  exact g_aret (n := 0) rfl (Or.inl ⟨_, rfl⟩) dJ4_append_bf812_7 hp
theorem ctJ5_setLength (hq : sh[q]? = some (sb_ob v)) (hv : sh[v]? = some (.inl (.byte, cap))) (h0 : I q 1 = 0) (hn : I q 3 = nI n) (hnc : n ≤ cap) (hc : cap < 65536) (hf : sb_Fit (A v)) : ab_Cl mJ5_setLength_d00df 4 0 0 [.ref q, .int (nI 0)] sh I A (fun o => ∃ I2, o = (.inl none, sh, I2, A) ∧ I2 q 3 = nI 0 ∧ I2 q 1 = I q 1 ∧ ∀ c, c ≠ q → I2 c = I c) := by
  refine ab_enter (ls := [some (.ref q), some (.int (nI 0))]) (by decide +kernel) (Nat.le_of_ble_eq_true rfl) rfl (fun C => ?_)
  by_cases hle : n = 0
  · refine g_iload_n (n := 1) dJ5_setLength_d00df_0 rfl rfl rfl ?_
    refine g_if_ge 13 dJ5_setLength_d00df_1 (by decide) (n := 4) rfl (fun _ => ?_) (fun hc => absurd (nI_pos' (by omega)) hc)
    refine g_aload_n (n := 14) dJ5_setLength_d00df_13 rfl rfl rfl ?_
    refine g_iload_n (n := 15) dJ5_setLength_d00df_14 rfl rfl rfl ?_
    refine g_callU (n := 18) (as := [.int (nI 0)]) (bc' := 0) (bs' := 0) hq vc_1 (ctJ5_ensure (m := 0) (mc := 0) (ms := 0) hq hv h0 (by omega) hc (by unfold sb_cap; rw [if_pos (Nat.zero_le _)]; exact hc) hf (Or.inl (Nat.zero_le _))) okJ5_ensureCapacityInternal_d00df (ab_in 2667 (by decide +kernel) rfl) (ab_in 1069 (by decide +kernel) rfl) (ab_in 1071 (by decide +kernel) rfl) (ab_inM 0 rfl rfl) dJ5_setLength_d00df_15 rfl rfl (Nat.le_of_ble_eq_true rfl) (Nat.le_of_ble_eq_true rfl) (Nat.le_of_ble_eq_true rfl) (Nat.le_of_ble_eq_true rfl) rfl (fun E sh1 I1 A1 hp _ => by have z : (Sum.inr E : Option Value ⊕ String) = .inl none := hp.1; cases z) (fun ro sh1 I1 A1 hp _ => ?_)
    have e1 : (Sum.inl ro : Option Value ⊕ String) = .inl none := hp.1
    cases e1
    have e2 : sh1 = sh := hp.2.1.trans (if_pos (Nat.zero_le _))
    have e3 : I = I1 := hp.2.2.1.symm
    have e4 : A = A1 := (hp.2.2.2.2.2.2 (Nat.zero_le _)).symm
    subst e2
    subst e3
    subst e4
    refine g_aload_n (n := 19) dJ5_setLength_d00df_18 rfl rfl rfl ?_
    refine g_getIE (n := 22) (k := 3) (x := (nI n)) dJ5_setLength_d00df_19 hq vc_1 (Nat.le_of_ble_eq_true rfl) rfl (ab_in 524 (by decide +kernel) rfl) (hn) rfl ?_
    refine g_iload_n (n := 23) dJ5_setLength_d00df_22 rfl rfl rfl ?_
    refine g_icmp_ge 63 dJ5_setLength_d00df_23 (by decide) (n := 26) rfl (fun _ => ?_) (fun hc => absurd ((nI_leI (by omega) (by omega)).mpr (Nat.zero_le _)) hc)
    refine g_aload_n (n := 64) dJ5_setLength_d00df_63 rfl rfl rfl ?_
    refine g_getIE (n := 67) (k := 3) (x := (nI n)) dJ5_setLength_d00df_64 hq vc_1 (Nat.le_of_ble_eq_true rfl) rfl (ab_in 524 (by decide +kernel) rfl) (hn) rfl ?_
    refine g_iload_n (n := 68) dJ5_setLength_d00df_67 rfl rfl rfl ?_
    refine g_icmp_le 76 dJ5_setLength_d00df_68 (by decide) (n := 71) rfl (fun _ => ?_) (fun hc => absurd (by rw [hle]; exact (nI_leI (by omega) (by omega)).mpr (Nat.le_refl _)) hc)
    refine g_aload_n (n := 77) dJ5_setLength_d00df_76 rfl rfl rfl ?_
    refine g_iload_n (n := 78) dJ5_setLength_d00df_77 rfl rfl rfl ?_
    refine g_putI (n := 81) (k := 3) dJ5_setLength_d00df_78 hq vc_1 (Nat.le_of_ble_eq_true rfl) rfl (ab_in 524 (by decide +kernel) rfl) rfl rfl rfl rfl rfl ?_
    exact g_vret rfl dJ5_setLength_d00df_81 (⟨_, rfl, wr_ate _ _ _ _, wr_nei (by decide), fun c hc => wr_ne hc⟩)
  · refine g_iload_n (n := 1) dJ5_setLength_d00df_0 rfl rfl rfl ?_
    refine g_if_ge 13 dJ5_setLength_d00df_1 (by decide) (n := 4) rfl (fun _ => ?_) (fun hc => absurd (nI_pos' (by omega)) hc)
    refine g_aload_n (n := 14) dJ5_setLength_d00df_13 rfl rfl rfl ?_
    refine g_iload_n (n := 15) dJ5_setLength_d00df_14 rfl rfl rfl ?_
    refine g_callU (n := 18) (as := [.int (nI 0)]) (bc' := 0) (bs' := 0) hq vc_1 (ctJ5_ensure (m := 0) (mc := 0) (ms := 0) hq hv h0 (by omega) hc (by unfold sb_cap; rw [if_pos (Nat.zero_le _)]; exact hc) hf (Or.inl (Nat.zero_le _))) okJ5_ensureCapacityInternal_d00df (ab_in 2667 (by decide +kernel) rfl) (ab_in 1069 (by decide +kernel) rfl) (ab_in 1071 (by decide +kernel) rfl) (ab_inM 0 rfl rfl) dJ5_setLength_d00df_15 rfl rfl (Nat.le_of_ble_eq_true rfl) (Nat.le_of_ble_eq_true rfl) (Nat.le_of_ble_eq_true rfl) (Nat.le_of_ble_eq_true rfl) rfl (fun E sh1 I1 A1 hp _ => by have z : (Sum.inr E : Option Value ⊕ String) = .inl none := hp.1; cases z) (fun ro sh1 I1 A1 hp _ => ?_)
    have e1 : (Sum.inl ro : Option Value ⊕ String) = .inl none := hp.1
    cases e1
    have e2 : sh1 = sh := hp.2.1.trans (if_pos (Nat.zero_le _))
    have e3 : I = I1 := hp.2.2.1.symm
    have e4 : A = A1 := (hp.2.2.2.2.2.2 (Nat.zero_le _)).symm
    subst e2
    subst e3
    subst e4
    refine g_aload_n (n := 19) dJ5_setLength_d00df_18 rfl rfl rfl ?_
    refine g_getIE (n := 22) (k := 3) (x := (nI n)) dJ5_setLength_d00df_19 hq vc_1 (Nat.le_of_ble_eq_true rfl) rfl (ab_in 524 (by decide +kernel) rfl) (hn) rfl ?_
    refine g_iload_n (n := 23) dJ5_setLength_d00df_22 rfl rfl rfl ?_
    refine g_icmp_ge 63 dJ5_setLength_d00df_23 (by decide) (n := 26) rfl (fun _ => ?_) (fun hc => absurd ((nI_leI (by omega) (by omega)).mpr (Nat.zero_le _)) hc)
    refine g_aload_n (n := 64) dJ5_setLength_d00df_63 rfl rfl rfl ?_
    refine g_getIE (n := 67) (k := 3) (x := (nI n)) dJ5_setLength_d00df_64 hq vc_1 (Nat.le_of_ble_eq_true rfl) rfl (ab_in 524 (by decide +kernel) rfl) (hn) rfl ?_
    refine g_iload_n (n := 68) dJ5_setLength_d00df_67 rfl rfl rfl ?_
    refine g_icmp_le 76 dJ5_setLength_d00df_68 (by decide) (n := 71) rfl (fun hc => absurd hc (nI_ge (by omega) (by omega))) (fun _ => ?_)
    refine g_aload_n (n := 72) dJ5_setLength_d00df_71 rfl rfl rfl ?_
    refine g_iconst (n := 73) (v := (nI 1)) dJ5_setLength_d00df_72 rfl rfl ?_
    refine g_putI (n := 76) (k := 2) dJ5_setLength_d00df_73 hq vc_1 (Nat.le_of_ble_eq_true rfl) rfl (ab_in 522 (by decide +kernel) rfl) rfl rfl rfl rfl rfl ?_
    refine g_aload_n (n := 77) dJ5_setLength_d00df_76 rfl rfl rfl ?_
    refine g_iload_n (n := 78) dJ5_setLength_d00df_77 rfl rfl rfl ?_
    refine g_putI (n := 81) (k := 3) dJ5_setLength_d00df_78 hq vc_1 (Nat.le_of_ble_eq_true rfl) rfl (ab_in 524 (by decide +kernel) rfl) rfl rfl rfl rfl rfl ?_
    exact g_vret rfl dJ5_setLength_d00df_81 (⟨_, rfl, wr_ate _ _ _ _, (wr_nei (by decide)).trans (wr_nei (by decide)), fun c hc => (wr_ne hc).trans (wr_ne hc)⟩)
theorem ctJ4_setLength (hq : sh[q]? = some (sb_ob v)) (hv : sh[v]? = some (.inl (.byte, cap))) (h0 : I q 1 = 0) (hn : I q 3 = nI n) (hnc : n ≤ cap) (hc : cap < 65536) (hf : sb_Fit (A v)) : ab_Cl mJ4_setLength_d00df 5 0 0 [.ref q, .int (nI 0)] sh I A (fun o => ∃ I2, o = (.inl none, sh, I2, A) ∧ I2 q 3 = nI 0 ∧ I2 q 1 = I q 1 ∧ ∀ c, c ≠ q → I2 c = I c) := by
  refine ab_enter (ls := [some (.ref q), some (.int (nI 0))]) (by decide +kernel) (Nat.le_of_ble_eq_true rfl) rfl (fun C => ?_)
  refine g_aload_n (n := 1) dJ4_setLength_d00df_0 rfl rfl rfl ?_
  refine g_iload_n (n := 2) dJ4_setLength_d00df_1 rfl rfl rfl ?_
  refine g_callSU (n := 5) (as := [.int (nI 0)]) (bc' := 0) (bs' := 0) hq vc_1 (ctJ5_setLength hq hv h0 hn hnc hc hf) okJ5_setLength_d00df (ab_in 2664 (by decide +kernel) rfl) (by decide) (ab_in 1047 (by decide +kernel) rfl) (ab_in 1048 (by decide +kernel) rfl) (ab_in 533 (by decide +kernel) rfl) dJ4_setLength_d00df_2 rfl rfl (Nat.le_of_ble_eq_true rfl) (Nat.le_of_ble_eq_true rfl) (Nat.le_of_ble_eq_true rfl) (Nat.le_of_ble_eq_true rfl) rfl (fun E sh1 I1 A1 hp _ => by obtain ⟨_, z, _⟩ := hp; cases z) (fun ro sh1 I1 A1 hp _ => ?_)
  obtain ⟨I2, z, hp⟩ := hp
  cases z
  exact g_vret rfl dJ4_setLength_d00df_5 (⟨_, rfl, hp⟩)
theorem ctJ5_charAt {j : Nat} {K : Int32 → ab_F → ab_F → Prop} (hq : sh[q]? = some (sb_ob v)) (hv : sh[v]? = some (.inl (.byte, cap))) (h0 : I q 1 = 0) (hn : I q 3 = nI n) (hnc : n ≤ cap) (hc : cap < 65536) (hj : j < n) (h : K (A v j &&& nI 255) I A) : ab_Cl mJ5_charAt_5068e 2 0 0 [.ref q, .int (nI j)] sh I A (ab_Px sh ab_no (ab_ri K)) := by
  refine ab_enter (ls := [some (.ref q), some (.int (nI j)), none, none, none]) (by decide +kernel) (Nat.le_of_ble_eq_true rfl) rfl (fun C => ?_)
  refine g_aload_n (n := 1) dJ5_charAt_5068e_0 rfl rfl rfl ?_
  refine g_getIE (n := 4) (k := 1) (x := (0 : Int32)) dJ5_charAt_5068e_1 hq vc_1 (Nat.le_of_ble_eq_true rfl) rfl (ab_in 521 (by decide +kernel) rfl) (h0) rfl ?_
  refine g_istore_n (n := 5) (ls' := [some (.ref q), some (.int (nI j)), some (.int (0 : Int32)), none, none]) dJ5_charAt_5068e_4 rfl rfl (Nat.le_of_ble_eq_true rfl) (Nat.le_of_ble_eq_true rfl) rfl rfl ?_
  refine g_aload_n (n := 6) dJ5_charAt_5068e_5 rfl rfl rfl ?_
  refine g_getR (n := 9) (k := 0) dJ5_charAt_5068e_6 hq vc_1 (Nat.le_of_ble_eq_true rfl) rfl (ab_in 520 (by decide +kernel) rfl) rfl ?_
  refine g_astore_n (n := 10) (ls' := [some (.ref q), some (.int (nI j)), some (.int (0 : Int32)), some (.ref v), none]) dJ5_charAt_5068e_9 rfl rfl (Nat.le_of_ble_eq_true rfl) (Nat.le_of_ble_eq_true rfl) rfl rfl ?_
  refine g_aload_n (n := 11) dJ5_charAt_5068e_10 rfl rfl rfl ?_
  refine g_getIE (n := 14) (k := 3) (x := (nI n)) dJ5_charAt_5068e_11 hq vc_1 (Nat.le_of_ble_eq_true rfl) rfl (ab_in 524 (by decide +kernel) rfl) (hn) rfl ?_
  refine g_aload_n (n := 15) dJ5_charAt_5068e_14 rfl rfl rfl ?_
  refine g_alen (n := 16) (t0 := 1) (v := nI cap) dJ5_charAt_5068e_15 hv (fun _ => rfl) rfl rfl ?_
  refine g_iload_n (n := 17) dJ5_charAt_5068e_16 rfl rfl rfl ?_
  refine g_ishr (n := 18) dJ5_charAt_5068e_17 rfl ?_
  rw [show ((nI cap) >>> ((0 : Int32) &&& 31)) = (nI cap) from sb_shr0 _]
  refine g_mmin (n := 21) dJ5_charAt_5068e_18 (ab_in 1969 (by decide +kernel) rfl) (ab_in 741 (by decide +kernel) rfl) (ab_in 125 (by decide +kernel) rfl) (ab_in 742 (by decide +kernel) rfl) (Nat.le_of_ble_eq_true rfl) (Nat.le_of_ble_eq_true rfl) rfl ?_
  rw [show (if (nI cap) < (nI n) then (nI cap) else (nI n)) = (nI n) from if_neg (nI_nlt (by omega) (by omega))]
  refine g_istore (n := 23) (ls' := [some (.ref q), some (.int (nI j)), some (.int (0 : Int32)), some (.ref v), some (.int (nI n))]) dJ5_charAt_5068e_21 rfl (Nat.le_of_ble_eq_true rfl) (Nat.le_of_ble_eq_true rfl) rfl rfl ?_
  refine g_iload_n (n := 24) dJ5_charAt_5068e_23 rfl rfl rfl ?_
  refine g_iload (n := 26) dJ5_charAt_5068e_24 rfl rfl ?_
  refine g_callS (n := 29) (as := [.int (nI j), .int (nI n)]) (bc' := 0) (bs' := 0) (ctJ0_checkIndex (K := fun I1 A1 => I = I1 ∧ A = A1) hj (by omega) ⟨rfl, rfl⟩) okJ0_checkIndex_df160 (ab_in 1970 (by decide +kernel) rfl) (ab_in 606 (by decide +kernel) rfl) dJ5_charAt_5068e_26 rfl rfl (Nat.le_of_ble_eq_true rfl) (Nat.le_of_ble_eq_true rfl) (Nat.le_of_ble_eq_true rfl) (Nat.le_of_ble_eq_true rfl) rfl (fun E sh1 I1 A1 hp _ => hp.2.elim) (fun ro sh1 I1 A1 hp _ => ?_)
  obtain ⟨rfl, rfl, rfl, rfl⟩ := hp
  refine g_iload_n (n := 30) dJ5_charAt_5068e_29 rfl rfl rfl ?_
  refine g_if_ne 42 dJ5_charAt_5068e_30 (by decide) (n := 33) rfl (fun hc => absurd hc (fun hc => hc rfl)) (fun _ => ?_)
  refine g_aload_n (n := 34) dJ5_charAt_5068e_33 rfl rfl rfl ?_
  refine g_iload_n (n := 35) dJ5_charAt_5068e_34 rfl rfl rfl ?_
  refine g_baldJ (n := 36) (j := j) (x := A v j) dJ5_charAt_5068e_35 hv rfl (by omega) (by omega) rfl rfl ?_
  refine g_sipush (n := 39) (v := (nI 255)) dJ5_charAt_5068e_36 rfl rfl ?_
  refine g_iand (n := 40) dJ5_charAt_5068e_39 rfl ?_
  refine g_i2c (n := 41) dJ5_charAt_5068e_40 rfl ?_
  rw [(a255c (A v j)).1]
  exact g_iret rfl (a255c (A v j)).2 dJ5_charAt_5068e_41 ⟨rfl, _, rfl, h⟩
theorem hJ4_charAt {j : Nat} {K : Int32 → ab_F → ab_F → Prop} (hq : sh[q]? = some (sb_ob v)) (hv : sh[v]? = some (.inl (.byte, cap))) (h0 : I q 1 = 0) (hn : I q 3 = nI n) (hnc : n ≤ cap) (hc : cap < 65536) (hj : j < n) (h : K (A v j &&& nI 255) I A) : ab_Cl mJ4_charAt_5068e 7 0 0 [.ref q, .int (nI j)] sh I A (ab_Px sh ab_no (ab_ri K)) := by
  refine ab_enter (ls := [some (.ref q), some (.int (nI j))]) (by decide +kernel) (Nat.le_of_ble_eq_true rfl) rfl (fun C => ?_)
  refine g_aload_n (n := 1) dJ4_charAt_5068e_0 rfl rfl rfl ?_
  refine g_iload_n (n := 2) dJ4_charAt_5068e_1 rfl rfl rfl ?_
  refine g_callSU (n := 5) (as := [.int (nI j)]) (bc' := 0) (bs' := 0) hq vc_1 (ctJ5_charAt (K := (fun r I1 A1 => r = A v j &&& nI 255 ∧ I = I1 ∧ A = A1)) hq hv h0 hn hnc hc hj ⟨rfl, rfl, rfl⟩) okJ5_charAt_5068e (ab_in 2676 (by decide +kernel) rfl) (by decide) (ab_in 1966 (by decide +kernel) rfl) (ab_in 1967 (by decide +kernel) rfl) (ab_in 533 (by decide +kernel) rfl) dJ4_charAt_5068e_2 rfl rfl (Nat.le_of_ble_eq_true rfl) (Nat.le_of_ble_eq_true rfl) (Nat.le_of_ble_eq_true rfl) (Nat.le_of_ble_eq_true rfl) rfl (fun E sh1 I1 A1 hp _ => hp.2.elim) (fun ro sh1 I1 A1 hp _ => ?_)
  obtain ⟨rfl, r, rfl, rfl, rfl, rfl⟩ := hp
  exact g_iret rfl (a255c (A v j)).2 dJ4_charAt_5068e_5 ⟨rfl, _, rfl, h⟩
theorem hJ4_length0 {K : Int32 → ab_F → ab_F → Prop} (hq : sh[q]? = some (sb_ob v)) (h : K (I q 3) I A) : ab_Cl mJ4_length_8abf5 3 0 0 [.ref q] sh I A (ab_Px sh ab_no (ab_ri K)) := by
  refine ab_enter (ls := [some (.ref q)]) (by decide +kernel) (Nat.le_of_ble_eq_true rfl) rfl (fun C => ?_)
  refine g_aload_n (n := 1) dJ4_length_8abf5_0 rfl rfl rfl ?_
  refine g_callSU (n := 4) (as := []) (bc' := 0) (bs' := 0) hq vc_1 (ctJ5_length (K := (fun r I1 A1 => r = I q 3 ∧ I = I1 ∧ A = A1)) hq ⟨rfl, rfl, rfl⟩) okJ5_length_8abf5 (ab_in 1198 (by decide +kernel) rfl) (by decide) (ab_in 1202 (by decide +kernel) rfl) (ab_in 1197 (by decide +kernel) rfl) (ab_in 533 (by decide +kernel) rfl) dJ4_length_8abf5_1 rfl rfl (Nat.le_of_ble_eq_true rfl) (Nat.le_of_ble_eq_true rfl) (Nat.le_of_ble_eq_true rfl) (Nat.le_of_ble_eq_true rfl) rfl (fun E sh1 I1 A1 hp _ => hp.2.elim) (fun ro sh1 I1 A1 hp _ => ?_)
  obtain ⟨rfl, r, rfl, rfl, rfl, rfl⟩ := hp
  exact g_iret rfl rfl dJ4_length_8abf5_4 ⟨rfl, _, rfl, h⟩
end
