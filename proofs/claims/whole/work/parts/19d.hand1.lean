/-! History.giveBack, and History.keep where a system stands already -/
theorem sys_8 (Z : ab_Z) : ab_sys (shC Z) 8 := by
  intro k hk
  have : k = 0 ∨ k = 1 ∨ k = 2 ∨ k = 3 ∨ k = 4 ∨ k = 5 ∨ k = 6 ∨ k = 7 ∨ k = 8 ∨ k = 9 ∨ k = 10 ∨ k = 11 ∨ k = 12 ∨ k = 13 ∨ k = 14 ∨ k = 15 ∨ k = 16 ∨ k = 17 ∨ k = 18 ∨ k = 19 ∨ k = 20 ∨ k = 21 ∨ k = 22 ∨ k = 23 := by omega
  rcases this with e | e | e | e | e | e | e | e | e | e | e | e | e | e | e | e | e | e | e | e | e | e | e | e <;> subst e <;> rfl
theorem g_aaldJ {M : ab_M} {d : Nat} {C : ab_X} {P : ab_O → Prop} {pc n : Nat} {ls : List (Option Value)} {st : List Value} {sh : List ab_S} {I A : ab_F} {bc bs : Nat} {q N k j : Nat} {i : Int32} {f : Nat → Option Nat} (dg : decode M.2.1 pc = .ok (.aaload, 1)) (hq : sh[q]? = some (.inr (.inl (.object RX8, N, f)))) (hj : i = nI j) (hl : j < N) (hN : N < 2 ^ 31) (hk : f j = some k) (hn : pc + 1 = n) (kk : ab_G M d C P n ls (.ref k :: st) sh I A bc bs) : ab_G M d C P pc ls (.int i :: .ref q :: st) sh I A bc bs := by
  obtain ⟨h1, h2⟩ := ab_ix hj hl hN
  exact g_aald dg hq h1 (by rw [h2]; exact hk) hn kk
theorem hX3_giveBack {Z : ab_Z} {K : ab_Z → ab_F → ab_F → Prop} {I A : ab_F} (h : wX3_giveBack K Z I A) : ab_Cl mX3_giveBack 4 0 0 [.ref 32, .ref 8] (shC Z) I A (ab_Pz ab_noz (ab_zv K)) := by
  obtain ⟨j, b, e1, hj, zb, sb, hb, h⟩ := h
  refine ab_enter (ls := [some (.ref 32), some (.ref 8)]) (by decide +kernel) (Nat.le_of_ble_eq_true rfl) rfl (fun C => ?_)
  refine g_aload_n (n := 1) dX3_giveBack_0 rfl rfl rfl ?_
  refine g_getR (n := 4) (k := 0) dX3_giveBack_1 sC_32 vc_7 (Nat.le_of_ble_eq_true rfl) rfl (ab_in 463 (by decide +kernel) rfl) rfl ?_
  refine g_aload_n (n := 5) dX3_giveBack_4 rfl rfl rfl ?_
  refine g_getIE (n := 8) (k := 1) (x := I 32 1) dX3_giveBack_5 sC_32 vc_7 (Nat.le_of_ble_eq_true rfl) rfl (ab_in 464 (by decide +kernel) rfl) rfl rfl ?_
  refine g_aaldJ (n := 9) (j := j) dX3_giveBack_8 sC_33 e1 hj (by omega) zb rfl ?_
  refine g_ifnull (n := 12) dX3_giveBack_9 rfl ?_
  refine g_aload_n (n := 13) dX3_giveBack_12 rfl rfl rfl ?_
  refine g_aload_n (n := 14) dX3_giveBack_13 rfl rfl rfl ?_
  refine g_getR (n := 17) (k := 0) dX3_giveBack_14 sC_32 vc_7 (Nat.le_of_ble_eq_true rfl) rfl (ab_in 463 (by decide +kernel) rfl) rfl ?_
  refine g_aload_n (n := 18) dX3_giveBack_17 rfl rfl rfl ?_
  refine g_getIE (n := 21) (k := 1) (x := I 32 1) dX3_giveBack_18 sC_32 vc_7 (Nat.le_of_ble_eq_true rfl) rfl (ab_in 464 (by decide +kernel) rfl) rfl rfl ?_
  refine g_aaldJ (n := 22) (j := j) dX3_giveBack_21 sC_33 e1 hj (by omega) zb rfl ?_
  refine g_callV (n := 25) (as := [.ref b]) (bc' := 0) (bs' := 0) sC_8 vc_12 (ctX8_copyFrom (K := fun I1 A1 => ab_cp I A I1 A1 8 b) (sys_8 Z) sb (by omega) (fun _ _ q => q)) okX8_copyFrom rfl (ab_in 705 (by decide +kernel) rfl) (ab_in 706 (by decide +kernel) rfl) (ab_in 707 (by decide +kernel) rfl) (ab_in 100 (by decide +kernel) rfl) dX3_giveBack_22 rfl rfl (Nat.le_of_ble_eq_true rfl) (Nat.le_of_ble_eq_true rfl) (Nat.le_of_ble_eq_true rfl) (Nat.le_of_ble_eq_true rfl) rfl (fun E sh1 I1 A1 hp _ => hp.2.elim) (fun ro sh_ I1 A1 hp hle => ?_)
  obtain ⟨rfl, rfl, hc⟩ := hp
  exact g_vret rfl dX3_giveBack_25 ⟨Z, rfl, rfl, h _ _ hc⟩
/-- the second half of keep: the system that stands at b becomes a copy -/
theorem hX3_keep28 {Z : ab_Z} {Kz : ab_Z → ab_F → ab_F → Prop} {I A : ab_F} {C : ab_X} {bc bs j b : Nat} (e1 : I 32 1 = nI j) (hj : j < 11) (zb : Z.1 j = some b) (sb : ab_sys (shC Z) b) (hb : 42 ≤ b) (h : ∀ I' A', ab_cp I A I' A' b 8 → Kz Z I' A') : ab_G mX3_keep 6 C (ab_Pz ab_noz (ab_zv Kz)) 28 [some (.ref 32), some (.ref 8)] [] (shC Z) I A bc bs := by
  refine g_aload_n (n := 29) dX3_keep_28 rfl rfl rfl ?_
  refine g_getR (n := 32) (k := 0) dX3_keep_29 sC_32 vc_7 (Nat.le_of_ble_eq_true rfl) rfl (ab_in 463 (by decide +kernel) rfl) rfl ?_
  refine g_aload_n (n := 33) dX3_keep_32 rfl rfl rfl ?_
  refine g_getIE (n := 36) (k := 1) (x := I 32 1) dX3_keep_33 sC_32 vc_7 (Nat.le_of_ble_eq_true rfl) rfl (ab_in 464 (by decide +kernel) rfl) rfl rfl ?_
  refine g_aaldJ (n := 37) (j := j) dX3_keep_36 sC_33 e1 hj (by omega) zb rfl ?_
  refine g_aload_n (n := 38) dX3_keep_37 rfl rfl rfl ?_
  have hs : (shC Z)[b]? = some (.inr (.inr (12, [some (.ref (b + 1)), some (.ref (b + 8)), some (.ref (b + 12)), some (.ref (b + 16)), some (.ref (b + 21)), none, some (.ref (b + 23))]))) := sb 0 (by omega)
  refine g_callV (n := 41) (as := [.ref 8]) (bc' := bc) (bs' := bs) hs vc_12 (ctX8_copyFrom (K := fun I1 A1 => ab_cp I A I1 A1 b 8) sb (sys_8 Z) (by omega) (fun _ _ q => q)) okX8_copyFrom rfl (ab_in 705 (by decide +kernel) rfl) (ab_in 706 (by decide +kernel) rfl) (ab_in 707 (by decide +kernel) rfl) (ab_in 100 (by decide +kernel) rfl) dX3_keep_38 rfl rfl (Nat.le_of_ble_eq_true rfl) (Nat.le_refl _) (Nat.le_refl _) (Nat.le_of_ble_eq_true rfl) rfl (fun E sh1 I1 A1 hp _ => hp.2.elim) (fun ro sh_ I1 A1 hp hle => ?_)
  obtain ⟨rfl, rfl, hc⟩ := hp
  exact g_vret rfl dX3_keep_41 ⟨Z, rfl, rfl, h _ _ hc⟩
