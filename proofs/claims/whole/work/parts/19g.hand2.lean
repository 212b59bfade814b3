/-! History.keep -/
theorem shC_app (Z : ab_Z) (S : List ab_S) (f : Nat → Option Nat) : (shC Z ++ S).set 33 (.inr (.inl (.object RX8, 11, f))) = shC (f, Z.2.1, Z.2.2 ++ S) := rfl
theorem shC_33 (Z : ab_Z) (S : List ab_S) : (shC Z ++ S)[33]? = some (.inr (.inl (.object RX8, 11, Z.1))) := rfl
theorem shC_len (Z : ab_Z) : (shC Z).length = 42 + Z.2.2.length := sh_len
theorem shC_sys (Z : ab_Z) (f : Nat → Option Nat) : ab_sys (shC (f, Z.2.1, Z.2.2 ++ ab_sysS (shC Z).length)) (shC Z).length := by
  intro k hk
  rw [← shC_app Z, List.getElem?_set, if_neg (by have := shC_len Z; omega), List.getElem?_append_right (by omega)]
  congr 1
  omega
theorem hX3_keep {Z : ab_Z} {K : ab_Z → ab_F → ab_F → Prop} {I A : ab_F} (h : wX3_keep K Z I A) : ab_Cl mX3_keep 6 24 900 [.ref 32, .ref 8] (shC Z) I A (ab_Pz ab_noz (ab_zv K)) := by
  obtain ⟨j, e1, hj, hs, hn⟩ := h
  have hl := shC_len Z
  refine ab_enter (ls := [some (.ref 32), some (.ref 8)]) (by decide +kernel) (Nat.le_of_ble_eq_true rfl) rfl (fun C => ?_)
  refine g_aload_n (n := 1) dX3_keep_0 rfl rfl rfl ?_
  refine g_getR (n := 4) (k := 0) dX3_keep_1 sC_32 vc_7 (Nat.le_of_ble_eq_true rfl) rfl (ab_in 463 (by decide +kernel) rfl) rfl ?_
  refine g_aload_n (n := 5) dX3_keep_4 rfl rfl rfl ?_
  refine g_getIE (n := 8) (k := 1) (x := I 32 1) dX3_keep_5 sC_32 vc_7 (Nat.le_of_ble_eq_true rfl) rfl (ab_in 464 (by decide +kernel) rfl) rfl rfl ?_
  cases zb : Z.1 j with
  | some b =>
    obtain ⟨s1, s2, s3⟩ := hs b zb
    refine g_aaldJ (n := 9) (j := j) dX3_keep_8 sC_33 e1 hj (by omega) zb rfl ?_
    refine g_ifnonnull 28 dX3_keep_9 (by decide) ?_
    exact hX3_keep28 e1 hj zb s1 s2 s3
  | none =>
    obtain ⟨x1, x2⟩ := ab_ix e1 hj (by omega)
    refine g_aaldN (n := 9) dX3_keep_8 sC_33 x1 (by rw [x2]; exact zb) rfl ?_
    refine g_ifnonnullN (n := 12) dX3_keep_9 rfl ?_
    refine g_aload_n (n := 13) dX3_keep_12 rfl rfl rfl ?_
    refine g_getR (n := 16) (k := 0) dX3_keep_13 sC_32 vc_7 (Nat.le_of_ble_eq_true rfl) rfl (ab_in 463 (by decide +kernel) rfl) rfl ?_
    refine g_aload_n (n := 17) dX3_keep_16 rfl rfl rfl ?_
    refine g_getIE (n := 20) (k := 1) (x := I 32 1) dX3_keep_17 sC_32 vc_7 (Nat.le_of_ble_eq_true rfl) rfl (ab_in 464 (by decide +kernel) rfl) rfl rfl ?_
    refine g_new (n := 23) (bc' := 23) (bs' := 893) (fs := [some .null, some .null, some .null, some .null, some .null, none, some .null]) dX3_keep_20 vc_12 (by simp) (fun j hj => by
      have : j = 0 ∨ j = 1 ∨ j = 2 ∨ j = 3 ∨ j = 4 ∨ j = 5 ∨ j = 6 := by omega
      rcases this with e | e | e | e | e | e | e <;> subst e <;> rfl) (ab_in 461 (by decide +kernel) rfl) (ab_in 226 (by decide +kernel) rfl) (ab_in 100 (by decide +kernel) rfl) (by omega) (by omega) rfl rfl ?_
    refine g_dup (n := 24) dX3_keep_23 rfl rfl ?_
    refine g_callIN (host := "CheckpointSwap") (n := 27) (as := []) (bc' := 0) (bs' := 264) (ctX8_init (sh := shC Z)) okX8_init rfl rfl (by decide +kernel) (ab_in 228 (by decide +kernel) rfl) dX3_keep_24 rfl rfl (Nat.le_of_ble_eq_true rfl) (by omega) (by omega) (Nat.le_of_ble_eq_true rfl) rfl (fun E sh1 I1 A1 hp _ => by have q : (Sum.inr E : Option Value ⊕ String) = .inl none := hp.1; cases q) (fun ro sh1 I1 A1 hp hle => ?_)
    obtain ⟨e0, e2, i1, a1⟩ := hp
    cases e0
    have e3 : sh1 = shC Z ++ ab_sysS (shC Z).length := e2
    subst e3
    have iq : ∀ c, (c < (shC Z).length ∨ (shC Z).length + 24 ≤ c) → I1 c = I c := fun c hc => (i1 c (by omega)).trans (wrow_ne (by omega))
    have aq : ∀ c, (c < (shC Z).length ∨ (shC Z).length + 24 ≤ c) → A1 c = A c := fun c hc => a1 c (by omega)
    refine g_aast (n := 28) (v := (shC Z).length) dX3_keep_27 (shC_33 Z _) (s_get (shC Z) _ _) x1 rfl (shC_app Z _ _) ?_
    rw [x2]
    refine hX3_keep28 (j := j) (b := (shC Z).length) (by rw [iq 32 (by omega)]; exact e1) hj (va_up_self _ _ _) (shC_sys Z _) (by omega) (fun I' A' cp => ?_)
    exact hn zb I' A' ⟨fun c hc => ⟨(cp.1 c hc).1.trans (iq c hc), (cp.1 c hc).2.trans (aq c hc)⟩, fun q hq => by rw [cp.2.1 q hq, iq (8 + q.1) (by have := (by decide : ∀ q ∈ ab_sysI, q.1 < 24) q hq; omega)], fun q hq i hi => by rw [cp.2.2 q hq i hi, aq (8 + q.1) (by have := (by decide : ∀ q ∈ ab_sysA, q.1 < 24) q hq; omega)]⟩
