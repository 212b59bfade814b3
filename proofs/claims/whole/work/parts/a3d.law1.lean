theorem wr_checkpointValue {l : Launch} (htr : l.stackTraces = false) {D : va_G} {cT : FieldType → ClassId} {cL : ClassId} {ac ad : Nat → Nat} {sz o : Nat} {v : Nat → Int64} {Z : ab_Z} {I A : ab_F} {x0 x1 : Int32} {K : Nat → Int32 → ab_Z → ab_F → ab_F → Prop} (hM : ab_Cl mX11_checkpointValue 8 2 12 [.ref 0, .int x0, .int x1] (shC Z) I A (ab_Pz (fun E Z I A => ∃ j, ["java/lang/IndexOutOfBoundsException", "java/util/NoSuchElementException"][j]? = some E ∧ K (j + 1) 0 Z I A) (ab_zi (fun r Z I A => K 0 r Z I A)))) (hoh : ab_okH (shC Z)) : vx_Met l yL_checkpointValue (Cond.codeWith yL_checkpointValue cL_checkpointValue 5 (some .int) [(0, 10, 13, 25), (0, 10, 17, 52)] :: ab_ws) (ab_rm 9 2 12) (lw_wP D cT cL ac ad sz o v [.int x0, .int x1] Z I A) (lw_wQ D cT cL ac ad o (va_A (wO o cL v :: ab_w cT ad ac I A 0 (shC Z)) sz) K) (fun _ _ _ => False) 2 12 (va_A (wO o cL v :: ab_w cT ad ac I A 0 (shC Z)) sz) := by
  refine vx_ofWH (cc := cL_checkpointValue) (maxL := 5) (ret := some .int) (hh := [(0, 10, 13, 25), (0, 10, 17, 52)]) (by decide +kernel) rfl ?_
  intro p e s m args below meth c s₁ B hml hv
  obtain ⟨rfl, hsz, hP, hPo, hK, hD0, hDj, hCK, hN⟩ := hv
  have hx := B.exec
  have hb := B.bytes
  have hr := B.returns
  have hts0 := atoms_spec (ws := Cond.codeWith yL_checkpointValue cL_checkpointValue 5 (some .int) [(0, 10, 13, 25), (0, 10, 17, 52)] :: ab_ws) B.pre
  have hts := fun w (hw : w ∈ ab_ws) => hts0 w (List.mem_cons_of_mem _ hw)
  have hown : s.vm.findClass "CheckpointSwapLaw" = some m.cls := findClass_of_methodNamed B.named
  have htab := vx_table (x := yL_checkpointValue) B (hts0 _ List.mem_cons_self)
  subst hsz
  generalize hAe : va_A (wO o cL v :: ab_w cT ad ac I A 0 (shC Z)) s.heap.size = Ar at hCK ⊢
  have hA : ∀ q, s.heap.size ≤ q → Ar q := fun q h => by rw [← hAe]; exact Or.inr h
  have hAo : Ar o := by rw [← hAe]; exact Or.inl ⟨0, _, rfl⟩
  have hD : va_D Ar (ab_w cT ad ac I A 0 (shC Z)) := ⟨hD0.1, fun k q hk => by rw [← hAe]; exact Or.inl ⟨k + 1, q.2, hk⟩⟩
  have hAC : ∀ q, va_A (ab_w cT ad ac I A 0 (shC Z)) s.heap.size q → Ar q := fun q h => by
    rw [← hAe]; rcases h with ⟨k, e9, hk⟩ | hk
    · exact Or.inl ⟨k + 1, e9, hk⟩
    · exact Or.inr hk
  have hS : va_S Ar s.heap s.heap [] := va_S.rf
  have hl := lv_entry ((Value.ref (ad 0) :: [.int x0, .int x1]) ++ [.ref o]) (n := 5) (Nat.le_of_ble_eq_true rfl)
  rw [lg_entry_eq]
  generalize (lg_sl (((Value.ref (ad 0) :: [.int x0, .int x1]) ++ [.ref o])) ++ List.replicate (5 - (lg_sl (((Value.ref (ad 0) :: [.int x0, .int x1]) ++ [.ref o]))).length) Slot.unset).toArray = ls at hl ⊢
  have hl : lv_has ls 5 [(0, .ref (ad 0)), (1, .int x0), (2, .int x1), (3, .ref o)] := hl
  refine lv_aload_n hx hb dL_checkpointValue_0 rfl (lv_at hl 3 rfl) ?_
  refine lv_iconst (v := 0) hx hb dL_checkpointValue_1 (by decide) ?_
  refine lv_aload_n hx hb dL_checkpointValue_2 rfl (lv_at hl 0 rfl) ?_
  refine lv_iload_n hx hb dL_checkpointValue_3 rfl (lv_at hl 1 rfl) ?_
  refine lv_iload_n hx hb dL_checkpointValue_4 rfl (lv_at hl 2 rfl) ?_
  refine lw_callV (D := D) (cT := cT) (ac := ac) (ad := ad) (as := [.int x0, .int x1]) (rest := [.int 0, .ref o]) ⟨hx, hb, hml, hown, hts⟩ htr (lw_sub hK) hCK hA sC_0 vc_15 hM okX11_checkpointValue rfl (ab_in 1758 (by decide +kernel) rfl) (ab_in 1759 (by decide +kernel) rfl) (ab_in 1760 (by decide +kernel) rfl) (ab_in 96 (by decide +kernel) rfl) dL_checkpointValue_5 rfl rfl hl.1 (Nat.le_of_ble_eq_true rfl) (Nat.le_of_ble_eq_true rfl) (Nat.le_of_ble_eq_true rfl) (Nat.le_of_ble_eq_true rfl) (Nat.le_of_ble_eq_true rfl) hoh (fun v hv => ?_) hP hD hS (fun E ce q9 sh1 I1 A1 ad1 H1 locs1 hp had hokh g9 g10 g12 g11 c1 c2 c3 => ?_) (fun r sh1 I1 A1 ad1 H1 locs1 hp had hokh g9 g10 g12 g11 => ?_)
  · simp only [List.mem_cons, List.not_mem_nil, or_false] at hv
    rcases hv with h | h | h <;> subst h <;> first | exact trivial | (show 0 < (shC Z).length; rw [sh_len]; omega)
  · obtain ⟨Z1, rfl, j, hj, hk⟩ := hp
    have hPo1 := fr_keep hPo hDj g12.2
    have hDj1 := fr_dj hPo hDj g10
    match j, hj, hk with
    | 0, hj, hk =>
      cases hj
      refine vx_catch (name := "java/lang/IndexOutOfBoundsException") hown [] ⟨0, 10, 13, 25⟩ [⟨0, 10, 17, 52⟩] (by rw [htab]; rfl) (fun z hz => absurd hz List.not_mem_nil) (by decide) (by decide) (hts _ (ab_in 1494 (by decide +kernel) rfl)) (va_any rfl (hCK.2.2.2.2.1 _ (ab_ngm 18 rfl))) c1 c2 c3 ?_
      refine lv_astore (lv' := [(4, .ref q9), (0, .ref (ad 0)), (1, .int x0), (2, .int x1), (3, .ref o)]) hx hb dL_checkpointValue_13 hl (by decide) rfl (fun ls2 hl2 => ?_)
      refine lv_iconst (v := nI 1) hx hb dL_checkpointValue_15 (by decide) ?_
      refine vx_ret (W.widen (k := 2) (n := 12) (Nat.le_of_ble_eq_true rfl) (Nat.le_of_ble_eq_true rfl) ?_)
      exact W.iret hx hb hr (fun t ht hW => ⟨⟨1, 0, Z1, I1, A1, ad1, v, rfl, hk, (fun z => absurd z (by decide)), had, hokh, by rw [ht]; exact g9, by rw [ht]; exact hPo1, fr_D hAC g10, hDj1⟩, g11.F ht⟩) g11.2.2 dL_checkpointValue_16
    | 1, hj, hk =>
      cases hj
      refine vx_catch (name := "java/util/NoSuchElementException") hown [⟨0, 10, 13, 25⟩] ⟨0, 10, 17, 52⟩ [] (by rw [htab]; rfl) (fun z hz => by
      simp only [List.mem_cons, List.not_mem_nil, or_false] at hz
      have h9 := hz
      · subst h9; exact Or.inr ⟨by decide, "java/lang/IndexOutOfBoundsException", hts _ (ab_in 1494 (by decide +kernel) rfl), hN ("java/util/NoSuchElementException", "java/lang/IndexOutOfBoundsException") (by decide)⟩) (by decide) (by decide) (hts _ (ab_in 1559 (by decide +kernel) rfl)) (va_any rfl (hCK.2.2.2.2.1 _ (ab_ngm 19 rfl))) c1 c2 c3 ?_
      refine lv_astore (lv' := [(4, .ref q9), (0, .ref (ad 0)), (1, .int x0), (2, .int x1), (3, .ref o)]) hx hb dL_checkpointValue_17 hl (by decide) rfl (fun ls2 hl2 => ?_)
      refine lv_iconst (v := nI 2) hx hb dL_checkpointValue_19 (by decide) ?_
      refine vx_ret (W.widen (k := 2) (n := 12) (Nat.le_of_ble_eq_true rfl) (Nat.le_of_ble_eq_true rfl) ?_)
      exact W.iret hx hb hr (fun t ht hW => ⟨⟨2, 0, Z1, I1, A1, ad1, v, rfl, hk, (fun z => absurd z (by decide)), had, hokh, by rw [ht]; exact g9, by rw [ht]; exact hPo1, fr_D hAC g10, hDj1⟩, g11.F ht⟩) g11.2.2 dL_checkpointValue_20
    | j + 2, hj, hk => exact nomatch hj
  · obtain ⟨Z1, rfl, x, rfl, hk⟩ := hp
    have hPo1 := fr_keep hPo hDj g12.2
    have hDj1 := fr_dj hPo hDj g10
    have hD1 := fr_D hAC g10
    refine lv_i2l (v := x.toInt64) hx hb dL_checkpointValue_8 rfl ?_
    refine va_last (ws := wO o cL v :: ab_w cT ad1 ac I1 A1 0 (shC Z1)) hx hb hK (wo_cons hPo1 g9) (wo_D hAo hD1 hDj1) g11 0 3 rfl rfl (by unfold vp_in; decide) dL_checkpointValue_9 (fun H2 locs2 k1 k2 k3 => ?_)
    refine lv_goto (tgt := 21) hx hb dL_checkpointValue_10 (by decide) ?_
    refine lv_iconst (v := nI 0) hx hb dL_checkpointValue_21 (by decide) ?_
    refine vx_ret (W.widen (k := 2) (n := 12) (Nat.le_of_ble_eq_true rfl) (Nat.le_of_ble_eq_true rfl) ?_)
    exact W.iret hx hb hr (fun t ht hW => ⟨⟨0, x, Z1, I1, A1, ad1, _, rfl, hk, (fun _ => wo_1), had, hokh, by rw [ht]; exact wo_tl k1, by rw [ht]; exact wo_hd k1, hD1, wo_dj hDj1⟩, k3.F ht⟩) k3.2.2 dL_checkpointValue_22
theorem wr_wouldWrite {l : Launch} (htr : l.stackTraces = false) {D : va_G} {cT : FieldType → ClassId} {cL : ClassId} {ac ad : Nat → Nat} {sz o : Nat} {v : Nat → Int64} {Z : ab_Z} {I A : ab_F} {x0 : Int32} {K : Nat → Int32 → ab_Z → ab_F → ab_F → Prop} (hM : ab_Cl mX11_wouldWrite 8 1 6 [.ref 0, .int x0] (shC Z) I A (ab_Pz (fun E Z I A => ∃ j, ["java/lang/IllegalArgumentException"][j]? = some E ∧ K (j + 1) 0 Z I A) (ab_zi (fun r Z I A => K 0 r Z I A)))) (hoh : ab_okH (shC Z)) : vx_Met l yL_wouldWrite (Cond.codeWith yL_wouldWrite cL_wouldWrite 4 (some .int) [(0, 9, 12, 19)] :: ab_ws) (ab_rm 9 1 6) (lw_wP D cT cL ac ad sz o v [.int x0] Z I A) (lw_wQ D cT cL ac ad o (va_A (wO o cL v :: ab_w cT ad ac I A 0 (shC Z)) sz) K) (fun _ _ _ => False) 1 6 (va_A (wO o cL v :: ab_w cT ad ac I A 0 (shC Z)) sz) := by
  refine vx_ofWH (cc := cL_wouldWrite) (maxL := 4) (ret := some .int) (hh := [(0, 9, 12, 19)]) (by decide +kernel) rfl ?_
  intro p e s m args below meth c s₁ B hml hv
  obtain ⟨rfl, hsz, hP, hPo, hK, hD0, hDj, hCK, hN⟩ := hv
  have hx := B.exec
  have hb := B.bytes
  have hr := B.returns
  have hts0 := atoms_spec (ws := Cond.codeWith yL_wouldWrite cL_wouldWrite 4 (some .int) [(0, 9, 12, 19)] :: ab_ws) B.pre
  have hts := fun w (hw : w ∈ ab_ws) => hts0 w (List.mem_cons_of_mem _ hw)
  have hown : s.vm.findClass "CheckpointSwapLaw" = some m.cls := findClass_of_methodNamed B.named
  have htab := vx_table (x := yL_wouldWrite) B (hts0 _ List.mem_cons_self)
  subst hsz
  generalize hAe : va_A (wO o cL v :: ab_w cT ad ac I A 0 (shC Z)) s.heap.size = Ar at hCK ⊢
  have hA : ∀ q, s.heap.size ≤ q → Ar q := fun q h => by rw [← hAe]; exact Or.inr h
  have hAo : Ar o := by rw [← hAe]; exact Or.inl ⟨0, _, rfl⟩
  have hD : va_D Ar (ab_w cT ad ac I A 0 (shC Z)) := ⟨hD0.1, fun k q hk => by rw [← hAe]; exact Or.inl ⟨k + 1, q.2, hk⟩⟩
  have hAC : ∀ q, va_A (ab_w cT ad ac I A 0 (shC Z)) s.heap.size q → Ar q := fun q h => by
    rw [← hAe]; rcases h with ⟨k, e9, hk⟩ | hk
    · exact Or.inl ⟨k + 1, e9, hk⟩
    · exact Or.inr hk
  have hS : va_S Ar s.heap s.heap [] := va_S.rf
  have hl := lv_entry ((Value.ref (ad 0) :: [.int x0]) ++ [.ref o]) (n := 4) (Nat.le_of_ble_eq_true rfl)
  rw [lg_entry_eq]
  generalize (lg_sl (((Value.ref (ad 0) :: [.int x0]) ++ [.ref o])) ++ List.replicate (4 - (lg_sl (((Value.ref (ad 0) :: [.int x0]) ++ [.ref o]))).length) Slot.unset).toArray = ls at hl ⊢
  have hl : lv_has ls 4 [(0, .ref (ad 0)), (1, .int x0), (2, .ref o)] := hl
  refine lv_aload_n hx hb dL_wouldWrite_0 rfl (lv_at hl 2 rfl) ?_
  refine lv_iconst (v := 0) hx hb dL_wouldWrite_1 (by decide) ?_
  refine lv_aload_n hx hb dL_wouldWrite_2 rfl (lv_at hl 0 rfl) ?_
  refine lv_iload_n hx hb dL_wouldWrite_3 rfl (lv_at hl 1 rfl) ?_
  refine lw_callV (D := D) (cT := cT) (ac := ac) (ad := ad) (as := [.int x0]) (rest := [.int 0, .ref o]) ⟨hx, hb, hml, hown, hts⟩ htr (lw_sub hK) hCK hA sC_0 vc_15 hM okX11_wouldWrite rfl (ab_in 1766 (by decide +kernel) rfl) (ab_in 1767 (by decide +kernel) rfl) (ab_in 1768 (by decide +kernel) rfl) (ab_in 96 (by decide +kernel) rfl) dL_wouldWrite_4 rfl rfl hl.1 (Nat.le_of_ble_eq_true rfl) (Nat.le_of_ble_eq_true rfl) (Nat.le_of_ble_eq_true rfl) (Nat.le_of_ble_eq_true rfl) (Nat.le_of_ble_eq_true rfl) hoh (fun v hv => ?_) hP hD hS (fun E ce q9 sh1 I1 A1 ad1 H1 locs1 hp had hokh g9 g10 g12 g11 c1 c2 c3 => ?_) (fun r sh1 I1 A1 ad1 H1 locs1 hp had hokh g9 g10 g12 g11 => ?_)
  · simp only [List.mem_cons, List.not_mem_nil, or_false] at hv
    rcases hv with h | h <;> subst h <;> first | exact trivial | (show 0 < (shC Z).length; rw [sh_len]; omega)
  · obtain ⟨Z1, rfl, j, hj, hk⟩ := hp
    have hPo1 := fr_keep hPo hDj g12.2
    have hDj1 := fr_dj hPo hDj g10
    match j, hj, hk with
    | 0, hj, hk =>
      cases hj
      refine vx_catch (name := "java/lang/IllegalArgumentException") hown [] ⟨0, 9, 12, 19⟩ [] (by rw [htab]; rfl) (fun z hz => absurd hz List.not_mem_nil) (by decide) (by decide) (hts _ (ab_in 1431 (by decide +kernel) rfl)) (va_any rfl (hCK.2.2.2.2.1 _ (ab_ngm 15 rfl))) c1 c2 c3 ?_
      refine lv_astore_n (lv' := [(3, .ref q9), (0, .ref (ad 0)), (1, .int x0), (2, .ref o)]) hx hb dL_wouldWrite_12 rfl hl (by decide) rfl (fun ls2 hl2 => ?_)
      refine lv_iconst (v := nI 1) hx hb dL_wouldWrite_13 (by decide) ?_
      refine vx_ret (W.widen (k := 1) (n := 6) (Nat.le_of_ble_eq_true rfl) (Nat.le_of_ble_eq_true rfl) ?_)
      exact W.iret hx hb hr (fun t ht hW => ⟨⟨1, 0, Z1, I1, A1, ad1, v, rfl, hk, (fun z => absurd z (by decide)), had, hokh, by rw [ht]; exact g9, by rw [ht]; exact hPo1, fr_D hAC g10, hDj1⟩, g11.F ht⟩) g11.2.2 dL_wouldWrite_14
    | j + 1, hj, hk => exact nomatch hj
  · obtain ⟨Z1, rfl, x, rfl, hk⟩ := hp
    have hPo1 := fr_keep hPo hDj g12.2
    have hDj1 := fr_dj hPo hDj g10
    have hD1 := fr_D hAC g10
    refine lv_i2l (v := x.toInt64) hx hb dL_wouldWrite_7 rfl ?_
    refine va_last (ws := wO o cL v :: ab_w cT ad1 ac I1 A1 0 (shC Z1)) hx hb hK (wo_cons hPo1 g9) (wo_D hAo hD1 hDj1) g11 0 3 rfl rfl (by unfold vp_in; decide) dL_wouldWrite_8 (fun H2 locs2 k1 k2 k3 => ?_)
    refine lv_goto (tgt := 15) hx hb dL_wouldWrite_9 (by decide) ?_
    refine lv_iconst (v := nI 0) hx hb dL_wouldWrite_15 (by decide) ?_
    refine vx_ret (W.widen (k := 1) (n := 6) (Nat.le_of_ble_eq_true rfl) (Nat.le_of_ble_eq_true rfl) ?_)
    exact W.iret hx hb hr (fun t ht hW => ⟨⟨0, x, Z1, I1, A1, ad1, _, rfl, hk, (fun _ => wo_1), had, hokh, by rw [ht]; exact wo_tl k1, by rw [ht]; exact wo_hd k1, hD1, wo_dj hDj1⟩, k3.F ht⟩) k3.2.2 dL_wouldWrite_16
theorem wr_wouldFree {l : Launch} (htr : l.stackTraces = false) {D : va_G} {cT : FieldType → ClassId} {cL : ClassId} {ac ad : Nat → Nat} {sz o : Nat} {v : Nat → Int64} {Z : ab_Z} {I A : ab_F} {x0 : Int32} {K : Nat → Int32 → ab_Z → ab_F → ab_F → Prop} (hM : ab_Cl mX11_wouldFree 7 1 6 [.ref 0, .int x0] (shC Z) I A (ab_Pz (fun E Z I A => ∃ j, ["java/lang/IllegalArgumentException", "java/lang/IllegalStateException"][j]? = some E ∧ K (j + 1) 0 Z I A) (ab_zi (fun r Z I A => K 0 r Z I A)))) (hoh : ab_okH (shC Z)) : vx_Met l yL_wouldFree (Cond.codeWith yL_wouldFree cL_wouldFree 4 (some .int) [(0, 9, 12, 19), (0, 9, 15, 13)] :: ab_ws) (ab_rm 8 1 6) (lw_wP D cT cL ac ad sz o v [.int x0] Z I A) (lw_wQ D cT cL ac ad o (va_A (wO o cL v :: ab_w cT ad ac I A 0 (shC Z)) sz) K) (fun _ _ _ => False) 1 6 (va_A (wO o cL v :: ab_w cT ad ac I A 0 (shC Z)) sz) := by
  refine vx_ofWH (cc := cL_wouldFree) (maxL := 4) (ret := some .int) (hh := [(0, 9, 12, 19), (0, 9, 15, 13)]) (by decide +kernel) rfl ?_
  intro p e s m args below meth c s₁ B hml hv
  obtain ⟨rfl, hsz, hP, hPo, hK, hD0, hDj, hCK, hN⟩ := hv
  have hx := B.exec
  have hb := B.bytes
  have hr := B.returns
  have hts0 := atoms_spec (ws := Cond.codeWith yL_wouldFree cL_wouldFree 4 (some .int) [(0, 9, 12, 19), (0, 9, 15, 13)] :: ab_ws) B.pre
  have hts := fun w (hw : w ∈ ab_ws) => hts0 w (List.mem_cons_of_mem _ hw)
  have hown : s.vm.findClass "CheckpointSwapLaw" = some m.cls := findClass_of_methodNamed B.named
  have htab := vx_table (x := yL_wouldFree) B (hts0 _ List.mem_cons_self)
  subst hsz
  generalize hAe : va_A (wO o cL v :: ab_w cT ad ac I A 0 (shC Z)) s.heap.size = Ar at hCK ⊢
  have hA : ∀ q, s.heap.size ≤ q → Ar q := fun q h => by rw [← hAe]; exact Or.inr h
  have hAo : Ar o := by rw [← hAe]; exact Or.inl ⟨0, _, rfl⟩
  have hD : va_D Ar (ab_w cT ad ac I A 0 (shC Z)) := ⟨hD0.1, fun k q hk => by rw [← hAe]; exact Or.inl ⟨k + 1, q.2, hk⟩⟩
  have hAC : ∀ q, va_A (ab_w cT ad ac I A 0 (shC Z)) s.heap.size q → Ar q := fun q h => by
    rw [← hAe]; rcases h with ⟨k, e9, hk⟩ | hk
    · exact Or.inl ⟨k + 1, e9, hk⟩
    · exact Or.inr hk
  have hS : va_S Ar s.heap s.heap [] := va_S.rf
  have hl := lv_entry ((Value.ref (ad 0) :: [.int x0]) ++ [.ref o]) (n := 4) (Nat.le_of_ble_eq_true rfl)
  rw [lg_entry_eq]
  generalize (lg_sl (((Value.ref (ad 0) :: [.int x0]) ++ [.ref o])) ++ List.replicate (4 - (lg_sl (((Value.ref (ad 0) :: [.int x0]) ++ [.ref o]))).length) Slot.unset).toArray = ls at hl ⊢
  have hl : lv_has ls 4 [(0, .ref (ad 0)), (1, .int x0), (2, .ref o)] := hl
  refine lv_aload_n hx hb dL_wouldFree_0 rfl (lv_at hl 2 rfl) ?_
  refine lv_iconst (v := 0) hx hb dL_wouldFree_1 (by decide) ?_
  refine lv_aload_n hx hb dL_wouldFree_2 rfl (lv_at hl 0 rfl) ?_
  refine lv_iload_n hx hb dL_wouldFree_3 rfl (lv_at hl 1 rfl) ?_
  refine lw_callV (D := D) (cT := cT) (ac := ac) (ad := ad) (as := [.int x0]) (rest := [.int 0, .ref o]) ⟨hx, hb, hml, hown, hts⟩ htr (lw_sub hK) hCK hA sC_0 vc_15 hM okX11_wouldFree rfl (ab_in 1779 (by decide +kernel) rfl) (ab_in 1780 (by decide +kernel) rfl) (ab_in 1781 (by decide +kernel) rfl) (ab_in 96 (by decide +kernel) rfl) dL_wouldFree_4 rfl rfl hl.1 (Nat.le_of_ble_eq_true rfl) (Nat.le_of_ble_eq_true rfl) (Nat.le_of_ble_eq_true rfl) (Nat.le_of_ble_eq_true rfl) (Nat.le_of_ble_eq_true rfl) hoh (fun v hv => ?_) hP hD hS (fun E ce q9 sh1 I1 A1 ad1 H1 locs1 hp had hokh g9 g10 g12 g11 c1 c2 c3 => ?_) (fun r sh1 I1 A1 ad1 H1 locs1 hp had hokh g9 g10 g12 g11 => ?_)
  · simp only [List.mem_cons, List.not_mem_nil, or_false] at hv
    rcases hv with h | h <;> subst h <;> first | exact trivial | (show 0 < (shC Z).length; rw [sh_len]; omega)
  · obtain ⟨Z1, rfl, j, hj, hk⟩ := hp
    have hPo1 := fr_keep hPo hDj g12.2
    have hDj1 := fr_dj hPo hDj g10
    match j, hj, hk with
    | 0, hj, hk =>
      cases hj
      refine vx_catch (name := "java/lang/IllegalArgumentException") hown [] ⟨0, 9, 12, 19⟩ [⟨0, 9, 15, 13⟩] (by rw [htab]; rfl) (fun z hz => absurd hz List.not_mem_nil) (by decide) (by decide) (hts _ (ab_in 1431 (by decide +kernel) rfl)) (va_any rfl (hCK.2.2.2.2.1 _ (ab_ngm 15 rfl))) c1 c2 c3 ?_
      refine lv_astore_n (lv' := [(3, .ref q9), (0, .ref (ad 0)), (1, .int x0), (2, .ref o)]) hx hb dL_wouldFree_12 rfl hl (by decide) rfl (fun ls2 hl2 => ?_)
      refine lv_iconst (v := nI 1) hx hb dL_wouldFree_13 (by decide) ?_
      refine vx_ret (W.widen (k := 1) (n := 6) (Nat.le_of_ble_eq_true rfl) (Nat.le_of_ble_eq_true rfl) ?_)
      exact W.iret hx hb hr (fun t ht hW => ⟨⟨1, 0, Z1, I1, A1, ad1, v, rfl, hk, (fun z => absurd z (by decide)), had, hokh, by rw [ht]; exact g9, by rw [ht]; exact hPo1, fr_D hAC g10, hDj1⟩, g11.F ht⟩) g11.2.2 dL_wouldFree_14
    | 1, hj, hk =>
      cases hj
      refine vx_catch (name := "java/lang/IllegalStateException") hown [⟨0, 9, 12, 19⟩] ⟨0, 9, 15, 13⟩ [] (by rw [htab]; rfl) (fun z hz => by
      simp only [List.mem_cons, List.not_mem_nil, or_false] at hz
      have h9 := hz
      · subst h9; exact Or.inr ⟨by decide, "java/lang/IllegalArgumentException", hts _ (ab_in 1431 (by decide +kernel) rfl), hN ("java/lang/IllegalStateException", "java/lang/IllegalArgumentException") (by decide)⟩) (by decide) (by decide) (hts _ (ab_in 1403 (by decide +kernel) rfl)) (va_any rfl (hCK.2.2.2.2.1 _ (ab_ngm 17 rfl))) c1 c2 c3 ?_
      refine lv_astore_n (lv' := [(3, .ref q9), (0, .ref (ad 0)), (1, .int x0), (2, .ref o)]) hx hb dL_wouldFree_15 rfl hl (by decide) rfl (fun ls2 hl2 => ?_)
      refine lv_iconst (v := nI 2) hx hb dL_wouldFree_16 (by decide) ?_
      refine vx_ret (W.widen (k := 1) (n := 6) (Nat.le_of_ble_eq_true rfl) (Nat.le_of_ble_eq_true rfl) ?_)
      exact W.iret hx hb hr (fun t ht hW => ⟨⟨2, 0, Z1, I1, A1, ad1, v, rfl, hk, (fun z => absurd z (by decide)), had, hokh, by rw [ht]; exact g9, by rw [ht]; exact hPo1, fr_D hAC g10, hDj1⟩, g11.F ht⟩) g11.2.2 dL_wouldFree_17
    | j + 2, hj, hk => exact nomatch hj
  · obtain ⟨Z1, rfl, x, rfl, hk⟩ := hp
    have hPo1 := fr_keep hPo hDj g12.2
    have hDj1 := fr_dj hPo hDj g10
    have hD1 := fr_D hAC g10
    refine lv_i2l (v := x.toInt64) hx hb dL_wouldFree_7 rfl ?_
    refine va_last (ws := wO o cL v :: ab_w cT ad1 ac I1 A1 0 (shC Z1)) hx hb hK (wo_cons hPo1 g9) (wo_D hAo hD1 hDj1) g11 0 3 rfl rfl (by unfold vp_in; decide) dL_wouldFree_8 (fun H2 locs2 k1 k2 k3 => ?_)
    refine lv_goto (tgt := 18) hx hb dL_wouldFree_9 (by decide) ?_
    refine lv_iconst (v := nI 0) hx hb dL_wouldFree_18 (by decide) ?_
    refine vx_ret (W.widen (k := 1) (n := 6) (Nat.le_of_ble_eq_true rfl) (Nat.le_of_ble_eq_true rfl) ?_)
    exact W.iret hx hb hr (fun t ht hW => ⟨⟨0, x, Z1, I1, A1, ad1, _, rfl, hk, (fun _ => wo_1), had, hokh, by rw [ht]; exact wo_tl k1, by rw [ht]; exact wo_hd k1, hD1, wo_dj hDj1⟩, k3.F ht⟩) k3.2.2 dL_wouldFree_19
theorem wr_bestBarrier {l : Launch} (htr : l.stackTraces = false) {D : va_G} {cT : FieldType → ClassId} {cL : ClassId} {ac ad : Nat → Nat} {sz o : Nat} {v : Nat → Int64} {Z : ab_Z} {I A : ab_F} {x0 : Int32} {K : Nat → Int32 → ab_Z → ab_F → ab_F → Prop} (hM : ab_Cl mX11_bestBarrier 8 2 12 [.ref 0, .int x0] (shC Z) I A (ab_Pz (fun E Z I A => ∃ j, ["java/lang/IllegalArgumentException", "java/lang/IllegalStateException"][j]? = some E ∧ K (j + 1) 0 Z I A) (ab_zi (fun r Z I A => K 0 r Z I A)))) (hoh : ab_okH (shC Z)) : vx_Met l yL_bestBarrier (Cond.codeWith yL_bestBarrier cL_bestBarrier 4 (some .int) [(0, 9, 12, 19), (0, 9, 15, 13)] :: ab_ws) (ab_rm 9 2 12) (lw_wP D cT cL ac ad sz o v [.int x0] Z I A) (lw_wQ D cT cL ac ad o (va_A (wO o cL v :: ab_w cT ad ac I A 0 (shC Z)) sz) K) (fun _ _ _ => False) 2 12 (va_A (wO o cL v :: ab_w cT ad ac I A 0 (shC Z)) sz) := by
  refine vx_ofWH (cc := cL_bestBarrier) (maxL := 4) (ret := some .int) (hh := [(0, 9, 12, 19), (0, 9, 15, 13)]) (by decide +kernel) rfl ?_
  intro p e s m args below meth c s₁ B hml hv
  obtain ⟨rfl, hsz, hP, hPo, hK, hD0, hDj, hCK, hN⟩ := hv
  have hx := B.exec
  have hb := B.bytes
  have hr := B.returns
  have hts0 := atoms_spec (ws := Cond.codeWith yL_bestBarrier cL_bestBarrier 4 (some .int) [(0, 9, 12, 19), (0, 9, 15, 13)] :: ab_ws) B.pre
  have hts := fun w (hw : w ∈ ab_ws) => hts0 w (List.mem_cons_of_mem _ hw)
  have hown : s.vm.findClass "CheckpointSwapLaw" = some m.cls := findClass_of_methodNamed B.named
  have htab := vx_table (x := yL_bestBarrier) B (hts0 _ List.mem_cons_self)
  subst hsz
  generalize hAe : va_A (wO o cL v :: ab_w cT ad ac I A 0 (shC Z)) s.heap.size = Ar at hCK ⊢
  have hA : ∀ q, s.heap.size ≤ q → Ar q := fun q h => by rw [← hAe]; exact Or.inr h
  have hAo : Ar o := by rw [← hAe]; exact Or.inl ⟨0, _, rfl⟩
  have hD : va_D Ar (ab_w cT ad ac I A 0 (shC Z)) := ⟨hD0.1, fun k q hk => by rw [← hAe]; exact Or.inl ⟨k + 1, q.2, hk⟩⟩
  have hAC : ∀ q, va_A (ab_w cT ad ac I A 0 (shC Z)) s.heap.size q → Ar q := fun q h => by
    rw [← hAe]; rcases h with ⟨k, e9, hk⟩ | hk
    · exact Or.inl ⟨k + 1, e9, hk⟩
    · exact Or.inr hk
  have hS : va_S Ar s.heap s.heap [] := va_S.rf
  have hl := lv_entry ((Value.ref (ad 0) :: [.int x0]) ++ [.ref o]) (n := 4) (Nat.le_of_ble_eq_true rfl)
  rw [lg_entry_eq]
  generalize (lg_sl (((Value.ref (ad 0) :: [.int x0]) ++ [.ref o])) ++ List.replicate (4 - (lg_sl (((Value.ref (ad 0) :: [.int x0]) ++ [.ref o]))).length) Slot.unset).toArray = ls at hl ⊢
  have hl : lv_has ls 4 [(0, .ref (ad 0)), (1, .int x0), (2, .ref o)] := hl
  refine lv_aload_n hx hb dL_bestBarrier_0 rfl (lv_at hl 2 rfl) ?_
  refine lv_iconst (v := 0) hx hb dL_bestBarrier_1 (by decide) ?_
  refine lv_aload_n hx hb dL_bestBarrier_2 rfl (lv_at hl 0 rfl) ?_
  refine lv_iload_n hx hb dL_bestBarrier_3 rfl (lv_at hl 1 rfl) ?_
  refine lw_callV (D := D) (cT := cT) (ac := ac) (ad := ad) (as := [.int x0]) (rest := [.int 0, .ref o]) ⟨hx, hb, hml, hown, hts⟩ htr (lw_sub hK) hCK hA sC_0 vc_15 hM okX11_bestBarrier rfl (ab_in 1790 (by decide +kernel) rfl) (ab_in 1791 (by decide +kernel) rfl) (ab_in 1792 (by decide +kernel) rfl) (ab_in 96 (by decide +kernel) rfl) dL_bestBarrier_4 rfl rfl hl.1 (Nat.le_of_ble_eq_true rfl) (Nat.le_of_ble_eq_true rfl) (Nat.le_of_ble_eq_true rfl) (Nat.le_of_ble_eq_true rfl) (Nat.le_of_ble_eq_true rfl) hoh (fun v hv => ?_) hP hD hS (fun E ce q9 sh1 I1 A1 ad1 H1 locs1 hp had hokh g9 g10 g12 g11 c1 c2 c3 => ?_) (fun r sh1 I1 A1 ad1 H1 locs1 hp had hokh g9 g10 g12 g11 => ?_)
  · simp only [List.mem_cons, List.not_mem_nil, or_false] at hv
    rcases hv with h | h <;> subst h <;> first | exact trivial | (show 0 < (shC Z).length; rw [sh_len]; omega)
  · obtain ⟨Z1, rfl, j, hj, hk⟩ := hp
    have hPo1 := fr_keep hPo hDj g12.2
    have hDj1 := fr_dj hPo hDj g10
    match j, hj, hk with
    | 0, hj, hk =>
      cases hj
      refine vx_catch (name := "java/lang/IllegalArgumentException") hown [] ⟨0, 9, 12, 19⟩ [⟨0, 9, 15, 13⟩] (by rw [htab]; rfl) (fun z hz => absurd hz List.not_mem_nil) (by decide) (by decide) (hts _ (ab_in 1431 (by decide +kernel) rfl)) (va_any rfl (hCK.2.2.2.2.1 _ (ab_ngm 15 rfl))) c1 c2 c3 ?_
      refine lv_astore_n (lv' := [(3, .ref q9), (0, .ref (ad 0)), (1, .int x0), (2, .ref o)]) hx hb dL_bestBarrier_12 rfl hl (by decide) rfl (fun ls2 hl2 => ?_)
      refine lv_iconst (v := nI 1) hx hb dL_bestBarrier_13 (by decide) ?_
      refine vx_ret (W.widen (k := 2) (n := 12) (Nat.le_of_ble_eq_true rfl) (Nat.le_of_ble_eq_true rfl) ?_)
      exact W.iret hx hb hr (fun t ht hW => ⟨⟨1, 0, Z1, I1, A1, ad1, v, rfl, hk, (fun z => absurd z (by decide)), had, hokh, by rw [ht]; exact g9, by rw [ht]; exact hPo1, fr_D hAC g10, hDj1⟩, g11.F ht⟩) g11.2.2 dL_bestBarrier_14
    | 1, hj, hk =>
      cases hj
      refine vx_catch (name := "java/lang/IllegalStateException") hown [⟨0, 9, 12, 19⟩] ⟨0, 9, 15, 13⟩ [] (by rw [htab]; rfl) (fun z hz => by
      simp only [List.mem_cons, List.not_mem_nil, or_false] at hz
      have h9 := hz
      · subst h9; exact Or.inr ⟨by decide, "java/lang/IllegalArgumentException", hts _ (ab_in 1431 (by decide +kernel) rfl), hN ("java/lang/IllegalStateException", "java/lang/IllegalArgumentException") (by decide)⟩) (by decide) (by decide) (hts _ (ab_in 1403 (by decide +kernel) rfl)) (va_any rfl (hCK.2.2.2.2.1 _ (ab_ngm 17 rfl))) c1 c2 c3 ?_
      refine lv_astore_n (lv' := [(3, .ref q9), (0, .ref (ad 0)), (1, .int x0), (2, .ref o)]) hx hb dL_bestBarrier_15 rfl hl (by decide) rfl (fun ls2 hl2 => ?_)
      refine lv_iconst (v := nI 2) hx hb dL_bestBarrier_16 (by decide) ?_
      refine vx_ret (W.widen (k := 2) (n := 12) (Nat.le_of_ble_eq_true rfl) (Nat.le_of_ble_eq_true rfl) ?_)
      exact W.iret hx hb hr (fun t ht hW => ⟨⟨2, 0, Z1, I1, A1, ad1, v, rfl, hk, (fun z => absurd z (by decide)), had, hokh, by rw [ht]; exact g9, by rw [ht]; exact hPo1, fr_D hAC g10, hDj1⟩, g11.F ht⟩) g11.2.2 dL_bestBarrier_17
    | j + 2, hj, hk => exact nomatch hj
  · obtain ⟨Z1, rfl, x, rfl, hk⟩ := hp
    have hPo1 := fr_keep hPo hDj g12.2
    have hDj1 := fr_dj hPo hDj g10
    have hD1 := fr_D hAC g10
    refine lv_i2l (v := x.toInt64) hx hb dL_bestBarrier_7 rfl ?_
    refine va_last (ws := wO o cL v :: ab_w cT ad1 ac I1 A1 0 (shC Z1)) hx hb hK (wo_cons hPo1 g9) (wo_D hAo hD1 hDj1) g11 0 3 rfl rfl (by unfold vp_in; decide) dL_bestBarrier_8 (fun H2 locs2 k1 k2 k3 => ?_)
    refine lv_goto (tgt := 18) hx hb dL_bestBarrier_9 (by decide) ?_
    refine lv_iconst (v := nI 0) hx hb dL_bestBarrier_18 (by decide) ?_
    refine vx_ret (W.widen (k := 2) (n := 12) (Nat.le_of_ble_eq_true rfl) (Nat.le_of_ble_eq_true rfl) ?_)
    exact W.iret hx hb hr (fun t ht hW => ⟨⟨0, x, Z1, I1, A1, ad1, _, rfl, hk, (fun _ => wo_1), had, hokh, by rw [ht]; exact wo_tl k1, by rw [ht]; exact wo_hd k1, hD1, wo_dj hDj1⟩, k3.F ht⟩) k3.2.2 dL_bestBarrier_19
theorem wr_lostPages {l : Launch} (htr : l.stackTraces = false) {D : va_G} {cT : FieldType → ClassId} {cL : ClassId} {ac ad : Nat → Nat} {sz o : Nat} {v : Nat → Int64} {Z : ab_Z} {I A : ab_F} {x0 : Int32} {K : Nat → Int32 → ab_Z → ab_F → ab_F → Prop} (hM : ab_Cl mX11_lostPages 8 1 6 [.ref 0, .int x0] (shC Z) I A (ab_Pz (fun E Z I A => ∃ j, ["java/lang/IndexOutOfBoundsException"][j]? = some E ∧ K (j + 1) 0 Z I A) (ab_zi (fun r Z I A => K 0 r Z I A)))) (hoh : ab_okH (shC Z)) : vx_Met l yL_lostPages (Cond.codeWith yL_lostPages cL_lostPages 4 (some .int) [(0, 9, 12, 25)] :: ab_ws) (ab_rm 9 1 6) (lw_wP D cT cL ac ad sz o v [.int x0] Z I A) (lw_wQ D cT cL ac ad o (va_A (wO o cL v :: ab_w cT ad ac I A 0 (shC Z)) sz) K) (fun _ _ _ => False) 1 6 (va_A (wO o cL v :: ab_w cT ad ac I A 0 (shC Z)) sz) := by
  refine vx_ofWH (cc := cL_lostPages) (maxL := 4) (ret := some .int) (hh := [(0, 9, 12, 25)]) (by decide +kernel) rfl ?_
  intro p e s m args below meth c s₁ B hml hv
  obtain ⟨rfl, hsz, hP, hPo, hK, hD0, hDj, hCK, hN⟩ := hv
  have hx := B.exec
  have hb := B.bytes
  have hr := B.returns
  have hts0 := atoms_spec (ws := Cond.codeWith yL_lostPages cL_lostPages 4 (some .int) [(0, 9, 12, 25)] :: ab_ws) B.pre
  have hts := fun w (hw : w ∈ ab_ws) => hts0 w (List.mem_cons_of_mem _ hw)
  have hown : s.vm.findClass "CheckpointSwapLaw" = some m.cls := findClass_of_methodNamed B.named
  have htab := vx_table (x := yL_lostPages) B (hts0 _ List.mem_cons_self)
  subst hsz
  generalize hAe : va_A (wO o cL v :: ab_w cT ad ac I A 0 (shC Z)) s.heap.size = Ar at hCK ⊢
  have hA : ∀ q, s.heap.size ≤ q → Ar q := fun q h => by rw [← hAe]; exact Or.inr h
  have hAo : Ar o := by rw [← hAe]; exact Or.inl ⟨0, _, rfl⟩
  have hD : va_D Ar (ab_w cT ad ac I A 0 (shC Z)) := ⟨hD0.1, fun k q hk => by rw [← hAe]; exact Or.inl ⟨k + 1, q.2, hk⟩⟩
  have hAC : ∀ q, va_A (ab_w cT ad ac I A 0 (shC Z)) s.heap.size q → Ar q := fun q h => by
    rw [← hAe]; rcases h with ⟨k, e9, hk⟩ | hk
    · exact Or.inl ⟨k + 1, e9, hk⟩
    · exact Or.inr hk
  have hS : va_S Ar s.heap s.heap [] := va_S.rf
  have hl := lv_entry ((Value.ref (ad 0) :: [.int x0]) ++ [.ref o]) (n := 4) (Nat.le_of_ble_eq_true rfl)
  rw [lg_entry_eq]
  generalize (lg_sl (((Value.ref (ad 0) :: [.int x0]) ++ [.ref o])) ++ List.replicate (4 - (lg_sl (((Value.ref (ad 0) :: [.int x0]) ++ [.ref o]))).length) Slot.unset).toArray = ls at hl ⊢
  have hl : lv_has ls 4 [(0, .ref (ad 0)), (1, .int x0), (2, .ref o)] := hl
  refine lv_aload_n hx hb dL_lostPages_0 rfl (lv_at hl 2 rfl) ?_
  refine lv_iconst (v := 0) hx hb dL_lostPages_1 (by decide) ?_
  refine lv_aload_n hx hb dL_lostPages_2 rfl (lv_at hl 0 rfl) ?_
  refine lv_iload_n hx hb dL_lostPages_3 rfl (lv_at hl 1 rfl) ?_
  refine lw_callV (D := D) (cT := cT) (ac := ac) (ad := ad) (as := [.int x0]) (rest := [.int 0, .ref o]) ⟨hx, hb, hml, hown, hts⟩ htr (lw_sub hK) hCK hA sC_0 vc_15 hM okX11_lostPages rfl (ab_in 1808 (by decide +kernel) rfl) (ab_in 1809 (by decide +kernel) rfl) (ab_in 1810 (by decide +kernel) rfl) (ab_in 96 (by decide +kernel) rfl) dL_lostPages_4 rfl rfl hl.1 (Nat.le_of_ble_eq_true rfl) (Nat.le_of_ble_eq_true rfl) (Nat.le_of_ble_eq_true rfl) (Nat.le_of_ble_eq_true rfl) (Nat.le_of_ble_eq_true rfl) hoh (fun v hv => ?_) hP hD hS (fun E ce q9 sh1 I1 A1 ad1 H1 locs1 hp had hokh g9 g10 g12 g11 c1 c2 c3 => ?_) (fun r sh1 I1 A1 ad1 H1 locs1 hp had hokh g9 g10 g12 g11 => ?_)
  · simp only [List.mem_cons, List.not_mem_nil, or_false] at hv
    rcases hv with h | h <;> subst h <;> first | exact trivial | (show 0 < (shC Z).length; rw [sh_len]; omega)
  · obtain ⟨Z1, rfl, j, hj, hk⟩ := hp
    have hPo1 := fr_keep hPo hDj g12.2
    have hDj1 := fr_dj hPo hDj g10
    match j, hj, hk with
    | 0, hj, hk =>
      cases hj
      refine vx_catch (name := "java/lang/IndexOutOfBoundsException") hown [] ⟨0, 9, 12, 25⟩ [] (by rw [htab]; rfl) (fun z hz => absurd hz List.not_mem_nil) (by decide) (by decide) (hts _ (ab_in 1494 (by decide +kernel) rfl)) (va_any rfl (hCK.2.2.2.2.1 _ (ab_ngm 18 rfl))) c1 c2 c3 ?_
      refine lv_astore_n (lv' := [(3, .ref q9), (0, .ref (ad 0)), (1, .int x0), (2, .ref o)]) hx hb dL_lostPages_12 rfl hl (by decide) rfl (fun ls2 hl2 => ?_)
      refine lv_iconst (v := nI 1) hx hb dL_lostPages_13 (by decide) ?_
      refine vx_ret (W.widen (k := 1) (n := 6) (Nat.le_of_ble_eq_true rfl) (Nat.le_of_ble_eq_true rfl) ?_)
      exact W.iret hx hb hr (fun t ht hW => ⟨⟨1, 0, Z1, I1, A1, ad1, v, rfl, hk, (fun z => absurd z (by decide)), had, hokh, by rw [ht]; exact g9, by rw [ht]; exact hPo1, fr_D hAC g10, hDj1⟩, g11.F ht⟩) g11.2.2 dL_lostPages_14
    | j + 1, hj, hk => exact nomatch hj
  · obtain ⟨Z1, rfl, x, rfl, hk⟩ := hp
    have hPo1 := fr_keep hPo hDj g12.2
    have hDj1 := fr_dj hPo hDj g10
    have hD1 := fr_D hAC g10
    refine lv_i2l (v := x.toInt64) hx hb dL_lostPages_7 rfl ?_
    refine va_last (ws := wO o cL v :: ab_w cT ad1 ac I1 A1 0 (shC Z1)) hx hb hK (wo_cons hPo1 g9) (wo_D hAo hD1 hDj1) g11 0 3 rfl rfl (by unfold vp_in; decide) dL_lostPages_8 (fun H2 locs2 k1 k2 k3 => ?_)
    refine lv_goto (tgt := 15) hx hb dL_lostPages_9 (by decide) ?_
    refine lv_iconst (v := nI 0) hx hb dL_lostPages_15 (by decide) ?_
    refine vx_ret (W.widen (k := 1) (n := 6) (Nat.le_of_ble_eq_true rfl) (Nat.le_of_ble_eq_true rfl) ?_)
    exact W.iret hx hb hr (fun t ht hW => ⟨⟨0, x, Z1, I1, A1, ad1, _, rfl, hk, (fun _ => wo_1), had, hokh, by rw [ht]; exact wo_tl k1, by rw [ht]; exact wo_hd k1, hD1, wo_dj hDj1⟩, k3.F ht⟩) k3.2.2 dL_lostPages_16
theorem wr_barrierLog {l : Launch} (htr : l.stackTraces = false) {D : va_G} {cT : FieldType → ClassId} {cL : ClassId} {ac ad : Nat → Nat} {sz o : Nat} {v : Nat → Int64} {Z : ab_Z} {I A : ab_F} {x0 x1 : Int32} {K : Nat → Int32 → ab_Z → ab_F → ab_F → Prop} (hM : ab_Cl mX11_barrierLog 8 2 12 [.ref 0, .int x0, .int x1] (shC Z) I A (ab_Pz (fun E Z I A => ∃ j, ["java/lang/IndexOutOfBoundsException", "java/lang/IllegalArgumentException"][j]? = some E ∧ K (j + 1) 0 Z I A) (ab_zi (fun r Z I A => K 0 r Z I A)))) (hoh : ab_okH (shC Z)) : vx_Met l yL_barrierLog (Cond.codeWith yL_barrierLog cL_barrierLog 5 (some .int) [(0, 10, 13, 25), (0, 10, 17, 19)] :: ab_ws) (ab_rm 9 2 12) (lw_wP D cT cL ac ad sz o v [.int x0, .int x1] Z I A) (lw_wQ D cT cL ac ad o (va_A (wO o cL v :: ab_w cT ad ac I A 0 (shC Z)) sz) K) (fun _ _ _ => False) 2 12 (va_A (wO o cL v :: ab_w cT ad ac I A 0 (shC Z)) sz) := by
  refine vx_ofWH (cc := cL_barrierLog) (maxL := 5) (ret := some .int) (hh := [(0, 10, 13, 25), (0, 10, 17, 19)]) (by decide +kernel) rfl ?_
  intro p e s m args below meth c s₁ B hml hv
  obtain ⟨rfl, hsz, hP, hPo, hK, hD0, hDj, hCK, hN⟩ := hv
  have hx := B.exec
  have hb := B.bytes
  have hr := B.returns
  have hts0 := atoms_spec (ws := Cond.codeWith yL_barrierLog cL_barrierLog 5 (some .int) [(0, 10, 13, 25), (0, 10, 17, 19)] :: ab_ws) B.pre
  have hts := fun w (hw : w ∈ ab_ws) => hts0 w (List.mem_cons_of_mem _ hw)
  have hown : s.vm.findClass "CheckpointSwapLaw" = some m.cls := findClass_of_methodNamed B.named
  have htab := vx_table (x := yL_barrierLog) B (hts0 _ List.mem_cons_self)
  subst hsz
  generalize hAe : va_A (wO o cL v :: ab_w cT ad ac I A 0 (shC Z)) s.heap.size = Ar at hCK ⊢
  have hA : ∀ q, s.heap.size ≤ q → Ar q := fun q h => by rw [← hAe]; exact Or.inr h
  have hAo : Ar o := by rw [← hAe]; exact Or.inl ⟨0, _, rfl⟩
  have hD : va_D Ar (ab_w cT ad ac I A 0 (shC Z)) := ⟨hD0.1, fun k q hk => by rw [← hAe]; exact Or.inl ⟨k + 1, q.2, hk⟩⟩
  have hAC : ∀ q, va_A (ab_w cT ad ac I A 0 (shC Z)) s.heap.size q → Ar q := fun q h => by
    rw [← hAe]; rcases h with ⟨k, e9, hk⟩ | hk
    · exact Or.inl ⟨k + 1, e9, hk⟩
    · exact Or.inr hk
  have hS : va_S Ar s.heap s.heap [] := va_S.rf
  have hl := lv_entry ((Value.ref (ad 0) :: [.int x0, .int x1]) ++ [.ref o]) (n := 5) (Nat.le_of_ble_eq_true rfl)
  rw [lg_entry_eq]
  generalize (lg_sl (((Value.ref (ad 0) :: [.int x0, .int x1]) ++ [.ref o])) ++ List.replicate (5 - (lg_sl (((Value.ref (ad 0) :: [.int x0, .int x1]) ++ [.ref o]))).length) Slot.unset).toArray = ls at hl ⊢
  have hl : lv_has ls 5 [(0, .ref (ad 0)), (1, .int x0), (2, .int x1), (3, .ref o)] := hl
  refine lv_aload_n hx hb dL_barrierLog_0 rfl (lv_at hl 3 rfl) ?_
  refine lv_iconst (v := 0) hx hb dL_barrierLog_1 (by decide) ?_
  refine lv_aload_n hx hb dL_barrierLog_2 rfl (lv_at hl 0 rfl) ?_
  refine lv_iload_n hx hb dL_barrierLog_3 rfl (lv_at hl 1 rfl) ?_
  refine lv_iload_n hx hb dL_barrierLog_4 rfl (lv_at hl 2 rfl) ?_
  refine lw_callV (D := D) (cT := cT) (ac := ac) (ad := ad) (as := [.int x0, .int x1]) (rest := [.int 0, .ref o]) ⟨hx, hb, hml, hown, hts⟩ htr (lw_sub hK) hCK hA sC_0 vc_15 hM okX11_barrierLog rfl (ab_in 1816 (by decide +kernel) rfl) (ab_in 1817 (by decide +kernel) rfl) (ab_in 1818 (by decide +kernel) rfl) (ab_in 96 (by decide +kernel) rfl) dL_barrierLog_5 rfl rfl hl.1 (Nat.le_of_ble_eq_true rfl) (Nat.le_of_ble_eq_true rfl) (Nat.le_of_ble_eq_true rfl) (Nat.le_of_ble_eq_true rfl) (Nat.le_of_ble_eq_true rfl) hoh (fun v hv => ?_) hP hD hS (fun E ce q9 sh1 I1 A1 ad1 H1 locs1 hp had hokh g9 g10 g12 g11 c1 c2 c3 => ?_) (fun r sh1 I1 A1 ad1 H1 locs1 hp had hokh g9 g10 g12 g11 => ?_)
  · simp only [List.mem_cons, List.not_mem_nil, or_false] at hv
    rcases hv with h | h | h <;> subst h <;> first | exact trivial | (show 0 < (shC Z).length; rw [sh_len]; omega)
  · obtain ⟨Z1, rfl, j, hj, hk⟩ := hp
    have hPo1 := fr_keep hPo hDj g12.2
    have hDj1 := fr_dj hPo hDj g10
    match j, hj, hk with
    | 0, hj, hk =>
      cases hj
      refine vx_catch (name := "java/lang/IndexOutOfBoundsException") hown [] ⟨0, 10, 13, 25⟩ [⟨0, 10, 17, 19⟩] (by rw [htab]; rfl) (fun z hz => absurd hz List.not_mem_nil) (by decide) (by decide) (hts _ (ab_in 1494 (by decide +kernel) rfl)) (va_any rfl (hCK.2.2.2.2.1 _ (ab_ngm 18 rfl))) c1 c2 c3 ?_
      refine lv_astore (lv' := [(4, .ref q9), (0, .ref (ad 0)), (1, .int x0), (2, .int x1), (3, .ref o)]) hx hb dL_barrierLog_13 hl (by decide) rfl (fun ls2 hl2 => ?_)
      refine lv_iconst (v := nI 1) hx hb dL_barrierLog_15 (by decide) ?_
      refine vx_ret (W.widen (k := 2) (n := 12) (Nat.le_of_ble_eq_true rfl) (Nat.le_of_ble_eq_true rfl) ?_)
      exact W.iret hx hb hr (fun t ht hW => ⟨⟨1, 0, Z1, I1, A1, ad1, v, rfl, hk, (fun z => absurd z (by decide)), had, hokh, by rw [ht]; exact g9, by rw [ht]; exact hPo1, fr_D hAC g10, hDj1⟩, g11.F ht⟩) g11.2.2 dL_barrierLog_16
    | 1, hj, hk =>
      cases hj
      refine vx_catch (name := "java/lang/IllegalArgumentException") hown [⟨0, 10, 13, 25⟩] ⟨0, 10, 17, 19⟩ [] (by rw [htab]; rfl) (fun z hz => by
      simp only [List.mem_cons, List.not_mem_nil, or_false] at hz
      have h9 := hz
      · subst h9; exact Or.inr ⟨by decide, "java/lang/IndexOutOfBoundsException", hts _ (ab_in 1494 (by decide +kernel) rfl), hN ("java/lang/IllegalArgumentException", "java/lang/IndexOutOfBoundsException") (by decide)⟩) (by decide) (by decide) (hts _ (ab_in 1431 (by decide +kernel) rfl)) (va_any rfl (hCK.2.2.2.2.1 _ (ab_ngm 15 rfl))) c1 c2 c3 ?_
      refine lv_astore (lv' := [(4, .ref q9), (0, .ref (ad 0)), (1, .int x0), (2, .int x1), (3, .ref o)]) hx hb dL_barrierLog_17 hl (by decide) rfl (fun ls2 hl2 => ?_)
      refine lv_iconst (v := nI 2) hx hb dL_barrierLog_19 (by decide) ?_
      refine vx_ret (W.widen (k := 2) (n := 12) (Nat.le_of_ble_eq_true rfl) (Nat.le_of_ble_eq_true rfl) ?_)
      exact W.iret hx hb hr (fun t ht hW => ⟨⟨2, 0, Z1, I1, A1, ad1, v, rfl, hk, (fun z => absurd z (by decide)), had, hokh, by rw [ht]; exact g9, by rw [ht]; exact hPo1, fr_D hAC g10, hDj1⟩, g11.F ht⟩) g11.2.2 dL_barrierLog_20
    | j + 2, hj, hk => exact nomatch hj
  · obtain ⟨Z1, rfl, x, rfl, hk⟩ := hp
    have hPo1 := fr_keep hPo hDj g12.2
    have hDj1 := fr_dj hPo hDj g10
    have hD1 := fr_D hAC g10
    refine lv_i2l (v := x.toInt64) hx hb dL_barrierLog_8 rfl ?_
    refine va_last (ws := wO o cL v :: ab_w cT ad1 ac I1 A1 0 (shC Z1)) hx hb hK (wo_cons hPo1 g9) (wo_D hAo hD1 hDj1) g11 0 3 rfl rfl (by unfold vp_in; decide) dL_barrierLog_9 (fun H2 locs2 k1 k2 k3 => ?_)
    refine lv_goto (tgt := 21) hx hb dL_barrierLog_10 (by decide) ?_
    refine lv_iconst (v := nI 0) hx hb dL_barrierLog_21 (by decide) ?_
    refine vx_ret (W.widen (k := 2) (n := 12) (Nat.le_of_ble_eq_true rfl) (Nat.le_of_ble_eq_true rfl) ?_)
    exact W.iret hx hb hr (fun t ht hW => ⟨⟨0, x, Z1, I1, A1, ad1, _, rfl, hk, (fun _ => wo_1), had, hokh, by rw [ht]; exact wo_tl k1, by rw [ht]; exact wo_hd k1, hD1, wo_dj hDj1⟩, k3.F ht⟩) k3.2.2 dL_barrierLog_22
theorem wr_recentAccess {l : Launch} (htr : l.stackTraces = false) {D : va_G} {cT : FieldType → ClassId} {cL : ClassId} {ac ad : Nat → Nat} {sz o : Nat} {v : Nat → Int64} {Z : ab_Z} {I A : ab_F} {x0 : Int32} {K : Nat → Int32 → ab_Z → ab_F → ab_F → Prop} (hM : ab_Cl mX11_recentAccess 8 1 6 [.ref 0, .int x0] (shC Z) I A (ab_Pz (fun E Z I A => ∃ j, ["java/lang/IndexOutOfBoundsException"][j]? = some E ∧ K (j + 1) 0 Z I A) (ab_zi (fun r Z I A => K 0 r Z I A)))) (hoh : ab_okH (shC Z)) : vx_Met l yL_recentAccess (Cond.codeWith yL_recentAccess cL_recentAccess 4 (some .int) [(0, 9, 12, 25)] :: ab_ws) (ab_rm 9 1 6) (lw_wP D cT cL ac ad sz o v [.int x0] Z I A) (lw_wQ D cT cL ac ad o (va_A (wO o cL v :: ab_w cT ad ac I A 0 (shC Z)) sz) K) (fun _ _ _ => False) 1 6 (va_A (wO o cL v :: ab_w cT ad ac I A 0 (shC Z)) sz) := by
  refine vx_ofWH (cc := cL_recentAccess) (maxL := 4) (ret := some .int) (hh := [(0, 9, 12, 25)]) (by decide +kernel) rfl ?_
  intro p e s m args below meth c s₁ B hml hv
  obtain ⟨rfl, hsz, hP, hPo, hK, hD0, hDj, hCK, hN⟩ := hv
  have hx := B.exec
  have hb := B.bytes
  have hr := B.returns
  have hts0 := atoms_spec (ws := Cond.codeWith yL_recentAccess cL_recentAccess 4 (some .int) [(0, 9, 12, 25)] :: ab_ws) B.pre
  have hts := fun w (hw : w ∈ ab_ws) => hts0 w (List.mem_cons_of_mem _ hw)
  have hown : s.vm.findClass "CheckpointSwapLaw" = some m.cls := findClass_of_methodNamed B.named
  have htab := vx_table (x := yL_recentAccess) B (hts0 _ List.mem_cons_self)
  subst hsz
  generalize hAe : va_A (wO o cL v :: ab_w cT ad ac I A 0 (shC Z)) s.heap.size = Ar at hCK ⊢
  have hA : ∀ q, s.heap.size ≤ q → Ar q := fun q h => by rw [← hAe]; exact Or.inr h
  have hAo : Ar o := by rw [← hAe]; exact Or.inl ⟨0, _, rfl⟩
  have hD : va_D Ar (ab_w cT ad ac I A 0 (shC Z)) := ⟨hD0.1, fun k q hk => by rw [← hAe]; exact Or.inl ⟨k + 1, q.2, hk⟩⟩
  have hAC : ∀ q, va_A (ab_w cT ad ac I A 0 (shC Z)) s.heap.size q → Ar q := fun q h => by
    rw [← hAe]; rcases h with ⟨k, e9, hk⟩ | hk
    · exact Or.inl ⟨k + 1, e9, hk⟩
    · exact Or.inr hk
  have hS : va_S Ar s.heap s.heap [] := va_S.rf
  have hl := lv_entry ((Value.ref (ad 0) :: [.int x0]) ++ [.ref o]) (n := 4) (Nat.le_of_ble_eq_true rfl)
  rw [lg_entry_eq]
  generalize (lg_sl (((Value.ref (ad 0) :: [.int x0]) ++ [.ref o])) ++ List.replicate (4 - (lg_sl (((Value.ref (ad 0) :: [.int x0]) ++ [.ref o]))).length) Slot.unset).toArray = ls at hl ⊢
  have hl : lv_has ls 4 [(0, .ref (ad 0)), (1, .int x0), (2, .ref o)] := hl
  refine lv_aload_n hx hb dL_recentAccess_0 rfl (lv_at hl 2 rfl) ?_
  refine lv_iconst (v := 0) hx hb dL_recentAccess_1 (by decide) ?_
  refine lv_aload_n hx hb dL_recentAccess_2 rfl (lv_at hl 0 rfl) ?_
  refine lv_iload_n hx hb dL_recentAccess_3 rfl (lv_at hl 1 rfl) ?_
  refine lw_callV (D := D) (cT := cT) (ac := ac) (ad := ad) (as := [.int x0]) (rest := [.int 0, .ref o]) ⟨hx, hb, hml, hown, hts⟩ htr (lw_sub hK) hCK hA sC_0 vc_15 hM okX11_recentAccess rfl (ab_in 1832 (by decide +kernel) rfl) (ab_in 1833 (by decide +kernel) rfl) (ab_in 1834 (by decide +kernel) rfl) (ab_in 96 (by decide +kernel) rfl) dL_recentAccess_4 rfl rfl hl.1 (Nat.le_of_ble_eq_true rfl) (Nat.le_of_ble_eq_true rfl) (Nat.le_of_ble_eq_true rfl) (Nat.le_of_ble_eq_true rfl) (Nat.le_of_ble_eq_true rfl) hoh (fun v hv => ?_) hP hD hS (fun E ce q9 sh1 I1 A1 ad1 H1 locs1 hp had hokh g9 g10 g12 g11 c1 c2 c3 => ?_) (fun r sh1 I1 A1 ad1 H1 locs1 hp had hokh g9 g10 g12 g11 => ?_)
  · simp only [List.mem_cons, List.not_mem_nil, or_false] at hv
    rcases hv with h | h <;> subst h <;> first | exact trivial | (show 0 < (shC Z).length; rw [sh_len]; omega)
  · obtain ⟨Z1, rfl, j, hj, hk⟩ := hp
    have hPo1 := fr_keep hPo hDj g12.2
    have hDj1 := fr_dj hPo hDj g10
    match j, hj, hk with
    | 0, hj, hk =>
      cases hj
      refine vx_catch (name := "java/lang/IndexOutOfBoundsException") hown [] ⟨0, 9, 12, 25⟩ [] (by rw [htab]; rfl) (fun z hz => absurd hz List.not_mem_nil) (by decide) (by decide) (hts _ (ab_in 1494 (by decide +kernel) rfl)) (va_any rfl (hCK.2.2.2.2.1 _ (ab_ngm 18 rfl))) c1 c2 c3 ?_
      refine lv_astore_n (lv' := [(3, .ref q9), (0, .ref (ad 0)), (1, .int x0), (2, .ref o)]) hx hb dL_recentAccess_12 rfl hl (by decide) rfl (fun ls2 hl2 => ?_)
      refine lv_iconst (v := nI 1) hx hb dL_recentAccess_13 (by decide) ?_
      refine vx_ret (W.widen (k := 1) (n := 6) (Nat.le_of_ble_eq_true rfl) (Nat.le_of_ble_eq_true rfl) ?_)
      exact W.iret hx hb hr (fun t ht hW => ⟨⟨1, 0, Z1, I1, A1, ad1, v, rfl, hk, (fun z => absurd z (by decide)), had, hokh, by rw [ht]; exact g9, by rw [ht]; exact hPo1, fr_D hAC g10, hDj1⟩, g11.F ht⟩) g11.2.2 dL_recentAccess_14
    | j + 1, hj, hk => exact nomatch hj
  · obtain ⟨Z1, rfl, x, rfl, hk⟩ := hp
    have hPo1 := fr_keep hPo hDj g12.2
    have hDj1 := fr_dj hPo hDj g10
    have hD1 := fr_D hAC g10
    refine lv_i2l (v := x.toInt64) hx hb dL_recentAccess_7 rfl ?_
    refine va_last (ws := wO o cL v :: ab_w cT ad1 ac I1 A1 0 (shC Z1)) hx hb hK (wo_cons hPo1 g9) (wo_D hAo hD1 hDj1) g11 0 3 rfl rfl (by unfold vp_in; decide) dL_recentAccess_8 (fun H2 locs2 k1 k2 k3 => ?_)
    refine lv_goto (tgt := 15) hx hb dL_recentAccess_9 (by decide) ?_
    refine lv_iconst (v := nI 0) hx hb dL_recentAccess_15 (by decide) ?_
    refine vx_ret (W.widen (k := 1) (n := 6) (Nat.le_of_ble_eq_true rfl) (Nat.le_of_ble_eq_true rfl) ?_)
    exact W.iret hx hb hr (fun t ht hW => ⟨⟨0, x, Z1, I1, A1, ad1, _, rfl, hk, (fun _ => wo_1), had, hokh, by rw [ht]; exact wo_tl k1, by rw [ht]; exact wo_hd k1, hD1, wo_dj hDj1⟩, k3.F ht⟩) k3.2.2 dL_recentAccess_16
theorem wr_faultsWith {l : Launch} (htr : l.stackTraces = false) {D : va_G} {cT : FieldType → ClassId} {cL : ClassId} {ac ad : Nat → Nat} {sz o : Nat} {v : Nat → Int64} {Z : ab_Z} {I A : ab_F} {x0 x1 : Int32} {K : Nat → Int32 → ab_Z → ab_F → ab_F → Prop} (hM : ab_Cl mX11_faultsWith 8 2 12 [.ref 0, .int x0, .int x1] (shC Z) I A (ab_Pz (fun E Z I A => ∃ j, ["java/lang/IllegalArgumentException"][j]? = some E ∧ K (j + 1) 0 Z I A) (ab_zi (fun r Z I A => K 0 r Z I A)))) (hoh : ab_okH (shC Z)) : vx_Met l yL_faultsWith (Cond.codeWith yL_faultsWith cL_faultsWith 5 (some .int) [(0, 10, 13, 19)] :: ab_ws) (ab_rm 9 2 12) (lw_wP D cT cL ac ad sz o v [.int x0, .int x1] Z I A) (lw_wQ D cT cL ac ad o (va_A (wO o cL v :: ab_w cT ad ac I A 0 (shC Z)) sz) K) (fun _ _ _ => False) 2 12 (va_A (wO o cL v :: ab_w cT ad ac I A 0 (shC Z)) sz) := by
  refine vx_ofWH (cc := cL_faultsWith) (maxL := 5) (ret := some .int) (hh := [(0, 10, 13, 19)]) (by decide +kernel) rfl ?_
  intro p e s m args below meth c s₁ B hml hv
  obtain ⟨rfl, hsz, hP, hPo, hK, hD0, hDj, hCK, hN⟩ := hv
  have hx := B.exec
  have hb := B.bytes
  have hr := B.returns
  have hts0 := atoms_spec (ws := Cond.codeWith yL_faultsWith cL_faultsWith 5 (some .int) [(0, 10, 13, 19)] :: ab_ws) B.pre
  have hts := fun w (hw : w ∈ ab_ws) => hts0 w (List.mem_cons_of_mem _ hw)
  have hown : s.vm.findClass "CheckpointSwapLaw" = some m.cls := findClass_of_methodNamed B.named
  have htab := vx_table (x := yL_faultsWith) B (hts0 _ List.mem_cons_self)
  subst hsz
  generalize hAe : va_A (wO o cL v :: ab_w cT ad ac I A 0 (shC Z)) s.heap.size = Ar at hCK ⊢
  have hA : ∀ q, s.heap.size ≤ q → Ar q := fun q h => by rw [← hAe]; exact Or.inr h
  have hAo : Ar o := by rw [← hAe]; exact Or.inl ⟨0, _, rfl⟩
  have hD : va_D Ar (ab_w cT ad ac I A 0 (shC Z)) := ⟨hD0.1, fun k q hk => by rw [← hAe]; exact Or.inl ⟨k + 1, q.2, hk⟩⟩
  have hAC : ∀ q, va_A (ab_w cT ad ac I A 0 (shC Z)) s.heap.size q → Ar q := fun q h => by
    rw [← hAe]; rcases h with ⟨k, e9, hk⟩ | hk
    · exact Or.inl ⟨k + 1, e9, hk⟩
    · exact Or.inr hk
  have hS : va_S Ar s.heap s.heap [] := va_S.rf
  have hl := lv_entry ((Value.ref (ad 0) :: [.int x0, .int x1]) ++ [.ref o]) (n := 5) (Nat.le_of_ble_eq_true rfl)
  rw [lg_entry_eq]
  generalize (lg_sl (((Value.ref (ad 0) :: [.int x0, .int x1]) ++ [.ref o])) ++ List.replicate (5 - (lg_sl (((Value.ref (ad 0) :: [.int x0, .int x1]) ++ [.ref o]))).length) Slot.unset).toArray = ls at hl ⊢
  have hl : lv_has ls 5 [(0, .ref (ad 0)), (1, .int x0), (2, .int x1), (3, .ref o)] := hl
  refine lv_aload_n hx hb dL_faultsWith_0 rfl (lv_at hl 3 rfl) ?_
  refine lv_iconst (v := 0) hx hb dL_faultsWith_1 (by decide) ?_
  refine lv_aload_n hx hb dL_faultsWith_2 rfl (lv_at hl 0 rfl) ?_
  refine lv_iload_n hx hb dL_faultsWith_3 rfl (lv_at hl 1 rfl) ?_
  refine lv_iload_n hx hb dL_faultsWith_4 rfl (lv_at hl 2 rfl) ?_
  refine lw_callV (D := D) (cT := cT) (ac := ac) (ad := ad) (as := [.int x0, .int x1]) (rest := [.int 0, .ref o]) ⟨hx, hb, hml, hown, hts⟩ htr (lw_sub hK) hCK hA sC_0 vc_15 hM okX11_faultsWith rfl (ab_in 1848 (by decide +kernel) rfl) (ab_in 1849 (by decide +kernel) rfl) (ab_in 1850 (by decide +kernel) rfl) (ab_in 96 (by decide +kernel) rfl) dL_faultsWith_5 rfl rfl hl.1 (Nat.le_of_ble_eq_true rfl) (Nat.le_of_ble_eq_true rfl) (Nat.le_of_ble_eq_true rfl) (Nat.le_of_ble_eq_true rfl) (Nat.le_of_ble_eq_true rfl) hoh (fun v hv => ?_) hP hD hS (fun E ce q9 sh1 I1 A1 ad1 H1 locs1 hp had hokh g9 g10 g12 g11 c1 c2 c3 => ?_) (fun r sh1 I1 A1 ad1 H1 locs1 hp had hokh g9 g10 g12 g11 => ?_)
  · simp only [List.mem_cons, List.not_mem_nil, or_false] at hv
    rcases hv with h | h | h <;> subst h <;> first | exact trivial | (show 0 < (shC Z).length; rw [sh_len]; omega)
  · obtain ⟨Z1, rfl, j, hj, hk⟩ := hp
    have hPo1 := fr_keep hPo hDj g12.2
    have hDj1 := fr_dj hPo hDj g10
    match j, hj, hk with
    | 0, hj, hk =>
      cases hj
      refine vx_catch (name := "java/lang/IllegalArgumentException") hown [] ⟨0, 10, 13, 19⟩ [] (by rw [htab]; rfl) (fun z hz => absurd hz List.not_mem_nil) (by decide) (by decide) (hts _ (ab_in 1431 (by decide +kernel) rfl)) (va_any rfl (hCK.2.2.2.2.1 _ (ab_ngm 15 rfl))) c1 c2 c3 ?_
      refine lv_astore (lv' := [(4, .ref q9), (0, .ref (ad 0)), (1, .int x0), (2, .int x1), (3, .ref o)]) hx hb dL_faultsWith_13 hl (by decide) rfl (fun ls2 hl2 => ?_)
      refine lv_iconst (v := nI 1) hx hb dL_faultsWith_15 (by decide) ?_
      refine vx_ret (W.widen (k := 2) (n := 12) (Nat.le_of_ble_eq_true rfl) (Nat.le_of_ble_eq_true rfl) ?_)
      exact W.iret hx hb hr (fun t ht hW => ⟨⟨1, 0, Z1, I1, A1, ad1, v, rfl, hk, (fun z => absurd z (by decide)), had, hokh, by rw [ht]; exact g9, by rw [ht]; exact hPo1, fr_D hAC g10, hDj1⟩, g11.F ht⟩) g11.2.2 dL_faultsWith_16
    | j + 1, hj, hk => exact nomatch hj
  · obtain ⟨Z1, rfl, x, rfl, hk⟩ := hp
    have hPo1 := fr_keep hPo hDj g12.2
    have hDj1 := fr_dj hPo hDj g10
    have hD1 := fr_D hAC g10
    refine lv_i2l (v := x.toInt64) hx hb dL_faultsWith_8 rfl ?_
    refine va_last (ws := wO o cL v :: ab_w cT ad1 ac I1 A1 0 (shC Z1)) hx hb hK (wo_cons hPo1 g9) (wo_D hAo hD1 hDj1) g11 0 3 rfl rfl (by unfold vp_in; decide) dL_faultsWith_9 (fun H2 locs2 k1 k2 k3 => ?_)
    refine lv_goto (tgt := 17) hx hb dL_faultsWith_10 (by decide) ?_
    refine lv_iconst (v := nI 0) hx hb dL_faultsWith_17 (by decide) ?_
    refine vx_ret (W.widen (k := 2) (n := 12) (Nat.le_of_ble_eq_true rfl) (Nat.le_of_ble_eq_true rfl) ?_)
    exact W.iret hx hb hr (fun t ht hW => ⟨⟨0, x, Z1, I1, A1, ad1, _, rfl, hk, (fun _ => wo_1), had, hokh, by rw [ht]; exact wo_tl k1, by rw [ht]; exact wo_hd k1, hD1, wo_dj hDj1⟩, k3.F ht⟩) k3.2.2 dL_faultsWith_18
theorem wr_leastFrames {l : Launch} (htr : l.stackTraces = false) {D : va_G} {cT : FieldType → ClassId} {cL : ClassId} {ac ad : Nat → Nat} {sz o : Nat} {v : Nat → Int64} {Z : ab_Z} {I A : ab_F} {x0 : Int32} {K : Nat → Int32 → ab_Z → ab_F → ab_F → Prop} (hM : ab_Cl mX11_leastFrames 8 2 12 [.ref 0, .int x0] (shC Z) I A (ab_Pz (fun E Z I A => ∃ j, ["java/lang/IllegalArgumentException", "java/util/NoSuchElementException"][j]? = some E ∧ K (j + 1) 0 Z I A) (ab_zi (fun r Z I A => K 0 r Z I A)))) (hoh : ab_okH (shC Z)) : vx_Met l yL_leastFrames (Cond.codeWith yL_leastFrames cL_leastFrames 4 (some .int) [(0, 9, 12, 19), (0, 9, 15, 52)] :: ab_ws) (ab_rm 9 2 12) (lw_wP D cT cL ac ad sz o v [.int x0] Z I A) (lw_wQ D cT cL ac ad o (va_A (wO o cL v :: ab_w cT ad ac I A 0 (shC Z)) sz) K) (fun _ _ _ => False) 2 12 (va_A (wO o cL v :: ab_w cT ad ac I A 0 (shC Z)) sz) := by
  refine vx_ofWH (cc := cL_leastFrames) (maxL := 4) (ret := some .int) (hh := [(0, 9, 12, 19), (0, 9, 15, 52)]) (by decide +kernel) rfl ?_
  intro p e s m args below meth c s₁ B hml hv
  obtain ⟨rfl, hsz, hP, hPo, hK, hD0, hDj, hCK, hN⟩ := hv
  have hx := B.exec
  have hb := B.bytes
  have hr := B.returns
  have hts0 := atoms_spec (ws := Cond.codeWith yL_leastFrames cL_leastFrames 4 (some .int) [(0, 9, 12, 19), (0, 9, 15, 52)] :: ab_ws) B.pre
  have hts := fun w (hw : w ∈ ab_ws) => hts0 w (List.mem_cons_of_mem _ hw)
  have hown : s.vm.findClass "CheckpointSwapLaw" = some m.cls := findClass_of_methodNamed B.named
  have htab := vx_table (x := yL_leastFrames) B (hts0 _ List.mem_cons_self)
  subst hsz
  generalize hAe : va_A (wO o cL v :: ab_w cT ad ac I A 0 (shC Z)) s.heap.size = Ar at hCK ⊢
  have hA : ∀ q, s.heap.size ≤ q → Ar q := fun q h => by rw [← hAe]; exact Or.inr h
  have hAo : Ar o := by rw [← hAe]; exact Or.inl ⟨0, _, rfl⟩
  have hD : va_D Ar (ab_w cT ad ac I A 0 (shC Z)) := ⟨hD0.1, fun k q hk => by rw [← hAe]; exact Or.inl ⟨k + 1, q.2, hk⟩⟩
  have hAC : ∀ q, va_A (ab_w cT ad ac I A 0 (shC Z)) s.heap.size q → Ar q := fun q h => by
    rw [← hAe]; rcases h with ⟨k, e9, hk⟩ | hk
    · exact Or.inl ⟨k + 1, e9, hk⟩
    · exact Or.inr hk
  have hS : va_S Ar s.heap s.heap [] := va_S.rf
  have hl := lv_entry ((Value.ref (ad 0) :: [.int x0]) ++ [.ref o]) (n := 4) (Nat.le_of_ble_eq_true rfl)
  rw [lg_entry_eq]
  generalize (lg_sl (((Value.ref (ad 0) :: [.int x0]) ++ [.ref o])) ++ List.replicate (4 - (lg_sl (((Value.ref (ad 0) :: [.int x0]) ++ [.ref o]))).length) Slot.unset).toArray = ls at hl ⊢
  have hl : lv_has ls 4 [(0, .ref (ad 0)), (1, .int x0), (2, .ref o)] := hl
  refine lv_aload_n hx hb dL_leastFrames_0 rfl (lv_at hl 2 rfl) ?_
  refine lv_iconst (v := 0) hx hb dL_leastFrames_1 (by decide) ?_
  refine lv_aload_n hx hb dL_leastFrames_2 rfl (lv_at hl 0 rfl) ?_
  refine lv_iload_n hx hb dL_leastFrames_3 rfl (lv_at hl 1 rfl) ?_
  refine lw_callV (D := D) (cT := cT) (ac := ac) (ad := ad) (as := [.int x0]) (rest := [.int 0, .ref o]) ⟨hx, hb, hml, hown, hts⟩ htr (lw_sub hK) hCK hA sC_0 vc_15 hM okX11_leastFrames rfl (ab_in 1874 (by decide +kernel) rfl) (ab_in 1875 (by decide +kernel) rfl) (ab_in 1876 (by decide +kernel) rfl) (ab_in 96 (by decide +kernel) rfl) dL_leastFrames_4 rfl rfl hl.1 (Nat.le_of_ble_eq_true rfl) (Nat.le_of_ble_eq_true rfl) (Nat.le_of_ble_eq_true rfl) (Nat.le_of_ble_eq_true rfl) (Nat.le_of_ble_eq_true rfl) hoh (fun v hv => ?_) hP hD hS (fun E ce q9 sh1 I1 A1 ad1 H1 locs1 hp had hokh g9 g10 g12 g11 c1 c2 c3 => ?_) (fun r sh1 I1 A1 ad1 H1 locs1 hp had hokh g9 g10 g12 g11 => ?_)
  · simp only [List.mem_cons, List.not_mem_nil, or_false] at hv
    rcases hv with h | h <;> subst h <;> first | exact trivial | (show 0 < (shC Z).length; rw [sh_len]; omega)
  · obtain ⟨Z1, rfl, j, hj, hk⟩ := hp
    have hPo1 := fr_keep hPo hDj g12.2
    have hDj1 := fr_dj hPo hDj g10
    match j, hj, hk with
    | 0, hj, hk =>
      cases hj
      refine vx_catch (name := "java/lang/IllegalArgumentException") hown [] ⟨0, 9, 12, 19⟩ [⟨0, 9, 15, 52⟩] (by rw [htab]; rfl) (fun z hz => absurd hz List.not_mem_nil) (by decide) (by decide) (hts _ (ab_in 1431 (by decide +kernel) rfl)) (va_any rfl (hCK.2.2.2.2.1 _ (ab_ngm 15 rfl))) c1 c2 c3 ?_
      refine lv_astore_n (lv' := [(3, .ref q9), (0, .ref (ad 0)), (1, .int x0), (2, .ref o)]) hx hb dL_leastFrames_12 rfl hl (by decide) rfl (fun ls2 hl2 => ?_)
      refine lv_iconst (v := nI 1) hx hb dL_leastFrames_13 (by decide) ?_
      refine vx_ret (W.widen (k := 2) (n := 12) (Nat.le_of_ble_eq_true rfl) (Nat.le_of_ble_eq_true rfl) ?_)
      exact W.iret hx hb hr (fun t ht hW => ⟨⟨1, 0, Z1, I1, A1, ad1, v, rfl, hk, (fun z => absurd z (by decide)), had, hokh, by rw [ht]; exact g9, by rw [ht]; exact hPo1, fr_D hAC g10, hDj1⟩, g11.F ht⟩) g11.2.2 dL_leastFrames_14
    | 1, hj, hk =>
      cases hj
      refine vx_catch (name := "java/util/NoSuchElementException") hown [⟨0, 9, 12, 19⟩] ⟨0, 9, 15, 52⟩ [] (by rw [htab]; rfl) (fun z hz => by
      simp only [List.mem_cons, List.not_mem_nil, or_false] at hz
      have h9 := hz
      · subst h9; exact Or.inr ⟨by decide, "java/lang/IllegalArgumentException", hts _ (ab_in 1431 (by decide +kernel) rfl), hN ("java/util/NoSuchElementException", "java/lang/IllegalArgumentException") (by decide)⟩) (by decide) (by decide) (hts _ (ab_in 1559 (by decide +kernel) rfl)) (va_any rfl (hCK.2.2.2.2.1 _ (ab_ngm 19 rfl))) c1 c2 c3 ?_
      refine lv_astore_n (lv' := [(3, .ref q9), (0, .ref (ad 0)), (1, .int x0), (2, .ref o)]) hx hb dL_leastFrames_15 rfl hl (by decide) rfl (fun ls2 hl2 => ?_)
      refine lv_iconst (v := nI 2) hx hb dL_leastFrames_16 (by decide) ?_
      refine vx_ret (W.widen (k := 2) (n := 12) (Nat.le_of_ble_eq_true rfl) (Nat.le_of_ble_eq_true rfl) ?_)
      exact W.iret hx hb hr (fun t ht hW => ⟨⟨2, 0, Z1, I1, A1, ad1, v, rfl, hk, (fun z => absurd z (by decide)), had, hokh, by rw [ht]; exact g9, by rw [ht]; exact hPo1, fr_D hAC g10, hDj1⟩, g11.F ht⟩) g11.2.2 dL_leastFrames_17
    | j + 2, hj, hk => exact nomatch hj
  · obtain ⟨Z1, rfl, x, rfl, hk⟩ := hp
    have hPo1 := fr_keep hPo hDj g12.2
    have hDj1 := fr_dj hPo hDj g10
    have hD1 := fr_D hAC g10
    refine lv_i2l (v := x.toInt64) hx hb dL_leastFrames_7 rfl ?_
    refine va_last (ws := wO o cL v :: ab_w cT ad1 ac I1 A1 0 (shC Z1)) hx hb hK (wo_cons hPo1 g9) (wo_D hAo hD1 hDj1) g11 0 3 rfl rfl (by unfold vp_in; decide) dL_leastFrames_8 (fun H2 locs2 k1 k2 k3 => ?_)
    refine lv_goto (tgt := 18) hx hb dL_leastFrames_9 (by decide) ?_
    refine lv_iconst (v := nI 0) hx hb dL_leastFrames_18 (by decide) ?_
    refine vx_ret (W.widen (k := 2) (n := 12) (Nat.le_of_ble_eq_true rfl) (Nat.le_of_ble_eq_true rfl) ?_)
    exact W.iret hx hb hr (fun t ht hW => ⟨⟨0, x, Z1, I1, A1, ad1, _, rfl, hk, (fun _ => wo_1), had, hokh, by rw [ht]; exact wo_tl k1, by rw [ht]; exact wo_hd k1, hD1, wo_dj hDj1⟩, k3.F ht⟩) k3.2.2 dL_leastFrames_19
theorem wr_workingSet {l : Launch} (htr : l.stackTraces = false) {D : va_G} {cT : FieldType → ClassId} {cL : ClassId} {ac ad : Nat → Nat} {sz o : Nat} {v : Nat → Int64} {Z : ab_Z} {I A : ab_F} {x0 : Int32} {K : Nat → Int32 → ab_Z → ab_F → ab_F → Prop} (hM : ab_Cl mX11_workingSet 8 1 6 [.ref 0, .int x0] (shC Z) I A (ab_Pz (fun E Z I A => ∃ j, ["java/lang/IllegalArgumentException"][j]? = some E ∧ K (j + 1) 0 Z I A) (ab_zi (fun r Z I A => K 0 r Z I A)))) (hoh : ab_okH (shC Z)) : vx_Met l yL_workingSet (Cond.codeWith yL_workingSet cL_workingSet 4 (some .int) [(0, 9, 12, 19)] :: ab_ws) (ab_rm 9 1 6) (lw_wP D cT cL ac ad sz o v [.int x0] Z I A) (lw_wQ D cT cL ac ad o (va_A (wO o cL v :: ab_w cT ad ac I A 0 (shC Z)) sz) K) (fun _ _ _ => False) 1 6 (va_A (wO o cL v :: ab_w cT ad ac I A 0 (shC Z)) sz) := by
  refine vx_ofWH (cc := cL_workingSet) (maxL := 4) (ret := some .int) (hh := [(0, 9, 12, 19)]) (by decide +kernel) rfl ?_
  intro p e s m args below meth c s₁ B hml hv
  obtain ⟨rfl, hsz, hP, hPo, hK, hD0, hDj, hCK, hN⟩ := hv
  have hx := B.exec
  have hb := B.bytes
  have hr := B.returns
  have hts0 := atoms_spec (ws := Cond.codeWith yL_workingSet cL_workingSet 4 (some .int) [(0, 9, 12, 19)] :: ab_ws) B.pre
  have hts := fun w (hw : w ∈ ab_ws) => hts0 w (List.mem_cons_of_mem _ hw)
  have hown : s.vm.findClass "CheckpointSwapLaw" = some m.cls := findClass_of_methodNamed B.named
  have htab := vx_table (x := yL_workingSet) B (hts0 _ List.mem_cons_self)
  subst hsz
  generalize hAe : va_A (wO o cL v :: ab_w cT ad ac I A 0 (shC Z)) s.heap.size = Ar at hCK ⊢
  have hA : ∀ q, s.heap.size ≤ q → Ar q := fun q h => by rw [← hAe]; exact Or.inr h
  have hAo : Ar o := by rw [← hAe]; exact Or.inl ⟨0, _, rfl⟩
  have hD : va_D Ar (ab_w cT ad ac I A 0 (shC Z)) := ⟨hD0.1, fun k q hk => by rw [← hAe]; exact Or.inl ⟨k + 1, q.2, hk⟩⟩
  have hAC : ∀ q, va_A (ab_w cT ad ac I A 0 (shC Z)) s.heap.size q → Ar q := fun q h => by
    rw [← hAe]; rcases h with ⟨k, e9, hk⟩ | hk
    · exact Or.inl ⟨k + 1, e9, hk⟩
    · exact Or.inr hk
  have hS : va_S Ar s.heap s.heap [] := va_S.rf
  have hl := lv_entry ((Value.ref (ad 0) :: [.int x0]) ++ [.ref o]) (n := 4) (Nat.le_of_ble_eq_true rfl)
  rw [lg_entry_eq]
  generalize (lg_sl (((Value.ref (ad 0) :: [.int x0]) ++ [.ref o])) ++ List.replicate (4 - (lg_sl (((Value.ref (ad 0) :: [.int x0]) ++ [.ref o]))).length) Slot.unset).toArray = ls at hl ⊢
  have hl : lv_has ls 4 [(0, .ref (ad 0)), (1, .int x0), (2, .ref o)] := hl
  refine lv_aload_n hx hb dL_workingSet_0 rfl (lv_at hl 2 rfl) ?_
  refine lv_iconst (v := 0) hx hb dL_workingSet_1 (by decide) ?_
  refine lv_aload_n hx hb dL_workingSet_2 rfl (lv_at hl 0 rfl) ?_
  refine lv_iload_n hx hb dL_workingSet_3 rfl (lv_at hl 1 rfl) ?_
  refine lw_callV (D := D) (cT := cT) (ac := ac) (ad := ad) (as := [.int x0]) (rest := [.int 0, .ref o]) ⟨hx, hb, hml, hown, hts⟩ htr (lw_sub hK) hCK hA sC_0 vc_15 hM okX11_workingSet rfl (ab_in 1886 (by decide +kernel) rfl) (ab_in 1887 (by decide +kernel) rfl) (ab_in 1888 (by decide +kernel) rfl) (ab_in 96 (by decide +kernel) rfl) dL_workingSet_4 rfl rfl hl.1 (Nat.le_of_ble_eq_true rfl) (Nat.le_of_ble_eq_true rfl) (Nat.le_of_ble_eq_true rfl) (Nat.le_of_ble_eq_true rfl) (Nat.le_of_ble_eq_true rfl) hoh (fun v hv => ?_) hP hD hS (fun E ce q9 sh1 I1 A1 ad1 H1 locs1 hp had hokh g9 g10 g12 g11 c1 c2 c3 => ?_) (fun r sh1 I1 A1 ad1 H1 locs1 hp had hokh g9 g10 g12 g11 => ?_)
  · simp only [List.mem_cons, List.not_mem_nil, or_false] at hv
    rcases hv with h | h <;> subst h <;> first | exact trivial | (show 0 < (shC Z).length; rw [sh_len]; omega)
  · obtain ⟨Z1, rfl, j, hj, hk⟩ := hp
    have hPo1 := fr_keep hPo hDj g12.2
    have hDj1 := fr_dj hPo hDj g10
    match j, hj, hk with
    | 0, hj, hk =>
      cases hj
      refine vx_catch (name := "java/lang/IllegalArgumentException") hown [] ⟨0, 9, 12, 19⟩ [] (by rw [htab]; rfl) (fun z hz => absurd hz List.not_mem_nil) (by decide) (by decide) (hts _ (ab_in 1431 (by decide +kernel) rfl)) (va_any rfl (hCK.2.2.2.2.1 _ (ab_ngm 15 rfl))) c1 c2 c3 ?_
      refine lv_astore_n (lv' := [(3, .ref q9), (0, .ref (ad 0)), (1, .int x0), (2, .ref o)]) hx hb dL_workingSet_12 rfl hl (by decide) rfl (fun ls2 hl2 => ?_)
      refine lv_iconst (v := nI 1) hx hb dL_workingSet_13 (by decide) ?_
      refine vx_ret (W.widen (k := 1) (n := 6) (Nat.le_of_ble_eq_true rfl) (Nat.le_of_ble_eq_true rfl) ?_)
      exact W.iret hx hb hr (fun t ht hW => ⟨⟨1, 0, Z1, I1, A1, ad1, v, rfl, hk, (fun z => absurd z (by decide)), had, hokh, by rw [ht]; exact g9, by rw [ht]; exact hPo1, fr_D hAC g10, hDj1⟩, g11.F ht⟩) g11.2.2 dL_workingSet_14
    | j + 1, hj, hk => exact nomatch hj
  · obtain ⟨Z1, rfl, x, rfl, hk⟩ := hp
    have hPo1 := fr_keep hPo hDj g12.2
    have hDj1 := fr_dj hPo hDj g10
    have hD1 := fr_D hAC g10
    refine lv_i2l (v := x.toInt64) hx hb dL_workingSet_7 rfl ?_
    refine va_last (ws := wO o cL v :: ab_w cT ad1 ac I1 A1 0 (shC Z1)) hx hb hK (wo_cons hPo1 g9) (wo_D hAo hD1 hDj1) g11 0 3 rfl rfl (by unfold vp_in; decide) dL_workingSet_8 (fun H2 locs2 k1 k2 k3 => ?_)
    refine lv_goto (tgt := 15) hx hb dL_workingSet_9 (by decide) ?_
    refine lv_iconst (v := nI 0) hx hb dL_workingSet_15 (by decide) ?_
    refine vx_ret (W.widen (k := 1) (n := 6) (Nat.le_of_ble_eq_true rfl) (Nat.le_of_ble_eq_true rfl) ?_)
    exact W.iret hx hb hr (fun t ht hW => ⟨⟨0, x, Z1, I1, A1, ad1, _, rfl, hk, (fun _ => wo_1), had, hokh, by rw [ht]; exact wo_tl k1, by rw [ht]; exact wo_hd k1, hD1, wo_dj hDj1⟩, k3.F ht⟩) k3.2.2 dL_workingSet_16
theorem wr_hottestPage {l : Launch} (htr : l.stackTraces = false) {D : va_G} {cT : FieldType → ClassId} {cL : ClassId} {ac ad : Nat → Nat} {sz o : Nat} {v : Nat → Int64} {Z : ab_Z} {I A : ab_F} {K : Nat → Int32 → ab_Z → ab_F → ab_F → Prop} (hM : ab_Cl mX11_hottestPage 8 1 6 [.ref 0] (shC Z) I A (ab_Pz (fun E Z I A => ∃ j, ["java/util/NoSuchElementException"][j]? = some E ∧ K (j + 1) 0 Z I A) (ab_zi (fun r Z I A => K 0 r Z I A)))) (hoh : ab_okH (shC Z)) : vx_Met l yL_hottestPage (Cond.codeWith yL_hottestPage cL_hottestPage 3 (some .int) [(0, 8, 11, 52)] :: ab_ws) (ab_rm 9 1 6) (lw_wP D cT cL ac ad sz o v [] Z I A) (lw_wQ D cT cL ac ad o (va_A (wO o cL v :: ab_w cT ad ac I A 0 (shC Z)) sz) K) (fun _ _ _ => False) 1 6 (va_A (wO o cL v :: ab_w cT ad ac I A 0 (shC Z)) sz) := by
  refine vx_ofWH (cc := cL_hottestPage) (maxL := 3) (ret := some .int) (hh := [(0, 8, 11, 52)]) (by decide +kernel) rfl ?_
  intro p e s m args below meth c s₁ B hml hv
  obtain ⟨rfl, hsz, hP, hPo, hK, hD0, hDj, hCK, hN⟩ := hv
  have hx := B.exec
  have hb := B.bytes
  have hr := B.returns
  have hts0 := atoms_spec (ws := Cond.codeWith yL_hottestPage cL_hottestPage 3 (some .int) [(0, 8, 11, 52)] :: ab_ws) B.pre
  have hts := fun w (hw : w ∈ ab_ws) => hts0 w (List.mem_cons_of_mem _ hw)
  have hown : s.vm.findClass "CheckpointSwapLaw" = some m.cls := findClass_of_methodNamed B.named
  have htab := vx_table (x := yL_hottestPage) B (hts0 _ List.mem_cons_self)
  subst hsz
  generalize hAe : va_A (wO o cL v :: ab_w cT ad ac I A 0 (shC Z)) s.heap.size = Ar at hCK ⊢
  have hA : ∀ q, s.heap.size ≤ q → Ar q := fun q h => by rw [← hAe]; exact Or.inr h
  have hAo : Ar o := by rw [← hAe]; exact Or.inl ⟨0, _, rfl⟩
  have hD : va_D Ar (ab_w cT ad ac I A 0 (shC Z)) := ⟨hD0.1, fun k q hk => by rw [← hAe]; exact Or.inl ⟨k + 1, q.2, hk⟩⟩
  have hAC : ∀ q, va_A (ab_w cT ad ac I A 0 (shC Z)) s.heap.size q → Ar q := fun q h => by
    rw [← hAe]; rcases h with ⟨k, e9, hk⟩ | hk
    · exact Or.inl ⟨k + 1, e9, hk⟩
    · exact Or.inr hk
  have hS : va_S Ar s.heap s.heap [] := va_S.rf
  have hl := lv_entry ((Value.ref (ad 0) :: []) ++ [.ref o]) (n := 3) (Nat.le_of_ble_eq_true rfl)
  rw [lg_entry_eq]
  generalize (lg_sl (((Value.ref (ad 0) :: []) ++ [.ref o])) ++ List.replicate (3 - (lg_sl (((Value.ref (ad 0) :: []) ++ [.ref o]))).length) Slot.unset).toArray = ls at hl ⊢
  have hl : lv_has ls 3 [(0, .ref (ad 0)), (1, .ref o)] := hl
  refine lv_aload_n hx hb dL_hottestPage_0 rfl (lv_at hl 1 rfl) ?_
  refine lv_iconst (v := 0) hx hb dL_hottestPage_1 (by decide) ?_
  refine lv_aload_n hx hb dL_hottestPage_2 rfl (lv_at hl 0 rfl) ?_
  refine lw_callV (D := D) (cT := cT) (ac := ac) (ad := ad) (as := []) (rest := [.int 0, .ref o]) ⟨hx, hb, hml, hown, hts⟩ htr (lw_sub hK) hCK hA sC_0 vc_15 hM okX11_hottestPage rfl (ab_in 1905 (by decide +kernel) rfl) (ab_in 1906 (by decide +kernel) rfl) (ab_in 1907 (by decide +kernel) rfl) (ab_in 96 (by decide +kernel) rfl) dL_hottestPage_3 rfl rfl hl.1 (Nat.le_of_ble_eq_true rfl) (Nat.le_of_ble_eq_true rfl) (Nat.le_of_ble_eq_true rfl) (Nat.le_of_ble_eq_true rfl) (Nat.le_of_ble_eq_true rfl) hoh (fun v hv => ?_) hP hD hS (fun E ce q9 sh1 I1 A1 ad1 H1 locs1 hp had hokh g9 g10 g12 g11 c1 c2 c3 => ?_) (fun r sh1 I1 A1 ad1 H1 locs1 hp had hokh g9 g10 g12 g11 => ?_)
  · simp only [List.mem_cons, List.not_mem_nil, or_false] at hv
    subst hv; show 0 < (shC Z).length; rw [sh_len]; omega
  · obtain ⟨Z1, rfl, j, hj, hk⟩ := hp
    have hPo1 := fr_keep hPo hDj g12.2
    have hDj1 := fr_dj hPo hDj g10
    match j, hj, hk with
    | 0, hj, hk =>
      cases hj
      refine vx_catch (name := "java/util/NoSuchElementException") hown [] ⟨0, 8, 11, 52⟩ [] (by rw [htab]; rfl) (fun z hz => absurd hz List.not_mem_nil) (by decide) (by decide) (hts _ (ab_in 1559 (by decide +kernel) rfl)) (va_any rfl (hCK.2.2.2.2.1 _ (ab_ngm 19 rfl))) c1 c2 c3 ?_
      refine lv_astore_n (lv' := [(2, .ref q9), (0, .ref (ad 0)), (1, .ref o)]) hx hb dL_hottestPage_11 rfl hl (by decide) rfl (fun ls2 hl2 => ?_)
      refine lv_iconst (v := nI 1) hx hb dL_hottestPage_12 (by decide) ?_
      refine vx_ret (W.widen (k := 1) (n := 6) (Nat.le_of_ble_eq_true rfl) (Nat.le_of_ble_eq_true rfl) ?_)
      exact W.iret hx hb hr (fun t ht hW => ⟨⟨1, 0, Z1, I1, A1, ad1, v, rfl, hk, (fun z => absurd z (by decide)), had, hokh, by rw [ht]; exact g9, by rw [ht]; exact hPo1, fr_D hAC g10, hDj1⟩, g11.F ht⟩) g11.2.2 dL_hottestPage_13
    | j + 1, hj, hk => exact nomatch hj
  · obtain ⟨Z1, rfl, x, rfl, hk⟩ := hp
    have hPo1 := fr_keep hPo hDj g12.2
    have hDj1 := fr_dj hPo hDj g10
    have hD1 := fr_D hAC g10
    refine lv_i2l (v := x.toInt64) hx hb dL_hottestPage_6 rfl ?_
    refine va_last (ws := wO o cL v :: ab_w cT ad1 ac I1 A1 0 (shC Z1)) hx hb hK (wo_cons hPo1 g9) (wo_D hAo hD1 hDj1) g11 0 3 rfl rfl (by unfold vp_in; decide) dL_hottestPage_7 (fun H2 locs2 k1 k2 k3 => ?_)
    refine lv_goto (tgt := 14) hx hb dL_hottestPage_8 (by decide) ?_
    refine lv_iconst (v := nI 0) hx hb dL_hottestPage_14 (by decide) ?_
    refine vx_ret (W.widen (k := 1) (n := 6) (Nat.le_of_ble_eq_true rfl) (Nat.le_of_ble_eq_true rfl) ?_)
    exact W.iret hx hb hr (fun t ht hW => ⟨⟨0, x, Z1, I1, A1, ad1, _, rfl, hk, (fun _ => wo_1), had, hokh, by rw [ht]; exact wo_tl k1, by rw [ht]; exact wo_hd k1, hD1, wo_dj hDj1⟩, k3.F ht⟩) k3.2.2 dL_hottestPage_15
theorem wr_hitRatioBits {l : Launch} (htr : l.stackTraces = false) {D : va_G} {cT : FieldType → ClassId} {cL : ClassId} {ac ad : Nat → Nat} {sz o : Nat} {v : Nat → Int64} {Z : ab_Z} {I A : ab_F} {K : Nat → Int32 → ab_Z → ab_F → ab_F → Prop} (hM : ab_Cl mX11_hitRatioBits 6 1 6 [.ref 0] (shC Z) I A (ab_Pz (fun E Z I A => ∃ j, ["java/lang/ArithmeticException"][j]? = some E ∧ K (j + 1) 0 Z I A) (ab_zi (fun r Z I A => K 0 r Z I A)))) (hoh : ab_okH (shC Z)) : vx_Met l yL_hitRatioBits (Cond.codeWith yL_hitRatioBits cL_hitRatioBits 3 (some .int) [(0, 8, 11, 154)] :: ab_ws) (ab_rm 7 1 6) (lw_wP D cT cL ac ad sz o v [] Z I A) (lw_wQ D cT cL ac ad o (va_A (wO o cL v :: ab_w cT ad ac I A 0 (shC Z)) sz) K) (fun _ _ _ => False) 1 6 (va_A (wO o cL v :: ab_w cT ad ac I A 0 (shC Z)) sz) := by
  refine vx_ofWH (cc := cL_hitRatioBits) (maxL := 3) (ret := some .int) (hh := [(0, 8, 11, 154)]) (by decide +kernel) rfl ?_
  intro p e s m args below meth c s₁ B hml hv
  obtain ⟨rfl, hsz, hP, hPo, hK, hD0, hDj, hCK, hN⟩ := hv
  have hx := B.exec
  have hb := B.bytes
  have hr := B.returns
  have hts0 := atoms_spec (ws := Cond.codeWith yL_hitRatioBits cL_hitRatioBits 3 (some .int) [(0, 8, 11, 154)] :: ab_ws) B.pre
  have hts := fun w (hw : w ∈ ab_ws) => hts0 w (List.mem_cons_of_mem _ hw)
  have hown : s.vm.findClass "CheckpointSwapLaw" = some m.cls := findClass_of_methodNamed B.named
  have htab := vx_table (x := yL_hitRatioBits) B (hts0 _ List.mem_cons_self)
  subst hsz
  generalize hAe : va_A (wO o cL v :: ab_w cT ad ac I A 0 (shC Z)) s.heap.size = Ar at hCK ⊢
  have hA : ∀ q, s.heap.size ≤ q → Ar q := fun q h => by rw [← hAe]; exact Or.inr h
  have hAo : Ar o := by rw [← hAe]; exact Or.inl ⟨0, _, rfl⟩
  have hD : va_D Ar (ab_w cT ad ac I A 0 (shC Z)) := ⟨hD0.1, fun k q hk => by rw [← hAe]; exact Or.inl ⟨k + 1, q.2, hk⟩⟩
  have hAC : ∀ q, va_A (ab_w cT ad ac I A 0 (shC Z)) s.heap.size q → Ar q := fun q h => by
    rw [← hAe]; rcases h with ⟨k, e9, hk⟩ | hk
    · exact Or.inl ⟨k + 1, e9, hk⟩
    · exact Or.inr hk
  have hS : va_S Ar s.heap s.heap [] := va_S.rf
  have hl := lv_entry ((Value.ref (ad 0) :: []) ++ [.ref o]) (n := 3) (Nat.le_of_ble_eq_true rfl)
  rw [lg_entry_eq]
  generalize (lg_sl (((Value.ref (ad 0) :: []) ++ [.ref o])) ++ List.replicate (3 - (lg_sl (((Value.ref (ad 0) :: []) ++ [.ref o]))).length) Slot.unset).toArray = ls at hl ⊢
  have hl : lv_has ls 3 [(0, .ref (ad 0)), (1, .ref o)] := hl
  refine lv_aload_n hx hb dL_hitRatioBits_0 rfl (lv_at hl 1 rfl) ?_
  refine lv_iconst (v := 0) hx hb dL_hitRatioBits_1 (by decide) ?_
  refine lv_aload_n hx hb dL_hitRatioBits_2 rfl (lv_at hl 0 rfl) ?_
  refine lw_callV (D := D) (cT := cT) (ac := ac) (ad := ad) (as := []) (rest := [.int 0, .ref o]) ⟨hx, hb, hml, hown, hts⟩ htr (lw_sub hK) hCK hA sC_0 vc_15 hM okX11_hitRatioBits rfl (ab_in 1934 (by decide +kernel) rfl) (ab_in 1935 (by decide +kernel) rfl) (ab_in 1936 (by decide +kernel) rfl) (ab_in 96 (by decide +kernel) rfl) dL_hitRatioBits_3 rfl rfl hl.1 (Nat.le_of_ble_eq_true rfl) (Nat.le_of_ble_eq_true rfl) (Nat.le_of_ble_eq_true rfl) (Nat.le_of_ble_eq_true rfl) (Nat.le_of_ble_eq_true rfl) hoh (fun v hv => ?_) hP hD hS (fun E ce q9 sh1 I1 A1 ad1 H1 locs1 hp had hokh g9 g10 g12 g11 c1 c2 c3 => ?_) (fun r sh1 I1 A1 ad1 H1 locs1 hp had hokh g9 g10 g12 g11 => ?_)
  · simp only [List.mem_cons, List.not_mem_nil, or_false] at hv
    subst hv; show 0 < (shC Z).length; rw [sh_len]; omega
  · obtain ⟨Z1, rfl, j, hj, hk⟩ := hp
    have hPo1 := fr_keep hPo hDj g12.2
    have hDj1 := fr_dj hPo hDj g10
    match j, hj, hk with
    | 0, hj, hk =>
      cases hj
      refine vx_catch (name := "java/lang/ArithmeticException") hown [] ⟨0, 8, 11, 154⟩ [] (by rw [htab]; rfl) (fun z hz => absurd hz List.not_mem_nil) (by decide) (by decide) (hts _ (ab_in 1920 (by decide +kernel) rfl)) (va_any rfl (hCK.2.2.2.2.1 _ (ab_ngm 21 rfl))) c1 c2 c3 ?_
      refine lv_astore_n (lv' := [(2, .ref q9), (0, .ref (ad 0)), (1, .ref o)]) hx hb dL_hitRatioBits_11 rfl hl (by decide) rfl (fun ls2 hl2 => ?_)
      refine lv_iconst (v := nI 1) hx hb dL_hitRatioBits_12 (by decide) ?_
      refine vx_ret (W.widen (k := 1) (n := 6) (Nat.le_of_ble_eq_true rfl) (Nat.le_of_ble_eq_true rfl) ?_)
      exact W.iret hx hb hr (fun t ht hW => ⟨⟨1, 0, Z1, I1, A1, ad1, v, rfl, hk, (fun z => absurd z (by decide)), had, hokh, by rw [ht]; exact g9, by rw [ht]; exact hPo1, fr_D hAC g10, hDj1⟩, g11.F ht⟩) g11.2.2 dL_hitRatioBits_13
    | j + 1, hj, hk => exact nomatch hj
  · obtain ⟨Z1, rfl, x, rfl, hk⟩ := hp
    have hPo1 := fr_keep hPo hDj g12.2
    have hDj1 := fr_dj hPo hDj g10
    have hD1 := fr_D hAC g10
    refine lv_i2l (v := x.toInt64) hx hb dL_hitRatioBits_6 rfl ?_
    refine va_last (ws := wO o cL v :: ab_w cT ad1 ac I1 A1 0 (shC Z1)) hx hb hK (wo_cons hPo1 g9) (wo_D hAo hD1 hDj1) g11 0 3 rfl rfl (by unfold vp_in; decide) dL_hitRatioBits_7 (fun H2 locs2 k1 k2 k3 => ?_)
    refine lv_goto (tgt := 14) hx hb dL_hitRatioBits_8 (by decide) ?_
    refine lv_iconst (v := nI 0) hx hb dL_hitRatioBits_14 (by decide) ?_
    refine vx_ret (W.widen (k := 1) (n := 6) (Nat.le_of_ble_eq_true rfl) (Nat.le_of_ble_eq_true rfl) ?_)
    exact W.iret hx hb hr (fun t ht hW => ⟨⟨0, x, Z1, I1, A1, ad1, _, rfl, hk, (fun _ => wo_1), had, hokh, by rw [ht]; exact wo_tl k1, by rw [ht]; exact wo_hd k1, hD1, wo_dj hDj1⟩, k3.F ht⟩) k3.2.2 dL_hitRatioBits_15
theorem wr_total {l : Launch} (htr : l.stackTraces = false) {D : va_G} {cT : FieldType → ClassId} {cL : ClassId} {ac ad : Nat → Nat} {sz o : Nat} {v : Nat → Int64} {Z : ab_Z} {I A : ab_F} {x0 : Int32} {K : Nat → Int32 → ab_Z → ab_F → ab_F → Prop} (hM : ab_Cl mX11_total 6 1 6 [.ref 0, .int x0] (shC Z) I A (ab_Pz (fun E Z I A => ∃ j, ["java/lang/IllegalArgumentException"][j]? = some E ∧ K (j + 1) 0 Z I A) (ab_zi (fun r Z I A => K 0 r Z I A)))) (hoh : ab_okH (shC Z)) : vx_Met l yL_total (Cond.codeWith yL_total cL_total 4 (some .int) [(0, 9, 12, 19)] :: ab_ws) (ab_rm 7 1 6) (lw_wP D cT cL ac ad sz o v [.int x0] Z I A) (lw_wQ D cT cL ac ad o (va_A (wO o cL v :: ab_w cT ad ac I A 0 (shC Z)) sz) K) (fun _ _ _ => False) 1 6 (va_A (wO o cL v :: ab_w cT ad ac I A 0 (shC Z)) sz) := by
  refine vx_ofWH (cc := cL_total) (maxL := 4) (ret := some .int) (hh := [(0, 9, 12, 19)]) (by decide +kernel) rfl ?_
  intro p e s m args below meth c s₁ B hml hv
  obtain ⟨rfl, hsz, hP, hPo, hK, hD0, hDj, hCK, hN⟩ := hv
  have hx := B.exec
  have hb := B.bytes
  have hr := B.returns
  have hts0 := atoms_spec (ws := Cond.codeWith yL_total cL_total 4 (some .int) [(0, 9, 12, 19)] :: ab_ws) B.pre
  have hts := fun w (hw : w ∈ ab_ws) => hts0 w (List.mem_cons_of_mem _ hw)
  have hown : s.vm.findClass "CheckpointSwapLaw" = some m.cls := findClass_of_methodNamed B.named
  have htab := vx_table (x := yL_total) B (hts0 _ List.mem_cons_self)
  subst hsz
  generalize hAe : va_A (wO o cL v :: ab_w cT ad ac I A 0 (shC Z)) s.heap.size = Ar at hCK ⊢
  have hA : ∀ q, s.heap.size ≤ q → Ar q := fun q h => by rw [← hAe]; exact Or.inr h
  have hAo : Ar o := by rw [← hAe]; exact Or.inl ⟨0, _, rfl⟩
  have hD : va_D Ar (ab_w cT ad ac I A 0 (shC Z)) := ⟨hD0.1, fun k q hk => by rw [← hAe]; exact Or.inl ⟨k + 1, q.2, hk⟩⟩
  have hAC : ∀ q, va_A (ab_w cT ad ac I A 0 (shC Z)) s.heap.size q → Ar q := fun q h => by
    rw [← hAe]; rcases h with ⟨k, e9, hk⟩ | hk
    · exact Or.inl ⟨k + 1, e9, hk⟩
    · exact Or.inr hk
  have hS : va_S Ar s.heap s.heap [] := va_S.rf
  have hl := lv_entry ((Value.ref (ad 0) :: [.int x0]) ++ [.ref o]) (n := 4) (Nat.le_of_ble_eq_true rfl)
  rw [lg_entry_eq]
  generalize (lg_sl (((Value.ref (ad 0) :: [.int x0]) ++ [.ref o])) ++ List.replicate (4 - (lg_sl (((Value.ref (ad 0) :: [.int x0]) ++ [.ref o]))).length) Slot.unset).toArray = ls at hl ⊢
  have hl : lv_has ls 4 [(0, .ref (ad 0)), (1, .int x0), (2, .ref o)] := hl
  refine lv_aload_n hx hb dL_total_0 rfl (lv_at hl 2 rfl) ?_
  refine lv_iconst (v := 0) hx hb dL_total_1 (by decide) ?_
  refine lv_aload_n hx hb dL_total_2 rfl (lv_at hl 0 rfl) ?_
  refine lv_iload_n hx hb dL_total_3 rfl (lv_at hl 1 rfl) ?_
  refine lw_callV (D := D) (cT := cT) (ac := ac) (ad := ad) (as := [.int x0]) (rest := [.int 0, .ref o]) ⟨hx, hb, hml, hown, hts⟩ htr (lw_sub hK) hCK hA sC_0 vc_15 hM okX11_total rfl (ab_in 1948 (by decide +kernel) rfl) (ab_in 1949 (by decide +kernel) rfl) (ab_in 1950 (by decide +kernel) rfl) (ab_in 96 (by decide +kernel) rfl) dL_total_4 rfl rfl hl.1 (Nat.le_of_ble_eq_true rfl) (Nat.le_of_ble_eq_true rfl) (Nat.le_of_ble_eq_true rfl) (Nat.le_of_ble_eq_true rfl) (Nat.le_of_ble_eq_true rfl) hoh (fun v hv => ?_) hP hD hS (fun E ce q9 sh1 I1 A1 ad1 H1 locs1 hp had hokh g9 g10 g12 g11 c1 c2 c3 => ?_) (fun r sh1 I1 A1 ad1 H1 locs1 hp had hokh g9 g10 g12 g11 => ?_)
  · simp only [List.mem_cons, List.not_mem_nil, or_false] at hv
    rcases hv with h | h <;> subst h <;> first | exact trivial | (show 0 < (shC Z).length; rw [sh_len]; omega)
  · obtain ⟨Z1, rfl, j, hj, hk⟩ := hp
    have hPo1 := fr_keep hPo hDj g12.2
    have hDj1 := fr_dj hPo hDj g10
    match j, hj, hk with
    | 0, hj, hk =>
      cases hj
      refine vx_catch (name := "java/lang/IllegalArgumentException") hown [] ⟨0, 9, 12, 19⟩ [] (by rw [htab]; rfl) (fun z hz => absurd hz List.not_mem_nil) (by decide) (by decide) (hts _ (ab_in 1431 (by decide +kernel) rfl)) (va_any rfl (hCK.2.2.2.2.1 _ (ab_ngm 15 rfl))) c1 c2 c3 ?_
      refine lv_astore_n (lv' := [(3, .ref q9), (0, .ref (ad 0)), (1, .int x0), (2, .ref o)]) hx hb dL_total_12 rfl hl (by decide) rfl (fun ls2 hl2 => ?_)
      refine lv_iconst (v := nI 1) hx hb dL_total_13 (by decide) ?_
      refine vx_ret (W.widen (k := 1) (n := 6) (Nat.le_of_ble_eq_true rfl) (Nat.le_of_ble_eq_true rfl) ?_)
      exact W.iret hx hb hr (fun t ht hW => ⟨⟨1, 0, Z1, I1, A1, ad1, v, rfl, hk, (fun z => absurd z (by decide)), had, hokh, by rw [ht]; exact g9, by rw [ht]; exact hPo1, fr_D hAC g10, hDj1⟩, g11.F ht⟩) g11.2.2 dL_total_14
    | j + 1, hj, hk => exact nomatch hj
  · obtain ⟨Z1, rfl, x, rfl, hk⟩ := hp
    have hPo1 := fr_keep hPo hDj g12.2
    have hDj1 := fr_dj hPo hDj g10
    have hD1 := fr_D hAC g10
    refine lv_i2l (v := x.toInt64) hx hb dL_total_7 rfl ?_
    refine va_last (ws := wO o cL v :: ab_w cT ad1 ac I1 A1 0 (shC Z1)) hx hb hK (wo_cons hPo1 g9) (wo_D hAo hD1 hDj1) g11 0 3 rfl rfl (by unfold vp_in; decide) dL_total_8 (fun H2 locs2 k1 k2 k3 => ?_)
    refine lv_goto (tgt := 15) hx hb dL_total_9 (by decide) ?_
    refine lv_iconst (v := nI 0) hx hb dL_total_15 (by decide) ?_
    refine vx_ret (W.widen (k := 1) (n := 6) (Nat.le_of_ble_eq_true rfl) (Nat.le_of_ble_eq_true rfl) ?_)
    exact W.iret hx hb hr (fun t ht hW => ⟨⟨0, x, Z1, I1, A1, ad1, _, rfl, hk, (fun _ => wo_1), had, hokh, by rw [ht]; exact wo_tl k1, by rw [ht]; exact wo_hd k1, hD1, wo_dj hDj1⟩, k3.F ht⟩) k3.2.2 dL_total_16
theorem wr_reportByte {l : Launch} (htr : l.stackTraces = false) {D : va_G} {cT : FieldType → ClassId} {cL : ClassId} {ac ad : Nat → Nat} {sz o : Nat} {v : Nat → Int64} {Z : ab_Z} {I A : ab_F} {x0 : Int32} {K : Nat → Int32 → ab_Z → ab_F → ab_F → Prop} (hM : ab_Cl mX11_reportByte 8 1 6 [.ref 0, .int x0] (shC Z) I A (ab_Pz (fun E Z I A => ∃ j, ["java/lang/IndexOutOfBoundsException"][j]? = some E ∧ K (j + 1) 0 Z I A) (ab_zi (fun r Z I A => K 0 r Z I A)))) (hoh : ab_okH (shC Z)) : vx_Met l yL_reportByte (Cond.codeWith yL_reportByte cL_reportByte 4 (some .int) [(0, 9, 12, 25)] :: ab_ws) (ab_rm 9 1 6) (lw_wP D cT cL ac ad sz o v [.int x0] Z I A) (lw_wQ D cT cL ac ad o (va_A (wO o cL v :: ab_w cT ad ac I A 0 (shC Z)) sz) K) (fun _ _ _ => False) 1 6 (va_A (wO o cL v :: ab_w cT ad ac I A 0 (shC Z)) sz) := by
  refine vx_ofWH (cc := cL_reportByte) (maxL := 4) (ret := some .int) (hh := [(0, 9, 12, 25)]) (by decide +kernel) rfl ?_
  intro p e s m args below meth c s₁ B hml hv
  obtain ⟨rfl, hsz, hP, hPo, hK, hD0, hDj, hCK, hN⟩ := hv
  have hx := B.exec
  have hb := B.bytes
  have hr := B.returns
  have hts0 := atoms_spec (ws := Cond.codeWith yL_reportByte cL_reportByte 4 (some .int) [(0, 9, 12, 25)] :: ab_ws) B.pre
  have hts := fun w (hw : w ∈ ab_ws) => hts0 w (List.mem_cons_of_mem _ hw)
  have hown : s.vm.findClass "CheckpointSwapLaw" = some m.cls := findClass_of_methodNamed B.named
  have htab := vx_table (x := yL_reportByte) B (hts0 _ List.mem_cons_self)
  subst hsz
  generalize hAe : va_A (wO o cL v :: ab_w cT ad ac I A 0 (shC Z)) s.heap.size = Ar at hCK ⊢
  have hA : ∀ q, s.heap.size ≤ q → Ar q := fun q h => by rw [← hAe]; exact Or.inr h
  have hAo : Ar o := by rw [← hAe]; exact Or.inl ⟨0, _, rfl⟩
  have hD : va_D Ar (ab_w cT ad ac I A 0 (shC Z)) := ⟨hD0.1, fun k q hk => by rw [← hAe]; exact Or.inl ⟨k + 1, q.2, hk⟩⟩
  have hAC : ∀ q, va_A (ab_w cT ad ac I A 0 (shC Z)) s.heap.size q → Ar q := fun q h => by
    rw [← hAe]; rcases h with ⟨k, e9, hk⟩ | hk
    · exact Or.inl ⟨k + 1, e9, hk⟩
    · exact Or.inr hk
  have hS : va_S Ar s.heap s.heap [] := va_S.rf
  have hl := lv_entry ((Value.ref (ad 0) :: [.int x0]) ++ [.ref o]) (n := 4) (Nat.le_of_ble_eq_true rfl)
  rw [lg_entry_eq]
  generalize (lg_sl (((Value.ref (ad 0) :: [.int x0]) ++ [.ref o])) ++ List.replicate (4 - (lg_sl (((Value.ref (ad 0) :: [.int x0]) ++ [.ref o]))).length) Slot.unset).toArray = ls at hl ⊢
  have hl : lv_has ls 4 [(0, .ref (ad 0)), (1, .int x0), (2, .ref o)] := hl
  refine lv_aload_n hx hb dL_reportByte_0 rfl (lv_at hl 2 rfl) ?_
  refine lv_iconst (v := 0) hx hb dL_reportByte_1 (by decide) ?_
  refine lv_aload_n hx hb dL_reportByte_2 rfl (lv_at hl 0 rfl) ?_
  refine lv_iload_n hx hb dL_reportByte_3 rfl (lv_at hl 1 rfl) ?_
  refine lw_callV (D := D) (cT := cT) (ac := ac) (ad := ad) (as := [.int x0]) (rest := [.int 0, .ref o]) ⟨hx, hb, hml, hown, hts⟩ htr (lw_sub hK) hCK hA sC_0 vc_15 hM okX11_reportByte rfl (ab_in 1958 (by decide +kernel) rfl) (ab_in 1959 (by decide +kernel) rfl) (ab_in 1960 (by decide +kernel) rfl) (ab_in 96 (by decide +kernel) rfl) dL_reportByte_4 rfl rfl hl.1 (Nat.le_of_ble_eq_true rfl) (Nat.le_of_ble_eq_true rfl) (Nat.le_of_ble_eq_true rfl) (Nat.le_of_ble_eq_true rfl) (Nat.le_of_ble_eq_true rfl) hoh (fun v hv => ?_) hP hD hS (fun E ce q9 sh1 I1 A1 ad1 H1 locs1 hp had hokh g9 g10 g12 g11 c1 c2 c3 => ?_) (fun r sh1 I1 A1 ad1 H1 locs1 hp had hokh g9 g10 g12 g11 => ?_)
  · simp only [List.mem_cons, List.not_mem_nil, or_false] at hv
    rcases hv with h | h <;> subst h <;> first | exact trivial | (show 0 < (shC Z).length; rw [sh_len]; omega)
  · obtain ⟨Z1, rfl, j, hj, hk⟩ := hp
    have hPo1 := fr_keep hPo hDj g12.2
    have hDj1 := fr_dj hPo hDj g10
    match j, hj, hk with
    | 0, hj, hk =>
      cases hj
      refine vx_catch (name := "java/lang/IndexOutOfBoundsException") hown [] ⟨0, 9, 12, 25⟩ [] (by rw [htab]; rfl) (fun z hz => absurd hz List.not_mem_nil) (by decide) (by decide) (hts _ (ab_in 1494 (by decide +kernel) rfl)) (va_any rfl (hCK.2.2.2.2.1 _ (ab_ngm 18 rfl))) c1 c2 c3 ?_
      refine lv_astore_n (lv' := [(3, .ref q9), (0, .ref (ad 0)), (1, .int x0), (2, .ref o)]) hx hb dL_reportByte_12 rfl hl (by decide) rfl (fun ls2 hl2 => ?_)
      refine lv_iconst (v := nI 1) hx hb dL_reportByte_13 (by decide) ?_
      refine vx_ret (W.widen (k := 1) (n := 6) (Nat.le_of_ble_eq_true rfl) (Nat.le_of_ble_eq_true rfl) ?_)
      exact W.iret hx hb hr (fun t ht hW => ⟨⟨1, 0, Z1, I1, A1, ad1, v, rfl, hk, (fun z => absurd z (by decide)), had, hokh, by rw [ht]; exact g9, by rw [ht]; exact hPo1, fr_D hAC g10, hDj1⟩, g11.F ht⟩) g11.2.2 dL_reportByte_14
    | j + 1, hj, hk => exact nomatch hj
  · obtain ⟨Z1, rfl, x, rfl, hk⟩ := hp
    have hPo1 := fr_keep hPo hDj g12.2
    have hDj1 := fr_dj hPo hDj g10
    have hD1 := fr_D hAC g10
    refine lv_i2l (v := x.toInt64) hx hb dL_reportByte_7 rfl ?_
    refine va_last (ws := wO o cL v :: ab_w cT ad1 ac I1 A1 0 (shC Z1)) hx hb hK (wo_cons hPo1 g9) (wo_D hAo hD1 hDj1) g11 0 3 rfl rfl (by unfold vp_in; decide) dL_reportByte_8 (fun H2 locs2 k1 k2 k3 => ?_)
    refine lv_goto (tgt := 15) hx hb dL_reportByte_9 (by decide) ?_
    refine lv_iconst (v := nI 0) hx hb dL_reportByte_15 (by decide) ?_
    refine vx_ret (W.widen (k := 1) (n := 6) (Nat.le_of_ble_eq_true rfl) (Nat.le_of_ble_eq_true rfl) ?_)
    exact W.iret hx hb hr (fun t ht hW => ⟨⟨0, x, Z1, I1, A1, ad1, _, rfl, hk, (fun _ => wo_1), had, hokh, by rw [ht]; exact wo_tl k1, by rw [ht]; exact wo_hd k1, hD1, wo_dj hDj1⟩, k3.F ht⟩) k3.2.2 dL_reportByte_16
theorem wr_undo {l : Launch} (htr : l.stackTraces = false) {D : va_G} {cT : FieldType → ClassId} {cL : ClassId} {ac ad : Nat → Nat} {sz o : Nat} {v : Nat → Int64} {Z : ab_Z} {I A : ab_F} {K : Nat → Int32 → ab_Z → ab_F → ab_F → Prop} (hM : ab_Cl mX11_undo 6 1 6 [.ref 0] (shC Z) I A (ab_Pz (fun E Z I A => ∃ j, ["java/lang/IllegalStateException"][j]? = some E ∧ K (j + 1) 0 Z I A) (ab_zi (fun r Z I A => K 0 r Z I A)))) (hoh : ab_okH (shC Z)) : vx_Met l yL_undo (Cond.codeWith yL_undo cL_undo 3 (some .int) [(0, 8, 11, 13)] :: ab_ws) (ab_rm 7 1 6) (lw_wP D cT cL ac ad sz o v [] Z I A) (lw_wQ D cT cL ac ad o (va_A (wO o cL v :: ab_w cT ad ac I A 0 (shC Z)) sz) K) (fun _ _ _ => False) 1 6 (va_A (wO o cL v :: ab_w cT ad ac I A 0 (shC Z)) sz) := by
  refine vx_ofWH (cc := cL_undo) (maxL := 3) (ret := some .int) (hh := [(0, 8, 11, 13)]) (by decide +kernel) rfl ?_
  intro p e s m args below meth c s₁ B hml hv
  obtain ⟨rfl, hsz, hP, hPo, hK, hD0, hDj, hCK, hN⟩ := hv
  have hx := B.exec
  have hb := B.bytes
  have hr := B.returns
  have hts0 := atoms_spec (ws := Cond.codeWith yL_undo cL_undo 3 (some .int) [(0, 8, 11, 13)] :: ab_ws) B.pre
  have hts := fun w (hw : w ∈ ab_ws) => hts0 w (List.mem_cons_of_mem _ hw)
  have hown : s.vm.findClass "CheckpointSwapLaw" = some m.cls := findClass_of_methodNamed B.named
  have htab := vx_table (x := yL_undo) B (hts0 _ List.mem_cons_self)
  subst hsz
  generalize hAe : va_A (wO o cL v :: ab_w cT ad ac I A 0 (shC Z)) s.heap.size = Ar at hCK ⊢
  have hA : ∀ q, s.heap.size ≤ q → Ar q := fun q h => by rw [← hAe]; exact Or.inr h
  have hAo : Ar o := by rw [← hAe]; exact Or.inl ⟨0, _, rfl⟩
  have hD : va_D Ar (ab_w cT ad ac I A 0 (shC Z)) := ⟨hD0.1, fun k q hk => by rw [← hAe]; exact Or.inl ⟨k + 1, q.2, hk⟩⟩
  have hAC : ∀ q, va_A (ab_w cT ad ac I A 0 (shC Z)) s.heap.size q → Ar q := fun q h => by
    rw [← hAe]; rcases h with ⟨k, e9, hk⟩ | hk
    · exact Or.inl ⟨k + 1, e9, hk⟩
    · exact Or.inr hk
  have hS : va_S Ar s.heap s.heap [] := va_S.rf
  have hl := lv_entry ((Value.ref (ad 0) :: []) ++ [.ref o]) (n := 3) (Nat.le_of_ble_eq_true rfl)
  rw [lg_entry_eq]
  generalize (lg_sl (((Value.ref (ad 0) :: []) ++ [.ref o])) ++ List.replicate (3 - (lg_sl (((Value.ref (ad 0) :: []) ++ [.ref o]))).length) Slot.unset).toArray = ls at hl ⊢
  have hl : lv_has ls 3 [(0, .ref (ad 0)), (1, .ref o)] := hl
  refine lv_aload_n hx hb dL_undo_0 rfl (lv_at hl 1 rfl) ?_
  refine lv_iconst (v := 0) hx hb dL_undo_1 (by decide) ?_
  refine lv_aload_n hx hb dL_undo_2 rfl (lv_at hl 0 rfl) ?_
  refine lw_callV (D := D) (cT := cT) (ac := ac) (ad := ad) (as := []) (rest := [.int 0, .ref o]) ⟨hx, hb, hml, hown, hts⟩ htr (lw_sub hK) hCK hA sC_0 vc_15 hM okX11_undo rfl (ab_in 1975 (by decide +kernel) rfl) (ab_in 1976 (by decide +kernel) rfl) (ab_in 1977 (by decide +kernel) rfl) (ab_in 96 (by decide +kernel) rfl) dL_undo_3 rfl rfl hl.1 (Nat.le_of_ble_eq_true rfl) (Nat.le_of_ble_eq_true rfl) (Nat.le_of_ble_eq_true rfl) (Nat.le_of_ble_eq_true rfl) (Nat.le_of_ble_eq_true rfl) hoh (fun v hv => ?_) hP hD hS (fun E ce q9 sh1 I1 A1 ad1 H1 locs1 hp had hokh g9 g10 g12 g11 c1 c2 c3 => ?_) (fun r sh1 I1 A1 ad1 H1 locs1 hp had hokh g9 g10 g12 g11 => ?_)
  · simp only [List.mem_cons, List.not_mem_nil, or_false] at hv
    subst hv; show 0 < (shC Z).length; rw [sh_len]; omega
  · obtain ⟨Z1, rfl, j, hj, hk⟩ := hp
    have hPo1 := fr_keep hPo hDj g12.2
    have hDj1 := fr_dj hPo hDj g10
    match j, hj, hk with
    | 0, hj, hk =>
      cases hj
      refine vx_catch (name := "java/lang/IllegalStateException") hown [] ⟨0, 8, 11, 13⟩ [] (by rw [htab]; rfl) (fun z hz => absurd hz List.not_mem_nil) (by decide) (by decide) (hts _ (ab_in 1403 (by decide +kernel) rfl)) (va_any rfl (hCK.2.2.2.2.1 _ (ab_ngm 17 rfl))) c1 c2 c3 ?_
      refine lv_astore_n (lv' := [(2, .ref q9), (0, .ref (ad 0)), (1, .ref o)]) hx hb dL_undo_11 rfl hl (by decide) rfl (fun ls2 hl2 => ?_)
      refine lv_iconst (v := nI 1) hx hb dL_undo_12 (by decide) ?_
      refine vx_ret (W.widen (k := 1) (n := 6) (Nat.le_of_ble_eq_true rfl) (Nat.le_of_ble_eq_true rfl) ?_)
      exact W.iret hx hb hr (fun t ht hW => ⟨⟨1, 0, Z1, I1, A1, ad1, v, rfl, hk, (fun z => absurd z (by decide)), had, hokh, by rw [ht]; exact g9, by rw [ht]; exact hPo1, fr_D hAC g10, hDj1⟩, g11.F ht⟩) g11.2.2 dL_undo_13
    | j + 1, hj, hk => exact nomatch hj
  · obtain ⟨Z1, rfl, x, rfl, hk⟩ := hp
    have hPo1 := fr_keep hPo hDj g12.2
    have hDj1 := fr_dj hPo hDj g10
    have hD1 := fr_D hAC g10
    refine lv_i2l (v := x.toInt64) hx hb dL_undo_6 rfl ?_
    refine va_last (ws := wO o cL v :: ab_w cT ad1 ac I1 A1 0 (shC Z1)) hx hb hK (wo_cons hPo1 g9) (wo_D hAo hD1 hDj1) g11 0 3 rfl rfl (by unfold vp_in; decide) dL_undo_7 (fun H2 locs2 k1 k2 k3 => ?_)
    refine lv_goto (tgt := 14) hx hb dL_undo_8 (by decide) ?_
    refine lv_iconst (v := nI 0) hx hb dL_undo_14 (by decide) ?_
    refine vx_ret (W.widen (k := 1) (n := 6) (Nat.le_of_ble_eq_true rfl) (Nat.le_of_ble_eq_true rfl) ?_)
    exact W.iret hx hb hr (fun t ht hW => ⟨⟨0, x, Z1, I1, A1, ad1, _, rfl, hk, (fun _ => wo_1), had, hokh, by rw [ht]; exact wo_tl k1, by rw [ht]; exact wo_hd k1, hD1, wo_dj hDj1⟩, k3.F ht⟩) k3.2.2 dL_undo_15
