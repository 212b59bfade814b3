theorem wr_frameOf {l : Launch} (htr : l.stackTraces = false) {D : va_G} {cT : FieldType → ClassId} {cL : ClassId} {ac ad : Nat → Nat} {sz o : Nat} {v : Nat → Int64} {Z : ab_Z} {I A : ab_F} {x0 x1 : Int32} {K : Nat → Int32 → ab_Z → ab_F → ab_F → Prop} (hM : ab_Cl mX11_frameOf 8 1 6 [.ref 0, .int x0, .int x1] (shC Z) I A (ab_Pz (fun E Z I A => ∃ j, ["java/lang/IndexOutOfBoundsException"][j]? = some E ∧ K (j + 1) 0 Z I A) (ab_zi (fun r Z I A => K 0 r Z I A)))) (hoh : ab_okH (shC Z)) : vx_Met l yL_frameOf (Cond.codeWith yL_frameOf cL_frameOf 5 (some .int) [(0, 10, 13, 25)] :: ab_ws) (ab_rm 9 1 6) (lw_wP D cT cL ac ad sz o v [.int x0, .int x1] Z I A) (lw_wQ D cT cL ac ad o (va_A (wO o cL v :: ab_w cT ad ac I A 0 (shC Z)) sz) K) (fun _ _ _ => False) 1 6 (va_A (wO o cL v :: ab_w cT ad ac I A 0 (shC Z)) sz) := by
  refine vx_ofWH (cc := cL_frameOf) (maxL := 5) (ret := some .int) (hh := [(0, 10, 13, 25)]) (by decide +kernel) rfl ?_
  intro p e s m args below meth c s₁ B hml hv
  obtain ⟨rfl, hsz, hP, hPo, hK, hD0, hDj, hCK, hN⟩ := hv
  have hx := B.exec
  have hb := B.bytes
  have hr := B.returns
  have hts0 := atoms_spec (ws := Cond.codeWith yL_frameOf cL_frameOf 5 (some .int) [(0, 10, 13, 25)] :: ab_ws) B.pre
  have hts := fun w (hw : w ∈ ab_ws) => hts0 w (List.mem_cons_of_mem _ hw)
  have hown : s.vm.findClass "CheckpointSwapLaw" = some m.cls := findClass_of_methodNamed B.named
  have htab := vx_table (x := yL_frameOf) B (hts0 _ List.mem_cons_self)
  subst hsz
  generalize hAe : va_A (wO o cL v :: ab_w cT ad ac I A 0 (shC Z)) s.heap.size = Ar at hCK ⊢
  have hA : ∀ q, s.heap.size ≤ q → Ar q := fun q h => by rw [← hAe]; exact Or.inr h
  have hAo : Ar o := by rw [← hAe]; exact Or.inl ⟨0, _, rfl⟩
  have hD : va_D Ar (ab_w cT ad ac I A 0 (shC Z)) := ⟨hD0.1, fun k q hk => by rw [← hAe]; exact Or.inl ⟨k + 1, q.2, hk⟩⟩
  have hAC : ∀ q, va_A (ab_w cT ad ac I A 0 (shC Z)) s.heap.size q → Ar q := fun q h => by
    rw [← hAe]; rcases h with ⟨k, e9, hk⟩ | hk
    · exact Or.inl ⟨k + 1, e9, hk⟩
    · exact Or.inr hk
  have hS : va_S Ar s.heap s.heap [] := va_S.rf
  have hl := lv_entry ((Value.ref (ad 0) :: [.int x0, .int x1]) ++ [.ref o]) (n := 5) (Nat.le_of_ble_eq_true rfl)
  rw [lg_entry_eq]
  generalize (lg_sl (((Value.ref (ad 0) :: [.int x0, .int x1]) ++ [.ref o])) ++ List.replicate (5 - (lg_sl (((Value.ref (ad 0) :: [.int x0, .int x1]) ++ [.ref o]))).length) Slot.unset).toArray = ls at hl ⊢
  have hl : lv_has ls 5 [(0, .ref (ad 0)), (1, .int x0), (2, .int x1), (3, .ref o)] := hl
  refine lv_aload_n hx hb dL_frameOf_0 rfl (lv_at hl 3 rfl) ?_
  refine lv_iconst (v := 0) hx hb dL_frameOf_1 (by decide) ?_
  refine lv_aload_n hx hb dL_frameOf_2 rfl (lv_at hl 0 rfl) ?_
  refine lv_iload_n hx hb dL_frameOf_3 rfl (lv_at hl 1 rfl) ?_
  refine lv_iload_n hx hb dL_frameOf_4 rfl (lv_at hl 2 rfl) ?_
  refine lw_callV (D := D) (cT := cT) (ac := ac) (ad := ad) (as := [.int x0, .int x1]) (rest := [.int 0, .ref o]) ⟨hx, hb, hml, hown, hts⟩ htr (lw_sub hK) hCK hA sC_0 vc_15 hM okX11_frameOf rfl (ab_in 1627 (by decide +kernel) rfl) (ab_in 1628 (by decide +kernel) rfl) (ab_in 1629 (by decide +kernel) rfl) (ab_in 96 (by decide +kernel) rfl) dL_frameOf_5 rfl rfl hl.1 (Nat.le_of_ble_eq_true rfl) (Nat.le_of_ble_eq_true rfl) (Nat.le_of_ble_eq_true rfl) (Nat.le_of_ble_eq_true rfl) (Nat.le_of_ble_eq_true rfl) hoh (fun v hv => ?_) hP hD hS (fun E ce q9 sh1 I1 A1 ad1 H1 locs1 hp had hokh g9 g10 g12 g11 c1 c2 c3 => ?_) (fun r sh1 I1 A1 ad1 H1 locs1 hp had hokh g9 g10 g12 g11 => ?_)
  · simp only [List.mem_cons, List.not_mem_nil, or_false] at hv
    rcases hv with h | h | h <;> subst h <;> first | exact trivial | (show 0 < (shC Z).length; rw [sh_len]; omega)
  · obtain ⟨Z1, rfl, j, hj, hk⟩ := hp
    have hPo1 := fr_keep hPo hDj g12.2
    have hDj1 := fr_dj hPo hDj g10
    match j, hj, hk with
    | 0, hj, hk =>
      cases hj
      refine vx_catch (name := "java/lang/IndexOutOfBoundsException") hown [] ⟨0, 10, 13, 25⟩ [] (by rw [htab]; rfl) (fun z hz => absurd hz List.not_mem_nil) (by decide) (by decide) (hts _ (ab_in 1494 (by decide +kernel) rfl)) (va_any rfl (hCK.2.2.2.2.1 _ (ab_ngm 18 rfl))) c1 c2 c3 ?_
      refine lv_astore (lv' := [(4, .ref q9), (0, .ref (ad 0)), (1, .int x0), (2, .int x1), (3, .ref o)]) hx hb dL_frameOf_13 hl (by decide) rfl (fun ls2 hl2 => ?_)
      refine lv_iconst (v := nI 1) hx hb dL_frameOf_15 (by decide) ?_
      refine vx_ret (W.widen (k := 1) (n := 6) (Nat.le_of_ble_eq_true rfl) (Nat.le_of_ble_eq_true rfl) ?_)
      exact W.iret hx hb hr (fun t ht hW => ⟨⟨1, 0, Z1, I1, A1, ad1, v, rfl, hk, (fun z => absurd z (by decide)), had, hokh, by rw [ht]; exact g9, by rw [ht]; exact hPo1, fr_D hAC g10, hDj1⟩, g11.F ht⟩) g11.2.2 dL_frameOf_16
    | j + 1, hj, hk => exact nomatch hj
  · obtain ⟨Z1, rfl, x, rfl, hk⟩ := hp
    have hPo1 := fr_keep hPo hDj g12.2
    have hDj1 := fr_dj hPo hDj g10
    have hD1 := fr_D hAC g10
    refine lv_i2l (v := x.toInt64) hx hb dL_frameOf_8 rfl ?_
    refine va_last (ws := wO o cL v :: ab_w cT ad1 ac I1 A1 0 (shC Z1)) hx hb hK (wo_cons hPo1 g9) (wo_D hAo hD1 hDj1) g11 0 3 rfl rfl (by unfold vp_in; decide) dL_frameOf_9 (fun H2 locs2 k1 k2 k3 => ?_)
    refine lv_goto (tgt := 17) hx hb dL_frameOf_10 (by decide) ?_
    refine lv_iconst (v := nI 0) hx hb dL_frameOf_17 (by decide) ?_
    refine vx_ret (W.widen (k := 1) (n := 6) (Nat.le_of_ble_eq_true rfl) (Nat.le_of_ble_eq_true rfl) ?_)
    exact W.iret hx hb hr (fun t ht hW => ⟨⟨0, x, Z1, I1, A1, ad1, _, rfl, hk, (fun _ => wo_1), had, hokh, by rw [ht]; exact wo_tl k1, by rw [ht]; exact wo_hd k1, hD1, wo_dj hDj1⟩, k3.F ht⟩) k3.2.2 dL_frameOf_18
theorem wr_slotOf {l : Launch} (htr : l.stackTraces = false) {D : va_G} {cT : FieldType → ClassId} {cL : ClassId} {ac ad : Nat → Nat} {sz o : Nat} {v : Nat → Int64} {Z : ab_Z} {I A : ab_F} {x0 x1 : Int32} {K : Nat → Int32 → ab_Z → ab_F → ab_F → Prop} (hM : ab_Cl mX11_slotOf 8 1 6 [.ref 0, .int x0, .int x1] (shC Z) I A (ab_Pz (fun E Z I A => ∃ j, ["java/lang/IndexOutOfBoundsException"][j]? = some E ∧ K (j + 1) 0 Z I A) (ab_zi (fun r Z I A => K 0 r Z I A)))) (hoh : ab_okH (shC Z)) : vx_Met l yL_slotOf (Cond.codeWith yL_slotOf cL_slotOf 5 (some .int) [(0, 10, 13, 25)] :: ab_ws) (ab_rm 9 1 6) (lw_wP D cT cL ac ad sz o v [.int x0, .int x1] Z I A) (lw_wQ D cT cL ac ad o (va_A (wO o cL v :: ab_w cT ad ac I A 0 (shC Z)) sz) K) (fun _ _ _ => False) 1 6 (va_A (wO o cL v :: ab_w cT ad ac I A 0 (shC Z)) sz) := by
  refine vx_ofWH (cc := cL_slotOf) (maxL := 5) (ret := some .int) (hh := [(0, 10, 13, 25)]) (by decide +kernel) rfl ?_
  intro p e s m args below meth c s₁ B hml hv
  obtain ⟨rfl, hsz, hP, hPo, hK, hD0, hDj, hCK, hN⟩ := hv
  have hx := B.exec
  have hb := B.bytes
  have hr := B.returns
  have hts0 := atoms_spec (ws := Cond.codeWith yL_slotOf cL_slotOf 5 (some .int) [(0, 10, 13, 25)] :: ab_ws) B.pre
  have hts := fun w (hw : w ∈ ab_ws) => hts0 w (List.mem_cons_of_mem _ hw)
  have hown : s.vm.findClass "CheckpointSwapLaw" = some m.cls := findClass_of_methodNamed B.named
  have htab := vx_table (x := yL_slotOf) B (hts0 _ List.mem_cons_self)
  subst hsz
  generalize hAe : va_A (wO o cL v :: ab_w cT ad ac I A 0 (shC Z)) s.heap.size = Ar at hCK ⊢
  have hA : ∀ q, s.heap.size ≤ q → Ar q := fun q h => by rw [← hAe]; exact Or.inr h
  have hAo : Ar o := by rw [← hAe]; exact Or.inl ⟨0, _, rfl⟩
  have hD : va_D Ar (ab_w cT ad ac I A 0 (shC Z)) := ⟨hD0.1, fun k q hk => by rw [← hAe]; exact Or.inl ⟨k + 1, q.2, hk⟩⟩
  have hAC : ∀ q, va_A (ab_w cT ad ac I A 0 (shC Z)) s.heap.size q → Ar q := fun q h => by
    rw [← hAe]; rcases h with ⟨k, e9, hk⟩ | hk
    · exact Or.inl ⟨k + 1, e9, hk⟩
    · exact Or.inr hk
  have hS : va_S Ar s.heap s.heap [] := va_S.rf
  have hl := lv_entry ((Value.ref (ad 0) :: [.int x0, .int x1]) ++ [.ref o]) (n := 5) (Nat.le_of_ble_eq_true rfl)
  rw [lg_entry_eq]
  generalize (lg_sl (((Value.ref (ad 0) :: [.int x0, .int x1]) ++ [.ref o])) ++ List.replicate (5 - (lg_sl (((Value.ref (ad 0) :: [.int x0, .int x1]) ++ [.ref o]))).length) Slot.unset).toArray = ls at hl ⊢
  have hl : lv_has ls 5 [(0, .ref (ad 0)), (1, .int x0), (2, .int x1), (3, .ref o)] := hl
  refine lv_aload_n hx hb dL_slotOf_0 rfl (lv_at hl 3 rfl) ?_
  refine lv_iconst (v := 0) hx hb dL_slotOf_1 (by decide) ?_
  refine lv_aload_n hx hb dL_slotOf_2 rfl (lv_at hl 0 rfl) ?_
  refine lv_iload_n hx hb dL_slotOf_3 rfl (lv_at hl 1 rfl) ?_
  refine lv_iload_n hx hb dL_slotOf_4 rfl (lv_at hl 2 rfl) ?_
  refine lw_callV (D := D) (cT := cT) (ac := ac) (ad := ad) (as := [.int x0, .int x1]) (rest := [.int 0, .ref o]) ⟨hx, hb, hml, hown, hts⟩ htr (lw_sub hK) hCK hA sC_0 vc_15 hM okX11_slotOf rfl (ab_in 1634 (by decide +kernel) rfl) (ab_in 1635 (by decide +kernel) rfl) (ab_in 1636 (by decide +kernel) rfl) (ab_in 96 (by decide +kernel) rfl) dL_slotOf_5 rfl rfl hl.1 (Nat.le_of_ble_eq_true rfl) (Nat.le_of_ble_eq_true rfl) (Nat.le_of_ble_eq_true rfl) (Nat.le_of_ble_eq_true rfl) (Nat.le_of_ble_eq_true rfl) hoh (fun v hv => ?_) hP hD hS (fun E ce q9 sh1 I1 A1 ad1 H1 locs1 hp had hokh g9 g10 g12 g11 c1 c2 c3 => ?_) (fun r sh1 I1 A1 ad1 H1 locs1 hp had hokh g9 g10 g12 g11 => ?_)
  · simp only [List.mem_cons, List.not_mem_nil, or_false] at hv
    rcases hv with h | h | h <;> subst h <;> first | exact trivial | (show 0 < (shC Z).length; rw [sh_len]; omega)
  · obtain ⟨Z1, rfl, j, hj, hk⟩ := hp
    have hPo1 := fr_keep hPo hDj g12.2
    have hDj1 := fr_dj hPo hDj g10
    match j, hj, hk with
    | 0, hj, hk =>
      cases hj
      refine vx_catch (name := "java/lang/IndexOutOfBoundsException") hown [] ⟨0, 10, 13, 25⟩ [] (by rw [htab]; rfl) (fun z hz => absurd hz List.not_mem_nil) (by decide) (by decide) (hts _ (ab_in 1494 (by decide +kernel) rfl)) (va_any rfl (hCK.2.2.2.2.1 _ (ab_ngm 18 rfl))) c1 c2 c3 ?_
      refine lv_astore (lv' := [(4, .ref q9), (0, .ref (ad 0)), (1, .int x0), (2, .int x1), (3, .ref o)]) hx hb dL_slotOf_13 hl (by decide) rfl (fun ls2 hl2 => ?_)
      refine lv_iconst (v := nI 1) hx hb dL_slotOf_15 (by decide) ?_
      refine vx_ret (W.widen (k := 1) (n := 6) (Nat.le_of_ble_eq_true rfl) (Nat.le_of_ble_eq_true rfl) ?_)
      exact W.iret hx hb hr (fun t ht hW => ⟨⟨1, 0, Z1, I1, A1, ad1, v, rfl, hk, (fun z => absurd z (by decide)), had, hokh, by rw [ht]; exact g9, by rw [ht]; exact hPo1, fr_D hAC g10, hDj1⟩, g11.F ht⟩) g11.2.2 dL_slotOf_16
    | j + 1, hj, hk => exact nomatch hj
  · obtain ⟨Z1, rfl, x, rfl, hk⟩ := hp
    have hPo1 := fr_keep hPo hDj g12.2
    have hDj1 := fr_dj hPo hDj g10
    have hD1 := fr_D hAC g10
    refine lv_i2l (v := x.toInt64) hx hb dL_slotOf_8 rfl ?_
    refine va_last (ws := wO o cL v :: ab_w cT ad1 ac I1 A1 0 (shC Z1)) hx hb hK (wo_cons hPo1 g9) (wo_D hAo hD1 hDj1) g11 0 3 rfl rfl (by unfold vp_in; decide) dL_slotOf_9 (fun H2 locs2 k1 k2 k3 => ?_)
    refine lv_goto (tgt := 17) hx hb dL_slotOf_10 (by decide) ?_
    refine lv_iconst (v := nI 0) hx hb dL_slotOf_17 (by decide) ?_
    refine vx_ret (W.widen (k := 1) (n := 6) (Nat.le_of_ble_eq_true rfl) (Nat.le_of_ble_eq_true rfl) ?_)
    exact W.iret hx hb hr (fun t ht hW => ⟨⟨0, x, Z1, I1, A1, ad1, _, rfl, hk, (fun _ => wo_1), had, hokh, by rw [ht]; exact wo_tl k1, by rw [ht]; exact wo_hd k1, hD1, wo_dj hDj1⟩, k3.F ht⟩) k3.2.2 dL_slotOf_18
theorem wr_frameOwner {l : Launch} (htr : l.stackTraces = false) {D : va_G} {cT : FieldType → ClassId} {cL : ClassId} {ac ad : Nat → Nat} {sz o : Nat} {v : Nat → Int64} {Z : ab_Z} {I A : ab_F} {x0 : Int32} {K : Nat → Int32 → ab_Z → ab_F → ab_F → Prop} (hM : ab_Cl mX11_frameOwner 8 1 6 [.ref 0, .int x0] (shC Z) I A (ab_Pz (fun E Z I A => ∃ j, ["java/lang/IndexOutOfBoundsException"][j]? = some E ∧ K (j + 1) 0 Z I A) (ab_zi (fun r Z I A => K 0 r Z I A)))) (hoh : ab_okH (shC Z)) : vx_Met l yL_frameOwner (Cond.codeWith yL_frameOwner cL_frameOwner 4 (some .int) [(0, 9, 12, 25)] :: ab_ws) (ab_rm 9 1 6) (lw_wP D cT cL ac ad sz o v [.int x0] Z I A) (lw_wQ D cT cL ac ad o (va_A (wO o cL v :: ab_w cT ad ac I A 0 (shC Z)) sz) K) (fun _ _ _ => False) 1 6 (va_A (wO o cL v :: ab_w cT ad ac I A 0 (shC Z)) sz) := by
  refine vx_ofWH (cc := cL_frameOwner) (maxL := 4) (ret := some .int) (hh := [(0, 9, 12, 25)]) (by decide +kernel) rfl ?_
  intro p e s m args below meth c s₁ B hml hv
  obtain ⟨rfl, hsz, hP, hPo, hK, hD0, hDj, hCK, hN⟩ := hv
  have hx := B.exec
  have hb := B.bytes
  have hr := B.returns
  have hts0 := atoms_spec (ws := Cond.codeWith yL_frameOwner cL_frameOwner 4 (some .int) [(0, 9, 12, 25)] :: ab_ws) B.pre
  have hts := fun w (hw : w ∈ ab_ws) => hts0 w (List.mem_cons_of_mem _ hw)
  have hown : s.vm.findClass "CheckpointSwapLaw" = some m.cls := findClass_of_methodNamed B.named
  have htab := vx_table (x := yL_frameOwner) B (hts0 _ List.mem_cons_self)
  subst hsz
  generalize hAe : va_A (wO o cL v :: ab_w cT ad ac I A 0 (shC Z)) s.heap.size = Ar at hCK ⊢
  have hA : ∀ q, s.heap.size ≤ q → Ar q := fun q h => by rw [← hAe]; exact Or.inr h
  have hAo : Ar o := by rw [← hAe]; exact Or.inl ⟨0, _, rfl⟩
  have hD : va_D Ar (ab_w cT ad ac I A 0 (shC Z)) := ⟨hD0.1, fun k q hk => by rw [← hAe]; exact Or.inl ⟨k + 1, q.2, hk⟩⟩
  have hAC : ∀ q, va_A (ab_w cT ad ac I A 0 (shC Z)) s.heap.size q → Ar q := fun q h => by
    rw [← hAe]; rcases h with ⟨k, e9, hk⟩ | hk
    · exact Or.inl ⟨k + 1, e9, hk⟩
    · exact Or.inr hk
  have hS : va_S Ar s.heap s.heap [] := va_S.rf
  have hl := lv_entry ((Value.ref (ad 0) :: [.int x0]) ++ [.ref o]) (n := 4) (Nat.le_of_ble_eq_true rfl)
  rw [lg_entry_eq]
  generalize (lg_sl (((Value.ref (ad 0) :: [.int x0]) ++ [.ref o])) ++ List.replicate (4 - (lg_sl (((Value.ref (ad 0) :: [.int x0]) ++ [.ref o]))).length) Slot.unset).toArray = ls at hl ⊢
  have hl : lv_has ls 4 [(0, .ref (ad 0)), (1, .int x0), (2, .ref o)] := hl
  refine lv_aload_n hx hb dL_frameOwner_0 rfl (lv_at hl 2 rfl) ?_
  refine lv_iconst (v := 0) hx hb dL_frameOwner_1 (by decide) ?_
  refine lv_aload_n hx hb dL_frameOwner_2 rfl (lv_at hl 0 rfl) ?_
  refine lv_iload_n hx hb dL_frameOwner_3 rfl (lv_at hl 1 rfl) ?_
  refine lw_callV (D := D) (cT := cT) (ac := ac) (ad := ad) (as := [.int x0]) (rest := [.int 0, .ref o]) ⟨hx, hb, hml, hown, hts⟩ htr (lw_sub hK) hCK hA sC_0 vc_15 hM okX11_frameOwner rfl (ab_in 1641 (by decide +kernel) rfl) (ab_in 1642 (by decide +kernel) rfl) (ab_in 1643 (by decide +kernel) rfl) (ab_in 96 (by decide +kernel) rfl) dL_frameOwner_4 rfl rfl hl.1 (Nat.le_of_ble_eq_true rfl) (Nat.le_of_ble_eq_true rfl) (Nat.le_of_ble_eq_true rfl) (Nat.le_of_ble_eq_true rfl) (Nat.le_of_ble_eq_true rfl) hoh (fun v hv => ?_) hP hD hS (fun E ce q9 sh1 I1 A1 ad1 H1 locs1 hp had hokh g9 g10 g12 g11 c1 c2 c3 => ?_) (fun r sh1 I1 A1 ad1 H1 locs1 hp had hokh g9 g10 g12 g11 => ?_)
  · simp only [List.mem_cons, List.not_mem_nil, or_false] at hv
    rcases hv with h | h <;> subst h <;> first | exact trivial | (show 0 < (shC Z).length; rw [sh_len]; omega)
  · obtain ⟨Z1, rfl, j, hj, hk⟩ := hp
    have hPo1 := fr_keep hPo hDj g12.2
    have hDj1 := fr_dj hPo hDj g10
    match j, hj, hk with
    | 0, hj, hk =>
      cases hj
      refine vx_catch (name := "java/lang/IndexOutOfBoundsException") hown [] ⟨0, 9, 12, 25⟩ [] (by rw [htab]; rfl) (fun z hz => absurd hz List.not_mem_nil) (by decide) (by decide) (hts _ (ab_in 1494 (by decide +kernel) rfl)) (va_any rfl (hCK.2.2.2.2.1 _ (ab_ngm 18 rfl))) c1 c2 c3 ?_
      refine lv_astore_n (lv' := [(3, .ref q9), (0, .ref (ad 0)), (1, .int x0), (2, .ref o)]) hx hb dL_frameOwner_12 rfl hl (by decide) rfl (fun ls2 hl2 => ?_)
      refine lv_iconst (v := nI 1) hx hb dL_frameOwner_13 (by decide) ?_
      refine vx_ret (W.widen (k := 1) (n := 6) (Nat.le_of_ble_eq_true rfl) (Nat.le_of_ble_eq_true rfl) ?_)
      exact W.iret hx hb hr (fun t ht hW => ⟨⟨1, 0, Z1, I1, A1, ad1, v, rfl, hk, (fun z => absurd z (by decide)), had, hokh, by rw [ht]; exact g9, by rw [ht]; exact hPo1, fr_D hAC g10, hDj1⟩, g11.F ht⟩) g11.2.2 dL_frameOwner_14
    | j + 1, hj, hk => exact nomatch hj
  · obtain ⟨Z1, rfl, x, rfl, hk⟩ := hp
    have hPo1 := fr_keep hPo hDj g12.2
    have hDj1 := fr_dj hPo hDj g10
    have hD1 := fr_D hAC g10
    refine lv_i2l (v := x.toInt64) hx hb dL_frameOwner_7 rfl ?_
    refine va_last (ws := wO o cL v :: ab_w cT ad1 ac I1 A1 0 (shC Z1)) hx hb hK (wo_cons hPo1 g9) (wo_D hAo hD1 hDj1) g11 0 3 rfl rfl (by unfold vp_in; decide) dL_frameOwner_8 (fun H2 locs2 k1 k2 k3 => ?_)
    refine lv_goto (tgt := 15) hx hb dL_frameOwner_9 (by decide) ?_
    refine lv_iconst (v := nI 0) hx hb dL_frameOwner_15 (by decide) ?_
    refine vx_ret (W.widen (k := 1) (n := 6) (Nat.le_of_ble_eq_true rfl) (Nat.le_of_ble_eq_true rfl) ?_)
    exact W.iret hx hb hr (fun t ht hW => ⟨⟨0, x, Z1, I1, A1, ad1, _, rfl, hk, (fun _ => wo_1), had, hokh, by rw [ht]; exact wo_tl k1, by rw [ht]; exact wo_hd k1, hD1, wo_dj hDj1⟩, k3.F ht⟩) k3.2.2 dL_frameOwner_16
theorem wr_frameTime {l : Launch} (htr : l.stackTraces = false) {D : va_G} {cT : FieldType → ClassId} {cL : ClassId} {ac ad : Nat → Nat} {sz o : Nat} {v : Nat → Int64} {Z : ab_Z} {I A : ab_F} {x0 x1 : Int32} {K : Nat → Int32 → ab_Z → ab_F → ab_F → Prop} (hM : ab_Cl mX11_frameTime 8 3 18 [.ref 0, .int x0, .int x1] (shC Z) I A (ab_Pz (fun E Z I A => ∃ j, ["java/lang/IndexOutOfBoundsException", "java/util/NoSuchElementException", "java/lang/IllegalArgumentException"][j]? = some E ∧ K (j + 1) 0 Z I A) (ab_zi (fun r Z I A => K 0 r Z I A)))) (hoh : ab_okH (shC Z)) : vx_Met l yL_frameTime (Cond.codeWith yL_frameTime cL_frameTime 5 (some .int) [(0, 10, 13, 25), (0, 10, 17, 52), (0, 10, 21, 19)] :: ab_ws) (ab_rm 9 3 18) (lw_wP D cT cL ac ad sz o v [.int x0, .int x1] Z I A) (lw_wQ D cT cL ac ad o (va_A (wO o cL v :: ab_w cT ad ac I A 0 (shC Z)) sz) K) (fun _ _ _ => False) 3 18 (va_A (wO o cL v :: ab_w cT ad ac I A 0 (shC Z)) sz) := by
  refine vx_ofWH (cc := cL_frameTime) (maxL := 5) (ret := some .int) (hh := [(0, 10, 13, 25), (0, 10, 17, 52), (0, 10, 21, 19)]) (by decide +kernel) rfl ?_
  intro p e s m args below meth c s₁ B hml hv
  obtain ⟨rfl, hsz, hP, hPo, hK, hD0, hDj, hCK, hN⟩ := hv
  have hx := B.exec
  have hb := B.bytes
  have hr := B.returns
  have hts0 := atoms_spec (ws := Cond.codeWith yL_frameTime cL_frameTime 5 (some .int) [(0, 10, 13, 25), (0, 10, 17, 52), (0, 10, 21, 19)] :: ab_ws) B.pre
  have hts := fun w (hw : w ∈ ab_ws) => hts0 w (List.mem_cons_of_mem _ hw)
  have hown : s.vm.findClass "CheckpointSwapLaw" = some m.cls := findClass_of_methodNamed B.named
  have htab := vx_table (x := yL_frameTime) B (hts0 _ List.mem_cons_self)
  subst hsz
  generalize hAe : va_A (wO o cL v :: ab_w cT ad ac I A 0 (shC Z)) s.heap.size = Ar at hCK ⊢
  have hA : ∀ q, s.heap.size ≤ q → Ar q := fun q h => by rw [← hAe]; exact Or.inr h
  have hAo : Ar o := by rw [← hAe]; exact Or.inl ⟨0, _, rfl⟩
  have hD : va_D Ar (ab_w cT ad ac I A 0 (shC Z)) := ⟨hD0.1, fun k q hk => by rw [← hAe]; exact Or.inl ⟨k + 1, q.2, hk⟩⟩
  have hAC : ∀ q, va_A (ab_w cT ad ac I A 0 (shC Z)) s.heap.size q → Ar q := fun q h => by
    rw [← hAe]; rcases h with ⟨k, e9, hk⟩ | hk
    · exact Or.inl ⟨k + 1, e9, hk⟩
    · exact Or.inr hk
  have hS : va_S Ar s.heap s.heap [] := va_S.rf
  have hl := lv_entry ((Value.ref (ad 0) :: [.int x0, .int x1]) ++ [.ref o]) (n := 5) (Nat.le_of_ble_eq_true rfl)
  rw [lg_entry_eq]
  generalize (lg_sl (((Value.ref (ad 0) :: [.int x0, .int x1]) ++ [.ref o])) ++ List.replicate (5 - (lg_sl (((Value.ref (ad 0) :: [.int x0, .int x1]) ++ [.ref o]))).length) Slot.unset).toArray = ls at hl ⊢
  have hl : lv_has ls 5 [(0, .ref (ad 0)), (1, .int x0), (2, .int x1), (3, .ref o)] := hl
  refine lv_aload_n hx hb dL_frameTime_0 rfl (lv_at hl 3 rfl) ?_
  refine lv_iconst (v := 0) hx hb dL_frameTime_1 (by decide) ?_
  refine lv_aload_n hx hb dL_frameTime_2 rfl (lv_at hl 0 rfl) ?_
  refine lv_iload_n hx hb dL_frameTime_3 rfl (lv_at hl 1 rfl) ?_
  refine lv_iload_n hx hb dL_frameTime_4 rfl (lv_at hl 2 rfl) ?_
  refine lw_callV (D := D) (cT := cT) (ac := ac) (ad := ad) (as := [.int x0, .int x1]) (rest := [.int 0, .ref o]) ⟨hx, hb, hml, hown, hts⟩ htr (lw_sub hK) hCK hA sC_0 vc_15 hM okX11_frameTime rfl (ab_in 1652 (by decide +kernel) rfl) (ab_in 1653 (by decide +kernel) rfl) (ab_in 1654 (by decide +kernel) rfl) (ab_in 96 (by decide +kernel) rfl) dL_frameTime_5 rfl rfl hl.1 (Nat.le_of_ble_eq_true rfl) (Nat.le_of_ble_eq_true rfl) (Nat.le_of_ble_eq_true rfl) (Nat.le_of_ble_eq_true rfl) (Nat.le_of_ble_eq_true rfl) hoh (fun v hv => ?_) hP hD hS (fun E ce q9 sh1 I1 A1 ad1 H1 locs1 hp had hokh g9 g10 g12 g11 c1 c2 c3 => ?_) (fun r sh1 I1 A1 ad1 H1 locs1 hp had hokh g9 g10 g12 g11 => ?_)
  · simp only [List.mem_cons, List.not_mem_nil, or_false] at hv
    rcases hv with h | h | h <;> subst h <;> first | exact trivial | (show 0 < (shC Z).length; rw [sh_len]; omega)
  · obtain ⟨Z1, rfl, j, hj, hk⟩ := hp
    have hPo1 := fr_keep hPo hDj g12.2
    have hDj1 := fr_dj hPo hDj g10
    match j, hj, hk with
    | 0, hj, hk =>
      cases hj
      refine vx_catch (name := "java/lang/IndexOutOfBoundsException") hown [] ⟨0, 10, 13, 25⟩ [⟨0, 10, 17, 52⟩, ⟨0, 10, 21, 19⟩] (by rw [htab]; rfl) (fun z hz => absurd hz List.not_mem_nil) (by decide) (by decide) (hts _ (ab_in 1494 (by decide +kernel) rfl)) (va_any rfl (hCK.2.2.2.2.1 _ (ab_ngm 18 rfl))) c1 c2 c3 ?_
      refine lv_astore (lv' := [(4, .ref q9), (0, .ref (ad 0)), (1, .int x0), (2, .int x1), (3, .ref o)]) hx hb dL_frameTime_13 hl (by decide) rfl (fun ls2 hl2 => ?_)
      refine lv_iconst (v := nI 1) hx hb dL_frameTime_15 (by decide) ?_
      refine vx_ret (W.widen (k := 3) (n := 18) (Nat.le_of_ble_eq_true rfl) (Nat.le_of_ble_eq_true rfl) ?_)
      exact W.iret hx hb hr (fun t ht hW => ⟨⟨1, 0, Z1, I1, A1, ad1, v, rfl, hk, (fun z => absurd z (by decide)), had, hokh, by rw [ht]; exact g9, by rw [ht]; exact hPo1, fr_D hAC g10, hDj1⟩, g11.F ht⟩) g11.2.2 dL_frameTime_16
    | 1, hj, hk =>
      cases hj
      refine vx_catch (name := "java/util/NoSuchElementException") hown [⟨0, 10, 13, 25⟩] ⟨0, 10, 17, 52⟩ [⟨0, 10, 21, 19⟩] (by rw [htab]; rfl) (fun z hz => by
      simp only [List.mem_cons, List.not_mem_nil, or_false] at hz
      have h9 := hz
      · subst h9; exact Or.inr ⟨by decide, "java/lang/IndexOutOfBoundsException", hts _ (ab_in 1494 (by decide +kernel) rfl), hN ("java/util/NoSuchElementException", "java/lang/IndexOutOfBoundsException") (by decide)⟩) (by decide) (by decide) (hts _ (ab_in 1559 (by decide +kernel) rfl)) (va_any rfl (hCK.2.2.2.2.1 _ (ab_ngm 19 rfl))) c1 c2 c3 ?_
      refine lv_astore (lv' := [(4, .ref q9), (0, .ref (ad 0)), (1, .int x0), (2, .int x1), (3, .ref o)]) hx hb dL_frameTime_17 hl (by decide) rfl (fun ls2 hl2 => ?_)
      refine lv_iconst (v := nI 2) hx hb dL_frameTime_19 (by decide) ?_
      refine vx_ret (W.widen (k := 3) (n := 18) (Nat.le_of_ble_eq_true rfl) (Nat.le_of_ble_eq_true rfl) ?_)
      exact W.iret hx hb hr (fun t ht hW => ⟨⟨2, 0, Z1, I1, A1, ad1, v, rfl, hk, (fun z => absurd z (by decide)), had, hokh, by rw [ht]; exact g9, by rw [ht]; exact hPo1, fr_D hAC g10, hDj1⟩, g11.F ht⟩) g11.2.2 dL_frameTime_20
    | 2, hj, hk =>
      cases hj
      refine vx_catch (name := "java/lang/IllegalArgumentException") hown [⟨0, 10, 13, 25⟩, ⟨0, 10, 17, 52⟩] ⟨0, 10, 21, 19⟩ [] (by rw [htab]; rfl) (fun z hz => by
      simp only [List.mem_cons, List.not_mem_nil, or_false] at hz
      rcases hz with h9 | h9
      · subst h9; exact Or.inr ⟨by decide, "java/lang/IndexOutOfBoundsException", hts _ (ab_in 1494 (by decide +kernel) rfl), hN ("java/lang/IllegalArgumentException", "java/lang/IndexOutOfBoundsException") (by decide)⟩
      · subst h9; exact Or.inr ⟨by decide, "java/util/NoSuchElementException", hts _ (ab_in 1559 (by decide +kernel) rfl), hN ("java/lang/IllegalArgumentException", "java/util/NoSuchElementException") (by decide)⟩) (by decide) (by decide) (hts _ (ab_in 1431 (by decide +kernel) rfl)) (va_any rfl (hCK.2.2.2.2.1 _ (ab_ngm 15 rfl))) c1 c2 c3 ?_
      refine lv_astore (lv' := [(4, .ref q9), (0, .ref (ad 0)), (1, .int x0), (2, .int x1), (3, .ref o)]) hx hb dL_frameTime_21 hl (by decide) rfl (fun ls2 hl2 => ?_)
      refine lv_iconst (v := nI 3) hx hb dL_frameTime_23 (by decide) ?_
      refine vx_ret (W.widen (k := 3) (n := 18) (Nat.le_of_ble_eq_true rfl) (Nat.le_of_ble_eq_true rfl) ?_)
      exact W.iret hx hb hr (fun t ht hW => ⟨⟨3, 0, Z1, I1, A1, ad1, v, rfl, hk, (fun z => absurd z (by decide)), had, hokh, by rw [ht]; exact g9, by rw [ht]; exact hPo1, fr_D hAC g10, hDj1⟩, g11.F ht⟩) g11.2.2 dL_frameTime_24
    | j + 3, hj, hk => exact nomatch hj
  · obtain ⟨Z1, rfl, x, rfl, hk⟩ := hp
    have hPo1 := fr_keep hPo hDj g12.2
    have hDj1 := fr_dj hPo hDj g10
    have hD1 := fr_D hAC g10
    refine lv_i2l (v := x.toInt64) hx hb dL_frameTime_8 rfl ?_
    refine va_last (ws := wO o cL v :: ab_w cT ad1 ac I1 A1 0 (shC Z1)) hx hb hK (wo_cons hPo1 g9) (wo_D hAo hD1 hDj1) g11 0 3 rfl rfl (by unfold vp_in; decide) dL_frameTime_9 (fun H2 locs2 k1 k2 k3 => ?_)
    refine lv_goto (tgt := 25) hx hb dL_frameTime_10 (by decide) ?_
    refine lv_iconst (v := nI 0) hx hb dL_frameTime_25 (by decide) ?_
    refine vx_ret (W.widen (k := 3) (n := 18) (Nat.le_of_ble_eq_true rfl) (Nat.le_of_ble_eq_true rfl) ?_)
    exact W.iret hx hb hr (fun t ht hW => ⟨⟨0, x, Z1, I1, A1, ad1, _, rfl, hk, (fun _ => wo_1), had, hokh, by rw [ht]; exact wo_tl k1, by rw [ht]; exact wo_hd k1, hD1, wo_dj hDj1⟩, k3.F ht⟩) k3.2.2 dL_frameTime_26
theorem wr_residentPages {l : Launch} (htr : l.stackTraces = false) {D : va_G} {cT : FieldType → ClassId} {cL : ClassId} {ac ad : Nat → Nat} {sz o : Nat} {v : Nat → Int64} {Z : ab_Z} {I A : ab_F} {x0 : Int32} {K : Nat → Int32 → ab_Z → ab_F → ab_F → Prop} (hM : ab_Cl mX11_residentPages 8 1 6 [.ref 0, .int x0] (shC Z) I A (ab_Pz (fun E Z I A => ∃ j, ["java/lang/IndexOutOfBoundsException"][j]? = some E ∧ K (j + 1) 0 Z I A) (ab_zi (fun r Z I A => K 0 r Z I A)))) (hoh : ab_okH (shC Z)) : vx_Met l yL_residentPages (Cond.codeWith yL_residentPages cL_residentPages 4 (some .int) [(0, 9, 12, 25)] :: ab_ws) (ab_rm 9 1 6) (lw_wP D cT cL ac ad sz o v [.int x0] Z I A) (lw_wQ D cT cL ac ad o (va_A (wO o cL v :: ab_w cT ad ac I A 0 (shC Z)) sz) K) (fun _ _ _ => False) 1 6 (va_A (wO o cL v :: ab_w cT ad ac I A 0 (shC Z)) sz) := by
  refine vx_ofWH (cc := cL_residentPages) (maxL := 4) (ret := some .int) (hh := [(0, 9, 12, 25)]) (by decide +kernel) rfl ?_
  intro p e s m args below meth c s₁ B hml hv
  obtain ⟨rfl, hsz, hP, hPo, hK, hD0, hDj, hCK, hN⟩ := hv
  have hx := B.exec
  have hb := B.bytes
  have hr := B.returns
  have hts0 := atoms_spec (ws := Cond.codeWith yL_residentPages cL_residentPages 4 (some .int) [(0, 9, 12, 25)] :: ab_ws) B.pre
  have hts := fun w (hw : w ∈ ab_ws) => hts0 w (List.mem_cons_of_mem _ hw)
  have hown : s.vm.findClass "CheckpointSwapLaw" = some m.cls := findClass_of_methodNamed B.named
  have htab := vx_table (x := yL_residentPages) B (hts0 _ List.mem_cons_self)
  subst hsz
  generalize hAe : va_A (wO o cL v :: ab_w cT ad ac I A 0 (shC Z)) s.heap.size = Ar at hCK ⊢
  have hA : ∀ q, s.heap.size ≤ q → Ar q := fun q h => by rw [← hAe]; exact Or.inr h
  have hAo : Ar o := by rw [← hAe]; exact Or.inl ⟨0, _, rfl⟩
  have hD : va_D Ar (ab_w cT ad ac I A 0 (shC Z)) := ⟨hD0.1, fun k q hk => by rw [← hAe]; exact Or.inl ⟨k + 1, q.2, hk⟩⟩
  have hAC : ∀ q, va_A (ab_w cT ad ac I A 0 (shC Z)) s.heap.size q → Ar q := fun q h => by
    rw [← hAe]; rcases h with ⟨k, e9, hk⟩ | hk
    · exact Or.inl ⟨k + 1, e9, hk⟩
    · exact Or.inr hk
  have hS : va_S Ar s.heap s.heap [] := va_S.rf
  have hl := lv_entry ((Value.ref (ad 0) :: [.int x0]) ++ [.ref o]) (n := 4) (Nat.le_of_ble_eq_true rfl)
  rw [lg_entry_eq]
  generalize (lg_sl (((Value.ref (ad 0) :: [.int x0]) ++ [.ref o])) ++ List.replicate (4 - (lg_sl (((Value.ref (ad 0) :: [.int x0]) ++ [.ref o]))).length) Slot.unset).toArray = ls at hl ⊢
  have hl : lv_has ls 4 [(0, .ref (ad 0)), (1, .int x0), (2, .ref o)] := hl
  refine lv_aload_n hx hb dL_residentPages_0 rfl (lv_at hl 2 rfl) ?_
  refine lv_iconst (v := 0) hx hb dL_residentPages_1 (by decide) ?_
  refine lv_aload_n hx hb dL_residentPages_2 rfl (lv_at hl 0 rfl) ?_
  refine lv_iload_n hx hb dL_residentPages_3 rfl (lv_at hl 1 rfl) ?_
  refine lw_callV (D := D) (cT := cT) (ac := ac) (ad := ad) (as := [.int x0]) (rest := [.int 0, .ref o]) ⟨hx, hb, hml, hown, hts⟩ htr (lw_sub hK) hCK hA sC_0 vc_15 hM okX11_residentPages rfl (ab_in 1662 (by decide +kernel) rfl) (ab_in 1663 (by decide +kernel) rfl) (ab_in 1664 (by decide +kernel) rfl) (ab_in 96 (by decide +kernel) rfl) dL_residentPages_4 rfl rfl hl.1 (Nat.le_of_ble_eq_true rfl) (Nat.le_of_ble_eq_true rfl) (Nat.le_of_ble_eq_true rfl) (Nat.le_of_ble_eq_true rfl) (Nat.le_of_ble_eq_true rfl) hoh (fun v hv => ?_) hP hD hS (fun E ce q9 sh1 I1 A1 ad1 H1 locs1 hp had hokh g9 g10 g12 g11 c1 c2 c3 => ?_) (fun r sh1 I1 A1 ad1 H1 locs1 hp had hokh g9 g10 g12 g11 => ?_)
  · simp only [List.mem_cons, List.not_mem_nil, or_false] at hv
    rcases hv with h | h <;> subst h <;> first | exact trivial | (show 0 < (shC Z).length; rw [sh_len]; omega)
  · obtain ⟨Z1, rfl, j, hj, hk⟩ := hp
    have hPo1 := fr_keep hPo hDj g12.2
    have hDj1 := fr_dj hPo hDj g10
    match j, hj, hk with
    | 0, hj, hk =>
      cases hj
      refine vx_catch (name := "java/lang/IndexOutOfBoundsException") hown [] ⟨0, 9, 12, 25⟩ [] (by rw [htab]; rfl) (fun z hz => absurd hz List.not_mem_nil) (by decide) (by decide) (hts _ (ab_in 1494 (by decide +kernel) rfl)) (va_any rfl (hCK.2.2.2.2.1 _ (ab_ngm 18 rfl))) c1 c2 c3 ?_
      refine lv_astore_n (lv' := [(3, .ref q9), (0, .ref (ad 0)), (1, .int x0), (2, .ref o)]) hx hb dL_residentPages_12 rfl hl (by decide) rfl (fun ls2 hl2 => ?_)
      refine lv_iconst (v := nI 1) hx hb dL_residentPages_13 (by decide) ?_
      refine vx_ret (W.widen (k := 1) (n := 6) (Nat.le_of_ble_eq_true rfl) (Nat.le_of_ble_eq_true rfl) ?_)
      exact W.iret hx hb hr (fun t ht hW => ⟨⟨1, 0, Z1, I1, A1, ad1, v, rfl, hk, (fun z => absurd z (by decide)), had, hokh, by rw [ht]; exact g9, by rw [ht]; exact hPo1, fr_D hAC g10, hDj1⟩, g11.F ht⟩) g11.2.2 dL_residentPages_14
    | j + 1, hj, hk => exact nomatch hj
  · obtain ⟨Z1, rfl, x, rfl, hk⟩ := hp
    have hPo1 := fr_keep hPo hDj g12.2
    have hDj1 := fr_dj hPo hDj g10
    have hD1 := fr_D hAC g10
    refine lv_i2l (v := x.toInt64) hx hb dL_residentPages_7 rfl ?_
    refine va_last (ws := wO o cL v :: ab_w cT ad1 ac I1 A1 0 (shC Z1)) hx hb hK (wo_cons hPo1 g9) (wo_D hAo hD1 hDj1) g11 0 3 rfl rfl (by unfold vp_in; decide) dL_residentPages_8 (fun H2 locs2 k1 k2 k3 => ?_)
    refine lv_goto (tgt := 15) hx hb dL_residentPages_9 (by decide) ?_
    refine lv_iconst (v := nI 0) hx hb dL_residentPages_15 (by decide) ?_
    refine vx_ret (W.widen (k := 1) (n := 6) (Nat.le_of_ble_eq_true rfl) (Nat.le_of_ble_eq_true rfl) ?_)
    exact W.iret hx hb hr (fun t ht hW => ⟨⟨0, x, Z1, I1, A1, ad1, _, rfl, hk, (fun _ => wo_1), had, hokh, by rw [ht]; exact wo_tl k1, by rw [ht]; exact wo_hd k1, hD1, wo_dj hDj1⟩, k3.F ht⟩) k3.2.2 dL_residentPages_16
theorem wr_dirtyPages {l : Launch} (htr : l.stackTraces = false) {D : va_G} {cT : FieldType → ClassId} {cL : ClassId} {ac ad : Nat → Nat} {sz o : Nat} {v : Nat → Int64} {Z : ab_Z} {I A : ab_F} {x0 : Int32} {K : Nat → Int32 → ab_Z → ab_F → ab_F → Prop} (hM : ab_Cl mX11_dirtyPages 8 1 6 [.ref 0, .int x0] (shC Z) I A (ab_Pz (fun E Z I A => ∃ j, ["java/lang/IndexOutOfBoundsException"][j]? = some E ∧ K (j + 1) 0 Z I A) (ab_zi (fun r Z I A => K 0 r Z I A)))) (hoh : ab_okH (shC Z)) : vx_Met l yL_dirtyPages (Cond.codeWith yL_dirtyPages cL_dirtyPages 4 (some .int) [(0, 9, 12, 25)] :: ab_ws) (ab_rm 9 1 6) (lw_wP D cT cL ac ad sz o v [.int x0] Z I A) (lw_wQ D cT cL ac ad o (va_A (wO o cL v :: ab_w cT ad ac I A 0 (shC Z)) sz) K) (fun _ _ _ => False) 1 6 (va_A (wO o cL v :: ab_w cT ad ac I A 0 (shC Z)) sz) := by
  refine vx_ofWH (cc := cL_dirtyPages) (maxL := 4) (ret := some .int) (hh := [(0, 9, 12, 25)]) (by decide +kernel) rfl ?_
  intro p e s m args below meth c s₁ B hml hv
  obtain ⟨rfl, hsz, hP, hPo, hK, hD0, hDj, hCK, hN⟩ := hv
  have hx := B.exec
  have hb := B.bytes
  have hr := B.returns
  have hts0 := atoms_spec (ws := Cond.codeWith yL_dirtyPages cL_dirtyPages 4 (some .int) [(0, 9, 12, 25)] :: ab_ws) B.pre
  have hts := fun w (hw : w ∈ ab_ws) => hts0 w (List.mem_cons_of_mem _ hw)
  have hown : s.vm.findClass "CheckpointSwapLaw" = some m.cls := findClass_of_methodNamed B.named
  have htab := vx_table (x := yL_dirtyPages) B (hts0 _ List.mem_cons_self)
  subst hsz
  generalize hAe : va_A (wO o cL v :: ab_w cT ad ac I A 0 (shC Z)) s.heap.size = Ar at hCK ⊢
  have hA : ∀ q, s.heap.size ≤ q → Ar q := fun q h => by rw [← hAe]; exact Or.inr h
  have hAo : Ar o := by rw [← hAe]; exact Or.inl ⟨0, _, rfl⟩
  have hD : va_D Ar (ab_w cT ad ac I A 0 (shC Z)) := ⟨hD0.1, fun k q hk => by rw [← hAe]; exact Or.inl ⟨k + 1, q.2, hk⟩⟩
  have hAC : ∀ q, va_A (ab_w cT ad ac I A 0 (shC Z)) s.heap.size q → Ar q := fun q h => by
    rw [← hAe]; rcases h with ⟨k, e9, hk⟩ | hk
    · exact Or.inl ⟨k + 1, e9, hk⟩
    · exact Or.inr hk
  have hS : va_S Ar s.heap s.heap [] := va_S.rf
  have hl := lv_entry ((Value.ref (ad 0) :: [.int x0]) ++ [.ref o]) (n := 4) (Nat.le_of_ble_eq_true rfl)
  rw [lg_entry_eq]
  generalize (lg_sl (((Value.ref (ad 0) :: [.int x0]) ++ [.ref o])) ++ List.replicate (4 - (lg_sl (((Value.ref (ad 0) :: [.int x0]) ++ [.ref o]))).length) Slot.unset).toArray = ls at hl ⊢
  have hl : lv_has ls 4 [(0, .ref (ad 0)), (1, .int x0), (2, .ref o)] := hl
  refine lv_aload_n hx hb dL_dirtyPages_0 rfl (lv_at hl 2 rfl) ?_
  refine lv_iconst (v := 0) hx hb dL_dirtyPages_1 (by decide) ?_
  refine lv_aload_n hx hb dL_dirtyPages_2 rfl (lv_at hl 0 rfl) ?_
  refine lv_iload_n hx hb dL_dirtyPages_3 rfl (lv_at hl 1 rfl) ?_
  refine lw_callV (D := D) (cT := cT) (ac := ac) (ad := ad) (as := [.int x0]) (rest := [.int 0, .ref o]) ⟨hx, hb, hml, hown, hts⟩ htr (lw_sub hK) hCK hA sC_0 vc_15 hM okX11_dirtyPages rfl (ab_in 1674 (by decide +kernel) rfl) (ab_in 1675 (by decide +kernel) rfl) (ab_in 1676 (by decide +kernel) rfl) (ab_in 96 (by decide +kernel) rfl) dL_dirtyPages_4 rfl rfl hl.1 (Nat.le_of_ble_eq_true rfl) (Nat.le_of_ble_eq_true rfl) (Nat.le_of_ble_eq_true rfl) (Nat.le_of_ble_eq_true rfl) (Nat.le_of_ble_eq_true rfl) hoh (fun v hv => ?_) hP hD hS (fun E ce q9 sh1 I1 A1 ad1 H1 locs1 hp had hokh g9 g10 g12 g11 c1 c2 c3 => ?_) (fun r sh1 I1 A1 ad1 H1 locs1 hp had hokh g9 g10 g12 g11 => ?_)
  · simp only [List.mem_cons, List.not_mem_nil, or_false] at hv
    rcases hv with h | h <;> subst h <;> first | exact trivial | (show 0 < (shC Z).length; rw [sh_len]; omega)
  · obtain ⟨Z1, rfl, j, hj, hk⟩ := hp
    have hPo1 := fr_keep hPo hDj g12.2
    have hDj1 := fr_dj hPo hDj g10
    match j, hj, hk with
    | 0, hj, hk =>
      cases hj
      refine vx_catch (name := "java/lang/IndexOutOfBoundsException") hown [] ⟨0, 9, 12, 25⟩ [] (by rw [htab]; rfl) (fun z hz => absurd hz List.not_mem_nil) (by decide) (by decide) (hts _ (ab_in 1494 (by decide +kernel) rfl)) (va_any rfl (hCK.2.2.2.2.1 _ (ab_ngm 18 rfl))) c1 c2 c3 ?_
      refine lv_astore_n (lv' := [(3, .ref q9), (0, .ref (ad 0)), (1, .int x0), (2, .ref o)]) hx hb dL_dirtyPages_12 rfl hl (by decide) rfl (fun ls2 hl2 => ?_)
      refine lv_iconst (v := nI 1) hx hb dL_dirtyPages_13 (by decide) ?_
      refine vx_ret (W.widen (k := 1) (n := 6) (Nat.le_of_ble_eq_true rfl) (Nat.le_of_ble_eq_true rfl) ?_)
      exact W.iret hx hb hr (fun t ht hW => ⟨⟨1, 0, Z1, I1, A1, ad1, v, rfl, hk, (fun z => absurd z (by decide)), had, hokh, by rw [ht]; exact g9, by rw [ht]; exact hPo1, fr_D hAC g10, hDj1⟩, g11.F ht⟩) g11.2.2 dL_dirtyPages_14
    | j + 1, hj, hk => exact nomatch hj
  · obtain ⟨Z1, rfl, x, rfl, hk⟩ := hp
    have hPo1 := fr_keep hPo hDj g12.2
    have hDj1 := fr_dj hPo hDj g10
    have hD1 := fr_D hAC g10
    refine lv_i2l (v := x.toInt64) hx hb dL_dirtyPages_7 rfl ?_
    refine va_last (ws := wO o cL v :: ab_w cT ad1 ac I1 A1 0 (shC Z1)) hx hb hK (wo_cons hPo1 g9) (wo_D hAo hD1 hDj1) g11 0 3 rfl rfl (by unfold vp_in; decide) dL_dirtyPages_8 (fun H2 locs2 k1 k2 k3 => ?_)
    refine lv_goto (tgt := 15) hx hb dL_dirtyPages_9 (by decide) ?_
    refine lv_iconst (v := nI 0) hx hb dL_dirtyPages_15 (by decide) ?_
    refine vx_ret (W.widen (k := 1) (n := 6) (Nat.le_of_ble_eq_true rfl) (Nat.le_of_ble_eq_true rfl) ?_)
    exact W.iret hx hb hr (fun t ht hW => ⟨⟨0, x, Z1, I1, A1, ad1, _, rfl, hk, (fun _ => wo_1), had, hokh, by rw [ht]; exact wo_tl k1, by rw [ht]; exact wo_hd k1, hD1, wo_dj hDj1⟩, k3.F ht⟩) k3.2.2 dL_dirtyPages_16
theorem wr_slotUse {l : Launch} (htr : l.stackTraces = false) {D : va_G} {cT : FieldType → ClassId} {cL : ClassId} {ac ad : Nat → Nat} {sz o : Nat} {v : Nat → Int64} {Z : ab_Z} {I A : ab_F} {x0 : Int32} {K : Nat → Int32 → ab_Z → ab_F → ab_F → Prop} (hM : ab_Cl mX11_slotUse 8 1 6 [.ref 0, .int x0] (shC Z) I A (ab_Pz (fun E Z I A => ∃ j, ["java/lang/IndexOutOfBoundsException"][j]? = some E ∧ K (j + 1) 0 Z I A) (ab_zi (fun r Z I A => K 0 r Z I A)))) (hoh : ab_okH (shC Z)) : vx_Met l yL_slotUse (Cond.codeWith yL_slotUse cL_slotUse 4 (some .int) [(0, 9, 12, 25)] :: ab_ws) (ab_rm 9 1 6) (lw_wP D cT cL ac ad sz o v [.int x0] Z I A) (lw_wQ D cT cL ac ad o (va_A (wO o cL v :: ab_w cT ad ac I A 0 (shC Z)) sz) K) (fun _ _ _ => False) 1 6 (va_A (wO o cL v :: ab_w cT ad ac I A 0 (shC Z)) sz) := by
  refine vx_ofWH (cc := cL_slotUse) (maxL := 4) (ret := some .int) (hh := [(0, 9, 12, 25)]) (by decide +kernel) rfl ?_
  intro p e s m args below meth c s₁ B hml hv
  obtain ⟨rfl, hsz, hP, hPo, hK, hD0, hDj, hCK, hN⟩ := hv
  have hx := B.exec
  have hb := B.bytes
  have hr := B.returns
  have hts0 := atoms_spec (ws := Cond.codeWith yL_slotUse cL_slotUse 4 (some .int) [(0, 9, 12, 25)] :: ab_ws) B.pre
  have hts := fun w (hw : w ∈ ab_ws) => hts0 w (List.mem_cons_of_mem _ hw)
  have hown : s.vm.findClass "CheckpointSwapLaw" = some m.cls := findClass_of_methodNamed B.named
  have htab := vx_table (x := yL_slotUse) B (hts0 _ List.mem_cons_self)
  subst hsz
  generalize hAe : va_A (wO o cL v :: ab_w cT ad ac I A 0 (shC Z)) s.heap.size = Ar at hCK ⊢
  have hA : ∀ q, s.heap.size ≤ q → Ar q := fun q h => by rw [← hAe]; exact Or.inr h
  have hAo : Ar o := by rw [← hAe]; exact Or.inl ⟨0, _, rfl⟩
  have hD : va_D Ar (ab_w cT ad ac I A 0 (shC Z)) := ⟨hD0.1, fun k q hk => by rw [← hAe]; exact Or.inl ⟨k + 1, q.2, hk⟩⟩
  have hAC : ∀ q, va_A (ab_w cT ad ac I A 0 (shC Z)) s.heap.size q → Ar q := fun q h => by
    rw [← hAe]; rcases h with ⟨k, e9, hk⟩ | hk
    · exact Or.inl ⟨k + 1, e9, hk⟩
    · exact Or.inr hk
  have hS : va_S Ar s.heap s.heap [] := va_S.rf
  have hl := lv_entry ((Value.ref (ad 0) :: [.int x0]) ++ [.ref o]) (n := 4) (Nat.le_of_ble_eq_true rfl)
  rw [lg_entry_eq]
  generalize (lg_sl (((Value.ref (ad 0) :: [.int x0]) ++ [.ref o])) ++ List.replicate (4 - (lg_sl (((Value.ref (ad 0) :: [.int x0]) ++ [.ref o]))).length) Slot.unset).toArray = ls at hl ⊢
  have hl : lv_has ls 4 [(0, .ref (ad 0)), (1, .int x0), (2, .ref o)] := hl
  refine lv_aload_n hx hb dL_slotUse_0 rfl (lv_at hl 2 rfl) ?_
  refine lv_iconst (v := 0) hx hb dL_slotUse_1 (by decide) ?_
  refine lv_aload_n hx hb dL_slotUse_2 rfl (lv_at hl 0 rfl) ?_
  refine lv_iload_n hx hb dL_slotUse_3 rfl (lv_at hl 1 rfl) ?_
  refine lw_callV (D := D) (cT := cT) (ac := ac) (ad := ad) (as := [.int x0]) (rest := [.int 0, .ref o]) ⟨hx, hb, hml, hown, hts⟩ htr (lw_sub hK) hCK hA sC_0 vc_15 hM okX11_slotUse rfl (ab_in 1681 (by decide +kernel) rfl) (ab_in 1682 (by decide +kernel) rfl) (ab_in 1683 (by decide +kernel) rfl) (ab_in 96 (by decide +kernel) rfl) dL_slotUse_4 rfl rfl hl.1 (Nat.le_of_ble_eq_true rfl) (Nat.le_of_ble_eq_true rfl) (Nat.le_of_ble_eq_true rfl) (Nat.le_of_ble_eq_true rfl) (Nat.le_of_ble_eq_true rfl) hoh (fun v hv => ?_) hP hD hS (fun E ce q9 sh1 I1 A1 ad1 H1 locs1 hp had hokh g9 g10 g12 g11 c1 c2 c3 => ?_) (fun r sh1 I1 A1 ad1 H1 locs1 hp had hokh g9 g10 g12 g11 => ?_)
  · simp only [List.mem_cons, List.not_mem_nil, or_false] at hv
    rcases hv with h | h <;> subst h <;> first | exact trivial | (show 0 < (shC Z).length; rw [sh_len]; omega)
  · obtain ⟨Z1, rfl, j, hj, hk⟩ := hp
    have hPo1 := fr_keep hPo hDj g12.2
    have hDj1 := fr_dj hPo hDj g10
    match j, hj, hk with
    | 0, hj, hk =>
      cases hj
      refine vx_catch (name := "java/lang/IndexOutOfBoundsException") hown [] ⟨0, 9, 12, 25⟩ [] (by rw [htab]; rfl) (fun z hz => absurd hz List.not_mem_nil) (by decide) (by decide) (hts _ (ab_in 1494 (by decide +kernel) rfl)) (va_any rfl (hCK.2.2.2.2.1 _ (ab_ngm 18 rfl))) c1 c2 c3 ?_
      refine lv_astore_n (lv' := [(3, .ref q9), (0, .ref (ad 0)), (1, .int x0), (2, .ref o)]) hx hb dL_slotUse_12 rfl hl (by decide) rfl (fun ls2 hl2 => ?_)
      refine lv_iconst (v := nI 1) hx hb dL_slotUse_13 (by decide) ?_
      refine vx_ret (W.widen (k := 1) (n := 6) (Nat.le_of_ble_eq_true rfl) (Nat.le_of_ble_eq_true rfl) ?_)
      exact W.iret hx hb hr (fun t ht hW => ⟨⟨1, 0, Z1, I1, A1, ad1, v, rfl, hk, (fun z => absurd z (by decide)), had, hokh, by rw [ht]; exact g9, by rw [ht]; exact hPo1, fr_D hAC g10, hDj1⟩, g11.F ht⟩) g11.2.2 dL_slotUse_14
    | j + 1, hj, hk => exact nomatch hj
  · obtain ⟨Z1, rfl, x, rfl, hk⟩ := hp
    have hPo1 := fr_keep hPo hDj g12.2
    have hDj1 := fr_dj hPo hDj g10
    have hD1 := fr_D hAC g10
    refine lv_i2l (v := x.toInt64) hx hb dL_slotUse_7 rfl ?_
    refine va_last (ws := wO o cL v :: ab_w cT ad1 ac I1 A1 0 (shC Z1)) hx hb hK (wo_cons hPo1 g9) (wo_D hAo hD1 hDj1) g11 0 3 rfl rfl (by unfold vp_in; decide) dL_slotUse_8 (fun H2 locs2 k1 k2 k3 => ?_)
    refine lv_goto (tgt := 15) hx hb dL_slotUse_9 (by decide) ?_
    refine lv_iconst (v := nI 0) hx hb dL_slotUse_15 (by decide) ?_
    refine vx_ret (W.widen (k := 1) (n := 6) (Nat.le_of_ble_eq_true rfl) (Nat.le_of_ble_eq_true rfl) ?_)
    exact W.iret hx hb hr (fun t ht hW => ⟨⟨0, x, Z1, I1, A1, ad1, _, rfl, hk, (fun _ => wo_1), had, hokh, by rw [ht]; exact wo_tl k1, by rw [ht]; exact wo_hd k1, hD1, wo_dj hDj1⟩, k3.F ht⟩) k3.2.2 dL_slotUse_16
theorem wr_slotOwner {l : Launch} (htr : l.stackTraces = false) {D : va_G} {cT : FieldType → ClassId} {cL : ClassId} {ac ad : Nat → Nat} {sz o : Nat} {v : Nat → Int64} {Z : ab_Z} {I A : ab_F} {x0 : Int32} {K : Nat → Int32 → ab_Z → ab_F → ab_F → Prop} (hM : ab_Cl mX11_slotOwner 8 1 6 [.ref 0, .int x0] (shC Z) I A (ab_Pz (fun E Z I A => ∃ j, ["java/lang/IndexOutOfBoundsException"][j]? = some E ∧ K (j + 1) 0 Z I A) (ab_zi (fun r Z I A => K 0 r Z I A)))) (hoh : ab_okH (shC Z)) : vx_Met l yL_slotOwner (Cond.codeWith yL_slotOwner cL_slotOwner 4 (some .int) [(0, 9, 12, 25)] :: ab_ws) (ab_rm 9 1 6) (lw_wP D cT cL ac ad sz o v [.int x0] Z I A) (lw_wQ D cT cL ac ad o (va_A (wO o cL v :: ab_w cT ad ac I A 0 (shC Z)) sz) K) (fun _ _ _ => False) 1 6 (va_A (wO o cL v :: ab_w cT ad ac I A 0 (shC Z)) sz) := by
  refine vx_ofWH (cc := cL_slotOwner) (maxL := 4) (ret := some .int) (hh := [(0, 9, 12, 25)]) (by decide +kernel) rfl ?_
  intro p e s m args below meth c s₁ B hml hv
  obtain ⟨rfl, hsz, hP, hPo, hK, hD0, hDj, hCK, hN⟩ := hv
  have hx := B.exec
  have hb := B.bytes
  have hr := B.returns
  have hts0 := atoms_spec (ws := Cond.codeWith yL_slotOwner cL_slotOwner 4 (some .int) [(0, 9, 12, 25)] :: ab_ws) B.pre
  have hts := fun w (hw : w ∈ ab_ws) => hts0 w (List.mem_cons_of_mem _ hw)
  have hown : s.vm.findClass "CheckpointSwapLaw" = some m.cls := findClass_of_methodNamed B.named
  have htab := vx_table (x := yL_slotOwner) B (hts0 _ List.mem_cons_self)
  subst hsz
  generalize hAe : va_A (wO o cL v :: ab_w cT ad ac I A 0 (shC Z)) s.heap.size = Ar at hCK ⊢
  have hA : ∀ q, s.heap.size ≤ q → Ar q := fun q h => by rw [← hAe]; exact Or.inr h
  have hAo : Ar o := by rw [← hAe]; exact Or.inl ⟨0, _, rfl⟩
  have hD : va_D Ar (ab_w cT ad ac I A 0 (shC Z)) := ⟨hD0.1, fun k q hk => by rw [← hAe]; exact Or.inl ⟨k + 1, q.2, hk⟩⟩
  have hAC : ∀ q, va_A (ab_w cT ad ac I A 0 (shC Z)) s.heap.size q → Ar q := fun q h => by
    rw [← hAe]; rcases h with ⟨k, e9, hk⟩ | hk
    · exact Or.inl ⟨k + 1, e9, hk⟩
    · exact Or.inr hk
  have hS : va_S Ar s.heap s.heap [] := va_S.rf
  have hl := lv_entry ((Value.ref (ad 0) :: [.int x0]) ++ [.ref o]) (n := 4) (Nat.le_of_ble_eq_true rfl)
  rw [lg_entry_eq]
  generalize (lg_sl (((Value.ref (ad 0) :: [.int x0]) ++ [.ref o])) ++ List.replicate (4 - (lg_sl (((Value.ref (ad 0) :: [.int x0]) ++ [.ref o]))).length) Slot.unset).toArray = ls at hl ⊢
  have hl : lv_has ls 4 [(0, .ref (ad 0)), (1, .int x0), (2, .ref o)] := hl
  refine lv_aload_n hx hb dL_slotOwner_0 rfl (lv_at hl 2 rfl) ?_
  refine lv_iconst (v := 0) hx hb dL_slotOwner_1 (by decide) ?_
  refine lv_aload_n hx hb dL_slotOwner_2 rfl (lv_at hl 0 rfl) ?_
  refine lv_iload_n hx hb dL_slotOwner_3 rfl (lv_at hl 1 rfl) ?_
  refine lw_callV (D := D) (cT := cT) (ac := ac) (ad := ad) (as := [.int x0]) (rest := [.int 0, .ref o]) ⟨hx, hb, hml, hown, hts⟩ htr (lw_sub hK) hCK hA sC_0 vc_15 hM okX11_slotOwner rfl (ab_in 1693 (by decide +kernel) rfl) (ab_in 1694 (by decide +kernel) rfl) (ab_in 1695 (by decide +kernel) rfl) (ab_in 96 (by decide +kernel) rfl) dL_slotOwner_4 rfl rfl hl.1 (Nat.le_of_ble_eq_true rfl) (Nat.le_of_ble_eq_true rfl) (Nat.le_of_ble_eq_true rfl) (Nat.le_of_ble_eq_true rfl) (Nat.le_of_ble_eq_true rfl) hoh (fun v hv => ?_) hP hD hS (fun E ce q9 sh1 I1 A1 ad1 H1 locs1 hp had hokh g9 g10 g12 g11 c1 c2 c3 => ?_) (fun r sh1 I1 A1 ad1 H1 locs1 hp had hokh g9 g10 g12 g11 => ?_)
  · simp only [List.mem_cons, List.not_mem_nil, or_false] at hv
    rcases hv with h | h <;> subst h <;> first | exact trivial | (show 0 < (shC Z).length; rw [sh_len]; omega)
  · obtain ⟨Z1, rfl, j, hj, hk⟩ := hp
    have hPo1 := fr_keep hPo hDj g12.2
    have hDj1 := fr_dj hPo hDj g10
    match j, hj, hk with
    | 0, hj, hk =>
      cases hj
      refine vx_catch (name := "java/lang/IndexOutOfBoundsException") hown [] ⟨0, 9, 12, 25⟩ [] (by rw [htab]; rfl) (fun z hz => absurd hz List.not_mem_nil) (by decide) (by decide) (hts _ (ab_in 1494 (by decide +kernel) rfl)) (va_any rfl (hCK.2.2.2.2.1 _ (ab_ngm 18 rfl))) c1 c2 c3 ?_
      refine lv_astore_n (lv' := [(3, .ref q9), (0, .ref (ad 0)), (1, .int x0), (2, .ref o)]) hx hb dL_slotOwner_12 rfl hl (by decide) rfl (fun ls2 hl2 => ?_)
      refine lv_iconst (v := nI 1) hx hb dL_slotOwner_13 (by decide) ?_
      refine vx_ret (W.widen (k := 1) (n := 6) (Nat.le_of_ble_eq_true rfl) (Nat.le_of_ble_eq_true rfl) ?_)
      exact W.iret hx hb hr (fun t ht hW => ⟨⟨1, 0, Z1, I1, A1, ad1, v, rfl, hk, (fun z => absurd z (by decide)), had, hokh, by rw [ht]; exact g9, by rw [ht]; exact hPo1, fr_D hAC g10, hDj1⟩, g11.F ht⟩) g11.2.2 dL_slotOwner_14
    | j + 1, hj, hk => exact nomatch hj
  · obtain ⟨Z1, rfl, x, rfl, hk⟩ := hp
    have hPo1 := fr_keep hPo hDj g12.2
    have hDj1 := fr_dj hPo hDj g10
    have hD1 := fr_D hAC g10
    refine lv_i2l (v := x.toInt64) hx hb dL_slotOwner_7 rfl ?_
    refine va_last (ws := wO o cL v :: ab_w cT ad1 ac I1 A1 0 (shC Z1)) hx hb hK (wo_cons hPo1 g9) (wo_D hAo hD1 hDj1) g11 0 3 rfl rfl (by unfold vp_in; decide) dL_slotOwner_8 (fun H2 locs2 k1 k2 k3 => ?_)
    refine lv_goto (tgt := 15) hx hb dL_slotOwner_9 (by decide) ?_
    refine lv_iconst (v := nI 0) hx hb dL_slotOwner_15 (by decide) ?_
    refine vx_ret (W.widen (k := 1) (n := 6) (Nat.le_of_ble_eq_true rfl) (Nat.le_of_ble_eq_true rfl) ?_)
    exact W.iret hx hb hr (fun t ht hW => ⟨⟨0, x, Z1, I1, A1, ad1, _, rfl, hk, (fun _ => wo_1), had, hokh, by rw [ht]; exact wo_tl k1, by rw [ht]; exact wo_hd k1, hD1, wo_dj hDj1⟩, k3.F ht⟩) k3.2.2 dL_slotOwner_16
theorem wr_slotStamp {l : Launch} (htr : l.stackTraces = false) {D : va_G} {cT : FieldType → ClassId} {cL : ClassId} {ac ad : Nat → Nat} {sz o : Nat} {v : Nat → Int64} {Z : ab_Z} {I A : ab_F} {x0 : Int32} {K : Nat → Int32 → ab_Z → ab_F → ab_F → Prop} (hM : ab_Cl mX11_slotStamp 8 1 6 [.ref 0, .int x0] (shC Z) I A (ab_Pz (fun E Z I A => ∃ j, ["java/lang/IndexOutOfBoundsException"][j]? = some E ∧ K (j + 1) 0 Z I A) (ab_zi (fun r Z I A => K 0 r Z I A)))) (hoh : ab_okH (shC Z)) : vx_Met l yL_slotStamp (Cond.codeWith yL_slotStamp cL_slotStamp 4 (some .int) [(0, 9, 12, 25)] :: ab_ws) (ab_rm 9 1 6) (lw_wP D cT cL ac ad sz o v [.int x0] Z I A) (lw_wQ D cT cL ac ad o (va_A (wO o cL v :: ab_w cT ad ac I A 0 (shC Z)) sz) K) (fun _ _ _ => False) 1 6 (va_A (wO o cL v :: ab_w cT ad ac I A 0 (shC Z)) sz) := by
  refine vx_ofWH (cc := cL_slotStamp) (maxL := 4) (ret := some .int) (hh := [(0, 9, 12, 25)]) (by decide +kernel) rfl ?_
  intro p e s m args below meth c s₁ B hml hv
  obtain ⟨rfl, hsz, hP, hPo, hK, hD0, hDj, hCK, hN⟩ := hv
  have hx := B.exec
  have hb := B.bytes
  have hr := B.returns
  have hts0 := atoms_spec (ws := Cond.codeWith yL_slotStamp cL_slotStamp 4 (some .int) [(0, 9, 12, 25)] :: ab_ws) B.pre
  have hts := fun w (hw : w ∈ ab_ws) => hts0 w (List.mem_cons_of_mem _ hw)
  have hown : s.vm.findClass "CheckpointSwapLaw" = some m.cls := findClass_of_methodNamed B.named
  have htab := vx_table (x := yL_slotStamp) B (hts0 _ List.mem_cons_self)
  subst hsz
  generalize hAe : va_A (wO o cL v :: ab_w cT ad ac I A 0 (shC Z)) s.heap.size = Ar at hCK ⊢
  have hA : ∀ q, s.heap.size ≤ q → Ar q := fun q h => by rw [← hAe]; exact Or.inr h
  have hAo : Ar o := by rw [← hAe]; exact Or.inl ⟨0, _, rfl⟩
  have hD : va_D Ar (ab_w cT ad ac I A 0 (shC Z)) := ⟨hD0.1, fun k q hk => by rw [← hAe]; exact Or.inl ⟨k + 1, q.2, hk⟩⟩
  have hAC : ∀ q, va_A (ab_w cT ad ac I A 0 (shC Z)) s.heap.size q → Ar q := fun q h => by
    rw [← hAe]; rcases h with ⟨k, e9, hk⟩ | hk
    · exact Or.inl ⟨k + 1, e9, hk⟩
    · exact Or.inr hk
  have hS : va_S Ar s.heap s.heap [] := va_S.rf
  have hl := lv_entry ((Value.ref (ad 0) :: [.int x0]) ++ [.ref o]) (n := 4) (Nat.le_of_ble_eq_true rfl)
  rw [lg_entry_eq]
  generalize (lg_sl (((Value.ref (ad 0) :: [.int x0]) ++ [.ref o])) ++ List.replicate (4 - (lg_sl (((Value.ref (ad 0) :: [.int x0]) ++ [.ref o]))).length) Slot.unset).toArray = ls at hl ⊢
  have hl : lv_has ls 4 [(0, .ref (ad 0)), (1, .int x0), (2, .ref o)] := hl
  refine lv_aload_n hx hb dL_slotStamp_0 rfl (lv_at hl 2 rfl) ?_
  refine lv_iconst (v := 0) hx hb dL_slotStamp_1 (by decide) ?_
  refine lv_aload_n hx hb dL_slotStamp_2 rfl (lv_at hl 0 rfl) ?_
  refine lv_iload_n hx hb dL_slotStamp_3 rfl (lv_at hl 1 rfl) ?_
  refine lw_callV (D := D) (cT := cT) (ac := ac) (ad := ad) (as := [.int x0]) (rest := [.int 0, .ref o]) ⟨hx, hb, hml, hown, hts⟩ htr (lw_sub hK) hCK hA sC_0 vc_15 hM okX11_slotStamp rfl (ab_in 1700 (by decide +kernel) rfl) (ab_in 1701 (by decide +kernel) rfl) (ab_in 1702 (by decide +kernel) rfl) (ab_in 96 (by decide +kernel) rfl) dL_slotStamp_4 rfl rfl hl.1 (Nat.le_of_ble_eq_true rfl) (Nat.le_of_ble_eq_true rfl) (Nat.le_of_ble_eq_true rfl) (Nat.le_of_ble_eq_true rfl) (Nat.le_of_ble_eq_true rfl) hoh (fun v hv => ?_) hP hD hS (fun E ce q9 sh1 I1 A1 ad1 H1 locs1 hp had hokh g9 g10 g12 g11 c1 c2 c3 => ?_) (fun r sh1 I1 A1 ad1 H1 locs1 hp had hokh g9 g10 g12 g11 => ?_)
  · simp only [List.mem_cons, List.not_mem_nil, or_false] at hv
    rcases hv with h | h <;> subst h <;> first | exact trivial | (show 0 < (shC Z).length; rw [sh_len]; omega)
  · obtain ⟨Z1, rfl, j, hj, hk⟩ := hp
    have hPo1 := fr_keep hPo hDj g12.2
    have hDj1 := fr_dj hPo hDj g10
    match j, hj, hk with
    | 0, hj, hk =>
      cases hj
      refine vx_catch (name := "java/lang/IndexOutOfBoundsException") hown [] ⟨0, 9, 12, 25⟩ [] (by rw [htab]; rfl) (fun z hz => absurd hz List.not_mem_nil) (by decide) (by decide) (hts _ (ab_in 1494 (by decide +kernel) rfl)) (va_any rfl (hCK.2.2.2.2.1 _ (ab_ngm 18 rfl))) c1 c2 c3 ?_
      refine lv_astore_n (lv' := [(3, .ref q9), (0, .ref (ad 0)), (1, .int x0), (2, .ref o)]) hx hb dL_slotStamp_12 rfl hl (by decide) rfl (fun ls2 hl2 => ?_)
      refine lv_iconst (v := nI 1) hx hb dL_slotStamp_13 (by decide) ?_
      refine vx_ret (W.widen (k := 1) (n := 6) (Nat.le_of_ble_eq_true rfl) (Nat.le_of_ble_eq_true rfl) ?_)
      exact W.iret hx hb hr (fun t ht hW => ⟨⟨1, 0, Z1, I1, A1, ad1, v, rfl, hk, (fun z => absurd z (by decide)), had, hokh, by rw [ht]; exact g9, by rw [ht]; exact hPo1, fr_D hAC g10, hDj1⟩, g11.F ht⟩) g11.2.2 dL_slotStamp_14
    | j + 1, hj, hk => exact nomatch hj
  · obtain ⟨Z1, rfl, x, rfl, hk⟩ := hp
    have hPo1 := fr_keep hPo hDj g12.2
    have hDj1 := fr_dj hPo hDj g10
    have hD1 := fr_D hAC g10
    refine lv_i2l (v := x.toInt64) hx hb dL_slotStamp_7 rfl ?_
    refine va_last (ws := wO o cL v :: ab_w cT ad1 ac I1 A1 0 (shC Z1)) hx hb hK (wo_cons hPo1 g9) (wo_D hAo hD1 hDj1) g11 0 3 rfl rfl (by unfold vp_in; decide) dL_slotStamp_8 (fun H2 locs2 k1 k2 k3 => ?_)
    refine lv_goto (tgt := 15) hx hb dL_slotStamp_9 (by decide) ?_
    refine lv_iconst (v := nI 0) hx hb dL_slotStamp_15 (by decide) ?_
    refine vx_ret (W.widen (k := 1) (n := 6) (Nat.le_of_ble_eq_true rfl) (Nat.le_of_ble_eq_true rfl) ?_)
    exact W.iret hx hb hr (fun t ht hW => ⟨⟨0, x, Z1, I1, A1, ad1, _, rfl, hk, (fun _ => wo_1), had, hokh, by rw [ht]; exact wo_tl k1, by rw [ht]; exact wo_hd k1, hD1, wo_dj hDj1⟩, k3.F ht⟩) k3.2.2 dL_slotStamp_16
theorem wr_slotValue {l : Launch} (htr : l.stackTraces = false) {D : va_G} {cT : FieldType → ClassId} {cL : ClassId} {ac ad : Nat → Nat} {sz o : Nat} {v : Nat → Int64} {Z : ab_Z} {I A : ab_F} {x0 : Int32} {K : Nat → Int32 → ab_Z → ab_F → ab_F → Prop} (hM : ab_Cl mX11_slotValue 8 1 6 [.ref 0, .int x0] (shC Z) I A (ab_Pz (fun E Z I A => ∃ j, ["java/lang/IndexOutOfBoundsException"][j]? = some E ∧ K (j + 1) 0 Z I A) (ab_zi (fun r Z I A => K 0 r Z I A)))) (hoh : ab_okH (shC Z)) : vx_Met l yL_slotValue (Cond.codeWith yL_slotValue cL_slotValue 4 (some .int) [(0, 9, 12, 25)] :: ab_ws) (ab_rm 9 1 6) (lw_wP D cT cL ac ad sz o v [.int x0] Z I A) (lw_wQ D cT cL ac ad o (va_A (wO o cL v :: ab_w cT ad ac I A 0 (shC Z)) sz) K) (fun _ _ _ => False) 1 6 (va_A (wO o cL v :: ab_w cT ad ac I A 0 (shC Z)) sz) := by
  refine vx_ofWH (cc := cL_slotValue) (maxL := 4) (ret := some .int) (hh := [(0, 9, 12, 25)]) (by decide +kernel) rfl ?_
  intro p e s m args below meth c s₁ B hml hv
  obtain ⟨rfl, hsz, hP, hPo, hK, hD0, hDj, hCK, hN⟩ := hv
  have hx := B.exec
  have hb := B.bytes
  have hr := B.returns
  have hts0 := atoms_spec (ws := Cond.codeWith yL_slotValue cL_slotValue 4 (some .int) [(0, 9, 12, 25)] :: ab_ws) B.pre
  have hts := fun w (hw : w ∈ ab_ws) => hts0 w (List.mem_cons_of_mem _ hw)
  have hown : s.vm.findClass "CheckpointSwapLaw" = some m.cls := findClass_of_methodNamed B.named
  have htab := vx_table (x := yL_slotValue) B (hts0 _ List.mem_cons_self)
  subst hsz
  generalize hAe : va_A (wO o cL v :: ab_w cT ad ac I A 0 (shC Z)) s.heap.size = Ar at hCK ⊢
  have hA : ∀ q, s.heap.size ≤ q → Ar q := fun q h => by rw [← hAe]; exact Or.inr h
  have hAo : Ar o := by rw [← hAe]; exact Or.inl ⟨0, _, rfl⟩
  have hD : va_D Ar (ab_w cT ad ac I A 0 (shC Z)) := ⟨hD0.1, fun k q hk => by rw [← hAe]; exact Or.inl ⟨k + 1, q.2, hk⟩⟩
  have hAC : ∀ q, va_A (ab_w cT ad ac I A 0 (shC Z)) s.heap.size q → Ar q := fun q h => by
    rw [← hAe]; rcases h with ⟨k, e9, hk⟩ | hk
    · exact Or.inl ⟨k + 1, e9, hk⟩
    · exact Or.inr hk
  have hS : va_S Ar s.heap s.heap [] := va_S.rf
  have hl := lv_entry ((Value.ref (ad 0) :: [.int x0]) ++ [.ref o]) (n := 4) (Nat.le_of_ble_eq_true rfl)
  rw [lg_entry_eq]
  generalize (lg_sl (((Value.ref (ad 0) :: [.int x0]) ++ [.ref o])) ++ List.replicate (4 - (lg_sl (((Value.ref (ad 0) :: [.int x0]) ++ [.ref o]))).length) Slot.unset).toArray = ls at hl ⊢
  have hl : lv_has ls 4 [(0, .ref (ad 0)), (1, .int x0), (2, .ref o)] := hl
  refine lv_aload_n hx hb dL_slotValue_0 rfl (lv_at hl 2 rfl) ?_
  refine lv_iconst (v := 0) hx hb dL_slotValue_1 (by decide) ?_
  refine lv_aload_n hx hb dL_slotValue_2 rfl (lv_at hl 0 rfl) ?_
  refine lv_iload_n hx hb dL_slotValue_3 rfl (lv_at hl 1 rfl) ?_
  refine lw_callV (D := D) (cT := cT) (ac := ac) (ad := ad) (as := [.int x0]) (rest := [.int 0, .ref o]) ⟨hx, hb, hml, hown, hts⟩ htr (lw_sub hK) hCK hA sC_0 vc_15 hM okX11_slotValue rfl (ab_in 1707 (by decide +kernel) rfl) (ab_in 1708 (by decide +kernel) rfl) (ab_in 1709 (by decide +kernel) rfl) (ab_in 96 (by decide +kernel) rfl) dL_slotValue_4 rfl rfl hl.1 (Nat.le_of_ble_eq_true rfl) (Nat.le_of_ble_eq_true rfl) (Nat.le_of_ble_eq_true rfl) (Nat.le_of_ble_eq_true rfl) (Nat.le_of_ble_eq_true rfl) hoh (fun v hv => ?_) hP hD hS (fun E ce q9 sh1 I1 A1 ad1 H1 locs1 hp had hokh g9 g10 g12 g11 c1 c2 c3 => ?_) (fun r sh1 I1 A1 ad1 H1 locs1 hp had hokh g9 g10 g12 g11 => ?_)
  · simp only [List.mem_cons, List.not_mem_nil, or_false] at hv
    rcases hv with h | h <;> subst h <;> first | exact trivial | (show 0 < (shC Z).length; rw [sh_len]; omega)
  · obtain ⟨Z1, rfl, j, hj, hk⟩ := hp
    have hPo1 := fr_keep hPo hDj g12.2
    have hDj1 := fr_dj hPo hDj g10
    match j, hj, hk with
    | 0, hj, hk =>
      cases hj
      refine vx_catch (name := "java/lang/IndexOutOfBoundsException") hown [] ⟨0, 9, 12, 25⟩ [] (by rw [htab]; rfl) (fun z hz => absurd hz List.not_mem_nil) (by decide) (by decide) (hts _ (ab_in 1494 (by decide +kernel) rfl)) (va_any rfl (hCK.2.2.2.2.1 _ (ab_ngm 18 rfl))) c1 c2 c3 ?_
      refine lv_astore_n (lv' := [(3, .ref q9), (0, .ref (ad 0)), (1, .int x0), (2, .ref o)]) hx hb dL_slotValue_12 rfl hl (by decide) rfl (fun ls2 hl2 => ?_)
      refine lv_iconst (v := nI 1) hx hb dL_slotValue_13 (by decide) ?_
      refine vx_ret (W.widen (k := 1) (n := 6) (Nat.le_of_ble_eq_true rfl) (Nat.le_of_ble_eq_true rfl) ?_)
      exact W.iret hx hb hr (fun t ht hW => ⟨⟨1, 0, Z1, I1, A1, ad1, v, rfl, hk, (fun z => absurd z (by decide)), had, hokh, by rw [ht]; exact g9, by rw [ht]; exact hPo1, fr_D hAC g10, hDj1⟩, g11.F ht⟩) g11.2.2 dL_slotValue_14
    | j + 1, hj, hk => exact nomatch hj
  · obtain ⟨Z1, rfl, x, rfl, hk⟩ := hp
    have hPo1 := fr_keep hPo hDj g12.2
    have hDj1 := fr_dj hPo hDj g10
    have hD1 := fr_D hAC g10
    refine lv_i2l (v := x.toInt64) hx hb dL_slotValue_7 rfl ?_
    refine va_last (ws := wO o cL v :: ab_w cT ad1 ac I1 A1 0 (shC Z1)) hx hb hK (wo_cons hPo1 g9) (wo_D hAo hD1 hDj1) g11 0 3 rfl rfl (by unfold vp_in; decide) dL_slotValue_8 (fun H2 locs2 k1 k2 k3 => ?_)
    refine lv_goto (tgt := 15) hx hb dL_slotValue_9 (by decide) ?_
    refine lv_iconst (v := nI 0) hx hb dL_slotValue_15 (by decide) ?_
    refine vx_ret (W.widen (k := 1) (n := 6) (Nat.le_of_ble_eq_true rfl) (Nat.le_of_ble_eq_true rfl) ?_)
    exact W.iret hx hb hr (fun t ht hW => ⟨⟨0, x, Z1, I1, A1, ad1, _, rfl, hk, (fun _ => wo_1), had, hokh, by rw [ht]; exact wo_tl k1, by rw [ht]; exact wo_hd k1, hD1, wo_dj hDj1⟩, k3.F ht⟩) k3.2.2 dL_slotValue_16
theorem wr_freeSlot {l : Launch} (htr : l.stackTraces = false) {D : va_G} {cT : FieldType → ClassId} {cL : ClassId} {ac ad : Nat → Nat} {sz o : Nat} {v : Nat → Int64} {Z : ab_Z} {I A : ab_F} {x0 : Int32} {K : Nat → Int32 → ab_Z → ab_F → ab_F → Prop} (hM : ab_Cl mX11_freeSlot 8 1 6 [.ref 0, .int x0] (shC Z) I A (ab_Pz (fun E Z I A => ∃ j, ["java/lang/IndexOutOfBoundsException"][j]? = some E ∧ K (j + 1) 0 Z I A) (ab_zi (fun r Z I A => K 0 r Z I A)))) (hoh : ab_okH (shC Z)) : vx_Met l yL_freeSlot (Cond.codeWith yL_freeSlot cL_freeSlot 4 (some .int) [(0, 9, 12, 25)] :: ab_ws) (ab_rm 9 1 6) (lw_wP D cT cL ac ad sz o v [.int x0] Z I A) (lw_wQ D cT cL ac ad o (va_A (wO o cL v :: ab_w cT ad ac I A 0 (shC Z)) sz) K) (fun _ _ _ => False) 1 6 (va_A (wO o cL v :: ab_w cT ad ac I A 0 (shC Z)) sz) := by
  refine vx_ofWH (cc := cL_freeSlot) (maxL := 4) (ret := some .int) (hh := [(0, 9, 12, 25)]) (by decide +kernel) rfl ?_
  intro p e s m args below meth c s₁ B hml hv
  obtain ⟨rfl, hsz, hP, hPo, hK, hD0, hDj, hCK, hN⟩ := hv
  have hx := B.exec
  have hb := B.bytes
  have hr := B.returns
  have hts0 := atoms_spec (ws := Cond.codeWith yL_freeSlot cL_freeSlot 4 (some .int) [(0, 9, 12, 25)] :: ab_ws) B.pre
  have hts := fun w (hw : w ∈ ab_ws) => hts0 w (List.mem_cons_of_mem _ hw)
  have hown : s.vm.findClass "CheckpointSwapLaw" = some m.cls := findClass_of_methodNamed B.named
  have htab := vx_table (x := yL_freeSlot) B (hts0 _ List.mem_cons_self)
  subst hsz
  generalize hAe : va_A (wO o cL v :: ab_w cT ad ac I A 0 (shC Z)) s.heap.size = Ar at hCK ⊢
  have hA : ∀ q, s.heap.size ≤ q → Ar q := fun q h => by rw [← hAe]; exact Or.inr h
  have hAo : Ar o := by rw [← hAe]; exact Or.inl ⟨0, _, rfl⟩
  have hD : va_D Ar (ab_w cT ad ac I A 0 (shC Z)) := ⟨hD0.1, fun k q hk => by rw [← hAe]; exact Or.inl ⟨k + 1, q.2, hk⟩⟩
  have hAC : ∀ q, va_A (ab_w cT ad ac I A 0 (shC Z)) s.heap.size q → Ar q := fun q h => by
    rw [← hAe]; rcases h with ⟨k, e9, hk⟩ | hk
    · exact Or.inl ⟨k + 1, e9, hk⟩
    · exact Or.inr hk
  have hS : va_S Ar s.heap s.heap [] := va_S.rf
  have hl := lv_entry ((Value.ref (ad 0) :: [.int x0]) ++ [.ref o]) (n := 4) (Nat.le_of_ble_eq_true rfl)
  rw [lg_entry_eq]
  generalize (lg_sl (((Value.ref (ad 0) :: [.int x0]) ++ [.ref o])) ++ List.replicate (4 - (lg_sl (((Value.ref (ad 0) :: [.int x0]) ++ [.ref o]))).length) Slot.unset).toArray = ls at hl ⊢
  have hl : lv_has ls 4 [(0, .ref (ad 0)), (1, .int x0), (2, .ref o)] := hl
  refine lv_aload_n hx hb dL_freeSlot_0 rfl (lv_at hl 2 rfl) ?_
  refine lv_iconst (v := 0) hx hb dL_freeSlot_1 (by decide) ?_
  refine lv_aload_n hx hb dL_freeSlot_2 rfl (lv_at hl 0 rfl) ?_
  refine lv_iload_n hx hb dL_freeSlot_3 rfl (lv_at hl 1 rfl) ?_
  refine lw_callV (D := D) (cT := cT) (ac := ac) (ad := ad) (as := [.int x0]) (rest := [.int 0, .ref o]) ⟨hx, hb, hml, hown, hts⟩ htr (lw_sub hK) hCK hA sC_0 vc_15 hM okX11_freeSlot rfl (ab_in 1714 (by decide +kernel) rfl) (ab_in 1715 (by decide +kernel) rfl) (ab_in 1716 (by decide +kernel) rfl) (ab_in 96 (by decide +kernel) rfl) dL_freeSlot_4 rfl rfl hl.1 (Nat.le_of_ble_eq_true rfl) (Nat.le_of_ble_eq_true rfl) (Nat.le_of_ble_eq_true rfl) (Nat.le_of_ble_eq_true rfl) (Nat.le_of_ble_eq_true rfl) hoh (fun v hv => ?_) hP hD hS (fun E ce q9 sh1 I1 A1 ad1 H1 locs1 hp had hokh g9 g10 g12 g11 c1 c2 c3 => ?_) (fun r sh1 I1 A1 ad1 H1 locs1 hp had hokh g9 g10 g12 g11 => ?_)
  · simp only [List.mem_cons, List.not_mem_nil, or_false] at hv
    rcases hv with h | h <;> subst h <;> first | exact trivial | (show 0 < (shC Z).length; rw [sh_len]; omega)
  · obtain ⟨Z1, rfl, j, hj, hk⟩ := hp
    have hPo1 := fr_keep hPo hDj g12.2
    have hDj1 := fr_dj hPo hDj g10
    match j, hj, hk with
    | 0, hj, hk =>
      cases hj
      refine vx_catch (name := "java/lang/IndexOutOfBoundsException") hown [] ⟨0, 9, 12, 25⟩ [] (by rw [htab]; rfl) (fun z hz => absurd hz List.not_mem_nil) (by decide) (by decide) (hts _ (ab_in 1494 (by decide +kernel) rfl)) (va_any rfl (hCK.2.2.2.2.1 _ (ab_ngm 18 rfl))) c1 c2 c3 ?_
      refine lv_astore_n (lv' := [(3, .ref q9), (0, .ref (ad 0)), (1, .int x0), (2, .ref o)]) hx hb dL_freeSlot_12 rfl hl (by decide) rfl (fun ls2 hl2 => ?_)
      refine lv_iconst (v := nI 1) hx hb dL_freeSlot_13 (by decide) ?_
      refine vx_ret (W.widen (k := 1) (n := 6) (Nat.le_of_ble_eq_true rfl) (Nat.le_of_ble_eq_true rfl) ?_)
      exact W.iret hx hb hr (fun t ht hW => ⟨⟨1, 0, Z1, I1, A1, ad1, v, rfl, hk, (fun z => absurd z (by decide)), had, hokh, by rw [ht]; exact g9, by rw [ht]; exact hPo1, fr_D hAC g10, hDj1⟩, g11.F ht⟩) g11.2.2 dL_freeSlot_14
    | j + 1, hj, hk => exact nomatch hj
  · obtain ⟨Z1, rfl, x, rfl, hk⟩ := hp
    have hPo1 := fr_keep hPo hDj g12.2
    have hDj1 := fr_dj hPo hDj g10
    have hD1 := fr_D hAC g10
    refine lv_i2l (v := x.toInt64) hx hb dL_freeSlot_7 rfl ?_
    refine va_last (ws := wO o cL v :: ab_w cT ad1 ac I1 A1 0 (shC Z1)) hx hb hK (wo_cons hPo1 g9) (wo_D hAo hD1 hDj1) g11 0 3 rfl rfl (by unfold vp_in; decide) dL_freeSlot_8 (fun H2 locs2 k1 k2 k3 => ?_)
    refine lv_goto (tgt := 15) hx hb dL_freeSlot_9 (by decide) ?_
    refine lv_iconst (v := nI 0) hx hb dL_freeSlot_15 (by decide) ?_
    refine vx_ret (W.widen (k := 1) (n := 6) (Nat.le_of_ble_eq_true rfl) (Nat.le_of_ble_eq_true rfl) ?_)
    exact W.iret hx hb hr (fun t ht hW => ⟨⟨0, x, Z1, I1, A1, ad1, _, rfl, hk, (fun _ => wo_1), had, hokh, by rw [ht]; exact wo_tl k1, by rw [ht]; exact wo_hd k1, hD1, wo_dj hDj1⟩, k3.F ht⟩) k3.2.2 dL_freeSlot_16
theorem wr_twins {l : Launch} (htr : l.stackTraces = false) {D : va_G} {cT : FieldType → ClassId} {cL : ClassId} {ac ad : Nat → Nat} {sz o : Nat} {v : Nat → Int64} {Z : ab_Z} {I A : ab_F} {x0 : Int32} {K : Nat → Int32 → ab_Z → ab_F → ab_F → Prop} (hM : ab_Cl mX11_twins 8 2 12 [.ref 0, .int x0] (shC Z) I A (ab_Pz (fun E Z I A => ∃ j, ["java/lang/IndexOutOfBoundsException", "java/util/NoSuchElementException"][j]? = some E ∧ K (j + 1) 0 Z I A) (ab_zi (fun r Z I A => K 0 r Z I A)))) (hoh : ab_okH (shC Z)) : vx_Met l yL_twins (Cond.codeWith yL_twins cL_twins 4 (some .int) [(0, 9, 12, 25), (0, 9, 15, 52)] :: ab_ws) (ab_rm 9 2 12) (lw_wP D cT cL ac ad sz o v [.int x0] Z I A) (lw_wQ D cT cL ac ad o (va_A (wO o cL v :: ab_w cT ad ac I A 0 (shC Z)) sz) K) (fun _ _ _ => False) 2 12 (va_A (wO o cL v :: ab_w cT ad ac I A 0 (shC Z)) sz) := by
  refine vx_ofWH (cc := cL_twins) (maxL := 4) (ret := some .int) (hh := [(0, 9, 12, 25), (0, 9, 15, 52)]) (by decide +kernel) rfl ?_
  intro p e s m args below meth c s₁ B hml hv
  obtain ⟨rfl, hsz, hP, hPo, hK, hD0, hDj, hCK, hN⟩ := hv
  have hx := B.exec
  have hb := B.bytes
  have hr := B.returns
  have hts0 := atoms_spec (ws := Cond.codeWith yL_twins cL_twins 4 (some .int) [(0, 9, 12, 25), (0, 9, 15, 52)] :: ab_ws) B.pre
  have hts := fun w (hw : w ∈ ab_ws) => hts0 w (List.mem_cons_of_mem _ hw)
  have hown : s.vm.findClass "CheckpointSwapLaw" = some m.cls := findClass_of_methodNamed B.named
  have htab := vx_table (x := yL_twins) B (hts0 _ List.mem_cons_self)
  subst hsz
  generalize hAe : va_A (wO o cL v :: ab_w cT ad ac I A 0 (shC Z)) s.heap.size = Ar at hCK ⊢
  have hA : ∀ q, s.heap.size ≤ q → Ar q := fun q h => by rw [← hAe]; exact Or.inr h
  have hAo : Ar o := by rw [← hAe]; exact Or.inl ⟨0, _, rfl⟩
  have hD : va_D Ar (ab_w cT ad ac I A 0 (shC Z)) := ⟨hD0.1, fun k q hk => by rw [← hAe]; exact Or.inl ⟨k + 1, q.2, hk⟩⟩
  have hAC : ∀ q, va_A (ab_w cT ad ac I A 0 (shC Z)) s.heap.size q → Ar q := fun q h => by
    rw [← hAe]; rcases h with ⟨k, e9, hk⟩ | hk
    · exact Or.inl ⟨k + 1, e9, hk⟩
    · exact Or.inr hk
  have hS : va_S Ar s.heap s.heap [] := va_S.rf
  have hl := lv_entry ((Value.ref (ad 0) :: [.int x0]) ++ [.ref o]) (n := 4) (Nat.le_of_ble_eq_true rfl)
  rw [lg_entry_eq]
  generalize (lg_sl (((Value.ref (ad 0) :: [.int x0]) ++ [.ref o])) ++ List.replicate (4 - (lg_sl (((Value.ref (ad 0) :: [.int x0]) ++ [.ref o]))).length) Slot.unset).toArray = ls at hl ⊢
  have hl : lv_has ls 4 [(0, .ref (ad 0)), (1, .int x0), (2, .ref o)] := hl
  refine lv_aload_n hx hb dL_twins_0 rfl (lv_at hl 2 rfl) ?_
  refine lv_iconst (v := 0) hx hb dL_twins_1 (by decide) ?_
  refine lv_aload_n hx hb dL_twins_2 rfl (lv_at hl 0 rfl) ?_
  refine lv_iload_n hx hb dL_twins_3 rfl (lv_at hl 1 rfl) ?_
  refine lw_callV (D := D) (cT := cT) (ac := ac) (ad := ad) (as := [.int x0]) (rest := [.int 0, .ref o]) ⟨hx, hb, hml, hown, hts⟩ htr (lw_sub hK) hCK hA sC_0 vc_15 hM okX11_twins rfl (ab_in 1725 (by decide +kernel) rfl) (ab_in 1726 (by decide +kernel) rfl) (ab_in 1727 (by decide +kernel) rfl) (ab_in 96 (by decide +kernel) rfl) dL_twins_4 rfl rfl hl.1 (Nat.le_of_ble_eq_true rfl) (Nat.le_of_ble_eq_true rfl) (Nat.le_of_ble_eq_true rfl) (Nat.le_of_ble_eq_true rfl) (Nat.le_of_ble_eq_true rfl) hoh (fun v hv => ?_) hP hD hS (fun E ce q9 sh1 I1 A1 ad1 H1 locs1 hp had hokh g9 g10 g12 g11 c1 c2 c3 => ?_) (fun r sh1 I1 A1 ad1 H1 locs1 hp had hokh g9 g10 g12 g11 => ?_)
  · simp only [List.mem_cons, List.not_mem_nil, or_false] at hv
    rcases hv with h | h <;> subst h <;> first | exact trivial | (show 0 < (shC Z).length; rw [sh_len]; omega)
  · obtain ⟨Z1, rfl, j, hj, hk⟩ := hp
    have hPo1 := fr_keep hPo hDj g12.2
    have hDj1 := fr_dj hPo hDj g10
    match j, hj, hk with
    | 0, hj, hk =>
      cases hj
      refine vx_catch (name := "java/lang/IndexOutOfBoundsException") hown [] ⟨0, 9, 12, 25⟩ [⟨0, 9, 15, 52⟩] (by rw [htab]; rfl) (fun z hz => absurd hz List.not_mem_nil) (by decide) (by decide) (hts _ (ab_in 1494 (by decide +kernel) rfl)) (va_any rfl (hCK.2.2.2.2.1 _ (ab_ngm 18 rfl))) c1 c2 c3 ?_
      refine lv_astore_n (lv' := [(3, .ref q9), (0, .ref (ad 0)), (1, .int x0), (2, .ref o)]) hx hb dL_twins_12 rfl hl (by decide) rfl (fun ls2 hl2 => ?_)
      refine lv_iconst (v := nI 1) hx hb dL_twins_13 (by decide) ?_
      refine vx_ret (W.widen (k := 2) (n := 12) (Nat.le_of_ble_eq_true rfl) (Nat.le_of_ble_eq_true rfl) ?_)
      exact W.iret hx hb hr (fun t ht hW => ⟨⟨1, 0, Z1, I1, A1, ad1, v, rfl, hk, (fun z => absurd z (by decide)), had, hokh, by rw [ht]; exact g9, by rw [ht]; exact hPo1, fr_D hAC g10, hDj1⟩, g11.F ht⟩) g11.2.2 dL_twins_14
    | 1, hj, hk =>
      cases hj
      refine vx_catch (name := "java/util/NoSuchElementException") hown [⟨0, 9, 12, 25⟩] ⟨0, 9, 15, 52⟩ [] (by rw [htab]; rfl) (fun z hz => by
      simp only [List.mem_cons, List.not_mem_nil, or_false] at hz
      have h9 := hz
      · subst h9; exact Or.inr ⟨by decide, "java/lang/IndexOutOfBoundsException", hts _ (ab_in 1494 (by decide +kernel) rfl), hN ("java/util/NoSuchElementException", "java/lang/IndexOutOfBoundsException") (by decide)⟩) (by decide) (by decide) (hts _ (ab_in 1559 (by decide +kernel) rfl)) (va_any rfl (hCK.2.2.2.2.1 _ (ab_ngm 19 rfl))) c1 c2 c3 ?_
      refine lv_astore_n (lv' := [(3, .ref q9), (0, .ref (ad 0)), (1, .int x0), (2, .ref o)]) hx hb dL_twins_15 rfl hl (by decide) rfl (fun ls2 hl2 => ?_)
      refine lv_iconst (v := nI 2) hx hb dL_twins_16 (by decide) ?_
      refine vx_ret (W.widen (k := 2) (n := 12) (Nat.le_of_ble_eq_true rfl) (Nat.le_of_ble_eq_true rfl) ?_)
      exact W.iret hx hb hr (fun t ht hW => ⟨⟨2, 0, Z1, I1, A1, ad1, v, rfl, hk, (fun z => absurd z (by decide)), had, hokh, by rw [ht]; exact g9, by rw [ht]; exact hPo1, fr_D hAC g10, hDj1⟩, g11.F ht⟩) g11.2.2 dL_twins_17
    | j + 2, hj, hk => exact nomatch hj
  · obtain ⟨Z1, rfl, x, rfl, hk⟩ := hp
    have hPo1 := fr_keep hPo hDj g12.2
    have hDj1 := fr_dj hPo hDj g10
    have hD1 := fr_D hAC g10
    refine lv_i2l (v := x.toInt64) hx hb dL_twins_7 rfl ?_
    refine va_last (ws := wO o cL v :: ab_w cT ad1 ac I1 A1 0 (shC Z1)) hx hb hK (wo_cons hPo1 g9) (wo_D hAo hD1 hDj1) g11 0 3 rfl rfl (by unfold vp_in; decide) dL_twins_8 (fun H2 locs2 k1 k2 k3 => ?_)
    refine lv_goto (tgt := 18) hx hb dL_twins_9 (by decide) ?_
    refine lv_iconst (v := nI 0) hx hb dL_twins_18 (by decide) ?_
    refine vx_ret (W.widen (k := 2) (n := 12) (Nat.le_of_ble_eq_true rfl) (Nat.le_of_ble_eq_true rfl) ?_)
    exact W.iret hx hb hr (fun t ht hW => ⟨⟨0, x, Z1, I1, A1, ad1, _, rfl, hk, (fun _ => wo_1), had, hokh, by rw [ht]; exact wo_tl k1, by rw [ht]; exact wo_hd k1, hD1, wo_dj hDj1⟩, k3.F ht⟩) k3.2.2 dL_twins_19
theorem wr_pendingPage {l : Launch} (htr : l.stackTraces = false) {D : va_G} {cT : FieldType → ClassId} {cL : ClassId} {ac ad : Nat → Nat} {sz o : Nat} {v : Nat → Int64} {Z : ab_Z} {I A : ab_F} {x0 : Int32} {K : Nat → Int32 → ab_Z → ab_F → ab_F → Prop} (hM : ab_Cl mX11_pendingPage 8 1 6 [.ref 0, .int x0] (shC Z) I A (ab_Pz (fun E Z I A => ∃ j, ["java/lang/IndexOutOfBoundsException"][j]? = some E ∧ K (j + 1) 0 Z I A) (ab_zi (fun r Z I A => K 0 r Z I A)))) (hoh : ab_okH (shC Z)) : vx_Met l yL_pendingPage (Cond.codeWith yL_pendingPage cL_pendingPage 4 (some .int) [(0, 9, 12, 25)] :: ab_ws) (ab_rm 9 1 6) (lw_wP D cT cL ac ad sz o v [.int x0] Z I A) (lw_wQ D cT cL ac ad o (va_A (wO o cL v :: ab_w cT ad ac I A 0 (shC Z)) sz) K) (fun _ _ _ => False) 1 6 (va_A (wO o cL v :: ab_w cT ad ac I A 0 (shC Z)) sz) := by
  refine vx_ofWH (cc := cL_pendingPage) (maxL := 4) (ret := some .int) (hh := [(0, 9, 12, 25)]) (by decide +kernel) rfl ?_
  intro p e s m args below meth c s₁ B hml hv
  obtain ⟨rfl, hsz, hP, hPo, hK, hD0, hDj, hCK, hN⟩ := hv
  have hx := B.exec
  have hb := B.bytes
  have hr := B.returns
  have hts0 := atoms_spec (ws := Cond.codeWith yL_pendingPage cL_pendingPage 4 (some .int) [(0, 9, 12, 25)] :: ab_ws) B.pre
  have hts := fun w (hw : w ∈ ab_ws) => hts0 w (List.mem_cons_of_mem _ hw)
  have hown : s.vm.findClass "CheckpointSwapLaw" = some m.cls := findClass_of_methodNamed B.named
  have htab := vx_table (x := yL_pendingPage) B (hts0 _ List.mem_cons_self)
  subst hsz
  generalize hAe : va_A (wO o cL v :: ab_w cT ad ac I A 0 (shC Z)) s.heap.size = Ar at hCK ⊢
  have hA : ∀ q, s.heap.size ≤ q → Ar q := fun q h => by rw [← hAe]; exact Or.inr h
  have hAo : Ar o := by rw [← hAe]; exact Or.inl ⟨0, _, rfl⟩
  have hD : va_D Ar (ab_w cT ad ac I A 0 (shC Z)) := ⟨hD0.1, fun k q hk => by rw [← hAe]; exact Or.inl ⟨k + 1, q.2, hk⟩⟩
  have hAC : ∀ q, va_A (ab_w cT ad ac I A 0 (shC Z)) s.heap.size q → Ar q := fun q h => by
    rw [← hAe]; rcases h with ⟨k, e9, hk⟩ | hk
    · exact Or.inl ⟨k + 1, e9, hk⟩
    · exact Or.inr hk
  have hS : va_S Ar s.heap s.heap [] := va_S.rf
  have hl := lv_entry ((Value.ref (ad 0) :: [.int x0]) ++ [.ref o]) (n := 4) (Nat.le_of_ble_eq_true rfl)
  rw [lg_entry_eq]
  generalize (lg_sl (((Value.ref (ad 0) :: [.int x0]) ++ [.ref o])) ++ List.replicate (4 - (lg_sl (((Value.ref (ad 0) :: [.int x0]) ++ [.ref o]))).length) Slot.unset).toArray = ls at hl ⊢
  have hl : lv_has ls 4 [(0, .ref (ad 0)), (1, .int x0), (2, .ref o)] := hl
  refine lv_aload_n hx hb dL_pendingPage_0 rfl (lv_at hl 2 rfl) ?_
  refine lv_iconst (v := 0) hx hb dL_pendingPage_1 (by decide) ?_
  refine lv_aload_n hx hb dL_pendingPage_2 rfl (lv_at hl 0 rfl) ?_
  refine lv_iload_n hx hb dL_pendingPage_3 rfl (lv_at hl 1 rfl) ?_
  refine lw_callV (D := D) (cT := cT) (ac := ac) (ad := ad) (as := [.int x0]) (rest := [.int 0, .ref o]) ⟨hx, hb, hml, hown, hts⟩ htr (lw_sub hK) hCK hA sC_0 vc_15 hM okX11_pendingPage rfl (ab_in 1736 (by decide +kernel) rfl) (ab_in 1737 (by decide +kernel) rfl) (ab_in 1738 (by decide +kernel) rfl) (ab_in 96 (by decide +kernel) rfl) dL_pendingPage_4 rfl rfl hl.1 (Nat.le_of_ble_eq_true rfl) (Nat.le_of_ble_eq_true rfl) (Nat.le_of_ble_eq_true rfl) (Nat.le_of_ble_eq_true rfl) (Nat.le_of_ble_eq_true rfl) hoh (fun v hv => ?_) hP hD hS (fun E ce q9 sh1 I1 A1 ad1 H1 locs1 hp had hokh g9 g10 g12 g11 c1 c2 c3 => ?_) (fun r sh1 I1 A1 ad1 H1 locs1 hp had hokh g9 g10 g12 g11 => ?_)
  · simp only [List.mem_cons, List.not_mem_nil, or_false] at hv
    rcases hv with h | h <;> subst h <;> first | exact trivial | (show 0 < (shC Z).length; rw [sh_len]; omega)
  · obtain ⟨Z1, rfl, j, hj, hk⟩ := hp
    have hPo1 := fr_keep hPo hDj g12.2
    have hDj1 := fr_dj hPo hDj g10
    match j, hj, hk with
    | 0, hj, hk =>
      cases hj
      refine vx_catch (name := "java/lang/IndexOutOfBoundsException") hown [] ⟨0, 9, 12, 25⟩ [] (by rw [htab]; rfl) (fun z hz => absurd hz List.not_mem_nil) (by decide) (by decide) (hts _ (ab_in 1494 (by decide +kernel) rfl)) (va_any rfl (hCK.2.2.2.2.1 _ (ab_ngm 18 rfl))) c1 c2 c3 ?_
      refine lv_astore_n (lv' := [(3, .ref q9), (0, .ref (ad 0)), (1, .int x0), (2, .ref o)]) hx hb dL_pendingPage_12 rfl hl (by decide) rfl (fun ls2 hl2 => ?_)
      refine lv_iconst (v := nI 1) hx hb dL_pendingPage_13 (by decide) ?_
      refine vx_ret (W.widen (k := 1) (n := 6) (Nat.le_of_ble_eq_true rfl) (Nat.le_of_ble_eq_true rfl) ?_)
      exact W.iret hx hb hr (fun t ht hW => ⟨⟨1, 0, Z1, I1, A1, ad1, v, rfl, hk, (fun z => absurd z (by decide)), had, hokh, by rw [ht]; exact g9, by rw [ht]; exact hPo1, fr_D hAC g10, hDj1⟩, g11.F ht⟩) g11.2.2 dL_pendingPage_14
    | j + 1, hj, hk => exact nomatch hj
  · obtain ⟨Z1, rfl, x, rfl, hk⟩ := hp
    have hPo1 := fr_keep hPo hDj g12.2
    have hDj1 := fr_dj hPo hDj g10
    have hD1 := fr_D hAC g10
    refine lv_i2l (v := x.toInt64) hx hb dL_pendingPage_7 rfl ?_
    refine va_last (ws := wO o cL v :: ab_w cT ad1 ac I1 A1 0 (shC Z1)) hx hb hK (wo_cons hPo1 g9) (wo_D hAo hD1 hDj1) g11 0 3 rfl rfl (by unfold vp_in; decide) dL_pendingPage_8 (fun H2 locs2 k1 k2 k3 => ?_)
    refine lv_goto (tgt := 15) hx hb dL_pendingPage_9 (by decide) ?_
    refine lv_iconst (v := nI 0) hx hb dL_pendingPage_15 (by decide) ?_
    refine vx_ret (W.widen (k := 1) (n := 6) (Nat.le_of_ble_eq_true rfl) (Nat.le_of_ble_eq_true rfl) ?_)
    exact W.iret hx hb hr (fun t ht hW => ⟨⟨0, x, Z1, I1, A1, ad1, _, rfl, hk, (fun _ => wo_1), had, hokh, by rw [ht]; exact wo_tl k1, by rw [ht]; exact wo_hd k1, hD1, wo_dj hDj1⟩, k3.F ht⟩) k3.2.2 dL_pendingPage_16
theorem wr_checkpointEpoch {l : Launch} (htr : l.stackTraces = false) {D : va_G} {cT : FieldType → ClassId} {cL : ClassId} {ac ad : Nat → Nat} {sz o : Nat} {v : Nat → Int64} {Z : ab_Z} {I A : ab_F} {x0 : Int32} {K : Nat → Int32 → ab_Z → ab_F → ab_F → Prop} (hM : ab_Cl mX11_checkpointEpoch 8 1 6 [.ref 0, .int x0] (shC Z) I A (ab_Pz (fun E Z I A => ∃ j, ["java/lang/IndexOutOfBoundsException"][j]? = some E ∧ K (j + 1) 0 Z I A) (ab_zi (fun r Z I A => K 0 r Z I A)))) (hoh : ab_okH (shC Z)) : vx_Met l yL_checkpointEpoch (Cond.codeWith yL_checkpointEpoch cL_checkpointEpoch 4 (some .int) [(0, 9, 12, 25)] :: ab_ws) (ab_rm 9 1 6) (lw_wP D cT cL ac ad sz o v [.int x0] Z I A) (lw_wQ D cT cL ac ad o (va_A (wO o cL v :: ab_w cT ad ac I A 0 (shC Z)) sz) K) (fun _ _ _ => False) 1 6 (va_A (wO o cL v :: ab_w cT ad ac I A 0 (shC Z)) sz) := by
  refine vx_ofWH (cc := cL_checkpointEpoch) (maxL := 4) (ret := some .int) (hh := [(0, 9, 12, 25)]) (by decide +kernel) rfl ?_
  intro p e s m args below meth c s₁ B hml hv
  obtain ⟨rfl, hsz, hP, hPo, hK, hD0, hDj, hCK, hN⟩ := hv
  have hx := B.exec
  have hb := B.bytes
  have hr := B.returns
  have hts0 := atoms_spec (ws := Cond.codeWith yL_checkpointEpoch cL_checkpointEpoch 4 (some .int) [(0, 9, 12, 25)] :: ab_ws) B.pre
  have hts := fun w (hw : w ∈ ab_ws) => hts0 w (List.mem_cons_of_mem _ hw)
  have hown : s.vm.findClass "CheckpointSwapLaw" = some m.cls := findClass_of_methodNamed B.named
  have htab := vx_table (x := yL_checkpointEpoch) B (hts0 _ List.mem_cons_self)
  subst hsz
  generalize hAe : va_A (wO o cL v :: ab_w cT ad ac I A 0 (shC Z)) s.heap.size = Ar at hCK ⊢
  have hA : ∀ q, s.heap.size ≤ q → Ar q := fun q h => by rw [← hAe]; exact Or.inr h
  have hAo : Ar o := by rw [← hAe]; exact Or.inl ⟨0, _, rfl⟩
  have hD : va_D Ar (ab_w cT ad ac I A 0 (shC Z)) := ⟨hD0.1, fun k q hk => by rw [← hAe]; exact Or.inl ⟨k + 1, q.2, hk⟩⟩
  have hAC : ∀ q, va_A (ab_w cT ad ac I A 0 (shC Z)) s.heap.size q → Ar q := fun q h => by
    rw [← hAe]; rcases h with ⟨k, e9, hk⟩ | hk
    · exact Or.inl ⟨k + 1, e9, hk⟩
    · exact Or.inr hk
  have hS : va_S Ar s.heap s.heap [] := va_S.rf
  have hl := lv_entry ((Value.ref (ad 0) :: [.int x0]) ++ [.ref o]) (n := 4) (Nat.le_of_ble_eq_true rfl)
  rw [lg_entry_eq]
  generalize (lg_sl (((Value.ref (ad 0) :: [.int x0]) ++ [.ref o])) ++ List.replicate (4 - (lg_sl (((Value.ref (ad 0) :: [.int x0]) ++ [.ref o]))).length) Slot.unset).toArray = ls at hl ⊢
  have hl : lv_has ls 4 [(0, .ref (ad 0)), (1, .int x0), (2, .ref o)] := hl
  refine lv_aload_n hx hb dL_checkpointEpoch_0 rfl (lv_at hl 2 rfl) ?_
  refine lv_iconst (v := 0) hx hb dL_checkpointEpoch_1 (by decide) ?_
  refine lv_aload_n hx hb dL_checkpointEpoch_2 rfl (lv_at hl 0 rfl) ?_
  refine lv_iload_n hx hb dL_checkpointEpoch_3 rfl (lv_at hl 1 rfl) ?_
  refine lw_callV (D := D) (cT := cT) (ac := ac) (ad := ad) (as := [.int x0]) (rest := [.int 0, .ref o]) ⟨hx, hb, hml, hown, hts⟩ htr (lw_sub hK) hCK hA sC_0 vc_15 hM okX11_checkpointEpoch rfl (ab_in 1744 (by decide +kernel) rfl) (ab_in 1745 (by decide +kernel) rfl) (ab_in 1746 (by decide +kernel) rfl) (ab_in 96 (by decide +kernel) rfl) dL_checkpointEpoch_4 rfl rfl hl.1 (Nat.le_of_ble_eq_true rfl) (Nat.le_of_ble_eq_true rfl) (Nat.le_of_ble_eq_true rfl) (Nat.le_of_ble_eq_true rfl) (Nat.le_of_ble_eq_true rfl) hoh (fun v hv => ?_) hP hD hS (fun E ce q9 sh1 I1 A1 ad1 H1 locs1 hp had hokh g9 g10 g12 g11 c1 c2 c3 => ?_) (fun r sh1 I1 A1 ad1 H1 locs1 hp had hokh g9 g10 g12 g11 => ?_)
  · simp only [List.mem_cons, List.not_mem_nil, or_false] at hv
    rcases hv with h | h <;> subst h <;> first | exact trivial | (show 0 < (shC Z).length; rw [sh_len]; omega)
  · obtain ⟨Z1, rfl, j, hj, hk⟩ := hp
    have hPo1 := fr_keep hPo hDj g12.2
    have hDj1 := fr_dj hPo hDj g10
    match j, hj, hk with
    | 0, hj, hk =>
      cases hj
      refine vx_catch (name := "java/lang/IndexOutOfBoundsException") hown [] ⟨0, 9, 12, 25⟩ [] (by rw [htab]; rfl) (fun z hz => absurd hz List.not_mem_nil) (by decide) (by decide) (hts _ (ab_in 1494 (by decide +kernel) rfl)) (va_any rfl (hCK.2.2.2.2.1 _ (ab_ngm 18 rfl))) c1 c2 c3 ?_
      refine lv_astore_n (lv' := [(3, .ref q9), (0, .ref (ad 0)), (1, .int x0), (2, .ref o)]) hx hb dL_checkpointEpoch_12 rfl hl (by decide) rfl (fun ls2 hl2 => ?_)
      refine lv_iconst (v := nI 1) hx hb dL_checkpointEpoch_13 (by decide) ?_
      refine vx_ret (W.widen (k := 1) (n := 6) (Nat.le_of_ble_eq_true rfl) (Nat.le_of_ble_eq_true rfl) ?_)
      exact W.iret hx hb hr (fun t ht hW => ⟨⟨1, 0, Z1, I1, A1, ad1, v, rfl, hk, (fun z => absurd z (by decide)), had, hokh, by rw [ht]; exact g9, by rw [ht]; exact hPo1, fr_D hAC g10, hDj1⟩, g11.F ht⟩) g11.2.2 dL_checkpointEpoch_14
    | j + 1, hj, hk => exact nomatch hj
  · obtain ⟨Z1, rfl, x, rfl, hk⟩ := hp
    have hPo1 := fr_keep hPo hDj g12.2
    have hDj1 := fr_dj hPo hDj g10
    have hD1 := fr_D hAC g10
    refine lv_i2l (v := x.toInt64) hx hb dL_checkpointEpoch_7 rfl ?_
    refine va_last (ws := wO o cL v :: ab_w cT ad1 ac I1 A1 0 (shC Z1)) hx hb hK (wo_cons hPo1 g9) (wo_D hAo hD1 hDj1) g11 0 3 rfl rfl (by unfold vp_in; decide) dL_checkpointEpoch_8 (fun H2 locs2 k1 k2 k3 => ?_)
    refine lv_goto (tgt := 15) hx hb dL_checkpointEpoch_9 (by decide) ?_
    refine lv_iconst (v := nI 0) hx hb dL_checkpointEpoch_15 (by decide) ?_
    refine vx_ret (W.widen (k := 1) (n := 6) (Nat.le_of_ble_eq_true rfl) (Nat.le_of_ble_eq_true rfl) ?_)
    exact W.iret hx hb hr (fun t ht hW => ⟨⟨0, x, Z1, I1, A1, ad1, _, rfl, hk, (fun _ => wo_1), had, hokh, by rw [ht]; exact wo_tl k1, by rw [ht]; exact wo_hd k1, hD1, wo_dj hDj1⟩, k3.F ht⟩) k3.2.2 dL_checkpointEpoch_16
theorem wr_checkpointSlot {l : Launch} (htr : l.stackTraces = false) {D : va_G} {cT : FieldType → ClassId} {cL : ClassId} {ac ad : Nat → Nat} {sz o : Nat} {v : Nat → Int64} {Z : ab_Z} {I A : ab_F} {x0 x1 : Int32} {K : Nat → Int32 → ab_Z → ab_F → ab_F → Prop} (hM : ab_Cl mX11_checkpointSlot 8 2 12 [.ref 0, .int x0, .int x1] (shC Z) I A (ab_Pz (fun E Z I A => ∃ j, ["java/lang/IndexOutOfBoundsException", "java/util/NoSuchElementException"][j]? = some E ∧ K (j + 1) 0 Z I A) (ab_zi (fun r Z I A => K 0 r Z I A)))) (hoh : ab_okH (shC Z)) : vx_Met l yL_checkpointSlot (Cond.codeWith yL_checkpointSlot cL_checkpointSlot 5 (some .int) [(0, 10, 13, 25), (0, 10, 17, 52)] :: ab_ws) (ab_rm 9 2 12) (lw_wP D cT cL ac ad sz o v [.int x0, .int x1] Z I A) (lw_wQ D cT cL ac ad o (va_A (wO o cL v :: ab_w cT ad ac I A 0 (shC Z)) sz) K) (fun _ _ _ => False) 2 12 (va_A (wO o cL v :: ab_w cT ad ac I A 0 (shC Z)) sz) := by
  refine vx_ofWH (cc := cL_checkpointSlot) (maxL := 5) (ret := some .int) (hh := [(0, 10, 13, 25), (0, 10, 17, 52)]) (by decide +kernel) rfl ?_
  intro p e s m args below meth c s₁ B hml hv
  obtain ⟨rfl, hsz, hP, hPo, hK, hD0, hDj, hCK, hN⟩ := hv
  have hx := B.exec
  have hb := B.bytes
  have hr := B.returns
  have hts0 := atoms_spec (ws := Cond.codeWith yL_checkpointSlot cL_checkpointSlot 5 (some .int) [(0, 10, 13, 25), (0, 10, 17, 52)] :: ab_ws) B.pre
  have hts := fun w (hw : w ∈ ab_ws) => hts0 w (List.mem_cons_of_mem _ hw)
  have hown : s.vm.findClass "CheckpointSwapLaw" = some m.cls := findClass_of_methodNamed B.named
  have htab := vx_table (x := yL_checkpointSlot) B (hts0 _ List.mem_cons_self)
  subst hsz
  generalize hAe : va_A (wO o cL v :: ab_w cT ad ac I A 0 (shC Z)) s.heap.size = Ar at hCK ⊢
  have hA : ∀ q, s.heap.size ≤ q → Ar q := fun q h => by rw [← hAe]; exact Or.inr h
  have hAo : Ar o := by rw [← hAe]; exact Or.inl ⟨0, _, rfl⟩
  have hD : va_D Ar (ab_w cT ad ac I A 0 (shC Z)) := ⟨hD0.1, fun k q hk => by rw [← hAe]; exact Or.inl ⟨k + 1, q.2, hk⟩⟩
  have hAC : ∀ q, va_A (ab_w cT ad ac I A 0 (shC Z)) s.heap.size q → Ar q := fun q h => by
    rw [← hAe]; rcases h with ⟨k, e9, hk⟩ | hk
    · exact Or.inl ⟨k + 1, e9, hk⟩
    · exact Or.inr hk
  have hS : va_S Ar s.heap s.heap [] := va_S.rf
  have hl := lv_entry ((Value.ref (ad 0) :: [.int x0, .int x1]) ++ [.ref o]) (n := 5) (Nat.le_of_ble_eq_true rfl)
  rw [lg_entry_eq]
  generalize (lg_sl (((Value.ref (ad 0) :: [.int x0, .int x1]) ++ [.ref o])) ++ List.replicate (5 - (lg_sl (((Value.ref (ad 0) :: [.int x0, .int x1]) ++ [.ref o]))).length) Slot.unset).toArray = ls at hl ⊢
  have hl : lv_has ls 5 [(0, .ref (ad 0)), (1, .int x0), (2, .int x1), (3, .ref o)] := hl
  refine lv_aload_n hx hb dL_checkpointSlot_0 rfl (lv_at hl 3 rfl) ?_
  refine lv_iconst (v := 0) hx hb dL_checkpointSlot_1 (by decide) ?_
  refine lv_aload_n hx hb dL_checkpointSlot_2 rfl (lv_at hl 0 rfl) ?_
  refine lv_iload_n hx hb dL_checkpointSlot_3 rfl (lv_at hl 1 rfl) ?_
  refine lv_iload_n hx hb dL_checkpointSlot_4 rfl (lv_at hl 2 rfl) ?_
  refine lw_callV (D := D) (cT := cT) (ac := ac) (ad := ad) (as := [.int x0, .int x1]) (rest := [.int 0, .ref o]) ⟨hx, hb, hml, hown, hts⟩ htr (lw_sub hK) hCK hA sC_0 vc_15 hM okX11_checkpointSlot rfl (ab_in 1751 (by decide +kernel) rfl) (ab_in 1752 (by decide +kernel) rfl) (ab_in 1753 (by decide +kernel) rfl) (ab_in 96 (by decide +kernel) rfl) dL_checkpointSlot_5 rfl rfl hl.1 (Nat.le_of_ble_eq_true rfl) (Nat.le_of_ble_eq_true rfl) (Nat.le_of_ble_eq_true rfl) (Nat.le_of_ble_eq_true rfl) (Nat.le_of_ble_eq_true rfl) hoh (fun v hv => ?_) hP hD hS (fun E ce q9 sh1 I1 A1 ad1 H1 locs1 hp had hokh g9 g10 g12 g11 c1 c2 c3 => ?_) (fun r sh1 I1 A1 ad1 H1 locs1 hp had hokh g9 g10 g12 g11 => ?_)
  · simp only [List.mem_cons, List.not_mem_nil, or_false] at hv
    rcases hv with h | h | h <;> subst h <;> first | exact trivial | (show 0 < (shC Z).length; rw [sh_len]; omega)
  · obtain ⟨Z1, rfl, j, hj, hk⟩ := hp
    have hPo1 := fr_keep hPo hDj g12.2
    have hDj1 := fr_dj hPo hDj g10
    match j, hj, hk with
    | 0, hj, hk =>
      cases hj
      refine vx_catch (name := "java/lang/IndexOutOfBoundsException") hown [] ⟨0, 10, 13, 25⟩ [⟨0, 10, 17, 52⟩] (by rw [htab]; rfl) (fun z hz => absurd hz List.not_mem_nil) (by decide) (by decide) (hts _ (ab_in 1494 (by decide +kernel) rfl)) (va_any rfl (hCK.2.2.2.2.1 _ (ab_ngm 18 rfl))) c1 c2 c3 ?_
      refine lv_astore (lv' := [(4, .ref q9), (0, .ref (ad 0)), (1, .int x0), (2, .int x1), (3, .ref o)]) hx hb dL_checkpointSlot_13 hl (by decide) rfl (fun ls2 hl2 => ?_)
      refine lv_iconst (v := nI 1) hx hb dL_checkpointSlot_15 (by decide) ?_
      refine vx_ret (W.widen (k := 2) (n := 12) (Nat.le_of_ble_eq_true rfl) (Nat.le_of_ble_eq_true rfl) ?_)
      exact W.iret hx hb hr (fun t ht hW => ⟨⟨1, 0, Z1, I1, A1, ad1, v, rfl, hk, (fun z => absurd z (by decide)), had, hokh, by rw [ht]; exact g9, by rw [ht]; exact hPo1, fr_D hAC g10, hDj1⟩, g11.F ht⟩) g11.2.2 dL_checkpointSlot_16
    | 1, hj, hk =>
      cases hj
      refine vx_catch (name := "java/util/NoSuchElementException") hown [⟨0, 10, 13, 25⟩] ⟨0, 10, 17, 52⟩ [] (by rw [htab]; rfl) (fun z hz => by
      simp only [List.mem_cons, List.not_mem_nil, or_false] at hz
      have h9 := hz
      · subst h9; exact Or.inr ⟨by decide, "java/lang/IndexOutOfBoundsException", hts _ (ab_in 1494 (by decide +kernel) rfl), hN ("java/util/NoSuchElementException", "java/lang/IndexOutOfBoundsException") (by decide)⟩) (by decide) (by decide) (hts _ (ab_in 1559 (by decide +kernel) rfl)) (va_any rfl (hCK.2.2.2.2.1 _ (ab_ngm 19 rfl))) c1 c2 c3 ?_
      refine lv_astore (lv' := [(4, .ref q9), (0, .ref (ad 0)), (1, .int x0), (2, .int x1), (3, .ref o)]) hx hb dL_checkpointSlot_17 hl (by decide) rfl (fun ls2 hl2 => ?_)
      refine lv_iconst (v := nI 2) hx hb dL_checkpointSlot_19 (by decide) ?_
      refine vx_ret (W.widen (k := 2) (n := 12) (Nat.le_of_ble_eq_true rfl) (Nat.le_of_ble_eq_true rfl) ?_)
      exact W.iret hx hb hr (fun t ht hW => ⟨⟨2, 0, Z1, I1, A1, ad1, v, rfl, hk, (fun z => absurd z (by decide)), had, hokh, by rw [ht]; exact g9, by rw [ht]; exact hPo1, fr_D hAC g10, hDj1⟩, g11.F ht⟩) g11.2.2 dL_checkpointSlot_20
    | j + 2, hj, hk => exact nomatch hj
  · obtain ⟨Z1, rfl, x, rfl, hk⟩ := hp
    have hPo1 := fr_keep hPo hDj g12.2
    have hDj1 := fr_dj hPo hDj g10
    have hD1 := fr_D hAC g10
    refine lv_i2l (v := x.toInt64) hx hb dL_checkpointSlot_8 rfl ?_
    refine va_last (ws := wO o cL v :: ab_w cT ad1 ac I1 A1 0 (shC Z1)) hx hb hK (wo_cons hPo1 g9) (wo_D hAo hD1 hDj1) g11 0 3 rfl rfl (by unfold vp_in; decide) dL_checkpointSlot_9 (fun H2 locs2 k1 k2 k3 => ?_)
    refine lv_goto (tgt := 21) hx hb dL_checkpointSlot_10 (by decide) ?_
    refine lv_iconst (v := nI 0) hx hb dL_checkpointSlot_21 (by decide) ?_
    refine vx_ret (W.widen (k := 2) (n := 12) (Nat.le_of_ble_eq_true rfl) (Nat.le_of_ble_eq_true rfl) ?_)
    exact W.iret hx hb hr (fun t ht hW => ⟨⟨0, x, Z1, I1, A1, ad1, _, rfl, hk, (fun _ => wo_1), had, hokh, by rw [ht]; exact wo_tl k1, by rw [ht]; exact wo_hd k1, hD1, wo_dj hDj1⟩, k3.F ht⟩) k3.2.2 dL_checkpointSlot_22
