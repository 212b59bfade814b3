/-! the law's wrappers: what they ask and give -/
abbrev wO (o : Nat) (cL : ClassId) (v : Nat → Int64) : Nat × va_E := (o, .inl (cL, 1, .inr (.inl v)))
def lw_ncs : List (String × String) := [("java/lang/IllegalStateException", "java/lang/IndexOutOfBoundsException"), ("java/lang/IllegalStateException", "java/lang/IllegalArgumentException"), ("java/lang/UnsupportedOperationException", "java/lang/IllegalStateException"), ("java/util/NoSuchElementException", "java/lang/IndexOutOfBoundsException"), ("java/lang/IllegalStateException", "java/util/NoSuchElementException"), ("java/lang/UnsupportedOperationException", "java/lang/IndexOutOfBoundsException"), ("java/lang/IllegalStateException", "java/lang/UnsupportedOperationException"), ("java/lang/IllegalArgumentException", "java/lang/IndexOutOfBoundsException"), ("java/lang/IllegalArgumentException", "java/util/NoSuchElementException"), ("java/util/NoSuchElementException", "java/lang/IllegalArgumentException")]
def lw_NC (U : State) : Prop := ∀ q ∈ lw_ncs, va_Nc q.1 q.2 U
theorem lw_NC.moved {u U : State} (hvm : u.vm.Alike U.vm) (h : lw_NC u) : lw_NC U := fun q hq => va_Nc.moved hvm (h q hq)
def lw_wP (D : va_G) (cT : FieldType → ClassId) (cL : ClassId) (ac ad : Nat → Nat) (sz o : Nat) (v : Nat → Int64) (as : List Value) (Z : ab_Z) (I A : ab_F) : Array Value → State → Prop := va_Pc ((.ref (ad 0) :: as) ++ [.ref o]) (fun U => U.heap.size = sz ∧ va_P D vwCl (ab_w cT ad ac I A 0 (shC Z)) U.heap ∧ va_P D vwCl [wO o cL v] U.heap ∧ va_K D vwCl (ab_tys cT ++ [(cL, .long)]) U ∧ va_D (fun _ => True) (ab_w cT ad ac I A 0 (shC Z)) ∧ Dj (ab_w cT ad ac I A 0 (shC Z)) [wO o cL v] ∧ ab_CK ac (va_A (wO o cL v :: ab_w cT ad ac I A 0 (shC Z)) sz) U U.heap ∧ lw_NC U)
def lw_wQ (D : va_G) (cT : FieldType → ClassId) (cL : ClassId) (ac ad : Nat → Nat) (o : Nat) (Ar : Nat → Prop) (K : Nat → Int32 → ab_Z → ab_F → ab_F → Prop) : Array Value → State → Outcome → State → Prop := fun _ st u t => (∃ (c : Nat) (r : Int32) (Z : ab_Z) (I A : ab_F) (ad' : Nat → Nat) (v : Nat → Int64), u = .returned (some (.int (nI c))) ∧ K c r Z I A ∧ (c = 0 → v 0 = r.toInt64) ∧ ad' 0 = ad 0 ∧ ab_okH (shC Z) ∧ va_P D vwCl (ab_w cT ad' ac I A 0 (shC Z)) t.heap ∧ va_P D vwCl [wO o cL v] t.heap ∧ va_D Ar (ab_w cT ad' ac I A 0 (shC Z)) ∧ Dj (ab_w cT ad' ac I A 0 (shC Z)) [wO o cL v]) ∧ va_F Ar st t
theorem wo_cons {D : va_G} {cl : List vw_C} {x : Nat × va_E} {w : va_W} {H : Heap} (h1 : va_P D cl [x] H) (h2 : va_P D cl w H) : va_P D cl (x :: w) H := h1.app h2
theorem wo_D {A : Nat → Prop} {x : Nat × va_E} {w : va_W} (h1 : A x.1) (h2 : va_D A w) (hx : Dj w [x]) : va_D A (x :: w) := by
  have h3 : va_D A [x] := ⟨fun i j p q hi hj _ => by
    have a : i = 0 := by have := (List.getElem?_eq_some_iff.mp hi).1; simp at this; omega
    have b : j = 0 := by have := (List.getElem?_eq_some_iff.mp hj).1; simp at this; omega
    omega, fun k q hk => by
    have a : k = 0 := by have := (List.getElem?_eq_some_iff.mp hk).1; simp at this; omega
    subst a
    cases hk
    exact h1⟩
  exact h3.app h2 (fun i j p q hi hj => fun e => hx j i q p hj hi e.symm)
theorem wo_hd {D : va_G} {cl : List vw_C} {x : Nat × va_E} {w : va_W} {H : Heap} (h : va_P D cl (x :: w) H) : va_P D cl [x] H := fun k q hk => by
  have a : k = 0 := by have := (List.getElem?_eq_some_iff.mp hk).1; simp at this; omega
  subst a
  exact h 0 q hk
theorem wo_tl {D : va_G} {cl : List vw_C} {x : Nat × va_E} {w : va_W} {H : Heap} (h : va_P D cl (x :: w) H) : va_P D cl w H := fun k q hk => h (k + 1) q hk
theorem wo_1 {v : Nat → Int64} {x : Int64} : vp_updL v (0 : Int32).toNatClampNeg x 0 = x := by rw [sb_cl0]; simp [vp_updL]
theorem wo_dj {o : Nat} {cL : ClassId} {v v' : Nat → Int64} {w : va_W} (h : Dj w [wO o cL v]) : Dj w [wO o cL v'] := fun i j p q hi hj => by
  have a : j = 0 := by have := (List.getElem?_eq_some_iff.mp hj).1; simp at this; omega
  subst a
  cases hj
  exact h i 0 p (wO o cL v) hi rfl
theorem wr_appendText {l : Launch} (htr : l.stackTraces = false) {D : va_G} {cT : FieldType → ClassId} {cL : ClassId} {ac ad : Nat → Nat} {sz o : Nat} {v : Nat → Int64} {Z : ab_Z} {I A : ab_F} {x0 x1 x2 x3 x4 : Int32} {K : Nat → Int32 → ab_Z → ab_F → ab_F → Prop} (hM : ab_Cl mX11_appendText 6 1 6 [.ref 0, .int x0, .int x1, .int x2, .int x3, .int x4] (shC Z) I A (ab_Pz (fun E Z I A => ∃ j, ["java/lang/IllegalStateException"][j]? = some E ∧ K (j + 1) 0 Z I A) (ab_zi (fun r Z I A => K 0 r Z I A)))) (hoh : ab_okH (shC Z)) : vx_Met l yL_appendText (Cond.codeWith yL_appendText cL_appendText 8 (some .int) [(0, 16, 19, 13)] :: ab_ws) (ab_rm 7 1 6) (lw_wP D cT cL ac ad sz o v [.int x0, .int x1, .int x2, .int x3, .int x4] Z I A) (lw_wQ D cT cL ac ad o (va_A (wO o cL v :: ab_w cT ad ac I A 0 (shC Z)) sz) K) (fun _ _ _ => False) 1 6 (va_A (wO o cL v :: ab_w cT ad ac I A 0 (shC Z)) sz) := by
  refine vx_ofWH (cc := cL_appendText) (maxL := 8) (ret := some .int) (hh := [(0, 16, 19, 13)]) (by decide +kernel) rfl ?_
  intro p e s m args below meth c s₁ B hml hv
  obtain ⟨rfl, hsz, hP, hPo, hK, hD0, hDj, hCK, hN⟩ := hv
  have hx := B.exec
  have hb := B.bytes
  have hr := B.returns
  have hts0 := atoms_spec (ws := Cond.codeWith yL_appendText cL_appendText 8 (some .int) [(0, 16, 19, 13)] :: ab_ws) B.pre
  have hts := fun w (hw : w ∈ ab_ws) => hts0 w (List.mem_cons_of_mem _ hw)
  have hown : s.vm.findClass "CheckpointSwapLaw" = some m.cls := findClass_of_methodNamed B.named
  have htab := vx_table (x := yL_appendText) B (hts0 _ List.mem_cons_self)
  subst hsz
  generalize hAe : va_A (wO o cL v :: ab_w cT ad ac I A 0 (shC Z)) s.heap.size = Ar at hCK ⊢
  have hA : ∀ q, s.heap.size ≤ q → Ar q := fun q h => by rw [← hAe]; exact Or.inr h
  have hAo : Ar o := by rw [← hAe]; exact Or.inl ⟨0, _, rfl⟩
  have hD : va_D Ar (ab_w cT ad ac I A 0 (shC Z)) := ⟨hD0.1, fun k q hk => by rw [← hAe]; exact Or.inl ⟨k + 1, q.2, hk⟩⟩
  have hAC : ∀ q, va_A (ab_w cT ad ac I A 0 (shC Z)) s.heap.size q → Ar q := fun q h => by
    rw [← hAe]; rcases h with ⟨k, e9, hk⟩ | hk
    · exact Or.inl ⟨k + 1, e9, hk⟩
    · exact Or.inr hk
  have hS : va_S Ar s.heap s.heap [] := va_S.rf
  have hl := lv_entry ((Value.ref (ad 0) :: [.int x0, .int x1, .int x2, .int x3, .int x4]) ++ [.ref o]) (n := 8) (Nat.le_of_ble_eq_true rfl)
  rw [lg_entry_eq]
  generalize (lg_sl (((Value.ref (ad 0) :: [.int x0, .int x1, .int x2, .int x3, .int x4]) ++ [.ref o])) ++ List.replicate (8 - (lg_sl (((Value.ref (ad 0) :: [.int x0, .int x1, .int x2, .int x3, .int x4]) ++ [.ref o]))).length) Slot.unset).toArray = ls at hl ⊢
  have hl : lv_has ls 8 [(0, .ref (ad 0)), (1, .int x0), (2, .int x1), (3, .int x2), (4, .int x3), (5, .int x4), (6, .ref o)] := hl
  refine lv_aload hx hb dL_appendText_0 (lv_at hl 6 rfl) ?_
  refine lv_iconst (v := 0) hx hb dL_appendText_2 (by decide) ?_
  refine lv_aload_n hx hb dL_appendText_3 rfl (lv_at hl 0 rfl) ?_
  refine lv_iload_n hx hb dL_appendText_4 rfl (lv_at hl 1 rfl) ?_
  refine lv_iload_n hx hb dL_appendText_5 rfl (lv_at hl 2 rfl) ?_
  refine lv_iload_n hx hb dL_appendText_6 rfl (lv_at hl 3 rfl) ?_
  refine lv_iload hx hb dL_appendText_7 (lv_at hl 4 rfl) ?_
  refine lv_iload hx hb dL_appendText_9 (lv_at hl 5 rfl) ?_
  refine lw_callV (D := D) (cT := cT) (ac := ac) (ad := ad) (as := [.int x0, .int x1, .int x2, .int x3, .int x4]) (rest := [.int 0, .ref o]) ⟨hx, hb, hml, hown, hts⟩ htr (lw_sub hK) hCK hA sC_0 vc_15 hM okX11_appendText rfl (ab_in 1404 (by decide +kernel) rfl) (ab_in 1405 (by decide +kernel) rfl) (ab_in 1406 (by decide +kernel) rfl) (ab_in 96 (by decide +kernel) rfl) dL_appendText_11 rfl rfl hl.1 (Nat.le_of_ble_eq_true rfl) (Nat.le_of_ble_eq_true rfl) (Nat.le_of_ble_eq_true rfl) (Nat.le_of_ble_eq_true rfl) (Nat.le_of_ble_eq_true rfl) hoh (fun v hv => ?_) hP hD hS (fun E ce q9 sh1 I1 A1 ad1 H1 locs1 hp had hokh g9 g10 g12 g11 c1 c2 c3 => ?_) (fun r sh1 I1 A1 ad1 H1 locs1 hp had hokh g9 g10 g12 g11 => ?_)
  · simp only [List.mem_cons, List.not_mem_nil, or_false] at hv
    rcases hv with h | h | h | h | h | h <;> subst h <;> first | exact trivial | (show 0 < (shC Z).length; rw [sh_len]; omega)
  · obtain ⟨Z1, rfl, j, hj, hk⟩ := hp
    have hPo1 := fr_keep hPo hDj g12.2
    have hDj1 := fr_dj hPo hDj g10
    match j, hj, hk with
    | 0, hj, hk =>
      cases hj
      refine vx_catch (name := "java/lang/IllegalStateException") hown [] ⟨0, 16, 19, 13⟩ [] (by rw [htab]; rfl) (fun z hz => absurd hz List.not_mem_nil) (by decide) (by decide) (hts _ (ab_in 1403 (by decide +kernel) rfl)) (va_any rfl (hCK.2.2.2.2.1 _ (ab_ngm 17 rfl))) c1 c2 c3 ?_
      refine lv_astore (lv' := [(7, .ref q9), (0, .ref (ad 0)), (1, .int x0), (2, .int x1), (3, .int x2), (4, .int x3), (5, .int x4), (6, .ref o)]) hx hb dL_appendText_19 hl (by decide) rfl (fun ls2 hl2 => ?_)
      refine lv_iconst (v := nI 1) hx hb dL_appendText_21 (by decide) ?_
      refine vx_ret (W.widen (k := 1) (n := 6) (Nat.le_of_ble_eq_true rfl) (Nat.le_of_ble_eq_true rfl) ?_)
      exact W.iret hx hb hr (fun t ht hW => ⟨⟨1, 0, Z1, I1, A1, ad1, v, rfl, hk, (fun z => absurd z (by decide)), had, hokh, by rw [ht]; exact g9, by rw [ht]; exact hPo1, fr_D hAC g10, hDj1⟩, g11.F ht⟩) g11.2.2 dL_appendText_22
    | j + 1, hj, hk => exact nomatch hj
  · obtain ⟨Z1, rfl, x, rfl, hk⟩ := hp
    have hPo1 := fr_keep hPo hDj g12.2
    have hDj1 := fr_dj hPo hDj g10
    have hD1 := fr_D hAC g10
    refine lv_i2l (v := x.toInt64) hx hb dL_appendText_14 rfl ?_
    refine va_last (ws := wO o cL v :: ab_w cT ad1 ac I1 A1 0 (shC Z1)) hx hb hK (wo_cons hPo1 g9) (wo_D hAo hD1 hDj1) g11 0 3 rfl rfl (by unfold vp_in; decide) dL_appendText_15 (fun H2 locs2 k1 k2 k3 => ?_)
    refine lv_goto (tgt := 23) hx hb dL_appendText_16 (by decide) ?_
    refine lv_iconst (v := nI 0) hx hb dL_appendText_23 (by decide) ?_
    refine vx_ret (W.widen (k := 1) (n := 6) (Nat.le_of_ble_eq_true rfl) (Nat.le_of_ble_eq_true rfl) ?_)
    exact W.iret hx hb hr (fun t ht hW => ⟨⟨0, x, Z1, I1, A1, ad1, _, rfl, hk, (fun _ => wo_1), had, hokh, by rw [ht]; exact wo_tl k1, by rw [ht]; exact wo_hd k1, hD1, wo_dj hDj1⟩, k3.F ht⟩) k3.2.2 dL_appendText_24
theorem wr_truncateText {l : Launch} (htr : l.stackTraces = false) {D : va_G} {cT : FieldType → ClassId} {cL : ClassId} {ac ad : Nat → Nat} {sz o : Nat} {v : Nat → Int64} {Z : ab_Z} {I A : ab_F} {x0 : Int32} {K : Nat → Int32 → ab_Z → ab_F → ab_F → Prop} (hM : ab_Cl mX11_truncateText 8 1 6 [.ref 0, .int x0] (shC Z) I A (ab_Pz (fun E Z I A => ∃ j, ["java/lang/IllegalArgumentException"][j]? = some E ∧ K (j + 1) 0 Z I A) (ab_zi (fun r Z I A => K 0 r Z I A)))) (hoh : ab_okH (shC Z)) : vx_Met l yL_truncateText (Cond.codeWith yL_truncateText cL_truncateText 4 (some .int) [(0, 9, 12, 19)] :: ab_ws) (ab_rm 9 1 6) (lw_wP D cT cL ac ad sz o v [.int x0] Z I A) (lw_wQ D cT cL ac ad o (va_A (wO o cL v :: ab_w cT ad ac I A 0 (shC Z)) sz) K) (fun _ _ _ => False) 1 6 (va_A (wO o cL v :: ab_w cT ad ac I A 0 (shC Z)) sz) := by
  refine vx_ofWH (cc := cL_truncateText) (maxL := 4) (ret := some .int) (hh := [(0, 9, 12, 19)]) (by decide +kernel) rfl ?_
  intro p e s m args below meth c s₁ B hml hv
  obtain ⟨rfl, hsz, hP, hPo, hK, hD0, hDj, hCK, hN⟩ := hv
  have hx := B.exec
  have hb := B.bytes
  have hr := B.returns
  have hts0 := atoms_spec (ws := Cond.codeWith yL_truncateText cL_truncateText 4 (some .int) [(0, 9, 12, 19)] :: ab_ws) B.pre
  have hts := fun w (hw : w ∈ ab_ws) => hts0 w (List.mem_cons_of_mem _ hw)
  have hown : s.vm.findClass "CheckpointSwapLaw" = some m.cls := findClass_of_methodNamed B.named
  have htab := vx_table (x := yL_truncateText) B (hts0 _ List.mem_cons_self)
  subst hsz
  generalize hAe : va_A (wO o cL v :: ab_w cT ad ac I A 0 (shC Z)) s.heap.size = Ar at hCK ⊢
  have hA : ∀ q, s.heap.size ≤ q → Ar q := fun q h => by rw [← hAe]; exact Or.inr h
  have hAo : Ar o := by rw [← hAe]; exact Or.inl ⟨0, _, rfl⟩
  have hD : va_D Ar (ab_w cT ad ac I A 0 (shC Z)) := ⟨hD0.1, fun k q hk => by rw [← hAe]; exact Or.inl ⟨k + 1, q.2, hk⟩⟩
  have hAC : ∀ q, va_A (ab_w cT ad ac I A 0 (shC Z)) s.heap.size q → Ar q := fun q h => by
    rw [← hAe]; rcases h with ⟨k, e9, hk⟩ | hk
    · exact Or.inl ⟨k + 1, e9, hk⟩
    · exact Or.inr hk
  have hS : va_S Ar s.heap s.heap [] := va_S.rf
  have hl := lv_entry ((Value.ref (ad 0) :: [.int x0]) ++ [.ref o]) (n := 4) (Nat.le_of_ble_eq_true rfl)
  rw [lg_entry_eq]
  generalize (lg_sl (((Value.ref (ad 0) :: [.int x0]) ++ [.ref o])) ++ List.replicate (4 - (lg_sl (((Value.ref (ad 0) :: [.int x0]) ++ [.ref o]))).length) Slot.unset).toArray = ls at hl ⊢
  have hl : lv_has ls 4 [(0, .ref (ad 0)), (1, .int x0), (2, .ref o)] := hl
  refine lv_aload_n hx hb dL_truncateText_0 rfl (lv_at hl 2 rfl) ?_
  refine lv_iconst (v := 0) hx hb dL_truncateText_1 (by decide) ?_
  refine lv_aload_n hx hb dL_truncateText_2 rfl (lv_at hl 0 rfl) ?_
  refine lv_iload_n hx hb dL_truncateText_3 rfl (lv_at hl 1 rfl) ?_
  refine lw_callV (D := D) (cT := cT) (ac := ac) (ad := ad) (as := [.int x0]) (rest := [.int 0, .ref o]) ⟨hx, hb, hml, hown, hts⟩ htr (lw_sub hK) hCK hA sC_0 vc_15 hM okX11_truncateText rfl (ab_in 1432 (by decide +kernel) rfl) (ab_in 1433 (by decide +kernel) rfl) (ab_in 1434 (by decide +kernel) rfl) (ab_in 96 (by decide +kernel) rfl) dL_truncateText_4 rfl rfl hl.1 (Nat.le_of_ble_eq_true rfl) (Nat.le_of_ble_eq_true rfl) (Nat.le_of_ble_eq_true rfl) (Nat.le_of_ble_eq_true rfl) (Nat.le_of_ble_eq_true rfl) hoh (fun v hv => ?_) hP hD hS (fun E ce q9 sh1 I1 A1 ad1 H1 locs1 hp had hokh g9 g10 g12 g11 c1 c2 c3 => ?_) (fun r sh1 I1 A1 ad1 H1 locs1 hp had hokh g9 g10 g12 g11 => ?_)
  · simp only [List.mem_cons, List.not_mem_nil, or_false] at hv
    rcases hv with h | h <;> subst h <;> first | exact trivial | (show 0 < (shC Z).length; rw [sh_len]; omega)
  · obtain ⟨Z1, rfl, j, hj, hk⟩ := hp
    have hPo1 := fr_keep hPo hDj g12.2
    have hDj1 := fr_dj hPo hDj g10
    match j, hj, hk with
    | 0, hj, hk =>
      cases hj
      refine vx_catch (name := "java/lang/IllegalArgumentException") hown [] ⟨0, 9, 12, 19⟩ [] (by rw [htab]; rfl) (fun z hz => absurd hz List.not_mem_nil) (by decide) (by decide) (hts _ (ab_in 1431 (by decide +kernel) rfl)) (va_any rfl (hCK.2.2.2.2.1 _ (ab_ngm 15 rfl))) c1 c2 c3 ?_
      refine lv_astore_n (lv' := [(3, .ref q9), (0, .ref (ad 0)), (1, .int x0), (2, .ref o)]) hx hb dL_truncateText_12 rfl hl (by decide) rfl (fun ls2 hl2 => ?_)
      refine lv_iconst (v := nI 1) hx hb dL_truncateText_13 (by decide) ?_
      refine vx_ret (W.widen (k := 1) (n := 6) (Nat.le_of_ble_eq_true rfl) (Nat.le_of_ble_eq_true rfl) ?_)
      exact W.iret hx hb hr (fun t ht hW => ⟨⟨1, 0, Z1, I1, A1, ad1, v, rfl, hk, (fun z => absurd z (by decide)), had, hokh, by rw [ht]; exact g9, by rw [ht]; exact hPo1, fr_D hAC g10, hDj1⟩, g11.F ht⟩) g11.2.2 dL_truncateText_14
    | j + 1, hj, hk => exact nomatch hj
  · obtain ⟨Z1, rfl, x, rfl, hk⟩ := hp
    have hPo1 := fr_keep hPo hDj g12.2
    have hDj1 := fr_dj hPo hDj g10
    have hD1 := fr_D hAC g10
    refine lv_i2l (v := x.toInt64) hx hb dL_truncateText_7 rfl ?_
    refine va_last (ws := wO o cL v :: ab_w cT ad1 ac I1 A1 0 (shC Z1)) hx hb hK (wo_cons hPo1 g9) (wo_D hAo hD1 hDj1) g11 0 3 rfl rfl (by unfold vp_in; decide) dL_truncateText_8 (fun H2 locs2 k1 k2 k3 => ?_)
    refine lv_goto (tgt := 15) hx hb dL_truncateText_9 (by decide) ?_
    refine lv_iconst (v := nI 0) hx hb dL_truncateText_15 (by decide) ?_
    refine vx_ret (W.widen (k := 1) (n := 6) (Nat.le_of_ble_eq_true rfl) (Nat.le_of_ble_eq_true rfl) ?_)
    exact W.iret hx hb hr (fun t ht hW => ⟨⟨0, x, Z1, I1, A1, ad1, _, rfl, hk, (fun _ => wo_1), had, hokh, by rw [ht]; exact wo_tl k1, by rw [ht]; exact wo_hd k1, hD1, wo_dj hDj1⟩, k3.F ht⟩) k3.2.2 dL_truncateText_16
theorem wr_readPage {l : Launch} (htr : l.stackTraces = false) {D : va_G} {cT : FieldType → ClassId} {cL : ClassId} {ac ad : Nat → Nat} {sz o : Nat} {v : Nat → Int64} {Z : ab_Z} {I A : ab_F} {x0 x1 : Int32} {K : Nat → Int32 → ab_Z → ab_F → ab_F → Prop} (hM : ab_Cl mX11_readPage 8 25 906 [.ref 0, .int x0, .int x1] (shC Z) I A (ab_Pz (fun E Z I A => ∃ j, ["java/lang/IndexOutOfBoundsException", "java/lang/IllegalStateException"][j]? = some E ∧ K (j + 1) 0 Z I A) (ab_zi (fun r Z I A => K 0 r Z I A)))) (hoh : ab_okH (shC Z)) : vx_Met l yL_readPage (Cond.codeWith yL_readPage cL_readPage 5 (some .int) [(0, 10, 13, 25), (0, 10, 17, 13)] :: ab_ws) (ab_rm 9 25 906) (lw_wP D cT cL ac ad sz o v [.int x0, .int x1] Z I A) (lw_wQ D cT cL ac ad o (va_A (wO o cL v :: ab_w cT ad ac I A 0 (shC Z)) sz) K) (fun _ _ _ => False) 25 906 (va_A (wO o cL v :: ab_w cT ad ac I A 0 (shC Z)) sz) := by
  refine vx_ofWH (cc := cL_readPage) (maxL := 5) (ret := some .int) (hh := [(0, 10, 13, 25), (0, 10, 17, 13)]) (by decide +kernel) rfl ?_
  intro p e s m args below meth c s₁ B hml hv
  obtain ⟨rfl, hsz, hP, hPo, hK, hD0, hDj, hCK, hN⟩ := hv
  have hx := B.exec
  have hb := B.bytes
  have hr := B.returns
  have hts0 := atoms_spec (ws := Cond.codeWith yL_readPage cL_readPage 5 (some .int) [(0, 10, 13, 25), (0, 10, 17, 13)] :: ab_ws) B.pre
  have hts := fun w (hw : w ∈ ab_ws) => hts0 w (List.mem_cons_of_mem _ hw)
  have hown : s.vm.findClass "CheckpointSwapLaw" = some m.cls := findClass_of_methodNamed B.named
  have htab := vx_table (x := yL_readPage) B (hts0 _ List.mem_cons_self)
  subst hsz
  generalize hAe : va_A (wO o cL v :: ab_w cT ad ac I A 0 (shC Z)) s.heap.size = Ar at hCK ⊢
  have hA : ∀ q, s.heap.size ≤ q → Ar q := fun q h => by rw [← hAe]; exact Or.inr h
  have hAo : Ar o := by rw [← hAe]; exact Or.inl ⟨0, _, rfl⟩
  have hD : va_D Ar (ab_w cT ad ac I A 0 (shC Z)) := ⟨hD0.1, fun k q hk => by rw [← hAe]; exact Or.inl ⟨k + 1, q.2, hk⟩⟩
  have hAC : ∀ q, va_A (ab_w cT ad ac I A 0 (shC Z)) s.heap.size q → Ar q := fun q h => by
    rw [← hAe]; rcases h with ⟨k, e9, hk⟩ | hk
    · exact Or.inl ⟨k + 1, e9, hk⟩
    · exact Or.inr hk
  have hS : va_S Ar s.heap s.heap [] := va_S.rf
  have hl := lv_entry ((Value.ref (ad 0) :: [.int x0, .int x1]) ++ [.ref o]) (n := 5) (Nat.le_of_ble_eq_true rfl)
  rw [lg_entry_eq]
  generalize (lg_sl (((Value.ref (ad 0) :: [.int x0, .int x1]) ++ [.ref o])) ++ List.replicate (5 - (lg_sl (((Value.ref (ad 0) :: [.int x0, .int x1]) ++ [.ref o]))).length) Slot.unset).toArray = ls at hl ⊢
  have hl : lv_has ls 5 [(0, .ref (ad 0)), (1, .int x0), (2, .int x1), (3, .ref o)] := hl
  refine lv_aload_n hx hb dL_readPage_0 rfl (lv_at hl 3 rfl) ?_
  refine lv_iconst (v := 0) hx hb dL_readPage_1 (by decide) ?_
  refine lv_aload_n hx hb dL_readPage_2 rfl (lv_at hl 0 rfl) ?_
  refine lv_iload_n hx hb dL_readPage_3 rfl (lv_at hl 1 rfl) ?_
  refine lv_iload_n hx hb dL_readPage_4 rfl (lv_at hl 2 rfl) ?_
  refine lw_callV (D := D) (cT := cT) (ac := ac) (ad := ad) (as := [.int x0, .int x1]) (rest := [.int 0, .ref o]) ⟨hx, hb, hml, hown, hts⟩ htr (lw_sub hK) hCK hA sC_0 vc_15 hM okX11_readPage rfl (ab_in 1497 (by decide +kernel) rfl) (ab_in 1498 (by decide +kernel) rfl) (ab_in 1499 (by decide +kernel) rfl) (ab_in 96 (by decide +kernel) rfl) dL_readPage_5 rfl rfl hl.1 (Nat.le_of_ble_eq_true rfl) (Nat.le_of_ble_eq_true rfl) (Nat.le_of_ble_eq_true rfl) (Nat.le_of_ble_eq_true rfl) (Nat.le_of_ble_eq_true rfl) hoh (fun v hv => ?_) hP hD hS (fun E ce q9 sh1 I1 A1 ad1 H1 locs1 hp had hokh g9 g10 g12 g11 c1 c2 c3 => ?_) (fun r sh1 I1 A1 ad1 H1 locs1 hp had hokh g9 g10 g12 g11 => ?_)
  · simp only [List.mem_cons, List.not_mem_nil, or_false] at hv
    rcases hv with h | h | h <;> subst h <;> first | exact trivial | (show 0 < (shC Z).length; rw [sh_len]; omega)
  · obtain ⟨Z1, rfl, j, hj, hk⟩ := hp
    have hPo1 := fr_keep hPo hDj g12.2
    have hDj1 := fr_dj hPo hDj g10
    match j, hj, hk with
    | 0, hj, hk =>
      cases hj
      refine vx_catch (name := "java/lang/IndexOutOfBoundsException") hown [] ⟨0, 10, 13, 25⟩ [⟨0, 10, 17, 13⟩] (by rw [htab]; rfl) (fun z hz => absurd hz List.not_mem_nil) (by decide) (by decide) (hts _ (ab_in 1494 (by decide +kernel) rfl)) (va_any rfl (hCK.2.2.2.2.1 _ (ab_ngm 18 rfl))) c1 c2 c3 ?_
      refine lv_astore (lv' := [(4, .ref q9), (0, .ref (ad 0)), (1, .int x0), (2, .int x1), (3, .ref o)]) hx hb dL_readPage_13 hl (by decide) rfl (fun ls2 hl2 => ?_)
      refine lv_iconst (v := nI 1) hx hb dL_readPage_15 (by decide) ?_
      refine vx_ret (W.widen (k := 25) (n := 906) (Nat.le_of_ble_eq_true rfl) (Nat.le_of_ble_eq_true rfl) ?_)
      exact W.iret hx hb hr (fun t ht hW => ⟨⟨1, 0, Z1, I1, A1, ad1, v, rfl, hk, (fun z => absurd z (by decide)), had, hokh, by rw [ht]; exact g9, by rw [ht]; exact hPo1, fr_D hAC g10, hDj1⟩, g11.F ht⟩) g11.2.2 dL_readPage_16
    | 1, hj, hk =>
      cases hj
      refine vx_catch (name := "java/lang/IllegalStateException") hown [⟨0, 10, 13, 25⟩] ⟨0, 10, 17, 13⟩ [] (by rw [htab]; rfl) (fun z hz => by
      simp only [List.mem_cons, List.not_mem_nil, or_false] at hz
      have h9 := hz
      · subst h9; exact Or.inr ⟨by decide, "java/lang/IndexOutOfBoundsException", hts _ (ab_in 1494 (by decide +kernel) rfl), hN ("java/lang/IllegalStateException", "java/lang/IndexOutOfBoundsException") (by decide)⟩) (by decide) (by decide) (hts _ (ab_in 1403 (by decide +kernel) rfl)) (va_any rfl (hCK.2.2.2.2.1 _ (ab_ngm 17 rfl))) c1 c2 c3 ?_
      refine lv_astore (lv' := [(4, .ref q9), (0, .ref (ad 0)), (1, .int x0), (2, .int x1), (3, .ref o)]) hx hb dL_readPage_17 hl (by decide) rfl (fun ls2 hl2 => ?_)
      refine lv_iconst (v := nI 2) hx hb dL_readPage_19 (by decide) ?_
      refine vx_ret (W.widen (k := 25) (n := 906) (Nat.le_of_ble_eq_true rfl) (Nat.le_of_ble_eq_true rfl) ?_)
      exact W.iret hx hb hr (fun t ht hW => ⟨⟨2, 0, Z1, I1, A1, ad1, v, rfl, hk, (fun z => absurd z (by decide)), had, hokh, by rw [ht]; exact g9, by rw [ht]; exact hPo1, fr_D hAC g10, hDj1⟩, g11.F ht⟩) g11.2.2 dL_readPage_20
    | j + 2, hj, hk => exact nomatch hj
  · obtain ⟨Z1, rfl, x, rfl, hk⟩ := hp
    have hPo1 := fr_keep hPo hDj g12.2
    have hDj1 := fr_dj hPo hDj g10
    have hD1 := fr_D hAC g10
    refine lv_i2l (v := x.toInt64) hx hb dL_readPage_8 rfl ?_
    refine va_last (ws := wO o cL v :: ab_w cT ad1 ac I1 A1 0 (shC Z1)) hx hb hK (wo_cons hPo1 g9) (wo_D hAo hD1 hDj1) g11 0 3 rfl rfl (by unfold vp_in; decide) dL_readPage_9 (fun H2 locs2 k1 k2 k3 => ?_)
    refine lv_goto (tgt := 21) hx hb dL_readPage_10 (by decide) ?_
    refine lv_iconst (v := nI 0) hx hb dL_readPage_21 (by decide) ?_
    refine vx_ret (W.widen (k := 25) (n := 906) (Nat.le_of_ble_eq_true rfl) (Nat.le_of_ble_eq_true rfl) ?_)
    exact W.iret hx hb hr (fun t ht hW => ⟨⟨0, x, Z1, I1, A1, ad1, _, rfl, hk, (fun _ => wo_1), had, hokh, by rw [ht]; exact wo_tl k1, by rw [ht]; exact wo_hd k1, hD1, wo_dj hDj1⟩, k3.F ht⟩) k3.2.2 dL_readPage_22
theorem wr_writePage {l : Launch} (htr : l.stackTraces = false) {D : va_G} {cT : FieldType → ClassId} {cL : ClassId} {ac ad : Nat → Nat} {sz o : Nat} {v : Nat → Int64} {Z : ab_Z} {I A : ab_F} {x0 x1 x2 : Int32} {K : Nat → Int32 → ab_Z → ab_F → ab_F → Prop} (hM : ab_Cl mX11_writePage 8 25 906 [.ref 0, .int x0, .int x1, .int x2] (shC Z) I A (ab_Pz (fun E Z I A => ∃ j, ["java/lang/IndexOutOfBoundsException", "java/lang/IllegalStateException"][j]? = some E ∧ K (j + 1) 0 Z I A) (ab_zi (fun r Z I A => K 0 r Z I A)))) (hoh : ab_okH (shC Z)) : vx_Met l yL_writePage (Cond.codeWith yL_writePage cL_writePage 6 (some .int) [(0, 12, 15, 25), (0, 12, 19, 13)] :: ab_ws) (ab_rm 9 25 906) (lw_wP D cT cL ac ad sz o v [.int x0, .int x1, .int x2] Z I A) (lw_wQ D cT cL ac ad o (va_A (wO o cL v :: ab_w cT ad ac I A 0 (shC Z)) sz) K) (fun _ _ _ => False) 25 906 (va_A (wO o cL v :: ab_w cT ad ac I A 0 (shC Z)) sz) := by
  refine vx_ofWH (cc := cL_writePage) (maxL := 6) (ret := some .int) (hh := [(0, 12, 15, 25), (0, 12, 19, 13)]) (by decide +kernel) rfl ?_
  intro p e s m args below meth c s₁ B hml hv
  obtain ⟨rfl, hsz, hP, hPo, hK, hD0, hDj, hCK, hN⟩ := hv
  have hx := B.exec
  have hb := B.bytes
  have hr := B.returns
  have hts0 := atoms_spec (ws := Cond.codeWith yL_writePage cL_writePage 6 (some .int) [(0, 12, 15, 25), (0, 12, 19, 13)] :: ab_ws) B.pre
  have hts := fun w (hw : w ∈ ab_ws) => hts0 w (List.mem_cons_of_mem _ hw)
  have hown : s.vm.findClass "CheckpointSwapLaw" = some m.cls := findClass_of_methodNamed B.named
  have htab := vx_table (x := yL_writePage) B (hts0 _ List.mem_cons_self)
  subst hsz
  generalize hAe : va_A (wO o cL v :: ab_w cT ad ac I A 0 (shC Z)) s.heap.size = Ar at hCK ⊢
  have hA : ∀ q, s.heap.size ≤ q → Ar q := fun q h => by rw [← hAe]; exact Or.inr h
  have hAo : Ar o := by rw [← hAe]; exact Or.inl ⟨0, _, rfl⟩
  have hD : va_D Ar (ab_w cT ad ac I A 0 (shC Z)) := ⟨hD0.1, fun k q hk => by rw [← hAe]; exact Or.inl ⟨k + 1, q.2, hk⟩⟩
  have hAC : ∀ q, va_A (ab_w cT ad ac I A 0 (shC Z)) s.heap.size q → Ar q := fun q h => by
    rw [← hAe]; rcases h with ⟨k, e9, hk⟩ | hk
    · exact Or.inl ⟨k + 1, e9, hk⟩
    · exact Or.inr hk
  have hS : va_S Ar s.heap s.heap [] := va_S.rf
  have hl := lv_entry ((Value.ref (ad 0) :: [.int x0, .int x1, .int x2]) ++ [.ref o]) (n := 6) (Nat.le_of_ble_eq_true rfl)
  rw [lg_entry_eq]
  generalize (lg_sl (((Value.ref (ad 0) :: [.int x0, .int x1, .int x2]) ++ [.ref o])) ++ List.replicate (6 - (lg_sl (((Value.ref (ad 0) :: [.int x0, .int x1, .int x2]) ++ [.ref o]))).length) Slot.unset).toArray = ls at hl ⊢
  have hl : lv_has ls 6 [(0, .ref (ad 0)), (1, .int x0), (2, .int x1), (3, .int x2), (4, .ref o)] := hl
  refine lv_aload hx hb dL_writePage_0 (lv_at hl 4 rfl) ?_
  refine lv_iconst (v := 0) hx hb dL_writePage_2 (by decide) ?_
  refine lv_aload_n hx hb dL_writePage_3 rfl (lv_at hl 0 rfl) ?_
  refine lv_iload_n hx hb dL_writePage_4 rfl (lv_at hl 1 rfl) ?_
  refine lv_iload_n hx hb dL_writePage_5 rfl (lv_at hl 2 rfl) ?_
  refine lv_iload_n hx hb dL_writePage_6 rfl (lv_at hl 3 rfl) ?_
  refine lw_callV (D := D) (cT := cT) (ac := ac) (ad := ad) (as := [.int x0, .int x1, .int x2]) (rest := [.int 0, .ref o]) ⟨hx, hb, hml, hown, hts⟩ htr (lw_sub hK) hCK hA sC_0 vc_15 hM okX11_writePage rfl (ab_in 1506 (by decide +kernel) rfl) (ab_in 1507 (by decide +kernel) rfl) (ab_in 1508 (by decide +kernel) rfl) (ab_in 96 (by decide +kernel) rfl) dL_writePage_7 rfl rfl hl.1 (Nat.le_of_ble_eq_true rfl) (Nat.le_of_ble_eq_true rfl) (Nat.le_of_ble_eq_true rfl) (Nat.le_of_ble_eq_true rfl) (Nat.le_of_ble_eq_true rfl) hoh (fun v hv => ?_) hP hD hS (fun E ce q9 sh1 I1 A1 ad1 H1 locs1 hp had hokh g9 g10 g12 g11 c1 c2 c3 => ?_) (fun r sh1 I1 A1 ad1 H1 locs1 hp had hokh g9 g10 g12 g11 => ?_)
  · simp only [List.mem_cons, List.not_mem_nil, or_false] at hv
    rcases hv with h | h | h | h <;> subst h <;> first | exact trivial | (show 0 < (shC Z).length; rw [sh_len]; omega)
  · obtain ⟨Z1, rfl, j, hj, hk⟩ := hp
    have hPo1 := fr_keep hPo hDj g12.2
    have hDj1 := fr_dj hPo hDj g10
    match j, hj, hk with
    | 0, hj, hk =>
      cases hj
      refine vx_catch (name := "java/lang/IndexOutOfBoundsException") hown [] ⟨0, 12, 15, 25⟩ [⟨0, 12, 19, 13⟩] (by rw [htab]; rfl) (fun z hz => absurd hz List.not_mem_nil) (by decide) (by decide) (hts _ (ab_in 1494 (by decide +kernel) rfl)) (va_any rfl (hCK.2.2.2.2.1 _ (ab_ngm 18 rfl))) c1 c2 c3 ?_
      refine lv_astore (lv' := [(5, .ref q9), (0, .ref (ad 0)), (1, .int x0), (2, .int x1), (3, .int x2), (4, .ref o)]) hx hb dL_writePage_15 hl (by decide) rfl (fun ls2 hl2 => ?_)
      refine lv_iconst (v := nI 1) hx hb dL_writePage_17 (by decide) ?_
      refine vx_ret (W.widen (k := 25) (n := 906) (Nat.le_of_ble_eq_true rfl) (Nat.le_of_ble_eq_true rfl) ?_)
      exact W.iret hx hb hr (fun t ht hW => ⟨⟨1, 0, Z1, I1, A1, ad1, v, rfl, hk, (fun z => absurd z (by decide)), had, hokh, by rw [ht]; exact g9, by rw [ht]; exact hPo1, fr_D hAC g10, hDj1⟩, g11.F ht⟩) g11.2.2 dL_writePage_18
    | 1, hj, hk =>
      cases hj
      refine vx_catch (name := "java/lang/IllegalStateException") hown [⟨0, 12, 15, 25⟩] ⟨0, 12, 19, 13⟩ [] (by rw [htab]; rfl) (fun z hz => by
      simp only [List.mem_cons, List.not_mem_nil, or_false] at hz
      have h9 := hz
      · subst h9; exact Or.inr ⟨by decide, "java/lang/IndexOutOfBoundsException", hts _ (ab_in 1494 (by decide +kernel) rfl), hN ("java/lang/IllegalStateException", "java/lang/IndexOutOfBoundsException") (by decide)⟩) (by decide) (by decide) (hts _ (ab_in 1403 (by decide +kernel) rfl)) (va_any rfl (hCK.2.2.2.2.1 _ (ab_ngm 17 rfl))) c1 c2 c3 ?_
      refine lv_astore (lv' := [(5, .ref q9), (0, .ref (ad 0)), (1, .int x0), (2, .int x1), (3, .int x2), (4, .ref o)]) hx hb dL_writePage_19 hl (by decide) rfl (fun ls2 hl2 => ?_)
      refine lv_iconst (v := nI 2) hx hb dL_writePage_21 (by decide) ?_
      refine vx_ret (W.widen (k := 25) (n := 906) (Nat.le_of_ble_eq_true rfl) (Nat.le_of_ble_eq_true rfl) ?_)
      exact W.iret hx hb hr (fun t ht hW => ⟨⟨2, 0, Z1, I1, A1, ad1, v, rfl, hk, (fun z => absurd z (by decide)), had, hokh, by rw [ht]; exact g9, by rw [ht]; exact hPo1, fr_D hAC g10, hDj1⟩, g11.F ht⟩) g11.2.2 dL_writePage_22
    | j + 2, hj, hk => exact nomatch hj
  · obtain ⟨Z1, rfl, x, rfl, hk⟩ := hp
    have hPo1 := fr_keep hPo hDj g12.2
    have hDj1 := fr_dj hPo hDj g10
    have hD1 := fr_D hAC g10
    refine lv_i2l (v := x.toInt64) hx hb dL_writePage_10 rfl ?_
    refine va_last (ws := wO o cL v :: ab_w cT ad1 ac I1 A1 0 (shC Z1)) hx hb hK (wo_cons hPo1 g9) (wo_D hAo hD1 hDj1) g11 0 3 rfl rfl (by unfold vp_in; decide) dL_writePage_11 (fun H2 locs2 k1 k2 k3 => ?_)
    refine lv_goto (tgt := 23) hx hb dL_writePage_12 (by decide) ?_
    refine lv_iconst (v := nI 0) hx hb dL_writePage_23 (by decide) ?_
    refine vx_ret (W.widen (k := 25) (n := 906) (Nat.le_of_ble_eq_true rfl) (Nat.le_of_ble_eq_true rfl) ?_)
    exact W.iret hx hb hr (fun t ht hW => ⟨⟨0, x, Z1, I1, A1, ad1, _, rfl, hk, (fun _ => wo_1), had, hokh, by rw [ht]; exact wo_tl k1, by rw [ht]; exact wo_hd k1, hD1, wo_dj hDj1⟩, k3.F ht⟩) k3.2.2 dL_writePage_24
theorem wr_setPolicy {l : Launch} (htr : l.stackTraces = false) {D : va_G} {cT : FieldType → ClassId} {cL : ClassId} {ac ad : Nat → Nat} {sz o : Nat} {v : Nat → Int64} {Z : ab_Z} {I A : ab_F} {x0 : Int32} {K : Nat → Int32 → ab_Z → ab_F → ab_F → Prop} (hM : ab_Cl mX11_setPolicy 8 25 906 [.ref 0, .int x0] (shC Z) I A (ab_Pz (fun E Z I A => ∃ j, ["java/lang/IllegalArgumentException"][j]? = some E ∧ K (j + 1) 0 Z I A) (ab_zi (fun r Z I A => K 0 r Z I A)))) (hoh : ab_okH (shC Z)) : vx_Met l yL_setPolicy (Cond.codeWith yL_setPolicy cL_setPolicy 4 (some .int) [(0, 9, 12, 19)] :: ab_ws) (ab_rm 9 25 906) (lw_wP D cT cL ac ad sz o v [.int x0] Z I A) (lw_wQ D cT cL ac ad o (va_A (wO o cL v :: ab_w cT ad ac I A 0 (shC Z)) sz) K) (fun _ _ _ => False) 25 906 (va_A (wO o cL v :: ab_w cT ad ac I A 0 (shC Z)) sz) := by
  refine vx_ofWH (cc := cL_setPolicy) (maxL := 4) (ret := some .int) (hh := [(0, 9, 12, 19)]) (by decide +kernel) rfl ?_
  intro p e s m args below meth c s₁ B hml hv
  obtain ⟨rfl, hsz, hP, hPo, hK, hD0, hDj, hCK, hN⟩ := hv
  have hx := B.exec
  have hb := B.bytes
  have hr := B.returns
  have hts0 := atoms_spec (ws := Cond.codeWith yL_setPolicy cL_setPolicy 4 (some .int) [(0, 9, 12, 19)] :: ab_ws) B.pre
  have hts := fun w (hw : w ∈ ab_ws) => hts0 w (List.mem_cons_of_mem _ hw)
  have hown : s.vm.findClass "CheckpointSwapLaw" = some m.cls := findClass_of_methodNamed B.named
  have htab := vx_table (x := yL_setPolicy) B (hts0 _ List.mem_cons_self)
  subst hsz
  generalize hAe : va_A (wO o cL v :: ab_w cT ad ac I A 0 (shC Z)) s.heap.size = Ar at hCK ⊢
  have hA : ∀ q, s.heap.size ≤ q → Ar q := fun q h => by rw [← hAe]; exact Or.inr h
  have hAo : Ar o := by rw [← hAe]; exact Or.inl ⟨0, _, rfl⟩
  have hD : va_D Ar (ab_w cT ad ac I A 0 (shC Z)) := ⟨hD0.1, fun k q hk => by rw [← hAe]; exact Or.inl ⟨k + 1, q.2, hk⟩⟩
  have hAC : ∀ q, va_A (ab_w cT ad ac I A 0 (shC Z)) s.heap.size q → Ar q := fun q h => by
    rw [← hAe]; rcases h with ⟨k, e9, hk⟩ | hk
    · exact Or.inl ⟨k + 1, e9, hk⟩
    · exact Or.inr hk
  have hS : va_S Ar s.heap s.heap [] := va_S.rf
  have hl := lv_entry ((Value.ref (ad 0) :: [.int x0]) ++ [.ref o]) (n := 4) (Nat.le_of_ble_eq_true rfl)
  rw [lg_entry_eq]
  generalize (lg_sl (((Value.ref (ad 0) :: [.int x0]) ++ [.ref o])) ++ List.replicate (4 - (lg_sl (((Value.ref (ad 0) :: [.int x0]) ++ [.ref o]))).length) Slot.unset).toArray = ls at hl ⊢
  have hl : lv_has ls 4 [(0, .ref (ad 0)), (1, .int x0), (2, .ref o)] := hl
  refine lv_aload_n hx hb dL_setPolicy_0 rfl (lv_at hl 2 rfl) ?_
  refine lv_iconst (v := 0) hx hb dL_setPolicy_1 (by decide) ?_
  refine lv_aload_n hx hb dL_setPolicy_2 rfl (lv_at hl 0 rfl) ?_
  refine lv_iload_n hx hb dL_setPolicy_3 rfl (lv_at hl 1 rfl) ?_
  refine lw_callV (D := D) (cT := cT) (ac := ac) (ad := ad) (as := [.int x0]) (rest := [.int 0, .ref o]) ⟨hx, hb, hml, hown, hts⟩ htr (lw_sub hK) hCK hA sC_0 vc_15 hM okX11_setPolicy rfl (ab_in 1515 (by decide +kernel) rfl) (ab_in 1516 (by decide +kernel) rfl) (ab_in 1517 (by decide +kernel) rfl) (ab_in 96 (by decide +kernel) rfl) dL_setPolicy_4 rfl rfl hl.1 (Nat.le_of_ble_eq_true rfl) (Nat.le_of_ble_eq_true rfl) (Nat.le_of_ble_eq_true rfl) (Nat.le_of_ble_eq_true rfl) (Nat.le_of_ble_eq_true rfl) hoh (fun v hv => ?_) hP hD hS (fun E ce q9 sh1 I1 A1 ad1 H1 locs1 hp had hokh g9 g10 g12 g11 c1 c2 c3 => ?_) (fun r sh1 I1 A1 ad1 H1 locs1 hp had hokh g9 g10 g12 g11 => ?_)
  · simp only [List.mem_cons, List.not_mem_nil, or_false] at hv
    rcases hv with h | h <;> subst h <;> first | exact trivial | (show 0 < (shC Z).length; rw [sh_len]; omega)
  · obtain ⟨Z1, rfl, j, hj, hk⟩ := hp
    have hPo1 := fr_keep hPo hDj g12.2
    have hDj1 := fr_dj hPo hDj g10
    match j, hj, hk with
    | 0, hj, hk =>
      cases hj
      refine vx_catch (name := "java/lang/IllegalArgumentException") hown [] ⟨0, 9, 12, 19⟩ [] (by rw [htab]; rfl) (fun z hz => absurd hz List.not_mem_nil) (by decide) (by decide) (hts _ (ab_in 1431 (by decide +kernel) rfl)) (va_any rfl (hCK.2.2.2.2.1 _ (ab_ngm 15 rfl))) c1 c2 c3 ?_
      refine lv_astore_n (lv' := [(3, .ref q9), (0, .ref (ad 0)), (1, .int x0), (2, .ref o)]) hx hb dL_setPolicy_12 rfl hl (by decide) rfl (fun ls2 hl2 => ?_)
      refine lv_iconst (v := nI 1) hx hb dL_setPolicy_13 (by decide) ?_
      refine vx_ret (W.widen (k := 25) (n := 906) (Nat.le_of_ble_eq_true rfl) (Nat.le_of_ble_eq_true rfl) ?_)
      exact W.iret hx hb hr (fun t ht hW => ⟨⟨1, 0, Z1, I1, A1, ad1, v, rfl, hk, (fun z => absurd z (by decide)), had, hokh, by rw [ht]; exact g9, by rw [ht]; exact hPo1, fr_D hAC g10, hDj1⟩, g11.F ht⟩) g11.2.2 dL_setPolicy_14
    | j + 1, hj, hk => exact nomatch hj
  · obtain ⟨Z1, rfl, x, rfl, hk⟩ := hp
    have hPo1 := fr_keep hPo hDj g12.2
    have hDj1 := fr_dj hPo hDj g10
    have hD1 := fr_D hAC g10
    refine lv_i2l (v := x.toInt64) hx hb dL_setPolicy_7 rfl ?_
    refine va_last (ws := wO o cL v :: ab_w cT ad1 ac I1 A1 0 (shC Z1)) hx hb hK (wo_cons hPo1 g9) (wo_D hAo hD1 hDj1) g11 0 3 rfl rfl (by unfold vp_in; decide) dL_setPolicy_8 (fun H2 locs2 k1 k2 k3 => ?_)
    refine lv_goto (tgt := 15) hx hb dL_setPolicy_9 (by decide) ?_
    refine lv_iconst (v := nI 0) hx hb dL_setPolicy_15 (by decide) ?_
    refine vx_ret (W.widen (k := 25) (n := 906) (Nat.le_of_ble_eq_true rfl) (Nat.le_of_ble_eq_true rfl) ?_)
    exact W.iret hx hb hr (fun t ht hW => ⟨⟨0, x, Z1, I1, A1, ad1, _, rfl, hk, (fun _ => wo_1), had, hokh, by rw [ht]; exact wo_tl k1, by rw [ht]; exact wo_hd k1, hD1, wo_dj hDj1⟩, k3.F ht⟩) k3.2.2 dL_setPolicy_16
theorem wr_startBarrier {l : Launch} (htr : l.stackTraces = false) {D : va_G} {cT : FieldType → ClassId} {cL : ClassId} {ac ad : Nat → Nat} {sz o : Nat} {v : Nat → Int64} {Z : ab_Z} {I A : ab_F} {x0 : Int32} {K : Nat → Int32 → ab_Z → ab_F → ab_F → Prop} (hM : ab_Cl mX11_startBarrier 8 25 906 [.ref 0, .int x0] (shC Z) I A (ab_Pz (fun E Z I A => ∃ j, ["java/lang/IllegalArgumentException", "java/lang/IllegalStateException"][j]? = some E ∧ K (j + 1) 0 Z I A) (ab_zi (fun r Z I A => K 0 r Z I A)))) (hoh : ab_okH (shC Z)) : vx_Met l yL_startBarrier (Cond.codeWith yL_startBarrier cL_startBarrier 4 (some .int) [(0, 9, 12, 19), (0, 9, 15, 13)] :: ab_ws) (ab_rm 9 25 906) (lw_wP D cT cL ac ad sz o v [.int x0] Z I A) (lw_wQ D cT cL ac ad o (va_A (wO o cL v :: ab_w cT ad ac I A 0 (shC Z)) sz) K) (fun _ _ _ => False) 25 906 (va_A (wO o cL v :: ab_w cT ad ac I A 0 (shC Z)) sz) := by
  refine vx_ofWH (cc := cL_startBarrier) (maxL := 4) (ret := some .int) (hh := [(0, 9, 12, 19), (0, 9, 15, 13)]) (by decide +kernel) rfl ?_
  intro p e s m args below meth c s₁ B hml hv
  obtain ⟨rfl, hsz, hP, hPo, hK, hD0, hDj, hCK, hN⟩ := hv
  have hx := B.exec
  have hb := B.bytes
  have hr := B.returns
  have hts0 := atoms_spec (ws := Cond.codeWith yL_startBarrier cL_startBarrier 4 (some .int) [(0, 9, 12, 19), (0, 9, 15, 13)] :: ab_ws) B.pre
  have hts := fun w (hw : w ∈ ab_ws) => hts0 w (List.mem_cons_of_mem _ hw)
  have hown : s.vm.findClass "CheckpointSwapLaw" = some m.cls := findClass_of_methodNamed B.named
  have htab := vx_table (x := yL_startBarrier) B (hts0 _ List.mem_cons_self)
  subst hsz
  generalize hAe : va_A (wO o cL v :: ab_w cT ad ac I A 0 (shC Z)) s.heap.size = Ar at hCK ⊢
  have hA : ∀ q, s.heap.size ≤ q → Ar q := fun q h => by rw [← hAe]; exact Or.inr h
  have hAo : Ar o := by rw [← hAe]; exact Or.inl ⟨0, _, rfl⟩
  have hD : va_D Ar (ab_w cT ad ac I A 0 (shC Z)) := ⟨hD0.1, fun k q hk => by rw [← hAe]; exact Or.inl ⟨k + 1, q.2, hk⟩⟩
  have hAC : ∀ q, va_A (ab_w cT ad ac I A 0 (shC Z)) s.heap.size q → Ar q := fun q h => by
    rw [← hAe]; rcases h with ⟨k, e9, hk⟩ | hk
    · exact Or.inl ⟨k + 1, e9, hk⟩
    · exact Or.inr hk
  have hS : va_S Ar s.heap s.heap [] := va_S.rf
  have hl := lv_entry ((Value.ref (ad 0) :: [.int x0]) ++ [.ref o]) (n := 4) (Nat.le_of_ble_eq_true rfl)
  rw [lg_entry_eq]
  generalize (lg_sl (((Value.ref (ad 0) :: [.int x0]) ++ [.ref o])) ++ List.replicate (4 - (lg_sl (((Value.ref (ad 0) :: [.int x0]) ++ [.ref o]))).length) Slot.unset).toArray = ls at hl ⊢
  have hl : lv_has ls 4 [(0, .ref (ad 0)), (1, .int x0), (2, .ref o)] := hl
  refine lv_aload_n hx hb dL_startBarrier_0 rfl (lv_at hl 2 rfl) ?_
  refine lv_iconst (v := 0) hx hb dL_startBarrier_1 (by decide) ?_
  refine lv_aload_n hx hb dL_startBarrier_2 rfl (lv_at hl 0 rfl) ?_
  refine lv_iload_n hx hb dL_startBarrier_3 rfl (lv_at hl 1 rfl) ?_
  refine lw_callV (D := D) (cT := cT) (ac := ac) (ad := ad) (as := [.int x0]) (rest := [.int 0, .ref o]) ⟨hx, hb, hml, hown, hts⟩ htr (lw_sub hK) hCK hA sC_0 vc_15 hM okX11_startBarrier rfl (ab_in 1522 (by decide +kernel) rfl) (ab_in 1523 (by decide +kernel) rfl) (ab_in 1524 (by decide +kernel) rfl) (ab_in 96 (by decide +kernel) rfl) dL_startBarrier_4 rfl rfl hl.1 (Nat.le_of_ble_eq_true rfl) (Nat.le_of_ble_eq_true rfl) (Nat.le_of_ble_eq_true rfl) (Nat.le_of_ble_eq_true rfl) (Nat.le_of_ble_eq_true rfl) hoh (fun v hv => ?_) hP hD hS (fun E ce q9 sh1 I1 A1 ad1 H1 locs1 hp had hokh g9 g10 g12 g11 c1 c2 c3 => ?_) (fun r sh1 I1 A1 ad1 H1 locs1 hp had hokh g9 g10 g12 g11 => ?_)
  · simp only [List.mem_cons, List.not_mem_nil, or_false] at hv
    rcases hv with h | h <;> subst h <;> first | exact trivial | (show 0 < (shC Z).length; rw [sh_len]; omega)
  · obtain ⟨Z1, rfl, j, hj, hk⟩ := hp
    have hPo1 := fr_keep hPo hDj g12.2
    have hDj1 := fr_dj hPo hDj g10
    match j, hj, hk with
    | 0, hj, hk =>
      cases hj
      refine vx_catch (name := "java/lang/IllegalArgumentException") hown [] ⟨0, 9, 12, 19⟩ [⟨0, 9, 15, 13⟩] (by rw [htab]; rfl) (fun z hz => absurd hz List.not_mem_nil) (by decide) (by decide) (hts _ (ab_in 1431 (by decide +kernel) rfl)) (va_any rfl (hCK.2.2.2.2.1 _ (ab_ngm 15 rfl))) c1 c2 c3 ?_
      refine lv_astore_n (lv' := [(3, .ref q9), (0, .ref (ad 0)), (1, .int x0), (2, .ref o)]) hx hb dL_startBarrier_12 rfl hl (by decide) rfl (fun ls2 hl2 => ?_)
      refine lv_iconst (v := nI 1) hx hb dL_startBarrier_13 (by decide) ?_
      refine vx_ret (W.widen (k := 25) (n := 906) (Nat.le_of_ble_eq_true rfl) (Nat.le_of_ble_eq_true rfl) ?_)
      exact W.iret hx hb hr (fun t ht hW => ⟨⟨1, 0, Z1, I1, A1, ad1, v, rfl, hk, (fun z => absurd z (by decide)), had, hokh, by rw [ht]; exact g9, by rw [ht]; exact hPo1, fr_D hAC g10, hDj1⟩, g11.F ht⟩) g11.2.2 dL_startBarrier_14
    | 1, hj, hk =>
      cases hj
      refine vx_catch (name := "java/lang/IllegalStateException") hown [⟨0, 9, 12, 19⟩] ⟨0, 9, 15, 13⟩ [] (by rw [htab]; rfl) (fun z hz => by
      simp only [List.mem_cons, List.not_mem_nil, or_false] at hz
      have h9 := hz
      · subst h9; exact Or.inr ⟨by decide, "java/lang/IllegalArgumentException", hts _ (ab_in 1431 (by decide +kernel) rfl), hN ("java/lang/IllegalStateException", "java/lang/IllegalArgumentException") (by decide)⟩) (by decide) (by decide) (hts _ (ab_in 1403 (by decide +kernel) rfl)) (va_any rfl (hCK.2.2.2.2.1 _ (ab_ngm 17 rfl))) c1 c2 c3 ?_
      refine lv_astore_n (lv' := [(3, .ref q9), (0, .ref (ad 0)), (1, .int x0), (2, .ref o)]) hx hb dL_startBarrier_15 rfl hl (by decide) rfl (fun ls2 hl2 => ?_)
      refine lv_iconst (v := nI 2) hx hb dL_startBarrier_16 (by decide) ?_
      refine vx_ret (W.widen (k := 25) (n := 906) (Nat.le_of_ble_eq_true rfl) (Nat.le_of_ble_eq_true rfl) ?_)
      exact W.iret hx hb hr (fun t ht hW => ⟨⟨2, 0, Z1, I1, A1, ad1, v, rfl, hk, (fun z => absurd z (by decide)), had, hokh, by rw [ht]; exact g9, by rw [ht]; exact hPo1, fr_D hAC g10, hDj1⟩, g11.F ht⟩) g11.2.2 dL_startBarrier_17
    | j + 2, hj, hk => exact nomatch hj
  · obtain ⟨Z1, rfl, x, rfl, hk⟩ := hp
    have hPo1 := fr_keep hPo hDj g12.2
    have hDj1 := fr_dj hPo hDj g10
    have hD1 := fr_D hAC g10
    refine lv_i2l (v := x.toInt64) hx hb dL_startBarrier_7 rfl ?_
    refine va_last (ws := wO o cL v :: ab_w cT ad1 ac I1 A1 0 (shC Z1)) hx hb hK (wo_cons hPo1 g9) (wo_D hAo hD1 hDj1) g11 0 3 rfl rfl (by unfold vp_in; decide) dL_startBarrier_8 (fun H2 locs2 k1 k2 k3 => ?_)
    refine lv_goto (tgt := 18) hx hb dL_startBarrier_9 (by decide) ?_
    refine lv_iconst (v := nI 0) hx hb dL_startBarrier_18 (by decide) ?_
    refine vx_ret (W.widen (k := 25) (n := 906) (Nat.le_of_ble_eq_true rfl) (Nat.le_of_ble_eq_true rfl) ?_)
    exact W.iret hx hb hr (fun t ht hW => ⟨⟨0, x, Z1, I1, A1, ad1, _, rfl, hk, (fun _ => wo_1), had, hokh, by rw [ht]; exact wo_tl k1, by rw [ht]; exact wo_hd k1, hD1, wo_dj hDj1⟩, k3.F ht⟩) k3.2.2 dL_startBarrier_19
theorem wr_writeBarrier {l : Launch} (htr : l.stackTraces = false) {D : va_G} {cT : FieldType → ClassId} {cL : ClassId} {ac ad : Nat → Nat} {sz o : Nat} {v : Nat → Int64} {Z : ab_Z} {I A : ab_F} {x0 : Int32} {K : Nat → Int32 → ab_Z → ab_F → ab_F → Prop} (hM : ab_Cl mX11_writeBarrier 8 25 906 [.ref 0, .int x0] (shC Z) I A (ab_Pz (fun E Z I A => ∃ j, ["java/lang/IllegalArgumentException", "java/lang/IllegalStateException"][j]? = some E ∧ K (j + 1) 0 Z I A) (ab_zi (fun r Z I A => K 0 r Z I A)))) (hoh : ab_okH (shC Z)) : vx_Met l yL_writeBarrier (Cond.codeWith yL_writeBarrier cL_writeBarrier 4 (some .int) [(0, 9, 12, 19), (0, 9, 15, 13)] :: ab_ws) (ab_rm 9 25 906) (lw_wP D cT cL ac ad sz o v [.int x0] Z I A) (lw_wQ D cT cL ac ad o (va_A (wO o cL v :: ab_w cT ad ac I A 0 (shC Z)) sz) K) (fun _ _ _ => False) 25 906 (va_A (wO o cL v :: ab_w cT ad ac I A 0 (shC Z)) sz) := by
  refine vx_ofWH (cc := cL_writeBarrier) (maxL := 4) (ret := some .int) (hh := [(0, 9, 12, 19), (0, 9, 15, 13)]) (by decide +kernel) rfl ?_
  intro p e s m args below meth c s₁ B hml hv
  obtain ⟨rfl, hsz, hP, hPo, hK, hD0, hDj, hCK, hN⟩ := hv
  have hx := B.exec
  have hb := B.bytes
  have hr := B.returns
  have hts0 := atoms_spec (ws := Cond.codeWith yL_writeBarrier cL_writeBarrier 4 (some .int) [(0, 9, 12, 19), (0, 9, 15, 13)] :: ab_ws) B.pre
  have hts := fun w (hw : w ∈ ab_ws) => hts0 w (List.mem_cons_of_mem _ hw)
  have hown : s.vm.findClass "CheckpointSwapLaw" = some m.cls := findClass_of_methodNamed B.named
  have htab := vx_table (x := yL_writeBarrier) B (hts0 _ List.mem_cons_self)
  subst hsz
  generalize hAe : va_A (wO o cL v :: ab_w cT ad ac I A 0 (shC Z)) s.heap.size = Ar at hCK ⊢
  have hA : ∀ q, s.heap.size ≤ q → Ar q := fun q h => by rw [← hAe]; exact Or.inr h
  have hAo : Ar o := by rw [← hAe]; exact Or.inl ⟨0, _, rfl⟩
  have hD : va_D Ar (ab_w cT ad ac I A 0 (shC Z)) := ⟨hD0.1, fun k q hk => by rw [← hAe]; exact Or.inl ⟨k + 1, q.2, hk⟩⟩
  have hAC : ∀ q, va_A (ab_w cT ad ac I A 0 (shC Z)) s.heap.size q → Ar q := fun q h => by
    rw [← hAe]; rcases h with ⟨k, e9, hk⟩ | hk
    · exact Or.inl ⟨k + 1, e9, hk⟩
    · exact Or.inr hk
  have hS : va_S Ar s.heap s.heap [] := va_S.rf
  have hl := lv_entry ((Value.ref (ad 0) :: [.int x0]) ++ [.ref o]) (n := 4) (Nat.le_of_ble_eq_true rfl)
  rw [lg_entry_eq]
  generalize (lg_sl (((Value.ref (ad 0) :: [.int x0]) ++ [.ref o])) ++ List.replicate (4 - (lg_sl (((Value.ref (ad 0) :: [.int x0]) ++ [.ref o]))).length) Slot.unset).toArray = ls at hl ⊢
  have hl : lv_has ls 4 [(0, .ref (ad 0)), (1, .int x0), (2, .ref o)] := hl
  refine lv_aload_n hx hb dL_writeBarrier_0 rfl (lv_at hl 2 rfl) ?_
  refine lv_iconst (v := 0) hx hb dL_writeBarrier_1 (by decide) ?_
  refine lv_aload_n hx hb dL_writeBarrier_2 rfl (lv_at hl 0 rfl) ?_
  refine lv_iload_n hx hb dL_writeBarrier_3 rfl (lv_at hl 1 rfl) ?_
  refine lw_callV (D := D) (cT := cT) (ac := ac) (ad := ad) (as := [.int x0]) (rest := [.int 0, .ref o]) ⟨hx, hb, hml, hown, hts⟩ htr (lw_sub hK) hCK hA sC_0 vc_15 hM okX11_writeBarrier rfl (ab_in 1531 (by decide +kernel) rfl) (ab_in 1532 (by decide +kernel) rfl) (ab_in 1533 (by decide +kernel) rfl) (ab_in 96 (by decide +kernel) rfl) dL_writeBarrier_4 rfl rfl hl.1 (Nat.le_of_ble_eq_true rfl) (Nat.le_of_ble_eq_true rfl) (Nat.le_of_ble_eq_true rfl) (Nat.le_of_ble_eq_true rfl) (Nat.le_of_ble_eq_true rfl) hoh (fun v hv => ?_) hP hD hS (fun E ce q9 sh1 I1 A1 ad1 H1 locs1 hp had hokh g9 g10 g12 g11 c1 c2 c3 => ?_) (fun r sh1 I1 A1 ad1 H1 locs1 hp had hokh g9 g10 g12 g11 => ?_)
  · simp only [List.mem_cons, List.not_mem_nil, or_false] at hv
    rcases hv with h | h <;> subst h <;> first | exact trivial | (show 0 < (shC Z).length; rw [sh_len]; omega)
  · obtain ⟨Z1, rfl, j, hj, hk⟩ := hp
    have hPo1 := fr_keep hPo hDj g12.2
    have hDj1 := fr_dj hPo hDj g10
    match j, hj, hk with
    | 0, hj, hk =>
      cases hj
      refine vx_catch (name := "java/lang/IllegalArgumentException") hown [] ⟨0, 9, 12, 19⟩ [⟨0, 9, 15, 13⟩] (by rw [htab]; rfl) (fun z hz => absurd hz List.not_mem_nil) (by decide) (by decide) (hts _ (ab_in 1431 (by decide +kernel) rfl)) (va_any rfl (hCK.2.2.2.2.1 _ (ab_ngm 15 rfl))) c1 c2 c3 ?_
      refine lv_astore_n (lv' := [(3, .ref q9), (0, .ref (ad 0)), (1, .int x0), (2, .ref o)]) hx hb dL_writeBarrier_12 rfl hl (by decide) rfl (fun ls2 hl2 => ?_)
      refine lv_iconst (v := nI 1) hx hb dL_writeBarrier_13 (by decide) ?_
      refine vx_ret (W.widen (k := 25) (n := 906) (Nat.le_of_ble_eq_true rfl) (Nat.le_of_ble_eq_true rfl) ?_)
      exact W.iret hx hb hr (fun t ht hW => ⟨⟨1, 0, Z1, I1, A1, ad1, v, rfl, hk, (fun z => absurd z (by decide)), had, hokh, by rw [ht]; exact g9, by rw [ht]; exact hPo1, fr_D hAC g10, hDj1⟩, g11.F ht⟩) g11.2.2 dL_writeBarrier_14
    | 1, hj, hk =>
      cases hj
      refine vx_catch (name := "java/lang/IllegalStateException") hown [⟨0, 9, 12, 19⟩] ⟨0, 9, 15, 13⟩ [] (by rw [htab]; rfl) (fun z hz => by
      simp only [List.mem_cons, List.not_mem_nil, or_false] at hz
      have h9 := hz
      · subst h9; exact Or.inr ⟨by decide, "java/lang/IllegalArgumentException", hts _ (ab_in 1431 (by decide +kernel) rfl), hN ("java/lang/IllegalStateException", "java/lang/IllegalArgumentException") (by decide)⟩) (by decide) (by decide) (hts _ (ab_in 1403 (by decide +kernel) rfl)) (va_any rfl (hCK.2.2.2.2.1 _ (ab_ngm 17 rfl))) c1 c2 c3 ?_
      refine lv_astore_n (lv' := [(3, .ref q9), (0, .ref (ad 0)), (1, .int x0), (2, .ref o)]) hx hb dL_writeBarrier_15 rfl hl (by decide) rfl (fun ls2 hl2 => ?_)
      refine lv_iconst (v := nI 2) hx hb dL_writeBarrier_16 (by decide) ?_
      refine vx_ret (W.widen (k := 25) (n := 906) (Nat.le_of_ble_eq_true rfl) (Nat.le_of_ble_eq_true rfl) ?_)
      exact W.iret hx hb hr (fun t ht hW => ⟨⟨2, 0, Z1, I1, A1, ad1, v, rfl, hk, (fun z => absurd z (by decide)), had, hokh, by rw [ht]; exact g9, by rw [ht]; exact hPo1, fr_D hAC g10, hDj1⟩, g11.F ht⟩) g11.2.2 dL_writeBarrier_17
    | j + 2, hj, hk => exact nomatch hj
  · obtain ⟨Z1, rfl, x, rfl, hk⟩ := hp
    have hPo1 := fr_keep hPo hDj g12.2
    have hDj1 := fr_dj hPo hDj g10
    have hD1 := fr_D hAC g10
    refine lv_i2l (v := x.toInt64) hx hb dL_writeBarrier_7 rfl ?_
    refine va_last (ws := wO o cL v :: ab_w cT ad1 ac I1 A1 0 (shC Z1)) hx hb hK (wo_cons hPo1 g9) (wo_D hAo hD1 hDj1) g11 0 3 rfl rfl (by unfold vp_in; decide) dL_writeBarrier_8 (fun H2 locs2 k1 k2 k3 => ?_)
    refine lv_goto (tgt := 18) hx hb dL_writeBarrier_9 (by decide) ?_
    refine lv_iconst (v := nI 0) hx hb dL_writeBarrier_18 (by decide) ?_
    refine vx_ret (W.widen (k := 25) (n := 906) (Nat.le_of_ble_eq_true rfl) (Nat.le_of_ble_eq_true rfl) ?_)
    exact W.iret hx hb hr (fun t ht hW => ⟨⟨0, x, Z1, I1, A1, ad1, _, rfl, hk, (fun _ => wo_1), had, hokh, by rw [ht]; exact wo_tl k1, by rw [ht]; exact wo_hd k1, hD1, wo_dj hDj1⟩, k3.F ht⟩) k3.2.2 dL_writeBarrier_19
theorem wr_commitBarrier {l : Launch} (htr : l.stackTraces = false) {D : va_G} {cT : FieldType → ClassId} {cL : ClassId} {ac ad : Nat → Nat} {sz o : Nat} {v : Nat → Int64} {Z : ab_Z} {I A : ab_F} {K : Nat → Int32 → ab_Z → ab_F → ab_F → Prop} (hM : ab_Cl mX11_commitBarrier 8 25 906 [.ref 0] (shC Z) I A (ab_Pz (fun E Z I A => ∃ j, ["java/lang/IllegalStateException", "java/lang/UnsupportedOperationException"][j]? = some E ∧ K (j + 1) 0 Z I A) (ab_zi (fun r Z I A => K 0 r Z I A)))) (hoh : ab_okH (shC Z)) : vx_Met l yL_commitBarrier (Cond.codeWith yL_commitBarrier cL_commitBarrier 3 (some .int) [(0, 8, 11, 13), (0, 8, 14, 44)] :: ab_ws) (ab_rm 9 25 906) (lw_wP D cT cL ac ad sz o v [] Z I A) (lw_wQ D cT cL ac ad o (va_A (wO o cL v :: ab_w cT ad ac I A 0 (shC Z)) sz) K) (fun _ _ _ => False) 25 906 (va_A (wO o cL v :: ab_w cT ad ac I A 0 (shC Z)) sz) := by
  refine vx_ofWH (cc := cL_commitBarrier) (maxL := 3) (ret := some .int) (hh := [(0, 8, 11, 13), (0, 8, 14, 44)]) (by decide +kernel) rfl ?_
  intro p e s m args below meth c s₁ B hml hv
  obtain ⟨rfl, hsz, hP, hPo, hK, hD0, hDj, hCK, hN⟩ := hv
  have hx := B.exec
  have hb := B.bytes
  have hr := B.returns
  have hts0 := atoms_spec (ws := Cond.codeWith yL_commitBarrier cL_commitBarrier 3 (some .int) [(0, 8, 11, 13), (0, 8, 14, 44)] :: ab_ws) B.pre
  have hts := fun w (hw : w ∈ ab_ws) => hts0 w (List.mem_cons_of_mem _ hw)
  have hown : s.vm.findClass "CheckpointSwapLaw" = some m.cls := findClass_of_methodNamed B.named
  have htab := vx_table (x := yL_commitBarrier) B (hts0 _ List.mem_cons_self)
  subst hsz
  generalize hAe : va_A (wO o cL v :: ab_w cT ad ac I A 0 (shC Z)) s.heap.size = Ar at hCK ⊢
  have hA : ∀ q, s.heap.size ≤ q → Ar q := fun q h => by rw [← hAe]; exact Or.inr h
  have hAo : Ar o := by rw [← hAe]; exact Or.inl ⟨0, _, rfl⟩
  have hD : va_D Ar (ab_w cT ad ac I A 0 (shC Z)) := ⟨hD0.1, fun k q hk => by rw [← hAe]; exact Or.inl ⟨k + 1, q.2, hk⟩⟩
  have hAC : ∀ q, va_A (ab_w cT ad ac I A 0 (shC Z)) s.heap.size q → Ar q := fun q h => by
    rw [← hAe]; rcases h with ⟨k, e9, hk⟩ | hk
    · exact Or.inl ⟨k + 1, e9, hk⟩
    · exact Or.inr hk
  have hS : va_S Ar s.heap s.heap [] := va_S.rf
  have hl := lv_entry ((Value.ref (ad 0) :: []) ++ [.ref o]) (n := 3) (Nat.le_of_ble_eq_true rfl)
  rw [lg_entry_eq]
  generalize (lg_sl (((Value.ref (ad 0) :: []) ++ [.ref o])) ++ List.replicate (3 - (lg_sl (((Value.ref (ad 0) :: []) ++ [.ref o]))).length) Slot.unset).toArray = ls at hl ⊢
  have hl : lv_has ls 3 [(0, .ref (ad 0)), (1, .ref o)] := hl
  refine lv_aload_n hx hb dL_commitBarrier_0 rfl (lv_at hl 1 rfl) ?_
  refine lv_iconst (v := 0) hx hb dL_commitBarrier_1 (by decide) ?_
  refine lv_aload_n hx hb dL_commitBarrier_2 rfl (lv_at hl 0 rfl) ?_
  refine lw_callV (D := D) (cT := cT) (ac := ac) (ad := ad) (as := []) (rest := [.int 0, .ref o]) ⟨hx, hb, hml, hown, hts⟩ htr (lw_sub hK) hCK hA sC_0 vc_15 hM okX11_commitBarrier rfl (ab_in 1541 (by decide +kernel) rfl) (ab_in 1542 (by decide +kernel) rfl) (ab_in 1543 (by decide +kernel) rfl) (ab_in 96 (by decide +kernel) rfl) dL_commitBarrier_3 rfl rfl hl.1 (Nat.le_of_ble_eq_true rfl) (Nat.le_of_ble_eq_true rfl) (Nat.le_of_ble_eq_true rfl) (Nat.le_of_ble_eq_true rfl) (Nat.le_of_ble_eq_true rfl) hoh (fun v hv => ?_) hP hD hS (fun E ce q9 sh1 I1 A1 ad1 H1 locs1 hp had hokh g9 g10 g12 g11 c1 c2 c3 => ?_) (fun r sh1 I1 A1 ad1 H1 locs1 hp had hokh g9 g10 g12 g11 => ?_)
  · simp only [List.mem_cons, List.not_mem_nil, or_false] at hv
    subst hv; show 0 < (shC Z).length; rw [sh_len]; omega
  · obtain ⟨Z1, rfl, j, hj, hk⟩ := hp
    have hPo1 := fr_keep hPo hDj g12.2
    have hDj1 := fr_dj hPo hDj g10
    match j, hj, hk with
    | 0, hj, hk =>
      cases hj
      refine vx_catch (name := "java/lang/IllegalStateException") hown [] ⟨0, 8, 11, 13⟩ [⟨0, 8, 14, 44⟩] (by rw [htab]; rfl) (fun z hz => absurd hz List.not_mem_nil) (by decide) (by decide) (hts _ (ab_in 1403 (by decide +kernel) rfl)) (va_any rfl (hCK.2.2.2.2.1 _ (ab_ngm 17 rfl))) c1 c2 c3 ?_
      refine lv_astore_n (lv' := [(2, .ref q9), (0, .ref (ad 0)), (1, .ref o)]) hx hb dL_commitBarrier_11 rfl hl (by decide) rfl (fun ls2 hl2 => ?_)
      refine lv_iconst (v := nI 1) hx hb dL_commitBarrier_12 (by decide) ?_
      refine vx_ret (W.widen (k := 25) (n := 906) (Nat.le_of_ble_eq_true rfl) (Nat.le_of_ble_eq_true rfl) ?_)
      exact W.iret hx hb hr (fun t ht hW => ⟨⟨1, 0, Z1, I1, A1, ad1, v, rfl, hk, (fun z => absurd z (by decide)), had, hokh, by rw [ht]; exact g9, by rw [ht]; exact hPo1, fr_D hAC g10, hDj1⟩, g11.F ht⟩) g11.2.2 dL_commitBarrier_13
    | 1, hj, hk =>
      cases hj
      refine vx_catch (name := "java/lang/UnsupportedOperationException") hown [⟨0, 8, 11, 13⟩] ⟨0, 8, 14, 44⟩ [] (by rw [htab]; rfl) (fun z hz => by
      simp only [List.mem_cons, List.not_mem_nil, or_false] at hz
      have h9 := hz
      · subst h9; exact Or.inr ⟨by decide, "java/lang/IllegalStateException", hts _ (ab_in 1403 (by decide +kernel) rfl), hN ("java/lang/UnsupportedOperationException", "java/lang/IllegalStateException") (by decide)⟩) (by decide) (by decide) (hts _ (ab_in 1540 (by decide +kernel) rfl)) (va_any rfl (hCK.2.2.2.2.1 _ (ab_ngm 20 rfl))) c1 c2 c3 ?_
      refine lv_astore_n (lv' := [(2, .ref q9), (0, .ref (ad 0)), (1, .ref o)]) hx hb dL_commitBarrier_14 rfl hl (by decide) rfl (fun ls2 hl2 => ?_)
      refine lv_iconst (v := nI 2) hx hb dL_commitBarrier_15 (by decide) ?_
      refine vx_ret (W.widen (k := 25) (n := 906) (Nat.le_of_ble_eq_true rfl) (Nat.le_of_ble_eq_true rfl) ?_)
      exact W.iret hx hb hr (fun t ht hW => ⟨⟨2, 0, Z1, I1, A1, ad1, v, rfl, hk, (fun z => absurd z (by decide)), had, hokh, by rw [ht]; exact g9, by rw [ht]; exact hPo1, fr_D hAC g10, hDj1⟩, g11.F ht⟩) g11.2.2 dL_commitBarrier_16
    | j + 2, hj, hk => exact nomatch hj
  · obtain ⟨Z1, rfl, x, rfl, hk⟩ := hp
    have hPo1 := fr_keep hPo hDj g12.2
    have hDj1 := fr_dj hPo hDj g10
    have hD1 := fr_D hAC g10
    refine lv_i2l (v := x.toInt64) hx hb dL_commitBarrier_6 rfl ?_
    refine va_last (ws := wO o cL v :: ab_w cT ad1 ac I1 A1 0 (shC Z1)) hx hb hK (wo_cons hPo1 g9) (wo_D hAo hD1 hDj1) g11 0 3 rfl rfl (by unfold vp_in; decide) dL_commitBarrier_7 (fun H2 locs2 k1 k2 k3 => ?_)
    refine lv_goto (tgt := 17) hx hb dL_commitBarrier_8 (by decide) ?_
    refine lv_iconst (v := nI 0) hx hb dL_commitBarrier_17 (by decide) ?_
    refine vx_ret (W.widen (k := 25) (n := 906) (Nat.le_of_ble_eq_true rfl) (Nat.le_of_ble_eq_true rfl) ?_)
    exact W.iret hx hb hr (fun t ht hW => ⟨⟨0, x, Z1, I1, A1, ad1, _, rfl, hk, (fun _ => wo_1), had, hokh, by rw [ht]; exact wo_tl k1, by rw [ht]; exact wo_hd k1, hD1, wo_dj hDj1⟩, k3.F ht⟩) k3.2.2 dL_commitBarrier_18
theorem wr_abandonBarrier {l : Launch} (htr : l.stackTraces = false) {D : va_G} {cT : FieldType → ClassId} {cL : ClassId} {ac ad : Nat → Nat} {sz o : Nat} {v : Nat → Int64} {Z : ab_Z} {I A : ab_F} {K : Nat → Int32 → ab_Z → ab_F → ab_F → Prop} (hM : ab_Cl mX11_abandonBarrier 8 25 906 [.ref 0] (shC Z) I A (ab_Pz (fun E Z I A => ∃ j, ["java/lang/IllegalStateException"][j]? = some E ∧ K (j + 1) 0 Z I A) (ab_zi (fun r Z I A => K 0 r Z I A)))) (hoh : ab_okH (shC Z)) : vx_Met l yL_abandonBarrier (Cond.codeWith yL_abandonBarrier cL_abandonBarrier 3 (some .int) [(0, 8, 11, 13)] :: ab_ws) (ab_rm 9 25 906) (lw_wP D cT cL ac ad sz o v [] Z I A) (lw_wQ D cT cL ac ad o (va_A (wO o cL v :: ab_w cT ad ac I A 0 (shC Z)) sz) K) (fun _ _ _ => False) 25 906 (va_A (wO o cL v :: ab_w cT ad ac I A 0 (shC Z)) sz) := by
  refine vx_ofWH (cc := cL_abandonBarrier) (maxL := 3) (ret := some .int) (hh := [(0, 8, 11, 13)]) (by decide +kernel) rfl ?_
  intro p e s m args below meth c s₁ B hml hv
  obtain ⟨rfl, hsz, hP, hPo, hK, hD0, hDj, hCK, hN⟩ := hv
  have hx := B.exec
  have hb := B.bytes
  have hr := B.returns
  have hts0 := atoms_spec (ws := Cond.codeWith yL_abandonBarrier cL_abandonBarrier 3 (some .int) [(0, 8, 11, 13)] :: ab_ws) B.pre
  have hts := fun w (hw : w ∈ ab_ws) => hts0 w (List.mem_cons_of_mem _ hw)
  have hown : s.vm.findClass "CheckpointSwapLaw" = some m.cls := findClass_of_methodNamed B.named
  have htab := vx_table (x := yL_abandonBarrier) B (hts0 _ List.mem_cons_self)
  subst hsz
  generalize hAe : va_A (wO o cL v :: ab_w cT ad ac I A 0 (shC Z)) s.heap.size = Ar at hCK ⊢
  have hA : ∀ q, s.heap.size ≤ q → Ar q := fun q h => by rw [← hAe]; exact Or.inr h
  have hAo : Ar o := by rw [← hAe]; exact Or.inl ⟨0, _, rfl⟩
  have hD : va_D Ar (ab_w cT ad ac I A 0 (shC Z)) := ⟨hD0.1, fun k q hk => by rw [← hAe]; exact Or.inl ⟨k + 1, q.2, hk⟩⟩
  have hAC : ∀ q, va_A (ab_w cT ad ac I A 0 (shC Z)) s.heap.size q → Ar q := fun q h => by
    rw [← hAe]; rcases h with ⟨k, e9, hk⟩ | hk
    · exact Or.inl ⟨k + 1, e9, hk⟩
    · exact Or.inr hk
  have hS : va_S Ar s.heap s.heap [] := va_S.rf
  have hl := lv_entry ((Value.ref (ad 0) :: []) ++ [.ref o]) (n := 3) (Nat.le_of_ble_eq_true rfl)
  rw [lg_entry_eq]
  generalize (lg_sl (((Value.ref (ad 0) :: []) ++ [.ref o])) ++ List.replicate (3 - (lg_sl (((Value.ref (ad 0) :: []) ++ [.ref o]))).length) Slot.unset).toArray = ls at hl ⊢
  have hl : lv_has ls 3 [(0, .ref (ad 0)), (1, .ref o)] := hl
  refine lv_aload_n hx hb dL_abandonBarrier_0 rfl (lv_at hl 1 rfl) ?_
  refine lv_iconst (v := 0) hx hb dL_abandonBarrier_1 (by decide) ?_
  refine lv_aload_n hx hb dL_abandonBarrier_2 rfl (lv_at hl 0 rfl) ?_
  refine lw_callV (D := D) (cT := cT) (ac := ac) (ad := ad) (as := []) (rest := [.int 0, .ref o]) ⟨hx, hb, hml, hown, hts⟩ htr (lw_sub hK) hCK hA sC_0 vc_15 hM okX11_abandonBarrier rfl (ab_in 1550 (by decide +kernel) rfl) (ab_in 1551 (by decide +kernel) rfl) (ab_in 1552 (by decide +kernel) rfl) (ab_in 96 (by decide +kernel) rfl) dL_abandonBarrier_3 rfl rfl hl.1 (Nat.le_of_ble_eq_true rfl) (Nat.le_of_ble_eq_true rfl) (Nat.le_of_ble_eq_true rfl) (Nat.le_of_ble_eq_true rfl) (Nat.le_of_ble_eq_true rfl) hoh (fun v hv => ?_) hP hD hS (fun E ce q9 sh1 I1 A1 ad1 H1 locs1 hp had hokh g9 g10 g12 g11 c1 c2 c3 => ?_) (fun r sh1 I1 A1 ad1 H1 locs1 hp had hokh g9 g10 g12 g11 => ?_)
  · simp only [List.mem_cons, List.not_mem_nil, or_false] at hv
    subst hv; show 0 < (shC Z).length; rw [sh_len]; omega
  · obtain ⟨Z1, rfl, j, hj, hk⟩ := hp
    have hPo1 := fr_keep hPo hDj g12.2
    have hDj1 := fr_dj hPo hDj g10
    match j, hj, hk with
    | 0, hj, hk =>
      cases hj
      refine vx_catch (name := "java/lang/IllegalStateException") hown [] ⟨0, 8, 11, 13⟩ [] (by rw [htab]; rfl) (fun z hz => absurd hz List.not_mem_nil) (by decide) (by decide) (hts _ (ab_in 1403 (by decide +kernel) rfl)) (va_any rfl (hCK.2.2.2.2.1 _ (ab_ngm 17 rfl))) c1 c2 c3 ?_
      refine lv_astore_n (lv' := [(2, .ref q9), (0, .ref (ad 0)), (1, .ref o)]) hx hb dL_abandonBarrier_11 rfl hl (by decide) rfl (fun ls2 hl2 => ?_)
      refine lv_iconst (v := nI 1) hx hb dL_abandonBarrier_12 (by decide) ?_
      refine vx_ret (W.widen (k := 25) (n := 906) (Nat.le_of_ble_eq_true rfl) (Nat.le_of_ble_eq_true rfl) ?_)
      exact W.iret hx hb hr (fun t ht hW => ⟨⟨1, 0, Z1, I1, A1, ad1, v, rfl, hk, (fun z => absurd z (by decide)), had, hokh, by rw [ht]; exact g9, by rw [ht]; exact hPo1, fr_D hAC g10, hDj1⟩, g11.F ht⟩) g11.2.2 dL_abandonBarrier_13
    | j + 1, hj, hk => exact nomatch hj
  · obtain ⟨Z1, rfl, x, rfl, hk⟩ := hp
    have hPo1 := fr_keep hPo hDj g12.2
    have hDj1 := fr_dj hPo hDj g10
    have hD1 := fr_D hAC g10
    refine lv_i2l (v := x.toInt64) hx hb dL_abandonBarrier_6 rfl ?_
    refine va_last (ws := wO o cL v :: ab_w cT ad1 ac I1 A1 0 (shC Z1)) hx hb hK (wo_cons hPo1 g9) (wo_D hAo hD1 hDj1) g11 0 3 rfl rfl (by unfold vp_in; decide) dL_abandonBarrier_7 (fun H2 locs2 k1 k2 k3 => ?_)
    refine lv_goto (tgt := 14) hx hb dL_abandonBarrier_8 (by decide) ?_
    refine lv_iconst (v := nI 0) hx hb dL_abandonBarrier_14 (by decide) ?_
    refine vx_ret (W.widen (k := 25) (n := 906) (Nat.le_of_ble_eq_true rfl) (Nat.le_of_ble_eq_true rfl) ?_)
    exact W.iret hx hb hr (fun t ht hW => ⟨⟨0, x, Z1, I1, A1, ad1, _, rfl, hk, (fun _ => wo_1), had, hokh, by rw [ht]; exact wo_tl k1, by rw [ht]; exact wo_hd k1, hD1, wo_dj hDj1⟩, k3.F ht⟩) k3.2.2 dL_abandonBarrier_15
theorem wr_rollback {l : Launch} (htr : l.stackTraces = false) {D : va_G} {cT : FieldType → ClassId} {cL : ClassId} {ac ad : Nat → Nat} {sz o : Nat} {v : Nat → Int64} {Z : ab_Z} {I A : ab_F} {x0 : Int32} {K : Nat → Int32 → ab_Z → ab_F → ab_F → Prop} (hM : ab_Cl mX11_rollback 8 25 906 [.ref 0, .int x0] (shC Z) I A (ab_Pz (fun E Z I A => ∃ j, ["java/lang/IndexOutOfBoundsException", "java/util/NoSuchElementException", "java/lang/IllegalStateException"][j]? = some E ∧ K (j + 1) 0 Z I A) (ab_zi (fun r Z I A => K 0 r Z I A)))) (hoh : ab_okH (shC Z)) : vx_Met l yL_rollback (Cond.codeWith yL_rollback cL_rollback 4 (some .int) [(0, 9, 12, 25), (0, 9, 15, 52), (0, 9, 18, 13)] :: ab_ws) (ab_rm 9 25 906) (lw_wP D cT cL ac ad sz o v [.int x0] Z I A) (lw_wQ D cT cL ac ad o (va_A (wO o cL v :: ab_w cT ad ac I A 0 (shC Z)) sz) K) (fun _ _ _ => False) 25 906 (va_A (wO o cL v :: ab_w cT ad ac I A 0 (shC Z)) sz) := by
  refine vx_ofWH (cc := cL_rollback) (maxL := 4) (ret := some .int) (hh := [(0, 9, 12, 25), (0, 9, 15, 52), (0, 9, 18, 13)]) (by decide +kernel) rfl ?_
  intro p e s m args below meth c s₁ B hml hv
  obtain ⟨rfl, hsz, hP, hPo, hK, hD0, hDj, hCK, hN⟩ := hv
  have hx := B.exec
  have hb := B.bytes
  have hr := B.returns
  have hts0 := atoms_spec (ws := Cond.codeWith yL_rollback cL_rollback 4 (some .int) [(0, 9, 12, 25), (0, 9, 15, 52), (0, 9, 18, 13)] :: ab_ws) B.pre
  have hts := fun w (hw : w ∈ ab_ws) => hts0 w (List.mem_cons_of_mem _ hw)
  have hown : s.vm.findClass "CheckpointSwapLaw" = some m.cls := findClass_of_methodNamed B.named
  have htab := vx_table (x := yL_rollback) B (hts0 _ List.mem_cons_self)
  subst hsz
  generalize hAe : va_A (wO o cL v :: ab_w cT ad ac I A 0 (shC Z)) s.heap.size = Ar at hCK ⊢
  have hA : ∀ q, s.heap.size ≤ q → Ar q := fun q h => by rw [← hAe]; exact Or.inr h
  have hAo : Ar o := by rw [← hAe]; exact Or.inl ⟨0, _, rfl⟩
  have hD : va_D Ar (ab_w cT ad ac I A 0 (shC Z)) := ⟨hD0.1, fun k q hk => by rw [← hAe]; exact Or.inl ⟨k + 1, q.2, hk⟩⟩
  have hAC : ∀ q, va_A (ab_w cT ad ac I A 0 (shC Z)) s.heap.size q → Ar q := fun q h => by
    rw [← hAe]; rcases h with ⟨k, e9, hk⟩ | hk
    · exact Or.inl ⟨k + 1, e9, hk⟩
    · exact Or.inr hk
  have hS : va_S Ar s.heap s.heap [] := va_S.rf
  have hl := lv_entry ((Value.ref (ad 0) :: [.int x0]) ++ [.ref o]) (n := 4) (Nat.le_of_ble_eq_true rfl)
  rw [lg_entry_eq]
  generalize (lg_sl (((Value.ref (ad 0) :: [.int x0]) ++ [.ref o])) ++ List.replicate (4 - (lg_sl (((Value.ref (ad 0) :: [.int x0]) ++ [.ref o]))).length) Slot.unset).toArray = ls at hl ⊢
  have hl : lv_has ls 4 [(0, .ref (ad 0)), (1, .int x0), (2, .ref o)] := hl
  refine lv_aload_n hx hb dL_rollback_0 rfl (lv_at hl 2 rfl) ?_
  refine lv_iconst (v := 0) hx hb dL_rollback_1 (by decide) ?_
  refine lv_aload_n hx hb dL_rollback_2 rfl (lv_at hl 0 rfl) ?_
  refine lv_iload_n hx hb dL_rollback_3 rfl (lv_at hl 1 rfl) ?_
  refine lw_callV (D := D) (cT := cT) (ac := ac) (ad := ad) (as := [.int x0]) (rest := [.int 0, .ref o]) ⟨hx, hb, hml, hown, hts⟩ htr (lw_sub hK) hCK hA sC_0 vc_15 hM okX11_rollback rfl (ab_in 1560 (by decide +kernel) rfl) (ab_in 1561 (by decide +kernel) rfl) (ab_in 1562 (by decide +kernel) rfl) (ab_in 96 (by decide +kernel) rfl) dL_rollback_4 rfl rfl hl.1 (Nat.le_of_ble_eq_true rfl) (Nat.le_of_ble_eq_true rfl) (Nat.le_of_ble_eq_true rfl) (Nat.le_of_ble_eq_true rfl) (Nat.le_of_ble_eq_true rfl) hoh (fun v hv => ?_) hP hD hS (fun E ce q9 sh1 I1 A1 ad1 H1 locs1 hp had hokh g9 g10 g12 g11 c1 c2 c3 => ?_) (fun r sh1 I1 A1 ad1 H1 locs1 hp had hokh g9 g10 g12 g11 => ?_)
  · simp only [List.mem_cons, List.not_mem_nil, or_false] at hv
    rcases hv with h | h <;> subst h <;> first | exact trivial | (show 0 < (shC Z).length; rw [sh_len]; omega)
  · obtain ⟨Z1, rfl, j, hj, hk⟩ := hp
    have hPo1 := fr_keep hPo hDj g12.2
    have hDj1 := fr_dj hPo hDj g10
    match j, hj, hk with
    | 0, hj, hk =>
      cases hj
      refine vx_catch (name := "java/lang/IndexOutOfBoundsException") hown [] ⟨0, 9, 12, 25⟩ [⟨0, 9, 15, 52⟩, ⟨0, 9, 18, 13⟩] (by rw [htab]; rfl) (fun z hz => absurd hz List.not_mem_nil) (by decide) (by decide) (hts _ (ab_in 1494 (by decide +kernel) rfl)) (va_any rfl (hCK.2.2.2.2.1 _ (ab_ngm 18 rfl))) c1 c2 c3 ?_
      refine lv_astore_n (lv' := [(3, .ref q9), (0, .ref (ad 0)), (1, .int x0), (2, .ref o)]) hx hb dL_rollback_12 rfl hl (by decide) rfl (fun ls2 hl2 => ?_)
      refine lv_iconst (v := nI 1) hx hb dL_rollback_13 (by decide) ?_
      refine vx_ret (W.widen (k := 25) (n := 906) (Nat.le_of_ble_eq_true rfl) (Nat.le_of_ble_eq_true rfl) ?_)
      exact W.iret hx hb hr (fun t ht hW => ⟨⟨1, 0, Z1, I1, A1, ad1, v, rfl, hk, (fun z => absurd z (by decide)), had, hokh, by rw [ht]; exact g9, by rw [ht]; exact hPo1, fr_D hAC g10, hDj1⟩, g11.F ht⟩) g11.2.2 dL_rollback_14
    | 1, hj, hk =>
      cases hj
      refine vx_catch (name := "java/util/NoSuchElementException") hown [⟨0, 9, 12, 25⟩] ⟨0, 9, 15, 52⟩ [⟨0, 9, 18, 13⟩] (by rw [htab]; rfl) (fun z hz => by
      simp only [List.mem_cons, List.not_mem_nil, or_false] at hz
      have h9 := hz
      · subst h9; exact Or.inr ⟨by decide, "java/lang/IndexOutOfBoundsException", hts _ (ab_in 1494 (by decide +kernel) rfl), hN ("java/util/NoSuchElementException", "java/lang/IndexOutOfBoundsException") (by decide)⟩) (by decide) (by decide) (hts _ (ab_in 1559 (by decide +kernel) rfl)) (va_any rfl (hCK.2.2.2.2.1 _ (ab_ngm 19 rfl))) c1 c2 c3 ?_
      refine lv_astore_n (lv' := [(3, .ref q9), (0, .ref (ad 0)), (1, .int x0), (2, .ref o)]) hx hb dL_rollback_15 rfl hl (by decide) rfl (fun ls2 hl2 => ?_)
      refine lv_iconst (v := nI 2) hx hb dL_rollback_16 (by decide) ?_
      refine vx_ret (W.widen (k := 25) (n := 906) (Nat.le_of_ble_eq_true rfl) (Nat.le_of_ble_eq_true rfl) ?_)
      exact W.iret hx hb hr (fun t ht hW => ⟨⟨2, 0, Z1, I1, A1, ad1, v, rfl, hk, (fun z => absurd z (by decide)), had, hokh, by rw [ht]; exact g9, by rw [ht]; exact hPo1, fr_D hAC g10, hDj1⟩, g11.F ht⟩) g11.2.2 dL_rollback_17
    | 2, hj, hk =>
      cases hj
      refine vx_catch (name := "java/lang/IllegalStateException") hown [⟨0, 9, 12, 25⟩, ⟨0, 9, 15, 52⟩] ⟨0, 9, 18, 13⟩ [] (by rw [htab]; rfl) (fun z hz => by
      simp only [List.mem_cons, List.not_mem_nil, or_false] at hz
      rcases hz with h9 | h9
      · subst h9; exact Or.inr ⟨by decide, "java/lang/IndexOutOfBoundsException", hts _ (ab_in 1494 (by decide +kernel) rfl), hN ("java/lang/IllegalStateException", "java/lang/IndexOutOfBoundsException") (by decide)⟩
      · subst h9; exact Or.inr ⟨by decide, "java/util/NoSuchElementException", hts _ (ab_in 1559 (by decide +kernel) rfl), hN ("java/lang/IllegalStateException", "java/util/NoSuchElementException") (by decide)⟩) (by decide) (by decide) (hts _ (ab_in 1403 (by decide +kernel) rfl)) (va_any rfl (hCK.2.2.2.2.1 _ (ab_ngm 17 rfl))) c1 c2 c3 ?_
      refine lv_astore_n (lv' := [(3, .ref q9), (0, .ref (ad 0)), (1, .int x0), (2, .ref o)]) hx hb dL_rollback_18 rfl hl (by decide) rfl (fun ls2 hl2 => ?_)
      refine lv_iconst (v := nI 3) hx hb dL_rollback_19 (by decide) ?_
      refine vx_ret (W.widen (k := 25) (n := 906) (Nat.le_of_ble_eq_true rfl) (Nat.le_of_ble_eq_true rfl) ?_)
      exact W.iret hx hb hr (fun t ht hW => ⟨⟨3, 0, Z1, I1, A1, ad1, v, rfl, hk, (fun z => absurd z (by decide)), had, hokh, by rw [ht]; exact g9, by rw [ht]; exact hPo1, fr_D hAC g10, hDj1⟩, g11.F ht⟩) g11.2.2 dL_rollback_20
    | j + 3, hj, hk => exact nomatch hj
  · obtain ⟨Z1, rfl, x, rfl, hk⟩ := hp
    have hPo1 := fr_keep hPo hDj g12.2
    have hDj1 := fr_dj hPo hDj g10
    have hD1 := fr_D hAC g10
    refine lv_i2l (v := x.toInt64) hx hb dL_rollback_7 rfl ?_
    refine va_last (ws := wO o cL v :: ab_w cT ad1 ac I1 A1 0 (shC Z1)) hx hb hK (wo_cons hPo1 g9) (wo_D hAo hD1 hDj1) g11 0 3 rfl rfl (by unfold vp_in; decide) dL_rollback_8 (fun H2 locs2 k1 k2 k3 => ?_)
    refine lv_goto (tgt := 21) hx hb dL_rollback_9 (by decide) ?_
    refine lv_iconst (v := nI 0) hx hb dL_rollback_21 (by decide) ?_
    refine vx_ret (W.widen (k := 25) (n := 906) (Nat.le_of_ble_eq_true rfl) (Nat.le_of_ble_eq_true rfl) ?_)
    exact W.iret hx hb hr (fun t ht hW => ⟨⟨0, x, Z1, I1, A1, ad1, _, rfl, hk, (fun _ => wo_1), had, hokh, by rw [ht]; exact wo_tl k1, by rw [ht]; exact wo_hd k1, hD1, wo_dj hDj1⟩, k3.F ht⟩) k3.2.2 dL_rollback_22
theorem wr_evictPage {l : Launch} (htr : l.stackTraces = false) {D : va_G} {cT : FieldType → ClassId} {cL : ClassId} {ac ad : Nat → Nat} {sz o : Nat} {v : Nat → Int64} {Z : ab_Z} {I A : ab_F} {x0 x1 : Int32} {K : Nat → Int32 → ab_Z → ab_F → ab_F → Prop} (hM : ab_Cl mX11_evictPage 8 25 906 [.ref 0, .int x0, .int x1] (shC Z) I A (ab_Pz (fun E Z I A => ∃ j, ["java/lang/IndexOutOfBoundsException", "java/lang/UnsupportedOperationException", "java/lang/IllegalStateException"][j]? = some E ∧ K (j + 1) 0 Z I A) (ab_zi (fun r Z I A => K 0 r Z I A)))) (hoh : ab_okH (shC Z)) : vx_Met l yL_evictPage (Cond.codeWith yL_evictPage cL_evictPage 5 (some .int) [(0, 10, 13, 25), (0, 10, 17, 44), (0, 10, 21, 13)] :: ab_ws) (ab_rm 9 25 906) (lw_wP D cT cL ac ad sz o v [.int x0, .int x1] Z I A) (lw_wQ D cT cL ac ad o (va_A (wO o cL v :: ab_w cT ad ac I A 0 (shC Z)) sz) K) (fun _ _ _ => False) 25 906 (va_A (wO o cL v :: ab_w cT ad ac I A 0 (shC Z)) sz) := by
  refine vx_ofWH (cc := cL_evictPage) (maxL := 5) (ret := some .int) (hh := [(0, 10, 13, 25), (0, 10, 17, 44), (0, 10, 21, 13)]) (by decide +kernel) rfl ?_
  intro p e s m args below meth c s₁ B hml hv
  obtain ⟨rfl, hsz, hP, hPo, hK, hD0, hDj, hCK, hN⟩ := hv
  have hx := B.exec
  have hb := B.bytes
  have hr := B.returns
  have hts0 := atoms_spec (ws := Cond.codeWith yL_evictPage cL_evictPage 5 (some .int) [(0, 10, 13, 25), (0, 10, 17, 44), (0, 10, 21, 13)] :: ab_ws) B.pre
  have hts := fun w (hw : w ∈ ab_ws) => hts0 w (List.mem_cons_of_mem _ hw)
  have hown : s.vm.findClass "CheckpointSwapLaw" = some m.cls := findClass_of_methodNamed B.named
  have htab := vx_table (x := yL_evictPage) B (hts0 _ List.mem_cons_self)
  subst hsz
  generalize hAe : va_A (wO o cL v :: ab_w cT ad ac I A 0 (shC Z)) s.heap.size = Ar at hCK ⊢
  have hA : ∀ q, s.heap.size ≤ q → Ar q := fun q h => by rw [← hAe]; exact Or.inr h
  have hAo : Ar o := by rw [← hAe]; exact Or.inl ⟨0, _, rfl⟩
  have hD : va_D Ar (ab_w cT ad ac I A 0 (shC Z)) := ⟨hD0.1, fun k q hk => by rw [← hAe]; exact Or.inl ⟨k + 1, q.2, hk⟩⟩
  have hAC : ∀ q, va_A (ab_w cT ad ac I A 0 (shC Z)) s.heap.size q → Ar q := fun q h => by
    rw [← hAe]; rcases h with ⟨k, e9, hk⟩ | hk
    · exact Or.inl ⟨k + 1, e9, hk⟩
    · exact Or.inr hk
  have hS : va_S Ar s.heap s.heap [] := va_S.rf
  have hl := lv_entry ((Value.ref (ad 0) :: [.int x0, .int x1]) ++ [.ref o]) (n := 5) (Nat.le_of_ble_eq_true rfl)
  rw [lg_entry_eq]
  generalize (lg_sl (((Value.ref (ad 0) :: [.int x0, .int x1]) ++ [.ref o])) ++ List.replicate (5 - (lg_sl (((Value.ref (ad 0) :: [.int x0, .int x1]) ++ [.ref o]))).length) Slot.unset).toArray = ls at hl ⊢
  have hl : lv_has ls 5 [(0, .ref (ad 0)), (1, .int x0), (2, .int x1), (3, .ref o)] := hl
  refine lv_aload_n hx hb dL_evictPage_0 rfl (lv_at hl 3 rfl) ?_
  refine lv_iconst (v := 0) hx hb dL_evictPage_1 (by decide) ?_
  refine lv_aload_n hx hb dL_evictPage_2 rfl (lv_at hl 0 rfl) ?_
  refine lv_iload_n hx hb dL_evictPage_3 rfl (lv_at hl 1 rfl) ?_
  refine lv_iload_n hx hb dL_evictPage_4 rfl (lv_at hl 2 rfl) ?_
  refine lw_callV (D := D) (cT := cT) (ac := ac) (ad := ad) (as := [.int x0, .int x1]) (rest := [.int 0, .ref o]) ⟨hx, hb, hml, hown, hts⟩ htr (lw_sub hK) hCK hA sC_0 vc_15 hM okX11_evictPage rfl (ab_in 1569 (by decide +kernel) rfl) (ab_in 1570 (by decide +kernel) rfl) (ab_in 1571 (by decide +kernel) rfl) (ab_in 96 (by decide +kernel) rfl) dL_evictPage_5 rfl rfl hl.1 (Nat.le_of_ble_eq_true rfl) (Nat.le_of_ble_eq_true rfl) (Nat.le_of_ble_eq_true rfl) (Nat.le_of_ble_eq_true rfl) (Nat.le_of_ble_eq_true rfl) hoh (fun v hv => ?_) hP hD hS (fun E ce q9 sh1 I1 A1 ad1 H1 locs1 hp had hokh g9 g10 g12 g11 c1 c2 c3 => ?_) (fun r sh1 I1 A1 ad1 H1 locs1 hp had hokh g9 g10 g12 g11 => ?_)
  · simp only [List.mem_cons, List.not_mem_nil, or_false] at hv
    rcases hv with h | h | h <;> subst h <;> first | exact trivial | (show 0 < (shC Z).length; rw [sh_len]; omega)
  · obtain ⟨Z1, rfl, j, hj, hk⟩ := hp
    have hPo1 := fr_keep hPo hDj g12.2
    have hDj1 := fr_dj hPo hDj g10
    match j, hj, hk with
    | 0, hj, hk =>
      cases hj
      refine vx_catch (name := "java/lang/IndexOutOfBoundsException") hown [] ⟨0, 10, 13, 25⟩ [⟨0, 10, 17, 44⟩, ⟨0, 10, 21, 13⟩] (by rw [htab]; rfl) (fun z hz => absurd hz List.not_mem_nil) (by decide) (by decide) (hts _ (ab_in 1494 (by decide +kernel) rfl)) (va_any rfl (hCK.2.2.2.2.1 _ (ab_ngm 18 rfl))) c1 c2 c3 ?_
      refine lv_astore (lv' := [(4, .ref q9), (0, .ref (ad 0)), (1, .int x0), (2, .int x1), (3, .ref o)]) hx hb dL_evictPage_13 hl (by decide) rfl (fun ls2 hl2 => ?_)
      refine lv_iconst (v := nI 1) hx hb dL_evictPage_15 (by decide) ?_
      refine vx_ret (W.widen (k := 25) (n := 906) (Nat.le_of_ble_eq_true rfl) (Nat.le_of_ble_eq_true rfl) ?_)
      exact W.iret hx hb hr (fun t ht hW => ⟨⟨1, 0, Z1, I1, A1, ad1, v, rfl, hk, (fun z => absurd z (by decide)), had, hokh, by rw [ht]; exact g9, by rw [ht]; exact hPo1, fr_D hAC g10, hDj1⟩, g11.F ht⟩) g11.2.2 dL_evictPage_16
    | 1, hj, hk =>
      cases hj
      refine vx_catch (name := "java/lang/UnsupportedOperationException") hown [⟨0, 10, 13, 25⟩] ⟨0, 10, 17, 44⟩ [⟨0, 10, 21, 13⟩] (by rw [htab]; rfl) (fun z hz => by
      simp only [List.mem_cons, List.not_mem_nil, or_false] at hz
      have h9 := hz
      · subst h9; exact Or.inr ⟨by decide, "java/lang/IndexOutOfBoundsException", hts _ (ab_in 1494 (by decide +kernel) rfl), hN ("java/lang/UnsupportedOperationException", "java/lang/IndexOutOfBoundsException") (by decide)⟩) (by decide) (by decide) (hts _ (ab_in 1540 (by decide +kernel) rfl)) (va_any rfl (hCK.2.2.2.2.1 _ (ab_ngm 20 rfl))) c1 c2 c3 ?_
      refine lv_astore (lv' := [(4, .ref q9), (0, .ref (ad 0)), (1, .int x0), (2, .int x1), (3, .ref o)]) hx hb dL_evictPage_17 hl (by decide) rfl (fun ls2 hl2 => ?_)
      refine lv_iconst (v := nI 2) hx hb dL_evictPage_19 (by decide) ?_
      refine vx_ret (W.widen (k := 25) (n := 906) (Nat.le_of_ble_eq_true rfl) (Nat.le_of_ble_eq_true rfl) ?_)
      exact W.iret hx hb hr (fun t ht hW => ⟨⟨2, 0, Z1, I1, A1, ad1, v, rfl, hk, (fun z => absurd z (by decide)), had, hokh, by rw [ht]; exact g9, by rw [ht]; exact hPo1, fr_D hAC g10, hDj1⟩, g11.F ht⟩) g11.2.2 dL_evictPage_20
    | 2, hj, hk =>
      cases hj
      refine vx_catch (name := "java/lang/IllegalStateException") hown [⟨0, 10, 13, 25⟩, ⟨0, 10, 17, 44⟩] ⟨0, 10, 21, 13⟩ [] (by rw [htab]; rfl) (fun z hz => by
      simp only [List.mem_cons, List.not_mem_nil, or_false] at hz
      rcases hz with h9 | h9
      · subst h9; exact Or.inr ⟨by decide, "java/lang/IndexOutOfBoundsException", hts _ (ab_in 1494 (by decide +kernel) rfl), hN ("java/lang/IllegalStateException", "java/lang/IndexOutOfBoundsException") (by decide)⟩
      · subst h9; exact Or.inr ⟨by decide, "java/lang/UnsupportedOperationException", hts _ (ab_in 1540 (by decide +kernel) rfl), hN ("java/lang/IllegalStateException", "java/lang/UnsupportedOperationException") (by decide)⟩) (by decide) (by decide) (hts _ (ab_in 1403 (by decide +kernel) rfl)) (va_any rfl (hCK.2.2.2.2.1 _ (ab_ngm 17 rfl))) c1 c2 c3 ?_
      refine lv_astore (lv' := [(4, .ref q9), (0, .ref (ad 0)), (1, .int x0), (2, .int x1), (3, .ref o)]) hx hb dL_evictPage_21 hl (by decide) rfl (fun ls2 hl2 => ?_)
      refine lv_iconst (v := nI 3) hx hb dL_evictPage_23 (by decide) ?_
      refine vx_ret (W.widen (k := 25) (n := 906) (Nat.le_of_ble_eq_true rfl) (Nat.le_of_ble_eq_true rfl) ?_)
      exact W.iret hx hb hr (fun t ht hW => ⟨⟨3, 0, Z1, I1, A1, ad1, v, rfl, hk, (fun z => absurd z (by decide)), had, hokh, by rw [ht]; exact g9, by rw [ht]; exact hPo1, fr_D hAC g10, hDj1⟩, g11.F ht⟩) g11.2.2 dL_evictPage_24
    | j + 3, hj, hk => exact nomatch hj
  · obtain ⟨Z1, rfl, x, rfl, hk⟩ := hp
    have hPo1 := fr_keep hPo hDj g12.2
    have hDj1 := fr_dj hPo hDj g10
    have hD1 := fr_D hAC g10
    refine lv_i2l (v := x.toInt64) hx hb dL_evictPage_8 rfl ?_
    refine va_last (ws := wO o cL v :: ab_w cT ad1 ac I1 A1 0 (shC Z1)) hx hb hK (wo_cons hPo1 g9) (wo_D hAo hD1 hDj1) g11 0 3 rfl rfl (by unfold vp_in; decide) dL_evictPage_9 (fun H2 locs2 k1 k2 k3 => ?_)
    refine lv_goto (tgt := 25) hx hb dL_evictPage_10 (by decide) ?_
    refine lv_iconst (v := nI 0) hx hb dL_evictPage_25 (by decide) ?_
    refine vx_ret (W.widen (k := 25) (n := 906) (Nat.le_of_ble_eq_true rfl) (Nat.le_of_ble_eq_true rfl) ?_)
    exact W.iret hx hb hr (fun t ht hW => ⟨⟨0, x, Z1, I1, A1, ad1, _, rfl, hk, (fun _ => wo_1), had, hokh, by rw [ht]; exact wo_tl k1, by rw [ht]; exact wo_hd k1, hD1, wo_dj hDj1⟩, k3.F ht⟩) k3.2.2 dL_evictPage_26
theorem wr_pageCount {l : Launch} (htr : l.stackTraces = false) {D : va_G} {cT : FieldType → ClassId} {cL : ClassId} {ac ad : Nat → Nat} {sz o : Nat} {v : Nat → Int64} {Z : ab_Z} {I A : ab_F} {x0 : Int32} {K : Nat → Int32 → ab_Z → ab_F → ab_F → Prop} (hM : ab_Cl mX11_pageCount 8 1 6 [.ref 0, .int x0] (shC Z) I A (ab_Pz (fun E Z I A => ∃ j, ["java/lang/IndexOutOfBoundsException"][j]? = some E ∧ K (j + 1) 0 Z I A) (ab_zi (fun r Z I A => K 0 r Z I A)))) (hoh : ab_okH (shC Z)) : vx_Met l yL_pageCount (Cond.codeWith yL_pageCount cL_pageCount 4 (some .int) [(0, 9, 12, 25)] :: ab_ws) (ab_rm 9 1 6) (lw_wP D cT cL ac ad sz o v [.int x0] Z I A) (lw_wQ D cT cL ac ad o (va_A (wO o cL v :: ab_w cT ad ac I A 0 (shC Z)) sz) K) (fun _ _ _ => False) 1 6 (va_A (wO o cL v :: ab_w cT ad ac I A 0 (shC Z)) sz) := by
  refine vx_ofWH (cc := cL_pageCount) (maxL := 4) (ret := some .int) (hh := [(0, 9, 12, 25)]) (by decide +kernel) rfl ?_
  intro p e s m args below meth c s₁ B hml hv
  obtain ⟨rfl, hsz, hP, hPo, hK, hD0, hDj, hCK, hN⟩ := hv
  have hx := B.exec
  have hb := B.bytes
  have hr := B.returns
  have hts0 := atoms_spec (ws := Cond.codeWith yL_pageCount cL_pageCount 4 (some .int) [(0, 9, 12, 25)] :: ab_ws) B.pre
  have hts := fun w (hw : w ∈ ab_ws) => hts0 w (List.mem_cons_of_mem _ hw)
  have hown : s.vm.findClass "CheckpointSwapLaw" = some m.cls := findClass_of_methodNamed B.named
  have htab := vx_table (x := yL_pageCount) B (hts0 _ List.mem_cons_self)
  subst hsz
  generalize hAe : va_A (wO o cL v :: ab_w cT ad ac I A 0 (shC Z)) s.heap.size = Ar at hCK ⊢
  have hA : ∀ q, s.heap.size ≤ q → Ar q := fun q h => by rw [← hAe]; exact Or.inr h
  have hAo : Ar o := by rw [← hAe]; exact Or.inl ⟨0, _, rfl⟩
  have hD : va_D Ar (ab_w cT ad ac I A 0 (shC Z)) := ⟨hD0.1, fun k q hk => by rw [← hAe]; exact Or.inl ⟨k + 1, q.2, hk⟩⟩
  have hAC : ∀ q, va_A (ab_w cT ad ac I A 0 (shC Z)) s.heap.size q → Ar q := fun q h => by
    rw [← hAe]; rcases h with ⟨k, e9, hk⟩ | hk
    · exact Or.inl ⟨k + 1, e9, hk⟩
    · exact Or.inr hk
  have hS : va_S Ar s.heap s.heap [] := va_S.rf
  have hl := lv_entry ((Value.ref (ad 0) :: [.int x0]) ++ [.ref o]) (n := 4) (Nat.le_of_ble_eq_true rfl)
  rw [lg_entry_eq]
  generalize (lg_sl (((Value.ref (ad 0) :: [.int x0]) ++ [.ref o])) ++ List.replicate (4 - (lg_sl (((Value.ref (ad 0) :: [.int x0]) ++ [.ref o]))).length) Slot.unset).toArray = ls at hl ⊢
  have hl : lv_has ls 4 [(0, .ref (ad 0)), (1, .int x0), (2, .ref o)] := hl
  refine lv_aload_n hx hb dL_pageCount_0 rfl (lv_at hl 2 rfl) ?_
  refine lv_iconst (v := 0) hx hb dL_pageCount_1 (by decide) ?_
  refine lv_aload_n hx hb dL_pageCount_2 rfl (lv_at hl 0 rfl) ?_
  refine lv_iload_n hx hb dL_pageCount_3 rfl (lv_at hl 1 rfl) ?_
  refine lw_callV (D := D) (cT := cT) (ac := ac) (ad := ad) (as := [.int x0]) (rest := [.int 0, .ref o]) ⟨hx, hb, hml, hown, hts⟩ htr (lw_sub hK) hCK hA sC_0 vc_15 hM okX11_pageCount rfl (ab_in 1578 (by decide +kernel) rfl) (ab_in 1579 (by decide +kernel) rfl) (ab_in 1580 (by decide +kernel) rfl) (ab_in 96 (by decide +kernel) rfl) dL_pageCount_4 rfl rfl hl.1 (Nat.le_of_ble_eq_true rfl) (Nat.le_of_ble_eq_true rfl) (Nat.le_of_ble_eq_true rfl) (Nat.le_of_ble_eq_true rfl) (Nat.le_of_ble_eq_true rfl) hoh (fun v hv => ?_) hP hD hS (fun E ce q9 sh1 I1 A1 ad1 H1 locs1 hp had hokh g9 g10 g12 g11 c1 c2 c3 => ?_) (fun r sh1 I1 A1 ad1 H1 locs1 hp had hokh g9 g10 g12 g11 => ?_)
  · simp only [List.mem_cons, List.not_mem_nil, or_false] at hv
    rcases hv with h | h <;> subst h <;> first | exact trivial | (show 0 < (shC Z).length; rw [sh_len]; omega)
  · obtain ⟨Z1, rfl, j, hj, hk⟩ := hp
    have hPo1 := fr_keep hPo hDj g12.2
    have hDj1 := fr_dj hPo hDj g10
    match j, hj, hk with
    | 0, hj, hk =>
      cases hj
      refine vx_catch (name := "java/lang/IndexOutOfBoundsException") hown [] ⟨0, 9, 12, 25⟩ [] (by rw [htab]; rfl) (fun z hz => absurd hz List.not_mem_nil) (by decide) (by decide) (hts _ (ab_in 1494 (by decide +kernel) rfl)) (va_any rfl (hCK.2.2.2.2.1 _ (ab_ngm 18 rfl))) c1 c2 c3 ?_
      refine lv_astore_n (lv' := [(3, .ref q9), (0, .ref (ad 0)), (1, .int x0), (2, .ref o)]) hx hb dL_pageCount_12 rfl hl (by decide) rfl (fun ls2 hl2 => ?_)
      refine lv_iconst (v := nI 1) hx hb dL_pageCount_13 (by decide) ?_
      refine vx_ret (W.widen (k := 1) (n := 6) (Nat.le_of_ble_eq_true rfl) (Nat.le_of_ble_eq_true rfl) ?_)
      exact W.iret hx hb hr (fun t ht hW => ⟨⟨1, 0, Z1, I1, A1, ad1, v, rfl, hk, (fun z => absurd z (by decide)), had, hokh, by rw [ht]; exact g9, by rw [ht]; exact hPo1, fr_D hAC g10, hDj1⟩, g11.F ht⟩) g11.2.2 dL_pageCount_14
    | j + 1, hj, hk => exact nomatch hj
  · obtain ⟨Z1, rfl, x, rfl, hk⟩ := hp
    have hPo1 := fr_keep hPo hDj g12.2
    have hDj1 := fr_dj hPo hDj g10
    have hD1 := fr_D hAC g10
    refine lv_i2l (v := x.toInt64) hx hb dL_pageCount_7 rfl ?_
    refine va_last (ws := wO o cL v :: ab_w cT ad1 ac I1 A1 0 (shC Z1)) hx hb hK (wo_cons hPo1 g9) (wo_D hAo hD1 hDj1) g11 0 3 rfl rfl (by unfold vp_in; decide) dL_pageCount_8 (fun H2 locs2 k1 k2 k3 => ?_)
    refine lv_goto (tgt := 15) hx hb dL_pageCount_9 (by decide) ?_
    refine lv_iconst (v := nI 0) hx hb dL_pageCount_15 (by decide) ?_
    refine vx_ret (W.widen (k := 1) (n := 6) (Nat.le_of_ble_eq_true rfl) (Nat.le_of_ble_eq_true rfl) ?_)
    exact W.iret hx hb hr (fun t ht hW => ⟨⟨0, x, Z1, I1, A1, ad1, _, rfl, hk, (fun _ => wo_1), had, hokh, by rw [ht]; exact wo_tl k1, by rw [ht]; exact wo_hd k1, hD1, wo_dj hDj1⟩, k3.F ht⟩) k3.2.2 dL_pageCount_16
theorem wr_kindOf {l : Launch} (htr : l.stackTraces = false) {D : va_G} {cT : FieldType → ClassId} {cL : ClassId} {ac ad : Nat → Nat} {sz o : Nat} {v : Nat → Int64} {Z : ab_Z} {I A : ab_F} {x0 : Int32} {K : Nat → Int32 → ab_Z → ab_F → ab_F → Prop} (hM : ab_Cl mX11_kindOf 8 1 6 [.ref 0, .int x0] (shC Z) I A (ab_Pz (fun E Z I A => ∃ j, ["java/lang/IndexOutOfBoundsException"][j]? = some E ∧ K (j + 1) 0 Z I A) (ab_zi (fun r Z I A => K 0 r Z I A)))) (hoh : ab_okH (shC Z)) : vx_Met l yL_kindOf (Cond.codeWith yL_kindOf cL_kindOf 4 (some .int) [(0, 9, 12, 25)] :: ab_ws) (ab_rm 9 1 6) (lw_wP D cT cL ac ad sz o v [.int x0] Z I A) (lw_wQ D cT cL ac ad o (va_A (wO o cL v :: ab_w cT ad ac I A 0 (shC Z)) sz) K) (fun _ _ _ => False) 1 6 (va_A (wO o cL v :: ab_w cT ad ac I A 0 (shC Z)) sz) := by
  refine vx_ofWH (cc := cL_kindOf) (maxL := 4) (ret := some .int) (hh := [(0, 9, 12, 25)]) (by decide +kernel) rfl ?_
  intro p e s m args below meth c s₁ B hml hv
  obtain ⟨rfl, hsz, hP, hPo, hK, hD0, hDj, hCK, hN⟩ := hv
  have hx := B.exec
  have hb := B.bytes
  have hr := B.returns
  have hts0 := atoms_spec (ws := Cond.codeWith yL_kindOf cL_kindOf 4 (some .int) [(0, 9, 12, 25)] :: ab_ws) B.pre
  have hts := fun w (hw : w ∈ ab_ws) => hts0 w (List.mem_cons_of_mem _ hw)
  have hown : s.vm.findClass "CheckpointSwapLaw" = some m.cls := findClass_of_methodNamed B.named
  have htab := vx_table (x := yL_kindOf) B (hts0 _ List.mem_cons_self)
  subst hsz
  generalize hAe : va_A (wO o cL v :: ab_w cT ad ac I A 0 (shC Z)) s.heap.size = Ar at hCK ⊢
  have hA : ∀ q, s.heap.size ≤ q → Ar q := fun q h => by rw [← hAe]; exact Or.inr h
  have hAo : Ar o := by rw [← hAe]; exact Or.inl ⟨0, _, rfl⟩
  have hD : va_D Ar (ab_w cT ad ac I A 0 (shC Z)) := ⟨hD0.1, fun k q hk => by rw [← hAe]; exact Or.inl ⟨k + 1, q.2, hk⟩⟩
  have hAC : ∀ q, va_A (ab_w cT ad ac I A 0 (shC Z)) s.heap.size q → Ar q := fun q h => by
    rw [← hAe]; rcases h with ⟨k, e9, hk⟩ | hk
    · exact Or.inl ⟨k + 1, e9, hk⟩
    · exact Or.inr hk
  have hS : va_S Ar s.heap s.heap [] := va_S.rf
  have hl := lv_entry ((Value.ref (ad 0) :: [.int x0]) ++ [.ref o]) (n := 4) (Nat.le_of_ble_eq_true rfl)
  rw [lg_entry_eq]
  generalize (lg_sl (((Value.ref (ad 0) :: [.int x0]) ++ [.ref o])) ++ List.replicate (4 - (lg_sl (((Value.ref (ad 0) :: [.int x0]) ++ [.ref o]))).length) Slot.unset).toArray = ls at hl ⊢
  have hl : lv_has ls 4 [(0, .ref (ad 0)), (1, .int x0), (2, .ref o)] := hl
  refine lv_aload_n hx hb dL_kindOf_0 rfl (lv_at hl 2 rfl) ?_
  refine lv_iconst (v := 0) hx hb dL_kindOf_1 (by decide) ?_
  refine lv_aload_n hx hb dL_kindOf_2 rfl (lv_at hl 0 rfl) ?_
  refine lv_iload_n hx hb dL_kindOf_3 rfl (lv_at hl 1 rfl) ?_
  refine lw_callV (D := D) (cT := cT) (ac := ac) (ad := ad) (as := [.int x0]) (rest := [.int 0, .ref o]) ⟨hx, hb, hml, hown, hts⟩ htr (lw_sub hK) hCK hA sC_0 vc_15 hM okX11_kindOf rfl (ab_in 1589 (by decide +kernel) rfl) (ab_in 1590 (by decide +kernel) rfl) (ab_in 1591 (by decide +kernel) rfl) (ab_in 96 (by decide +kernel) rfl) dL_kindOf_4 rfl rfl hl.1 (Nat.le_of_ble_eq_true rfl) (Nat.le_of_ble_eq_true rfl) (Nat.le_of_ble_eq_true rfl) (Nat.le_of_ble_eq_true rfl) (Nat.le_of_ble_eq_true rfl) hoh (fun v hv => ?_) hP hD hS (fun E ce q9 sh1 I1 A1 ad1 H1 locs1 hp had hokh g9 g10 g12 g11 c1 c2 c3 => ?_) (fun r sh1 I1 A1 ad1 H1 locs1 hp had hokh g9 g10 g12 g11 => ?_)
  · simp only [List.mem_cons, List.not_mem_nil, or_false] at hv
    rcases hv with h | h <;> subst h <;> first | exact trivial | (show 0 < (shC Z).length; rw [sh_len]; omega)
  · obtain ⟨Z1, rfl, j, hj, hk⟩ := hp
    have hPo1 := fr_keep hPo hDj g12.2
    have hDj1 := fr_dj hPo hDj g10
    match j, hj, hk with
    | 0, hj, hk =>
      cases hj
      refine vx_catch (name := "java/lang/IndexOutOfBoundsException") hown [] ⟨0, 9, 12, 25⟩ [] (by rw [htab]; rfl) (fun z hz => absurd hz List.not_mem_nil) (by decide) (by decide) (hts _ (ab_in 1494 (by decide +kernel) rfl)) (va_any rfl (hCK.2.2.2.2.1 _ (ab_ngm 18 rfl))) c1 c2 c3 ?_
      refine lv_astore_n (lv' := [(3, .ref q9), (0, .ref (ad 0)), (1, .int x0), (2, .ref o)]) hx hb dL_kindOf_12 rfl hl (by decide) rfl (fun ls2 hl2 => ?_)
      refine lv_iconst (v := nI 1) hx hb dL_kindOf_13 (by decide) ?_
      refine vx_ret (W.widen (k := 1) (n := 6) (Nat.le_of_ble_eq_true rfl) (Nat.le_of_ble_eq_true rfl) ?_)
      exact W.iret hx hb hr (fun t ht hW => ⟨⟨1, 0, Z1, I1, A1, ad1, v, rfl, hk, (fun z => absurd z (by decide)), had, hokh, by rw [ht]; exact g9, by rw [ht]; exact hPo1, fr_D hAC g10, hDj1⟩, g11.F ht⟩) g11.2.2 dL_kindOf_14
    | j + 1, hj, hk => exact nomatch hj
  · obtain ⟨Z1, rfl, x, rfl, hk⟩ := hp
    have hPo1 := fr_keep hPo hDj g12.2
    have hDj1 := fr_dj hPo hDj g10
    have hD1 := fr_D hAC g10
    refine lv_i2l (v := x.toInt64) hx hb dL_kindOf_7 rfl ?_
    refine va_last (ws := wO o cL v :: ab_w cT ad1 ac I1 A1 0 (shC Z1)) hx hb hK (wo_cons hPo1 g9) (wo_D hAo hD1 hDj1) g11 0 3 rfl rfl (by unfold vp_in; decide) dL_kindOf_8 (fun H2 locs2 k1 k2 k3 => ?_)
    refine lv_goto (tgt := 15) hx hb dL_kindOf_9 (by decide) ?_
    refine lv_iconst (v := nI 0) hx hb dL_kindOf_15 (by decide) ?_
    refine vx_ret (W.widen (k := 1) (n := 6) (Nat.le_of_ble_eq_true rfl) (Nat.le_of_ble_eq_true rfl) ?_)
    exact W.iret hx hb hr (fun t ht hW => ⟨⟨0, x, Z1, I1, A1, ad1, _, rfl, hk, (fun _ => wo_1), had, hokh, by rw [ht]; exact wo_tl k1, by rw [ht]; exact wo_hd k1, hD1, wo_dj hDj1⟩, k3.F ht⟩) k3.2.2 dL_kindOf_16
theorem wr_peek {l : Launch} (htr : l.stackTraces = false) {D : va_G} {cT : FieldType → ClassId} {cL : ClassId} {ac ad : Nat → Nat} {sz o : Nat} {v : Nat → Int64} {Z : ab_Z} {I A : ab_F} {x0 x1 : Int32} {K : Nat → Int32 → ab_Z → ab_F → ab_F → Prop} (hM : ab_Cl mX11_peek 8 1 6 [.ref 0, .int x0, .int x1] (shC Z) I A (ab_Pz (fun E Z I A => ∃ j, ["java/lang/IndexOutOfBoundsException"][j]? = some E ∧ K (j + 1) 0 Z I A) (ab_zi (fun r Z I A => K 0 r Z I A)))) (hoh : ab_okH (shC Z)) : vx_Met l yL_peek (Cond.codeWith yL_peek cL_peek 5 (some .int) [(0, 10, 13, 25)] :: ab_ws) (ab_rm 9 1 6) (lw_wP D cT cL ac ad sz o v [.int x0, .int x1] Z I A) (lw_wQ D cT cL ac ad o (va_A (wO o cL v :: ab_w cT ad ac I A 0 (shC Z)) sz) K) (fun _ _ _ => False) 1 6 (va_A (wO o cL v :: ab_w cT ad ac I A 0 (shC Z)) sz) := by
  refine vx_ofWH (cc := cL_peek) (maxL := 5) (ret := some .int) (hh := [(0, 10, 13, 25)]) (by decide +kernel) rfl ?_
  intro p e s m args below meth c s₁ B hml hv
  obtain ⟨rfl, hsz, hP, hPo, hK, hD0, hDj, hCK, hN⟩ := hv
  have hx := B.exec
  have hb := B.bytes
  have hr := B.returns
  have hts0 := atoms_spec (ws := Cond.codeWith yL_peek cL_peek 5 (some .int) [(0, 10, 13, 25)] :: ab_ws) B.pre
  have hts := fun w (hw : w ∈ ab_ws) => hts0 w (List.mem_cons_of_mem _ hw)
  have hown : s.vm.findClass "CheckpointSwapLaw" = some m.cls := findClass_of_methodNamed B.named
  have htab := vx_table (x := yL_peek) B (hts0 _ List.mem_cons_self)
  subst hsz
  generalize hAe : va_A (wO o cL v :: ab_w cT ad ac I A 0 (shC Z)) s.heap.size = Ar at hCK ⊢
  have hA : ∀ q, s.heap.size ≤ q → Ar q := fun q h => by rw [← hAe]; exact Or.inr h
  have hAo : Ar o := by rw [← hAe]; exact Or.inl ⟨0, _, rfl⟩
  have hD : va_D Ar (ab_w cT ad ac I A 0 (shC Z)) := ⟨hD0.1, fun k q hk => by rw [← hAe]; exact Or.inl ⟨k + 1, q.2, hk⟩⟩
  have hAC : ∀ q, va_A (ab_w cT ad ac I A 0 (shC Z)) s.heap.size q → Ar q := fun q h => by
    rw [← hAe]; rcases h with ⟨k, e9, hk⟩ | hk
    · exact Or.inl ⟨k + 1, e9, hk⟩
    · exact Or.inr hk
  have hS : va_S Ar s.heap s.heap [] := va_S.rf
  have hl := lv_entry ((Value.ref (ad 0) :: [.int x0, .int x1]) ++ [.ref o]) (n := 5) (Nat.le_of_ble_eq_true rfl)
  rw [lg_entry_eq]
  generalize (lg_sl (((Value.ref (ad 0) :: [.int x0, .int x1]) ++ [.ref o])) ++ List.replicate (5 - (lg_sl (((Value.ref (ad 0) :: [.int x0, .int x1]) ++ [.ref o]))).length) Slot.unset).toArray = ls at hl ⊢
  have hl : lv_has ls 5 [(0, .ref (ad 0)), (1, .int x0), (2, .int x1), (3, .ref o)] := hl
  refine lv_aload_n hx hb dL_peek_0 rfl (lv_at hl 3 rfl) ?_
  refine lv_iconst (v := 0) hx hb dL_peek_1 (by decide) ?_
  refine lv_aload_n hx hb dL_peek_2 rfl (lv_at hl 0 rfl) ?_
  refine lv_iload_n hx hb dL_peek_3 rfl (lv_at hl 1 rfl) ?_
  refine lv_iload_n hx hb dL_peek_4 rfl (lv_at hl 2 rfl) ?_
  refine lw_callV (D := D) (cT := cT) (ac := ac) (ad := ad) (as := [.int x0, .int x1]) (rest := [.int 0, .ref o]) ⟨hx, hb, hml, hown, hts⟩ htr (lw_sub hK) hCK hA sC_0 vc_15 hM okX11_peek rfl (ab_in 1596 (by decide +kernel) rfl) (ab_in 1597 (by decide +kernel) rfl) (ab_in 1598 (by decide +kernel) rfl) (ab_in 96 (by decide +kernel) rfl) dL_peek_5 rfl rfl hl.1 (Nat.le_of_ble_eq_true rfl) (Nat.le_of_ble_eq_true rfl) (Nat.le_of_ble_eq_true rfl) (Nat.le_of_ble_eq_true rfl) (Nat.le_of_ble_eq_true rfl) hoh (fun v hv => ?_) hP hD hS (fun E ce q9 sh1 I1 A1 ad1 H1 locs1 hp had hokh g9 g10 g12 g11 c1 c2 c3 => ?_) (fun r sh1 I1 A1 ad1 H1 locs1 hp had hokh g9 g10 g12 g11 => ?_)
  · simp only [List.mem_cons, List.not_mem_nil, or_false] at hv
    rcases hv with h | h | h <;> subst h <;> first | exact trivial | (show 0 < (shC Z).length; rw [sh_len]; omega)
  · obtain ⟨Z1, rfl, j, hj, hk⟩ := hp
    have hPo1 := fr_keep hPo hDj g12.2
    have hDj1 := fr_dj hPo hDj g10
    match j, hj, hk with
    | 0, hj, hk =>
      cases hj
      refine vx_catch (name := "java/lang/IndexOutOfBoundsException") hown [] ⟨0, 10, 13, 25⟩ [] (by rw [htab]; rfl) (fun z hz => absurd hz List.not_mem_nil) (by decide) (by decide) (hts _ (ab_in 1494 (by decide +kernel) rfl)) (va_any rfl (hCK.2.2.2.2.1 _ (ab_ngm 18 rfl))) c1 c2 c3 ?_
      refine lv_astore (lv' := [(4, .ref q9), (0, .ref (ad 0)), (1, .int x0), (2, .int x1), (3, .ref o)]) hx hb dL_peek_13 hl (by decide) rfl (fun ls2 hl2 => ?_)
      refine lv_iconst (v := nI 1) hx hb dL_peek_15 (by decide) ?_
      refine vx_ret (W.widen (k := 1) (n := 6) (Nat.le_of_ble_eq_true rfl) (Nat.le_of_ble_eq_true rfl) ?_)
      exact W.iret hx hb hr (fun t ht hW => ⟨⟨1, 0, Z1, I1, A1, ad1, v, rfl, hk, (fun z => absurd z (by decide)), had, hokh, by rw [ht]; exact g9, by rw [ht]; exact hPo1, fr_D hAC g10, hDj1⟩, g11.F ht⟩) g11.2.2 dL_peek_16
    | j + 1, hj, hk => exact nomatch hj
  · obtain ⟨Z1, rfl, x, rfl, hk⟩ := hp
    have hPo1 := fr_keep hPo hDj g12.2
    have hDj1 := fr_dj hPo hDj g10
    have hD1 := fr_D hAC g10
    refine lv_i2l (v := x.toInt64) hx hb dL_peek_8 rfl ?_
    refine va_last (ws := wO o cL v :: ab_w cT ad1 ac I1 A1 0 (shC Z1)) hx hb hK (wo_cons hPo1 g9) (wo_D hAo hD1 hDj1) g11 0 3 rfl rfl (by unfold vp_in; decide) dL_peek_9 (fun H2 locs2 k1 k2 k3 => ?_)
    refine lv_goto (tgt := 17) hx hb dL_peek_10 (by decide) ?_
    refine lv_iconst (v := nI 0) hx hb dL_peek_17 (by decide) ?_
    refine vx_ret (W.widen (k := 1) (n := 6) (Nat.le_of_ble_eq_true rfl) (Nat.le_of_ble_eq_true rfl) ?_)
    exact W.iret hx hb hr (fun t ht hW => ⟨⟨0, x, Z1, I1, A1, ad1, _, rfl, hk, (fun _ => wo_1), had, hokh, by rw [ht]; exact wo_tl k1, by rw [ht]; exact wo_hd k1, hD1, wo_dj hDj1⟩, k3.F ht⟩) k3.2.2 dL_peek_18
theorem wr_pageState {l : Launch} (htr : l.stackTraces = false) {D : va_G} {cT : FieldType → ClassId} {cL : ClassId} {ac ad : Nat → Nat} {sz o : Nat} {v : Nat → Int64} {Z : ab_Z} {I A : ab_F} {x0 x1 : Int32} {K : Nat → Int32 → ab_Z → ab_F → ab_F → Prop} (hM : ab_Cl mX11_pageState 8 1 6 [.ref 0, .int x0, .int x1] (shC Z) I A (ab_Pz (fun E Z I A => ∃ j, ["java/lang/IndexOutOfBoundsException"][j]? = some E ∧ K (j + 1) 0 Z I A) (ab_zi (fun r Z I A => K 0 r Z I A)))) (hoh : ab_okH (shC Z)) : vx_Met l yL_pageState (Cond.codeWith yL_pageState cL_pageState 5 (some .int) [(0, 10, 13, 25)] :: ab_ws) (ab_rm 9 1 6) (lw_wP D cT cL ac ad sz o v [.int x0, .int x1] Z I A) (lw_wQ D cT cL ac ad o (va_A (wO o cL v :: ab_w cT ad ac I A 0 (shC Z)) sz) K) (fun _ _ _ => False) 1 6 (va_A (wO o cL v :: ab_w cT ad ac I A 0 (shC Z)) sz) := by
  refine vx_ofWH (cc := cL_pageState) (maxL := 5) (ret := some .int) (hh := [(0, 10, 13, 25)]) (by decide +kernel) rfl ?_
  intro p e s m args below meth c s₁ B hml hv
  obtain ⟨rfl, hsz, hP, hPo, hK, hD0, hDj, hCK, hN⟩ := hv
  have hx := B.exec
  have hb := B.bytes
  have hr := B.returns
  have hts0 := atoms_spec (ws := Cond.codeWith yL_pageState cL_pageState 5 (some .int) [(0, 10, 13, 25)] :: ab_ws) B.pre
  have hts := fun w (hw : w ∈ ab_ws) => hts0 w (List.mem_cons_of_mem _ hw)
  have hown : s.vm.findClass "CheckpointSwapLaw" = some m.cls := findClass_of_methodNamed B.named
  have htab := vx_table (x := yL_pageState) B (hts0 _ List.mem_cons_self)
  subst hsz
  generalize hAe : va_A (wO o cL v :: ab_w cT ad ac I A 0 (shC Z)) s.heap.size = Ar at hCK ⊢
  have hA : ∀ q, s.heap.size ≤ q → Ar q := fun q h => by rw [← hAe]; exact Or.inr h
  have hAo : Ar o := by rw [← hAe]; exact Or.inl ⟨0, _, rfl⟩
  have hD : va_D Ar (ab_w cT ad ac I A 0 (shC Z)) := ⟨hD0.1, fun k q hk => by rw [← hAe]; exact Or.inl ⟨k + 1, q.2, hk⟩⟩
  have hAC : ∀ q, va_A (ab_w cT ad ac I A 0 (shC Z)) s.heap.size q → Ar q := fun q h => by
    rw [← hAe]; rcases h with ⟨k, e9, hk⟩ | hk
    · exact Or.inl ⟨k + 1, e9, hk⟩
    · exact Or.inr hk
  have hS : va_S Ar s.heap s.heap [] := va_S.rf
  have hl := lv_entry ((Value.ref (ad 0) :: [.int x0, .int x1]) ++ [.ref o]) (n := 5) (Nat.le_of_ble_eq_true rfl)
  rw [lg_entry_eq]
  generalize (lg_sl (((Value.ref (ad 0) :: [.int x0, .int x1]) ++ [.ref o])) ++ List.replicate (5 - (lg_sl (((Value.ref (ad 0) :: [.int x0, .int x1]) ++ [.ref o]))).length) Slot.unset).toArray = ls at hl ⊢
  have hl : lv_has ls 5 [(0, .ref (ad 0)), (1, .int x0), (2, .int x1), (3, .ref o)] := hl
  refine lv_aload_n hx hb dL_pageState_0 rfl (lv_at hl 3 rfl) ?_
  refine lv_iconst (v := 0) hx hb dL_pageState_1 (by decide) ?_
  refine lv_aload_n hx hb dL_pageState_2 rfl (lv_at hl 0 rfl) ?_
  refine lv_iload_n hx hb dL_pageState_3 rfl (lv_at hl 1 rfl) ?_
  refine lv_iload_n hx hb dL_pageState_4 rfl (lv_at hl 2 rfl) ?_
  refine lw_callV (D := D) (cT := cT) (ac := ac) (ad := ad) (as := [.int x0, .int x1]) (rest := [.int 0, .ref o]) ⟨hx, hb, hml, hown, hts⟩ htr (lw_sub hK) hCK hA sC_0 vc_15 hM okX11_pageState rfl (ab_in 1620 (by decide +kernel) rfl) (ab_in 1621 (by decide +kernel) rfl) (ab_in 1622 (by decide +kernel) rfl) (ab_in 96 (by decide +kernel) rfl) dL_pageState_5 rfl rfl hl.1 (Nat.le_of_ble_eq_true rfl) (Nat.le_of_ble_eq_true rfl) (Nat.le_of_ble_eq_true rfl) (Nat.le_of_ble_eq_true rfl) (Nat.le_of_ble_eq_true rfl) hoh (fun v hv => ?_) hP hD hS (fun E ce q9 sh1 I1 A1 ad1 H1 locs1 hp had hokh g9 g10 g12 g11 c1 c2 c3 => ?_) (fun r sh1 I1 A1 ad1 H1 locs1 hp had hokh g9 g10 g12 g11 => ?_)
  · simp only [List.mem_cons, List.not_mem_nil, or_false] at hv
    rcases hv with h | h | h <;> subst h <;> first | exact trivial | (show 0 < (shC Z).length; rw [sh_len]; omega)
  · obtain ⟨Z1, rfl, j, hj, hk⟩ := hp
    have hPo1 := fr_keep hPo hDj g12.2
    have hDj1 := fr_dj hPo hDj g10
    match j, hj, hk with
    | 0, hj, hk =>
      cases hj
      refine vx_catch (name := "java/lang/IndexOutOfBoundsException") hown [] ⟨0, 10, 13, 25⟩ [] (by rw [htab]; rfl) (fun z hz => absurd hz List.not_mem_nil) (by decide) (by decide) (hts _ (ab_in 1494 (by decide +kernel) rfl)) (va_any rfl (hCK.2.2.2.2.1 _ (ab_ngm 18 rfl))) c1 c2 c3 ?_
      refine lv_astore (lv' := [(4, .ref q9), (0, .ref (ad 0)), (1, .int x0), (2, .int x1), (3, .ref o)]) hx hb dL_pageState_13 hl (by decide) rfl (fun ls2 hl2 => ?_)
      refine lv_iconst (v := nI 1) hx hb dL_pageState_15 (by decide) ?_
      refine vx_ret (W.widen (k := 1) (n := 6) (Nat.le_of_ble_eq_true rfl) (Nat.le_of_ble_eq_true rfl) ?_)
      exact W.iret hx hb hr (fun t ht hW => ⟨⟨1, 0, Z1, I1, A1, ad1, v, rfl, hk, (fun z => absurd z (by decide)), had, hokh, by rw [ht]; exact g9, by rw [ht]; exact hPo1, fr_D hAC g10, hDj1⟩, g11.F ht⟩) g11.2.2 dL_pageState_16
    | j + 1, hj, hk => exact nomatch hj
  · obtain ⟨Z1, rfl, x, rfl, hk⟩ := hp
    have hPo1 := fr_keep hPo hDj g12.2
    have hDj1 := fr_dj hPo hDj g10
    have hD1 := fr_D hAC g10
    refine lv_i2l (v := x.toInt64) hx hb dL_pageState_8 rfl ?_
    refine va_last (ws := wO o cL v :: ab_w cT ad1 ac I1 A1 0 (shC Z1)) hx hb hK (wo_cons hPo1 g9) (wo_D hAo hD1 hDj1) g11 0 3 rfl rfl (by unfold vp_in; decide) dL_pageState_9 (fun H2 locs2 k1 k2 k3 => ?_)
    refine lv_goto (tgt := 17) hx hb dL_pageState_10 (by decide) ?_
    refine lv_iconst (v := nI 0) hx hb dL_pageState_17 (by decide) ?_
    refine vx_ret (W.widen (k := 1) (n := 6) (Nat.le_of_ble_eq_true rfl) (Nat.le_of_ble_eq_true rfl) ?_)
    exact W.iret hx hb hr (fun t ht hW => ⟨⟨0, x, Z1, I1, A1, ad1, _, rfl, hk, (fun _ => wo_1), had, hokh, by rw [ht]; exact wo_tl k1, by rw [ht]; exact wo_hd k1, hD1, wo_dj hDj1⟩, k3.F ht⟩) k3.2.2 dL_pageState_18
