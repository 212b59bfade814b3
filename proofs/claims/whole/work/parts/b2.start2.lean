/-! the law's start -/
theorem sp_l {D : va_G} {cl : List vw_C} {w v : va_W} {H : Heap} (h : va_P D cl (w ++ v) H) : va_P D cl w H := fun k q hk => h k q (by rw [List.getElem?_append_left (List.getElem?_eq_some_iff.mp hk).1]; exact hk)
theorem sp_r {D : va_G} {cl : List vw_C} {w v : va_W} {H : Heap} (h : va_P D cl (w ++ v) H) : va_P D cl v H := fun k q hk => h (w.length + k) q (by rw [List.getElem?_append_right (Nat.le_add_right _ _), Nat.add_sub_cancel_left]; exact hk)
theorem sd_l {A : Nat → Prop} {w v : va_W} (h : va_D A (w ++ v)) : va_D A w := by
  have g : ∀ (k : Nat) (q : Nat × va_E), w[k]? = some q → (w ++ v)[k]? = some q := fun k q hk => by rw [List.getElem?_append_left (List.getElem?_eq_some_iff.mp hk).1]; exact hk
  exact ⟨fun i j p q a b e => h.1 i j p q (g i p a) (g j q b) e, fun k q hk => h.2 k q (g k q hk)⟩
theorem sd_r {A : Nat → Prop} {w v : va_W} (h : va_D A (w ++ v)) : va_D A v := by
  have g : ∀ (k : Nat) (q : Nat × va_E), v[k]? = some q → (w ++ v)[w.length + k]? = some q := fun k q hk => by rw [List.getElem?_append_right (Nat.le_add_right _ _), Nat.add_sub_cancel_left]; exact hk
  exact ⟨fun i j p q a b e => by have := h.1 _ _ p q (g i p a) (g j q b) e; omega, fun k q hk => h.2 _ q (g k q hk)⟩
theorem sd_j {A : Nat → Prop} {w v : va_W} (h : va_D A (w ++ v)) : Dj w v := fun i j p q a b e => by
  have hi := (List.getElem?_eq_some_iff.mp a).1
  have a' : (w ++ v)[i]? = some p := by rw [List.getElem?_append_left hi]; exact a
  have b' : (w ++ v)[w.length + j]? = some q := by rw [List.getElem?_append_right (Nat.le_add_right _ _), Nat.add_sub_cancel_left]; exact b
  have := h.1 _ _ p q a' b' e
  omega
theorem dj_l {w w' v : va_W} (h : Dj (w ++ w') v) : Dj w v := fun i j p q a b => h i j p q (by rw [List.getElem?_append_left (List.getElem?_eq_some_iff.mp a).1]; exact a) b
theorem dj_r {w w' v : va_W} (h : Dj (w ++ w') v) : Dj w' v := fun i j p q a b => h (w.length + i) j p q (by rw [List.getElem?_append_right (Nat.le_add_right _ _), Nat.add_sub_cancel_left]; exact a) b
/-- a constructor, called from any frame -/
theorem lw_callI {p : Program} {l : Launch} {e : Env} {R : Room} {s : State} {m : MethodId} {args : Array Value} {below : List Frame} {meth : Method} {c : Code} {cc : ByteArray} {nL : Nat} {own : String} (S : CallFix p m c cc nL s args ab_ws own) (htr : l.stackTraces = false) {D : va_G} {cT : FieldType → ClassId} {ac ad : Nat → Nat} {Ar : Nat → Prop} (hK : va_K D vwCl (ab_tys cT) s) (hCK : ab_CK ac Ar s s.heap) (hA : ∀ q, s.heap.size ≤ q → Ar q)
    {M' : ab_M} {d' mc' ms' idx pc : Nat} {rest : List Value} {sh : List ab_S} {I A : ab_F} {P' : ab_O → Prop} {H : Heap} {locs : List Loc} {cells slots : Nat} {lsA : Array Slot} {Q : State → Prop} {stk : List Value}
    (h0 : 0 < sh.length) (hM : ab_Cl M' d' mc' ms' [.ref 0] sh I A P') (hok : ab_mOK M' 0) (hini : M'.1.name = "<init>") (hr0 : M'.2.2.2 = none) (hw1 : Cond.methodLink own idx M'.1 ∈ ab_ws) (hw2 : Cond.instanceMethod M'.1 ∈ ab_ws) (dg : decode cc pc = .ok (.invokespecial idx, 3)) (hstk : stk = .ref (ad 0) :: rest) (hlsz : lsA.size = nL) (hs8 : (rest.map fun v => v.category).sum ≤ 8)
    (hfr : d' + 1 ≤ R.frames) (hlo : 8 + (M'.2.2.1 + 11) + 100 * d' ≤ R.locals) (hce : cells + mc' ≤ R.cells) (hsl : slots + ms' ≤ R.slots) (hoh : ab_okH sh) (hP : va_P D vwCl (ab_w cT ad ac I A 0 sh) H) (hD : va_D Ar (ab_w cT ad ac I A 0 sh)) (hS : va_S Ar s.heap H locs)
    (hx : ∀ E sh1 I1 A1, ¬ P' (.inr E, sh1, I1, A1))
    (kk : ∀ (r : Option Value) (sh1 : List ab_S) (I1 A1 : ab_F) (ad1 : Nat → Nat) (H1 : Heap) (locs1 : List Loc), P' (.inl r, sh1, I1, A1) → ad1 0 = ad 0 → ab_okH sh1 → va_P D vwCl (ab_w cT ad1 ac I1 A1 0 sh1) H1 → va_D (va_A (ab_w cT ad ac I A 0 sh) H.size) (ab_w cT ad1 ac I1 A1 0 sh1) → (H.size ≤ H1.size ∧ ∀ q, q < H.size → ¬ va_A (ab_w cT ad ac I A 0 sh) H.size q → H1[q]? = H[q]?) → va_S Ar s.heap H1 locs1 → W p l e R s m args below meth c H1 locs1 (cells + mc') (slots + ms') Q (F0 m (pc + 3) lsA ((r.map (ab_v ad1 ac)).toList ++ rest))) :
    W p l e R s m args below meth c H locs cells slots Q (F0 m pc lsA stk) := by
  have hF := fr_A hD hS hA
  have hws := S.2.2.2.2
  have hMm := hM l htr D cT ac ad H.size hoh (ab_oc h0 (fun v hv => absurd hv List.not_mem_nil))
  have hrun := vx_runI (b := ad 0) (cc := cc) (nL := nL) (Ts := ab_ws) (As := []) (rest := rest) (g := F0 m pc lsA stk) (H := H) (locs := locs) (cells := cells) (slots := slots) (R := R) (e := e) (below := below) (meth := meth) S hMm (cwI 0 hws (ab_gdW hok.2.2.1) (by rw [hr0]) rfl rfl (hws _ hok.2.2.2) (hws _ hw1) (hws _ hw2) hini hok.1 ⟨hfr, hlo⟩) ⟨(fun a U g mk q => by obtain ⟨q0, q1, qP, qK, qD, qC⟩ := q; exact ⟨q0, q1, qP, va_K.moved (u := U) (U := U.calling g mk a) (Vm.Alike.refl U.vm) qK, qD, qC.at (U := U.calling g mk a) (H0 := U.heap) (State.WarmedH.refl U) (fun _ _ _ => rfl) (fun _ h => h)⟩), (fun U hU hW => ⟨rfl, by rw [hU], by rw [hU]; exact hP, va_K.moved hW.alike hK, hD.weaken (fun _ _ _ _ => trivial), by rw [hU]; exact hCK.at hW (fun a ha hn9 => hS.2.1 a ha hn9) hF⟩)⟩ rfl rfl hlsz hstk (lv_room hs8) dg ⟨hce, hsl⟩
  refine lw_run hrun hS hF ?_ ?_
  · intro E ce q9 sh1 I1 A1 ad1 H1 locs1 hp
    exact absurd hp (hx _ _ _ _)
  · intro r sh1 I1 A1 ad1 H1 locs1 hp hlen had hokr hokh g9 g10 g12 g11
    exact kk r sh1 I1 A1 ad1 H1 locs1 hp (had 0 h0) hokh g9 g10 g12 g11
theorem ls_d15 : ∀ j, j < 7 → defaultValue (ab_ty 15 j) = vp_V [.null, .null, .null, .null, .null, .null, .null] j
  | 0, _ => rfl
  | 1, _ => rfl
  | 2, _ => rfl
  | 3, _ => rfl
  | 4, _ => rfl
  | 5, _ => rfl
  | 6, _ => rfl
  | k + 7, h => absurd h (by omega)
theorem ls_d16 : ∀ j, j < 19 → defaultValue (ab_ty 16 j) = vp_V [.null, .null, .null, .null, .int 0, .int 0, .null, .int 0, .int 0, .int 0, .int 0, .int 0, .int 0, .null, .null, .null, .null, .null, .int 0] j
  | 0, _ => rfl
  | 1, _ => rfl
  | 2, _ => rfl
  | 3, _ => rfl
  | 4, _ => rfl
  | 5, _ => rfl
  | 6, _ => rfl
  | 7, _ => rfl
  | 8, _ => rfl
  | 9, _ => rfl
  | 10, _ => rfl
  | 11, _ => rfl
  | 12, _ => rfl
  | 13, _ => rfl
  | 14, _ => rfl
  | 15, _ => rfl
  | 16, _ => rfl
  | 17, _ => rfl
  | 18, _ => rfl
  | k + 19, h => absurd h (by omega)
theorem ls_n15 : ab_okH ([.inr (.inr (15, [some .null, some .null, some .null, some .null, some .null, some .null, some .null]))] : List ab_S) := by
  intro x hx
  rw [List.mem_singleton.mp hx]
  intro v hv
  simp only [List.mem_cons, List.not_mem_nil, or_false, Option.some.injEq, reduceCtorEq, false_or, or_self] at hv
  rw [hv]; exact trivial
theorem ls_n16 : ab_okH ([.inr (.inr (16, [some .null, some .null, some .null, some .null, none, none, some .null, none, none, none, none, none, none, some .null, some .null, some .null, some .null, some .null, none]))] : List ab_S) := by
  intro x hx
  rw [List.mem_singleton.mp hx]
  intro v hv
  simp only [List.mem_cons, List.not_mem_nil, or_false, Option.some.injEq, reduceCtorEq, false_or, or_self] at hv
  rw [hv]; exact trivial
theorem ls_last (w : va_W) (x : Nat × va_E) : (w ++ [x])[w.length]? = some x := by rw [List.getElem?_append_right (Nat.le_refl _), Nat.sub_self]; rfl
theorem ls_Ok {w : Nat → Int32} (e : Ew wl0 w) : Ok (i_S w) := ⟨⟨Nv_ew e (Nv_G Gw_i), fun i hi => absurd hi (Nat.not_lt_zero i)⟩, fun i hi => absurd hi (Nat.not_lt_zero i)⟩
set_option maxHeartbeats 4000000 in
set_option maxRecDepth 100000 in
/-- the law, from its entry -/
theorem whole_start {p : Program} {e : Env} {s : State} {m : MethodId} {below : List Frame} {meth : Method} {c : Code} (l : Launch) (hflags : l.flags = flags0) {b L : Nat} {xs : Nat → Int32} (hL : L ≤ 3072) (C0 : lw_At p s m meth c b L xs) : W p l e room_1 s m #[Value.ref b] below meth c s.heap [] 0 0 (lw_Z below #[Value.ref b] s) (entryFrame m ([Value.ref b] : List Value).toArray 8) := by
  obtain ⟨hx, hb, hr, hml, hown, hts, hX, hbl, hlocks, hgv⟩ := C0
  have hown : s.vm.findClass "CheckpointSwapLaw" = some m.cls := hown
  have hws := ls_ws hts
  have hn : ∀ w ∈ nwF, w.before #[Value.ref b] s = true := flat_of_before _ hgv
  obtain ⟨D, cT, hK⟩ := ls_K hts
  obtain ⟨ac, hCK⟩ := ls_CK (A := (fun q : Nat => s.heap.size ≤ q)) hts hn (fun a h => Nat.not_le_of_lt h)
  have htr := ls_tr hflags
  have hNC := ls_NC hn
  have hA : ∀ q : Nat, s.heap.size ≤ q → (fun q : Nat => s.heap.size ≤ q) q := fun _ h => h
  have hS : va_S (fun q : Nat => s.heap.size ≤ q) s.heap s.heap [] := va_S.rf
  have hF : CallFix p m c code 8 s #[Value.ref b] ab_ws "CheckpointSwapLaw" := ⟨hx, hb, hml, hown, hws⟩
  have hP : va_P D vwCl [] s.heap := fun k q h => by cases h
  have hD : va_D (fun q : Nat => s.heap.size ≤ q) [] := ⟨fun i j p q h => (by cases h), fun k q h => (by cases h)⟩
  have hl := lv_entry ([.ref b]) (n := 8) (Nat.le_of_ble_eq_true rfl)
  rw [lg_entry_eq]
  generalize (lg_sl ([.ref b]) ++ List.replicate (8 - (lg_sl ([.ref b])).length) Slot.unset).toArray = ls at hl ⊢
  have hl : lv_has ls 8 [(0, .ref b)] := hl
  refine va_new (ci := 15) (fs := [.null, .null, .null, .null, .null, .null, .null]) (C := RX11) (T := TX11) (N := 7) hx hb hws (ab_lay 15 _ vc_15) (ab_ty 15) (ab_tyok 15 _ vc_15) hown (hws _ (ab_in 134 (by decide +kernel) rfl)) (hws _ (ab_in 135 (by decide +kernel) rfl)) (hws _ (ab_in 96 (by decide +kernel) rfl)) hK hP hD hS hA vc_15 ls_d15 (Nat.le_of_ble_eq_true rfl) (Nat.le_of_ble_eq_true rfl) dL_law_0 (fun q1 H1 hP1 hD1 hS1 => ?_)
  refine lv_dup hx hb dL_law_3 rfl ?_
  refine lw_callI (ad := fun _ => q1) (I := fun _ _ => 0) (A := fun _ _ => 0) (rest := [.ref q1]) hF htr hK hCK hA (sh := [.inr (.inr (15, [some .null, some .null, some .null, some .null, some .null, some .null, some .null]))]) (by decide) ctX11_init okX11_init rfl rfl (ab_in 136 (by decide +kernel) rfl) (ab_in 137 (by decide +kernel) rfl) dL_law_4 rfl hl.1 (Nat.le_of_ble_eq_true rfl) (Nat.le_of_ble_eq_true rfl) (Nat.le_of_ble_eq_true rfl) (Nat.le_of_ble_eq_true rfl) (Nat.le_of_ble_eq_true rfl) ls_n15 hP1 hD1 hS1 (fun E sh1 I1 A1 z => by cases z.1) (fun r sh1 I1 A1 adC H2 locs2 hp had hokC pC dC fC S2 => ?_)
  obtain ⟨e1, I9, A9, e2, hI⟩ := hp
  cases e1
  cases e2
  have had : adC 0 = q1 := had
  have dC := fr_D (fr_A (w := ab_w cT (fun _ => q1) ac (fun _ _ => 0) (fun _ _ => 0) 0 [.inr (.inr (15, [some .null, some .null, some .null, some .null, some .null, some .null, some .null]))]) hD1 hS1 hA) dC
  refine lv_astore_n (lv' := [(1, .ref q1), (0, .ref b)]) hx hb dL_law_7 rfl hl (by decide) rfl (fun ls hl => ?_)
  refine va_new (ci := 16) (fs := [.null, .null, .null, .null, .int 0, .int 0, .null, .int 0, .int 0, .int 0, .int 0, .int 0, .int 0, .null, .null, .null, .null, .null, .int 0]) (C := RX12) (T := TX12) (N := 19) hx hb hws (ab_lay 16 _ vc_16) (ab_ty 16) (ab_tyok 16 _ vc_16) hown (hws _ (ab_in 1985 (by decide +kernel) rfl)) (hws _ (ab_in 1986 (by decide +kernel) rfl)) (hws _ (ab_in 112 (by decide +kernel) rfl)) hK pC dC S2 hA vc_16 ls_d16 (Nat.le_of_ble_eq_true rfl) (Nat.le_of_ble_eq_true rfl) dL_law_8 (fun q2 H3 hP3 hD3 hS3 => ?_)
  refine lv_dup hx hb dL_law_11 rfl ?_
  refine lw_callI (ad := fun _ => q2) (I := fun _ _ => 0) (A := fun _ _ => 0) (rest := [.ref q2]) hF htr hK hCK hA (sh := [.inr (.inr (16, [some .null, some .null, some .null, some .null, none, none, some .null, none, none, none, none, none, none, some .null, some .null, some .null, some .null, some .null, none]))]) (by decide) (ctX12_init rfl) okX12_init rfl rfl (ab_in 1987 (by decide +kernel) rfl) (ab_in 1988 (by decide +kernel) rfl) dL_law_12 rfl hl.1 (Nat.le_of_ble_eq_true rfl) (Nat.le_of_ble_eq_true rfl) (Nat.le_of_ble_eq_true rfl) (Nat.le_of_ble_eq_true rfl) (Nat.le_of_ble_eq_true rfl) ls_n16 (sp_r hP3) (sd_r hD3) hS3 (fun E sh1 I1 A1 z => by cases z.1) (fun r sh1 J1 B1 adM H4 locs4 hp had2 hokM pM dM fM S4 => ?_)
  obtain ⟨e1, J9, B9, e2, hJ⟩ := hp
  cases e1
  cases e2
  have had2 : adM 0 = q2 := had2
  have pC4 := fr_keep (sp_l hP3) (w := ab_w cT (fun _ => q2) ac (fun _ _ => 0) (fun _ _ => 0) 0 [.inr (.inr (16, [some .null, some .null, some .null, some .null, none, none, some .null, none, none, none, none, none, none, some .null, some .null, some .null, some .null, some .null, none]))]) (sd_j hD3).symm fM.2
  have jMC := fr_dj (sp_l hP3) (w := ab_w cT (fun _ => q2) ac (fun _ _ => 0) (fun _ _ => 0) 0 [.inr (.inr (16, [some .null, some .null, some .null, some .null, none, none, some .null, none, none, none, none, none, none, some .null, some .null, some .null, some .null, some .null, none]))]) (sd_j hD3).symm dM
  have dM := fr_D (fr_A (w := ab_w cT (fun _ => q2) ac (fun _ _ => 0) (fun _ _ => 0) 0 [.inr (.inr (16, [some .null, some .null, some .null, some .null, none, none, some .null, none, none, none, none, none, none, some .null, some .null, some .null, some .null, some .null, none]))]) (sd_r hD3) hS3 hA) dM
  refine lv_astore_n (lv' := [(2, .ref q2), (1, .ref q1), (0, .ref b)]) hx hb dL_law_15 rfl hl (by decide) rfl (fun ls hl => ?_)
  refine lv_iconst (v := 1) hx hb dL_law_16 (by decide) ?_
  refine va_newa (ty := .long) (N' := 1) (a0 := (1, .inr (.inl (fun _ => 0)))) hx hb (hws _ (ab_in 2662 (by decide +kernel) rfl)) rfl hK (pC4.app pM) (dC.app dM jMC.symm) S4 hA (fun _ => rfl) (by decide) (by decide) (Nat.le_of_ble_eq_true rfl) (Nat.le_of_ble_eq_true rfl) (Nat.le_of_ble_eq_true rfl) dL_law_17 (fun o1 cL H5 hK5 hP5 hD5 hS5 => ?_)
  refine lv_astore_n (lv' := [(3, .ref o1), (2, .ref q2), (1, .ref q1), (0, .ref b)]) hx hb dL_law_19 rfl hl (by decide) rfl (fun ls hl => ?_)
  refine lv_iconst (v := 1) hx hb dL_law_20 (by decide) ?_
  refine va_newa (ty := .double) (N' := 1) (a0 := (1, .inr (.inr (.inr (.inl (fun _ => 0)))))) hx hb (hws _ (ab_in 2663 (by decide +kernel) rfl)) rfl hK5 hP5 hD5 hS5 hA (fun _ => rfl) (by decide) (by decide) (Nat.le_of_ble_eq_true rfl) (Nat.le_of_ble_eq_true rfl) (Nat.le_of_ble_eq_true rfl) dL_law_21 (fun o2 cD H6 hK6 hP6 hD6 hS6 => ?_)
  refine lv_astore (lv' := [(4, .ref o2), (3, .ref o1), (2, .ref q2), (1, .ref q1), (0, .ref b)]) hx hb dL_law_23 hl (by decide) rfl (fun ls hl => ?_)
  refine lv_iconst (v := nI 0) hx hb dL_law_25 (by decide) ?_
  refine lv_istore (lv' := [(5, .int (nI 0)), (4, .ref o2), (3, .ref o1), (2, .ref q2), (1, .ref q1), (0, .ref b)]) hx hb dL_law_26 hl (by decide) rfl (fun ls hl => ?_)
  rw [← had, ← had2] at hl
  have hK7 : va_K D vwCl (ab_tys cT ++ [(cL, .long), (cD, .double)]) s := by rw [show ab_tys cT ++ [(cL, .long), (cD, .double)] = (ab_tys cT ++ [(cL, .long)]) ++ [(cD, .double)] by rw [List.append_assoc]; rfl]; exact hK6
  have X0 : lw_X p l s m meth c b L xs D cT cL cD ac := ⟨hx, hb, hml, hr, hown, hws, hK7, hCK, htr, hX, hbl, hlocks, hNC⟩
  have h5 := sp_l hP6
  have h4 := sp_l h5
  have d5 := sd_l hD6
  have d4 := sd_l d5
  have hV : lw_V D cT cL cD ac s H6 locs4 (adC, adM, (o1, o2), (fun _ => 0), (fun _ => 0), Z_0, (I1, A1), (J1, B1)) := ⟨⟨hokC, sp_l h4, sp_r h4, sp_r h5, sp_r hP6⟩, ⟨sd_l d4, sd_r d4, d5.2 _ _ (ls_last _ _), hD6.2 _ _ (ls_last _ _)⟩, ⟨sd_j d4, dj_l (sd_j d5), dj_l (dj_l (sd_j hD6)), dj_r (sd_j d5), dj_r (dj_l (sd_j hD6)), dj_r (sd_j hD6) 0 0 _ _ rfl rfl⟩, hS6⟩
  have hj := hJ.1
  refine W.widen (k := 55) (n := 10499) (Nat.le_of_ble_eq_true rfl) (Nat.le_of_ble_eq_true rfl) ?_
  exact W.base (lp_loop X0 hL (c0 := 55) (s0 := 10499) (by omega) (by omega) L 0 0 55 10499 0 (i_S (B1 1)) (by omega) (by omega) (by omega) (by omega) (Nat.zero_le _) (by omega) s.drawn H6 locs4 ls adC adM o1 o2 (fun _ => 0) (fun _ => 0) Z_0 I1 A1 J1 B1 (Drawn.sameBut.refl _ _) hV (st_C hI hj) (st_M hJ) (ls_Ok hj) hl)
