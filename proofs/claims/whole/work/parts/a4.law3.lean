/-! the law's frame: both worlds, the two cells, the script -/
abbrev wD (o : Nat) (cD : ClassId) (v : Nat → UInt64) : Nat × va_E := (o, .inl (cD, 1, .inr (.inr (.inr (.inl v)))))
abbrev lw_S : Type := (Nat → Nat) × (Nat → Nat) × (Nat × Nat) × (Nat → Int64) × (Nat → UInt64) × ab_Z × (ab_F × ab_F) × (ab_F × ab_F)
def lw_X (p : Program) (l : Launch) (s : State) (m : MethodId) (meth : Method) (c : Code) (b L : Nat) (xs : Nat → Int32) (D : va_G) (cT : FieldType → ClassId) (cL cD : ClassId) (ac : Nat → Nat) : Prop :=
  p.tables.exec = Jvm.exec ∧ c.code = code ∧ c.maxLocals = 8 ∧ meth.sig.returnType = ret ∧ s.vm.findClass "CheckpointSwapLaw" = some m.cls ∧ (∀ w ∈ ab_ws, w.before #[Value.ref b] s = true) ∧ va_K D vwCl (ab_tys cT ++ [(cL, .long), (cD, .double)]) s ∧ ab_CK ac (fun q => s.heap.size ≤ q) s s.heap ∧ l.stackTraces = false ∧ va_X b L xs s s.heap ∧ b < s.heap.size ∧ meth.locks = false ∧ lw_NC s
def lw_V (D : va_G) (cT : FieldType → ClassId) (cL cD : ClassId) (ac : Nat → Nat) (s : State) (H : Heap) (locs : List Loc) : lw_S → Prop
  | (adC, adM, (o1, o2), v1, v2, Z, (I, A), (J, B)) => (ab_okH (shC Z) ∧ va_P D vwCl (ab_w cT adC ac I A 0 (shC Z)) H ∧ va_P D vwCl (ab_w cT adM ac J B 0 shM) H ∧ va_P D vwCl [wO o1 cL v1] H ∧ va_P D vwCl [wD o2 cD v2] H) ∧ (va_D (fun q => s.heap.size ≤ q) (ab_w cT adC ac I A 0 (shC Z)) ∧ va_D (fun q => s.heap.size ≤ q) (ab_w cT adM ac J B 0 shM) ∧ s.heap.size ≤ o1 ∧ s.heap.size ≤ o2) ∧ (Dj (ab_w cT adC ac I A 0 (shC Z)) (ab_w cT adM ac J B 0 shM) ∧ Dj (ab_w cT adC ac I A 0 (shC Z)) [wO o1 cL v1] ∧ Dj (ab_w cT adC ac I A 0 (shC Z)) [wD o2 cD v2] ∧ Dj (ab_w cT adM ac J B 0 shM) [wO o1 cL v1] ∧ Dj (ab_w cT adM ac J B 0 shM) [wD o2 cD v2] ∧ o1 ≠ o2) ∧ va_S (fun q => s.heap.size ≤ q) s.heap H locs
theorem shM_ok : ab_okH shM := by
  intro x hx
  simp only [shM, List.mem_cons, List.not_mem_nil, or_false] at hx
  rcases hx with h | h | h | h | h | h | h | h | h | h | h <;> subst h <;> first | exact trivial | (intro v hv; simp only [List.mem_cons, List.not_mem_nil, or_false, Option.some.injEq, reduceCtorEq, false_or] at hv; rcases hv with h | h | h | h | h | h | h | h | h | h <;> subst h <;> (show _ < 11; decide))
theorem lw_sub2 {D : va_G} {cT : FieldType → ClassId} {x y : ClassId × FieldType} {s : State} (h : va_K D vwCl (ab_tys cT ++ [x, y]) s) : va_K D vwCl (ab_tys cT ++ [x]) s := ⟨h.1, fun k q hq => h.2 k q (by
  rw [show ab_tys cT ++ [x, y] = (ab_tys cT ++ [x]) ++ [y] by rw [List.append_assoc]; rfl, List.getElem?_append_left (List.getElem?_eq_some_iff.mp hq).1]
  exact hq)⟩
section
variable {p : Program} {l : Launch} {e : Env} {s : State} {m : MethodId} {below : List Frame} {meth : Method} {c : Code} {b L : Nat} {xs : Nat → Int32} {D : va_G} {cT : FieldType → ClassId} {cL cD : ClassId} {ac : Nat → Nat}
variable {d0 : Drawn} {H : Heap} {locs : List Loc} {cells slots : Nat} {ls : Array Slot} {Q : State → Prop}
theorem lw_fix (C0 : lw_X p l s m meth c b L xs D cT cL cD ac) : CallFix p m c code 8 (s.setDrawn d0) #[Value.ref b] ab_ws "CheckpointSwapLaw" := ⟨C0.1, C0.2.1, C0.2.2.1, C0.2.2.2.2.1, dr_words C0.2.2.2.2.2.1 d0⟩
theorem lw_ck (C0 : lw_X p l s m meth c b L xs D cT cL cD ac) : ab_CK ac (fun q => s.heap.size ≤ q) (s.setDrawn d0) (s.setDrawn d0).heap := C0.2.2.2.2.2.2.2.1.at (U := s.setDrawn d0) (H := s.heap) (State.WarmedH.refl s) (fun _ _ _ => rfl) (fun _ h => h)
/-- a call of the reference -/
theorem lw_mcall (C0 : lw_X p l s m meth c b L xs D cT cL cD ac) {adC adM : Nat → Nat} {o1 o2 : Nat} {v1 : Nat → Int64} {v2 : Nat → UInt64} {Z : ab_Z} {I A J B : ab_F} (hV : lw_V D cT cL cD ac s H locs (adC, adM, (o1, o2), v1, v2, Z, (I, A), (J, B))) {M' : ab_M} {d' na idx pc : Nat} {as rest stk : List Value} {P' : ab_O → Prop} (hM : ab_Cl M' d' 0 0 (.ref 0 :: as) shM J B P') (hok : ab_mOK M' na) (hcl : M'.1.cls = "CheckpointSwapModel") (hw1 : Cond.methodLink "CheckpointSwapLaw" idx M'.1 ∈ ab_ws) (hw2 : Cond.instanceMethod M'.1 ∈ ab_ws) (hw3 : Cond.selects "CheckpointSwapModel" M'.1 M'.1 ∈ ab_ws) (dg : decode code pc = .ok (.invokevirtual idx, 3)) (hna : as.length = na) (hoa : ∀ v ∈ as, ab_ok 11 v) (hstk : stk = (as.map (ab_v adM ac)).reverse ++ .ref (adM 0) :: rest) (hlsz : ls.size = 8) (hs8 : (rest.map fun v => v.category).sum ≤ 8) (hd : d' ≤ 20) (hce : cells ≤ 603072) (hsl : slots ≤ 7186538)
    (hx : ∀ E sh1 J1 B1, ¬ P' (.inr E, sh1, J1, B1))
    (kk : ∀ (r : Option Value) (sh1 : List ab_S) (J1 B1 : ab_F) (ad1 : Nat → Nat) (H1 : Heap) (locs1 : List Loc), P' (.inl r, sh1, J1, B1) → ad1 0 = adM 0 → (sh1 = shM → lw_V D cT cL cD ac s H1 locs1 (adC, ad1, (o1, o2), v1, v2, Z, (I, A), (J1, B1))) → W p l e room_1 (s.setDrawn d0) m #[Value.ref b] below meth c H1 locs1 cells slots Q (F0 m (pc + 3) ls ((r.map (ab_v ad1 ac)).toList ++ rest))) : W p l e room_1 (s.setDrawn d0) m #[Value.ref b] below meth c H locs cells slots Q (F0 m pc ls stk) := by
  obtain ⟨⟨a1, a2, a3, a4, a5⟩, ⟨b1, b2, b3, b4⟩, ⟨c1, c2, c3, c4, c5, c6⟩, hS⟩ := hV
  have hlo := hok.2.1
  refine lw_callV (R := room_1) (cells := cells) (slots := slots) (lw_fix (d0 := d0) C0) C0.2.2.2.2.2.2.2.2.1 (lw_sub C0.2.2.2.2.2.2.1) (lw_ck (d0 := d0) C0) (fun q h => h) sM_0 vc_16 hM hok hcl hw1 hw2 hw3 (ab_in 112 (by decide +kernel) rfl) dg hna hstk hlsz hs8 (show d' + 1 ≤ 2048 by omega) (show 8 + (M'.2.2.1 + 11) + 100 * d' ≤ 94400 by omega) hce hsl shM_ok (ab_oc (show 0 < 11 by decide) hoa) a3 b2 hS (fun E ce q9 sh1 J1 B1 ad1 H1 locs1 hp => absurd hp (hx _ _ _ _)) (fun r sh1 J1 B1 ad1 H1 locs1 hp had hokh g9 g10 g12 g11 => ?_)
  refine kk r sh1 J1 B1 ad1 H1 locs1 hp had (fun e9 => ?_)
  subst e9
  exact ⟨⟨a1, fr_keep a2 c1.symm g12.2, g9, fr_keep a4 c4 g12.2, fr_keep a5 c5 g12.2⟩, ⟨b1, fr_D (fr_A b2 hS (fun q h => h)) g10, b3, b4⟩, ⟨(fr_dj a2 c1.symm g10).symm, c2, c3, fr_dj a4 c4 g10, fr_dj a5 c5 g10, c6⟩, g11⟩
/-- a call of the class that can't throw -/
theorem lw_ccall (C0 : lw_X p l s m meth c b L xs D cT cL cD ac) {adC adM : Nat → Nat} {o1 o2 : Nat} {v1 : Nat → Int64} {v2 : Nat → UInt64} {Z : ab_Z} {I A J B : ab_F} (hV : lw_V D cT cL cD ac s H locs (adC, adM, (o1, o2), v1, v2, Z, (I, A), (J, B))) {M' : ab_M} {d' mc ms idx pc : Nat} {rest stk : List Value} {P' : ab_O → Prop} (hM : ab_Cl M' d' mc ms [.ref 0] (shC Z) I A P') (hok : ab_mOK M' 0) (hcl : M'.1.cls = "CheckpointSwap") (hw1 : Cond.methodLink "CheckpointSwapLaw" idx M'.1 ∈ ab_ws) (hw2 : Cond.instanceMethod M'.1 ∈ ab_ws) (hw3 : Cond.selects "CheckpointSwap" M'.1 M'.1 ∈ ab_ws) (dg : decode code pc = .ok (.invokevirtual idx, 3)) (hstk : stk = .ref (adC 0) :: rest) (hlsz : ls.size = 8) (hs8 : (rest.map fun v => v.category).sum ≤ 8) (hd : d' ≤ 20) (hce : cells + mc ≤ 603072) (hsl : slots + ms ≤ 7186538)
    (hx : ∀ E sh1 I1 A1, ¬ P' (.inr E, sh1, I1, A1))
    (kk : ∀ (r : Option Value) (sh1 : List ab_S) (I1 A1 : ab_F) (ad1 : Nat → Nat) (H1 : Heap) (locs1 : List Loc), P' (.inl r, sh1, I1, A1) → ad1 0 = adC 0 → (∀ Z1, sh1 = shC Z1 → lw_V D cT cL cD ac s H1 locs1 (ad1, adM, (o1, o2), v1, v2, Z1, (I1, A1), (J, B))) → W p l e room_1 (s.setDrawn d0) m #[Value.ref b] below meth c H1 locs1 (cells + mc) (slots + ms) Q (F0 m (pc + 3) ls ((r.map (ab_v ad1 ac)).toList ++ rest))) : W p l e room_1 (s.setDrawn d0) m #[Value.ref b] below meth c H locs cells slots Q (F0 m pc ls stk) := by
  obtain ⟨⟨a1, a2, a3, a4, a5⟩, ⟨b1, b2, b3, b4⟩, ⟨c1, c2, c3, c4, c5, c6⟩, hS⟩ := hV
  have hlo := hok.2.1
  refine lw_callV (R := room_1) (cells := cells) (slots := slots) (as := []) (lw_fix (d0 := d0) C0) C0.2.2.2.2.2.2.2.2.1 (lw_sub C0.2.2.2.2.2.2.1) (lw_ck (d0 := d0) C0) (fun q h => h) sC_0 vc_15 hM hok hcl hw1 hw2 hw3 (ab_in 96 (by decide +kernel) rfl) dg rfl hstk hlsz hs8 (show d' + 1 ≤ 2048 by omega) (show 8 + (M'.2.2.1 + 11) + 100 * d' ≤ 94400 by omega) hce hsl a1 (ab_oc (show 0 < (shC Z).length by rw [sh_len]; omega) (fun v hv => absurd hv List.not_mem_nil)) a2 b1 hS (fun E ce q9 sh1 I1 A1 ad1 H1 locs1 hp => absurd hp (hx _ _ _ _)) (fun r sh1 I1 A1 ad1 H1 locs1 hp had hokh g9 g10 g12 g11 => ?_)
  refine kk r sh1 I1 A1 ad1 H1 locs1 hp had (fun Z1 e9 => ?_)
  subst e9
  exact ⟨⟨hokh, g9, fr_keep a3 c1 g12.2, fr_keep a4 c2 g12.2, fr_keep a5 c3 g12.2⟩, ⟨fr_D (fr_A b1 hS (fun q h => h)) g10, b2, b3, b4⟩, ⟨fr_dj a3 c1 g10, fr_dj a4 c2 g10, fr_dj a5 c3 g10, c4, c5, c6⟩, g11⟩
/-- a call of a wrapper -/
theorem lw_wcall (C0 : lw_X p l s m meth c b L xs D cT cL cD ac) {adC adM : Nat → Nat} {o1 o2 : Nat} {v1 : Nat → Int64} {v2 : Nat → UInt64} {Z : ab_Z} {I A J B : ab_F} (hV : lw_V D cT cL cD ac s H locs (adC, adM, (o1, o2), v1, v2, Z, (I, A), (J, B))) {y : MethodName} {bytes : ByteArray} {maxL d mc ms na idx pc : Nat} {hh : List (Nat × Nat × Nat × Nat)} {as rest stk : List Value} {K : Nat → Int32 → ab_Z → ab_F → ab_F → Prop}
    (hM : vx_Met l y (Cond.codeWith y bytes maxL (some .int) hh :: ab_ws) (ab_rm d mc ms) (lw_wP D cT cL ac adC H.size o1 v1 as Z I A) (lw_wQ D cT cL ac adC o1 (va_A (wO o1 cL v1 :: ab_w cT adC ac I A 0 (shC Z)) H.size) K) (fun _ _ _ => False) mc ms (va_A (wO o1 cL v1 :: ab_w cT adC ac I A 0 (shC Z)) H.size))
    (hy : y.cls ≠ "java/lang/invoke/MethodHandle" ∧ y.cls ≠ "java/lang/invoke/VarHandle" ∧ (parseMethodDescriptor y.desc).map (fun d => d.parameters.length) = some (na + 2)) (hw0 : Cond.codeWith y bytes maxL (some .int) hh ∈ ab_ws) (hw1 : Cond.methodLink "CheckpointSwapLaw" idx y ∈ ab_ws) (hw2 : Cond.static y ∈ ab_ws) (hw3 : Cond.initialized y.cls ∈ ab_ws) (dg : decode code pc = .ok (.invokestatic idx, 3)) (hna : as.length = na) (hstk : stk = .ref o1 :: (as.reverse ++ .ref (adC 0) :: rest)) (hlsz : ls.size = 8) (hs8 : (rest.map fun v => v.category).sum ≤ 8) (hd : d ≤ 20) (hml : maxL ≤ 20) (hce : cells + mc ≤ 603072) (hsl : slots + ms ≤ 7186538)
    (kk : ∀ (k : Nat) (r : Int32) (Z1 : ab_Z) (I1 A1 : ab_F) (ad1 : Nat → Nat) (v3 : Nat → Int64) (H1 : Heap) (locs1 : List Loc), K k r Z1 I1 A1 → (k = 0 → v3 0 = r.toInt64) → ad1 0 = adC 0 → lw_V D cT cL cD ac s H1 locs1 (ad1, adM, (o1, o2), v3, v2, Z1, (I1, A1), (J, B)) → W p l e room_1 (s.setDrawn d0) m #[Value.ref b] below meth c H1 locs1 (cells + mc) (slots + ms) Q (F0 m (pc + 3) ls (.int (nI k) :: rest))) : W p l e room_1 (s.setDrawn d0) m #[Value.ref b] below meth c H locs cells slots Q (F0 m pc ls stk) := by
  obtain ⟨⟨a1, a2, a3, a4, a5⟩, ⟨b1, b2, b3, b4⟩, ⟨c1, c2, c3, c4, c5, c6⟩, hS⟩ := hV
  have hDw : va_D (fun q => s.heap.size ≤ q) (wO o1 cL v1 :: ab_w cT adC ac I A 0 (shC Z)) := wo_D b3 b1 c2
  have hF := fr_A hDw hS (fun q h => h)
  have hDM : Dj (wO o1 cL v1 :: ab_w cT adC ac I A 0 (shC Z)) (ab_w cT adM ac J B 0 shM) := by
    intro i j p q hi hj
    cases i with
    | zero => cases hi; exact fun e => c4 j 0 _ _ hj rfl e.symm
    | succ i => exact c1 i j p q hi hj
  have hDD : Dj (wO o1 cL v1 :: ab_w cT adC ac I A 0 (shC Z)) [wD o2 cD v2] := by
    intro i j p q hi hj
    cases i with
    | zero =>
      have : j = 0 := by have := (List.getElem?_eq_some_iff.mp hj).1; simp at this; omega
      subst this; cases hi; cases hj; exact c6
    | succ i => exact c3 i j p q hi hj
  have hrun := vx_runSX (cc := code) (nL := 8) (Ts := ab_ws) (As := (Value.ref (adC 0) :: as) ++ [.ref o1]) (rest := rest) (g := F0 m pc ls stk) (H := H) (locs := locs) (cells := cells) (slots := slots) (R := room_1) (e := e) (below := below) (meth := meth) (lw_fix (d0 := d0) C0) hM (vx_cwSW (na + 2) (lw_fix (d0 := d0) C0).2.2.2.2 (ab_gdS hw1 hw2 hw3 hw0) rfl rfl rfl hy ⟨show d + 1 ≤ 2048 by omega, show 8 + (maxL + 11) + 100 * d ≤ 94400 by omega⟩) ⟨(fun a U g mk q => by obtain ⟨q0, q1, qP, qO, qK, qD, qJ, qC, qN⟩ := q; exact ⟨q0, q1, qP, qO, va_K.moved (u := U) (U := U.calling g mk a) (Vm.Alike.refl U.vm) qK, qD, qJ, qC.at (U := U.calling g mk a) (H0 := U.heap) (State.WarmedH.refl U) (fun _ _ _ => rfl) (fun _ h => h), lw_NC.moved (u := U) (U := U.calling g mk a) (Vm.Alike.refl U.vm) qN⟩), (fun U hU hW => ⟨rfl, by rw [hU], by rw [hU]; exact a2, by rw [hU]; exact a4, va_K.moved hW.alike (lw_sub2 C0.2.2.2.2.2.2.1), b1.weaken (fun _ _ _ _ => trivial), c2, by rw [hU]; exact (lw_ck (d0 := d0) C0).at hW (fun a ha hn9 => hS.2.1 a ha hn9) hF, lw_NC.moved hW.alike C0.2.2.2.2.2.2.2.2.2.2.2.2⟩)⟩ rfl (by simp [hna]) hlsz (by rw [hstk]; simp) (lv_room hs8) dg ⟨hce, hsl⟩
  intro T hT X
  rcases hrun T hT X with ⟨v, st₀, t, T', L9, h0, X', hL, e1, e2, ⟨⟨k, r, Z1, I1, A1, ad1, v3, hv, hp, hk0, had, hokh, hPw, hPo, hDw1, hDj1⟩, hFr⟩, stp⟩ | ⟨q, st₀, t, T', L9, E, ce, h0, X', hL, e1, e2, hfal, hce9⟩
  · cases hv
    obtain ⟨k1, k2, k3⟩ := vx_keep h0 e1 hS (fun q _ h => hF q h) hF hL hFr
    obtain ⟨t2, g1, g2⟩ := kk k r Z1 I1 A1 ad1 v3 T'.heap (locs ++ L9) hp hk0 had ⟨⟨hokh, by rw [e1]; exact hPw, fr_keep a3 hDM k2, by rw [e1]; exact hPo, fr_keep a5 hDD k2⟩, ⟨fr_D hF hDw1, b2, b3, b4⟩, ⟨fr_dj a3 hDM hDw1, hDj1, fr_dj a5 hDD hDw1, wo_dj c4, c5, c6⟩, k3⟩ T' rfl X'
    exact ⟨t2, stp t2 g1, g2⟩
  · exact hfal.elim
end
