/-! on a StringBuilder: inherited methods, super.m(..); System.arraycopy of bytes -/
theorem ab_gdU {own C : String} {idx : Nat} {y : MethodName} {c : Cond} (h1 : Cond.methodLink own idx y ∈ ab_ws) (h0 : Cond.sameMethod y.cls y.cls y.name y.desc ∈ ab_ws) (h3 : Cond.selects C y y ∈ ab_ws) (h2 : Cond.instanceMethod y ∈ ab_ws) (h4 : Cond.initialized y.cls ∈ ab_ws) (hc : c ∈ ab_ws) : GoodIn ab_ws (va_wsU own idx C y.cls y y (c :: ab_ws)) := by
  intro w hw
  unfold va_wsU at hw
  rcases List.mem_append.mp hw with e | e
  · simp only [List.mem_cons, List.not_mem_nil, or_false] at e
    rcases e with e | e | e | e | e <;> (rw [e]; first | exact ab_gd h1 | exact ab_gd h0 | exact ab_gd h3 | exact ab_gd h2 | exact ab_gd h4)
  · exact ab_gdW hc w e
theorem ab_gdSU {own : String} {idx : Nat} {y : MethodName} {c : Cond} (h1 : Cond.methodLink own idx y ∈ ab_ws) (h0 : Cond.sameMethod y.cls y.cls y.name y.desc ∈ ab_ws) (h3 : Cond.superclass own y.cls ∈ ab_ws) (h2 : Cond.instanceMethod y ∈ ab_ws) (h4 : Cond.initialized y.cls ∈ ab_ws) (hc : c ∈ ab_ws) : GoodIn ab_ws (va_wsSU own idx y (c :: ab_ws)) := by
  intro w hw
  unfold va_wsSU at hw
  rcases List.mem_append.mp hw with e | e
  · simp only [List.mem_cons, List.not_mem_nil, or_false] at e
    rcases e with e | e | e | e | e <;> (rw [e]; first | exact ab_gd h1 | exact ab_gd h0 | exact ab_gd h3 | exact ab_gd h2 | exact ab_gd h4)
  · exact ab_gdW hc w e
theorem g_callU {M : ab_M} {d : Nat} {C : ab_X} {P : ab_O → Prop} {pc n : Nat} {ls : List (Option Value)} {st : List Value} {sh : List ab_S} {I A : ab_F} {bc bs : Nat} {M' : ab_M} {d' mc' ms' na idx bc' bs' : Nat} {P' : ab_O → Prop} {as stk : List Value} {q ci N : Nat} {Cn : String} {T : u_T} {fs : List (Option Value)} (hq : sh[q]? = some (.inr (.inr (ci, fs)))) (hc : vwCl[ci]? = some (Cn, T, N)) (hM : ab_Cl M' d' mc' ms' (.ref q :: as) sh I A P') (hok : ab_mOK M' na) (hw0 : Cond.sameMethod M'.1.cls M'.1.cls M'.1.name M'.1.desc ∈ ab_ws) (hw1 : Cond.methodLink M.1.cls idx M'.1 ∈ ab_ws) (hw2 : Cond.instanceMethod M'.1 ∈ ab_ws) (hw3 : Cond.selects Cn M'.1 M'.1 ∈ ab_ws) (dg : decode M.2.1 pc = .ok (.invokevirtual idx, 3)) (hna : as.length = na) (hstk : stk = as.reverse ++ .ref q :: st) (hd : d' + 1 ≤ d) (hbc : bc' + mc' ≤ bc) (hbs : bs' + ms' ≤ bs) (hs8 : (st.map fun v => v.category).sum ≤ 8) (hn : pc + 3 = n) (kx : ∀ E sh1 I1 A1, P' (.inr E, sh1, I1, A1) → sh.length ≤ sh1.length → P (.inr E, sh1, I1, A1)) (kk : ∀ r sh1 I1 A1, P' (.inl r, sh1, I1, A1) → sh.length ≤ sh1.length → ab_G M d C P n ls (r.toList ++ st) sh1 I1 A1 bc' bs') : ab_G M d C P pc ls stk sh I A bc bs := by
  obtain ⟨p, l, e, s, m, args, below, meth, c, D, cT, ac, Ar, ad0, n0, mc, ms⟩ := C
  intro hf ad H locs lsA cells slots h1 h2 h3 h4 h5 h6 h7 h8 h9 h10 h11
  subst hn
  subst hstk
  have hF : ∀ q, va_A (ab_w cT ad ac I A 0 sh) H.size q → Ar q := fun q h => by
    rcases h with ⟨k, e9, hk⟩ | hk
    · exact h10.2 k (q, e9) hk
    · exact hf.2.2.2.2.2.2.2.2.2.2.2.2 q (Nat.le_trans h11.1 hk)
  have hst : ab_okV sh.length st := fun v hv => h7 v (List.mem_append_right _ (List.mem_cons_of_mem _ hv))
  have hoka : ab_okV sh.length (.ref q :: as) := ab_oc (h7 _ (List.mem_append_right _ List.mem_cons_self)) (fun v hv => h7 v (List.mem_append_left _ (List.mem_reverse.mpr hv)))
  have hMm := hM l hf.2.2.2.2.2.2.2.2.2.2.1 D cT ac ad H.size h5 hoka
  have hrun := vx_runU (C := Cn) (owner := M'.1.cls) (x := M'.1) (y := M'.1) (b := ad q) (cc := M.2.1) (nL := M.2.2.1) (Ts := ab_ws) (As := as.map (ab_v ad ac)) (rest := st.map (ab_v ad ac)) (g := F0 m pc lsA ((as.reverse ++ .ref q :: st).map (ab_v ad ac))) (H := H) (locs := locs) (cells := cells) (slots := slots) (R := ab_rm d mc ms) (e := e) (below := below) (meth := meth) ⟨hf.1, hf.2.1, hf.2.2.1, hf.2.2.2.2.2.2.1, hf.2.2.2.2.2.2.2.1⟩ hMm (va_cwU na hf.2.2.2.2.2.2.2.1 (ab_gdU hw1 hw0 hw3 hw2 hok.2.2.2 hok.2.2.1) rfl rfl rfl rfl hok.1 ⟨show d' + 1 ≤ d by omega, show 8 + (M'.2.2.1 + 11) + 100 * d' ≤ 100 * d by have := hok.2.1; omega⟩) ⟨(fun a U g mk q => by obtain ⟨q0, q1, qP, qK, qD, qC⟩ := q; exact ⟨q0, q1, qP, va_K.moved (u := U) (U := U.calling g mk a) (Vm.Alike.refl U.vm) qK, qD, qC.at (U := U.calling g mk a) (H0 := U.heap) (State.WarmedH.refl U) (fun _ _ _ => rfl) (fun _ h => h)⟩), va_recv hf.2.2.2.2.2.2.2.2.1 h9 hc (ab_w_at hq), (fun U hU hW => ⟨rfl, by rw [hU], by rw [hU]; exact h9, va_K.moved hW.alike hf.2.2.2.2.2.2.2.2.1, h10.weaken (fun _ _ _ _ => trivial), by rw [hU]; exact hf.2.2.2.2.2.2.2.2.2.1.at hW (fun a ha hn9 => h11.2.1 a ha hn9) hF⟩)⟩ rfl (by rw [List.length_map]; exact hna) h8.1 (by show (as.reverse ++ .ref q :: st).map _ = _; rw [List.map_append, List.map_reverse, List.map_cons]; rfl) (lv_room (ab_catsum hs8)) dg ⟨show cells + mc' ≤ mc by omega, show slots + ms' ≤ ms by omega⟩
  refine ab_run hrun h11 hF ?_ ?_
  · intro E ce q9 sh1 I1 A1 ad1 H1 locs1 hp hlen had hokh g9 g10 g11 c1 c2 c3
    refine vx_out (fun x hx9 => (hf.2.2.2.2.2.2.2.2.2.2.2.1 x hx9).elim) hf.2.2.2.2.1 c1 c2 c3 (fun t ht hA9 => ⟨⟨sh1, I1, A1, ad1, kx E sh1 I1 A1 hp hlen, by omega, fun k hk => (had k (by omega)).trans (h4 k hk), hokh, by rw [ht]; exact g9, g10⟩, g11.F ht⟩) g11.2.2 (by omega) (by omega)
  · intro r sh1 I1 A1 ad1 H1 locs1 hp hlen had hokr hokh g9 g10 g11
    have e2 : st.map (ab_v ad ac) = st.map (ab_v ad1 ac) := List.map_congr_left (fun v hv => (ab_v_eq had (hst v hv)).symm)
    have e3 : (r.map (ab_v ad1 ac)).toList ++ st.map (ab_v ad ac) = (r.toList ++ st).map (ab_v ad1 ac) := by rw [e2, List.map_append]; cases r <;> rfl
    rw [e3]
    refine kk r sh1 I1 A1 hp hlen hf ad1 H1 locs1 lsA (cells + mc') (slots + ms') (by omega) (by omega) (by omega) (fun k hk => (had k (by omega)).trans (h4 k hk)) hokh (fun v hv => (h6 v hv).mono hlen) (fun v hv => ?_) (by rw [ab_p_eq had h6]; exact h8) g9 g10 g11
    rcases List.mem_append.mp hv with q | q
    · cases r with
      | none => cases q
      | some w => rw [Option.toList_some, List.mem_singleton] at q; exact hokr v (by rw [q])
    · exact (hst v q).mono hlen
theorem g_callSU {M : ab_M} {d : Nat} {C : ab_X} {P : ab_O → Prop} {pc n : Nat} {ls : List (Option Value)} {st : List Value} {sh : List ab_S} {I A : ab_F} {bc bs : Nat} {M' : ab_M} {d' mc' ms' na idx bc' bs' : Nat} {P' : ab_O → Prop} {as stk : List Value} {q ci N : Nat} {Cn : String} {T : u_T} {fs : List (Option Value)} (hq : sh[q]? = some (.inr (.inr (ci, fs)))) (hc : vwCl[ci]? = some (Cn, T, N)) (hM : ab_Cl M' d' mc' ms' (.ref q :: as) sh I A P') (hok : ab_mOK M' na) (hw0 : Cond.sameMethod M'.1.cls M'.1.cls M'.1.name M'.1.desc ∈ ab_ws) (hno : M'.1.name ≠ "<init>") (hw1 : Cond.methodLink M.1.cls idx M'.1 ∈ ab_ws) (hw2 : Cond.instanceMethod M'.1 ∈ ab_ws) (hw3 : Cond.superclass M.1.cls M'.1.cls ∈ ab_ws) (dg : decode M.2.1 pc = .ok (.invokespecial idx, 3)) (hna : as.length = na) (hstk : stk = as.reverse ++ .ref q :: st) (hd : d' + 1 ≤ d) (hbc : bc' + mc' ≤ bc) (hbs : bs' + ms' ≤ bs) (hs8 : (st.map fun v => v.category).sum ≤ 8) (hn : pc + 3 = n) (kx : ∀ E sh1 I1 A1, P' (.inr E, sh1, I1, A1) → sh.length ≤ sh1.length → P (.inr E, sh1, I1, A1)) (kk : ∀ r sh1 I1 A1, P' (.inl r, sh1, I1, A1) → sh.length ≤ sh1.length → ab_G M d C P n ls (r.toList ++ st) sh1 I1 A1 bc' bs') : ab_G M d C P pc ls stk sh I A bc bs := by
  obtain ⟨p, l, e, s, m, args, below, meth, c, D, cT, ac, Ar, ad0, n0, mc, ms⟩ := C
  intro hf ad H locs lsA cells slots h1 h2 h3 h4 h5 h6 h7 h8 h9 h10 h11
  subst hn
  subst hstk
  have hF : ∀ q, va_A (ab_w cT ad ac I A 0 sh) H.size q → Ar q := fun q h => by
    rcases h with ⟨k, e9, hk⟩ | hk
    · exact h10.2 k (q, e9) hk
    · exact hf.2.2.2.2.2.2.2.2.2.2.2.2 q (Nat.le_trans h11.1 hk)
  have hst : ab_okV sh.length st := fun v hv => h7 v (List.mem_append_right _ (List.mem_cons_of_mem _ hv))
  have hoka : ab_okV sh.length (.ref q :: as) := ab_oc (h7 _ (List.mem_append_right _ List.mem_cons_self)) (fun v hv => h7 v (List.mem_append_left _ (List.mem_reverse.mpr hv)))
  have hMm := hM l hf.2.2.2.2.2.2.2.2.2.2.1 D cT ac ad H.size h5 hoka
  have hrun := vx_runSU (hf.2.2.2.2.2.2.2.2.1.1 ci _ hc).2 (b := ad q) (cc := M.2.1) (nL := M.2.2.1) (Ts := ab_ws) (As := as.map (ab_v ad ac)) (rest := st.map (ab_v ad ac)) (g := F0 m pc lsA ((as.reverse ++ .ref q :: st).map (ab_v ad ac))) (H := H) (locs := locs) (cells := cells) (slots := slots) (R := ab_rm d mc ms) (e := e) (below := below) (meth := meth) ⟨hf.1, hf.2.1, hf.2.2.1, hf.2.2.2.2.2.2.1, hf.2.2.2.2.2.2.2.1⟩ hMm (va_cwSU na hf.2.2.2.2.2.2.2.1 (ab_gdSU hw1 hw0 hw3 hw2 hok.2.2.2 hok.2.2.1) rfl rfl rfl ⟨hno, hok.1.2.2⟩ ⟨show d' + 1 ≤ d by omega, show 8 + (M'.2.2.1 + 11) + 100 * d' ≤ 100 * d by have := hok.2.1; omega⟩) ⟨(fun a U g mk q => by obtain ⟨q0, q1, qP, qK, qD, qC⟩ := q; exact ⟨q0, q1, qP, va_K.moved (u := U) (U := U.calling g mk a) (Vm.Alike.refl U.vm) qK, qD, qC.at (U := U.calling g mk a) (H0 := U.heap) (State.WarmedH.refl U) (fun _ _ _ => rfl) (fun _ h => h)⟩), va_recv hf.2.2.2.2.2.2.2.2.1 h9 hc (ab_w_at hq), (fun U hU hW => ⟨rfl, by rw [hU], by rw [hU]; exact h9, va_K.moved hW.alike hf.2.2.2.2.2.2.2.2.1, h10.weaken (fun _ _ _ _ => trivial), by rw [hU]; exact hf.2.2.2.2.2.2.2.2.2.1.at hW (fun a ha hn9 => h11.2.1 a ha hn9) hF⟩)⟩ rfl (by rw [List.length_map]; exact hna) h8.1 (by show (as.reverse ++ .ref q :: st).map _ = _; rw [List.map_append, List.map_reverse, List.map_cons]; rfl) (lv_room (ab_catsum hs8)) dg ⟨show cells + mc' ≤ mc by omega, show slots + ms' ≤ ms by omega⟩
  refine ab_run hrun h11 hF ?_ ?_
  · intro E ce q9 sh1 I1 A1 ad1 H1 locs1 hp hlen had hokh g9 g10 g11 c1 c2 c3
    refine vx_out (fun x hx9 => (hf.2.2.2.2.2.2.2.2.2.2.2.1 x hx9).elim) hf.2.2.2.2.1 c1 c2 c3 (fun t ht hA9 => ⟨⟨sh1, I1, A1, ad1, kx E sh1 I1 A1 hp hlen, by omega, fun k hk => (had k (by omega)).trans (h4 k hk), hokh, by rw [ht]; exact g9, g10⟩, g11.F ht⟩) g11.2.2 (by omega) (by omega)
  · intro r sh1 I1 A1 ad1 H1 locs1 hp hlen had hokr hokh g9 g10 g11
    have e2 : st.map (ab_v ad ac) = st.map (ab_v ad1 ac) := List.map_congr_left (fun v hv => (ab_v_eq had (hst v hv)).symm)
    have e3 : (r.map (ab_v ad1 ac)).toList ++ st.map (ab_v ad ac) = (r.toList ++ st).map (ab_v ad1 ac) := by rw [e2, List.map_append]; cases r <;> rfl
    rw [e3]
    refine kk r sh1 I1 A1 hp hlen hf ad1 H1 locs1 lsA (cells + mc') (slots + ms') (by omega) (by omega) (by omega) (fun k hk => (had k (by omega)).trans (h4 k hk)) hokh (fun v hv => (h6 v hv).mono hlen) (fun v hv => ?_) (by rw [ab_p_eq had h6]; exact h8) g9 g10 g11
    rcases List.mem_append.mp hv with q | q
    · cases r with
      | none => cases q
      | some w => rw [Option.toList_some, List.mem_singleton] at q; exact hokr v (by rw [q])
    · exact (hst v q).mono hlen
theorem g_copyB {M : ab_M} {d : Nat} {C : ab_X} {P : ab_O → Prop} {pc n : Nat} {ls : List (Option Value)} {st : List Value} {sh : List ab_S} {I A : ab_F} {bc bs : Nat} {x y N0 N1 L dp idx : Nat} (hw1 : Cond.methodLink M.1.cls idx arraycopyName ∈ ab_ws) (hw2 : Cond.native arraycopyName ∈ ab_ws) (hw3 : Cond.static arraycopyName ∈ ab_ws) (hw4 : Cond.initialized "java/lang/System" ∈ ab_ws) (dg : decode M.2.1 pc = .ok (.invokestatic idx, 3)) (hy : sh[y]? = some (.inl (.byte, N0))) (hx : sh[x]? = some (.inl (.byte, N1))) (h0 : L ≤ N0) (h1 : dp + L ≤ N1) (hL : N1 < 65536) (hft : ∀ j, j < L → fits .byte (.int (A y j)) = true) (hd : 1 ≤ d) (hs8 : (st.map fun v => v.category).sum ≤ 8) (hn : pc + 3 = n) (kk : ab_G M d C P n ls st sh I (wrow A x (va_cpy (A y) (A x) 0 dp L)) bc bs) : ab_G M d C P pc ls (.int (nI L) :: .int (nI dp) :: .ref x :: .int (nI 0) :: .ref y :: st) sh I A bc bs := by
  obtain ⟨p, l, e, s, m, args, below, meth, c, D, cT, ac, Ar, ad0, n0, mc, ms⟩ := C
  intro hf ad H locs lsA cells slots h1' h2 h3 h4 h5 h6 h7 h8 h9 h10 h11
  subst hn
  have eL : (nI L).toNatClampNeg = L := nI_clamp (by omega)
  have e0 : (nI 0).toNatClampNeg = 0 := nI_clamp (by omega)
  have e1 : (nI dp).toNatClampNeg = dp := nI_clamp (by omega)
  refine va_copyi hf.1 hf.2.1 (by rw [hf.2.2.1]; exact h8.1.symm) hf.2.2.2.2.2.2.1 (hf.2.2.2.2.2.2.2.1 _ hw1) (hf.2.2.2.2.2.2.2.1 _ hw2) (hf.2.2.2.2.2.2.2.1 _ hw3) (hf.2.2.2.2.2.2.2.1 _ hw4) hf.2.2.2.2.2.2.2.2.1 h9 h10 h11 y x 1 1 (ab_w_at hy) (ab_w_at hx) rfl rfl rfl (nI_pos (by omega)) (nI_pos (by omega)) (nI_pos (by omega)) (by rw [eL, e0]; omega) (by rw [eL, e1]; omega) (fun i hi => by rw [e0, Nat.zero_add]; exact hft i (by rw [eL] at hi; exact hi)) hd ?_ dg (fun H1 locs1 g9 g10 g11 => ?_)
  · have hN : nativeFrameWords "java/lang/System" "arraycopy" 5 + 11 ≤ 92 := by decide +kernel
    have hc : ((st.map (ab_v ad ac)).map fun v => v.category).sum ≤ 8 := by
      rw [List.map_map, show ((fun v : Value => v.category) ∘ ab_v ad ac) = (fun v => v.category) from funext (fun v => ab_cat ad ac v)]
      exact hs8
    show _ ≤ 100 * d
    omega
  · rw [eL, e0, e1] at g9 g10
    have e9 : (ab_w cT ad ac I A 0 sh).set x (ad x, .inl (cT .byte, N1, .inl (va_cpy (A y) (A x) 0 dp L))) = ab_w cT ad ac I (wrow A x (va_cpy (A y) (A x) 0 dp L)) 0 sh := by
      refine Eq.trans (congrArg (fun z => List.set (ab_w cT ad ac I A 0 sh) x (ad x, z)) (show _ = ab_e cT ad ac (I x) (wrow A x (va_cpy (A y) (A x) 0 dp L) x) (.inl (.byte, N1)) by rw [wrow_at]; rfl)) ?_
      exact ab_w_set (A' := wrow A x (va_cpy (A y) (A x) 0 dp L)) hx hx (fun _ _ => rfl) (fun _ _ => rfl) (fun j hj => wrow_ne hj)
    rw [e9] at g9 g10
    exact kk hf ad H1 locs1 lsA cells slots h1' h2 h3 h4 h5 h6 (ab_ot (ab_ot (ab_ot (ab_ot (ab_ot h7))))) h8 g9 g10 g11
/-- follows va_copyx of the kit, from an array of the tables -/
theorem t_copyT {p : Program} {l : Launch} {e : Env} {R : Room} {s : State} {m : MethodId} {args : Array Value} {below : List Frame} {meth : Method} {c : Code} {H : Heap} {locs : List Loc} {cells slots : Nat} {Q : State → Prop} {pc : Nat} {ls : Array Slot} {rest : List Value} {D : va_G} {cl : List vw_C} {A : Nat → Prop} {a : Nat} {tys : List (ClassId × FieldType)} {ws : va_W} {cc : ByteArray} (hexec : p.tables.exec = Jvm.exec) (hb : c.code = cc) (hml : c.maxLocals = ls.size) {own : String} {index : Nat} (hown : s.vm.findClass own = some m.cls) (hlink : (Cond.methodLink own index arraycopyName).before args s = true) (hnat : (Cond.native arraycopyName).before args s = true) (hstat : (Cond.static arraycopyName).before args s = true) (hini : (Cond.initialized "java/lang/System").before args s = true)
    (hK : va_K D cl tys s) (hP : va_P D cl ws H) (hD : va_D A ws) (hS : va_S A s.heap H locs) {b0 n0 : Nat} {f : Nat → Int32} (hX : va_T .byte b0 n0 (fun j => .int (f j)) A s s.heap) (hfit : ∀ i, i < n0 → fits .byte (.int (f i)) = true) (q1 t1 : Nat) {c1 : ClassId} {n1 : Nat} {g : Nat → Int32} (ha1 : ws[q1]? = some (a, .inl (c1, n1, .inl g))) (ht1 : tys[t1]? = some (c1, .byte))
    {sp dp n : Int32} (h1 : ¬ sp < 0) (h2 : ¬ dp < 0) (h3 : ¬ n < 0) (h4 : sp.toNatClampNeg + n.toNatClampNeg ≤ n0) (h5 : dp.toNatClampNeg + n.toNatClampNeg ≤ n1)
    (hframes : 1 ≤ R.frames) (hlocals : (rest.map fun v => v.category).sum + (nativeFrameWords "java/lang/System" "arraycopy" 5 + 11) ≤ R.locals) (hdg : decode cc pc = .ok (.invokestatic index, 3))
    (kk : ∀ (H1 : Heap) (locs1 : List Loc), va_P D cl (ws.set q1 (a, .inl (c1, n1, .inl (va_cpy f g sp.toNatClampNeg dp.toNatClampNeg n.toNatClampNeg)))) H1 → va_D A (ws.set q1 (a, .inl (c1, n1, .inl (va_cpy f g sp.toNatClampNeg dp.toNatClampNeg n.toNatClampNeg)))) → va_S A s.heap H1 locs1 → W p l e R s m args below meth c H1 locs1 cells slots Q (F0 m (pc + 3) ls rest)) : W p l e R s m args below meth c H locs cells slots Q (F0 m pc ls (.int n :: .int dp :: .ref a :: .int sp :: .ref b0 :: rest)) := by
  have nn : ∀ z : Int32, ¬ z < 0 → z.toInt = (z.toNatClampNeg : Int) := by
    intro z hz
    have hz0 : (0 : Int) ≤ z.toInt := by
      have := Int32.not_lt.mp hz
      simpa using Int32.le_iff_toInt_le.mp this
    show z.toInt = ((z.toInt.toNat : Nat) : Int)
    omega
  intro T hT X
  obtain ⟨scr, hs1, hs2, hs3, hs4, -, hs5, hbA⟩ := hX
  have hbl : b0 < s.heap.size := (Array.getElem?_eq_some_iff.mp hs1).1
  have hc0 : H[b0]? = some scr := by rw [hS.2.1 b0 hbl hbA]; exact hs1
  have hc1 : H[a]? = some (vp_cell c1 (n1, .inl g)) := hP q1 _ ha1
  obtain ⟨hs6, k0, hk0, cm0, hkk0⟩ := hs2
  obtain ⟨-, k1, hk1, cm1, hkk1⟩ := (hK.2 t1 _ ht1).1 n1 (fun j => .int (g j))
  obtain ⟨vm', X', step⟩ := X.arraycopy hexec hown hlink hnat hstat hini (src := b0) (dst := a) (cs := scr) (cd := vp_cell c1 (n1, .inl g)) (srcPos := sp) (destPos := dp) (n := n) (by rw [hT]; exact hc0) (by rw [hT]; exact hc1)
    hs6 (fun _ h => by cases h) hs3 (fun h => by cases h) hk0 hk1 hkk0 hkk1 (by simp [refKind]) h1 h2 h3
    (by rw [nn sp h1, nn n h3]; omega)
    (by rw [nn dp h2, nn n h3]; show ¬ _ > ((arrV c1 n1 (fun j => .int (g j))).slots.size : Int); rw [arrV_size]; omega)
    (fun vm₁ _ i hi => by
      have e : scr.slots.getD (sp.toNatClampNeg + i) .null = .int (f (sp.toNatClampNeg + i)) := by
        rw [Array.getD_eq_getD_getElem?, hs5 _ (by omega)]
        rfl
      refine ⟨?_, ?_⟩
      · rw [e]
        exact hfit _ (by omega)
      · rw [e]
        exact trivial)
    (g := F0 m pc ls (.int n :: .int dp :: .ref a :: .int sp :: .ref b0 :: rest)) rfl (by rw [hml]) (rest := rest) rfl (by rw [hb]; exact hdg) hframes (by show 2 * 0 + _ + _ ≤ _; omega)
  have e1 : copied scr (vp_cell c1 (n1, .inl g)) sp dp n = vp_cell c1 (n1, .inl (va_cpy f g sp.toNatClampNeg dp.toNatClampNeg n.toNatClampNeg)) := va_copiedX (fun z => .int z) scr c1 f g hs5 h4
  rw [e1] at X' step
  have hl : a < H.size := (Array.getElem?_eq_some_iff.mp hc1).1
  have hheap : ((T.setVm vm').setCell a (vp_cell c1 (n1, .inl (va_cpy f g sp.toNatClampNeg dp.toNatClampNeg n.toNatClampNeg)))).heap = H.setIfInBounds a (vp_cell c1 (n1, .inl (va_cpy f g sp.toNatClampNeg dp.toNatClampNeg n.toNatClampNeg))) := by rw [← hT]; rfl
  have oq : ∀ q : Nat, q ≠ a → (H.setIfInBounds a (vp_cell c1 (n1, .inl (va_cpy f g sp.toNatClampNeg dp.toNatClampNeg n.toNatClampNeg))))[q]? = H[q]? := fun q hq => by simp [Array.getElem?_setIfInBounds, Ne.symm hq]
  obtain ⟨t, a1, b1⟩ := kk _ _ (hP.set hD ha1 (show (H.setIfInBounds a _)[a]? = some _ by simp [Array.getElem?_setIfInBounds, hl]) oq) (hD.set ha1) ⟨by simp; exact hS.1, fun q g1 g2 => by
      rw [oq q (fun e => g2 (by rw [e]; exact hD.2 q1 _ ha1))]
      exact hS.2.1 q g1 g2, fun q hq => by
      rcases List.mem_append.mp hq with h | h
      · exact hS.2.2 q h
      · obtain ⟨z, -, hz⟩ := List.mem_map.mp h
        rw [← hz]
        exact hD.2 q1 _ ha1⟩ _ hheap X'
  exact ⟨t, step t a1, b1⟩
theorem g_copyK {M : ab_M} {d : Nat} {C : ab_X} {P : ab_O → Prop} {pc n : Nat} {ls : List (Option Value)} {st : List Value} {sh : List ab_S} {I A : ab_F} {bc bs : Nat} {x i N1 L dp idx : Nat} {sq : String × Nat × String × List Int32} (hs : ab_str[i]? = some sq) (hw1 : Cond.methodLink M.1.cls idx arraycopyName ∈ ab_ws) (hw2 : Cond.native arraycopyName ∈ ab_ws) (hw3 : Cond.static arraycopyName ∈ ab_ws) (hw4 : Cond.initialized "java/lang/System" ∈ ab_ws) (dg : decode M.2.1 pc = .ok (.invokestatic idx, 3)) (hx : sh[x]? = some (.inl (.byte, N1))) (h0 : L ≤ sq.2.2.2.length) (h1 : dp + L ≤ N1) (hL : N1 < 65536) (hft : ∀ j, j < sq.2.2.2.length → fits .byte (.int (sq.2.2.2.getD j 0)) = true) (hd : 1 ≤ d) (hs8 : (st.map fun v => v.category).sum ≤ 8) (hn : pc + 3 = n) (kk : ab_G M d C P n ls st sh I (wrow A x (va_cpy (fun j => sq.2.2.2.getD j 0) (A x) 0 dp L)) bc bs) : ab_G M d C P pc ls (.int (nI L) :: .int (nI dp) :: .ref x :: .int (nI 0) :: .retAddr (2 * i + 1) :: st) sh I A bc bs := by
  obtain ⟨p, l, e, s, m, args, below, meth, c, D, cT, ac, Ar, ad0, n0, mc, ms⟩ := C
  intro hf ad H locs lsA cells slots h1' h2 h3 h4 h5 h6 h7 h8 h9 h10 h11
  subst hn
  have eL : (nI L).toNatClampNeg = L := nI_clamp (by omega)
  have e0 : (nI 0).toNatClampNeg = 0 := nI_clamp (by omega)
  have e1 : (nI dp).toNatClampNeg = dp := nI_clamp (by omega)
  refine t_copyT (f := fun j => sq.2.2.2.getD j 0) hf.1 hf.2.1 (by rw [hf.2.2.1]; exact h8.1.symm) hf.2.2.2.2.2.2.1 (hf.2.2.2.2.2.2.2.1 _ hw1) (hf.2.2.2.2.2.2.2.1 _ hw2) (hf.2.2.2.2.2.2.2.1 _ hw3) (hf.2.2.2.2.2.2.2.1 _ hw4) hf.2.2.2.2.2.2.2.2.1 h9 h10 h11 (hf.2.2.2.2.2.2.2.2.2.1.1 i sq hs).2.2.2.2 hft x 1 (ab_w_at hx) rfl (nI_pos (by omega)) (nI_pos (by omega)) (nI_pos (by omega)) (by rw [eL, e0]; omega) (by rw [eL, e1]; omega) hd ?_ dg (fun H1 locs1 g9 g10 g11 => ?_)
  · have hN : nativeFrameWords "java/lang/System" "arraycopy" 5 + 11 ≤ 92 := by decide +kernel
    have hc : ((st.map (ab_v ad ac)).map fun v => v.category).sum ≤ 8 := by
      rw [List.map_map, show ((fun v : Value => v.category) ∘ ab_v ad ac) = (fun v => v.category) from funext (fun v => ab_cat ad ac v)]
      exact hs8
    show _ ≤ 100 * d
    omega
  · rw [eL, e0, e1] at g9 g10
    have e9 : (ab_w cT ad ac I A 0 sh).set x (ad x, .inl (cT .byte, N1, .inl (va_cpy (fun j => sq.2.2.2.getD j 0) (A x) 0 dp L))) = ab_w cT ad ac I (wrow A x (va_cpy (fun j => sq.2.2.2.getD j 0) (A x) 0 dp L)) 0 sh := by
      refine Eq.trans (congrArg (fun z => List.set (ab_w cT ad ac I A 0 sh) x (ad x, z)) (show _ = ab_e cT ad ac (I x) (wrow A x (va_cpy (fun j => sq.2.2.2.getD j 0) (A x) 0 dp L) x) (.inl (.byte, N1)) by rw [wrow_at]; rfl)) ?_
      exact ab_w_set (A' := wrow A x (va_cpy (fun j => sq.2.2.2.getD j 0) (A x) 0 dp L)) hx hx (fun _ _ => rfl) (fun _ _ => rfl) (fun j hj => wrow_ne hj)
    rw [e9] at g9 g10
    exact kk hf ad H1 locs1 lsA cells slots h1' h2 h3 h4 h5 h6 (ab_ot (ab_ot (ab_ot (ab_ot (ab_ot h7))))) h8 g9 g10 g11
