/-- what a call needs of the callee, once for each method -/
def ab_mOK (M : ab_M) (na : Nat) : Prop := (M.1.cls ≠ "java/lang/invoke/MethodHandle" ∧ M.1.cls ≠ "java/lang/invoke/VarHandle" ∧ (parseMethodDescriptor M.1.desc).map (fun d => d.parameters.length) = some na) ∧ M.2.2.1 ≤ 81 ∧ Cond.code M.1 M.2.1 M.2.2.1 M.2.2.2 ∈ ab_ws ∧ Cond.initialized M.1.cls ∈ ab_ws
theorem ab_run {p : Program} {l : Launch} {e : Env} {R : Room} {s : State} {m : MethodId} {args : Array Value} {below : List Frame} {meth : Method} {c : Code} {H : Heap} {locs : List Loc} {cells slots mc' ms' pc n : Nat} {lsA : Array Slot} {st0 rest : List Value} {D : va_G} {cT : FieldType → ClassId} {ac ad : Nat → Nat} {Ar : Nat → Prop} {P' : ab_O → Prop} {a : Array Value} {w : va_W} {Q : State → Prop}
    (hr : vx_Run p l e R s m args below meth c H locs cells slots mc' ms' (F0 m pc lsA st0) rest (ab_Qc D cT ac (va_A w H.size) ad n P' a) (ab_XC D cT ac (va_A w H.size) ad n P') (va_A w H.size)) (hS : va_S Ar s.heap H locs) (hF : ∀ q, va_A w H.size q → Ar q)
    (kx : ∀ (E : String) (ce : Cell) (q9 : Addr) (sh : List ab_S) (I A : ab_F) (ad' : Nat → Nat) (H1 : Heap) (locs1 : List Loc), P' (.inr E, sh, I, A) → n ≤ sh.length → (∀ k, k < n → ad' k = ad k) → ab_okH sh → va_P D vwCl (ab_w cT ad' ac I A 0 sh) H1 → va_D Ar (ab_w cT ad' ac I A 0 sh) → va_S Ar s.heap H1 locs1 → H1[q9]? = some ce → ce.vm = .none → s.vm.findClass E = some ce.cls → vx_W p l e R s m args below meth c H1 locs1 (cells + mc') (slots + ms') Q (F0 m pc lsA rest) q9)
    (kk : ∀ (r : Option Value) (sh : List ab_S) (I A : ab_F) (ad' : Nat → Nat) (H1 : Heap) (locs1 : List Loc), P' (.inl r, sh, I, A) → n ≤ sh.length → (∀ k, k < n → ad' k = ad k) → (∀ v, r = some v → ab_ok sh.length v) → ab_okH sh → va_P D vwCl (ab_w cT ad' ac I A 0 sh) H1 → va_D Ar (ab_w cT ad' ac I A 0 sh) → va_S Ar s.heap H1 locs1 → W p l e R s m args below meth c H1 locs1 (cells + mc') (slots + ms') Q (F0 m (pc + 3) lsA ((r.map (ab_v ad' ac)).toList ++ rest))) :
    W p l e R s m args below meth c H locs cells slots Q (F0 m pc lsA st0) := by
  intro T hT X
  rcases hr T hT X with ⟨v, st₀, t, T', L, h0, X', hL, e1, e2, ⟨⟨r, sh, I, A, ad', hv, hp, hlen, had, hokr, hokh, hPw, hDw⟩, hFr⟩, stp⟩ | ⟨q, st₀, t, T', L, E, ce, h0, X', hL, e1, e2, ⟨⟨sh, I, A, ad', hp, hlen, had, hokh, hPw, hDw⟩, hFr⟩, hce, hcv, hcl, stp⟩
  · cases hv
    obtain ⟨k1, k2, k3⟩ := vx_keep h0 e1 hS (fun q _ h => hF q h) hF hL hFr
    obtain ⟨t2, a1, b1⟩ := kk r sh I A ad' T'.heap (locs ++ L) hp hlen had hokr hokh (by rw [e1]; exact hPw) (hDw.weaken (fun k q _ h => hF q.1 h)) k3 T' rfl X'
    exact ⟨t2, stp t2 a1, b1⟩
  · obtain ⟨k1, k2, k3⟩ := vx_keep h0 e1 hS (fun q _ h => hF q h) hF hL hFr
    obtain ⟨t2, a1, b1⟩ := kx E ce q sh I A ad' T'.heap (locs ++ L) hp hlen had hokh (by rw [e1]; exact hPw) (hDw.weaken (fun k q _ h => hF q.1 h)) k3 (by rw [e1]; exact hce) hcv hcl T' rfl X'
    exact ⟨t2, Steps.trans stp a1, b1⟩
theorem ab_catsum {ad ac : Nat → Nat} {st : List Value} (hs : (st.map fun v => v.category).sum ≤ 8) : ((st.map (ab_v ad ac)).map fun v => v.category).sum ≤ 8 := by
  rw [List.map_map, show ((fun v : Value => v.category) ∘ ab_v ad ac) = fun v => v.category from funext (fun v => ab_cat ad ac v)]; exact hs
theorem g_callS {M : ab_M} {d : Nat} {C : ab_X} {P : ab_O → Prop} {pc n : Nat} {ls : List (Option Value)} {st : List Value} {sh : List ab_S} {I A : ab_F} {bc bs : Nat} {M' : ab_M} {d' mc' ms' na idx bc' bs' : Nat} {P' : ab_O → Prop} {as stk : List Value} (hM : ab_Cl M' d' mc' ms' as sh I A P') (hok : ab_mOK M' na) (hw1 : Cond.methodLink M.1.cls idx M'.1 ∈ ab_ws) (hw2 : Cond.static M'.1 ∈ ab_ws) (dg : decode M.2.1 pc = .ok (.invokestatic idx, 3)) (hna : as.length = na) (hstk : stk = as.reverse ++ st) (hd : d' + 1 ≤ d) (hbc : bc' + mc' ≤ bc) (hbs : bs' + ms' ≤ bs) (hs8 : (st.map fun v => v.category).sum ≤ 8) (hn : pc + 3 = n) (kx : ∀ E sh1 I1 A1, P' (.inr E, sh1, I1, A1) → sh.length ≤ sh1.length → P (.inr E, sh1, I1, A1)) (kk : ∀ r sh1 I1 A1, P' (.inl r, sh1, I1, A1) → sh.length ≤ sh1.length → ab_G M d C P n ls (r.toList ++ st) sh1 I1 A1 bc' bs') : ab_G M d C P pc ls stk sh I A bc bs := by
  obtain ⟨p, l, e, s, m, args, below, meth, c, D, cT, ac, Ar, ad0, n0, mc, ms⟩ := C
  intro hf ad H locs lsA cells slots h1 h2 h3 h4 h5 h6 h7 h8 h9 h10 h11
  subst hn
  subst hstk
  have hF : ∀ q, va_A (ab_w cT ad ac I A 0 sh) H.size q → Ar q := fun q h => by
    rcases h with ⟨k, e9, hk⟩ | hk
    · exact h10.2 k (q, e9) hk
    · exact hf.2.2.2.2.2.2.2.2.2.2.2.2 q (Nat.le_trans h11.1 hk)
  have hst : ab_okV sh.length st := fun v hv => h7 v (List.mem_append_right _ hv)
  have hoka : ab_okV sh.length as := fun v hv => h7 v (List.mem_append_left _ (List.mem_reverse.mpr hv))
  have hMm := hM l hf.2.2.2.2.2.2.2.2.2.2.1 D cT ac ad H.size h5 hoka
  have hrun := vx_runS (cc := M.2.1) (nL := M.2.2.1) (Ts := ab_ws) (As := as.map (ab_v ad ac)) (rest := st.map (ab_v ad ac)) (g := F0 m pc lsA ((as.reverse ++ st).map (ab_v ad ac))) (H := H) (locs := locs) (cells := cells) (slots := slots) (R := ab_rm d mc ms) (e := e) (below := below) (meth := meth) ⟨hf.1, hf.2.1, hf.2.2.1, hf.2.2.2.2.2.2.1, hf.2.2.2.2.2.2.2.1⟩ hMm (va_cwS na hf.2.2.2.2.2.2.2.1 (ab_gdS hw1 hw2 hok.2.2.2 hok.2.2.1) rfl rfl rfl hok.1 ⟨show d' + 1 ≤ d by omega, show 8 + (M'.2.2.1 + 11) + 100 * d' ≤ 100 * d by have := hok.2.1; omega⟩) ⟨(fun a U g mk q => by obtain ⟨q0, q1, qP, qK, qD, qC⟩ := q; exact ⟨q0, q1, qP, va_K.moved (u := U) (U := U.calling g mk a) (Vm.Alike.refl U.vm) qK, qD, qC.at (U := U.calling g mk a) (H0 := U.heap) (State.WarmedH.refl U) (fun _ _ _ => rfl) (fun _ h => h)⟩), (fun U hU hW => ⟨rfl, by rw [hU], by rw [hU]; exact h9, va_K.moved hW.alike hf.2.2.2.2.2.2.2.2.1, h10.weaken (fun _ _ _ _ => trivial), by rw [hU]; exact hf.2.2.2.2.2.2.2.2.2.1.at hW (fun a ha hn9 => h11.2.1 a ha hn9) hF⟩)⟩ rfl (by rw [List.length_map]; exact hna) h8.1 (by show (as.reverse ++ st).map _ = _; rw [List.map_append, List.map_reverse]) (lv_room (ab_catsum hs8)) dg ⟨show cells + mc' ≤ mc by omega, show slots + ms' ≤ ms by omega⟩
  refine ab_run hrun h11 hF ?_ ?_
  · intro E ce q9 sh1 I1 A1 ad1 H1 locs1 hp hlen had hokh g9 g10 g11 c1 c2 c3
    refine vx_out (fun x hx9 => (hf.2.2.2.2.2.2.2.2.2.2.2.1 x hx9).elim) hf.2.2.2.2.1 c1 c2 c3 (fun t ht hA9 => ⟨⟨sh1, I1, A1, ad1, kx E sh1 I1 A1 hp hlen, by omega, fun k hk => (had k (by omega)).trans (h4 k hk), hokh, by rw [ht]; exact g9, g10⟩, g11.F ht⟩) g11.2.2 (by omega) (by omega)
  · intro r sh1 I1 A1 ad1 H1 locs1 hp hlen had hokr hokh g9 g10 g11
    have e2 : st.map (ab_v ad ac) = st.map (ab_v ad1 ac) := List.map_congr_left (fun v hv => (ab_v_eq had (hst v hv)).symm)
    have e3 : (r.map (ab_v ad1 ac)).toList ++ st.map (ab_v ad ac) = (r.toList ++ st).map (ab_v ad1 ac) := by rw [e2, List.map_append]; cases r <;> rfl
    rw [e3]
    refine kk r sh1 I1 A1 hp hlen hf ad1 H1 locs1 lsA (cells + mc') (slots + ms') (by omega) (by omega) (by omega) (fun k hk => (had k (by omega)).trans (h4 k hk)) hokh (fun v hv => (h6 v hv).mono hlen) (fun v hv => ?_) (by rw [ab_p_eq had h6]; exact h8) g9 g10 g11
    rcases List.mem_append.mp hv with q | q
    · cases r with
      | none => cases q
      | some w => rw [Option.toList_some, List.mem_singleton] at q; exact hokr v (by rw [q])
    · exact (hst v q).mono hlen
theorem g_callSN {M : ab_M} {d : Nat} {C : ab_X} {P : ab_O → Prop} {pc n : Nat} {ls : List (Option Value)} {st : List Value} {sh : List ab_S} {I A : ab_F} {bc bs : Nat} {M' : ab_M} {d' mc' ms' na idx bc' bs' : Nat} {P' : ab_O → Prop} {as stk : List Value} (hM : ab_Cl M' d' mc' ms' as sh I A P') (hok : ab_mOK M' na) {host : String} (hw1 : Cond.methodLinkNest M.1.cls idx M'.1 host ∈ ab_ng) (hw2 : Cond.static M'.1 ∈ ab_ws) (dg : decode M.2.1 pc = .ok (.invokestatic idx, 3)) (hna : as.length = na) (hstk : stk = as.reverse ++ st) (hd : d' + 1 ≤ d) (hbc : bc' + mc' ≤ bc) (hbs : bs' + ms' ≤ bs) (hs8 : (st.map fun v => v.category).sum ≤ 8) (hn : pc + 3 = n) (kx : ∀ E sh1 I1 A1, P' (.inr E, sh1, I1, A1) → sh.length ≤ sh1.length → P (.inr E, sh1, I1, A1)) (kk : ∀ r sh1 I1 A1, P' (.inl r, sh1, I1, A1) → sh.length ≤ sh1.length → ab_G M d C P n ls (r.toList ++ st) sh1 I1 A1 bc' bs') : ab_G M d C P pc ls stk sh I A bc bs := by
  obtain ⟨p, l, e, s, m, args, below, meth, c, D, cT, ac, Ar, ad0, n0, mc, ms⟩ := C
  intro hf ad H locs lsA cells slots h1 h2 h3 h4 h5 h6 h7 h8 h9 h10 h11
  subst hn
  subst hstk
  have hF : ∀ q, va_A (ab_w cT ad ac I A 0 sh) H.size q → Ar q := fun q h => by
    rcases h with ⟨k, e9, hk⟩ | hk
    · exact h10.2 k (q, e9) hk
    · exact hf.2.2.2.2.2.2.2.2.2.2.2.2 q (Nat.le_trans h11.1 hk)
  have hst : ab_okV sh.length st := fun v hv => h7 v (List.mem_append_right _ hv)
  have hoka : ab_okV sh.length as := fun v hv => h7 v (List.mem_append_left _ (List.mem_reverse.mpr hv))
  have hMm := hM l hf.2.2.2.2.2.2.2.2.2.2.1 D cT ac ad H.size h5 hoka
  have hrun := vx_runSN (cc := M.2.1) (nL := M.2.2.1) (Ts := ab_ws) (As := as.map (ab_v ad ac)) (rest := st.map (ab_v ad ac)) (g := F0 m pc lsA ((as.reverse ++ st).map (ab_v ad ac))) (H := H) (locs := locs) (cells := cells) (slots := slots) (R := ab_rm d mc ms) (e := e) (below := below) (meth := meth) ⟨hf.1, hf.2.1, hf.2.2.1, hf.2.2.2.2.2.2.1, hf.2.2.2.2.2.2.2.1⟩ hMm (⟨va_cnB na hf.2.2.2.2.2.2.2.1 (ab_gdW hok.2.2.1) rfl rfl rfl (hf.2.2.2.2.2.2.2.2.2.1.2.2.2.2.1 _ hw1) (hf.2.2.2.2.2.2.2.1 _ hok.2.2.2) hok.1 ⟨show d' + 1 ≤ d by omega, show 8 + (M'.2.2.1 + 11) + 100 * d' ≤ 100 * d by have := hok.2.1; omega⟩, hf.2.2.2.2.2.2.2.1 _ hw2, trivial⟩) ⟨(fun a U g mk q => by obtain ⟨q0, q1, qP, qK, qD, qC⟩ := q; exact ⟨q0, q1, qP, va_K.moved (u := U) (U := U.calling g mk a) (Vm.Alike.refl U.vm) qK, qD, qC.at (U := U.calling g mk a) (H0 := U.heap) (State.WarmedH.refl U) (fun _ _ _ => rfl) (fun _ h => h)⟩), (fun U hU hW => ⟨rfl, by rw [hU], by rw [hU]; exact h9, va_K.moved hW.alike hf.2.2.2.2.2.2.2.2.1, h10.weaken (fun _ _ _ _ => trivial), by rw [hU]; exact hf.2.2.2.2.2.2.2.2.2.1.at hW (fun a ha hn9 => h11.2.1 a ha hn9) hF⟩)⟩ rfl (by rw [List.length_map]; exact hna) h8.1 (by show (as.reverse ++ st).map _ = _; rw [List.map_append, List.map_reverse]) (lv_room (ab_catsum hs8)) dg ⟨show cells + mc' ≤ mc by omega, show slots + ms' ≤ ms by omega⟩
  refine ab_run hrun h11 hF ?_ ?_
  · intro E ce q9 sh1 I1 A1 ad1 H1 locs1 hp hlen had hokh g9 g10 g11 c1 c2 c3
    refine vx_out (fun x hx9 => (hf.2.2.2.2.2.2.2.2.2.2.2.1 x hx9).elim) hf.2.2.2.2.1 c1 c2 c3 (fun t ht hA9 => ⟨⟨sh1, I1, A1, ad1, kx E sh1 I1 A1 hp hlen, by omega, fun k hk => (had k (by omega)).trans (h4 k hk), hokh, by rw [ht]; exact g9, g10⟩, g11.F ht⟩) g11.2.2 (by omega) (by omega)
  · intro r sh1 I1 A1 ad1 H1 locs1 hp hlen had hokr hokh g9 g10 g11
    have e2 : st.map (ab_v ad ac) = st.map (ab_v ad1 ac) := List.map_congr_left (fun v hv => (ab_v_eq had (hst v hv)).symm)
    have e3 : (r.map (ab_v ad1 ac)).toList ++ st.map (ab_v ad ac) = (r.toList ++ st).map (ab_v ad1 ac) := by rw [e2, List.map_append]; cases r <;> rfl
    rw [e3]
    refine kk r sh1 I1 A1 hp hlen hf ad1 H1 locs1 lsA (cells + mc') (slots + ms') (by omega) (by omega) (by omega) (fun k hk => (had k (by omega)).trans (h4 k hk)) hokh (fun v hv => (h6 v hv).mono hlen) (fun v hv => ?_) (by rw [ab_p_eq had h6]; exact h8) g9 g10 g11
    rcases List.mem_append.mp hv with q | q
    · cases r with
      | none => cases q
      | some w => rw [Option.toList_some, List.mem_singleton] at q; exact hokr v (by rw [q])
    · exact (hst v q).mono hlen
theorem g_callV {M : ab_M} {d : Nat} {C : ab_X} {P : ab_O → Prop} {pc n : Nat} {ls : List (Option Value)} {st : List Value} {sh : List ab_S} {I A : ab_F} {bc bs : Nat} {M' : ab_M} {d' mc' ms' na idx bc' bs' : Nat} {P' : ab_O → Prop} {as stk : List Value} {q ci N : Nat} {Cn : String} {T : u_T} {fs : List (Option Value)} (hq : sh[q]? = some (.inr (.inr (ci, fs)))) (hc : vwCl[ci]? = some (Cn, T, N)) (hM : ab_Cl M' d' mc' ms' (.ref q :: as) sh I A P') (hok : ab_mOK M' na) (hcl : M'.1.cls = Cn) (hw1 : Cond.methodLink M.1.cls idx M'.1 ∈ ab_ws) (hw2 : Cond.instanceMethod M'.1 ∈ ab_ws) (hw3 : Cond.selects Cn M'.1 M'.1 ∈ ab_ws) (hw4 : Cond.initialized Cn ∈ ab_ws) (dg : decode M.2.1 pc = .ok (.invokevirtual idx, 3)) (hna : as.length = na) (hstk : stk = as.reverse ++ .ref q :: st) (hd : d' + 1 ≤ d) (hbc : bc' + mc' ≤ bc) (hbs : bs' + ms' ≤ bs) (hs8 : (st.map fun v => v.category).sum ≤ 8) (hn : pc + 3 = n) (kx : ∀ E sh1 I1 A1, P' (.inr E, sh1, I1, A1) → sh.length ≤ sh1.length → P (.inr E, sh1, I1, A1)) (kk : ∀ r sh1 I1 A1, P' (.inl r, sh1, I1, A1) → sh.length ≤ sh1.length → ab_G M d C P n ls (r.toList ++ st) sh1 I1 A1 bc' bs') : ab_G M d C P pc ls stk sh I A bc bs := by
  obtain ⟨p, l, e, s, m, args, below, meth, c, D, cT, ac, Ar, ad0, n0, mc, ms⟩ := C
  intro hf ad H locs lsA cells slots h1 h2 h3 h4 h5 h6 h7 h8 h9 h10 h11
  subst hn
  subst hstk
  have hF : ∀ q, va_A (ab_w cT ad ac I A 0 sh) H.size q → Ar q := fun q h => by
    rcases h with ⟨k, e9, hk⟩ | hk
    · exact h10.2 k (q, e9) hk
    · exact hf.2.2.2.2.2.2.2.2.2.2.2.2 q (Nat.le_trans h11.1 hk)
  have hst : ab_okV sh.length st := fun v hv => h7 v (List.mem_append_right _ (List.mem_cons_of_mem _ hv))
  have hoka : ab_okV sh.length (.ref q :: as) := ab_oc (h7 _ (List.mem_append_right _ List.mem_cons_self)) (fun v hv => h7 v (List.mem_append_left _ (List.mem_reverse.mpr hv)))
  have hMm := hM l hf.2.2.2.2.2.2.2.2.2.2.1 D cT ac ad H.size h5 hoka
  have hrun := vx_runV (b := ad q) (cc := M.2.1) (nL := M.2.2.1) (Ts := ab_ws) (As := as.map (ab_v ad ac)) (rest := st.map (ab_v ad ac)) (g := F0 m pc lsA ((as.reverse ++ .ref q :: st).map (ab_v ad ac))) (H := H) (locs := locs) (cells := cells) (slots := slots) (R := ab_rm d mc ms) (e := e) (below := below) (meth := meth) ⟨hf.1, hf.2.1, hf.2.2.1, hf.2.2.2.2.2.2.1, hf.2.2.2.2.2.2.2.1⟩ hMm (cwV na hf.2.2.2.2.2.2.2.1 (ab_gdV hw1 hw2 hw3 hw4 hok.2.2.1) rfl rfl rfl ⟨hcl, hok.1⟩ ⟨show d' + 1 ≤ d by omega, show 8 + (M'.2.2.1 + 11) + 100 * d' ≤ 100 * d by have := hok.2.1; omega⟩) ⟨(fun a U g mk q => by obtain ⟨q0, q1, qP, qK, qD, qC⟩ := q; exact ⟨q0, q1, qP, va_K.moved (u := U) (U := U.calling g mk a) (Vm.Alike.refl U.vm) qK, qD, qC.at (U := U.calling g mk a) (H0 := U.heap) (State.WarmedH.refl U) (fun _ _ _ => rfl) (fun _ h => h)⟩), va_recv hf.2.2.2.2.2.2.2.2.1 h9 hc (ab_w_at hq), (fun U hU hW => ⟨rfl, by rw [hU], by rw [hU]; exact h9, va_K.moved hW.alike hf.2.2.2.2.2.2.2.2.1, h10.weaken (fun _ _ _ _ => trivial), by rw [hU]; exact hf.2.2.2.2.2.2.2.2.2.1.at hW (fun a ha hn9 => h11.2.1 a ha hn9) hF⟩)⟩ rfl (by rw [List.length_map]; exact hna) h8.1 (by show (as.reverse ++ .ref q :: st).map _ = _; rw [List.map_append, List.map_reverse, List.map_cons]; rfl) (lv_room (ab_catsum hs8)) dg ⟨show cells + mc' ≤ mc by omega, show slots + ms' ≤ ms by omega⟩
  refine ab_run hrun h11 hF ?_ ?_
  · intro E ce q9 sh1 I1 A1 ad1 H1 locs1 hp hlen had hokh g9 g10 g11 c1 c2 c3
    refine vx_out (fun x hx9 => (hf.2.2.2.2.2.2.2.2.2.2.2.1 x hx9).elim) hf.2.2.2.2.1 c1 c2 c3 (fun t ht hA9 => ⟨⟨sh1, I1, A1, ad1, kx E sh1 I1 A1 hp hlen, by omega, fun k hk => (had k (by omega)).trans (h4 k hk), hokh, by rw [ht]; exact g9, g10⟩, g11.F ht⟩) g11.2.2 (by omega) (by omega)
  · intro r sh1 I1 A1 ad1 H1 locs1 hp hlen had hokr hokh g9 g10 g11
    have e2 : st.map (ab_v ad ac) = st.map (ab_v ad1 ac) := List.map_congr_left (fun v hv => (ab_v_eq had (hst v hv)).symm)
    have e3 : (r.map (ab_v ad1 ac)).toList ++ st.map (ab_v ad ac) = (r.toList ++ st).map (ab_v ad1 ac) := by rw [e2, List.map_append]; cases r <;> rfl
    rw [e3]
    refine kk r sh1 I1 A1 hp hlen hf ad1 H1 locs1 lsA (cells + mc') (slots + ms') (by omega) (by omega) (by omega) (fun k hk => (had k (by omega)).trans (h4 k hk)) hokh (fun v hv => (h6 v hv).mono hlen) (fun v hv => ?_) (by rw [ab_p_eq had h6]; exact h8) g9 g10 g11
    rcases List.mem_append.mp hv with q | q
    · cases r with
      | none => cases q
      | some w => rw [Option.toList_some, List.mem_singleton] at q; exact hokr v (by rw [q])
    · exact (hst v q).mono hlen
theorem g_callI {M : ab_M} {d : Nat} {C : ab_X} {P : ab_O → Prop} {pc n : Nat} {ls : List (Option Value)} {st : List Value} {sh : List ab_S} {I A : ab_F} {bc bs : Nat} {M' : ab_M} {d' mc' ms' na idx bc' bs' : Nat} {P' : ab_O → Prop} {as stk : List Value} {q : Nat} (hM : ab_Cl M' d' mc' ms' (.ref q :: as) sh I A P') (hok : ab_mOK M' na) (hini : M'.1.name = "<init>") (hr0 : M'.2.2.2 = none) (hw1 : Cond.methodLink M.1.cls idx M'.1 ∈ ab_ws) (hw2 : Cond.instanceMethod M'.1 ∈ ab_ws) (dg : decode M.2.1 pc = .ok (.invokespecial idx, 3)) (hna : as.length = na) (hstk : stk = as.reverse ++ .ref q :: st) (hd : d' + 1 ≤ d) (hbc : bc' + mc' ≤ bc) (hbs : bs' + ms' ≤ bs) (hs8 : (st.map fun v => v.category).sum ≤ 8) (hn : pc + 3 = n) (kx : ∀ E sh1 I1 A1, P' (.inr E, sh1, I1, A1) → sh.length ≤ sh1.length → P (.inr E, sh1, I1, A1)) (kk : ∀ r sh1 I1 A1, P' (.inl r, sh1, I1, A1) → sh.length ≤ sh1.length → ab_G M d C P n ls (r.toList ++ st) sh1 I1 A1 bc' bs') : ab_G M d C P pc ls stk sh I A bc bs := by
  obtain ⟨p, l, e, s, m, args, below, meth, c, D, cT, ac, Ar, ad0, n0, mc, ms⟩ := C
  intro hf ad H locs lsA cells slots h1 h2 h3 h4 h5 h6 h7 h8 h9 h10 h11
  subst hn
  subst hstk
  have hF : ∀ q, va_A (ab_w cT ad ac I A 0 sh) H.size q → Ar q := fun q h => by
    rcases h with ⟨k, e9, hk⟩ | hk
    · exact h10.2 k (q, e9) hk
    · exact hf.2.2.2.2.2.2.2.2.2.2.2.2 q (Nat.le_trans h11.1 hk)
  have hst : ab_okV sh.length st := fun v hv => h7 v (List.mem_append_right _ (List.mem_cons_of_mem _ hv))
  have hoka : ab_okV sh.length (.ref q :: as) := ab_oc (h7 _ (List.mem_append_right _ List.mem_cons_self)) (fun v hv => h7 v (List.mem_append_left _ (List.mem_reverse.mpr hv)))
  have hMm := hM l hf.2.2.2.2.2.2.2.2.2.2.1 D cT ac ad H.size h5 hoka
  have hrun := vx_runI (b := ad q) (cc := M.2.1) (nL := M.2.2.1) (Ts := ab_ws) (As := as.map (ab_v ad ac)) (rest := st.map (ab_v ad ac)) (g := F0 m pc lsA ((as.reverse ++ .ref q :: st).map (ab_v ad ac))) (H := H) (locs := locs) (cells := cells) (slots := slots) (R := ab_rm d mc ms) (e := e) (below := below) (meth := meth) ⟨hf.1, hf.2.1, hf.2.2.1, hf.2.2.2.2.2.2.1, hf.2.2.2.2.2.2.2.1⟩ hMm (cwI na hf.2.2.2.2.2.2.2.1 (ab_gdW hok.2.2.1) (by rw [hr0]) rfl rfl (hf.2.2.2.2.2.2.2.1 _ hok.2.2.2) (hf.2.2.2.2.2.2.2.1 _ hw1) (hf.2.2.2.2.2.2.2.1 _ hw2) hini hok.1 ⟨show d' + 1 ≤ d by omega, show 8 + (M'.2.2.1 + 11) + 100 * d' ≤ 100 * d by have := hok.2.1; omega⟩) ⟨(fun a U g mk q => by obtain ⟨q0, q1, qP, qK, qD, qC⟩ := q; exact ⟨q0, q1, qP, va_K.moved (u := U) (U := U.calling g mk a) (Vm.Alike.refl U.vm) qK, qD, qC.at (U := U.calling g mk a) (H0 := U.heap) (State.WarmedH.refl U) (fun _ _ _ => rfl) (fun _ h => h)⟩), (fun U hU hW => ⟨rfl, by rw [hU], by rw [hU]; exact h9, va_K.moved hW.alike hf.2.2.2.2.2.2.2.2.1, h10.weaken (fun _ _ _ _ => trivial), by rw [hU]; exact hf.2.2.2.2.2.2.2.2.2.1.at hW (fun a ha hn9 => h11.2.1 a ha hn9) hF⟩)⟩ rfl (by rw [List.length_map]; exact hna) h8.1 (by show (as.reverse ++ .ref q :: st).map _ = _; rw [List.map_append, List.map_reverse, List.map_cons]; rfl) (lv_room (ab_catsum hs8)) dg ⟨show cells + mc' ≤ mc by omega, show slots + ms' ≤ ms by omega⟩
  refine ab_run hrun h11 hF ?_ ?_
  · intro E ce q9 sh1 I1 A1 ad1 H1 locs1 hp hlen had hokh g9 g10 g11 c1 c2 c3
    refine vx_out (fun x hx9 => (hf.2.2.2.2.2.2.2.2.2.2.2.1 x hx9).elim) hf.2.2.2.2.1 c1 c2 c3 (fun t ht hA9 => ⟨⟨sh1, I1, A1, ad1, kx E sh1 I1 A1 hp hlen, by omega, fun k hk => (had k (by omega)).trans (h4 k hk), hokh, by rw [ht]; exact g9, g10⟩, g11.F ht⟩) g11.2.2 (by omega) (by omega)
  · intro r sh1 I1 A1 ad1 H1 locs1 hp hlen had hokr hokh g9 g10 g11
    have e2 : st.map (ab_v ad ac) = st.map (ab_v ad1 ac) := List.map_congr_left (fun v hv => (ab_v_eq had (hst v hv)).symm)
    have e3 : (r.map (ab_v ad1 ac)).toList ++ st.map (ab_v ad ac) = (r.toList ++ st).map (ab_v ad1 ac) := by rw [e2, List.map_append]; cases r <;> rfl
    rw [e3]
    refine kk r sh1 I1 A1 hp hlen hf ad1 H1 locs1 lsA (cells + mc') (slots + ms') (by omega) (by omega) (by omega) (fun k hk => (had k (by omega)).trans (h4 k hk)) hokh (fun v hv => (h6 v hv).mono hlen) (fun v hv => ?_) (by rw [ab_p_eq had h6]; exact h8) g9 g10 g11
    rcases List.mem_append.mp hv with q | q
    · cases r with
      | none => cases q
      | some w => rw [Option.toList_some, List.mem_singleton] at q; exact hokr v (by rw [q])
    · exact (hst v q).mono hlen
theorem g_callIN {M : ab_M} {d : Nat} {C : ab_X} {P : ab_O → Prop} {pc n : Nat} {ls : List (Option Value)} {st : List Value} {sh : List ab_S} {I A : ab_F} {bc bs : Nat} {M' : ab_M} {d' mc' ms' na idx bc' bs' : Nat} {P' : ab_O → Prop} {as stk : List Value} {q : Nat} (hM : ab_Cl M' d' mc' ms' (.ref q :: as) sh I A P') (hok : ab_mOK M' na) {host : String} (hini : M'.1.name = "<init>") (hr0 : M'.2.2.2 = none) (hw1 : Cond.methodLinkNest M.1.cls idx M'.1 host ∈ ab_ng) (hw2 : Cond.instanceMethod M'.1 ∈ ab_ws) (dg : decode M.2.1 pc = .ok (.invokespecial idx, 3)) (hna : as.length = na) (hstk : stk = as.reverse ++ .ref q :: st) (hd : d' + 1 ≤ d) (hbc : bc' + mc' ≤ bc) (hbs : bs' + ms' ≤ bs) (hs8 : (st.map fun v => v.category).sum ≤ 8) (hn : pc + 3 = n) (kx : ∀ E sh1 I1 A1, P' (.inr E, sh1, I1, A1) → sh.length ≤ sh1.length → P (.inr E, sh1, I1, A1)) (kk : ∀ r sh1 I1 A1, P' (.inl r, sh1, I1, A1) → sh.length ≤ sh1.length → ab_G M d C P n ls (r.toList ++ st) sh1 I1 A1 bc' bs') : ab_G M d C P pc ls stk sh I A bc bs := by
  obtain ⟨p, l, e, s, m, args, below, meth, c, D, cT, ac, Ar, ad0, n0, mc, ms⟩ := C
  intro hf ad H locs lsA cells slots h1 h2 h3 h4 h5 h6 h7 h8 h9 h10 h11
  subst hn
  subst hstk
  have hF : ∀ q, va_A (ab_w cT ad ac I A 0 sh) H.size q → Ar q := fun q h => by
    rcases h with ⟨k, e9, hk⟩ | hk
    · exact h10.2 k (q, e9) hk
    · exact hf.2.2.2.2.2.2.2.2.2.2.2.2 q (Nat.le_trans h11.1 hk)
  have hst : ab_okV sh.length st := fun v hv => h7 v (List.mem_append_right _ (List.mem_cons_of_mem _ hv))
  have hoka : ab_okV sh.length (.ref q :: as) := ab_oc (h7 _ (List.mem_append_right _ List.mem_cons_self)) (fun v hv => h7 v (List.mem_append_left _ (List.mem_reverse.mpr hv)))
  have hMm := hM l hf.2.2.2.2.2.2.2.2.2.2.1 D cT ac ad H.size h5 hoka
  have hrun := vx_runIN (b := ad q) (cc := M.2.1) (nL := M.2.2.1) (Ts := ab_ws) (As := as.map (ab_v ad ac)) (rest := st.map (ab_v ad ac)) (g := F0 m pc lsA ((as.reverse ++ .ref q :: st).map (ab_v ad ac))) (H := H) (locs := locs) (cells := cells) (slots := slots) (R := ab_rm d mc ms) (e := e) (below := below) (meth := meth) ⟨hf.1, hf.2.1, hf.2.2.1, hf.2.2.2.2.2.2.1, hf.2.2.2.2.2.2.2.1⟩ hMm (⟨va_cnB na hf.2.2.2.2.2.2.2.1 (ab_gdW hok.2.2.1) (by rw [hr0]) rfl rfl (hf.2.2.2.2.2.2.2.2.2.1.2.2.2.2.1 _ hw1) (hf.2.2.2.2.2.2.2.1 _ hok.2.2.2) hok.1 ⟨show d' + 1 ≤ d by omega, show 8 + (M'.2.2.1 + 11) + 100 * d' ≤ 100 * d by have := hok.2.1; omega⟩, hini, hf.2.2.2.2.2.2.2.1 _ hw2⟩) ⟨(fun a U g mk q => by obtain ⟨q0, q1, qP, qK, qD, qC⟩ := q; exact ⟨q0, q1, qP, va_K.moved (u := U) (U := U.calling g mk a) (Vm.Alike.refl U.vm) qK, qD, qC.at (U := U.calling g mk a) (H0 := U.heap) (State.WarmedH.refl U) (fun _ _ _ => rfl) (fun _ h => h)⟩), (fun U hU hW => ⟨rfl, by rw [hU], by rw [hU]; exact h9, va_K.moved hW.alike hf.2.2.2.2.2.2.2.2.1, h10.weaken (fun _ _ _ _ => trivial), by rw [hU]; exact hf.2.2.2.2.2.2.2.2.2.1.at hW (fun a ha hn9 => h11.2.1 a ha hn9) hF⟩)⟩ rfl (by rw [List.length_map]; exact hna) h8.1 (by show (as.reverse ++ .ref q :: st).map _ = _; rw [List.map_append, List.map_reverse, List.map_cons]; rfl) (lv_room (ab_catsum hs8)) dg ⟨show cells + mc' ≤ mc by omega, show slots + ms' ≤ ms by omega⟩
  refine ab_run hrun h11 hF ?_ ?_
  · intro E ce q9 sh1 I1 A1 ad1 H1 locs1 hp hlen had hokh g9 g10 g11 c1 c2 c3
    refine vx_out (fun x hx9 => (hf.2.2.2.2.2.2.2.2.2.2.2.1 x hx9).elim) hf.2.2.2.2.1 c1 c2 c3 (fun t ht hA9 => ⟨⟨sh1, I1, A1, ad1, kx E sh1 I1 A1 hp hlen, by omega, fun k hk => (had k (by omega)).trans (h4 k hk), hokh, by rw [ht]; exact g9, g10⟩, g11.F ht⟩) g11.2.2 (by omega) (by omega)
  · intro r sh1 I1 A1 ad1 H1 locs1 hp hlen had hokr hokh g9 g10 g11
    have e2 : st.map (ab_v ad ac) = st.map (ab_v ad1 ac) := List.map_congr_left (fun v hv => (ab_v_eq had (hst v hv)).symm)
    have e3 : (r.map (ab_v ad1 ac)).toList ++ st.map (ab_v ad ac) = (r.toList ++ st).map (ab_v ad1 ac) := by rw [e2, List.map_append]; cases r <;> rfl
    rw [e3]
    refine kk r sh1 I1 A1 hp hlen hf ad1 H1 locs1 lsA (cells + mc') (slots + ms') (by omega) (by omega) (by omega) (fun k hk => (had k (by omega)).trans (h4 k hk)) hokh (fun v hv => (h6 v hv).mono hlen) (fun v hv => ?_) (by rw [ab_p_eq had h6]; exact h8) g9 g10 g11
    rcases List.mem_append.mp hv with q | q
    · cases r with
      | none => cases q
      | some w => rw [Option.toList_some, List.mem_singleton] at q; exact hokr v (by rw [q])
    · exact (hst v q).mono hlen
theorem g_callVK {M : ab_M} {d : Nat} {C : ab_X} {P : ab_O → Prop} {pc n : Nat} {ls : List (Option Value)} {st : List Value} {sh : List ab_S} {I A : ab_F} {bc bs : Nat} {M' : ab_M} {d' mc' ms' na idx bc' bs' : Nat} {P' : ab_O → Prop} {as stk : List Value} {i : Nat} {sq : String × Nat × String × List Int32} (hsq : ab_str[i]? = some sq) (hM : ab_Cl M' d' mc' ms' (.retAddr (2 * i) :: as) sh I A P') (hok : ab_mOK M' na) (hcl : M'.1.cls = "java/lang/String") (hw1 : Cond.methodLink M.1.cls idx M'.1 ∈ ab_ws) (hw2 : Cond.instanceMethod M'.1 ∈ ab_ws) (hw3 : Cond.selects "java/lang/String" M'.1 M'.1 ∈ ab_ws) (hw4 : Cond.initialized "java/lang/String" ∈ ab_ws) (dg : decode M.2.1 pc = .ok (.invokevirtual idx, 3)) (hna : as.length = na) (hstk : stk = as.reverse ++ .retAddr (2 * i) :: st) (hd : d' + 1 ≤ d) (hbc : bc' + mc' ≤ bc) (hbs : bs' + ms' ≤ bs) (hs8 : (st.map fun v => v.category).sum ≤ 8) (hn : pc + 3 = n) (kx : ∀ E sh1 I1 A1, P' (.inr E, sh1, I1, A1) → sh.length ≤ sh1.length → P (.inr E, sh1, I1, A1)) (kk : ∀ r sh1 I1 A1, P' (.inl r, sh1, I1, A1) → sh.length ≤ sh1.length → ab_G M d C P n ls (r.toList ++ st) sh1 I1 A1 bc' bs') : ab_G M d C P pc ls stk sh I A bc bs := by
  obtain ⟨p, l, e, s, m, args, below, meth, c, D, cT, ac, Ar, ad0, n0, mc, ms⟩ := C
  intro hf ad H locs lsA cells slots h1 h2 h3 h4 h5 h6 h7 h8 h9 h10 h11
  subst hn
  subst hstk
  have hF : ∀ q, va_A (ab_w cT ad ac I A 0 sh) H.size q → Ar q := fun q h => by
    rcases h with ⟨k, e9, hk⟩ | hk
    · exact h10.2 k (q, e9) hk
    · exact hf.2.2.2.2.2.2.2.2.2.2.2.2 q (Nat.le_trans h11.1 hk)
  have hst : ab_okV sh.length st := fun v hv => h7 v (List.mem_append_right _ (List.mem_cons_of_mem _ hv))
  have hoka : ab_okV sh.length (.retAddr (2 * i) :: as) := ab_oc (h7 _ (List.mem_append_right _ List.mem_cons_self)) (fun v hv => h7 v (List.mem_append_left _ (List.mem_reverse.mpr hv)))
  have hMm := hM l hf.2.2.2.2.2.2.2.2.2.2.1 D cT ac ad H.size h5 hoka
  have hrun := vx_runV (b := ac (2 * i)) (cc := M.2.1) (nL := M.2.2.1) (Ts := ab_ws) (As := as.map (ab_v ad ac)) (rest := st.map (ab_v ad ac)) (g := F0 m pc lsA ((as.reverse ++ .retAddr (2 * i) :: st).map (ab_v ad ac))) (H := H) (locs := locs) (cells := cells) (slots := slots) (R := ab_rm d mc ms) (e := e) (below := below) (meth := meth) ⟨hf.1, hf.2.1, hf.2.2.1, hf.2.2.2.2.2.2.1, hf.2.2.2.2.2.2.2.1⟩ hMm (cwV na hf.2.2.2.2.2.2.2.1 (ab_gdV hw1 hw2 hw3 hw4 hok.2.2.1) rfl rfl rfl ⟨hcl, hok.1⟩ ⟨show d' + 1 ≤ d by omega, show 8 + (M'.2.2.1 + 11) + 100 * d' ≤ 100 * d by have := hok.2.1; omega⟩) ⟨(fun a U g mk q => by obtain ⟨q0, q1, qP, qK, qD, qC⟩ := q; exact ⟨q0, q1, qP, va_K.moved (u := U) (U := U.calling g mk a) (Vm.Alike.refl U.vm) qK, qD, qC.at (U := U.calling g mk a) (H0 := U.heap) (State.WarmedH.refl U) (fun _ _ _ => rfl) (fun _ h => h)⟩), (by obtain ⟨cell, c1, c2, c3, -⟩ := (hf.2.2.2.2.2.2.2.2.2.1.1 i sq hsq).2.1.kept h11.2.1; exact ⟨cell, c1, c2, c3⟩), (fun U hU hW => ⟨rfl, by rw [hU], by rw [hU]; exact h9, va_K.moved hW.alike hf.2.2.2.2.2.2.2.2.1, h10.weaken (fun _ _ _ _ => trivial), by rw [hU]; exact hf.2.2.2.2.2.2.2.2.2.1.at hW (fun a ha hn9 => h11.2.1 a ha hn9) hF⟩)⟩ rfl (by rw [List.length_map]; exact hna) h8.1 (by show (as.reverse ++ .retAddr (2 * i) :: st).map _ = _; rw [List.map_append, List.map_reverse, List.map_cons]; rfl) (lv_room (ab_catsum hs8)) dg ⟨show cells + mc' ≤ mc by omega, show slots + ms' ≤ ms by omega⟩
  refine ab_run hrun h11 hF ?_ ?_
  · intro E ce q9 sh1 I1 A1 ad1 H1 locs1 hp hlen had hokh g9 g10 g11 c1 c2 c3
    refine vx_out (fun x hx9 => (hf.2.2.2.2.2.2.2.2.2.2.2.1 x hx9).elim) hf.2.2.2.2.1 c1 c2 c3 (fun t ht hA9 => ⟨⟨sh1, I1, A1, ad1, kx E sh1 I1 A1 hp hlen, by omega, fun k hk => (had k (by omega)).trans (h4 k hk), hokh, by rw [ht]; exact g9, g10⟩, g11.F ht⟩) g11.2.2 (by omega) (by omega)
  · intro r sh1 I1 A1 ad1 H1 locs1 hp hlen had hokr hokh g9 g10 g11
    have e2 : st.map (ab_v ad ac) = st.map (ab_v ad1 ac) := List.map_congr_left (fun v hv => (ab_v_eq had (hst v hv)).symm)
    have e3 : (r.map (ab_v ad1 ac)).toList ++ st.map (ab_v ad ac) = (r.toList ++ st).map (ab_v ad1 ac) := by rw [e2, List.map_append]; cases r <;> rfl
    rw [e3]
    refine kk r sh1 I1 A1 hp hlen hf ad1 H1 locs1 lsA (cells + mc') (slots + ms') (by omega) (by omega) (by omega) (fun k hk => (had k (by omega)).trans (h4 k hk)) hokh (fun v hv => (h6 v hv).mono hlen) (fun v hv => ?_) (by rw [ab_p_eq had h6]; exact h8) g9 g10 g11
    rcases List.mem_append.mp hv with q | q
    · cases r with
      | none => cases q
      | some w => rw [Option.toList_some, List.mem_singleton] at q; exact hokr v (by rw [q])
    · exact (hst v q).mono hlen
theorem g_throw {M : ab_M} {d : Nat} {C : ab_X} {P : ab_O → Prop} {pc n : Nat} {ls : List (Option Value)} {st : List Value} {sh : List ab_S} {I A : ab_F} {bc bs : Nat} {cls text : String} {names : List String} {ik is ic i : Nat} {bl : List Int32} (d0 : decode M.2.1 pc = .ok (.new ik, 3)) (d3 : decode M.2.1 (pc + 3) = .ok (.dup, 1)) (d4 : decode M.2.1 (pc + 4) = .ok (.ldc is, 2)) (d6 : decode M.2.1 (pc + 6) = .ok (.invokespecial ic, 3)) (d9 : decode M.2.1 (pc + 9) = .ok (.athrow, 1)) (hcls : Bundle.fit cls = true) (hnames : ∀ n ∈ names, Bundle.fit n = true) (hw1 : Cond.classLink M.1.cls ik cls ∈ ab_ws) (hw2 : Cond.initialized cls ∈ ab_ws) (hw3 : ∀ w ∈ (vx_atS M.1.cls ic cls names).filter goodWord, w ∈ ab_ws) (hw4 : ∀ w ∈ (vx_atS M.1.cls ic cls names).filter (fun w => !goodWord w), w ∈ ab_ng) (hgood : ∀ w ∈ Cond.classLink M.1.cls ik cls :: Cond.initialized cls :: vx_atS M.1.cls ic cls names, vx_ot w = true) (hs : ab_str[i]? = some (M.1.cls, is, text, bl)) (hdep : names.length + 3 < d) (hs8 : (st.map fun v => v.category).sum ≤ 8) (hbc : 1 ≤ bc) (hbs : 6 ≤ bs) (kk : P (.inr cls, sh, I, A)) : ab_G M d C P pc ls st sh I A bc bs := by
  obtain ⟨p, l, e, s, m, args, below, meth, c, D, cT, ac, Ar, ad0, n0, mc, ms⟩ := C
  intro hf ad H locs lsA cells slots h1 h2 h3 h4 h5 h6 h7 h8 h9 h10 h11
  have hs2 : ((st.map (ab_v ad ac)).map fun v => v.category).sum ≤ 8 := ab_catsum hs8
  refine vx_throwS (A := Ar) hf.1 hf.2.1 hf.2.2.2.2.2.2.2.2.2.2.1 hf.2.2.2.2.2.2.1 hcls hnames (hf.2.2.2.2.2.2.2.1 _ hw1) (hf.2.2.2.2.2.2.2.1 _ hw2) (hf.2.2.2.2.2.2.2.2.2.1.1 i _ hs).1 (vx_hat (B := ab_ng) (fun w h => hf.2.2.2.2.2.2.2.1 w (hw3 w h)) hw4 (fun w h => (hf.2.2.2.2.2.2.2.2.2.1.2.2.2.2.1 _ h).use (ab_ng_ot w h))) hgood hf.2.2.2.2.2.2.2.2.2.1.2.2.2.2.2.1 hf.2.2.2.2.2.2.2.2.2.1.2.2.2.2.2.2.1 h11 (by rw [hf.2.2.1]; exact h8.1) d0 d3 d4 d6 d9 (fun x hx9 => (hf.2.2.2.2.2.2.2.2.2.2.2.1 x hx9).elim) hdep ?_ (show cells + 1 ≤ mc by omega) (show slots + 6 ≤ ms by omega) hf.2.2.2.2.1 (fun t hA9 hle hkeep => ⟨⟨sh, I, A, ad, kk, h3, h4, h5, h9.kept (fun k q9 hk9 => hkeep q9.1 (h9 k q9 hk9).lt), h10⟩, ?_⟩) h11.2.2 (by omega) (by omega)
  · show _ + (13 * (names.length + 1) + 43) ≤ 100 * d
    omega
  · exact ⟨Nat.le_trans h11.1 hle, fun q hq hnq => by rw [hkeep q (Nat.lt_of_lt_of_le hq h11.1)]; exact h11.2.1 q hq hnq⟩
theorem g_throwW {M : ab_M} {d : Nat} {C : ab_X} {P : ab_O → Prop} {pc n : Nat} {ls : List (Option Value)} {st : List Value} {sh : List ab_S} {I A : ab_F} {bc bs : Nat} {cls text : String} {names : List String} {ik is ic i : Nat} {bl : List Int32} (d0 : decode M.2.1 pc = .ok (.new ik, 3)) (d3 : decode M.2.1 (pc + 3) = .ok (.dup, 1)) (d4 : decode M.2.1 (pc + 4) = .ok (.ldc_w is, 3)) (d6 : decode M.2.1 (pc + 7) = .ok (.invokespecial ic, 3)) (d9 : decode M.2.1 (pc + 10) = .ok (.athrow, 1)) (hcls : Bundle.fit cls = true) (hnames : ∀ n ∈ names, Bundle.fit n = true) (hw1 : Cond.classLink M.1.cls ik cls ∈ ab_ws) (hw2 : Cond.initialized cls ∈ ab_ws) (hw3 : ∀ w ∈ (vx_atS M.1.cls ic cls names).filter goodWord, w ∈ ab_ws) (hw4 : ∀ w ∈ (vx_atS M.1.cls ic cls names).filter (fun w => !goodWord w), w ∈ ab_ng) (hgood : ∀ w ∈ Cond.classLink M.1.cls ik cls :: Cond.initialized cls :: vx_atS M.1.cls ic cls names, vx_ot w = true) (hs : ab_str[i]? = some (M.1.cls, is, text, bl)) (hdep : names.length + 3 < d) (hs8 : (st.map fun v => v.category).sum ≤ 8) (hbc : 1 ≤ bc) (hbs : 6 ≤ bs) (kk : P (.inr cls, sh, I, A)) : ab_G M d C P pc ls st sh I A bc bs := by
  obtain ⟨p, l, e, s, m, args, below, meth, c, D, cT, ac, Ar, ad0, n0, mc, ms⟩ := C
  intro hf ad H locs lsA cells slots h1 h2 h3 h4 h5 h6 h7 h8 h9 h10 h11
  have hs2 : ((st.map (ab_v ad ac)).map fun v => v.category).sum ≤ 8 := ab_catsum hs8
  refine vx_throwSW (A := Ar) hf.1 hf.2.1 hf.2.2.2.2.2.2.2.2.2.2.1 hf.2.2.2.2.2.2.1 hcls hnames (hf.2.2.2.2.2.2.2.1 _ hw1) (hf.2.2.2.2.2.2.2.1 _ hw2) (hf.2.2.2.2.2.2.2.2.2.1.1 i _ hs).1 (vx_hat (B := ab_ng) (fun w h => hf.2.2.2.2.2.2.2.1 w (hw3 w h)) hw4 (fun w h => (hf.2.2.2.2.2.2.2.2.2.1.2.2.2.2.1 _ h).use (ab_ng_ot w h))) hgood hf.2.2.2.2.2.2.2.2.2.1.2.2.2.2.2.1 hf.2.2.2.2.2.2.2.2.2.1.2.2.2.2.2.2.1 h11 (by rw [hf.2.2.1]; exact h8.1) d0 d3 d4 d6 d9 (fun x hx9 => (hf.2.2.2.2.2.2.2.2.2.2.2.1 x hx9).elim) hdep ?_ (show cells + 1 ≤ mc by omega) (show slots + 6 ≤ ms by omega) hf.2.2.2.2.1 (fun t hA9 hle hkeep => ⟨⟨sh, I, A, ad, kk, h3, h4, h5, h9.kept (fun k q9 hk9 => hkeep q9.1 (h9 k q9 hk9).lt), h10⟩, ?_⟩) h11.2.2 (by omega) (by omega)
  · show _ + (13 * (names.length + 1) + 43) ≤ 100 * d
    omega
  · exact ⟨Nat.le_trans h11.1 hle, fun q hq hnq => by rw [hkeep q (Nat.lt_of_lt_of_le hq h11.1)]; exact h11.2.1 q hq hnq⟩
