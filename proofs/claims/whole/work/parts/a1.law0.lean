/-! the law's frame: calls that leave the other cells alone -/
theorem lw_run {p : Program} {l : Launch} {e : Env} {R : Room} {s : State} {m : MethodId} {args : Array Value} {below : List Frame} {meth : Method} {c : Code} {H : Heap} {locs : List Loc} {cells slots mc' ms' pc n : Nat} {lsA : Array Slot} {st0 rest : List Value} {D : va_G} {cT : FieldType → ClassId} {ac ad : Nat → Nat} {Ar : Nat → Prop} {P' : ab_O → Prop} {a : Array Value} {w : va_W} {Q : State → Prop}
    (hr : vx_Run p l e R s m args below meth c H locs cells slots mc' ms' (F0 m pc lsA st0) rest (ab_Qc D cT ac (va_A w H.size) ad n P' a) (ab_XC D cT ac (va_A w H.size) ad n P') (va_A w H.size)) (hS : va_S Ar s.heap H locs) (hF : ∀ q, va_A w H.size q → Ar q)
    (kx : ∀ (E : String) (ce : Cell) (q9 : Addr) (sh : List ab_S) (I A : ab_F) (ad' : Nat → Nat) (H1 : Heap) (locs1 : List Loc), P' (.inr E, sh, I, A) → n ≤ sh.length → (∀ k, k < n → ad' k = ad k) → ab_okH sh → va_P D vwCl (ab_w cT ad' ac I A 0 sh) H1 → va_D (va_A w H.size) (ab_w cT ad' ac I A 0 sh) → (H.size ≤ H1.size ∧ ∀ q, q < H.size → ¬ va_A w H.size q → H1[q]? = H[q]?) → va_S Ar s.heap H1 locs1 → H1[q9]? = some ce → ce.vm = .none → s.vm.findClass E = some ce.cls → vx_W p l e R s m args below meth c H1 locs1 (cells + mc') (slots + ms') Q (F0 m pc lsA rest) q9)
    (kk : ∀ (r : Option Value) (sh : List ab_S) (I A : ab_F) (ad' : Nat → Nat) (H1 : Heap) (locs1 : List Loc), P' (.inl r, sh, I, A) → n ≤ sh.length → (∀ k, k < n → ad' k = ad k) → (∀ v, r = some v → ab_ok sh.length v) → ab_okH sh → va_P D vwCl (ab_w cT ad' ac I A 0 sh) H1 → va_D (va_A w H.size) (ab_w cT ad' ac I A 0 sh) → (H.size ≤ H1.size ∧ ∀ q, q < H.size → ¬ va_A w H.size q → H1[q]? = H[q]?) → va_S Ar s.heap H1 locs1 → W p l e R s m args below meth c H1 locs1 (cells + mc') (slots + ms') Q (F0 m (pc + 3) lsA ((r.map (ab_v ad' ac)).toList ++ rest))) :
    W p l e R s m args below meth c H locs cells slots Q (F0 m pc lsA st0) := by
  intro T hT X
  rcases hr T hT X with ⟨v, st₀, t, T', L, h0, X', hL, e1, e2, ⟨⟨r, sh, I, A, ad', hv, hp, hlen, had, hokr, hokh, hPw, hDw⟩, hFr⟩, stp⟩ | ⟨q, st₀, t, T', L, E, ce, h0, X', hL, e1, e2, ⟨⟨sh, I, A, ad', hp, hlen, had, hokh, hPw, hDw⟩, hFr⟩, hce, hcv, hcl, stp⟩
  · cases hv
    obtain ⟨k1, k2, k3⟩ := vx_keep h0 e1 hS (fun q _ h => hF q h) hF hL hFr
    obtain ⟨t2, a1, b1⟩ := kk r sh I A ad' T'.heap (locs ++ L) hp hlen had hokr hokh (by rw [e1]; exact hPw) hDw ⟨k1, k2⟩ k3 T' rfl X'
    exact ⟨t2, stp t2 a1, b1⟩
  · obtain ⟨k1, k2, k3⟩ := vx_keep h0 e1 hS (fun q _ h => hF q h) hF hL hFr
    obtain ⟨t2, a1, b1⟩ := kx E ce q sh I A ad' T'.heap (locs ++ L) hp hlen had hokh (by rw [e1]; exact hPw) hDw ⟨k1, k2⟩ k3 (by rw [e1]; exact hce) hcv hcl T' rfl X'
    exact ⟨t2, Steps.trans stp a1, b1⟩
/-- apart -/
def Dj (w v : va_W) : Prop := ∀ (i j : Nat) (p q : Nat × va_E), w[i]? = some p → v[j]? = some q → p.1 ≠ q.1
theorem Dj.symm {w v : va_W} (h : Dj w v) : Dj v w := fun i j p q a b e => h j i q p b a e.symm
theorem fr_keep {D : va_G} {cl : List vw_C} {w v : va_W} {H H1 : Heap} (hP : va_P D cl v H) (hX : Dj w v) (hk : ∀ q, q < H.size → ¬ va_A w H.size q → H1[q]? = H[q]?) : va_P D cl v H1 := hP.kept (fun k q hq => hk q.1 (vx_lt hP hq) (fun z => by
  have hl := vx_lt hP hq
  rcases z with ⟨i, e, h⟩ | h
  · exact hX i k _ _ h hq rfl
  · omega))
theorem fr_dj {D : va_G} {cl : List vw_C} {w w' v : va_W} {H : Heap} (hP : va_P D cl v H) (hX : Dj w v) (hD : va_D (va_A w H.size) w') : Dj w' v := fun i j p q h1 h2 e => by
  have hl := vx_lt hP h2
  rcases hD.2 i p h1 with ⟨k, x, h⟩ | h
  · exact hX k j _ _ h h2 e
  · omega
theorem fr_D {A0 : Nat → Prop} {w w' : va_W} {sz : Nat} (hA : ∀ q, va_A w sz q → A0 q) (hD : va_D (va_A w sz) w') : va_D A0 w' := hD.weaken (fun k q _ h => hA q.1 h)
theorem fr_A {A0 : Nat → Prop} {w : va_W} {H0 H : Heap} {locs : List Loc} (hD : va_D A0 w) (hS : va_S A0 H0 H locs) (hA : ∀ q, H0.size ≤ q → A0 q) : ∀ q, va_A w H.size q → A0 q := fun q h => by
  rcases h with ⟨k, e9, hk⟩ | hk
  · exact hD.2 k (q, e9) hk
  · exact hA q (Nat.le_trans hS.1 hk)
theorem lw_sub {D : va_G} {cT : FieldType → ClassId} {tys : List (ClassId × FieldType)} {s : State} (h : va_K D vwCl (ab_tys cT ++ tys) s) : va_K D vwCl (ab_tys cT) s := ⟨h.1, fun k q hq => h.2 k q (by rw [List.getElem?_append_left (List.getElem?_eq_some_iff.mp hq).1]; exact hq)⟩
/-- a method of an object whose world is known, called from any frame -/
theorem lw_callV {p : Program} {l : Launch} {e : Env} {R : Room} {s : State} {m : MethodId} {args : Array Value} {below : List Frame} {meth : Method} {c : Code} {cc : ByteArray} {nL : Nat} {own : String} (S : CallFix p m c cc nL s args ab_ws own) (htr : l.stackTraces = false) {D : va_G} {cT : FieldType → ClassId} {ac ad : Nat → Nat} {Ar : Nat → Prop} (hK : va_K D vwCl (ab_tys cT) s) (hCK : ab_CK ac Ar s s.heap) (hA : ∀ q, s.heap.size ≤ q → Ar q)
    {M' : ab_M} {d' mc' ms' na idx pc ci N : Nat} {as rest : List Value} {sh : List ab_S} {I A : ab_F} {P' : ab_O → Prop} {Cn : String} {T : u_T} {fs : List (Option Value)} {H : Heap} {locs : List Loc} {cells slots : Nat} {lsA : Array Slot} {Q : State → Prop} {stk : List Value}
    (hq : sh[0]? = some (.inr (.inr (ci, fs)))) (hc : vwCl[ci]? = some (Cn, T, N)) (hM : ab_Cl M' d' mc' ms' (.ref 0 :: as) sh I A P') (hok : ab_mOK M' na) (hcl : M'.1.cls = Cn) (hw1 : Cond.methodLink own idx M'.1 ∈ ab_ws) (hw2 : Cond.instanceMethod M'.1 ∈ ab_ws) (hw3 : Cond.selects Cn M'.1 M'.1 ∈ ab_ws) (hw4 : Cond.initialized Cn ∈ ab_ws) (dg : decode cc pc = .ok (.invokevirtual idx, 3)) (hna : as.length = na) (hstk : stk = (as.map (ab_v ad ac)).reverse ++ .ref (ad 0) :: rest) (hlsz : lsA.size = nL) (hs8 : (rest.map fun v => v.category).sum ≤ 8)
    (hfr : d' + 1 ≤ R.frames) (hlo : 8 + (M'.2.2.1 + 11) + 100 * d' ≤ R.locals) (hce : cells + mc' ≤ R.cells) (hsl : slots + ms' ≤ R.slots) (hoh : ab_okH sh) (hoa : ab_okV sh.length (.ref 0 :: as)) (hP : va_P D vwCl (ab_w cT ad ac I A 0 sh) H) (hD : va_D Ar (ab_w cT ad ac I A 0 sh)) (hS : va_S Ar s.heap H locs)
    (kx : ∀ (E : String) (ce : Cell) (q9 : Addr) (sh1 : List ab_S) (I1 A1 : ab_F) (ad1 : Nat → Nat) (H1 : Heap) (locs1 : List Loc), P' (.inr E, sh1, I1, A1) → ad1 0 = ad 0 → ab_okH sh1 → va_P D vwCl (ab_w cT ad1 ac I1 A1 0 sh1) H1 → va_D (va_A (ab_w cT ad ac I A 0 sh) H.size) (ab_w cT ad1 ac I1 A1 0 sh1) → (H.size ≤ H1.size ∧ ∀ q, q < H.size → ¬ va_A (ab_w cT ad ac I A 0 sh) H.size q → H1[q]? = H[q]?) → va_S Ar s.heap H1 locs1 → H1[q9]? = some ce → ce.vm = .none → s.vm.findClass E = some ce.cls → vx_W p l e R s m args below meth c H1 locs1 (cells + mc') (slots + ms') Q (F0 m pc lsA rest) q9)
    (kk : ∀ (r : Option Value) (sh1 : List ab_S) (I1 A1 : ab_F) (ad1 : Nat → Nat) (H1 : Heap) (locs1 : List Loc), P' (.inl r, sh1, I1, A1) → ad1 0 = ad 0 → ab_okH sh1 → va_P D vwCl (ab_w cT ad1 ac I1 A1 0 sh1) H1 → va_D (va_A (ab_w cT ad ac I A 0 sh) H.size) (ab_w cT ad1 ac I1 A1 0 sh1) → (H.size ≤ H1.size ∧ ∀ q, q < H.size → ¬ va_A (ab_w cT ad ac I A 0 sh) H.size q → H1[q]? = H[q]?) → va_S Ar s.heap H1 locs1 → W p l e R s m args below meth c H1 locs1 (cells + mc') (slots + ms') Q (F0 m (pc + 3) lsA ((r.map (ab_v ad1 ac)).toList ++ rest))) :
    W p l e R s m args below meth c H locs cells slots Q (F0 m pc lsA stk) := by
  have hF := fr_A hD hS hA
  have h0 : 0 < sh.length := (List.getElem?_eq_some_iff.mp hq).1
  have hMm := hM l htr D cT ac ad H.size hoh hoa
  have hrun := vx_runV (b := ad 0) (cc := cc) (nL := nL) (Ts := ab_ws) (As := as.map (ab_v ad ac)) (rest := rest) (g := F0 m pc lsA stk) (H := H) (locs := locs) (cells := cells) (slots := slots) (R := R) (e := e) (below := below) (meth := meth) S hMm (cwV na S.2.2.2.2 (ab_gdV hw1 hw2 hw3 hw4 hok.2.2.1) rfl rfl rfl ⟨hcl, hok.1⟩ ⟨hfr, hlo⟩) ⟨(fun a U g mk q => by obtain ⟨q0, q1, qP, qK, qD, qC⟩ := q; exact ⟨q0, q1, qP, va_K.moved (u := U) (U := U.calling g mk a) (Vm.Alike.refl U.vm) qK, qD, qC.at (U := U.calling g mk a) (H0 := U.heap) (State.WarmedH.refl U) (fun _ _ _ => rfl) (fun _ h => h)⟩), va_recv hK hP hc (ab_w_at hq), (fun U hU hW => ⟨rfl, by rw [hU], by rw [hU]; exact hP, va_K.moved hW.alike hK, hD.weaken (fun _ _ _ _ => trivial), by rw [hU]; exact hCK.at hW (fun a ha hn9 => hS.2.1 a ha hn9) hF⟩)⟩ rfl (by rw [List.length_map]; exact hna) hlsz hstk (lv_room hs8) dg ⟨hce, hsl⟩
  refine lw_run hrun hS hF ?_ ?_
  · intro E ce q9 sh1 I1 A1 ad1 H1 locs1 hp hlen had hokh g9 g10 g12 g11 c1 c2 c3
    exact kx E ce q9 sh1 I1 A1 ad1 H1 locs1 hp (had 0 h0) hokh g9 g10 g12 g11 c1 c2 c3
  · intro r sh1 I1 A1 ad1 H1 locs1 hp hlen had hokr hokh g9 g10 g12 g11
    exact kk r sh1 I1 A1 ad1 H1 locs1 hp (had 0 h0) hokh g9 g10 g12 g11
