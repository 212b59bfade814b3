/-! System.arraycopy between two arrays of numbers -/
def g_cp (A : ab_F) (x y n : Nat) : ab_F := wrow A x (va_cpy (A y) (A x) 0 0 n)
theorem g_copy {M : ab_M} {d : Nat} {C : ab_X} {P : ab_O → Prop} {pc n : Nat} {ls : List (Option Value)} {st : List Value} {sh : List ab_S} {I A : ab_F} {bc bs : Nat} {x y N0 N1 L idx : Nat} (hw1 : Cond.methodLink M.1.cls idx arraycopyName ∈ ab_ws) (hw2 : Cond.native arraycopyName ∈ ab_ws) (hw3 : Cond.static arraycopyName ∈ ab_ws) (hw4 : Cond.initialized "java/lang/System" ∈ ab_ws) (dg : decode M.2.1 pc = .ok (.invokestatic idx, 3)) (hy : sh[y]? = some (.inl (.int, N0))) (hx : sh[x]? = some (.inl (.int, N1))) (h0 : L ≤ N0) (h1 : L ≤ N1) (hL : L < 65536) (hd : 1 ≤ d) (hs8 : (st.map fun v => v.category).sum ≤ 8) (hn : pc + 3 = n) (kk : ab_G M d C P n ls st sh I (g_cp A x y L) bc bs) : ab_G M d C P pc ls (.int (nI L) :: .int 0 :: .ref x :: .int 0 :: .ref y :: st) sh I A bc bs := by
  obtain ⟨p, l, e, s, m, args, below, meth, c, D, cT, ac, Ar, ad0, n0, mc, ms⟩ := C
  intro hf ad H locs lsA cells slots h1' h2 h3 h4 h5 h6 h7 h8 h9 h10 h11
  subst hn
  have eL : (nI L).toNatClampNeg = L := nI_clamp (by omega)
  have e0 : (0 : Int32).toNatClampNeg = 0 := rfl
  refine va_copyi hf.1 hf.2.1 (by rw [hf.2.2.1]; exact h8.1.symm) hf.2.2.2.2.2.2.1 (hf.2.2.2.2.2.2.2.1 _ hw1) (hf.2.2.2.2.2.2.2.1 _ hw2) (hf.2.2.2.2.2.2.2.1 _ hw3) (hf.2.2.2.2.2.2.2.1 _ hw4) hf.2.2.2.2.2.2.2.2.1 h9 h10 h11 y x 0 0 (ab_w_at hy) (ab_w_at hx) rfl rfl rfl (by decide) (by decide) (nI_pos (by omega)) (by rw [eL, e0]; omega) (by rw [eL, e0]; omega) (fun i _ => rfl) hd ?_ dg (fun H1 locs1 g9 g10 g11 => ?_)
  · have hN : nativeFrameWords "java/lang/System" "arraycopy" 5 + 11 ≤ 92 := by decide +kernel
    have hc : ((st.map (ab_v ad ac)).map fun v => v.category).sum ≤ 8 := by
      rw [List.map_map, show ((fun v : Value => v.category) ∘ ab_v ad ac) = (fun v => v.category) from funext (fun v => ab_cat ad ac v)]
      exact hs8
    show _ ≤ 100 * d
    omega
  · rw [eL, e0] at g9 g10
    have e1 : (ab_w cT ad ac I A 0 sh).set x (ad x, .inl (cT .int, N1, .inl (va_cpy (A y) (A x) 0 0 L))) = ab_w cT ad ac I (g_cp A x y L) 0 sh := by
      rw [show va_cpy (A y) (A x) 0 0 L = g_cp A x y L x from (wrow_at _ _ _).symm]
      exact ab_w_set (A' := g_cp A x y L) hx hx (fun _ _ => rfl) (fun _ _ => rfl) (fun j hj => wrow_ne hj)
    rw [e1] at g9 g10
    exact kk hf ad H1 locs1 lsA cells slots h1' h2 h3 h4 h5 h6 (ab_ot (ab_ot (ab_ot (ab_ot (ab_ot h7))))) h8 g9 g10 g11
