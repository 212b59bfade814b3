theorem ab_oc {n : Nat} {v : Value} {st : List Value} (h : ab_ok n v) (hs : ab_okV n st) : ab_okV n (v :: st) := fun w hw => by
  rcases List.mem_cons.mp hw with e | e
  · rw [e]; exact h
  · exact hs w e
theorem ab_ot {n : Nat} {v : Value} {st : List Value} (hs : ab_okV n (v :: st)) : ab_okV n st := fun w hw => hs w (List.mem_cons_of_mem _ hw)
theorem ab_oh {n : Nat} {v : Value} {st : List Value} (hs : ab_okV n (v :: st)) : ab_ok n v := hs v List.mem_cons_self
theorem ab_ol {n i : Nat} {v : Value} {ls : List (Option Value)} (h : ab_okL n ls) (hl : ls[i]? = some (some v)) : ab_ok n v := h v (List.mem_of_getElem? hl)
theorem ab_os {n i : Nat} {v : Value} {ls : List (Option Value)} (h : ab_okL n ls) (hv : ab_ok n v) : ab_okL n (ls.set i (some v)) := fun w hw => by
  rcases List.mem_or_eq_of_mem_set hw with e | e
  · exact h w e
  · cases e; exact hv
theorem ab_on {n i : Nat} {ls : List (Option Value)} (h : ab_okL n ls) : ab_okL n (ls.set i none) := fun w hw => by
  rcases List.mem_or_eq_of_mem_set hw with e | e
  · exact h w e
  · cases e
theorem g_iconst {M : ab_M} {d : Nat} {C : ab_X} {P : ab_O → Prop} {pc n : Nat} {ls : List (Option Value)} {st : List Value} {sh : List ab_S} {I A : ab_F} {bc bs : Nat} {k : Int} {v : Int32} (dg : decode M.2.1 pc = .ok (.iconst k, 1)) (hv : Int32.ofInt k = v) (hn : pc + 1 = n) (kk : ab_G M d C P n ls (.int v :: st) sh I A bc bs) : ab_G M d C P pc ls st sh I A bc bs := by
  obtain ⟨p, l, e, s, m, args, below, meth, c, D, cT, ac, Ar, ad0, n0, mc, ms⟩ := C
  intro hf ad H locs lsA cells slots h1 h2 h3 h4 h5 h6 h7 h8 h9 h10 h11
  subst hn
  exact lv_iconst hf.1 hf.2.1 dg hv (kk hf ad H locs lsA cells slots h1 h2 h3 h4 h5 h6 (ab_oc trivial h7) h8 h9 h10 h11)
theorem g_bipush {M : ab_M} {d : Nat} {C : ab_X} {P : ab_O → Prop} {pc n : Nat} {ls : List (Option Value)} {st : List Value} {sh : List ab_S} {I A : ab_F} {bc bs : Nat} {k : Int} {v : Int32} (dg : decode M.2.1 pc = .ok (.bipush k, 2)) (hv : (Int8.ofInt k).toInt32 = v) (hn : pc + 2 = n) (kk : ab_G M d C P n ls (.int v :: st) sh I A bc bs) : ab_G M d C P pc ls st sh I A bc bs := by
  obtain ⟨p, l, e, s, m, args, below, meth, c, D, cT, ac, Ar, ad0, n0, mc, ms⟩ := C
  intro hf ad H locs lsA cells slots h1 h2 h3 h4 h5 h6 h7 h8 h9 h10 h11
  subst hn
  exact lv_bipush hf.1 hf.2.1 dg hv (kk hf ad H locs lsA cells slots h1 h2 h3 h4 h5 h6 (ab_oc trivial h7) h8 h9 h10 h11)
theorem g_sipush {M : ab_M} {d : Nat} {C : ab_X} {P : ab_O → Prop} {pc n : Nat} {ls : List (Option Value)} {st : List Value} {sh : List ab_S} {I A : ab_F} {bc bs : Nat} {k : Int} {v : Int32} (dg : decode M.2.1 pc = .ok (.sipush k, 3)) (hv : (Int16.ofInt k).toInt32 = v) (hn : pc + 3 = n) (kk : ab_G M d C P n ls (.int v :: st) sh I A bc bs) : ab_G M d C P pc ls st sh I A bc bs := by
  obtain ⟨p, l, e, s, m, args, below, meth, c, D, cT, ac, Ar, ad0, n0, mc, ms⟩ := C
  intro hf ad H locs lsA cells slots h1 h2 h3 h4 h5 h6 h7 h8 h9 h10 h11
  subst hn
  exact lv_sipush hf.1 hf.2.1 dg hv (kk hf ad H locs lsA cells slots h1 h2 h3 h4 h5 h6 (ab_oc trivial h7) h8 h9 h10 h11)
theorem g_lconst {M : ab_M} {d : Nat} {C : ab_X} {P : ab_O → Prop} {pc n : Nat} {ls : List (Option Value)} {st : List Value} {sh : List ab_S} {I A : ab_F} {bc bs : Nat} {k : Fin 2} {v : Int64} (dg : decode M.2.1 pc = .ok (.lconst k, 1)) (hv : Int64.ofNat (k : Nat) = v) (hn : pc + 1 = n) (kk : ab_G M d C P n ls (.long v :: st) sh I A bc bs) : ab_G M d C P pc ls st sh I A bc bs := by
  obtain ⟨p, l, e, s, m, args, below, meth, c, D, cT, ac, Ar, ad0, n0, mc, ms⟩ := C
  intro hf ad H locs lsA cells slots h1 h2 h3 h4 h5 h6 h7 h8 h9 h10 h11
  subst hn
  exact lv_lconst hf.1 hf.2.1 dg hv (kk hf ad H locs lsA cells slots h1 h2 h3 h4 h5 h6 (ab_oc trivial h7) h8 h9 h10 h11)
theorem g_fconst0 {M : ab_M} {d : Nat} {C : ab_X} {P : ab_O → Prop} {pc n : Nat} {ls : List (Option Value)} {st : List Value} {sh : List ab_S} {I A : ab_F} {bc bs : Nat}  (dg : decode M.2.1 pc = .ok (.fconst 0, 1))  (hn : pc + 1 = n) (kk : ab_G M d C P n ls (.float FP.fconst0 :: st) sh I A bc bs) : ab_G M d C P pc ls st sh I A bc bs := by
  obtain ⟨p, l, e, s, m, args, below, meth, c, D, cT, ac, Ar, ad0, n0, mc, ms⟩ := C
  intro hf ad H locs lsA cells slots h1 h2 h3 h4 h5 h6 h7 h8 h9 h10 h11
  subst hn
  exact lv_fconst0 hf.1 hf.2.1 dg (kk hf ad H locs lsA cells slots h1 h2 h3 h4 h5 h6 (ab_oc trivial h7) h8 h9 h10 h11)
theorem g_fconst1 {M : ab_M} {d : Nat} {C : ab_X} {P : ab_O → Prop} {pc n : Nat} {ls : List (Option Value)} {st : List Value} {sh : List ab_S} {I A : ab_F} {bc bs : Nat}  (dg : decode M.2.1 pc = .ok (.fconst 1, 1))  (hn : pc + 1 = n) (kk : ab_G M d C P n ls (.float FP.fconst1 :: st) sh I A bc bs) : ab_G M d C P pc ls st sh I A bc bs := by
  obtain ⟨p, l, e, s, m, args, below, meth, c, D, cT, ac, Ar, ad0, n0, mc, ms⟩ := C
  intro hf ad H locs lsA cells slots h1 h2 h3 h4 h5 h6 h7 h8 h9 h10 h11
  subst hn
  exact lv_fconst1 hf.1 hf.2.1 dg (kk hf ad H locs lsA cells slots h1 h2 h3 h4 h5 h6 (ab_oc trivial h7) h8 h9 h10 h11)
theorem g_fconst2 {M : ab_M} {d : Nat} {C : ab_X} {P : ab_O → Prop} {pc n : Nat} {ls : List (Option Value)} {st : List Value} {sh : List ab_S} {I A : ab_F} {bc bs : Nat}  (dg : decode M.2.1 pc = .ok (.fconst 2, 1))  (hn : pc + 1 = n) (kk : ab_G M d C P n ls (.float FP.fconst2 :: st) sh I A bc bs) : ab_G M d C P pc ls st sh I A bc bs := by
  obtain ⟨p, l, e, s, m, args, below, meth, c, D, cT, ac, Ar, ad0, n0, mc, ms⟩ := C
  intro hf ad H locs lsA cells slots h1 h2 h3 h4 h5 h6 h7 h8 h9 h10 h11
  subst hn
  exact lv_fconst2 hf.1 hf.2.1 dg (kk hf ad H locs lsA cells slots h1 h2 h3 h4 h5 h6 (ab_oc trivial h7) h8 h9 h10 h11)
theorem g_ldc {M : ab_M} {d : Nat} {C : ab_X} {P : ab_O → Prop} {pc n : Nat} {ls : List (Option Value)} {st : List Value} {sh : List ab_S} {I A : ab_F} {bc bs : Nat} {k : Nat} {v : Int32} (dg : decode M.2.1 pc = .ok (.ldc k, 2)) (hw : Cond.constant M.1.cls k v ∈ ab_ws) (hn : pc + 2 = n) (kk : ab_G M d C P n ls (.int v :: st) sh I A bc bs) : ab_G M d C P pc ls st sh I A bc bs := by
  obtain ⟨p, l, e, s, m, args, below, meth, c, D, cT, ac, Ar, ad0, n0, mc, ms⟩ := C
  intro hf ad H locs lsA cells slots h1 h2 h3 h4 h5 h6 h7 h8 h9 h10 h11
  subst hn
  exact lv_ldc hf.1 hf.2.1 hf.2.2.2.2.2.2.1 (hf.2.2.2.2.2.2.2.1 _ hw) dg (kk hf ad H locs lsA cells slots h1 h2 h3 h4 h5 h6 (ab_oc trivial h7) h8 h9 h10 h11)
theorem g_ldcw {M : ab_M} {d : Nat} {C : ab_X} {P : ab_O → Prop} {pc n : Nat} {ls : List (Option Value)} {st : List Value} {sh : List ab_S} {I A : ab_F} {bc bs : Nat} {k : Nat} {v : Int32} (dg : decode M.2.1 pc = .ok (.ldc_w k, 3)) (hw : Cond.constant M.1.cls k v ∈ ab_ws) (hn : pc + 3 = n) (kk : ab_G M d C P n ls (.int v :: st) sh I A bc bs) : ab_G M d C P pc ls st sh I A bc bs := by
  obtain ⟨p, l, e, s, m, args, below, meth, c, D, cT, ac, Ar, ad0, n0, mc, ms⟩ := C
  intro hf ad H locs lsA cells slots h1 h2 h3 h4 h5 h6 h7 h8 h9 h10 h11
  subst hn
  exact lv_ldcw hf.1 hf.2.1 hf.2.2.2.2.2.2.1 (hf.2.2.2.2.2.2.2.1 _ hw) dg (kk hf ad H locs lsA cells slots h1 h2 h3 h4 h5 h6 (ab_oc trivial h7) h8 h9 h10 h11)
theorem g_ldcf {M : ab_M} {d : Nat} {C : ab_X} {P : ab_O → Prop} {pc n : Nat} {ls : List (Option Value)} {st : List Value} {sh : List ab_S} {I A : ab_F} {bc bs : Nat} {k : Nat} {v : UInt32} (dg : decode M.2.1 pc = .ok (.ldc k, 2)) (hw : Cond.constantFloat M.1.cls k v ∈ ab_ws) (hn : pc + 2 = n) (kk : ab_G M d C P n ls (.float v :: st) sh I A bc bs) : ab_G M d C P pc ls st sh I A bc bs := by
  obtain ⟨p, l, e, s, m, args, below, meth, c, D, cT, ac, Ar, ad0, n0, mc, ms⟩ := C
  intro hf ad H locs lsA cells slots h1 h2 h3 h4 h5 h6 h7 h8 h9 h10 h11
  subst hn
  exact lv_ldcf hf.1 hf.2.1 hf.2.2.2.2.2.2.1 (hf.2.2.2.2.2.2.2.1 _ hw) dg (kk hf ad H locs lsA cells slots h1 h2 h3 h4 h5 h6 (ab_oc trivial h7) h8 h9 h10 h11)
theorem g_ldc2 {M : ab_M} {d : Nat} {C : ab_X} {P : ab_O → Prop} {pc n : Nat} {ls : List (Option Value)} {st : List Value} {sh : List ab_S} {I A : ab_F} {bc bs : Nat} {k : Nat} {v : Int64} (dg : decode M.2.1 pc = .ok (.ldc2_w k, 3)) (hw : Cond.constantLong M.1.cls k v ∈ ab_ws) (hn : pc + 3 = n) (kk : ab_G M d C P n ls (.long v :: st) sh I A bc bs) : ab_G M d C P pc ls st sh I A bc bs := by
  obtain ⟨p, l, e, s, m, args, below, meth, c, D, cT, ac, Ar, ad0, n0, mc, ms⟩ := C
  intro hf ad H locs lsA cells slots h1 h2 h3 h4 h5 h6 h7 h8 h9 h10 h11
  subst hn
  exact lv_ldc2 hf.1 hf.2.1 hf.2.2.2.2.2.2.1 (hf.2.2.2.2.2.2.2.1 _ hw) dg (kk hf ad H locs lsA cells slots h1 h2 h3 h4 h5 h6 (ab_oc trivial h7) h8 h9 h10 h11)
theorem g_null {M : ab_M} {d : Nat} {C : ab_X} {P : ab_O → Prop} {pc n : Nat} {ls : List (Option Value)} {st : List Value} {sh : List ab_S} {I A : ab_F} {bc bs : Nat}  (dg : decode M.2.1 pc = .ok (.aconst_null, 1))  (hn : pc + 1 = n) (kk : ab_G M d C P n ls (.null :: st) sh I A bc bs) : ab_G M d C P pc ls st sh I A bc bs := by
  obtain ⟨p, l, e, s, m, args, below, meth, c, D, cT, ac, Ar, ad0, n0, mc, ms⟩ := C
  intro hf ad H locs lsA cells slots h1 h2 h3 h4 h5 h6 h7 h8 h9 h10 h11
  subst hn
  exact lv_null hf.1 hf.2.1 dg (kk hf ad H locs lsA cells slots h1 h2 h3 h4 h5 h6 (ab_oc trivial h7) h8 h9 h10 h11)
theorem g_ldcS {M : ab_M} {d : Nat} {C : ab_X} {P : ab_O → Prop} {pc n : Nat} {ls : List (Option Value)} {st : List Value} {sh : List ab_S} {I A : ab_F} {bc bs : Nat} {k i : Nat} {tx : String} {bl : List Int32} (dg : decode M.2.1 pc = .ok (.ldc k, 2)) (hs : ab_str[i]? = some (M.1.cls, k, tx, bl)) (hn : pc + 2 = n) (kk : ab_G M d C P n ls (.retAddr (2 * i) :: st) sh I A bc bs) : ab_G M d C P pc ls st sh I A bc bs := by
  obtain ⟨p, l, e, s, m, args, below, meth, c, D, cT, ac, Ar, ad0, n0, mc, ms⟩ := C
  intro hf ad H locs lsA cells slots h1 h2 h3 h4 h5 h6 h7 h8 h9 h10 h11
  subst hn
  exact va_ldcS hf.1 hf.2.1 hf.2.2.2.2.2.2.1 (hf.2.2.2.2.2.2.2.2.2.1.1 i _ hs).1 dg (kk hf ad H locs lsA cells slots h1 h2 h3 h4 h5 h6 (ab_oc trivial h7) h8 h9 h10 h11)
theorem g_iload_n {M : ab_M} {d : Nat} {C : ab_X} {P : ab_O → Prop} {pc n : Nat} {ls : List (Option Value)} {st : List Value} {sh : List ab_S} {I A : ab_F} {bc bs : Nat} {k : Fin 4} {i : Nat} {x : Int32} (dg : decode M.2.1 pc = .ok (.iload_n k, 1)) (hi : (k : Nat) = i) (hl : ls[i]? = some (some (.int x))) (hn : pc + 1 = n) (kk : ab_G M d C P n ls (.int x :: st) sh I A bc bs) : ab_G M d C P pc ls st sh I A bc bs := by
  obtain ⟨p, l, e, s, m, args, below, meth, c, D, cT, ac, Ar, ad0, n0, mc, ms⟩ := C
  intro hf ad H locs lsA cells slots h1 h2 h3 h4 h5 h6 h7 h8 h9 h10 h11
  subst hn
  exact lv_iload_n hf.1 hf.2.1 dg hi (ab_p_at h8 hl) (kk hf ad H locs lsA cells slots h1 h2 h3 h4 h5 h6 (ab_oc trivial h7) h8 h9 h10 h11)
theorem g_iload {M : ab_M} {d : Nat} {C : ab_X} {P : ab_O → Prop} {pc n : Nat} {ls : List (Option Value)} {st : List Value} {sh : List ab_S} {I A : ab_F} {bc bs : Nat} {i : Nat} {x : Int32} (dg : decode M.2.1 pc = .ok (.iload i, 2)) (hl : ls[i]? = some (some (.int x))) (hn : pc + 2 = n) (kk : ab_G M d C P n ls (.int x :: st) sh I A bc bs) : ab_G M d C P pc ls st sh I A bc bs := by
  obtain ⟨p, l, e, s, m, args, below, meth, c, D, cT, ac, Ar, ad0, n0, mc, ms⟩ := C
  intro hf ad H locs lsA cells slots h1 h2 h3 h4 h5 h6 h7 h8 h9 h10 h11
  subst hn
  exact lv_iload hf.1 hf.2.1 dg (ab_p_at h8 hl) (kk hf ad H locs lsA cells slots h1 h2 h3 h4 h5 h6 (ab_oc trivial h7) h8 h9 h10 h11)
theorem g_lload_n {M : ab_M} {d : Nat} {C : ab_X} {P : ab_O → Prop} {pc n : Nat} {ls : List (Option Value)} {st : List Value} {sh : List ab_S} {I A : ab_F} {bc bs : Nat} {k : Fin 4} {i : Nat} {x : Int64} (dg : decode M.2.1 pc = .ok (.lload_n k, 1)) (hi : (k : Nat) = i) (hl : ls[i]? = some (some (.long x))) (hn : pc + 1 = n) (kk : ab_G M d C P n ls (.long x :: st) sh I A bc bs) : ab_G M d C P pc ls st sh I A bc bs := by
  obtain ⟨p, l, e, s, m, args, below, meth, c, D, cT, ac, Ar, ad0, n0, mc, ms⟩ := C
  intro hf ad H locs lsA cells slots h1 h2 h3 h4 h5 h6 h7 h8 h9 h10 h11
  subst hn
  exact lv_lload_n hf.1 hf.2.1 dg hi (ab_p_at h8 hl) (kk hf ad H locs lsA cells slots h1 h2 h3 h4 h5 h6 (ab_oc trivial h7) h8 h9 h10 h11)
theorem g_lload {M : ab_M} {d : Nat} {C : ab_X} {P : ab_O → Prop} {pc n : Nat} {ls : List (Option Value)} {st : List Value} {sh : List ab_S} {I A : ab_F} {bc bs : Nat} {i : Nat} {x : Int64} (dg : decode M.2.1 pc = .ok (.lload i, 2)) (hl : ls[i]? = some (some (.long x))) (hn : pc + 2 = n) (kk : ab_G M d C P n ls (.long x :: st) sh I A bc bs) : ab_G M d C P pc ls st sh I A bc bs := by
  obtain ⟨p, l, e, s, m, args, below, meth, c, D, cT, ac, Ar, ad0, n0, mc, ms⟩ := C
  intro hf ad H locs lsA cells slots h1 h2 h3 h4 h5 h6 h7 h8 h9 h10 h11
  subst hn
  exact lv_lload hf.1 hf.2.1 dg (ab_p_at h8 hl) (kk hf ad H locs lsA cells slots h1 h2 h3 h4 h5 h6 (ab_oc trivial h7) h8 h9 h10 h11)
theorem g_fload_n {M : ab_M} {d : Nat} {C : ab_X} {P : ab_O → Prop} {pc n : Nat} {ls : List (Option Value)} {st : List Value} {sh : List ab_S} {I A : ab_F} {bc bs : Nat} {k : Fin 4} {i : Nat} {x : UInt32} (dg : decode M.2.1 pc = .ok (.fload_n k, 1)) (hi : (k : Nat) = i) (hl : ls[i]? = some (some (.float x))) (hn : pc + 1 = n) (kk : ab_G M d C P n ls (.float x :: st) sh I A bc bs) : ab_G M d C P pc ls st sh I A bc bs := by
  obtain ⟨p, l, e, s, m, args, below, meth, c, D, cT, ac, Ar, ad0, n0, mc, ms⟩ := C
  intro hf ad H locs lsA cells slots h1 h2 h3 h4 h5 h6 h7 h8 h9 h10 h11
  subst hn
  exact lv_fload_n hf.1 hf.2.1 dg hi (ab_p_at h8 hl) (kk hf ad H locs lsA cells slots h1 h2 h3 h4 h5 h6 (ab_oc trivial h7) h8 h9 h10 h11)
theorem g_fload {M : ab_M} {d : Nat} {C : ab_X} {P : ab_O → Prop} {pc n : Nat} {ls : List (Option Value)} {st : List Value} {sh : List ab_S} {I A : ab_F} {bc bs : Nat} {i : Nat} {x : UInt32} (dg : decode M.2.1 pc = .ok (.fload i, 2)) (hl : ls[i]? = some (some (.float x))) (hn : pc + 2 = n) (kk : ab_G M d C P n ls (.float x :: st) sh I A bc bs) : ab_G M d C P pc ls st sh I A bc bs := by
  obtain ⟨p, l, e, s, m, args, below, meth, c, D, cT, ac, Ar, ad0, n0, mc, ms⟩ := C
  intro hf ad H locs lsA cells slots h1 h2 h3 h4 h5 h6 h7 h8 h9 h10 h11
  subst hn
  exact lv_fload hf.1 hf.2.1 dg (ab_p_at h8 hl) (kk hf ad H locs lsA cells slots h1 h2 h3 h4 h5 h6 (ab_oc trivial h7) h8 h9 h10 h11)
theorem g_aload_n {M : ab_M} {d : Nat} {C : ab_X} {P : ab_O → Prop} {pc n : Nat} {ls : List (Option Value)} {st : List Value} {sh : List ab_S} {I A : ab_F} {bc bs : Nat} {k : Fin 4} {i x : Nat} (dg : decode M.2.1 pc = .ok (.aload_n k, 1)) (hi : (k : Nat) = i) (hl : ls[i]? = some (some (.ref x))) (hn : pc + 1 = n) (kk : ab_G M d C P n ls (.ref x :: st) sh I A bc bs) : ab_G M d C P pc ls st sh I A bc bs := by
  obtain ⟨p, l, e, s, m, args, below, meth, c, D, cT, ac, Ar, ad0, n0, mc, ms⟩ := C
  intro hf ad H locs lsA cells slots h1 h2 h3 h4 h5 h6 h7 h8 h9 h10 h11
  subst hn
  exact lv_aload_n hf.1 hf.2.1 dg hi (ab_p_at h8 hl) (kk hf ad H locs lsA cells slots h1 h2 h3 h4 h5 h6 (ab_oc (ab_ol h6 hl) h7) h8 h9 h10 h11)
theorem g_aload {M : ab_M} {d : Nat} {C : ab_X} {P : ab_O → Prop} {pc n : Nat} {ls : List (Option Value)} {st : List Value} {sh : List ab_S} {I A : ab_F} {bc bs : Nat} {i x : Nat} (dg : decode M.2.1 pc = .ok (.aload i, 2)) (hl : ls[i]? = some (some (.ref x))) (hn : pc + 2 = n) (kk : ab_G M d C P n ls (.ref x :: st) sh I A bc bs) : ab_G M d C P pc ls st sh I A bc bs := by
  obtain ⟨p, l, e, s, m, args, below, meth, c, D, cT, ac, Ar, ad0, n0, mc, ms⟩ := C
  intro hf ad H locs lsA cells slots h1 h2 h3 h4 h5 h6 h7 h8 h9 h10 h11
  subst hn
  exact lv_aload hf.1 hf.2.1 dg (ab_p_at h8 hl) (kk hf ad H locs lsA cells slots h1 h2 h3 h4 h5 h6 (ab_oc (ab_ol h6 hl) h7) h8 h9 h10 h11)
theorem g_aload_nK {M : ab_M} {d : Nat} {C : ab_X} {P : ab_O → Prop} {pc n : Nat} {ls : List (Option Value)} {st : List Value} {sh : List ab_S} {I A : ab_F} {bc bs : Nat} {k : Fin 4} {i x : Nat} (dg : decode M.2.1 pc = .ok (.aload_n k, 1)) (hi : (k : Nat) = i) (hl : ls[i]? = some (some (.retAddr x))) (hn : pc + 1 = n) (kk : ab_G M d C P n ls (.retAddr x :: st) sh I A bc bs) : ab_G M d C P pc ls st sh I A bc bs := by
  obtain ⟨p, l, e, s, m, args, below, meth, c, D, cT, ac, Ar, ad0, n0, mc, ms⟩ := C
  intro hf ad H locs lsA cells slots h1 h2 h3 h4 h5 h6 h7 h8 h9 h10 h11
  subst hn
  exact lv_aload_n hf.1 hf.2.1 dg hi (ab_p_at h8 hl) (kk hf ad H locs lsA cells slots h1 h2 h3 h4 h5 h6 (ab_oc (ab_ol h6 hl) h7) h8 h9 h10 h11)
theorem g_aloadK {M : ab_M} {d : Nat} {C : ab_X} {P : ab_O → Prop} {pc n : Nat} {ls : List (Option Value)} {st : List Value} {sh : List ab_S} {I A : ab_F} {bc bs : Nat} {i x : Nat} (dg : decode M.2.1 pc = .ok (.aload i, 2)) (hl : ls[i]? = some (some (.retAddr x))) (hn : pc + 2 = n) (kk : ab_G M d C P n ls (.retAddr x :: st) sh I A bc bs) : ab_G M d C P pc ls st sh I A bc bs := by
  obtain ⟨p, l, e, s, m, args, below, meth, c, D, cT, ac, Ar, ad0, n0, mc, ms⟩ := C
  intro hf ad H locs lsA cells slots h1 h2 h3 h4 h5 h6 h7 h8 h9 h10 h11
  subst hn
  exact lv_aload hf.1 hf.2.1 dg (ab_p_at h8 hl) (kk hf ad H locs lsA cells slots h1 h2 h3 h4 h5 h6 (ab_oc (ab_ol h6 hl) h7) h8 h9 h10 h11)
theorem g_aload_nN {M : ab_M} {d : Nat} {C : ab_X} {P : ab_O → Prop} {pc n : Nat} {ls : List (Option Value)} {st : List Value} {sh : List ab_S} {I A : ab_F} {bc bs : Nat} {k : Fin 4} {i : Nat} (dg : decode M.2.1 pc = .ok (.aload_n k, 1)) (hi : (k : Nat) = i) (hl : ls[i]? = some (some .null)) (hn : pc + 1 = n) (kk : ab_G M d C P n ls (.null :: st) sh I A bc bs) : ab_G M d C P pc ls st sh I A bc bs := by
  obtain ⟨p, l, e, s, m, args, below, meth, c, D, cT, ac, Ar, ad0, n0, mc, ms⟩ := C
  intro hf ad H locs lsA cells slots h1 h2 h3 h4 h5 h6 h7 h8 h9 h10 h11
  subst hn
  exact lv_aload_nN hf.1 hf.2.1 dg hi (ab_p_at h8 hl) (kk hf ad H locs lsA cells slots h1 h2 h3 h4 h5 h6 (ab_oc trivial h7) h8 h9 h10 h11)
theorem g_istore_n {M : ab_M} {d : Nat} {C : ab_X} {P : ab_O → Prop} {pc n : Nat} {ls : List (Option Value)} {st : List Value} {sh : List ab_S} {I A : ab_F} {bc bs : Nat} {k : Fin 4} {i : Nat} {x : Int32} {ls' : List (Option Value)} (dg : decode M.2.1 pc = .ok (.istore_n k, 1)) (hi : (k : Nat) = i) (hc : ab_c1 ls i = true) (hil : i < ls.length) (hnl : i < M.2.2.1) (hn : pc + 1 = n) (hls : (ls.set i (some (.int x))) = ls') (kk : ab_G M d C P n ls' st sh I A bc bs) : ab_G M d C P pc ls (.int x :: st) sh I A bc bs := by
  obtain ⟨p, l, e, s, m, args, below, meth, c, D, cT, ac, Ar, ad0, n0, mc, ms⟩ := C
  intro hf ad H locs lsA cells slots h1 h2 h3 h4 h5 h6 h7 h8 h9 h10 h11
  subst hn
  subst hls
  exact lv_istore_n hf.1 hf.2.1 dg hi h8 hnl rfl (fun ls1 hl1 => kk hf ad H locs ls1 cells slots h1 h2 h3 h4 h5 (ab_os h6 (ab_oh h7)) (ab_ot h7) (ab_store hc hil hl1) h9 h10 h11)
theorem g_istore {M : ab_M} {d : Nat} {C : ab_X} {P : ab_O → Prop} {pc n : Nat} {ls : List (Option Value)} {st : List Value} {sh : List ab_S} {I A : ab_F} {bc bs : Nat} {i : Nat} {x : Int32} {ls' : List (Option Value)} (dg : decode M.2.1 pc = .ok (.istore i, 2))  (hc : ab_c1 ls i = true) (hil : i < ls.length) (hnl : i < M.2.2.1) (hn : pc + 2 = n) (hls : (ls.set i (some (.int x))) = ls') (kk : ab_G M d C P n ls' st sh I A bc bs) : ab_G M d C P pc ls (.int x :: st) sh I A bc bs := by
  obtain ⟨p, l, e, s, m, args, below, meth, c, D, cT, ac, Ar, ad0, n0, mc, ms⟩ := C
  intro hf ad H locs lsA cells slots h1 h2 h3 h4 h5 h6 h7 h8 h9 h10 h11
  subst hn
  subst hls
  exact lv_istore hf.1 hf.2.1 dg  h8 hnl rfl (fun ls1 hl1 => kk hf ad H locs ls1 cells slots h1 h2 h3 h4 h5 (ab_os h6 (ab_oh h7)) (ab_ot h7) (ab_store hc hil hl1) h9 h10 h11)
theorem g_fstore_n {M : ab_M} {d : Nat} {C : ab_X} {P : ab_O → Prop} {pc n : Nat} {ls : List (Option Value)} {st : List Value} {sh : List ab_S} {I A : ab_F} {bc bs : Nat} {k : Fin 4} {i : Nat} {x : UInt32} {ls' : List (Option Value)} (dg : decode M.2.1 pc = .ok (.fstore_n k, 1)) (hi : (k : Nat) = i) (hc : ab_c1 ls i = true) (hil : i < ls.length) (hnl : i < M.2.2.1) (hn : pc + 1 = n) (hls : (ls.set i (some (.float x))) = ls') (kk : ab_G M d C P n ls' st sh I A bc bs) : ab_G M d C P pc ls (.float x :: st) sh I A bc bs := by
  obtain ⟨p, l, e, s, m, args, below, meth, c, D, cT, ac, Ar, ad0, n0, mc, ms⟩ := C
  intro hf ad H locs lsA cells slots h1 h2 h3 h4 h5 h6 h7 h8 h9 h10 h11
  subst hn
  subst hls
  exact lv_fstore_n hf.1 hf.2.1 dg hi h8 hnl rfl (fun ls1 hl1 => kk hf ad H locs ls1 cells slots h1 h2 h3 h4 h5 (ab_os h6 (ab_oh h7)) (ab_ot h7) (ab_store hc hil hl1) h9 h10 h11)
theorem g_astore_n {M : ab_M} {d : Nat} {C : ab_X} {P : ab_O → Prop} {pc n : Nat} {ls : List (Option Value)} {st : List Value} {sh : List ab_S} {I A : ab_F} {bc bs : Nat} {k : Fin 4} {i x : Nat} {ls' : List (Option Value)} (dg : decode M.2.1 pc = .ok (.astore_n k, 1)) (hi : (k : Nat) = i) (hc : ab_c1 ls i = true) (hil : i < ls.length) (hnl : i < M.2.2.1) (hn : pc + 1 = n) (hls : (ls.set i (some (.ref x))) = ls') (kk : ab_G M d C P n ls' st sh I A bc bs) : ab_G M d C P pc ls (.ref x :: st) sh I A bc bs := by
  obtain ⟨p, l, e, s, m, args, below, meth, c, D, cT, ac, Ar, ad0, n0, mc, ms⟩ := C
  intro hf ad H locs lsA cells slots h1 h2 h3 h4 h5 h6 h7 h8 h9 h10 h11
  subst hn
  subst hls
  exact lv_astore_n hf.1 hf.2.1 dg hi h8 hnl rfl (fun ls1 hl1 => kk hf ad H locs ls1 cells slots h1 h2 h3 h4 h5 (ab_os h6 (ab_oh h7)) (ab_ot h7) (ab_store hc hil hl1) h9 h10 h11)
theorem g_astore_nK {M : ab_M} {d : Nat} {C : ab_X} {P : ab_O → Prop} {pc n : Nat} {ls : List (Option Value)} {st : List Value} {sh : List ab_S} {I A : ab_F} {bc bs : Nat} {k : Fin 4} {i x : Nat} {ls' : List (Option Value)} (dg : decode M.2.1 pc = .ok (.astore_n k, 1)) (hi : (k : Nat) = i) (hc : ab_c1 ls i = true) (hil : i < ls.length) (hnl : i < M.2.2.1) (hn : pc + 1 = n) (hls : (ls.set i (some (.retAddr x))) = ls') (kk : ab_G M d C P n ls' st sh I A bc bs) : ab_G M d C P pc ls (.retAddr x :: st) sh I A bc bs := by
  obtain ⟨p, l, e, s, m, args, below, meth, c, D, cT, ac, Ar, ad0, n0, mc, ms⟩ := C
  intro hf ad H locs lsA cells slots h1 h2 h3 h4 h5 h6 h7 h8 h9 h10 h11
  subst hn
  subst hls
  exact lv_astore_n hf.1 hf.2.1 dg hi h8 hnl rfl (fun ls1 hl1 => kk hf ad H locs ls1 cells slots h1 h2 h3 h4 h5 (ab_os h6 (ab_oh h7)) (ab_ot h7) (ab_store hc hil hl1) h9 h10 h11)
theorem g_astore {M : ab_M} {d : Nat} {C : ab_X} {P : ab_O → Prop} {pc n : Nat} {ls : List (Option Value)} {st : List Value} {sh : List ab_S} {I A : ab_F} {bc bs : Nat} {i x : Nat} {ls' : List (Option Value)} (dg : decode M.2.1 pc = .ok (.astore i, 2))  (hc : ab_c1 ls i = true) (hil : i < ls.length) (hnl : i < M.2.2.1) (hn : pc + 2 = n) (hls : (ls.set i (some (.ref x))) = ls') (kk : ab_G M d C P n ls' st sh I A bc bs) : ab_G M d C P pc ls (.ref x :: st) sh I A bc bs := by
  obtain ⟨p, l, e, s, m, args, below, meth, c, D, cT, ac, Ar, ad0, n0, mc, ms⟩ := C
  intro hf ad H locs lsA cells slots h1 h2 h3 h4 h5 h6 h7 h8 h9 h10 h11
  subst hn
  subst hls
  exact lv_astore hf.1 hf.2.1 dg  h8 hnl rfl (fun ls1 hl1 => kk hf ad H locs ls1 cells slots h1 h2 h3 h4 h5 (ab_os h6 (ab_oh h7)) (ab_ot h7) (ab_store hc hil hl1) h9 h10 h11)
theorem g_lstore_n {M : ab_M} {d : Nat} {C : ab_X} {P : ab_O → Prop} {pc n : Nat} {ls : List (Option Value)} {st : List Value} {sh : List ab_S} {I A : ab_F} {bc bs : Nat} {k : Fin 4} {i : Nat} {x : Int64} {ls' : List (Option Value)} (dg : decode M.2.1 pc = .ok (.lstore_n k, 1)) (hi : (k : Nat) = i) (hc : ab_c1 ls i = true) (hil : i < ls.length) (hnl : i + 1 < M.2.2.1) (hn : pc + 1 = n) (hls : ((ls.set i (some (.long x))).set (i + 1) none) = ls') (kk : ab_G M d C P n ls' st sh I A bc bs) : ab_G M d C P pc ls (.long x :: st) sh I A bc bs := by
  obtain ⟨p, l, e, s, m, args, below, meth, c, D, cT, ac, Ar, ad0, n0, mc, ms⟩ := C
  intro hf ad H locs lsA cells slots h1 h2 h3 h4 h5 h6 h7 h8 h9 h10 h11
  subst hn
  subst hls
  exact lv_lstore_n hf.1 hf.2.1 dg hi h8 hnl rfl (fun ls1 hl1 => kk hf ad H locs ls1 cells slots h1 h2 h3 h4 h5 (ab_on (ab_os h6 (ab_oh h7))) (ab_ot h7) (ab_store2 hc hil hl1) h9 h10 h11)
theorem g_lstore {M : ab_M} {d : Nat} {C : ab_X} {P : ab_O → Prop} {pc n : Nat} {ls : List (Option Value)} {st : List Value} {sh : List ab_S} {I A : ab_F} {bc bs : Nat} {i : Nat} {x : Int64} {ls' : List (Option Value)} (dg : decode M.2.1 pc = .ok (.lstore i, 2))  (hc : ab_c1 ls i = true) (hil : i < ls.length) (hnl : i + 1 < M.2.2.1) (hn : pc + 2 = n) (hls : ((ls.set i (some (.long x))).set (i + 1) none) = ls') (kk : ab_G M d C P n ls' st sh I A bc bs) : ab_G M d C P pc ls (.long x :: st) sh I A bc bs := by
  obtain ⟨p, l, e, s, m, args, below, meth, c, D, cT, ac, Ar, ad0, n0, mc, ms⟩ := C
  intro hf ad H locs lsA cells slots h1 h2 h3 h4 h5 h6 h7 h8 h9 h10 h11
  subst hn
  subst hls
  exact lv_lstore hf.1 hf.2.1 dg  h8 hnl rfl (fun ls1 hl1 => kk hf ad H locs ls1 cells slots h1 h2 h3 h4 h5 (ab_on (ab_os h6 (ab_oh h7))) (ab_ot h7) (ab_store2 hc hil hl1) h9 h10 h11)
theorem g_iinc {M : ab_M} {d : Nat} {C : ab_X} {P : ab_O → Prop} {pc n : Nat} {ls : List (Option Value)} {st : List Value} {sh : List ab_S} {I A : ab_F} {bc bs : Nat} {i : Nat} {k : Int} {x v : Int32} {ls' : List (Option Value)} (dg : decode M.2.1 pc = .ok (.iinc i k, 3)) (hl : ls[i]? = some (some (.int x))) (hv : x + Int32.ofInt k = v) (hc : ab_c1 ls i = true) (hnl : i < M.2.2.1) (hn : pc + 3 = n) (hls : (ls.set i (some (.int v))) = ls') (kk : ab_G M d C P n ls' st sh I A bc bs) : ab_G M d C P pc ls st sh I A bc bs := by
  obtain ⟨p, l, e, s, m, args, below, meth, c, D, cT, ac, Ar, ad0, n0, mc, ms⟩ := C
  intro hf ad H locs lsA cells slots h1 h2 h3 h4 h5 h6 h7 h8 h9 h10 h11
  subst hn
  subst hls
  subst hv
  have hm : (i, Value.int x) ∈ ab_p ad ac 0 ls := (ab_p_mem ad ac ls 0 _).mpr ⟨i, .int x, hl, by rw [Nat.zero_add]; rfl⟩
  obtain ⟨kx, hkx⟩ := List.getElem?_of_mem hm
  exact lv_iinc hf.1 hf.2.1 dg h8 hkx rfl hnl rfl (fun ls1 hl1 => kk hf ad H locs ls1 cells slots h1 h2 h3 h4 h5 (ab_os h6 trivial) h7 (ab_store (v := .int (x + Int32.ofInt k)) hc (List.getElem?_eq_some_iff.mp hl).1 hl1) h9 h10 h11)
theorem g_iadd {M : ab_M} {d : Nat} {C : ab_X} {P : ab_O → Prop} {pc n : Nat} {ls : List (Option Value)} {st : List Value} {sh : List ab_S} {I A : ab_F} {bc bs : Nat} {x y : Int32} (dg : decode M.2.1 pc = .ok (.iadd, 1))  (hn : pc + 1 = n) (kk : ab_G M d C P n ls (.int (x + y) :: st) sh I A bc bs) : ab_G M d C P pc ls (.int y :: .int x :: st) sh I A bc bs := by
  obtain ⟨p, l, e, s, m, args, below, meth, c, D, cT, ac, Ar, ad0, n0, mc, ms⟩ := C
  intro hf ad H locs lsA cells slots h1 h2 h3 h4 h5 h6 h7 h8 h9 h10 h11
  subst hn
  exact lv_iadd hf.1 hf.2.1 dg (kk hf ad H locs lsA cells slots h1 h2 h3 h4 h5 h6 (ab_oc trivial (ab_ot (ab_ot h7))) h8 h9 h10 h11)
theorem g_isub {M : ab_M} {d : Nat} {C : ab_X} {P : ab_O → Prop} {pc n : Nat} {ls : List (Option Value)} {st : List Value} {sh : List ab_S} {I A : ab_F} {bc bs : Nat} {x y : Int32} (dg : decode M.2.1 pc = .ok (.isub, 1))  (hn : pc + 1 = n) (kk : ab_G M d C P n ls (.int (x - y) :: st) sh I A bc bs) : ab_G M d C P pc ls (.int y :: .int x :: st) sh I A bc bs := by
  obtain ⟨p, l, e, s, m, args, below, meth, c, D, cT, ac, Ar, ad0, n0, mc, ms⟩ := C
  intro hf ad H locs lsA cells slots h1 h2 h3 h4 h5 h6 h7 h8 h9 h10 h11
  subst hn
  exact lv_isub hf.1 hf.2.1 dg (kk hf ad H locs lsA cells slots h1 h2 h3 h4 h5 h6 (ab_oc trivial (ab_ot (ab_ot h7))) h8 h9 h10 h11)
theorem g_imul {M : ab_M} {d : Nat} {C : ab_X} {P : ab_O → Prop} {pc n : Nat} {ls : List (Option Value)} {st : List Value} {sh : List ab_S} {I A : ab_F} {bc bs : Nat} {x y : Int32} (dg : decode M.2.1 pc = .ok (.imul, 1))  (hn : pc + 1 = n) (kk : ab_G M d C P n ls (.int (x * y) :: st) sh I A bc bs) : ab_G M d C P pc ls (.int y :: .int x :: st) sh I A bc bs := by
  obtain ⟨p, l, e, s, m, args, below, meth, c, D, cT, ac, Ar, ad0, n0, mc, ms⟩ := C
  intro hf ad H locs lsA cells slots h1 h2 h3 h4 h5 h6 h7 h8 h9 h10 h11
  subst hn
  exact lv_imul hf.1 hf.2.1 dg (kk hf ad H locs lsA cells slots h1 h2 h3 h4 h5 h6 (ab_oc trivial (ab_ot (ab_ot h7))) h8 h9 h10 h11)
theorem g_iand {M : ab_M} {d : Nat} {C : ab_X} {P : ab_O → Prop} {pc n : Nat} {ls : List (Option Value)} {st : List Value} {sh : List ab_S} {I A : ab_F} {bc bs : Nat} {x y : Int32} (dg : decode M.2.1 pc = .ok (.iand, 1))  (hn : pc + 1 = n) (kk : ab_G M d C P n ls (.int (x &&& y) :: st) sh I A bc bs) : ab_G M d C P pc ls (.int y :: .int x :: st) sh I A bc bs := by
  obtain ⟨p, l, e, s, m, args, below, meth, c, D, cT, ac, Ar, ad0, n0, mc, ms⟩ := C
  intro hf ad H locs lsA cells slots h1 h2 h3 h4 h5 h6 h7 h8 h9 h10 h11
  subst hn
  exact lv_iand hf.1 hf.2.1 dg (kk hf ad H locs lsA cells slots h1 h2 h3 h4 h5 h6 (ab_oc trivial (ab_ot (ab_ot h7))) h8 h9 h10 h11)
theorem g_ior {M : ab_M} {d : Nat} {C : ab_X} {P : ab_O → Prop} {pc n : Nat} {ls : List (Option Value)} {st : List Value} {sh : List ab_S} {I A : ab_F} {bc bs : Nat} {x y : Int32} (dg : decode M.2.1 pc = .ok (.ior, 1))  (hn : pc + 1 = n) (kk : ab_G M d C P n ls (.int (x ||| y) :: st) sh I A bc bs) : ab_G M d C P pc ls (.int y :: .int x :: st) sh I A bc bs := by
  obtain ⟨p, l, e, s, m, args, below, meth, c, D, cT, ac, Ar, ad0, n0, mc, ms⟩ := C
  intro hf ad H locs lsA cells slots h1 h2 h3 h4 h5 h6 h7 h8 h9 h10 h11
  subst hn
  exact lv_ior hf.1 hf.2.1 dg (kk hf ad H locs lsA cells slots h1 h2 h3 h4 h5 h6 (ab_oc trivial (ab_ot (ab_ot h7))) h8 h9 h10 h11)
theorem g_ixor {M : ab_M} {d : Nat} {C : ab_X} {P : ab_O → Prop} {pc n : Nat} {ls : List (Option Value)} {st : List Value} {sh : List ab_S} {I A : ab_F} {bc bs : Nat} {x y : Int32} (dg : decode M.2.1 pc = .ok (.ixor, 1))  (hn : pc + 1 = n) (kk : ab_G M d C P n ls (.int (x ^^^ y) :: st) sh I A bc bs) : ab_G M d C P pc ls (.int y :: .int x :: st) sh I A bc bs := by
  obtain ⟨p, l, e, s, m, args, below, meth, c, D, cT, ac, Ar, ad0, n0, mc, ms⟩ := C
  intro hf ad H locs lsA cells slots h1 h2 h3 h4 h5 h6 h7 h8 h9 h10 h11
  subst hn
  exact lv_ixor hf.1 hf.2.1 dg (kk hf ad H locs lsA cells slots h1 h2 h3 h4 h5 h6 (ab_oc trivial (ab_ot (ab_ot h7))) h8 h9 h10 h11)
theorem g_ishl {M : ab_M} {d : Nat} {C : ab_X} {P : ab_O → Prop} {pc n : Nat} {ls : List (Option Value)} {st : List Value} {sh : List ab_S} {I A : ab_F} {bc bs : Nat} {x y : Int32} (dg : decode M.2.1 pc = .ok (.ishl, 1))  (hn : pc + 1 = n) (kk : ab_G M d C P n ls (.int (x <<< (y &&& 31)) :: st) sh I A bc bs) : ab_G M d C P pc ls (.int y :: .int x :: st) sh I A bc bs := by
  obtain ⟨p, l, e, s, m, args, below, meth, c, D, cT, ac, Ar, ad0, n0, mc, ms⟩ := C
  intro hf ad H locs lsA cells slots h1 h2 h3 h4 h5 h6 h7 h8 h9 h10 h11
  subst hn
  exact lv_ishl hf.1 hf.2.1 dg (kk hf ad H locs lsA cells slots h1 h2 h3 h4 h5 h6 (ab_oc trivial (ab_ot (ab_ot h7))) h8 h9 h10 h11)
theorem g_ishr {M : ab_M} {d : Nat} {C : ab_X} {P : ab_O → Prop} {pc n : Nat} {ls : List (Option Value)} {st : List Value} {sh : List ab_S} {I A : ab_F} {bc bs : Nat} {x y : Int32} (dg : decode M.2.1 pc = .ok (.ishr, 1))  (hn : pc + 1 = n) (kk : ab_G M d C P n ls (.int (x >>> (y &&& 31)) :: st) sh I A bc bs) : ab_G M d C P pc ls (.int y :: .int x :: st) sh I A bc bs := by
  obtain ⟨p, l, e, s, m, args, below, meth, c, D, cT, ac, Ar, ad0, n0, mc, ms⟩ := C
  intro hf ad H locs lsA cells slots h1 h2 h3 h4 h5 h6 h7 h8 h9 h10 h11
  subst hn
  exact lv_ishr hf.1 hf.2.1 dg (kk hf ad H locs lsA cells slots h1 h2 h3 h4 h5 h6 (ab_oc trivial (ab_ot (ab_ot h7))) h8 h9 h10 h11)
theorem g_iushr {M : ab_M} {d : Nat} {C : ab_X} {P : ab_O → Prop} {pc n : Nat} {ls : List (Option Value)} {st : List Value} {sh : List ab_S} {I A : ab_F} {bc bs : Nat} {x y : Int32} (dg : decode M.2.1 pc = .ok (.iushr, 1))  (hn : pc + 1 = n) (kk : ab_G M d C P n ls (.int ((x.toUInt32 >>> (y.toUInt32 &&& Int32.toUInt32 31)).toInt32) :: st) sh I A bc bs) : ab_G M d C P pc ls (.int y :: .int x :: st) sh I A bc bs := by
  obtain ⟨p, l, e, s, m, args, below, meth, c, D, cT, ac, Ar, ad0, n0, mc, ms⟩ := C
  intro hf ad H locs lsA cells slots h1 h2 h3 h4 h5 h6 h7 h8 h9 h10 h11
  subst hn
  exact lv_iushr hf.1 hf.2.1 dg rfl (kk hf ad H locs lsA cells slots h1 h2 h3 h4 h5 h6 (ab_oc trivial (ab_ot (ab_ot h7))) h8 h9 h10 h11)
theorem g_idiv {M : ab_M} {d : Nat} {C : ab_X} {P : ab_O → Prop} {pc n : Nat} {ls : List (Option Value)} {st : List Value} {sh : List ab_S} {I A : ab_F} {bc bs : Nat} {x y : Int32} (dg : decode M.2.1 pc = .ok (.idiv, 1)) (hne : ¬ y = 0) (hn : pc + 1 = n) (kk : ab_G M d C P n ls (.int (x / y) :: st) sh I A bc bs) : ab_G M d C P pc ls (.int y :: .int x :: st) sh I A bc bs := by
  obtain ⟨p, l, e, s, m, args, below, meth, c, D, cT, ac, Ar, ad0, n0, mc, ms⟩ := C
  intro hf ad H locs lsA cells slots h1 h2 h3 h4 h5 h6 h7 h8 h9 h10 h11
  subst hn
  exact lv_idiv hf.1 hf.2.1 dg hne (kk hf ad H locs lsA cells slots h1 h2 h3 h4 h5 h6 (ab_oc trivial (ab_ot (ab_ot h7))) h8 h9 h10 h11)
theorem g_irem {M : ab_M} {d : Nat} {C : ab_X} {P : ab_O → Prop} {pc n : Nat} {ls : List (Option Value)} {st : List Value} {sh : List ab_S} {I A : ab_F} {bc bs : Nat} {x y : Int32} (dg : decode M.2.1 pc = .ok (.irem, 1)) (hne : ¬ y = 0) (hn : pc + 1 = n) (kk : ab_G M d C P n ls (.int (x - x / y * y) :: st) sh I A bc bs) : ab_G M d C P pc ls (.int y :: .int x :: st) sh I A bc bs := by
  obtain ⟨p, l, e, s, m, args, below, meth, c, D, cT, ac, Ar, ad0, n0, mc, ms⟩ := C
  intro hf ad H locs lsA cells slots h1 h2 h3 h4 h5 h6 h7 h8 h9 h10 h11
  subst hn
  exact lv_irem hf.1 hf.2.1 dg hne (kk hf ad H locs lsA cells slots h1 h2 h3 h4 h5 h6 (ab_oc trivial (ab_ot (ab_ot h7))) h8 h9 h10 h11)
theorem g_ineg {M : ab_M} {d : Nat} {C : ab_X} {P : ab_O → Prop} {pc n : Nat} {ls : List (Option Value)} {st : List Value} {sh : List ab_S} {I A : ab_F} {bc bs : Nat} {x : Int32} (dg : decode M.2.1 pc = .ok (.ineg, 1))  (hn : pc + 1 = n) (kk : ab_G M d C P n ls (.int (-x) :: st) sh I A bc bs) : ab_G M d C P pc ls (.int x :: st) sh I A bc bs := by
  obtain ⟨p, l, e, s, m, args, below, meth, c, D, cT, ac, Ar, ad0, n0, mc, ms⟩ := C
  intro hf ad H locs lsA cells slots h1 h2 h3 h4 h5 h6 h7 h8 h9 h10 h11
  subst hn
  exact lv_ineg hf.1 hf.2.1 dg (kk hf ad H locs lsA cells slots h1 h2 h3 h4 h5 h6 (ab_oc trivial (ab_ot h7)) h8 h9 h10 h11)
theorem g_ladd {M : ab_M} {d : Nat} {C : ab_X} {P : ab_O → Prop} {pc n : Nat} {ls : List (Option Value)} {st : List Value} {sh : List ab_S} {I A : ab_F} {bc bs : Nat} {x y : Int64} (dg : decode M.2.1 pc = .ok (.ladd, 1))  (hn : pc + 1 = n) (kk : ab_G M d C P n ls (.long (x + y) :: st) sh I A bc bs) : ab_G M d C P pc ls (.long y :: .long x :: st) sh I A bc bs := by
  obtain ⟨p, l, e, s, m, args, below, meth, c, D, cT, ac, Ar, ad0, n0, mc, ms⟩ := C
  intro hf ad H locs lsA cells slots h1 h2 h3 h4 h5 h6 h7 h8 h9 h10 h11
  subst hn
  exact lv_ladd hf.1 hf.2.1 dg (kk hf ad H locs lsA cells slots h1 h2 h3 h4 h5 h6 (ab_oc trivial (ab_ot (ab_ot h7))) h8 h9 h10 h11)
theorem g_lsub {M : ab_M} {d : Nat} {C : ab_X} {P : ab_O → Prop} {pc n : Nat} {ls : List (Option Value)} {st : List Value} {sh : List ab_S} {I A : ab_F} {bc bs : Nat} {x y : Int64} (dg : decode M.2.1 pc = .ok (.lsub, 1))  (hn : pc + 1 = n) (kk : ab_G M d C P n ls (.long (x - y) :: st) sh I A bc bs) : ab_G M d C P pc ls (.long y :: .long x :: st) sh I A bc bs := by
  obtain ⟨p, l, e, s, m, args, below, meth, c, D, cT, ac, Ar, ad0, n0, mc, ms⟩ := C
  intro hf ad H locs lsA cells slots h1 h2 h3 h4 h5 h6 h7 h8 h9 h10 h11
  subst hn
  exact lv_lsub hf.1 hf.2.1 dg (kk hf ad H locs lsA cells slots h1 h2 h3 h4 h5 h6 (ab_oc trivial (ab_ot (ab_ot h7))) h8 h9 h10 h11)
theorem g_land {M : ab_M} {d : Nat} {C : ab_X} {P : ab_O → Prop} {pc n : Nat} {ls : List (Option Value)} {st : List Value} {sh : List ab_S} {I A : ab_F} {bc bs : Nat} {x y : Int64} (dg : decode M.2.1 pc = .ok (.land, 1))  (hn : pc + 1 = n) (kk : ab_G M d C P n ls (.long (x &&& y) :: st) sh I A bc bs) : ab_G M d C P pc ls (.long y :: .long x :: st) sh I A bc bs := by
  obtain ⟨p, l, e, s, m, args, below, meth, c, D, cT, ac, Ar, ad0, n0, mc, ms⟩ := C
  intro hf ad H locs lsA cells slots h1 h2 h3 h4 h5 h6 h7 h8 h9 h10 h11
  subst hn
  exact lv_land hf.1 hf.2.1 dg (kk hf ad H locs lsA cells slots h1 h2 h3 h4 h5 h6 (ab_oc trivial (ab_ot (ab_ot h7))) h8 h9 h10 h11)
theorem g_lor {M : ab_M} {d : Nat} {C : ab_X} {P : ab_O → Prop} {pc n : Nat} {ls : List (Option Value)} {st : List Value} {sh : List ab_S} {I A : ab_F} {bc bs : Nat} {x y : Int64} (dg : decode M.2.1 pc = .ok (.lor, 1))  (hn : pc + 1 = n) (kk : ab_G M d C P n ls (.long (x ||| y) :: st) sh I A bc bs) : ab_G M d C P pc ls (.long y :: .long x :: st) sh I A bc bs := by
  obtain ⟨p, l, e, s, m, args, below, meth, c, D, cT, ac, Ar, ad0, n0, mc, ms⟩ := C
  intro hf ad H locs lsA cells slots h1 h2 h3 h4 h5 h6 h7 h8 h9 h10 h11
  subst hn
  exact lv_lor hf.1 hf.2.1 dg (kk hf ad H locs lsA cells slots h1 h2 h3 h4 h5 h6 (ab_oc trivial (ab_ot (ab_ot h7))) h8 h9 h10 h11)
theorem g_lushr {M : ab_M} {d : Nat} {C : ab_X} {P : ab_O → Prop} {pc n : Nat} {ls : List (Option Value)} {st : List Value} {sh : List ab_S} {I A : ab_F} {bc bs : Nat} {x : Int64} {y : Int32} (dg : decode M.2.1 pc = .ok (.lushr, 1))  (hn : pc + 1 = n) (kk : ab_G M d C P n ls (.long ((x.toUInt64 >>> (y.toInt64.toUInt64 &&& Int64.toUInt64 63)).toInt64) :: st) sh I A bc bs) : ab_G M d C P pc ls (.int y :: .long x :: st) sh I A bc bs := by
  obtain ⟨p, l, e, s, m, args, below, meth, c, D, cT, ac, Ar, ad0, n0, mc, ms⟩ := C
  intro hf ad H locs lsA cells slots h1 h2 h3 h4 h5 h6 h7 h8 h9 h10 h11
  subst hn
  exact lv_lushr hf.1 hf.2.1 dg rfl (kk hf ad H locs lsA cells slots h1 h2 h3 h4 h5 h6 (ab_oc trivial (ab_ot (ab_ot h7))) h8 h9 h10 h11)
theorem g_lshl {M : ab_M} {d : Nat} {C : ab_X} {P : ab_O → Prop} {pc n : Nat} {ls : List (Option Value)} {st : List Value} {sh : List ab_S} {I A : ab_F} {bc bs : Nat} {x : Int64} {y : Int32} (dg : decode M.2.1 pc = .ok (.lshl, 1))  (hn : pc + 1 = n) (kk : ab_G M d C P n ls (.long (x <<< (y.toInt64 &&& 63)) :: st) sh I A bc bs) : ab_G M d C P pc ls (.int y :: .long x :: st) sh I A bc bs := by
  obtain ⟨p, l, e, s, m, args, below, meth, c, D, cT, ac, Ar, ad0, n0, mc, ms⟩ := C
  intro hf ad H locs lsA cells slots h1 h2 h3 h4 h5 h6 h7 h8 h9 h10 h11
  subst hn
  exact lv_lshl hf.1 hf.2.1 dg rfl (kk hf ad H locs lsA cells slots h1 h2 h3 h4 h5 h6 (ab_oc trivial (ab_ot (ab_ot h7))) h8 h9 h10 h11)
theorem g_i2l {M : ab_M} {d : Nat} {C : ab_X} {P : ab_O → Prop} {pc n : Nat} {ls : List (Option Value)} {st : List Value} {sh : List ab_S} {I A : ab_F} {bc bs : Nat} {x : Int32} (dg : decode M.2.1 pc = .ok (.i2l, 1))  (hn : pc + 1 = n) (kk : ab_G M d C P n ls (.long x.toInt64 :: st) sh I A bc bs) : ab_G M d C P pc ls (.int x :: st) sh I A bc bs := by
  obtain ⟨p, l, e, s, m, args, below, meth, c, D, cT, ac, Ar, ad0, n0, mc, ms⟩ := C
  intro hf ad H locs lsA cells slots h1 h2 h3 h4 h5 h6 h7 h8 h9 h10 h11
  subst hn
  exact lv_i2l hf.1 hf.2.1 dg rfl (kk hf ad H locs lsA cells slots h1 h2 h3 h4 h5 h6 (ab_oc trivial (ab_ot h7)) h8 h9 h10 h11)
theorem g_l2i {M : ab_M} {d : Nat} {C : ab_X} {P : ab_O → Prop} {pc n : Nat} {ls : List (Option Value)} {st : List Value} {sh : List ab_S} {I A : ab_F} {bc bs : Nat} {x : Int64} (dg : decode M.2.1 pc = .ok (.l2i, 1))  (hn : pc + 1 = n) (kk : ab_G M d C P n ls (.int x.toInt32 :: st) sh I A bc bs) : ab_G M d C P pc ls (.long x :: st) sh I A bc bs := by
  obtain ⟨p, l, e, s, m, args, below, meth, c, D, cT, ac, Ar, ad0, n0, mc, ms⟩ := C
  intro hf ad H locs lsA cells slots h1 h2 h3 h4 h5 h6 h7 h8 h9 h10 h11
  subst hn
  exact lv_l2i hf.1 hf.2.1 dg rfl (kk hf ad H locs lsA cells slots h1 h2 h3 h4 h5 h6 (ab_oc trivial (ab_ot h7)) h8 h9 h10 h11)
theorem g_i2b {M : ab_M} {d : Nat} {C : ab_X} {P : ab_O → Prop} {pc n : Nat} {ls : List (Option Value)} {st : List Value} {sh : List ab_S} {I A : ab_F} {bc bs : Nat} {x : Int32} (dg : decode M.2.1 pc = .ok (.i2b, 1))  (hn : pc + 1 = n) (kk : ab_G M d C P n ls (.int x.toInt8.toInt32 :: st) sh I A bc bs) : ab_G M d C P pc ls (.int x :: st) sh I A bc bs := by
  obtain ⟨p, l, e, s, m, args, below, meth, c, D, cT, ac, Ar, ad0, n0, mc, ms⟩ := C
  intro hf ad H locs lsA cells slots h1 h2 h3 h4 h5 h6 h7 h8 h9 h10 h11
  subst hn
  exact lv_i2b hf.1 hf.2.1 dg rfl (kk hf ad H locs lsA cells slots h1 h2 h3 h4 h5 h6 (ab_oc trivial (ab_ot h7)) h8 h9 h10 h11)
theorem g_i2c {M : ab_M} {d : Nat} {C : ab_X} {P : ab_O → Prop} {pc n : Nat} {ls : List (Option Value)} {st : List Value} {sh : List ab_S} {I A : ab_F} {bc bs : Nat} {x : Int32} (dg : decode M.2.1 pc = .ok (.i2c, 1))  (hn : pc + 1 = n) (kk : ab_G M d C P n ls (.int (x.toUInt32 % 65536).toInt32 :: st) sh I A bc bs) : ab_G M d C P pc ls (.int x :: st) sh I A bc bs := by
  obtain ⟨p, l, e, s, m, args, below, meth, c, D, cT, ac, Ar, ad0, n0, mc, ms⟩ := C
  intro hf ad H locs lsA cells slots h1 h2 h3 h4 h5 h6 h7 h8 h9 h10 h11
  subst hn
  exact lv_i2c hf.1 hf.2.1 dg rfl (kk hf ad H locs lsA cells slots h1 h2 h3 h4 h5 h6 (ab_oc trivial (ab_ot h7)) h8 h9 h10 h11)
theorem g_i2f {M : ab_M} {d : Nat} {C : ab_X} {P : ab_O → Prop} {pc n : Nat} {ls : List (Option Value)} {st : List Value} {sh : List ab_S} {I A : ab_F} {bc bs : Nat} {x : Int32} (dg : decode M.2.1 pc = .ok (.i2f, 1))  (hn : pc + 1 = n) (kk : ab_G M d C P n ls (.float (FP.i2f x) :: st) sh I A bc bs) : ab_G M d C P pc ls (.int x :: st) sh I A bc bs := by
  obtain ⟨p, l, e, s, m, args, below, meth, c, D, cT, ac, Ar, ad0, n0, mc, ms⟩ := C
  intro hf ad H locs lsA cells slots h1 h2 h3 h4 h5 h6 h7 h8 h9 h10 h11
  subst hn
  exact lv_i2f hf.1 hf.2.1 dg (kk hf ad H locs lsA cells slots h1 h2 h3 h4 h5 h6 (ab_oc trivial (ab_ot h7)) h8 h9 h10 h11)
theorem g_f2i {M : ab_M} {d : Nat} {C : ab_X} {P : ab_O → Prop} {pc n : Nat} {ls : List (Option Value)} {st : List Value} {sh : List ab_S} {I A : ab_F} {bc bs : Nat} {x : UInt32} (dg : decode M.2.1 pc = .ok (.f2i, 1))  (hn : pc + 1 = n) (kk : ab_G M d C P n ls (.int (FP.f2i x) :: st) sh I A bc bs) : ab_G M d C P pc ls (.float x :: st) sh I A bc bs := by
  obtain ⟨p, l, e, s, m, args, below, meth, c, D, cT, ac, Ar, ad0, n0, mc, ms⟩ := C
  intro hf ad H locs lsA cells slots h1 h2 h3 h4 h5 h6 h7 h8 h9 h10 h11
  subst hn
  exact lv_f2i hf.1 hf.2.1 dg (kk hf ad H locs lsA cells slots h1 h2 h3 h4 h5 h6 (ab_oc trivial (ab_ot h7)) h8 h9 h10 h11)
theorem g_fmul {M : ab_M} {d : Nat} {C : ab_X} {P : ab_O → Prop} {pc n : Nat} {ls : List (Option Value)} {st : List Value} {sh : List ab_S} {I A : ab_F} {bc bs : Nat} {x y : UInt32} (dg : decode M.2.1 pc = .ok (.fmul, 1)) (hne : vf_n32 (FP.fmul x y)) (hn : pc + 1 = n) (kk : ab_G M d C P n ls (.float (FP.fmul x y) :: st) sh I A bc bs) : ab_G M d C P pc ls (.float y :: .float x :: st) sh I A bc bs := by
  obtain ⟨p, l, e, s, m, args, below, meth, c, D, cT, ac, Ar, ad0, n0, mc, ms⟩ := C
  intro hf ad H locs lsA cells slots h1 h2 h3 h4 h5 h6 h7 h8 h9 h10 h11
  subst hn
  exact lv_fmul hf.1 hf.2.1 dg hne (kk hf ad H locs lsA cells slots h1 h2 h3 h4 h5 h6 (ab_oc trivial (ab_ot (ab_ot h7))) h8 h9 h10 h11)
theorem g_fdiv {M : ab_M} {d : Nat} {C : ab_X} {P : ab_O → Prop} {pc n : Nat} {ls : List (Option Value)} {st : List Value} {sh : List ab_S} {I A : ab_F} {bc bs : Nat} {x y : UInt32} (dg : decode M.2.1 pc = .ok (.fdiv, 1)) (hne : vf_n32 (FP.fdiv x y)) (hn : pc + 1 = n) (kk : ab_G M d C P n ls (.float (FP.fdiv x y) :: st) sh I A bc bs) : ab_G M d C P pc ls (.float y :: .float x :: st) sh I A bc bs := by
  obtain ⟨p, l, e, s, m, args, below, meth, c, D, cT, ac, Ar, ad0, n0, mc, ms⟩ := C
  intro hf ad H locs lsA cells slots h1 h2 h3 h4 h5 h6 h7 h8 h9 h10 h11
  subst hn
  exact lv_fdiv hf.1 hf.2.1 dg hne (kk hf ad H locs lsA cells slots h1 h2 h3 h4 h5 h6 (ab_oc trivial (ab_ot (ab_ot h7))) h8 h9 h10 h11)
theorem g_fcmp {M : ab_M} {d : Nat} {C : ab_X} {P : ab_O → Prop} {pc n : Nat} {ls : List (Option Value)} {st : List Value} {sh : List ab_S} {I A : ab_F} {bc bs : Nat} {x y : UInt32} {op : CmpOp} (dg : decode M.2.1 pc = .ok (.fcmp op, 1))  (hn : pc + 1 = n) (kk : ab_G M d C P n ls (.int (Op.cmpValue (FP.fcmp x y) op) :: st) sh I A bc bs) : ab_G M d C P pc ls (.float y :: .float x :: st) sh I A bc bs := by
  obtain ⟨p, l, e, s, m, args, below, meth, c, D, cT, ac, Ar, ad0, n0, mc, ms⟩ := C
  intro hf ad H locs lsA cells slots h1 h2 h3 h4 h5 h6 h7 h8 h9 h10 h11
  subst hn
  exact lv_fcmp hf.1 hf.2.1 dg (kk hf ad H locs lsA cells slots h1 h2 h3 h4 h5 h6 (ab_oc trivial (ab_ot (ab_ot h7))) h8 h9 h10 h11)
theorem g_dup {M : ab_M} {d : Nat} {C : ab_X} {P : ab_O → Prop} {pc n : Nat} {ls : List (Option Value)} {st : List Value} {sh : List ab_S} {I A : ab_F} {bc bs : Nat} {v : Value} (dg : decode M.2.1 pc = .ok (.dup, 1)) (hv : v.category = 1) (hn : pc + 1 = n) (kk : ab_G M d C P n ls (v :: v :: st) sh I A bc bs) : ab_G M d C P pc ls (v :: st) sh I A bc bs := by
  obtain ⟨p, l, e, s, m, args, below, meth, c, D, cT, ac, Ar, ad0, n0, mc, ms⟩ := C
  intro hf ad H locs lsA cells slots h1 h2 h3 h4 h5 h6 h7 h8 h9 h10 h11
  subst hn
  exact lv_dup hf.1 hf.2.1 dg ((ab_cat ad ac v).trans hv) (kk hf ad H locs lsA cells slots h1 h2 h3 h4 h5 h6 (ab_oc (ab_oh h7) h7) h8 h9 h10 h11)
theorem g_pop {M : ab_M} {d : Nat} {C : ab_X} {P : ab_O → Prop} {pc n : Nat} {ls : List (Option Value)} {st : List Value} {sh : List ab_S} {I A : ab_F} {bc bs : Nat} {v : Value} (dg : decode M.2.1 pc = .ok (.pop, 1)) (hv : v.category = 1) (hn : pc + 1 = n) (kk : ab_G M d C P n ls st sh I A bc bs) : ab_G M d C P pc ls (v :: st) sh I A bc bs := by
  obtain ⟨p, l, e, s, m, args, below, meth, c, D, cT, ac, Ar, ad0, n0, mc, ms⟩ := C
  intro hf ad H locs lsA cells slots h1 h2 h3 h4 h5 h6 h7 h8 h9 h10 h11
  subst hn
  exact lv_pop hf.1 hf.2.1 dg ((ab_cat ad ac v).trans hv) (kk hf ad H locs lsA cells slots h1 h2 h3 h4 h5 h6 (ab_ot h7) h8 h9 h10 h11)
theorem g_dup_x1 {M : ab_M} {d : Nat} {C : ab_X} {P : ab_O → Prop} {pc n : Nat} {ls : List (Option Value)} {st : List Value} {sh : List ab_S} {I A : ab_F} {bc bs : Nat} {v w : Value} (dg : decode M.2.1 pc = .ok (.dup_x1, 1)) (hv : v.category = 1) (hw : w.category = 1) (hn : pc + 1 = n) (kk : ab_G M d C P n ls (v :: w :: v :: st) sh I A bc bs) : ab_G M d C P pc ls (v :: w :: st) sh I A bc bs := by
  obtain ⟨p, l, e, s, m, args, below, meth, c, D, cT, ac, Ar, ad0, n0, mc, ms⟩ := C
  intro hf ad H locs lsA cells slots h1 h2 h3 h4 h5 h6 h7 h8 h9 h10 h11
  subst hn
  exact lv_dup_x1 hf.1 hf.2.1 dg ((ab_cat ad ac v).trans hv) ((ab_cat ad ac w).trans hw) (kk hf ad H locs lsA cells slots h1 h2 h3 h4 h5 h6 (ab_oc (ab_oh h7) (ab_oc (ab_oh (ab_ot h7)) (ab_oc (ab_oh h7) (ab_ot (ab_ot h7))))) h8 h9 h10 h11)
theorem g_dup2 {M : ab_M} {d : Nat} {C : ab_X} {P : ab_O → Prop} {pc n : Nat} {ls : List (Option Value)} {st : List Value} {sh : List ab_S} {I A : ab_F} {bc bs : Nat} {v w : Value} (dg : decode M.2.1 pc = .ok (.dup2, 1)) (hv : v.category = 1) (hw : w.category = 1) (hn : pc + 1 = n) (kk : ab_G M d C P n ls (v :: w :: v :: w :: st) sh I A bc bs) : ab_G M d C P pc ls (v :: w :: st) sh I A bc bs := by
  obtain ⟨p, l, e, s, m, args, below, meth, c, D, cT, ac, Ar, ad0, n0, mc, ms⟩ := C
  intro hf ad H locs lsA cells slots h1 h2 h3 h4 h5 h6 h7 h8 h9 h10 h11
  subst hn
  exact lv_dup2_11 hf.1 hf.2.1 dg ((ab_cat ad ac v).trans hv) ((ab_cat ad ac w).trans hw) (kk hf ad H locs lsA cells slots h1 h2 h3 h4 h5 h6 (ab_oc (ab_oh h7) (ab_oc (ab_oh (ab_ot h7)) h7)) h8 h9 h10 h11)
theorem g_if_eq {M : ab_M} {d : Nat} {C : ab_X} {P : ab_O → Prop} {pc n : Nat} {ls : List (Option Value)} {st : List Value} {sh : List ab_S} {I A : ab_F} {bc bs : Nat} {x : Int32} {off : Int} (tgt : Nat) (dg : decode M.2.1 pc = .ok (.ifCond .eq off, 3)) (ht : (pc : Int) + off = (tgt : Int)) (hn : pc + 3 = n) (kt : x = 0 → ab_G M d C P tgt ls st sh I A bc bs) (kf : ¬ x = 0 → ab_G M d C P n ls st sh I A bc bs) : ab_G M d C P pc ls (.int x :: st) sh I A bc bs := by
  obtain ⟨p, l, e, s, m, args, below, meth, c, D, cT, ac, Ar, ad0, n0, mc, ms⟩ := C
  intro hf ad H locs lsA cells slots h1 h2 h3 h4 h5 h6 h7 h8 h9 h10 h11
  subst hn
  exact lv_if_eq hf.1 hf.2.1 dg ht (fun q => kt q hf ad H locs lsA cells slots h1 h2 h3 h4 h5 h6 (ab_ot h7) h8 h9 h10 h11) (fun q => kf q hf ad H locs lsA cells slots h1 h2 h3 h4 h5 h6 (ab_ot h7) h8 h9 h10 h11)
theorem g_icmp_eq {M : ab_M} {d : Nat} {C : ab_X} {P : ab_O → Prop} {pc n : Nat} {ls : List (Option Value)} {st : List Value} {sh : List ab_S} {I A : ab_F} {bc bs : Nat} {x y : Int32} {off : Int} (tgt : Nat) (dg : decode M.2.1 pc = .ok (.if_icmp .eq off, 3)) (ht : (pc : Int) + off = (tgt : Int)) (hn : pc + 3 = n) (kt : x = y → ab_G M d C P tgt ls st sh I A bc bs) (kf : ¬ x = y → ab_G M d C P n ls st sh I A bc bs) : ab_G M d C P pc ls (.int y :: .int x :: st) sh I A bc bs := by
  obtain ⟨p, l, e, s, m, args, below, meth, c, D, cT, ac, Ar, ad0, n0, mc, ms⟩ := C
  intro hf ad H locs lsA cells slots h1 h2 h3 h4 h5 h6 h7 h8 h9 h10 h11
  subst hn
  exact lv_icmp_eq hf.1 hf.2.1 dg ht (fun q => kt q hf ad H locs lsA cells slots h1 h2 h3 h4 h5 h6 (ab_ot (ab_ot h7)) h8 h9 h10 h11) (fun q => kf q hf ad H locs lsA cells slots h1 h2 h3 h4 h5 h6 (ab_ot (ab_ot h7)) h8 h9 h10 h11)
theorem g_if_ne {M : ab_M} {d : Nat} {C : ab_X} {P : ab_O → Prop} {pc n : Nat} {ls : List (Option Value)} {st : List Value} {sh : List ab_S} {I A : ab_F} {bc bs : Nat} {x : Int32} {off : Int} (tgt : Nat) (dg : decode M.2.1 pc = .ok (.ifCond .ne off, 3)) (ht : (pc : Int) + off = (tgt : Int)) (hn : pc + 3 = n) (kt : ¬ x = 0 → ab_G M d C P tgt ls st sh I A bc bs) (kf : x = 0 → ab_G M d C P n ls st sh I A bc bs) : ab_G M d C P pc ls (.int x :: st) sh I A bc bs := by
  obtain ⟨p, l, e, s, m, args, below, meth, c, D, cT, ac, Ar, ad0, n0, mc, ms⟩ := C
  intro hf ad H locs lsA cells slots h1 h2 h3 h4 h5 h6 h7 h8 h9 h10 h11
  subst hn
  exact lv_if_ne hf.1 hf.2.1 dg ht (fun q => kt q hf ad H locs lsA cells slots h1 h2 h3 h4 h5 h6 (ab_ot h7) h8 h9 h10 h11) (fun q => kf q hf ad H locs lsA cells slots h1 h2 h3 h4 h5 h6 (ab_ot h7) h8 h9 h10 h11)
theorem g_icmp_ne {M : ab_M} {d : Nat} {C : ab_X} {P : ab_O → Prop} {pc n : Nat} {ls : List (Option Value)} {st : List Value} {sh : List ab_S} {I A : ab_F} {bc bs : Nat} {x y : Int32} {off : Int} (tgt : Nat) (dg : decode M.2.1 pc = .ok (.if_icmp .ne off, 3)) (ht : (pc : Int) + off = (tgt : Int)) (hn : pc + 3 = n) (kt : ¬ x = y → ab_G M d C P tgt ls st sh I A bc bs) (kf : x = y → ab_G M d C P n ls st sh I A bc bs) : ab_G M d C P pc ls (.int y :: .int x :: st) sh I A bc bs := by
  obtain ⟨p, l, e, s, m, args, below, meth, c, D, cT, ac, Ar, ad0, n0, mc, ms⟩ := C
  intro hf ad H locs lsA cells slots h1 h2 h3 h4 h5 h6 h7 h8 h9 h10 h11
  subst hn
  exact lv_icmp_ne hf.1 hf.2.1 dg ht (fun q => kt q hf ad H locs lsA cells slots h1 h2 h3 h4 h5 h6 (ab_ot (ab_ot h7)) h8 h9 h10 h11) (fun q => kf q hf ad H locs lsA cells slots h1 h2 h3 h4 h5 h6 (ab_ot (ab_ot h7)) h8 h9 h10 h11)
theorem g_if_lt {M : ab_M} {d : Nat} {C : ab_X} {P : ab_O → Prop} {pc n : Nat} {ls : List (Option Value)} {st : List Value} {sh : List ab_S} {I A : ab_F} {bc bs : Nat} {x : Int32} {off : Int} (tgt : Nat) (dg : decode M.2.1 pc = .ok (.ifCond .lt off, 3)) (ht : (pc : Int) + off = (tgt : Int)) (hn : pc + 3 = n) (kt : x < 0 → ab_G M d C P tgt ls st sh I A bc bs) (kf : ¬ x < 0 → ab_G M d C P n ls st sh I A bc bs) : ab_G M d C P pc ls (.int x :: st) sh I A bc bs := by
  obtain ⟨p, l, e, s, m, args, below, meth, c, D, cT, ac, Ar, ad0, n0, mc, ms⟩ := C
  intro hf ad H locs lsA cells slots h1 h2 h3 h4 h5 h6 h7 h8 h9 h10 h11
  subst hn
  exact lv_if_lt hf.1 hf.2.1 dg ht (fun q => kt q hf ad H locs lsA cells slots h1 h2 h3 h4 h5 h6 (ab_ot h7) h8 h9 h10 h11) (fun q => kf q hf ad H locs lsA cells slots h1 h2 h3 h4 h5 h6 (ab_ot h7) h8 h9 h10 h11)
theorem g_icmp_lt {M : ab_M} {d : Nat} {C : ab_X} {P : ab_O → Prop} {pc n : Nat} {ls : List (Option Value)} {st : List Value} {sh : List ab_S} {I A : ab_F} {bc bs : Nat} {x y : Int32} {off : Int} (tgt : Nat) (dg : decode M.2.1 pc = .ok (.if_icmp .lt off, 3)) (ht : (pc : Int) + off = (tgt : Int)) (hn : pc + 3 = n) (kt : x < y → ab_G M d C P tgt ls st sh I A bc bs) (kf : ¬ x < y → ab_G M d C P n ls st sh I A bc bs) : ab_G M d C P pc ls (.int y :: .int x :: st) sh I A bc bs := by
  obtain ⟨p, l, e, s, m, args, below, meth, c, D, cT, ac, Ar, ad0, n0, mc, ms⟩ := C
  intro hf ad H locs lsA cells slots h1 h2 h3 h4 h5 h6 h7 h8 h9 h10 h11
  subst hn
  exact lv_icmp_lt hf.1 hf.2.1 dg ht (fun q => kt q hf ad H locs lsA cells slots h1 h2 h3 h4 h5 h6 (ab_ot (ab_ot h7)) h8 h9 h10 h11) (fun q => kf q hf ad H locs lsA cells slots h1 h2 h3 h4 h5 h6 (ab_ot (ab_ot h7)) h8 h9 h10 h11)
theorem g_if_ge {M : ab_M} {d : Nat} {C : ab_X} {P : ab_O → Prop} {pc n : Nat} {ls : List (Option Value)} {st : List Value} {sh : List ab_S} {I A : ab_F} {bc bs : Nat} {x : Int32} {off : Int} (tgt : Nat) (dg : decode M.2.1 pc = .ok (.ifCond .ge off, 3)) (ht : (pc : Int) + off = (tgt : Int)) (hn : pc + 3 = n) (kt : 0 ≤ x → ab_G M d C P tgt ls st sh I A bc bs) (kf : ¬ 0 ≤ x → ab_G M d C P n ls st sh I A bc bs) : ab_G M d C P pc ls (.int x :: st) sh I A bc bs := by
  obtain ⟨p, l, e, s, m, args, below, meth, c, D, cT, ac, Ar, ad0, n0, mc, ms⟩ := C
  intro hf ad H locs lsA cells slots h1 h2 h3 h4 h5 h6 h7 h8 h9 h10 h11
  subst hn
  exact lv_if_ge hf.1 hf.2.1 dg ht (fun q => kt q hf ad H locs lsA cells slots h1 h2 h3 h4 h5 h6 (ab_ot h7) h8 h9 h10 h11) (fun q => kf q hf ad H locs lsA cells slots h1 h2 h3 h4 h5 h6 (ab_ot h7) h8 h9 h10 h11)
theorem g_icmp_ge {M : ab_M} {d : Nat} {C : ab_X} {P : ab_O → Prop} {pc n : Nat} {ls : List (Option Value)} {st : List Value} {sh : List ab_S} {I A : ab_F} {bc bs : Nat} {x y : Int32} {off : Int} (tgt : Nat) (dg : decode M.2.1 pc = .ok (.if_icmp .ge off, 3)) (ht : (pc : Int) + off = (tgt : Int)) (hn : pc + 3 = n) (kt : y ≤ x → ab_G M d C P tgt ls st sh I A bc bs) (kf : ¬ y ≤ x → ab_G M d C P n ls st sh I A bc bs) : ab_G M d C P pc ls (.int y :: .int x :: st) sh I A bc bs := by
  obtain ⟨p, l, e, s, m, args, below, meth, c, D, cT, ac, Ar, ad0, n0, mc, ms⟩ := C
  intro hf ad H locs lsA cells slots h1 h2 h3 h4 h5 h6 h7 h8 h9 h10 h11
  subst hn
  exact lv_icmp_ge hf.1 hf.2.1 dg ht (fun q => kt q hf ad H locs lsA cells slots h1 h2 h3 h4 h5 h6 (ab_ot (ab_ot h7)) h8 h9 h10 h11) (fun q => kf q hf ad H locs lsA cells slots h1 h2 h3 h4 h5 h6 (ab_ot (ab_ot h7)) h8 h9 h10 h11)
theorem g_if_gt {M : ab_M} {d : Nat} {C : ab_X} {P : ab_O → Prop} {pc n : Nat} {ls : List (Option Value)} {st : List Value} {sh : List ab_S} {I A : ab_F} {bc bs : Nat} {x : Int32} {off : Int} (tgt : Nat) (dg : decode M.2.1 pc = .ok (.ifCond .gt off, 3)) (ht : (pc : Int) + off = (tgt : Int)) (hn : pc + 3 = n) (kt : 0 < x → ab_G M d C P tgt ls st sh I A bc bs) (kf : ¬ 0 < x → ab_G M d C P n ls st sh I A bc bs) : ab_G M d C P pc ls (.int x :: st) sh I A bc bs := by
  obtain ⟨p, l, e, s, m, args, below, meth, c, D, cT, ac, Ar, ad0, n0, mc, ms⟩ := C
  intro hf ad H locs lsA cells slots h1 h2 h3 h4 h5 h6 h7 h8 h9 h10 h11
  subst hn
  exact lv_if_gt hf.1 hf.2.1 dg ht (fun q => kt q hf ad H locs lsA cells slots h1 h2 h3 h4 h5 h6 (ab_ot h7) h8 h9 h10 h11) (fun q => kf q hf ad H locs lsA cells slots h1 h2 h3 h4 h5 h6 (ab_ot h7) h8 h9 h10 h11)
theorem g_icmp_gt {M : ab_M} {d : Nat} {C : ab_X} {P : ab_O → Prop} {pc n : Nat} {ls : List (Option Value)} {st : List Value} {sh : List ab_S} {I A : ab_F} {bc bs : Nat} {x y : Int32} {off : Int} (tgt : Nat) (dg : decode M.2.1 pc = .ok (.if_icmp .gt off, 3)) (ht : (pc : Int) + off = (tgt : Int)) (hn : pc + 3 = n) (kt : y < x → ab_G M d C P tgt ls st sh I A bc bs) (kf : ¬ y < x → ab_G M d C P n ls st sh I A bc bs) : ab_G M d C P pc ls (.int y :: .int x :: st) sh I A bc bs := by
  obtain ⟨p, l, e, s, m, args, below, meth, c, D, cT, ac, Ar, ad0, n0, mc, ms⟩ := C
  intro hf ad H locs lsA cells slots h1 h2 h3 h4 h5 h6 h7 h8 h9 h10 h11
  subst hn
  exact lv_icmp_gt hf.1 hf.2.1 dg ht (fun q => kt q hf ad H locs lsA cells slots h1 h2 h3 h4 h5 h6 (ab_ot (ab_ot h7)) h8 h9 h10 h11) (fun q => kf q hf ad H locs lsA cells slots h1 h2 h3 h4 h5 h6 (ab_ot (ab_ot h7)) h8 h9 h10 h11)
theorem g_if_le {M : ab_M} {d : Nat} {C : ab_X} {P : ab_O → Prop} {pc n : Nat} {ls : List (Option Value)} {st : List Value} {sh : List ab_S} {I A : ab_F} {bc bs : Nat} {x : Int32} {off : Int} (tgt : Nat) (dg : decode M.2.1 pc = .ok (.ifCond .le off, 3)) (ht : (pc : Int) + off = (tgt : Int)) (hn : pc + 3 = n) (kt : x ≤ 0 → ab_G M d C P tgt ls st sh I A bc bs) (kf : ¬ x ≤ 0 → ab_G M d C P n ls st sh I A bc bs) : ab_G M d C P pc ls (.int x :: st) sh I A bc bs := by
  obtain ⟨p, l, e, s, m, args, below, meth, c, D, cT, ac, Ar, ad0, n0, mc, ms⟩ := C
  intro hf ad H locs lsA cells slots h1 h2 h3 h4 h5 h6 h7 h8 h9 h10 h11
  subst hn
  exact lv_if_le hf.1 hf.2.1 dg ht (fun q => kt q hf ad H locs lsA cells slots h1 h2 h3 h4 h5 h6 (ab_ot h7) h8 h9 h10 h11) (fun q => kf q hf ad H locs lsA cells slots h1 h2 h3 h4 h5 h6 (ab_ot h7) h8 h9 h10 h11)
theorem g_icmp_le {M : ab_M} {d : Nat} {C : ab_X} {P : ab_O → Prop} {pc n : Nat} {ls : List (Option Value)} {st : List Value} {sh : List ab_S} {I A : ab_F} {bc bs : Nat} {x y : Int32} {off : Int} (tgt : Nat) (dg : decode M.2.1 pc = .ok (.if_icmp .le off, 3)) (ht : (pc : Int) + off = (tgt : Int)) (hn : pc + 3 = n) (kt : x ≤ y → ab_G M d C P tgt ls st sh I A bc bs) (kf : ¬ x ≤ y → ab_G M d C P n ls st sh I A bc bs) : ab_G M d C P pc ls (.int y :: .int x :: st) sh I A bc bs := by
  obtain ⟨p, l, e, s, m, args, below, meth, c, D, cT, ac, Ar, ad0, n0, mc, ms⟩ := C
  intro hf ad H locs lsA cells slots h1 h2 h3 h4 h5 h6 h7 h8 h9 h10 h11
  subst hn
  exact lv_icmp_le hf.1 hf.2.1 dg ht (fun q => kt q hf ad H locs lsA cells slots h1 h2 h3 h4 h5 h6 (ab_ot (ab_ot h7)) h8 h9 h10 h11) (fun q => kf q hf ad H locs lsA cells slots h1 h2 h3 h4 h5 h6 (ab_ot (ab_ot h7)) h8 h9 h10 h11)
theorem g_goto {M : ab_M} {d : Nat} {C : ab_X} {P : ab_O → Prop} {pc : Nat} {ls : List (Option Value)} {st : List Value} {sh : List ab_S} {I A : ab_F} {bc bs : Nat} {off : Int} (tgt : Nat) (dg : decode M.2.1 pc = .ok (.goto off, 3)) (ht : (pc : Int) + off = (tgt : Int)) (kk : ab_G M d C P tgt ls st sh I A bc bs) : ab_G M d C P pc ls st sh I A bc bs := by
  obtain ⟨p, l, e, s, m, args, below, meth, c, D, cT, ac, Ar, ad0, n0, mc, ms⟩ := C
  intro hf ad H locs lsA cells slots h1 h2 h3 h4 h5 h6 h7 h8 h9 h10 h11
  exact lv_goto hf.1 hf.2.1 dg ht (kk hf ad H locs lsA cells slots h1 h2 h3 h4 h5 h6 h7 h8 h9 h10 h11)
theorem g_ifnonnull {M : ab_M} {d : Nat} {C : ab_X} {P : ab_O → Prop} {pc : Nat} {ls : List (Option Value)} {st : List Value} {sh : List ab_S} {I A : ab_F} {bc bs : Nat} {x : Nat} {off : Int} (tgt : Nat) (dg : decode M.2.1 pc = .ok (.ifnonnull off, 3)) (ht : (pc : Int) + off = (tgt : Int)) (kk : ab_G M d C P tgt ls st sh I A bc bs) : ab_G M d C P pc ls (.ref x :: st) sh I A bc bs := by
  obtain ⟨p, l, e, s, m, args, below, meth, c, D, cT, ac, Ar, ad0, n0, mc, ms⟩ := C
  intro hf ad H locs lsA cells slots h1 h2 h3 h4 h5 h6 h7 h8 h9 h10 h11
  exact lv_ifnonnull hf.1 hf.2.1 dg ht (kk hf ad H locs lsA cells slots h1 h2 h3 h4 h5 h6 (ab_ot h7) h8 h9 h10 h11)
theorem g_ifnull {M : ab_M} {d : Nat} {C : ab_X} {P : ab_O → Prop} {pc n : Nat} {ls : List (Option Value)} {st : List Value} {sh : List ab_S} {I A : ab_F} {bc bs : Nat} {x : Nat} {off : Int} (dg : decode M.2.1 pc = .ok (.ifnull off, 3))  (hn : pc + 3 = n) (kk : ab_G M d C P n ls st sh I A bc bs) : ab_G M d C P pc ls (.ref x :: st) sh I A bc bs := by
  obtain ⟨p, l, e, s, m, args, below, meth, c, D, cT, ac, Ar, ad0, n0, mc, ms⟩ := C
  intro hf ad H locs lsA cells slots h1 h2 h3 h4 h5 h6 h7 h8 h9 h10 h11
  subst hn
  exact lv_ifnull hf.1 hf.2.1 dg (kk hf ad H locs lsA cells slots h1 h2 h3 h4 h5 h6 (ab_ot h7) h8 h9 h10 h11)
theorem g_ifnonnullK {M : ab_M} {d : Nat} {C : ab_X} {P : ab_O → Prop} {pc : Nat} {ls : List (Option Value)} {st : List Value} {sh : List ab_S} {I A : ab_F} {bc bs : Nat} {x : Nat} {off : Int} (tgt : Nat) (dg : decode M.2.1 pc = .ok (.ifnonnull off, 3)) (ht : (pc : Int) + off = (tgt : Int)) (kk : ab_G M d C P tgt ls st sh I A bc bs) : ab_G M d C P pc ls (.retAddr x :: st) sh I A bc bs := by
  obtain ⟨p, l, e, s, m, args, below, meth, c, D, cT, ac, Ar, ad0, n0, mc, ms⟩ := C
  intro hf ad H locs lsA cells slots h1 h2 h3 h4 h5 h6 h7 h8 h9 h10 h11
  exact lv_ifnonnull hf.1 hf.2.1 dg ht (kk hf ad H locs lsA cells slots h1 h2 h3 h4 h5 h6 (ab_ot h7) h8 h9 h10 h11)
theorem g_ifnullK {M : ab_M} {d : Nat} {C : ab_X} {P : ab_O → Prop} {pc n : Nat} {ls : List (Option Value)} {st : List Value} {sh : List ab_S} {I A : ab_F} {bc bs : Nat} {x : Nat} {off : Int} (dg : decode M.2.1 pc = .ok (.ifnull off, 3))  (hn : pc + 3 = n) (kk : ab_G M d C P n ls st sh I A bc bs) : ab_G M d C P pc ls (.retAddr x :: st) sh I A bc bs := by
  obtain ⟨p, l, e, s, m, args, below, meth, c, D, cT, ac, Ar, ad0, n0, mc, ms⟩ := C
  intro hf ad H locs lsA cells slots h1 h2 h3 h4 h5 h6 h7 h8 h9 h10 h11
  subst hn
  exact lv_ifnull hf.1 hf.2.1 dg (kk hf ad H locs lsA cells slots h1 h2 h3 h4 h5 h6 (ab_ot h7) h8 h9 h10 h11)
theorem g_ifnullN {M : ab_M} {d : Nat} {C : ab_X} {P : ab_O → Prop} {pc : Nat} {ls : List (Option Value)} {st : List Value} {sh : List ab_S} {I A : ab_F} {bc bs : Nat} {off : Int} (tgt : Nat) (dg : decode M.2.1 pc = .ok (.ifnull off, 3)) (ht : (pc : Int) + off = (tgt : Int)) (kk : ab_G M d C P tgt ls st sh I A bc bs) : ab_G M d C P pc ls (.null :: st) sh I A bc bs := by
  obtain ⟨p, l, e, s, m, args, below, meth, c, D, cT, ac, Ar, ad0, n0, mc, ms⟩ := C
  intro hf ad H locs lsA cells slots h1 h2 h3 h4 h5 h6 h7 h8 h9 h10 h11
  exact lv_ifnullN hf.1 hf.2.1 dg ht (kk hf ad H locs lsA cells slots h1 h2 h3 h4 h5 h6 (ab_ot h7) h8 h9 h10 h11)
theorem g_ifnonnullN {M : ab_M} {d : Nat} {C : ab_X} {P : ab_O → Prop} {pc n : Nat} {ls : List (Option Value)} {st : List Value} {sh : List ab_S} {I A : ab_F} {bc bs : Nat} {off : Int} (dg : decode M.2.1 pc = .ok (.ifnonnull off, 3))  (hn : pc + 3 = n) (kk : ab_G M d C P n ls st sh I A bc bs) : ab_G M d C P pc ls (.null :: st) sh I A bc bs := by
  obtain ⟨p, l, e, s, m, args, below, meth, c, D, cT, ac, Ar, ad0, n0, mc, ms⟩ := C
  intro hf ad H locs lsA cells slots h1 h2 h3 h4 h5 h6 h7 h8 h9 h10 h11
  subst hn
  exact lv_ifnonnullN hf.1 hf.2.1 dg (kk hf ad H locs lsA cells slots h1 h2 h3 h4 h5 h6 (ab_ot h7) h8 h9 h10 h11)
theorem g_tableOut {M : ab_M} {d : Nat} {C : ab_X} {P : ab_O → Prop} {pc : Nat} {ls : List (Option Value)} {st : List Value} {sh : List ab_S} {I A : ab_F} {bc bs : Nat} {x : Int32} {df lo hi : Int} {offs : Array Int} {ln : Nat} (tgt : Nat) (dg : decode M.2.1 pc = .ok (.tableswitch df lo hi offs, ln)) (h : x.toInt < lo ∨ hi < x.toInt) (ht : (pc : Int) + df = (tgt : Int)) (kk : ab_G M d C P tgt ls st sh I A bc bs) : ab_G M d C P pc ls (.int x :: st) sh I A bc bs := by
  obtain ⟨p, l, e, s, m, args, below, meth, c, D, cT, ac, Ar, ad0, n0, mc, ms⟩ := C
  intro hf ad H locs lsA cells slots h1 h2 h3 h4 h5 h6 h7 h8 h9 h10 h11
  exact lv_tableOut hf.1 hf.2.1 dg h ht (kk hf ad H locs lsA cells slots h1 h2 h3 h4 h5 h6 (ab_ot h7) h8 h9 h10 h11)
theorem g_tableIn {M : ab_M} {d : Nat} {C : ab_X} {P : ab_O → Prop} {pc : Nat} {ls : List (Option Value)} {st : List Value} {sh : List ab_S} {I A : ab_F} {bc bs : Nat} {x : Int32} {df lo hi off : Int} {offs : Array Int} {ln : Nat} (tgt : Nat) (dg : decode M.2.1 pc = .ok (.tableswitch df lo hi offs, ln)) (hlo : ¬ x.toInt < lo) (hhi : ¬ hi < x.toInt) (ho : offs[(x.toInt - lo).toNat]? = some off) (ht : (pc : Int) + off = (tgt : Int)) (kk : ab_G M d C P tgt ls st sh I A bc bs) : ab_G M d C P pc ls (.int x :: st) sh I A bc bs := by
  obtain ⟨p, l, e, s, m, args, below, meth, c, D, cT, ac, Ar, ad0, n0, mc, ms⟩ := C
  intro hf ad H locs lsA cells slots h1 h2 h3 h4 h5 h6 h7 h8 h9 h10 h11
  exact lv_tableIn hf.1 hf.2.1 dg hlo hhi ho ht (kk hf ad H locs lsA cells slots h1 h2 h3 h4 h5 h6 (ab_ot h7) h8 h9 h10 h11)
theorem g_forget {M : ab_M} {d : Nat} {C : ab_X} {P : ab_O → Prop} {pc : Nat} {ls : List (Option Value)} {st : List Value} {sh : List ab_S} {I A : ab_F} {bc bs : Nat} {ls' : List (Option Value)} (hl : ∀ (i : Nat) (v : Value), ls'[i]? = some (some v) → ls[i]? = some (some v)) (kk : ab_G M d C P pc ls' st sh I A bc bs) : ab_G M d C P pc ls st sh I A bc bs := by
  obtain ⟨p, l, e, s, m, args, below, meth, c, D, cT, ac, Ar, ad0, n0, mc, ms⟩ := C
  intro hf ad H locs lsA cells slots h1 h2 h3 h4 h5 h6 h7 h8 h9 h10 h11
  refine kk hf ad H locs lsA cells slots h1 h2 h3 h4 h5 (fun v hv => ?_) h7 ⟨h8.1, h8.2.1, fun q hq => ?_⟩ h9 h10 h11
  · obtain ⟨i, hi⟩ := List.getElem?_of_mem hv
    exact h6 v (List.mem_of_getElem? (hl i v hi))
  · obtain ⟨j, v, e1, e2⟩ := (ab_p_mem ad ac _ 0 q).mp hq
    exact h8.2.2 q ((ab_p_mem ad ac ls 0 q).mpr ⟨j, v, hl j v e1, e2⟩)
theorem g_iret {M : ab_M} {d : Nat} {C : ab_X} {P : ab_O → Prop} {pc : Nat} {ls : List (Option Value)} {sh : List ab_S} {I A : ab_F} {bc bs : Nat} {v : Int32} {ty : FieldType} (hr : M.2.2.2 = some ty) (hz : narrow ty (.int v) = .int v) (dg : decode M.2.1 pc = .ok (.ireturn, 1)) (kk : P (.inl (some (.int v)), sh, I, A)) : ab_G M d C P pc ls [.int v] sh I A bc bs := by
  obtain ⟨p, l, e, s, m, args, below, meth, c, D, cT, ac, Ar, ad0, n0, mc, ms⟩ := C
  intro hf ad H locs lsA cells slots h1 h2 h3 h4 h5 h6 h7 h8 h9 h10 h11
  refine vx_ret (W.widen (k := mc) (n := ms) (by omega) (by omega) ?_)
  have hlk : meth.locks = false := hf.2.2.2.2.1
  refine W.zret hf.1 hf.2.1 (hf.2.2.2.1.trans hr) hz (fun t ht hW => ⟨⟨some (.int v), sh, I, A, ad, rfl, kk, h3, h4, (fun w e => by cases e; exact trivial), h5, by rw [ht]; exact h9, h10⟩, h11.F ht⟩) h11.2.2 dg
theorem g_vret {M : ab_M} {d : Nat} {C : ab_X} {P : ab_O → Prop} {pc : Nat} {ls : List (Option Value)} {sh : List ab_S} {I A : ab_F} {bc bs : Nat} (hr : M.2.2.2 = none) (dg : decode M.2.1 pc = .ok (.return_, 1)) (kk : P (.inl (none), sh, I, A)) : ab_G M d C P pc ls [] sh I A bc bs := by
  obtain ⟨p, l, e, s, m, args, below, meth, c, D, cT, ac, Ar, ad0, n0, mc, ms⟩ := C
  intro hf ad H locs lsA cells slots h1 h2 h3 h4 h5 h6 h7 h8 h9 h10 h11
  refine vx_ret (W.widen (k := mc) (n := ms) (by omega) (by omega) ?_)
  have hlk : meth.locks = false := hf.2.2.2.2.1
  refine W.vret hf.1 hf.2.1 (hf.2.2.2.1.trans hr) (fun t ht hW => ⟨⟨none, sh, I, A, ad, rfl, kk, h3, h4, (fun w e => by cases e), h5, by rw [ht]; exact h9, h10⟩, h11.F ht⟩) h11.2.2 dg
theorem g_fret {M : ab_M} {d : Nat} {C : ab_X} {P : ab_O → Prop} {pc : Nat} {ls : List (Option Value)} {sh : List ab_S} {I A : ab_F} {bc bs : Nat} {v : UInt32} (hr : M.2.2.2 = some .float) (dg : decode M.2.1 pc = .ok (.freturn, 1)) (kk : P (.inl (some (.float v)), sh, I, A)) : ab_G M d C P pc ls [.float v] sh I A bc bs := by
  obtain ⟨p, l, e, s, m, args, below, meth, c, D, cT, ac, Ar, ad0, n0, mc, ms⟩ := C
  intro hf ad H locs lsA cells slots h1 h2 h3 h4 h5 h6 h7 h8 h9 h10 h11
  refine vx_ret (W.widen (k := mc) (n := ms) (by omega) (by omega) ?_)
  have hlk : meth.locks = false := hf.2.2.2.2.1
  refine W.fret hf.1 hf.2.1 (hf.2.2.2.1.trans hr) (fun t ht hW => ⟨⟨some (.float v), sh, I, A, ad, rfl, kk, h3, h4, (fun w e => by cases e; exact trivial), h5, by rw [ht]; exact h9, h10⟩, h11.F ht⟩) h11.2.2 dg
theorem g_aret {M : ab_M} {d : Nat} {C : ab_X} {P : ab_O → Prop} {pc n : Nat} {ls : List (Option Value)} {sh : List ab_S} {I A : ab_F} {bc bs : Nat} {v : Nat} {rt : FieldType} (hr : M.2.2.2 = some rt) (hrt : (∃ n, rt = .object n) ∨ ∃ t, rt = .array t) (dg : decode M.2.1 pc = .ok (.areturn, 1)) (kk : P (.inl (some (.ref v)), sh, I, A)) : ab_G M d C P pc ls [.ref v] sh I A bc bs := by
  obtain ⟨p, l, e, s, m, args, below, meth, c, D, cT, ac, Ar, ad0, n0, mc, ms⟩ := C
  intro hf ad H locs lsA cells slots h1 h2 h3 h4 h5 h6 h7 h8 h9 h10 h11
  refine vx_ret (W.widen (k := mc) (n := ms) (by omega) (by omega) ?_)
  have hlk : meth.locks = false := hf.2.2.2.2.1
  refine W.aret hf.1 hf.2.1 (hf.2.2.2.1.trans hr) hrt (Or.inr ⟨_, rfl⟩) (fun t ht hW => ⟨⟨some (.ref v), sh, I, A, ad, rfl, kk, h3, h4, (fun w e => by cases e; exact ab_oh h7), h5, by rw [ht]; exact h9, h10⟩, h11.F ht⟩) h11.2.2 dg
def ab_ty (ci : Nat) : Nat → FieldType := match ci with
  | 0 => tyJ0 | 1 => tyJ4 | 2 => tyJx00060 | 3 => tyJx7c733 | 4 => tyX0 | 5 => tyX1 | 6 => tyX2 | 7 => tyX3 | 8 => tyX4 | 9 => tyX5 | 10 => tyX6 | 11 => tyX7 | 12 => tyX8 | 13 => tyX9 | 14 => tyX10 | 15 => tyX11 | _ => tyX12
theorem ab_cl {Q : Nat → vw_C → Prop} (h : ∀ i, i < 17 → ∀ q, vwCl[i]? = some q → Q i q) : ∀ (ci : Nat) (q : vw_C), vwCl[ci]? = some q → Q ci q := fun ci q hq => h ci (List.getElem?_eq_some_iff.mp hq).1 q hq
theorem ab_tyok : ∀ (ci : Nat) (q : vw_C), vwCl[ci]? = some q → ∀ k, k < q.2.2 → parseFieldDescriptor (q.2.1 k).2.2.1 = some (ab_ty ci k) := by
  intro ci q hq
  match ci, hq with
  | 0, hq => cases hq; exact tyJ0_ok
  | 1, hq => cases hq; exact tyJ4_ok
  | 2, hq => cases hq; exact tyJx00060_ok
  | 3, hq => cases hq; exact tyJx7c733_ok
  | 4, hq => cases hq; exact tyX0_ok
  | 5, hq => cases hq; exact tyX1_ok
  | 6, hq => cases hq; exact tyX2_ok
  | 7, hq => cases hq; exact tyX3_ok
  | 8, hq => cases hq; exact tyX4_ok
  | 9, hq => cases hq; exact tyX5_ok
  | 10, hq => cases hq; exact tyX6_ok
  | 11, hq => cases hq; exact tyX7_ok
  | 12, hq => cases hq; exact tyX8_ok
  | 13, hq => cases hq; exact tyX9_ok
  | 14, hq => cases hq; exact tyX10_ok
  | 15, hq => cases hq; exact tyX11_ok
  | 16, hq => cases hq; exact tyX12_ok
  | n + 17, hq => simp [vwCl] at hq
theorem ab_nm : ∀ (ci : Nat) (q : vw_C), vwCl[ci]? = some q → ∀ a, a < q.2.2 → ∀ b, b < q.2.2 → a ≠ b → (q.2.1 a).2.1 ≠ (q.2.1 b).2.1 := by
  intro ci q hq
  match ci, hq with
  | 0, hq => cases hq; exact nmJ0
  | 1, hq => cases hq; exact nmJ4
  | 2, hq => cases hq; exact nmJx00060
  | 3, hq => cases hq; exact nmJx7c733
  | 4, hq => cases hq; exact nmX0
  | 5, hq => cases hq; exact nmX1
  | 6, hq => cases hq; exact nmX2
  | 7, hq => cases hq; exact nmX3
  | 8, hq => cases hq; exact nmX4
  | 9, hq => cases hq; exact nmX5
  | 10, hq => cases hq; exact nmX6
  | 11, hq => cases hq; exact nmX7
  | 12, hq => cases hq; exact nmX8
  | 13, hq => cases hq; exact nmX9
  | 14, hq => cases hq; exact nmX10
  | 15, hq => cases hq; exact nmX11
  | 16, hq => cases hq; exact nmX12
  | n + 17, hq => simp [vwCl] at hq
theorem ab_layC {C : String} {T : u_T} {N : Nat} (h : (List.range N).all (fun k => decide (u_lay C T k ∈ lw_tbl)) = true) : ∀ w ∈ u_ws C T N, w ∈ ab_ws := by
  intro w hw
  unfold u_ws at hw
  obtain ⟨k, hk, rfl⟩ := List.mem_map.mp hw
  have h1 := of_decide_eq_true (List.all_eq_true.mp h k hk)
  refine ab_inT h1 ?_
  unfold u_lay
  split <;> rfl
theorem ab_lay : ∀ (ci : Nat) (q : vw_C), vwCl[ci]? = some q → ∀ w ∈ u_ws q.1 q.2.1 q.2.2, w ∈ ab_ws := by
  intro ci q hq
  match ci, hq with
  | 0, hq => cases hq; exact ab_layC (by decide +kernel)
  | 1, hq => cases hq; exact ab_layC (by decide +kernel)
  | 2, hq => cases hq; exact ab_layC (by decide +kernel)
  | 3, hq => cases hq; exact ab_layC (by decide +kernel)
  | 4, hq => cases hq; exact ab_layC (by decide +kernel)
  | 5, hq => cases hq; exact ab_layC (by decide +kernel)
  | 6, hq => cases hq; exact ab_layC (by decide +kernel)
  | 7, hq => cases hq; exact ab_layC (by decide +kernel)
  | 8, hq => cases hq; exact ab_layC (by decide +kernel)
  | 9, hq => cases hq; exact ab_layC (by decide +kernel)
  | 10, hq => cases hq; exact ab_layC (by decide +kernel)
  | 11, hq => cases hq; exact ab_layC (by decide +kernel)
  | 12, hq => cases hq; exact ab_layC (by decide +kernel)
  | 13, hq => cases hq; exact ab_layC (by decide +kernel)
  | 14, hq => cases hq; exact ab_layC (by decide +kernel)
  | 15, hq => cases hq; exact ab_layC (by decide +kernel)
  | 16, hq => cases hq; exact ab_layC (by decide +kernel)
  | n + 17, hq => simp [vwCl] at hq
theorem ab_fs_put {ad ac : Nat → Nat} {J : Nat → Int32} {fs : List (Option Value)} {k : Nat} (h : fs[k]? = some none) (v : Int32) : (ab_fs ad ac J 0 fs).set k (.int v) = ab_fs ad ac (upd J k v) 0 fs := by
  apply List.ext_getElem?
  intro i
  have hl : k < (ab_fs ad ac J 0 fs).length := by rw [ab_fs_len]; exact (List.getElem?_eq_some_iff.mp h).1
  by_cases hi : i = k
  · subst hi
    rw [List.getElem?_set_self hl, ab_fs_get, h, Nat.zero_add]
    simp [ab_fv, upd]
  · rw [List.getElem?_set_ne (fun e => hi e.symm), ab_fs_get, ab_fs_get, Nat.zero_add]
    simp [upd, hi]
theorem ab_fs_putR {ad ac : Nat → Nat} {J : Nat → Int32} {fs : List (Option Value)} {k : Nat} (h : k < fs.length) (v : Value) : (ab_fs ad ac J 0 fs).set k (ab_v ad ac v) = ab_fs ad ac J 0 (fs.set k (some v)) := by
  apply List.ext_getElem?
  intro i
  have hl : k < (ab_fs ad ac J 0 fs).length := by rw [ab_fs_len]; exact h
  by_cases hi : i = k
  · subst hi
    rw [List.getElem?_set_self hl, ab_fs_get, List.getElem?_set_self h]
    rfl
  · rw [List.getElem?_set_ne (fun e => hi e.symm), ab_fs_get, ab_fs_get, List.getElem?_set_ne (fun e => hi e.symm)]
theorem ab_set_same {α : Type} {l : List α} {q : Nat} {x : α} (h : l[q]? = some x) : ∀ k, k ≠ q → l[k]? = l[k]? := fun _ _ => rfl
theorem ab_okset {sh : List ab_S} {q : Nat} {x : ab_S} (h : ab_okH sh) (hx : ab_okS sh.length x) : ab_okH (sh.set q x) := fun y hy => by
  rw [List.length_set]
  rcases List.mem_or_eq_of_mem_set hy with e | e
  · exact h y e
  · rw [e]; exact hx
theorem ab_okF {sh : List ab_S} {q ci : Nat} {fs : List (Option Value)} (h : ab_okH sh) (hq : sh[q]? = some (.inr (.inr (ci, fs)))) {v : Value} (hv : some v ∈ fs) : ab_ok sh.length v := h _ (List.mem_of_getElem? hq) v hv
theorem g_getI {M : ab_M} {d : Nat} {C : ab_X} {P : ab_O → Prop} {pc n : Nat} {ls : List (Option Value)} {st : List Value} {sh : List ab_S} {I A : ab_F} {bc bs : Nat} {q ci k idx N : Nat} {fs : List (Option Value)} {Cn : String} {T : u_T} (dg : decode M.2.1 pc = .ok (.getfield idx, 3)) (hq : sh[q]? = some (.inr (.inr (ci, fs)))) (hc : vwCl[ci]? = some (Cn, T, N)) (hk : k < N) (hv : fs[k]? = some none) (hw : Cond.fieldLink M.1.cls idx (T k).1 (T k).2.1 (T k).2.2.1 ∈ ab_ws) (hn : pc + 3 = n) (kk : ab_G M d C P n ls (.int (I q k) :: st) sh I A bc bs) : ab_G M d C P pc ls (.ref q :: st) sh I A bc bs := by
  obtain ⟨p, l, e, s, m, args, below, meth, c, D, cT, ac, Ar, ad0, n0, mc, ms⟩ := C
  intro hf ad H locs lsA cells slots h1 h2 h3 h4 h5 h6 h7 h8 h9 h10 h11
  subst hn
  exact va_get (D := D) (ci := ci) (v := .int (I q k)) hf.1 hf.2.1 hf.2.2.2.2.2.2.2.1 (ab_lay ci _ hc) hf.2.2.2.2.2.2.1 hf.2.2.2.2.2.2.2.2.1 h9 q (ab_w_at hq) hc k hk (hf.2.2.2.2.2.2.2.1 _ hw) (fun _ h => h) (by rw [ab_fs_get, hv, Nat.zero_add]; rfl) dg (kk hf ad H locs lsA cells slots h1 h2 h3 h4 h5 h6 (ab_oc trivial (ab_ot h7)) h8 h9 h10 h11)
theorem g_getR {M : ab_M} {d : Nat} {C : ab_X} {P : ab_O → Prop} {pc n : Nat} {ls : List (Option Value)} {st : List Value} {sh : List ab_S} {I A : ab_F} {bc bs : Nat} {q ci k idx N : Nat} {fs : List (Option Value)} {Cn : String} {T : u_T} {v : Value} (dg : decode M.2.1 pc = .ok (.getfield idx, 3)) (hq : sh[q]? = some (.inr (.inr (ci, fs)))) (hc : vwCl[ci]? = some (Cn, T, N)) (hk : k < N) (hv : fs[k]? = some (some v)) (hw : Cond.fieldLink M.1.cls idx (T k).1 (T k).2.1 (T k).2.2.1 ∈ ab_ws) (hn : pc + 3 = n) (kk : ab_G M d C P n ls (v :: st) sh I A bc bs) : ab_G M d C P pc ls (.ref q :: st) sh I A bc bs := by
  obtain ⟨p, l, e, s, m, args, below, meth, c, D, cT, ac, Ar, ad0, n0, mc, ms⟩ := C
  intro hf ad H locs lsA cells slots h1 h2 h3 h4 h5 h6 h7 h8 h9 h10 h11
  subst hn
  exact va_get (D := D) (ci := ci) (v := ab_v ad ac v) hf.1 hf.2.1 hf.2.2.2.2.2.2.2.1 (ab_lay ci _ hc) hf.2.2.2.2.2.2.1 hf.2.2.2.2.2.2.2.2.1 h9 q (ab_w_at hq) hc k hk (hf.2.2.2.2.2.2.2.1 _ hw) (fun _ h => h) (by rw [ab_fs_get, hv]; rfl) dg (kk hf ad H locs lsA cells slots h1 h2 h3 h4 h5 h6 (ab_oc (ab_okF h5 hq (List.mem_of_getElem? hv)) (ab_ot h7)) h8 h9 h10 h11)
theorem g_putI {M : ab_M} {d : Nat} {C : ab_X} {P : ab_O → Prop} {pc n : Nat} {ls : List (Option Value)} {st : List Value} {sh : List ab_S} {I A : ab_F} {bc bs : Nat} {q ci k idx N : Nat} {fs : List (Option Value)} {Cn : String} {T : u_T} {v : Int32} {ty : FieldType} (dg : decode M.2.1 pc = .ok (.putfield idx, 3)) (hq : sh[q]? = some (.inr (.inr (ci, fs)))) (hc : vwCl[ci]? = some (Cn, T, N)) (hk : k < N) (hv : fs[k]? = some none) (hw : Cond.fieldLink M.1.cls idx (T k).1 (T k).2.1 (T k).2.2.1 ∈ ab_ws) (hfin : (T k).2.2.2 = false) (hty : parseFieldDescriptor (T k).2.2.1 = some ty) (hz : narrow ty (.int v) = .int v) (hft : fits ty (.int v) = true) (hn : pc + 3 = n) (kk : ab_G M d C P n ls st sh (wr I q k v) A bc bs) : ab_G M d C P pc ls (.int v :: .ref q :: st) sh I A bc bs := by
  obtain ⟨p, l, e, s, m, args, below, meth, c, D, cT, ac, Ar, ad0, n0, mc, ms⟩ := C
  intro hf ad H locs lsA cells slots h1 h2 h3 h4 h5 h6 h7 h8 h9 h10 h11
  subst hn
  have hl : k < (ab_fs ad ac (I q) 0 fs).length := by rw [ab_fs_len]; exact (List.getElem?_eq_some_iff.mp hv).1
  refine va_put (D := D) (ci := ci) (v := .int v) (ty := ty) hf.1 hf.2.1 hf.2.2.2.2.2.2.2.1 (ab_lay ci _ hc) (ab_ty ci) (ab_tyok ci _ hc) (ab_nm ci _ hc) hf.2.2.2.2.2.2.1 hf.2.2.2.2.2.2.2.2.1 h9 h10 h11 q (ab_w_at hq) hc k hk (hf.2.2.2.2.2.2.2.1 _ hw) (fun _ h => h) hfin hty hz hft hl dg (fun H1 locs1 g9 g10 g11 => ?_)
  have e1 : (ab_w cT ad ac I A 0 sh).set q (ad q, .inr (ci, (ab_fs ad ac (I q) 0 fs).set k (.int v))) = ab_w cT ad ac (wr I q k v) A 0 sh := by
    rw [ab_fs_put hv, show upd (I q) k v = wr I q k v q by rw [wr_row, va_up_self]]
    exact ab_w_set (I' := wr I q k v) hq hq (fun _ _ => rfl) (fun j hj => by rw [wr_row, va_up_ne _ _ hj]) (fun _ _ => rfl)
  rw [e1] at g9 g10
  exact kk hf ad H1 locs1 lsA cells slots h1 h2 h3 h4 h5 h6 (ab_ot (ab_ot h7)) h8 g9 g10 g11
theorem g_putR {M : ab_M} {d : Nat} {C : ab_X} {P : ab_O → Prop} {pc n : Nat} {ls : List (Option Value)} {st : List Value} {sh : List ab_S} {I A : ab_F} {bc bs : Nat} {q ci k idx N : Nat} {fs : List (Option Value)} {Cn : String} {T : u_T} {v : Nat} {ty : FieldType} {sh' : List ab_S} (dg : decode M.2.1 pc = .ok (.putfield idx, 3)) (hq : sh[q]? = some (.inr (.inr (ci, fs)))) (hc : vwCl[ci]? = some (Cn, T, N)) (hk : k < N) (hl : k < fs.length) (hw : Cond.fieldLink M.1.cls idx (T k).1 (T k).2.1 (T k).2.2.1 ∈ ab_ws) (hfin : (T k).2.2.2 = false) (hty : parseFieldDescriptor (T k).2.2.1 = some ty) (hz : ∀ a, narrow ty (.ref a) = .ref a) (hft : ∀ a, fits ty (.ref a) = true) (hn : pc + 3 = n) (hsh : sh.set q (.inr (.inr (ci, fs.set k (some (.ref v))))) = sh') (kk : ab_G M d C P n ls st sh' I A bc bs) : ab_G M d C P pc ls (.ref v :: .ref q :: st) sh I A bc bs := by
  obtain ⟨p, l, e, s, m, args, below, meth, c, D, cT, ac, Ar, ad0, n0, mc, ms⟩ := C
  intro hf ad H locs lsA cells slots h1 h2 h3 h4 h5 h6 h7 h8 h9 h10 h11
  subst hn
  subst hsh
  have hl2 : k < (ab_fs ad ac (I q) 0 fs).length := by rw [ab_fs_len]; exact hl
  have hqn := (List.getElem?_eq_some_iff.mp hq).1
  refine va_put (D := D) (ci := ci) (v := .ref (ad v)) (ty := ty) hf.1 hf.2.1 hf.2.2.2.2.2.2.2.1 (ab_lay ci _ hc) (ab_ty ci) (ab_tyok ci _ hc) (ab_nm ci _ hc) hf.2.2.2.2.2.2.1 hf.2.2.2.2.2.2.2.2.1 h9 h10 h11 q (ab_w_at hq) hc k hk (hf.2.2.2.2.2.2.2.1 _ hw) (fun _ h => h) hfin hty (hz _) (hft _) hl2 dg (fun H1 locs1 g9 g10 g11 => ?_)
  have e1 : (ab_w cT ad ac I A 0 sh).set q (ad q, .inr (ci, (ab_fs ad ac (I q) 0 fs).set k (.ref (ad v)))) = ab_w cT ad ac I A 0 (sh.set q (.inr (.inr (ci, fs.set k (some (.ref v)))))) := by
    rw [show Value.ref (ad v) = ab_v ad ac (.ref v) from rfl, ab_fs_putR hl]
    exact ab_w_set (x' := .inr (.inr (ci, fs.set k (some (.ref v))))) hq (List.getElem?_set_self hqn) (fun j hj => List.getElem?_set_ne (fun e => hj e.symm)) (fun _ _ => rfl) (fun _ _ => rfl)
  rw [e1] at g9 g10
  have hv9 : ab_ok sh.length (.ref v) := ab_oh h7
  refine kk hf ad H1 locs1 lsA cells slots h1 h2 (by rw [List.length_set]; exact h3) h4 (ab_okset h5 (fun w hw9 => ?_)) (by rw [List.length_set]; exact h6) (by rw [List.length_set]; exact ab_ot (ab_ot h7)) h8 g9 g10 g11
  rcases List.mem_or_eq_of_mem_set hw9 with e | e
  · exact ab_okF h5 hq e
  · cases e; exact hv9
theorem g_putFI {M : ab_M} {d : Nat} {C : ab_X} {P : ab_O → Prop} {pc n : Nat} {ls : List (Option Value)} {st : List Value} {sh : List ab_S} {I A : ab_F} {bc bs : Nat} {q ci k idx N : Nat} {fs : List (Option Value)} {Cn : String} {T : u_T} {v : Int32} {ty : FieldType} (dg : decode M.2.1 pc = .ok (.putfield idx, 3)) (hq : sh[q]? = some (.inr (.inr (ci, fs)))) (hc : vwCl[ci]? = some (Cn, T, N)) (hk : k < N) (hv : fs[k]? = some none) (hw : Cond.fieldLink M.1.cls idx (T k).1 (T k).2.1 (T k).2.2.1 ∈ ab_ws) (hfin : (T k).2.2.2 = true) (hini : M.1.name = "<init>") (hdecl : (T k).1 = M.1.cls) (hty : parseFieldDescriptor (T k).2.2.1 = some ty) (hz : narrow ty (.int v) = .int v) (hft : fits ty (.int v) = true) (hn : pc + 3 = n) (kk : ab_G M d C P n ls st sh (wr I q k v) A bc bs) : ab_G M d C P pc ls (.int v :: .ref q :: st) sh I A bc bs := by
  obtain ⟨p, l, e, s, m, args, below, meth, c, D, cT, ac, Ar, ad0, n0, mc, ms⟩ := C
  intro hf ad H locs lsA cells slots h1 h2 h3 h4 h5 h6 h7 h8 h9 h10 h11
  subst hn
  have hl : k < (ab_fs ad ac (I q) 0 fs).length := by rw [ab_fs_len]; exact (List.getElem?_eq_some_iff.mp hv).1
  refine va_putF (D := D) (ci := ci) (v := .int v) (ty := ty) hf.1 hf.2.1 hf.2.2.2.2.2.2.2.1 (ab_lay ci _ hc) (ab_ty ci) (ab_tyok ci _ hc) (ab_nm ci _ hc) hf.2.2.2.2.2.2.1 hf.2.2.2.2.2.2.2.2.1 h9 h10 h11 q (ab_w_at hq) hc k hk (hf.2.2.2.2.2.2.2.1 _ hw) (fun _ h => h) hfin (hf.2.2.2.2.2.1.trans hini) hdecl hty hz hft hl dg (fun H1 locs1 g9 g10 g11 => ?_)
  have e1 : (ab_w cT ad ac I A 0 sh).set q (ad q, .inr (ci, (ab_fs ad ac (I q) 0 fs).set k (.int v))) = ab_w cT ad ac (wr I q k v) A 0 sh := by
    rw [ab_fs_put hv, show upd (I q) k v = wr I q k v q by rw [wr_row, va_up_self]]
    exact ab_w_set (I' := wr I q k v) hq hq (fun _ _ => rfl) (fun j hj => by rw [wr_row, va_up_ne _ _ hj]) (fun _ _ => rfl)
  rw [e1] at g9 g10
  exact kk hf ad H1 locs1 lsA cells slots h1 h2 h3 h4 h5 h6 (ab_ot (ab_ot h7)) h8 g9 g10 g11
theorem g_putFR {M : ab_M} {d : Nat} {C : ab_X} {P : ab_O → Prop} {pc n : Nat} {ls : List (Option Value)} {st : List Value} {sh : List ab_S} {I A : ab_F} {bc bs : Nat} {q ci k idx N : Nat} {fs : List (Option Value)} {Cn : String} {T : u_T} {v : Nat} {ty : FieldType} {sh' : List ab_S} (dg : decode M.2.1 pc = .ok (.putfield idx, 3)) (hq : sh[q]? = some (.inr (.inr (ci, fs)))) (hc : vwCl[ci]? = some (Cn, T, N)) (hk : k < N) (hl : k < fs.length) (hw : Cond.fieldLink M.1.cls idx (T k).1 (T k).2.1 (T k).2.2.1 ∈ ab_ws) (hfin : (T k).2.2.2 = true) (hini : M.1.name = "<init>") (hdecl : (T k).1 = M.1.cls) (hty : parseFieldDescriptor (T k).2.2.1 = some ty) (hz : ∀ a, narrow ty (.ref a) = .ref a) (hft : ∀ a, fits ty (.ref a) = true) (hn : pc + 3 = n) (hsh : sh.set q (.inr (.inr (ci, fs.set k (some (.ref v))))) = sh') (kk : ab_G M d C P n ls st sh' I A bc bs) : ab_G M d C P pc ls (.ref v :: .ref q :: st) sh I A bc bs := by
  obtain ⟨p, l, e, s, m, args, below, meth, c, D, cT, ac, Ar, ad0, n0, mc, ms⟩ := C
  intro hf ad H locs lsA cells slots h1 h2 h3 h4 h5 h6 h7 h8 h9 h10 h11
  subst hn
  subst hsh
  have hl2 : k < (ab_fs ad ac (I q) 0 fs).length := by rw [ab_fs_len]; exact hl
  have hqn := (List.getElem?_eq_some_iff.mp hq).1
  refine va_putF (D := D) (ci := ci) (v := .ref (ad v)) (ty := ty) hf.1 hf.2.1 hf.2.2.2.2.2.2.2.1 (ab_lay ci _ hc) (ab_ty ci) (ab_tyok ci _ hc) (ab_nm ci _ hc) hf.2.2.2.2.2.2.1 hf.2.2.2.2.2.2.2.2.1 h9 h10 h11 q (ab_w_at hq) hc k hk (hf.2.2.2.2.2.2.2.1 _ hw) (fun _ h => h) hfin (hf.2.2.2.2.2.1.trans hini) hdecl hty (hz _) (hft _) hl2 dg (fun H1 locs1 g9 g10 g11 => ?_)
  have e1 : (ab_w cT ad ac I A 0 sh).set q (ad q, .inr (ci, (ab_fs ad ac (I q) 0 fs).set k (.ref (ad v)))) = ab_w cT ad ac I A 0 (sh.set q (.inr (.inr (ci, fs.set k (some (.ref v)))))) := by
    rw [show Value.ref (ad v) = ab_v ad ac (.ref v) from rfl, ab_fs_putR hl]
    exact ab_w_set (x' := .inr (.inr (ci, fs.set k (some (.ref v))))) hq (List.getElem?_set_self hqn) (fun j hj => List.getElem?_set_ne (fun e => hj e.symm)) (fun _ _ => rfl) (fun _ _ => rfl)
  rw [e1] at g9 g10
  have hv9 : ab_ok sh.length (.ref v) := ab_oh h7
  refine kk hf ad H1 locs1 lsA cells slots h1 h2 (by rw [List.length_set]; exact h3) h4 (ab_okset h5 (fun w hw9 => ?_)) (by rw [List.length_set]; exact h6) (by rw [List.length_set]; exact ab_ot (ab_ot h7)) h8 g9 g10 g11
  rcases List.mem_or_eq_of_mem_set hw9 with e | e
  · exact ab_okF h5 hq e
  · cases e; exact hv9
theorem g_iald {M : ab_M} {d : Nat} {C : ab_X} {P : ab_O → Prop} {pc n : Nat} {ls : List (Option Value)} {st : List Value} {sh : List ab_S} {I A : ab_F} {bc bs : Nat} {q N : Nat} {i : Int32} (dg : decode M.2.1 pc = .ok (.iaload, 1)) (hq : sh[q]? = some (.inl (.int, N))) (hi : vp_in i N) (hn : pc + 1 = n) (kk : ab_G M d C P n ls (.int (A q i.toNatClampNeg) :: st) sh I A bc bs) : ab_G M d C P pc ls (.int i :: .ref q :: st) sh I A bc bs := by
  obtain ⟨p, l, e, s, m, args, below, meth, c, D, cT, ac, Ar, ad0, n0, mc, ms⟩ := C
  intro hf ad H locs lsA cells slots h1 h2 h3 h4 h5 h6 h7 h8 h9 h10 h11
  subst hn
  exact va_iald hf.1 hf.2.1 hf.2.2.2.2.2.2.2.2.1 h9 q 0 (ab_w_at hq) rfl hi dg (kk hf ad H locs lsA cells slots h1 h2 h3 h4 h5 h6 (ab_oc trivial (ab_ot (ab_ot h7))) h8 h9 h10 h11)
theorem g_bald {M : ab_M} {d : Nat} {C : ab_X} {P : ab_O → Prop} {pc n : Nat} {ls : List (Option Value)} {st : List Value} {sh : List ab_S} {I A : ab_F} {bc bs : Nat} {q N : Nat} {i : Int32} (dg : decode M.2.1 pc = .ok (.baload, 1)) (hq : sh[q]? = some (.inl (.byte, N))) (hi : vp_in i N) (hn : pc + 1 = n) (kk : ab_G M d C P n ls (.int (A q i.toNatClampNeg) :: st) sh I A bc bs) : ab_G M d C P pc ls (.int i :: .ref q :: st) sh I A bc bs := by
  obtain ⟨p, l, e, s, m, args, below, meth, c, D, cT, ac, Ar, ad0, n0, mc, ms⟩ := C
  intro hf ad H locs lsA cells slots h1 h2 h3 h4 h5 h6 h7 h8 h9 h10 h11
  subst hn
  exact va_bald hf.1 hf.2.1 hf.2.2.2.2.2.2.2.2.1 h9 q 1 (ab_w_at hq) rfl hi dg (kk hf ad H locs lsA cells slots h1 h2 h3 h4 h5 h6 (ab_oc trivial (ab_ot (ab_ot h7))) h8 h9 h10 h11)
theorem g_iast {M : ab_M} {d : Nat} {C : ab_X} {P : ab_O → Prop} {pc n : Nat} {ls : List (Option Value)} {st : List Value} {sh : List ab_S} {I A : ab_F} {bc bs : Nat} {q N : Nat} {i x : Int32} (dg : decode M.2.1 pc = .ok (.iastore, 1)) (hq : sh[q]? = some (.inl (.int, N))) (hi : vp_in i N) (hn : pc + 1 = n) (kk : ab_G M d C P n ls st sh I (wr A q i.toNatClampNeg x) bc bs) : ab_G M d C P pc ls (.int x :: .int i :: .ref q :: st) sh I A bc bs := by
  obtain ⟨p, l, e, s, m, args, below, meth, c, D, cT, ac, Ar, ad0, n0, mc, ms⟩ := C
  intro hf ad H locs lsA cells slots h1 h2 h3 h4 h5 h6 h7 h8 h9 h10 h11
  subst hn
  refine va_iast hf.1 hf.2.1 hf.2.2.2.2.2.2.2.2.1 h9 h10 h11 q 0 (ab_w_at hq) rfl hi dg (fun H1 locs1 g9 g10 g11 => ?_)
  have e1 : (ab_w cT ad ac I A 0 sh).set q (ad q, .inl (cT .int, N, .inl (upd (A q) i.toNatClampNeg x))) = ab_w cT ad ac I (wr A q i.toNatClampNeg x) 0 sh := by
    rw [show upd (A q) i.toNatClampNeg x = wr A q i.toNatClampNeg x q by rw [wr_row, va_up_self]]
    exact ab_w_set (A' := wr A q i.toNatClampNeg x) hq hq (fun _ _ => rfl) (fun _ _ => rfl) (fun j hj => by rw [wr_row, va_up_ne _ _ hj])
  rw [e1] at g9 g10
  exact kk hf ad H1 locs1 lsA cells slots h1 h2 h3 h4 h5 h6 (ab_ot (ab_ot (ab_ot h7))) h8 g9 g10 g11
theorem g_bast {M : ab_M} {d : Nat} {C : ab_X} {P : ab_O → Prop} {pc n : Nat} {ls : List (Option Value)} {st : List Value} {sh : List ab_S} {I A : ab_F} {bc bs : Nat} {q N : Nat} {i x : Int32} (dg : decode M.2.1 pc = .ok (.bastore, 1)) (hq : sh[q]? = some (.inl (.byte, N))) (hi : vp_in i N) (hn : pc + 1 = n) (kk : ab_G M d C P n ls st sh I (wr A q i.toNatClampNeg (vp_nar .byte x)) bc bs) : ab_G M d C P pc ls (.int x :: .int i :: .ref q :: st) sh I A bc bs := by
  obtain ⟨p, l, e, s, m, args, below, meth, c, D, cT, ac, Ar, ad0, n0, mc, ms⟩ := C
  intro hf ad H locs lsA cells slots h1 h2 h3 h4 h5 h6 h7 h8 h9 h10 h11
  subst hn
  refine va_bast hf.1 hf.2.1 hf.2.2.2.2.2.2.2.2.1 h9 h10 h11 q 1 (ab_w_at hq) rfl hi dg (fun H1 locs1 g9 g10 g11 => ?_)
  have e1 : (ab_w cT ad ac I A 0 sh).set q (ad q, .inl (cT .byte, N, .inl (upd (A q) i.toNatClampNeg (vp_nar .byte x)))) = ab_w cT ad ac I (wr A q i.toNatClampNeg (vp_nar .byte x)) 0 sh := by
    rw [show upd (A q) i.toNatClampNeg (vp_nar .byte x) = wr A q i.toNatClampNeg (vp_nar .byte x) q by rw [wr_row, va_up_self]]
    exact ab_w_set (A' := wr A q i.toNatClampNeg (vp_nar .byte x)) hq hq (fun _ _ => rfl) (fun _ _ => rfl) (fun j hj => by rw [wr_row, va_up_ne _ _ hj])
  rw [e1] at g9 g10
  exact kk hf ad H1 locs1 lsA cells slots h1 h2 h3 h4 h5 h6 (ab_ot (ab_ot (ab_ot h7))) h8 g9 g10 g11
theorem g_alen {M : ab_M} {d : Nat} {C : ab_X} {P : ab_O → Prop} {pc n : Nat} {ls : List (Option Value)} {st : List Value} {sh : List ab_S} {I A : ab_F} {bc bs : Nat} {q N t0 : Nat} {ty : FieldType} {v : Int32} (dg : decode M.2.1 pc = .ok (.arraylength, 1)) (hq : sh[q]? = some (.inl (ty, N))) (ht : ∀ cT : FieldType → ClassId, (ab_tys cT)[t0]? = some (cT ty, ty)) (hv : nI N = v) (hn : pc + 1 = n) (kk : ab_G M d C P n ls (.int v :: st) sh I A bc bs) : ab_G M d C P pc ls (.ref q :: st) sh I A bc bs := by
  obtain ⟨p, l, e, s, m, args, below, meth, c, D, cT, ac, Ar, ad0, n0, mc, ms⟩ := C
  intro hf ad H locs lsA cells slots h1 h2 h3 h4 h5 h6 h7 h8 h9 h10 h11
  subst hn
  exact va_alen hf.1 hf.2.1 hf.2.2.2.2.2.2.2.2.1 h9 q t0 (ab_w_at hq) (ht cT) hv dg (kk hf ad H locs lsA cells slots h1 h2 h3 h4 h5 h6 (ab_oc trivial (ab_ot h7)) h8 h9 h10 h11)
theorem g_aald {M : ab_M} {d : Nat} {C : ab_X} {P : ab_O → Prop} {pc n : Nat} {ls : List (Option Value)} {st : List Value} {sh : List ab_S} {I A : ab_F} {bc bs : Nat} {q N k : Nat} {i : Int32} {f : Nat → Option Nat} (dg : decode M.2.1 pc = .ok (.aaload, 1)) (hq : sh[q]? = some (.inr (.inl (.object RX8, N, f)))) (hi : vp_in i N) (hk : f i.toNatClampNeg = some k) (hn : pc + 1 = n) (kk : ab_G M d C P n ls (.ref k :: st) sh I A bc bs) : ab_G M d C P pc ls (.int i :: .ref q :: st) sh I A bc bs := by
  obtain ⟨p, l, e, s, m, args, below, meth, c, D, cT, ac, Ar, ad0, n0, mc, ms⟩ := C
  intro hf ad H locs lsA cells slots h1 h2 h3 h4 h5 h6 h7 h8 h9 h10 h11
  subst hn
  refine va_aldq hf.1 hf.2.1 hf.2.2.2.2.2.2.2.2.1 h9 q 2 (ab_w_at hq) rfl hi dg ?_
  rw [hk]
  exact kk hf ad H locs lsA cells slots h1 h2 h3 h4 h5 h6 (ab_oc (h5 _ (List.mem_of_getElem? hq) _ _ hk) (ab_ot (ab_ot h7))) h8 h9 h10 h11
theorem g_aaldN {M : ab_M} {d : Nat} {C : ab_X} {P : ab_O → Prop} {pc n : Nat} {ls : List (Option Value)} {st : List Value} {sh : List ab_S} {I A : ab_F} {bc bs : Nat} {q N : Nat} {i : Int32} {f : Nat → Option Nat} (dg : decode M.2.1 pc = .ok (.aaload, 1)) (hq : sh[q]? = some (.inr (.inl (.object RX8, N, f)))) (hi : vp_in i N) (hk : f i.toNatClampNeg = none) (hn : pc + 1 = n) (kk : ab_G M d C P n ls (.null :: st) sh I A bc bs) : ab_G M d C P pc ls (.int i :: .ref q :: st) sh I A bc bs := by
  obtain ⟨p, l, e, s, m, args, below, meth, c, D, cT, ac, Ar, ad0, n0, mc, ms⟩ := C
  intro hf ad H locs lsA cells slots h1 h2 h3 h4 h5 h6 h7 h8 h9 h10 h11
  subst hn
  refine va_aldq hf.1 hf.2.1 hf.2.2.2.2.2.2.2.2.1 h9 q 2 (ab_w_at hq) rfl hi dg ?_
  rw [hk]
  exact kk hf ad H locs lsA cells slots h1 h2 h3 h4 h5 h6 (ab_oc trivial (ab_ot (ab_ot h7))) h8 h9 h10 h11
theorem g_aast {M : ab_M} {d : Nat} {C : ab_X} {P : ab_O → Prop} {pc n : Nat} {ls : List (Option Value)} {st : List Value} {sh : List ab_S} {I A : ab_F} {bc bs : Nat} {q N v : Nat} {i : Int32} {f : Nat → Option Nat} {fs : List (Option Value)} {sh' : List ab_S} (dg : decode M.2.1 pc = .ok (.aastore, 1)) (hq : sh[q]? = some (.inr (.inl (.object RX8, N, f)))) (hv : sh[v]? = some (.inr (.inr (12, fs)))) (hi : vp_in i N) (hn : pc + 1 = n) (hsh : sh.set q (.inr (.inl (.object RX8, N, va_up f i.toNatClampNeg (some v)))) = sh') (kk : ab_G M d C P n ls st sh' I A bc bs) : ab_G M d C P pc ls (.ref v :: .int i :: .ref q :: st) sh I A bc bs := by
  obtain ⟨p, l, e, s, m, args, below, meth, c, D, cT, ac, Ar, ad0, n0, mc, ms⟩ := C
  intro hf ad H locs lsA cells slots h1 h2 h3 h4 h5 h6 h7 h8 h9 h10 h11
  subst hn
  subst hsh
  have hqn := (List.getElem?_eq_some_iff.mp hq).1
  refine va_astq hf.1 hf.2.1 hf.2.2.2.2.2.2.2.2.1 h9 h10 h11 q 2 v 12 (ab_w_at hq) rfl (ab_w_at hv) rfl hi dg (fun H1 locs1 g9 g10 g11 => ?_)
  have e1 : (ab_w cT ad ac I A 0 sh).set q (ad q, .inl (cT (.object RX8), N, .inr (.inr (.inr (.inr (va_up (fun j => (f j).map ad) i.toNatClampNeg (some (ad v)))))))) = ab_w cT ad ac I A 0 (sh.set q (.inr (.inl (.object RX8, N, va_up f i.toNatClampNeg (some v))))) := by
    rw [show va_up (fun j => (f j).map ad) i.toNatClampNeg (some (ad v)) = fun j => ((va_up f i.toNatClampNeg (some v)) j).map ad from by funext j; unfold va_up; split <;> rfl]
    exact ab_w_set (x' := .inr (.inl (.object RX8, N, va_up f i.toNatClampNeg (some v)))) hq (List.getElem?_set_self hqn) (fun j hj => List.getElem?_set_ne (fun e => hj e.symm)) (fun _ _ => rfl) (fun _ _ => rfl)
  rw [e1] at g9 g10
  have hv9 : ab_ok sh.length (.ref v) := ab_oh h7
  refine kk hf ad H1 locs1 lsA cells slots h1 h2 (by rw [List.length_set]; exact h3) h4 (ab_okset h5 (fun j k hk9 => ?_)) (by rw [List.length_set]; exact h6) (by rw [List.length_set]; exact ab_ot (ab_ot (ab_ot h7))) h8 g9 g10 g11
  unfold va_up at hk9
  split at hk9
  · cases hk9; exact hv9
  · exact h5 _ (List.mem_of_getElem? hq) j k hk9
theorem ab_w_push {cT : FieldType → ClassId} {ad ad' ac : Nat → Nat} {I A I' A' : ab_F} {sh : List ab_S} {x : ab_S} (h : ab_okH sh) (hx : ab_okS sh.length x) (had : ∀ k, k < sh.length → ad' k = ad k) (hI : ∀ k, k < sh.length → I' k = I k) (hA : ∀ k, k < sh.length → A' k = A k) :
    ab_w cT ad' ac I' A' 0 (sh ++ [x]) = ab_w cT ad ac I A 0 sh ++ [(ad' sh.length, ab_e cT ad ac (I' sh.length) (A' sh.length) x)] := by
  apply List.ext_getElem?
  intro i
  rw [ab_w_get]
  by_cases hi : i < sh.length
  · rw [List.getElem?_append_left hi, List.getElem?_append_left (by rw [ab_w_len]; exact hi), ab_w_get, Nat.zero_add]
    cases hy : sh[i]? with
    | none => rfl
    | some y =>
      show some (_, _) = some (_, _)
      rw [had i hi, hI i hi, hA i hi, ab_e_eq had (h y (List.mem_of_getElem? hy))]
  · rw [List.getElem?_append_right (by omega), List.getElem?_append_right (by rw [ab_w_len]; omega), ab_w_len, Nat.zero_add]
    by_cases hj : i = sh.length
    · subst hj
      rw [Nat.sub_self]
      show some (_, _) = some (_, _)
      rw [ab_e_eq had hx]
    · rw [List.getElem?_eq_none (by simp; omega), List.getElem?_eq_none (by simp; omega)]
      rfl
theorem ab_okpush {sh : List ab_S} {x : ab_S} (h : ab_okH sh) (hx : ab_okS (sh.length + 1) x) : ab_okH (sh ++ [x]) := fun y hy => by
  rw [List.length_append, List.length_singleton]
  rcases List.mem_append.mp hy with e | e
  · exact (h y e).mono (Nat.le_succ _)
  · rw [List.mem_singleton.mp e]; exact hx
theorem ab_up_lt {α : Type} {f : Nat → α} {N : Nat} {v : α} : ∀ k, k < N → va_up f N v k = f k := fun k hk => va_up_ne _ _ (Nat.ne_of_lt hk)
theorem g_newi {M : ab_M} {d : Nat} {C : ab_X} {P : ab_O → Prop} {pc n : Nat} {ls : List (Option Value)} {st : List Value} {sh : List ab_S} {I A : ab_F} {bc bs : Nat} {x : Int32} {N bc' bs' : Nat} {sh' : List ab_S} (dg : decode M.2.1 pc = .ok (.newarray .int, 2)) (hx : ¬ x < 0) (hN : x.toNatClampNeg = N) (hby : N * 4 ≤ 536870912) (hw : Cond.arrayClass .int ∈ ab_ws) (hbc : bc' + 1 ≤ bc) (hbs : bs' + N ≤ bs) (hn : pc + 2 = n) (hsh : sh ++ [.inl (.int, N)] = sh') (kk : ab_G M d C P n ls (.ref sh.length :: st) sh' I (wrow A sh.length (fun _ => 0)) bc' bs') : ab_G M d C P pc ls (.int x :: st) sh I A bc bs := by
  obtain ⟨p, l, e, s, m, args, below, meth, c, D, cT, ac, Ar, ad0, n0, mc, ms⟩ := C
  intro hf ad H locs lsA cells slots h1 h2 h3 h4 h5 h6 h7 h8 h9 h10 h11
  subst hn
  subst hsh
  refine va_newa (atype := .int) (ty := .int) (N' := N) (a0 := (N, .inl (fun _ => 0))) hf.1 hf.2.1 (hf.2.2.2.2.2.2.2.1 _ hw) rfl hf.2.2.2.2.2.2.2.2.1 h9 h10 h11 hf.2.2.2.2.2.2.2.2.2.2.2.2 (fun cA => rfl) hx hN hby (show cells + 1 ≤ mc by omega) (show slots + N ≤ ms by omega) dg (fun q cA H1 g8 g9 g10 g11 => ?_)
  have ecA : cA = cT .int := by
    have k1 := (g8.2 3 (cA, .int) rfl).2
    have k2 := (hf.2.2.2.2.2.2.2.2.1.2 0 (cT .int, .int) rfl).2
    exact Option.some.inj (k1.symm.trans k2)
  subst ecA
  have e1 := ab_w_push (cT := cT) (ad := ad) (ad' := va_up ad sh.length q) (ac := ac) (I := I) (I' := I) (A := A) (A' := wrow A sh.length (fun _ => 0)) (x := .inl (.int, N)) h5 trivial ab_up_lt (fun _ _ => rfl) (fun k hk => if_neg (Nat.ne_of_lt hk))
  rw [va_up_self, show ab_e cT ad ac (I sh.length) (wrow A sh.length (fun _ => 0) sh.length) (.inl (.int, N)) = .inl (cT .int, N, .inl (fun _ => 0)) by unfold wrow; rw [if_pos rfl]; rfl] at e1
  rw [← e1] at g9 g10
  have hle : sh.length ≤ (sh ++ [(.inl (.int, N) : ab_S)]).length := by rw [List.length_append]; omega
  have e2 : st.map (ab_v ad ac) = st.map (ab_v (va_up ad sh.length q) ac) := List.map_congr_left (fun v hv => (ab_v_eq (n := sh.length) ab_up_lt (ab_ot h7 v hv)).symm)
  have e3 : ab_p ad ac 0 ls = ab_p (va_up ad sh.length q) ac 0 ls := (ab_p_eq (n := sh.length) ab_up_lt h6).symm
  rw [e3] at h8
  have e4 : Value.ref q :: st.map (ab_v ad ac) = (Value.ref sh.length :: st).map (ab_v (va_up ad sh.length q) ac) := by rw [List.map_cons, e2]; simp only [ab_v]; rw [va_up_self]
  rw [e4]
  exact kk hf (va_up ad sh.length q) H1 locs lsA (cells + 1) (slots + N) (by omega) (by omega) (by omega) (fun k hk => by rw [ab_up_lt k (by omega)]; exact h4 k hk) (ab_okpush h5 trivial) (fun v hv => (h6 v hv).mono hle) (ab_oc (show sh.length < _ by rw [List.length_append]; exact Nat.lt_succ_self _) (fun v hv => (ab_ot h7 v hv).mono hle)) h8 g9 g10 g11
theorem g_newb {M : ab_M} {d : Nat} {C : ab_X} {P : ab_O → Prop} {pc n : Nat} {ls : List (Option Value)} {st : List Value} {sh : List ab_S} {I A : ab_F} {bc bs : Nat} {x : Int32} {N bc' bs' : Nat} {sh' : List ab_S} (dg : decode M.2.1 pc = .ok (.newarray .byte, 2)) (hx : ¬ x < 0) (hN : x.toNatClampNeg = N) (hby : N * 1 ≤ 536870912) (hw : Cond.arrayClass .byte ∈ ab_ws) (hbc : bc' + 1 ≤ bc) (hbs : bs' + N ≤ bs) (hn : pc + 2 = n) (hsh : sh ++ [.inl (.byte, N)] = sh') (kk : ab_G M d C P n ls (.ref sh.length :: st) sh' I (wrow A sh.length (fun _ => 0)) bc' bs') : ab_G M d C P pc ls (.int x :: st) sh I A bc bs := by
  obtain ⟨p, l, e, s, m, args, below, meth, c, D, cT, ac, Ar, ad0, n0, mc, ms⟩ := C
  intro hf ad H locs lsA cells slots h1 h2 h3 h4 h5 h6 h7 h8 h9 h10 h11
  subst hn
  subst hsh
  refine va_newa (atype := .byte) (ty := .byte) (N' := N) (a0 := (N, .inl (fun _ => 0))) hf.1 hf.2.1 (hf.2.2.2.2.2.2.2.1 _ hw) rfl hf.2.2.2.2.2.2.2.2.1 h9 h10 h11 hf.2.2.2.2.2.2.2.2.2.2.2.2 (fun cA => rfl) hx hN hby (show cells + 1 ≤ mc by omega) (show slots + N ≤ ms by omega) dg (fun q cA H1 g8 g9 g10 g11 => ?_)
  have ecA : cA = cT .byte := by
    have k1 := (g8.2 3 (cA, .byte) rfl).2
    have k2 := (hf.2.2.2.2.2.2.2.2.1.2 1 (cT .byte, .byte) rfl).2
    exact Option.some.inj (k1.symm.trans k2)
  subst ecA
  have e1 := ab_w_push (cT := cT) (ad := ad) (ad' := va_up ad sh.length q) (ac := ac) (I := I) (I' := I) (A := A) (A' := wrow A sh.length (fun _ => 0)) (x := .inl (.byte, N)) h5 trivial ab_up_lt (fun _ _ => rfl) (fun k hk => if_neg (Nat.ne_of_lt hk))
  rw [va_up_self, show ab_e cT ad ac (I sh.length) (wrow A sh.length (fun _ => 0) sh.length) (.inl (.byte, N)) = .inl (cT .byte, N, .inl (fun _ => 0)) by unfold wrow; rw [if_pos rfl]; rfl] at e1
  rw [← e1] at g9 g10
  have hle : sh.length ≤ (sh ++ [(.inl (.byte, N) : ab_S)]).length := by rw [List.length_append]; omega
  have e2 : st.map (ab_v ad ac) = st.map (ab_v (va_up ad sh.length q) ac) := List.map_congr_left (fun v hv => (ab_v_eq (n := sh.length) ab_up_lt (ab_ot h7 v hv)).symm)
  have e3 : ab_p ad ac 0 ls = ab_p (va_up ad sh.length q) ac 0 ls := (ab_p_eq (n := sh.length) ab_up_lt h6).symm
  rw [e3] at h8
  have e4 : Value.ref q :: st.map (ab_v ad ac) = (Value.ref sh.length :: st).map (ab_v (va_up ad sh.length q) ac) := by rw [List.map_cons, e2]; simp only [ab_v]; rw [va_up_self]
  rw [e4]
  exact kk hf (va_up ad sh.length q) H1 locs lsA (cells + 1) (slots + N) (by omega) (by omega) (by omega) (fun k hk => by rw [ab_up_lt k (by omega)]; exact h4 k hk) (ab_okpush h5 trivial) (fun v hv => (h6 v hv).mono hle) (ab_oc (show sh.length < _ by rw [List.length_append]; exact Nat.lt_succ_self _) (fun v hv => (ab_ot h7 v hv).mono hle)) h8 g9 g10 g11
theorem g_new {M : ab_M} {d : Nat} {C : ab_X} {P : ab_O → Prop} {pc n : Nat} {ls : List (Option Value)} {st : List Value} {sh : List ab_S} {I A : ab_F} {bc bs : Nat} {ci idx N bc' bs' : Nat} {Cn : String} {T : u_T} {fs : List (Option Value)} {sh' : List ab_S} (dg : decode M.2.1 pc = .ok (.new idx, 3)) (hc : vwCl[ci]? = some (Cn, T, N)) (hz : ∀ o ∈ fs, o = none ∨ o = some .null) (hfs : ∀ j, j < N → defaultValue (ab_ty ci j) = vp_V (ab_fs (fun _ => 0) (fun _ => 0) (fun _ => 0) 0 fs) j) (hw1 : Cond.classLink M.1.cls idx Cn ∈ ab_ws) (hw2 : Cond.instantiable Cn N ∈ ab_ws) (hw3 : Cond.initialized Cn ∈ ab_ws) (hbc : bc' + 1 ≤ bc) (hbs : bs' + N ≤ bs) (hn : pc + 3 = n) (hsh : sh ++ [.inr (.inr (ci, fs))] = sh') (kk : ab_G M d C P n ls (.ref sh.length :: st) sh' (wrow I sh.length (fun _ => 0)) A bc' bs') : ab_G M d C P pc ls st sh I A bc bs := by
  obtain ⟨p, l, e, s, m, args, below, meth, c, D, cT, ac, Ar, ad0, n0, mc, ms⟩ := C
  intro hf ad H locs lsA cells slots h1 h2 h3 h4 h5 h6 h7 h8 h9 h10 h11
  subst hn
  subst hsh
  have hany : ∀ (ad1 ac1 : Nat → Nat), ab_fs ad1 ac1 (fun _ => 0) 0 fs = ab_fs (fun _ => 0) (fun _ => 0) (fun _ => 0) 0 fs := by
    intro ad1 ac1
    apply List.ext_getElem?
    intro i
    rw [ab_fs_get, ab_fs_get]
    cases ho : fs[i]? with
    | none => rfl
    | some o =>
      rcases hz o (List.mem_of_getElem? ho) with e | e <;> subst e <;> rfl
  have hxok : ∀ N9, ab_okS N9 (.inr (.inr (ci, fs)) : ab_S) := fun N9 v hv => by
    rcases hz _ hv with e | e
    · cases e
    · cases e; exact trivial
  refine va_new (ci := ci) (fs := ab_fs ad ac (fun _ => 0) 0 fs) hf.1 hf.2.1 hf.2.2.2.2.2.2.2.1 (ab_lay ci _ hc) (ab_ty ci) (ab_tyok ci _ hc) hf.2.2.2.2.2.2.1 (hf.2.2.2.2.2.2.2.1 _ hw1) (hf.2.2.2.2.2.2.2.1 _ hw2) (hf.2.2.2.2.2.2.2.1 _ hw3) hf.2.2.2.2.2.2.2.2.1 h9 h10 h11 hf.2.2.2.2.2.2.2.2.2.2.2.2 hc (fun j hj => by rw [hany]; exact hfs j hj) (show cells + 1 ≤ mc by omega) (show slots + N ≤ ms by omega) dg (fun q H1 g9 g10 g11 => ?_)
  have e1 := ab_w_push (cT := cT) (ad := ad) (ad' := va_up ad sh.length q) (ac := ac) (I := I) (I' := wrow I sh.length (fun _ => 0)) (A := A) (A' := A) (x := .inr (.inr (ci, fs))) h5 (hxok _) ab_up_lt (fun k hk => if_neg (Nat.ne_of_lt hk)) (fun _ _ => rfl)
  rw [va_up_self, show ab_e cT ad ac (wrow I sh.length (fun _ => 0) sh.length) (A sh.length) (.inr (.inr (ci, fs))) = .inr (ci, ab_fs ad ac (fun _ => 0) 0 fs) by unfold wrow; rw [if_pos rfl]; rfl] at e1
  rw [← e1] at g9 g10
  have hle : sh.length ≤ (sh ++ [(.inr (.inr (ci, fs)) : ab_S)]).length := by rw [List.length_append]; omega
  have e2 : st.map (ab_v ad ac) = st.map (ab_v (va_up ad sh.length q) ac) := List.map_congr_left (fun v hv => (ab_v_eq (n := sh.length) ab_up_lt (h7 v hv)).symm)
  have e3 : ab_p ad ac 0 ls = ab_p (va_up ad sh.length q) ac 0 ls := (ab_p_eq (n := sh.length) ab_up_lt h6).symm
  rw [e3] at h8
  have e4 : Value.ref q :: st.map (ab_v ad ac) = (Value.ref sh.length :: st).map (ab_v (va_up ad sh.length q) ac) := by rw [List.map_cons, e2]; simp only [ab_v]; rw [va_up_self]
  rw [e4]
  exact kk hf (va_up ad sh.length q) H1 locs lsA (cells + 1) (slots + N) (by omega) (by omega) (by omega) (fun k hk => by rw [ab_up_lt k (by omega)]; exact h4 k hk) (ab_okpush h5 (hxok _)) (fun v hv => (h6 v hv).mono hle) (ab_oc (show sh.length < _ by rw [List.length_append]; exact Nat.lt_succ_self _) (fun v hv => (h7 v hv).mono hle)) h8 g9 g10 g11
theorem g_objInit {M : ab_M} {d : Nat} {C : ab_X} {P : ab_O → Prop} {pc n : Nat} {ls : List (Option Value)} {st : List Value} {sh : List ab_S} {I A : ab_F} {bc bs : Nat} {q idx : Nat} (dg : decode M.2.1 pc = .ok (.invokespecial idx, 3)) (hw1 : Cond.methodLink M.1.cls idx Lib.objectInit ∈ ab_ws) (hw2 : Cond.instanceMethod Lib.objectInit ∈ ab_ws) (hw3 : Cond.code Lib.objectInit ⟨#[0xb1]⟩ 1 none ∈ ab_ws) (hd : 1 ≤ d) (hs : (st.map fun v => v.category).sum ≤ 8) (hn : pc + 3 = n) (kk : ab_G M d C P n ls st sh I A bc bs) : ab_G M d C P pc ls (.ref q :: st) sh I A bc bs := by
  obtain ⟨p, l, e, s, m, args, below, meth, c, D, cT, ac, Ar, ad0, n0, mc, ms⟩ := C
  intro hf ad H locs lsA cells slots h1 h2 h3 h4 h5 h6 h7 h8 h9 h10 h11
  subst hn
  have hs2 : ((st.map (ab_v ad ac)).map fun v => v.category).sum ≤ 8 := by rw [List.map_map, show ((fun v : Value => v.category) ∘ ab_v ad ac) = fun v => v.category from funext (fun v => ab_cat ad ac v)]; exact hs
  refine W.objInit hf.1 hf.2.1 hf.2.2.2.2.2.2.1 (hf.2.2.2.2.2.2.2.1 _ hw1) (hf.2.2.2.2.2.2.2.1 _ hw2) (hf.2.2.2.2.2.2.2.1 _ hw3) rfl (by rw [hf.2.2.1]; exact h8.1) rfl dg hd ?_ ?_
  · show 2 * 0 + _ + 12 ≤ 100 * d
    omega
  · exact kk hf ad H locs lsA cells slots h1 h2 h3 h4 h5 h6 (ab_ot h7) h8 h9 h10 h11
