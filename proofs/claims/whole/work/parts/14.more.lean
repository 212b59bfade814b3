theorem ab_ldcwS {p : Program} {l : Launch} {e : Env} {R : Room} {s : State} {m : MethodId} {args : Array Value} {below : List Frame} {meth : Method} {c : Code} {H : Heap} {locs : List Loc} {cells slots : Nat} {Q : State → Prop} {cc : ByteArray} {pc : Nat} {ls : Array Slot} {rest : List Value} (hexec : p.tables.exec = Jvm.exec) (hb : c.code = cc) {own tx : String} {index q : Nat} (hown : s.vm.findClass own = some m.cls) (hZ : vk_R own index tx q s) (hdg : decode cc pc = .ok (.ldc_w index, 3))
    (k : W p l e R s m args below meth c H locs cells slots Q (F0 m (pc + 3) ls (.ref q :: rest))) : W p l e R s m args below meth c H locs cells slots Q (F0 m pc ls rest) := by
  intro T hT X
  obtain ⟨t, a1, b1⟩ := k T hT X
  obtain ⟨kk, cf, i, a', hk, hcf, hcp, -, hr, hev'⟩ := Cond.stringRef_spec hown hZ.1
  cases hZ.2.symm.trans hev'
  obtain ⟨k', hk', he⟩ := X.warmed.alike.2.2 _ _ hk
  have hr' : k'.resolved[index]? = some (some (.string q)) := by
    rcases X.warmed.entry hk hk' index with h | ⟨h, -⟩
    · rw [h]; exact hr
    · rw [hr] at h; cases h
  refine ⟨t, ?_, b1⟩
  have hdg' : decode c.code (F0 m pc ls rest).pc = .ok (.ldc_w index, 3) := by rw [hb]; exact hdg
  jvm_step X.here [hexec, hdg', ldc_w.wp_string (e := e) (s := T) (f := F0 m pc ls rest) X.here.top hk' (by rw [he]; exact hcf) hcp hr']
  exact a1
theorem g_ldcwS {M : ab_M} {d : Nat} {C : ab_X} {P : ab_O → Prop} {pc n : Nat} {ls : List (Option Value)} {st : List Value} {sh : List ab_S} {I A : ab_F} {bc bs : Nat} {k i : Nat} {tx : String} {bl : List Int32} (dg : decode M.2.1 pc = .ok (.ldc_w k, 3)) (hs : ab_str[i]? = some (M.1.cls, k, tx, bl)) (hn : pc + 3 = n) (kk : ab_G M d C P n ls (.retAddr (2 * i) :: st) sh I A bc bs) : ab_G M d C P pc ls st sh I A bc bs := by
  obtain ⟨p, l, e, s, m, args, below, meth, c, D, cT, ac, Ar, ad0, n0, mc, ms⟩ := C
  intro hf ad H locs lsA cells slots h1 h2 h3 h4 h5 h6 h7 h8 h9 h10 h11
  subst hn
  exact ab_ldcwS hf.1 hf.2.1 hf.2.2.2.2.2.2.1 (hf.2.2.2.2.2.2.2.2.2.1.1 i _ hs).1 dg (kk hf ad H locs lsA cells slots h1 h2 h3 h4 h5 h6 (ab_oc trivial h7) h8 h9 h10 h11)
theorem g_mmax {M : ab_M} {d : Nat} {C : ab_X} {P : ab_O → Prop} {pc n : Nat} {ls : List (Option Value)} {st : List Value} {sh : List ab_S} {I A : ab_F} {bc bs : Nat} {x y : Int32} {idx : Nat} (dg : decode M.2.1 pc = .ok (.invokestatic idx, 3)) (hw1 : Cond.methodLink M.1.cls idx Lib.Math.max.name ∈ ab_ws) (hw2 : Cond.static Lib.Math.max.name ∈ ab_ws) (hw3 : Cond.initialized "java/lang/Math" ∈ ab_ws) (hw4 : Cond.code Lib.Math.max.name Lib.Math.max.code 2 (some .int) ∈ ab_ws) (hd : 1 ≤ d) (hs8 : (st.map fun v => v.category).sum ≤ 8) (hn : pc + 3 = n) (kk : ab_G M d C P n ls (.int (if x < y then y else x) :: st) sh I A bc bs) : ab_G M d C P pc ls (.int y :: .int x :: st) sh I A bc bs := by
  obtain ⟨p, l, e, s, m, args, below, meth, c, D, cT, ac, Ar, ad0, n0, mc, ms⟩ := C
  intro hf ad H locs lsA cells slots h1 h2 h3 h4 h5 h6 h7 h8 h9 h10 h11
  subst hn
  have hs2 : ((st.map (ab_v ad ac)).map fun v => v.category).sum ≤ 8 := ab_catsum hs8
  refine va_mmax hf.1 hf.2.1 (by rw [hf.2.2.1]; exact h8.1.symm) hf.2.2.2.2.2.2.1 (hf.2.2.2.2.2.2.2.1 _ hw1) (hf.2.2.2.2.2.2.2.1 _ hw2) (hf.2.2.2.2.2.2.2.1 _ hw3) (hf.2.2.2.2.2.2.2.1 _ hw4) hd ?_ (show cells ≤ mc by omega) (show slots ≤ ms by omega) dg (kk hf ad H locs lsA cells slots h1 h2 h3 h4 h5 h6 (ab_oc trivial (ab_ot (ab_ot h7))) h8 h9 h10 h11)
  show _ + 13 ≤ 100 * d
  omega
theorem g_mmin {M : ab_M} {d : Nat} {C : ab_X} {P : ab_O → Prop} {pc n : Nat} {ls : List (Option Value)} {st : List Value} {sh : List ab_S} {I A : ab_F} {bc bs : Nat} {x y : Int32} {idx : Nat} (dg : decode M.2.1 pc = .ok (.invokestatic idx, 3)) (hw1 : Cond.methodLink M.1.cls idx Lib.Math.min.name ∈ ab_ws) (hw2 : Cond.static Lib.Math.min.name ∈ ab_ws) (hw3 : Cond.initialized "java/lang/Math" ∈ ab_ws) (hw4 : Cond.code Lib.Math.min.name Lib.Math.min.code 2 (some .int) ∈ ab_ws) (hd : 1 ≤ d) (hs8 : (st.map fun v => v.category).sum ≤ 8) (hn : pc + 3 = n) (kk : ab_G M d C P n ls (.int (if y < x then y else x) :: st) sh I A bc bs) : ab_G M d C P pc ls (.int y :: .int x :: st) sh I A bc bs := by
  obtain ⟨p, l, e, s, m, args, below, meth, c, D, cT, ac, Ar, ad0, n0, mc, ms⟩ := C
  intro hf ad H locs lsA cells slots h1 h2 h3 h4 h5 h6 h7 h8 h9 h10 h11
  subst hn
  have hs2 : ((st.map (ab_v ad ac)).map fun v => v.category).sum ≤ 8 := ab_catsum hs8
  refine va_mmin hf.1 hf.2.1 (by rw [hf.2.2.1]; exact h8.1.symm) hf.2.2.2.2.2.2.1 (hf.2.2.2.2.2.2.2.1 _ hw1) (hf.2.2.2.2.2.2.2.1 _ hw2) (hf.2.2.2.2.2.2.2.1 _ hw3) (hf.2.2.2.2.2.2.2.1 _ hw4) hd ?_ (show cells ≤ mc by omega) (show slots ≤ ms by omega) dg (kk hf ad H locs lsA cells slots h1 h2 h3 h4 h5 h6 (ab_oc trivial (ab_ot (ab_ot h7))) h8 h9 h10 h11)
  show _ + 13 ≤ 100 * d
  omega
theorem g_i2fN {M : ab_M} {d : Nat} {C : ab_X} {P : ab_O → Prop} {pc n : Nat} {ls : List (Option Value)} {st : List Value} {sh : List ab_S} {I A : ab_F} {bc bs : Nat} {x : Int32} {idx : Nat} (dg : decode M.2.1 pc = .ok (.invokestatic idx, 3)) (hw1 : Cond.methodLink M.1.cls idx ⟨"java/lang/Float", "intBitsToFloat", "(I)F"⟩ ∈ ab_ws) (hw2 : Cond.native ⟨"java/lang/Float", "intBitsToFloat", "(I)F"⟩ ∈ ab_ws) (hw3 : Cond.static ⟨"java/lang/Float", "intBitsToFloat", "(I)F"⟩ ∈ ab_ws) (hw4 : Cond.initialized "java/lang/Float" ∈ ab_ws) (hv : vn_sni2f x = false) (hd : 1 ≤ d) (hs8 : (st.map fun v => v.category).sum ≤ 8) (hn : pc + 3 = n) (kk : ab_G M d C P n ls (.float x.toUInt32 :: st) sh I A bc bs) : ab_G M d C P pc ls (.int x :: st) sh I A bc bs := by
  obtain ⟨p, l, e, s, m, args, below, meth, c, D, cT, ac, Ar, ad0, n0, mc, ms⟩ := C
  intro hf ad H locs lsA cells slots h1 h2 h3 h4 h5 h6 h7 h8 h9 h10 h11
  subst hn
  have hs2 : ((st.map (ab_v ad ac)).map fun v => v.category).sum ≤ 8 := ab_catsum hs8
  refine vn_i2f hf.1 hf.2.1 (by rw [hf.2.2.1]; exact h8.1.symm) hf.2.2.2.2.2.2.1 (hf.2.2.2.2.2.2.2.1 _ hw1) (hf.2.2.2.2.2.2.2.1 _ hw2) (hf.2.2.2.2.2.2.2.1 _ hw3) (hf.2.2.2.2.2.2.2.1 _ hw4) hv hd ?_ dg (kk hf ad H locs lsA cells slots h1 h2 h3 h4 h5 h6 (ab_oc trivial (ab_ot h7)) h8 h9 h10 h11)
  show _ + 15 ≤ 100 * d
  omega
theorem g_f2iN {M : ab_M} {d : Nat} {C : ab_X} {P : ab_O → Prop} {pc n : Nat} {ls : List (Option Value)} {st : List Value} {sh : List ab_S} {I A : ab_F} {bc bs : Nat} {x : UInt32} {idx : Nat} (dg : decode M.2.1 pc = .ok (.invokestatic idx, 3)) (hw1 : Cond.methodLink M.1.cls idx ⟨"java/lang/Float", "floatToRawIntBits", "(F)I"⟩ ∈ ab_ws) (hw2 : Cond.native ⟨"java/lang/Float", "floatToRawIntBits", "(F)I"⟩ ∈ ab_ws) (hw3 : Cond.static ⟨"java/lang/Float", "floatToRawIntBits", "(F)I"⟩ ∈ ab_ws) (hw4 : Cond.initialized "java/lang/Float" ∈ ab_ws) (hd : 1 ≤ d) (hs8 : (st.map fun v => v.category).sum ≤ 8) (hn : pc + 3 = n) (kk : ab_G M d C P n ls (.int x.toInt32 :: st) sh I A bc bs) : ab_G M d C P pc ls (.float x :: st) sh I A bc bs := by
  obtain ⟨p, l, e, s, m, args, below, meth, c, D, cT, ac, Ar, ad0, n0, mc, ms⟩ := C
  intro hf ad H locs lsA cells slots h1 h2 h3 h4 h5 h6 h7 h8 h9 h10 h11
  subst hn
  have hs2 : ((st.map (ab_v ad ac)).map fun v => v.category).sum ≤ 8 := ab_catsum hs8
  refine vn_f2i hf.1 hf.2.1 (by rw [hf.2.2.1]; exact h8.1.symm) hf.2.2.2.2.2.2.1 (hf.2.2.2.2.2.2.2.1 _ hw1) (hf.2.2.2.2.2.2.2.1 _ hw2) (hf.2.2.2.2.2.2.2.1 _ hw3) (hf.2.2.2.2.2.2.2.1 _ hw4) hd ?_ dg (kk hf ad H locs lsA cells slots h1 h2 h3 h4 h5 h6 (ab_oc trivial (ab_ot h7)) h8 h9 h10 h11)
  show _ + 15 ≤ 100 * d
  omega
theorem g_kval {M : ab_M} {d : Nat} {C : ab_X} {P : ab_O → Prop} {pc n : Nat} {ls : List (Option Value)} {st : List Value} {sh : List ab_S} {I A : ab_F} {bc bs : Nat} {i idx : Nat} {sq : String × Nat × String × List Int32} (hs : ab_str[i]? = some sq) (dg : decode M.2.1 pc = .ok (.getfield idx, 3)) (hw : Cond.fieldLink M.1.cls idx "java/lang/String" "value" "[B" ∈ ab_ws) (hn : pc + 3 = n) (kk : ab_G M d C P n ls (.retAddr (2 * i + 1) :: st) sh I A bc bs) : ab_G M d C P pc ls (.retAddr (2 * i) :: st) sh I A bc bs := by
  obtain ⟨p, l, e, s, m, args, below, meth, c, D, cT, ac, Ar, ad0, n0, mc, ms⟩ := C
  intro hf ad H locs lsA cells slots h1 h2 h3 h4 h5 h6 h7 h8 h9 h10 h11
  subst hn
  exact vk_getf hf.1 hf.2.1 (hf.2.2.2.2.2.2.2.2.2.1.1 i sq hs).2.2.2.1 h11 hf.2.2.2.2.2.2.1 (hf.2.2.2.2.2.2.2.1 _ hw) (fun _ h => h) dg (kk hf ad H locs lsA cells slots h1 h2 h3 h4 h5 h6 (ab_oc trivial (ab_ot h7)) h8 h9 h10 h11)
theorem g_kcoder {M : ab_M} {d : Nat} {C : ab_X} {P : ab_O → Prop} {pc n : Nat} {ls : List (Option Value)} {st : List Value} {sh : List ab_S} {I A : ab_F} {bc bs : Nat} {i idx : Nat} {sq : String × Nat × String × List Int32} (hs : ab_str[i]? = some sq) (dg : decode M.2.1 pc = .ok (.getfield idx, 3)) (hw : Cond.fieldLink M.1.cls idx "java/lang/String" "coder" "B" ∈ ab_ws) (hn : pc + 3 = n) (kk : ab_G M d C P n ls (.int 0 :: st) sh I A bc bs) : ab_G M d C P pc ls (.retAddr (2 * i) :: st) sh I A bc bs := by
  obtain ⟨p, l, e, s, m, args, below, meth, c, D, cT, ac, Ar, ad0, n0, mc, ms⟩ := C
  intro hf ad H locs lsA cells slots h1 h2 h3 h4 h5 h6 h7 h8 h9 h10 h11
  subst hn
  exact vk_getf hf.1 hf.2.1 (hf.2.2.2.2.2.2.2.2.2.1.1 i sq hs).2.2.1 h11 hf.2.2.2.2.2.2.1 (hf.2.2.2.2.2.2.2.1 _ hw) (fun _ h => h) dg (kk hf ad H locs lsA cells slots h1 h2 h3 h4 h5 h6 (ab_oc trivial (ab_ot h7)) h8 h9 h10 h11)
theorem g_klen {M : ab_M} {d : Nat} {C : ab_X} {P : ab_O → Prop} {pc n : Nat} {ls : List (Option Value)} {st : List Value} {sh : List ab_S} {I A : ab_F} {bc bs : Nat} {i : Nat} {sq : String × Nat × String × List Int32} (hs : ab_str[i]? = some sq) (dg : decode M.2.1 pc = .ok (.arraylength, 1)) (hn : pc + 1 = n) (kk : ab_G M d C P n ls (.int (nI sq.2.2.2.length) :: st) sh I A bc bs) : ab_G M d C P pc ls (.retAddr (2 * i + 1) :: st) sh I A bc bs := by
  obtain ⟨p, l, e, s, m, args, below, meth, c, D, cT, ac, Ar, ad0, n0, mc, ms⟩ := C
  intro hf ad H locs lsA cells slots h1 h2 h3 h4 h5 h6 h7 h8 h9 h10 h11
  subst hn
  exact va_tlen hf.1 hf.2.1 (hf.2.2.2.2.2.2.2.2.2.1.1 i sq hs).2.2.2.2 h11 rfl dg (kk hf ad H locs lsA cells slots h1 h2 h3 h4 h5 h6 (ab_oc trivial (ab_ot h7)) h8 h9 h10 h11)
theorem g_kbald {M : ab_M} {d : Nat} {C : ab_X} {P : ab_O → Prop} {pc n : Nat} {ls : List (Option Value)} {st : List Value} {sh : List ab_S} {I A : ab_F} {bc bs : Nat} {i j : Nat} {x : Int32} {sq : String × Nat × String × List Int32} (hs : ab_str[i]? = some sq) (dg : decode M.2.1 pc = .ok (.baload, 1)) (hj : x = nI j) (hl : j < sq.2.2.2.length) (hN : sq.2.2.2.length < 2 ^ 31) (hn : pc + 1 = n) (kk : ab_G M d C P n ls (.int (sq.2.2.2.getD j 0) :: st) sh I A bc bs) : ab_G M d C P pc ls (.int x :: .retAddr (2 * i + 1) :: st) sh I A bc bs := by
  obtain ⟨p, l, e, s, m, args, below, meth, c, D, cT, ac, Ar, ad0, n0, mc, ms⟩ := C
  intro hf ad H locs lsA cells slots h1 h2 h3 h4 h5 h6 h7 h8 h9 h10 h11
  subst hn
  subst hj
  have hin : vp_in (nI j) sq.2.2.2.length := vp_in_nI hl hN
  have hcl : (nI j).toNatClampNeg = j := nI_clamp (by omega)
  exact va_tb hf.1 hf.2.1 (hf.2.2.2.2.2.2.2.2.2.1.1 i sq hs).2.2.2.2 h11 hin (by rw [hcl]; rfl) dg (kk hf ad H locs lsA cells slots h1 h2 h3 h4 h5 h6 (ab_oc trivial (ab_ot (ab_ot h7))) h8 h9 h10 h11)
theorem g_compact {M : ab_M} {d : Nat} {C : ab_X} {P : ab_O → Prop} {pc n : Nat} {ls : List (Option Value)} {st : List Value} {sh : List ab_S} {I A : ab_F} {bc bs : Nat} {idx : Nat} (dg : decode M.2.1 pc = .ok (.getstatic idx, 3)) (hw : Cond.fieldLink M.1.cls idx "java/lang/String" "COMPACT_STRINGS" "Z" ∈ ab_ws) (hn : pc + 3 = n) (kk : ab_G M d C P n ls (.int 1 :: st) sh I A bc bs) : ab_G M d C P pc ls st sh I A bc bs := by
  obtain ⟨p, l, e, s, m, args, below, meth, c, D, cT, ac, Ar, ad0, n0, mc, ms⟩ := C
  intro hf ad H locs lsA cells slots h1 h2 h3 h4 h5 h6 h7 h8 h9 h10 h11
  subst hn
  exact va_gets hf.1 hf.2.1 hf.2.2.2.2.2.2.2.2.2.1.2.2.1 h11 hf.2.2.2.2.2.2.1 (hf.2.2.2.2.2.2.2.1 _ hw) (fun _ h => h) dg (kk hf ad H locs lsA cells slots h1 h2 h3 h4 h5 h6 (ab_oc trivial h7) h8 h9 h10 h11)
theorem g_sioobe {M : ab_M} {d : Nat} {C : ab_X} {P : ab_O → Prop} {pc n : Nat} {ls : List (Option Value)} {st : List Value} {sh : List ab_S} {I A : ab_F} {bc bs : Nat} {idx : Nat} (dg : decode M.2.1 pc = .ok (.getstatic idx, 3)) (hw : Cond.fieldLink M.1.cls idx "jdk/internal/util/Preconditions" "SIOOBE_FORMATTER" "Ljava/util/function/BiFunction;" ∈ ab_ws) (hn : pc + 3 = n) (k0 : ab_G M d C P n ls (.null :: st) sh I A bc bs) (k1 : ab_G M d C P n ls (.retAddr 2000 :: st) sh I A bc bs) : ab_G M d C P pc ls st sh I A bc bs := by
  obtain ⟨p, l, e, s, m, args, below, meth, c, D, cT, ac, Ar, ad0, n0, mc, ms⟩ := C
  intro hf ad H locs lsA cells slots h1 h2 h3 h4 h5 h6 h7 h8 h9 h10 h11
  subst hn
  rcases hf.2.2.2.2.2.2.2.2.2.1.2.2.2.1 with q | q
  · exact va_gets hf.1 hf.2.1 q h11 hf.2.2.2.2.2.2.1 (hf.2.2.2.2.2.2.2.1 _ hw) (fun _ h => h) dg (k0 hf ad H locs lsA cells slots h1 h2 h3 h4 h5 h6 (ab_oc trivial h7) h8 h9 h10 h11)
  · exact va_gets hf.1 hf.2.1 q h11 hf.2.2.2.2.2.2.1 (hf.2.2.2.2.2.2.2.1 _ hw) (fun _ h => h) dg (k1 hf ad H locs lsA cells slots h1 h2 h3 h4 h5 h6 (ab_oc trivial h7) h8 h9 h10 h11)
theorem g_ksta {M : ab_M} {d : Nat} {C : ab_X} {P : ab_O → Prop} {pc n : Nat} {ls : List (Option Value)} {st : List Value} {sh : List ab_S} {I A : ab_F} {bc bs : Nat} {idx i : Nat} {sq : String × String × String × FieldType × List Int32} (hs : ab_sta[i]? = some sq) (dg : decode M.2.1 pc = .ok (.getstatic idx, 3)) (hw : Cond.fieldLink M.1.cls idx sq.1 sq.2.1 sq.2.2.1 ∈ ab_ws) (hn : pc + 3 = n) (kk : ab_G M d C P n ls (.retAddr (1000 + i) :: st) sh I A bc bs) : ab_G M d C P pc ls st sh I A bc bs := by
  obtain ⟨p, l, e, s, m, args, below, meth, c, D, cT, ac, Ar, ad0, n0, mc, ms⟩ := C
  intro hf ad H locs lsA cells slots h1 h2 h3 h4 h5 h6 h7 h8 h9 h10 h11
  subst hn
  exact va_gets hf.1 hf.2.1 (hf.2.2.2.2.2.2.2.2.2.1.2.1 i sq hs).1 h11 hf.2.2.2.2.2.2.1 (hf.2.2.2.2.2.2.2.1 _ hw) (fun _ h => h) dg (kk hf ad H locs lsA cells slots h1 h2 h3 h4 h5 h6 (ab_oc trivial h7) h8 h9 h10 h11)
theorem g_kstaN {M : ab_M} {d : Nat} {C : ab_X} {P : ab_O → Prop} {pc n : Nat} {ls : List (Option Value)} {st : List Value} {sh : List ab_S} {I A : ab_F} {bc bs : Nat} {idx i : Nat} {host : String} {sq : String × String × String × FieldType × List Int32} (hs : ab_sta[i]? = some sq) (dg : decode M.2.1 pc = .ok (.getstatic idx, 3)) (hw : Cond.fieldLinkNest M.1.cls idx sq.1 sq.2.1 sq.2.2.1 host ∈ ab_ng) (hn : pc + 3 = n) (kk : ab_G M d C P n ls (.retAddr (1000 + i) :: st) sh I A bc bs) : ab_G M d C P pc ls st sh I A bc bs := by
  obtain ⟨p, l, e, s, m, args, below, meth, c, D, cT, ac, Ar, ad0, n0, mc, ms⟩ := C
  intro hf ad H locs lsA cells slots h1 h2 h3 h4 h5 h6 h7 h8 h9 h10 h11
  subst hn
  exact va_getsN hf.1 hf.2.1 (hf.2.2.2.2.2.2.2.2.2.1.2.1 i sq hs).1 h11 hf.2.2.2.2.2.2.1 ((hf.2.2.2.2.2.2.2.2.2.1.2.2.2.2.1 _ hw).use rfl) (fun _ h => h) dg (kk hf ad H locs lsA cells slots h1 h2 h3 h4 h5 h6 (ab_oc trivial h7) h8 h9 h10 h11)
theorem g_kstab {M : ab_M} {d : Nat} {C : ab_X} {P : ab_O → Prop} {pc n : Nat} {ls : List (Option Value)} {st : List Value} {sh : List ab_S} {I A : ab_F} {bc bs : Nat} {i j : Nat} {x : Int32} {sq : String × String × String × FieldType × List Int32} (hs : ab_sta[i]? = some sq) (hty : sq.2.2.2.1 = .byte) (dg : decode M.2.1 pc = .ok (.baload, 1)) (hj : x = nI j) (hl : j < sq.2.2.2.2.length) (hN : sq.2.2.2.2.length < 2 ^ 31) (hn : pc + 1 = n) (kk : ab_G M d C P n ls (.int (sq.2.2.2.2.getD j 0) :: st) sh I A bc bs) : ab_G M d C P pc ls (.int x :: .retAddr (1000 + i) :: st) sh I A bc bs := by
  obtain ⟨p, l, e, s, m, args, below, meth, c, D, cT, ac, Ar, ad0, n0, mc, ms⟩ := C
  intro hf ad H locs lsA cells slots h1 h2 h3 h4 h5 h6 h7 h8 h9 h10 h11
  subst hn
  subst hj
  have hin : vp_in (nI j) sq.2.2.2.2.length := vp_in_nI hl hN
  have hcl : (nI j).toNatClampNeg = j := nI_clamp (by omega)
  have hT := (hf.2.2.2.2.2.2.2.2.2.1.2.1 i sq hs).2
  rw [hty] at hT
  exact va_tb hf.1 hf.2.1 hT h11 hin (by rw [hcl]; rfl) dg (kk hf ad H locs lsA cells slots h1 h2 h3 h4 h5 h6 (ab_oc trivial (ab_ot (ab_ot h7))) h8 h9 h10 h11)
theorem g_kstai {M : ab_M} {d : Nat} {C : ab_X} {P : ab_O → Prop} {pc n : Nat} {ls : List (Option Value)} {st : List Value} {sh : List ab_S} {I A : ab_F} {bc bs : Nat} {i j : Nat} {x : Int32} {sq : String × String × String × FieldType × List Int32} (hs : ab_sta[i]? = some sq) (hty : sq.2.2.2.1 = .int) (dg : decode M.2.1 pc = .ok (.iaload, 1)) (hj : x = nI j) (hl : j < sq.2.2.2.2.length) (hN : sq.2.2.2.2.length < 2 ^ 31) (hn : pc + 1 = n) (kk : ab_G M d C P n ls (.int (sq.2.2.2.2.getD j 0) :: st) sh I A bc bs) : ab_G M d C P pc ls (.int x :: .retAddr (1000 + i) :: st) sh I A bc bs := by
  obtain ⟨p, l, e, s, m, args, below, meth, c, D, cT, ac, Ar, ad0, n0, mc, ms⟩ := C
  intro hf ad H locs lsA cells slots h1 h2 h3 h4 h5 h6 h7 h8 h9 h10 h11
  subst hn
  subst hj
  have hin : vp_in (nI j) sq.2.2.2.2.length := vp_in_nI hl hN
  have hcl : (nI j).toNatClampNeg = j := nI_clamp (by omega)
  have hT := (hf.2.2.2.2.2.2.2.2.2.1.2.1 i sq hs).2
  rw [hty] at hT
  exact va_ti hf.1 hf.2.1 hT h11 hin (by rw [hcl]; rfl) dg (kk hf ad H locs lsA cells slots h1 h2 h3 h4 h5 h6 (ab_oc trivial (ab_ot (ab_ot h7))) h8 h9 h10 h11)
theorem ab_enterF {M : ab_M} {d mc ms : Nat} {as : List Value} {sh : List ab_S} {I A : ab_F} {P : ab_O → Prop} {ls : List (Option Value)} (hy : plainFor M.1 = true) (hn : (ab_ent as).length ≤ M.2.2.1) (hl : ls = ab_ent as ++ List.replicate (M.2.2.1 - (ab_ent as).length) none)
    (k : ∀ C : ab_X, ab_G M d C P 0 ls [] sh I A mc ms) : ab_Cl M d mc ms as sh I A P := by
  intro l htr D cT ac ad sz hok hoka
  refine MetFree.of_bodySF (code := M.2.1) (maxLocals := M.2.2.1) (ret := M.2.2.2) hy ?_ ?_
  · intro args s m h hn
    obtain ⟨meth, c, h1, h2, h3, h4, h5, h6, -, -⟩ := Cond.code_spec hn (atoms_spec (ws := Cond.code M.1 M.2.1 M.2.2.1 M.2.2.2 :: ab_ws) h _ List.mem_cons_self)
    exact ⟨meth, c, h1, h2, h3, h4, h5, h6⟩
  intro p e s m args below meth c s₁ B hml hv _
  obtain ⟨rfl, hsz, hP, hK, hD0, hCK⟩ := hv
  have hts := atoms_spec (ws := Cond.code M.1 M.2.1 M.2.2.1 M.2.2.2 :: ab_ws) B.pre
  have hxt : ∀ x ∈ c.exceptionTable.toList, False := by
    obtain ⟨meth9, c9, g1, g2, -, -, -, -, g7, -⟩ := Cond.code_spec B.named (hts _ List.mem_cons_self)
    cases Option.some.inj (g1.symm.trans B.method)
    cases Option.some.inj (g2.symm.trans (Stand.of_body B).code)
    intro x hx
    rw [Array.isEmpty_iff.mp g7] at hx
    cases hx
  have hown : s.vm.findClass M.1.cls = some m.cls := findClass_of_methodNamed B.named
  have hin : meth.name = M.1.name := (name_of_methodNamed B.named B.method).1
  subst hsz
  have hD := hD0.self (sz := s.heap.size)
  have hlv := lv_entry (as.map (ab_v ad ac)) (n := M.2.2.1) (by rw [ab_ent_len]; exact hn)
  have hlv2 : lv_has ((lg_sl (as.map (ab_v ad ac)) ++ List.replicate (M.2.2.1 - (lg_sl (as.map (ab_v ad ac))).length) Slot.unset).toArray) M.2.2.1 (ab_p ad ac 0 ls) := by
    refine ⟨hlv.1, hlv.2.1, fun q hq => hlv.2.2 q ?_⟩
    rw [hl, ab_p_app] at hq
    exact ab_ent_args ad ac as 0 q hq
  have hh0 : s₁.heap = s.heap := by rw [B.state]; rfl
  have hG := k (p, l, e, s, m, (as.map (ab_v ad ac)).toArray, below, meth, c, D, cT, ac, va_A (ab_w cT ad ac I A 0 sh) s.heap.size, ad, sh.length, mc, ms)
  have K9 : W p l e (ab_rm d mc ms) s m (as.map (ab_v ad ac)).toArray below meth c s.heap [] 0 0 (vx_MQ below (ab_Qc D cT ac (va_A (ab_w cT ad ac I A 0 sh) s.heap.size) ad sh.length P) (ab_XC D cT ac (va_A (ab_w cT ad ac I A 0 sh) s.heap.size) ad sh.length P) (as.map (ab_v ad ac)).toArray s mc ms (va_A (ab_w cT ad ac I A 0 sh) s.heap.size)) (entryFrame m (as.map (ab_v ad ac)).toArray M.2.2.1) := by
    rw [lg_entry_eq]
    refine hG ⟨B.exec, B.bytes, hml, B.returns, B.notSynchronized, hin, hown, fun w hw => hts w (List.mem_cons_of_mem _ hw), hK, hCK, htr, hxt, fun q hq => Or.inr hq⟩ ad s.heap [] _ 0 0 (by omega) (by omega) (Nat.le_refl _) (fun _ _ => rfl) hok ?_ (fun v hv => absurd hv List.not_mem_nil) hlv2 hP hD va_S.rf
    rw [hl]
    intro v hv
    rcases List.mem_append.mp hv with h | h
    · exact ab_ent_ok hoka v h
    · exact absurd (List.eq_of_mem_replicate h) (by simp)
  obtain ⟨t, a1, o, b1, b2, b3⟩ := K9 s₁ hh0 (Stand.of_body B)
  exact ⟨t, o, a1, b1, b2, b3⟩
