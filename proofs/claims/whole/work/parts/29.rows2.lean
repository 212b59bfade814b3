/-! a float's constant by a wide index -/
theorem ab_ldcwF {p : Program} {l : Launch} {e : Env} {R : Room} {s : State} {m : MethodId} {args : Array Value} {below : List Frame} {meth : Method} {c : Code} {H : Heap} {locs : List Loc} {cells slots : Nat} {Q : State → Prop} {cc : ByteArray} {pc : Nat} {ls : Array Slot} {rest : List Value} (hexec : p.tables.exec = Jvm.exec) (hb : c.code = cc) {own : String} {index : Nat} {v : UInt32} (hown : s.vm.findClass own = some m.cls) (hconst : (Jvm.Cond.constantFloat own index v).before args s = true) (hdg : decode cc pc = .ok (.ldc_w index, 3))
    (k : W p l e R s m args below meth c H locs cells slots Q (F0 m (pc + 3) ls (.float v :: rest))) : W p l e R s m args below meth c H locs cells slots Q (F0 m pc ls rest) := by
  intro T hT X
  obtain ⟨t, a1, b1⟩ := k T hT X
  obtain ⟨kk, cf, hk, hcf, hcp⟩ := Cond.constantFloat_spec hown hconst
  obtain ⟨k', hk', he⟩ := X.warmed.alike.2.2 _ _ hk
  refine ⟨t, ?_, b1⟩
  have hdg' : decode c.code (F0 m pc ls rest).pc = .ok (.ldc_w index, 3) := by rw [hb]; exact hdg
  jvm_step X.here [hexec, hdg', ldc_w.wp_float (s := T) (f := F0 m pc ls rest) X.here.top hk' (by rw [he]; exact hcf) hcp]
  exact a1
theorem g_ldcwF {M : ab_M} {d : Nat} {C : ab_X} {P : ab_O → Prop} {pc n : Nat} {ls : List (Option Value)} {st : List Value} {sh : List ab_S} {I A : ab_F} {bc bs : Nat} {k : Nat} {v : UInt32} (dg : decode M.2.1 pc = .ok (.ldc_w k, 3)) (hw : Cond.constantFloat M.1.cls k v ∈ ab_ws) (hn : pc + 3 = n) (kk : ab_G M d C P n ls (.float v :: st) sh I A bc bs) : ab_G M d C P pc ls st sh I A bc bs := by
  obtain ⟨p, l, e, s, m, args, below, meth, c, D, cT, ac, Ar, ad0, n0, mc, ms⟩ := C
  intro hf ad H locs lsA cells slots h1 h2 h3 h4 h5 h6 h7 h8 h9 h10 h11
  subst hn
  exact ab_ldcwF hf.1 hf.2.1 hf.2.2.2.2.2.2.1 (hf.2.2.2.2.2.2.2.1 _ hw) dg (kk hf ad H locs lsA cells slots h1 h2 h3 h4 h5 h6 (ab_oc trivial h7) h8 h9 h10 h11)
