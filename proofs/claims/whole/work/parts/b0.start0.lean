/-! what the start gives: the words -/
theorem ls_more {s : State} {args : Array Value} {n d : String} (h1 : (Cond.privateMethod ⟨"java/lang/AbstractStringBuilder", n, d⟩).before args s = true) (h2 : (Cond.instanceMethod ⟨"java/lang/AbstractStringBuilder", n, d⟩).before args s = true) (h3 : (Cond.sameMethod "java/lang/AbstractStringBuilder" "java/lang/AbstractStringBuilder" n d).before args s = true) (h4 : (Cond.instantiable "java/lang/StringBuilder" 4).before args s = true) : (lw_sb n d).before args s = true := by
  obtain ⟨c, kC, hfc, -⟩ := Cond.instantiable_spec h4
  obtain ⟨mk, methM, hnamed, hmethM, -, -⟩ := Cond.instanceMethod_spec h2
  have hfound : s.methodFound? "java/lang/AbstractStringBuilder" n d = some mk := State.methodFound?_of_named hnamed ⟨show "java/lang/AbstractStringBuilder" ≠ "java/lang/invoke/MethodHandle" by decide, show "java/lang/AbstractStringBuilder" ≠ "java/lang/invoke/VarHandle" by decide⟩
  obtain ⟨c0, ck, r, hc, hk, hni, -, -⟩ := Cond.sameMethod_found h3
  have hcls : mk.cls = c0 := Option.some.inj ((findClass_of_methodNamed hnamed).symm.trans hc)
  have hsel : selectMethod {} s.vm c mk = .method mk := selectMethod_private hmethM (Cond.privateMethod_at h1 mk methM hnamed hmethM)
  unfold lw_sb
  simp only [Cond.before, Cond.holds, Cond.value, hfc, hfound, hnamed, hsel, hcls, hk]
  simp; exact hni
theorem ls_ws {s : State} {args : Array Value} (hts : ∀ w ∈ lw_tbl, w.before args s = true) : ∀ w ∈ ab_ws, w.before args s = true := by
  intro w hw
  have g := fun i w (e : lw_tbl[i]? = some w) => hts w (List.mem_of_getElem? e)
  rcases List.mem_append.mp (show w ∈ lw_tbl ++ lw_more from (List.mem_filter.mp hw).1) with h | h
  · exact hts w h
  · simp only [lw_more, List.mem_cons, List.not_mem_nil, or_false] at h
    rcases h with h | h | h | h <;> subst h
    · exact ls_more (g 1070 _ (by decide +kernel)) (g 1071 _ (by decide +kernel)) (g 2667 _ (by decide +kernel)) (g 503 _ (by decide +kernel))
    · exact ls_more (g 1074 _ (by decide +kernel)) (g 1075 _ (by decide +kernel)) (g 2668 _ (by decide +kernel)) (g 503 _ (by decide +kernel))
    · exact ls_more (g 1120 _ (by decide +kernel)) (g 1121 _ (by decide +kernel)) (g 2669 _ (by decide +kernel)) (g 503 _ (by decide +kernel))
    · exact ls_more (g 1124 _ (by decide +kernel)) (g 1125 _ (by decide +kernel)) (g 2670 _ (by decide +kernel)) (g 503 _ (by decide +kernel))
theorem ls_inst : ∀ (ci : Nat) (q : vw_C), vwCl[ci]? = some q → Cond.instantiable q.1 q.2.2 ∈ lw_tbl
  | 0, q, h => by cases h; exact List.mem_of_getElem? (i := 1183) (by decide +kernel)
  | 1, q, h => by cases h; exact List.mem_of_getElem? (i := 503) (by decide +kernel)
  | 2, q, h => by cases h; exact List.mem_of_getElem? (i := 1336) (by decide +kernel)
  | 3, q, h => by cases h; exact List.mem_of_getElem? (i := 1051) (by decide +kernel)
  | 4, q, h => by cases h; exact List.mem_of_getElem? (i := 376) (by decide +kernel)
  | 5, q, h => by cases h; exact List.mem_of_getElem? (i := 334) (by decide +kernel)
  | 6, q, h => by cases h; exact List.mem_of_getElem? (i := 272) (by decide +kernel)
  | 7, q, h => by cases h; exact List.mem_of_getElem? (i := 456) (by decide +kernel)
  | 8, q, h => by cases h; exact List.mem_of_getElem? (i := 232) (by decide +kernel)
  | 9, q, h => by cases h; exact List.mem_of_getElem? (i := 475) (by decide +kernel)
  | 10, q, h => by cases h; exact List.mem_of_getElem? (i := 213) (by decide +kernel)
  | 11, q, h => by cases h; exact List.mem_of_getElem? (i := 304) (by decide +kernel)
  | 12, q, h => by cases h; exact List.mem_of_getElem? (i := 226) (by decide +kernel)
  | 13, q, h => by cases h; exact List.mem_of_getElem? (i := 171) (by decide +kernel)
  | 14, q, h => by cases h; exact List.mem_of_getElem? (i := 143) (by decide +kernel)
  | 15, q, h => by cases h; exact List.mem_of_getElem? (i := 135) (by decide +kernel)
  | 16, q, h => by cases h; exact List.mem_of_getElem? (i := 1986) (by decide +kernel)
  | k + 17, q, h => by exact nomatch h
theorem ls_K {s : State} {args : Array Value} (hts : ∀ w ∈ lw_tbl, w.before args s = true) : ∃ (D : va_G) (cT : FieldType → ClassId), va_K D vwCl (ab_tys cT) s := by
  have g := fun i w (e : lw_tbl[i]? = some w) => hts w (List.mem_of_getElem? e)
  have h0 : ∀ ci : Nat, ∃ x : ClassId × (Nat → Nat), ∀ q, vwCl[ci]? = some q → u_Kn s q.1 q.2.1 q.2.2 x.1 x.2 := by
    intro ci
    cases hq : vwCl[ci]? with
    | none => exact ⟨((0 : Nat), fun _ => 0), fun q h => by cases h⟩
    | some q =>
      obtain ⟨cC, iS, h⟩ := u_known (ls_ws hts) (ab_lay ci q hq) (hts _ (ls_inst ci q hq))
      exact ⟨(cC, iS), fun q9 h9 => by cases h9; exact h⟩
  obtain ⟨f, hf⟩ := Classical.axiomOfChoice h0
  obtain ⟨cI, kI, pI, i1, i2, i3⟩ := Cond.arrayClass_spec (type := .int) (g 169 _ (by decide +kernel))
  obtain ⟨cB, kB, pB, b1, b2, b3⟩ := Cond.arrayClass_spec (type := .byte) (g 534 _ (by decide +kernel))
  obtain ⟨pO, cO, kO, f1, f2, f3, f4, f5⟩ := Cond.arrayOver_spec (n := "CheckpointSwap$SwapSystem") (g 462 _ (by decide +kernel))
  refine ⟨(fun c => (f c).1, fun c => (f c).2), (fun ty => match ty with | .int => cI | .byte => cB | _ => cO), fun c q hq => hf c q hq, ?_⟩
  intro k q hq
  match k, hq with
  | 0, hq => cases hq; exact ⟨fun n z => ⟨fun k h => (by cases h), kI, i2, pI, i3⟩, i1⟩
  | 1, hq => cases hq; exact ⟨fun n z => ⟨fun k h => (by cases h), kB, b2, pB, b3⟩, b1⟩
  | 2, hq => cases hq; exact ⟨fun n z => ⟨fun k h => (by cases h), kO, f3, pO, f4⟩, kO, pO, f3, f4, f1, f5⟩
/-! what the start gives: the constants -/
def nwF : List Cond := flatC (Jvm.Cond.and given_1 narrow_1)
def ls_gV (q : String × Nat × String × List Int32) : Term := .field (.string q.1 q.2.1) "java/lang/String" "value" "[B"
def ls_el (v : Term) (bs : List Int32) : List Cond := (List.range bs.length).map (fun j => .eq (.elem v (.int (Int32.ofNat j))) (.int (bs.getD j 0)))
def ls_gS (q : String × Nat × String × List Int32) : List Cond := .exactly (.string q.1 q.2.1) "java/lang/String" :: .eq (.field (.string q.1 q.2.1) "java/lang/String" "coder" "B") (.int 0) :: .arrayOf (ls_gV q) .byte :: .eq (.length (ls_gV q)) (.int (Int32.ofNat q.2.2.2.length)) :: ls_el (ls_gV q) q.2.2.2
def ls_gA (q : String × String × String × FieldType × List Int32) : List Cond := .arrayOf (.static q.1 q.2.1 q.2.2.1) q.2.2.2.1 :: .eq (.length (.static q.1 q.2.1 q.2.2.1)) (.int (Int32.ofNat q.2.2.2.2.length)) :: ls_el (.static q.1 q.2.1 q.2.2.1) q.2.2.2.2
def ls_ks : List Nat := [359, 369, 376, 384, 393, 404, 411, 420, 424, 432, 441, 452, 461, 471, 482, 491, 503, 512, 543, 550, 564, 580, 585, 615, 625, 635, 649, 661, 671, 679, 695, 703, 733, 751, 786, 816, 833, 862, 897, 925, 942, 959, 986, 997, 1005, 1014, 1024, 1029, 1041, 1049, 1059, 1068, 1078, 1090, 1100, 1111, 1123, 1133, 1146, 1156, 1167, 1178, 1193, 1206, 1226, 1248]
def ls_rs : List Nat := [580, 645, 646, 647, 660, 661, 662, 663, 784, 786, 787, 788, 789, 790, 791, 792, 793, 1057, 1263, 1332, 1333, 1334, 1351, 1362, 1365, 1366, 1384, 1385, 1386, 1387, 1388, 1417, 1451, 1456, 1458, 1468, 1484, 1608, 1794, 1939, 1954, 1979, 2107, 2134, 2135, 2136, 2141, 2146, 2147, 2148, 2377, 2378, 2379, 2380, 2381, 2382, 2383, 2384, 2385, 2635, 2648, 2649, 2654, 2655, 2656, 2657]
def ls_gs : List Nat := [144, 227, 233, 273, 305, 335, 377, 457, 476, 704, 756, 794, 899, 940, 1670, 1216, 1337, 1410, 1444, 1461, 1477, 1932, 1217, 1218, 1219, 1220, 1221, 1222, 1338, 1339]
theorem ls_zip {α β : Type} {l : List α} {r : List β} {P : α × β → Bool} (h : (List.zip l r).all P = true) (hl : r.length ≤ l.length) {i : Nat} {q : β} (hq : r[i]? = some q) : ∃ k, P (k, q) = true := by
  have hi := (List.getElem?_eq_some_iff.mp hq).1
  have hk : l[i]? = some (l[i]'(by omega)) := List.getElem?_eq_getElem _
  refine ⟨l[i]'(by omega), List.all_eq_true.mp h _ (List.mem_of_getElem? (i := i) ?_)⟩
  rw [List.getElem?_zip_eq_some]
  exact ⟨hk, hq⟩
theorem ls_str : (List.zip ls_ks ab_str).all (fun x => decide ((nwF.drop x.1).take (ls_gS x.2).length = ls_gS x.2)) = true := by decide +kernel
theorem ls_ref : (List.zip ls_rs ab_str).all (fun x => decide (lw_tbl[x.1]? = some (Cond.stringRef x.2.1 x.2.2.1 x.2.2.2.1))) = true := by decide +kernel
theorem ls_ngs : (List.zip ls_gs ab_ng).all (fun x => decide (lw_tbl[x.1]? = some x.2)) = true := by decide +kernel
theorem ls_sta : (List.zip [10, 22, 125] ab_sta).all (fun x => decide ((nwF.drop x.1).take (ls_gA x.2).length = ls_gA x.2)) = true := by decide +kernel
theorem ls_sub {k n : Nat} {l : List Cond} (h : (nwF.drop k).take n = l) : ∀ w ∈ l, w ∈ nwF := fun w hw => by
  rw [← h] at hw
  exact List.mem_of_mem_drop (List.mem_of_mem_take hw)
theorem ls_len : ∀ q ∈ ab_str, q.2.2.2.length < 2 ^ 31 := by decide +kernel
theorem ls_len2 : ∀ q ∈ ab_sta, q.2.2.2.2.length < 2 ^ 31 := by decide +kernel
theorem ls_elm {v : Term} {bs : List Int32} {j : Nat} (hj : j < bs.length) : Cond.eq (.elem v (.int (Int32.ofNat j))) (.int (bs.getD j 0)) ∈ ls_el v bs := List.mem_map.mpr ⟨j, List.mem_range.mpr hj, rfl⟩
