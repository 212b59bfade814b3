/-! what the start gives: all constants at once -/
theorem ls_S {s : State} {args : Array Value} {A : Nat → Prop} (hts : ∀ w ∈ lw_tbl, w.before args s = true) (hn : ∀ w ∈ nwF, w.before args s = true) (hA : ∀ a : Nat, a < s.heap.size → ¬ A a) : ∃ ad : Nat → Nat × Nat, ∀ (i : Nat) (q : String × Nat × String × List Int32), ab_str[i]? = some q → vk_R q.1 q.2.1 q.2.2.1 (ad i).1 s ∧ va_O "java/lang/String" (ad i).1 A s s.heap ∧ va_OF "java/lang/String" "coder" "B" (.int 0) (ad i).1 A s s.heap ∧ va_OF "java/lang/String" "value" "[B" (.ref (ad i).2) (ad i).1 A s s.heap ∧ va_T .byte (ad i).2 q.2.2.2.length (fun j => .int (q.2.2.2.getD j 0)) A s s.heap := by
  have h0 : ∀ i : Nat, ∃ x : Nat × Nat, ∀ (q : String × Nat × String × List Int32), ab_str[i]? = some q → vk_R q.1 q.2.1 q.2.2.1 x.1 s ∧ va_O "java/lang/String" x.1 A s s.heap ∧ va_OF "java/lang/String" "coder" "B" (.int 0) x.1 A s s.heap ∧ va_OF "java/lang/String" "value" "[B" (.ref x.2) x.1 A s s.heap ∧ va_T .byte x.2 q.2.2.2.length (fun j => .int (q.2.2.2.getD j 0)) A s s.heap := by
    intro i
    cases hq : ab_str[i]? with
    | none => exact ⟨(0, 0), fun q h => by cases h⟩
    | some q =>
      obtain ⟨k, hk⟩ := ls_zip ls_str (by decide) hq
      obtain ⟨k2, hk2⟩ := ls_zip ls_ref (by decide) hq
      have hg : ∀ w ∈ ls_gS q, w.before args s = true := fun w hw => hn w (ls_sub (of_decide_eq_true hk) w hw)
      have hsr := hts _ (List.mem_of_getElem? (of_decide_eq_true hk2))
      obtain ⟨a, c, cA, kA, q1, q2, q3, q4, q5, q6, -⟩ := Cond.exactly_spec (args := args) (first := s) (o := none) (s := s) (idx := []) (t := .string q.1 q.2.1) (cls := "java/lang/String") (hg _ (List.mem_of_getElem? (i := 0) rfl))
      obtain ⟨t, ht, hT⟩ := va_Tof (f := fun j => .int (q.2.2.2.getD j 0)) (A := A) (ls_len q (List.mem_of_getElem? hq)) (hg _ (List.mem_of_getElem? (i := 2) rfl)) (va_eqt (hg _ (List.mem_of_getElem? (i := 3) rfl))) (fun j hj => va_eqt (hg _ (List.mem_cons_of_mem _ (List.mem_cons_of_mem _ (List.mem_cons_of_mem _ (List.mem_cons_of_mem _ (ls_elm hj))))))) hA
      exact ⟨(a, t), fun q9 e9 => by cases e9; exact ⟨vk_R.of hsr q1, ⟨cA, q3, q5, by rw [q6]; exact q2, hA a (Array.getElem?_eq_some_iff.mp q3).1⟩, vk_OFof q1 (va_eqt (hg _ (List.mem_of_getElem? (i := 1) rfl))) hA, vk_OFof q1 ht hA, hT⟩⟩
  exact Classical.axiomOfChoice h0
theorem ls_lay : ∀ (i : Nat) (q : String × String × String × FieldType × List Int32), ab_sta[i]? = some q → Cond.laysStatic q.1 q.2.1 q.2.2.1 ∈ lw_tbl ∧ Cond.initialized q.1 ∈ lw_tbl
  | 0, q, h => by cases h; exact ⟨List.mem_of_getElem? (i := 795) (by decide +kernel), List.mem_of_getElem? (i := 96) (by decide +kernel)⟩
  | 1, q, h => by cases h; exact ⟨List.mem_of_getElem? (i := 1167) (by decide +kernel), List.mem_of_getElem? (i := 128) (by decide +kernel)⟩
  | 2, q, h => by cases h; exact ⟨List.mem_of_getElem? (i := 1169) (by decide +kernel), List.mem_of_getElem? (i := 128) (by decide +kernel)⟩
  | k + 3, q, h => by exact nomatch h
theorem ls_A {s : State} {args : Array Value} {A : Nat → Prop} (hts : ∀ w ∈ lw_tbl, w.before args s = true) (hn : ∀ w ∈ nwF, w.before args s = true) (hA : ∀ a : Nat, a < s.heap.size → ¬ A a) : ∃ ad : Nat → Nat, ∀ (i : Nat) (q : String × String × String × FieldType × List Int32), ab_sta[i]? = some q → va_Z q.1 q.2.1 q.2.2.1 (.ref (ad i)) A s s.heap ∧ va_T q.2.2.2.1 (ad i) q.2.2.2.2.length (fun j => .int (q.2.2.2.2.getD j 0)) A s s.heap := by
  have h0 : ∀ i : Nat, ∃ x : Nat, ∀ (q : String × String × String × FieldType × List Int32), ab_sta[i]? = some q → va_Z q.1 q.2.1 q.2.2.1 (.ref x) A s s.heap ∧ va_T q.2.2.2.1 x q.2.2.2.2.length (fun j => .int (q.2.2.2.2.getD j 0)) A s s.heap := by
    intro i
    cases hq : ab_sta[i]? with
    | none => exact ⟨0, fun q h => by cases h⟩
    | some q =>
      obtain ⟨k, hk⟩ := ls_zip ls_sta (by decide) hq
      have hg : ∀ w ∈ ls_gA q, w.before args s = true := fun w hw => hn w (ls_sub (of_decide_eq_true hk) w hw)
      obtain ⟨l1, l2⟩ := ls_lay i q hq
      obtain ⟨t, ht, hT⟩ := va_Tof (f := fun j => .int (q.2.2.2.2.getD j 0)) (A := A) (ls_len2 q (List.mem_of_getElem? hq)) (hg _ (List.mem_of_getElem? (i := 0) rfl)) (va_eqt (hg _ (List.mem_of_getElem? (i := 1) rfl))) (fun j hj => va_eqt (hg _ (List.mem_cons_of_mem _ (List.mem_cons_of_mem _ (ls_elm hj))))) hA
      exact ⟨t, fun q9 e9 => by cases e9; exact ⟨va_Zof (hts _ l1) (hts _ l2) ht hA, hT⟩⟩
  exact Classical.axiomOfChoice h0
theorem ls_CK {s : State} {args : Array Value} {A : Nat → Prop} (hts : ∀ w ∈ lw_tbl, w.before args s = true) (hn : ∀ w ∈ nwF, w.before args s = true) (hA : ∀ a : Nat, a < s.heap.size → ¬ A a) : ∃ ac : Nat → Nat, ab_CK ac A s s.heap := by
  have g := fun i w (e : lw_tbl[i]? = some w) => hts w (List.mem_of_getElem? e)
  obtain ⟨ad, had⟩ := ls_S hts hn hA
  obtain ⟨as, has⟩ := ls_A hts hn hA
  have hq := va_Zqof (C := "jdk/internal/util/Preconditions") (n := "SIOOBE_FORMATTER") (d := "Ljava/util/function/BiFunction;") (A := A) (g 609 _ (by decide +kernel)) (g 122 _ (by decide +kernel)) (hn _ (List.mem_of_getElem? (i := 5) (by decide +kernel))) hA
  obtain ⟨z, hz⟩ : ∃ z : Nat, va_Z "jdk/internal/util/Preconditions" "SIOOBE_FORMATTER" "Ljava/util/function/BiFunction;" .null A s s.heap ∨ va_Z "jdk/internal/util/Preconditions" "SIOOBE_FORMATTER" "Ljava/util/function/BiFunction;" (.ref z) A s s.heap := by
    rcases hq with h | ⟨t, h⟩
    · exact ⟨0, Or.inl h⟩
    · exact ⟨t, Or.inr h⟩
  refine ⟨fun n => if n = 2000 then z else if 1000 ≤ n then as (n - 1000) else if n % 2 = 0 then (ad (n / 2)).1 else (ad (n / 2)).2, ?_, ?_, va_Zof (g 512 _ (by decide +kernel)) (g 110 _ (by decide +kernel)) (va_eqt (hn _ (List.mem_of_getElem? (i := 4) (by decide +kernel)))) hA, hz, ?_, vx_Zqof (g 1241 _ (by decide +kernel)) (g 113 _ (by decide +kernel)) (hn _ (List.mem_of_getElem? (i := 227) (by decide +kernel))) hA, vx_Zqof (g 1243 _ (by decide +kernel)) (g 113 _ (by decide +kernel)) (hn _ (List.mem_of_getElem? (i := 228) (by decide +kernel))) hA, va_AO.of (g 462 _ (by decide +kernel))⟩
  · intro i q hq
    have hi : i < 66 := (List.getElem?_eq_some_iff.mp hq).1
    have e1 : (fun n => if n = 2000 then z else if 1000 ≤ n then as (n - 1000) else if n % 2 = 0 then (ad (n / 2)).1 else (ad (n / 2)).2) (2 * i) = (ad i).1 := by
      show (if 2 * i = 2000 then z else if 1000 ≤ 2 * i then as (2 * i - 1000) else if 2 * i % 2 = 0 then (ad (2 * i / 2)).1 else (ad (2 * i / 2)).2) = _
      rw [if_neg (by omega), if_neg (by omega), if_pos (by omega), show 2 * i / 2 = i by omega]
    have e2 : (fun n => if n = 2000 then z else if 1000 ≤ n then as (n - 1000) else if n % 2 = 0 then (ad (n / 2)).1 else (ad (n / 2)).2) (2 * i + 1) = (ad i).2 := by
      show (if 2 * i + 1 = 2000 then z else if 1000 ≤ 2 * i + 1 then as (2 * i + 1 - 1000) else if (2 * i + 1) % 2 = 0 then (ad ((2 * i + 1) / 2)).1 else (ad ((2 * i + 1) / 2)).2) = _
      rw [if_neg (by omega), if_neg (by omega), if_neg (by omega), show (2 * i + 1) / 2 = i by omega]
    unfold ab_KS
    rw [e1, e2]
    exact had i q hq
  · intro i q hq
    have hi : i < 3 := (List.getElem?_eq_some_iff.mp hq).1
    have e1 : (fun n => if n = 2000 then z else if 1000 ≤ n then as (n - 1000) else if n % 2 = 0 then (ad (n / 2)).1 else (ad (n / 2)).2) (1000 + i) = as i := by
      show (if 1000 + i = 2000 then z else if 1000 ≤ 1000 + i then as (1000 + i - 1000) else if (1000 + i) % 2 = 0 then (ad ((1000 + i) / 2)).1 else (ad ((1000 + i) / 2)).2) = _
      rw [if_neg (by omega), if_pos (by omega), show 1000 + i - 1000 = i by omega]
    unfold ab_KA
    rw [e1]
    exact has i q hq
  · intro w hw
    obtain ⟨i, hi⟩ := List.mem_iff_getElem?.mp hw
    obtain ⟨k, hk⟩ := ls_zip ls_ngs (by decide) hi
    exact va_Nw.of (ab_ng_ot w hw) (hts _ (List.mem_of_getElem? (of_decide_eq_true hk)))
theorem ls_NC {s : State} {args : Array Value} (hn : ∀ w ∈ nwF, w.before args s = true) : lw_NC s := by
  intro q hq
  simp only [lw_ncs, List.mem_cons, List.not_mem_nil, or_false] at hq
  rcases hq with h | h | h | h | h | h | h | h | h | h <;> subst h
  · exact va_Nc.of (hn _ (List.mem_of_getElem? (i := 287) (by decide +kernel)))
  · exact va_Nc.of (hn _ (List.mem_of_getElem? (i := 265) (by decide +kernel)))
  · exact va_Nc.of (hn _ (List.mem_of_getElem? (i := 246) (by decide +kernel)))
  · exact va_Nc.of (hn _ (List.mem_of_getElem? (i := 289) (by decide +kernel)))
  · exact va_Nc.of (hn _ (List.mem_of_getElem? (i := 329) (by decide +kernel)))
  · exact va_Nc.of (hn _ (List.mem_of_getElem? (i := 290) (by decide +kernel)))
  · exact va_Nc.of (hn _ (List.mem_of_getElem? (i := 307) (by decide +kernel)))
  · exact va_Nc.of (hn _ (List.mem_of_getElem? (i := 288) (by decide +kernel)))
  · exact va_Nc.of (hn _ (List.mem_of_getElem? (i := 331) (by decide +kernel)))
  · exact va_Nc.of (hn _ (List.mem_of_getElem? (i := 267) (by decide +kernel)))
theorem ls_tr {l : Launch} (h : l.flags = flags0) : l.stackTraces = false := by unfold Launch.stackTraces; rw [h]; decide
