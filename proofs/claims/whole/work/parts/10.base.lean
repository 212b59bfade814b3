/-! THE ABSTRACT MACHINE'S STATE. A heap is a list of shapes (arrays of numbers; an array of references; an object: its class number and its fields, 'none' where a number stands) and two tables: I c k (the number in field k of cell c) and A c i (place i of the array c). .ref k is the k-th cell, .retAddr i a constant cell of the launch. -/
def ab_v (ad ac : Nat → Nat) : Value → Value
  | .ref k => .ref (ad k)
  | .retAddr i => .ref (ac i)
  | .int x => .int x
  | .long x => .long x
  | .float x => .float x
  | .double x => .double x
  | .null => .null
abbrev ab_S : Type := (FieldType × Nat) ⊕ ((FieldType × Nat × (Nat → Option Nat)) ⊕ (Nat × List (Option Value)))
abbrev ab_F : Type := Nat → Nat → Int32
/-- one place of one row gets a value -/
def wr (A : ab_F) (c i : Nat) (v : Int32) : ab_F := fun c' i' => if c' = c then (if i' = i then v else A c' i') else A c' i'
/-- a whole row is replaced -/
def wrow (A : ab_F) (c : Nat) (g : Nat → Int32) : ab_F := fun c' => if c' = c then g else A c'
theorem wr_row (A : ab_F) (c i : Nat) (v : Int32) : wr A c i v = va_up A c (upd (A c) i v) := by
  funext c' i'
  unfold wr va_up upd
  by_cases h : c' = c
  · subst h; simp
  · simp [h]
def ab_fv (ad ac : Nat → Nat) (x : Int32) : Option Value → Value
  | none => .int x
  | some v => ab_v ad ac v
def ab_fs (ad ac : Nat → Nat) (I : Nat → Int32) : Nat → List (Option Value) → List Value
  | _, [] => []
  | k, o :: r => ab_fv ad ac (I k) o :: ab_fs ad ac I (k + 1) r
def ab_e (cT : FieldType → ClassId) (ad ac : Nat → Nat) (I A : Nat → Int32) : ab_S → va_E
  | .inl (ty, n) => .inl (cT ty, n, .inl A)
  | .inr (.inl (ty, n, f)) => .inl (cT ty, n, .inr (.inr (.inr (.inr (fun j => (f j).map ad)))))
  | .inr (.inr (ci, fs)) => .inr (ci, ab_fs ad ac I 0 fs)
def ab_w (cT : FieldType → ClassId) (ad ac : Nat → Nat) (I A : ab_F) : Nat → List ab_S → va_W
  | _, [] => []
  | k, x :: r => (ad k, ab_e cT ad ac (I k) (A k) x) :: ab_w cT ad ac I A (k + 1) r
theorem ab_fs_get (ad ac : Nat → Nat) (I : Nat → Int32) : ∀ (fs : List (Option Value)) (k i : Nat), (ab_fs ad ac I k fs)[i]? = fs[i]?.map (fun o => ab_fv ad ac (I (k + i)) o)
  | [], k, i => by simp [ab_fs]
  | o :: r, k, 0 => by simp [ab_fs]
  | o :: r, k, i + 1 => by
    rw [ab_fs, List.getElem?_cons_succ, List.getElem?_cons_succ, ab_fs_get ad ac I r (k + 1) i, show k + 1 + i = k + (i + 1) by omega]
theorem ab_fs_len (ad ac : Nat → Nat) (I : Nat → Int32) : ∀ (fs : List (Option Value)) (k : Nat), (ab_fs ad ac I k fs).length = fs.length
  | [], k => rfl
  | o :: r, k => by rw [ab_fs, List.length_cons, List.length_cons, ab_fs_len ad ac I r (k + 1)]
theorem ab_w_get (cT : FieldType → ClassId) (ad ac : Nat → Nat) (I A : ab_F) : ∀ (sh : List ab_S) (k i : Nat), (ab_w cT ad ac I A k sh)[i]? = sh[i]?.map (fun x => (ad (k + i), ab_e cT ad ac (I (k + i)) (A (k + i)) x))
  | [], k, i => by simp [ab_w]
  | o :: r, k, 0 => by simp [ab_w]
  | o :: r, k, i + 1 => by
    rw [ab_w, List.getElem?_cons_succ, List.getElem?_cons_succ, ab_w_get cT ad ac I A r (k + 1) i, show k + 1 + i = k + (i + 1) by omega]
theorem ab_w_at {cT : FieldType → ClassId} {ad ac : Nat → Nat} {I A : ab_F} {sh : List ab_S} {q : Nat} {x : ab_S} (h : sh[q]? = some x) : (ab_w cT ad ac I A 0 sh)[q]? = some (ad q, ab_e cT ad ac (I q) (A q) x) := by
  rw [ab_w_get, h, Nat.zero_add]; rfl
theorem ab_w_len (cT : FieldType → ClassId) (ad ac : Nat → Nat) (I A : ab_F) : ∀ (sh : List ab_S) (k : Nat), (ab_w cT ad ac I A k sh).length = sh.length
  | [], k => rfl
  | o :: r, k => by rw [ab_w, List.length_cons, List.length_cons, ab_w_len cT ad ac I A r (k + 1)]
/-- one cell of the world changes -/
theorem ab_w_set {cT : FieldType → ClassId} {ad ac : Nat → Nat} {I A I' A' : ab_F} {sh sh' : List ab_S} {q : Nat} {x x' : ab_S} (hx : sh[q]? = some x) (hx' : sh'[q]? = some x') (ho : ∀ k, k ≠ q → sh'[k]? = sh[k]?) (hI : ∀ k, k ≠ q → I' k = I k) (hA : ∀ k, k ≠ q → A' k = A k) :
    (ab_w cT ad ac I A 0 sh).set q (ad q, ab_e cT ad ac (I' q) (A' q) x') = ab_w cT ad ac I' A' 0 sh' := by
  apply List.ext_getElem?
  intro k
  by_cases hk : k = q
  · subst hk
    have hl : k < (ab_w cT ad ac I A 0 sh).length := by rw [ab_w_len]; exact (List.getElem?_eq_some_iff.mp hx).1
    rw [List.getElem?_set_self hl, ab_w_at hx']
  · rw [List.getElem?_set_ne (fun e => hk e.symm), ab_w_get, ab_w_get, ho k hk, Nat.zero_add, hI k hk, hA k hk]
/-- all references lie in the heap -/
def ab_ok (n : Nat) : Value → Prop
  | .ref k => k < n
  | _ => True
def ab_okS (n : Nat) : ab_S → Prop
  | .inl _ => True
  | .inr (.inl (_, _, f)) => ∀ j k, f j = some k → k < n
  | .inr (.inr (_, fs)) => ∀ v, some v ∈ fs → ab_ok n v
def ab_okH (sh : List ab_S) : Prop := ∀ x ∈ sh, ab_okS sh.length x
def ab_okL (n : Nat) (ls : List (Option Value)) : Prop := ∀ v, some v ∈ ls → ab_ok n v
def ab_okV (n : Nat) (st : List Value) : Prop := ∀ v ∈ st, ab_ok n v
theorem ab_ok.mono {n n' : Nat} (h : n ≤ n') : ∀ {v : Value}, ab_ok n v → ab_ok n' v := by
  intro v hv
  cases v <;> first | exact trivial | exact Nat.lt_of_lt_of_le hv h
theorem ab_okS.mono {n n' : Nat} (h : n ≤ n') {x : ab_S} (hx : ab_okS n x) : ab_okS n' x := by
  rcases x with x | ⟨ty, k, f⟩ | ⟨ci, fs⟩
  · exact trivial
  · exact fun j k e => Nat.lt_of_lt_of_le (hx j k e) h
  · exact fun v hv => (hx v hv).mono h
theorem ab_v_eq {n : Nat} {ad ad' ac : Nat → Nat} (h : ∀ k, k < n → ad' k = ad k) {v : Value} (hv : ab_ok n v) : ab_v ad' ac v = ab_v ad ac v := by
  cases v <;> first | rfl | exact congrArg Value.ref (h _ hv)
theorem ab_e_eq {n : Nat} {cT : FieldType → ClassId} {ad ad' ac : Nat → Nat} (h : ∀ k, k < n → ad' k = ad k) {I A : Nat → Int32} {x : ab_S} (hx : ab_okS n x) : ab_e cT ad' ac I A x = ab_e cT ad ac I A x := by
  rcases x with x | ⟨ty, k, f⟩ | ⟨ci, fs⟩
  · rfl
  · unfold ab_e
    have e : (fun j => (f j).map ad') = fun j => (f j).map ad := by
      funext j
      cases hj : f j with
      | none => rfl
      | some k => exact congrArg some (h k (hx j k hj))
    dsimp only
    rw [e]
  · unfold ab_e
    dsimp only
    congr 2
    apply List.ext_getElem?
    intro i
    rw [ab_fs_get, ab_fs_get]
    cases hi : fs[i]? with
    | none => rfl
    | some o =>
      cases o with
      | none => rfl
      | some v => exact congrArg some (ab_v_eq h (hx v (List.mem_of_getElem? hi)))
theorem ab_w_eq {cT : FieldType → ClassId} {ad ad' ac : Nat → Nat} {I A : ab_F} {sh : List ab_S} (h : ∀ k, k < sh.length → ad' k = ad k) (hs : ab_okH sh) : ab_w cT ad' ac I A 0 sh = ab_w cT ad ac I A 0 sh := by
  apply List.ext_getElem?
  intro i
  rw [ab_w_get, ab_w_get]
  cases hi : sh[i]? with
  | none => rfl
  | some x =>
    have hl := (List.getElem?_eq_some_iff.mp hi).1
    show some (_, _) = some (_, _)
    rw [Nat.zero_add, h i hl, ab_e_eq h (hs x (List.mem_of_getElem? hi))]
/-- the locals that are known -/
def ab_p (ad ac : Nat → Nat) : Nat → List (Option Value) → List (Nat × Value)
  | _, [] => []
  | k, none :: r => ab_p ad ac (k + 1) r
  | k, some v :: r => (k, ab_v ad ac v) :: ab_p ad ac (k + 1) r
theorem ab_p_mem (ad ac : Nat → Nat) : ∀ (ls : List (Option Value)) (k : Nat) (q : Nat × Value), q ∈ ab_p ad ac k ls ↔ ∃ (j : Nat) (v : Value), ls[j]? = some (some v) ∧ q = (k + j, ab_v ad ac v)
  | [], k, q => by simp [ab_p]
  | none :: r, k, q => by
    rw [ab_p, ab_p_mem ad ac r (k + 1) q]
    constructor
    · rintro ⟨j, v, h1, h2⟩
      exact ⟨j + 1, v, by rw [List.getElem?_cons_succ]; exact h1, by rw [h2, show k + 1 + j = k + (j + 1) by omega]⟩
    · rintro ⟨j, v, h1, h2⟩
      cases j with
      | zero => simp at h1
      | succ j => exact ⟨j, v, by rw [List.getElem?_cons_succ] at h1; exact h1, by rw [h2, show k + 1 + j = k + (j + 1) by omega]⟩
  | some w :: r, k, q => by
    rw [ab_p, List.mem_cons, ab_p_mem ad ac r (k + 1) q]
    constructor
    · rintro (h | ⟨j, v, h1, h2⟩)
      · exact ⟨0, w, rfl, h⟩
      · exact ⟨j + 1, v, by rw [List.getElem?_cons_succ]; exact h1, by rw [h2, show k + 1 + j = k + (j + 1) by omega]⟩
    · rintro ⟨j, v, h1, h2⟩
      cases j with
      | zero =>
        rw [List.getElem?_cons_zero] at h1
        cases h1
        exact Or.inl h2
      | succ j => exact Or.inr ⟨j, v, by rw [List.getElem?_cons_succ] at h1; exact h1, by rw [h2, show k + 1 + j = k + (j + 1) by omega]⟩
theorem ab_p_eq {n : Nat} {ad ad' ac : Nat → Nat} (h : ∀ k, k < n → ad' k = ad k) : ∀ {ls : List (Option Value)} {k : Nat}, ab_okL n ls → ab_p ad' ac k ls = ab_p ad ac k ls
  | [], k, _ => rfl
  | none :: r, k, hl => by rw [ab_p, ab_p]; exact ab_p_eq h (fun v hv => hl v (List.mem_cons_of_mem _ hv))
  | some w :: r, k, hl => by
    rw [ab_p, ab_p, ab_v_eq h (hl w List.mem_cons_self), ab_p_eq h (fun v hv => hl v (List.mem_cons_of_mem _ hv))]
theorem ab_p_at {ad ac : Nat → Nat} {ls : List (Option Value)} {lsA : Array Slot} {nL i : Nat} {v : Value} (h : lv_has lsA nL (ab_p ad ac 0 ls)) (hi : ls[i]? = some (some v)) : lsA[i]? = some (.val (ab_v ad ac v)) := by
  have h1 := h.2.2 (i, ab_v ad ac v) ((ab_p_mem ad ac ls 0 _).mpr ⟨i, v, hi, by rw [Nat.zero_add]⟩)
  exact h1
theorem ab_cat (ad ac : Nat → Nat) (v : Value) : (ab_v ad ac v).category = v.category := by cases v <;> rfl
/-- the slot before i holds no value of two slots -/
def ab_c1 (ls : List (Option Value)) (i : Nat) : Bool := match i with
  | 0 => true
  | j + 1 => match ls[j]? with
    | some (some (.long _)) => false
    | some (some (.double _)) => false
    | _ => true
theorem ab_c1_spec {ls : List (Option Value)} {i j : Nat} (h : ab_c1 ls i = true) {v : Value} {ad ac : Nat → Nat} (hj : ls[j]? = some (some v)) (hij : j + 1 = i) : ¬ (ab_v ad ac v).category = 2 := by
  subst hij
  simp only [ab_c1, hj] at h
  cases v <;> simp_all [ab_v, Value.category]
theorem ab_store {ad ac : Nat → Nat} {ls : List (Option Value)} {lsA : Array Slot} {nL i : Nat} {v : Value} (hc : ab_c1 ls i = true) (hi : i < ls.length) (h : lv_has lsA nL ((i, ab_v ad ac v) :: (ab_p ad ac 0 ls).filter (fun q => !(q.1 == i) && !(q.1 + 1 == i && q.2.category == 2)))) : lv_has lsA nL (ab_p ad ac 0 (ls.set i (some v))) := by
  refine ⟨h.1, h.2.1, fun q hq => ?_⟩
  obtain ⟨j, w, h1, rfl⟩ := (ab_p_mem ad ac _ 0 q).mp hq
  rw [Nat.zero_add]
  by_cases hji : j = i
  · subst hji
    rw [List.getElem?_set_self hi] at h1
    cases h1
    exact h.2.2 _ List.mem_cons_self
  · rw [List.getElem?_set_ne (fun e => hji e.symm)] at h1
    refine h.2.2 (j, ab_v ad ac w) (List.mem_cons_of_mem _ (List.mem_filter.mpr ⟨(ab_p_mem ad ac ls 0 _).mpr ⟨j, w, h1, by rw [Nat.zero_add]⟩, ?_⟩))
    have h2 : ¬ (j + 1 = i ∧ (ab_v ad ac w).category = 2) := fun e => ab_c1_spec hc h1 e.1 e.2
    simp only [Bool.and_eq_true, Bool.not_eq_true', beq_eq_false_iff_ne, ne_eq, Bool.and_eq_false_iff, hji, not_false_eq_true, true_and]
    by_cases h3 : j + 1 = i
    · exact Or.inr (fun e => h2 ⟨h3, e⟩)
    · exact Or.inl h3
theorem ab_store2 {ad ac : Nat → Nat} {ls : List (Option Value)} {lsA : Array Slot} {nL i : Nat} {v : Value} (hc : ab_c1 ls i = true) (hi : i < ls.length) (h : lv_has lsA nL ((i, ab_v ad ac v) :: (ab_p ad ac 0 ls).filter (fun q => !(q.1 == i) && (!(q.1 == i + 1) && !(q.1 + 1 == i && q.2.category == 2))))) : lv_has lsA nL (ab_p ad ac 0 ((ls.set i (some v)).set (i + 1) none)) := by
  refine ⟨h.1, h.2.1, fun q hq => ?_⟩
  obtain ⟨j, w, h1, rfl⟩ := (ab_p_mem ad ac _ 0 q).mp hq
  rw [Nat.zero_add]
  by_cases hj1 : j = i + 1
  · subst hj1
    by_cases hl : i + 1 < (ls.set i (some v)).length
    · rw [List.getElem?_set_self hl] at h1
      cases h1
    · rw [List.getElem?_eq_none (by rw [List.length_set]; omega)] at h1
      cases h1
  · rw [List.getElem?_set_ne (fun e => hj1 e.symm)] at h1
    by_cases hji : j = i
    · subst hji
      rw [List.getElem?_set_self hi] at h1
      cases h1
      exact h.2.2 _ List.mem_cons_self
    · rw [List.getElem?_set_ne (fun e => hji e.symm)] at h1
      refine h.2.2 (j, ab_v ad ac w) (List.mem_cons_of_mem _ (List.mem_filter.mpr ⟨(ab_p_mem ad ac ls 0 _).mpr ⟨j, w, h1, by rw [Nat.zero_add]⟩, ?_⟩))
      have h2 : ¬ (j + 1 = i ∧ (ab_v ad ac w).category = 2) := fun e => ab_c1_spec hc h1 e.1 e.2
      simp only [Bool.and_eq_true, Bool.not_eq_true', beq_eq_false_iff_ne, ne_eq, Bool.and_eq_false_iff, hji, hj1, not_false_eq_true, true_and]
      by_cases h3 : j + 1 = i
      · exact Or.inr (fun e => h2 ⟨h3, e⟩)
      · exact Or.inl h3
/-- the locals at a method's entry -/
def ab_ent : List Value → List (Option Value)
  | [] => []
  | .long x :: r => some (.long x) :: none :: ab_ent r
  | .double x :: r => some (.double x) :: none :: ab_ent r
  | v :: r => some v :: ab_ent r
theorem ab_ent_args (ad ac : Nat → Nat) : ∀ (as : List Value) (k : Nat) (q : Nat × Value), q ∈ ab_p ad ac k (ab_ent as) → q ∈ lv_args k (as.map (ab_v ad ac))
  | [], k, q, h => by simp [ab_ent, ab_p] at h
  | .long x :: r, k, q, h => by
    rw [ab_ent, ab_p, List.mem_cons] at h
    rw [List.map_cons, lv_args, List.mem_cons]
    rcases h with h | h
    · exact Or.inl h
    · rw [ab_p] at h
      exact Or.inr (ab_ent_args ad ac r (k + 1 + 1) q h)
  | .double x :: r, k, q, h => by
    rw [ab_ent, ab_p, List.mem_cons] at h
    rw [List.map_cons, lv_args, List.mem_cons]
    rcases h with h | h
    · exact Or.inl h
    · rw [ab_p] at h
      exact Or.inr (ab_ent_args ad ac r (k + 1 + 1) q h)
  | .int x :: r, k, q, h => by
    rw [ab_ent, ab_p, List.mem_cons] at h
    rw [List.map_cons, lv_args, List.mem_cons]
    · rcases h with h | h
      · exact Or.inl h
      · exact Or.inr (ab_ent_args ad ac r (k + 1) q h)
    all_goals simp
  | .float x :: r, k, q, h => by
    rw [ab_ent, ab_p, List.mem_cons] at h
    rw [List.map_cons, lv_args, List.mem_cons]
    · rcases h with h | h
      · exact Or.inl h
      · exact Or.inr (ab_ent_args ad ac r (k + 1) q h)
    all_goals simp
  | .null :: r, k, q, h => by
    rw [ab_ent, ab_p, List.mem_cons] at h
    rw [List.map_cons, lv_args, List.mem_cons]
    · rcases h with h | h
      · exact Or.inl h
      · exact Or.inr (ab_ent_args ad ac r (k + 1) q h)
    all_goals simp
  | .ref x :: r, k, q, h => by
    rw [ab_ent, ab_p, List.mem_cons] at h
    rw [List.map_cons, lv_args, List.mem_cons]
    · rcases h with h | h
      · exact Or.inl h
      · exact Or.inr (ab_ent_args ad ac r (k + 1) q h)
    all_goals simp
  | .retAddr x :: r, k, q, h => by
    rw [ab_ent, ab_p, List.mem_cons] at h
    rw [List.map_cons, lv_args, List.mem_cons]
    · rcases h with h | h
      · exact Or.inl h
      · exact Or.inr (ab_ent_args ad ac r (k + 1) q h)
    all_goals simp
theorem ab_p_app (ad ac : Nat → Nat) : ∀ (ls : List (Option Value)) (n k : Nat), ab_p ad ac k (ls ++ List.replicate n none) = ab_p ad ac k ls
  | [], n, k => by
    induction n generalizing k with
    | zero => rfl
    | succ n ih => rw [List.nil_append, List.replicate_succ, ab_p]; exact ih (k + 1)
  | none :: r, n, k => by rw [List.cons_append, ab_p, ab_p]; exact ab_p_app ad ac r n (k + 1)
  | some v :: r, n, k => by rw [List.cons_append, ab_p, ab_p, ab_p_app ad ac r n (k + 1)]
theorem ab_ent_len (ad ac : Nat → Nat) : ∀ (as : List Value), (lg_sl (as.map (ab_v ad ac))).length = (ab_ent as).length
  | [] => rfl
  | v :: r => by
    have ih := ab_ent_len ad ac r
    cases v <;> simp_all [lg_sl, ab_ent, ab_v, Value.category]
theorem ab_ent_ok {n : Nat} : ∀ {as : List Value}, ab_okV n as → ab_okL n (ab_ent as)
  | [], _ => fun v h => by simp [ab_ent] at h
  | w :: r, h => by
    have ih := ab_ent_ok (n := n) (as := r) (fun v hv => h v (List.mem_cons_of_mem _ hv))
    have h0 := h w List.mem_cons_self
    intro v hv
    cases w <;> simp only [ab_ent, List.mem_cons, Option.some.injEq, reduceCtorEq, false_or] at hv <;> rcases hv with hv | hv <;> first | (subst hv; exact h0) | exact ih v hv
