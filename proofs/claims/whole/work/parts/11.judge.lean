/-! THE WORDS, THE CONSTANTS, THE JUDGEMENTS -/
/-- a private method of AbstractStringBuilder, selected on a StringBuilder (follows from the tables' words, at the law's start) -/
def lw_sb (n d : String) : Cond := .selects "java/lang/StringBuilder" ⟨"java/lang/AbstractStringBuilder", n, d⟩ ⟨"java/lang/AbstractStringBuilder", n, d⟩
def lw_more : List Cond := [lw_sb "ensureCapacityInternal" "(I)V", lw_sb "newCapacity" "(I)I", lw_sb "putStringAt" "(ILjava/lang/String;)V", lw_sb "inflateIfNeededFor" "(Ljava/lang/String;)V"]
def lw_tb2 : List Cond := lw_tbl ++ lw_more
def ab_ws : List Cond := lw_tb2.filter goodWord
theorem ab_inT {w : Cond} (h : w ∈ lw_tbl) (hg : goodWord w = true) : w ∈ ab_ws := List.mem_filter.mpr ⟨List.mem_append_left _ h, hg⟩
theorem ab_in (i : Nat) {w : Cond} (h : lw_tbl[i]? = some w) (hg : goodWord w = true) : w ∈ ab_ws := ab_inT (List.mem_of_getElem? h) hg
theorem ab_inM (i : Nat) {w : Cond} (h : lw_more[i]? = some w) (hg : goodWord w = true) : w ∈ ab_ws := List.mem_filter.mpr ⟨List.mem_append_right _ (List.mem_of_getElem? h), hg⟩
theorem ab_gd {w : Cond} (h : w ∈ ab_ws) : w ∈ ab_ws ∧ ((w.onTables && w.keeps) = true ∨ ∃ ty, w = .arrayClass ty) := ⟨h, good_of_word (List.mem_filter.mp h).2⟩
theorem ab_gdW {c : Cond} (h : c ∈ ab_ws) : GoodIn ab_ws (c :: ab_ws) := fun w hw => by
  rcases List.mem_cons.mp hw with e | e
  · rw [e]; exact ab_gd h
  · exact ab_gd e
theorem ab_gdS {own : String} {idx : Nat} {y : MethodName} {c : Cond} (h1 : Cond.methodLink own idx y ∈ ab_ws) (h2 : Cond.static y ∈ ab_ws) (h3 : Cond.initialized y.cls ∈ ab_ws) (hc : c ∈ ab_ws) : GoodIn ab_ws (va_wsS own idx y (c :: ab_ws)) := by
  intro w hw
  unfold va_wsS at hw
  rcases List.mem_append.mp hw with e | e
  · simp only [List.mem_cons, List.not_mem_nil, or_false] at e
    rcases e with e | e | e <;> (rw [e]; first | exact ab_gd h1 | exact ab_gd h2 | exact ab_gd h3)
  · exact ab_gdW hc w e
theorem ab_gdV {own C : String} {idx : Nat} {y : MethodName} {c : Cond} (h1 : Cond.methodLink own idx y ∈ ab_ws) (h2 : Cond.instanceMethod y ∈ ab_ws) (h3 : Cond.selects C y y ∈ ab_ws) (h4 : Cond.initialized C ∈ ab_ws) (hc : c ∈ ab_ws) : GoodIn ab_ws (wsV own idx C y (c :: ab_ws)) := by
  intro w hw
  unfold wsV at hw
  rcases List.mem_append.mp hw with e | e
  · simp only [List.mem_cons, List.not_mem_nil, or_false] at e
    rcases e with e | e | e | e <;> (rw [e]; first | exact ab_gd h1 | exact ab_gd h2 | exact ab_gd h3 | exact ab_gd h4)
  · exact ab_gdW hc w e
/-- the array classes -/
def ab_tys (cT : FieldType → ClassId) : List (ClassId × FieldType) := [(cT .int, .int), (cT .byte, .byte), (cT (.object RX8), .object RX8)]
/-- a method: its name, its code, its locals, its answer's type -/
abbrev ab_M : Type := MethodName × ByteArray × Nat × Option FieldType
abbrev ab_O : Type := (Option Value ⊕ String) × List ab_S × ab_F × ab_F
/-- the machine round a method's run -/
abbrev ab_X : Type := Program × Launch × Env × State × MethodId × Array Value × List Frame × Method × Code × va_G × (FieldType → ClassId) × (Nat → Nat) × (Nat → Prop) × (Nat → Nat) × Nat × Nat × Nat
def ab_rm (d mc ms : Nat) : Room := { frames := d, cells := mc, slots := ms, locals := 100 * d }
def ab_Qc (D : va_G) (cT : FieldType → ClassId) (ac : Nat → Nat) (Ar : Nat → Prop) (ad0 : Nat → Nat) (n0 : Nat) (P : ab_O → Prop) : Array Value → State → Outcome → State → Prop := fun _ st o t =>
  (∃ (r : Option Value) (sh : List ab_S) (I A : ab_F) (ad : Nat → Nat), o = .returned (r.map (ab_v ad ac)) ∧ P (.inl r, sh, I, A) ∧ n0 ≤ sh.length ∧ (∀ k, k < n0 → ad k = ad0 k) ∧ (∀ v, r = some v → ab_ok sh.length v) ∧ ab_okH sh ∧ va_P D vwCl (ab_w cT ad ac I A 0 sh) t.heap ∧ va_D Ar (ab_w cT ad ac I A 0 sh)) ∧ va_F Ar st t
def ab_XC (D : va_G) (cT : FieldType → ClassId) (ac : Nat → Nat) (Ar : Nat → Prop) (ad0 : Nat → Nat) (n0 : Nat) (P : ab_O → Prop) : String → State → State → Prop := fun E st t =>
  (∃ (sh : List ab_S) (I A : ab_F) (ad : Nat → Nat), P (.inr E, sh, I, A) ∧ n0 ≤ sh.length ∧ (∀ k, k < n0 → ad k = ad0 k) ∧ ab_okH sh ∧ va_P D vwCl (ab_w cT ad ac I A 0 sh) t.heap ∧ va_D Ar (ab_w cT ad ac I A 0 sh)) ∧ va_F Ar st t
def ab_str : List (String × Nat × String × List Int32) := [
  ("CheckpointSwap$SystemText", 53, "system", [115, 121, 115, 116, 101, 109]),
  ("CheckpointSwap$SystemText", 70, "lru", [108, 114, 117]),
  ("CheckpointSwap$SystemText", 72, "fifo", [102, 105, 102, 111]),
  ("CheckpointSwap$SystemText", 74, "clean", [99, 108, 101, 97, 110]),
  ("CheckpointSwap$SystemText", 86, "process", [112, 114, 111, 99, 101, 115, 115]),
  ("CheckpointSwap$SystemText", 88, "int", [105, 110, 116]),
  ("CheckpointSwap$SystemText", 90, "float", [102, 108, 111, 97, 116]),
  ("CheckpointSwap$SystemText", 92, "", []),
  ("CheckpointSwap$ScriptText", 53, "read", [114, 101, 97, 100]),
  ("CheckpointSwap$ScriptText", 59, "write", [119, 114, 105, 116, 101]),
  ("CheckpointSwap$ScriptText", 61, "barrier", [98, 97, 114, 114, 105, 101, 114]),
  ("CheckpointSwap$ScriptText", 63, "flush", [102, 108, 117, 115, 104]),
  ("CheckpointSwap$ScriptText", 65, "commit", [99, 111, 109, 109, 105, 116]),
  ("CheckpointSwap$ScriptText", 67, "abandon", [97, 98, 97, 110, 100, 111, 110]),
  ("CheckpointSwap$ScriptText", 69, "crash", [99, 114, 97, 115, 104]),
  ("CheckpointSwap$ScriptText", 71, "rollback", [114, 111, 108, 108, 98, 97, 99, 107]),
  ("CheckpointSwap$ScriptText", 73, "evict", [101, 118, 105, 99, 116]),
  ("java/lang/StringIndexOutOfBoundsException", 13, "String index out of range: ", [83, 116, 114, 105, 110, 103, 32, 105, 110, 100, 101, 120, 32, 111, 117, 116, 32, 111, 102, 32, 114, 97, 110, 103, 101, 58, 32]),
  ("java/util/Arrays", 337, " > ", [32, 62, 32]),
  ("java/util/Arrays", 48, "fromIndex(", [102, 114, 111, 109, 73, 110, 100, 101, 120, 40]),
  ("java/util/Arrays", 57, ") > toIndex(", [41, 32, 62, 32, 116, 111, 73, 110, 100, 101, 120, 40]),
  ("java/util/Arrays", 59, ")", [41]),
  ("java/lang/ArrayIndexOutOfBoundsException", 13, "Array index out of range: ", [65, 114, 114, 97, 121, 32, 105, 110, 100, 101, 120, 32, 111, 117, 116, 32, 111, 102, 32, 114, 97, 110, 103, 101, 58, 32]),
  ("CheckpointSwap", 405, "epoch ", [101, 112, 111, 99, 104, 32]),
  ("CheckpointSwap", 414, " free ", [32, 102, 114, 101, 101, 32]),
  ("CheckpointSwap", 416, " accesses ", [32, 97, 99, 99, 101, 115, 115, 101, 115, 32]),
  ("CheckpointSwap", 454, "process ", [112, 114, 111, 99, 101, 115, 115, 32]),
  ("CheckpointSwap", 456, " float", [32, 102, 108, 111, 97, 116]),
  ("CheckpointSwap", 458, " int", [32, 105, 110, 116]),
  ("CheckpointSwap", 460, " checkpoint ", [32, 99, 104, 101, 99, 107, 112, 111, 105, 110, 116, 32]),
  ("CheckpointSwap", 462, "none", [110, 111, 110, 101]),
  ("CheckpointSwap", 70, "the text would be too long", [116, 104, 101, 32, 116, 101, 120, 116, 32, 119, 111, 117, 108, 100, 32, 98, 101, 32, 116, 111, 111, 32, 108, 111, 110, 103]),
  ("CheckpointSwap", 440, "no such number", [110, 111, 32, 115, 117, 99, 104, 32, 110, 117, 109, 98, 101, 114]),
  ("CheckpointSwap", 443, "an argument is out of its range", [97, 110, 32, 97, 114, 103, 117, 109, 101, 110, 116, 32, 105, 115, 32, 111, 117, 116, 32, 111, 102, 32, 105, 116, 115, 32, 114, 97, 110, 103, 101]),
  ("CheckpointSwap", 445, "not possible in this state", [110, 111, 116, 32, 112, 111, 115, 115, 105, 98, 108, 101, 32, 105, 110, 32, 116, 104, 105, 115, 32, 115, 116, 97, 116, 101]),
  ("CheckpointSwap", 449, "there is none", [116, 104, 101, 114, 101, 32, 105, 115, 32, 110, 111, 110, 101]),
  ("CheckpointSwap", 452, "not possible for this one", [110, 111, 116, 32, 112, 111, 115, 115, 105, 98, 108, 101, 32, 102, 111, 114, 32, 116, 104, 105, 115, 32, 111, 110, 101]),
  ("CheckpointSwap", 233, "not a process of the kind float", [110, 111, 116, 32, 97, 32, 112, 114, 111, 99, 101, 115, 115, 32, 111, 102, 32, 116, 104, 101, 32, 107, 105, 110, 100, 32, 102, 108, 111, 97, 116]),
  ("CheckpointSwap", 329, "a barrier is in progress", [97, 32, 98, 97, 114, 114, 105, 101, 114, 32, 105, 115, 32, 105, 110, 32, 112, 114, 111, 103, 114, 101, 115, 115]),
  ("CheckpointSwap", 372, "no access yet", [110, 111, 32, 97, 99, 99, 101, 115, 115, 32, 121, 101, 116]),
  ("CheckpointSwap", 399, "no such total", [110, 111, 32, 115, 117, 99, 104, 32, 116, 111, 116, 97, 108]),
  ("CheckpointSwap", 433, "no change can be undone", [110, 111, 32, 99, 104, 97, 110, 103, 101, 32, 99, 97, 110, 32, 98, 101, 32, 117, 110, 100, 111, 110, 101]),
  ("CheckpointSwapModel", 140, "system", [115, 121, 115, 116, 101, 109]),
  ("CheckpointSwapModel", 150, "lru", [108, 114, 117]),
  ("CheckpointSwapModel", 152, "fifo", [102, 105, 102, 111]),
  ("CheckpointSwapModel", 154, "clean", [99, 108, 101, 97, 110]),
  ("CheckpointSwapModel", 160, ";", [59]),
  ("CheckpointSwapModel", 162, "process", [112, 114, 111, 99, 101, 115, 115]),
  ("CheckpointSwapModel", 164, "int", [105, 110, 116]),
  ("CheckpointSwapModel", 166, "float", [102, 108, 111, 97, 116]),
  ("CheckpointSwapModel", 280, "read", [114, 101, 97, 100]),
  ("CheckpointSwapModel", 282, "write", [119, 114, 105, 116, 101]),
  ("CheckpointSwapModel", 283, "barrier", [98, 97, 114, 114, 105, 101, 114]),
  ("CheckpointSwapModel", 285, "flush", [102, 108, 117, 115, 104]),
  ("CheckpointSwapModel", 286, "commit", [99, 111, 109, 109, 105, 116]),
  ("CheckpointSwapModel", 287, "abandon", [97, 98, 97, 110, 100, 111, 110]),
  ("CheckpointSwapModel", 288, "crash", [99, 114, 97, 115, 104]),
  ("CheckpointSwapModel", 290, "rollback", [114, 111, 108, 108, 98, 97, 99, 107]),
  ("CheckpointSwapModel", 292, "evict", [101, 118, 105, 99, 116]),
  ("CheckpointSwapModel", 398, "epoch ", [101, 112, 111, 99, 104, 32]),
  ("CheckpointSwapModel", 400, " free ", [32, 102, 114, 101, 101, 32]),
  ("CheckpointSwapModel", 402, " accesses ", [32, 97, 99, 99, 101, 115, 115, 101, 115, 32]),
  ("CheckpointSwapModel", 387, "process ", [112, 114, 111, 99, 101, 115, 115, 32]),
  ("CheckpointSwapModel", 392, " int checkpoint ", [32, 105, 110, 116, 32, 99, 104, 101, 99, 107, 112, 111, 105, 110, 116, 32]),
  ("CheckpointSwapModel", 394, " float checkpoint ", [32, 102, 108, 111, 97, 116, 32, 99, 104, 101, 99, 107, 112, 111, 105, 110, 116, 32]),
  ("CheckpointSwapModel", 396, "none", [110, 111, 110, 101])]
def ab_sta : List (String × String × String × FieldType × List Int32) := [
  ("CheckpointSwap", "OPERAND_COUNTS", "[I", .int, [2, 3, 1, 1, 0, 0, 0, 1, 2]),
  ("java/lang/Integer", "DigitOnes", "[B", .byte, [48, 49, 50, 51, 52, 53, 54, 55, 56, 57, 48, 49, 50, 51, 52, 53, 54, 55, 56, 57, 48, 49, 50, 51, 52, 53, 54, 55, 56, 57, 48, 49, 50, 51, 52, 53, 54, 55, 56, 57, 48, 49, 50, 51, 52, 53, 54, 55, 56, 57, 48, 49, 50, 51, 52, 53, 54, 55, 56, 57, 48, 49, 50, 51, 52, 53, 54, 55, 56, 57, 48, 49, 50, 51, 52, 53, 54, 55, 56, 57, 48, 49, 50, 51, 52, 53, 54, 55, 56, 57, 48, 49, 50, 51, 52, 53, 54, 55, 56, 57]),
  ("java/lang/Integer", "DigitTens", "[B", .byte, [48, 48, 48, 48, 48, 48, 48, 48, 48, 48, 49, 49, 49, 49, 49, 49, 49, 49, 49, 49, 50, 50, 50, 50, 50, 50, 50, 50, 50, 50, 51, 51, 51, 51, 51, 51, 51, 51, 51, 51, 52, 52, 52, 52, 52, 52, 52, 52, 52, 52, 53, 53, 53, 53, 53, 53, 53, 53, 53, 53, 54, 54, 54, 54, 54, 54, 54, 54, 54, 54, 55, 55, 55, 55, 55, 55, 55, 55, 55, 55, 56, 56, 56, 56, 56, 56, 56, 56, 56, 56, 57, 57, 57, 57, 57, 57, 57, 57, 57, 57])]
def ab_ng : List Cond := [
  .methodLinkNest "CheckpointSwap" 9 ⟨"CheckpointSwap$Text", "<init>", "()V"⟩ "CheckpointSwap",
  .methodLinkNest "CheckpointSwap" 34 ⟨"CheckpointSwap$SwapSystem", "<init>", "()V"⟩ "CheckpointSwap",
  .methodLinkNest "CheckpointSwap$SwapSystem" 11 ⟨"CheckpointSwap$Pages", "<init>", "()V"⟩ "CheckpointSwap",
  .methodLinkNest "CheckpointSwap$SwapSystem" 20 ⟨"CheckpointSwap$Frames", "<init>", "()V"⟩ "CheckpointSwap",
  .methodLinkNest "CheckpointSwap$SwapSystem" 27 ⟨"CheckpointSwap$Slots", "<init>", "()V"⟩ "CheckpointSwap",
  .methodLinkNest "CheckpointSwap$SwapSystem" 34 ⟨"CheckpointSwap$Barriers", "<init>", "()V"⟩ "CheckpointSwap",
  .methodLinkNest "CheckpointSwap$SwapSystem" 41 ⟨"CheckpointSwap$Accesses", "<init>", "()V"⟩ "CheckpointSwap",
  .methodLinkNest "CheckpointSwap" 45 ⟨"CheckpointSwap$History", "<init>", "()V"⟩ "CheckpointSwap",
  .methodLinkNest "CheckpointSwap" 52 ⟨"CheckpointSwap$Rerun", "<init>", "()V"⟩ "CheckpointSwap",
  .methodLinkNest "CheckpointSwap$History" 21 ⟨"CheckpointSwap$SwapSystem", "<init>", "()V"⟩ "CheckpointSwap",
  .methodLinkNest "CheckpointSwap$SwapSystem" 153 ⟨"CheckpointSwap", "idOf", "(II)I"⟩ "CheckpointSwap",
  .fieldLinkNest "CheckpointSwap$ScriptText" 35 "CheckpointSwap" "OPERAND_COUNTS" "[I" "CheckpointSwap",
  .methodLinkNest "CheckpointSwap$ScriptText" 78 ⟨"CheckpointSwap", "idOf", "(II)I"⟩ "CheckpointSwap",
  .methodLinkNest "CheckpointSwap$Pages" 53 ⟨"CheckpointSwap", "isNanPattern", "(I)Z"⟩ "CheckpointSwap",
  .methodLinkNest "CheckpointSwap$Pages" 60 ⟨"CheckpointSwap", "idOf", "(II)I"⟩ "CheckpointSwap",
  .castable "java/lang/IllegalArgumentException" "java/lang/IllegalArgumentException",
  .castable "java/lang/ArrayIndexOutOfBoundsException" "java/lang/ArrayIndexOutOfBoundsException",
  .castable "java/lang/IllegalStateException" "java/lang/IllegalStateException",
  .castable "java/lang/IndexOutOfBoundsException" "java/lang/IndexOutOfBoundsException",
  .castable "java/util/NoSuchElementException" "java/util/NoSuchElementException",
  .castable "java/lang/UnsupportedOperationException" "java/lang/UnsupportedOperationException",
  .castable "java/lang/ArithmeticException" "java/lang/ArithmeticException",
  .declares ⟨"java/lang/RuntimeException", "<init>", "()V"⟩,
  .declares ⟨"java/lang/RuntimeException", "<init>", "(Ljava/lang/String;)V"⟩,
  .declares ⟨"java/lang/Exception", "<init>", "()V"⟩,
  .declares ⟨"java/lang/Exception", "<init>", "(Ljava/lang/String;)V"⟩,
  .declares ⟨"java/lang/Throwable", "<init>", "()V"⟩,
  .declares ⟨"java/lang/Throwable", "<init>", "(Ljava/lang/String;)V"⟩,
  .declares ⟨"java/lang/IndexOutOfBoundsException", "<init>", "()V"⟩,
  .declares ⟨"java/lang/IndexOutOfBoundsException", "<init>", "(Ljava/lang/String;)V"⟩]
/-- a String constant: the object, its coder and its bytes -/
def ab_KS (ac : Nat → Nat) (i : Nat) (q : String × Nat × String × List Int32) (Ar : Nat → Prop) (U : State) (H : Heap) : Prop :=
  vk_R q.1 q.2.1 q.2.2.1 (ac (2 * i)) U ∧ va_O "java/lang/String" (ac (2 * i)) Ar U H ∧ va_OF "java/lang/String" "coder" "B" (.int 0) (ac (2 * i)) Ar U H ∧ va_OF "java/lang/String" "value" "[B" (.ref (ac (2 * i + 1))) (ac (2 * i)) Ar U H ∧ va_T .byte (ac (2 * i + 1)) q.2.2.2.length (fun j => .int (q.2.2.2.getD j 0)) Ar U H
def ab_KA (ac : Nat → Nat) (i : Nat) (q : String × String × String × FieldType × List Int32) (Ar : Nat → Prop) (U : State) (H : Heap) : Prop :=
  va_Z q.1 q.2.1 q.2.2.1 (.ref (ac (1000 + i))) Ar U H ∧ va_T q.2.2.2.1 (ac (1000 + i)) q.2.2.2.2.length (fun j => .int (q.2.2.2.2.getD j 0)) Ar U H
def ab_CK (ac : Nat → Nat) (Ar : Nat → Prop) (U : State) (H : Heap) : Prop :=
  (∀ (i : Nat) (q : String × Nat × String × List Int32), ab_str[i]? = some q → ab_KS ac i q Ar U H) ∧ (∀ (i : Nat) (q : String × String × String × FieldType × List Int32), ab_sta[i]? = some q → ab_KA ac i q Ar U H) ∧
  va_Z "java/lang/String" "COMPACT_STRINGS" "Z" (.int 1) Ar U H ∧ (va_Z "jdk/internal/util/Preconditions" "SIOOBE_FORMATTER" "Ljava/util/function/BiFunction;" .null Ar U H ∨ va_Z "jdk/internal/util/Preconditions" "SIOOBE_FORMATTER" "Ljava/util/function/BiFunction;" (.ref (ac 2000)) Ar U H) ∧ (∀ w ∈ ab_ng, va_Nw w U) ∧ vx_Zq Bundle.tN "UNASSIGNED_STACK" Bundle.steD Ar U H ∧ vx_Zq Bundle.tN "SUPPRESSED_SENTINEL" Bundle.listD Ar U H ∧ va_AO RX8 U
theorem ab_ng_ot : ∀ w ∈ ab_ng, w.onTables = true := by decide +kernel
theorem ab_ng_kind : ∀ w ∈ ab_ng, (∃ a i y h, w = .methodLinkNest a i y h) ∨ (∃ a i b n d h, w = .fieldLinkNest a i b n d h) ∨ (∃ C T, w = .castable C T) ∨ ∃ y, w = .declares y := by
  intro w hw
  simp only [ab_ng, List.mem_cons, List.not_mem_nil, or_false] at hw
  rcases hw with h | h | h | h | h | h | h | h | h | h | h | h | h | h | h | h | h | h | h | h | h | h | h | h | h | h | h | h | h | h <;> subst h <;> first | exact Or.inl ⟨_, _, _, _, rfl⟩ | exact Or.inr (Or.inl ⟨_, _, _, _, _, _, rfl⟩) | exact Or.inr (Or.inr (Or.inl ⟨_, _, rfl⟩)) | exact Or.inr (Or.inr (Or.inr ⟨_, rfl⟩))
theorem ab_CK.at {ac : Nat → Nat} {Ar B : Nat → Prop} {s U : State} {H0 H : Heap} (h : ab_CK ac Ar s H0) (hW : s.WarmedH U.vm) (hk : ∀ a : Nat, a < H0.size → ¬ Ar a → H[a]? = H0[a]?) (hB : ∀ q, B q → Ar q) : ab_CK ac B U H := by
  obtain ⟨h1, h2, h3, h4, h5, h6, h7, h8⟩ := h
  refine ⟨fun i q hq => ?_, fun i q hq => ?_, ((h3.kept hk).narrow hB).moved hW.alike, h4.imp (fun q => ((q.kept hk).narrow hB).moved hW.alike) (fun q => ((q.kept hk).narrow hB).moved hW.alike), fun w hw => ?_, ((h6.kept hk).narrow hB).moved hW.alike, ((h7.kept hk).narrow hB).moved hW.alike, va_AO.moved hW.alike h8⟩
  · obtain ⟨a1, a2, a3, a4, a5⟩ := h1 i q hq
    exact ⟨a1.warm hW, ((a2.kept hk).narrow hB).moved hW.alike, ((a3.kept hk).narrow hB).moved hW.alike, ((a4.kept hk).narrow hB).moved hW.alike, ((a5.kept hk).narrow hB).moved hW.alike⟩
  · obtain ⟨a1, a2⟩ := h2 i q hq
    exact ⟨((a1.kept hk).narrow hB).moved hW.alike, ((a2.kept hk).narrow hB).moved hW.alike⟩
  · rcases ab_ng_kind w hw with ⟨a, i, y, g, e⟩ | ⟨a, i, b, n, d, g, e⟩ | ⟨C, T, e⟩ | ⟨y, e⟩
    · subst e; exact (h5 _ hw).warmM hW
    · subst e; exact (h5 _ hw).warmF hW
    · subst e; exact (h5 _ hw).warmC hW
    · subst e; exact (h5 _ hw).warmD hW
/-- what holds of the machine all through a method's run -/
def ab_fix (M : ab_M) (d : Nat) : ab_X → Prop
  | (p, l, e, s, m, args, below, meth, c, D, cT, ac, Ar, ad0, n0, mc, ms) => p.tables.exec = Jvm.exec ∧ c.code = M.2.1 ∧ c.maxLocals = M.2.2.1 ∧ meth.sig.returnType = M.2.2.2 ∧ meth.locks = false ∧ meth.name = M.1.name ∧ s.vm.findClass M.1.cls = some m.cls ∧ (∀ w ∈ ab_ws, w.before args s = true) ∧ va_K D vwCl (ab_tys cT) s ∧ ab_CK ac Ar s s.heap ∧ l.stackTraces = false ∧ (∀ x ∈ c.exceptionTable.toList, False) ∧ (∀ q, s.heap.size ≤ q → Ar q)
/-- from this point on the method ends as P says; bc cells and bs slots may still be made -/
def ab_G (M : ab_M) (d : Nat) (C : ab_X) (P : ab_O → Prop) (pc : Nat) (ls : List (Option Value)) (st : List Value) (sh : List ab_S) (I A : ab_F) (bc bs : Nat) : Prop := match C with
  | (p, l, e, s, m, args, below, meth, c, D, cT, ac, Ar, ad0, n0, mc, ms) => ab_fix M d C → ∀ (ad : Nat → Nat) (H : Heap) (locs : List Loc) (lsA : Array Slot) (cells slots : Nat), cells + bc ≤ mc → slots + bs ≤ ms → n0 ≤ sh.length → (∀ k, k < n0 → ad k = ad0 k) → ab_okH sh → ab_okL sh.length ls → ab_okV sh.length st → lv_has lsA M.2.2.1 (ab_p ad ac 0 ls) → va_P D vwCl (ab_w cT ad ac I A 0 sh) H → va_D Ar (ab_w cT ad ac I A 0 sh) → va_S Ar s.heap H locs →
    W p l e (ab_rm d mc ms) s m args below meth c H locs cells slots (vx_MQ below (ab_Qc D cT ac Ar ad0 n0 P) (ab_XC D cT ac Ar ad0 n0 P) args s mc ms Ar) (F0 m pc lsA (st.map (ab_v ad ac)))
/-- the contract: called with these values on this heap it ends as P says, d frames deep at most, with at most mc cells of ms slots made -/
def ab_Cl (M : ab_M) (d mc ms : Nat) (as : List Value) (sh : List ab_S) (I A : ab_F) (P : ab_O → Prop) : Prop :=
  ∀ (l : Launch), l.stackTraces = false → ∀ (D : va_G) (cT : FieldType → ClassId) (ac ad : Nat → Nat) (sz : Nat), ab_okH sh → ab_okV sh.length as → vx_Met l M.1 (.code M.1 M.2.1 M.2.2.1 M.2.2.2 :: ab_ws) (ab_rm d mc ms)
    (va_Pc (as.map (ab_v ad ac)) (fun U => U.heap.size = sz ∧ va_P D vwCl (ab_w cT ad ac I A 0 sh) U.heap ∧ va_K D vwCl (ab_tys cT) U ∧ va_D (fun _ => True) (ab_w cT ad ac I A 0 sh) ∧ ab_CK ac (va_A (ab_w cT ad ac I A 0 sh) sz) U U.heap))
    (ab_Qc D cT ac (va_A (ab_w cT ad ac I A 0 sh) sz) ad sh.length P) (ab_XC D cT ac (va_A (ab_w cT ad ac I A 0 sh) sz) ad sh.length P) mc ms (va_A (ab_w cT ad ac I A 0 sh) sz)
/-- a method's contract out of its walk -/
theorem ab_enter {M : ab_M} {d mc ms : Nat} {as : List Value} {sh : List ab_S} {I A : ab_F} {P : ab_O → Prop} {ls : List (Option Value)} (hy : plainName M.1.cls = true) (hn : (ab_ent as).length ≤ M.2.2.1) (hl : ls = ab_ent as ++ List.replicate (M.2.2.1 - (ab_ent as).length) none)
    (k : ∀ C : ab_X, ab_G M d C P 0 ls [] sh I A mc ms) : ab_Cl M d mc ms as sh I A P := by
  intro l htr D cT ac ad sz hok hoka
  refine vx_ofW (cc := M.2.1) (maxL := M.2.2.1) (ret := M.2.2.2) hy rfl ?_
  intro p e s m args below meth c s₁ B hml hxt hv
  obtain ⟨rfl, hsz, hP, hK, hD0, hCK⟩ := hv
  have hts := atoms_spec (ws := Cond.code M.1 M.2.1 M.2.2.1 M.2.2.2 :: ab_ws) B.pre
  have hown : s.vm.findClass M.1.cls = some m.cls := findClass_of_methodNamed B.named
  have hin : meth.name = M.1.name := (name_of_methodNamed B.named B.method).1
  subst hsz
  have hD := hD0.self (sz := s.heap.size)
  rw [lg_entry_eq]
  have hlv := lv_entry (as.map (ab_v ad ac)) (n := M.2.2.1) (by rw [ab_ent_len]; exact hn)
  have hlv2 : lv_has ((lg_sl (as.map (ab_v ad ac)) ++ List.replicate (M.2.2.1 - (lg_sl (as.map (ab_v ad ac))).length) Slot.unset).toArray) M.2.2.1 (ab_p ad ac 0 ls) := by
    refine ⟨hlv.1, hlv.2.1, fun q hq => hlv.2.2 q ?_⟩
    rw [hl, ab_p_app] at hq
    exact ab_ent_args ad ac as 0 q hq
  have hG := k (p, l, e, s, m, (as.map (ab_v ad ac)).toArray, below, meth, c, D, cT, ac, va_A (ab_w cT ad ac I A 0 sh) s.heap.size, ad, sh.length, mc, ms)
  refine hG ⟨B.exec, B.bytes, hml, B.returns, B.notSynchronized, hin, hown, fun w hw => hts w (List.mem_cons_of_mem _ hw), hK, hCK, htr, hxt, fun q hq => Or.inr hq⟩ ad s.heap [] _ 0 0 (by omega) (by omega) (Nat.le_refl _) (fun _ _ => rfl) hok ?_ (fun v hv => absurd hv List.not_mem_nil) hlv2 hP hD va_S.rf
  rw [hl]
  intro v hv
  rcases List.mem_append.mp hv with h | h
  · exact ab_ent_ok hoka v h
  · exact absurd (List.eq_of_mem_replicate h) (by simp)
/-- a weaker end -/
theorem ab_Cl.mono {M : ab_M} {d mc ms : Nat} {as : List Value} {sh : List ab_S} {I A : ab_F} {P P' : ab_O → Prop} (h : ab_Cl M d mc ms as sh I A P) (hP : ∀ o, P o → P' o) : ab_Cl M d mc ms as sh I A P' := by
  intro l htr D cT ac ad sz hok hoka p e a1 a2 a3 s m args below b1 b2 b3 b4
  obtain ⟨k, o, c1, c2, c3, c4⟩ := h l htr D cT ac ad sz hok hoka p e a1 a2 a3 s m args below b1 b2 b3 b4
  refine ⟨k, o, c1, c2, c3, ?_⟩
  rcases c4 with ⟨⟨⟨r, sh', I', A', ad', e1, e2, e3⟩, hF⟩, hL⟩ | ⟨q, e0, E, ce, L, ⟨⟨sh', I', A', ad', e1, e2⟩, hF⟩, e3⟩
  · exact Or.inl ⟨⟨⟨r, sh', I', A', ad', e1, hP _ e2, e3⟩, hF⟩, hL⟩
  · exact Or.inr ⟨q, e0, E, ce, L, ⟨⟨sh', I', A', ad', hP _ e1, e2⟩, hF⟩, e3⟩
