/-! THE PURE LEVEL: rows of numbers, loops as functions. -/
def bI (b : Bool) : Int32 := if b = true then nI 1 else nI 0
theorem bI_t : bI true = nI 1 := rfl
theorem bI_f : bI false = nI 0 := rfl
theorem bI_0 {b : Bool} : bI b = 0 ↔ b = false := by cases b <;> decide
theorem bI_n (b : Bool) : narrow .boolean (.int (bI b)) = .int (bI b) := by cases b <;> rfl
theorem bI_1 {b : Bool} : bI b = nI 1 ↔ b = true := by cases b <;> decide
/-- one place of a row -/
def uw (w : Nat → Int32) (i : Nat) (v : Int32) : Nat → Int32 := fun j => if j = i then v else w j
theorem uw_at (w : Nat → Int32) (i : Nat) (v : Int32) : uw w i v i = v := by simp [uw]
theorem uw_ne {w : Nat → Int32} {i j : Nat} {v : Int32} (h : j ≠ i) : uw w i v j = w j := by simp [uw, h]
theorem wr_w (A : ab_F) (c i : Nat) (v : Int32) : wr A c i v = wrow A c (uw (A c) i v) := by
  funext c' i'
  unfold wr wrow uw
  by_cases h : c' = c
  · subst h; simp
  · simp [h]
theorem wrow_wrow (A : ab_F) (c : Nat) (g h : Nat → Int32) : wrow (wrow A c g) c h = wrow A c h := by
  funext c'
  unfold wrow
  by_cases h : c' = c <;> simp [h]
theorem wrow_id (A : ab_F) (c : Nat) : wrow A c (A c) = A := by
  funext c'
  unfold wrow
  by_cases h : c' = c <;> simp [h]
theorem wrow_comm {A : ab_F} {c d : Nat} {g h : Nat → Int32} (e : c ≠ d) : wrow (wrow A c g) d h = wrow (wrow A d h) c g := by
  funext c'
  unfold wrow
  by_cases h1 : c' = c
  · subst h1; simp [e]
  · by_cases h2 : c' = d
    · subst h2; simp [h1]
    · simp [h1, h2]
/-! loops -/
def up {σ : Type} (f : Nat → σ → σ) (s : σ) : Nat → σ
  | 0 => s
  | n + 1 => f n (up f s n)
theorem lp_up {σ : Type} {W : Nat → Nat → σ → Prop} {f : Nat → σ → σ} {s : σ} {e : Nat} (hx : ∀ n, W (n + 1) e (up f s e)) (hs : ∀ n i, i < e → W n (i + 1) (up f s (i + 1)) → W (n + 1) i (up f s i)) : ∃ n, W n 0 s := by
  have h : ∀ m i, i + m = e → W (m + 1) i (up f s i) := by
    intro m
    induction m with
    | zero => intro i hi; rw [show i = e by omega]; exact hx 0
    | succ m ih => intro i hi; exact hs _ i (by omega) (ih (i + 1) (by omega))
  exact ⟨e + 1, h e 0 (by omega)⟩
/-- a loop that may end early -/
theorem lp_fi {W : Nat → Nat → Prop} {p : Nat → Bool} {e : Nat} (hx : ∀ n, (∀ j, j < e → p j = false) → W (n + 1) e) (hy : ∀ n i, i < e → p i = true → (∀ j, j < i → p j = false) → W (n + 1) i) (hs : ∀ n i, i < e → p i = false → W n (i + 1) → W (n + 1) i) : ∃ n, W n 0 := by
  have h : ∀ m i, i + m = e → (∀ j, j < i → p j = false) → W (m + 1) i := by
    intro m
    induction m with
    | zero => intro i hi hj; have e1 : i = e := by omega
              subst e1; exact hx 0 hj
    | succ m ih =>
      intro i hi hj
      cases hp : p i with
      | true => exact hy _ i (by omega) hp hj
      | false => exact hs _ i (by omega) hp (ih (i + 1) (by omega) (fun j h1 => by
          by_cases h2 : j = i
          · rw [h2]; exact hp
          · exact hj j (by omega)))
  exact ⟨e + 1, h e 0 (by omega) (fun j h1 => by omega)⟩
def ex (p : Nat → Bool) : Nat → Bool
  | 0 => false
  | n + 1 => ex p n || p n
def cn (p : Nat → Bool) : Nat → Nat
  | 0 => 0
  | n + 1 => cn p n + if p n = true then 1 else 0
def fi (p : Nat → Bool) : Nat → Option Nat
  | 0 => none
  | n + 1 => match fi p n with
    | some k => some k
    | none => if p n = true then some n else none
def ls (lt : Nat → Nat → Bool) (p : Nat → Bool) : Nat → Option Nat
  | 0 => none
  | n + 1 => match ls lt p n with
    | some b => if p n = true ∧ lt n b = true then some n else some b
    | none => if p n = true then some n else none
def sb (p : Nat → Bool) : Nat → Nat
  | 0 => 0
  | n + 1 => sb p n + if p n = true then 2 ^ n else 0
def sm (f : Nat → Nat) : Nat → Nat
  | 0 => 0
  | n + 1 => sm f n + f n
def oI : Option Nat → Int32
  | none => -1
  | some n => nI n
theorem ex_iff {p : Nat → Bool} : ∀ {n : Nat}, ex p n = true ↔ ∃ k, k < n ∧ p k = true
  | 0 => by simp [ex]
  | n + 1 => by
    rw [ex, Bool.or_eq_true, ex_iff]
    constructor
    · rintro (⟨k, h1, h2⟩ | h)
      · exact ⟨k, by omega, h2⟩
      · exact ⟨n, by omega, h⟩
    · rintro ⟨k, h1, h2⟩
      by_cases h : k = n
      · subst h; exact Or.inr h2
      · exact Or.inl ⟨k, by omega, h2⟩
theorem ex_congr {p q : Nat → Bool} : ∀ {n : Nat}, (∀ k, k < n → p k = q k) → ex p n = ex q n
  | 0, _ => rfl
  | n + 1, h => by rw [ex, ex, ex_congr (fun k hk => h k (by omega)), h n (by omega)]
theorem cn_congr {p q : Nat → Bool} : ∀ {n : Nat}, (∀ k, k < n → p k = q k) → cn p n = cn q n
  | 0, _ => rfl
  | n + 1, h => by rw [cn, cn, cn_congr (fun k hk => h k (by omega)), h n (by omega)]
theorem sb_congr {p q : Nat → Bool} : ∀ {n : Nat}, (∀ k, k < n → p k = q k) → sb p n = sb q n
  | 0, _ => rfl
  | n + 1, h => by rw [sb, sb, sb_congr (fun k hk => h k (by omega)), h n (by omega)]
theorem sm_congr {p q : Nat → Nat} : ∀ {n : Nat}, (∀ k, k < n → p k = q k) → sm p n = sm q n
  | 0, _ => rfl
  | n + 1, h => by rw [sm, sm, sm_congr (fun k hk => h k (by omega)), h n (by omega)]
theorem fi_congr {p q : Nat → Bool} : ∀ {n : Nat}, (∀ k, k < n → p k = q k) → fi p n = fi q n
  | 0, _ => rfl
  | n + 1, h => by rw [fi, fi, fi_congr (fun k hk => h k (by omega)), h n (by omega)]
theorem ls_lt {lt : Nat → Nat → Bool} {p : Nat → Bool} : ∀ {n b : Nat}, ls lt p n = some b → b < n ∧ p b = true
  | 0, b, h => by simp [ls] at h
  | n + 1, b, h => by
    rw [ls] at h
    split at h
    · rename_i k hk
      have := ls_lt hk
      split at h
      · rename_i h3; cases h; exact ⟨by omega, h3.1⟩
      · cases h; exact ⟨by omega, this.2⟩
    · split at h
      · rename_i h3; cases h; exact ⟨by omega, h3⟩
      · cases h
theorem ls_congr {lt lt' : Nat → Nat → Bool} {p q : Nat → Bool} : ∀ {n : Nat}, (∀ k, k < n → p k = q k) → (∀ k b, k < n → b < k → lt k b = lt' k b) → ls lt p n = ls lt' q n
  | 0, _, _ => rfl
  | n + 1, h, h2 => by
    rw [ls, ls, ls_congr (fun k hk => h k (by omega)) (fun k b hk hb => h2 k b (by omega) hb), h n (by omega)]
    cases e : ls lt' q n with
    | none => rfl
    | some b => simp only; rw [h2 n b (by omega) (ls_lt e).1]
theorem ls_none {lt : Nat → Nat → Bool} {p : Nat → Bool} : ∀ {n : Nat}, ls lt p n = none ↔ ∀ k, k < n → p k = false
  | 0 => by simp [ls]
  | n + 1 => by
    rw [ls]
    cases e : ls lt p n with
    | some b =>
      have h1 := ls_lt e
      simp only
      constructor
      · intro h; split at h <;> cases h
      · intro h; have h2 := h b (by omega); rw [h1.2] at h2; cases h2
    | none =>
      have h1 := ls_none.mp e
      simp only
      constructor
      · intro h k hk
        by_cases hp : p n = true
        · rw [if_pos hp] at h; cases h
        · by_cases hkn : k = n
          · rw [hkn]; simpa using hp
          · exact h1 k (by omega)
      · intro h; rw [if_neg (by rw [h n (by omega)]; decide)]
theorem fi_none {p : Nat → Bool} : ∀ {n : Nat}, fi p n = none ↔ ∀ k, k < n → p k = false
  | 0 => by simp [fi]
  | n + 1 => by
    rw [fi]
    cases e : fi p n with
    | some b =>
      simp only [reduceCtorEq, false_iff]
      intro h
      have := fi_none.mpr (fun k hk => h k (by omega) : ∀ k, k < n → p k = false)
      rw [e] at this; cases this
    | none =>
      have h1 := fi_none.mp e
      simp only
      constructor
      · intro h k hk
        by_cases hp : p n = true
        · rw [if_pos hp] at h; cases h
        · by_cases hkn : k = n
          · rw [hkn]; simpa using hp
          · exact h1 k (by omega)
      · intro h; rw [if_neg (by rw [h n (by omega)]; decide)]
theorem fi_some {p : Nat → Bool} {n k : Nat} (hk : k < n) (hp : p k = true) (h : ∀ j, j < k → p j = false) : fi p n = some k := by
  induction n with
  | zero => omega
  | succ n ih =>
    rw [fi]
    by_cases e : k = n
    · subst e; rw [fi_none.mpr h]; simp [hp]
    · rw [ih (by omega)]
theorem fi_spec {p : Nat → Bool} : ∀ {n k : Nat}, fi p n = some k → k < n ∧ p k = true ∧ ∀ j, j < k → p j = false
  | 0, k, h => by simp [fi] at h
  | n + 1, k, h => by
    rw [fi] at h
    cases e : fi p n with
    | some b => rw [e] at h; cases h; have := fi_spec e; exact ⟨by omega, this.2⟩
    | none =>
      rw [e] at h
      simp only at h
      split at h
      · rename_i h3; cases h; exact ⟨by omega, h3, fi_none.mp e⟩
      · cases h
theorem cn_le {p : Nat → Bool} : ∀ (n : Nat), cn p n ≤ n
  | 0 => Nat.le_refl 0
  | n + 1 => by have := cn_le (p := p) n; rw [cn]; split <;> omega
theorem sb_lt {p : Nat → Bool} : ∀ (n : Nat), sb p n < 2 ^ n
  | 0 => by simp [sb]
  | n + 1 => by have := sb_lt (p := p) n; rw [sb, Nat.pow_succ]; split <;> omega
theorem sb_bit {p : Nat → Bool} : ∀ (n k : Nat), (sb p n).testBit k = (decide (k < n) && p k)
  | 0, k => by simp [sb]
  | n + 1, k => by
    rw [sb]
    have h1 := sb_lt (p := p) n
    by_cases hp : p n = true
    · rw [if_pos hp, Nat.add_comm]
      by_cases hk : k < n
      · rw [Nat.testBit_two_pow_add_gt hk, sb_bit n k]
        simp [hk, show k < n + 1 by omega]
      · by_cases hk2 : k = n
        · subst hk2
          rw [Nat.testBit_two_pow_add_eq, Nat.testBit_lt_two_pow h1]
          simp [hp]
        · rw [Nat.testBit_lt_two_pow (Nat.lt_of_lt_of_le (show 2 ^ n + sb p n < 2 ^ (n + 1) by rw [Nat.pow_succ]; omega) (Nat.pow_le_pow_right (by omega) (show n + 1 ≤ k by omega)))]
          simp [show ¬ k < n + 1 by omega]
    · rw [if_neg hp, Nat.add_zero, sb_bit n k]
      by_cases hk : k = n
      · subst hk; simp at hp; simp [hp]
      · have : (k < n) ↔ (k < n + 1) := by omega
        simp [this]
theorem lg_b (b : Bool) : (decide (b = true)) = b := by cases b <;> rfl
theorem oI_n1 {o : Option Nat} (h : ∀ k, o = some k → k < 2 ^ 31) : oI o = -1 ↔ o = none := by
  cases o with
  | none => simp [oI]
  | some k =>
    simp only [oI, reduceCtorEq, iff_false]
    intro e
    have h1 := h k rfl
    have h2 := congrArg Int32.toInt e
    rw [nI_toInt h1] at h2
    have h3 : (-1 : Int32).toInt = -1 := by decide
    omega
theorem nI_m1 {n : Nat} (h : n < 2 ^ 31) : ¬ nI n = -1 := fun e => by
  have h2 := congrArg Int32.toInt e
  rw [nI_toInt h] at h2
  have h3 : (-1 : Int32).toInt = -1 := by decide
  omega
theorem nI_m2 {n : Nat} (h : n < 2 ^ 31) : ¬ nI n = -2 := fun e => by
  have h2 := congrArg Int32.toInt e
  rw [nI_toInt h] at h2
  have h3 : (-2 : Int32).toInt = -2 := by decide
  omega
