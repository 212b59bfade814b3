/-! counted bits of a long -/
def pck (b : Nat → Nat) : Nat → Nat
  | 0 => 0
  | n + 1 => pck b n + b n * 256 ^ n
theorem pck_lt {b : Nat → Nat} (h : ∀ j, b j < 256) : ∀ n, pck b n < 256 ^ n
  | 0 => Nat.one_pos
  | n + 1 => by
    have h1 := pck_lt h n
    have h2 := h n
    rw [pck, Nat.pow_succ]
    have h3 : b n * 256 ^ n ≤ 255 * 256 ^ n := Nat.mul_le_mul_right _ (by omega)
    omega
theorem pck_congr {a b : Nat → Nat} : ∀ {n : Nat}, (∀ j, j < n → a j = b j) → pck a n = pck b n
  | 0, _ => rfl
  | n + 1, h => by rw [pck, pck, pck_congr (fun j hj => h j (by omega)), h n (by omega)]
theorem pck_bit {b : Nat → Nat} (h : ∀ j, b j < 256) : ∀ (n i : Nat), (pck b n).testBit i = (decide (i < 8 * n) && (b (i / 8)).testBit (i % 8))
  | 0, i => by simp [pck]
  | n + 1, i => by
    have hl := pck_lt h n
    have e256 : (256 : Nat) ^ n = 2 ^ (8 * n) := by rw [show (256 : Nat) = 2 ^ 8 from rfl, ← Nat.pow_mul]
    rw [pck, Nat.add_comm, Nat.mul_comm, e256, Nat.testBit_two_pow_mul_add _ (by rw [← e256]; exact hl)]
    by_cases q : i < 8 * n
    · rw [if_pos q, pck_bit h n i, decide_eq_true q, decide_eq_true (show i < 8 * (n + 1) by omega)]
    · rw [if_neg q]
      by_cases q2 : i < 8 * (n + 1)
      · rw [decide_eq_true q2, Bool.true_and, show i / 8 = n by omega, show i - 8 * n = i % 8 by omega]
      · rw [decide_eq_false q2, Bool.false_and]
        exact Nat.testBit_lt_two_pow (Nat.lt_of_lt_of_le (h n) (Nat.pow_le_pow_right (n := 2) (i := 8) (by decide) (by omega)))
theorem pck_and {a : Nat → Nat} {m : Nat} (ha : ∀ j, a j < 256) (hm : m < 256) : pck a 8 &&& pck (fun _ => m) 8 = pck (fun j => a j &&& m) 8 := by
  refine Nat.eq_of_testBit_eq (fun i => ?_)
  rw [Nat.testBit_and, pck_bit ha, pck_bit (fun _ => hm), pck_bit (fun j => Nat.lt_of_le_of_lt Nat.and_le_left (ha j)), Nat.testBit_and]
  cases decide (i < 8 * 8) <;> simp
theorem pck_sha {a : Nat → Nat} {m k : Nat} (ha : ∀ j, a j < 256) (hm : m < 256) (hk : k < 8) (hz : ∀ i, i < 8 → 8 ≤ i + k → m.testBit i = false) : (pck a 8 >>> k) &&& pck (fun _ => m) 8 = pck (fun j => (a j >>> k) &&& m) 8 := by
  refine Nat.eq_of_testBit_eq (fun i => ?_)
  rw [Nat.testBit_and, Nat.testBit_shiftRight, pck_bit ha, pck_bit (fun _ => hm), pck_bit (fun j => Nat.lt_of_le_of_lt Nat.and_le_right hm), Nat.testBit_and, Nat.testBit_shiftRight]
  by_cases q : i % 8 + k < 8
  · rw [show (k + i) / 8 = i / 8 by omega, show (k + i) % 8 = k + i % 8 by omega]
    by_cases q2 : i < 8 * 8
    · rw [decide_eq_true q2, decide_eq_true (show k + i < 8 * 8 by omega)]; simp
    · rw [decide_eq_false q2]; simp
  · rw [hz (i % 8) (by omega) (by omega)]; simp
theorem pck_add {a b : Nat → Nat} : ∀ n, pck a n + pck b n = pck (fun j => a j + b j) n
  | 0 => rfl
  | n + 1 => by
    have := pck_add (a := a) (b := b) n
    rw [pck, pck, pck, ← this, Nat.add_mul]; omega
theorem pck_sub {a b : Nat → Nat} (h : ∀ j, b j ≤ a j) (n : Nat) : pck a n - pck b n = pck (fun j => a j - b j) n := by
  have e := pck_add (a := fun j => a j - b j) (b := b) n
  have e2 : pck (fun j => a j - b j + b j) n = pck a n := pck_congr (fun j _ => by have := h j; omega)
  rw [e2] at e
  omega
theorem pck_sh8 {a : Nat → Nat} (ha : ∀ j, a j < 256) (hz : ∀ j, 8 ≤ j → a j = 0) (k : Nat) : pck a 8 >>> (8 * k) = pck (fun j => a (j + k)) 8 := by
  refine Nat.eq_of_testBit_eq (fun i => ?_)
  rw [Nat.testBit_shiftRight, pck_bit ha, pck_bit (fun j => ha (j + k)), show (8 * k + i) / 8 = i / 8 + k by omega, show (8 * k + i) % 8 = i % 8 by omega]
  by_cases q : i < 8 * 8
  · by_cases q2 : 8 * k + i < 8 * 8
    · rw [decide_eq_true q, decide_eq_true q2]
    · rw [decide_eq_false q2, hz (i / 8 + k) (by omega)]; simp
  · rw [decide_eq_false q, decide_eq_false (show ¬ 8 * k + i < 8 * 8 by omega)]
theorem pck_sh4 {a : Nat → Nat} (ha : ∀ j, a j < 256) (hz : ∀ j, 8 ≤ j → a j = 0) : pck a 8 >>> 4 = pck (fun j => a j / 16 + (a (j + 1) % 16) * 16) 8 := by
  have hb : ∀ j, a j / 16 + (a (j + 1) % 16) * 16 < 256 := fun j => by have := ha j; omega
  refine Nat.eq_of_testBit_eq (fun i => ?_)
  rw [Nat.testBit_shiftRight, pck_bit ha, pck_bit hb]
  have key : ∀ x y : Nat, x < 256 → y < 256 → ∀ i, i < 8 → (x / 16 + (y % 16) * 16).testBit i = if i < 4 then x.testBit (4 + i) else y.testBit (i - 4) := by
    intro x y hx hy i hi
    rw [Nat.add_comm, Nat.mul_comm, show (16 : Nat) = 2 ^ 4 from rfl, Nat.testBit_two_pow_mul_add _ (by omega)]
    by_cases q : i < 4
    · rw [if_pos q, if_pos q, Nat.testBit_div_two_pow, Nat.add_comm]
    · rw [if_neg q, if_neg q, Nat.testBit_mod_two_pow, decide_eq_true (by omega), Bool.true_and]
  by_cases q : i < 8 * 8
  · rw [decide_eq_true q, Bool.true_and, key _ _ (ha _) (ha _) _ (by omega)]
    by_cases q4 : i % 8 < 4
    · rw [if_pos q4, decide_eq_true (show 4 + i < 8 * 8 by omega), Bool.true_and, show (4 + i) / 8 = i / 8 by omega, show (4 + i) % 8 = 4 + i % 8 by omega]
    · rw [if_neg q4, show (4 + i) / 8 = i / 8 + 1 by omega, show (4 + i) % 8 = i % 8 - 4 by omega]
      by_cases q2 : 4 + i < 8 * 8
      · rw [decide_eq_true q2, Bool.true_and]
      · rw [decide_eq_false q2, hz (i / 8 + 1) (by omega)]; simp
  · rw [decide_eq_false q, decide_eq_false (show ¬ 4 + i < 8 * 8 by omega), Bool.false_and, Bool.false_and]
theorem pck_mod {u : Nat → Nat} : ∀ {n : Nat}, pck u (n + 1) % 256 = u 0 % 256
  | 0 => by simp [pck]
  | n + 1 => by
    have ih := pck_mod (u := u) (n := n)
    rw [pck, Nat.pow_succ, ← Nat.mul_assoc, Nat.add_mul_mod_self_right]
    exact ih
/-- one byte's steps -/
def g1 (a : Nat) : Nat := a - ((a >>> 1) &&& 85)
def g2 (a : Nat) : Nat := (a &&& 51) + ((a >>> 2) &&& 51)
theorem g_all : ∀ a, a < 256 → g1 a < 256 ∧ ((a >>> 1) &&& 85) ≤ a ∧ g2 (g1 a) % 16 ≤ 4 ∧ g2 (g1 a) / 16 ≤ 4 ∧ g2 (g1 a) % 16 + g2 (g1 a) / 16 = cn (fun i => a.testBit i) 8 := by decide +kernel
theorem and15 : ∀ x, x < 256 → x &&& 15 = x % 16 := by decide +kernel
/-- the whole count, on numbers -/
def nbc (S : Nat) : Nat :=
  let a := S - ((S >>> 1) &&& pck (fun _ => 85) 8)
  let b := (a &&& pck (fun _ => 51) 8) + ((a >>> 2) &&& pck (fun _ => 51) 8)
  let c := (b + (b >>> 4)) &&& pck (fun _ => 15) 8
  let d := c + (c >>> 8)
  let e := d + (d >>> 16)
  e + (e >>> 32)
theorem nbc_cv {a : Nat → Nat} (ha : ∀ j, a j < 256) (hz : ∀ j, 6 ≤ j → a j = 0) : nbc (pck a 8) % 256 = cn (fun i => (a 0).testBit i) 8 + cn (fun i => (a 1).testBit i) 8 + cn (fun i => (a 2).testBit i) 8 + cn (fun i => (a 3).testBit i) 8 + cn (fun i => (a 4).testBit i) 8 + cn (fun i => (a 5).testBit i) 8 := by
  have s1 : pck a 8 - ((pck a 8 >>> 1) &&& pck (fun _ => 85) 8) = pck (fun j => g1 (a j)) 8 := by
    rw [pck_sha ha (by decide) (by decide) (by decide), pck_sub (fun j => (g_all _ (ha j)).2.1)]; rfl
  have h1 : ∀ j, g1 (a j) < 256 := fun j => (g_all _ (ha j)).1
  have s2 : (pck (fun j => g1 (a j)) 8 &&& pck (fun _ => 51) 8) + ((pck (fun j => g1 (a j)) 8 >>> 2) &&& pck (fun _ => 51) 8) = pck (fun j => g2 (g1 (a j))) 8 := by
    rw [pck_and h1 (by decide), pck_sha h1 (by decide) (by decide) (by decide), pck_add]; rfl
  have h2 : ∀ j, g2 (g1 (a j)) < 256 := fun j => by have := g_all _ (ha j); omega
  have z2 : ∀ j, 8 ≤ j → g2 (g1 (a j)) = 0 := fun j hj => by rw [hz j (by omega)]; rfl
  have s3 : (pck (fun j => g2 (g1 (a j))) 8 + (pck (fun j => g2 (g1 (a j))) 8 >>> 4)) &&& pck (fun _ => 15) 8 = pck (fun j => cn (fun i => (a j).testBit i) 8) 8 := by
    have hb : ∀ j, g2 (g1 (a j)) + (g2 (g1 (a j)) / 16 + (g2 (g1 (a (j + 1))) % 16) * 16) < 256 := fun j => by have := g_all _ (ha j); have := g_all _ (ha (j + 1)); omega
    rw [pck_sh4 h2 z2, pck_add, pck_and hb (by decide)]
    refine pck_congr (fun j _ => ?_)
    rw [and15 _ (hb j)]
    have := g_all _ (ha j)
    omega
  have hc : ∀ j, cn (fun i => (a j).testBit i) 8 ≤ 8 := fun j => cn_le 8
  have zc : ∀ j, 6 ≤ j → cn (fun i => (a j).testBit i) 8 = 0 := fun j hj => by rw [hz j hj]; decide
  have s4 := pck_sh8 (a := fun j => cn (fun i => (a j).testBit i) 8) (fun j => by have := hc j; omega) (fun j hj => zc j (by omega)) 1
  have s5 := pck_sh8 (a := fun j => cn (fun i => (a j).testBit i) 8 + cn (fun i => (a (j + 1)).testBit i) 8) (fun j => by have := hc j; have := hc (j + 1); omega) (fun j hj => by rw [zc j (by omega), zc (j + 1) (by omega)]) 2
  have s6 := pck_sh8 (a := fun j => cn (fun i => (a j).testBit i) 8 + cn (fun i => (a (j + 1)).testBit i) 8 + (cn (fun i => (a (j + 2)).testBit i) 8 + cn (fun i => (a (j + 2 + 1)).testBit i) 8)) (fun j => by have := hc j; have := hc (j + 1); have := hc (j + 2); have := hc (j + 2 + 1); omega) (fun j hj => by rw [zc j (by omega), zc (j + 1) (by omega), zc (j + 2) (by omega), zc (j + 2 + 1) (by omega)]) 4
  have e : nbc (pck a 8) = pck (fun j => cn (fun i => (a j).testBit i) 8 + cn (fun i => (a (j + 1)).testBit i) 8 + (cn (fun i => (a (j + 2)).testBit i) 8 + cn (fun i => (a (j + 2 + 1)).testBit i) 8) + (cn (fun i => (a (j + 4)).testBit i) 8 + cn (fun i => (a (j + 4 + 1)).testBit i) 8 + (cn (fun i => (a (j + 4 + 2)).testBit i) 8 + cn (fun i => (a (j + 4 + 2 + 1)).testBit i) 8))) 8 := by
    unfold nbc
    simp only
    rw [s1, s2, s3, show (8 : Nat) = 8 * 1 from rfl, s4, pck_add, show (16 : Nat) = 8 * 2 from rfl, s5, pck_add, show (32 : Nat) = 8 * 4 from rfl, s6, pck_add]
  rw [e]
  have c0 := hc 0
  have c1 := hc 1
  have c2 := hc 2
  have c3 := hc 3
  have c4 := hc 4
  have c5 := hc 5
  rw [pck_mod]
  show (cn (fun i => (a 0).testBit i) 8 + cn (fun i => (a 1).testBit i) 8 + (cn (fun i => (a 2).testBit i) 8 + cn (fun i => (a 3).testBit i) 8) + (cn (fun i => (a 4).testBit i) 8 + cn (fun i => (a 5).testBit i) 8 + (cn (fun i => (a 6).testBit i) 8 + cn (fun i => (a 7).testBit i) 8))) % 256 = _
  rw [zc 6 (by omega), zc 7 (by omega)]
  omega
/-! longs that are numbers -/
def L6 (n : Nat) : Int64 := Int64.ofNat n
theorem L6_shr (n : Nat) (hn : n < 2 ^ 64) : ((L6 n).toUInt64 >>> ((nI 1).toInt64.toUInt64 &&& Int64.toUInt64 63)).toInt64 = L6 (n >>> 1) ∧ ((L6 n).toUInt64 >>> ((nI 2).toInt64.toUInt64 &&& Int64.toUInt64 63)).toInt64 = L6 (n >>> 2) ∧ ((L6 n).toUInt64 >>> ((nI 4).toInt64.toUInt64 &&& Int64.toUInt64 63)).toInt64 = L6 (n >>> 4) ∧ ((L6 n).toUInt64 >>> ((nI 8).toInt64.toUInt64 &&& Int64.toUInt64 63)).toInt64 = L6 (n >>> 8) ∧ ((L6 n).toUInt64 >>> ((nI 16).toInt64.toUInt64 &&& Int64.toUInt64 63)).toInt64 = L6 (n >>> 16) ∧ ((L6 n).toUInt64 >>> ((nI 32).toInt64.toUInt64 &&& Int64.toUInt64 63)).toInt64 = L6 (n >>> 32) := by
  have key : ∀ k : Nat, BitVec.ofNat 64 n >>> k = BitVec.ofNat 64 (n >>> k) := fun k => by
    apply BitVec.eq_of_toNat_eq
    rw [BitVec.toNat_ushiftRight, BitVec.toNat_ofNat, BitVec.toNat_ofNat, Nat.mod_eq_of_lt hn, Nat.mod_eq_of_lt (Nat.lt_of_le_of_lt (Nat.shiftRight_le n k) hn)]
  refine ⟨?_, ?_, ?_, ?_, ?_, ?_⟩ <;> rw [← Int64.toBitVec_inj]
  · exact key 1
  · exact key 2
  · exact key 4
  · exact key 8
  · exact key 16
  · exact key 32
theorem L6_and {a b : Nat} (ha : a < 2 ^ 64) (hb : b < 2 ^ 64) : L6 a &&& L6 b = L6 (a &&& b) := by
  rw [← Int64.toBitVec_inj]
  show BitVec.ofNat 64 a &&& BitVec.ofNat 64 b = BitVec.ofNat 64 (a &&& b)
  apply BitVec.eq_of_toNat_eq
  rw [BitVec.toNat_and, BitVec.toNat_ofNat, BitVec.toNat_ofNat, BitVec.toNat_ofNat, Nat.mod_eq_of_lt ha, Nat.mod_eq_of_lt hb, Nat.mod_eq_of_lt (Nat.lt_of_le_of_lt Nat.and_le_left ha)]
theorem L6_or {a b : Nat} (ha : a < 2 ^ 64) (hb : b < 2 ^ 64) : L6 a ||| L6 b = L6 (a ||| b) := by
  rw [← Int64.toBitVec_inj]
  show BitVec.ofNat 64 a ||| BitVec.ofNat 64 b = BitVec.ofNat 64 (a ||| b)
  apply BitVec.eq_of_toNat_eq
  rw [BitVec.toNat_or, BitVec.toNat_ofNat, BitVec.toNat_ofNat, BitVec.toNat_ofNat, Nat.mod_eq_of_lt ha, Nat.mod_eq_of_lt hb, Nat.mod_eq_of_lt (Nat.or_lt_two_pow ha hb)]
theorem L6_add (a b : Nat) : L6 a + L6 b = L6 (a + b) := (Int64.ofNat_add a b).symm
theorem L6_sub {a b : Nat} (h : b ≤ a) : L6 a - L6 b = L6 (a - b) := by
  have e : L6 (a - b) + L6 b = L6 a := by rw [L6_add]; congr 1; omega
  rw [← e]; exact Int64.add_sub_cancel _ _
theorem L6_127 {n : Nat} (h : n % 256 ≤ 64) : (L6 n).toInt32 &&& nI 127 = nI (n % 256) := by
  have e : (L6 n).toInt32 &&& nI 127 = nI (n % 128) := by
    rw [← Int32.toBitVec_inj]
    show (BitVec.ofNat 64 n).signExtend 32 &&& 127#32 = BitVec.ofNat 32 (n % 128)
    refine BitVec.eq_of_getLsbD_eq (fun i hi => ?_)
    have hb : ∀ i, i < 32 → (127#32).getLsbD i = decide (i < 7) := by decide +kernel
    rw [BitVec.getLsbD_and, hb i hi, BitVec.getLsbD_signExtend, BitVec.getLsbD_ofNat, BitVec.getLsbD_ofNat, show (128 : Nat) = 2 ^ 7 from rfl, Nat.testBit_mod_two_pow, if_pos (by omega), decide_eq_true hi, decide_eq_true (show i < 64 by omega)]
    cases decide (i < 7) <;> cases n.testBit i <;> rfl
  rw [e]
  congr 1
  omega
theorem m64 : L6 (pck (fun _ => 85) 8) = (6148914691236517205 : Int64) ∧ L6 (pck (fun _ => 51) 8) = (3689348814741910323 : Int64) ∧ L6 (pck (fun _ => 15) 8) = (1085102592571150095 : Int64) := by decide +kernel
theorem pck64 {b : Nat → Nat} (h : ∀ j, b j < 256) : pck b 8 < 2 ^ 64 := pck_lt h 8
theorem byte_of {S : Nat} (h : S < 2 ^ 48) : pck (fun j => S / 256 ^ j % 256) 8 = S := by
  refine Nat.eq_of_testBit_eq (fun i => ?_)
  rw [pck_bit (fun j => Nat.mod_lt _ (by decide))]
  have e : S / 256 ^ (i / 8) % 256 = S / 2 ^ (8 * (i / 8)) % 2 ^ 8 := by rw [show (256 : Nat) = 2 ^ 8 from rfl, ← Nat.pow_mul]
  rw [e, Nat.testBit_mod_two_pow, Nat.testBit_div_two_pow, decide_eq_true (show i % 8 < 8 by omega), Bool.true_and, show i % 8 + 8 * (i / 8) = i by omega]
  by_cases q : i < 8 * 8
  · rw [decide_eq_true q, Bool.true_and]
  · rw [decide_eq_false q, Bool.false_and]
    exact (Nat.testBit_lt_two_pow (Nat.lt_of_lt_of_le h (Nat.pow_le_pow_right (by decide) (by omega)))).symm
theorem cn_bytes {S : Nat} : cn (fun i => (S / 256 ^ 0 % 256).testBit i) 8 + cn (fun i => (S / 256 ^ 1 % 256).testBit i) 8 + cn (fun i => (S / 256 ^ 2 % 256).testBit i) 8 + cn (fun i => (S / 256 ^ 3 % 256).testBit i) 8 + cn (fun i => (S / 256 ^ 4 % 256).testBit i) 8 + cn (fun i => (S / 256 ^ 5 % 256).testBit i) 8 = cn (fun i => S.testBit i) 48 := by
  have e : ∀ j, cn (fun i => (S / 256 ^ j % 256).testBit i) 8 = cn (fun i => S.testBit (8 * j + i)) 8 := fun j => cn_congr (fun i hi => by
    show (S / 256 ^ j % 256).testBit i = S.testBit (8 * j + i)
    rw [show (256 : Nat) = 2 ^ 8 from rfl, ← Nat.pow_mul, Nat.testBit_mod_two_pow, Nat.testBit_div_two_pow, decide_eq_true hi, Bool.true_and, Nat.add_comm])
  rw [e, e, e, e, e, e]
  have s := fun a => cn_split (p := fun i => S.testBit i) (a := a) 8
  have s0 := s 0
  have s1 := s 8
  have s2 := s 16
  have s3 := s 24
  have s4 := s 32
  have s5 := s 40
  simp only [Nat.zero_add, Nat.reduceAdd] at s0 s1 s2 s3 s4 s5
  rw [s5, s4, s3, s2, s1, show cn (fun i => S.testBit i) 8 = cn (fun i => S.testBit (8 * 0 + i)) 8 from cn_congr (fun i _ => by simp)]
theorem c_bitCountL {K : Int32 → ab_F → ab_F → Prop} {I A : ab_F} {S : Nat} (hS : S < 2 ^ 48) (h : K (nI (cn (fun i => S.testBit i) 48)) I A) : wJ13_bitCount_95d88 K I A (L6 S) := by
  have ha : ∀ j, S / 256 ^ j % 256 < 256 := fun j => Nat.mod_lt _ (by decide)
  have hz : ∀ j, 6 ≤ j → S / 256 ^ j % 256 = 0 := fun j hj => by
    have : (256 : Nat) ^ 6 ≤ 256 ^ j := Nat.pow_le_pow_right (by decide) hj
    rw [Nat.div_eq_of_lt (by omega)]
  have nb := nbc_cv ha hz
  rw [byte_of hS, cn_bytes] at nb
  have hle : cn (fun i => S.testBit i) 48 ≤ 48 := cn_le 48
  intro y1 e1 y2 e2 y3 e3 y4 e4 y5 e5 y6 e6
  have b1 : pck (fun _ => 85) 8 < 2 ^ 64 := by decide
  have b2 : pck (fun _ => 51) 8 < 2 ^ 64 := by decide
  have b3 : pck (fun _ => 15) 8 < 2 ^ 64 := by decide
  have hs64 : S < 2 ^ 64 := by omega
  have le1 : (S >>> 1) &&& pck (fun _ => 85) 8 ≤ S := Nat.le_trans Nat.and_le_left (Nat.shiftRight_le S 1)
  rw [← m64.1, (L6_shr S hs64).1, L6_and (Nat.lt_of_le_of_lt (Nat.shiftRight_le S 1) hs64) b1, L6_sub le1] at e1
  generalize hA : S - ((S >>> 1) &&& pck (fun _ => 85) 8) = a at e1
  have ha1 : a < 2 ^ 48 := by omega
  subst e1
  rw [← m64.2.1, (L6_shr a (by omega)).2.1, L6_and (by omega) b2, L6_and (Nat.lt_of_le_of_lt (Nat.shiftRight_le a 2) (by omega)) b2, L6_add] at e2
  generalize hBb : (a &&& pck (fun _ => 51) 8) + ((a >>> 2) &&& pck (fun _ => 51) 8) = b at e2
  have hb1 : b < 2 ^ 49 := by
    have := Nat.and_le_left (n := a) (m := pck (fun _ => 51) 8)
    have := Nat.and_le_left (n := a >>> 2) (m := pck (fun _ => 51) 8)
    have := Nat.shiftRight_le a 2
    omega
  subst e2
  have hb4 := Nat.shiftRight_le b 4
  rw [← m64.2.2, (L6_shr b (by omega)).2.2.1, L6_add, L6_and (by omega) b3] at e3
  generalize hC : (b + (b >>> 4)) &&& pck (fun _ => 15) 8 = c at e3
  have hc1 : c < 2 ^ 50 := by
    have := Nat.and_le_left (n := b + (b >>> 4)) (m := pck (fun _ => 15) 8)
    omega
  subst e3
  have hc8 := Nat.shiftRight_le c 8
  rw [(L6_shr c (by omega)).2.2.2.1, L6_add] at e4
  generalize hD : c + (c >>> 8) = d at e4
  subst e4
  have hd16 := Nat.shiftRight_le d 16
  rw [(L6_shr d (by omega)).2.2.2.2.1, L6_add] at e5
  generalize hE : d + (d >>> 16) = e at e5
  subst e5
  have he32 := Nat.shiftRight_le e 32
  rw [(L6_shr e (by omega)).2.2.2.2.2, L6_add] at e6
  subst e6
  have en : e + (e >>> 32) = nbc S := by
    unfold nbc
    simp only
    rw [hA, hBb, hC, hD, hE]
  rw [en, L6_127 (by omega), nb]
  exact h
/-! the working set -/
def m_ws (w : Nat → Int32) (n : Nat) : Nat := cn (fun k => decide (0 < m_am w n k)) 48
def s_ws (s : st_S) (x : Int32) : st_O := if m_1n x 64 = false then (1, 0, s) else (0, nI (m_ws s.1 (nn x)), s)
theorem L6_bit : ∀ k, k < 48 → (1 : Int64) <<< ((nI k).toInt64 &&& 63) = L6 (2 ^ k) := by decide +kernel
theorem sb_or {p q : Nat → Bool} {r : Nat} (hr : r < 48) (hq : ∀ k, k < 48 → q k = (p k || decide (k = r))) : sb p 48 ||| 2 ^ r = sb q 48 := by
  refine Nat.eq_of_testBit_eq (fun i => ?_)
  rw [Nat.testBit_or, sb_bit, sb_bit, Nat.testBit_two_pow]
  by_cases h : i < 48
  · rw [hq i h, decide_eq_true h, Bool.true_and, Bool.true_and]
    congr 1
    congr 1
    exact propext ⟨fun z => z.symm, fun z => z.symm⟩
  · rw [decide_eq_false h, Bool.false_and, Bool.false_and, Bool.false_or]
    exact decide_eq_false (by omega)
theorem cn_ex {p : Nat → Bool} : ∀ n, decide (0 < cn p n) = ex p n
  | 0 => rfl
  | n + 1 => by
    rw [ex, ← cn_ex n, cn]
    cases p n with
    | true => simp
    | false => simp
theorem c_ws {K : Int32 → ab_F → ab_F → Prop} {B n : Nat} {I A : ab_F} {w : Nat → Int32} (r : Rs 8 I A w) (iv : Iv B w) (hn : n < 2 ^ 31) (h : K (nI (m_ws w n)) I A) : wX0_countDifferent K I A (nI n) := by
  have hr := rn_of iv
  refine c_countRecent r iv (nm_r (mn_n (by omega) hn) ?_)
  have g : ∃ nf, wlX0_countDifferent_14 K nf (nI (min (m_rn w) n)) (L6 (sb (fun k => ex (fun i => decide (w (512 + i) = nI k)) 0) 48)) (nI 0) I A := by
    refine lp (W := fun m i => wlX0_countDifferent_14 K m (nI (min (m_rn w) n)) (L6 (sb (fun k => ex (fun i => decide (w (512 + i) = nI k)) i) 48)) (nI i) I A) (e := min (m_rn w) n) (fun m => ?_) (fun m i hi hw => ?_)
    · refine br_t (nI_le (Nat.le_refl _) (by omega)) (c_bitCountL (sb_lt 48) ?_)
      have e : cn (fun i => (sb (fun k => ex (fun i => decide (w (512 + i) = nI k)) (min (m_rn w) n)) 48).testBit i) 48 = m_ws w n := by
        unfold m_ws
        refine cn_congr (fun k hk => ?_)
        show (sb _ 48).testBit k = decide (0 < m_am w n k)
        rw [sb_bit, decide_eq_true hk, Bool.true_and]
        unfold m_am
        rw [cn_ex, Nat.min_comm]
      rw [e]; exact h
    · obtain ⟨k, hk, -, ek⟩ := hr.2.2 i (by omega)
      refine br_f (nI_ge hi (by omega)) (c_recentAt r iv (by omega) ?_)
      rw [ek]
      refine nm_r (e' := L6 (sb (fun k => ex (fun i => decide (w (512 + i) = nI k)) (i + 1)) 48)) ?_ ?_
      · rw [L6_bit k hk, L6_or (Nat.lt_of_lt_of_le (sb_lt 48) (by decide)) (Nat.lt_of_lt_of_le (Nat.pow_lt_pow_right (by decide) hk) (by decide)), sb_or hk (fun j hj => ?_)]
        show ex _ (i + 1) = (ex _ i || decide (j = k))
        rw [ex, ek]
        congr 1
        congr 1
        exact propext ⟨fun z => ((nI_eq (by omega) (by omega)).mp z).symm, fun z => by rw [z]⟩
      · rw [nI_add i 1]; exact hw
  have e0 : L6 (sb (fun k => ex (fun i => decide (w (512 + i) = nI k)) 0) 48) = (0 : Int64) := by
    have : sb (fun k => ex (fun i => decide (w (512 + i) = nI k)) 0) 48 = 0 := by
      refine Nat.eq_of_testBit_eq (fun i => ?_)
      rw [sb_bit]
      simp [ex]
    rw [this]; rfl
  rw [e0] at g
  exact g
theorem f_ws {B : Nat} {s : st_S} {x : Int32} {K : Int32 → ab_Z → ab_F → ab_F → Prop} {KX : String → ab_Z → ab_F → ab_F → Prop} {Z : ab_Z} {I A : ab_F} (r : RCs B s Z I A) (o : oC [xAr] B (s_ws s x) K KX) : wX11_workingSet (fun v I A => K v Z I A) (fun E I A => KX E Z I A) I A x := by
  refine lt2 (n := 64) (by omega) rfl (fun e => ?_) (fun e => ?_)
  · exact dmA (b := false) (fun _ => o.x (c := 0) (by unfold s_ws; rw [if_pos e]) rfl (Nat.le_refl _) r) (fun q => nomatch q)
  · refine dmA (b := true) (fun q => nomatch q) (fun _ => ?_)
    obtain ⟨f, f1, f2, ef, en⟩ := m_1n_of e
    rw [ef]
    exact c_ws r.1.1 r.1.2 (by omega) (o.k (by unfold s_ws; rw [if_neg (by rw [e]; decide), en]) (Nat.le_refl _) r)
theorem r_ws {B : Nat} {s : st_S} {x : Int32} {K : Int32 → ab_F → ab_F → Prop} {I A : ab_F} (r : RMs B s I A) (o : oM B (s_ws s x) K) : wX12_workingSet K I A x := by
  have e1 : A 1 = s.1 := r.1.1
  have iv : Iv B s.1 := r.1.2
  refine q_in ?_
  rw [Int32.toInt_toInt64, show (1 : Int64).toInt = 1 from rfl, show (64 : Int64).toInt = 64 from rfl]
  show (_ ∧ _)
  have e : decide (1 ≤ x.toInt ∧ x.toInt ≤ 64) = m_1n x 64 := rfl
  rw [e]
  refine bb' (fun q => ?_) (fun q => ?_)
  · refine q_fails (b := true) (bb (fun q2 => nomatch q2) (fun _ => ?_))
    exact o.x (c := 0) (by unfold s_ws; rw [if_pos q]) (Nat.le_refl _) (RM_5 r) w5
  · refine q_fails (b := false) (bb (fun _ => ?_) (fun q2 => nomatch q2))
    obtain ⟨f, f1, f2, ef, en⟩ := m_1n_of q
    have g : K (nI (m_ws s.1 f)) (wr I 0 5 (if false = true then nI 1 else nI 0)) A := o.k (by unfold s_ws; rw [if_neg (by rw [q]; decide), en]) (Nat.le_refl _) (RM_5 r) w5 rfl
    generalize wr I 0 5 (if false = true then nI 1 else nI 0) = J at g ⊢
    rw [ef]
    refine lp (W := fun n i => wlX12_workingSet_31 K n (nI f) (nI (cn (fun k => decide (0 < m_am s.1 f k)) i)) (nI i) J A) (e := 48) (fun n => ?_) (fun n i hi hw => ?_)
    · exact br_t (nI_le (Nat.le_refl _) (by omega)) g
    · refine br_f (nI_ge hi (by omega)) (q_among (B := B) (by rw [e1]; exact iv) (by omega) ?_)
      have al := am_le s.1 f i
      rw [e1, Int32.le_iff_toInt_le, nI_toInt (by omega), show (0 : Int32).toInt = 0 from rfl, nI_add i 1]
      rw [cn] at hw
      by_cases z : m_am s.1 f i = 0
      · refine br_t (by omega) (nm_r (nI_add _ 0) ?_)
        rw [decide_eq_false (by omega)] at hw; exact hw
      · refine br_f (by omega) (nm_r (nI_add _ 1) ?_)
        rw [decide_eq_true (by omega)] at hw; exact hw
