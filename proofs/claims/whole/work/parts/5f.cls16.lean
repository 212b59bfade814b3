/-! what speaks against a change, in the class -/
theorem pg_k {w : Nat → Int32} {x y : Int32} (z : Sz w) (h : m_pg w x y = true) : ∃ k, k < 48 ∧ m_th w k = true ∧ nI 8 * x + y = nI k ∧ x = nI (k / 8) := by
  obtain ⟨p, i, hp, hi, e1, e2, hp6, hi8⟩ := m_pg_of z h
  refine ⟨8 * p + i, by omega, ?_, ?_, ?_⟩
  · unfold m_th
    rw [show (8 * p + i) % 8 = i by omega, show (8 * p + i) / 8 = p by omega]
    exact decide_eq_true hi
  · rw [e1, e2, nI_mul8, nI_add]
  · rw [e1, show (8 * p + i) / 8 = p by omega]
theorem dm0 {K : ab_F → ab_F → Prop} {KX : String → ab_F → ab_F → Prop} {I A : ab_F} (h : K I A) : wX11_demand K KX I A (nI 0) :=
  ⟨fun e => absurd e (by decide), fun e => absurd e (by decide), fun e => absurd e (by decide), fun e => absurd e (by decide), fun e => absurd e (by decide), fun _ => h⟩
theorem dm1 {K : ab_F → ab_F → Prop} {KX : String → ab_F → ab_F → Prop} {I A : ab_F} (h : KX "java/lang/IndexOutOfBoundsException" I A) : wX11_demand K KX I A (nI 1) :=
  ⟨fun _ => h, fun e => absurd e (by decide), fun e => absurd e (by decide), fun e => absurd e (by decide), fun e => absurd e (by decide), fun e => absurd e (by decide)⟩
theorem dm2 {K : ab_F → ab_F → Prop} {KX : String → ab_F → ab_F → Prop} {I A : ab_F} (h : KX "java/lang/IllegalArgumentException" I A) : wX11_demand K KX I A (nI 2) :=
  ⟨fun e => absurd e (by decide), fun _ => h, fun e => absurd e (by decide), fun e => absurd e (by decide), fun e => absurd e (by decide), fun e => absurd e (by decide)⟩
theorem dm3 {K : ab_F → ab_F → Prop} {KX : String → ab_F → ab_F → Prop} {I A : ab_F} (h : KX "java/lang/IllegalStateException" I A) : wX11_demand K KX I A (nI 3) :=
  ⟨fun e => absurd e (by decide), fun e => absurd e (by decide), fun _ => h, fun e => absurd e (by decide), fun e => absurd e (by decide), fun e => absurd e (by decide)⟩
theorem dm4 {K : ab_F → ab_F → Prop} {KX : String → ab_F → ab_F → Prop} {I A : ab_F} (h : KX "java/util/NoSuchElementException" I A) : wX11_demand K KX I A (nI 4) :=
  ⟨fun e => absurd e (by decide), fun e => absurd e (by decide), fun e => absurd e (by decide), fun _ => h, fun e => absurd e (by decide), fun e => absurd e (by decide)⟩
theorem dm5 {K : ab_F → ab_F → Prop} {KX : String → ab_F → ab_F → Prop} {I A : ab_F} (h : KX "java/lang/UnsupportedOperationException" I A) : wX11_demand K KX I A (nI 5) :=
  ⟨fun e => absurd e (by decide), fun e => absurd e (by decide), fun e => absurd e (by decide), fun e => absurd e (by decide), fun _ => h, fun e => absurd e (by decide)⟩
theorem dmI {K : ab_F → ab_F → Prop} {KX : String → ab_F → ab_F → Prop} {I A : ab_F} {b : Bool} (hf : b = false → KX "java/lang/IndexOutOfBoundsException" I A) (ht : b = true → K I A) : wX11_demandIndex K KX I A (bI b) :=
  bb (fun e => dm1 (hf e)) (fun e => dm0 (ht e))
theorem dmA {K : ab_F → ab_F → Prop} {KX : String → ab_F → ab_F → Prop} {I A : ab_F} {b : Bool} (hf : b = false → KX "java/lang/IllegalArgumentException" I A) (ht : b = true → K I A) : wX11_demandArgument K KX I A (bI b) :=
  bb (fun e => dm2 (hf e)) (fun e => dm0 (ht e))
theorem dmE {K : ab_F → ab_F → Prop} {KX : String → ab_F → ab_F → Prop} {I A : ab_F} {b : Bool} (hf : b = false → KX "java/util/NoSuchElementException" I A) (ht : b = true → K I A) : wX11_demandElement K KX I A (bI b) :=
  bb (fun e => dm4 (hf e)) (fun e => dm0 (ht e))
theorem c_refRead {K : Int32 → ab_F → ab_F → Prop} {I A : ab_F} {B : Nat} {w : Nat → Int32} {x y : Int32} (r : Rs 8 I A w) (xv : Iv B w) (h1 : m_pg w x y = false → K (nI 1) I A) (h2 : ∀ k, m_pg w x y = true → k < 48 → m_th w k = true → nI 8 * x + y = nI k → x = nI (k / 8) → ∀ u, K (if m_stk w k false = true then nI 3 else nI 0) I (wrow A 31 u)) : wX8_refusalToRead K I A x y := by
  refine c_hasPage r xv.1 (bb' (fun e => h1 e) (fun e => ?_))
  obtain ⟨k, hk, ht, ek, ex⟩ := pg_k xv.1 e
  unfold wX11_idOf
  rw [ek]
  refine c_lacksSlot r xv hk (fun u => ?_)
  have g := h2 k e hk ht ek ex u
  rw [lk_stk]
  refine bb (fun q => ?_) (fun q => ?_)
  · rw [q, if_neg (by decide)] at g; exact g
  · rw [q, if_pos rfl] at g; exact g
/-- a pending page lies in a frame -/
theorem pd_res {B : Nat} {w : Nat → Int32} {k : Nat} (x : Iv B w) (hk : k < 48) (hp : m_pd w k = true) : w (128 + k) ≠ -1 := by
  have hb : m_has (w 10) (k / 8) = true ∧ w (224 + k) = -2 := by
    unfold m_pd at hp
    have := Bool.and_eq_true_iff.mp hp
    exact ⟨this.1, of_decide_eq_true this.2⟩
  have hd : w (176 + k) = nI 1 := by
    rcases x.2.2.2.2.2.1 k hk hb.1 with a | ⟨a, b⟩ | ⟨s, a, b, c⟩
    · rw [hb.2] at a; exact absurd a (by decide)
    · exact b
    · rw [hb.2] at b; have := x.1.2.1.2; exact absurd b.symm (nI_m2 (by omega))
  rcases x.2.2.1 k hk with a | ⟨a, b, c⟩
  · rw [hd] at a; exact absurd a (by decide)
  · exact b
theorem c_refWrite {K : Int32 → ab_F → ab_F → Prop} {I A : ab_F} {B : Nat} {w : Nat → Int32} {x y : Int32} (r : Rs 8 I A w) (xv : Iv B w) (h1 : m_pg w x y = false → K (nI 1) I A) (h2 : ∀ k, m_pg w x y = true → k < 48 → m_th w k = true → nI 8 * x + y = nI k → x = nI (k / 8) → ∀ u, K (if m_stk w k true = true then nI 3 else nI 0) I (wrow A 31 u)) : wX8_refusalToWrite K I A x y := by
  refine c_hasPage r xv.1 (bb' (fun e => h1 e) (fun e => ?_))
  obtain ⟨k, hk, ht, ek, ex⟩ := pg_k xv.1 e
  have g := h2 k e hk ht ek ex
  unfold wX11_idOf
  rw [ek]
  refine ix0 hk ?_
  have e25 : A 25 k = m_rk w k := (r.2.1.2.2.1 k hk).1
  rw [e25]
  by_cases hp : m_pd w k = true
  · have hr := pd_res xv hk hp
    refine rb_t (rk_pd.mpr hp) (c_nextFree r xv ?_)
    have g2 := g (m_ur (A 31) w)
    unfold m_stk at g2
    rw [if_neg hr, hp] at g2
    refine nfb (fun s hs => by have := m_nf_lt xv.1 s hs; omega) (fun q => ?_) (fun q => ?_)
    · rw [q] at g2; exact g2
    · rw [q] at g2; exact g2
  · refine rb_f (fun q => hp (rk_pd.mp q)) (c_lacksSlot r xv hk (fun u => ?_))
    have hp2 : m_pd w k = false := by cases q : m_pd w k with
      | false => rfl
      | true => exact absurd q hp
    have e2 : m_lk w k = m_stk w k true := by
      rw [lk_stk]
      unfold m_stk
      rw [hp2]
      rfl
    have g2 := g u
    rw [e2]
    refine bb (fun q => ?_) (fun q => ?_)
    · rw [q, if_neg (by decide)] at g2; exact g2
    · rw [q, if_pos rfl] at g2; exact g2
/-- a set of processes -/
def m_set (w : Nat → Int32) (x : Int32) : Bool := decide (1 ≤ x.toInt ∧ x.toInt < ((2 ^ m_P w : Nat) : Int))
theorem m_set_of {w : Nat → Int32} {x : Int32} (z : Sz w) (h : m_set w x = true) : ∃ b, b < 2 ^ m_P w ∧ b ≠ 0 ∧ x = nI b ∧ b < 64 := by
  have h1 : 1 ≤ x.toInt ∧ x.toInt < ((2 ^ m_P w : Nat) : Int) := of_decide_eq_true h
  have hP := z.2.2.1.2
  have h64 : 2 ^ m_P w ≤ 2 ^ 6 := Nat.pow_le_pow_right (by omega) hP
  generalize 2 ^ m_P w = N at h1 h64 ⊢
  obtain ⟨j, hj, e⟩ := nI_of (x := x) (fun h2 => by rw [Int32.lt_iff_toInt_lt] at h2; have : (0 : Int32).toInt = 0 := rfl; omega)
  rw [e, nI_toInt hj] at h1
  exact ⟨j, by omega, by omega, e, by omega⟩
theorem ev_p : ∀ p, p ≤ 6 → (nI 1 <<< (nI p &&& 31)) - nI 1 = nI (2 ^ p - 1) := by decide +kernel
theorem ev_n : ∀ p, p ≤ 6 → ∀ j, j < 64 → (nI j &&& (nI (2 ^ p - 1) ^^^ (-1 : Int32)) = 0 ↔ j < 2 ^ p) := by decide +kernel
theorem ev_b : ∀ p, p ≤ 6 → ∀ i, i < 32 → (nI (2 ^ p - 1) ^^^ (-1 : Int32)).toBitVec.getLsbD i = decide (p ≤ i) := by decide +kernel
theorem set_cv {p : Nat} (hp : p ≤ 6) (x : Int32) : x &&& (nI (2 ^ p - 1) ^^^ (-1 : Int32)) = 0 ↔ ∃ j, j < 2 ^ p ∧ x = nI j := by
  constructor
  · intro h
    have hb : ∀ i, p ≤ i → x.toBitVec.toNat.testBit i = false := by
      intro i hi
      rw [BitVec.testBit_toNat]
      by_cases h32 : i < 32
      · have e := congrArg (fun y : Int32 => y.toBitVec.getLsbD i) h
        simp only [Int32.toBitVec_and, BitVec.getLsbD_and] at e
        rw [ev_b p hp i h32, decide_eq_true hi, Bool.and_true] at e
        rw [e]
        exact BitVec.getLsbD_zero
      · exact BitVec.getLsbD_of_ge _ _ (by omega)
    refine ⟨x.toBitVec.toNat, Nat.lt_pow_two_of_testBit _ hb, ?_⟩
    apply Int32.toBitVec_inj.mp
    show x.toBitVec = BitVec.ofNat 32 x.toBitVec.toNat
    rw [BitVec.ofNat_toNat, BitVec.setWidth_eq]
  · rintro ⟨j, hj, e⟩
    subst e
    have h64 : 2 ^ p ≤ 2 ^ 6 := Nat.pow_le_pow_right (by omega) hp
    exact (ev_n p hp j (by omega)).mpr hj
theorem c_isSet {K : Int32 → ab_F → ab_F → Prop} {I A : ab_F} {w : Nat → Int32} {x : Int32} (r : Rs 8 I A w) (z : Sz w) (h : K (bI (m_set w x)) I A) : wX4_isProcessSet K I A x := by
  have hP := z.2.2.1.2
  have e9 : I 9 0 = nI (m_P w) := (r.1.1.1).trans z.2.2.1.1
  unfold wX4_isProcessSet wX4_everyProcess
  rw [e9, ev_p _ hP]
  have h64 : 2 ^ m_P w ≤ 2 ^ 6 := Nat.pow_le_pow_right (by omega) hP
  by_cases h0 : x = 0
  · refine br_t h0 ?_
    have e : m_set w x = false := decide_eq_false (fun q => by rw [h0] at q; have : (0 : Int32).toInt = 0 := rfl; omega)
    rw [e] at h; exact h
  · refine br_f h0 ?_
    by_cases h1 : x &&& (nI (2 ^ m_P w - 1) ^^^ (-1 : Int32)) = 0
    · refine rb_t h1 ?_
      obtain ⟨j, hj, e⟩ := (set_cv hP x).mp h1
      have hj0 : j ≠ 0 := fun q => h0 (by rw [e, q]; rfl)
      have e2 : m_set w x = true := decide_eq_true (by
        rw [e, nI_toInt (by omega)]
        exact ⟨by omega, Int.ofNat_lt.mpr hj⟩)
      rw [e2] at h; exact h
    · refine rb_f h1 ?_
      have e2 : m_set w x = false := by
        cases q : m_set w x with
        | false => rfl
        | true =>
          obtain ⟨b, hb, hb0, e, -⟩ := m_set_of z q
          exact absurd ((set_cv hP x).mpr ⟨b, hb, e⟩) h1
      rw [e2] at h; exact h
theorem c_refStart {K : Int32 → ab_F → ab_F → Prop} {I A : ab_F} {w : Nat → Int32} {x : Int32} (r : Rs 8 I A w) (z : Sz w) (h : K (if m_set w x = false then nI 2 else if w 10 = 0 then nI 0 else nI 3) I A) : wX8_refusalToStart K I A x := by
  have e1 : I 24 1 = w 10 := r.2.1.1.2.1
  refine c_isSet r z (bb' (fun e => ?_) (fun e => ?_))
  · rw [if_pos e] at h; exact h
  · rw [if_neg (by rw [e]; decide)] at h
    rw [e1]
    by_cases h0 : w 10 = 0
    · rw [if_pos h0] at h; exact br_t h0 h
    · rw [if_neg h0] at h; exact br_f h0 h
/-- the number lies in 1 .. 48 -/
def m_148 (x : Int32) : Bool := decide (1 ≤ x.toInt ∧ x.toInt ≤ 48)
theorem c_refFlush {K : Int32 → ab_F → ab_F → Prop} {I A : ab_F} {w : Nat → Int32} {x : Int32} (r : Rs 8 I A w) (h : K (if m_148 x = false then nI 2 else if w 10 = 0 then nI 3 else nI 0) I A) : wX8_refusalToFlush K I A x := by
  have e1 : I 24 1 = w 10 := r.2.1.1.2.1
  unfold wX8_refusalToFlush
  rw [e1, Int32.lt_iff_toInt_lt, Int32.le_iff_toInt_le, show (nI 1).toInt = 1 from rfl, show (nI 48).toInt = 48 from rfl]
  by_cases h1 : x.toInt < 1
  · rw [if_pos (show m_148 x = false from decide_eq_false (by omega))] at h
    exact br_t h1 h
  · refine br_f h1 ?_
    by_cases h2 : x.toInt ≤ 48
    · refine br_t h2 ?_
      have e2 : m_148 x = true := decide_eq_true (by omega)
      rw [e2, if_neg (by decide)] at h
      by_cases h0 : w 10 = 0
      · rw [if_pos h0] at h; exact rb_t h0 h
      · rw [if_neg h0] at h; exact rb_f h0 h
    · refine br_f h2 ?_
      rw [if_pos (show m_148 x = false from decide_eq_false (by omega))] at h
      exact h
theorem c_refCommit {K : Int32 → ab_F → ab_F → Prop} {I A : ab_F} {B : Nat} {w : Nat → Int32} (r : Rs 8 I A w) (x : Iv B w) (h : K (if w 10 = 0 then nI 3 else if m_pc w = 0 then nI 0 else nI 5) I A) : wX8_refusalToCommit K I A := by
  have e1 : I 24 1 = w 10 := r.2.1.1.2.1
  unfold wX8_refusalToCommit
  rw [e1]
  by_cases h0 : w 10 = 0
  · rw [if_pos h0] at h; exact rb_t h0 h
  · rw [if_neg h0] at h
    refine rb_f h0 (c_countPending r x ?_)
    have hl := cn_le (p := m_tp w) 48
    rw [Int32.le_iff_toInt_le, nI_toInt (show m_pc w < 2 ^ 31 by unfold m_pc; omega), show (0 : Int32).toInt = 0 from rfl]
    by_cases hp : m_pc w = 0
    · rw [if_pos hp] at h; exact br_t (by omega) h
    · rw [if_neg hp] at h; exact br_f (by omega) h
theorem c_refAbandon {K : Int32 → ab_F → ab_F → Prop} {I A : ab_F} {w : Nat → Int32} (r : Rs 8 I A w) (h : K (if w 10 = 0 then nI 3 else nI 0) I A) : wX8_refusalToAbandon K I A := by
  have e1 : I 24 1 = w 10 := r.2.1.1.2.1
  unfold wX8_refusalToAbandon
  rw [e1]
  by_cases h0 : w 10 = 0
  · rw [if_pos h0] at h; exact rb_t h0 h
  · rw [if_neg h0] at h; exact rb_f h0 h
theorem c_refRestore {K : Int32 → ab_F → ab_F → Prop} {I A : ab_F} {B : Nat} {w : Nat → Int32} {x : Int32} (r : Rs 8 I A w) (xv : Iv B w) (h1 : m_lt x (m_P w) = false → K (nI 1) I A) (h2 : ∀ p, m_lt x (m_P w) = true → p < m_P w → p < 6 → x = nI p → K (if w (26 + p) = -1 then nI 4 else if m_has (w 10) p = true then nI 3 else nI 0) I A) : wX8_refusalToRestore K I A x := by
  have hP := xv.1.2.2.1.2
  refine c_hasProcess r xv.1 (bb' (fun e => h1 e) (fun e => ?_))
  obtain ⟨p, hp, ep⟩ := m_lt_of e
  have g := h2 p e hp (by omega) ep
  subst ep
  refine ix0 (by omega) ?_
  have e26 : A 26 p = w (26 + p) := r.2.1.2.2.2.1 p (by omega)
  rw [e26]
  by_cases h3 : w (26 + p) = -1
  · rw [if_pos h3] at g; exact rb_t h3 g
  · rw [if_neg h3] at g
    refine rb_f h3 (c_covers r xv.1 xv.2.2.2.2.2.2.1 (by omega) (bb (fun q => ?_) (fun q => ?_)))
    · rw [q, if_neg (by decide)] at g; exact g
    · rw [q, if_pos rfl] at g; exact g
theorem c_refEvict {K : Int32 → ab_F → ab_F → Prop} {I A : ab_F} {B : Nat} {w : Nat → Int32} {x y : Int32} (r : Rs 8 I A w) (xv : Iv B w) (h1 : m_pg w x y = false → K (nI 1) I A) (h2 : ∀ k, m_pg w x y = true → k < 48 → m_th w k = true → nI 8 * x + y = nI k → x = nI (k / 8) → ∀ u, K (if w (128 + k) = -1 then nI 5 else if (decide (w (176 + k) = nI 1) && (m_nf w).isNone) = true then nI 3 else nI 0) I (wrow A 31 u)) : wX8_refusalToEvict K I A x y := by
  refine c_hasPage r xv.1 (bb' (fun e => h1 e) (fun e => ?_))
  obtain ⟨k, hk, ht, ek, ex⟩ := pg_k xv.1 e
  have g := h2 k e hk ht ek ex
  unfold wX11_idOf
  rw [ek]
  refine ix0 hk ?_
  have e14 : A 14 k = w (128 + k) := (r.1.1.2.2 k hk).2.1
  rw [e14]
  have g0 := g (A 31)
  rw [wrow_id] at g0
  by_cases h3 : w (128 + k) = -1
  · rw [if_pos h3] at g0; exact rb_t h3 g0
  · rw [if_neg h3] at g0
    refine rb_f h3 (c_isDirty r hk (bb (fun q => ?_) (fun q => ?_)))
    · rw [q] at g0; exact g0
    · refine c_nextFree r xv ?_
      have g2 := g (m_ur (A 31) w)
      rw [if_neg h3, q] at g2
      refine nfb (fun s hs => by have := m_nf_lt xv.1 s hs; omega) (fun q2 => ?_) (fun q2 => ?_)
      · rw [q2] at g2; exact g2
      · rw [q2] at g2; exact g2
