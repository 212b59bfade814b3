/-! the class's uses of slots -/
def m_r3 (o : Nat → Int32) (a b c : Nat → Bool) : Nat → Int32 := fun s => if s < 48 then nI (b3 (a s) (b s) (c s)) else o s
/-- a slot's number, or a negative one -/
def sn (v : Int32) : Prop := v < 0 ∨ ∃ t, t < 48 ∧ v = nI t
theorem sn_neg {v : Int32} (h : v < 0) {s : Nat} (hs : s < 48) : decide (v = nI s) = false := decide_eq_false (fun e => by rw [e] at h; exact nI_pos (by omega) h)
theorem r3_n1 {o : Nat → Int32} {a b c : Nat → Bool} {v : Int32} (h : v < 0) : m_r3 o a b c = m_r3 o (fun s => a s || decide (v = nI s)) b c := by
  funext s; unfold m_r3; split
  · rename_i hs; simp only [sn_neg h hs, Bool.or_false]
  · rfl
theorem r3_n2 {o : Nat → Int32} {a b c : Nat → Bool} {v : Int32} (h : v < 0) : m_r3 o a b c = m_r3 o a (fun s => b s || decide (v = nI s)) c := by
  funext s; unfold m_r3; split
  · rename_i hs; simp only [sn_neg h hs, Bool.or_false]
  · rfl
theorem r3_n4 {o : Nat → Int32} {a b c : Nat → Bool} {v : Int32} (h : v < 0) : m_r3 o a b c = m_r3 o a b (fun s => c s || decide (v = nI s)) := by
  funext s; unfold m_r3; split
  · rename_i hs; simp only [sn_neg h hs, Bool.or_false]
  · rfl
theorem dn {s t : Nat} (hs : s < 48) (ht : t < 48) : decide (nI t = nI s) = decide (s = t) := by
  by_cases h : s = t
  · subst h; simp
  · rw [decide_eq_false h, decide_eq_false (fun e => h ((nI_eq (by omega) (by omega)).mp e).symm)]
theorem r3_s1 {o : Nat → Int32} {a b c : Nat → Bool} {t : Nat} (ht : t < 48) : uw (m_r3 o a b c) t (m_r3 o a b c t ||| nI 1) = m_r3 o (fun s => a s || decide (nI t = nI s)) b c := by
  funext s
  unfold uw m_r3
  by_cases h : s = t
  · subst h
    rw [if_pos rfl, if_pos ht, if_pos ht, b3_1]; simp
  · rw [if_neg h]
    split
    · rename_i hs; simp only [dn hs ht, decide_eq_false h, Bool.or_false]
    · rfl
theorem r3_s2 {o : Nat → Int32} {a b c : Nat → Bool} {t : Nat} (ht : t < 48) : uw (m_r3 o a b c) t (m_r3 o a b c t ||| nI 2) = m_r3 o a (fun s => b s || decide (nI t = nI s)) c := by
  funext s
  unfold uw m_r3
  by_cases h : s = t
  · subst h
    rw [if_pos rfl, if_pos ht, if_pos ht, b3_2]; simp
  · rw [if_neg h]
    split
    · rename_i hs; simp only [dn hs ht, decide_eq_false h, Bool.or_false]
    · rfl
theorem r3_s4 {o : Nat → Int32} {a b c : Nat → Bool} {t : Nat} (ht : t < 48) : uw (m_r3 o a b c) t (m_r3 o a b c t ||| nI 4) = m_r3 o a b (fun s => c s || decide (nI t = nI s)) := by
  funext s
  unfold uw m_r3
  by_cases h : s = t
  · subst h
    rw [if_pos rfl, if_pos ht, if_pos ht, b3_4]; simp
  · rw [if_neg h]
    split
    · rename_i hs; simp only [dn hs ht, decide_eq_false h, Bool.or_false]
    · rfl
theorem c_mark {K : ab_F → ab_F → Prop} {I A : ab_F} (h15 : ∀ k, k < 48 → sn (A 15 k)) (h27 : ∀ k, k < 48 → sn (A 27 k)) (h25 : ∀ k, k < 48 → sn (A 25 k)) (h : K I (wrow A 31 (m_r3 (A 31) (fun s => ex (fun k => decide (A 15 k = nI s)) 48) (fun s => ex (fun k => decide (A 27 k = nI s)) 48) (fun s => ex (fun k => decide (A 25 k = nI s)) 48)))) : wX8_markUses K I A := by
  have n15 : ∀ u : Nat → Int32, wrow A 31 u 15 = A 15 := fun u => wrow_ne (by decide)
  have n27 : ∀ u : Nat → Int32, wrow A 31 u 27 = A 27 := fun u => wrow_ne (by decide)
  have n25 : ∀ u : Nat → Int32, wrow A 31 u 25 = A 25 := fun u => wrow_ne (by decide)
  have h2 : ∃ nf, wlX8_markUses_23 K nf (nI 0) I (wrow A 31 (m_r3 (A 31) (fun s => ex (fun k => decide (A 15 k = nI s)) 0) (fun s => ex (fun k => decide (A 27 k = nI s)) 0) (fun s => ex (fun k => decide (A 25 k = nI s)) 0))) := by
    refine lp (W := fun n i => wlX8_markUses_23 K n (nI i) I (wrow A 31 (m_r3 (A 31) (fun s => ex (fun k => decide (A 15 k = nI s)) i) (fun s => ex (fun k => decide (A 27 k = nI s)) i) (fun s => ex (fun k => decide (A 25 k = nI s)) i)))) (e := 48) (fun n => ?_) (fun n i hi hw => ?_)
    · exact br_t (nI_le (Nat.le_refl _) (by omega)) h
    · refine br_f (nI_ge hi (by omega)) (ix0 hi ?_)
      simp only [ex] at hw
      have s4 : ∀ a b c : Nat → Bool, wlX8_markUses_23 K n (nI (i + 1)) I (wrow A 31 (m_r3 (A 31) a b (fun s => c s || decide (A 25 i = nI s)))) → wjX8_markUses_89 K (wlX8_markUses_23 K n) (nI i) I (wrow A 31 (m_r3 (A 31) a b c)) := by
        intro a b c hw
        refine ix0 hi ?_
        rw [n25, nI_add i 1]
        rcases h25 i hi with q | ⟨t, ht, q⟩
        · refine br_t q ?_
          rw [r3_n4 q]; exact hw
        · rw [q] at hw ⊢
          refine br_f (nI_pos (by omega)) (ix0 hi ?_)
          rw [q]
          refine ix0 ht (ix0 ht ?_)
          simp only [wr_w, wrow_wrow, wrow_at]
          rw [r3_s4 ht]; exact hw
      have s2 : ∀ a b c : Nat → Bool, wlX8_markUses_23 K n (nI (i + 1)) I (wrow A 31 (m_r3 (A 31) a (fun s => b s || decide (A 27 i = nI s)) (fun s => c s || decide (A 25 i = nI s)))) → wjX8_markUses_59 K (wlX8_markUses_23 K n) (nI i) I (wrow A 31 (m_r3 (A 31) a b c)) := by
        intro a b c hw
        refine ix0 hi ?_
        rw [n27]
        rcases h27 i hi with q | ⟨t, ht, q⟩
        · refine br_t q ?_
          rw [r3_n2 q]; exact s4 _ _ _ hw
        · rw [q] at hw ⊢
          refine br_f (nI_pos (by omega)) (ix0 hi ?_)
          rw [q]
          refine ix0 ht (ix0 ht ?_)
          simp only [wr_w, wrow_wrow, wrow_at]
          rw [r3_s2 ht]; exact s4 _ _ _ hw
      rw [n15]
      rcases h15 i hi with q | ⟨t, ht, q⟩
      · refine br_t q ?_
        rw [r3_n1 q]; exact s2 _ _ _ hw
      · rw [q] at hw ⊢
        refine br_f (nI_pos (by omega)) (ix0 hi ?_)
        rw [q]
        refine ix0 ht (ix0 ht ?_)
        simp only [wr_w, wrow_wrow, wrow_at]
        rw [r3_s1 ht]; exact s2 _ _ _ hw
  have e0 : m_r3 (A 31) (fun s => ex (fun k => decide (A 15 k = nI s)) 0) (fun s => ex (fun k => decide (A 27 k = nI s)) 0) (fun s => ex (fun k => decide (A 25 k = nI s)) 0) = m_cp 48 (fun _ => nI 0) (A 31) := by
    funext s; unfold m_r3 m_cp; rfl
  rw [e0] at h2
  have h1 : ∃ n, wlX8_markUses_2 K n (nI 0) I (wrow A 31 (m_cp 0 (fun _ => nI 0) (A 31))) := by
    refine lp (W := fun n i => wlX8_markUses_2 K n (nI i) I (wrow A 31 (m_cp i (fun _ => nI 0) (A 31)))) (e := 48) (fun n => ?_) (fun n i hi hw => ?_)
    · exact br_t (nI_le (Nat.le_refl _) (by omega)) h2
    · refine br_f (nI_ge hi (by omega)) (ix0 hi ?_)
      simp only [wr_w, wrow_wrow, wrow_at]
      rw [m_cp_st (fun _ => nI 0), nI_add i 1]; exact hw
  rw [m_cp_0, wrow_id] at h1
  exact h1
/-- the uses' row -/
def m_ur (o w : Nat → Int32) : Nat → Int32 := fun s => if s < 48 then nI (m_use w (nI s)) else o s
theorem neg1 : (-1 : Int32) < 0 := by decide
theorem neg2 : (-2 : Int32) < 0 := by decide
theorem sn_sw {w : Nat → Int32} (z : Sz w) (x : Sw w) {k : Nat} (hk : k < 48) : sn (w (80 + k)) := by
  have hS := z.2.1.2
  rcases x k hk with a | ⟨s, a, b, -⟩
  · rw [a]; exact Or.inl neg1
  · exact Or.inr ⟨s, by omega, b⟩
theorem sn_ck {w : Nat → Int32} (z : Sz w) (x : Ck w) {k : Nat} (hk : k < 48) : sn (w (272 + k)) := by
  have hS := z.2.1.2
  rcases x k hk with a | ⟨s, a, b, -⟩
  · rw [a]; exact Or.inl neg1
  · exact Or.inr ⟨s, by omega, b⟩
theorem sn_rk {w : Nat → Int32} (z : Sz w) (x : Re w) {k : Nat} (hk : k < 48) : sn (m_rk w k) := by
  have hS := z.2.1.2
  unfold m_rk
  split
  · rename_i hb
    rcases x k hk hb with a | ⟨a, -⟩ | ⟨s, a, b, -⟩
    · rw [a]; exact Or.inl neg1
    · rw [a]; exact Or.inl neg2
    · exact Or.inr ⟨s, by omega, b⟩
  · exact Or.inl neg1
theorem c_markUses {K : ab_F → ab_F → Prop} {I A : ab_F} {B : Nat} {w : Nat → Int32} (r : Rs 8 I A w) (x : Iv B w) (h : K I (wrow A 31 (m_ur (A 31) w))) : wX8_markUses K I A := by
  have e15 : ∀ k, k < 48 → A 15 k = w (80 + k) := fun k hk => (r.1.1.2.2 k hk).2.2
  have e27 : ∀ k, k < 48 → A 27 k = w (272 + k) := fun k hk => (r.2.1.2.2.1 k hk).2
  have e25 : ∀ k, k < 48 → A 25 k = m_rk w k := fun k hk => (r.2.1.2.2.1 k hk).1
  obtain ⟨z, fr, dy, sw, ck, re, -⟩ := x
  have hS := z.2.1.2
  refine c_mark (fun k hk => by rw [e15 k hk]; exact sn_sw z sw hk) (fun k hk => by rw [e27 k hk]; exact sn_ck z ck hk) (fun k hk => by rw [e25 k hk]; exact sn_rk z re hk) ?_
  have e : m_r3 (A 31) (fun s => ex (fun k => decide (A 15 k = nI s)) 48) (fun s => ex (fun k => decide (A 27 k = nI s)) 48) (fun s => ex (fun k => decide (A 25 k = nI s)) 48) = m_ur (A 31) w := by
    funext s
    unfold m_r3 m_ur
    split
    · rename_i hs
      unfold m_use
      have p1 : ex (fun k => decide (A 15 k = nI s)) 48 = ex (m_u1 w (nI s)) 48 := ex_congr (fun k hk => by
        unfold m_u1
        rw [e15 k hk]
        rcases sw k hk with a | ⟨t, a, b, c⟩
        · rw [a, decide_eq_false (fun q => nI_m1 (by omega) q.symm), Bool.and_false]
        · rw [c, Bool.true_and])
      have p2 : ex (fun k => decide (A 27 k = nI s)) 48 = ex (m_u2 w (nI s)) 48 := ex_congr (fun k hk => by
        unfold m_u2
        rw [e27 k hk]
        rcases ck k hk with a | ⟨t, a, b, c, d⟩
        · rw [a, decide_eq_false (fun q => nI_m1 (by omega) q.symm), Bool.and_false, Bool.and_false]
        · rw [c, decide_eq_false d, Bool.true_and, Bool.not_false, Bool.true_and])
      have p4 : ex (fun k => decide (A 25 k = nI s)) 48 = ex (m_u4 w (nI s)) 48 := ex_congr (fun k hk => by
        unfold m_u4
        rw [e25 k hk]
        unfold m_rk
        by_cases hb : m_has (w 10) (k / 8) = true
        · rw [if_pos hb, hb, Bool.true_and]
          rcases re k hk hb with a | ⟨a, -⟩ | ⟨t, a, b, c⟩
          · rw [a, decide_eq_false (fun q => nI_m1 (by omega) q.symm), Bool.and_false]
          · rw [a, decide_eq_false (fun q => nI_m2 (by omega) q.symm), Bool.and_false]
          · rw [c, Bool.true_and]
        · rw [if_neg hb, decide_eq_false (fun q => nI_m1 (by omega) q.symm)]
          have hb2 : m_has (w 10) (k / 8) = false := by cases q : m_has (w 10) (k / 8) with
            | false => rfl
            | true => exact absurd q hb
          rw [hb2, Bool.false_and, Bool.and_false])
      show nI (b3 (ex (fun k => decide (A 15 k = nI s)) 48) (ex (fun k => decide (A 27 k = nI s)) 48) (ex (fun k => decide (A 25 k = nI s)) 48)) = _
      rw [p1, p2, p4]
    · rfl
  rw [e]
  exact h
theorem ur_31 {A : ab_F} {o w : Nat → Int32} {s : Nat} (hs : s < 48) : wrow A 31 (m_ur o w) 31 s = nI (m_use w (nI s)) := by
  rw [wrow_at]; unfold m_ur; rw [if_pos hs]
/-- the arrays with the uses marked -/
abbrev um (A : ab_F) (w : Nat → Int32) : ab_F := wrow A 31 (m_ur (A 31) w)
theorem c_least {K : Int32 → ab_F → ab_F → Prop} {I A : ab_F} {w : Nat → Int32} (r : Rs 8 I A w) (z : Sz w) (hu : ∀ s, s < 48 → A 31 s = nI (m_use w (nI s))) (h : K (oI (m_nf w)) I A) : wX8_leastStampedUnused K I A := by
  have hS := z.2.1.2
  have e0 : I 20 0 = nI (m_S w) := r.1.2.2.1.trans z.2.1.1
  have e23 : ∀ s, s < 48 → A 23 s = w (464 + s) := fun s hs => (r.1.2.2.2.2 s hs).2.2
  refine lp (W := fun n i => wlX8_leastStampedUnused_4 K n (oI (ls (m_so w) (m_fr w) i)) (nI i) I A) (e := m_S w) (fun n => ?_) (fun n i hi hw => ?_)
  · exact br_t (by rw [e0]; exact nI_le (Nat.le_refl _) (by omega)) h
  · refine br_f (by rw [e0]; exact nI_ge hi (by omega)) (ix0 (by omega) ?_)
    rw [hu i (by omega)]
    rw [ls] at hw
    refine fr0 (fun e => ?_) (fun e => ?_)
    · rw [e] at hw
      refine br_f (by decide) ?_
      rw [nI_add i 1]
      cases ho : ls (m_so w) (m_fr w) i with
      | none => rw [ho] at hw; exact br_t rfl hw
      | some b =>
        rw [ho] at hw
        have hb := (ls_lt ho).1
        refine br_f (nI_m1 (by omega)) (ix0 (by omega) (ix0 (by omega) ?_))
        rw [e23 i (by omega), e23 b (by omega)]
        by_cases h3 : w (464 + b) ≤ w (464 + i)
        · refine br_t h3 ?_
          have e3 : m_so w i b = false := decide_eq_false (fun q => by
            rcases q with q | q
            · rw [Int32.lt_iff_toInt_lt] at q; rw [Int32.le_iff_toInt_le] at h3; omega
            · omega)
          simp only [e3, Bool.false_eq_true, and_false, if_false] at hw
          exact hw
        · refine br_f h3 ?_
          have e3 : m_so w i b = true := decide_eq_true (Or.inl (by rw [Int32.lt_iff_toInt_lt]; rw [Int32.le_iff_toInt_le] at h3; omega))
          simp only [e3, and_self, if_true] at hw
          exact hw
    · rw [e] at hw
      refine br_t (by decide) ?_
      rw [nI_add i 1]
      cases ho : ls (m_so w) (m_fr w) i with
      | none => rw [ho] at hw; exact hw
      | some b => rw [ho] at hw; simp only [Bool.false_eq_true, false_and, if_false] at hw; exact hw
theorem c_nextFree {K : Int32 → ab_F → ab_F → Prop} {I A : ab_F} {B : Nat} {w : Nat → Int32} (r : Rs 8 I A w) (x : Iv B w) (h : K (oI (m_nf w)) I (um A w)) : wX8_nextFree K I A :=
  c_markUses r x (c_least (Rs_31 r) x.1 (fun s hs => ur_31 hs) h)
theorem c_countFree {K : Int32 → ab_F → ab_F → Prop} {I A : ab_F} {B : Nat} {w : Nat → Int32} (r : Rs 8 I A w) (x : Iv B w) (h : K (nI (m_free w)) I (um A w)) : wX8_countFree K I A := by
  refine c_markUses r x ?_
  have z := x.1
  have hS := z.2.1.2
  have e0 : I 20 0 = nI (m_S w) := r.1.2.2.1.trans z.2.1.1
  refine lp (W := fun n i => wlX8_countFree_9 K n (nI (cn (m_fr w) i)) (nI i) I (um A w)) (e := m_S w) (fun n => ?_) (fun n i hi hw => ?_)
  · exact br_t (by rw [e0]; exact nI_le (Nat.le_refl _) (by omega)) h
  · refine br_f (by rw [e0]; exact nI_ge hi (by omega)) (ix0 (by omega) ?_)
    rw [show um A w 31 i = nI (m_use w (nI i)) from ur_31 (by omega)]
    rw [cn] at hw
    refine fr0 (fun e => ?_) (fun e => ?_)
    · rw [e] at hw
      rw [nI_add _ 1, nI_add i 1]; exact hw
    · rw [e] at hw
      rw [nI_add i 1]; exact hw
