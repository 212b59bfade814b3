/-! THE CALLS: what each answers (a code, 0: no exception; a value) and the state behind it; the class and the reference do so -/
abbrev st_S : Type := (Nat → Int32) × st_H × st_T × (Int32 × Int32) × st_T
def RCs (B : Nat) (s : st_S) (Z : ab_Z) (I A : ab_F) : Prop := RC B s.1 s.2.1 s.2.2.1 s.2.2.2.1 s.2.2.2.2 Z I A
def RMs (B : Nat) (s : st_S) (I A : ab_F) : Prop := RM B s.1 s.2.1 s.2.2.1 s.2.2.2.1 s.2.2.2.2 I A
abbrev st_O : Type := Nat × Int32 × st_S
def oC (N : List String) (B : Nat) (o : st_O) (K : Int32 → ab_Z → ab_F → ab_F → Prop) (KX : String → ab_Z → ab_F → ab_F → Prop) : Prop := (o.1 = 0 → ∀ Z I A, RCs B o.2.2 Z I A → K o.2.1 Z I A) ∧ (∀ E, o.1 ≠ 0 → N[o.1 - 1]? = some E → ∀ Z I A, RCs B o.2.2 Z I A → KX E Z I A)
def oM (B : Nat) (o : st_O) (K : Int32 → ab_F → ab_F → Prop) : Prop := ∀ r I A, RMs B o.2.2 I A → I 0 5 = nI o.1 → (o.1 = 0 → r = o.2.1) → K r I A
theorem oC.x {N : List String} {B : Nat} {o : st_O} {K : Int32 → ab_Z → ab_F → ab_F → Prop} {KX : String → ab_Z → ab_F → ab_F → Prop} (h : oC N B o K KX) {c : Nat} {v : Int32} {s : st_S} (e : o = (c + 1, v, s)) {E : String} (hE : N[c]? = some E) {Z : ab_Z} {I A : ab_F} {B0 : Nat} (hB : B0 ≤ B) (r : RCs B0 s Z I A) : KX E Z I A := by
  subst e
  exact h.2 E (by show c + 1 ≠ 0; omega) hE Z I A (RC_mono hB r)
theorem oC.k {N : List String} {B : Nat} {o : st_O} {K : Int32 → ab_Z → ab_F → ab_F → Prop} {KX : String → ab_Z → ab_F → ab_F → Prop} (h : oC N B o K KX) {v : Int32} {s : st_S} (e : o = (0, v, s)) {Z : ab_Z} {I A : ab_F} {B0 : Nat} (hB : B0 ≤ B) (r : RCs B0 s Z I A) : K v Z I A := by
  subst e
  exact h.1 rfl Z I A (RC_mono hB r)
theorem oM.x {B : Nat} {o : st_O} {K : Int32 → ab_F → ab_F → Prop} (h : oM B o K) {c : Nat} {v : Int32} {s : st_S} (e : o = (c + 1, v, s)) {I A : ab_F} {B0 : Nat} (hB : B0 ≤ B) (r : RMs B0 s I A) (e5 : I 0 5 = nI (c + 1)) {u : Int32} : K u I A := by
  subst e
  exact h u I A (RM_mono hB r) e5 (fun q => absurd q (by show c + 1 ≠ 0; omega))
theorem oM.k {B : Nat} {o : st_O} {K : Int32 → ab_F → ab_F → Prop} (h : oM B o K) {v : Int32} {s : st_S} (e : o = (0, v, s)) {I A : ab_F} {B0 : Nat} (hB : B0 ≤ B) (r : RMs B0 s I A) (e5 : I 0 5 = nI 0) {u : Int32} (hu : u = v) : K u I A := by
  subst e
  exact h u I A (RM_mono hB r) e5 (fun _ => hu)
abbrev xIx : String := "java/lang/IndexOutOfBoundsException"
abbrev xAr : String := "java/lang/IllegalArgumentException"
abbrev xSt : String := "java/lang/IllegalStateException"
abbrev xEl : String := "java/util/NoSuchElementException"
abbrev xUn : String := "java/lang/UnsupportedOperationException"
def m_id (x y : Int32) : Nat := nn (nI 8 * x + y)
theorem m_id_k {x y : Int32} {k : Nat} (h : nI 8 * x + y = nI k) (hk : k < 48) : m_id x y = k := by unfold m_id; rw [h]; exact nn_nI (by omega)
/-- the state with another row, remembered -/
abbrev st_w (s : st_S) (w : Nat → Int32) : st_S := (w, h_p s.2.1 s.1, s.2.2)
def s_read (s : st_S) (x y : Int32) : st_O := if m_pg s.1 x y = false then (1, 0, s) else if m_stk s.1 (m_id x y) false = true then (2, 0, s) else (0, m_acc s.1 (m_id x y) (32 + m_id x y), st_w s (m_acc s.1 (m_id x y)))
def s_write (s : st_S) (x y v : Int32) : st_O := if m_pg s.1 x y = false then (1, 0, s) else if m_stk s.1 (m_id x y) true = true then (2, 0, s) else (0, s.1 (32 + m_id x y), st_w s (m_wri s.1 (m_id x y) v))
def s_policy (s : st_S) (x : Int32) : st_O := if m_lt x 3 = false then (1, 0, s) else (0, s.1 2, st_w s (uw s.1 2 x))
def s_start (s : st_S) (x : Int32) : st_O := if m_set s.1 x = false then (1, 0, s) else if s.1 10 = 0 then (0, nI (m_pc (m_sta s.1 x)), st_w s (m_sta s.1 x)) else (2, 0, s)
def s_flush (s : st_S) (x : Int32) : st_O := if m_148 x = false then (1, 0, s) else if s.1 10 = 0 then (2, 0, s) else (0, nI (m_pc (m_fl 48 0 (nn x) s.1)), st_w s (m_fl 48 0 (nn x) s.1))
def s_commit (s : st_S) : st_O := if s.1 10 = 0 then (1, 0, s) else if m_pc s.1 = 0 then (0, m_fd s.1 (m_c5 s.1), st_w s (m_com s.1)) else (2, 0, s)
def s_abandon (s : st_S) : st_O := if s.1 10 = 0 then (1, 0, s) else (0, m_fd s.1 (m_ab s.1), st_w s (m_ab s.1))
def s_crash (s : st_S) : st_O := (0, nI (sb (fun p => !decide (s.1 (26 + p) = -1)) (m_P s.1)), st_w s (m_crs s.1))
def s_roll (s : st_S) (x : Int32) : st_O := if m_lt x (m_P s.1) = false then (1, 0, s) else if s.1 (26 + nn x) = -1 then (2, 0, s) else if m_has (s.1 10) (nn x) = true then (3, 0, s) else (0, nI (m_los s.1 (nn x)), st_w s (m_rst s.1 (nn x)))
def s_evict (s : st_S) (x y : Int32) : st_O := if m_pg s.1 x y = false then (1, 0, s) else if s.1 (128 + m_id x y) = -1 then (2, 0, s) else if (decide (s.1 (176 + m_id x y) = nI 1) && (m_nf s.1).isNone) = true then (3, 0, s) else (0, m_ev s.1 (m_id x y) (80 + m_id x y), st_w s (m_ev s.1 (m_id x y)))
def s_undo (s : st_S) : st_O := if s.2.1.2 = 0 then (1, 0, s) else (0, nI (s.2.1.2 - 1), (h_u s.2.1 s.1, (s.2.1.1, s.2.1.2 - 1), s.2.2))
theorem b_f {b : Bool} (h : ¬ b = true) : b = false := by cases b with
  | false => rfl
  | true => exact absurd rfl h
theorem f_read {B : Nat} {s : st_S} {x y : Int32} {K : Int32 → ab_Z → ab_F → ab_F → Prop} {KX : String → ab_Z → ab_F → ab_F → Prop} {Z : ab_Z} {I A : ab_F} (r : RCs B s Z I A) (hB : B + 1 < 2 ^ 30) (o : oC [xIx, xSt] (B + 1) (s_read s x y) K KX) : wX11_readPage K KX Z I A x y := by
  refine c_refRead r.1.1 r.1.2 (fun e => dm1 (o.x (c := 0) (by unfold s_read; rw [if_pos e]) rfl (by omega) r)) (fun k e hk ht ek ex u => ?_)
  have em := m_id_k ek hk
  have ru : RCs B s Z I (wrow A 31 u) := RC_k r (Kc_u u)
  have e1 : ¬ m_pg s.1 x y = false := by rw [e]; decide
  by_cases q : m_stk s.1 k false = true
  · rw [if_pos q]
    exact dm3 (o.x (c := 1) (by unfold s_read; rw [if_neg e1, em, if_pos q]) rfl (by omega) ru)
  · rw [if_neg q]
    refine dm0 (c_remember ru (fun Z' I' A' x' => ?_))
    unfold wX11_idOf
    rw [ek]
    refine c_read x'.1.1 x'.1.2 hB hk (b_f q) (fun I2 A2 r2 ek2 => ?_)
    obtain ⟨f, hf, iv, -⟩ := Iv_acc x'.1.2 hk ht (b_f q)
    exact o.k (by unfold s_read; rw [if_neg e1, em, if_neg q]) (Nat.le_refl _) (RC_s (B := B) (B' := B + 1) x' (by omega) r2 iv ek2)
theorem f_write {B : Nat} {s : st_S} {x y v : Int32} {K : Int32 → ab_Z → ab_F → ab_F → Prop} {KX : String → ab_Z → ab_F → ab_F → Prop} {Z : ab_Z} {I A : ab_F} (r : RCs B s Z I A) (hB : B + 1 < 2 ^ 30) (o : oC [xIx, xSt] (B + 1) (s_write s x y v) K KX) : wX11_writePage K KX Z I A x y v := by
  refine c_refWrite r.1.1 r.1.2 (fun e => dm1 (o.x (c := 0) (by unfold s_write; rw [if_pos e]) rfl (by omega) r)) (fun k e hk ht ek ex u => ?_)
  have em := m_id_k ek hk
  have ru : RCs B s Z I (wrow A 31 u) := RC_k r (Kc_u u)
  have e1 : ¬ m_pg s.1 x y = false := by rw [e]; decide
  by_cases q : m_stk s.1 k true = true
  · rw [if_pos q]
    exact dm3 (o.x (c := 1) (by unfold s_write; rw [if_neg e1, em, if_pos q]) rfl (by omega) ru)
  · rw [if_neg q]
    refine dm0 (c_remember ru (fun Z' I' A' x' => ?_))
    unfold wX11_idOf
    rw [ek]
    refine c_write x'.1.1 x'.1.2 hB hk ht (b_f q) (fun I2 A2 r2 ek2 => ?_)
    exact o.k (by unfold s_write; rw [if_neg e1, em, if_neg q]) (Nat.le_refl _) (RC_s (B := B) (B' := B + 1) x' (by omega) r2 (Iv_wri x'.1.2 hk ht (b_f q)) ek2)
/-- the number lies in 0 .. n -/
theorem lt1 {x : Int32} {n : Nat} (hn : n + 1 < 2 ^ 31) {y : Int32} (hy : y = nI n) {X Y : Prop} (hX : m_lt x (n + 1) = false → X) (hY : m_lt x (n + 1) = true → Y) : (x < 0 → X) ∧ (¬ x < 0 → ((y < x → X) ∧ (¬ y < x → Y))) := by
  subst hy
  rw [Int32.lt_iff_toInt_lt, Int32.lt_iff_toInt_lt, nI_toInt (by omega), show (0 : Int32).toInt = 0 from rfl]
  unfold m_lt at hX hY
  by_cases h1 : x.toInt < 0
  · exact br_t h1 (hX (decide_eq_false (by omega)))
  · refine br_f h1 ?_
    by_cases h2 : (n : Int) < x.toInt
    · exact br_t h2 (hX (decide_eq_false (by omega)))
    · exact br_f h2 (hY (decide_eq_true (by omega)))
theorem m_lt3 {x : Int32} (h : m_lt x 3 = true) : x = nI 0 ∨ x = nI 1 ∨ x = nI 2 := by
  obtain ⟨j, hj, e⟩ := m_lt_of h
  have : j = 0 ∨ j = 1 ∨ j = 2 := by omega
  rcases this with q | q | q <;> subst q
  · exact Or.inl e
  · exact Or.inr (Or.inl e)
  · exact Or.inr (Or.inr e)
theorem Rs_pol {I A : ab_F} {w : Nat → Int32} {x : Int32} (r : Rs 8 I A w) : Rs 8 (wr I 16 1 x) A (uw w 2 x) := by
  obtain ⟨⟨⟨a1, a2, a3⟩, ⟨b1, b2, b3⟩, ⟨c1, c2, c3⟩⟩, ⟨⟨d1, d2, d3⟩, d4, d5, d6, d7⟩, e1, e2, e3, n, a, eb, e4, e5, e6, e7, e8⟩ := r
  have wI : ∀ c, c ≠ 16 → wr I 16 1 x c = I c := fun c hc => wr_ne hc
  have po : ∀ j, j ≠ 2 → uw w 2 x j = w j := fun j h => uw_ne h
  have sm : Sm w (uw w 2 x) := Sm_uw (by omega)
  have epc : m_pc (uw w 2 x) = m_pc w := by
    unfold m_pc
    refine cn_congr (fun j hj => ?_)
    unfold m_tp m_pd
    rw [sm.th hj, po 10 (by omega), po (224 + j) (by omega)]
  refine ⟨⟨⟨?_, fun p hp => ⟨?_, ?_, ?_⟩, fun j hj => ⟨?_, ?_, ?_⟩⟩, ⟨?_, ?_, fun f hf => ⟨?_, ?_, ?_⟩⟩, ⟨?_, ?_, fun t ht => ⟨?_, ?_, ?_⟩⟩⟩, ⟨⟨?_, ?_, ?_⟩, ?_, fun j hj => ⟨?_, ?_⟩, fun p hp => ?_, ?_⟩, ?_, ?_, ?_, n, a, eb, ?_, e5, ?_, ?_, ?_⟩
  · rw [wI _ (by decide), a1, po _ (by omega)]
  · rw [(a2 p hp).1, po _ (by omega)]
  · rw [(a2 p hp).2.1, po _ (by omega)]
  · rw [(a2 p hp).2.2, ds_eq (w := w) (w' := uw w 2 x) (fun i hi => po _ (by omega))]
  · rw [(a3 j hj).1, po _ (by omega)]
  · rw [(a3 j hj).2.1, po _ (by omega)]
  · rw [(a3 j hj).2.2, po _ (by omega)]
  · show wr I 16 1 x 16 0 = _
    rw [wr_nei (by decide), po _ (by omega)]; exact b1
  · show wr I 16 1 x 16 1 = _
    rw [wr_ate, uw_at]
  · rw [(b3 f hf).1, po _ (by omega)]
  · rw [(b3 f hf).2.1, po _ (by omega)]
  · rw [(b3 f hf).2.2, po _ (by omega)]
  · rw [wI _ (by decide), c1, po _ (by omega)]
  · rw [wI _ (by decide), c2, po _ (by omega)]
  · rw [(c3 t ht).1, po _ (by omega)]
  · rw [(c3 t ht).2.1, po _ (by omega)]
  · rw [(c3 t ht).2.2, po _ (by omega)]
  · rw [wI _ (by decide), d1, po _ (by omega)]
  · rw [wI _ (by decide), d2, po _ (by omega)]
  · rw [wI _ (by decide), d3, po _ (by omega)]
  · rw [po 10 (by omega), po 11 (by omega), epc, wI _ (by decide)]; exact d4
  · rw [(d5 j hj).1]; unfold m_rk; rw [po 10 (by omega), po (224 + j) (by omega)]
  · rw [(d5 j hj).2, po _ (by omega)]
  · rw [d6 p hp, po _ (by omega)]
  · rw [po 8 (by omega)]
    intro c hc hc2 i hi j hj
    rw [d7 c hc hc2 i hi j hj, po _ (by omega)]
  · rw [wI _ (by decide), e1, po _ (by omega)]
  · rw [wI _ (by decide), e2, po _ (by omega)]
  · rw [wI _ (by decide), e3, po _ (by omega)]
  · rw [po _ (by omega)]; exact e4
  · rw [wI _ (by decide)]; exact e6
  · rw [po _ (by omega)]; exact e7
  · intro i hi; rw [e8 i hi, po _ (by omega)]
theorem f_policy {B : Nat} {s : st_S} {x : Int32} {K : Int32 → ab_Z → ab_F → ab_F → Prop} {KX : String → ab_Z → ab_F → ab_F → Prop} {Z : ab_Z} {I A : ab_F} (r : RCs B s Z I A) (o : oC [xAr] (B + 1) (s_policy s x) K KX) : wX11_setPolicy K KX Z I A x := by
  refine lt1 (n := 2) (by omega) rfl (fun e => ?_) (fun e => ?_)
  · exact dmA (b := false) (fun _ => o.x (c := 0) (by unfold s_policy; rw [if_pos e]) rfl (by omega) r) (fun q => nomatch q)
  · refine dmA (b := true) (fun q => nomatch q) (fun _ => c_remember r (fun Z' I' A' x' => ?_))
    have e2 : I' 16 1 = s.1 2 := x'.1.1.1.2.1.2.1
    refine nm_r e2 (o.k (by unfold s_policy; rw [if_neg (by rw [e]; decide)]) (Nat.le_refl _) (RC_s (B := B) (B' := B + 1) x' (by omega) (Rs_pol x'.1.1) ((Iv_pol x'.1.2 (m_lt3 e)).mono (Nat.le_succ B)) (fun c hc => ⟨wr_ne (by omega), rfl⟩)))
theorem f_start {B : Nat} {s : st_S} {x : Int32} {K : Int32 → ab_Z → ab_F → ab_F → Prop} {KX : String → ab_Z → ab_F → ab_F → Prop} {Z : ab_Z} {I A : ab_F} (r : RCs B s Z I A) (o : oC [xAr, xSt] (B + 1) (s_start s x) K KX) : wX11_startBarrier K KX Z I A x := by
  refine c_refStart r.1.1 r.1.2.1 ?_
  by_cases e : m_set s.1 x = false
  · rw [if_pos e]
    exact dm2 (o.x (c := 0) (by unfold s_start; rw [if_pos e]) rfl (by omega) r)
  · rw [if_neg e]
    by_cases q : s.1 10 = 0
    · rw [if_pos q]
      refine dm0 (c_remember r (fun Z' I' A' x' => ?_))
      obtain ⟨b, hb, hb0, eb, -⟩ := m_set_of r.1.2.1 (by cases h : m_set s.1 x with
        | true => rfl
        | false => exact absurd h e)
      have eo : s_start s x = (0, nI (m_pc (m_sta s.1 x)), st_w s (m_sta s.1 x)) := by unfold s_start; rw [if_neg e, if_pos q]
      rw [eb] at eo ⊢
      refine c_start x'.1.1 x'.1.2 q hb (fun I2 A2 r2 ek2 => ?_)
      refine o.k (s := st_w s (m_sta s.1 (nI b))) ?_ (Nat.le_refl _) (RC_s (B := B) (B' := B + 1) x' (by omega) r2 (Iv_sta x'.1.2 hb) ek2)
      rw [eb]; exact eo
    · rw [if_neg q]
      exact dm3 (o.x (c := 1) (by unfold s_start; rw [if_neg e, if_neg q]) rfl (by omega) r)
theorem m_148_of {x : Int32} (h : m_148 x = true) : ∃ n, 1 ≤ n ∧ n ≤ 48 ∧ x = nI n ∧ nn x = n := by
  have h1 : 1 ≤ x.toInt ∧ x.toInt ≤ 48 := of_decide_eq_true h
  obtain ⟨j, hj, e⟩ := nI_of (x := x) (fun h2 => by rw [Int32.lt_iff_toInt_lt] at h2; have : (0 : Int32).toInt = 0 := rfl; omega)
  rw [e, nI_toInt hj] at h1
  exact ⟨j, by omega, by omega, e, by rw [e]; exact nn_nI hj⟩
theorem f_flush {B : Nat} {s : st_S} {x : Int32} {K : Int32 → ab_Z → ab_F → ab_F → Prop} {KX : String → ab_Z → ab_F → ab_F → Prop} {Z : ab_Z} {I A : ab_F} (r : RCs B s Z I A) (o : oC [xAr, xSt] (B + 1) (s_flush s x) K KX) : wX11_writeBarrier K KX Z I A x := by
  refine c_refFlush r.1.1 ?_
  by_cases e : m_148 x = false
  · rw [if_pos e]
    exact dm2 (o.x (c := 0) (by unfold s_flush; rw [if_pos e]) rfl (by omega) r)
  · rw [if_neg e]
    by_cases q : s.1 10 = 0
    · rw [if_pos q]
      exact dm3 (o.x (c := 1) (by unfold s_flush; rw [if_neg e, if_pos q]) rfl (by omega) r)
    · rw [if_neg q]
      refine dm0 (c_remember r (fun Z' I' A' x' => ?_))
      obtain ⟨n, h1, h2, ex, en⟩ := m_148_of (by cases h : m_148 x with
        | true => rfl
        | false => exact absurd h e)
      have eo : s_flush s x = (0, nI (m_pc (m_fl 48 0 n s.1)), st_w s (m_fl 48 0 n s.1)) := by unfold s_flush; rw [if_neg e, if_neg q, en]
      rw [ex]
      refine c_flush x'.1.1 x'.1.2 (by omega) (fun I2 A2 r2 ek2 => ?_)
      exact o.k eo (Nat.le_refl _) (RC_s (B := B) (B' := B + 1) x' (by omega) r2 ((Iv_fl 48 0 n s.1 rfl x'.1.2).mono (Nat.le_succ B)) ek2)
theorem f_commit {B : Nat} {s : st_S} {K : Int32 → ab_Z → ab_F → ab_F → Prop} {KX : String → ab_Z → ab_F → ab_F → Prop} {Z : ab_Z} {I A : ab_F} (r : RCs B s Z I A) (hB : B < 2 ^ 29) (o : oC [xSt, xUn] (B + 1) (s_commit s) K KX) : wX11_commitBarrier K KX Z I A := by
  refine c_refCommit r.1.1 r.1.2 ?_
  by_cases q : s.1 10 = 0
  · rw [if_pos q]
    exact dm3 (o.x (c := 0) (by unfold s_commit; rw [if_pos q]) rfl (by omega) r)
  · rw [if_neg q]
    by_cases e : m_pc s.1 = 0
    · rw [if_pos e]
      refine dm0 (c_remember r (fun Z' I' A' x' => ?_))
      refine c_commit x'.1.1 x'.1.2 hB e q (fun I2 A2 r2 ek2 => ?_)
      exact o.k (by unfold s_commit; rw [if_neg q, if_pos e]) (Nat.le_refl _) (RC_s (B := B) (B' := B + 1) x' (by omega) r2 (Iv_com (by omega) x'.1.2 e) ek2)
    · rw [if_neg e]
      exact dm5 (o.x (c := 1) (by unfold s_commit; rw [if_neg q, if_neg e]) rfl (by omega) r)
theorem f_abandon {B : Nat} {s : st_S} {K : Int32 → ab_Z → ab_F → ab_F → Prop} {KX : String → ab_Z → ab_F → ab_F → Prop} {Z : ab_Z} {I A : ab_F} (r : RCs B s Z I A) (o : oC [xSt] (B + 1) (s_abandon s) K KX) : wX11_abandonBarrier K KX Z I A := by
  refine c_refAbandon r.1.1 ?_
  by_cases q : s.1 10 = 0
  · rw [if_pos q]
    exact dm3 (o.x (c := 0) (by unfold s_abandon; rw [if_pos q]) rfl (by omega) r)
  · rw [if_neg q]
    refine dm0 (c_remember r (fun Z' I' A' x' => ?_))
    refine c_abandon x'.1.1 x'.1.2 (fun I2 A2 r2 ek2 => ?_)
    exact o.k (by unfold s_abandon; rw [if_neg q]) (Nat.le_refl _) (RC_s (B := B) (B' := B + 1) x' (by omega) r2 ((Iv_b0 x'.1.2).mono (Nat.le_succ B)) ek2)
theorem f_crash {B : Nat} {s : st_S} {K : Int32 → ab_Z → ab_F → ab_F → Prop} {KX : String → ab_Z → ab_F → ab_F → Prop} {Z : ab_Z} {I A : ab_F} (r : RCs B s Z I A) (o : oC [] (B + 1) (s_crash s) K KX) : wX11_crash K Z I A := by
  refine c_remember r (fun Z' I' A' x' => c_crashAll x'.1.1 x'.1.2 (fun I2 A2 r2 ek2 => ?_))
  exact o.k rfl (Nat.le_refl _) (RC_s (B := B) (B' := B + 1) x' (by omega) r2 ((Iv_crs x'.1.2).1.mono (Nat.le_succ B)) ek2)
theorem f_roll {B : Nat} {s : st_S} {x : Int32} {K : Int32 → ab_Z → ab_F → ab_F → Prop} {KX : String → ab_Z → ab_F → ab_F → Prop} {Z : ab_Z} {I A : ab_F} (r : RCs B s Z I A) (o : oC [xIx, xEl, xSt] (B + 1) (s_roll s x) K KX) : wX11_rollback K KX Z I A x := by
  refine c_refRestore r.1.1 r.1.2 (fun e => dm1 (o.x (c := 0) (by unfold s_roll; rw [if_pos e]) rfl (by omega) r)) (fun p e hp hp6 ep => ?_)
  have en : nn x = p := by rw [ep]; exact nn_nI (by omega)
  have e1 : ¬ m_lt x (m_P s.1) = false := by rw [e]; decide
  by_cases q : s.1 (26 + p) = -1
  · rw [if_pos q]
    exact dm4 (o.x (c := 1) (by unfold s_roll; rw [if_neg e1, en, if_pos q]) rfl (by omega) r)
  · rw [if_neg q]
    by_cases q2 : m_has (s.1 10) p = true
    · rw [if_pos q2]
      exact dm3 (o.x (c := 2) (by unfold s_roll; rw [if_neg e1, en, if_neg q, if_pos q2]) rfl (by omega) r)
    · rw [if_neg q2]
      refine dm0 (c_remember r (fun Z' I' A' x' => ?_))
      rw [ep]
      refine c_restore x'.1.1 x'.1.2 hp6 (b_f q2) (fun I2 A2 r2 ek2 => ?_)
      exact o.k (by unfold s_roll; rw [if_neg e1, en, if_neg q, if_neg q2]) (Nat.le_refl _) (RC_s (B := B) (B' := B + 1) x' (by omega) r2 ((Iv_rs x'.1.2 hp6 (b_f q2)).1.mono (Nat.le_succ B)) ek2)
theorem f_evict {B : Nat} {s : st_S} {x y : Int32} {K : Int32 → ab_Z → ab_F → ab_F → Prop} {KX : String → ab_Z → ab_F → ab_F → Prop} {Z : ab_Z} {I A : ab_F} (r : RCs B s Z I A) (o : oC [xIx, xUn, xSt] (B + 1) (s_evict s x y) K KX) : wX11_evictPage K KX Z I A x y := by
  refine c_refEvict r.1.1 r.1.2 (fun e => dm1 (o.x (c := 0) (by unfold s_evict; rw [if_pos e]) rfl (by omega) r)) (fun k e hk ht ek ex u => ?_)
  have em := m_id_k ek hk
  have ru : RCs B s Z I (wrow A 31 u) := RC_k r (Kc_u u)
  have e1 : ¬ m_pg s.1 x y = false := by rw [e]; decide
  by_cases q : s.1 (128 + k) = -1
  · rw [if_pos q]
    exact dm5 (o.x (c := 1) (by unfold s_evict; rw [if_neg e1, em, if_pos q]) rfl (by omega) ru)
  · rw [if_neg q]
    by_cases q2 : (decide (s.1 (176 + k) = nI 1) && (m_nf s.1).isNone) = true
    · rw [if_pos q2]
      exact dm3 (o.x (c := 2) (by unfold s_evict; rw [if_neg e1, em, if_neg q, if_pos q2]) rfl (by omega) ru)
    · rw [if_neg q2]
      refine dm0 (c_remember ru (fun Z' I' A' x' => ?_))
      unfold wX11_idOf
      rw [ek]
      obtain ⟨f, hf, ef, -⟩ := Fr_get x'.1.2.2.1 hk q
      have hn : s.1 (176 + k) = nI 1 → ∃ t, m_nf s.1 = some t := by
        intro hd
        rw [decide_eq_true hd, Bool.true_and] at q2
        cases hh : m_nf s.1 with
        | some t => exact ⟨t, rfl⟩
        | none => rw [hh] at q2; exact absurd rfl q2
      refine c_evict x'.1.1 x'.1.2 hk hf ef hn (fun I2 A2 r2 ek2 => ?_)
      exact o.k (by unfold s_evict; rw [if_neg e1, em, if_neg q, if_neg q2]) (Nat.le_refl _) (RC_s (B := B) (B' := B + 1) x' (by omega) r2 ((Iv_ev x'.1.2 hk hf ef hn).1.mono (Nat.le_succ B)) ek2)
theorem f_undo {B : Nat} {s : st_S} {K : Int32 → ab_Z → ab_F → ab_F → Prop} {KX : String → ab_Z → ab_F → ab_F → Prop} {Z : ab_Z} {I A : ab_F} (r : RCs B s Z I A) (o : oC [xSt] (B + 1) (s_undo s) K KX) : wX11_undo K KX Z I A :=
  c_undo r (fun e => o.x (c := 0) (by unfold s_undo; rw [if_pos e]) rfl (by omega) r) (fun e I' A' x' => o.k (s := (h_u s.2.1 s.1, (s.2.1.1, s.2.1.2 - 1), s.2.2)) (B0 := B) (by unfold s_undo; rw [if_neg (by omega)]) (by omega) x')
