/-! the operations of a script: the row behind one, if it goes -/
def x_rd (w : Nat → Int32) (x y : Int32) : Option (Nat → Int32) := if m_pg w x y = false then none else if m_stk w (m_id x y) false = true then none else some (m_acc w (m_id x y))
def x_wr (w : Nat → Int32) (x y v : Int32) : Option (Nat → Int32) := if m_pg w x y = false then none else if m_stk w (m_id x y) true = true then none else some (m_wri w (m_id x y) v)
def x_st (w : Nat → Int32) (x : Int32) : Option (Nat → Int32) := if m_set w x = false then none else if w 10 = 0 then some (m_sta w x) else none
def x_fl (w : Nat → Int32) (x : Int32) : Option (Nat → Int32) := if m_148 x = false then none else if w 10 = 0 then none else some (m_fl 48 0 (nn x) w)
def x_cm (w : Nat → Int32) : Option (Nat → Int32) := if w 10 = 0 then none else if m_pc w = 0 then some (m_com w) else none
def x_ab (w : Nat → Int32) : Option (Nat → Int32) := if w 10 = 0 then none else some (m_ab w)
def x_rb (w : Nat → Int32) (x : Int32) : Option (Nat → Int32) := if m_lt x (m_P w) = false then none else if w (26 + nn x) = -1 then none else if m_has (w 10) (nn x) = true then none else some (m_rst w (nn x))
def x_ev (w : Nat → Int32) (x y : Int32) : Option (Nat → Int32) := if m_pg w x y = false then none else if w (128 + m_id x y) = -1 then none else if (decide (w (176 + m_id x y) = nI 1) && (m_nf w).isNone) = true then none else some (m_ev w (m_id x y))
def x_op (w : Nat → Int32) (c : Nat) (x y v : Int32) : Option (Nat → Int32) := match c with
  | 0 => x_rd w x y
  | 1 => x_wr w x y v
  | 2 => x_st w x
  | 3 => x_fl w x
  | 4 => x_cm w
  | 5 => x_ab w
  | 6 => some (m_crs w)
  | 7 => x_rb w x
  | _ => x_ev w x y
/-- slots that get free -/
theorem cn_imp {p q : Nat → Bool} : ∀ {n : Nat}, (∀ k, k < n → p k = true → q k = true) → cn p n ≤ cn q n
  | 0, _ => Nat.le_refl _
  | n + 1, h => by
    have ih := cn_imp (n := n) (fun k hk => h k (by omega))
    show cn p n + (if p n = true then 1 else 0) ≤ cn q n + (if q n = true then 1 else 0)
    by_cases c : p n = true
    · rw [if_pos c, if_pos (h n (by omega) c)]; omega
    · rw [if_neg c]; omega
theorem b3_z {a b c : Bool} : b3 a b c = 0 ↔ a = false ∧ b = false ∧ c = false := by cases a <;> cases b <;> cases c <;> decide
theorem use_sub {w w' : Nat → Int32} {s : Int32} (h1 : ∀ k, k < 48 → m_u1 w' s k = true → m_u1 w s k = true) (h2 : ∀ k, k < 48 → m_u2 w' s k = true → m_u2 w s k = true ∨ m_u4 w s k = true) (h4 : ∀ k, k < 48 → m_u4 w' s k = true → m_u4 w s k = true) (h : m_use w s = 0) : m_use w' s = 0 := by
  unfold m_use at h ⊢
  rw [b3_z] at h ⊢
  obtain ⟨a, b, c⟩ := h
  have fa : ∀ {p : Nat → Bool}, ex p 48 = false → ∀ k, k < 48 → p k = true → False := fun e k hk q => by
    rw [ex_iff.mpr ⟨k, hk, q⟩] at e; exact nomatch e
  have tr : ∀ {p : Nat → Bool}, (∀ k, k < 48 → p k = true → False) → ex p 48 = false := fun {p} f => by
    cases e : ex p 48 with
    | false => rfl
    | true => obtain ⟨k, hk, q⟩ := ex_iff.mp e; exact (f k hk q).elim
  exact ⟨tr (fun k hk q => fa a k hk (h1 k hk q)), tr (fun k hk q => (h2 k hk q).elim (fa b k hk) (fa c k hk)), tr (fun k hk q => fa c k hk (h4 k hk q))⟩
theorem fd_pos {w w' : Nat → Int32} (eS : m_S w' = m_S w) (hS : m_S w ≤ 48) (h : ∀ s, m_use w s = 0 → m_use w' s = 0) : ¬ m_fd w w' < 0 := by
  have q : m_free w ≤ m_free w' := by
    unfold m_free
    rw [eS]
    exact cn_imp (fun k hk e => decide_eq_true (h _ (of_decide_eq_true e)))
  unfold m_fd
  rw [nI_sb q]
  have : m_free w' ≤ 48 := by
    have := cn_le (p := m_fr w') (m_S w')
    unfold m_free; omega
  exact nI_pos (by omega)
theorem th_eq {w w' : Nat → Int32} (h : ∀ p, p < 6 → w' (20 + p) = w (20 + p)) {k : Nat} (hk : k < 48) : m_th w' k = m_th w k := by
  unfold m_th m_C
  rw [h (k / 8) (by omega)]
theorem ab_pos {B : Nat} {w : Nat → Int32} (x : Iv B w) : ¬ m_fd w (m_ab w) < 0 := by
  have e : ∀ j, j ≠ 10 → m_ab w j = w j := fun j h => uw_ne h
  have e10 : m_ab w 10 = nI 0 := uw_at _ _ _
  refine fd_pos (by show nn _ = nn _; rw [e 1 (by omega)]) x.1.2.1.2.2 (fun s h => use_sub (fun k hk q => ?_) (fun k hk q => Or.inl ?_) (fun k hk q => ?_) h)
  · unfold m_u1 at q ⊢
    rw [th_eq (fun p hp => e _ (by omega)) hk, e _ (by omega)] at q; exact q
  · unfold m_u2 at q ⊢
    rw [th_eq (fun p hp => e _ (by omega)) hk, e (26 + k / 8) (by omega), e (272 + k) (by omega)] at q; exact q
  · unfold m_u4 at q
    rw [e10, has_0, Bool.false_and, Bool.and_false] at q; exact nomatch q
theorem c5_pos {B : Nat} {w : Nat → Int32} (x : Iv B w) : ¬ m_fd w (m_c5 w) < 0 := by
  have e4 : ∀ v j, j ≠ 10 → (j < 576) → m_c4 v j = v j := fun v j h1 h2 => by unfold m_c4; rw [uw_ne h1, uw_ne (by omega), uw_ne (by omega), uw_ne (by omega)]
  have e3 : ∀ v j, j < 576 → m_c3 v 3 j = v j := fun v j h => if_neg (by omega)
  have e : ∀ j, j ≠ 10 → j < 576 → m_c5 w j = m_c2 (m_c1 w 48) (m_P w) j := fun j h1 h2 => by unfold m_c5; rw [e4 _ j h1 h2, e3 _ j h2]
  have e10 : m_c5 w 10 = nI 0 := by unfold m_c5 m_c4; rw [uw_at]
  have e2 : ∀ v n j, (j < 26 ∨ 32 ≤ j) → n ≤ 6 → m_c2 v n j = v j := fun v n j h hn => if_neg (by omega)
  have e1 : ∀ j, j < 272 → m_c1 w 48 j = w j := fun j h => if_neg (by omega)
  have hP := x.1.2.2.1.2
  have ew : ∀ j, j ≠ 10 → j < 272 → (j < 26 ∨ 32 ≤ j) → m_c5 w j = w j := fun j h1 h2 h3 => by rw [e j h1 (by omega), e2 _ _ j h3 hP, e1 j h2]
  refine fd_pos (by show nn _ = nn _; rw [ew 1 (by omega) (by omega) (by omega)]) x.1.2.1.2.2 (fun s h => use_sub (fun k hk q => ?_) (fun k hk q => ?_) (fun k hk q => ?_) h)
  · unfold m_u1 at q ⊢
    rw [th_eq (fun p hp => ew _ (by omega) (by omega) (by omega)) hk, ew _ (by omega) (by omega) (by omega)] at q; exact q
  · unfold m_u2 at q
    rw [th_eq (fun p hp => ew _ (by omega) (by omega) (by omega)) hk, e (26 + k / 8) (by omega) (by omega), e (272 + k) (by omega) (by omega), e2 _ _ (272 + k) (by omega) hP] at q
    by_cases hh : m_has (w 10) (k / 8) = true
    · refine Or.inr ?_
      unfold m_u4
      rw [show m_c1 w 48 (272 + k) = w (224 + k) from by unfold m_c1; rw [if_pos ⟨by omega, by rw [show 272 + k - 272 = k by omega]; exact hh⟩, show 272 + k - 48 = 224 + k by omega]] at q
      rw [hh, Bool.true_and]
      rw [Bool.and_eq_true, Bool.and_eq_true] at q
      rw [Bool.and_eq_true]
      exact ⟨q.1, q.2.2⟩
    · refine Or.inl ?_
      unfold m_u2
      rw [show m_c1 w 48 (272 + k) = w (272 + k) from by unfold m_c1; rw [if_neg (fun c => hh (by have := c.2; rw [show 272 + k - 272 = k by omega] at this; exact this))], show m_c2 (m_c1 w 48) (m_P w) (26 + k / 8) = w (26 + k / 8) from by
        unfold m_c2
        rw [if_neg (fun c => hh (by have := c.2; rw [show 26 + k / 8 - 26 = k / 8 by omega, e1 10 (by omega)] at this; exact this)), e1 _ (by omega)]] at q
      exact q
  · unfold m_u4 at q
    rw [e10, has_0, Bool.false_and, Bool.and_false] at q; exact nomatch q
theorem c9 {c : Nat} (h : c < 9) : c = 0 ∨ c = 1 ∨ c = 2 ∨ c = 3 ∨ c = 4 ∨ c = 5 ∨ c = 6 ∨ c = 7 ∨ c = 8 := by omega
/-- the class: may it go, then it goes -/
theorem c_op {Kn Kx : ab_F → ab_F → Prop} {I A : ab_F} {B c : Nat} {w : Nat → Int32} (hc : c < 9) (r : Rs 8 I A w) (xv : Iv B w) (hB : B + 1 < 2 ^ 29) (h1 : x_op w c (A 7 0) (A 7 1) (A 7 2) = none → ∀ A', Rs 8 I A' w → Ek I A I A' → Kx I A') (h2 : ∀ w', x_op w c (A 7 0) (A 7 1) (A 7 2) = some w' → ∀ I' A', Rs 8 I' A' w' → Iv (B + 1) w' → Ek I A I' A' → Kn I' A') : wX6_refusal (fun r I A => (r = 0 → wX6_execute Kn I A (nI c)) ∧ (¬ r = 0 → Kx I A)) I A (nI c) := by
  have eu : ∀ u j, (wrow A 31 u) 7 j = A 7 j := fun u j => congrFun (wrow_ne (by omega)) j
  rcases c9 hc with e | e | e | e | e | e | e | e | e <;> subst e
  · refine ⟨fun _ => ?_, fun h => absurd h (by decide), fun h => absurd h (by decide), fun h => absurd h (by decide), fun h => absurd h (by decide), fun h => absurd h (by decide), fun h => absurd h (by decide), fun h => absurd h (by decide), fun h => absurd h (by decide)⟩
    refine c_refRead r xv (fun e => br_f (by decide) (h1 (show x_rd w _ _ = none by unfold x_rd; rw [if_pos e]) A r (Ek.refl I A))) (fun k e hk ht ek ex u => ?_)
    have em := m_id_k ek hk
    have e1 : ¬ m_pg w (A 7 0) (A 7 1) = false := by rw [e]; decide
    by_cases q : m_stk w k false = true
    · rw [if_pos q]
      exact br_f (by decide) (h1 (show x_rd w _ _ = none by unfold x_rd; rw [if_neg e1, em, if_pos q]) _ (Rs_31 r) (Ek_u u))
    · rw [if_neg q]
      refine br_t rfl ?_
      unfold wX6_execute wX11_idOf
      rw [eu, eu, ek]
      refine ⟨fun _ => ?_, fun h => absurd h (by decide), fun h => absurd h (by decide), fun h => absurd h (by decide), fun h => absurd h (by decide), fun h => absurd h (by decide), fun h => absurd h (by decide), fun h => absurd h (by decide), fun h => absurd h (by decide)⟩
      obtain ⟨f, hf, iv, -⟩ := Iv_acc xv hk ht (b_f q)
      exact c_read (Rs_31 r) xv (by omega) hk (b_f q) (fun I2 A2 r2 ek2 => h2 _ (show x_rd w _ _ = some _ by unfold x_rd; rw [if_neg e1, em, if_neg q]) I2 A2 r2 iv ((Ek_u u).trans ek2))
  · refine ⟨fun h => absurd h (by decide), fun _ => ?_, fun h => absurd h (by decide), fun h => absurd h (by decide), fun h => absurd h (by decide), fun h => absurd h (by decide), fun h => absurd h (by decide), fun h => absurd h (by decide), fun h => absurd h (by decide)⟩
    refine c_refWrite r xv (fun e => br_f (by decide) (h1 (show x_wr w _ _ _ = none by unfold x_wr; rw [if_pos e]) A r (Ek.refl I A))) (fun k e hk ht ek ex u => ?_)
    have em := m_id_k ek hk
    have e1 : ¬ m_pg w (A 7 0) (A 7 1) = false := by rw [e]; decide
    by_cases q : m_stk w k true = true
    · rw [if_pos q]
      exact br_f (by decide) (h1 (show x_wr w _ _ _ = none by unfold x_wr; rw [if_neg e1, em, if_pos q]) _ (Rs_31 r) (Ek_u u))
    · rw [if_neg q]
      refine br_t rfl ?_
      unfold wX6_execute wX11_idOf
      rw [eu, eu, ek]
      refine ⟨fun h => absurd h (by decide), fun _ => ?_, fun h => absurd h (by decide), fun h => absurd h (by decide), fun h => absurd h (by decide), fun h => absurd h (by decide), fun h => absurd h (by decide), fun h => absurd h (by decide), fun h => absurd h (by decide)⟩
      rw [eu]
      exact c_write (Rs_31 r) xv (by omega) hk ht (b_f q) (fun I2 A2 r2 ek2 => h2 _ (show x_wr w _ _ _ = some _ by unfold x_wr; rw [if_neg e1, em, if_neg q]) I2 A2 r2 (Iv_wri xv hk ht (b_f q)) ((Ek_u u).trans ek2))
  · refine ⟨fun h => absurd h (by decide), fun h => absurd h (by decide), fun _ => ?_, fun h => absurd h (by decide), fun h => absurd h (by decide), fun h => absurd h (by decide), fun h => absurd h (by decide), fun h => absurd h (by decide), fun h => absurd h (by decide)⟩
    refine c_refStart r xv.1 ?_
    by_cases e : m_set w (A 7 0) = false
    · rw [if_pos e]
      exact br_f (by decide) (h1 (show x_st w _ = none by unfold x_st; rw [if_pos e]) A r (Ek.refl I A))
    · rw [if_neg e]
      by_cases q : w 10 = 0
      · rw [if_pos q]
        refine br_t rfl ?_
        unfold wX6_execute wX11_idOf
        refine ⟨fun h => absurd h (by decide), fun h => absurd h (by decide), fun _ => ?_, fun h => absurd h (by decide), fun h => absurd h (by decide), fun h => absurd h (by decide), fun h => absurd h (by decide), fun h => absurd h (by decide), fun h => absurd h (by decide)⟩
        obtain ⟨b, hb, hb0, eb, -⟩ := m_set_of xv.1 (by cases h : m_set w (A 7 0) with
          | true => rfl
          | false => exact absurd h e)
        have eo : x_op w 2 (A 7 0) (A 7 1) (A 7 2) = some (m_sta w (nI b)) := by show x_st w _ = _; unfold x_st; rw [if_neg e, if_pos q, eb]
        rw [eb]
        exact c_start r xv q hb (fun I2 A2 r2 ek2 => h2 _ eo I2 A2 r2 (Iv_sta xv hb) ek2)
      · rw [if_neg q]
        exact br_f (by decide) (h1 (show x_st w _ = none by unfold x_st; rw [if_neg e, if_neg q]) A r (Ek.refl I A))
  · refine ⟨fun h => absurd h (by decide), fun h => absurd h (by decide), fun h => absurd h (by decide), fun _ => ?_, fun h => absurd h (by decide), fun h => absurd h (by decide), fun h => absurd h (by decide), fun h => absurd h (by decide), fun h => absurd h (by decide)⟩
    refine c_refFlush r ?_
    by_cases e : m_148 (A 7 0) = false
    · rw [if_pos e]
      exact br_f (by decide) (h1 (show x_fl w _ = none by unfold x_fl; rw [if_pos e]) A r (Ek.refl I A))
    · rw [if_neg e]
      by_cases q : w 10 = 0
      · rw [if_pos q]
        exact br_f (by decide) (h1 (show x_fl w _ = none by unfold x_fl; rw [if_neg e, if_pos q]) A r (Ek.refl I A))
      · rw [if_neg q]
        refine br_t rfl ?_
        unfold wX6_execute wX11_idOf
        refine ⟨fun h => absurd h (by decide), fun h => absurd h (by decide), fun h => absurd h (by decide), fun _ => ?_, fun h => absurd h (by decide), fun h => absurd h (by decide), fun h => absurd h (by decide), fun h => absurd h (by decide), fun h => absurd h (by decide)⟩
        obtain ⟨n, n1, n2, ex, en⟩ := m_148_of (by cases h : m_148 (A 7 0) with
          | true => rfl
          | false => exact absurd h e)
        have eo : x_op w 3 (A 7 0) (A 7 1) (A 7 2) = some (m_fl 48 0 n w) := by show x_fl w _ = _; unfold x_fl; rw [if_neg e, if_neg q, en]
        rw [ex]
        exact c_flush r xv (by omega) (fun I2 A2 r2 ek2 => h2 _ eo I2 A2 r2 ((Iv_fl 48 0 n w rfl xv).mono (Nat.le_succ B)) ek2)
  · refine ⟨fun h => absurd h (by decide), fun h => absurd h (by decide), fun h => absurd h (by decide), fun h => absurd h (by decide), fun _ => ?_, fun h => absurd h (by decide), fun h => absurd h (by decide), fun h => absurd h (by decide), fun h => absurd h (by decide)⟩
    refine c_refCommit r xv ?_
    by_cases q : w 10 = 0
    · rw [if_pos q]
      exact br_f (by decide) (h1 (show x_cm w = none by unfold x_cm; rw [if_pos q]) A r (Ek.refl I A))
    · rw [if_neg q]
      by_cases e : m_pc w = 0
      · rw [if_pos e]
        refine br_t rfl ?_
        unfold wX6_execute wX11_idOf
        refine ⟨fun h => absurd h (by decide), fun h => absurd h (by decide), fun h => absurd h (by decide), fun h => absurd h (by decide), fun _ => ?_, fun h => absurd h (by decide), fun h => absurd h (by decide), fun h => absurd h (by decide), fun h => absurd h (by decide)⟩
        exact c_commit r xv (by omega) e q (fun I2 A2 r2 ek2 => h2 _ (show x_cm w = some _ by unfold x_cm; rw [if_neg q, if_pos e]) I2 A2 r2 (Iv_com (by omega) xv e) ek2)
      · rw [if_neg e]
        exact br_f (by decide) (h1 (show x_cm w = none by unfold x_cm; rw [if_neg q, if_neg e]) A r (Ek.refl I A))
  · refine ⟨fun h => absurd h (by decide), fun h => absurd h (by decide), fun h => absurd h (by decide), fun h => absurd h (by decide), fun h => absurd h (by decide), fun _ => ?_, fun h => absurd h (by decide), fun h => absurd h (by decide), fun h => absurd h (by decide)⟩
    refine c_refAbandon r ?_
    by_cases q : w 10 = 0
    · rw [if_pos q]
      exact br_f (by decide) (h1 (show x_ab w = none by unfold x_ab; rw [if_pos q]) A r (Ek.refl I A))
    · rw [if_neg q]
      refine br_t rfl ?_
      unfold wX6_execute wX11_idOf
      refine ⟨fun h => absurd h (by decide), fun h => absurd h (by decide), fun h => absurd h (by decide), fun h => absurd h (by decide), fun h => absurd h (by decide), fun _ => ?_, fun h => absurd h (by decide), fun h => absurd h (by decide), fun h => absurd h (by decide)⟩
      exact c_abandon r xv (fun I2 A2 r2 ek2 => h2 _ (show x_ab w = some _ by unfold x_ab; rw [if_neg q]) I2 A2 r2 ((Iv_b0 xv).mono (Nat.le_succ B)) ek2)
  · refine ⟨fun h => absurd h (by decide), fun h => absurd h (by decide), fun h => absurd h (by decide), fun h => absurd h (by decide), fun h => absurd h (by decide), fun h => absurd h (by decide), fun _ => ?_, fun h => absurd h (by decide), fun h => absurd h (by decide)⟩
    refine br_t rfl ?_
    unfold wX6_execute wX11_idOf
    refine ⟨fun h => absurd h (by decide), fun h => absurd h (by decide), fun h => absurd h (by decide), fun h => absurd h (by decide), fun h => absurd h (by decide), fun h => absurd h (by decide), fun _ => ?_, fun h => absurd h (by decide), fun h => absurd h (by decide)⟩
    exact c_crashAll r xv (fun I2 A2 r2 ek2 => h2 _ rfl I2 A2 r2 ((Iv_crs xv).1.mono (Nat.le_succ B)) ek2)
  · refine ⟨fun h => absurd h (by decide), fun h => absurd h (by decide), fun h => absurd h (by decide), fun h => absurd h (by decide), fun h => absurd h (by decide), fun h => absurd h (by decide), fun h => absurd h (by decide), fun _ => ?_, fun h => absurd h (by decide)⟩
    refine c_refRestore r xv (fun e => br_f (by decide) (h1 (show x_rb w _ = none by unfold x_rb; rw [if_pos e]) A r (Ek.refl I A))) (fun p e hp hp6 ep => ?_)
    have en : nn (A 7 0) = p := by rw [ep]; exact nn_nI (by omega)
    have e1 : ¬ m_lt (A 7 0) (m_P w) = false := by rw [e]; decide
    by_cases q : w (26 + p) = -1
    · rw [if_pos q]
      exact br_f (by decide) (h1 (show x_rb w _ = none by unfold x_rb; rw [if_neg e1, en, if_pos q]) A r (Ek.refl I A))
    · rw [if_neg q]
      by_cases q2 : m_has (w 10) p = true
      · rw [if_pos q2]
        exact br_f (by decide) (h1 (show x_rb w _ = none by unfold x_rb; rw [if_neg e1, en, if_neg q, if_pos q2]) A r (Ek.refl I A))
      · rw [if_neg q2]
        refine br_t rfl ?_
        unfold wX6_execute wX11_idOf
        refine ⟨fun h => absurd h (by decide), fun h => absurd h (by decide), fun h => absurd h (by decide), fun h => absurd h (by decide), fun h => absurd h (by decide), fun h => absurd h (by decide), fun h => absurd h (by decide), fun _ => ?_, fun h => absurd h (by decide)⟩
        have eo : x_op w 7 (A 7 0) (A 7 1) (A 7 2) = some (m_rst w p) := by show x_rb w _ = _; unfold x_rb; rw [if_neg e1, en, if_neg q, if_neg q2]
        rw [ep]
        exact c_restore r xv hp6 (b_f q2) (fun I2 A2 r2 ek2 => h2 _ eo I2 A2 r2 ((Iv_rs xv hp6 (b_f q2)).1.mono (Nat.le_succ B)) ek2)
  · refine ⟨fun h => absurd h (by decide), fun h => absurd h (by decide), fun h => absurd h (by decide), fun h => absurd h (by decide), fun h => absurd h (by decide), fun h => absurd h (by decide), fun h => absurd h (by decide), fun h => absurd h (by decide), fun _ => ?_⟩
    refine c_refEvict r xv (fun e => br_f (by decide) (h1 (show x_ev w _ _ = none by unfold x_ev; rw [if_pos e]) A r (Ek.refl I A))) (fun k e hk ht ek ex u => ?_)
    have em := m_id_k ek hk
    have e1 : ¬ m_pg w (A 7 0) (A 7 1) = false := by rw [e]; decide
    by_cases q : w (128 + k) = -1
    · rw [if_pos q]
      exact br_f (by decide) (h1 (show x_ev w _ _ = none by unfold x_ev; rw [if_neg e1, em, if_pos q]) _ (Rs_31 r) (Ek_u u))
    · rw [if_neg q]
      by_cases q2 : (decide (w (176 + k) = nI 1) && (m_nf w).isNone) = true
      · rw [if_pos q2]
        exact br_f (by decide) (h1 (show x_ev w _ _ = none by unfold x_ev; rw [if_neg e1, em, if_neg q, if_pos q2]) _ (Rs_31 r) (Ek_u u))
      · rw [if_neg q2]
        refine br_t rfl ?_
        unfold wX6_execute wX11_idOf
        rw [eu, eu, ek]
        refine ⟨fun h => absurd h (by decide), fun h => absurd h (by decide), fun h => absurd h (by decide), fun h => absurd h (by decide), fun h => absurd h (by decide), fun h => absurd h (by decide), fun h => absurd h (by decide), fun h => absurd h (by decide), fun _ => ?_⟩
        obtain ⟨f, hf, ef, -⟩ := Fr_get xv.2.1 hk q
        have hn : w (176 + k) = nI 1 → ∃ t, m_nf w = some t := by
          intro hd
          rw [decide_eq_true hd, Bool.true_and] at q2
          cases hh : m_nf w with
          | some t => exact ⟨t, rfl⟩
          | none => rw [hh] at q2; exact absurd rfl q2
        exact c_evict (Rs_31 r) xv hk hf ef hn (fun I2 A2 r2 ek2 => h2 _ (show x_ev w _ _ = some _ by unfold x_ev; rw [if_neg e1, em, if_neg q, if_neg q2]) I2 A2 r2 ((Iv_ev xv hk hf ef hn).1.mono (Nat.le_succ B)) ((Ek_u u).trans ek2))
