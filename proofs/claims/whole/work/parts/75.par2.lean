/-! the processes, one after another, into a row -/
def p_rw (w : Nat → Int32) (n : Nat) (k c : Int32) : Nat → Int32 := uw (uw (uw w (14 + n) k) (20 + n) c) 3 (nI (n + 1))
def p_lp (t : st_T) : Nat → Nat → (Nat → Int32) → tok → (Nat × Nat) × Nat × (Nat → Int32)
  | 0, n, w, _ => ((1, 0), n, w)
  | f + 1, n, w, T => if (p_pr t T n).1 ≠ 0 then (p_pr t T n, n, w) else if (n4 t T).2.2 = 0 then ((0, 0), n + 1, p_rw w n (nI (p_kd t (n1 t T))) (tv t (n2 t T))) else p_lp t f (n + 1) (p_rw w n (nI (p_kd t (n1 t T))) (tv t (n2 t T))) (n4 t T)
/-- the class's reading stands for the row -/
def Sx (I A : ab_F) (n : Nat) (w : Nat → Int32) : Prop := I 3 3 = w 0 ∧ I 3 4 = w 1 ∧ I 3 5 = w 2 ∧ I 3 6 = nI n ∧ ∀ i, i < n → A 4 i = w (14 + i) ∧ A 5 i = w (20 + i)
theorem rw_at (w : Nat → Int32) {n : Nat} (k c : Int32) (hn : n < 6) : p_rw w n k c 3 = nI (n + 1) ∧ p_rw w n k c (14 + n) = k ∧ p_rw w n k c (20 + n) = c := by
  unfold p_rw
  refine ⟨uw_at _ _ _, ?_, ?_⟩
  · rw [uw_ne (by omega), uw_ne (by omega), uw_at]
  · rw [uw_ne (by omega), uw_at]
theorem rw_ne (w : Nat → Int32) {n j : Nat} (k c : Int32) (h1 : j ≠ 3) (h2 : j ≠ 14 + n) (h3 : j ≠ 20 + n) : p_rw w n k c j = w j := by
  unfold p_rw
  rw [uw_ne h1, uw_ne h3, uw_ne h2]
theorem Sx_rw {I A I' : ab_F} {n : Nat} {w : Nat → Int32} {k c : Int32} (hn : n < 6) (s : Sx I A n w) (u : ∀ i, i ≠ 6 → I' 3 i = I 3 i) (u6 : I' 3 6 = nI (n + 1)) : Sx I' (wr (wr A 4 n k) 5 n c) (n + 1) (p_rw w n k c) := by
  refine ⟨(u 3 (by omega)).trans (s.1.trans (rw_ne w k c (by omega) (by omega) (by omega)).symm), (u 4 (by omega)).trans (s.2.1.trans (rw_ne w k c (by omega) (by omega) (by omega)).symm), (u 5 (by omega)).trans (s.2.2.1.trans (rw_ne w k c (by omega) (by omega) (by omega)).symm), u6, fun i hi => ?_⟩
  have a := rw_at w k c hn
  by_cases e : i = n
  · subst e
    rw [a.2.1, a.2.2]
    exact ⟨(congrFun (wr_ne (by omega)) _).trans (wr_ate _ _ _ _), wr_ate _ _ _ _⟩
  · have q := s.2.2.2.2 i (by omega)
    rw [rw_ne w k c (j := 14 + i) (by omega) (by omega) (by omega), rw_ne w k c (j := 20 + i) (by omega) (by omega) (by omega), ← q.1, ← q.2]
    exact ⟨(congrFun (wr_ne (by omega)) _).trans (wr_nei e), (wr_nei e).trans (congrFun (wr_ne (by omega)) _)⟩
theorem nI_le0 {n : Nat} (hn : n < 2 ^ 31) : nI n ≤ 0 ↔ n = 0 := by
  constructor
  · intro h
    by_cases c : n = 0
    · exact c
    · exact absurd h (nI_ge (a := 0) (by omega) hn)
  · intro h; subst h; decide
theorem c_plp {K : Int32 → ab_F → ab_F → Prop} {t : st_T} : ∀ f n w T I A, f + n = 7 → 1 ≤ f → (n = 0 ∨ T.2.2 ≠ 0) → Sx I A n w → TxC t I A → TcC T I → To t T → ((p_lp t f n w T).1.1 = 0 → ∀ I' A', Kp I I' → (∀ c, c ≠ 4 → c ≠ 5 → A' c = A c) → TxC t I' A' → (I' 3 1 = I 3 1 ∧ I' 3 2 = I 3 2) → Sx I' A' (p_lp t f n w T).2.1 (p_lp t f n w T).2.2 → K (nI 1) I' A') → ((p_lp t f n w T).1.1 ≠ 0 → ∀ I' A', I' 3 1 = nI (p_lp t f n w T).1.1 → I' 3 2 = nI (p_lp t f n w T).1.2 → Kp I I' → (∀ c, c ≠ 4 → c ≠ 5 → A' c = A c) → K (nI 0) I' A') → wlX9_parse_33 K (f + 1) (nI n) I A := by
  intro f
  induction f with
  | zero => intro n w T I A hf h1; omega
  | succ f ih =>
    intro n w T I A hf hf1 hT s x y z h0 h1
    have hp : wjX9_parse_58 K (wlX9_parse_33 K (f + 1)) (nI n) I A := by
      refine c_proc (by omega) s.2.2.2.1 x y z (fun e hn I' y' k' x' u u6 => ?_) (fun e I' e1 e2 k' => ?_)
      · refine rb_f (by decide) ?_
        rw [nI_add n 1]
        have s' := Sx_rw (k := nI (p_kd t (n1 t T))) (c := tv t (n2 t T)) hn s u u6
        have ea : ∀ c, c ≠ 4 → c ≠ 5 → (wr (wr A 4 n (nI (p_kd t (n1 t T)))) 5 n (tv t (n2 t T))) c = A c := fun c a b => (wr_ne b).trans (wr_ne a)
        have x2 : TxC t I' (wr (wr A 4 n (nI (p_kd t (n1 t T)))) 5 n (tv t (n2 t T))) := ⟨x'.1, x'.2.1, fun i hi => by rw [ea 2 (by omega) (by omega)]; exact x'.2.2 i hi⟩
        have z4 := n1_To (n1_To (n1_To (n1_To z)))
        by_cases c0 : (n4 t T).2.2 = 0
        · have el : p_lp t (f + 1) n w T = ((0, 0), n + 1, p_rw w n (nI (p_kd t (n1 t T))) (tv t (n2 t T))) := by show (if _ then _ else _) = _; rw [if_neg (fun w => w e), if_pos c0]
          rw [el] at h0
          unfold wlX9_parse_33
          rw [s'.2.2.2.1, y'.2.2, c0]
          exact br_f (fun q => absurd (nI_le (a := n + 1) (b := 6) (by omega) (by omega)) (Int32.not_le.mpr q)) (br_f (nI_ge (a := 0) (by omega) (by omega)) (rb_t rfl (h0 rfl _ _ k' ea x2 ⟨u 1 (by omega), u 2 (by omega)⟩ s')))
        · have el : p_lp t (f + 1) n w T = p_lp t f (n + 1) (p_rw w n (nI (p_kd t (n1 t T))) (tv t (n2 t T))) (n4 t T) := by show (if _ then _ else _) = _; rw [if_neg (fun w => w e), if_neg c0]
          rw [el] at h0 h1
          exact ih (n + 1) _ (n4 t T) I' _ (by omega) (by omega) (Or.inr c0) s' x2 y' z4 (fun e I2 A2 a b d g => h0 e I2 A2 (k'.trans a) (fun c q1 q2 => (b c q1 q2).trans (ea c q1 q2)) d ⟨g.1.trans (u 1 (by omega)), g.2.trans (u 2 (by omega))⟩) (fun e I2 A2 a b d g => h1 e I2 A2 a b (k'.trans d) (fun c q1 q2 => (g c q1 q2).trans (ea c q1 q2)))
      · have el : p_lp t (f + 1) n w T = (p_pr t T n, n, w) := if_pos e
        rw [el] at h1
        exact rb_t rfl (h1 e I' A e1 e2 k' (fun _ _ _ => rfl))
    refine br_f (fun q => absurd (nI_le (a := n) (b := 6) (by omega) (by omega)) (Int32.not_le.mpr q)) ?_
    rw [s.2.2.2.1, nI_le0 (by omega), y.2.2]
    by_cases c : n = 0
    · exact br_t c hp
    · refine br_f c (rb_f (fun q => ?_) hp)
      have := (nI_eq (a := T.2.2) (b := 0) (by have := z.2.2.1; omega) (by omega)).mp q
      omega
/-- the whole text: a code and where, then the count and the row (from a row) -/
def p_sys (t : st_T) (w : Nat → Int32) : (Nat × Nat) × Nat × (Nat → Int32) := if (p_hd t (nt t 0)).1 ≠ 0 then (p_hd t (nt t 0), 0, w) else p_lp t 7 0 (uw (uw (uw w 0 (tv t (n1 t (nt t 0)))) 1 (tv t (n2 t (nt t 0)))) 2 (nI (p_pol t (n3 t (nt t 0))))) (n5 t (nt t 0))
theorem c_parse {K : Int32 → ab_F → ab_F → Prop} {I A : ab_F} {t : st_T} {w : Nat → Int32} (x : TxC t I A) (h0 : (p_sys t w).1.1 = 0 → ∀ I' A', Kp I I' → (∀ c, c ≠ 4 → c ≠ 5 → A' c = A c) → (I' 3 1 = nI 0 ∧ I' 3 2 = -1) → Sx I' A' (p_sys t w).2.1 (p_sys t w).2.2 → K (nI 1) I' A') (h1 : (p_sys t w).1.1 ≠ 0 → ∀ I' A', I' 3 1 = nI (p_sys t w).1.1 → I' 3 2 = nI (p_sys t w).1.2 → Kp I I' → (∀ c, c ≠ 4 → c ≠ 5 → A' c = A c) → K (nI 0) I' A') : wX9_parse K I A := by
  unfold wX9_parse wX10_firstToken
  generalize hJ : wr (wr (wr I 3 1 (nI 0)) 3 2 (-1 : Int32)) 3 6 (nI 0) = J
  have kJ : Kp I J := by subst hJ; exact (Kp_w.trans Kp_w).trans Kp_w
  have j1 : J 3 1 = nI 0 := by subst hJ; exact (wr_nei (by omega)).trans ((wr_nei (by omega)).trans (wr_ate _ _ _ _))
  have j2 : J 3 2 = -1 := by subst hJ; exact (wr_nei (by omega)).trans (wr_ate _ _ _ _)
  have j6 : J 3 6 = nI 0 := by subst hJ; exact wr_ate _ _ _ _
  have k1 : Ko J (wr J 1 3 (nI 0)) := Ko_w (by omega)
  have x1 := TxC_ko (TxC_kp x kJ) k1
  have z := nt_To t (b := 0) (by omega)
  have z5 := n1_To (n1_To (n1_To (n1_To (n1_To z))))
  unfold p_sys at h0 h1
  refine c_next x1 (by omega) (wr_ate _ _ _ _) (fun I1 y1 k2 x2 => ?_)
  have u : ∀ i, I1 3 i = J 3 i := fun i => (ko3 k2 i).trans (ko3 k1 i)
  refine c_head x2 y1 z (fun e I2 y2 k3 x3 a1 a2 a6 a3 a4 a5 => ?_) (fun e I2 a b k3 => ?_)
  · rw [if_neg (fun w => w e)] at h0 h1
    refine rb_f (by decide) ⟨_, c_plp 7 0 (uw (uw (uw w 0 (tv t (n1 t (nt t 0)))) 1 (tv t (n2 t (nt t 0)))) 2 (nI (p_pol t (n3 t (nt t 0))))) (n5 t (nt t 0)) I2 A rfl (by omega) (Or.inl rfl) ⟨?_, ?_, ?_, a6.trans ((u 6).trans j6), fun i hi => by omega⟩ x3 y2 z5 (fun e I3 A3 p q r s g => h0 e I3 A3 (((kJ.trans k1.p).trans (k2.p.trans k3)).trans p) q ⟨s.1.trans (a1.trans ((u 1).trans j1)), s.2.trans (a2.trans ((u 2).trans j2))⟩ g) (fun e I3 A3 p q r s => h1 e I3 A3 p q (((kJ.trans k1.p).trans (k2.p.trans k3)).trans r) s)⟩
    · rw [a3, uw_ne (by omega), uw_ne (by omega), uw_at]
    · rw [a4, uw_ne (by omega), uw_at]
    · rw [a5, uw_at]
  · rw [if_pos e] at h1
    exact rb_t rfl (h1 e I2 A a b ((kJ.trans k1.p).trans (k2.p.trans k3)) (fun _ _ _ => rfl))
