/-! a script's text -/
def o_c (t : st_T) (T : tok) : Nat := if tw1 t T (ab_st 8).2.2.2 = true then 0 else if tw1 t T (ab_st 9).2.2.2 = true then 1 else if tw1 t T (ab_st 10).2.2.2 = true then 2 else if tw1 t T (ab_st 11).2.2.2 = true then 3 else if tw1 t T (ab_st 12).2.2.2 = true then 4 else if tw1 t T (ab_st 13).2.2.2 = true then 5 else if tw1 t T (ab_st 14).2.2.2 = true then 6 else if tw1 t T (ab_st 15).2.2.2 = true then 7 else if tw1 t T (ab_st 16).2.2.2 = true then 8 else 9
theorem c_opn {K : Int32 → ab_F → ab_F → Prop} {I A : ab_F} {t : st_T} {T : tok} (x : TxC t I A) (y : TcC T I) (z : To t T) (h0 : o_c t T < 9 → K (nI (o_c t T)) I A) (h1 : o_c t T = 9 → K (-1) I A) : wX6_operationHere K I A := by
  unfold o_c at h0 h1
  refine c_isW (by omega) x y z (bb (fun q => ?_) (fun q => by rw [q, if_pos rfl] at h0; exact h0 (by omega)))
  rw [q, if_neg (by decide)] at h0 h1
  refine c_isW (by omega) x y z (bb (fun q => ?_) (fun q => by rw [q, if_pos rfl] at h0; exact h0 (by omega)))
  rw [q, if_neg (by decide)] at h0 h1
  refine c_isW (by omega) x y z (bb (fun q => ?_) (fun q => by rw [q, if_pos rfl] at h0; exact h0 (by omega)))
  rw [q, if_neg (by decide)] at h0 h1
  refine c_isW (by omega) x y z (bb (fun q => ?_) (fun q => by rw [q, if_pos rfl] at h0; exact h0 (by omega)))
  rw [q, if_neg (by decide)] at h0 h1
  refine c_isW (by omega) x y z (bb (fun q => ?_) (fun q => by rw [q, if_pos rfl] at h0; exact h0 (by omega)))
  rw [q, if_neg (by decide)] at h0 h1
  refine c_isW (by omega) x y z (bb (fun q => ?_) (fun q => by rw [q, if_pos rfl] at h0; exact h0 (by omega)))
  rw [q, if_neg (by decide)] at h0 h1
  refine c_isW (by omega) x y z (bb (fun q => ?_) (fun q => by rw [q, if_pos rfl] at h0; exact h0 (by omega)))
  rw [q, if_neg (by decide)] at h0 h1
  refine c_isW (by omega) x y z (bb (fun q => ?_) (fun q => by rw [q, if_pos rfl] at h0; exact h0 (by omega)))
  rw [q, if_neg (by decide)] at h0 h1
  refine c_isW (by omega) x y z (bb (fun q => ?_) (fun q => by rw [q, if_pos rfl] at h0; exact h0 (by omega)))
  rw [q, if_neg (by decide)] at h0 h1
  exact h1 rfl
theorem q_opn {K : Int32 → ab_F → ab_F → Prop} {I A : ab_F} {t : st_T} {T : tok} (x : TxM t I A) (y : TcM T I) (z : To t T) (h0 : o_c t T < 9 → K (nI (o_c t T)) I A) (h1 : o_c t T = 9 → K (-1) I A) : wX12_operation K I A := by
  unfold o_c at h0 h1
  refine q_isW (by omega) x y z ?_
  rw [iw_c z 50 8 rfl (by decide) (by decide)]
  refine bb (fun q => ?_) (fun q => by rw [q, if_pos rfl] at h0; exact h0 (by omega))
  rw [q, if_neg (by decide)] at h0 h1
  refine q_isW (by omega) x y z ?_
  rw [iw_c z 51 9 rfl (by decide) (by decide)]
  refine bb (fun q => ?_) (fun q => by rw [q, if_pos rfl] at h0; exact h0 (by omega))
  rw [q, if_neg (by decide)] at h0 h1
  refine q_isW (by omega) x y z ?_
  rw [iw_c z 52 10 rfl (by decide) (by decide)]
  refine bb (fun q => ?_) (fun q => by rw [q, if_pos rfl] at h0; exact h0 (by omega))
  rw [q, if_neg (by decide)] at h0 h1
  refine q_isW (by omega) x y z ?_
  rw [iw_c z 53 11 rfl (by decide) (by decide)]
  refine bb (fun q => ?_) (fun q => by rw [q, if_pos rfl] at h0; exact h0 (by omega))
  rw [q, if_neg (by decide)] at h0 h1
  refine q_isW (by omega) x y z ?_
  rw [iw_c z 54 12 rfl (by decide) (by decide)]
  refine bb (fun q => ?_) (fun q => by rw [q, if_pos rfl] at h0; exact h0 (by omega))
  rw [q, if_neg (by decide)] at h0 h1
  refine q_isW (by omega) x y z ?_
  rw [iw_c z 55 13 rfl (by decide) (by decide)]
  refine bb (fun q => ?_) (fun q => by rw [q, if_pos rfl] at h0; exact h0 (by omega))
  rw [q, if_neg (by decide)] at h0 h1
  refine q_isW (by omega) x y z ?_
  rw [iw_c z 56 14 rfl (by decide) (by decide)]
  refine bb (fun q => ?_) (fun q => by rw [q, if_pos rfl] at h0; exact h0 (by omega))
  rw [q, if_neg (by decide)] at h0 h1
  refine q_isW (by omega) x y z ?_
  rw [iw_c z 57 15 rfl (by decide) (by decide)]
  refine bb (fun q => ?_) (fun q => by rw [q, if_pos rfl] at h0; exact h0 (by omega))
  rw [q, if_neg (by decide)] at h0 h1
  refine q_isW (by omega) x y z ?_
  rw [iw_c z 58 16 rfl (by decide) (by decide)]
  refine bb (fun q => ?_) (fun q => by rw [q, if_pos rfl] at h0; exact h0 (by omega))
  rw [q, if_neg (by decide)] at h0 h1
  exact h1 rfl
theorem o_c_le (t : st_T) (T : tok) : o_c t T ≤ 9 := by
  unfold o_c
  repeat (first | omega | split)
/-- how many numbers an operation takes -/
def o_n (c : Nat) : Nat := match c with
  | 0 => 2
  | 1 => 3
  | 2 => 1
  | 3 => 1
  | 4 => 0
  | 5 => 0
  | 6 => 0
  | 7 => 1
  | _ => 2
theorem o_n_c {c : Nat} (h : c < 9) : ab_stv 0 c = nI (o_n c) := by
  rcases c9 h with e | e | e | e | e | e | e | e | e <;> subst e <;> rfl
theorem o_n_le {c : Nat} (h : c < 9) : o_n c ≤ 3 := by
  rcases c9 h with e | e | e | e | e | e | e | e | e <;> subst e <;> decide
theorem o_n_q {K : Int32 → ab_F → ab_F → Prop} {I A : ab_F} {c : Nat} (h : c < 9) (k : K (nI (o_n c)) I A) : wX12_numbersOf K I A (nI c) := by
  rcases c9 h with e | e | e | e | e | e | e | e | e <;> subst e
  · exact ⟨fun _ => k, fun h => absurd h (by decide), fun h => absurd h (by decide), fun h => absurd h (by decide), fun h => absurd h (by decide), fun h => absurd h (by decide), fun h => absurd h (by decide), fun h => absurd h (by decide), fun h => absurd h (by decide), fun h => absurd h (by decide)⟩
  · exact ⟨fun h => absurd h (by decide), fun _ => k, fun h => absurd h (by decide), fun h => absurd h (by decide), fun h => absurd h (by decide), fun h => absurd h (by decide), fun h => absurd h (by decide), fun h => absurd h (by decide), fun h => absurd h (by decide), fun h => absurd h (by decide)⟩
  · exact ⟨fun h => absurd h (by decide), fun h => absurd h (by decide), fun _ => k, fun h => absurd h (by decide), fun h => absurd h (by decide), fun h => absurd h (by decide), fun h => absurd h (by decide), fun h => absurd h (by decide), fun h => absurd h (by decide), fun h => absurd h (by decide)⟩
  · exact ⟨fun h => absurd h (by decide), fun h => absurd h (by decide), fun h => absurd h (by decide), fun _ => k, fun h => absurd h (by decide), fun h => absurd h (by decide), fun h => absurd h (by decide), fun h => absurd h (by decide), fun h => absurd h (by decide), fun h => absurd h (by decide)⟩
  · exact ⟨fun h => absurd h (by decide), fun h => absurd h (by decide), fun h => absurd h (by decide), fun h => absurd h (by decide), fun _ => k, fun h => absurd h (by decide), fun h => absurd h (by decide), fun h => absurd h (by decide), fun h => absurd h (by decide), fun h => absurd h (by decide)⟩
  · exact ⟨fun h => absurd h (by decide), fun h => absurd h (by decide), fun h => absurd h (by decide), fun h => absurd h (by decide), fun h => absurd h (by decide), fun _ => k, fun h => absurd h (by decide), fun h => absurd h (by decide), fun h => absurd h (by decide), fun h => absurd h (by decide)⟩
  · exact ⟨fun h => absurd h (by decide), fun h => absurd h (by decide), fun h => absurd h (by decide), fun h => absurd h (by decide), fun h => absurd h (by decide), fun h => absurd h (by decide), fun _ => k, fun h => absurd h (by decide), fun h => absurd h (by decide), fun h => absurd h (by decide)⟩
  · exact ⟨fun h => absurd h (by decide), fun h => absurd h (by decide), fun h => absurd h (by decide), fun h => absurd h (by decide), fun h => absurd h (by decide), fun h => absurd h (by decide), fun h => absurd h (by decide), fun _ => k, fun h => absurd h (by decide), fun h => absurd h (by decide)⟩
  · exact ⟨fun h => absurd h (by decide), fun h => absurd h (by decide), fun h => absurd h (by decide), fun h => absurd h (by decide), fun h => absurd h (by decide), fun h => absurd h (by decide), fun h => absurd h (by decide), fun h => absurd h (by decide), fun _ => k, fun h => absurd h (by decide)⟩
/-- where the numbers and the semicolon fail; the token at the semicolon -/
def o_e (t : st_T) : Nat → tok → Option Nat
  | 0, T => if T.2.2 = 3 then none else some T.1
  | m + 1, T => if p_num t T 0 999999999 = 0 then o_e t m (n1 t T) else some T.1
def o_t (t : st_T) : Nat → tok → tok
  | 0, T => T
  | m + 1, T => o_t t m (n1 t T)
theorem o_t_s (t : st_T) : ∀ m T, o_t t (m + 1) T = n1 t (o_t t m T)
  | 0, _ => rfl
  | m + 1, T => o_t_s t m (n1 t T)
theorem o_t_To {t : st_T} : ∀ m T, To t T → To t (o_t t m T)
  | 0, _, z => z
  | m + 1, T, z => o_t_To m (n1 t T) (n1_To z)
theorem n1_ge (t : st_T) (T : tok) : T.2.1 ≤ (n1 t T).1 := by
  have h := (sk_le t (t.2 - T.2.1) T.2.1).1
  show T.2.1 ≤ (nt t T.2.1).1
  unfold nt
  split <;> exact h
theorem o_t_ge {t : st_T} : ∀ m T, To t T → T.1 ≤ (o_t t m T).1
  | 0, _, _ => Nat.le_refl _
  | m + 1, T, z => Nat.le_trans (Nat.le_trans z.1 (n1_ge t T)) (o_t_ge m (n1 t T) (n1_To z))
/-- the digits' number -/
theorem nv_in {t : st_T} : ∀ m j a k, (∀ i, j ≤ i → i < j + m → tk (t.1 i) = 2) → a < 10 ^ k → k + m ≤ 9 → ∃ b, b < 10 ^ (k + m) ∧ nv t m j (nI a) = nI b
  | 0, j, a, k, _, h, _ => ⟨a, h, rfl⟩
  | m + 1, j, a, k, hd, h, hk => by
    have q := (tk_2 (t.1 j)).mp (hd j (Nat.le_refl _) (by omega))
    obtain ⟨d, hd1, ed⟩ := nI_of (x := t.1 j) (fun h2 => by rw [Int32.lt_iff_toInt_lt] at h2; have : (0 : Int32).toInt = 0 := rfl; omega)
    rw [ed, nI_toInt hd1] at q
    have e : ((nI 10 * nI a) + t.1 j) - nI 48 = nI (10 * a + d - 48) := by
      rw [ed, show nI 10 * nI a = nI (10 * a) from (Int32.ofNat_mul 10 a).symm, nI_add, nI_sb (by omega)]
    have hp : 10 ^ (k + 1) = 10 * 10 ^ k := by rw [Nat.pow_succ, Nat.mul_comm]
    obtain ⟨b, hb, eb⟩ := nv_in (t := t) m (j + 1) (10 * a + d - 48) (k + 1) (fun i h1 h2 => hd i (by omega) (by omega)) (by omega) (by omega)
    refine ⟨b, by rw [show k + (m + 1) = k + 1 + m by omega]; exact hb, ?_⟩
    show nv t m (j + 1) (((nI 10 * nI a) + t.1 j) - nI 48) = nI b
    rw [e]; exact eb
theorem p_num_9 {t : st_T} {T : tok} (z : To t T) : p_num t T 0 999999999 = 0 ↔ T.2.2 = 2 ∧ T.2.1 - T.1 ≤ 9 := by
  unfold p_num
  by_cases c1 : T.2.2 = 2
  · rw [if_pos c1]
    by_cases c2 : T.2.1 - T.1 ≤ 9
    · rw [if_pos c2]
      have hz := z.1
      obtain ⟨b, hb, eb⟩ := nv_in (t := t) (T.2.1 - T.1) T.1 0 0 (fun i h1 h2 => z.2.2.2.2.2.1 c1 i h1 (by omega)) (by omega) (by omega)
      have hb9 : b < 10 ^ 9 := Nat.lt_of_lt_of_le hb (Nat.pow_le_pow_right (by omega) (by omega))
      have e9 : (10 : Nat) ^ 9 = 1000000000 := by decide
      rw [show tv t T = nI b from eb, if_pos ⟨nI_le (by omega) (by omega), nI_le (by omega) (by omega)⟩]
      exact ⟨fun _ => ⟨c1, c2⟩, fun _ => rfl⟩
    · rw [if_neg c2]; exact ⟨fun h => absurd h (by decide), fun h => absurd h.2 c2⟩
  · rw [if_neg c1]; exact ⟨fun h => absurd h (by decide), fun h => absurd h.1 c1⟩
theorem tv_9 {t : st_T} {T : tok} (z : To t T) (h : p_num t T 0 999999999 = 0) : ¬ tv t T = -1 := by
  obtain ⟨c1, c2⟩ := (p_num_9 z).mp h
  have hz := z.1
  obtain ⟨b, hb, eb⟩ := nv_in (t := t) (T.2.1 - T.1) T.1 0 0 (fun i h1 h2 => z.2.2.2.2.2.1 c1 i h1 (by omega)) (by omega) (by omega)
  have hb9 : b < 10 ^ 9 := Nat.lt_of_lt_of_le hb (Nat.pow_le_pow_right (by omega) (by omega))
  have e9 : (10 : Nat) ^ 9 = 1000000000 := by decide
  rw [show tv t T = nI b from eb]
  exact nI_m1 (by omega)
/-- the class reads the numbers -/
theorem c_opr {K : Int32 → ab_F → ab_F → Prop} {t : st_T} {n : Nat} (hn : n ≤ 3) (T1 : tok) (z1 : To t T1) : ∀ m i I A, i + m = n → TxC t I A → TcC (o_t t i T1) I → (∀ j, j < i → A 7 j = tv t (o_t t j T1)) → (o_e t m (o_t t i T1) = none → ∀ I' A', Ko I I' → (∀ c, c ≠ 7 → A' c = A c) → TcC (o_t t n T1) I' → TxC t I' A' → (∀ j, j < n → A' 7 j = tv t (o_t t j T1)) → K (nI 1) I' A') → (∀ p, o_e t m (o_t t i T1) = some p → ∀ I' A', Ko I I' → (∀ c, c ≠ 7 → A' c = A c) → I' 1 2 = nI p → K (nI 0) I' A') → wlX6_readOperands_9 K (m + 1) (nI n) (nI i) I A := by
  intro m
  induction m with
  | zero =>
    intro i I A hi x y va h0 h1
    have e : i = n := by omega
    subst e
    have z := o_t_To i T1 z1
    refine br_t (nI_le (Nat.le_refl _) (by omega)) ?_
    unfold wjX6_readOperands_69
    rw [y.2.2, nI_eq (by have := z.2.2.1; omega) (by omega)]
    by_cases c : (o_t t i T1).2.2 = 3
    · exact rb_t c (h0 (if_pos c) I A (Ko.refl I) (fun _ _ => rfl) y x va)
    · exact rb_f c (h1 _ (if_neg c) I A (Ko.refl I) (fun _ _ => rfl) y.1)
  | succ m ih =>
    intro i I A hi x y va h0 h1
    have z := o_t_To i T1 z1
    have hz := z.1
    refine br_f (nI_ge (by omega) (by omega)) (br_f (nI_ge (by omega) (by omega)) ?_)
    rw [y.2.2, nI_eq (by have := z.2.2.1; omega) (by omega)]
    have eo : o_e t (m + 1) (o_t t i T1) = if p_num t (o_t t i T1) 0 999999999 = 0 then o_e t m (n1 t (o_t t i T1)) else some (o_t t i T1).1 := rfl
    by_cases c : (o_t t i T1).2.2 = 2
    · refine rb_t c (c_num x y z (fun q => ?_) (fun q => ?_))
      · have pn := (p_num_9 z).mpr ⟨c, q⟩
        rw [eo, if_pos pn, ← o_t_s] at h0 h1
        refine rb_f (tv_9 z pn) (c_num x y z (fun _ => ix0 (by omega) ?_) (fun w => absurd q w))
        have x2 : TxC t I (wr A 7 i (tv t (o_t t i T1))) := ⟨x.1, x.2.1, fun j hj => by rw [wr_ne (by omega)]; exact x.2.2 j hj⟩
        refine c_next x2 z.2.1 y.2.1 (fun I2 y2 k2 x3 => ?_)
        rw [nI_add i 1]
        refine ih (i + 1) I2 _ (by omega) x3 (by rw [o_t_s]; exact y2) (fun j hj => ?_) (fun e I' A' k a y' x' v' => h0 e I' A' (k2.trans k) (fun c q => (a c q).trans (wr_ne q)) y' x' v') (fun p e I' A' k a e' => h1 p e I' A' (k2.trans k) (fun c q => (a c q).trans (wr_ne q)) e')
        by_cases ej : j = i
        · rw [ej, wr_ate]
        · rw [wr_nei ej]; exact va j (by omega)
      · rw [eo, if_neg (fun w => q ((p_num_9 z).mp w).2)] at h1
        exact rb_t rfl (h1 _ rfl I A (Ko.refl I) (fun _ _ => rfl) y.1)
    · rw [eo, if_neg (fun w => c ((p_num_9 z).mp w).1)] at h1
      exact rb_f c (h1 _ rfl I A (Ko.refl I) (fun _ _ => rfl) y.1)
