/-! copyFrom of a whole system -/
def cQ (x y : Nat) (S : List (Nat × Nat)) (I I' : ab_F) : Prop := (∀ c i, (∀ q ∈ S, c = x + q.1 → i ≠ q.2) → I' c i = I c i) ∧ ∀ q ∈ S, I' (x + q.1) q.2 = I (y + q.1) q.2
theorem cQ_0 (x y : Nat) (I : ab_F) : cQ x y [] I I := ⟨fun _ _ _ => rfl, fun q h => absurd h (by simp)⟩
theorem cQ_s {x y a k : Nat} {S : List (Nat × Nat)} {I I' : ab_F} (h : cQ x y S I I') (ap : x + 24 ≤ y ∨ y + 24 ≤ x) (ha : a < 24) (hS : ∀ q ∈ S, q.1 < 24) : cQ x y ((a, k) :: S) I (cpI (x + a) (y + a) k I') := by
  have ey : I' (y + a) k = I (y + a) k := h.1 _ _ (fun q hq e => by have := hS q hq; omega)
  refine ⟨fun c i hc => ?_, fun q hq => ?_⟩
  · have h0 : I' c i = I c i := h.1 c i (fun q hq => hc q (List.mem_cons_of_mem _ hq))
    have h1 := hc (a, k) List.mem_cons_self
    unfold cpI
    by_cases e : c = x + a
    · subst e; rw [wr_nei (h1 rfl)]; exact h0
    · rw [wr_ne e]; exact h0
  · unfold cpI
    rcases List.mem_cons.mp hq with e | e
    · subst e; rw [wr_ate]; exact ey
    · by_cases e1 : x + q.1 = x + a
      · by_cases e2 : q.2 = k
        · rw [e1, e2, wr_ate, ey, show q.1 = a by omega]
        · rw [e1, wr_nei e2, ← e1]; exact h.2 q e
      · rw [wr_ne e1]; exact h.2 q e
def aQ (x y : Nat) (S : List (Nat × Nat)) (A A' : ab_F) : Prop := (∀ c, (∀ q ∈ S, c ≠ x + q.1) → A' c = A c) ∧ ∀ q ∈ S, ∀ j, j < q.2 → A' (x + q.1) j = A (y + q.1) j
theorem aQ_0 (x y : Nat) (A : ab_F) : aQ x y [] A A := ⟨fun _ _ => rfl, fun q h => absurd h (by simp)⟩
theorem aQ_s {x y a n : Nat} {S : List (Nat × Nat)} {A A' : ab_F} (h : aQ x y S A A') (ap : x + 24 ≤ y ∨ y + 24 ≤ x) (ha : a < 24) (hS : ∀ q ∈ S, q.1 < 24 ∧ q.1 ≠ a) : aQ x y ((a, n) :: S) A (g_cp A' (x + a) (y + a) n) := by
  have ey : A' (y + a) = A (y + a) := h.1 _ (fun q hq e => by have := hS q hq; omega)
  refine ⟨fun c hc => ?_, fun q hq j hj => ?_⟩
  · have h1 := hc (a, n) List.mem_cons_self
    unfold g_cp
    rw [wrow_ne h1]; exact h.1 c (fun q hq => hc q (List.mem_cons_of_mem _ hq))
  · unfold g_cp
    rcases List.mem_cons.mp hq with e | e
    · subst e
      rw [wrow_at, ey]
      have hj' : j < n := hj
      unfold va_cpy
      rw [if_pos (by omega)]
      congr 1
      omega
    · have h1 := hS q e
      rw [wrow_ne (by omega)]; exact h.2 q e j hj
abbrev mX8_copyFrom : ab_M := (yX8_copyFrom, cX8_copyFrom, 2, none)
theorem okX8_copyFrom : ab_mOK mX8_copyFrom 1 := ⟨⟨by decide, by decide, by decide +kernel⟩, by decide, ab_in 708 (by decide +kernel) rfl, ab_in 100 (by decide +kernel) rfl⟩
theorem ctX8_copyFrom {sh : List ab_S} {I A : ab_F} {x y : Nat} {K : ab_F → ab_F → Prop} (hx : ab_sys sh x) (hy : ab_sys sh y) (ap : x + 24 ≤ y ∨ y + 24 ≤ x) (h : ∀ I' A', ab_cp I A I' A' x y → K I' A') : ab_Cl mX8_copyFrom 3 0 0 [.ref x, .ref y] sh I A (ab_Px sh ab_no (ab_rv K)) := by
  refine ab_enter (ls := [some (.ref x), some (.ref y)]) (by decide +kernel) (Nat.le_of_ble_eq_true rfl) rfl (fun C => ?_)
  refine g_aload_n (n := 1) dX8_copyFrom_0 rfl rfl rfl ?_
  refine g_getR (n := 4) (k := 0) dX8_copyFrom_1 (hx 0 (by omega)) vc_12 (Nat.le_of_ble_eq_true rfl) rfl (ab_in 399 (by decide +kernel) rfl) rfl ?_
  refine g_aload_n (n := 5) dX8_copyFrom_4 rfl rfl rfl ?_
  refine g_getR (n := 8) (k := 0) dX8_copyFrom_5 (hy 0 (by omega)) vc_12 (Nat.le_of_ble_eq_true rfl) rfl (ab_in 399 (by decide +kernel) rfl) rfl ?_
  refine g_callV (n := 11) (as := [.ref (y + 1)]) (bc' := 0) (bs' := 0) (hx 1 (by omega)) vc_8 (ctX4_copyFrom (K := fun I1 A1 => I1 = cpI (x + 1) (y + 1) 0 (I) ∧ A1 = g_cp (g_cp (g_cp (g_cp (g_cp (g_cp (A) (x + 2) (y + 2) 6) (x + 3) (y + 3) 6) (x + 4) (y + 4) 6) (x + 5) (y + 5) 48) (x + 6) (y + 6) 48) (x + 7) (y + 7) 48) (hx 1 (by omega)) (hy 1 (by omega)) (hx 2 (by omega)) (hy 2 (by omega)) (hx 3 (by omega)) (hy 3 (by omega)) (hx 4 (by omega)) (hy 4 (by omega)) (hx 5 (by omega)) (hy 5 (by omega)) (hx 6 (by omega)) (hy 6 (by omega)) (hx 7 (by omega)) (hy 7 (by omega)) ⟨rfl, rfl⟩) okX4_copyFrom rfl (ab_in 709 (by decide +kernel) rfl) (ab_in 710 (by decide +kernel) rfl) (ab_in 711 (by decide +kernel) rfl) (ab_in 101 (by decide +kernel) rfl) dX8_copyFrom_8 rfl rfl (Nat.le_of_ble_eq_true rfl) (Nat.le_of_ble_eq_true rfl) (Nat.le_of_ble_eq_true rfl) (Nat.le_of_ble_eq_true rfl) rfl (fun E sh1 I1 A1 hp _ => hp.2.elim) (fun ro sh_ I1 A1 hp hle => ?_)
  obtain ⟨rfl, rfl, rfl, rfl⟩ := hp
  refine g_aload_n (n := 12) dX8_copyFrom_11 rfl rfl rfl ?_
  refine g_getR (n := 15) (k := 1) dX8_copyFrom_12 (hx 0 (by omega)) vc_12 (Nat.le_of_ble_eq_true rfl) rfl (ab_in 401 (by decide +kernel) rfl) rfl ?_
  refine g_aload_n (n := 16) dX8_copyFrom_15 rfl rfl rfl ?_
  refine g_getR (n := 19) (k := 1) dX8_copyFrom_16 (hy 0 (by omega)) vc_12 (Nat.le_of_ble_eq_true rfl) rfl (ab_in 401 (by decide +kernel) rfl) rfl ?_
  refine g_callV (n := 22) (as := [.ref (y + 8)]) (bc' := 0) (bs' := 0) (hx 8 (by omega)) vc_6 (ctX2_copyFrom (K := fun I1 A1 => I1 = cpI (x + 8) (y + 8) 1 (cpI (x + 8) (y + 8) 0 (cpI (x + 1) (y + 1) 0 (I))) ∧ A1 = g_cp (g_cp (g_cp (g_cp (g_cp (g_cp (g_cp (g_cp (g_cp (A) (x + 2) (y + 2) 6) (x + 3) (y + 3) 6) (x + 4) (y + 4) 6) (x + 5) (y + 5) 48) (x + 6) (y + 6) 48) (x + 7) (y + 7) 48) (x + 9) (y + 9) 16) (x + 10) (y + 10) 16) (x + 11) (y + 11) 16) (hx 8 (by omega)) (hy 8 (by omega)) (hx 9 (by omega)) (hy 9 (by omega)) (hx 10 (by omega)) (hy 10 (by omega)) (hx 11 (by omega)) (hy 11 (by omega)) ⟨rfl, rfl⟩) okX2_copyFrom rfl (ab_in 716 (by decide +kernel) rfl) (ab_in 717 (by decide +kernel) rfl) (ab_in 718 (by decide +kernel) rfl) (ab_in 102 (by decide +kernel) rfl) dX8_copyFrom_19 rfl rfl (Nat.le_of_ble_eq_true rfl) (Nat.le_of_ble_eq_true rfl) (Nat.le_of_ble_eq_true rfl) (Nat.le_of_ble_eq_true rfl) rfl (fun E sh1 I1 A1 hp _ => hp.2.elim) (fun ro sh_ I1 A1 hp hle => ?_)
  obtain ⟨rfl, rfl, rfl, rfl⟩ := hp
  refine g_aload_n (n := 23) dX8_copyFrom_22 rfl rfl rfl ?_
  refine g_getR (n := 26) (k := 2) dX8_copyFrom_23 (hx 0 (by omega)) vc_12 (Nat.le_of_ble_eq_true rfl) rfl (ab_in 403 (by decide +kernel) rfl) rfl ?_
  refine g_aload_n (n := 27) dX8_copyFrom_26 rfl rfl rfl ?_
  refine g_getR (n := 30) (k := 2) dX8_copyFrom_27 (hy 0 (by omega)) vc_12 (Nat.le_of_ble_eq_true rfl) rfl (ab_in 403 (by decide +kernel) rfl) rfl ?_
  refine g_callV (n := 33) (as := [.ref (y + 12)]) (bc' := 0) (bs' := 0) (hx 12 (by omega)) vc_11 (ctX7_copyFrom (K := fun I1 A1 => I1 = cpI (x + 12) (y + 12) 1 (cpI (x + 12) (y + 12) 0 (cpI (x + 8) (y + 8) 1 (cpI (x + 8) (y + 8) 0 (cpI (x + 1) (y + 1) 0 (I))))) ∧ A1 = g_cp (g_cp (g_cp (g_cp (g_cp (g_cp (g_cp (g_cp (g_cp (g_cp (g_cp (g_cp (A) (x + 2) (y + 2) 6) (x + 3) (y + 3) 6) (x + 4) (y + 4) 6) (x + 5) (y + 5) 48) (x + 6) (y + 6) 48) (x + 7) (y + 7) 48) (x + 9) (y + 9) 16) (x + 10) (y + 10) 16) (x + 11) (y + 11) 16) (x + 13) (y + 13) 48) (x + 14) (y + 14) 48) (x + 15) (y + 15) 48) (hx 12 (by omega)) (hy 12 (by omega)) (hx 13 (by omega)) (hy 13 (by omega)) (hx 14 (by omega)) (hy 14 (by omega)) (hx 15 (by omega)) (hy 15 (by omega)) ⟨rfl, rfl⟩) okX7_copyFrom rfl (ab_in 721 (by decide +kernel) rfl) (ab_in 722 (by decide +kernel) rfl) (ab_in 723 (by decide +kernel) rfl) (ab_in 103 (by decide +kernel) rfl) dX8_copyFrom_30 rfl rfl (Nat.le_of_ble_eq_true rfl) (Nat.le_of_ble_eq_true rfl) (Nat.le_of_ble_eq_true rfl) (Nat.le_of_ble_eq_true rfl) rfl (fun E sh1 I1 A1 hp _ => hp.2.elim) (fun ro sh_ I1 A1 hp hle => ?_)
  obtain ⟨rfl, rfl, rfl, rfl⟩ := hp
  refine g_aload_n (n := 34) dX8_copyFrom_33 rfl rfl rfl ?_
  refine g_getR (n := 37) (k := 3) dX8_copyFrom_34 (hx 0 (by omega)) vc_12 (Nat.le_of_ble_eq_true rfl) rfl (ab_in 405 (by decide +kernel) rfl) rfl ?_
  refine g_aload_n (n := 38) dX8_copyFrom_37 rfl rfl rfl ?_
  refine g_getR (n := 41) (k := 3) dX8_copyFrom_38 (hy 0 (by omega)) vc_12 (Nat.le_of_ble_eq_true rfl) rfl (ab_in 405 (by decide +kernel) rfl) rfl ?_
  refine g_callV (n := 44) (as := [.ref (y + 16)]) (bc' := 0) (bs' := 0) (hx 16 (by omega)) vc_5 (ctX1_copyFrom (K := fun I1 A1 => I1 = cpI (x + 16) (y + 16) 3 (cpI (x + 16) (y + 16) 2 (cpI (x + 16) (y + 16) 1 (cpI (x + 16) (y + 16) 0 (cpI (x + 12) (y + 12) 1 (cpI (x + 12) (y + 12) 0 (cpI (x + 8) (y + 8) 1 (cpI (x + 8) (y + 8) 0 (cpI (x + 1) (y + 1) 0 (I))))))))) ∧ A1 = g_cp (g_cp (g_cp (g_cp (g_cp (g_cp (g_cp (g_cp (g_cp (g_cp (g_cp (g_cp (g_cp (g_cp (g_cp (g_cp (A) (x + 2) (y + 2) 6) (x + 3) (y + 3) 6) (x + 4) (y + 4) 6) (x + 5) (y + 5) 48) (x + 6) (y + 6) 48) (x + 7) (y + 7) 48) (x + 9) (y + 9) 16) (x + 10) (y + 10) 16) (x + 11) (y + 11) 16) (x + 13) (y + 13) 48) (x + 14) (y + 14) 48) (x + 15) (y + 15) 48) (x + 17) (y + 17) 48) (x + 18) (y + 18) 6) (x + 19) (y + 19) 48) (x + 20) (y + 20) 32) (hx 16 (by omega)) (hy 16 (by omega)) (hx 17 (by omega)) (hy 17 (by omega)) (hx 18 (by omega)) (hy 18 (by omega)) (hx 19 (by omega)) (hy 19 (by omega)) (hx 20 (by omega)) (hy 20 (by omega)) ⟨rfl, rfl⟩) okX1_copyFrom rfl (ab_in 726 (by decide +kernel) rfl) (ab_in 727 (by decide +kernel) rfl) (ab_in 728 (by decide +kernel) rfl) (ab_in 104 (by decide +kernel) rfl) dX8_copyFrom_41 rfl rfl (Nat.le_of_ble_eq_true rfl) (Nat.le_of_ble_eq_true rfl) (Nat.le_of_ble_eq_true rfl) (Nat.le_of_ble_eq_true rfl) rfl (fun E sh1 I1 A1 hp _ => hp.2.elim) (fun ro sh_ I1 A1 hp hle => ?_)
  obtain ⟨rfl, rfl, rfl, rfl⟩ := hp
  refine g_aload_n (n := 45) dX8_copyFrom_44 rfl rfl rfl ?_
  refine g_getR (n := 48) (k := 4) dX8_copyFrom_45 (hx 0 (by omega)) vc_12 (Nat.le_of_ble_eq_true rfl) rfl (ab_in 407 (by decide +kernel) rfl) rfl ?_
  refine g_aload_n (n := 49) dX8_copyFrom_48 rfl rfl rfl ?_
  refine g_getR (n := 52) (k := 4) dX8_copyFrom_49 (hy 0 (by omega)) vc_12 (Nat.le_of_ble_eq_true rfl) rfl (ab_in 407 (by decide +kernel) rfl) rfl ?_
  refine g_callV (n := 55) (as := [.ref (y + 21)]) (bc' := 0) (bs' := 0) (hx 21 (by omega)) vc_4 (ctX0_copyFrom (K := fun I1 A1 => I1 = cpI (x + 21) (y + 21) 2 (cpI (x + 21) (y + 21) 1 (cpI (x + 21) (y + 21) 0 (cpI (x + 16) (y + 16) 3 (cpI (x + 16) (y + 16) 2 (cpI (x + 16) (y + 16) 1 (cpI (x + 16) (y + 16) 0 (cpI (x + 12) (y + 12) 1 (cpI (x + 12) (y + 12) 0 (cpI (x + 8) (y + 8) 1 (cpI (x + 8) (y + 8) 0 (cpI (x + 1) (y + 1) 0 (I)))))))))))) ∧ A1 = g_cp (g_cp (g_cp (g_cp (g_cp (g_cp (g_cp (g_cp (g_cp (g_cp (g_cp (g_cp (g_cp (g_cp (g_cp (g_cp (g_cp (A) (x + 2) (y + 2) 6) (x + 3) (y + 3) 6) (x + 4) (y + 4) 6) (x + 5) (y + 5) 48) (x + 6) (y + 6) 48) (x + 7) (y + 7) 48) (x + 9) (y + 9) 16) (x + 10) (y + 10) 16) (x + 11) (y + 11) 16) (x + 13) (y + 13) 48) (x + 14) (y + 14) 48) (x + 15) (y + 15) 48) (x + 17) (y + 17) 48) (x + 18) (y + 18) 6) (x + 19) (y + 19) 48) (x + 20) (y + 20) 32) (x + 22) (y + 22) 64) (hx 21 (by omega)) (hy 21 (by omega)) (hx 22 (by omega)) (hy 22 (by omega)) ⟨rfl, rfl⟩) okX0_copyFrom rfl (ab_in 731 (by decide +kernel) rfl) (ab_in 732 (by decide +kernel) rfl) (ab_in 733 (by decide +kernel) rfl) (ab_in 105 (by decide +kernel) rfl) dX8_copyFrom_52 rfl rfl (Nat.le_of_ble_eq_true rfl) (Nat.le_of_ble_eq_true rfl) (Nat.le_of_ble_eq_true rfl) (Nat.le_of_ble_eq_true rfl) rfl (fun E sh1 I1 A1 hp _ => hp.2.elim) (fun ro sh_ I1 A1 hp hle => ?_)
  obtain ⟨rfl, rfl, rfl, rfl⟩ := hp
  refine g_aload_n (n := 56) dX8_copyFrom_55 rfl rfl rfl ?_
  refine g_aload_n (n := 57) dX8_copyFrom_56 rfl rfl rfl ?_
  refine g_getIE (n := 60) (k := 5) (x := (cpI (x + 21) (y + 21) 2 (cpI (x + 21) (y + 21) 1 (cpI (x + 21) (y + 21) 0 (cpI (x + 16) (y + 16) 3 (cpI (x + 16) (y + 16) 2 (cpI (x + 16) (y + 16) 1 (cpI (x + 16) (y + 16) 0 (cpI (x + 12) (y + 12) 1 (cpI (x + 12) (y + 12) 0 (cpI (x + 8) (y + 8) 1 (cpI (x + 8) (y + 8) 0 (cpI (x + 1) (y + 1) 0 (I))))))))))))) y 5) dX8_copyFrom_57 (hy 0 (by omega)) vc_12 (Nat.le_of_ble_eq_true rfl) rfl (ab_in 409 (by decide +kernel) rfl) rfl rfl ?_
  refine g_putI (n := 63) (k := 5) dX8_copyFrom_60 (hx 0 (by omega)) vc_12 (Nat.le_of_ble_eq_true rfl) rfl (ab_in 409 (by decide +kernel) rfl) rfl rfl rfl rfl rfl ?_
  have qI : cQ x y [(0, 5), (21, 2), (21, 1), (21, 0), (16, 3), (16, 2), (16, 1), (16, 0), (12, 1), (12, 0), (8, 1), (8, 0), (1, 0)] I (cpI (x + 0) (y + 0) 5 (cpI (x + 21) (y + 21) 2 (cpI (x + 21) (y + 21) 1 (cpI (x + 21) (y + 21) 0 (cpI (x + 16) (y + 16) 3 (cpI (x + 16) (y + 16) 2 (cpI (x + 16) (y + 16) 1 (cpI (x + 16) (y + 16) 0 (cpI (x + 12) (y + 12) 1 (cpI (x + 12) (y + 12) 0 (cpI (x + 8) (y + 8) 1 (cpI (x + 8) (y + 8) 0 (cpI (x + 1) (y + 1) 0 (I)))))))))))))) := cQ_s (a := 0) (k := 5) (cQ_s (cQ_s (cQ_s (cQ_s (cQ_s (cQ_s (cQ_s (cQ_s (cQ_s (cQ_s (cQ_s (cQ_s (cQ_0 x y I) ap (by omega) (by decide)) ap (by omega) (by decide)) ap (by omega) (by decide)) ap (by omega) (by decide)) ap (by omega) (by decide)) ap (by omega) (by decide)) ap (by omega) (by decide)) ap (by omega) (by decide)) ap (by omega) (by decide)) ap (by omega) (by decide)) ap (by omega) (by decide)) ap (by omega) (by decide)) ap (by omega) (by decide)
  have qA : aQ x y [(22, 64), (20, 32), (19, 48), (18, 6), (17, 48), (15, 48), (14, 48), (13, 48), (11, 16), (10, 16), (9, 16), (7, 48), (6, 48), (5, 48), (4, 6), (3, 6), (2, 6)] A (g_cp (g_cp (g_cp (g_cp (g_cp (g_cp (g_cp (g_cp (g_cp (g_cp (g_cp (g_cp (g_cp (g_cp (g_cp (g_cp (g_cp (A) (x + 2) (y + 2) 6) (x + 3) (y + 3) 6) (x + 4) (y + 4) 6) (x + 5) (y + 5) 48) (x + 6) (y + 6) 48) (x + 7) (y + 7) 48) (x + 9) (y + 9) 16) (x + 10) (y + 10) 16) (x + 11) (y + 11) 16) (x + 13) (y + 13) 48) (x + 14) (y + 14) 48) (x + 15) (y + 15) 48) (x + 17) (y + 17) 48) (x + 18) (y + 18) 6) (x + 19) (y + 19) 48) (x + 20) (y + 20) 32) (x + 22) (y + 22) 64) := aQ_s (aQ_s (aQ_s (aQ_s (aQ_s (aQ_s (aQ_s (aQ_s (aQ_s (aQ_s (aQ_s (aQ_s (aQ_s (aQ_s (aQ_s (aQ_s (aQ_s (aQ_0 x y A) ap (by omega) (by decide)) ap (by omega) (by decide)) ap (by omega) (by decide)) ap (by omega) (by decide)) ap (by omega) (by decide)) ap (by omega) (by decide)) ap (by omega) (by decide)) ap (by omega) (by decide)) ap (by omega) (by decide)) ap (by omega) (by decide)) ap (by omega) (by decide)) ap (by omega) (by decide)) ap (by omega) (by decide)) ap (by omega) (by decide)) ap (by omega) (by decide)) ap (by omega) (by decide)) ap (by omega) (by decide)
  refine g_vret rfl dX8_copyFrom_63 ⟨rfl, rfl, h _ _ ⟨fun c hc => ⟨funext (fun i => qI.1 c i (fun q hq e => ?_)), qA.1 c (fun q hq e => ?_)⟩, fun q hq => qI.2 q ((by decide : ∀ q ∈ ab_sysI, q ∈ ([(0, 5), (21, 2), (21, 1), (21, 0), (16, 3), (16, 2), (16, 1), (16, 0), (12, 1), (12, 0), (8, 1), (8, 0), (1, 0)] : List (Nat × Nat))) q hq), fun q hq => qA.2 q ((by decide : ∀ q ∈ ab_sysA, q ∈ ([(22, 64), (20, 32), (19, 48), (18, 6), (17, 48), (15, 48), (14, 48), (13, 48), (11, 16), (10, 16), (9, 16), (7, 48), (6, 48), (5, 48), (4, 6), (3, 6), (2, 6)] : List (Nat × Nat))) q hq)⟩⟩
  · have := (by decide : ∀ q ∈ ([(0, 5), (21, 2), (21, 1), (21, 0), (16, 3), (16, 2), (16, 1), (16, 0), (12, 1), (12, 0), (8, 1), (8, 0), (1, 0)] : List (Nat × Nat)), q.1 < 24) q hq
    omega
  · have := (by decide : ∀ q ∈ ([(22, 64), (20, 32), (19, 48), (18, 6), (17, 48), (15, 48), (14, 48), (13, 48), (11, 16), (10, 16), (9, 16), (7, 48), (6, 48), (5, 48), (4, 6), (3, 6), (2, 6)] : List (Nat × Nat)), q.1 < 24) q hq
    omega
