/-! constructors of the parts of a system: the object is the newest cell, its arrays follow -/
theorem s_set (l : List ab_S) (a x : ab_S) (r : List ab_S) : (l ++ a :: r).set l.length x = l ++ x :: r := by simp
theorem s_get (l : List ab_S) (a : ab_S) (r : List ab_S) : (l ++ a :: r)[l.length]? = some a := by simp
theorem s_apd (l : List ab_S) (a b : ab_S) (r : List ab_S) : (l ++ a :: r) ++ [b] = l ++ a :: (r ++ [b]) := by simp
theorem s_len (l : List ab_S) (a : ab_S) (r : List ab_S) : (l ++ a :: r).length = l.length + (1 + r.length) := by simp; omega
/-- it ends with this shape; numbers and the older arrays are as they were -/
def ab_Pn (sh' : List ab_S) (q n : Nat) (I A : ab_F) : ab_O → Prop := fun o => o.1 = .inl none ∧ o.2.1 = sh' ∧ o.2.2.1 = I ∧ ∀ c, (c ≤ q ∨ q + n < c) → o.2.2.2 c = A c
abbrev mX4_init : ab_M := (yX4_init, cX4_init, 1, none)
theorem okX4_init : ab_mOK mX4_init 0 := ⟨⟨by decide, by decide, by decide +kernel⟩, by decide, (ab_in 235 (by decide +kernel) rfl), ab_in 101 (by decide +kernel) rfl⟩
theorem ctX4_init {sh : List ab_S} {I A : ab_F} : ab_Cl mX4_init 1 6 162 [.ref sh.length] (sh ++ [.inr (.inr (8, [none, some .null, some .null, some .null, some .null, some .null, some .null]))]) I A (ab_Pn (sh ++ .inr (.inr (8, [none, some (.ref (sh.length + 1)), some (.ref (sh.length + 2)), some (.ref (sh.length + 3)), some (.ref (sh.length + 4)), some (.ref (sh.length + 5)), some (.ref (sh.length + 6))])) :: [.inl (.int, 6), .inl (.int, 6), .inl (.int, 6), .inl (.int, 48), .inl (.int, 48), .inl (.int, 48)]) sh.length 6 I A) := by
  refine ab_enter (ls := [some (.ref sh.length)]) (by decide +kernel) (Nat.le_of_ble_eq_true rfl) rfl (fun C => ?_)
  refine g_aload_n (n := 1) dX4_init_0 rfl rfl rfl ?_
  refine g_objInit (n := 4) dX4_init_1 (ab_in 236 (by decide +kernel) rfl) (ab_in 140 (by decide +kernel) rfl) (ab_in 141 (by decide +kernel) rfl) (Nat.le_of_ble_eq_true rfl) (Nat.le_of_ble_eq_true rfl) rfl ?_
  refine g_aload_n (n := 5) dX4_init_4 rfl rfl rfl ?_
  refine g_bipush (n := 7) (v := nI 6) dX4_init_5 rfl rfl ?_
  refine g_newi (n := 9) (N := 6) (bc' := 5) (bs' := 156) dX4_init_7 (by decide) rfl (by omega) (ab_in 169 (by decide +kernel) rfl) (by omega) (by omega) rfl (s_apd sh (.inr (.inr (8, [none, some .null, some .null, some .null, some .null, some .null, some .null]))) _ []) ?_
  rw [s_len sh (.inr (.inr (8, [none, some .null, some .null, some .null, some .null, some .null, some .null]))) []]
  show ab_G _ _ _ _ _ _ [.ref (sh.length + 1), _] (sh ++ .inr (.inr (8, [none, some .null, some .null, some .null, some .null, some .null, some .null])) :: [.inl (.int, 6)]) I _ _ _
  refine g_putFR (sh' := sh ++ .inr (.inr (8, [none, some (.ref (sh.length + 1)), some .null, some .null, some .null, some .null, some .null])) :: [.inl (.int, 6)]) (n := 12) (k := 1) dX4_init_9 (s_get sh _ _) vc_8 (Nat.le_of_ble_eq_true rfl) (Nat.le_of_ble_eq_true rfl) (ab_in 240 (by decide +kernel) rfl) rfl rfl rfl rfl (fun _ => rfl) (fun _ => rfl) rfl (s_set sh _ _ _) ?_
  refine g_aload_n (n := 13) dX4_init_12 rfl rfl rfl ?_
  refine g_bipush (n := 15) (v := nI 6) dX4_init_13 rfl rfl ?_
  refine g_newi (n := 17) (N := 6) (bc' := 4) (bs' := 150) dX4_init_15 (by decide) rfl (by omega) (ab_in 169 (by decide +kernel) rfl) (by omega) (by omega) rfl (s_apd sh (.inr (.inr (8, [none, some (.ref (sh.length + 1)), some .null, some .null, some .null, some .null, some .null]))) _ [.inl (.int, 6)]) ?_
  rw [s_len sh (.inr (.inr (8, [none, some (.ref (sh.length + 1)), some .null, some .null, some .null, some .null, some .null]))) [.inl (.int, 6)]]
  show ab_G _ _ _ _ _ _ [.ref (sh.length + 2), _] (sh ++ .inr (.inr (8, [none, some (.ref (sh.length + 1)), some .null, some .null, some .null, some .null, some .null])) :: [.inl (.int, 6), .inl (.int, 6)]) I _ _ _
  refine g_putFR (sh' := sh ++ .inr (.inr (8, [none, some (.ref (sh.length + 1)), some (.ref (sh.length + 2)), some .null, some .null, some .null, some .null])) :: [.inl (.int, 6), .inl (.int, 6)]) (n := 20) (k := 2) dX4_init_17 (s_get sh _ _) vc_8 (Nat.le_of_ble_eq_true rfl) (Nat.le_of_ble_eq_true rfl) (ab_in 243 (by decide +kernel) rfl) rfl rfl rfl rfl (fun _ => rfl) (fun _ => rfl) rfl (s_set sh _ _ _) ?_
  refine g_aload_n (n := 21) dX4_init_20 rfl rfl rfl ?_
  refine g_bipush (n := 23) (v := nI 6) dX4_init_21 rfl rfl ?_
  refine g_newi (n := 25) (N := 6) (bc' := 3) (bs' := 144) dX4_init_23 (by decide) rfl (by omega) (ab_in 169 (by decide +kernel) rfl) (by omega) (by omega) rfl (s_apd sh (.inr (.inr (8, [none, some (.ref (sh.length + 1)), some (.ref (sh.length + 2)), some .null, some .null, some .null, some .null]))) _ [.inl (.int, 6), .inl (.int, 6)]) ?_
  rw [s_len sh (.inr (.inr (8, [none, some (.ref (sh.length + 1)), some (.ref (sh.length + 2)), some .null, some .null, some .null, some .null]))) [.inl (.int, 6), .inl (.int, 6)]]
  show ab_G _ _ _ _ _ _ [.ref (sh.length + 3), _] (sh ++ .inr (.inr (8, [none, some (.ref (sh.length + 1)), some (.ref (sh.length + 2)), some .null, some .null, some .null, some .null])) :: [.inl (.int, 6), .inl (.int, 6), .inl (.int, 6)]) I _ _ _
  refine g_putFR (sh' := sh ++ .inr (.inr (8, [none, some (.ref (sh.length + 1)), some (.ref (sh.length + 2)), some (.ref (sh.length + 3)), some .null, some .null, some .null])) :: [.inl (.int, 6), .inl (.int, 6), .inl (.int, 6)]) (n := 28) (k := 3) dX4_init_25 (s_get sh _ _) vc_8 (Nat.le_of_ble_eq_true rfl) (Nat.le_of_ble_eq_true rfl) (ab_in 245 (by decide +kernel) rfl) rfl rfl rfl rfl (fun _ => rfl) (fun _ => rfl) rfl (s_set sh _ _ _) ?_
  refine g_aload_n (n := 29) dX4_init_28 rfl rfl rfl ?_
  refine g_bipush (n := 31) (v := nI 48) dX4_init_29 rfl rfl ?_
  refine g_newi (n := 33) (N := 48) (bc' := 2) (bs' := 96) dX4_init_31 (by decide) rfl (by omega) (ab_in 169 (by decide +kernel) rfl) (by omega) (by omega) rfl (s_apd sh (.inr (.inr (8, [none, some (.ref (sh.length + 1)), some (.ref (sh.length + 2)), some (.ref (sh.length + 3)), some .null, some .null, some .null]))) _ [.inl (.int, 6), .inl (.int, 6), .inl (.int, 6)]) ?_
  rw [s_len sh (.inr (.inr (8, [none, some (.ref (sh.length + 1)), some (.ref (sh.length + 2)), some (.ref (sh.length + 3)), some .null, some .null, some .null]))) [.inl (.int, 6), .inl (.int, 6), .inl (.int, 6)]]
  show ab_G _ _ _ _ _ _ [.ref (sh.length + 4), _] (sh ++ .inr (.inr (8, [none, some (.ref (sh.length + 1)), some (.ref (sh.length + 2)), some (.ref (sh.length + 3)), some .null, some .null, some .null])) :: [.inl (.int, 6), .inl (.int, 6), .inl (.int, 6), .inl (.int, 48)]) I _ _ _
  refine g_putFR (sh' := sh ++ .inr (.inr (8, [none, some (.ref (sh.length + 1)), some (.ref (sh.length + 2)), some (.ref (sh.length + 3)), some (.ref (sh.length + 4)), some .null, some .null])) :: [.inl (.int, 6), .inl (.int, 6), .inl (.int, 6), .inl (.int, 48)]) (n := 36) (k := 4) dX4_init_33 (s_get sh _ _) vc_8 (Nat.le_of_ble_eq_true rfl) (Nat.le_of_ble_eq_true rfl) (ab_in 247 (by decide +kernel) rfl) rfl rfl rfl rfl (fun _ => rfl) (fun _ => rfl) rfl (s_set sh _ _ _) ?_
  refine g_aload_n (n := 37) dX4_init_36 rfl rfl rfl ?_
  refine g_bipush (n := 39) (v := nI 48) dX4_init_37 rfl rfl ?_
  refine g_newi (n := 41) (N := 48) (bc' := 1) (bs' := 48) dX4_init_39 (by decide) rfl (by omega) (ab_in 169 (by decide +kernel) rfl) (by omega) (by omega) rfl (s_apd sh (.inr (.inr (8, [none, some (.ref (sh.length + 1)), some (.ref (sh.length + 2)), some (.ref (sh.length + 3)), some (.ref (sh.length + 4)), some .null, some .null]))) _ [.inl (.int, 6), .inl (.int, 6), .inl (.int, 6), .inl (.int, 48)]) ?_
  rw [s_len sh (.inr (.inr (8, [none, some (.ref (sh.length + 1)), some (.ref (sh.length + 2)), some (.ref (sh.length + 3)), some (.ref (sh.length + 4)), some .null, some .null]))) [.inl (.int, 6), .inl (.int, 6), .inl (.int, 6), .inl (.int, 48)]]
  show ab_G _ _ _ _ _ _ [.ref (sh.length + 5), _] (sh ++ .inr (.inr (8, [none, some (.ref (sh.length + 1)), some (.ref (sh.length + 2)), some (.ref (sh.length + 3)), some (.ref (sh.length + 4)), some .null, some .null])) :: [.inl (.int, 6), .inl (.int, 6), .inl (.int, 6), .inl (.int, 48), .inl (.int, 48)]) I _ _ _
  refine g_putFR (sh' := sh ++ .inr (.inr (8, [none, some (.ref (sh.length + 1)), some (.ref (sh.length + 2)), some (.ref (sh.length + 3)), some (.ref (sh.length + 4)), some (.ref (sh.length + 5)), some .null])) :: [.inl (.int, 6), .inl (.int, 6), .inl (.int, 6), .inl (.int, 48), .inl (.int, 48)]) (n := 44) (k := 5) dX4_init_41 (s_get sh _ _) vc_8 (Nat.le_of_ble_eq_true rfl) (Nat.le_of_ble_eq_true rfl) (ab_in 250 (by decide +kernel) rfl) rfl rfl rfl rfl (fun _ => rfl) (fun _ => rfl) rfl (s_set sh _ _ _) ?_
  refine g_aload_n (n := 45) dX4_init_44 rfl rfl rfl ?_
  refine g_bipush (n := 47) (v := nI 48) dX4_init_45 rfl rfl ?_
  refine g_newi (n := 49) (N := 48) (bc' := 0) (bs' := 0) dX4_init_47 (by decide) rfl (by omega) (ab_in 169 (by decide +kernel) rfl) (by omega) (by omega) rfl (s_apd sh (.inr (.inr (8, [none, some (.ref (sh.length + 1)), some (.ref (sh.length + 2)), some (.ref (sh.length + 3)), some (.ref (sh.length + 4)), some (.ref (sh.length + 5)), some .null]))) _ [.inl (.int, 6), .inl (.int, 6), .inl (.int, 6), .inl (.int, 48), .inl (.int, 48)]) ?_
  rw [s_len sh (.inr (.inr (8, [none, some (.ref (sh.length + 1)), some (.ref (sh.length + 2)), some (.ref (sh.length + 3)), some (.ref (sh.length + 4)), some (.ref (sh.length + 5)), some .null]))) [.inl (.int, 6), .inl (.int, 6), .inl (.int, 6), .inl (.int, 48), .inl (.int, 48)]]
  show ab_G _ _ _ _ _ _ [.ref (sh.length + 6), _] (sh ++ .inr (.inr (8, [none, some (.ref (sh.length + 1)), some (.ref (sh.length + 2)), some (.ref (sh.length + 3)), some (.ref (sh.length + 4)), some (.ref (sh.length + 5)), some .null])) :: [.inl (.int, 6), .inl (.int, 6), .inl (.int, 6), .inl (.int, 48), .inl (.int, 48), .inl (.int, 48)]) I _ _ _
  refine g_putFR (sh' := sh ++ .inr (.inr (8, [none, some (.ref (sh.length + 1)), some (.ref (sh.length + 2)), some (.ref (sh.length + 3)), some (.ref (sh.length + 4)), some (.ref (sh.length + 5)), some (.ref (sh.length + 6))])) :: [.inl (.int, 6), .inl (.int, 6), .inl (.int, 6), .inl (.int, 48), .inl (.int, 48), .inl (.int, 48)]) (n := 52) (k := 6) dX4_init_49 (s_get sh _ _) vc_8 (Nat.le_of_ble_eq_true rfl) (Nat.le_of_ble_eq_true rfl) (ab_in 253 (by decide +kernel) rfl) rfl rfl rfl rfl (fun _ => rfl) (fun _ => rfl) rfl (s_set sh _ _ _) ?_
  refine g_vret rfl dX4_init_52 ⟨rfl, rfl, rfl, fun c hc => ?_⟩
  show wrow _ _ _ c = A c
  simp only [List.length_cons, List.length_nil]
  rw [wrow_ne (by omega), wrow_ne (by omega), wrow_ne (by omega), wrow_ne (by omega), wrow_ne (by omega), wrow_ne (by omega)]
abbrev mX2_init : ab_M := (yX2_init, cX2_init, 1, none)
theorem okX2_init : ab_mOK mX2_init 0 := ⟨⟨by decide, by decide, by decide +kernel⟩, by decide, (ab_in 275 (by decide +kernel) rfl), ab_in 102 (by decide +kernel) rfl⟩
theorem ctX2_init {sh : List ab_S} {I A : ab_F} : ab_Cl mX2_init 1 3 48 [.ref sh.length] (sh ++ [.inr (.inr (6, [none, none, some .null, some .null, some .null]))]) I A (ab_Pn (sh ++ .inr (.inr (6, [none, none, some (.ref (sh.length + 1)), some (.ref (sh.length + 2)), some (.ref (sh.length + 3))])) :: [.inl (.int, 16), .inl (.int, 16), .inl (.int, 16)]) sh.length 3 I A) := by
  refine ab_enter (ls := [some (.ref sh.length)]) (by decide +kernel) (Nat.le_of_ble_eq_true rfl) rfl (fun C => ?_)
  refine g_aload_n (n := 1) dX2_init_0 rfl rfl rfl ?_
  refine g_objInit (n := 4) dX2_init_1 (ab_in 276 (by decide +kernel) rfl) (ab_in 140 (by decide +kernel) rfl) (ab_in 141 (by decide +kernel) rfl) (Nat.le_of_ble_eq_true rfl) (Nat.le_of_ble_eq_true rfl) rfl ?_
  refine g_aload_n (n := 5) dX2_init_4 rfl rfl rfl ?_
  refine g_bipush (n := 7) (v := nI 16) dX2_init_5 rfl rfl ?_
  refine g_newi (n := 9) (N := 16) (bc' := 2) (bs' := 32) dX2_init_7 (by decide) rfl (by omega) (ab_in 169 (by decide +kernel) rfl) (by omega) (by omega) rfl (s_apd sh (.inr (.inr (6, [none, none, some .null, some .null, some .null]))) _ []) ?_
  rw [s_len sh (.inr (.inr (6, [none, none, some .null, some .null, some .null]))) []]
  show ab_G _ _ _ _ _ _ [.ref (sh.length + 1), _] (sh ++ .inr (.inr (6, [none, none, some .null, some .null, some .null])) :: [.inl (.int, 16)]) I _ _ _
  refine g_putFR (sh' := sh ++ .inr (.inr (6, [none, none, some (.ref (sh.length + 1)), some .null, some .null])) :: [.inl (.int, 16)]) (n := 12) (k := 2) dX2_init_9 (s_get sh _ _) vc_6 (Nat.le_of_ble_eq_true rfl) (Nat.le_of_ble_eq_true rfl) (ab_in 283 (by decide +kernel) rfl) rfl rfl rfl rfl (fun _ => rfl) (fun _ => rfl) rfl (s_set sh _ _ _) ?_
  refine g_aload_n (n := 13) dX2_init_12 rfl rfl rfl ?_
  refine g_bipush (n := 15) (v := nI 16) dX2_init_13 rfl rfl ?_
  refine g_newi (n := 17) (N := 16) (bc' := 1) (bs' := 16) dX2_init_15 (by decide) rfl (by omega) (ab_in 169 (by decide +kernel) rfl) (by omega) (by omega) rfl (s_apd sh (.inr (.inr (6, [none, none, some (.ref (sh.length + 1)), some .null, some .null]))) _ [.inl (.int, 16)]) ?_
  rw [s_len sh (.inr (.inr (6, [none, none, some (.ref (sh.length + 1)), some .null, some .null]))) [.inl (.int, 16)]]
  show ab_G _ _ _ _ _ _ [.ref (sh.length + 2), _] (sh ++ .inr (.inr (6, [none, none, some (.ref (sh.length + 1)), some .null, some .null])) :: [.inl (.int, 16), .inl (.int, 16)]) I _ _ _
  refine g_putFR (sh' := sh ++ .inr (.inr (6, [none, none, some (.ref (sh.length + 1)), some (.ref (sh.length + 2)), some .null])) :: [.inl (.int, 16), .inl (.int, 16)]) (n := 20) (k := 3) dX2_init_17 (s_get sh _ _) vc_6 (Nat.le_of_ble_eq_true rfl) (Nat.le_of_ble_eq_true rfl) (ab_in 286 (by decide +kernel) rfl) rfl rfl rfl rfl (fun _ => rfl) (fun _ => rfl) rfl (s_set sh _ _ _) ?_
  refine g_aload_n (n := 21) dX2_init_20 rfl rfl rfl ?_
  refine g_bipush (n := 23) (v := nI 16) dX2_init_21 rfl rfl ?_
  refine g_newi (n := 25) (N := 16) (bc' := 0) (bs' := 0) dX2_init_23 (by decide) rfl (by omega) (ab_in 169 (by decide +kernel) rfl) (by omega) (by omega) rfl (s_apd sh (.inr (.inr (6, [none, none, some (.ref (sh.length + 1)), some (.ref (sh.length + 2)), some .null]))) _ [.inl (.int, 16), .inl (.int, 16)]) ?_
  rw [s_len sh (.inr (.inr (6, [none, none, some (.ref (sh.length + 1)), some (.ref (sh.length + 2)), some .null]))) [.inl (.int, 16), .inl (.int, 16)]]
  show ab_G _ _ _ _ _ _ [.ref (sh.length + 3), _] (sh ++ .inr (.inr (6, [none, none, some (.ref (sh.length + 1)), some (.ref (sh.length + 2)), some .null])) :: [.inl (.int, 16), .inl (.int, 16), .inl (.int, 16)]) I _ _ _
  refine g_putFR (sh' := sh ++ .inr (.inr (6, [none, none, some (.ref (sh.length + 1)), some (.ref (sh.length + 2)), some (.ref (sh.length + 3))])) :: [.inl (.int, 16), .inl (.int, 16), .inl (.int, 16)]) (n := 28) (k := 4) dX2_init_25 (s_get sh _ _) vc_6 (Nat.le_of_ble_eq_true rfl) (Nat.le_of_ble_eq_true rfl) (ab_in 289 (by decide +kernel) rfl) rfl rfl rfl rfl (fun _ => rfl) (fun _ => rfl) rfl (s_set sh _ _ _) ?_
  refine g_vret rfl dX2_init_28 ⟨rfl, rfl, rfl, fun c hc => ?_⟩
  show wrow _ _ _ c = A c
  simp only [List.length_cons, List.length_nil]
  rw [wrow_ne (by omega), wrow_ne (by omega), wrow_ne (by omega)]
abbrev mX7_init : ab_M := (yX7_init, cX7_init, 1, none)
theorem okX7_init : ab_mOK mX7_init 0 := ⟨⟨by decide, by decide, by decide +kernel⟩, by decide, (ab_in 307 (by decide +kernel) rfl), ab_in 103 (by decide +kernel) rfl⟩
theorem ctX7_init {sh : List ab_S} {I A : ab_F} : ab_Cl mX7_init 1 3 144 [.ref sh.length] (sh ++ [.inr (.inr (11, [none, none, some .null, some .null, some .null]))]) I A (ab_Pn (sh ++ .inr (.inr (11, [none, none, some (.ref (sh.length + 1)), some (.ref (sh.length + 2)), some (.ref (sh.length + 3))])) :: [.inl (.int, 48), .inl (.int, 48), .inl (.int, 48)]) sh.length 3 I A) := by
  refine ab_enter (ls := [some (.ref sh.length)]) (by decide +kernel) (Nat.le_of_ble_eq_true rfl) rfl (fun C => ?_)
  refine g_aload_n (n := 1) dX7_init_0 rfl rfl rfl ?_
  refine g_objInit (n := 4) dX7_init_1 (ab_in 308 (by decide +kernel) rfl) (ab_in 140 (by decide +kernel) rfl) (ab_in 141 (by decide +kernel) rfl) (Nat.le_of_ble_eq_true rfl) (Nat.le_of_ble_eq_true rfl) rfl ?_
  refine g_aload_n (n := 5) dX7_init_4 rfl rfl rfl ?_
  refine g_bipush (n := 7) (v := nI 48) dX7_init_5 rfl rfl ?_
  refine g_newi (n := 9) (N := 48) (bc' := 2) (bs' := 96) dX7_init_7 (by decide) rfl (by omega) (ab_in 169 (by decide +kernel) rfl) (by omega) (by omega) rfl (s_apd sh (.inr (.inr (11, [none, none, some .null, some .null, some .null]))) _ []) ?_
  rw [s_len sh (.inr (.inr (11, [none, none, some .null, some .null, some .null]))) []]
  show ab_G _ _ _ _ _ _ [.ref (sh.length + 1), _] (sh ++ .inr (.inr (11, [none, none, some .null, some .null, some .null])) :: [.inl (.int, 48)]) I _ _ _
  refine g_putFR (sh' := sh ++ .inr (.inr (11, [none, none, some (.ref (sh.length + 1)), some .null, some .null])) :: [.inl (.int, 48)]) (n := 12) (k := 2) dX7_init_9 (s_get sh _ _) vc_11 (Nat.le_of_ble_eq_true rfl) (Nat.le_of_ble_eq_true rfl) (ab_in 314 (by decide +kernel) rfl) rfl rfl rfl rfl (fun _ => rfl) (fun _ => rfl) rfl (s_set sh _ _ _) ?_
  refine g_aload_n (n := 13) dX7_init_12 rfl rfl rfl ?_
  refine g_bipush (n := 15) (v := nI 48) dX7_init_13 rfl rfl ?_
  refine g_newi (n := 17) (N := 48) (bc' := 1) (bs' := 48) dX7_init_15 (by decide) rfl (by omega) (ab_in 169 (by decide +kernel) rfl) (by omega) (by omega) rfl (s_apd sh (.inr (.inr (11, [none, none, some (.ref (sh.length + 1)), some .null, some .null]))) _ [.inl (.int, 48)]) ?_
  rw [s_len sh (.inr (.inr (11, [none, none, some (.ref (sh.length + 1)), some .null, some .null]))) [.inl (.int, 48)]]
  show ab_G _ _ _ _ _ _ [.ref (sh.length + 2), _] (sh ++ .inr (.inr (11, [none, none, some (.ref (sh.length + 1)), some .null, some .null])) :: [.inl (.int, 48), .inl (.int, 48)]) I _ _ _
  refine g_putFR (sh' := sh ++ .inr (.inr (11, [none, none, some (.ref (sh.length + 1)), some (.ref (sh.length + 2)), some .null])) :: [.inl (.int, 48), .inl (.int, 48)]) (n := 20) (k := 3) dX7_init_17 (s_get sh _ _) vc_11 (Nat.le_of_ble_eq_true rfl) (Nat.le_of_ble_eq_true rfl) (ab_in 317 (by decide +kernel) rfl) rfl rfl rfl rfl (fun _ => rfl) (fun _ => rfl) rfl (s_set sh _ _ _) ?_
  refine g_aload_n (n := 21) dX7_init_20 rfl rfl rfl ?_
  refine g_bipush (n := 23) (v := nI 48) dX7_init_21 rfl rfl ?_
  refine g_newi (n := 25) (N := 48) (bc' := 0) (bs' := 0) dX7_init_23 (by decide) rfl (by omega) (ab_in 169 (by decide +kernel) rfl) (by omega) (by omega) rfl (s_apd sh (.inr (.inr (11, [none, none, some (.ref (sh.length + 1)), some (.ref (sh.length + 2)), some .null]))) _ [.inl (.int, 48), .inl (.int, 48)]) ?_
  rw [s_len sh (.inr (.inr (11, [none, none, some (.ref (sh.length + 1)), some (.ref (sh.length + 2)), some .null]))) [.inl (.int, 48), .inl (.int, 48)]]
  show ab_G _ _ _ _ _ _ [.ref (sh.length + 3), _] (sh ++ .inr (.inr (11, [none, none, some (.ref (sh.length + 1)), some (.ref (sh.length + 2)), some .null])) :: [.inl (.int, 48), .inl (.int, 48), .inl (.int, 48)]) I _ _ _
  refine g_putFR (sh' := sh ++ .inr (.inr (11, [none, none, some (.ref (sh.length + 1)), some (.ref (sh.length + 2)), some (.ref (sh.length + 3))])) :: [.inl (.int, 48), .inl (.int, 48), .inl (.int, 48)]) (n := 28) (k := 4) dX7_init_25 (s_get sh _ _) vc_11 (Nat.le_of_ble_eq_true rfl) (Nat.le_of_ble_eq_true rfl) (ab_in 319 (by decide +kernel) rfl) rfl rfl rfl rfl (fun _ => rfl) (fun _ => rfl) rfl (s_set sh _ _ _) ?_
  refine g_vret rfl dX7_init_28 ⟨rfl, rfl, rfl, fun c hc => ?_⟩
  show wrow _ _ _ c = A c
  simp only [List.length_cons, List.length_nil]
  rw [wrow_ne (by omega), wrow_ne (by omega), wrow_ne (by omega)]
abbrev mX1_init : ab_M := (yX1_init, cX1_init, 1, none)
theorem okX1_init : ab_mOK mX1_init 0 := ⟨⟨by decide, by decide, by decide +kernel⟩, by decide, (ab_in 337 (by decide +kernel) rfl), ab_in 104 (by decide +kernel) rfl⟩
theorem ctX1_init {sh : List ab_S} {I A : ab_F} : ab_Cl mX1_init 1 4 134 [.ref sh.length] (sh ++ [.inr (.inr (5, [none, none, none, none, some .null, some .null, some .null, some .null]))]) I A (ab_Pn (sh ++ .inr (.inr (5, [none, none, none, none, some (.ref (sh.length + 1)), some (.ref (sh.length + 2)), some (.ref (sh.length + 3)), some (.ref (sh.length + 4))])) :: [.inl (.int, 48), .inl (.int, 6), .inl (.int, 48), .inl (.int, 32)]) sh.length 4 I A) := by
  refine ab_enter (ls := [some (.ref sh.length)]) (by decide +kernel) (Nat.le_of_ble_eq_true rfl) rfl (fun C => ?_)
  refine g_aload_n (n := 1) dX1_init_0 rfl rfl rfl ?_
  refine g_objInit (n := 4) dX1_init_1 (ab_in 338 (by decide +kernel) rfl) (ab_in 140 (by decide +kernel) rfl) (ab_in 141 (by decide +kernel) rfl) (Nat.le_of_ble_eq_true rfl) (Nat.le_of_ble_eq_true rfl) rfl ?_
  refine g_aload_n (n := 5) dX1_init_4 rfl rfl rfl ?_
  refine g_bipush (n := 7) (v := nI 48) dX1_init_5 rfl rfl ?_
  refine g_newi (n := 9) (N := 48) (bc' := 3) (bs' := 86) dX1_init_7 (by decide) rfl (by omega) (ab_in 169 (by decide +kernel) rfl) (by omega) (by omega) rfl (s_apd sh (.inr (.inr (5, [none, none, none, none, some .null, some .null, some .null, some .null]))) _ []) ?_
  rw [s_len sh (.inr (.inr (5, [none, none, none, none, some .null, some .null, some .null, some .null]))) []]
  show ab_G _ _ _ _ _ _ [.ref (sh.length + 1), _] (sh ++ .inr (.inr (5, [none, none, none, none, some .null, some .null, some .null, some .null])) :: [.inl (.int, 48)]) I _ _ _
  refine g_putFR (sh' := sh ++ .inr (.inr (5, [none, none, none, none, some (.ref (sh.length + 1)), some .null, some .null, some .null])) :: [.inl (.int, 48)]) (n := 12) (k := 4) dX1_init_9 (s_get sh _ _) vc_5 (Nat.le_of_ble_eq_true rfl) (Nat.le_of_ble_eq_true rfl) (ab_in 349 (by decide +kernel) rfl) rfl rfl rfl rfl (fun _ => rfl) (fun _ => rfl) rfl (s_set sh _ _ _) ?_
  refine g_aload_n (n := 13) dX1_init_12 rfl rfl rfl ?_
  refine g_bipush (n := 15) (v := nI 6) dX1_init_13 rfl rfl ?_
  refine g_newi (n := 17) (N := 6) (bc' := 2) (bs' := 80) dX1_init_15 (by decide) rfl (by omega) (ab_in 169 (by decide +kernel) rfl) (by omega) (by omega) rfl (s_apd sh (.inr (.inr (5, [none, none, none, none, some (.ref (sh.length + 1)), some .null, some .null, some .null]))) _ [.inl (.int, 48)]) ?_
  rw [s_len sh (.inr (.inr (5, [none, none, none, none, some (.ref (sh.length + 1)), some .null, some .null, some .null]))) [.inl (.int, 48)]]
  show ab_G _ _ _ _ _ _ [.ref (sh.length + 2), _] (sh ++ .inr (.inr (5, [none, none, none, none, some (.ref (sh.length + 1)), some .null, some .null, some .null])) :: [.inl (.int, 48), .inl (.int, 6)]) I _ _ _
  refine g_putFR (sh' := sh ++ .inr (.inr (5, [none, none, none, none, some (.ref (sh.length + 1)), some (.ref (sh.length + 2)), some .null, some .null])) :: [.inl (.int, 48), .inl (.int, 6)]) (n := 20) (k := 5) dX1_init_17 (s_get sh _ _) vc_5 (Nat.le_of_ble_eq_true rfl) (Nat.le_of_ble_eq_true rfl) (ab_in 351 (by decide +kernel) rfl) rfl rfl rfl rfl (fun _ => rfl) (fun _ => rfl) rfl (s_set sh _ _ _) ?_
  refine g_aload_n (n := 21) dX1_init_20 rfl rfl rfl ?_
  refine g_bipush (n := 23) (v := nI 48) dX1_init_21 rfl rfl ?_
  refine g_newi (n := 25) (N := 48) (bc' := 1) (bs' := 32) dX1_init_23 (by decide) rfl (by omega) (ab_in 169 (by decide +kernel) rfl) (by omega) (by omega) rfl (s_apd sh (.inr (.inr (5, [none, none, none, none, some (.ref (sh.length + 1)), some (.ref (sh.length + 2)), some .null, some .null]))) _ [.inl (.int, 48), .inl (.int, 6)]) ?_
  rw [s_len sh (.inr (.inr (5, [none, none, none, none, some (.ref (sh.length + 1)), some (.ref (sh.length + 2)), some .null, some .null]))) [.inl (.int, 48), .inl (.int, 6)]]
  show ab_G _ _ _ _ _ _ [.ref (sh.length + 3), _] (sh ++ .inr (.inr (5, [none, none, none, none, some (.ref (sh.length + 1)), some (.ref (sh.length + 2)), some .null, some .null])) :: [.inl (.int, 48), .inl (.int, 6), .inl (.int, 48)]) I _ _ _
  refine g_putFR (sh' := sh ++ .inr (.inr (5, [none, none, none, none, some (.ref (sh.length + 1)), some (.ref (sh.length + 2)), some (.ref (sh.length + 3)), some .null])) :: [.inl (.int, 48), .inl (.int, 6), .inl (.int, 48)]) (n := 28) (k := 6) dX1_init_25 (s_get sh _ _) vc_5 (Nat.le_of_ble_eq_true rfl) (Nat.le_of_ble_eq_true rfl) (ab_in 354 (by decide +kernel) rfl) rfl rfl rfl rfl (fun _ => rfl) (fun _ => rfl) rfl (s_set sh _ _ _) ?_
  refine g_aload_n (n := 29) dX1_init_28 rfl rfl rfl ?_
  refine g_bipush (n := 31) (v := nI 32) dX1_init_29 rfl rfl ?_
  refine g_newi (n := 33) (N := 32) (bc' := 0) (bs' := 0) dX1_init_31 (by decide) rfl (by omega) (ab_in 169 (by decide +kernel) rfl) (by omega) (by omega) rfl (s_apd sh (.inr (.inr (5, [none, none, none, none, some (.ref (sh.length + 1)), some (.ref (sh.length + 2)), some (.ref (sh.length + 3)), some .null]))) _ [.inl (.int, 48), .inl (.int, 6), .inl (.int, 48)]) ?_
  rw [s_len sh (.inr (.inr (5, [none, none, none, none, some (.ref (sh.length + 1)), some (.ref (sh.length + 2)), some (.ref (sh.length + 3)), some .null]))) [.inl (.int, 48), .inl (.int, 6), .inl (.int, 48)]]
  show ab_G _ _ _ _ _ _ [.ref (sh.length + 4), _] (sh ++ .inr (.inr (5, [none, none, none, none, some (.ref (sh.length + 1)), some (.ref (sh.length + 2)), some (.ref (sh.length + 3)), some .null])) :: [.inl (.int, 48), .inl (.int, 6), .inl (.int, 48), .inl (.int, 32)]) I _ _ _
  refine g_putFR (sh' := sh ++ .inr (.inr (5, [none, none, none, none, some (.ref (sh.length + 1)), some (.ref (sh.length + 2)), some (.ref (sh.length + 3)), some (.ref (sh.length + 4))])) :: [.inl (.int, 48), .inl (.int, 6), .inl (.int, 48), .inl (.int, 32)]) (n := 36) (k := 7) dX1_init_33 (s_get sh _ _) vc_5 (Nat.le_of_ble_eq_true rfl) (Nat.le_of_ble_eq_true rfl) (ab_in 357 (by decide +kernel) rfl) rfl rfl rfl rfl (fun _ => rfl) (fun _ => rfl) rfl (s_set sh _ _ _) ?_
  refine g_vret rfl dX1_init_36 ⟨rfl, rfl, rfl, fun c hc => ?_⟩
  show wrow _ _ _ c = A c
  simp only [List.length_cons, List.length_nil]
  rw [wrow_ne (by omega), wrow_ne (by omega), wrow_ne (by omega), wrow_ne (by omega)]
abbrev mX0_init : ab_M := (yX0_init, cX0_init, 1, none)
theorem okX0_init : ab_mOK mX0_init 0 := ⟨⟨by decide, by decide, by decide +kernel⟩, by decide, (ab_in 379 (by decide +kernel) rfl), ab_in 105 (by decide +kernel) rfl⟩
theorem ctX0_init {sh : List ab_S} {I A : ab_F} : ab_Cl mX0_init 1 1 64 [.ref sh.length] (sh ++ [.inr (.inr (4, [none, none, none, some .null]))]) I A (ab_Pn (sh ++ .inr (.inr (4, [none, none, none, some (.ref (sh.length + 1))])) :: [.inl (.int, 64)]) sh.length 1 I A) := by
  refine ab_enter (ls := [some (.ref sh.length)]) (by decide +kernel) (Nat.le_of_ble_eq_true rfl) rfl (fun C => ?_)
  refine g_aload_n (n := 1) dX0_init_0 rfl rfl rfl ?_
  refine g_objInit (n := 4) dX0_init_1 (ab_in 380 (by decide +kernel) rfl) (ab_in 140 (by decide +kernel) rfl) (ab_in 141 (by decide +kernel) rfl) (Nat.le_of_ble_eq_true rfl) (Nat.le_of_ble_eq_true rfl) rfl ?_
  refine g_aload_n (n := 5) dX0_init_4 rfl rfl rfl ?_
  refine g_bipush (n := 7) (v := nI 64) dX0_init_5 rfl rfl ?_
  refine g_newi (n := 9) (N := 64) (bc' := 0) (bs' := 0) dX0_init_7 (by decide) rfl (by omega) (ab_in 169 (by decide +kernel) rfl) (by omega) (by omega) rfl (s_apd sh (.inr (.inr (4, [none, none, none, some .null]))) _ []) ?_
  rw [s_len sh (.inr (.inr (4, [none, none, none, some .null]))) []]
  show ab_G _ _ _ _ _ _ [.ref (sh.length + 1), _] (sh ++ .inr (.inr (4, [none, none, none, some .null])) :: [.inl (.int, 64)]) I _ _ _
  refine g_putFR (sh' := sh ++ .inr (.inr (4, [none, none, none, some (.ref (sh.length + 1))])) :: [.inl (.int, 64)]) (n := 12) (k := 3) dX0_init_9 (s_get sh _ _) vc_4 (Nat.le_of_ble_eq_true rfl) (Nat.le_of_ble_eq_true rfl) (ab_in 389 (by decide +kernel) rfl) rfl rfl rfl rfl (fun _ => rfl) (fun _ => rfl) rfl (s_set sh _ _ _) ?_
  refine g_vret rfl dX0_init_12 ⟨rfl, rfl, rfl, fun c hc => ?_⟩
  show wrow _ _ _ c = A c
  simp only [List.length_cons, List.length_nil]
  rw [wrow_ne (by omega)]
