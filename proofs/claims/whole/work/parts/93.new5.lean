/-! the reference's constructor -/
def A1q (A A' : ab_F) : Prop := ∀ c, c ≠ 1 → A' c = A c
theorem A1q.refl (A : ab_F) : A1q A A := fun _ _ => rfl
theorem A1q.w {A A' : ab_F} (h : A1q A A') {i : Nat} {v : Int32} : A1q A (wr A' 1 i v) := fun c q => (wr_ne q).trans (h c q)
theorem q_lay1 {K : ab_F → ab_F → Prop} {I A : ab_F} (h : ∀ A', A1q A A' → Ew wl0 (A' 1) → K I A') : wX12_lay_1 K I A := by
  have g117 : ∀ m i A', i + m = 48 → A1q A A' → Ew (lw 6 48 16 i) (A' 1) → wlX12_lay_1_117 K (m + 1) (nI i) I A' := by
    intro m
    induction m with
    | zero =>
      intro i A' hi a e
      rw [show i = 48 by omega] at e ⊢
      exact br_t (by decide) (h A' a e)
    | succ m ih =>
      intro i A' hi a e
      refine br_f (nI_ge (by omega) (by omega)) (ixa (by omega) (ixa (by omega) ?_))
      rw [nI_add i 1]
      refine ih (i + 1) _ (by omega) a.w.w (fun k hk => ?_)
      by_cases c1 : k = 464 + i
      · rw [c1, wr_ate, lw_n (by omega) (by omega)]
      · rw [wr_nei c1]
        by_cases c2 : k = 416 + i
        · rw [c2, wr_ate, lw_n (by omega) (by omega)]
        · rw [wr_nei c2, e k hk]; exact (lw_st (by omega) (by omega) (by omega)).symm
  have g95 : ∀ m i A', i + m = 16 → A1q A A' → Ew (lw 6 48 i 0) (A' 1) → wlX12_lay_1_95 K (m + 1) (nI i) I A' := by
    intro m
    induction m with
    | zero =>
      intro i A' hi a e
      rw [show i = 16 by omega] at e ⊢
      exact br_t (by decide) ⟨_, g117 48 0 A' (by omega) a e⟩
    | succ m ih =>
      intro i A' hi a e
      refine br_f (nI_ge (by omega) (by omega)) (ixa (by omega) ?_)
      rw [nI_add i 1]
      refine ih (i + 1) _ (by omega) a.w (fun k hk => ?_)
      by_cases c1 : k = 320 + i
      · rw [c1, wr_ate, lw_n (by omega) (by omega)]
      · rw [wr_nei c1, e k hk]; exact (lw_st (by omega) (by omega) (by omega)).symm
  have g50 : ∀ m i A', i + m = 48 → A1q A A' → Ew (lw 6 i 0 0) (A' 1) → wlX12_lay_1_50 K (m + 1) (nI i) I A' := by
    intro m
    induction m with
    | zero =>
      intro i A' hi a e
      rw [show i = 48 by omega] at e ⊢
      exact br_t (by decide) ⟨_, g95 16 0 A' (by omega) a e⟩
    | succ m ih =>
      intro i A' hi a e
      refine br_f (nI_ge (by omega) (by omega)) (ixa (by omega) (ixa (by omega) (ixa (by omega) (ixa (by omega) ?_))))
      rw [nI_add i 1]
      refine ih (i + 1) _ (by omega) a.w.w.w.w (fun k hk => ?_)
      by_cases c1 : k = 272 + i
      · rw [c1, wr_ate, lw_n (by omega) (by omega)]
      · rw [wr_nei c1]
        by_cases c2 : k = 224 + i
        · rw [c2, wr_ate, lw_n (by omega) (by omega)]
        · rw [wr_nei c2]
          by_cases c3 : k = 128 + i
          · rw [c3, wr_ate, lw_n (by omega) (by omega)]
          · rw [wr_nei c3]
            by_cases c4 : k = 80 + i
            · rw [c4, wr_ate, lw_n (by omega) (by omega)]
            · rw [wr_nei c4, e k hk]; exact (lw_st (by omega) (by omega) (by omega)).symm
  have g29 : ∀ m i A', i + m = 6 → A1q A A' → Ew (lw i 0 0 0) (A' 1) → wlX12_lay_1_29 K (m + 1) (nI i) I A' := by
    intro m
    induction m with
    | zero =>
      intro i A' hi a e
      rw [show i = 6 by omega] at e ⊢
      exact br_t (by decide) ⟨_, g50 48 0 A' (by omega) a e⟩
    | succ m ih =>
      intro i A' hi a e
      refine br_f (nI_ge (by omega) (by omega)) (ixa (by omega) ?_)
      rw [nI_add i 1]
      refine ih (i + 1) _ (by omega) a.w (fun k hk => ?_)
      by_cases c1 : k = 26 + i
      · rw [c1, wr_ate, lw_n (by omega) (by omega)]
      · rw [wr_nei c1, e k hk]; exact (lw_st (by omega) (by omega) (by omega)).symm
  have g2 : ∀ m i A', i + m = 608 → A1q A A' → (∀ k, k < i → A' 1 k = 0) → wlX12_lay_1_2 K (m + 1) (nI i) I A' := by
    intro m
    induction m with
    | zero =>
      intro i A' hi a e
      rw [show i = 608 by omega] at e ⊢
      refine br_t (by decide) ⟨_, g29 6 0 _ (by omega) a.w.w (fun k hk => ?_)⟩
      by_cases c1 : k = 1
      · rw [c1, wr_ate, lw_1 (by omega)]
      · rw [wr_nei c1]
        by_cases c2 : k = 0
        · rw [c2, wr_ate, lw_1 (by omega)]
        · rw [wr_nei c2, e k hk, lw_0 (by omega) (by omega)]
    | succ m ih =>
      intro i A' hi a e
      refine br_f (nI_ge (by omega) (by omega)) (ix0 (by omega) ?_)
      rw [nI_add i 1]
      refine ih (i + 1) _ (by omega) a.w (fun k hk => ?_)
      by_cases c1 : k = i
      · rw [c1, wr_ate]; rfl
      · rw [wr_nei c1]; exact e k (by omega)
  exact ⟨_, g2 608 0 A (by omega) (A1q.refl A) (fun k hk => by omega)⟩
abbrev mX12_init : ab_M := (yX12_init, cX12_init, 1, none)
theorem okX12_init : ab_mOK mX12_init 0 := ⟨⟨by decide, by decide, by decide +kernel⟩, by decide, (ab_in 1989 (by decide +kernel) rfl), (ab_in 112 (by decide +kernel) rfl)⟩
theorem J_0 {I : ab_F} (hI : I 0 = fun _ => 0) (k : Nat) (h : k ≠ 12) : wr I 0 12 (-1 : Int32) 0 k = 0 := by rw [wr_nei h, hI]
def J_ok (I A : ab_F) : Prop := Ew wl0 (A 1) ∧ I 0 4 = nI 0 ∧ I 0 7 = nI 0 ∧ I 0 11 = nI 0 ∧ I 0 12 = -1 ∧ I 0 18 = nI 0
theorem ctX12_init {I A : ab_F} (hI : I 0 = fun _ => 0) : ab_Cl mX12_init 3 10 9155 [.ref 0] [.inr (.inr (16, [some .null, some .null, some .null, some .null, none, none, some .null, none, none, none, none, none, none, some .null, some .null, some .null, some .null, some .null, none]))] I A (fun o => o.1 = .inl none ∧ ∃ I' A', o.2 = (shM, I', A') ∧ J_ok I' A') := by
  refine ab_enter (ls := [some (.ref 0)]) (by decide +kernel) (Nat.le_of_ble_eq_true rfl) rfl (fun C => ?_)
  refine g_aload_n (n := 1) dX12_init_0 rfl rfl rfl ?_
  refine g_objInit (n := 4) dX12_init_1 (ab_in 1990 (by decide +kernel) rfl) (ab_in 140 (by decide +kernel) rfl) (ab_in 141 (by decide +kernel) rfl) (Nat.le_of_ble_eq_true rfl) (Nat.le_of_ble_eq_true rfl) rfl ?_
  refine g_aload_n (n := 5) dX12_init_4 rfl rfl rfl ?_
  refine g_sipush (n := 8) (v := (nI 608)) dX12_init_5 rfl rfl ?_
  refine g_newi (sh' := [.inr (.inr (16, [some .null, some .null, some .null, some .null, none, none, some .null, none, none, none, none, none, none, some .null, some .null, some .null, some .null, some .null, none])), .inl (.int, 608)]) (n := 10) (N := 608) (bc' := 9) (bs' := 8547) dX12_init_8 (by decide) rfl (by omega) (ab_in 169 (by decide +kernel) rfl) (by omega) (by omega) rfl rfl ?_
  show ab_G _ _ _ _ _ _ (.ref 1 :: _) _ _ _ _ _
  refine g_putFR (sh' := [.inr (.inr (16, [some (.ref 1), some .null, some .null, some .null, none, none, some .null, none, none, none, none, none, none, some .null, some .null, some .null, some .null, some .null, none])), .inl (.int, 608)]) (n := 13) (k := 0) dX12_init_10 rfl vc_16 (Nat.le_of_ble_eq_true rfl) (Nat.le_of_ble_eq_true rfl) (ab_in 1994 (by decide +kernel) rfl) rfl rfl rfl rfl (fun _ => rfl) (fun _ => rfl) rfl rfl ?_
  refine g_aload_n (n := 14) dX12_init_13 rfl rfl rfl ?_
  refine g_sipush (n := 17) (v := (nI 608)) dX12_init_14 rfl rfl ?_
  refine g_newi (sh' := [.inr (.inr (16, [some (.ref 1), some .null, some .null, some .null, none, none, some .null, none, none, none, none, none, none, some .null, some .null, some .null, some .null, some .null, none])), .inl (.int, 608), .inl (.int, 608)]) (n := 19) (N := 608) (bc' := 8) (bs' := 7939) dX12_init_17 (by decide) rfl (by omega) (ab_in 169 (by decide +kernel) rfl) (by omega) (by omega) rfl rfl ?_
  show ab_G _ _ _ _ _ _ (.ref 2 :: _) _ _ _ _ _
  refine g_putFR (sh' := [.inr (.inr (16, [some (.ref 1), some (.ref 2), some .null, some .null, none, none, some .null, none, none, none, none, none, none, some .null, some .null, some .null, some .null, some .null, none])), .inl (.int, 608), .inl (.int, 608)]) (n := 22) (k := 1) dX12_init_19 rfl vc_16 (Nat.le_of_ble_eq_true rfl) (Nat.le_of_ble_eq_true rfl) (ab_in 1995 (by decide +kernel) rfl) rfl rfl rfl rfl (fun _ => rfl) (fun _ => rfl) rfl rfl ?_
  refine g_aload_n (n := 23) dX12_init_22 rfl rfl rfl ?_
  refine g_sipush (n := 26) (v := (nI 608)) dX12_init_23 rfl rfl ?_
  refine g_newi (sh' := [.inr (.inr (16, [some (.ref 1), some (.ref 2), some .null, some .null, none, none, some .null, none, none, none, none, none, none, some .null, some .null, some .null, some .null, some .null, none])), .inl (.int, 608), .inl (.int, 608), .inl (.int, 608)]) (n := 28) (N := 608) (bc' := 7) (bs' := 7331) dX12_init_26 (by decide) rfl (by omega) (ab_in 169 (by decide +kernel) rfl) (by omega) (by omega) rfl rfl ?_
  show ab_G _ _ _ _ _ _ (.ref 3 :: _) _ _ _ _ _
  refine g_putFR (sh' := [.inr (.inr (16, [some (.ref 1), some (.ref 2), some (.ref 3), some .null, none, none, some .null, none, none, none, none, none, none, some .null, some .null, some .null, some .null, some .null, none])), .inl (.int, 608), .inl (.int, 608), .inl (.int, 608)]) (n := 31) (k := 2) dX12_init_28 rfl vc_16 (Nat.le_of_ble_eq_true rfl) (Nat.le_of_ble_eq_true rfl) (ab_in 1996 (by decide +kernel) rfl) rfl rfl rfl rfl (fun _ => rfl) (fun _ => rfl) rfl rfl ?_
  refine g_aload_n (n := 32) dX12_init_31 rfl rfl rfl ?_
  refine g_sipush (n := 35) (v := (nI 6080)) dX12_init_32 rfl rfl ?_
  refine g_newi (sh' := [.inr (.inr (16, [some (.ref 1), some (.ref 2), some (.ref 3), some .null, none, none, some .null, none, none, none, none, none, none, some .null, some .null, some .null, some .null, some .null, none])), .inl (.int, 608), .inl (.int, 608), .inl (.int, 608), .inl (.int, 6080)]) (n := 37) (N := 6080) (bc' := 6) (bs' := 1251) dX12_init_35 (by decide) rfl (by omega) (ab_in 169 (by decide +kernel) rfl) (by omega) (by omega) rfl rfl ?_
  show ab_G _ _ _ _ _ _ (.ref 4 :: _) _ _ _ _ _
  refine g_putFR (sh' := [.inr (.inr (16, [some (.ref 1), some (.ref 2), some (.ref 3), some (.ref 4), none, none, some .null, none, none, none, none, none, none, some .null, some .null, some .null, some .null, some .null, none])), .inl (.int, 608), .inl (.int, 608), .inl (.int, 608), .inl (.int, 6080)]) (n := 40) (k := 3) dX12_init_37 rfl vc_16 (Nat.le_of_ble_eq_true rfl) (Nat.le_of_ble_eq_true rfl) (ab_in 1997 (by decide +kernel) rfl) rfl rfl rfl rfl (fun _ => rfl) (fun _ => rfl) rfl rfl ?_
  refine g_aload_n (n := 41) dX12_init_40 rfl rfl rfl ?_
  refine g_sipush (n := 44) (v := (nI 400)) dX12_init_41 rfl rfl ?_
  refine g_newb (sh' := [.inr (.inr (16, [some (.ref 1), some (.ref 2), some (.ref 3), some (.ref 4), none, none, some .null, none, none, none, none, none, none, some .null, some .null, some .null, some .null, some .null, none])), .inl (.int, 608), .inl (.int, 608), .inl (.int, 608), .inl (.int, 6080), .inl (.byte, 400)]) (n := 46) (N := 400) (bc' := 5) (bs' := 851) dX12_init_44 (by decide) rfl (by omega) (ab_in 534 (by decide +kernel) rfl) (by omega) (by omega) rfl rfl ?_
  show ab_G _ _ _ _ _ _ (.ref 5 :: _) _ _ _ _ _
  refine g_putFR (sh' := [.inr (.inr (16, [some (.ref 1), some (.ref 2), some (.ref 3), some (.ref 4), none, none, some (.ref 5), none, none, none, none, none, none, some .null, some .null, some .null, some .null, some .null, none])), .inl (.int, 608), .inl (.int, 608), .inl (.int, 608), .inl (.int, 6080), .inl (.byte, 400)]) (n := 49) (k := 6) dX12_init_46 rfl vc_16 (Nat.le_of_ble_eq_true rfl) (Nat.le_of_ble_eq_true rfl) (ab_in 2000 (by decide +kernel) rfl) rfl rfl rfl rfl (fun _ => rfl) (fun _ => rfl) rfl rfl ?_
  refine g_aload_n (n := 50) dX12_init_49 rfl rfl rfl ?_
  refine g_iconst (n := 51) (v := (-1 : Int32)) dX12_init_50 rfl rfl ?_
  refine g_putI (n := 54) (k := 12) (q := 0) (ci := 16) (fs := [some (.ref 1), some (.ref 2), some (.ref 3), some (.ref 4), none, none, some (.ref 5), none, none, none, none, none, none, some .null, some .null, some .null, some .null, some .null, none]) (sh := [.inr (.inr (16, [some (.ref 1), some (.ref 2), some (.ref 3), some (.ref 4), none, none, some (.ref 5), none, none, none, none, none, none, some .null, some .null, some .null, some .null, some .null, none])), .inl (.int, 608), .inl (.int, 608), .inl (.int, 608), .inl (.int, 6080), .inl (.byte, 400)]) dX12_init_51 rfl vc_16 (Nat.le_of_ble_eq_true rfl) rfl (ab_in 2006 (by decide +kernel) rfl) rfl rfl rfl rfl rfl ?_
  refine g_aload_n (n := 55) dX12_init_54 rfl rfl rfl ?_
  refine g_iconst (n := 56) (v := (nI 3)) dX12_init_55 rfl rfl ?_
  refine g_newi (sh' := [.inr (.inr (16, [some (.ref 1), some (.ref 2), some (.ref 3), some (.ref 4), none, none, some (.ref 5), none, none, none, none, none, none, some .null, some .null, some .null, some .null, some .null, none])), .inl (.int, 608), .inl (.int, 608), .inl (.int, 608), .inl (.int, 6080), .inl (.byte, 400), .inl (.int, 3)]) (n := 58) (N := 3) (bc' := 4) (bs' := 848) dX12_init_56 (by decide) rfl (by omega) (ab_in 169 (by decide +kernel) rfl) (by omega) (by omega) rfl rfl ?_
  show ab_G _ _ _ _ _ _ (.ref 6 :: _) _ _ _ _ _
  refine g_putFR (sh' := [.inr (.inr (16, [some (.ref 1), some (.ref 2), some (.ref 3), some (.ref 4), none, none, some (.ref 5), none, none, none, none, none, none, some (.ref 6), some .null, some .null, some .null, some .null, none])), .inl (.int, 608), .inl (.int, 608), .inl (.int, 608), .inl (.int, 6080), .inl (.byte, 400), .inl (.int, 3)]) (n := 61) (k := 13) dX12_init_58 rfl vc_16 (Nat.le_of_ble_eq_true rfl) (Nat.le_of_ble_eq_true rfl) (ab_in 2007 (by decide +kernel) rfl) rfl rfl rfl rfl (fun _ => rfl) (fun _ => rfl) rfl rfl ?_
  refine g_aload_n (n := 62) dX12_init_61 rfl rfl rfl ?_
  refine g_bipush (n := 64) (v := (nI 16)) dX12_init_62 rfl rfl ?_
  refine g_newi (sh' := [.inr (.inr (16, [some (.ref 1), some (.ref 2), some (.ref 3), some (.ref 4), none, none, some (.ref 5), none, none, none, none, none, none, some (.ref 6), some .null, some .null, some .null, some .null, none])), .inl (.int, 608), .inl (.int, 608), .inl (.int, 608), .inl (.int, 6080), .inl (.byte, 400), .inl (.int, 3), .inl (.int, 16)]) (n := 66) (N := 16) (bc' := 3) (bs' := 832) dX12_init_64 (by decide) rfl (by omega) (ab_in 169 (by decide +kernel) rfl) (by omega) (by omega) rfl rfl ?_
  show ab_G _ _ _ _ _ _ (.ref 7 :: _) _ _ _ _ _
  refine g_putFR (sh' := [.inr (.inr (16, [some (.ref 1), some (.ref 2), some (.ref 3), some (.ref 4), none, none, some (.ref 5), none, none, none, none, none, none, some (.ref 6), some (.ref 7), some .null, some .null, some .null, none])), .inl (.int, 608), .inl (.int, 608), .inl (.int, 608), .inl (.int, 6080), .inl (.byte, 400), .inl (.int, 3), .inl (.int, 16)]) (n := 69) (k := 14) dX12_init_66 rfl vc_16 (Nat.le_of_ble_eq_true rfl) (Nat.le_of_ble_eq_true rfl) (ab_in 2008 (by decide +kernel) rfl) rfl rfl rfl rfl (fun _ => rfl) (fun _ => rfl) rfl rfl ?_
  refine g_aload_n (n := 70) dX12_init_69 rfl rfl rfl ?_
  refine g_bipush (n := 72) (v := (nI 16)) dX12_init_70 rfl rfl ?_
  refine g_newi (sh' := [.inr (.inr (16, [some (.ref 1), some (.ref 2), some (.ref 3), some (.ref 4), none, none, some (.ref 5), none, none, none, none, none, none, some (.ref 6), some (.ref 7), some .null, some .null, some .null, none])), .inl (.int, 608), .inl (.int, 608), .inl (.int, 608), .inl (.int, 6080), .inl (.byte, 400), .inl (.int, 3), .inl (.int, 16), .inl (.int, 16)]) (n := 74) (N := 16) (bc' := 2) (bs' := 816) dX12_init_72 (by decide) rfl (by omega) (ab_in 169 (by decide +kernel) rfl) (by omega) (by omega) rfl rfl ?_
  show ab_G _ _ _ _ _ _ (.ref 8 :: _) _ _ _ _ _
  refine g_putFR (sh' := [.inr (.inr (16, [some (.ref 1), some (.ref 2), some (.ref 3), some (.ref 4), none, none, some (.ref 5), none, none, none, none, none, none, some (.ref 6), some (.ref 7), some (.ref 8), some .null, some .null, none])), .inl (.int, 608), .inl (.int, 608), .inl (.int, 608), .inl (.int, 6080), .inl (.byte, 400), .inl (.int, 3), .inl (.int, 16), .inl (.int, 16)]) (n := 77) (k := 15) dX12_init_74 rfl vc_16 (Nat.le_of_ble_eq_true rfl) (Nat.le_of_ble_eq_true rfl) (ab_in 2009 (by decide +kernel) rfl) rfl rfl rfl rfl (fun _ => rfl) (fun _ => rfl) rfl rfl ?_
  refine g_aload_n (n := 78) dX12_init_77 rfl rfl rfl ?_
  refine g_bipush (n := 80) (v := (nI 16)) dX12_init_78 rfl rfl ?_
  refine g_newi (sh' := [.inr (.inr (16, [some (.ref 1), some (.ref 2), some (.ref 3), some (.ref 4), none, none, some (.ref 5), none, none, none, none, none, none, some (.ref 6), some (.ref 7), some (.ref 8), some .null, some .null, none])), .inl (.int, 608), .inl (.int, 608), .inl (.int, 608), .inl (.int, 6080), .inl (.byte, 400), .inl (.int, 3), .inl (.int, 16), .inl (.int, 16), .inl (.int, 16)]) (n := 82) (N := 16) (bc' := 1) (bs' := 800) dX12_init_80 (by decide) rfl (by omega) (ab_in 169 (by decide +kernel) rfl) (by omega) (by omega) rfl rfl ?_
  show ab_G _ _ _ _ _ _ (.ref 9 :: _) _ _ _ _ _
  refine g_putFR (sh' := [.inr (.inr (16, [some (.ref 1), some (.ref 2), some (.ref 3), some (.ref 4), none, none, some (.ref 5), none, none, none, none, none, none, some (.ref 6), some (.ref 7), some (.ref 8), some (.ref 9), some .null, none])), .inl (.int, 608), .inl (.int, 608), .inl (.int, 608), .inl (.int, 6080), .inl (.byte, 400), .inl (.int, 3), .inl (.int, 16), .inl (.int, 16), .inl (.int, 16)]) (n := 85) (k := 16) dX12_init_82 rfl vc_16 (Nat.le_of_ble_eq_true rfl) (Nat.le_of_ble_eq_true rfl) (ab_in 2010 (by decide +kernel) rfl) rfl rfl rfl rfl (fun _ => rfl) (fun _ => rfl) rfl rfl ?_
  refine g_aload_n (n := 86) dX12_init_85 rfl rfl rfl ?_
  refine g_sipush (n := 89) (v := (nI 800)) dX12_init_86 rfl rfl ?_
  refine g_newb (sh' := [.inr (.inr (16, [some (.ref 1), some (.ref 2), some (.ref 3), some (.ref 4), none, none, some (.ref 5), none, none, none, none, none, none, some (.ref 6), some (.ref 7), some (.ref 8), some (.ref 9), some .null, none])), .inl (.int, 608), .inl (.int, 608), .inl (.int, 608), .inl (.int, 6080), .inl (.byte, 400), .inl (.int, 3), .inl (.int, 16), .inl (.int, 16), .inl (.int, 16), .inl (.byte, 800)]) (n := 91) (N := 800) (bc' := 0) (bs' := 0) dX12_init_89 (by decide) rfl (by omega) (ab_in 534 (by decide +kernel) rfl) (by omega) (by omega) rfl rfl ?_
  show ab_G _ _ _ _ _ _ (.ref 10 :: _) _ _ _ _ _
  refine g_putFR (sh' := [.inr (.inr (16, [some (.ref 1), some (.ref 2), some (.ref 3), some (.ref 4), none, none, some (.ref 5), none, none, none, none, none, none, some (.ref 6), some (.ref 7), some (.ref 8), some (.ref 9), some (.ref 10), none])), .inl (.int, 608), .inl (.int, 608), .inl (.int, 608), .inl (.int, 6080), .inl (.byte, 400), .inl (.int, 3), .inl (.int, 16), .inl (.int, 16), .inl (.int, 16), .inl (.byte, 800)]) (n := 94) (k := 17) dX12_init_91 rfl vc_16 (Nat.le_of_ble_eq_true rfl) (Nat.le_of_ble_eq_true rfl) (ab_in 2011 (by decide +kernel) rfl) rfl rfl rfl rfl (fun _ => rfl) (fun _ => rfl) rfl rfl ?_
  refine g_aload_n (n := 95) dX12_init_94 rfl rfl rfl ?_
  refine g_getR (n := 98) (k := 0) (q := 0) (ci := 16) (fs := [some (.ref 1), some (.ref 2), some (.ref 3), some (.ref 4), none, none, some (.ref 5), none, none, none, none, none, none, some (.ref 6), some (.ref 7), some (.ref 8), some (.ref 9), some (.ref 10), none]) (v := .ref 1) (sh := [.inr (.inr (16, [some (.ref 1), some (.ref 2), some (.ref 3), some (.ref 4), none, none, some (.ref 5), none, none, none, none, none, none, some (.ref 6), some (.ref 7), some (.ref 8), some (.ref 9), some (.ref 10), none])), .inl (.int, 608), .inl (.int, 608), .inl (.int, 608), .inl (.int, 6080), .inl (.byte, 400), .inl (.int, 3), .inl (.int, 16), .inl (.int, 16), .inl (.int, 16), .inl (.byte, 800)]) dX12_init_95 rfl vc_16 (Nat.le_of_ble_eq_true rfl) rfl (ab_in 1994 (by decide +kernel) rfl) rfl ?_
  refine g_callS (sh := shM) (n := 101) (as := [.ref 1]) (bc' := 0) (bs' := 0) (ctX12_lay_1 (q_lay1 (K := fun I2 A2 => I2 = (wr I 0 12 (-1 : Int32)) ∧ Ew wl0 (A2 1)) (fun A2 _ e => ⟨rfl, e⟩))) okX12_lay (ab_in 1991 (by decide +kernel) rfl) (ab_in 1992 (by decide +kernel) rfl) dX12_init_98 rfl rfl (Nat.le_of_ble_eq_true rfl) (Nat.le_of_ble_eq_true rfl) (Nat.le_of_ble_eq_true rfl) (Nat.le_of_ble_eq_true rfl) rfl (fun E sh1 I1 A1 hp _ => hp.2.elim) (fun ro sh1 I1 A1 hp _ => ?_)
  obtain ⟨rfl, rfl, rfl, e⟩ := hp
  exact g_vret rfl dX12_init_101 ⟨rfl, _, _, rfl, e, by rw [J_0 hI 4 (by decide)]; rfl, by rw [J_0 hI 7 (by decide)]; rfl, by rw [J_0 hI 11 (by decide)]; rfl, wr_ate _ _ _ _, by rw [J_0 hI 18 (by decide)]; rfl⟩
