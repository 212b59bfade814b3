theorem w_91 : (.selects "CheckpointSwapModel" ⟨"CheckpointSwapModel", "printWord", "(Ljava/lang/String;)V"⟩ ⟨"CheckpointSwapModel", "printWord", "(Ljava/lang/String;)V"⟩ : Cond) ∈ ab_ws := ab_in 91 (by decide +kernel) rfl
theorem w_93 : (.selects "CheckpointSwapModel" ⟨"CheckpointSwapModel", "printNumber", "(I)V"⟩ ⟨"CheckpointSwapModel", "printNumber", "(I)V"⟩ : Cond) ∈ ab_ws := ab_in 93 (by decide +kernel) rfl
theorem w_94 : (.selects "CheckpointSwapModel" ⟨"CheckpointSwapModel", "printProcess", "(I)V"⟩ ⟨"CheckpointSwapModel", "printProcess", "(I)V"⟩ : Cond) ∈ ab_ws := ab_in 94 (by decide +kernel) rfl
theorem w_2636 : (.methodLink "CheckpointSwapModel" 389 ⟨"CheckpointSwapModel", "printWord", "(Ljava/lang/String;)V"⟩ : Cond) ∈ ab_ws := ab_in 2636 (by decide +kernel) rfl
theorem w_2638 : (.instanceMethod ⟨"CheckpointSwapModel", "printWord", "(Ljava/lang/String;)V"⟩ : Cond) ∈ ab_ws := ab_in 2638 (by decide +kernel) rfl
theorem w_2644 : (.methodLink "CheckpointSwapModel" 384 ⟨"CheckpointSwapModel", "printNumber", "(I)V"⟩ : Cond) ∈ ab_ws := ab_in 2644 (by decide +kernel) rfl
theorem w_2646 : (.instanceMethod ⟨"CheckpointSwapModel", "printNumber", "(I)V"⟩ : Cond) ∈ ab_ws := ab_in 2646 (by decide +kernel) rfl
theorem w_2650 : (.methodLink "CheckpointSwapModel" 404 ⟨"CheckpointSwapModel", "printProcess", "(I)V"⟩ : Cond) ∈ ab_ws := ab_in 2650 (by decide +kernel) rfl
theorem w_2652 : (.instanceMethod ⟨"CheckpointSwapModel", "printProcess", "(I)V"⟩ : Cond) ∈ ab_ws := ab_in 2652 (by decide +kernel) rfl
/-! the reference's report -/
abbrev mX12_printNumber : ab_M := (yX12_printNumber, cX12_printNumber, 2, none)
theorem okX12_printNumber : ab_mOK mX12_printNumber 1 := ⟨⟨by decide, by decide, by decide +kernel⟩, by decide, (ab_in 2647 (by decide +kernel) rfl), (ab_in 112 (by decide +kernel) rfl)⟩
abbrev mX12_printProcess : ab_M := (yX12_printProcess, cX12_printProcess, 3, none)
theorem okX12_printProcess : ab_mOK mX12_printProcess 1 := ⟨⟨by decide, by decide, by decide +kernel⟩, by decide, (ab_in 2653 (by decide +kernel) rfl), (ab_in 112 (by decide +kernel) rfl)⟩
abbrev mX12_writeReport : ab_M := (yX12_writeReport, cX12_writeReport, 2, (some .int))
theorem okX12_writeReport : ab_mOK mX12_writeReport 0 := ⟨⟨by decide, by decide, by decide +kernel⟩, by decide, (ab_in 2634 (by decide +kernel) rfl), (ab_in 112 (by decide +kernel) rfl)⟩
theorem sb_dg10 {w : Nat} (h : 10 ≤ w) (hw : w < 2 ^ 31) : sb_dg w = sb_dg (w / 10) + 1 := by
  unfold sb_dg
  repeat' split
  all_goals omega
def wX12_printNumber (K : ab_F → ab_F → Prop) (I A : ab_F) (v : Int32) : Prop := ∃ x n, v = nI x ∧ x < 2 ^ 31 ∧ I 0 18 = nI n ∧ n + sb_dg x ≤ 800 ∧ ∀ A', (∀ c, c ≠ 10 → A' c = A c) → (∀ j, j < n → A' 10 j = A 10 j) → (∀ i, i < sb_dg x → A' 10 (n + i) = sb_b (sb_dec x i)) → K (wr I 0 18 (nI (n + sb_dg x))) A'
theorem wr_wr (I : ab_F) (a b : Nat) (x y : Int32) : wr (wr I a b x) a b y = wr I a b y := by
  funext c k
  unfold wr
  by_cases h : c = a <;> by_cases h2 : k = b <;> simp [h, h2]
theorem nI_div10 {x : Nat} (h : x < 2 ^ 31) : nI x / nI 10 = nI (x / 10) := by
  rw [← Int32.toInt_inj]
  have e1 : (nI x).toInt = x := Int32.toInt_ofNat_of_lt h
  have e2 : (nI 10).toInt = 10 := Int32.toInt_ofNat_of_lt (by decide)
  have e3 : (nI (x / 10)).toInt = ((x / 10 : Nat) : Int) := Int32.toInt_ofNat_of_lt (by omega)
  rw [Int32.toInt_div_of_ne_right _ _ (by decide), e1, e2, e3]
  rfl
theorem nI_rem10 {x : Nat} (h : x < 2 ^ 31) : nI x - nI x / nI 10 * nI 10 = nI (x % 10) := by
  rw [nI_div10 h, show nI (x / 10) * nI 10 = nI (x / 10 * 10) from (Int32.ofNat_mul _ _).symm, show nI x - nI (x / 10 * 10) = nI (x - x / 10 * 10) from pk_sub (by omega)]
  exact congrArg nI (by omega)
theorem dec_hi {x i : Nat} (h : 10 ≤ x) (hx : x < 2 ^ 31) (hi : i < sb_dg (x / 10)) : sb_dec x i = sb_dec (x / 10) i := by
  have hd := sb_dg10 h hx
  unfold sb_dec
  rw [hd, show sb_dg (x / 10) + 1 - 1 - i = (sb_dg (x / 10) - 1 - i) + 1 by omega, Nat.pow_succ', ← Nat.div_div_eq_div_mul]
theorem dec_lo {x i : Nat} (hi : i + 1 = sb_dg x) : sb_dec x i = 48 + x % 10 := by
  unfold sb_dec
  rw [show sb_dg x - 1 - i = 0 by omega, Nat.pow_zero, Nat.div_one]
theorem t_pn14 {C : ab_X} {d n x m : Nat} {I A : ab_F} {K : ab_F → ab_F → Prop} (hd : 1 ≤ d) (hx : x < 2 ^ 31) (hI : I 0 18 = nI m) (hm : m < 800) (h : K (wr I 0 18 (nI (m + 1))) (wr A 10 m (sb_b (48 + x % 10)))) : ab_G mX12_printNumber d C (ab_Px shM ab_no (ab_rv K)) 14 [some (.ref 0), some (.int (nI x))] [] shM I A 0 0 := by
  refine g_aload_n (n := 15) dX12_printNumber_14 rfl rfl rfl ?_
  refine g_bipush (n := 17) (v := (nI 48)) dX12_printNumber_15 rfl rfl ?_
  refine g_iload_n (n := 18) dX12_printNumber_17 rfl rfl rfl ?_
  refine g_bipush (n := 20) (v := (nI 10)) dX12_printNumber_18 rfl rfl ?_
  refine g_irem (n := 21) dX12_printNumber_20 (by decide) rfl ?_
  rw [nI_rem10 hx]
  refine g_iadd (n := 22) dX12_printNumber_21 rfl ?_
  rw [nI_add]
  refine g_i2c (n := 23) dX12_printNumber_22 rfl ?_
  rw [(sb_byte (48 + x % 10) (by omega)).2.1]
  refine g_callV (n := 26) (as := [.int (nI (48 + x % 10))]) (bc' := 0) (bs' := 0) sM_0 vc_16 (ctX12_print (K := K) ⟨m, hI, hm, by rw [hI]; show K (wr I 0 18 (nI m + nI 1)) _; rw [nI_add, pk_vb]; exact h⟩) okX12_print rfl (ab_in 2640 (by decide +kernel) rfl) (ab_in 2642 (by decide +kernel) rfl) (ab_in 92 (by decide +kernel) rfl) (ab_in 112 (by decide +kernel) rfl) dX12_printNumber_23 rfl rfl hd (Nat.le_of_ble_eq_true rfl) (Nat.le_of_ble_eq_true rfl) (Nat.le_of_ble_eq_true rfl) rfl (fun E sh1 I1 A1 hp _ => hp.2.elim) (fun ro sh1 I1 A1 hp _ => ?_)
  obtain ⟨rfl, rfl, h⟩ := hp
  exact g_vret rfl dX12_printNumber_26 ⟨rfl, rfl, h⟩
theorem t_pn : ∀ (k x n : Nat) (I A : ab_F) (K : ab_F → ab_F → Prop), sb_dg x ≤ k → x < 2 ^ 31 → I 0 18 = nI n → n + sb_dg x ≤ 800 → (∀ A', (∀ c, c ≠ 10 → A' c = A c) → (∀ j, j < n → A' 10 j = A 10 j) → (∀ i, i < sb_dg x → A' 10 (n + i) = sb_b (sb_dec x i)) → K (wr I 0 18 (nI (n + sb_dg x))) A') → ab_Cl mX12_printNumber (k + 1) 0 0 [.ref 0, .int (nI x)] shM I A (ab_Px shM ab_no (ab_rv K)) := by
  intro k
  induction k with
  | zero =>
    intro x n I A K h
    have := (sb_dg_in x).1
    omega
  | succ k ih =>
    intro x n I A K hk hx hI hn h
    refine ab_enter (ls := [some (.ref 0), some (.int (nI x))]) (by decide +kernel) (Nat.le_of_ble_eq_true rfl) rfl (fun C => ?_)
    refine g_iload_n (n := 1) dX12_printNumber_0 rfl rfl rfl ?_
    refine g_bipush (n := 3) (v := nI 9) dX12_printNumber_1 rfl rfl ?_
    by_cases h9 : x < 10
    · have hd : sb_dg x = 1 := if_pos h9
      refine g_icmp_le 14 dX12_printNumber_3 (by decide) (n := 6) rfl (fun _ => ?_) (fun hc => absurd ((nI_leI (by omega) (by omega)).mpr (by omega)) hc)
      refine t_pn14 (n := 0) (m := n) (by omega) hx hI (by omega) ?_
      have h1 := h (wr A 10 n (sb_b (48 + x % 10))) (fun c hc => wr_ne hc) (fun j hj => wr_nei (by omega)) (fun i hi => by
        obtain rfl : i = 0 := by omega
        rw [dec_lo (by omega)]
        exact wr_ate _ _ _ _)
      rw [hd] at h1
      exact h1
    · have hd := sb_dg10 (by omega) hx
      refine g_icmp_le 14 dX12_printNumber_3 (by decide) (n := 6) rfl (fun hc => absurd hc (nI_ge (by omega) (by omega))) (fun _ => ?_)
      refine g_aload_n (n := 7) dX12_printNumber_6 rfl rfl rfl ?_
      refine g_iload_n (n := 8) dX12_printNumber_7 rfl rfl rfl ?_
      refine g_bipush (n := 10) (v := nI 10) dX12_printNumber_8 rfl rfl ?_
      refine g_idiv (n := 11) dX12_printNumber_10 (by decide) rfl ?_
      rw [nI_div10 hx]
      refine g_callV (n := 14) (as := [.int (nI (x / 10))]) (bc' := 0) (bs' := 0) sM_0 vc_16 (ih (x / 10) n I A (fun I1 A1 => I1 = wr I 0 18 (nI (n + sb_dg (x / 10))) ∧ (∀ c, c ≠ 10 → A1 c = A c) ∧ (∀ j, j < n → A1 10 j = A 10 j) ∧ (∀ i, i < sb_dg (x / 10) → A1 10 (n + i) = sb_b (sb_dec (x / 10) i))) (by omega) (by omega) hI (by omega) (fun A' b0 b1 b2 => ⟨rfl, b0, b1, b2⟩)) okX12_printNumber rfl (ab_in 2644 (by decide +kernel) rfl) (ab_in 2646 (by decide +kernel) rfl) (ab_in 93 (by decide +kernel) rfl) (ab_in 112 (by decide +kernel) rfl) dX12_printNumber_11 rfl rfl (by omega) (Nat.le_refl _) (Nat.le_refl _) (Nat.le_of_ble_eq_true rfl) rfl (fun E sh1 I1 A1 hp _ => hp.2.elim) (fun ro sh1 I1 A1 hp _ => ?_)
      obtain ⟨rfl, rfl, rfl, b0, b1, b2⟩ := hp
      refine t_pn14 (n := 0) (m := n + sb_dg (x / 10)) (by omega) hx (wr_ate _ _ _ _) (by omega) ?_
      rw [wr_wr, show n + sb_dg (x / 10) + 1 = n + sb_dg x by omega]
      refine h _ (fun c hc => by rw [wr_ne hc]; exact b0 c hc) (fun j hj => by rw [wr_nei (by omega)]; exact b1 j hj) (fun i hi => ?_)
      by_cases hi2 : i < sb_dg (x / 10)
      · rw [wr_nei (by omega), b2 i hi2, dec_hi (by omega) hx hi2]
      · obtain rfl : i = sb_dg (x / 10) := by omega
        rw [wr_ate, dec_lo (by omega)]
theorem ctX12_printNumber {K : ab_F → ab_F → Prop} {I A : ab_F} {p0 : Int32} (h : wX12_printNumber K I A p0) : ab_Cl mX12_printNumber 12 0 0 [.ref 0, .int p0] shM I A (ab_Px shM ab_no (ab_rv K)) := by
  obtain ⟨x, n, rfl, hx, hI, hn, h⟩ := h
  exact t_pn 11 x n I A K (by have := (sb_dg_in x).2; omega) hx hI hn h
def wlX12_printProcess_75 (K : ab_F → ab_F → Prop) : Nat → Int32 → Int32 → ab_F → ab_F → Prop
  | 0, _, _, _, _ => False
  | n + 1, x1, x2, I, A => (∃ j_12 : Nat, ((nI 20) + x1) = nI j_12 ∧ j_12 < 608 ∧ (((A 1 j_12) ≤ x2 → wX12_print (fun I_13 A_14 => K I_13 A_14) I A (nI 10)) ∧ (¬ (A 1 j_12) ≤ x2 → wX12_print (fun I_15 A_16 => wX12_stateOf (fun r_19 I_17 A_18 => wX12_printNumber (fun I_20 A_21 => (wlX12_printProcess_75 K n) x1 (x2 + nI 1) I_20 A_21) I_17 A_18 r_19) I_15 A_16 (((nI 8) * x1) + x2)) I A (nI 32))))
def wjX12_printProcess_34 (K : ab_F → ab_F → Prop) (x1 : Int32) (s0 : Nat) (I A : ab_F) : Prop := wX12_printWord (fun I_6 A_7 => (∃ j_8 : Nat, ((nI 26) + x1) = nI j_8 ∧ j_8 < 608 ∧ ((¬ (A_7 1 j_8) = (-1 : Int32) → (∃ j_9 : Nat, ((nI 26) + x1) = nI j_9 ∧ j_9 < 608 ∧ wX12_printNumber (fun I_10 A_11 => (∃ nf : Nat, wlX12_printProcess_75 K nf x1 (nI 0) I_10 A_11)) I_6 A_7 (A_7 1 j_9))) ∧ ((A_7 1 j_8) = (-1 : Int32) → wX12_printWord (fun I_22 A_23 => (∃ nf : Nat, wlX12_printProcess_75 K nf x1 (nI 0) I_22 A_23)) I_6 A_7 65)))) I A s0
def wX12_printProcess (K : ab_F → ab_F → Prop) (I A : ab_F) (p0 : Int32) : Prop := wX12_printWord (fun I_1 A_2 => wX12_printNumber (fun I_3 A_4 => (∃ j_5 : Nat, ((nI 14) + p0) = nI j_5 ∧ j_5 < 608 ∧ ((¬ (A_4 1 j_5) = 0 → wjX12_printProcess_34 K p0 64 I_3 A_4) ∧ ((A_4 1 j_5) = 0 → wjX12_printProcess_34 K p0 63 I_3 A_4)))) I_1 A_2 p0) I A 62
set_option maxRecDepth 20000 in
theorem tlX12_printProcess_75 {C : ab_X}  {K : ab_F → ab_F → Prop} : ∀ (n : Nat) (x1 : Int32) (x2 : Int32) (I A : ab_F), wlX12_printProcess_75 K n x1 x2 I A → ab_G mX12_printProcess 13 C (ab_Px shM ab_no (ab_rv K)) 75 [some (.ref 0), some (.int x1), some (.int x2)] [] shM I A 0 0 := by
  intro n
  induction n with
  | zero => intro x1 x2 I A h; exact h.elim
  | succ n hL75 =>
    intro x1 x2 I A h
    rw [wlX12_printProcess_75] at h
    refine g_iload_n (n := 76) dX12_printProcess_75 rfl rfl rfl ?_
    refine g_aload_n (n := 77) dX12_printProcess_76 rfl rfl rfl ?_
    refine g_getR (n := 80) (k := 0) dX12_printProcess_77 sM_0 vc_16 (Nat.le_of_ble_eq_true rfl) rfl w_1994 rfl ?_
    refine g_bipush (n := 82) (v := (nI 20)) dX12_printProcess_80 rfl rfl ?_
    refine g_iload_n (n := 83) dX12_printProcess_82 rfl rfl rfl ?_
    refine g_iadd (n := 84) dX12_printProcess_83 rfl ?_
    obtain ⟨j_12, hj, hl, h⟩ := h
    refine g_ialdJ (n := 85) (j := j_12) (x := (A 1 j_12)) dX12_printProcess_84 sM_1 hj hl (by decide) rfl rfl ?_
    refine g_icmp_ge (n := 88) 114 dX12_printProcess_85 (by decide) rfl (fun hc => ?_) (fun hc => ?_)
    · have h := h.1 hc
      refine g_aload_n (n := 115) dX12_printProcess_114 rfl rfl rfl ?_
      refine g_bipush (n := 117) (v := (nI 10)) dX12_printProcess_115 rfl rfl ?_
      refine g_callV (n := 120) (as := [.int (nI 10)]) (bc' := 0) (bs' := 0) sM_0 vc_16 (ctX12_print h) okX12_print rfl w_2640 w_2642 w_92 w_112 dX12_printProcess_117 rfl rfl (Nat.le_of_ble_eq_true rfl) (Nat.le_of_ble_eq_true rfl) (Nat.le_of_ble_eq_true rfl) (Nat.le_of_ble_eq_true rfl) rfl (fun E sh1 I1 A1 hp _ => hp.2.elim) (fun ro sh_ I_13 A_14 hp hle => ?_)
      obtain ⟨rfl, rfl, h⟩ := hp
      exact g_vret rfl dX12_printProcess_120 ⟨rfl, rfl, h⟩
    · have h := h.2 hc
      refine g_aload_n (n := 89) dX12_printProcess_88 rfl rfl rfl ?_
      refine g_bipush (n := 91) (v := (nI 32)) dX12_printProcess_89 rfl rfl ?_
      refine g_callV (n := 94) (as := [.int (nI 32)]) (bc' := 0) (bs' := 0) sM_0 vc_16 (ctX12_print h) okX12_print rfl w_2640 w_2642 w_92 w_112 dX12_printProcess_91 rfl rfl (Nat.le_of_ble_eq_true rfl) (Nat.le_of_ble_eq_true rfl) (Nat.le_of_ble_eq_true rfl) (Nat.le_of_ble_eq_true rfl) rfl (fun E sh1 I1 A1 hp _ => hp.2.elim) (fun ro sh_ I_15 A_16 hp hle => ?_)
      obtain ⟨rfl, rfl, h⟩ := hp
      refine g_aload_n (n := 95) dX12_printProcess_94 rfl rfl rfl ?_
      refine g_aload_n (n := 96) dX12_printProcess_95 rfl rfl rfl ?_
      refine g_bipush (n := 98) (v := (nI 8)) dX12_printProcess_96 rfl rfl ?_
      refine g_iload_n (n := 99) dX12_printProcess_98 rfl rfl rfl ?_
      refine g_imul (n := 100) dX12_printProcess_99 rfl ?_
      refine g_iload_n (n := 101) dX12_printProcess_100 rfl rfl rfl ?_
      refine g_iadd (n := 102) dX12_printProcess_101 rfl ?_
      refine g_callV (n := 105) (as := [.int (((nI 8) * x1) + x2)]) (bc' := 0) (bs' := 0) sM_0 vc_16 (ctX12_stateOf h) okX12_stateOf rfl w_2429 w_2431 w_80 w_112 dX12_printProcess_102 rfl rfl (Nat.le_of_ble_eq_true rfl) (Nat.le_of_ble_eq_true rfl) (Nat.le_of_ble_eq_true rfl) (Nat.le_of_ble_eq_true rfl) rfl (fun E sh1 I1 A1 hp _ => hp.2.elim) (fun ro sh_ I_17 A_18 hp hle => ?_)
      obtain ⟨rfl, r_19, rfl, h⟩ := hp
      refine g_callV (n := 108) (as := [.int r_19]) (bc' := 0) (bs' := 0) sM_0 vc_16 (ctX12_printNumber h) okX12_printNumber rfl w_2644 w_2646 w_93 w_112 dX12_printProcess_105 rfl rfl (Nat.le_of_ble_eq_true rfl) (Nat.le_of_ble_eq_true rfl) (Nat.le_of_ble_eq_true rfl) (Nat.le_of_ble_eq_true rfl) rfl (fun E sh1 I1 A1 hp _ => hp.2.elim) (fun ro sh_ I_20 A_21 hp hle => ?_)
      obtain ⟨rfl, rfl, h⟩ := hp
      refine g_iinc (n := 111) (v := (x2 + nI 1)) (ls' := [some (.ref 0), some (.int x1), some (.int (x2 + nI 1))]) dX12_printProcess_108 rfl rfl rfl (Nat.le_of_ble_eq_true rfl) rfl rfl ?_
      refine g_goto 75 dX12_printProcess_111 (by decide) ?_
      exact hL75 _ _ _ _ h
set_option maxRecDepth 20000 in
theorem tjX12_printProcess_34 {C : ab_X}  {K : ab_F → ab_F → Prop} (x1 : Int32) (s0 : Nat) (I A : ab_F) (h : wjX12_printProcess_34 K x1 s0 I A) : ab_G mX12_printProcess 13 C (ab_Px shM ab_no (ab_rv K)) 34 [some (.ref 0), some (.int x1), none] [.retAddr (2 * s0), .ref 0] shM I A 0 0 := by
  unfold wjX12_printProcess_34 at h
  refine g_callV (n := 37) (as := [.retAddr (2 * s0)]) (bc' := 0) (bs' := 0) sM_0 vc_16 (ctX12_printWord h) okX12_printWord rfl w_2636 w_2638 w_91 w_112 dX12_printProcess_34 rfl rfl (Nat.le_of_ble_eq_true rfl) (Nat.le_of_ble_eq_true rfl) (Nat.le_of_ble_eq_true rfl) (Nat.le_of_ble_eq_true rfl) rfl (fun E sh1 I1 A1 hp _ => hp.2.elim) (fun ro sh_ I_6 A_7 hp hle => ?_)
  obtain ⟨rfl, rfl, h⟩ := hp
  refine g_aload_n (n := 38) dX12_printProcess_37 rfl rfl rfl ?_
  refine g_getR (n := 41) (k := 0) dX12_printProcess_38 sM_0 vc_16 (Nat.le_of_ble_eq_true rfl) rfl w_1994 rfl ?_
  refine g_bipush (n := 43) (v := (nI 26)) dX12_printProcess_41 rfl rfl ?_
  refine g_iload_n (n := 44) dX12_printProcess_43 rfl rfl rfl ?_
  refine g_iadd (n := 45) dX12_printProcess_44 rfl ?_
  obtain ⟨j_8, hj, hl, h⟩ := h
  refine g_ialdJ (n := 46) (j := j_8) (x := (A_7 1 j_8)) dX12_printProcess_45 sM_1 hj hl (by decide) rfl rfl ?_
  refine g_iconst (n := 47) (v := (-1 : Int32)) dX12_printProcess_46 rfl rfl ?_
  refine g_icmp_ne (n := 50) 60 dX12_printProcess_47 (by decide) rfl (fun hc => ?_) (fun hc => ?_)
  · have h := h.1 hc
    refine g_aload_n (n := 61) dX12_printProcess_60 rfl rfl rfl ?_
    refine g_aload_n (n := 62) dX12_printProcess_61 rfl rfl rfl ?_
    refine g_getR (n := 65) (k := 0) dX12_printProcess_62 sM_0 vc_16 (Nat.le_of_ble_eq_true rfl) rfl w_1994 rfl ?_
    refine g_bipush (n := 67) (v := (nI 26)) dX12_printProcess_65 rfl rfl ?_
    refine g_iload_n (n := 68) dX12_printProcess_67 rfl rfl rfl ?_
    refine g_iadd (n := 69) dX12_printProcess_68 rfl ?_
    obtain ⟨j_9, hj, hl, h⟩ := h
    refine g_ialdJ (n := 70) (j := j_9) (x := (A_7 1 j_9)) dX12_printProcess_69 sM_1 hj hl (by decide) rfl rfl ?_
    refine g_callV (n := 73) (as := [.int (A_7 1 j_9)]) (bc' := 0) (bs' := 0) sM_0 vc_16 (ctX12_printNumber h) okX12_printNumber rfl w_2644 w_2646 w_93 w_112 dX12_printProcess_70 rfl rfl (Nat.le_of_ble_eq_true rfl) (Nat.le_of_ble_eq_true rfl) (Nat.le_of_ble_eq_true rfl) (Nat.le_of_ble_eq_true rfl) rfl (fun E sh1 I1 A1 hp _ => hp.2.elim) (fun ro sh_ I_10 A_11 hp hle => ?_)
    obtain ⟨rfl, rfl, h⟩ := hp
    refine g_iconst (n := 74) (v := (nI 0)) dX12_printProcess_73 rfl rfl ?_
    refine g_istore_n (n := 75) (ls' := [some (.ref 0), some (.int x1), some (.int (nI 0))]) dX12_printProcess_74 rfl rfl (Nat.le_of_ble_eq_true rfl) (Nat.le_of_ble_eq_true rfl) rfl rfl ?_
    refine g_less (bc' := 0) (bs' := 0) (Nat.le_of_ble_eq_true rfl) (Nat.le_of_ble_eq_true rfl) ?_
    obtain ⟨n_f, h⟩ := h
    exact tlX12_printProcess_75  n_f _ _ _ _ h
  · have h := h.2 hc
    refine g_aload_n (n := 51) dX12_printProcess_50 rfl rfl rfl ?_
    refine g_ldcwS (n := 54) (i := 65) dX12_printProcess_51 rfl rfl ?_
    refine g_callV (n := 57) (as := [.retAddr (2 * 65)]) (bc' := 0) (bs' := 0) sM_0 vc_16 (ctX12_printWord h) okX12_printWord rfl w_2636 w_2638 w_91 w_112 dX12_printProcess_54 rfl rfl (Nat.le_of_ble_eq_true rfl) (Nat.le_of_ble_eq_true rfl) (Nat.le_of_ble_eq_true rfl) (Nat.le_of_ble_eq_true rfl) rfl (fun E sh1 I1 A1 hp _ => hp.2.elim) (fun ro sh_ I_22 A_23 hp hle => ?_)
    obtain ⟨rfl, rfl, h⟩ := hp
    refine g_goto 73 dX12_printProcess_57 (by decide) ?_
    refine g_iconst (n := 74) (v := (nI 0)) dX12_printProcess_73 rfl rfl ?_
    refine g_istore_n (n := 75) (ls' := [some (.ref 0), some (.int x1), some (.int (nI 0))]) dX12_printProcess_74 rfl rfl (Nat.le_of_ble_eq_true rfl) (Nat.le_of_ble_eq_true rfl) rfl rfl ?_
    refine g_less (bc' := 0) (bs' := 0) (Nat.le_of_ble_eq_true rfl) (Nat.le_of_ble_eq_true rfl) ?_
    obtain ⟨n_f, h⟩ := h
    exact tlX12_printProcess_75  n_f _ _ _ _ h
set_option maxRecDepth 20000 in
theorem ctX12_printProcess  {K : ab_F → ab_F → Prop} {I A : ab_F} {p0 : Int32} (h : wX12_printProcess K I A p0) : ab_Cl mX12_printProcess 13 0 0 [.ref 0, .int p0] shM I A (ab_Px shM ab_no (ab_rv K)) := by
  refine ab_enter (ls := [some (.ref 0), some (.int p0), none]) (by decide +kernel) (Nat.le_of_ble_eq_true rfl) rfl (fun C => ?_)
  unfold wX12_printProcess at h
  refine g_aload_n (n := 1) dX12_printProcess_0 rfl rfl rfl ?_
  refine g_ldcwS (n := 4) (i := 62) dX12_printProcess_1 rfl rfl ?_
  refine g_callV (n := 7) (as := [.retAddr (2 * 62)]) (bc' := 0) (bs' := 0) sM_0 vc_16 (ctX12_printWord h) okX12_printWord rfl w_2636 w_2638 w_91 w_112 dX12_printProcess_4 rfl rfl (Nat.le_of_ble_eq_true rfl) (Nat.le_of_ble_eq_true rfl) (Nat.le_of_ble_eq_true rfl) (Nat.le_of_ble_eq_true rfl) rfl (fun E sh1 I1 A1 hp _ => hp.2.elim) (fun ro sh_ I_1 A_2 hp hle => ?_)
  obtain ⟨rfl, rfl, h⟩ := hp
  refine g_aload_n (n := 8) dX12_printProcess_7 rfl rfl rfl ?_
  refine g_iload_n (n := 9) dX12_printProcess_8 rfl rfl rfl ?_
  refine g_callV (n := 12) (as := [.int p0]) (bc' := 0) (bs' := 0) sM_0 vc_16 (ctX12_printNumber h) okX12_printNumber rfl w_2644 w_2646 w_93 w_112 dX12_printProcess_9 rfl rfl (Nat.le_of_ble_eq_true rfl) (Nat.le_of_ble_eq_true rfl) (Nat.le_of_ble_eq_true rfl) (Nat.le_of_ble_eq_true rfl) rfl (fun E sh1 I1 A1 hp _ => hp.2.elim) (fun ro sh_ I_3 A_4 hp hle => ?_)
  obtain ⟨rfl, rfl, h⟩ := hp
  refine g_aload_n (n := 13) dX12_printProcess_12 rfl rfl rfl ?_
  refine g_aload_n (n := 14) dX12_printProcess_13 rfl rfl rfl ?_
  refine g_getR (n := 17) (k := 0) dX12_printProcess_14 sM_0 vc_16 (Nat.le_of_ble_eq_true rfl) rfl w_1994 rfl ?_
  refine g_bipush (n := 19) (v := (nI 14)) dX12_printProcess_17 rfl rfl ?_
  refine g_iload_n (n := 20) dX12_printProcess_19 rfl rfl rfl ?_
  refine g_iadd (n := 21) dX12_printProcess_20 rfl ?_
  obtain ⟨j_5, hj, hl, h⟩ := h
  refine g_ialdJ (n := 22) (j := j_5) (x := (A_4 1 j_5)) dX12_printProcess_21 sM_1 hj hl (by decide) rfl rfl ?_
  refine g_if_ne (n := 25) 31 dX12_printProcess_22 (by decide) rfl (fun hc => ?_) (fun hc => ?_)
  · have h := h.1 hc
    refine g_ldcwS (n := 34) (i := 64) dX12_printProcess_31 rfl rfl ?_
    refine g_less (bc' := 0) (bs' := 0) (Nat.le_of_ble_eq_true rfl) (Nat.le_of_ble_eq_true rfl) ?_
    exact tjX12_printProcess_34  _ _ _ _ h
  · have h := h.2 hc
    refine g_ldcwS (n := 28) (i := 63) dX12_printProcess_25 rfl rfl ?_
    refine g_goto 34 dX12_printProcess_28 (by decide) ?_
    refine g_less (bc' := 0) (bs' := 0) (Nat.le_of_ble_eq_true rfl) (Nat.le_of_ble_eq_true rfl) ?_
    exact tjX12_printProcess_34  _ _ _ _ h
def wlX12_writeReport_67 (K : Int32 → ab_F → ab_F → Prop) : Nat → Int32 → ab_F → ab_F → Prop
  | 0, _, _, _ => False
  | n + 1, x1, I, A => (((A 1 3) ≤ x1 → K (I 0 18) I A) ∧ (¬ (A 1 3) ≤ x1 → wX12_printProcess (fun I_18 A_19 => (wlX12_writeReport_67 K n) (x1 + nI 1) I_18 A_19) I A x1))
def wX12_writeReport (K : Int32 → ab_F → ab_F → Prop) (I A : ab_F)  : Prop := wX12_printWord (fun I_1 A_2 => wX12_printNumber (fun I_3 A_4 => wX12_printWord (fun I_5 A_6 => wX12_freeCount (fun r_9 I_7 A_8 => wX12_printNumber (fun I_10 A_11 => wX12_printWord (fun I_12 A_13 => wX12_printNumber (fun I_14 A_15 => wX12_print (fun I_16 A_17 => (∃ nf : Nat, wlX12_writeReport_67 K nf (nI 0) I_16 A_17)) I_14 A_15 (nI 10)) I_12 A_13 (A_13 1 5)) I_10 A_11 61) I_7 A_8 r_9) I_5 A_6 ) I_3 A_4 60) I_1 A_2 (A_2 1 4)) (wr (wr I 0 5 (nI 0)) 0 18 (nI 0)) A 59
set_option maxRecDepth 20000 in
theorem tlX12_writeReport_67 {C : ab_X}  {K : Int32 → ab_F → ab_F → Prop} : ∀ (n : Nat) (x1 : Int32) (I A : ab_F), wlX12_writeReport_67 K n x1 I A → ab_G mX12_writeReport 14 C (ab_Px shM ab_no (ab_ri K)) 67 [some (.ref 0), some (.int x1)] [] shM I A 0 0 := by
  intro n
  induction n with
  | zero => intro x1 I A h; exact h.elim
  | succ n hL67 =>
    intro x1 I A h
    rw [wlX12_writeReport_67] at h
    refine g_iload_n (n := 68) dX12_writeReport_67 rfl rfl rfl ?_
    refine g_aload_n (n := 69) dX12_writeReport_68 rfl rfl rfl ?_
    refine g_getR (n := 72) (k := 0) dX12_writeReport_69 sM_0 vc_16 (Nat.le_of_ble_eq_true rfl) rfl w_1994 rfl ?_
    refine g_iconst (n := 73) (v := (nI 3)) dX12_writeReport_72 rfl rfl ?_
    refine g_ialdJ (n := 74) (j := 3) (x := (A 1 3)) dX12_writeReport_73 sM_1 rfl (Nat.le_of_ble_eq_true rfl) (by decide) rfl rfl ?_
    refine g_icmp_ge (n := 77) 88 dX12_writeReport_74 (by decide) rfl (fun hc => ?_) (fun hc => ?_)
    · have h := h.1 hc
      refine g_aload_n (n := 89) dX12_writeReport_88 rfl rfl rfl ?_
      refine g_getIE (n := 92) (k := 18) (x := (I 0 18)) dX12_writeReport_89 sM_0 vc_16 (Nat.le_of_ble_eq_true rfl) rfl w_2012 rfl rfl ?_
      exact g_iret rfl rfl dX12_writeReport_92 ⟨rfl, _, rfl, h⟩
    · have h := h.2 hc
      refine g_aload_n (n := 78) dX12_writeReport_77 rfl rfl rfl ?_
      refine g_iload_n (n := 79) dX12_writeReport_78 rfl rfl rfl ?_
      refine g_callV (n := 82) (as := [.int x1]) (bc' := 0) (bs' := 0) sM_0 vc_16 (ctX12_printProcess h) okX12_printProcess rfl w_2650 w_2652 w_94 w_112 dX12_writeReport_79 rfl rfl (Nat.le_of_ble_eq_true rfl) (Nat.le_of_ble_eq_true rfl) (Nat.le_of_ble_eq_true rfl) (Nat.le_of_ble_eq_true rfl) rfl (fun E sh1 I1 A1 hp _ => hp.2.elim) (fun ro sh_ I_18 A_19 hp hle => ?_)
      obtain ⟨rfl, rfl, h⟩ := hp
      refine g_iinc (n := 85) (v := (x1 + nI 1)) (ls' := [some (.ref 0), some (.int (x1 + nI 1))]) dX12_writeReport_82 rfl rfl rfl (Nat.le_of_ble_eq_true rfl) rfl rfl ?_
      refine g_goto 67 dX12_writeReport_85 (by decide) ?_
      exact hL67 _ _ _ h
set_option maxRecDepth 20000 in
theorem ctX12_writeReport  {K : Int32 → ab_F → ab_F → Prop} {I A : ab_F}  (h : wX12_writeReport K I A ) : ab_Cl mX12_writeReport 14 0 0 [.ref 0] shM I A (ab_Px shM ab_no (ab_ri K)) := by
  refine ab_enter (ls := [some (.ref 0), none]) (by decide +kernel) (Nat.le_of_ble_eq_true rfl) rfl (fun C => ?_)
  unfold wX12_writeReport at h
  refine g_aload_n (n := 1) dX12_writeReport_0 rfl rfl rfl ?_
  refine g_iconst (n := 2) (v := (nI 0)) dX12_writeReport_1 rfl rfl ?_
  refine g_putI (n := 5) (k := 5) dX12_writeReport_2 sM_0 vc_16 (Nat.le_of_ble_eq_true rfl) rfl w_1999 rfl rfl rfl rfl rfl ?_
  refine g_aload_n (n := 6) dX12_writeReport_5 rfl rfl rfl ?_
  refine g_iconst (n := 7) (v := (nI 0)) dX12_writeReport_6 rfl rfl ?_
  refine g_putI (n := 10) (k := 18) dX12_writeReport_7 sM_0 vc_16 (Nat.le_of_ble_eq_true rfl) rfl w_2012 rfl rfl rfl rfl rfl ?_
  refine g_aload_n (n := 11) dX12_writeReport_10 rfl rfl rfl ?_
  refine g_ldcwS (n := 14) (i := 59) dX12_writeReport_11 rfl rfl ?_
  refine g_callV (n := 17) (as := [.retAddr (2 * 59)]) (bc' := 0) (bs' := 0) sM_0 vc_16 (ctX12_printWord h) okX12_printWord rfl w_2636 w_2638 w_91 w_112 dX12_writeReport_14 rfl rfl (Nat.le_of_ble_eq_true rfl) (Nat.le_of_ble_eq_true rfl) (Nat.le_of_ble_eq_true rfl) (Nat.le_of_ble_eq_true rfl) rfl (fun E sh1 I1 A1 hp _ => hp.2.elim) (fun ro sh_ I_1 A_2 hp hle => ?_)
  obtain ⟨rfl, rfl, h⟩ := hp
  refine g_aload_n (n := 18) dX12_writeReport_17 rfl rfl rfl ?_
  refine g_aload_n (n := 19) dX12_writeReport_18 rfl rfl rfl ?_
  refine g_getR (n := 22) (k := 0) dX12_writeReport_19 sM_0 vc_16 (Nat.le_of_ble_eq_true rfl) rfl w_1994 rfl ?_
  refine g_iconst (n := 23) (v := (nI 4)) dX12_writeReport_22 rfl rfl ?_
  refine g_ialdJ (n := 24) (j := 4) (x := (A_2 1 4)) dX12_writeReport_23 sM_1 rfl (Nat.le_of_ble_eq_true rfl) (by decide) rfl rfl ?_
  refine g_callV (n := 27) (as := [.int (A_2 1 4)]) (bc' := 0) (bs' := 0) sM_0 vc_16 (ctX12_printNumber h) okX12_printNumber rfl w_2644 w_2646 w_93 w_112 dX12_writeReport_24 rfl rfl (Nat.le_of_ble_eq_true rfl) (Nat.le_of_ble_eq_true rfl) (Nat.le_of_ble_eq_true rfl) (Nat.le_of_ble_eq_true rfl) rfl (fun E sh1 I1 A1 hp _ => hp.2.elim) (fun ro sh_ I_3 A_4 hp hle => ?_)
  obtain ⟨rfl, rfl, h⟩ := hp
  refine g_aload_n (n := 28) dX12_writeReport_27 rfl rfl rfl ?_
  refine g_ldcwS (n := 31) (i := 60) dX12_writeReport_28 rfl rfl ?_
  refine g_callV (n := 34) (as := [.retAddr (2 * 60)]) (bc' := 0) (bs' := 0) sM_0 vc_16 (ctX12_printWord h) okX12_printWord rfl w_2636 w_2638 w_91 w_112 dX12_writeReport_31 rfl rfl (Nat.le_of_ble_eq_true rfl) (Nat.le_of_ble_eq_true rfl) (Nat.le_of_ble_eq_true rfl) (Nat.le_of_ble_eq_true rfl) rfl (fun E sh1 I1 A1 hp _ => hp.2.elim) (fun ro sh_ I_5 A_6 hp hle => ?_)
  obtain ⟨rfl, rfl, h⟩ := hp
  refine g_aload_n (n := 35) dX12_writeReport_34 rfl rfl rfl ?_
  refine g_aload_n (n := 36) dX12_writeReport_35 rfl rfl rfl ?_
  refine g_callV (n := 39) (as := []) (bc' := 0) (bs' := 0) sM_0 vc_16 (ctX12_freeCount h) okX12_freeCount rfl w_2313 w_2315 w_65 w_112 dX12_writeReport_36 rfl rfl (Nat.le_of_ble_eq_true rfl) (Nat.le_of_ble_eq_true rfl) (Nat.le_of_ble_eq_true rfl) (Nat.le_of_ble_eq_true rfl) rfl (fun E sh1 I1 A1 hp _ => hp.2.elim) (fun ro sh_ I_7 A_8 hp hle => ?_)
  obtain ⟨rfl, r_9, rfl, h⟩ := hp
  refine g_callV (n := 42) (as := [.int r_9]) (bc' := 0) (bs' := 0) sM_0 vc_16 (ctX12_printNumber h) okX12_printNumber rfl w_2644 w_2646 w_93 w_112 dX12_writeReport_39 rfl rfl (Nat.le_of_ble_eq_true rfl) (Nat.le_of_ble_eq_true rfl) (Nat.le_of_ble_eq_true rfl) (Nat.le_of_ble_eq_true rfl) rfl (fun E sh1 I1 A1 hp _ => hp.2.elim) (fun ro sh_ I_10 A_11 hp hle => ?_)
  obtain ⟨rfl, rfl, h⟩ := hp
  refine g_aload_n (n := 43) dX12_writeReport_42 rfl rfl rfl ?_
  refine g_ldcwS (n := 46) (i := 61) dX12_writeReport_43 rfl rfl ?_
  refine g_callV (n := 49) (as := [.retAddr (2 * 61)]) (bc' := 0) (bs' := 0) sM_0 vc_16 (ctX12_printWord h) okX12_printWord rfl w_2636 w_2638 w_91 w_112 dX12_writeReport_46 rfl rfl (Nat.le_of_ble_eq_true rfl) (Nat.le_of_ble_eq_true rfl) (Nat.le_of_ble_eq_true rfl) (Nat.le_of_ble_eq_true rfl) rfl (fun E sh1 I1 A1 hp _ => hp.2.elim) (fun ro sh_ I_12 A_13 hp hle => ?_)
  obtain ⟨rfl, rfl, h⟩ := hp
  refine g_aload_n (n := 50) dX12_writeReport_49 rfl rfl rfl ?_
  refine g_aload_n (n := 51) dX12_writeReport_50 rfl rfl rfl ?_
  refine g_getR (n := 54) (k := 0) dX12_writeReport_51 sM_0 vc_16 (Nat.le_of_ble_eq_true rfl) rfl w_1994 rfl ?_
  refine g_iconst (n := 55) (v := (nI 5)) dX12_writeReport_54 rfl rfl ?_
  refine g_ialdJ (n := 56) (j := 5) (x := (A_13 1 5)) dX12_writeReport_55 sM_1 rfl (Nat.le_of_ble_eq_true rfl) (by decide) rfl rfl ?_
  refine g_callV (n := 59) (as := [.int (A_13 1 5)]) (bc' := 0) (bs' := 0) sM_0 vc_16 (ctX12_printNumber h) okX12_printNumber rfl w_2644 w_2646 w_93 w_112 dX12_writeReport_56 rfl rfl (Nat.le_of_ble_eq_true rfl) (Nat.le_of_ble_eq_true rfl) (Nat.le_of_ble_eq_true rfl) (Nat.le_of_ble_eq_true rfl) rfl (fun E sh1 I1 A1 hp _ => hp.2.elim) (fun ro sh_ I_14 A_15 hp hle => ?_)
  obtain ⟨rfl, rfl, h⟩ := hp
  refine g_aload_n (n := 60) dX12_writeReport_59 rfl rfl rfl ?_
  refine g_bipush (n := 62) (v := (nI 10)) dX12_writeReport_60 rfl rfl ?_
  refine g_callV (n := 65) (as := [.int (nI 10)]) (bc' := 0) (bs' := 0) sM_0 vc_16 (ctX12_print h) okX12_print rfl w_2640 w_2642 w_92 w_112 dX12_writeReport_62 rfl rfl (Nat.le_of_ble_eq_true rfl) (Nat.le_of_ble_eq_true rfl) (Nat.le_of_ble_eq_true rfl) (Nat.le_of_ble_eq_true rfl) rfl (fun E sh1 I1 A1 hp _ => hp.2.elim) (fun ro sh_ I_16 A_17 hp hle => ?_)
  obtain ⟨rfl, rfl, h⟩ := hp
  refine g_iconst (n := 66) (v := (nI 0)) dX12_writeReport_65 rfl rfl ?_
  refine g_istore_n (n := 67) (ls' := [some (.ref 0), some (.int (nI 0))]) dX12_writeReport_66 rfl rfl (Nat.le_of_ble_eq_true rfl) (Nat.le_of_ble_eq_true rfl) rfl rfl ?_
  refine g_less (bc' := 0) (bs' := 0) (Nat.le_of_ble_eq_true rfl) (Nat.le_of_ble_eq_true rfl) ?_
  obtain ⟨n_f, h⟩ := h
  exact tlX12_writeReport_67  n_f _ _ _ h
