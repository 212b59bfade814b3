/-! the class's writeReport -/
def m_head (w : Nat → Int32) : List (List Int32) := [kc 23, dgL (nn (w 4)), kc 24, dgL (m_free w), kc 25, dgL (nn (w 5)), [nI 10]]
def m_lines (w : Nat → Int32) : Nat → Nat → List (List Int32)
  | _, 0 => []
  | i, k + 1 => m_line w i ++ m_lines w (i + 1) k
def m_rep (w : Nat → Int32) : List (List Int32) := m_head w ++ m_lines w 0 (m_P w)
theorem dg_10 {x : Nat} (h : x < 10) : sb_dg x = 1 := if_pos h
theorem pgs_len (w : Nat → Int32) (p : Nat) : ∀ (k i : Nat), (m_pgs w p i k).flatten.length = 2 * k
  | 0, _ => rfl
  | k + 1, i => by
    have := m_stt_lt w (8 * p + i)
    show (([nI 32] :: dgL (m_stt w (8 * p + i)) :: m_pgs w p (i + 1) k).flatten).length = _
    rw [List.flatten_cons, List.flatten_cons, List.length_append, List.length_append, pgs_len w p k (i + 1), dgL_len, dg_10 (by omega)]
    show 1 + (1 + 2 * k) = _
    omega
theorem line_len {w : Nat → Int32} {p : Nat} (hp : p < 6) (hC : m_C w p ≤ 8) : (m_line w p).flatten.length ≤ 54 := by
  have h1 : (kc (m_kd w p)).length ≤ 6 := by unfold m_kd; split <;> decide
  have h2 : (m_ck w p).length ≤ 10 := by
    unfold m_ck
    split
    · decide
    · rw [dgL_len]; exact (sb_dg_in _).2
  have h3 : (kc 26).length = 8 := by decide
  have h4 : (kc 29).length = 12 := by decide
  unfold m_line
  rw [List.flatten_cons, List.flatten_cons, List.flatten_cons, List.flatten_cons, List.flatten_cons, List.flatten_append, List.length_append, List.length_append, List.length_append, List.length_append, List.length_append, List.length_append, pgs_len, dgL_len, dg_10 (by omega)]
  show _ + (_ + (_ + (_ + (_ + (_ + 1))))) ≤ 54
  omega
theorem lines_len {w : Nat → Int32} (hC : ∀ p, p < 6 → m_C w p ≤ 8) : ∀ (k i : Nat), i + k ≤ 6 → (m_lines w i k).flatten.length ≤ 54 * k
  | 0, _, _ => Nat.zero_le _
  | k + 1, i, h => by
    have h1 := lines_len hC k (i + 1) (by omega)
    have h2 := line_len (w := w) (p := i) (by omega) (hC i (by omega))
    show ((m_line w i ++ m_lines w (i + 1) k).flatten).length ≤ _
    rw [List.flatten_append, List.length_append]
    omega
theorem rep_len {B : Nat} {w : Nat → Int32} (x : Iv B w) : (m_rep w).flatten.length ≤ 399 := by
  have h1 := lines_len (w := w) (fun p hp => (x.1.2.2.2 p hp).2.1) (m_P w) 0 (by have := x.1.2.2.1.2; omega)
  have h2 : (m_head w).flatten.length ≤ 53 := by
    have a1 : (kc 23).length = 6 := by decide
    have a2 : (kc 24).length = 6 := by decide
    have a3 : (kc 25).length = 10 := by decide
    have b1 := (sb_dg_in (nn (w 4))).2
    have b2 := (sb_dg_in (m_free w)).2
    have b3 := (sb_dg_in (nn (w 5))).2
    unfold m_head
    rw [List.flatten_cons, List.flatten_cons, List.flatten_cons, List.flatten_cons, List.flatten_cons, List.flatten_cons, List.flatten_cons, List.length_append, List.length_append, List.length_append, List.length_append, List.length_append, List.length_append, List.length_append, dgL_len, dgL_len, dgL_len]
    show _ + (_ + (_ + (_ + (_ + (_ + (1 + 0)))))) ≤ 53
    omega
  unfold m_rep
  rw [List.flatten_append, List.length_append]
  have := x.1.2.2.1.2
  omega
theorem fc_le {N : Nat} : ∀ (ps : List (List Int32)) (n cap : Nat), n + ps.flatten.length ≤ N → fc ps n cap ≤ max cap (2 * N + 2)
  | [], _, _, _ => Nat.le_max_left _ _
  | s :: ss, n, cap, h => by
    rw [List.flatten_cons, List.length_append] at h
    have h1 := fc_le (N := N) ss (n + s.length) (sb_cap (n + s.length) cap) (by omega)
    have h2 : sb_cap (n + s.length) cap ≤ max cap (2 * N + 2) := by
      unfold sb_cap
      split
      · omega
      · split <;> omega
    show fc ss _ _ ≤ _
    omega
theorem St_um {Z : ab_Z} {I A : ab_F} {w : Nat → Int32} {cap F : Nat} {ps : List (List Int32)} {T : List Int32} (h : St Z I A cap ps T F) : St Z I (um A w) cap ps T F := by
  obtain ⟨L, ⟨p1, p2, p3, p4, p5, p6, p7⟩, h2⟩ := h
  exact ⟨L, ⟨p1, p2, p3, p4, p5, p6, fun j => by rw [um_ne (by omega)]; exact p7 j⟩, h2⟩
theorem Rp_um {Z : ab_Z} {I A : ab_F} (w : Nat → Int32) : Rp Z I A Z I (um A w) := ⟨rfl, Or.inl rfl, ⟨[], (List.append_nil _).symm⟩, fun _ _ => rfl, fun _ h _ _ => um_ne h⟩
theorem St_41 {Z : ab_Z} {I A : ab_F} {cap F : Nat} {ps : List (List Int32)} {T : List Int32} (h : St Z I A cap ps T F) : 41 ≤ Z.2.1 := by
  obtain ⟨L, sb, _⟩ := h
  exact sb.2.1
theorem t_pr {C : ab_X} {Z0 : ab_Z} {I0 A0 : ab_F} {w : Nat → Int32} {B F : Nat} {T : List Int32} (hB : B < 2 ^ 30) (hv0 : 41 ≤ Z0.2.1) (r0 : Rs 8 I0 A0 w) (x : Iv B w) (hT : T.length ≤ 400) : ∀ (k p : Nat) (Z : ab_Z) (I A : ab_F) (cap : Nat), p + k = m_P w → Rp Z0 I0 A0 Z I A → St Z I A cap (m_lines w p k) T F → ab_G mX11_writeReport 8 C (PR Z0 I0 A0 T F (some (.int (nI T.length)))) 104 [some (.ref 0), some (.int (nI p))] [] (shC Z) I A (F - cap) (2 * (F - cap)) := by
  have hP := x.1.2.2.1.2
  intro k
  induction k with
  | zero =>
    intro p Z I A cap hi rp0 st0
    have rq := Rp_Rs rp0 hv0 r0
    have e9 : I 9 0 = nI (m_P w) := rq.1.1.1.trans x.1.2.2.1.1
    refine g_iload_n (n := 105) dX11_writeReport_104 rfl rfl rfl ?_
    refine g_aload_n (n := 106) dX11_writeReport_105 rfl rfl rfl ?_
    refine g_getR (n := 109) (k := 0) dX11_writeReport_106 sC_0 vc_15 (Nat.le_of_ble_eq_true rfl) rfl (ab_in 535 (by decide +kernel) rfl) rfl ?_
    refine g_getR (n := 112) (k := 0) dX11_writeReport_109 sC_8 vc_12 (Nat.le_of_ble_eq_true rfl) rfl (ab_in 400 (by decide +kernel) rfl) rfl ?_
    refine g_getIE (n := 115) (k := 0) (x := (I 9 0)) dX11_writeReport_112 sC_9 vc_8 (Nat.le_of_ble_eq_true rfl) rfl (ab_in 238 (by decide +kernel) rfl) rfl rfl ?_
    rw [e9]
    refine g_icmp_ge 129 dX11_writeReport_115 (by decide) (n := 118) rfl (fun _ => ?_) (fun hc => absurd ((nI_leI (by omega) (by omega)).mpr (by omega)) hc)
    refine g_aload_n (n := 130) dX11_writeReport_129 rfl rfl rfl ?_
    refine g_getR (n := 133) (k := 6) dX11_writeReport_130 sC_0 vc_15 (Nat.le_of_ble_eq_true rfl) rfl (ab_in 541 (by decide +kernel) rfl) rfl ?_
    refine g_callV (n := 136) (as := []) (bc' := _) (bs' := _) sC_40 vc_1 (hJ4_length (K := fun r I2 A2 => r = I 40 3 ∧ I = I2 ∧ A = A2) ⟨rfl, rfl, rfl⟩) okJ4_length_8abf5 rfl (ab_in 1395 (by decide +kernel) rfl) (ab_in 1200 (by decide +kernel) rfl) (ab_in 2675 (by decide +kernel) rfl) (ab_in 109 (by decide +kernel) rfl) dX11_writeReport_133 rfl rfl (Nat.le_of_ble_eq_true rfl) (Nat.le_refl _) (Nat.le_refl _) (Nat.le_of_ble_eq_true rfl) rfl (fun E sh1 I1 A1 hp _ => hp.2.elim) (fun ro sh1 I1 A1 hp _ => ?_)
    obtain ⟨rfl, r, rfl, rfl, rfl, rfl⟩ := hp
    have hpr := St_end (r := some (.int (nI T.length))) rp0 st0
    obtain ⟨L, sb, e1, -⟩ := st0
    have e1 : L = T := by rw [← e1]; exact (List.append_nil L).symm
    have e3 : I 40 3 = nI T.length := by rw [← e1]; exact sb.2.2.2.1
    rw [e3]
    exact g_iret rfl rfl dX11_writeReport_136 hpr
  | succ k ih =>
    intro p Z I A cap hi rp0 st0
    have rq := Rp_Rs rp0 hv0 r0
    have e9 : I 9 0 = nI (m_P w) := rq.1.1.1.trans x.1.2.2.1.1
    obtain ⟨L, sb, hc, hF⟩ := st0
    have hc : L ++ (m_line w p ++ m_lines w (p + 1) k).flatten = T := hc
    have hF : fc (m_line w p ++ m_lines w (p + 1) k) L.length cap = F := hF
    rw [List.flatten_append, ← List.append_assoc] at hc
    rw [fc_app, ← List.length_append] at hF
    have hT1 : (L ++ (m_line w p).flatten).length ≤ 400 := by
      have h1 := congrArg List.length hc
      rw [List.length_append] at h1
      omega
    have g1 := fc_ge (m_line w p) L.length cap
    have g2 := fc_ge (m_lines w (p + 1) k) (L ++ (m_line w p).flatten).length (fc (m_line w p) L.length cap)
    rw [hF] at g2
    refine g_iload_n (n := 105) dX11_writeReport_104 rfl rfl rfl ?_
    refine g_aload_n (n := 106) dX11_writeReport_105 rfl rfl rfl ?_
    refine g_getR (n := 109) (k := 0) dX11_writeReport_106 sC_0 vc_15 (Nat.le_of_ble_eq_true rfl) rfl (ab_in 535 (by decide +kernel) rfl) rfl ?_
    refine g_getR (n := 112) (k := 0) dX11_writeReport_109 sC_8 vc_12 (Nat.le_of_ble_eq_true rfl) rfl (ab_in 400 (by decide +kernel) rfl) rfl ?_
    refine g_getIE (n := 115) (k := 0) (x := (I 9 0)) dX11_writeReport_112 sC_9 vc_8 (Nat.le_of_ble_eq_true rfl) rfl (ab_in 238 (by decide +kernel) rfl) rfl rfl ?_
    rw [e9]
    refine g_icmp_ge 129 dX11_writeReport_115 (by decide) (n := 118) rfl (fun hc => absurd hc (nI_ge (by omega) (by omega))) (fun _ => ?_)
    refine g_aload_n (n := 119) dX11_writeReport_118 rfl rfl rfl ?_
    refine g_iload_n (n := 120) dX11_writeReport_119 rfl rfl rfl ?_
    refine g_callV (n := 123) (as := [.int (nI p)]) (bc' := F - fc (m_line w p) L.length cap) (bs' := 2 * (F - fc (m_line w p) L.length cap)) sC_0 vc_15 (ctX11_reportProcess hB rq x (by omega) sb hT1) okX11_reportProcess rfl (ab_in 1380 (by decide +kernel) rfl) (ab_in 1382 (by decide +kernel) rfl) (ab_in 20 (by decide +kernel) rfl) (ab_in 96 (by decide +kernel) rfl) dX11_writeReport_120 rfl rfl (Nat.le_of_ble_eq_true rfl) (by omega) (by omega) (Nat.le_of_ble_eq_true rfl) rfl (fun E sh1 I1 A1 hp _ => by have z : (Sum.inr E : Option Value ⊕ String) = .inl none := hp.1; cases z) (fun ro sh1 I1 A1 hp _ => ?_)
    have e1 : (Sum.inl ro : Option Value ⊕ String) = .inl none := hp.1
    cases e1
    obtain ⟨-, Z', e2, rp, sb'⟩ := hp
    have e2 : sh1 = shC Z' := e2
    subst e2
    refine g_iinc (n := 126) (v := (nI p + nI 1)) (ls' := [some (.ref 0), some (.int (nI p + nI 1))]) dX11_writeReport_123 rfl rfl rfl (Nat.le_of_ble_eq_true rfl) rfl rfl ?_
    rw [show (nI p + nI 1) = (nI (p + 1)) from nI_add _ 1]
    refine g_goto 104 dX11_writeReport_126 (by decide) ?_
    exact ih (p + 1) Z' I1 A1 _ (by omega) (rp0.trans rp) ⟨_, sb', hc, hF⟩
theorem ctX11_writeReport {Z0 : ab_Z} {I0 A0 : ab_F} {w : Nat → Int32} {B cap n : Nat} {t : Nat → Int32} (hB : B < 2 ^ 30) (r0 : Rs 8 I0 A0 w) (x : Iv B w) (sb : ab_SB Z0 I0 A0 t n cap) : ab_Cl mX11_writeReport 8 800 1600 [.ref 0] (shC Z0) I0 A0 (PR Z0 I0 A0 (m_rep w).flatten (fc (m_rep w) 0 cap) (some (.int (nI (m_rep w).flatten.length)))) := by
  refine ab_enter (ls := [some (.ref 0), none]) (by decide +kernel) (Nat.le_of_ble_eq_true rfl) rfl (fun C => ?_)
  have hv0 : 41 ≤ Z0.2.1 := sb.2.1
  have hrl := rep_len x
  have hT : (m_rep w).flatten.length ≤ 400 := by omega
  have hfl := fc_le (N := 399) (m_rep w) 0 cap (by omega)
  obtain ⟨c, hcB, c4⟩ := x.2.2.2.2.2.2.2.2.2.1.1
  obtain ⟨a, f, hfa, haB, c5, -⟩ := x.2.2.2.2.2.2.2.2.2.1.2.1
  refine g_less (bc' := fc (m_rep w) 0 cap - cap) (bs' := 2 * (fc (m_rep w) 0 cap - cap)) (by omega) (by omega) ?_
  generalize hF : fc (m_rep w) 0 cap = F
  generalize hTT : (m_rep w).flatten = T at hT
  refine g_aload_n (n := 1) dX11_writeReport_0 rfl rfl rfl ?_
  refine g_getR (n := 4) (k := 6) dX11_writeReport_1 sC_0 vc_15 (Nat.le_of_ble_eq_true rfl) rfl (ab_in 541 (by decide +kernel) rfl) rfl ?_
  refine g_iconst (n := 5) (v := (nI 0)) dX11_writeReport_4 rfl rfl ?_
  refine g_callV (n := 8) (as := [.int (nI 0)]) (bc' := _) (bs' := _) sC_40 vc_1 (ctJ4_setLength (sC_40 (Z := Z0)) sb.1 sb.2.2.1 sb.2.2.2.1 sb.2.2.2.2.1 sb.2.2.2.2.2.1 (fun j => (sb.2.2.2.2.2.2 j).2)) okJ4_setLength_d00df rfl (ab_in 1043 (by decide +kernel) rfl) (ab_in 1044 (by decide +kernel) rfl) (ab_in 1045 (by decide +kernel) rfl) (ab_in 109 (by decide +kernel) rfl) dX11_writeReport_5 rfl rfl (Nat.le_of_ble_eq_true rfl) (Nat.le_refl _) (Nat.le_refl _) (Nat.le_of_ble_eq_true rfl) rfl (fun E sh1 I1 A1 hp _ => by obtain ⟨_, z, _⟩ := hp; cases z) (fun ro sh1 I1 A1 hp _ => ?_)
  obtain ⟨I1, z, b1, b2, b3⟩ := hp
  cases z
  have rp1 : Rp Z0 I0 A0 Z0 I1 A0 := ⟨rfl, Or.inl rfl, ⟨[], (List.append_nil _).symm⟩, b3, fun _ _ _ _ => rfl⟩
  have r1 := Rp_Rs rp1 hv0 r0
  have st1 : St Z0 I1 A0 cap (kc 23 :: dgL c :: kc 24 :: dgL (m_free w) :: kc 25 :: dgL a :: [nI 10] :: m_lines w 0 (m_P w)) T F := by
    have e0 : m_rep w = kc 23 :: dgL c :: kc 24 :: dgL (m_free w) :: kc 25 :: dgL a :: [nI 10] :: m_lines w 0 (m_P w) := by unfold m_rep m_head; rw [c4, c5, nn_nI (by omega), nn_nI (by omega)]; rfl
    rw [← e0]
    exact ⟨[], ⟨sb.1, sb.2.1, b2.trans sb.2.2.1, b1, Nat.zero_le _, sb.2.2.2.2.2.1, fun j => ⟨fun hj => absurd hj (Nat.not_lt_zero j), (sb.2.2.2.2.2.2 j).2⟩⟩, hTT, hF⟩
  refine g_aload_n (n := 9) dX11_writeReport_8 rfl rfl rfl ?_
  refine g_getR (n := 12) (k := 6) dX11_writeReport_9 sC_0 vc_15 (Nat.le_of_ble_eq_true rfl) rfl (ab_in 541 (by decide +kernel) rfl) rfl ?_
  refine g_ldcwS (n := 15) (i := 23) dX11_writeReport_12 rfl rfl ?_
  refine g_appS (n := 18) (i := 23) (by decide) st1 hT (ab_in 1363 (by decide +kernel) rfl) dX11_writeReport_15 (Nat.le_of_ble_eq_true rfl) (Nat.le_of_ble_eq_true rfl) rfl (fun Z2 I2 A2 cap2 q2 st2 => ?_)
  have rp2 := rp1.trans q2
  have r2 := Rp_Rs rp2 hv0 r0
  refine g_pop (n := 19) dX11_writeReport_18 rfl rfl ?_
  refine g_aload_n (n := 20) dX11_writeReport_19 rfl rfl rfl ?_
  refine g_getR (n := 23) (k := 6) dX11_writeReport_20 sC_0 vc_15 (Nat.le_of_ble_eq_true rfl) rfl (ab_in 541 (by decide +kernel) rfl) rfl ?_
  refine g_aload_n (n := 24) dX11_writeReport_23 rfl rfl rfl ?_
  refine g_getR (n := 27) (k := 0) dX11_writeReport_24 sC_0 vc_15 (Nat.le_of_ble_eq_true rfl) rfl (ab_in 535 (by decide +kernel) rfl) rfl ?_
  refine g_getR (n := 30) (k := 3) dX11_writeReport_27 sC_8 vc_12 (Nat.le_of_ble_eq_true rfl) rfl (ab_in 406 (by decide +kernel) rfl) rfl ?_
  refine g_getIE (n := 33) (k := 0) (x := (I2 24 0)) dX11_writeReport_30 sC_24 vc_5 (Nat.le_of_ble_eq_true rfl) rfl (ab_in 340 (by decide +kernel) rfl) rfl rfl ?_
  rw [show I2 24 0 = nI c from (r2.2.1.1.1).trans c4]
  refine g_appI (n := 36) (x := c) (by omega) st2 hT (ab_in 1364 (by decide +kernel) rfl) dX11_writeReport_33 (Nat.le_of_ble_eq_true rfl) (Nat.le_of_ble_eq_true rfl) rfl (fun Z3 I3 A3 cap3 q3 st3 => ?_)
  have rp3 := rp2.trans q3
  have r3 := Rp_Rs rp3 hv0 r0
  refine g_pop (n := 37) dX11_writeReport_36 rfl rfl ?_
  refine g_aload_n (n := 38) dX11_writeReport_37 rfl rfl rfl ?_
  refine g_getR (n := 41) (k := 6) dX11_writeReport_38 sC_0 vc_15 (Nat.le_of_ble_eq_true rfl) rfl (ab_in 541 (by decide +kernel) rfl) rfl ?_
  refine g_ldcwS (n := 44) (i := 24) dX11_writeReport_41 rfl rfl ?_
  refine g_appS (n := 47) (i := 24) (by decide) st3 hT (ab_in 1363 (by decide +kernel) rfl) dX11_writeReport_44 (Nat.le_of_ble_eq_true rfl) (Nat.le_of_ble_eq_true rfl) rfl (fun Z4 I4 A4 cap4 q4 st4 => ?_)
  have rp4 := rp3.trans q4
  have r4 := Rp_Rs rp4 hv0 r0
  refine g_pop (n := 48) dX11_writeReport_47 rfl rfl ?_
  refine g_aload_n (n := 49) dX11_writeReport_48 rfl rfl rfl ?_
  refine g_getR (n := 52) (k := 6) dX11_writeReport_49 sC_0 vc_15 (Nat.le_of_ble_eq_true rfl) rfl (ab_in 541 (by decide +kernel) rfl) rfl ?_
  refine g_aload_n (n := 53) dX11_writeReport_52 rfl rfl rfl ?_
  refine g_getR (n := 56) (k := 0) dX11_writeReport_53 sC_0 vc_15 (Nat.le_of_ble_eq_true rfl) rfl (ab_in 535 (by decide +kernel) rfl) rfl ?_
  refine g_callV (n := 59) (as := []) (bc' := _) (bs' := _) sC_8 vc_12 (ctX8_countFree (c_countFree (K := fun r I2 A2 => r = nI (m_free w) ∧ I4 = I2 ∧ um A4 w = A2) r4 x ⟨rfl, rfl, rfl⟩)) okX8_countFree rfl (ab_in 1004 (by decide +kernel) rfl) (ab_in 967 (by decide +kernel) rfl) (ab_in 968 (by decide +kernel) rfl) (ab_in 100 (by decide +kernel) rfl) dX11_writeReport_56 rfl rfl (Nat.le_of_ble_eq_true rfl) (Nat.le_refl _) (Nat.le_refl _) (Nat.le_of_ble_eq_true rfl) rfl (fun E sh1 I1 A1 hp _ => hp.2.elim) (fun ro sh1 I1 A1 hp _ => ?_)
  obtain ⟨rfl, r, rfl, rfl, rfl, rfl⟩ := hp
  have st5 := St_um (w := w) st4
  have rp5 := rp4.trans (Rp_um w)
  have hfr : m_free w < 2 ^ 31 := by have := cn_le (p := m_fr w) (m_S w); have := x.1.2.1.2.2; unfold m_free; omega
  refine g_appI (n := 62) (x := m_free w) hfr st5 hT (ab_in 1364 (by decide +kernel) rfl) dX11_writeReport_59 (Nat.le_of_ble_eq_true rfl) (Nat.le_of_ble_eq_true rfl) rfl (fun Z6 I6 A6 cap6 q6 st6 => ?_)
  have rp6 := rp5.trans q6
  have r6 := Rp_Rs rp6 hv0 r0
  refine g_pop (n := 63) dX11_writeReport_62 rfl rfl ?_
  refine g_aload_n (n := 64) dX11_writeReport_63 rfl rfl rfl ?_
  refine g_getR (n := 67) (k := 6) dX11_writeReport_64 sC_0 vc_15 (Nat.le_of_ble_eq_true rfl) rfl (ab_in 541 (by decide +kernel) rfl) rfl ?_
  refine g_ldcwS (n := 70) (i := 25) dX11_writeReport_67 rfl rfl ?_
  refine g_appS (n := 73) (i := 25) (by decide) st6 hT (ab_in 1363 (by decide +kernel) rfl) dX11_writeReport_70 (Nat.le_of_ble_eq_true rfl) (Nat.le_of_ble_eq_true rfl) rfl (fun Z7 I7 A7 cap7 q7 st7 => ?_)
  have rp7 := rp6.trans q7
  have r7 := Rp_Rs rp7 hv0 r0
  refine g_pop (n := 74) dX11_writeReport_73 rfl rfl ?_
  refine g_aload_n (n := 75) dX11_writeReport_74 rfl rfl rfl ?_
  refine g_getR (n := 78) (k := 6) dX11_writeReport_75 sC_0 vc_15 (Nat.le_of_ble_eq_true rfl) rfl (ab_in 541 (by decide +kernel) rfl) rfl ?_
  refine g_aload_n (n := 79) dX11_writeReport_78 rfl rfl rfl ?_
  refine g_getR (n := 82) (k := 0) dX11_writeReport_79 sC_0 vc_15 (Nat.le_of_ble_eq_true rfl) rfl (ab_in 535 (by decide +kernel) rfl) rfl ?_
  refine g_getR (n := 85) (k := 4) dX11_writeReport_82 sC_8 vc_12 (Nat.le_of_ble_eq_true rfl) rfl (ab_in 408 (by decide +kernel) rfl) rfl ?_
  refine g_getIE (n := 88) (k := 0) (x := (I7 29 0)) dX11_writeReport_85 sC_29 vc_4 (Nat.le_of_ble_eq_true rfl) rfl (ab_in 383 (by decide +kernel) rfl) rfl rfl ?_
  rw [show I7 29 0 = nI a from (r7.2.2.1).trans c5]
  refine g_appI (n := 91) (x := a) (by omega) st7 hT (ab_in 1364 (by decide +kernel) rfl) dX11_writeReport_88 (Nat.le_of_ble_eq_true rfl) (Nat.le_of_ble_eq_true rfl) rfl (fun Z8 I8 A8 cap8 q8 st8 => ?_)
  have rp8 := rp7.trans q8
  have r8 := Rp_Rs rp8 hv0 r0
  refine g_pop (n := 92) dX11_writeReport_91 rfl rfl ?_
  refine g_aload_n (n := 93) dX11_writeReport_92 rfl rfl rfl ?_
  refine g_getR (n := 96) (k := 6) dX11_writeReport_93 sC_0 vc_15 (Nat.le_of_ble_eq_true rfl) rfl (ab_in 541 (by decide +kernel) rfl) rfl ?_
  refine g_bipush (n := 98) (v := (nI 10)) dX11_writeReport_96 rfl rfl ?_
  refine g_appC (n := 101) (c := 10) (by decide) st8 hT (ab_in 1367 (by decide +kernel) rfl) dX11_writeReport_98 (Nat.le_of_ble_eq_true rfl) (Nat.le_of_ble_eq_true rfl) rfl (fun Z9 I9 A9 cap9 q9 st9 => ?_)
  have rp9 := rp8.trans q9
  have r9 := Rp_Rs rp9 hv0 r0
  refine g_pop (n := 102) dX11_writeReport_101 rfl rfl ?_
  refine g_iconst (n := 103) (v := (nI 0)) dX11_writeReport_102 rfl rfl ?_
  refine g_istore_n (n := 104) (ls' := [some (.ref 0), some (.int (nI 0))]) dX11_writeReport_103 rfl rfl (Nat.le_of_ble_eq_true rfl) (Nat.le_of_ble_eq_true rfl) rfl rfl ?_
  exact t_pr hB hv0 r0 x hT (m_P w) 0 _ _ _ _ (Nat.zero_add _) rp9 st9
