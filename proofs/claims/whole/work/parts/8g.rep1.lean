/-! the class's report -/
def m_kd (w : Nat → Int32) (p : Nat) : Nat := if w (14 + p) = nI 1 then 27 else 28
def m_ck (w : Nat → Int32) (p : Nat) : List Int32 := if w (26 + p) = -1 then kc 30 else dgL (nn (w (26 + p)))
def m_pgs (w : Nat → Int32) (p : Nat) : Nat → Nat → List (List Int32)
  | _, 0 => []
  | i, k + 1 => [nI 32] :: dgL (m_stt w (8 * p + i)) :: m_pgs w p (i + 1) k
def m_line (w : Nat → Int32) (p : Nat) : List (List Int32) := kc 26 :: dgL p :: kc (m_kd w p) :: kc 29 :: m_ck w p :: (m_pgs w p 0 (m_C w p) ++ [[nI 10]])
def PR (Z0 : ab_Z) (I0 A0 : ab_F) (T : List Int32) (F : Nat) (r : Option Value) : ab_O → Prop := fun o => o.1 = .inl r ∧ ∃ Z', o.2.1 = shC Z' ∧ Rp Z0 I0 A0 Z' o.2.2.1 o.2.2.2 ∧ SBl Z' o.2.2.1 o.2.2.2 T F
theorem ck_e {w : Nat → Int32} {B p : Nat} (x : Iv B w) (hp : p < 6) (hc : ¬ w (26 + p) = -1) : ∃ e, e ≤ B ∧ w (26 + p) = nI e := by
  rcases x.2.2.2.2.2.2.2.1 p hp with q | ⟨e, he, q, _⟩
  · exact absurd q hc
  · exact ⟨e, he, q⟩
theorem St_end {Z0 Z : ab_Z} {I0 A0 I A : ab_F} {cap F : Nat} {T : List Int32} {r : Option Value} (rp : Rp Z0 I0 A0 Z I A) (h : St Z I A cap [] T F) : PR Z0 I0 A0 T F r (.inl r, shC Z, I, A) := by
  obtain ⟨L, sb, e1, e2⟩ := h
  have e1 : L = T := by rw [← e1]; exact (List.append_nil L).symm
  have e2 : cap = F := e2
  rw [e1, e2] at sb
  exact ⟨rfl, Z, rfl, rp, sb⟩
abbrev mX11_reportProcess : ab_M := (yX11_reportProcess, cX11_reportProcess, 4, none)
theorem okX11_reportProcess : ab_mOK mX11_reportProcess 1 := ⟨⟨by decide, by decide, by decide +kernel⟩, by decide, (ab_in 1383 (by decide +kernel) rfl), (ab_in 96 (by decide +kernel) rfl)⟩
abbrev mX11_writeReport : ab_M := (yX11_writeReport, cX11_writeReport, 2, (some .int))
theorem okX11_writeReport : ab_mOK mX11_writeReport 0 := ⟨⟨by decide, by decide, by decide +kernel⟩, by decide, (ab_in 1042 (by decide +kernel) rfl), (ab_in 96 (by decide +kernel) rfl)⟩
theorem t_pg {C : ab_X} {Z0 : ab_Z} {I0 A0 : ab_F} {w : Nat → Int32} {B p F : Nat} {T : List Int32} (hB : B < 2 ^ 30) (hv0 : 41 ≤ Z0.2.1) (r0 : Rs 8 I0 A0 w) (x : Iv B w) (hp : p < 6) (hT : T.length ≤ 400) : ∀ (k i : Nat) (Z : ab_Z) (I A : ab_F) (cap : Nat), i + k = m_C w p → Rp Z0 I0 A0 Z I A → St Z I A cap (m_pgs w p i k ++ [[nI 10]]) T F → ab_G mX11_reportProcess 7 C (PR Z0 I0 A0 T F none) 107 [some (.ref 0), some (.int (nI p)), none, some (.int (nI i))] [] (shC Z) I A (F - cap) (2 * (F - cap)) := by
  have hC := (x.1.2.2.2 p hp).2.1
  intro k
  induction k with
  | zero =>
    intro i Z I A cap hi rp0 st0
    have rq := Rp_Rs rp0 hv0 r0
    refine g_iload_n (n := 108) dX11_reportProcess_107 rfl rfl rfl ?_
    refine g_aload_n (n := 109) dX11_reportProcess_108 rfl rfl rfl ?_
    refine g_getR (n := 112) (k := 0) dX11_reportProcess_109 sC_0 vc_15 (Nat.le_of_ble_eq_true rfl) rfl (ab_in 535 (by decide +kernel) rfl) rfl ?_
    refine g_getR (n := 115) (k := 0) dX11_reportProcess_112 sC_8 vc_12 (Nat.le_of_ble_eq_true rfl) rfl (ab_in 400 (by decide +kernel) rfl) rfl ?_
    refine g_getR (n := 118) (k := 1) dX11_reportProcess_115 sC_9 vc_8 (Nat.le_of_ble_eq_true rfl) rfl (ab_in 241 (by decide +kernel) rfl) rfl ?_
    refine g_iload_n (n := 119) dX11_reportProcess_118 rfl rfl rfl ?_
    refine g_ialdJ (n := 120) (j := p) (x := (nI (m_C w p))) dX11_reportProcess_119 sC_10 rfl hp (by decide) (((rq.1.1.2.1 p hp).1).trans (x.1.2.2.2 p hp).1) rfl ?_
    refine g_icmp_ge 162 dX11_reportProcess_120 (by decide) (n := 123) rfl (fun _ => ?_) (fun hc => absurd ((nI_leI (by omega) (by omega)).mpr (by omega)) hc)
    refine g_aload_n (n := 163) dX11_reportProcess_162 rfl rfl rfl ?_
    refine g_getR (n := 166) (k := 6) dX11_reportProcess_163 sC_0 vc_15 (Nat.le_of_ble_eq_true rfl) rfl (ab_in 541 (by decide +kernel) rfl) rfl ?_
    refine g_bipush (n := 168) (v := (nI 10)) dX11_reportProcess_166 rfl rfl ?_
    refine g_appC (n := 171) (c := 10) (by decide) st0 hT (ab_in 1367 (by decide +kernel) rfl) dX11_reportProcess_168 (Nat.le_of_ble_eq_true rfl) (Nat.le_of_ble_eq_true rfl) rfl (fun Z1 I1 A1 cap1 q1 st1 => ?_)
    have rp1 := rp0.trans q1
    have r1 := Rp_Rs rp1 hv0 r0
    refine g_pop (n := 172) dX11_reportProcess_171 rfl rfl ?_
    exact g_vret rfl dX11_reportProcess_172 (St_end rp1 st1)
  | succ k ih =>
    intro i Z I A cap hi rp0 st0
    have rq := Rp_Rs rp0 hv0 r0
    refine g_iload_n (n := 108) dX11_reportProcess_107 rfl rfl rfl ?_
    refine g_aload_n (n := 109) dX11_reportProcess_108 rfl rfl rfl ?_
    refine g_getR (n := 112) (k := 0) dX11_reportProcess_109 sC_0 vc_15 (Nat.le_of_ble_eq_true rfl) rfl (ab_in 535 (by decide +kernel) rfl) rfl ?_
    refine g_getR (n := 115) (k := 0) dX11_reportProcess_112 sC_8 vc_12 (Nat.le_of_ble_eq_true rfl) rfl (ab_in 400 (by decide +kernel) rfl) rfl ?_
    refine g_getR (n := 118) (k := 1) dX11_reportProcess_115 sC_9 vc_8 (Nat.le_of_ble_eq_true rfl) rfl (ab_in 241 (by decide +kernel) rfl) rfl ?_
    refine g_iload_n (n := 119) dX11_reportProcess_118 rfl rfl rfl ?_
    refine g_ialdJ (n := 120) (j := p) (x := (nI (m_C w p))) dX11_reportProcess_119 sC_10 rfl hp (by decide) (((rq.1.1.2.1 p hp).1).trans (x.1.2.2.2 p hp).1) rfl ?_
    refine g_icmp_ge 162 dX11_reportProcess_120 (by decide) (n := 123) rfl (fun hc => absurd hc (nI_ge (by omega) (by omega))) (fun _ => ?_)
    refine g_aload_n (n := 124) dX11_reportProcess_123 rfl rfl rfl ?_
    refine g_getR (n := 127) (k := 6) dX11_reportProcess_124 sC_0 vc_15 (Nat.le_of_ble_eq_true rfl) rfl (ab_in 541 (by decide +kernel) rfl) rfl ?_
    refine g_bipush (n := 129) (v := (nI 32)) dX11_reportProcess_127 rfl rfl ?_
    refine g_appC (n := 132) (c := 32) (by decide) st0 hT (ab_in 1367 (by decide +kernel) rfl) dX11_reportProcess_129 (Nat.le_of_ble_eq_true rfl) (Nat.le_of_ble_eq_true rfl) rfl (fun Z1 I1 A1 cap1 q1 st1 => ?_)
    have rp1 := rp0.trans q1
    have r1 := Rp_Rs rp1 hv0 r0
    refine g_pop (n := 133) dX11_reportProcess_132 rfl rfl ?_
    refine g_aload_n (n := 134) dX11_reportProcess_133 rfl rfl rfl ?_
    refine g_getR (n := 137) (k := 6) dX11_reportProcess_134 sC_0 vc_15 (Nat.le_of_ble_eq_true rfl) rfl (ab_in 541 (by decide +kernel) rfl) rfl ?_
    refine g_aload_n (n := 138) dX11_reportProcess_137 rfl rfl rfl ?_
    refine g_getR (n := 141) (k := 0) dX11_reportProcess_138 sC_0 vc_15 (Nat.le_of_ble_eq_true rfl) rfl (ab_in 535 (by decide +kernel) rfl) rfl ?_
    refine g_getR (n := 144) (k := 0) dX11_reportProcess_141 sC_8 vc_12 (Nat.le_of_ble_eq_true rfl) rfl (ab_in 400 (by decide +kernel) rfl) rfl ?_
    refine g_iload_n (n := 145) dX11_reportProcess_144 rfl rfl rfl ?_
    refine g_iload_n (n := 146) dX11_reportProcess_145 rfl rfl rfl ?_
    refine g_callS (n := 149) (as := [.int (nI p), .int (nI i)]) (bc' := _) (bs' := _) (ctX11_idOf (K := fun r I2 A2 => r = nI (8 * p + i) ∧ I1 = I2 ∧ A1 = A2) (by unfold wX11_idOf; rw [nI_mul8, nI_add]; exact ⟨rfl, rfl, rfl⟩)) okX11_idOf (ab_in 1389 (by decide +kernel) rfl) (ab_in 757 (by decide +kernel) rfl) dX11_reportProcess_146 rfl rfl (Nat.le_of_ble_eq_true rfl) (Nat.le_refl _) (Nat.le_refl _) (Nat.le_of_ble_eq_true rfl) rfl (fun E sh1 I1 A1 hp _ => hp.2.elim) (fun ro sh1 I1 A1 hp _ => ?_)
    obtain ⟨rfl, r, rfl, rfl, rfl, rfl⟩ := hp
    refine g_callV (n := 152) (as := [.int (nI (8 * p + i))]) (bc' := _) (bs' := _) sC_9 vc_8 (ctX4_stateAt (c_stateAt (K := fun r I2 A2 => r = nI (m_stt w (8 * p + i)) ∧ I1 = I2 ∧ A1 = A2) r1 (by omega) ⟨rfl, rfl, rfl⟩)) okX4_stateAt rfl (ab_in 1390 (by decide +kernel) rfl) (ab_in 1391 (by decide +kernel) rfl) (ab_in 1392 (by decide +kernel) rfl) (ab_in 101 (by decide +kernel) rfl) dX11_reportProcess_149 rfl rfl (Nat.le_of_ble_eq_true rfl) (Nat.le_refl _) (Nat.le_refl _) (Nat.le_of_ble_eq_true rfl) rfl (fun E sh1 I1 A1 hp _ => hp.2.elim) (fun ro sh1 I1 A1 hp _ => ?_)
    obtain ⟨rfl, r, rfl, rfl, rfl, rfl⟩ := hp
    refine g_appI (n := 155) (x := m_stt w (8 * p + i)) (by have := m_stt_lt w (8 * p + i); omega) st1 hT (ab_in 1364 (by decide +kernel) rfl) dX11_reportProcess_152 (Nat.le_of_ble_eq_true rfl) (Nat.le_of_ble_eq_true rfl) rfl (fun Z2 I2 A2 cap2 q2 st2 => ?_)
    have rp2 := rp1.trans q2
    have r2 := Rp_Rs rp2 hv0 r0
    refine g_pop (n := 156) dX11_reportProcess_155 rfl rfl ?_
    refine g_iinc (n := 159) (v := (nI i + nI 1)) (ls' := [some (.ref 0), some (.int (nI p)), none, some (.int (nI i + nI 1))]) dX11_reportProcess_156 rfl rfl rfl (Nat.le_of_ble_eq_true rfl) rfl rfl ?_
    rw [show (nI i + nI 1) = (nI (i + 1)) from nI_add _ 1]
    refine g_goto 107 dX11_reportProcess_159 (by decide) ?_
    exact ih (i + 1) _ _ _ _ (by omega) rp2 st2
theorem t_105 {C : ab_X} {Z0 : ab_Z} {I0 A0 : ab_F} {w : Nat → Int32} {B p F : Nat} {T : List Int32} (hB : B < 2 ^ 30) (hv0 : 41 ≤ Z0.2.1) (r0 : Rs 8 I0 A0 w) (x : Iv B w) (hp : p < 6) (hT : T.length ≤ 400) {Z : ab_Z} {I A : ab_F} {cap : Nat} {v2 : Int32} (rp0 : Rp Z0 I0 A0 Z I A) (st0 : St Z I A cap (m_pgs w p 0 (m_C w p) ++ [[nI 10]]) T F) : ab_G mX11_reportProcess 7 C (PR Z0 I0 A0 T F none) 105 [some (.ref 0), some (.int (nI p)), some (.int v2), none] [] (shC Z) I A (F - cap) (2 * (F - cap)) := by
  refine g_iconst (n := 106) (v := nI 0) dX11_reportProcess_105 rfl rfl ?_
  refine g_istore_n (n := 107) (ls' := [some (.ref 0), some (.int (nI p)), some (.int v2), some (.int (nI 0))]) dX11_reportProcess_106 rfl rfl (Nat.le_of_ble_eq_true rfl) (Nat.le_of_ble_eq_true rfl) rfl rfl ?_
  refine g_forget (ls' := [some (.ref 0), some (.int (nI p)), none, some (.int (nI 0))]) (ab_fg rfl) ?_
  exact t_pg hB hv0 r0 x hp hT (m_C w p) 0 _ _ _ _ (Nat.zero_add _) rp0 st0
theorem t_49 {C : ab_X} {Z0 : ab_Z} {I0 A0 : ab_F} {w : Nat → Int32} {B p F : Nat} {T : List Int32} (hB : B < 2 ^ 30) (hv0 : 41 ≤ Z0.2.1) (r0 : Rs 8 I0 A0 w) (x : Iv B w) (hp : p < 6) (hT : T.length ≤ 400) {Z : ab_Z} {I A : ab_F} {cap i : Nat} (hi : i < 66) (rp0 : Rp Z0 I0 A0 Z I A) (st0 : St Z I A cap (kc i :: kc 29 :: m_ck w p :: (m_pgs w p 0 (m_C w p) ++ [[nI 10]])) T F) : ab_G mX11_reportProcess 7 C (PR Z0 I0 A0 T F none) 49 [some (.ref 0), some (.int (nI p)), none, none] [.retAddr (2 * i), .ref 40] (shC Z) I A (F - cap) (2 * (F - cap)) := by
  refine g_appS (n := 52) (i := i) hi st0 hT (ab_in 1363 (by decide +kernel) rfl) dX11_reportProcess_49 (Nat.le_of_ble_eq_true rfl) (Nat.le_of_ble_eq_true rfl) rfl (fun Z1 I1 A1 cap1 q1 st1 => ?_)
  have rp1 := rp0.trans q1
  have r1 := Rp_Rs rp1 hv0 r0
  refine g_pop (n := 53) dX11_reportProcess_52 rfl rfl ?_
  refine g_aload_n (n := 54) dX11_reportProcess_53 rfl rfl rfl ?_
  refine g_getR (n := 57) (k := 6) dX11_reportProcess_54 sC_0 vc_15 (Nat.le_of_ble_eq_true rfl) rfl (ab_in 541 (by decide +kernel) rfl) rfl ?_
  refine g_ldcwS (n := 60) (i := 29) dX11_reportProcess_57 rfl rfl ?_
  refine g_appS (n := 63) (i := 29) (by decide) st1 hT (ab_in 1363 (by decide +kernel) rfl) dX11_reportProcess_60 (Nat.le_of_ble_eq_true rfl) (Nat.le_of_ble_eq_true rfl) rfl (fun Z2 I2 A2 cap2 q2 st2 => ?_)
  have rp2 := rp1.trans q2
  have r2 := Rp_Rs rp2 hv0 r0
  refine g_pop (n := 64) dX11_reportProcess_63 rfl rfl ?_
  refine g_aload_n (n := 65) dX11_reportProcess_64 rfl rfl rfl ?_
  refine g_getR (n := 68) (k := 0) dX11_reportProcess_65 sC_0 vc_15 (Nat.le_of_ble_eq_true rfl) rfl (ab_in 535 (by decide +kernel) rfl) rfl ?_
  refine g_getR (n := 71) (k := 3) dX11_reportProcess_68 sC_8 vc_12 (Nat.le_of_ble_eq_true rfl) rfl (ab_in 406 (by decide +kernel) rfl) rfl ?_
  refine g_getR (n := 74) (k := 5) dX11_reportProcess_71 sC_24 vc_5 (Nat.le_of_ble_eq_true rfl) rfl (ab_in 353 (by decide +kernel) rfl) rfl ?_
  refine g_iload_n (n := 75) dX11_reportProcess_74 rfl rfl rfl ?_
  refine g_ialdJ (n := 76) (j := p) (x := (w (26 + p))) dX11_reportProcess_75 sC_26 rfl hp (by decide) (r2.2.1.2.2.2.1 p hp) rfl ?_
  refine g_istore_n (n := 77) (ls' := [some (.ref 0), some (.int (nI p)), some (.int (w (26 + p))), none]) dX11_reportProcess_76 rfl rfl (Nat.le_of_ble_eq_true rfl) (Nat.le_of_ble_eq_true rfl) rfl rfl ?_
  refine g_iload_n (n := 78) dX11_reportProcess_77 rfl rfl rfl ?_
  refine g_iconst (n := 79) (v := (-1 : Int32)) dX11_reportProcess_78 rfl rfl ?_
  refine g_icmp_ne 96 dX11_reportProcess_79 (by decide) (n := 82) rfl (fun hc => ?_) (fun hc => ?_)
  · obtain ⟨e, he, ee⟩ := ck_e x hp hc
    rw [show m_ck w p = dgL e by unfold m_ck; rw [if_neg hc, ee, nn_nI (by omega)]] at st2
    rw [ee]
    refine g_aload_n (n := 97) dX11_reportProcess_96 rfl rfl rfl ?_
    refine g_getR (n := 100) (k := 6) dX11_reportProcess_97 sC_0 vc_15 (Nat.le_of_ble_eq_true rfl) rfl (ab_in 541 (by decide +kernel) rfl) rfl ?_
    refine g_iload_n (n := 101) dX11_reportProcess_100 rfl rfl rfl ?_
    refine g_appI (n := 104) (x := e) (by omega) st2 hT (ab_in 1364 (by decide +kernel) rfl) dX11_reportProcess_101 (Nat.le_of_ble_eq_true rfl) (Nat.le_of_ble_eq_true rfl) rfl (fun Z3 I3 A3 cap3 q3 st3 => ?_)
    have rp3 := rp2.trans q3
    have r3 := Rp_Rs rp3 hv0 r0
    refine g_pop (n := 105) dX11_reportProcess_104 rfl rfl ?_
    exact t_105 hB hv0 r0 x hp hT rp3 st3
  · rw [show m_ck w p = kc 30 by unfold m_ck; rw [if_pos hc]] at st2
    refine g_aload_n (n := 83) dX11_reportProcess_82 rfl rfl rfl ?_
    refine g_getR (n := 86) (k := 6) dX11_reportProcess_83 sC_0 vc_15 (Nat.le_of_ble_eq_true rfl) rfl (ab_in 541 (by decide +kernel) rfl) rfl ?_
    refine g_ldcwS (n := 89) (i := 30) dX11_reportProcess_86 rfl rfl ?_
    refine g_appS (n := 92) (i := 30) (by decide) st2 hT (ab_in 1363 (by decide +kernel) rfl) dX11_reportProcess_89 (Nat.le_of_ble_eq_true rfl) (Nat.le_of_ble_eq_true rfl) rfl (fun Z3 I3 A3 cap3 q3 st3 => ?_)
    have rp3 := rp2.trans q3
    have r3 := Rp_Rs rp3 hv0 r0
    refine g_pop (n := 93) dX11_reportProcess_92 rfl rfl ?_
    refine g_goto 105 dX11_reportProcess_93 (by decide) ?_
    exact t_105 hB hv0 r0 x hp hT rp3 st3
theorem ctX11_reportProcess {Z0 : ab_Z} {I0 A0 : ab_F} {w : Nat → Int32} {B p cap : Nat} {L : List Int32} (hB : B < 2 ^ 30) (r0 : Rs 8 I0 A0 w) (x : Iv B w) (hp : p < 6) (sb : SBl Z0 I0 A0 L cap) (hT : (L ++ (m_line w p).flatten).length ≤ 400) : ab_Cl mX11_reportProcess 7 (fc (m_line w p) L.length cap - cap) (2 * (fc (m_line w p) L.length cap - cap)) [.ref 0, .int (nI p)] (shC Z0) I0 A0 (PR Z0 I0 A0 (L ++ (m_line w p).flatten) (fc (m_line w p) L.length cap) none) := by
  refine ab_enter (ls := [some (.ref 0), some (.int (nI p)), none, none]) (by decide +kernel) (Nat.le_of_ble_eq_true rfl) rfl (fun C => ?_)
  have hv0 : 41 ≤ Z0.2.1 := sb.2.1
  have st0 : St Z0 I0 A0 cap (m_line w p) (L ++ (m_line w p).flatten) (fc (m_line w p) L.length cap) := ⟨L, sb, rfl, rfl⟩
  have rp0 := Rp.refl Z0 I0 A0
  refine g_aload_n (n := 1) dX11_reportProcess_0 rfl rfl rfl ?_
  refine g_getR (n := 4) (k := 6) dX11_reportProcess_1 sC_0 vc_15 (Nat.le_of_ble_eq_true rfl) rfl (ab_in 541 (by decide +kernel) rfl) rfl ?_
  refine g_ldcwS (n := 7) (i := 26) dX11_reportProcess_4 rfl rfl ?_
  refine g_appS (n := 10) (i := 26) (by decide) st0 hT (ab_in 1363 (by decide +kernel) rfl) dX11_reportProcess_7 (Nat.le_of_ble_eq_true rfl) (Nat.le_of_ble_eq_true rfl) rfl (fun Z1 I1 A1 cap1 q1 st1 => ?_)
  have rp1 := rp0.trans q1
  have r1 := Rp_Rs rp1 hv0 r0
  refine g_pop (n := 11) dX11_reportProcess_10 rfl rfl ?_
  refine g_aload_n (n := 12) dX11_reportProcess_11 rfl rfl rfl ?_
  refine g_getR (n := 15) (k := 6) dX11_reportProcess_12 sC_0 vc_15 (Nat.le_of_ble_eq_true rfl) rfl (ab_in 541 (by decide +kernel) rfl) rfl ?_
  refine g_iload_n (n := 16) dX11_reportProcess_15 rfl rfl rfl ?_
  refine g_appI (n := 19) (x := p) (by omega) st1 hT (ab_in 1364 (by decide +kernel) rfl) dX11_reportProcess_16 (Nat.le_of_ble_eq_true rfl) (Nat.le_of_ble_eq_true rfl) rfl (fun Z2 I2 A2 cap2 q2 st2 => ?_)
  have rp2 := rp1.trans q2
  have r2 := Rp_Rs rp2 hv0 r0
  refine g_pop (n := 20) dX11_reportProcess_19 rfl rfl ?_
  refine g_aload_n (n := 21) dX11_reportProcess_20 rfl rfl rfl ?_
  refine g_getR (n := 24) (k := 6) dX11_reportProcess_21 sC_0 vc_15 (Nat.le_of_ble_eq_true rfl) rfl (ab_in 541 (by decide +kernel) rfl) rfl ?_
  refine g_aload_n (n := 25) dX11_reportProcess_24 rfl rfl rfl ?_
  refine g_getR (n := 28) (k := 0) dX11_reportProcess_25 sC_0 vc_15 (Nat.le_of_ble_eq_true rfl) rfl (ab_in 535 (by decide +kernel) rfl) rfl ?_
  refine g_getR (n := 31) (k := 0) dX11_reportProcess_28 sC_8 vc_12 (Nat.le_of_ble_eq_true rfl) rfl (ab_in 400 (by decide +kernel) rfl) rfl ?_
  refine g_getR (n := 34) (k := 2) dX11_reportProcess_31 sC_9 vc_8 (Nat.le_of_ble_eq_true rfl) rfl (ab_in 244 (by decide +kernel) rfl) rfl ?_
  refine g_iload_n (n := 35) dX11_reportProcess_34 rfl rfl rfl ?_
  refine g_ialdJ (n := 36) (j := p) (x := (w (14 + p))) dX11_reportProcess_35 sC_11 rfl hp (by decide) ((r2.1.1.2.1 p hp).2.1) rfl ?_
  refine g_iconst (n := 37) (v := (nI 1)) dX11_reportProcess_36 rfl rfl ?_
  refine g_icmp_ne 46 dX11_reportProcess_37 (by decide) (n := 40) rfl (fun hc => ?_) (fun hc => ?_)
  · rw [show m_kd w p = 28 by unfold m_kd; rw [if_neg hc]] at st2
    refine g_ldcwS (n := 49) (i := 28) dX11_reportProcess_46 rfl rfl ?_
    exact t_49 hB hv0 r0 x hp hT (by decide) rp2 st2
  · rw [show m_kd w p = 27 by unfold m_kd; rw [if_pos hc]] at st2
    refine g_ldcwS (n := 43) (i := 27) dX11_reportProcess_40 rfl rfl ?_
    refine g_goto 49 dX11_reportProcess_43 (by decide) ?_
    exact t_49 hB hv0 r0 x hp hT (by decide) rp2 st2
