/-! the best barrier, totals -/
def m_L (w : Nat → Int32) (c : Nat) : Nat := m_ln w (nI (2 ^ m_P w - 1 - c))
def m_b1 (w : Nat → Int32) (lim b c : Nat) : Nat := if lim < m_dn w (nI c) then b else if b ≠ 0 ∧ (m_L w b < m_L w c ∨ (m_L w c = m_L w b ∧ m_dn w (nI b) ≤ m_dn w (nI c))) then b else c
def m_best (w : Nat → Int32) (lim : Nat) : Nat → Nat
  | 0 => 0
  | n + 1 => m_b1 w lim (m_best w lim n) (n + 1)
theorem m_best_le (w : Nat → Int32) (lim : Nat) : ∀ n, m_best w lim n ≤ n
  | 0 => Nat.le_refl 0
  | n + 1 => by
    have := m_best_le w lim n
    rw [m_best]
    unfold m_b1
    split
    · omega
    · split <;> omega
theorem cpl : ∀ p, p ≤ 6 → ∀ c, c < 64 → c < 2 ^ p → nI (2 ^ p - 1) &&& (nI c ^^^ (-1 : Int32)) = nI (2 ^ p - 1 - c) := by decide +kernel
theorem p2_64 {p : Nat} (h : p ≤ 6) : 2 ^ p ≤ 64 ∧ 1 ≤ 2 ^ p := ⟨show 2 ^ p ≤ 2 ^ 6 from Nat.pow_le_pow_right (by omega) h, Nat.one_le_two_pow⟩
theorem q_best {K : Int32 → ab_F → ab_F → Prop} {I A : ab_F} {B lim : Nat} (iv : Iv B (A 1)) (hl : lim < 2 ^ 31) (h : K (nI (m_best (A 1) lim (2 ^ m_P (A 1) - 1))) I A) : ∃ n, wlX12_bestBarrier_66 K n (nI lim) (nI (2 ^ m_P (A 1) - 1)) (nI 0) (nI 1) I A := by
  have hP := iv.1.2.2.1.2
  have h64 := p2_64 hP
  have cp : ∀ c, c < 2 ^ m_P (A 1) → nI (2 ^ m_P (A 1) - 1) &&& (nI c ^^^ (-1 : Int32)) = nI (2 ^ m_P (A 1) - 1 - c) := fun c hc => cpl _ hP c (by omega) hc
  generalize hN : 2 ^ m_P (A 1) = N at h64 cp h
  refine lp (W := fun n i => wlX12_bestBarrier_66 K n (nI lim) (nI (N - 1)) (nI (m_best (A 1) lim i)) (nI (i + 1)) I A) (e := N - 1) (fun n => ?_) (fun n i hi hw => ?_)
  · exact br_t ((nI_ltI (by omega) (by omega)).mpr (by omega)) h
  · refine br_f (fun q => absurd ((nI_ltI (by omega) (by omega)).mp q) (by omega)) (q_dirtyIn iv ?_)
    have d1 := dn_le (x := nI (i + 1)) iv.1
    have d2 := dn_le (x := nI (m_best (A 1) lim i)) iv.1
    have bl := m_best_le (A 1) lim i
    have eL : ∀ c, m_ln (A 1) (nI (N - 1 - c)) = m_L (A 1) c := fun c => by unfold m_L; rw [hN]
    have l1 : m_L (A 1) (i + 1) ≤ 48 := by rw [← eL]; exact ln_le iv.1
    have l2 : m_L (A 1) (m_best (A 1) lim i) ≤ 48 := by rw [← eL]; exact ln_le iv.1
    rw [m_best] at hw
    unfold m_b1 at hw
    rw [nI_add (i + 1) 1, nI_leI (by omega) hl]
    by_cases c1 : m_dn (A 1) (nI (i + 1)) ≤ lim
    · rw [if_neg (by omega)] at hw
      refine br_t c1 ?_
      by_cases c2 : m_best (A 1) lim i = 0
      · rw [if_neg (fun q => q.1 c2)] at hw
        exact br_t (by rw [c2]; rfl) hw
      · refine br_f (fun q => c2 ((nI_eq (by omega) (by omega)).mp (q.trans (show (0 : Int32) = nI 0 from rfl)))) ?_
        rw [cp (i + 1) (by omega), cp (m_best (A 1) lim i) (by omega)]
        refine q_lostIn iv (q_lostIn iv ?_)
        rw [eL, eL, nI_ltI (by omega) (by omega)]
        by_cases c3 : m_L (A 1) (m_best (A 1) lim i) < m_L (A 1) (i + 1)
        · rw [if_pos ⟨c2, Or.inl c3⟩] at hw
          exact br_t c3 hw
        · refine br_f c3 (q_lostIn iv (q_lostIn iv ?_))
          rw [eL, eL, nI_eq (by omega) (by omega)]
          by_cases c4 : m_L (A 1) (i + 1) = m_L (A 1) (m_best (A 1) lim i)
          · refine rb_t c4 (q_dirtyIn iv (q_dirtyIn iv ?_))
            rw [nI_ltI (by omega) (by omega)]
            by_cases c5 : m_dn (A 1) (nI (i + 1)) < m_dn (A 1) (nI (m_best (A 1) lim i))
            · rw [if_neg (fun q => by rcases q.2 with q | q <;> omega)] at hw
              exact br_t c5 hw
            · rw [if_pos ⟨c2, Or.inr ⟨c4, by omega⟩⟩] at hw
              exact br_f c5 hw
          · rw [if_neg (fun q => by rcases q.2 with q | q
                                    · exact c3 q
                                    · exact c4 q.1)] at hw
            exact rb_f c4 hw
    · rw [if_pos (by omega)] at hw
      exact br_f c1 hw
theorem c_best {K : Int32 → ab_F → ab_F → Prop} {I A : ab_F} {B lim : Nat} {w : Nat → Int32} (r : Rs 8 I A w) (iv : Iv B w) (hl : lim < 2 ^ 31) (h : K (nI (m_best w lim (2 ^ m_P w - 1))) I A) : wX8_bestSet K I A (nI lim) := by
  have hP := iv.1.2.2.1.2
  have e9 : I 9 0 = nI (m_P w) := (r.1.1.1).trans iv.1.2.2.1.1
  have h64 := p2_64 hP
  have cp : ∀ c, c < 2 ^ m_P w → nI (2 ^ m_P w - 1) &&& (nI c ^^^ (-1 : Int32)) = nI (2 ^ m_P w - 1 - c) := fun c hc => cpl _ hP c (by omega) hc
  unfold wX8_bestSet wX4_everyProcess
  rw [e9, ev_p _ hP]
  generalize hN : 2 ^ m_P w = N at h64 cp h
  refine lp (W := fun n i => wlX8_bestSet_19 K n (nI lim) (nI (m_best w lim i)) (nI (if m_best w lim i = 0 then 0 else m_L w (m_best w lim i))) (nI (if m_best w lim i = 0 then 0 else m_dn w (nI (m_best w lim i)))) (nI (N - 1)) (nI (i + 1)) I A) (e := N - 1) (fun n => ?_) (fun n i hi hw => ?_)
  · exact br_t ((nI_ltI (by omega) (by omega)).mpr (by omega)) h
  · refine br_f (fun q => absurd ((nI_ltI (by omega) (by omega)).mp q) (by omega)) (c_countDirty r iv (by omega) ?_)
    have d1 := dn_le (x := nI (i + 1)) iv.1
    have d2 := dn_le (x := nI (m_best w lim i)) iv.1
    have bl := m_best_le w lim i
    have eL : ∀ c, m_ln w (nI (N - 1 - c)) = m_L w c := fun c => by unfold m_L; rw [hN]
    have l1 : m_L w (i + 1) ≤ 48 := by rw [← eL]; exact ln_le iv.1
    have l2 : m_L w (m_best w lim i) ≤ 48 := by rw [← eL]; exact ln_le iv.1
    rw [cp (i + 1) (by omega)]
    refine c_countLost r iv (by omega) ?_
    rw [eL]
    have ne0 : ∀ {a : Nat}, a ≤ 64 → a ≠ 0 → ¬ nI a = 0 := fun h1 h2 q => h2 ((nI_eq (by omega) (by omega)).mp (q.trans (show (0 : Int32) = nI 0 from rfl)))
    rw [m_best] at hw
    have take : m_b1 w lim (m_best w lim i) (i + 1) = i + 1 → wjX8_bestSet_91 K (wlX8_bestSet_19 K n) (nI lim) (nI (N - 1)) (nI (i + 1)) (nI (m_dn w (nI (i + 1)))) (nI (m_L w (i + 1))) I A := by
      intro q
      rw [q, if_neg (by omega), if_neg (by omega)] at hw
      show wlX8_bestSet_19 K n (nI lim) (nI (i + 1)) (nI (m_L w (i + 1))) (nI (m_dn w (nI (i + 1)))) (nI (N - 1)) (nI (i + 1) + nI 1) I A
      rw [nI_add (i + 1) 1]; exact hw
    have keep : m_b1 w lim (m_best w lim i) (i + 1) = m_best w lim i → wlX8_bestSet_19 K n (nI lim) (nI (m_best w lim i)) (nI (if m_best w lim i = 0 then 0 else m_L w (m_best w lim i))) (nI (if m_best w lim i = 0 then 0 else m_dn w (nI (m_best w lim i)))) (nI (N - 1)) (nI (i + 1) + nI 1) I A := by
      intro q
      rw [q] at hw
      rw [nI_add (i + 1) 1]; exact hw
    have fin : ∀ (b : Bool) (v : Int32), v = bI b → (m_best w lim i ≠ 0 → (b = true ↔ ¬ (m_L w (m_best w lim i) < m_L w (i + 1) ∨ (m_L w (i + 1) = m_L w (m_best w lim i) ∧ m_dn w (nI (m_best w lim i)) ≤ m_dn w (nI (i + 1)))))) → wjX8_bestSet_74 K (wlX8_bestSet_19 K n) (nI lim) (nI (m_best w lim i)) (nI (if m_best w lim i = 0 then 0 else m_L w (m_best w lim i))) (nI (if m_best w lim i = 0 then 0 else m_dn w (nI (m_best w lim i)))) (nI (N - 1)) (nI (i + 1)) (nI (m_dn w (nI (i + 1)))) (nI (m_L w (i + 1))) v I A := by
      intro b v hv hb
      subst hv
      unfold wjX8_bestSet_74
      rw [nI_ltI hl (by omega)]
      by_cases c1 : lim < m_dn w (nI (i + 1))
      · exact br_t c1 (keep (by unfold m_b1; rw [if_pos c1]))
      · refine br_f c1 ?_
        by_cases c2 : m_best w lim i = 0
        · exact br_t (by rw [c2]; rfl) (take (by unfold m_b1; rw [if_neg c1, if_neg (fun q => q.1 c2)]))
        · refine br_f (ne0 (by omega) c2) (bb (fun q => keep ?_) (fun q => take ?_))
          · unfold m_b1
            rw [if_neg c1, if_pos ⟨c2, Classical.byContradiction (fun q2 => by have := (hb c2).mpr q2; rw [q] at this; exact nomatch this)⟩]
          · unfold m_b1
            rw [if_neg c1, if_neg (fun q2 => (hb c2).mp q q2.2)]
    by_cases c2 : m_best w lim i = 0
    · have any : ∀ (b : Bool) (v : Int32), v = bI b → wjX8_bestSet_74 K (wlX8_bestSet_19 K n) (nI lim) (nI (m_best w lim i)) (nI (if m_best w lim i = 0 then 0 else m_L w (m_best w lim i))) (nI (if m_best w lim i = 0 then 0 else m_dn w (nI (m_best w lim i)))) (nI (N - 1)) (nI (i + 1)) (nI (m_dn w (nI (i + 1)))) (nI (m_L w (i + 1))) v I A := fun b v hv => fin b v hv (fun q => absurd c2 q)
      exact ⟨fun _ => any true _ rfl, fun _ => ⟨fun _ => any false _ rfl, fun _ => ⟨fun _ => any false _ rfl, fun _ => any true _ rfl⟩⟩⟩
    · have eq1 : (if m_best w lim i = 0 then 0 else m_L w (m_best w lim i)) = m_L w (m_best w lim i) := if_neg c2
      have eq2 : (if m_best w lim i = 0 then 0 else m_dn w (nI (m_best w lim i))) = m_dn w (nI (m_best w lim i)) := if_neg c2
      rw [eq1, eq2] at fin ⊢
      rw [nI_ltI (by omega) (by omega), nI_eq (by omega) (by omega), nI_leI (by omega) (by omega)]
      by_cases c3 : m_L w (i + 1) < m_L w (m_best w lim i)
      · exact br_t c3 (fin true _ rfl (fun _ => ⟨fun _ q => by rcases q with q | q <;> omega, fun _ => rfl⟩))
      · refine br_f c3 ?_
        by_cases c4 : m_L w (i + 1) = m_L w (m_best w lim i)
        · refine rb_t c4 ?_
          by_cases c5 : m_dn w (nI (m_best w lim i)) ≤ m_dn w (nI (i + 1))
          · exact br_t c5 (fin false _ rfl (fun _ => ⟨fun q => (nomatch q), fun q => absurd (Or.inr ⟨c4, c5⟩) q⟩))
          · exact br_f c5 (fin true _ rfl (fun _ => ⟨fun _ q => by rcases q with q | q <;> omega, fun _ => rfl⟩))
        · exact rb_f c4 (fin false _ rfl (fun _ => ⟨fun q => (nomatch q), fun q => absurd (Or.inl (show m_L w (m_best w lim i) < m_L w (i + 1) by omega)) q⟩))
def s_best (s : st_S) (x : Int32) : st_O := if m_lt x 49 = false then (1, 0, s) else if s.1 10 = 0 then (0, nI (m_best s.1 (nn x) (2 ^ m_P s.1 - 1)), s) else (2, 0, s)
theorem f_best {B : Nat} {s : st_S} {x : Int32} {K : Int32 → ab_Z → ab_F → ab_F → Prop} {KX : String → ab_Z → ab_F → ab_F → Prop} {Z : ab_Z} {I A : ab_F} (r : RCs B s Z I A) (o : oC [xAr, xSt] B (s_best s x) K KX) : wX11_bestBarrier (fun v I A => K v Z I A) (fun E I A => KX E Z I A) I A x := by
  refine lt1 (n := 48) (by omega) rfl (fun e => ?_) (fun e => ?_)
  · exact dmA (b := false) (fun _ => o.x (c := 0) (by unfold s_best; rw [if_pos e]) rfl (Nat.le_refl _) r) (fun q => nomatch q)
  · refine dmA (b := true) (fun q => nomatch q) (fun _ => ?_)
    obtain ⟨j, hj, ej⟩ := m_lt_of e
    have en : nn x = j := by rw [ej]; exact nn_nI (by omega)
    have e24 : I 24 1 = s.1 10 := r.1.1.2.1.1.2.1
    rw [e24]
    by_cases q : s.1 10 = 0
    · refine br_t q ?_
      rw [ej]
      exact c_best r.1.1 r.1.2 (by omega) (o.k (by unfold s_best; rw [if_neg (by rw [e]; decide), if_pos q, en]) (Nat.le_refl _) r)
    · exact br_f q (o.x (c := 1) (by unfold s_best; rw [if_neg (by rw [e]; decide), if_neg q]) rfl (Nat.le_refl _) r)
theorem r_best {B : Nat} {s : st_S} {x : Int32} {K : Int32 → ab_F → ab_F → Prop} {I A : ab_F} (r : RMs B s I A) (o : oM B (s_best s x) K) : wX12_bestBarrier K I A x := by
  have e1 : A 1 = s.1 := r.1.1
  have iv : Iv B s.1 := r.1.2
  have hP := iv.1.2.2.1.2
  refine q_inN (n := 48) rfl (bb' (fun q => ?_) (fun q => ?_))
  · refine q_fails (b := true) (bb' (fun q2 => nomatch q2) (fun _ => ?_))
    exact o.x (c := 0) (by unfold s_best; rw [if_pos q]) (Nat.le_refl _) (RM_5 r) w5
  · refine q_fails (b := false) (bb' (fun _ => ?_) (fun q2 => nomatch q2))
    have h1 : ¬ m_lt x 49 = false := by rw [q]; decide
    obtain ⟨j, hj, ej⟩ := m_lt_of q
    have en : nn x = j := by rw [ej]; exact nn_nI (by omega)
    rw [e1]
    by_cases q2 : s.1 10 = 0
    · refine br_t q2 (q_fails (b := false) (bb (fun _ => ?_) (fun q3 => nomatch q3)))
      refine nm_r (show nI 1 <<< (A 1 3 &&& 31) - nI 1 = nI (2 ^ m_P (A 1) - 1) by rw [e1, iv.1.2.2.1.1, ev_p _ hP]) ?_
      rw [ej]
      refine q_best (B := B) (by rw [e1]; exact iv) (by omega) ?_
      rw [e1]
      exact o.k (by unfold s_best; rw [if_neg h1, if_pos q2, en]) (Nat.le_refl _) (RM_5 (RM_5 r)) w5 rfl
    · refine br_f q2 (q_fails (b := true) (bb (fun q3 => nomatch q3) (fun _ => ?_)))
      exact o.x (c := 1) (by unfold s_best; rw [if_neg h1, if_neg q2]) (Nat.le_refl _) (RM_5 (RM_5 r)) w5
def m_tot (w : Nat → Int32) (j : Nat) : Int32 := if j = 0 then w 5 else if j = 1 then w 6 else if j = 2 then w 7 else if j = 3 then w 8 else if j = 4 then w 9 else if j = 5 then nI (m_ln w (nI (2 ^ m_P w - 1))) else if j = 6 then nI (m_dn w (nI (2 ^ m_P w - 1))) else w 2
def s_total (s : st_S) (x : Int32) : st_O := if m_lt x 8 = false then (1, 0, s) else (0, m_tot s.1 (nn x), s)
theorem f_total {B : Nat} {s : st_S} {x : Int32} {K : Int32 → ab_Z → ab_F → ab_F → Prop} {KX : String → ab_Z → ab_F → ab_F → Prop} {Z : ab_Z} {I A : ab_F} (r : RCs B s Z I A) (o : oC [xAr] B (s_total s x) K KX) : wX11_total (fun v I A => K v Z I A) (fun E I A => KX E Z I A) I A x := by
  have iv := r.1.2
  have hP := iv.1.2.2.1.2
  have h64 := p2_64 hP
  have e9 : I 9 0 = nI (m_P s.1) := (r.1.1.1.1.1).trans iv.1.2.2.1.1
  by_cases e : m_lt x 8 = true
  · obtain ⟨j, hj, ej⟩ := m_lt_of e
    have en : nn x = j := by rw [ej]; exact nn_nI (by omega)
    have g : K (m_tot s.1 j) Z I A := o.k (by unfold s_total; rw [if_neg (by rw [e]; decide), en]) (Nat.le_refl _) r
    unfold wX11_total wX4_everyProcess
    rw [e9, ev_p _ hP, ej, nI_toInt (by omega)]
    refine ⟨fun q => ?_, fun q => ?_, fun q => ?_, fun q => ?_, fun q => ?_, fun q => ?_, fun q => ?_, fun q => ?_, fun q => by omega⟩
    · rw [show j = 0 by omega] at g; rw [show I 29 0 = s.1 5 from r.1.1.2.2.1]; exact g
    · rw [show j = 1 by omega] at g; rw [show I 29 1 = s.1 6 from r.1.1.2.2.2.1]; exact g
    · rw [show j = 2 by omega] at g; rw [show I 20 1 = s.1 7 from r.1.1.1.2.2.2.1]; exact g
    · rw [show j = 3 by omega] at g; rw [show I 24 3 = s.1 8 from r.1.1.2.1.1.2.2]; exact g
    · rw [show j = 4 by omega] at g; rw [show I 8 5 = s.1 9 from r.1.1.2.2.2.2.1]; exact g
    · rw [show j = 5 by omega] at g; exact c_countLost r.1.1 iv (by omega) g
    · rw [show j = 6 by omega] at g; exact c_countDirty r.1.1 iv (by omega) g
    · rw [show j = 7 by omega] at g; rw [show I 16 1 = s.1 2 from r.1.1.1.2.1.2.1]; exact g
  · have ef := b_f e
    have hn : x.toInt < 0 ∨ 7 < x.toInt := by
      have : ¬ (0 ≤ x.toInt ∧ x.toInt < (8 : Nat)) := of_decide_eq_false ef
      omega
    refine ⟨fun q => by omega, fun q => by omega, fun q => by omega, fun q => by omega, fun q => by omega, fun q => by omega, fun q => by omega, fun q => by omega, fun _ => ?_⟩
    exact o.x (c := 0) (by unfold s_total; rw [if_pos ef]) rfl (Nat.le_refl _) r
theorem r_total {B : Nat} {s : st_S} {x : Int32} {K : Int32 → ab_F → ab_F → Prop} {I A : ab_F} (r : RMs B s I A) (o : oM B (s_total s x) K) : wX12_total K I A x := by
  have e1 : A 1 = s.1 := r.1.1
  have iv : Iv B s.1 := r.1.2
  have hP := iv.1.2.2.1.2
  refine q_inN (n := 7) rfl (bb' (fun q => ?_) (fun q => ?_))
  · refine q_fails (b := true) (bb (fun q2 => nomatch q2) (fun _ => ?_))
    exact o.x (c := 0) (by unfold s_total; rw [if_pos q]) (Nat.le_refl _) (RM_5 r) w5
  · refine q_fails (b := false) (bb (fun _ => ?_) (fun q2 => nomatch q2))
    obtain ⟨j, hj, ej⟩ := m_lt_of q
    have en : nn x = j := by rw [ej]; exact nn_nI (by omega)
    have g : ∀ u, u = m_tot s.1 j → K u (wr I 0 5 (if false = true then nI 1 else nI 0)) A := fun u hu => o.k (by unfold s_total; rw [if_neg (by rw [q]; decide), en]) (Nat.le_refl _) (RM_5 r) w5 hu
    generalize wr I 0 5 (if false = true then nI 1 else nI 0) = J at g ⊢
    rw [ej, nI_toInt (by omega), e1, iv.1.2.2.1.1, ev_p _ hP]
    refine ⟨fun q => g _ ?_, fun q => g _ ?_, fun q => g _ ?_, fun q => g _ ?_, fun q => g _ ?_, fun q => q_lostIn (B := B) (by rw [e1]; exact iv) ?_, fun q => q_dirtyIn (B := B) (by rw [e1]; exact iv) ?_, fun q => g _ ?_⟩
    · rw [show j = 0 by omega]; rfl
    · rw [show j = 1 by omega]; rfl
    · rw [show j = 2 by omega]; rfl
    · rw [show j = 3 by omega]; rfl
    · rw [show j = 4 by omega]; rfl
    · rw [e1]; exact g _ (by rw [show j = 5 by omega]; rfl)
    · rw [e1]; exact g _ (by rw [show j = 6 by omega]; rfl)
    · rw [show j = 7 by omega]; rfl
