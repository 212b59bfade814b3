/-! pending pages, checkpoints, lost pages -/
def s_pend (s : st_S) : st_O := (0, nI (m_pc s.1), s)
theorem f_pend {B : Nat} {s : st_S} {K : Int32 → ab_Z → ab_F → ab_F → Prop} {KX : String → ab_Z → ab_F → ab_F → Prop} {Z : ab_Z} {I A : ab_F} (r : RCs B s Z I A) (o : oC [] B (s_pend s) K KX) : wX11_pendingPages (fun v I A => K v Z I A) I A :=
  c_countPending r.1.1 r.1.2 (o.k rfl (Nat.le_refl _) r)
theorem r_pend {B : Nat} {s : st_S} {K : Int32 → ab_F → ab_F → Prop} {I A : ab_F} (r : RMs B s I A) (o : oM B (s_pend s) K) : wX12_pendingPages K I A := by
  have e1 : A 1 = s.1 := r.1.1
  refine q_pendingCount (by rw [e1]; exact r.1.2.1) ?_
  rw [e1]
  exact o.k rfl (Nat.le_refl _) (RM_5 r) w5 rfl
def s_pendAt (s : st_S) (x : Int32) : st_O := if m_lt x (m_pc s.1) = false then (1, 0, s) else (0, oI (m_pa s.1 (nn x)), s)
theorem f_pendAt {B : Nat} {s : st_S} {x : Int32} {K : Int32 → ab_Z → ab_F → ab_F → Prop} {KX : String → ab_Z → ab_F → ab_F → Prop} {Z : ab_Z} {I A : ab_F} (r : RCs B s Z I A) (o : oC [xIx] B (s_pendAt s x) K KX) : wX11_pendingPage (fun v I A => K v Z I A) (fun E I A => KX E Z I A) I A x := by
  have hl : m_pc s.1 ≤ 48 := cn_le 48
  have g := lt0 (x := x) (n := m_pc s.1) (by omega) rfl (X := wjX11_pendingPage_22 (fun v I A => K v Z I A) (fun E I A => KX E Z I A) x I A) (Y := wjX11_pendingPage_23 (fun v I A => K v Z I A) (fun E I A => KX E Z I A) x (nI 1) I A) (fun e => ?_) (fun e => ?_)
  · exact ⟨g.1, fun h => c_countPending r.1.1 r.1.2 (g.2 h)⟩
  · exact dmI (b := false) (fun _ => o.x (c := 0) (by unfold s_pendAt; rw [if_pos e]) rfl (Nat.le_refl _) r) (fun q => nomatch q)
  · refine dmI (b := true) (fun q => nomatch q) (fun _ => ?_)
    obtain ⟨i, hi, ei⟩ := m_lt_of e
    have en : nn x = i := by rw [ei]; exact nn_nI (by omega)
    rw [ei]
    exact c_pendingAt (fun k hk => (r.1.1.2.1.2.2.1 k hk).1) r.1.2 (by omega) (o.k (by unfold s_pendAt; rw [if_neg (by rw [e]; decide), en]) (Nat.le_refl _) r)
theorem cn_mono {p : Nat → Bool} {m : Nat} : ∀ {n : Nat}, m ≤ n → cn p m ≤ cn p n
  | 0, h => by rw [show m = 0 by omega]; exact Nat.le_refl _
  | n + 1, h => by
    by_cases e : m = n + 1
    · rw [e]; exact Nat.le_refl _
    · have := cn_mono (p := p) (m := m) (n := n) (by omega)
      rw [cn]; omega
/-- the i-th of those that p holds of -/
theorem nth_ex {p : Nat → Bool} {i : Nat} : ∀ {n : Nat}, i < cn p n → ∃ k, fi (fun k => p k && decide (cn p k = i)) n = some k
  | 0, h => by simp [cn] at h
  | n + 1, h => by
    rw [fi]
    cases e : fi (fun k => p k && decide (cn p k = i)) n with
    | some k => exact ⟨k, rfl⟩
    | none =>
      have h1 : ¬ i < cn p n := fun q => by
        obtain ⟨k, hk⟩ := nth_ex q
        rw [hk] at e; cases e
      rw [cn] at h
      have hp : p n = true := by
        cases q : p n with
        | true => rfl
        | false => rw [q] at h; simp at h; omega
      rw [hp] at h ⊢
      have hc : cn p n = i := by simp at h; omega
      rw [hc, decide_eq_true rfl]
      exact ⟨n, rfl⟩
theorem r_pendAt {B : Nat} {s : st_S} {x : Int32} {K : Int32 → ab_F → ab_F → Prop} {I A : ab_F} (r : RMs B s I A) (o : oM B (s_pendAt s x) K) : wX12_pendingPage K I A x := by
  have e1 : A 1 = s.1 := r.1.1
  have iv : Iv B s.1 := r.1.2
  have hl : m_pc s.1 ≤ 48 := cn_le 48
  have fx : ∀ (a : Int32) (c : Nat), a - nI c + (-1) = a - nI (c + 1) := fun a c => by
    rw [Int32.sub_eq_add_neg, Int32.sub_eq_add_neg, Int32.add_assoc, ← nI_add c 1, Int32.neg_add, Int32.sub_eq_add_neg, show -(nI 1) = (-1 : Int32) by decide]
  by_cases e : m_lt x (m_pc s.1) = true
  · obtain ⟨i, hi, ei⟩ := m_lt_of e
    have en : nn x = i := by rw [ei]; exact nn_nI (by omega)
    obtain ⟨kk, hkk⟩ := nth_ex (p := m_tp s.1) (n := 48) hi
    have g : ∀ u, u = oI (m_pa s.1 i) → K u (wr I 0 5 (nI 0)) A := fun u hu => o.k (by unfold s_pendAt; rw [if_neg (by rw [e]; decide), en]) (Nat.le_refl _) (RM_5 r) w5 hu
    have g2 : ∃ n, wlX12_pendingPage_9 K n (x - nI (cn (m_tp s.1) 0)) (nI 0) (wr I 0 5 (nI 0)) A := by
      refine lp_fi (W := fun n k => wlX12_pendingPage_9 K n (x - nI (cn (m_tp s.1) k)) (nI k) (wr I 0 5 (nI 0)) A) (p := fun k => m_tp s.1 k && decide (cn (m_tp s.1) k = i)) (e := 48) (fun n hn => ?_) (fun n k hk hp hn => ?_) (fun n k hk hp hw => ?_)
      · rw [fi_none.mpr hn] at hkk; cases hkk
      · have hp2 := Bool.and_eq_true_iff.mp hp
        have hc := of_decide_eq_true hp2.2
        have ht := Bool.and_eq_true_iff.mp (show (m_th s.1 k && m_pd s.1 k) = true from hp2.1)
        refine br_f (nI_ge hk (by omega)) (q_isThere (by rw [e1]; exact iv.1) hk ?_)
        rw [e1, ht.1]
        refine br_f (by decide) (q_isPending hk ?_)
        rw [e1, ht.2]
        refine rb_f (by decide) (rb_t (by rw [hc, ei]; exact Int32.sub_self _) (g _ ?_))
        unfold m_pa
        rw [fi_some hk hp hn]; rfl
      · refine br_f (nI_ge hk (by omega)) (q_isThere (by rw [e1]; exact iv.1) hk ?_)
        rw [e1]
        rw [cn] at hw
        have ne : ∀ {q : Prop}, m_tp s.1 k = false → (wlX12_pendingPage_9 K n (x - nI (cn (m_tp s.1) k)) (nI k + nI 1) (wr I 0 5 (nI 0)) A) := by
          intro _ hf
          rw [hf] at hw
          rw [nI_add k 1]; exact hw
        refine bb (fun q => ne (q := True) (by unfold m_tp; rw [q, Bool.false_and])) (fun q => q_isPending hk ?_)
        rw [e1]
        refine bb' (fun q2 => ne (q := True) (by unfold m_tp; rw [q2, Bool.and_false])) (fun q2 => ?_)
        have ht : m_tp s.1 k = true := by unfold m_tp; rw [q, q2]; rfl
        have hc : ¬ cn (m_tp s.1) k = i := by
          have hp2 : (m_tp s.1 k && decide (cn (m_tp s.1) k = i)) = false := hp
          rw [ht, Bool.true_and] at hp2
          exact of_decide_eq_false hp2
        have hl2 := cn_le (p := m_tp s.1) k
        refine rb_f (fun q3 => hc ?_) ?_
        · have q4 : x = nI (cn (m_tp s.1) k) := by rw [← Int32.sub_add_cancel (a := x) (b := nI (cn (m_tp s.1) k)), q3, Int32.zero_add]
          rw [ei] at q4
          exact ((nI_eq (by omega) (by omega)).mp q4).symm
        · rw [ht] at hw
          rw [fx, nI_add k 1]; exact hw
    rw [show x - nI (cn (m_tp s.1) 0) = x from Int32.sub_zero x] at g2
    exact g2
  · have ef := b_f e
    have g : ∀ u, K u (wr (wr I 0 5 (nI 0)) 0 5 (nI 1)) A := fun u => o.x (c := 0) (by unfold s_pendAt; rw [if_pos ef]) (Nat.le_refl _) (RM_5 (RM_5 r)) w5
    have g2 : ∃ n, wlX12_pendingPage_9 K n (x - nI (cn (m_tp s.1) 0)) (nI 0) (wr I 0 5 (nI 0)) A := by
      refine lp (W := fun n k => wlX12_pendingPage_9 K n (x - nI (cn (m_tp s.1) k)) (nI k) (wr I 0 5 (nI 0)) A) (e := 48) (fun n => ?_) (fun n k hk hw => ?_)
      · exact br_t (nI_le (Nat.le_refl _) (by omega)) (g _)
      · refine br_f (nI_ge hk (by omega)) (q_isThere (by rw [e1]; exact iv.1) hk ?_)
        rw [e1]
        rw [cn] at hw
        have ne : ∀ {q : Prop}, m_tp s.1 k = false → (wlX12_pendingPage_9 K n (x - nI (cn (m_tp s.1) k)) (nI k + nI 1) (wr I 0 5 (nI 0)) A) := by
          intro _ hf
          rw [hf] at hw
          rw [nI_add k 1]; exact hw
        refine bb (fun q => ne (q := True) (by unfold m_tp; rw [q, Bool.false_and])) (fun q => q_isPending hk ?_)
        rw [e1]
        refine bb' (fun q2 => ne (q := True) (by unfold m_tp; rw [q2, Bool.and_false])) (fun q2 => ?_)
        have ht : m_tp s.1 k = true := by unfold m_tp; rw [q, q2]; rfl
        have hl2 := cn_le (p := m_tp s.1) k
        have hm : cn (m_tp s.1) (k + 1) ≤ m_pc s.1 := cn_mono (by omega)
        rw [cn, ht] at hm
        refine rb_f (fun q3 => e ?_) ?_
        · have q4 : x = nI (cn (m_tp s.1) k) := by rw [← Int32.sub_add_cancel (a := x) (b := nI (cn (m_tp s.1) k)), q3, Int32.zero_add]
          rw [q4, m_lt_nI (by omega)]
          exact decide_eq_true (by simp at hm; omega)
        · rw [ht] at hw
          rw [fx, nI_add k 1]; exact hw
    rw [show x - nI (cn (m_tp s.1) 0) = x from Int32.sub_zero x] at g2
    exact g2
def s_ckSlot (s : st_S) (x y : Int32) : st_O := if m_pg s.1 x y = false then (1, 0, s) else if s.1 (26 + m_id x y / 8) = -1 then (2, 0, s) else (0, s.1 (272 + m_id x y), s)
def s_ckVal (s : st_S) (x y : Int32) : st_O := if m_pg s.1 x y = false then (1, 0, s) else if s.1 (26 + m_id x y / 8) = -1 then (2, 0, s) else (0, m_rsd s.1 (m_id x y), s)
theorem f_ckSlot {B : Nat} {s : st_S} {x y : Int32} {K : Int32 → ab_Z → ab_F → ab_F → Prop} {KX : String → ab_Z → ab_F → ab_F → Prop} {Z : ab_Z} {I A : ab_F} (r : RCs B s Z I A) (o : oC [xIx, xEl] B (s_ckSlot s x y) K KX) : wX11_checkpointSlot (fun v I A => K v Z I A) (fun E I A => KX E Z I A) I A x y := by
  refine c_hasPage r.1.1 r.1.2.1 (dmI (fun e => o.x (c := 0) (by unfold s_ckSlot; rw [if_pos e]) rfl (Nat.le_refl _) r) (fun e => ?_))
  obtain ⟨k, hk, ht, ek, ex⟩ := pg_k r.1.2.1 e
  have em := m_id_k ek hk
  have h1 : ¬ m_pg s.1 x y = false := by rw [e]; decide
  refine ⟨k / 8, ex, by omega, ?_⟩
  have e26 : A 26 (k / 8) = s.1 (26 + k / 8) := r.1.1.2.1.2.2.2.1 (k / 8) (by omega)
  rw [e26]
  by_cases h2 : s.1 (26 + k / 8) = -1
  · exact br_t h2 (dmE (b := false) (fun _ => o.x (c := 1) (by unfold s_ckSlot; rw [if_neg h1, em, if_pos h2]) rfl (Nat.le_refl _) r) (fun q => nomatch q))
  · refine br_f h2 (dmE (b := true) (fun q => nomatch q) (fun _ => ?_))
    unfold wX11_idOf
    rw [ek]
    refine ix0 hk ?_
    rw [show A 27 k = s.1 (272 + k) from (r.1.1.2.1.2.2.1 k hk).2]
    exact o.k (by unfold s_ckSlot; rw [if_neg h1, em, if_neg h2]) (Nat.le_refl _) r
theorem f_ckVal {B : Nat} {s : st_S} {x y : Int32} {K : Int32 → ab_Z → ab_F → ab_F → Prop} {KX : String → ab_Z → ab_F → ab_F → Prop} {Z : ab_Z} {I A : ab_F} (r : RCs B s Z I A) (o : oC [xIx, xEl] B (s_ckVal s x y) K KX) : wX11_checkpointValue (fun v I A => K v Z I A) (fun E I A => KX E Z I A) I A x y := by
  refine c_hasPage r.1.1 r.1.2.1 (dmI (fun e => o.x (c := 0) (by unfold s_ckVal; rw [if_pos e]) rfl (Nat.le_refl _) r) (fun e => ?_))
  obtain ⟨k, hk, ht, ek, ex⟩ := pg_k r.1.2.1 e
  have em := m_id_k ek hk
  have h1 : ¬ m_pg s.1 x y = false := by rw [e]; decide
  refine ⟨k / 8, ex, by omega, ?_⟩
  have e26 : A 26 (k / 8) = s.1 (26 + k / 8) := r.1.1.2.1.2.2.2.1 (k / 8) (by omega)
  rw [e26]
  by_cases h2 : s.1 (26 + k / 8) = -1
  · exact br_t h2 (dmE (b := false) (fun _ => o.x (c := 1) (by unfold s_ckVal; rw [if_neg h1, em, if_pos h2]) rfl (Nat.le_refl _) r) (fun q => nomatch q))
  · refine br_f h2 (dmE (b := true) (fun q => nomatch q) (fun _ => ?_))
    unfold wX11_idOf
    rw [ek]
    exact c_restoredValue r.1.1 r.1.2 hk (o.k (by unfold s_ckVal; rw [if_neg h1, em, if_neg h2]) (Nat.le_refl _) r)
theorem q_isNoCheck {K : Int32 → ab_F → ab_F → Prop} {I A : ab_F} {x y : Int32} (z : Sz (A 1)) (h1 : m_pg (A 1) x y = false → K (nI 1) (wr I 0 5 (nI 1)) A) (h2 : ∀ k, m_pg (A 1) x y = true → k < 48 → nI 8 * x + y = nI k → ∀ I', (∀ j, j ≠ 5 → I' 0 j = I 0 j) → I' 0 5 = (if A 1 (26 + k / 8) = -1 then nI 2 else nI 0) → K (if A 1 (26 + k / 8) = -1 then nI 1 else nI 0) I' A) : wX12_isNoCheck K I A x y := by
  refine q_isNoPage z (bb' (fun q => ?_) (fun q => ?_))
  · have hp := nb_f q
    obtain ⟨k, hk, ht, ek, ex⟩ := pg_k z hp
    have g := h2 k hp hk ek
    refine ixv ex (by omega) ?_
    by_cases h3 : A 1 (26 + k / 8) = -1
    · refine rb_t h3 (q_fails (b := true) (bb (fun q2 => nomatch q2) (fun _ => ?_)))
      have g2 := g (wr (wr I 0 5 (bI (!m_pg (A 1) x y))) 0 5 (if true = true then nI 2 else nI 0)) (fun j hj => by rw [wr_nei hj, wr_nei hj]) (by rw [w5, if_pos h3]; rfl)
      rw [if_pos h3] at g2
      exact g2
    · refine rb_f h3 (q_fails (b := false) (bb (fun _ => ?_) (fun q2 => nomatch q2)))
      have g2 := g (wr (wr I 0 5 (bI (!m_pg (A 1) x y))) 0 5 (if false = true then nI 2 else nI 0)) (fun j hj => by rw [wr_nei hj, wr_nei hj]) (by rw [w5, if_neg h3]; rfl)
      rw [if_neg h3] at g2
      exact g2
  · have hp := nb_t q
    rw [q]
    exact h1 hp
theorem RM_5k {B : Nat} {s : st_S} {I A I' : ab_F} (x : RMs B s I A) (h : ∀ j, j ≠ 5 → I' 0 j = I 0 j) : RMs B s I' A := RM_k x (fun j a _ _ _ => h j a) (fun _ _ => rfl)
theorem r_ckSlot {B : Nat} {s : st_S} {x y : Int32} {K : Int32 → ab_F → ab_F → Prop} {I A : ab_F} (r : RMs B s I A) (o : oM B (s_ckSlot s x y) K) : wX12_checkpointSlot K I A x y := by
  have e1 : A 1 = s.1 := r.1.1
  have iv : Iv B s.1 := r.1.2
  refine q_isNoCheck (by rw [e1]; exact iv.1) (fun e => ?_) (fun k e hk ek I' hI h5 => ?_)
  · rw [e1] at e
    refine br_f (by decide) (o.x (c := 0) (by unfold s_ckSlot; rw [if_pos e]) (Nat.le_refl _) (RM_5 r) w5)
  · rw [e1] at e h5 ⊢
    have em := m_id_k ek hk
    have h1 : ¬ m_pg s.1 x y = false := by rw [e]; decide
    by_cases h2 : s.1 (26 + k / 8) = -1
    · rw [if_pos h2] at h5 ⊢
      exact br_f (by decide) (o.x (c := 1) (by unfold s_ckSlot; rw [if_neg h1, em, if_pos h2]) (Nat.le_refl _) (RM_5k r hI) h5)
    · rw [if_neg h2] at h5 ⊢
      refine br_t rfl ?_
      unfold wX12_pageOf
      rw [ek]
      refine ixa (by omega) ?_
      try rw [e1]
      exact o.k (by unfold s_ckSlot; rw [if_neg h1, em, if_neg h2]) (Nat.le_refl _) (RM_5k r hI) h5 rfl
theorem r_ckVal {B : Nat} {s : st_S} {x y : Int32} {K : Int32 → ab_F → ab_F → Prop} {I A : ab_F} (r : RMs B s I A) (o : oM B (s_ckVal s x y) K) : wX12_checkpointValue K I A x y := by
  have e1 : A 1 = s.1 := r.1.1
  have iv : Iv B s.1 := r.1.2
  refine q_isNoCheck (by rw [e1]; exact iv.1) (fun e => ?_) (fun k e hk ek I' hI h5 => ?_)
  · rw [e1] at e
    refine br_f (by decide) (o.x (c := 0) (by unfold s_ckVal; rw [if_pos e]) (Nat.le_refl _) (RM_5 r) w5)
  · rw [e1] at e h5 ⊢
    have em := m_id_k ek hk
    have h1 : ¬ m_pg s.1 x y = false := by rw [e]; decide
    by_cases h2 : s.1 (26 + k / 8) = -1
    · rw [if_pos h2] at h5 ⊢
      exact br_f (by decide) (o.x (c := 1) (by unfold s_ckVal; rw [if_neg h1, em, if_pos h2]) (Nat.le_refl _) (RM_5k r hI) h5)
    · rw [if_neg h2] at h5 ⊢
      refine br_t rfl ?_
      unfold wX12_pageOf
      rw [ek]
      refine q_restored (by rw [e1]; exact iv.1) (by rw [e1]; exact iv.2.2.2.2.1) hk ?_
      rw [e1]
      exact o.k (by unfold s_ckVal; rw [if_neg h1, em, if_neg h2]) (Nat.le_refl _) (RM_5k r hI) h5 rfl
def s_lost (s : st_S) (x : Int32) : st_O := if m_lt x (m_P s.1) = false then (1, 0, s) else (0, nI (m_los s.1 (nn x)), s)
theorem f_lost {B : Nat} {s : st_S} {x : Int32} {K : Int32 → ab_Z → ab_F → ab_F → Prop} {KX : String → ab_Z → ab_F → ab_F → Prop} {Z : ab_Z} {I A : ab_F} (r : RCs B s Z I A) (o : oC [xIx] B (s_lost s x) K KX) : wX11_lostPages (fun v I A => K v Z I A) (fun E I A => KX E Z I A) I A x := by
  have hP := r.1.2.1.2.2.1.2
  refine c_hasProcess r.1.1 r.1.2.1 (dmI (fun e => o.x (c := 0) (by unfold s_lost; rw [if_pos e]) rfl (Nat.le_refl _) r) (fun e => ?_))
  obtain ⟨p, hp, ep⟩ := m_lt_of e
  have en : nn x = p := by rw [ep]; exact nn_nI (by omega)
  rw [ep]
  exact c_lostSet r.1.1 r.1.2 (by omega) (o.k (by unfold s_lost; rw [if_neg (by rw [e]; decide), en]) (Nat.le_refl _) r)
theorem r_lost {B : Nat} {s : st_S} {x : Int32} {K : Int32 → ab_F → ab_F → Prop} {I A : ab_F} (r : RMs B s I A) (o : oM B (s_lost s x) K) : wX12_lostPages K I A x := by
  have e1 : A 1 = s.1 := r.1.1
  have iv : Iv B s.1 := r.1.2
  have hP := iv.1.2.2.1.2
  refine q_isNoProcess (by rw [e1]; exact iv.1) ?_
  rw [e1]
  refine bb (fun q => ?_) (fun q => ?_)
  · have hl := nb_f q
    obtain ⟨p, hp, ep⟩ := m_lt_of hl
    have en : nn x = p := by rw [ep]; exact nn_nI (by omega)
    rw [ep]
    refine q_lostOf (by rw [e1]; exact iv.1) (by rw [e1]; exact iv.2.2.2.2.1) (by omega) ?_
    rw [e1]
    exact o.k (by unfold s_lost; rw [if_neg (by rw [hl]; decide), en]) (Nat.le_refl _) (RM_5 r) (by rw [w5, ← ep, q]; rfl) rfl
  · have hl := nb_t q
    exact o.x (c := 0) (by unfold s_lost; rw [if_pos hl]) (Nat.le_refl _) (RM_5 r) (by rw [w5, q]; rfl)
