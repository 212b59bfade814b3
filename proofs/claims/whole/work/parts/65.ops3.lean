/-! states of pages, sets of pages -/
def m_stt (w : Nat → Int32) (k : Nat) : Nat := if w (128 + k) = -1 then (if w (80 + k) = -1 then 0 else 1) else (if w (176 + k) = nI 1 then 3 else 2)
theorem m_stt_lt (w : Nat → Int32) (k : Nat) : m_stt w k < 4 := by unfold m_stt; split <;> split <;> omega
theorem q_stateOf {K : Int32 → ab_F → ab_F → Prop} {I A : ab_F} {B k : Nat} (x : Iv B (A 1)) (hk : k < 48) (h : K (nI (m_stt (A 1) k)) I A) : wX12_stateOf K I A (nI k) := by
  unfold m_stt at h
  refine ixa (by omega) ?_
  by_cases h1 : A 1 (128 + k) = -1
  · rw [if_pos h1] at h
    refine br_t h1 (ixa (by omega) ?_)
    by_cases h2 : A 1 (80 + k) = -1
    · rw [if_pos h2] at h; exact rb_t h2 h
    · rw [if_neg h2] at h; exact rb_f h2 h
  · rw [if_neg h1] at h
    refine br_f h1 (ixa (by omega) ?_)
    rcases x.2.2.1 k hk with a | ⟨a, -⟩
    · rw [a, if_neg (by decide)] at h
      rw [a]; exact h
    · rw [a, if_pos rfl] at h
      rw [a]; exact h
theorem c_stateAt {K : Int32 → ab_F → ab_F → Prop} {I A : ab_F} {k : Nat} {w : Nat → Int32} (r : Rs 8 I A w) (hk : k < 48) (h : K (nI (m_stt w k)) I A) : wX4_stateAt K I A (nI k) := by
  unfold m_stt at h
  have e14 : A 14 k = w (128 + k) := (r.1.1.2.2 k hk).2.1
  have e15 : A 15 k = w (80 + k) := (r.1.1.2.2 k hk).2.2
  refine ix0 hk ?_
  rw [e14]
  by_cases h1 : w (128 + k) = -1
  · rw [if_pos h1] at h
    refine rb_t h1 (ix0 hk ?_)
    rw [e15]
    by_cases h2 : w (80 + k) = -1
    · rw [if_pos h2] at h; exact rb_t h2 h
    · rw [if_neg h2] at h; exact rb_f h2 h
  · rw [if_neg h1] at h
    refine rb_f h1 (c_isDirty r hk (bb (fun q => ?_) (fun q => ?_)))
    · rw [if_neg (of_decide_eq_false q)] at h; exact h
    · rw [if_pos (of_decide_eq_true q)] at h; exact h
def s_state (s : st_S) (x y : Int32) : st_O := if m_pg s.1 x y = false then (1, 0, s) else (0, nI (m_stt s.1 (m_id x y)), s)
theorem f_state {B : Nat} {s : st_S} {x y : Int32} {K : Int32 → ab_Z → ab_F → ab_F → Prop} {KX : String → ab_Z → ab_F → ab_F → Prop} {Z : ab_Z} {I A : ab_F} (r : RCs B s Z I A) (o : oC [xIx] B (s_state s x y) K KX) : wX11_pageState (fun v I A => K v Z I A) (fun E I A => KX E Z I A) I A x y := by
  refine c_hasPage r.1.1 r.1.2.1 (dmI (fun e => o.x (c := 0) (by unfold s_state; rw [if_pos e]) rfl (Nat.le_refl _) r) (fun e => ?_))
  obtain ⟨k, hk, ht, ek, ex⟩ := pg_k r.1.2.1 e
  have em := m_id_k ek hk
  unfold wX11_idOf
  rw [ek]
  exact c_stateAt r.1.1 hk (o.k (by unfold s_state; rw [if_neg (by rw [e]; decide), em]) (Nat.le_refl _) r)
theorem r_state {B : Nat} {s : st_S} {x y : Int32} {K : Int32 → ab_F → ab_F → Prop} {I A : ab_F} (r : RMs B s I A) (o : oM B (s_state s x y) K) : wX12_pageState K I A x y := by
  have e1 : A 1 = s.1 := r.1.1
  have iv : Iv B s.1 := r.1.2
  refine q_isNoPage (by rw [e1]; exact iv.1) ?_
  rw [e1]
  refine bb (fun q => ?_) (fun q => ?_)
  · have hl := nb_f q
    obtain ⟨k, hk, ht, ek, ex⟩ := pg_k iv.1 hl
    have em := m_id_k ek hk
    unfold wX12_pageOf
    rw [ek]
    refine q_stateOf (B := B) (by rw [e1]; exact iv) hk ?_
    try rw [e1]
    exact o.k (by unfold s_state; rw [if_neg (by rw [hl]; decide), em]) (Nat.le_refl _) (RM_5 r) (by rw [w5, q]; rfl) rfl
  · have hl := nb_t q
    exact o.x (c := 0) (by unfold s_state; rw [if_pos hl]) (Nat.le_refl _) (RM_5 r) (by rw [w5, q]; rfl)
/-- pages of a process in states lo .. hi -/
def m_pin (w : Nat → Int32) (p lo hi : Nat) : Nat := sb (fun i => decide (lo ≤ m_stt w (8 * p + i) ∧ m_stt w (8 * p + i) ≤ hi)) (m_C w p)
theorem q_pagesIn {K : Int32 → ab_F → ab_F → Prop} {I A : ab_F} {B p lo hi : Nat} (x : Iv B (A 1)) (hp : p < 6) (hlo : lo < 4) (hhi : hi < 4) (h : K (nI (m_pin (A 1) p lo hi)) I A) : wX12_pagesIn K I A (nI p) (nI lo) (nI hi) := by
  have hC := x.1.2.2.2 p hp
  refine lp (W := fun n i => wlX12_pagesIn_6 K n (nI p) (nI lo) (nI hi) (nI (sb (fun i => decide (lo ≤ m_stt (A 1) (8 * p + i) ∧ m_stt (A 1) (8 * p + i) ≤ hi)) i)) (nI i) I A) (e := m_C (A 1) p) (fun n => ?_) (fun n i hi2 hw => ?_)
  · refine ixa (by omega) ?_
    rw [hC.1]
    exact br_t (nI_le (Nat.le_refl _) (by omega)) h
  · refine ixa (by omega) ?_
    rw [hC.1]
    refine br_f (nI_ge hi2 (by omega)) ?_
    rw [nI_mul8, nI_add (8 * p) i]
    refine q_stateOf x (by omega) (q_in ?_)
    have hs := m_stt_lt (A 1) (8 * p + i)
    rw [Int32.toInt_toInt64, Int32.toInt_toInt64, Int32.toInt_toInt64, nI_toInt (by omega), nI_toInt (by omega), nI_toInt (by omega), nI_add i 1]
    rw [sb] at hw
    have ed : decide (((lo : Nat) : Int) ≤ ((m_stt (A 1) (8 * p + i) : Nat) : Int) ∧ ((m_stt (A 1) (8 * p + i) : Nat) : Int) ≤ ((hi : Nat) : Int)) = decide (lo ≤ m_stt (A 1) (8 * p + i) ∧ m_stt (A 1) (8 * p + i) ≤ hi) := by congr 1; apply propext; omega
    rw [ed]
    refine bb (fun q => nm_r (or_0 _) ?_) (fun q => nm_r (or_bit i (by omega) _ (sb_lt i)) ?_)
    · rw [q] at hw; exact hw
    · rw [q] at hw; exact hw
theorem sb_ext {p : Nat → Bool} {n : Nat} : ∀ {m : Nat}, n ≤ m → (∀ i, n ≤ i → i < m → p i = false) → sb p m = sb p n
  | 0, h, _ => by rw [show n = 0 by omega]
  | m + 1, h, hf => by
    by_cases e : n = m + 1
    · rw [e]
    · rw [sb, sb_ext (m := m) (by omega) (fun i a b => hf i a (by omega)), hf m (by omega) (by omega)]; rfl
/-- a page that isn't there is clean -/
theorem th_cl {B : Nat} {w : Nat → Int32} {k : Nat} (x : Iv B w) (hk : k < 48) (h : m_th w k = false) : ¬ w (176 + k) = nI 1 ∧ w (128 + k) = -1 := by
  have hF := x.1.1.2
  have h1 : w (128 + k) = -1 := by
    rcases x.2.1.2 k hk with a | ⟨f, a, b, c⟩
    · exact a
    · have := (Fr_th x.1 x.2.1 hk b (by omega)).1
      rw [h] at this; exact nomatch this
  refine ⟨fun q => ?_, h1⟩
  rcases x.2.2.1 k hk with a | ⟨a, b, -⟩
  · rw [q] at a; exact absurd a (by decide)
  · exact b h1
theorem th_i {w : Nat → Int32} {p i : Nat} (hi : i < 8) : m_th w (8 * p + i) = decide (i < m_C w p) := by
  unfold m_th
  rw [show (8 * p + i) % 8 = i by omega, show (8 * p + i) / 8 = p by omega]
theorem ds_pin {B : Nat} {w : Nat → Int32} {p : Nat} (x : Iv B w) (hp : p < 6) : m_ds w p = m_pin w p 3 3 := by
  have hC := x.1.2.2.2 p hp
  unfold m_ds m_pin
  rw [sb_ext (n := m_C w p) (m := 8) hC.2.1 (fun i a b => decide_eq_false (th_cl x (by omega) (by rw [th_i b]; exact decide_eq_false (by omega))).1)]
  refine sb_congr (fun i hi => ?_)
  have hk : 8 * p + i < 48 := by omega
  congr 1
  apply propext
  unfold m_stt
  rcases x.2.2.1 (8 * p + i) hk with a | ⟨a, b, -⟩
  · rw [a]
    refine ⟨fun q => absurd q (by decide), fun q => ?_⟩
    rw [if_neg (show ¬ nI 0 = nI 1 by decide)] at q
    by_cases h1 : w (128 + (8 * p + i)) = -1
    · rw [if_pos h1] at q
      split at q <;> omega
    · rw [if_neg h1] at q; omega
  · rw [a, if_neg b, if_pos rfl]
    exact ⟨fun _ => by omega, fun _ => rfl⟩
def s_res (s : st_S) (x : Int32) : st_O := if m_lt x (m_P s.1) = false then (1, 0, s) else (0, nI (m_pin s.1 (nn x) 2 3), s)
def s_dir (s : st_S) (x : Int32) : st_O := if m_lt x (m_P s.1) = false then (1, 0, s) else (0, nI (m_pin s.1 (nn x) 3 3), s)
theorem c_resSet {K : Int32 → ab_F → ab_F → Prop} {I A : ab_F} {B p : Nat} {w : Nat → Int32} (r : Rs 8 I A w) (x : Iv B w) (hp : p < 6) (h : K (nI (m_pin w p 2 3)) I A) : wX4_residentSet K I A (nI p) := by
  have hC := x.1.2.2.2 p hp
  have e10 : A 10 p = nI (m_C w p) := ((r.1.1.2.1 p hp).1).trans hC.1
  refine lp (W := fun n i => wlX4_residentSet_4 K n (nI p) (nI (sb (fun i => decide (2 ≤ m_stt w (8 * p + i) ∧ m_stt w (8 * p + i) ≤ 3)) i)) (nI i) I A) (e := m_C w p) (fun n => ?_) (fun n i hi hw => ?_)
  · refine ix0 hp ?_
    rw [e10]
    exact br_t (nI_le (Nat.le_refl _) (by omega)) h
  · refine ix0 hp ?_
    rw [e10]
    refine br_f (nI_ge hi (by omega)) ?_
    have hk : 8 * p + i < 48 := by omega
    unfold wX11_idOf
    rw [nI_mul8, nI_add (8 * p) i]
    refine ix0 hk ?_
    rw [(show A 14 (8 * p + i) = w (128 + (8 * p + i)) from (r.1.1.2.2 (8 * p + i) hk).2.1), nI_add i 1]
    rw [sb] at hw
    by_cases e : w (128 + (8 * p + i)) = -1
    · refine br_t e ?_
      have e2 : decide (2 ≤ m_stt w (8 * p + i) ∧ m_stt w (8 * p + i) ≤ 3) = false := decide_eq_false (by
        unfold m_stt; rw [if_pos e]; split <;> omega)
      rw [e2] at hw; exact hw
    · refine br_f e (nm_r (or_bit i (by omega) _ (sb_lt i)) ?_)
      have e2 : decide (2 ≤ m_stt w (8 * p + i) ∧ m_stt w (8 * p + i) ≤ 3) = true := decide_eq_true (by
        unfold m_stt; rw [if_neg e]; split <;> omega)
      rw [e2] at hw; exact hw
theorem f_res {B : Nat} {s : st_S} {x : Int32} {K : Int32 → ab_Z → ab_F → ab_F → Prop} {KX : String → ab_Z → ab_F → ab_F → Prop} {Z : ab_Z} {I A : ab_F} (r : RCs B s Z I A) (o : oC [xIx] B (s_res s x) K KX) : wX11_residentPages (fun v I A => K v Z I A) (fun E I A => KX E Z I A) I A x := by
  have hP := r.1.2.1.2.2.1.2
  refine c_hasProcess r.1.1 r.1.2.1 (dmI (fun e => o.x (c := 0) (by unfold s_res; rw [if_pos e]) rfl (Nat.le_refl _) r) (fun e => ?_))
  obtain ⟨p, hp, ep⟩ := m_lt_of e
  have en : nn x = p := by rw [ep]; exact nn_nI (by omega)
  rw [ep]
  exact c_resSet r.1.1 r.1.2 (by omega) (o.k (by unfold s_res; rw [if_neg (by rw [e]; decide), en]) (Nat.le_refl _) r)
theorem f_dir {B : Nat} {s : st_S} {x : Int32} {K : Int32 → ab_Z → ab_F → ab_F → Prop} {KX : String → ab_Z → ab_F → ab_F → Prop} {Z : ab_Z} {I A : ab_F} (r : RCs B s Z I A) (o : oC [xIx] B (s_dir s x) K KX) : wX11_dirtyPages (fun v I A => K v Z I A) (fun E I A => KX E Z I A) I A x := by
  have hP := r.1.2.1.2.2.1.2
  refine c_hasProcess r.1.1 r.1.2.1 (dmI (fun e => o.x (c := 0) (by unfold s_dir; rw [if_pos e]) rfl (Nat.le_refl _) r) (fun e => ?_))
  obtain ⟨p, hp, ep⟩ := m_lt_of e
  have en : nn x = p := by rw [ep]; exact nn_nI (by omega)
  refine ⟨p, ep, by omega, ?_⟩
  have ea : A 12 p = nI (m_pin s.1 p 3 3) := ((r.1.1.1.1.2.1 p (by omega)).2.2).trans (by rw [ds_pin r.1.2 (by omega)])
  rw [ea]
  exact o.k (by unfold s_dir; rw [if_neg (by rw [e]; decide), en]) (Nat.le_refl _) r
theorem r_res {B : Nat} {s : st_S} {x : Int32} {K : Int32 → ab_F → ab_F → Prop} {I A : ab_F} (r : RMs B s I A) (o : oM B (s_res s x) K) : wX12_residentPages K I A x := by
  have e1 : A 1 = s.1 := r.1.1
  have iv : Iv B s.1 := r.1.2
  have hP := iv.1.2.2.1.2
  refine q_isNoProcess (by rw [e1]; exact iv.1) ?_
  rw [e1]
  refine bb (fun q => ?_) (fun q => ?_)
  · have hl := nb_f q
    obtain ⟨p, hp, ep⟩ := m_lt_of hl
    have en : nn x = p := by rw [ep]; exact nn_nI (by omega)
    rw [ep]
    refine q_pagesIn (B := B) (lo := 2) (hi := 3) (by rw [e1]; exact iv) (by omega) (by omega) (by omega) ?_
    try rw [e1]
    exact o.k (by unfold s_res; rw [if_neg (by rw [hl]; decide), en]) (Nat.le_refl _) (RM_5 r) (by rw [w5, ← ep, q]; rfl) rfl
  · have hl := nb_t q
    exact o.x (c := 0) (by unfold s_res; rw [if_pos hl]) (Nat.le_refl _) (RM_5 r) (by rw [w5, q]; rfl)
theorem r_dir {B : Nat} {s : st_S} {x : Int32} {K : Int32 → ab_F → ab_F → Prop} {I A : ab_F} (r : RMs B s I A) (o : oM B (s_dir s x) K) : wX12_dirtyPages K I A x := by
  have e1 : A 1 = s.1 := r.1.1
  have iv : Iv B s.1 := r.1.2
  have hP := iv.1.2.2.1.2
  refine q_isNoProcess (by rw [e1]; exact iv.1) ?_
  rw [e1]
  refine bb (fun q => ?_) (fun q => ?_)
  · have hl := nb_f q
    obtain ⟨p, hp, ep⟩ := m_lt_of hl
    have en : nn x = p := by rw [ep]; exact nn_nI (by omega)
    rw [ep]
    refine q_pagesIn (B := B) (lo := 3) (hi := 3) (by rw [e1]; exact iv) (by omega) (by omega) (by omega) ?_
    try rw [e1]
    exact o.k (by unfold s_dir; rw [if_neg (by rw [hl]; decide), en]) (Nat.le_refl _) (RM_5 r) (by rw [w5, ← ep, q]; rfl) rfl
  · have hl := nb_t q
    exact o.x (c := 0) (by unfold s_dir; rw [if_pos hl]) (Nat.le_refl _) (RM_5 r) (by rw [w5, q]; rfl)
/-! a frame's times, the victim -/
def s_ftime (s : st_S) (x y : Int32) : st_O := if m_lt x (m_F s.1) = false then (1, 0, s) else if s.1 (320 + nn x) = -1 then (2, 0, s) else if m_lt y 2 = false then (3, 0, s) else (0, if y = 0 then s.1 (336 + nn x) else s.1 (352 + nn x), s)
theorem m_lt2 {y : Int32} : m_lt y 2 = true ↔ y = 0 ∨ y = nI 1 := by
  constructor
  · intro h
    obtain ⟨j, hj, e⟩ := m_lt_of h
    have : j = 0 ∨ j = 1 := by omega
    rcases this with q | q <;> subst q
    · exact Or.inl e
    · exact Or.inr e
  · intro h
    rcases h with e | e <;> subst e <;> rfl
theorem f_ftime {B : Nat} {s : st_S} {x y : Int32} {K : Int32 → ab_Z → ab_F → ab_F → Prop} {KX : String → ab_Z → ab_F → ab_F → Prop} {Z : ab_Z} {I A : ab_F} (r : RCs B s Z I A) (o : oC [xIx, xEl, xAr] B (s_ftime s x y) K KX) : wX11_frameTime (fun v I A => K v Z I A) (fun E I A => KX E Z I A) I A x y := by
  have hP := r.1.2.1.1.2
  refine c_hasFrame r.1.1 r.1.2.1 (dmI (fun e => o.x (c := 0) (by unfold s_ftime; rw [if_pos e]) rfl (Nat.le_refl _) r) (fun e => ?_))
  obtain ⟨p, hp, ep⟩ := m_lt_of e
  have en : nn x = p := by rw [ep]; exact nn_nI (by omega)
  have h1 : ¬ m_lt x (m_F s.1) = false := by rw [e]; decide
  have e17 : A 17 p = s.1 (320 + p) := (r.1.1.1.2.1.2.2 p (by omega)).1
  have e18 : A 18 p = s.1 (336 + p) := (r.1.1.1.2.1.2.2 p (by omega)).2.1
  have e19 : A 19 p = s.1 (352 + p) := (r.1.1.1.2.1.2.2 p (by omega)).2.2
  refine ⟨p, ep, by omega, ?_⟩
  rw [e17]
  by_cases h2 : s.1 (320 + p) = -1
  · exact br_t h2 (dmE (b := false) (fun _ => o.x (c := 1) (by unfold s_ftime; rw [if_neg h1, en, if_pos h2]) rfl (Nat.le_refl _) r) (fun q => nomatch q))
  · refine br_f h2 (dmE (b := true) (fun q => nomatch q) (fun _ => ?_))
    by_cases h3 : m_lt y 2 = true
    · have eo : s_ftime s x y = (0, if y = 0 then s.1 (336 + p) else s.1 (352 + p), s) := by unfold s_ftime; rw [if_neg h1, en, if_neg h2, if_neg (by rw [h3]; decide)]
      have g : ∀ X : Prop, wjX11_frameTime_52 (fun v I A => K v Z I A) (fun E I A => KX E Z I A) x y (nI 1) I A := fun _ => by
        refine dmA (b := true) (fun q => nomatch q) (fun _ => ?_)
        by_cases h0 : y = 0
        · refine rb_t h0 ⟨p, ep, by omega, ?_⟩
          rw [e18]
          rw [if_pos h0] at eo
          exact o.k eo (Nat.le_refl _) r
        · refine rb_f h0 ⟨p, ep, by omega, ?_⟩
          rw [e19]
          rw [if_neg h0] at eo
          exact o.k eo (Nat.le_refl _) r
      by_cases h0 : y = 0
      · exact br_t h0 (g True)
      · refine br_f h0 (rb_t ?_ (g True))
        rcases m_lt2.mp h3 with q | q
        · exact absurd q h0
        · exact q
    · have h3f := b_f h3
      have n0 : ¬ y = 0 := fun q => h3 (m_lt2.mpr (Or.inl q))
      have n1 : ¬ y = nI 1 := fun q => h3 (m_lt2.mpr (Or.inr q))
      refine br_f n0 (rb_f n1 (dmA (b := false) (fun _ => ?_) (fun q => nomatch q)))
      exact o.x (c := 2) (by unfold s_ftime; rw [if_neg h1, en, if_neg h2, if_pos h3f]) rfl (Nat.le_refl _) r
theorem r_ftime {B : Nat} {s : st_S} {x y : Int32} {K : Int32 → ab_F → ab_F → Prop} {I A : ab_F} (r : RMs B s I A) (o : oM B (s_ftime s x y) K) : wX12_frameTime K I A x y := by
  have e1 : A 1 = s.1 := r.1.1
  have iv : Iv B s.1 := r.1.2
  have hP := iv.1.1.2
  refine q_isNoFrame (by rw [e1]; exact iv.1) ?_
  rw [e1]
  refine bb' (fun q => ?_) (fun q => ?_)
  · have hl := nb_f q
    obtain ⟨p, hp, ep⟩ := m_lt_of hl
    have en : nn x = p := by rw [ep]; exact nn_nI (by omega)
    have h1 : ¬ m_lt x (m_F s.1) = false := by rw [hl]; decide
    refine ixv ep (by omega) ?_
    try rw [e1]
    by_cases h2 : s.1 (320 + p) = -1
    · refine rb_t h2 (q_fails (b := true) (bb' (fun q3 => nomatch q3) (fun _ => ?_)))
      exact o.x (c := 1) (by unfold s_ftime; rw [if_neg h1, en, if_pos h2]) (Nat.le_refl _) (RM_5 (RM_5 r)) w5
    · refine rb_f h2 (q_fails (b := false) (bb' (fun _ => ?_) (fun q3 => nomatch q3)))
      refine q_inN (n := 1) rfl (bb' (fun q3 => ?_) (fun q3 => ?_))
      · refine q_fails (b := true) (bb (fun q4 => nomatch q4) (fun _ => ?_))
        exact o.x (c := 2) (by unfold s_ftime; rw [if_neg h1, en, if_neg h2, if_pos q3]) (Nat.le_refl _) (RM_5 (RM_5 (RM_5 r))) w5
      · have eo : s_ftime s x y = (0, if y = 0 then s.1 (336 + p) else s.1 (352 + p), s) := by unfold s_ftime; rw [if_neg h1, en, if_neg h2, if_neg (by rw [q3]; decide)]
        refine q_fails (b := false) (bb (fun _ => ?_) (fun q4 => nomatch q4))
        by_cases h0 : y = 0
        · refine rb_t h0 (ixv ep (by omega) ?_)
          try rw [e1]
          rw [if_pos h0] at eo
          exact o.k eo (Nat.le_refl _) (RM_5 (RM_5 (RM_5 r))) w5 rfl
        · refine rb_f h0 (ixv ep (by omega) ?_)
          try rw [e1]
          rw [if_neg h0] at eo
          exact o.k eo (Nat.le_refl _) (RM_5 (RM_5 (RM_5 r))) w5 rfl
  · have hl := nb_t q
    exact o.x (c := 0) (by unfold s_ftime; rw [if_pos hl]) (Nat.le_refl _) (RM_5 r) (by rw [w5, q]; rfl)
def s_victim (s : st_S) : st_O := (0, if (m_ff s.1).isNone = true then oI (m_vf s.1) else -1, s)
theorem f_victim {B : Nat} {s : st_S} {K : Int32 → ab_Z → ab_F → ab_F → Prop} {KX : String → ab_Z → ab_F → ab_F → Prop} {Z : ab_Z} {I A : ab_F} (r : RCs B s Z I A) (o : oC [] B (s_victim s) K KX) : wX11_victim (fun v I A => K v Z I A) I A := by
  have g := o.k rfl (Nat.le_refl _) r
  refine c_nextVictim r.1.1 r.1.2.1 r.1.2.2.1 (fun e => ?_) (fun f e => ?_)
  · rw [e] at g; exact g
  · rw [e] at g; exact g
theorem r_victim {B : Nat} {s : st_S} {K : Int32 → ab_F → ab_F → Prop} {I A : ab_F} (r : RMs B s I A) (o : oM B (s_victim s) K) : wX12_victim K I A := by
  have e1 : A 1 = s.1 := r.1.1
  have iv : Iv B s.1 := r.1.2
  refine q_freeFrame (by rw [e1]; exact iv.1) ?_
  rw [e1]
  cases h : m_ff s.1 with
  | none =>
    refine rb_t rfl (q_victimFrame (by rw [e1]; exact iv.1) (by rw [e1]; exact RM_ho iv h) ?_)
    try rw [e1]
    exact o.k rfl (Nat.le_refl _) (RM_5 r) w5 (by rw [h]; rfl)
  | some f =>
    have := m_ff_lt iv.1 f h
    exact rb_f (nI_m1 (by omega)) (o.k rfl (Nat.le_refl _) (RM_5 r) w5 (by rw [h]; rfl))
