/-! sums over processes -/
theorem sm_le {f : Nat → Nat} {c : Nat} (h : ∀ p, f p ≤ c) : ∀ n, sm f n ≤ n * c
  | 0 => by simp [sm]
  | n + 1 => by have := sm_le h n; have := h n; rw [sm, Nat.succ_mul]; omega
def m_dn (w : Nat → Int32) (x : Int32) : Nat := sm (fun p => if m_has x p = true then cn (m_has (nI (m_pin w p 3 3))) 8 else 0) (m_P w)
def m_ln (w : Nat → Int32) (x : Int32) : Nat := sm (fun p => if m_has x p = true then cn (m_has (nI (m_los w p))) 8 else 0) (m_P w)
theorem dn_le {w : Nat → Int32} {x : Int32} (z : Sz w) : m_dn w x ≤ 48 := by
  have hP := z.2.2.1.2
  have := sm_le (f := fun p => if m_has x p = true then cn (m_has (nI (m_pin w p 3 3))) 8 else 0) (c := 8) (fun p => by
    show (if _ then _ else _) ≤ 8
    split
    · exact cn_le 8
    · omega) (m_P w)
  unfold m_dn; omega
theorem ln_le {w : Nat → Int32} {x : Int32} (z : Sz w) : m_ln w x ≤ 48 := by
  have hP := z.2.2.1.2
  have := sm_le (f := fun p => if m_has x p = true then cn (m_has (nI (m_los w p))) 8 else 0) (c := 8) (fun p => by
    show (if _ then _ else _) ≤ 8
    split
    · exact cn_le 8
    · omega) (m_P w)
  unfold m_ln; omega
theorem q_dirtyIn {K : Int32 → ab_F → ab_F → Prop} {I A : ab_F} {B : Nat} {x : Int32} (iv : Iv B (A 1)) (h : K (nI (m_dn (A 1) x)) I A) : wX12_dirtyIn K I A x := by
  have hP := iv.1.2.2.1.2
  refine lp (W := fun n i => wlX12_dirtyIn_4 K n x (nI (sm (fun p => if m_has x p = true then cn (m_has (nI (m_pin (A 1) p 3 3))) 8 else 0) i)) (nI i) I A) (e := m_P (A 1)) (fun n => ?_) (fun n i hi hw => ?_)
  · exact br_t (by rw [iv.1.2.2.1.1]; exact nI_le (Nat.le_refl _) (by omega)) h
  · refine br_f (by rw [iv.1.2.2.1.1]; exact nI_ge hi (by omega)) (q_has ?_)
    rw [sm] at hw
    refine bb (fun q => nm_r (nI_add _ 0) ?_) (fun q => ?_)
    · rw [if_neg (by rw [q]; decide)] at hw
      rw [nI_add i 1]; exact hw
    · rw [if_pos q] at hw
      refine q_pagesIn (lo := 3) (hi := 3) iv (by omega) (by omega) (by omega) (q_size (nm_r (nI_add _ _) ?_))
      rw [nI_add i 1]; exact hw
theorem q_lostIn {K : Int32 → ab_F → ab_F → Prop} {I A : ab_F} {B : Nat} {x : Int32} (iv : Iv B (A 1)) (h : K (nI (m_ln (A 1) x)) I A) : wX12_lostIn K I A x := by
  have hP := iv.1.2.2.1.2
  refine lp (W := fun n i => wlX12_lostIn_4 K n x (nI (sm (fun p => if m_has x p = true then cn (m_has (nI (m_los (A 1) p))) 8 else 0) i)) (nI i) I A) (e := m_P (A 1)) (fun n => ?_) (fun n i hi hw => ?_)
  · exact br_t (by rw [iv.1.2.2.1.1]; exact nI_le (Nat.le_refl _) (by omega)) h
  · refine br_f (by rw [iv.1.2.2.1.1]; exact nI_ge hi (by omega)) (q_has ?_)
    rw [sm] at hw
    refine bb (fun q => nm_r (nI_add _ 0) ?_) (fun q => ?_)
    · rw [if_neg (by rw [q]; decide)] at hw
      rw [nI_add i 1]; exact hw
    · rw [if_pos q] at hw
      refine q_lostOf iv.1 iv.2.2.2.2.1 (by omega) (q_size (nm_r (nI_add _ _) ?_))
      rw [nI_add i 1]; exact hw
theorem c_countDirty {K : Int32 → ab_F → ab_F → Prop} {I A : ab_F} {B b : Nat} {w : Nat → Int32} (r : Rs 8 I A w) (iv : Iv B w) (hb : b < 64) (h : K (nI (m_dn w (nI b))) I A) : wX4_countDirty K I A (nI b) := by
  have hP := iv.1.2.2.1.2
  have e9 : I 9 0 = nI (m_P w) := (r.1.1.1).trans iv.1.2.2.1.1
  refine lp (W := fun n i => wlX4_countDirty_4 K n (nI b) (nI (sm (fun p => if m_has (nI b) p = true then cn (m_has (nI (m_pin w p 3 3))) 8 else 0) i)) (nI i) I A) (e := m_P w) (fun n => ?_) (fun n i hi hw => ?_)
  · exact br_t (by rw [e9]; exact nI_le (Nat.le_refl _) (by omega)) h
  · refine br_f (by rw [e9]; exact nI_ge hi (by omega)) ?_
    rw [has_cv b hb i (by omega)]
    rw [sm] at hw
    by_cases q : m_has (nI b) i = true
    · rw [if_pos q] at hw
      refine br_f (by rw [q]; decide) (ix0 (by omega) ?_)
      have e12 : A 12 i = nI (m_pin w i 3 3) := ((r.1.1.2.1 i (by omega)).2.2).trans (by rw [ds_pin iv (by omega)])
      have hl : m_pin w i 3 3 < 256 := by rw [← ds_pin iv (by omega)]; exact ds_lt w i
      rw [e12]
      refine c_bitCount hl (nm_r (nI_add _ _) ?_)
      rw [nI_add i 1]; exact hw
    · rw [if_neg q] at hw
      refine br_t (b_f q) ?_
      rw [nI_add i 1]; exact hw
theorem los_lt {B : Nat} {w : Nat → Int32} {p : Nat} (iv : Iv B w) (hp : p < 6) : m_los w p < 256 := by
  have hC := (iv.1.2.2.2 p hp).2.1
  unfold m_los
  exact Nat.lt_of_lt_of_le (sb_lt _) (Nat.pow_le_pow_right (n := 2) (by omega) hC)
theorem c_countLost {K : Int32 → ab_F → ab_F → Prop} {I A : ab_F} {B b : Nat} {w : Nat → Int32} (r : Rs 8 I A w) (iv : Iv B w) (hb : b < 64) (h : K (nI (m_ln w (nI b))) I A) : wX8_countLost K I A (nI b) := by
  have hP := iv.1.2.2.1.2
  have e9 : I 9 0 = nI (m_P w) := (r.1.1.1).trans iv.1.2.2.1.1
  refine lp (W := fun n i => wlX8_countLost_4 K n (nI b) (nI (sm (fun p => if m_has (nI b) p = true then cn (m_has (nI (m_los w p))) 8 else 0) i)) (nI i) I A) (e := m_P w) (fun n => ?_) (fun n i hi hw => ?_)
  · exact br_t (by rw [e9]; exact nI_le (Nat.le_refl _) (by omega)) h
  · refine br_f (by rw [e9]; exact nI_ge hi (by omega)) ?_
    rw [has_cv b hb i (by omega)]
    rw [sm] at hw
    by_cases q : m_has (nI b) i = true
    · rw [if_pos q] at hw
      refine br_f (by rw [q]; decide) (c_lostSet r iv (by omega) (c_bitCount (los_lt iv (by omega)) (nm_r (nI_add _ _) ?_)))
      rw [nI_add i 1]; exact hw
    · rw [if_neg q] at hw
      refine br_t (b_f q) ?_
      rw [nI_add i 1]; exact hw
def s_wW (s : st_S) (x : Int32) : st_O := if m_set s.1 x = false then (1, 0, s) else (0, nI (m_dn s.1 x), s)
theorem f_wW {B : Nat} {s : st_S} {x : Int32} {K : Int32 → ab_Z → ab_F → ab_F → Prop} {KX : String → ab_Z → ab_F → ab_F → Prop} {Z : ab_Z} {I A : ab_F} (r : RCs B s Z I A) (o : oC [xAr] B (s_wW s x) K KX) : wX11_wouldWrite (fun v I A => K v Z I A) (fun E I A => KX E Z I A) I A x := by
  refine c_isSet r.1.1 r.1.2.1 (dmA (fun e => o.x (c := 0) (by unfold s_wW; rw [if_pos e]) rfl (Nat.le_refl _) r) (fun e => ?_))
  obtain ⟨b, hb, hb0, eb, h64⟩ := m_set_of r.1.2.1 e
  have eo : s_wW s x = (0, nI (m_dn s.1 x), s) := by unfold s_wW; rw [if_neg (by rw [e]; decide)]
  have g := o.k eo (Nat.le_refl _) r
  rw [eb] at g ⊢
  exact c_countDirty r.1.1 r.1.2 h64 g
theorem r_wW {B : Nat} {s : st_S} {x : Int32} {K : Int32 → ab_F → ab_F → Prop} {I A : ab_F} (r : RMs B s I A) (o : oM B (s_wW s x) K) : wX12_wouldWrite K I A x := by
  have e1 : A 1 = s.1 := r.1.1
  have iv : Iv B s.1 := r.1.2
  refine q_isNoSet (by rw [e1]; exact iv.1) (q_fails ?_)
  rw [e1]
  refine bb (fun q => ?_) (fun q => ?_)
  · have hl := nb_f q
    rw [q]
    refine q_dirtyIn (B := B) (by rw [e1]; exact iv) ?_
    rw [e1]
    exact o.k (by unfold s_wW; rw [if_neg (by rw [hl]; decide)]) (Nat.le_refl _) (RM_5 r) w5 rfl
  · have hl := nb_t q
    exact o.x (c := 0) (by unfold s_wW; rw [if_pos hl]) (Nat.le_refl _) (RM_5 r) (by rw [w5, q]; rfl)
/-! what a commit would free -/
def m_wf (w : Nat → Int32) (x : Int32) (k : Nat) : Bool := m_th w k && (m_has x (k / 8) && (!decide (w (26 + k / 8) = -1) && (!decide (w (272 + k) = -1) && decide (m_use w (w (272 + k)) = 2))))
def s_wF (s : st_S) (x : Int32) : st_O := if m_set s.1 x = false then (1, 0, s) else if s.1 10 = 0 then (0, nI (cn (m_wf s.1 x) 48), s) else (2, 0, s)
theorem nI_2 {n : Nat} (h : n < 8) : nI n = nI 2 ↔ n = 2 := nI_eq (by omega) (by omega)
theorem c_freedBy {K : Int32 → ab_F → ab_F → Prop} {I A : ab_F} {B b : Nat} {w : Nat → Int32} (r : Rs 8 I A w) (iv : Iv B w) (hb : b < 64) (h : K (nI (cn (m_wf w (nI b)) 48)) I (um A w)) : wX8_countFreedBy K I A (nI b) := by
  have hS := iv.1.2.1.2
  refine c_markUses r iv ?_
  have e27 : ∀ k, k < 48 → um A w 27 k = w (272 + k) := fun k hk => by rw [um_ne (by decide)]; exact (r.2.1.2.2.1 k hk).2
  refine lp (W := fun n i => wlX8_countFreedBy_9 K n (nI b) (nI (cn (m_wf w (nI b)) i)) (nI i) I (um A w)) (e := 48) (fun n => ?_) (fun n i hi hw => ?_)
  · exact br_t (nI_le (Nat.le_refl _) (by omega)) h
  · refine br_f (nI_ge hi (by omega)) (ix0 hi (nm_r (e27 i hi) ?_))
    rw [pk_div (by omega) (by omega) (by omega), has_cv b hb (i / 8) (by omega)]
    rw [cn] at hw
    unfold m_wf at hw
    by_cases q : m_has (nI b) (i / 8) = true
    · refine br_f (by rw [q]; decide) (br_f (by decide) ?_)
      rw [q, Bool.true_and] at hw
      rcases iv.2.2.2.2.1 i hi with a | ⟨t, a1, a2, a3, a4⟩
      · refine br_t a ?_
        rw [a, decide_eq_true rfl, Bool.not_true, Bool.false_and, Bool.and_false, Bool.and_false] at hw
        rw [nI_add i 1]; exact hw
      · rw [a2, decide_eq_false a4, a3, decide_eq_false (nI_m1 (by omega)), Bool.not_false, Bool.true_and, Bool.true_and, Bool.true_and] at hw
        rw [a2]
        refine br_f (nI_m1 (by omega)) (ix0 (by omega) ?_)
        rw [show um A w 31 t = nI (m_use w (nI t)) from ur_31 (by omega), nI_2 (m_use_lt w (nI t))]
        by_cases q2 : m_use w (nI t) = 2
        · refine rb_t q2 ?_
          rw [decide_eq_true q2] at hw
          rw [nI_add _ 1, nI_add i 1]; exact hw
        · refine rb_f q2 ?_
          rw [decide_eq_false q2] at hw
          rw [nI_add i 1]; exact hw
    · refine br_t (b_f q) (br_t rfl ?_)
      rw [b_f q, Bool.false_and, Bool.and_false] at hw
      rw [nI_add i 1]; exact hw
theorem f_wF {B : Nat} {s : st_S} {x : Int32} {K : Int32 → ab_Z → ab_F → ab_F → Prop} {KX : String → ab_Z → ab_F → ab_F → Prop} {Z : ab_Z} {I A : ab_F} (r : RCs B s Z I A) (o : oC [xAr, xSt] B (s_wF s x) K KX) : wX11_wouldFree (fun v I A => K v Z I A) (fun E I A => KX E Z I A) I A x := by
  refine c_refStart r.1.1 r.1.2.1 ?_
  by_cases e : m_set s.1 x = false
  · rw [if_pos e]
    exact dm2 (o.x (c := 0) (by unfold s_wF; rw [if_pos e]) rfl (Nat.le_refl _) r)
  · rw [if_neg e]
    by_cases q : s.1 10 = 0
    · rw [if_pos q]
      have e' : m_set s.1 x = true := by cases h : m_set s.1 x with
        | true => rfl
        | false => exact absurd h e
      obtain ⟨b, hb, hb0, eb, h64⟩ := m_set_of r.1.2.1 e'
      have eo : s_wF s x = (0, nI (cn (m_wf s.1 x) 48), s) := by unfold s_wF; rw [if_neg e, if_pos q]
      have g := o.k eo (Nat.le_refl _) (f_useX r)
      refine dm0 ?_
      rw [eb] at g ⊢
      exact c_freedBy r.1.1 r.1.2 h64 g
    · rw [if_neg q]
      exact dm3 (o.x (c := 1) (by unfold s_wF; rw [if_neg e, if_neg q]) rfl (Nat.le_refl _) r)
theorem q_wf {K : Int32 → ab_F → ab_F → Prop} {I A : ab_F} {B : Nat} {x : Int32} (iv : Iv B (A 1)) (h : K (nI (cn (m_wf (A 1) x) 48)) I A) : ∃ n, wlX12_wouldFree_42 K n x (nI 0) (nI 0) I A := by
  refine lp (W := fun n i => wlX12_wouldFree_42 K n x (nI (cn (m_wf (A 1) x) i)) (nI i) I A) (e := 48) (fun n => ?_) (fun n i hi hw => ?_)
  · exact br_t (nI_le (Nat.le_refl _) (by omega)) h
  · refine br_f (nI_ge hi (by omega)) (q_isThere iv.1 hi ?_)
    rw [cn] at hw
    have no : m_wf (A 1) x i = false → wjX12_wouldFree_101 K (wlX12_wouldFree_42 K n) x (nI (cn (m_wf (A 1) x) i)) (nI i) I A := by
      intro hf
      rw [hf] at hw
      refine br_t rfl (nm_r (nI_add _ 0) ?_)
      rw [nI_add i 1]; exact hw
    unfold m_wf at no hw
    refine bb (fun q => no (by rw [q, Bool.false_and])) (fun q => ?_)
    rw [pk_div (by omega) (by omega) (by omega)]
    refine q_has (bb (fun q2 => no (by rw [q2, Bool.false_and, Bool.and_false])) (fun q2 => ixa (by omega) ?_))
    by_cases h1 : A 1 (26 + i / 8) = -1
    · exact br_t h1 (no (by rw [decide_eq_true h1, Bool.not_true, Bool.false_and, Bool.and_false, Bool.and_false]))
    · refine br_f h1 (ixa (by omega) ?_)
      by_cases h2 : A 1 (272 + i) = -1
      · exact br_t h2 (no (by rw [decide_eq_true h2, Bool.not_true, Bool.false_and, Bool.and_false, Bool.and_false, Bool.and_false]))
      · refine br_f h2 (br_f (by decide) (ixa (by omega) (q_useOf iv.1 ?_)))
        rw [q, q2, decide_eq_false h1, decide_eq_false h2, Bool.not_false, Bool.true_and, Bool.true_and, Bool.true_and, Bool.true_and] at hw
        rw [nI_2 (m_use_lt (A 1) (A 1 (272 + i)))]
        by_cases q3 : m_use (A 1) (A 1 (272 + i)) = 2
        · refine rb_t q3 (nm_r (nI_add _ 1) ?_)
          rw [decide_eq_true q3] at hw
          rw [nI_add i 1]; exact hw
        · refine rb_f q3 (nm_r (nI_add _ 0) ?_)
          rw [decide_eq_false q3] at hw
          rw [nI_add i 1]; exact hw
theorem r_wF {B : Nat} {s : st_S} {x : Int32} {K : Int32 → ab_F → ab_F → Prop} {I A : ab_F} (r : RMs B s I A) (o : oM B (s_wF s x) K) : wX12_wouldFree K I A x := by
  have e1 : A 1 = s.1 := r.1.1
  have iv : Iv B s.1 := r.1.2
  refine q_isNoSet (by rw [e1]; exact iv.1) (q_fails ?_)
  rw [e1]
  refine bb' (fun q => ?_) (fun q => ?_)
  · have hl := nb_f q
    by_cases q2 : s.1 10 = 0
    · refine br_t q2 (q_fails (b := false) (bb (fun _ => q_wf (B := B) (by rw [e1]; exact iv) ?_) (fun q3 => nomatch q3)))
      rw [e1]
      exact o.k (by unfold s_wF; rw [if_neg (by rw [hl]; decide), if_pos q2]) (Nat.le_refl _) (RM_5 (RM_5 r)) w5 rfl
    · refine br_f q2 (q_fails (b := true) (bb (fun q3 => nomatch q3) (fun _ => ?_)))
      exact o.x (c := 1) (by unfold s_wF; rw [if_neg (by rw [hl]; decide), if_neg q2]) (Nat.le_refl _) (RM_5 (RM_5 r)) w5
  · have hl := nb_t q
    exact o.x (c := 0) (by unfold s_wF; rw [if_pos hl]) (Nat.le_refl _) (RM_5 r) (by rw [w5, q]; rfl)
