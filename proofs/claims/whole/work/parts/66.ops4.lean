/-! slots -/
theorem f_useX {B : Nat} {s : st_S} {Z : ab_Z} {I A : ab_F} (r : RCs B s Z I A) : RCs B s Z I (um A s.1) := RC_k r (Kc_u _)
def s_use (s : st_S) (x : Int32) : st_O := if m_lt x (m_S s.1) = false then (1, 0, s) else (0, nI (m_use s.1 x), s)
theorem f_use {B : Nat} {s : st_S} {x : Int32} {K : Int32 → ab_Z → ab_F → ab_F → Prop} {KX : String → ab_Z → ab_F → ab_F → Prop} {Z : ab_Z} {I A : ab_F} (r : RCs B s Z I A) (o : oC [xIx] B (s_use s x) K KX) : wX11_slotUse (fun v I A => K v Z I A) (fun E I A => KX E Z I A) I A x := by
  have hP := r.1.2.1.2.1.2
  refine c_hasSlot r.1.1 r.1.2.1 (dmI (fun e => o.x (c := 0) (by unfold s_use; rw [if_pos e]) rfl (Nat.le_refl _) r) (fun e => ?_))
  obtain ⟨p, hp, ep⟩ := m_lt_of e
  refine c_markUses r.1.1 r.1.2 ⟨p, ep, by omega, ?_⟩
  rw [ur_31 (by omega), ← ep]
  exact o.k (by unfold s_use; rw [if_neg (by rw [e]; decide)]) (Nat.le_refl _) (f_useX r)
theorem r_use {B : Nat} {s : st_S} {x : Int32} {K : Int32 → ab_F → ab_F → Prop} {I A : ab_F} (r : RMs B s I A) (o : oM B (s_use s x) K) : wX12_slotUse K I A x := by
  have e1 : A 1 = s.1 := r.1.1
  have iv : Iv B s.1 := r.1.2
  refine q_isNoSlot (by rw [e1]; exact iv.1) ?_
  rw [e1]
  refine bb (fun q => ?_) (fun q => ?_)
  · have hl := nb_f q
    refine q_useOf (by rw [e1]; exact iv.1) ?_
    rw [e1]
    exact o.k (by unfold s_use; rw [if_neg (by rw [hl]; decide)]) (Nat.le_refl _) (RM_5 r) (by rw [w5, q]; rfl) rfl
  · have hl := nb_t q
    exact o.x (c := 0) (by unfold s_use; rw [if_pos hl]) (Nat.le_refl _) (RM_5 r) (by rw [w5, q]; rfl)
def s_next (s : st_S) : st_O := (0, oI (m_nf s.1), s)
theorem f_next {B : Nat} {s : st_S} {K : Int32 → ab_Z → ab_F → ab_F → Prop} {KX : String → ab_Z → ab_F → ab_F → Prop} {Z : ab_Z} {I A : ab_F} (r : RCs B s Z I A) (o : oC [] B (s_next s) K KX) : wX11_nextSlot (fun v I A => K v Z I A) I A :=
  c_nextFree r.1.1 r.1.2 (o.k rfl (Nat.le_refl _) (f_useX r))
theorem r_next {B : Nat} {s : st_S} {K : Int32 → ab_F → ab_F → Prop} {I A : ab_F} (r : RMs B s I A) (o : oM B (s_next s) K) : wX12_nextSlot K I A := by
  have e1 : A 1 = s.1 := r.1.1
  refine q_nextFree (by rw [e1]; exact r.1.2.1) ?_
  rw [e1]
  exact o.k rfl (Nat.le_refl _) (RM_5 r) w5 rfl
def s_free (s : st_S) : st_O := (0, nI (m_free s.1), s)
theorem f_free {B : Nat} {s : st_S} {K : Int32 → ab_Z → ab_F → ab_F → Prop} {KX : String → ab_Z → ab_F → ab_F → Prop} {Z : ab_Z} {I A : ab_F} (r : RCs B s Z I A) (o : oC [] B (s_free s) K KX) : wX11_freeSlots (fun v I A => K v Z I A) I A :=
  c_countFree r.1.1 r.1.2 (o.k rfl (Nat.le_refl _) (f_useX r))
theorem r_free {B : Nat} {s : st_S} {K : Int32 → ab_F → ab_F → Prop} {I A : ab_F} (r : RMs B s I A) (o : oM B (s_free s) K) : wX12_freeSlots K I A := by
  have e1 : A 1 = s.1 := r.1.1
  refine q_freeCount (by rw [e1]; exact r.1.2.1) ?_
  rw [e1]
  exact o.k rfl (Nat.le_refl _) (RM_5 r) w5 rfl
/-! counted bits -/
def bcE (x : Int32) : Int32 :=
  let a := x - (((x.toUInt32 >>> ((nI 1).toUInt32 &&& Int32.toUInt32 31)).toInt32) &&& (nI 1431655765))
  let b := (a &&& (nI 858993459)) + (((a.toUInt32 >>> ((nI 2).toUInt32 &&& Int32.toUInt32 31)).toInt32) &&& (nI 858993459))
  let c := (b + ((b.toUInt32 >>> ((nI 4).toUInt32 &&& Int32.toUInt32 31)).toInt32)) &&& (nI 252645135)
  let d := c + ((c.toUInt32 >>> ((nI 8).toUInt32 &&& Int32.toUInt32 31)).toInt32)
  let e := d + ((d.toUInt32 >>> ((nI 16).toUInt32 &&& Int32.toUInt32 31)).toInt32)
  e &&& (nI 63)
theorem bc_cv : ∀ b, b < 256 → bcE (nI b) = nI (cn (m_has (nI b)) 8) := by decide +kernel
theorem c_bitCount {K : Int32 → ab_F → ab_F → Prop} {I A : ab_F} {b : Nat} (hb : b < 256) (h : K (nI (cn (m_has (nI b)) 8)) I A) : wJ6_bitCount_0f7a4 K I A (nI b) := by
  intro y1 e1 y2 e2 y3 e3 y4 e4 y5 e5
  have e : y5 &&& nI 63 = bcE (nI b) := by rw [e5, e4, e3, e2, e1]; rfl
  rw [e, bc_cv b hb]
  exact h
def m_shr (w : Nat → Int32) : Nat := cn (fun t => decide (1 < cn (m_has (nI (m_use w (nI t)))) 8)) (m_S w)
def s_shared (s : st_S) : st_O := (0, nI (m_shr s.1), s)
theorem f_shared {B : Nat} {s : st_S} {K : Int32 → ab_Z → ab_F → ab_F → Prop} {KX : String → ab_Z → ab_F → ab_F → Prop} {Z : ab_Z} {I A : ab_F} (r : RCs B s Z I A) (o : oC [] B (s_shared s) K KX) : wX11_sharedSlots (fun v I A => K v Z I A) I A := by
  have z := r.1.2.1
  have hS := z.2.1.2
  have e0 : I 20 0 = nI (m_S s.1) := r.1.1.1.2.2.1.trans z.2.1.1
  have g := o.k rfl (Nat.le_refl _) (f_useX r)
  refine c_markUses r.1.1 r.1.2 ?_
  refine lp (W := fun n i => wlX8_countShared_9 (fun v I A => K v Z I A) n (nI (cn (fun t => decide (1 < cn (m_has (nI (m_use s.1 (nI t)))) 8)) i)) (nI i) I (um A s.1)) (e := m_S s.1) (fun n => ?_) (fun n i hi hw => ?_)
  · exact br_t (by rw [e0]; exact nI_le (Nat.le_refl _) (by omega)) g
  · refine br_f (by rw [e0]; exact nI_ge hi (by omega)) (ix0 (by omega) ?_)
    rw [show um A s.1 31 i = nI (m_use s.1 (nI i)) from ur_31 (by omega)]
    have hu := m_use_lt s.1 (nI i)
    refine c_bitCount (by omega) ?_
    have hl := cn_le (p := m_has (nI (m_use s.1 (nI i)))) 8
    rw [cn] at hw
    rw [nI_leI (by omega) (by omega)]
    by_cases q : cn (m_has (nI (m_use s.1 (nI i)))) 8 ≤ 1
    · refine br_t q ?_
      rw [decide_eq_false (by omega)] at hw
      rw [nI_add i 1]; exact hw
    · refine br_f q ?_
      rw [decide_eq_true (by omega)] at hw
      rw [nI_add _ 1, nI_add i 1]; exact hw
theorem r_shared {B : Nat} {s : st_S} {K : Int32 → ab_F → ab_F → Prop} {I A : ab_F} (r : RMs B s I A) (o : oM B (s_shared s) K) : wX12_sharedSlots K I A := by
  have e1 : A 1 = s.1 := r.1.1
  have iv : Iv B s.1 := r.1.2
  have hS := iv.1.2.1.2
  have g := o.k rfl (Nat.le_refl _) (RM_5 (v := nI 0) r) w5 rfl
  refine lp (W := fun n i => wlX12_sharedSlots_9 K n (nI (cn (fun t => decide (1 < cn (m_has (nI (m_use s.1 (nI t)))) 8)) i)) (nI i) (wr I 0 5 (nI 0)) A) (e := m_S s.1) (fun n => ?_) (fun n i hi hw => ?_)
  · exact br_t (by rw [e1, iv.1.2.1.1]; exact nI_le (Nat.le_refl _) (by omega)) g
  · refine br_f (by rw [e1, iv.1.2.1.1]; exact nI_ge hi (by omega)) (q_useOf (by rw [e1]; exact iv.1) (q_size ?_))
    rw [e1]
    have hl := cn_le (p := m_has (nI (m_use s.1 (nI i)))) 8
    rw [cn] at hw
    rw [nI_leI (by omega) (by omega)]
    by_cases q : cn (m_has (nI (m_use s.1 (nI i)))) 8 ≤ 1
    · refine br_t q (nm_r (nI_add _ 0) ?_)
      rw [decide_eq_false (by omega)] at hw
      rw [nI_add i 1]; exact hw
    · refine br_f q (nm_r (nI_add _ 1) ?_)
      rw [decide_eq_true (by omega)] at hw
      rw [nI_add i 1]; exact hw
/-! the longest run of free slots -/
def m_run (w : Nat → Int32) : Nat → Nat × Nat
  | 0 => (0, 0)
  | n + 1 => (max (m_run w n).1 (if m_fr w n = true then (m_run w n).2 + 1 else 0), if m_fr w n = true then (m_run w n).2 + 1 else 0)
theorem m_run_le (w : Nat → Int32) : ∀ n, (m_run w n).1 ≤ n ∧ (m_run w n).2 ≤ n
  | 0 => ⟨Nat.le_refl 0, Nat.le_refl 0⟩
  | n + 1 => by
    have h := m_run_le w n
    have h2 : (if m_fr w n = true then (m_run w n).2 + 1 else 0) ≤ n + 1 := by
      by_cases q : m_fr w n = true
      · rw [if_pos q]; exact Nat.succ_le_succ h.2
      · rw [if_neg q]; exact Nat.zero_le _
    exact ⟨Nat.max_le.mpr ⟨Nat.le_succ_of_le h.1, h2⟩, h2⟩
theorem mx_n {a b : Nat} (ha : a < 2 ^ 31) (hb : b < 2 ^ 31) : (if nI a < nI b then nI b else nI a) = nI (max a b) := by
  by_cases h : a < b
  · rw [if_pos ((nI_ltI ha hb).mpr h), show max a b = b by omega]
  · rw [if_neg (fun q => h ((nI_ltI ha hb).mp q)), show max a b = a by omega]
def s_run (s : st_S) : st_O := (0, nI (m_run s.1 (m_S s.1)).1, s)
theorem f_run {B : Nat} {s : st_S} {K : Int32 → ab_Z → ab_F → ab_F → Prop} {KX : String → ab_Z → ab_F → ab_F → Prop} {Z : ab_Z} {I A : ab_F} (r : RCs B s Z I A) (o : oC [] B (s_run s) K KX) : wX11_longestRun (fun v I A => K v Z I A) I A := by
  have z := r.1.2.1
  have hS := z.2.1.2
  have e0 : I 20 0 = nI (m_S s.1) := r.1.1.1.2.2.1.trans z.2.1.1
  have g := o.k rfl (Nat.le_refl _) (f_useX r)
  refine c_markUses r.1.1 r.1.2 ?_
  refine lp (W := fun n i => wlX8_longestFreeRun_11 (fun v I A => K v Z I A) n (nI (m_run s.1 i).1) (nI (m_run s.1 i).2) (nI i) I (um A s.1)) (e := m_S s.1) (fun n => ?_) (fun n i hi hw => ?_)
  · exact br_t (by rw [e0]; exact nI_le (Nat.le_refl _) (by omega)) g
  · refine br_f (by rw [e0]; exact nI_ge hi (by omega)) (ix0 (by omega) ?_)
    rw [show um A s.1 31 i = nI (m_use s.1 (nI i)) from ur_31 (by omega)]
    have hm := m_run_le s.1 i
    rw [m_run] at hw
    refine fr0 (fun e => nm_r (e' := nI (max (m_run s.1 i).1 ((m_run s.1 i).2 + 1))) ?_ ?_) (fun e => nm_r (e' := nI (max (m_run s.1 i).1 0)) ?_ ?_)
    · rw [nI_add _ 1]; exact mx_n (by omega) (by omega)
    · rw [e] at hw
      rw [nI_add _ 1, nI_add i 1]; exact hw
    · exact mx_n (by omega) (by omega)
    · rw [e] at hw
      rw [nI_add i 1]; exact hw
theorem r_run {B : Nat} {s : st_S} {K : Int32 → ab_F → ab_F → Prop} {I A : ab_F} (r : RMs B s I A) (o : oM B (s_run s) K) : wX12_longestRun K I A := by
  have e1 : A 1 = s.1 := r.1.1
  have iv : Iv B s.1 := r.1.2
  have hS := iv.1.2.1.2
  have g := o.k rfl (Nat.le_refl _) (RM_5 (v := nI 0) r) w5 rfl
  refine lp (W := fun n i => wlX12_longestRun_11 K n (nI (m_run s.1 i).1) (nI (m_run s.1 i).2) (nI i) (wr I 0 5 (nI 0)) A) (e := m_S s.1) (fun n => ?_) (fun n i hi hw => ?_)
  · exact br_t (by rw [e1, iv.1.2.1.1]; exact nI_le (Nat.le_refl _) (by omega)) g
  · refine br_f (by rw [e1, iv.1.2.1.1]; exact nI_ge hi (by omega)) (q_useOf (by rw [e1]; exact iv.1) ?_)
    rw [e1]
    have hm := m_run_le s.1 i
    rw [m_run] at hw
    refine fr0 (fun e => nm_r (e' := nI (max (m_run s.1 i).1 ((m_run s.1 i).2 + 1))) ?_ ?_) (fun e => nm_r (e' := nI (max (m_run s.1 i).1 0)) ?_ ?_)
    · rw [nI_add _ 1]; exact mx_n (by omega) (by omega)
    · rw [e] at hw
      rw [nI_add _ 1, nI_add i 1]; exact hw
    · exact mx_n (by omega) (by omega)
    · rw [e] at hw
      rw [nI_add i 1]; exact hw
/-! twins -/
def m_tw (w : Nat → Int32) (t : Nat) (i : Nat) : Bool := decide (w (368 + i) = w (368 + t)) && !m_fr w i
def s_twins (s : st_S) (x : Int32) : st_O := if m_lt x (m_S s.1) = false then (1, 0, s) else if m_fr s.1 (nn x) = true then (2, 0, s) else (0, nI (cn (fun i => m_tw s.1 (nn x) i && !decide (i = nn x)) (m_S s.1)), s)
theorem c_twins {K : Int32 → ab_F → ab_F → Prop} {I A : ab_F} {B t : Nat} {w : Nat → Int32} (r : Rs 8 I A w) (x : Iv B w) (ht : t < m_S w) (h : ∀ u, K (nI (cn (fun i => m_tw w t i && !decide (i = t)) (m_S w))) I (wrow A 31 u)) : wX8_countTwins K I A (nI t) := by
  have z := x.1
  have hS := z.2.1.2
  have e0 : I 20 0 = nI (m_S w) := r.1.2.2.1.trans z.2.1.1
  refine c_markUses r x ?_
  refine lp (W := fun n i => wlX8_countTwins_9 K n (nI t) (nI (cn (fun i => m_tw w t i && !decide (i = t)) i)) (nI i) I (um A w)) (e := m_S w) (fun n => ?_) (fun n i hi hw => ?_)
  · exact br_t (by rw [e0]; exact nI_le (Nat.le_refl _) (by omega)) (h _)
  · refine br_f (by rw [e0]; exact nI_ge hi (by omega)) (ix0 (by omega) (ix0 (by omega) ?_))
    have e21 : ∀ j, j < 48 → um A w 21 j = w (368 + j) := fun j hj => by rw [um_ne (by decide)]; exact (r.1.2.2.2.2 j hj).1
    rw [e21 i (by omega), e21 t (by omega)]
    rw [cn] at hw
    have fin : ∀ (b : Bool) (v : Int32), v = bI b → b = decide (w (368 + i) = w (368 + t)) → wjX8_countTwins_46 K (wlX8_countTwins_9 K n) (nI t) (nI (cn (fun i => m_tw w t i && !decide (i = t)) i)) (nI i) v I (um A w) := by
      intro b v hv hb
      subst hv
      unfold m_tw at hw
      rw [← hb] at hw
      unfold wjX8_countTwins_46
      rw [nI_eq (by omega) (by omega)]
      by_cases q : i = t
      · refine br_t q ?_
        rw [decide_eq_true q, Bool.not_true, Bool.and_false] at hw
        rw [nI_add i 1]; exact hw
      · refine br_f q (ix0 (by omega) ?_)
        rw [decide_eq_false q, Bool.not_false, Bool.and_true] at hw
        rw [show um A w 31 i = nI (m_use w (nI i)) from ur_31 (by omega)]
        have hx : ∀ X Y : Prop, (m_fr w i = true → X) → (m_fr w i = false → Y) → (nI (m_use w (nI i)) = 0 → X) ∧ (¬ nI (m_use w (nI i)) = 0 → Y) := fun X Y a b => ⟨(fr0 a b).2, (fr0 a b).1⟩
        refine hx _ _ (fun e => ?_) (fun e => bb (fun e2 => ?_) (fun e2 => ?_))
        · rw [e, Bool.not_true, Bool.and_false] at hw
          rw [nI_add i 1]; exact hw
        · rw [e2, Bool.false_and] at hw
          rw [nI_add i 1]; exact hw
        · rw [e2, e] at hw
          rw [nI_add _ 1, nI_add i 1]; exact hw
    by_cases hv : w (368 + i) = w (368 + t)
    · exact rb_t hv (fin true _ rfl (decide_eq_true hv).symm)
    · exact rb_f hv (fin false _ rfl (decide_eq_false hv).symm)
theorem f_twins {B : Nat} {s : st_S} {x : Int32} {K : Int32 → ab_Z → ab_F → ab_F → Prop} {KX : String → ab_Z → ab_F → ab_F → Prop} {Z : ab_Z} {I A : ab_F} (r : RCs B s Z I A) (o : oC [xIx, xEl] B (s_twins s x) K KX) : wX11_twins (fun v I A => K v Z I A) (fun E I A => KX E Z I A) I A x := by
  have hS := r.1.2.1.2.1.2
  refine c_hasSlot r.1.1 r.1.2.1 (dmI (fun e => o.x (c := 0) (by unfold s_twins; rw [if_pos e]) rfl (Nat.le_refl _) r) (fun e => ?_))
  obtain ⟨p, hp, ep⟩ := m_lt_of e
  have en : nn x = p := by rw [ep]; exact nn_nI (by omega)
  have h1 : ¬ m_lt x (m_S s.1) = false := by rw [e]; decide
  have r2 := f_useX r
  refine c_markUses r.1.1 r.1.2 ⟨p, ep, by omega, ?_⟩
  rw [ur_31 (by omega)]
  have hx : ∀ X Y : Prop, (m_fr s.1 p = true → X) → (m_fr s.1 p = false → Y) → (nI (m_use s.1 (nI p)) = 0 → X) ∧ (¬ nI (m_use s.1 (nI p)) = 0 → Y) := fun X Y a b => ⟨(fr0 a b).2, (fr0 a b).1⟩
  refine hx _ _ (fun q => ?_) (fun q => ?_)
  · exact dmE (b := false) (fun _ => o.x (c := 1) (by unfold s_twins; rw [if_neg h1, en, if_pos q]) rfl (Nat.le_refl _) r2) (fun q => nomatch q)
  · refine dmE (b := true) (fun q => nomatch q) (fun _ => ?_)
    rw [ep]
    refine c_twins r2.1.1 r2.1.2 hp (fun u => ?_)
    exact o.k (by unfold s_twins; rw [if_neg h1, en, if_neg (by rw [q]; decide)]) (Nat.le_refl _) (RC_k r2 (Kc_u u))
theorem cn_and {p : Nat → Bool} {t : Nat} (hp : p t = true) : ∀ n, cn p n = cn (fun i => p i && !decide (i = t)) n + (if t < n then 1 else 0)
  | 0 => by simp [cn]
  | n + 1 => by
    have ih := cn_and hp n
    rw [cn, cn]
    by_cases e : n = t
    · have h1 : (if t < n then 1 else 0 : Nat) = 0 := if_neg (by omega)
      have h2 : (if t < n + 1 then 1 else 0 : Nat) = 1 := if_pos (by omega)
      rw [ih, h1, h2, e, hp, decide_eq_true rfl]; rfl
    · have h1 : (if t < n + 1 then 1 else 0 : Nat) = (if t < n then 1 else 0) := by
        by_cases h : t < n
        · rw [if_pos h, if_pos (show t < n + 1 by omega)]
        · rw [if_neg h, if_neg (show ¬ t < n + 1 by omega)]
      rw [ih, h1, decide_eq_false e, Bool.not_false, Bool.and_true]
      omega
theorem r_twins {B : Nat} {s : st_S} {x : Int32} {K : Int32 → ab_F → ab_F → Prop} {I A : ab_F} (r : RMs B s I A) (o : oM B (s_twins s x) K) : wX12_twins K I A x := by
  have e1 : A 1 = s.1 := r.1.1
  have iv : Iv B s.1 := r.1.2
  have hS := iv.1.2.1.2
  refine q_isNoSlot (by rw [e1]; exact iv.1) ?_
  rw [e1]
  refine bb' (fun q => ?_) (fun q => ?_)
  · have hl := nb_f q
    obtain ⟨p, hp, ep⟩ := m_lt_of hl
    have en : nn x = p := by rw [ep]; exact nn_nI (by omega)
    have h1 : ¬ m_lt x (m_S s.1) = false := by rw [hl]; decide
    refine q_useOf (by rw [e1]; exact iv.1) ?_
    rw [e1, ep]
    refine fr0 (fun q2 => ?_) (fun q2 => ?_)
    · refine q_fails (b := true) (bb (fun q3 => nomatch q3) (fun _ => ?_))
      exact o.x (c := 1) (by unfold s_twins; rw [if_neg h1, en, if_pos q2]) (Nat.le_refl _) (RM_5 (RM_5 r)) w5
    · refine q_fails (b := false) (bb (fun _ => ?_) (fun q3 => nomatch q3))
      have ht : m_tw s.1 p p = true := by unfold m_tw; rw [decide_eq_true rfl, q2]; rfl
      have g := o.k (by unfold s_twins; rw [if_neg h1, en, if_neg (by rw [q2]; decide)]) (Nat.le_refl _) (RM_5 (v := if false = true then nI 2 else nI 0) (RM_5 (v := bI (!m_lt (nI p) (m_S s.1))) r)) w5 rfl
      generalize wr (wr I 0 5 (bI (!m_lt (nI p) (m_S s.1)))) 0 5 (if false = true then nI 2 else nI 0) = J at g ⊢
      have g2 : ∃ n, wlX12_twins_35 K n (nI p) (nI (cn (m_tw s.1 p) 0) + (-1)) (nI 0) J A := by
        refine lp (W := fun n i => wlX12_twins_35 K n (nI p) (nI (cn (m_tw s.1 p) i) + (-1)) (nI i) J A) (e := m_S s.1) (fun n => ?_) (fun n i hi hw => ?_)
        · refine br_t (by rw [e1, iv.1.2.1.1]; exact nI_le (Nat.le_refl _) (by omega)) ?_
          rw [cn_and ht (m_S s.1), if_pos hp, show nI (cn (fun i => m_tw s.1 p i && !decide (i = p)) (m_S s.1) + 1) + (-1) = nI (cn (fun i => m_tw s.1 p i && !decide (i = p)) (m_S s.1)) from by rw [← nI_add _ 1, Int32.add_assoc, show nI 1 + (-1 : Int32) = 0 from rfl, Int32.add_zero]]
          exact g
        · refine br_f (by rw [e1, iv.1.2.1.1]; exact nI_ge hi (by omega)) (ixa (by omega) (ixa (by omega) ?_))
          rw [e1]
          rw [cn] at hw
          have ad : ∀ a b : Int32, a + (-1) + b = a + b + (-1) := fun a b => by rw [Int32.add_assoc, Int32.add_comm (-1) b, ← Int32.add_assoc]
          by_cases hv : s.1 (368 + i) = s.1 (368 + p)
          · refine rb_t hv (q_useOf (by rw [e1]; exact iv.1) ?_)
            rw [e1]
            have hx : ∀ X Y : Prop, (m_fr s.1 i = true → X) → (m_fr s.1 i = false → Y) → (nI (m_use s.1 (nI i)) = 0 → X) ∧ (¬ nI (m_use s.1 (nI i)) = 0 → Y) := fun X Y a b => ⟨(fr0 a b).2, (fr0 a b).1⟩
            refine hx _ _ (fun e => nm_r (ad _ _) ?_) (fun e => nm_r (ad _ _) ?_)
            · have et : m_tw s.1 p i = false := by unfold m_tw; rw [e, Bool.not_true, Bool.and_false]
              rw [et] at hw
              rw [nI_add _ 0, nI_add i 1]; exact hw
            · have et : m_tw s.1 p i = true := by unfold m_tw; rw [e, decide_eq_true hv]; rfl
              rw [et] at hw
              rw [nI_add _ 1, nI_add i 1]; exact hw
          · refine rb_f hv (nm_r (ad _ _) ?_)
            have et : m_tw s.1 p i = false := by unfold m_tw; rw [decide_eq_false hv, Bool.false_and]
            rw [et] at hw
            rw [nI_add _ 0, nI_add i 1]; exact hw
      rw [show nI (cn (m_tw s.1 p) 0) + (-1 : Int32) = -1 from (by decide : nI 0 + (-1 : Int32) = -1)] at g2
      exact g2
  · have hl := nb_t q
    exact o.x (c := 0) (by unfold s_twins; rw [if_pos hl]) (Nat.le_refl _) (RM_5 r) (by rw [w5, q]; rfl)
