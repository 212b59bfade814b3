/-! questions that read one place -/
def s_ec (s : st_S) : st_O := (0, s.2.2.2.1.1, s)
theorem f_ec {B : Nat} {s : st_S} {K : Int32 → ab_Z → ab_F → ab_F → Prop} {KX : String → ab_Z → ab_F → ab_F → Prop} {Z : ab_Z} {I A : ab_F} (r : RCs B s Z I A) (o : oC [] B (s_ec s) K KX) : wX11_errorCode (fun v I A => K v Z I A) I A := by
  have ea : I 3 1 = s.2.2.2.1.1 := r.2.2.2.2.1.1
  unfold wX11_errorCode
  rw [ea]
  exact o.k rfl (Nat.le_refl _) r
theorem r_ec {B : Nat} {s : st_S} {K : Int32 → ab_F → ab_F → Prop} {I A : ab_F} (r : RMs B s I A) (o : oM B (s_ec s) K) : wX12_errorCode K I A :=
  o.k rfl (Nat.le_refl _) (RM_5 r) w5 r.2.2.2.1.1
def s_ep (s : st_S) : st_O := (0, s.2.2.2.1.2, s)
theorem f_ep {B : Nat} {s : st_S} {K : Int32 → ab_Z → ab_F → ab_F → Prop} {KX : String → ab_Z → ab_F → ab_F → Prop} {Z : ab_Z} {I A : ab_F} (r : RCs B s Z I A) (o : oC [] B (s_ep s) K KX) : wX11_errorPosition (fun v I A => K v Z I A) I A := by
  have ea : I 3 2 = s.2.2.2.1.2 := r.2.2.2.2.1.2
  unfold wX11_errorPosition
  rw [ea]
  exact o.k rfl (Nat.le_refl _) r
theorem r_ep {B : Nat} {s : st_S} {K : Int32 → ab_F → ab_F → Prop} {I A : ab_F} (r : RMs B s I A) (o : oM B (s_ep s) K) : wX12_errorPosition K I A :=
  o.k rfl (Nat.le_refl _) (RM_5 r) w5 r.2.2.2.1.2
def s_pc (s : st_S) : st_O := (0, s.1 3, s)
theorem f_pc {B : Nat} {s : st_S} {K : Int32 → ab_Z → ab_F → ab_F → Prop} {KX : String → ab_Z → ab_F → ab_F → Prop} {Z : ab_Z} {I A : ab_F} (r : RCs B s Z I A) (o : oC [] B (s_pc s) K KX) : wX11_processCount (fun v I A => K v Z I A) I A := by
  have ea : I 9 0 = s.1 3 := r.1.1.1.1.1
  unfold wX11_processCount
  rw [ea]
  exact o.k rfl (Nat.le_refl _) r
theorem r_pc {B : Nat} {s : st_S} {K : Int32 → ab_F → ab_F → Prop} {I A : ab_F} (r : RMs B s I A) (o : oM B (s_pc s) K) : wX12_processCount K I A :=
  o.k rfl (Nat.le_refl _) (RM_5 r) w5 (congrFun r.1.1 _)
def s_fc (s : st_S) : st_O := (0, s.1 0, s)
theorem f_fc {B : Nat} {s : st_S} {K : Int32 → ab_Z → ab_F → ab_F → Prop} {KX : String → ab_Z → ab_F → ab_F → Prop} {Z : ab_Z} {I A : ab_F} (r : RCs B s Z I A) (o : oC [] B (s_fc s) K KX) : wX11_frameCount (fun v I A => K v Z I A) I A := by
  have ea : I 16 0 = s.1 0 := r.1.1.1.2.1.1
  unfold wX11_frameCount
  rw [ea]
  exact o.k rfl (Nat.le_refl _) r
theorem r_fc {B : Nat} {s : st_S} {K : Int32 → ab_F → ab_F → Prop} {I A : ab_F} (r : RMs B s I A) (o : oM B (s_fc s) K) : wX12_frameCount K I A :=
  o.k rfl (Nat.le_refl _) (RM_5 r) w5 (congrFun r.1.1 _)
def s_sc (s : st_S) : st_O := (0, s.1 1, s)
theorem f_sc {B : Nat} {s : st_S} {K : Int32 → ab_Z → ab_F → ab_F → Prop} {KX : String → ab_Z → ab_F → ab_F → Prop} {Z : ab_Z} {I A : ab_F} (r : RCs B s Z I A) (o : oC [] B (s_sc s) K KX) : wX11_slotCount (fun v I A => K v Z I A) I A := by
  have ea : I 20 0 = s.1 1 := r.1.1.1.2.2.1
  unfold wX11_slotCount
  rw [ea]
  exact o.k rfl (Nat.le_refl _) r
theorem r_sc {B : Nat} {s : st_S} {K : Int32 → ab_F → ab_F → Prop} {I A : ab_F} (r : RMs B s I A) (o : oM B (s_sc s) K) : wX12_slotCount K I A :=
  o.k rfl (Nat.le_refl _) (RM_5 r) w5 (congrFun r.1.1 _)
def s_epo (s : st_S) : st_O := (0, s.1 4, s)
theorem f_epo {B : Nat} {s : st_S} {K : Int32 → ab_Z → ab_F → ab_F → Prop} {KX : String → ab_Z → ab_F → ab_F → Prop} {Z : ab_Z} {I A : ab_F} (r : RCs B s Z I A) (o : oC [] B (s_epo s) K KX) : wX11_epoch (fun v I A => K v Z I A) I A := by
  have ea : I 24 0 = s.1 4 := r.1.1.2.1.1.1
  unfold wX11_epoch
  rw [ea]
  exact o.k rfl (Nat.le_refl _) r
theorem r_epo {B : Nat} {s : st_S} {K : Int32 → ab_F → ab_F → Prop} {I A : ab_F} (r : RMs B s I A) (o : oM B (s_epo s) K) : wX12_epoch K I A :=
  o.k rfl (Nat.le_refl _) (RM_5 r) w5 (congrFun r.1.1 _)
def s_bset (s : st_S) : st_O := (0, s.1 10, s)
theorem f_bset {B : Nat} {s : st_S} {K : Int32 → ab_Z → ab_F → ab_F → Prop} {KX : String → ab_Z → ab_F → ab_F → Prop} {Z : ab_Z} {I A : ab_F} (r : RCs B s Z I A) (o : oC [] B (s_bset s) K KX) : wX11_barrierSet (fun v I A => K v Z I A) I A := by
  have ea : I 24 1 = s.1 10 := r.1.1.2.1.1.2.1
  unfold wX11_barrierSet
  rw [ea]
  exact o.k rfl (Nat.le_refl _) r
theorem r_bset {B : Nat} {s : st_S} {K : Int32 → ab_F → ab_F → Prop} {I A : ab_F} (r : RMs B s I A) (o : oM B (s_bset s) K) : wX12_barrierSet K I A :=
  o.k rfl (Nat.le_refl _) (RM_5 r) w5 (congrFun r.1.1 _)
def s_udep (s : st_S) : st_O := (0, nI s.2.1.2, s)
theorem f_udep {B : Nat} {s : st_S} {K : Int32 → ab_Z → ab_F → ab_F → Prop} {KX : String → ab_Z → ab_F → ab_F → Prop} {Z : ab_Z} {I A : ab_F} (r : RCs B s Z I A) (o : oC [] B (s_udep s) K KX) : wX11_undoDepth (fun v I A => K v Z I A) I A := by
  have ea : I 32 2 = nI s.2.1.2 := r.2.1.2.1
  unfold wX11_undoDepth
  rw [ea]
  exact o.k rfl (Nat.le_refl _) r
theorem r_udep {B : Nat} {s : st_S} {K : Int32 → ab_F → ab_F → Prop} {I A : ab_F} (r : RMs B s I A) (o : oM B (s_udep s) K) : wX12_undoDepth K I A :=
  o.k rfl (Nat.le_refl _) (RM_5 r) w5 r.2.1.2.1
def s_pgc (s : st_S) (x : Int32) : st_O := if m_lt x (m_P s.1) = false then (1, 0, s) else (0, s.1 (20 + nn x), s)
theorem f_pgc {B : Nat} {s : st_S} {x : Int32} {K : Int32 → ab_Z → ab_F → ab_F → Prop} {KX : String → ab_Z → ab_F → ab_F → Prop} {Z : ab_Z} {I A : ab_F} (r : RCs B s Z I A) (o : oC [xIx] B (s_pgc s x) K KX) : wX11_pageCount (fun v I A => K v Z I A) (fun E I A => KX E Z I A) I A x := by
  have hP := r.1.2.1.2.2.1.2
  refine c_hasProcess r.1.1 r.1.2.1 (dmI (fun e => o.x (c := 0) (by unfold s_pgc; rw [if_pos e]) rfl (Nat.le_refl _) r) (fun e => ?_))
  obtain ⟨p, hp, ep⟩ := m_lt_of e
  have en : nn x = p := by rw [ep]; exact nn_nI (by omega)
  refine ⟨p, ep, by omega, ?_⟩
  have ea : A 10 p = s.1 (20 + p) := (r.1.1.1.1.2.1 p (by omega)).1
  rw [ea]
  exact o.k (by unfold s_pgc; rw [if_neg (by rw [e]; decide), en]) (Nat.le_refl _) r
theorem r_pgc {B : Nat} {s : st_S} {x : Int32} {K : Int32 → ab_F → ab_F → Prop} {I A : ab_F} (r : RMs B s I A) (o : oM B (s_pgc s x) K) : wX12_pageCount K I A x := by
  have e1 : A 1 = s.1 := r.1.1
  have iv : Iv B s.1 := r.1.2
  have hP := iv.1.2.2.1.2
  refine q_isNoProcess (by rw [e1]; exact iv.1) ?_
  rw [e1]
  refine bb (fun q => ?_) (fun q => ?_)
  · have hl := nb_f q
    obtain ⟨p, hp, ep⟩ := m_lt_of hl
    have en : nn x = p := by rw [ep]; exact nn_nI (by omega)
    refine ixv ep (by omega) ?_
    try rw [e1]
    exact o.k (by unfold s_pgc; rw [if_neg (by rw [hl]; decide), en]) (Nat.le_refl _) (RM_5 r) (by rw [w5, q]; rfl) rfl
  · have hl := nb_t q
    exact o.x (c := 0) (by unfold s_pgc; rw [if_pos hl]) (Nat.le_refl _) (RM_5 r) (by rw [w5, q]; rfl)
def s_kind (s : st_S) (x : Int32) : st_O := if m_lt x (m_P s.1) = false then (1, 0, s) else (0, s.1 (14 + nn x), s)
theorem f_kind {B : Nat} {s : st_S} {x : Int32} {K : Int32 → ab_Z → ab_F → ab_F → Prop} {KX : String → ab_Z → ab_F → ab_F → Prop} {Z : ab_Z} {I A : ab_F} (r : RCs B s Z I A) (o : oC [xIx] B (s_kind s x) K KX) : wX11_kindOf (fun v I A => K v Z I A) (fun E I A => KX E Z I A) I A x := by
  have hP := r.1.2.1.2.2.1.2
  refine c_hasProcess r.1.1 r.1.2.1 (dmI (fun e => o.x (c := 0) (by unfold s_kind; rw [if_pos e]) rfl (Nat.le_refl _) r) (fun e => ?_))
  obtain ⟨p, hp, ep⟩ := m_lt_of e
  have en : nn x = p := by rw [ep]; exact nn_nI (by omega)
  refine ⟨p, ep, by omega, ?_⟩
  have ea : A 11 p = s.1 (14 + p) := (r.1.1.1.1.2.1 p (by omega)).2.1
  rw [ea]
  exact o.k (by unfold s_kind; rw [if_neg (by rw [e]; decide), en]) (Nat.le_refl _) r
theorem r_kind {B : Nat} {s : st_S} {x : Int32} {K : Int32 → ab_F → ab_F → Prop} {I A : ab_F} (r : RMs B s I A) (o : oM B (s_kind s x) K) : wX12_kindOf K I A x := by
  have e1 : A 1 = s.1 := r.1.1
  have iv : Iv B s.1 := r.1.2
  have hP := iv.1.2.2.1.2
  refine q_isNoProcess (by rw [e1]; exact iv.1) ?_
  rw [e1]
  refine bb (fun q => ?_) (fun q => ?_)
  · have hl := nb_f q
    obtain ⟨p, hp, ep⟩ := m_lt_of hl
    have en : nn x = p := by rw [ep]; exact nn_nI (by omega)
    refine ixv ep (by omega) ?_
    try rw [e1]
    exact o.k (by unfold s_kind; rw [if_neg (by rw [hl]; decide), en]) (Nat.le_refl _) (RM_5 r) (by rw [w5, q]; rfl) rfl
  · have hl := nb_t q
    exact o.x (c := 0) (by unfold s_kind; rw [if_pos hl]) (Nat.le_refl _) (RM_5 r) (by rw [w5, q]; rfl)
def s_cke (s : st_S) (x : Int32) : st_O := if m_lt x (m_P s.1) = false then (1, 0, s) else (0, s.1 (26 + nn x), s)
theorem f_cke {B : Nat} {s : st_S} {x : Int32} {K : Int32 → ab_Z → ab_F → ab_F → Prop} {KX : String → ab_Z → ab_F → ab_F → Prop} {Z : ab_Z} {I A : ab_F} (r : RCs B s Z I A) (o : oC [xIx] B (s_cke s x) K KX) : wX11_checkpointEpoch (fun v I A => K v Z I A) (fun E I A => KX E Z I A) I A x := by
  have hP := r.1.2.1.2.2.1.2
  refine c_hasProcess r.1.1 r.1.2.1 (dmI (fun e => o.x (c := 0) (by unfold s_cke; rw [if_pos e]) rfl (Nat.le_refl _) r) (fun e => ?_))
  obtain ⟨p, hp, ep⟩ := m_lt_of e
  have en : nn x = p := by rw [ep]; exact nn_nI (by omega)
  refine ⟨p, ep, by omega, ?_⟩
  have ea : A 26 p = s.1 (26 + p) := r.1.1.2.1.2.2.2.1 p (by omega)
  rw [ea]
  exact o.k (by unfold s_cke; rw [if_neg (by rw [e]; decide), en]) (Nat.le_refl _) r
theorem r_cke {B : Nat} {s : st_S} {x : Int32} {K : Int32 → ab_F → ab_F → Prop} {I A : ab_F} (r : RMs B s I A) (o : oM B (s_cke s x) K) : wX12_checkpointEpoch K I A x := by
  have e1 : A 1 = s.1 := r.1.1
  have iv : Iv B s.1 := r.1.2
  have hP := iv.1.2.2.1.2
  refine q_isNoProcess (by rw [e1]; exact iv.1) ?_
  rw [e1]
  refine bb (fun q => ?_) (fun q => ?_)
  · have hl := nb_f q
    obtain ⟨p, hp, ep⟩ := m_lt_of hl
    have en : nn x = p := by rw [ep]; exact nn_nI (by omega)
    refine ixv ep (by omega) ?_
    try rw [e1]
    exact o.k (by unfold s_cke; rw [if_neg (by rw [hl]; decide), en]) (Nat.le_refl _) (RM_5 r) (by rw [w5, q]; rfl) rfl
  · have hl := nb_t q
    exact o.x (c := 0) (by unfold s_cke; rw [if_pos hl]) (Nat.le_refl _) (RM_5 r) (by rw [w5, q]; rfl)
def s_peek (s : st_S) (x y : Int32) : st_O := if m_pg s.1 x y = false then (1, 0, s) else (0, s.1 (32 + m_id x y), s)
theorem f_peek {B : Nat} {s : st_S} {x y : Int32} {K : Int32 → ab_Z → ab_F → ab_F → Prop} {KX : String → ab_Z → ab_F → ab_F → Prop} {Z : ab_Z} {I A : ab_F} (r : RCs B s Z I A) (o : oC [xIx] B (s_peek s x y) K KX) : wX11_peek (fun v I A => K v Z I A) (fun E I A => KX E Z I A) I A x y := by
  refine c_hasPage r.1.1 r.1.2.1 (dmI (fun e => o.x (c := 0) (by unfold s_peek; rw [if_pos e]) rfl (Nat.le_refl _) r) (fun e => ?_))
  obtain ⟨k, hk, ht, ek, ex⟩ := pg_k r.1.2.1 e
  have em := m_id_k ek hk
  unfold wX11_idOf
  rw [ek]
  refine ix0 hk ?_
  have ea : A 13 k = s.1 (32 + k) := (r.1.1.1.1.2.2 k hk).1
  rw [ea]
  exact o.k (by unfold s_peek; rw [if_neg (by rw [e]; decide), em]) (Nat.le_refl _) r
theorem r_peek {B : Nat} {s : st_S} {x y : Int32} {K : Int32 → ab_F → ab_F → Prop} {I A : ab_F} (r : RMs B s I A) (o : oM B (s_peek s x y) K) : wX12_peek K I A x y := by
  have e1 : A 1 = s.1 := r.1.1
  have iv : Iv B s.1 := r.1.2
  refine q_isNoPage (by rw [e1]; exact iv.1) ?_
  rw [e1]
  refine bb (fun q => ?_) (fun q => ?_)
  · have hl := nb_f q
    obtain ⟨k, hk, ht, ek, ex⟩ := pg_k iv.1 hl
    have em := m_id_k ek hk
    unfold wX12_pageOf
    rw [ek]
    refine ixa (by omega) ?_
    try rw [e1]
    exact o.k (by unfold s_peek; rw [if_neg (by rw [hl]; decide), em]) (Nat.le_refl _) (RM_5 r) (by rw [w5, q]; rfl) rfl
  · have hl := nb_t q
    exact o.x (c := 0) (by unfold s_peek; rw [if_pos hl]) (Nat.le_refl _) (RM_5 r) (by rw [w5, q]; rfl)
def s_frof (s : st_S) (x y : Int32) : st_O := if m_pg s.1 x y = false then (1, 0, s) else (0, s.1 (128 + m_id x y), s)
theorem f_frof {B : Nat} {s : st_S} {x y : Int32} {K : Int32 → ab_Z → ab_F → ab_F → Prop} {KX : String → ab_Z → ab_F → ab_F → Prop} {Z : ab_Z} {I A : ab_F} (r : RCs B s Z I A) (o : oC [xIx] B (s_frof s x y) K KX) : wX11_frameOf (fun v I A => K v Z I A) (fun E I A => KX E Z I A) I A x y := by
  refine c_hasPage r.1.1 r.1.2.1 (dmI (fun e => o.x (c := 0) (by unfold s_frof; rw [if_pos e]) rfl (Nat.le_refl _) r) (fun e => ?_))
  obtain ⟨k, hk, ht, ek, ex⟩ := pg_k r.1.2.1 e
  have em := m_id_k ek hk
  unfold wX11_idOf
  rw [ek]
  refine ix0 hk ?_
  have ea : A 14 k = s.1 (128 + k) := (r.1.1.1.1.2.2 k hk).2.1
  rw [ea]
  exact o.k (by unfold s_frof; rw [if_neg (by rw [e]; decide), em]) (Nat.le_refl _) r
theorem r_frof {B : Nat} {s : st_S} {x y : Int32} {K : Int32 → ab_F → ab_F → Prop} {I A : ab_F} (r : RMs B s I A) (o : oM B (s_frof s x y) K) : wX12_frameOf K I A x y := by
  have e1 : A 1 = s.1 := r.1.1
  have iv : Iv B s.1 := r.1.2
  refine q_isNoPage (by rw [e1]; exact iv.1) ?_
  rw [e1]
  refine bb (fun q => ?_) (fun q => ?_)
  · have hl := nb_f q
    obtain ⟨k, hk, ht, ek, ex⟩ := pg_k iv.1 hl
    have em := m_id_k ek hk
    unfold wX12_pageOf
    rw [ek]
    refine ixa (by omega) ?_
    try rw [e1]
    exact o.k (by unfold s_frof; rw [if_neg (by rw [hl]; decide), em]) (Nat.le_refl _) (RM_5 r) (by rw [w5, q]; rfl) rfl
  · have hl := nb_t q
    exact o.x (c := 0) (by unfold s_frof; rw [if_pos hl]) (Nat.le_refl _) (RM_5 r) (by rw [w5, q]; rfl)
def s_slof (s : st_S) (x y : Int32) : st_O := if m_pg s.1 x y = false then (1, 0, s) else (0, s.1 (80 + m_id x y), s)
theorem f_slof {B : Nat} {s : st_S} {x y : Int32} {K : Int32 → ab_Z → ab_F → ab_F → Prop} {KX : String → ab_Z → ab_F → ab_F → Prop} {Z : ab_Z} {I A : ab_F} (r : RCs B s Z I A) (o : oC [xIx] B (s_slof s x y) K KX) : wX11_slotOf (fun v I A => K v Z I A) (fun E I A => KX E Z I A) I A x y := by
  refine c_hasPage r.1.1 r.1.2.1 (dmI (fun e => o.x (c := 0) (by unfold s_slof; rw [if_pos e]) rfl (Nat.le_refl _) r) (fun e => ?_))
  obtain ⟨k, hk, ht, ek, ex⟩ := pg_k r.1.2.1 e
  have em := m_id_k ek hk
  unfold wX11_idOf
  rw [ek]
  refine ix0 hk ?_
  have ea : A 15 k = s.1 (80 + k) := (r.1.1.1.1.2.2 k hk).2.2
  rw [ea]
  exact o.k (by unfold s_slof; rw [if_neg (by rw [e]; decide), em]) (Nat.le_refl _) r
theorem r_slof {B : Nat} {s : st_S} {x y : Int32} {K : Int32 → ab_F → ab_F → Prop} {I A : ab_F} (r : RMs B s I A) (o : oM B (s_slof s x y) K) : wX12_slotOf K I A x y := by
  have e1 : A 1 = s.1 := r.1.1
  have iv : Iv B s.1 := r.1.2
  refine q_isNoPage (by rw [e1]; exact iv.1) ?_
  rw [e1]
  refine bb (fun q => ?_) (fun q => ?_)
  · have hl := nb_f q
    obtain ⟨k, hk, ht, ek, ex⟩ := pg_k iv.1 hl
    have em := m_id_k ek hk
    unfold wX12_pageOf
    rw [ek]
    refine ixa (by omega) ?_
    try rw [e1]
    exact o.k (by unfold s_slof; rw [if_neg (by rw [hl]; decide), em]) (Nat.le_refl _) (RM_5 r) (by rw [w5, q]; rfl) rfl
  · have hl := nb_t q
    exact o.x (c := 0) (by unfold s_slof; rw [if_pos hl]) (Nat.le_refl _) (RM_5 r) (by rw [w5, q]; rfl)
def s_frow (s : st_S) (x : Int32) : st_O := if m_lt x (m_F s.1) = false then (1, 0, s) else (0, s.1 (320 + nn x), s)
theorem f_frow {B : Nat} {s : st_S} {x : Int32} {K : Int32 → ab_Z → ab_F → ab_F → Prop} {KX : String → ab_Z → ab_F → ab_F → Prop} {Z : ab_Z} {I A : ab_F} (r : RCs B s Z I A) (o : oC [xIx] B (s_frow s x) K KX) : wX11_frameOwner (fun v I A => K v Z I A) (fun E I A => KX E Z I A) I A x := by
  have hP := r.1.2.1.1.2
  refine c_hasFrame r.1.1 r.1.2.1 (dmI (fun e => o.x (c := 0) (by unfold s_frow; rw [if_pos e]) rfl (Nat.le_refl _) r) (fun e => ?_))
  obtain ⟨p, hp, ep⟩ := m_lt_of e
  have en : nn x = p := by rw [ep]; exact nn_nI (by omega)
  refine ⟨p, ep, by omega, ?_⟩
  have ea : A 17 p = s.1 (320 + p) := (r.1.1.1.2.1.2.2 p (by omega)).1
  rw [ea]
  exact o.k (by unfold s_frow; rw [if_neg (by rw [e]; decide), en]) (Nat.le_refl _) r
theorem r_frow {B : Nat} {s : st_S} {x : Int32} {K : Int32 → ab_F → ab_F → Prop} {I A : ab_F} (r : RMs B s I A) (o : oM B (s_frow s x) K) : wX12_frameOwner K I A x := by
  have e1 : A 1 = s.1 := r.1.1
  have iv : Iv B s.1 := r.1.2
  have hP := iv.1.1.2
  refine q_isNoFrame (by rw [e1]; exact iv.1) ?_
  rw [e1]
  refine bb (fun q => ?_) (fun q => ?_)
  · have hl := nb_f q
    obtain ⟨p, hp, ep⟩ := m_lt_of hl
    have en : nn x = p := by rw [ep]; exact nn_nI (by omega)
    refine ixv ep (by omega) ?_
    try rw [e1]
    exact o.k (by unfold s_frow; rw [if_neg (by rw [hl]; decide), en]) (Nat.le_refl _) (RM_5 r) (by rw [w5, q]; rfl) rfl
  · have hl := nb_t q
    exact o.x (c := 0) (by unfold s_frow; rw [if_pos hl]) (Nat.le_refl _) (RM_5 r) (by rw [w5, q]; rfl)
def s_slow (s : st_S) (x : Int32) : st_O := if m_lt x (m_S s.1) = false then (1, 0, s) else (0, s.1 (416 + nn x), s)
theorem f_slow {B : Nat} {s : st_S} {x : Int32} {K : Int32 → ab_Z → ab_F → ab_F → Prop} {KX : String → ab_Z → ab_F → ab_F → Prop} {Z : ab_Z} {I A : ab_F} (r : RCs B s Z I A) (o : oC [xIx] B (s_slow s x) K KX) : wX11_slotOwner (fun v I A => K v Z I A) (fun E I A => KX E Z I A) I A x := by
  have hP := r.1.2.1.2.1.2
  refine c_hasSlot r.1.1 r.1.2.1 (dmI (fun e => o.x (c := 0) (by unfold s_slow; rw [if_pos e]) rfl (Nat.le_refl _) r) (fun e => ?_))
  obtain ⟨p, hp, ep⟩ := m_lt_of e
  have en : nn x = p := by rw [ep]; exact nn_nI (by omega)
  refine ⟨p, ep, by omega, ?_⟩
  have ea : A 22 p = s.1 (416 + p) := (r.1.1.1.2.2.2.2 p (by omega)).2.1
  rw [ea]
  exact o.k (by unfold s_slow; rw [if_neg (by rw [e]; decide), en]) (Nat.le_refl _) r
theorem r_slow {B : Nat} {s : st_S} {x : Int32} {K : Int32 → ab_F → ab_F → Prop} {I A : ab_F} (r : RMs B s I A) (o : oM B (s_slow s x) K) : wX12_slotOwner K I A x := by
  have e1 : A 1 = s.1 := r.1.1
  have iv : Iv B s.1 := r.1.2
  have hP := iv.1.2.1.2
  refine q_isNoSlot (by rw [e1]; exact iv.1) ?_
  rw [e1]
  refine bb (fun q => ?_) (fun q => ?_)
  · have hl := nb_f q
    obtain ⟨p, hp, ep⟩ := m_lt_of hl
    have en : nn x = p := by rw [ep]; exact nn_nI (by omega)
    refine ixv ep (by omega) ?_
    try rw [e1]
    exact o.k (by unfold s_slow; rw [if_neg (by rw [hl]; decide), en]) (Nat.le_refl _) (RM_5 r) (by rw [w5, q]; rfl) rfl
  · have hl := nb_t q
    exact o.x (c := 0) (by unfold s_slow; rw [if_pos hl]) (Nat.le_refl _) (RM_5 r) (by rw [w5, q]; rfl)
def s_slst (s : st_S) (x : Int32) : st_O := if m_lt x (m_S s.1) = false then (1, 0, s) else (0, s.1 (464 + nn x), s)
theorem f_slst {B : Nat} {s : st_S} {x : Int32} {K : Int32 → ab_Z → ab_F → ab_F → Prop} {KX : String → ab_Z → ab_F → ab_F → Prop} {Z : ab_Z} {I A : ab_F} (r : RCs B s Z I A) (o : oC [xIx] B (s_slst s x) K KX) : wX11_slotStamp (fun v I A => K v Z I A) (fun E I A => KX E Z I A) I A x := by
  have hP := r.1.2.1.2.1.2
  refine c_hasSlot r.1.1 r.1.2.1 (dmI (fun e => o.x (c := 0) (by unfold s_slst; rw [if_pos e]) rfl (Nat.le_refl _) r) (fun e => ?_))
  obtain ⟨p, hp, ep⟩ := m_lt_of e
  have en : nn x = p := by rw [ep]; exact nn_nI (by omega)
  refine ⟨p, ep, by omega, ?_⟩
  have ea : A 23 p = s.1 (464 + p) := (r.1.1.1.2.2.2.2 p (by omega)).2.2
  rw [ea]
  exact o.k (by unfold s_slst; rw [if_neg (by rw [e]; decide), en]) (Nat.le_refl _) r
theorem r_slst {B : Nat} {s : st_S} {x : Int32} {K : Int32 → ab_F → ab_F → Prop} {I A : ab_F} (r : RMs B s I A) (o : oM B (s_slst s x) K) : wX12_slotStamp K I A x := by
  have e1 : A 1 = s.1 := r.1.1
  have iv : Iv B s.1 := r.1.2
  have hP := iv.1.2.1.2
  refine q_isNoSlot (by rw [e1]; exact iv.1) ?_
  rw [e1]
  refine bb (fun q => ?_) (fun q => ?_)
  · have hl := nb_f q
    obtain ⟨p, hp, ep⟩ := m_lt_of hl
    have en : nn x = p := by rw [ep]; exact nn_nI (by omega)
    refine ixv ep (by omega) ?_
    try rw [e1]
    exact o.k (by unfold s_slst; rw [if_neg (by rw [hl]; decide), en]) (Nat.le_refl _) (RM_5 r) (by rw [w5, q]; rfl) rfl
  · have hl := nb_t q
    exact o.x (c := 0) (by unfold s_slst; rw [if_pos hl]) (Nat.le_refl _) (RM_5 r) (by rw [w5, q]; rfl)
def s_slva (s : st_S) (x : Int32) : st_O := if m_lt x (m_S s.1) = false then (1, 0, s) else (0, s.1 (368 + nn x), s)
theorem f_slva {B : Nat} {s : st_S} {x : Int32} {K : Int32 → ab_Z → ab_F → ab_F → Prop} {KX : String → ab_Z → ab_F → ab_F → Prop} {Z : ab_Z} {I A : ab_F} (r : RCs B s Z I A) (o : oC [xIx] B (s_slva s x) K KX) : wX11_slotValue (fun v I A => K v Z I A) (fun E I A => KX E Z I A) I A x := by
  have hP := r.1.2.1.2.1.2
  refine c_hasSlot r.1.1 r.1.2.1 (dmI (fun e => o.x (c := 0) (by unfold s_slva; rw [if_pos e]) rfl (Nat.le_refl _) r) (fun e => ?_))
  obtain ⟨p, hp, ep⟩ := m_lt_of e
  have en : nn x = p := by rw [ep]; exact nn_nI (by omega)
  refine ⟨p, ep, by omega, ?_⟩
  have ea : A 21 p = s.1 (368 + p) := (r.1.1.1.2.2.2.2 p (by omega)).1
  rw [ea]
  exact o.k (by unfold s_slva; rw [if_neg (by rw [e]; decide), en]) (Nat.le_refl _) r
theorem r_slva {B : Nat} {s : st_S} {x : Int32} {K : Int32 → ab_F → ab_F → Prop} {I A : ab_F} (r : RMs B s I A) (o : oM B (s_slva s x) K) : wX12_slotValue K I A x := by
  have e1 : A 1 = s.1 := r.1.1
  have iv : Iv B s.1 := r.1.2
  have hP := iv.1.2.1.2
  refine q_isNoSlot (by rw [e1]; exact iv.1) ?_
  rw [e1]
  refine bb (fun q => ?_) (fun q => ?_)
  · have hl := nb_f q
    obtain ⟨p, hp, ep⟩ := m_lt_of hl
    have en : nn x = p := by rw [ep]; exact nn_nI (by omega)
    refine ixv ep (by omega) ?_
    try rw [e1]
    exact o.k (by unfold s_slva; rw [if_neg (by rw [hl]; decide), en]) (Nat.le_refl _) (RM_5 r) (by rw [w5, q]; rfl) rfl
  · have hl := nb_t q
    exact o.x (c := 0) (by unfold s_slva; rw [if_pos hl]) (Nat.le_refl _) (RM_5 r) (by rw [w5, q]; rfl)
