/-! the report as a call; its bytes -/
def rt (w : Nat → Int32) : List Int32 := (m_rep w).flatten
def rp_T (w : Nat → Int32) : st_T := (fun i => (rt w).getD i 0, (rt w).length)
def s_rep (s : st_S) : st_O := (0, nI (rt s.1).length, (s.1, s.2.1, s.2.2.1, s.2.2.2.1, rp_T s.1))
theorem RC_rp {B : Nat} {w : Nat → Int32} {h : st_H} {t : st_T} {e : Int32 × Int32} {p : st_T} {Z Z' : ab_Z} {I A I' A' : ab_F} {T : List Int32} {F : Nat} (x : RC B w h t e p Z I A) (k : Rp Z I A Z' I' A') (sb : SBl Z' I' A' T F) : RC B w h t e (fun i => T.getD i 0, T.length) Z' I' A' := by
  obtain ⟨⟨r, iv⟩, ⟨h1, h2, s, hs, h3, h4⟩, zs, ⟨t1, t2, t3⟩, ⟨e1, e2⟩, cap, p1, p2, p3, p4, p5, p6, p7⟩ := x
  have hl := k.len
  have hl2 : 42 ≤ (shC Z).length := by rw [sh_len]; omega
  obtain ⟨k1, k2, ⟨ex, k3⟩, k4, k5⟩ := k
  have hv := s_lt p1
  have shk : ∀ c, 42 ≤ c → c < (shC Z).length → (shC Z')[c]? = (shC Z)[c]? := by
    intro c c1 c2
    rw [sh_hi c1, sh_hi c1, k3]
    rw [sh_len] at c2
    rw [List.getElem?_append_left (by omega)]
  have sysk : ∀ b, ab_sys (shC Z) b → 42 ≤ b → ab_sys (shC Z') b := by
    intro b hb hb2 c hc
    have := sys_len hb
    rw [shk (b + c) (by omega) (by omega)]
    exact hb c hc
  have zs' : Zs Z' := by
    refine ⟨fun j b hj hb => ?_, fun i j a b hi hj hij ha hb => ?_⟩
    · rw [k1] at hb
      have := zs.1 j b hj hb
      exact ⟨sysk b this.1 this.2, this.2⟩
    · rw [k1] at ha hb
      exact zs.2 i j a b hi hj hij ha hb
  refine ⟨⟨Rp_Rs ⟨k1, k2, ⟨ex, k3⟩, k4, k5⟩ p2 r, iv⟩, ⟨h1, by rw [k4 32 (by decide)]; exact h2, s, hs, by rw [k4 32 (by decide)]; exact h3, fun i hi => ?_⟩, zs', ⟨t1, by rw [k4 1 (by decide)]; exact t2, fun i hi => by rw [k5 2 (by decide) (by omega) (by omega)]; exact t3 i hi⟩, ⟨by rw [k4 3 (by decide)]; exact e1, by rw [k4 3 (by decide)]; exact e2⟩, F, sb⟩
  obtain ⟨b, b1, b2, b3⟩ := h4 i hi
  have hz := zs.1 _ b (by omega) b1
  have ho := SB_out hz.1 p1
  have hs9 := sys_len hz.1
  refine ⟨b, by rw [k1]; exact b1, Rs_off (fun c c1 c2 => ⟨k4 c (by omega), k5 c (by omega) (by omega) (by omega)⟩) b2, b3⟩
theorem f_rep {B : Nat} {s : st_S} {K : Int32 → ab_Z → ab_F → ab_F → Prop} {KX : String → ab_Z → ab_F → ab_F → Prop} {Z : ab_Z} {I A : ab_F} (hB : B < 2 ^ 30) (r : RCs B s Z I A) (o : oC [] B (s_rep s) K KX) : ab_Cl mX11_writeReport 8 800 1600 [.ref 0] (shC Z) I A (ab_Pz KX (ab_zi K)) := by
  obtain ⟨cap, sb⟩ := r.2.2.2.2.2
  refine (ctX11_writeReport hB r.1.1 r.1.2 sb).mono (fun q hq => ?_)
  obtain ⟨a, sh1, I1, A1⟩ := q
  obtain ⟨h1, Z', h2, h3, h4⟩ := hq
  have h1 : a = .inl (some (.int (nI (rt s.1).length))) := h1
  subst h1
  exact ⟨Z', h2, _, rfl, o.k (B0 := B) (s := (s.1, s.2.1, s.2.2.1, s.2.2.2.1, rp_T s.1)) rfl (Nat.le_refl _) (RC_rp r h3 h4)⟩
theorem r_rep {B : Nat} {s : st_S} {K : Int32 → ab_F → ab_F → Prop} {I A : ab_F} (hB : B < 2 ^ 30) (r : RMs B s I A) (o : oM B (s_rep s) K) : wX12_writeReport K I A := by
  have hr := rep_len r.1.2
  refine q_rep hB r.1.2 r.1.1 (fun I1 A1 q1 g1 => ?_)
  obtain ⟨⟨r1, iv⟩, ⟨h1, h2, h3⟩, ⟨t1, t2, t3⟩, ⟨e1, e2⟩, -⟩ := r
  have iI : ∀ k, k ≠ 18 → k ≠ 5 → I1 0 k = I 0 k := fun k a b => by rw [q1.1 0 k (Or.inr a), wr_nei a, wr_nei b]
  have i5 : I1 0 5 = nI 0 := by rw [q1.1 0 5 (Or.inr (by decide)), wr_nei (by decide), wr_ate]
  refine o.k (B0 := B) (s := (s.1, s.2.1, s.2.2.1, s.2.2.2.1, rp_T s.1)) rfl (Nat.le_refl _) ?_ i5 rfl
  refine ⟨⟨(q1.2 1 (by decide)).trans r1, iv⟩, ⟨h1, by rw [iI 4 (by decide) (by decide)]; exact h2, fun i hi => ⟨(h3 i hi).1, fun k hk => by rw [q1.2 4 (by decide)]; exact (h3 i hi).2 k hk⟩⟩, ⟨t1, by rw [iI 7 (by decide) (by decide)]; exact t2, fun i hi => by rw [q1.2 5 (by decide)]; exact t3 i hi⟩, ⟨by rw [iI 11 (by decide) (by decide)]; exact e1, by rw [iI 12 (by decide) (by decide)]; exact e2⟩, by show (rt s.1).length ≤ 800; unfold rt; omega, g1.1, g1.2⟩
/-- bytes of ASCII -/
def Pa (s : st_S) : Prop := ∀ i, i < s.2.2.2.2.2 → s.2.2.2.2.1 i &&& 255 = s.2.2.2.2.1 i
theorem kc_a : ∀ i, i < 66 → ∀ e ∈ kc i, e &&& 255 = e := by decide +kernel
theorem dg_a : ∀ d, d < 10 → sb_b (48 + d) &&& 255 = sb_b (48 + d) := by decide +kernel
theorem dgL_a (x : Nat) : ∀ e ∈ dgL x, e &&& 255 = e := by
  intro e he
  unfold dgL at he
  obtain ⟨i, -, rfl⟩ := List.mem_map.mp he
  unfold sb_dec
  exact dg_a _ (Nat.mod_lt _ (by decide))
theorem pgs_a (w : Nat → Int32) (p : Nat) : ∀ (k i : Nat), ∀ l ∈ m_pgs w p i k, ∀ e ∈ l, e &&& 255 = e
  | 0, _, l, hl, _, _ => absurd hl List.not_mem_nil
  | k + 1, i, l, hl, e, he => by
    rcases List.mem_cons.mp hl with q | q
    · subst q
      rw [List.mem_singleton.mp he]
      decide
    · rcases List.mem_cons.mp q with q | q
      · subst q; exact dgL_a _ e he
      · exact pgs_a w p k (i + 1) l q e he
theorem line_a (w : Nat → Int32) (p : Nat) : ∀ l ∈ m_line w p, ∀ e ∈ l, e &&& 255 = e := by
  intro l hl e he
  unfold m_line at hl
  rcases List.mem_cons.mp hl with q | q
  · subst q; exact kc_a 26 (by decide) e he
  rcases List.mem_cons.mp q with q | q
  · subst q; exact dgL_a _ e he
  rcases List.mem_cons.mp q with q | q
  · subst q
    refine kc_a _ ?_ e he
    unfold m_kd
    split <;> decide
  rcases List.mem_cons.mp q with q | q
  · subst q; exact kc_a 29 (by decide) e he
  rcases List.mem_cons.mp q with q | q
  · subst q
    unfold m_ck at he
    split at he
    · exact kc_a 30 (by decide) e he
    · exact dgL_a _ e he
  rcases List.mem_append.mp q with q | q
  · exact pgs_a w p _ _ l q e he
  · rw [List.mem_singleton.mp q] at he
    rw [List.mem_singleton.mp he]
    decide
theorem lines_a (w : Nat → Int32) : ∀ (k i : Nat), ∀ l ∈ m_lines w i k, ∀ e ∈ l, e &&& 255 = e
  | 0, _, l, hl, _, _ => absurd hl List.not_mem_nil
  | k + 1, i, l, hl, e, he => by
    rcases List.mem_append.mp hl with q | q
    · exact line_a w i l q e he
    · exact lines_a w k (i + 1) l q e he
theorem rep_a (w : Nat → Int32) : ∀ e ∈ rt w, e &&& 255 = e := by
  intro e he
  unfold rt at he
  obtain ⟨l, hl, he⟩ := List.mem_flatten.mp he
  unfold m_rep at hl
  rcases List.mem_append.mp hl with q | q
  · unfold m_head at q
    simp only [List.mem_cons, List.not_mem_nil, or_false] at q
    rcases q with q | q | q | q | q | q | q
    · subst q; exact kc_a 23 (by decide) e he
    · subst q; exact dgL_a _ e he
    · subst q; exact kc_a 24 (by decide) e he
    · subst q; exact dgL_a _ e he
    · subst q; exact kc_a 25 (by decide) e he
    · subst q; exact dgL_a _ e he
    · subst q
      rw [List.mem_singleton.mp he]
      decide
  · exact lines_a w _ _ l q e he
theorem a_rep (s : st_S) : Pa (s_rep s).2.2 := by
  intro i hi
  have hi : i < (rt s.1).length := hi
  show (rt s.1).getD i 0 &&& 255 = (rt s.1).getD i 0
  rw [List.getD_eq_getElem?_getD, List.getElem?_eq_getElem hi]
  exact rep_a s.1 _ (List.getElem_mem hi)
theorem v_rep {s : st_S} (v : Sv s) : Sv (s_rep s).2.2 := v
theorem Pa_p {s s' : st_S} (h : s'.2.2.2.2 = s.2.2.2.2) (a : Pa s) : Pa s' := by unfold Pa; rw [h]; exact a
theorem st_wp (s : st_S) (w : Nat → Int32) : (st_w s w).2.2.2.2 = s.2.2.2.2 := rfl
theorem p_read {s : st_S} {x y : Int32} : (s_read s x y).2.2.2.2.2.2 = s.2.2.2.2 := by unfold s_read; split; rfl; split <;> rfl
theorem p_write {s : st_S} {x y u : Int32} : (s_write s x y u).2.2.2.2.2.2 = s.2.2.2.2 := by unfold s_write; split; rfl; split <;> rfl
theorem p_policy {s : st_S} {x : Int32} : (s_policy s x).2.2.2.2.2.2 = s.2.2.2.2 := by unfold s_policy; split <;> rfl
theorem p_start {s : st_S} {x : Int32} : (s_start s x).2.2.2.2.2.2 = s.2.2.2.2 := by unfold s_start; split; rfl; split <;> rfl
theorem p_flush {s : st_S} {x : Int32} : (s_flush s x).2.2.2.2.2.2 = s.2.2.2.2 := by unfold s_flush; split; rfl; split <;> rfl
theorem p_commit {s : st_S} : (s_commit s).2.2.2.2.2.2 = s.2.2.2.2 := by unfold s_commit; split; rfl; split <;> rfl
theorem p_abandon {s : st_S} : (s_abandon s).2.2.2.2.2.2 = s.2.2.2.2 := by unfold s_abandon; split <;> rfl
theorem p_crash {s : st_S} : (s_crash s).2.2.2.2.2.2 = s.2.2.2.2 := rfl
theorem p_roll {s : st_S} {x : Int32} : (s_roll s x).2.2.2.2.2.2 = s.2.2.2.2 := by unfold s_roll; split; rfl; split; rfl; split <;> rfl
theorem p_evict {s : st_S} {x y : Int32} : (s_evict s x y).2.2.2.2.2.2 = s.2.2.2.2 := by unfold s_evict; split; rfl; split; rfl; split <;> rfl
theorem p_undo {s : st_S} : (s_undo s).2.2.2.2.2.2 = s.2.2.2.2 := by unfold s_undo; split <;> rfl
theorem p_app {s : st_S} {a b c d e : Int32} : (s_app s a b c d e).2.2.2.2.2.2 = s.2.2.2.2 := by unfold s_app; split <;> rfl
theorem p_trunc {s : st_S} {x : Int32} : (s_trunc s x).2.2.2.2.2.2 = s.2.2.2.2 := by unfold s_trunc; split <;> rfl
theorem p_parse {s : st_S} : (s_parse s).2.2.2.2.2.2 = s.2.2.2.2 := by unfold s_parse; split <;> rfl
theorem p_runS {s : st_S} : (s_runS s).2.2.2.2.2.2 = s.2.2.2.2 := by unfold s_runS; split <;> rfl
