/-! the log and the recent accesses -/
theorem nI_sb {a b : Nat} (h : b ≤ a) : nI a - nI b = nI (a - b) := by
  have e : nI (a - b) + nI b = nI a := by rw [nI_add]; congr 1; omega
  rw [← e]; exact Int32.add_sub_cancel _ _
theorem mn_n {a b : Nat} (ha : a < 2 ^ 31) (hb : b < 2 ^ 31) : (if nI a < nI b then nI a else nI b) = nI (min a b) := by
  by_cases h : a < b
  · rw [if_pos ((nI_ltI ha hb).mpr h), show min a b = a by omega]
  · rw [if_neg (fun q => h ((nI_ltI ha hb).mp q)), show min a b = b by omega]
abbrev m_rn (w : Nat → Int32) : Nat := nn (w 12)
abbrev m_gn (w : Nat → Int32) : Nat := nn (w 13)
theorem rn_of {B : Nat} {w : Nat → Int32} (iv : Iv B w) : w 12 = nI (m_rn w) ∧ m_rn w ≤ 64 ∧ ∀ i, i < m_rn w → ∃ k, k < 48 ∧ m_th w k = true ∧ w (512 + i) = nI k := by
  obtain ⟨r, hr, e, hx⟩ := iv.2.2.2.2.2.2.2.2.2.2
  have er : m_rn w = r := by unfold m_rn; rw [e]; exact nn_nI (by omega)
  rw [er]
  exact ⟨e, hr, hx⟩
theorem gn_of {B : Nat} {w : Nat → Int32} (iv : Iv B w) : ∃ c, c ≤ B ∧ w 8 = nI c ∧ w 13 = nI (min c 8) ∧ m_gn w = min c 8 := by
  obtain ⟨c, hc, e8, e13⟩ := iv.2.2.2.2.2.2.2.2.2.1.2.2
  exact ⟨c, hc, e8, e13, by unfold m_gn; rw [e13]; exact nn_nI (by omega)⟩
/-- the class's ring of recent accesses -/
theorem ring_of {B : Nat} {I A : ab_F} {w : Nat → Int32} (r : Rs 8 I A w) (iv : Iv B w) : ∃ n, n < 2 ^ 30 ∧ I 29 2 = nI n ∧ m_rn w = min n 64 ∧ ∀ i, i < m_rn w → A 30 ((n - 1 - i) % 64) = w (512 + i) := by
  obtain ⟨q1, q2, q3, n, a, eb, e4, e5, e6, e7, e8⟩ := r.2.2
  have er : m_rn w = min n 64 := by unfold m_rn; rw [e7]; exact nn_nI (by omega)
  exact ⟨n, by omega, e6, er, fun i hi => e8 i (by omega)⟩
theorem c_countRecent {K : Int32 → ab_F → ab_F → Prop} {B : Nat} {I A : ab_F} {w : Nat → Int32} (r : Rs 8 I A w) (iv : Iv B w) (h : K (nI (m_rn w)) I A) : wX0_countRecent K I A := by
  obtain ⟨n, hn, e, er, -⟩ := ring_of r iv
  unfold wX0_countRecent
  rw [e, mn_n (by omega) (by omega), Nat.min_comm, ← er]
  exact h
theorem c_recentAt {K : Int32 → ab_F → ab_F → Prop} {B i : Nat} {I A : ab_F} {w : Nat → Int32} (r : Rs 8 I A w) (iv : Iv B w) (hi : i < m_rn w) (h : K (w (512 + i)) I A) : wX0_recentAt K I A (nI i) := by
  obtain ⟨n, hn, e, er, hx⟩ := ring_of r iv
  refine ⟨(n - 1 - i) % 64, ?_, by omega, ?_⟩
  · rw [e, nI_sb (by omega), nI_sb (by omega)]
    exact pk_rem (by omega) (by omega) (by omega)
  · rw [hx i hi]; exact h
def s_rec (s : st_S) (x : Int32) : st_O := if m_lt x (m_rn s.1) = false then (1, 0, s) else (0, s.1 (512 + nn x), s)
theorem f_rec {B : Nat} {s : st_S} {x : Int32} {K : Int32 → ab_Z → ab_F → ab_F → Prop} {KX : String → ab_Z → ab_F → ab_F → Prop} {Z : ab_Z} {I A : ab_F} (r : RCs B s Z I A) (o : oC [xIx] B (s_rec s x) K KX) : wX11_recentAccess (fun v I A => K v Z I A) (fun E I A => KX E Z I A) I A x := by
  have hr := rn_of r.1.2
  have g := lt0 (x := x) (n := m_rn s.1) (by omega) rfl (X := wjX11_recentAccess_22 (fun v I A => K v Z I A) (fun E I A => KX E Z I A) x I A) (Y := wjX11_recentAccess_23 (fun v I A => K v Z I A) (fun E I A => KX E Z I A) x (nI 1) I A) (fun e => ?_) (fun e => ?_)
  · exact ⟨g.1, fun h => c_countRecent r.1.1 r.1.2 (g.2 h)⟩
  · exact dmI (b := false) (fun _ => o.x (c := 0) (by unfold s_rec; rw [if_pos e]) rfl (Nat.le_refl _) r) (fun q => nomatch q)
  · refine dmI (b := true) (fun q => nomatch q) (fun _ => ?_)
    obtain ⟨i, hi, ei⟩ := m_lt_of e
    have en : nn x = i := by rw [ei]; exact nn_nI (by omega)
    rw [ei]
    exact c_recentAt r.1.1 r.1.2 hi (o.k (by unfold s_rec; rw [if_neg (by rw [e]; decide), en]) (Nat.le_refl _) r)
theorem r_rec {B : Nat} {s : st_S} {x : Int32} {K : Int32 → ab_F → ab_F → Prop} {I A : ab_F} (r : RMs B s I A) (o : oM B (s_rec s x) K) : wX12_recentAccess K I A x := by
  have e1 : A 1 = s.1 := r.1.1
  have iv : Iv B s.1 := r.1.2
  have hr := rn_of iv
  refine q_in0 (n := m_rn s.1) (by rw [e1]; exact hr.1) (by omega) (bb' (fun q => ?_) (fun q => ?_))
  · refine q_fails (b := true) (bb (fun q2 => nomatch q2) (fun _ => ?_))
    exact o.x (c := 0) (by unfold s_rec; rw [if_pos q]) (Nat.le_refl _) (RM_5 r) w5
  · refine q_fails (b := false) (bb (fun _ => ?_) (fun q2 => nomatch q2))
    obtain ⟨i, hi, ei⟩ := m_lt_of q
    have en : nn x = i := by rw [ei]; exact nn_nI (by omega)
    refine ixv ei (by omega) ?_
    rw [e1]
    exact o.k (by unfold s_rec; rw [if_neg (by rw [q]; decide), en]) (Nat.le_refl _) (RM_5 r) w5 rfl
def s_log (s : st_S) (x y : Int32) : st_O := if m_lt x (m_gn s.1) = false then (1, 0, s) else if m_lt y 4 = false then (2, 0, s) else (0, s.1 (576 + (4 * nn x + nn y)), s)
theorem f_log {B : Nat} {s : st_S} {x y : Int32} {K : Int32 → ab_Z → ab_F → ab_F → Prop} {KX : String → ab_Z → ab_F → ab_F → Prop} {Z : ab_Z} {I A : ab_F} (r : RCs B s Z I A) (hB : B < 2 ^ 30) (o : oC [xIx, xAr] B (s_log s x y) K KX) : wX11_barrierLog (fun v I A => K v Z I A) (fun E I A => KX E Z I A) I A x y := by
  obtain ⟨c, hc, e8, e13, eg⟩ := gn_of r.1.2
  have i3 : I 24 3 = nI c := (r.1.1.2.1.1.2.2).trans e8
  have g := lt0 (x := x) (n := m_gn s.1) (by omega) rfl (X := wjX11_barrierLog_22 (fun v I A => K v Z I A) (fun E I A => KX E Z I A) x y I A) (Y := wjX11_barrierLog_23 (fun v I A => K v Z I A) (fun E I A => KX E Z I A) x y (nI 1) I A) (fun e => ?_) (fun e => ?_)
  · refine ⟨g.1, fun h => ?_⟩
    unfold wX1_countLogged
    rw [i3, mn_n (by omega) (by omega), Nat.min_comm, ← eg]
    exact g.2 h
  · exact dmI (b := false) (fun _ => o.x (c := 0) (by unfold s_log; rw [if_pos e]) rfl (Nat.le_refl _) r) (fun q => nomatch q)
  · refine dmI (b := true) (fun q => nomatch q) (fun _ => ?_)
    obtain ⟨i, hi, ei⟩ := m_lt_of e
    have en : nn x = i := by rw [ei]; exact nn_nI (by omega)
    have h1 : ¬ m_lt x (m_gn s.1) = false := by rw [e]; decide
    refine lt0 (x := y) (n := 4) (by omega) rfl (fun e2 => ?_) (fun e2 => ?_)
    · exact dmA (b := false) (fun _ => o.x (c := 1) (by unfold s_log; rw [if_neg h1, if_pos e2]) rfl (Nat.le_refl _) r) (fun q => nomatch q)
    · refine dmA (b := true) (fun q => nomatch q) (fun _ => ?_)
      obtain ⟨j, hj, ej⟩ := m_lt_of e2
      have en2 : nn y = j := by rw [ej]; exact nn_nI (by omega)
      refine ⟨(c - 1 - i) % 8 * 4 + j, ?_, by omega, ?_⟩
      · rw [i3, ei, ej, nI_sb (by omega), nI_sb (by omega), pk_rem (by omega) (by omega) (by omega), show nI ((c - 1 - i) % 8) * nI 4 = nI ((c - 1 - i) % 8 * 4) from (Int32.ofNat_mul _ 4).symm, nI_add]
      · rw [show A 28 ((c - 1 - i) % 8 * 4 + j) = s.1 (576 + (4 * i + j)) from r.1.1.2.1.2.2.2.2 c e8 (by omega) i (by omega) j hj]
        exact o.k (by unfold s_log; rw [if_neg h1, if_neg (by rw [e2]; decide), en, en2]) (Nat.le_refl _) r
theorem r_log {B : Nat} {s : st_S} {x y : Int32} {K : Int32 → ab_F → ab_F → Prop} {I A : ab_F} (r : RMs B s I A) (o : oM B (s_log s x y) K) : wX12_barrierLog K I A x y := by
  have e1 : A 1 = s.1 := r.1.1
  have iv : Iv B s.1 := r.1.2
  obtain ⟨c, hc, e8, e13, eg⟩ := gn_of iv
  refine q_in0 (n := m_gn s.1) (by rw [e1, e13, eg]) (by omega) (bb' (fun q => ?_) (fun q => ?_))
  · refine q_fails (b := true) (bb' (fun q2 => nomatch q2) (fun _ => ?_))
    exact o.x (c := 0) (by unfold s_log; rw [if_pos q]) (Nat.le_refl _) (RM_5 r) w5
  · refine q_fails (b := false) (bb' (fun _ => ?_) (fun q2 => nomatch q2))
    obtain ⟨i, hi, ei⟩ := m_lt_of q
    have en : nn x = i := by rw [ei]; exact nn_nI (by omega)
    have h1 : ¬ m_lt x (m_gn s.1) = false := by rw [q]; decide
    refine q_inN (n := 3) rfl (bb' (fun q2 => ?_) (fun q2 => ?_))
    · refine q_fails (b := true) (bb (fun q3 => nomatch q3) (fun _ => ?_))
      exact o.x (c := 1) (by unfold s_log; rw [if_neg h1, if_pos q2]) (Nat.le_refl _) (RM_5 (RM_5 r)) w5
    · refine q_fails (b := false) (bb (fun _ => ?_) (fun q3 => nomatch q3))
      obtain ⟨j, hj, ej⟩ := m_lt_of q2
      have en2 : nn y = j := by rw [ej]; exact nn_nI (by omega)
      refine ⟨576 + (4 * i + j), by rw [ei, ej, show nI 4 * nI i = nI (4 * i) from (Int32.ofNat_mul 4 i).symm, nI_add, nI_add, Nat.add_assoc], by omega, ?_⟩
      rw [e1]
      exact o.k (by unfold s_log; rw [if_neg h1, if_neg (by rw [q2]; decide), en, en2]) (Nat.le_refl _) (RM_5 (RM_5 r)) w5 rfl
/-! the hottest page -/
theorem cn_split {p : Nat → Bool} {a : Nat} : ∀ b, cn p (a + b) = cn p a + cn (fun i => p (a + i)) b
  | 0 => by simp [cn]
  | b + 1 => by rw [show a + (b + 1) = (a + b) + 1 by omega, cn, cn, cn_split b]; omega
theorem cn_rev : ∀ (m : Nat) (p : Nat → Bool), cn (fun i => p (m - 1 - i)) m = cn p m
  | 0, p => rfl
  | m + 1, p => by
    have h1 : cn p (m + 1) = cn p 1 + cn (fun i => p (1 + i)) m := by rw [show m + 1 = 1 + m by omega]; exact cn_split m
    have h2 := cn_rev m (fun i => p (1 + i))
    rw [h1, ← h2, cn]
    have h3 : cn (fun i => p (m + 1 - 1 - i)) m = cn (fun i => p (1 + (m - 1 - i))) m := cn_congr (fun i hi => by
      show p (m + 1 - 1 - i) = p (1 + (m - 1 - i))
      congr 1; omega)
    rw [h3, show m + 1 - 1 - m = 0 by omega, cn, cn]
    omega
theorem cn_rot {p : Nat → Bool} {m r : Nat} (hr : r < m) : cn (fun i => p ((r + i) % m)) m = cn p m := by
  have h1 : cn (fun i => p ((r + i) % m)) m = cn (fun i => p ((r + i) % m)) ((m - r) + r) := by congr 1; omega
  have h2 : cn p m = cn p (r + (m - r)) := by congr 1; omega
  rw [h1, cn_split r, h2, cn_split (m - r)]
  have h3 : cn (fun i => p ((r + i) % m)) (m - r) = cn (fun i => p (r + i)) (m - r) := cn_congr (fun i hi => by
    show p ((r + i) % m) = p (r + i)
    rw [Nat.mod_eq_of_lt (by omega)])
  have h4 : cn (fun i => p ((r + (m - r + i)) % m)) r = cn p r := cn_congr (fun i hi => by
    show p ((r + (m - r + i)) % m) = p i
    rw [show r + (m - r + i) = i + m by omega, Nat.add_mod_right, Nat.mod_eq_of_lt (by omega)])
  rw [h3, h4]
  omega
/-- how often a page is among the latest n accesses -/
def m_am (w : Nat → Int32) (n k : Nat) : Nat := cn (fun i => decide (w (512 + i) = nI k)) (min n (m_rn w))
theorem ring_cn {B : Nat} {I A : ab_F} {w : Nat → Int32} (r : Rs 8 I A w) (iv : Iv B w) (q : Int32 → Bool) : cn (fun j => q (A 30 j)) (m_rn w) = cn (fun i => q (w (512 + i))) (m_rn w) := by
  obtain ⟨n, hn, e, er, hx⟩ := ring_of r iv
  have h0 : cn (fun i => q (w (512 + i))) (m_rn w) = cn (fun i => q (A 30 ((n - 1 - i) % 64))) (m_rn w) := cn_congr (fun i hi => by rw [hx i hi])
  rw [h0]
  by_cases h : n ≤ 64
  · have er2 : m_rn w = n := by omega
    rw [er2, ← cn_rev n (fun j => q (A 30 j))]
    exact cn_congr (fun i hi => by
      show q (A 30 (n - 1 - i)) = q (A 30 ((n - 1 - i) % 64))
      rw [Nat.mod_eq_of_lt (by omega)])
  · have er2 : m_rn w = 64 := by omega
    rw [er2, ← cn_rot (p := fun j => q (A 30 j)) (m := 64) (r := n % 64) (by omega), ← cn_rev 64 (fun i => q (A 30 ((n % 64 + i) % 64)))]
    exact cn_congr (fun i hi => by
      show q (A 30 ((n % 64 + (64 - 1 - i)) % 64)) = q (A 30 ((n - 1 - i) % 64))
      congr 2; omega)
theorem c_countOf {K : Int32 → ab_F → ab_F → Prop} {B k : Nat} {I A : ab_F} {w : Nat → Int32} (r : Rs 8 I A w) (iv : Iv B w) (h : K (nI (m_am w 64 k)) I A) : wX0_countOf K I A (nI k) := by
  have hr := rn_of iv
  have e : m_am w 64 k = cn (fun j => decide (A 30 j = nI k)) (m_rn w) := by
    unfold m_am
    rw [show min 64 (m_rn w) = m_rn w by omega]
    exact (ring_cn r iv (fun v => decide (v = nI k))).symm
  rw [e] at h
  refine lp (W := fun n i => wlX0_countOf_4 K n (nI k) (nI (cn (fun j => decide (A 30 j = nI k)) i)) (nI i) I A) (e := m_rn w) (fun n => ?_) (fun n i hi hw => ?_)
  · exact c_countRecent r iv (br_t (nI_le (Nat.le_refl _) (by omega)) h)
  · refine c_countRecent r iv (br_f (nI_ge hi (by omega)) (ix0 (by omega) ?_))
    rw [cn] at hw
    rw [nI_add i 1]
    by_cases q : A 30 i = nI k
    · refine rb_t q ?_
      rw [decide_eq_true q] at hw
      rw [nI_add _ 1]; exact hw
    · refine rb_f q ?_
      rw [decide_eq_false q] at hw
      exact hw
theorem q_among {K : Int32 → ab_F → ab_F → Prop} {B k n : Nat} {I A : ab_F} (iv : Iv B (A 1)) (hn : n < 2 ^ 31) (h : K (nI (m_am (A 1) n k)) I A) : wX12_among K I A (nI k) (nI n) := by
  have hr := rn_of iv
  refine lp (W := fun m i => wlX12_among_5 K m (nI k) (nI n) (nI (cn (fun i => decide (A 1 (512 + i) = nI k)) i)) (nI i) I A) (e := min n (m_rn (A 1))) (fun m => ?_) (fun m i hi hw => ?_)
  · by_cases q : n ≤ m_rn (A 1)
    · exact br_t (nI_le (by omega) (by omega)) h
    · exact br_f (nI_ge (by omega) (by omega)) (br_t (by rw [hr.1]; exact nI_le (by omega) (by omega)) h)
  · refine br_f (nI_ge (by omega) (by omega)) (br_f (by rw [hr.1]; exact nI_ge (by omega) (by omega)) (ixa (by omega) ?_))
    rw [cn] at hw
    rw [nI_add i 1]
    by_cases q : A 1 (512 + i) = nI k
    · refine rb_t q (nm_r (nI_add _ 1) ?_)
      rw [decide_eq_true q] at hw
      exact hw
    · refine rb_f q (nm_r (nI_add _ 0) ?_)
      rw [decide_eq_false q] at hw
      exact hw
def m_hot (w : Nat → Int32) : Nat → Nat
  | 0 => 0
  | n + 1 => if m_am w 64 (m_hot w n) < m_am w 64 (n + 1) then n + 1 else m_hot w n
theorem hot_le (w : Nat → Int32) : ∀ n, m_hot w n ≤ n
  | 0 => Nat.le_refl 0
  | n + 1 => by have := hot_le w n; rw [m_hot]; split <;> omega
theorem hot_max (w : Nat → Int32) : ∀ n k, k ≤ n → m_am w 64 k ≤ m_am w 64 (m_hot w n)
  | 0, k, h => by rw [show k = 0 by omega]; exact Nat.le_refl _
  | n + 1, k, h => by
    rw [m_hot]
    by_cases e : k = n + 1
    · subst e; split <;> omega
    · have := hot_max w n k (by omega)
      split <;> omega
theorem am_le (w : Nat → Int32) (n k : Nat) : m_am w n k ≤ n := by unfold m_am; have := cn_le (p := fun i => decide (w (512 + i) = nI k)) (min n (m_rn w)); omega
def s_hot (s : st_S) : st_O := if m_rn s.1 = 0 then (1, 0, s) else (0, nI (m_hot s.1 47), s)
theorem cn_pos {p : Nat → Bool} {k : Nat} (hp : p k = true) : ∀ {n : Nat}, k < n → 0 < cn p n
  | 0, h => by omega
  | n + 1, h => by
    rw [cn]
    by_cases e : k = n
    · subst e; rw [hp]; simp
    · have := cn_pos hp (n := n) (by omega); omega
theorem hot_pos {B : Nat} {w : Nat → Int32} (iv : Iv B w) (h : m_rn w ≠ 0) : 0 < m_am w 64 (m_hot w 47) := by
  have hr := rn_of iv
  obtain ⟨k, hk, -, ek⟩ := hr.2.2 0 (by omega)
  have h1 := hot_max w 47 k (by omega)
  have h2 : 0 < m_am w 64 k := cn_pos (k := 0) (decide_eq_true ek) (by omega)
  omega
theorem c_hot {K : Int32 → ab_F → ab_F → Prop} {B : Nat} {I A : ab_F} {w : Nat → Int32} (r : Rs 8 I A w) (iv : Iv B w) (h0 : m_rn w ≠ 0) (h : K (nI (m_hot w 47)) I A) : wX0_mostFrequent K I A := by
  have hp := hot_pos iv h0
  have nx : ∀ n i x2 (x1 : Int32), i < 48 → (∀ b, wlX0_mostFrequent_6 K n b (nI (m_am w 64 (m_hot w i))) (nI (i + 1)) I A → True) → x2 ≤ 64 → (m_am w 64 i ≤ x2 → wlX0_mostFrequent_6 K n x1 (nI x2) (nI (i + 1)) I A) → (¬ m_am w 64 i ≤ x2 → wlX0_mostFrequent_6 K n (nI i) (nI (m_am w 64 i)) (nI (i + 1)) I A) → wlX0_mostFrequent_6 K (n + 1) x1 (nI x2) (nI i) I A := by
    intro n i x2 x1 hi _ h2 ha hb
    have ha2 := am_le w 64 i
    refine br_f (nI_ge hi (by omega)) (c_countOf r iv ?_)
    rw [nI_leI (by omega) (by omega), nI_add i 1]
    by_cases q : m_am w 64 i ≤ x2
    · exact br_t q (ha q)
    · exact br_f q (hb q)
  have g : ∀ m i, i + m = 47 → wlX0_mostFrequent_6 K (m + 1) (if m_am w 64 (m_hot w i) = 0 then -1 else nI (m_hot w i)) (nI (m_am w 64 (m_hot w i))) (nI (i + 1)) I A := by
    intro m
    induction m with
    | zero =>
      intro i hi
      rw [show i = 47 by omega]
      refine br_t (nI_le (by omega) (by omega)) ?_
      rw [if_neg (by omega)]; exact h
    | succ m ih =>
      intro i hi
      have ih2 := ih (i + 1) (by omega)
      have ha := am_le w 64 (m_hot w i)
      rw [m_hot] at ih2
      refine nx (m + 1) (i + 1) _ _ (by omega) (fun _ _ => trivial) ha (fun q => ?_) (fun q => ?_)
      · rw [if_neg (show ¬ m_am w 64 (m_hot w i) < m_am w 64 (i + 1) by omega)] at ih2; exact ih2
      · rw [if_pos (show m_am w 64 (m_hot w i) < m_am w 64 (i + 1) by omega), if_neg (show ¬ m_am w 64 (i + 1) = 0 by omega)] at ih2; exact ih2
  refine ⟨49, nx 48 0 0 (-1) (by omega) (fun _ _ => trivial) (by omega) (fun q => ?_) (fun q => ?_)⟩
  · have g0 := g 47 0 rfl
    rw [show m_hot w 0 = 0 from rfl, if_pos (by omega), show m_am w 64 0 = 0 by omega] at g0
    exact g0
  · have g0 := g 47 0 rfl
    rw [show m_hot w 0 = 0 from rfl, if_neg (by omega)] at g0
    exact g0
theorem f_hot {B : Nat} {s : st_S} {K : Int32 → ab_Z → ab_F → ab_F → Prop} {KX : String → ab_Z → ab_F → ab_F → Prop} {Z : ab_Z} {I A : ab_F} (r : RCs B s Z I A) (o : oC [xEl] B (s_hot s) K KX) : wX11_hottestPage (fun v I A => K v Z I A) (fun E I A => KX E Z I A) I A := by
  have hr := rn_of r.1.2
  refine c_countRecent r.1.1 r.1.2 ?_
  rw [Int32.le_iff_toInt_le, nI_toInt (by omega), show (0 : Int32).toInt = 0 from rfl]
  by_cases q : m_rn s.1 = 0
  · exact br_t (by omega) (dmE (b := false) (fun _ => o.x (c := 0) (by unfold s_hot; rw [if_pos q]) rfl (Nat.le_refl _) r) (fun q => nomatch q))
  · exact br_f (by omega) (dmE (b := true) (fun q => nomatch q) (fun _ => c_hot r.1.1 r.1.2 q (o.k (by unfold s_hot; rw [if_neg q]) (Nat.le_refl _) r)))
theorem r_hot {B : Nat} {s : st_S} {K : Int32 → ab_F → ab_F → Prop} {I A : ab_F} (r : RMs B s I A) (o : oM B (s_hot s) K) : wX12_hottestPage K I A := by
  have e1 : A 1 = s.1 := r.1.1
  have iv : Iv B s.1 := r.1.2
  have hr := rn_of iv
  unfold wX12_hottestPage
  rw [e1, hr.1]
  by_cases q : m_rn s.1 = 0
  · refine rb_t (by rw [q]; rfl) (q_fails (b := true) (bb (fun q2 => nomatch q2) (fun _ => ?_)))
    exact o.x (c := 0) (by unfold s_hot; rw [if_pos q]) (Nat.le_refl _) (RM_5 r) w5
  · refine rb_f (fun q2 => q ((nI_eq (by omega) (by omega)).mp (q2.trans (show (0 : Int32) = nI 0 from rfl)))) (q_fails (b := false) (bb (fun _ => ?_) (fun q2 => nomatch q2)))
    have g : K (nI (m_hot s.1 47)) (wr I 0 5 (if false = true then nI 1 else nI 0)) A := o.k (by unfold s_hot; rw [if_neg q]) (Nat.le_refl _) (RM_5 r) w5 rfl
    generalize wr I 0 5 (if false = true then nI 1 else nI 0) = J at g ⊢
    refine lp (W := fun n i => wlX12_hottestPage_29 K n (nI (m_hot s.1 i)) (nI (i + 1)) J A) (e := 47) (fun n => ?_) (fun n i hi hw => ?_)
    · exact br_t (nI_le (by omega) (by omega)) g
    · have a1 := am_le s.1 64 (i + 1)
      have a2 := am_le s.1 64 (m_hot s.1 i)
      refine br_f (nI_ge (by omega) (by omega)) (q_among (B := B) (n := 64) (by rw [e1]; exact iv) (by omega) (q_among (B := B) (n := 64) (by rw [e1]; exact iv) (by omega) ?_))
      rw [e1, nI_leI (by omega) (by omega), nI_add (i + 1) 1]
      rw [m_hot] at hw
      by_cases c : m_am s.1 64 (i + 1) ≤ m_am s.1 64 (m_hot s.1 i)
      · rw [if_neg (by omega)] at hw; exact br_t c hw
      · rw [if_pos (by omega)] at hw; exact br_f c hw
