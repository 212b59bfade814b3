/-! what every call keeps -/
def Sv (s : st_S) : Prop := Nv s.1 ∧ ∀ i, i < s.2.1.2 → Nv (s.2.1.1 i)
theorem v_ec {s : st_S} : (s_ec s).2.2 = s := by
  unfold s_ec
  repeat (first | rfl | split)
theorem v_ep {s : st_S} : (s_ep s).2.2 = s := by
  unfold s_ep
  repeat (first | rfl | split)
theorem v_pc {s : st_S} : (s_pc s).2.2 = s := by
  unfold s_pc
  repeat (first | rfl | split)
theorem v_fc {s : st_S} : (s_fc s).2.2 = s := by
  unfold s_fc
  repeat (first | rfl | split)
theorem v_sc {s : st_S} : (s_sc s).2.2 = s := by
  unfold s_sc
  repeat (first | rfl | split)
theorem v_epo {s : st_S} : (s_epo s).2.2 = s := by
  unfold s_epo
  repeat (first | rfl | split)
theorem v_bset {s : st_S} : (s_bset s).2.2 = s := by
  unfold s_bset
  repeat (first | rfl | split)
theorem v_udep {s : st_S} : (s_udep s).2.2 = s := by
  unfold s_udep
  repeat (first | rfl | split)
theorem v_pgc {s : st_S} {x : Int32} : (s_pgc s x).2.2 = s := by
  unfold s_pgc
  repeat (first | rfl | split)
theorem v_kind {s : st_S} {x : Int32} : (s_kind s x).2.2 = s := by
  unfold s_kind
  repeat (first | rfl | split)
theorem v_cke {s : st_S} {x : Int32} : (s_cke s x).2.2 = s := by
  unfold s_cke
  repeat (first | rfl | split)
theorem v_peek {s : st_S} {x y : Int32} : (s_peek s x y).2.2 = s := by
  unfold s_peek
  repeat (first | rfl | split)
theorem v_frof {s : st_S} {x y : Int32} : (s_frof s x y).2.2 = s := by
  unfold s_frof
  repeat (first | rfl | split)
theorem v_slof {s : st_S} {x y : Int32} : (s_slof s x y).2.2 = s := by
  unfold s_slof
  repeat (first | rfl | split)
theorem v_frow {s : st_S} {x : Int32} : (s_frow s x).2.2 = s := by
  unfold s_frow
  repeat (first | rfl | split)
theorem v_slow {s : st_S} {x : Int32} : (s_slow s x).2.2 = s := by
  unfold s_slow
  repeat (first | rfl | split)
theorem v_slst {s : st_S} {x : Int32} : (s_slst s x).2.2 = s := by
  unfold s_slst
  repeat (first | rfl | split)
theorem v_slva {s : st_S} {x : Int32} : (s_slva s x).2.2 = s := by
  unfold s_slva
  repeat (first | rfl | split)
theorem v_state {s : st_S} {x y : Int32} : (s_state s x y).2.2 = s := by
  unfold s_state
  repeat (first | rfl | split)
theorem v_res {s : st_S} {x : Int32} : (s_res s x).2.2 = s := by
  unfold s_res
  repeat (first | rfl | split)
theorem v_dir {s : st_S} {x : Int32} : (s_dir s x).2.2 = s := by
  unfold s_dir
  repeat (first | rfl | split)
theorem v_ftime {s : st_S} {x y : Int32} : (s_ftime s x y).2.2 = s := by
  unfold s_ftime
  repeat (first | rfl | split)
theorem v_victim {s : st_S} : (s_victim s).2.2 = s := by
  unfold s_victim
  repeat (first | rfl | split)
theorem v_use {s : st_S} {x : Int32} : (s_use s x).2.2 = s := by
  unfold s_use
  repeat (first | rfl | split)
theorem v_next {s : st_S} : (s_next s).2.2 = s := by
  unfold s_next
  repeat (first | rfl | split)
theorem v_free {s : st_S} : (s_free s).2.2 = s := by
  unfold s_free
  repeat (first | rfl | split)
theorem v_shared {s : st_S} : (s_shared s).2.2 = s := by
  unfold s_shared
  repeat (first | rfl | split)
theorem v_run {s : st_S} : (s_run s).2.2 = s := by
  unfold s_run
  repeat (first | rfl | split)
theorem v_twins {s : st_S} {x : Int32} : (s_twins s x).2.2 = s := by
  unfold s_twins
  repeat (first | rfl | split)
theorem v_pend {s : st_S} : (s_pend s).2.2 = s := by
  unfold s_pend
  repeat (first | rfl | split)
theorem v_pendAt {s : st_S} {x : Int32} : (s_pendAt s x).2.2 = s := by
  unfold s_pendAt
  repeat (first | rfl | split)
theorem v_ckSlot {s : st_S} {x y : Int32} : (s_ckSlot s x y).2.2 = s := by
  unfold s_ckSlot
  repeat (first | rfl | split)
theorem v_ckVal {s : st_S} {x y : Int32} : (s_ckVal s x y).2.2 = s := by
  unfold s_ckVal
  repeat (first | rfl | split)
theorem v_lost {s : st_S} {x : Int32} : (s_lost s x).2.2 = s := by
  unfold s_lost
  repeat (first | rfl | split)
theorem v_wW {s : st_S} {x : Int32} : (s_wW s x).2.2 = s := by
  unfold s_wW
  repeat (first | rfl | split)
theorem v_wF {s : st_S} {x : Int32} : (s_wF s x).2.2 = s := by
  unfold s_wF
  repeat (first | rfl | split)
theorem v_best {s : st_S} {x : Int32} : (s_best s x).2.2 = s := by
  unfold s_best
  repeat (first | rfl | split)
theorem v_total {s : st_S} {x : Int32} : (s_total s x).2.2 = s := by
  unfold s_total
  repeat (first | rfl | split)
theorem v_rec {s : st_S} {x : Int32} : (s_rec s x).2.2 = s := by
  unfold s_rec
  repeat (first | rfl | split)
theorem v_log {s : st_S} {x y : Int32} : (s_log s x y).2.2 = s := by
  unfold s_log
  repeat (first | rfl | split)
theorem v_hot {s : st_S} : (s_hot s).2.2 = s := by
  unfold s_hot
  repeat (first | rfl | split)
theorem v_fsl {s : st_S} {x : Int32} : (s_fsl s x).2.2 = s := by
  unfold s_fsl
  repeat (first | rfl | split)
theorem v_flt {s : st_S} {x y : Int32} : (s_flt s x y).2.2 = s := by
  unfold s_flt
  repeat (first | rfl | split)
theorem v_lf {s : st_S} {x : Int32} : (s_lf s x).2.2 = s := by
  unfold s_lf
  repeat (first | rfl | split)
theorem v_repB {s : st_S} {x : Int32} : (s_repB s x).2.2 = s := by
  unfold s_repB
  repeat (first | rfl | split)
theorem v_peekF {s : st_S} {x y : Int32} : (s_peekF s x y).2.2 = s := by
  unfold s_peekF
  repeat (first | rfl | split)
theorem v_hit {s : st_S} : (s_hit s).2.2 = s := by
  unfold s_hit
  repeat (first | rfl | split)
theorem v_ws {s : st_S} {x : Int32} : (s_ws s x).2.2 = s := by
  unfold s_ws
  repeat (first | rfl | split)
theorem hp_Nv {h : st_H} {w : Nat → Int32} (n : Nv w) (hs : ∀ i, i < h.2 → Nv (h.1 i)) : ∀ i, i < (h_p h w).2 → Nv ((h_p h w).1 i) := by
  intro i hi
  unfold h_p at hi ⊢
  by_cases c : h.2 = 10
  · rw [if_pos c] at hi ⊢
    have hi' : i < 10 := hi
    show Nv (if i = 9 then w else h.1 (i + 1))
    by_cases c2 : i = 9
    · rw [if_pos c2]; exact n
    · rw [if_neg c2]; exact hs _ (by omega)
  · rw [if_neg c] at hi ⊢
    have hi' : i < h.2 + 1 := hi
    show Nv (if i = h.2 then w else h.1 i)
    by_cases c2 : i = h.2
    · rw [if_pos c2]; exact n
    · rw [if_neg c2]; exact hs _ (by omega)
theorem Sv_w {s : st_S} {w : Nat → Int32} (v : Sv s) (n : Nv w) : Sv (st_w s w) := ⟨n, hp_Nv v.1 v.2⟩
theorem v_read {B : Nat} {s : st_S} {x y : Int32} (iv : Iv B s.1) (v : Sv s) : Sv (s_read s x y).2.2 := by
  unfold s_read
  by_cases c1 : m_pg s.1 x y = false
  · rw [if_pos c1]; exact v
  · rw [if_neg c1]
    by_cases c2 : m_stk s.1 (m_id x y) false = true
    · rw [if_pos c2]; exact v
    · rw [if_neg c2]
      exact Sv_w v (Nv_xop (c := 0) (x := x) (y := y) (v := 0) (by omega) iv v.1 (show x_rd s.1 x y = some _ by unfold x_rd; rw [if_neg c1, if_neg c2]))
theorem v_write {B : Nat} {s : st_S} {x y u : Int32} (iv : Iv B s.1) (v : Sv s) : Sv (s_write s x y u).2.2 := by
  unfold s_write
  by_cases c1 : m_pg s.1 x y = false
  · rw [if_pos c1]; exact v
  · rw [if_neg c1]
    by_cases c2 : m_stk s.1 (m_id x y) true = true
    · rw [if_pos c2]; exact v
    · rw [if_neg c2]
      exact Sv_w v (Nv_xop (c := 1) (x := x) (y := y) (v := u) (by omega) iv v.1 (show x_wr s.1 x y u = some _ by unfold x_wr; rw [if_neg c1, if_neg c2]))
theorem v_policy {s : st_S} {x : Int32} (v : Sv s) : Sv (s_policy s x).2.2 := by
  unfold s_policy
  by_cases c1 : m_lt x 3 = false
  · rw [if_pos c1]; exact v
  · rw [if_neg c1]
    exact Sv_w v (Nv_fr (fun j hj => by unfold Fj at hj; exact uw_ne (by omega)) v.1)
theorem v_start {s : st_S} {x : Int32} (v : Sv s) : Sv (s_start s x).2.2 := by
  unfold s_start
  by_cases c1 : m_set s.1 x = false
  · rw [if_pos c1]; exact v
  · rw [if_neg c1]
    by_cases c2 : s.1 10 = 0
    · rw [if_pos c2]; exact Sv_w v (Nv_sta v.1)
    · rw [if_neg c2]; exact v
theorem v_flush {B : Nat} {s : st_S} {x : Int32} (iv : Iv B s.1) (v : Sv s) : Sv (s_flush s x).2.2 := by
  unfold s_flush
  by_cases c1 : m_148 x = false
  · rw [if_pos c1]; exact v
  · rw [if_neg c1]
    by_cases c2 : s.1 10 = 0
    · rw [if_pos c2]; exact v
    · rw [if_neg c2]; exact Sv_w v (Nv_fl 48 0 (nn x) s.1 rfl iv v.1)
theorem v_commit {B : Nat} {s : st_S} (iv : Iv B s.1) (v : Sv s) : Sv (s_commit s).2.2 := by
  unfold s_commit
  by_cases c1 : s.1 10 = 0
  · rw [if_pos c1]; exact v
  · rw [if_neg c1]
    by_cases c2 : m_pc s.1 = 0
    · rw [if_pos c2]; exact Sv_w v (Nv_com iv v.1)
    · rw [if_neg c2]; exact v
theorem v_abandon {s : st_S} (v : Sv s) : Sv (s_abandon s).2.2 := by
  unfold s_abandon
  by_cases c1 : s.1 10 = 0
  · rw [if_pos c1]; exact v
  · rw [if_neg c1]; exact Sv_w v (Nv_10 v.1)
theorem v_crash {B : Nat} {s : st_S} (iv : Iv B s.1) (v : Sv s) : Sv (s_crash s).2.2 := Sv_w v (Nv_crs iv v.1)
theorem v_roll {B : Nat} {s : st_S} {x : Int32} (iv : Iv B s.1) (v : Sv s) : Sv (s_roll s x).2.2 := by
  unfold s_roll
  by_cases c1 : m_lt x (m_P s.1) = false
  · rw [if_pos c1]; exact v
  · rw [if_neg c1]
    by_cases c2 : s.1 (26 + nn x) = -1
    · rw [if_pos c2]; exact v
    · rw [if_neg c2]
      by_cases c3 : m_has (s.1 10) (nn x) = true
      · rw [if_pos c3]; exact v
      · rw [if_neg c3]
        exact Sv_w v (Nv_xop (c := 7) (x := x) (y := 0) (v := 0) (by omega) iv v.1 (show x_rb s.1 x = some _ by unfold x_rb; rw [if_neg c1, if_neg c2, if_neg c3]))
theorem v_evict {B : Nat} {s : st_S} {x y : Int32} (iv : Iv B s.1) (v : Sv s) : Sv (s_evict s x y).2.2 := by
  unfold s_evict
  by_cases c1 : m_pg s.1 x y = false
  · rw [if_pos c1]; exact v
  · rw [if_neg c1]
    by_cases c2 : s.1 (128 + m_id x y) = -1
    · rw [if_pos c2]; exact v
    · rw [if_neg c2]
      by_cases c3 : (decide (s.1 (176 + m_id x y) = nI 1) && (m_nf s.1).isNone) = true
      · rw [if_pos c3]; exact v
      · rw [if_neg c3]
        exact Sv_w v (Nv_xop (c := 8) (x := x) (y := y) (v := 0) (by omega) iv v.1 (show x_ev s.1 x y = some _ by unfold x_ev; rw [if_neg c1, if_neg c2, if_neg c3]))
theorem v_undo {s : st_S} (v : Sv s) : Sv (s_undo s).2.2 := by
  unfold s_undo
  by_cases c1 : s.2.1.2 = 0
  · rw [if_pos c1]; exact v
  · rw [if_neg c1]
    exact ⟨Nv_ew (cp_ew _ _) (v.2 (s.2.1.2 - 1) (by omega)), fun i hi => v.2 i (by have : i < s.2.1.2 - 1 := hi; omega)⟩
theorem v_app {s : st_S} {a b c d e : Int32} (v : Sv s) : Sv (s_app s a b c d e).2.2 := by
  unfold s_app
  split <;> exact v
theorem v_trunc {s : st_S} {x : Int32} (v : Sv s) : Sv (s_trunc s x).2.2 := by
  unfold s_trunc
  split <;> exact v
theorem v_parse {s : st_S} (v : Sv s) : Sv (s_parse s).2.2 := by
  unfold s_parse
  by_cases c1 : (p_sys s.2.2.1 wl0).1.1 ≠ 0
  · rw [if_pos c1]; exact v
  · rw [if_neg c1]
    exact ⟨Nv_ew (cp_ew _ _) (Nv_G (Gw_sys s.2.2.1 (by omega))), fun i hi => absurd hi (by show ¬ i < 0; omega)⟩
theorem v_runS {B : Nat} {s : st_S} (ht : s.2.2.1.2 ≤ 400) (hB : B + 401 < 2 ^ 29) (iv : Iv B s.1) (v : Sv s) : Sv (s_runS s).2.2 := by
  have z := nt_To s.2.2.1 (b := 0) (by omega)
  have n : Nv (s_scr s).2.2 := Nv_sc ht hB _ 0 s.1 _ z (by omega) iv v.1
  unfold s_runS
  by_cases c1 : (s_scr s).1 = true
  · rw [if_pos c1]; exact ⟨n, hp_Nv v.1 v.2⟩
  · rw [if_neg c1]; exact ⟨Nv_ew (cp_ew s.1 _) v.1, v.2⟩
