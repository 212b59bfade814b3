/-! the report's appends in the class's world -/
def SBl (Z : ab_Z) (I A : ab_F) (L : List Int32) (cap : Nat) : Prop := ab_SB Z I A (fun i => L.getD i 0) L.length cap
/-- what writing the report leaves as it was -/
def Rp (Z : ab_Z) (I A : ab_F) (Z' : ab_Z) (I' A' : ab_F) : Prop := Z'.1 = Z.1 ∧ (Z'.2.1 = Z.2.1 ∨ (shC Z).length ≤ Z'.2.1) ∧ (∃ ex, Z'.2.2 = Z.2.2 ++ ex) ∧ (∀ c, c ≠ 40 → I' c = I c) ∧ (∀ c, c ≠ 31 → c < (shC Z).length → c ≠ Z.2.1 → A' c = A c)
theorem Rp.refl (Z : ab_Z) (I A : ab_F) : Rp Z I A Z I A := ⟨rfl, Or.inl rfl, ⟨[], (List.append_nil _).symm⟩, fun _ _ => rfl, fun _ _ _ _ => rfl⟩
theorem Rp.len {Z Z' : ab_Z} {I A I' A' : ab_F} (h : Rp Z I A Z' I' A') : (shC Z).length ≤ (shC Z').length := by
  obtain ⟨ex, e⟩ := h.2.2.1
  rw [sh_len, sh_len, e, List.length_append]
  omega
theorem Rp.trans {Z Z' Z'' : ab_Z} {I A I' A' I'' A'' : ab_F} (h : Rp Z I A Z' I' A') (g : Rp Z' I' A' Z'' I'' A'') : Rp Z I A Z'' I'' A'' := by
  have hl := h.len
  obtain ⟨a1, a2, ⟨x, a3⟩, a4, a5⟩ := h
  obtain ⟨b1, b2, ⟨y, b3⟩, b4, b5⟩ := g
  refine ⟨b1.trans a1, by omega, ⟨x ++ y, by rw [b3, a3, List.append_assoc]⟩, fun c hc => (b4 c hc).trans (a4 c hc), fun c h0 h1 h2 => (b5 c h0 (by omega) (by omega)).trans (a5 c h0 h1 h2)⟩
def fc : List (List Int32) → Nat → Nat → Nat
  | [], _, cap => cap
  | s :: ss, n, cap => fc ss (n + s.length) (sb_cap (n + s.length) cap)
theorem fc_ge : ∀ (ps : List (List Int32)) (n cap : Nat), cap ≤ fc ps n cap
  | [], _, _ => Nat.le_refl _
  | s :: ss, n, cap => Nat.le_trans (sb_cap_gem _ _) (fc_ge ss _ _)
theorem sb_grow {m cap : Nat} (h : ¬ m ≤ cap) : cap < sb_cap m cap ∧ 2 * cap ≤ sb_cap m cap := by
  unfold sb_cap
  rw [if_neg h]
  split <;> omega
theorem sb_cap_lt {m cap : Nat} (hm : m ≤ 400) (hc : cap < 65536) : sb_cap m cap < 65536 := by
  unfold sb_cap
  split
  · exact hc
  · split <;> omega
theorem shC_grow {Z : ab_Z} {x : ab_S} : (shC Z ++ [x]).set 40 (sb_ob (shC Z).length) = shC (Z.1, (shC Z).length, Z.2.2 ++ [x]) := by
  show ((_ ++ Z.2.2) ++ [x]).set 40 _ = _ ++ (Z.2.2 ++ [x])
  rw [List.append_assoc]
  rfl
theorem g_app0 {Z : ab_Z} {I A : ab_F} {L s : List Int32} {cap : Nat} {f : Nat → Int32} (sb : SBl Z I A L cap) (hl : L.length + s.length ≤ 400) (hf : ∀ j, j < s.length → f j = s.getD j 0) {o : ab_O} (hp : sb_Pa (shC Z) 40 Z.2.1 L.length s.length cap f I A o) : ∃ Z', o.2.1 = shC Z' ∧ Rp Z I A Z' o.2.2.1 o.2.2.2 ∧ SBl Z' o.2.2.1 o.2.2.2 (L ++ s) (sb_cap (L.length + s.length) cap) := by
  obtain ⟨p1, p2, p3, p4, p5, p6, p7⟩ := sb
  obtain ⟨-, q2, q3, q4, q5, q6, q7⟩ := hp
  have hv := s_lt p1
  have hle : (L ++ s).length = L.length + s.length := List.length_append
  have i1 : o.2.2.1 40 1 = 0 := by rw [q3, wr_nei (by decide)]; exact p3
  have i3 : o.2.2.1 40 3 = nI (L ++ s).length := by rw [q3, wr_ate, hle]
  have iI : ∀ c, c ≠ 40 → o.2.2.1 c = I c := fun c hc => by rw [q3]; exact wr_ne hc
  have key : ∀ Z' : ab_Z, Z'.2.1 = sb_gv (shC Z) Z.2.1 (L.length + s.length) cap → (shC Z')[Z'.2.1]? = some (.inl (.byte, sb_cap (L.length + s.length) cap)) → 41 ≤ Z'.2.1 → SBl Z' o.2.2.1 o.2.2.2 (L ++ s) (sb_cap (L.length + s.length) cap) := by
    intro Z' e z1 z2
    refine ⟨z1, z2, i1, i3, by rw [hle]; exact sb_cap_ge _ _, sb_cap_lt hl p6, fun j => ⟨fun hj => ?_, ?_⟩⟩
    · rw [e]
      show _ = (L ++ s).getD j 0
      by_cases h : j < L.length
      · rw [q5 j h, (p7 j).1 h]
        show L.getD j 0 = _
        rw [List.getD_eq_getElem?_getD, List.getD_eq_getElem?_getD, List.getElem?_append_left h]
      · have h9 := q6 (j - L.length) (by omega)
        rw [show L.length + (j - L.length) = j by omega] at h9
        rw [h9, hf _ (by omega), List.getD_eq_getElem?_getD, List.getD_eq_getElem?_getD, List.getElem?_append_right (by omega)]
    · rw [e]; exact q7 j
  by_cases h : L.length + s.length ≤ cap
  · have e1 : sb_gs (shC Z) 40 (L.length + s.length) cap = shC Z := if_pos h
    have e2 : sb_gv (shC Z) Z.2.1 (L.length + s.length) cap = Z.2.1 := if_pos h
    have e3 : sb_cap (L.length + s.length) cap = cap := by unfold sb_cap; rw [if_pos h]
    refine ⟨Z, q2.trans e1, ⟨rfl, Or.inl rfl, ⟨[], (List.append_nil _).symm⟩, iI, fun c _ _ hc => q4 c (by rw [e2]; exact hc)⟩, key Z e2.symm (by rw [e3]; exact p1) p2⟩
  · have e1 : sb_gs (shC Z) 40 (L.length + s.length) cap = _ := if_neg h
    have e2 : sb_gv (shC Z) Z.2.1 (L.length + s.length) cap = (shC Z).length := if_neg h
    have hl9 := sh_len (Z := Z)
    refine ⟨(Z.1, (shC Z).length, Z.2.2 ++ [.inl (.byte, sb_cap (L.length + s.length) cap)]), (q2.trans e1).trans shC_grow, ⟨rfl, Or.inr (Nat.le_refl _), ⟨_, rfl⟩, iI, fun c _ h1 h2 => q4 c (by rw [e2]; omega)⟩, key _ e2.symm ?_ (by show 41 ≤ (shC Z).length; omega)⟩
    rw [← shC_grow]
    show ((shC Z ++ [(.inl (.byte, sb_cap (L.length + s.length) cap) : ab_S)]).set 40 (sb_ob (shC Z).length))[(shC Z).length]? = _
    rw [List.getElem?_set_ne (by omega), List.getElem?_append_right (Nat.le_refl _), Nat.sub_self]
    rfl
def dgL (x : Nat) : List Int32 := (List.range (sb_dg x)).map (fun i => sb_b (sb_dec x i))
theorem dgL_len (x : Nat) : (dgL x).length = sb_dg x := by unfold dgL; rw [List.length_map, List.length_range]
theorem dgL_get (x j : Nat) (h : j < sb_dg x) : (dgL x).getD j 0 = sb_b (sb_dec x j) := by
  unfold dgL
  rw [List.getD_eq_getElem?_getD, List.getElem?_map, List.getElem?_range h]
  rfl
theorem s_one (c : Int32) (j : Nat) (h : j < [c].length) : c = [c].getD j 0 := by
  have e : j = 0 := by have : j < 1 := h; omega
  subst e
  rfl
abbrev kc (i : Nat) : List Int32 := (ab_st i).2.2.2
def ap_c (m cap : Nat) : Nat := if m ≤ cap then 0 else 1
def ap_s (m cap : Nat) : Nat := if m ≤ cap then 0 else sb_cap m cap
theorem ap_r (m cap : Nat) : m ≤ cap ∨ (1 ≤ ap_c m cap ∧ sb_cap m cap ≤ ap_s m cap) := by
  unfold ap_c ap_s
  by_cases h : m ≤ cap
  · exact Or.inl h
  · rw [if_neg h, if_neg h]; exact Or.inr ⟨Nat.le_refl _, Nat.le_refl _⟩
theorem ap_b {s : List Int32} {ps : List (List Int32)} {n cap bc bs : Nat} (h1 : fc (s :: ps) n cap - cap ≤ bc) (h2 : 2 * (fc (s :: ps) n cap - cap) ≤ bs) : (fc ps (n + s.length) (sb_cap (n + s.length) cap) - sb_cap (n + s.length) cap) + ap_c (n + s.length) cap ≤ bc ∧ 2 * (fc ps (n + s.length) (sb_cap (n + s.length) cap) - sb_cap (n + s.length) cap) + ap_s (n + s.length) cap ≤ bs := by
  have e : fc (s :: ps) n cap = fc ps (n + s.length) (sb_cap (n + s.length) cap) := rfl
  rw [e] at h1 h2
  have hg := fc_ge ps (n + s.length) (sb_cap (n + s.length) cap)
  unfold ap_c ap_s
  by_cases h : n + s.length ≤ cap
  · have e3 : sb_cap (n + s.length) cap = cap := by unfold sb_cap; rw [if_pos h]
    rw [if_pos h, if_pos h, e3]
    rw [e3] at h1 h2
    omega
  · have := sb_grow h
    rw [if_neg h, if_neg h]
    omega
/-- the report on its way: the pieces ps are still to come, T is all of it, F the last capacity -/
def St (Z : ab_Z) (I A : ab_F) (cap : Nat) (ps : List (List Int32)) (T : List Int32) (F : Nat) : Prop := ∃ L, SBl Z I A L cap ∧ L ++ ps.flatten = T ∧ fc ps L.length cap = F
theorem fc_app : ∀ (a b : List (List Int32)) (n cap : Nat), fc (a ++ b) n cap = fc b (n + a.flatten.length) (fc a n cap)
  | [], _, _, _ => rfl
  | s :: a, b, n, cap => by
    show fc (a ++ b) _ _ = fc b _ (fc a _ _)
    rw [fc_app a b, List.flatten_cons, List.length_append, Nat.add_assoc]
theorem Rp_Rs {Z Z' : ab_Z} {I A I' A' : ab_F} {w : Nat → Int32} (h : Rp Z I A Z' I' A') (hv : 41 ≤ Z.2.1) (r : Rs 8 I A w) : Rs 8 I' A' w := by
  have hl : 42 ≤ (shC Z).length := by rw [sh_len]; omega
  have hq : ∀ q ∈ ab_sysI, q.1 < 23 := by decide
  have hq2 : ∀ q ∈ ab_sysA, q.1 < 23 := by decide
  refine Rs_cp (fun _ _ => rfl) (fun q h1 => ?_) (fun q h1 j hj => ?_) r
  · rw [h.2.2.2.1 (8 + q.1) (by have := hq q h1; omega)]
  · rw [h.2.2.2.2 (8 + q.1) (by have := hq2 q h1; omega) (by have := hq2 q h1; omega) (by have := hq2 q h1; omega)]
section
variable {M : ab_M} {d : Nat} {C : ab_X} {P : ab_O → Prop} {pc n : Nat} {ls : List (Option Value)} {st : List Value} {Z : ab_Z} {I A : ab_F} {idx cap F : Nat} {T : List Int32} {ps : List (List Int32)}
theorem g_appS {i : Nat} (hi : i < 66) (h : St Z I A cap ((kc i) :: ps) T F) (hT : T.length ≤ 400) (hw1 : Cond.methodLink M.1.cls idx yJ4_append_15ec4 ∈ ab_ws) (dg : decode M.2.1 pc = .ok (.invokevirtual idx, 3)) (hd : 6 ≤ d) (hs8 : (st.map fun v => v.category).sum ≤ 8) (hn : pc + 3 = n)
    (kk : ∀ Z' I' A' cap', Rp Z I A Z' I' A' → St Z' I' A' cap' ps T F → ab_G M d C P n ls (.ref 40 :: st) (shC Z') I' A' (F - cap') (2 * (F - cap'))) : ab_G M d C P pc ls (.retAddr (2 * i) :: .ref 40 :: st) (shC Z) I A (F - cap) (2 * (F - cap)) := by
  obtain ⟨L, sb, hc, hF⟩ := h
  have el : (s_kl i) = ((kc i) : List Int32).length := rfl
  have e9 : (L ++ (kc i)).length = L.length + ((kc i) : List Int32).length := List.length_append
  have hl : L.length + ((kc i) : List Int32).length ≤ 400 := by
    have h1 := congrArg List.length hc
    rw [List.flatten_cons, List.length_append, List.length_append] at h1
    omega
  have hb := ap_b (s := (kc i)) (ps := ps) (n := L.length) (cap := cap) (bc := F - cap) (bs := 2 * (F - cap)) (by rw [hF]; exact Nat.le_refl _) (by rw [hF]; exact Nat.le_refl _)
  have hM := ctJ4_appS hi (mc := ap_c (L.length + ((kc i) : List Int32).length) cap) (ms := ap_s (L.length + ((kc i) : List Int32).length) cap) (sC_40 (Z := Z)) sb.1 sb.2.2.1 sb.2.2.2.1 sb.2.2.2.2.1 sb.2.2.2.2.2.1 (by rw [el]; exact sb_cap_lt hl sb.2.2.2.2.2.1) (fun j => (sb.2.2.2.2.2.2 j).2) (by rw [el]; exact ap_r _ _)
  rw [el] at hM
  refine g_callV (n := n) (as := [.retAddr (2 * i)]) (bc' := _) (bs' := _) sC_40 vc_1 hM okJ4_append_15ec4 rfl hw1 (ab_in 1059 (by decide +kernel) rfl) (ab_in 1060 (by decide +kernel) rfl) (ab_in 109 (by decide +kernel) rfl) dg rfl rfl (by omega) hb.1 hb.2 hs8 hn (fun E sh1 I1 A1 hp _ => by have z : (Sum.inr E : Option Value ⊕ String) = .inl (some (.ref 40)) := hp.1; cases z) (fun ro sh1 I1 A1 hp _ => ?_)
  have e1 : (Sum.inl ro : Option Value ⊕ String) = .inl (some (.ref 40)) := hp.1
  cases e1
  obtain ⟨Z', e2, rp, sb'⟩ := g_app0 sb hl (fun j _ => rfl) hp
  have e2 : sh1 = shC Z' := e2
  subst e2
  have hF2 : fc ps (L ++ (kc i)).length (sb_cap (L.length + ((kc i) : List Int32).length) cap) = F := by rw [e9]; exact hF
  have k9 := kk Z' I1 A1 _ rp ⟨L ++ (kc i), sb', by rw [← hc, List.flatten_cons, List.append_assoc], hF2⟩
  rw [show fc ps (L.length + ((kc i) : List Int32).length) (sb_cap (L.length + ((kc i) : List Int32).length) cap) = F from hF]
  exact k9
theorem g_appI {x : Nat} (hx : x < 2 ^ 31) (h : St Z I A cap ((dgL x) :: ps) T F) (hT : T.length ≤ 400) (hw1 : Cond.methodLink M.1.cls idx yJ4_append_bf812 ∈ ab_ws) (dg : decode M.2.1 pc = .ok (.invokevirtual idx, 3)) (hd : 6 ≤ d) (hs8 : (st.map fun v => v.category).sum ≤ 8) (hn : pc + 3 = n)
    (kk : ∀ Z' I' A' cap', Rp Z I A Z' I' A' → St Z' I' A' cap' ps T F → ab_G M d C P n ls (.ref 40 :: st) (shC Z') I' A' (F - cap') (2 * (F - cap'))) : ab_G M d C P pc ls (.int (nI x) :: .ref 40 :: st) (shC Z) I A (F - cap) (2 * (F - cap)) := by
  obtain ⟨L, sb, hc, hF⟩ := h
  have el : (sb_dg x) = ((dgL x) : List Int32).length := (dgL_len x).symm
  have e9 : (L ++ (dgL x)).length = L.length + ((dgL x) : List Int32).length := List.length_append
  have hl : L.length + ((dgL x) : List Int32).length ≤ 400 := by
    have h1 := congrArg List.length hc
    rw [List.flatten_cons, List.length_append, List.length_append] at h1
    omega
  have hb := ap_b (s := (dgL x)) (ps := ps) (n := L.length) (cap := cap) (bc := F - cap) (bs := 2 * (F - cap)) (by rw [hF]; exact Nat.le_refl _) (by rw [hF]; exact Nat.le_refl _)
  have hM := ctJ4_appI hx (mc := ap_c (L.length + ((dgL x) : List Int32).length) cap) (ms := ap_s (L.length + ((dgL x) : List Int32).length) cap) (sC_40 (Z := Z)) sb.1 sb.2.2.1 sb.2.2.2.1 sb.2.2.2.2.1 sb.2.2.2.2.2.1 (by rw [el]; exact sb_cap_lt hl sb.2.2.2.2.2.1) (fun j => (sb.2.2.2.2.2.2 j).2) (by rw [el]; exact ap_r _ _)
  rw [el] at hM
  refine g_callV (n := n) (as := [.int (nI x)]) (bc' := _) (bs' := _) sC_40 vc_1 hM okJ4_append_bf812 rfl hw1 (ab_in 1154 (by decide +kernel) rfl) (ab_in 1155 (by decide +kernel) rfl) (ab_in 109 (by decide +kernel) rfl) dg rfl rfl (by omega) hb.1 hb.2 hs8 hn (fun E sh1 I1 A1 hp _ => by have z : (Sum.inr E : Option Value ⊕ String) = .inl (some (.ref 40)) := hp.1; cases z) (fun ro sh1 I1 A1 hp _ => ?_)
  have e1 : (Sum.inl ro : Option Value ⊕ String) = .inl (some (.ref 40)) := hp.1
  cases e1
  obtain ⟨Z', e2, rp, sb'⟩ := g_app0 sb hl (fun j hj => (dgL_get x j (by rw [← dgL_len]; exact hj)).symm) hp
  have e2 : sh1 = shC Z' := e2
  subst e2
  have hF2 : fc ps (L ++ (dgL x)).length (sb_cap (L.length + ((dgL x) : List Int32).length) cap) = F := by rw [e9]; exact hF
  have k9 := kk Z' I1 A1 _ rp ⟨L ++ (dgL x), sb', by rw [← hc, List.flatten_cons, List.append_assoc], hF2⟩
  rw [show fc ps (L.length + ((dgL x) : List Int32).length) (sb_cap (L.length + ((dgL x) : List Int32).length) cap) = F from hF]
  exact k9
theorem g_appC {c : Nat} (hcc : c < 128) (h : St Z I A cap ([nI c] :: ps) T F) (hT : T.length ≤ 400) (hw1 : Cond.methodLink M.1.cls idx yJ4_append_cf468 ∈ ab_ws) (dg : decode M.2.1 pc = .ok (.invokevirtual idx, 3)) (hd : 6 ≤ d) (hs8 : (st.map fun v => v.category).sum ≤ 8) (hn : pc + 3 = n)
    (kk : ∀ Z' I' A' cap', Rp Z I A Z' I' A' → St Z' I' A' cap' ps T F → ab_G M d C P n ls (.ref 40 :: st) (shC Z') I' A' (F - cap') (2 * (F - cap'))) : ab_G M d C P pc ls (.int (nI c) :: .ref 40 :: st) (shC Z) I A (F - cap) (2 * (F - cap)) := by
  obtain ⟨L, sb, hc, hF⟩ := h
  have el : 1 = ([nI c] : List Int32).length := rfl
  have e9 : (L ++ [nI c]).length = L.length + ([nI c] : List Int32).length := List.length_append
  have hl : L.length + ([nI c] : List Int32).length ≤ 400 := by
    have h1 := congrArg List.length hc
    rw [List.flatten_cons, List.length_append, List.length_append] at h1
    omega
  have hb := ap_b (s := [nI c]) (ps := ps) (n := L.length) (cap := cap) (bc := F - cap) (bs := 2 * (F - cap)) (by rw [hF]; exact Nat.le_refl _) (by rw [hF]; exact Nat.le_refl _)
  have hM := ctJ4_appC hcc (mc := ap_c (L.length + ([nI c] : List Int32).length) cap) (ms := ap_s (L.length + ([nI c] : List Int32).length) cap) (sC_40 (Z := Z)) sb.1 sb.2.2.1 sb.2.2.2.1 sb.2.2.2.2.1 sb.2.2.2.2.2.1 (by rw [el]; exact sb_cap_lt hl sb.2.2.2.2.2.1) (fun j => (sb.2.2.2.2.2.2 j).2) (by rw [el]; exact ap_r _ _)
  rw [el] at hM
  refine g_callV (n := n) (as := [.int (nI c)]) (bc' := _) (bs' := _) sC_40 vc_1 hM okJ4_append_cf468 rfl hw1 (ab_in 1368 (by decide +kernel) rfl) (ab_in 1369 (by decide +kernel) rfl) (ab_in 109 (by decide +kernel) rfl) dg rfl rfl (by omega) hb.1 hb.2 hs8 hn (fun E sh1 I1 A1 hp _ => by have z : (Sum.inr E : Option Value ⊕ String) = .inl (some (.ref 40)) := hp.1; cases z) (fun ro sh1 I1 A1 hp _ => ?_)
  have e1 : (Sum.inl ro : Option Value ⊕ String) = .inl (some (.ref 40)) := hp.1
  cases e1
  obtain ⟨Z', e2, rp, sb'⟩ := g_app0 sb hl (fun j hj => s_one (nI c) j hj) hp
  have e2 : sh1 = shC Z' := e2
  subst e2
  have hF2 : fc ps (L ++ [nI c]).length (sb_cap (L.length + ([nI c] : List Int32).length) cap) = F := by rw [e9]; exact hF
  have k9 := kk Z' I1 A1 _ rp ⟨L ++ [nI c], sb', by rw [← hc, List.flatten_cons, List.append_assoc], hF2⟩
  rw [show fc ps (L.length + ([nI c] : List Int32).length) (sb_cap (L.length + ([nI c] : List Int32).length) cap) = F from hF]
  exact k9
end
