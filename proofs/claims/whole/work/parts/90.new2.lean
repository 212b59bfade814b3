/-! constructors: arrays of systems; the parts of the class's object -/
theorem g_anew {M : ab_M} {d : Nat} {C : ab_X} {P : ab_O → Prop} {pc n : Nat} {ls : List (Option Value)} {st : List Value} {sh : List ab_S} {I A : ab_F} {bc bs : Nat} {x : Int32} {N idx bc' bs' : Nat} {sh' : List ab_S} (dg : decode M.2.1 pc = .ok (.anewarray idx, 3)) (hx : ¬ x < 0) (hN : x.toNatClampNeg = N) (hby : N * 4 ≤ 536870912) (hw : Cond.classLink M.1.cls idx RX8 ∈ ab_ws) (hbc : bc' + 1 ≤ bc) (hbs : bs' + N ≤ bs) (hn : pc + 3 = n) (hsh : sh ++ [.inr (.inl (.object RX8, N, fun _ => none))] = sh') (kk : ab_G M d C P n ls (.ref sh.length :: st) sh' I A bc' bs') : ab_G M d C P pc ls (.int x :: st) sh I A bc bs := by
  obtain ⟨p, l, e, s, m, args, below, meth, c, D, cT, ac, Ar, ad0, n0, mc, ms⟩ := C
  intro hf ad H locs lsA cells slots h1 h2 h3 h4 h5 h6 h7 h8 h9 h10 h11
  subst hn
  subst hsh
  have hov : va_AO RX8 s := hf.2.2.2.2.2.2.2.2.2.1.2.2.2.2.2.2.2
  refine va_newq (C := RX8) (N' := N) hf.1 hf.2.1 hf.2.2.2.2.2.2.1 (hf.2.2.2.2.2.2.2.1 _ hw) hov hf.2.2.2.2.2.2.2.2.1 h9 h10 h11 hf.2.2.2.2.2.2.2.2.2.2.2.2 hx hN hby (show cells + 1 ≤ mc by omega) (show slots + N ≤ ms by omega) dg (fun q cA H1 g8 g9 g10 g11 => ?_)
  have ecA : cA = cT (.object RX8) := by
    obtain ⟨_, _, _, _, _, k1⟩ := (g8.2 3 (cA, .object RX8) rfl).2
    obtain ⟨_, _, _, _, _, k2⟩ := (hf.2.2.2.2.2.2.2.2.1.2 2 (cT (.object RX8), .object RX8) rfl).2
    exact Option.some.inj (k1.symm.trans k2)
  subst ecA
  have e1 := ab_w_push (cT := cT) (ad := ad) (ad' := va_up ad sh.length q) (ac := ac) (I := I) (I' := I) (A := A) (A' := A) (x := .inr (.inl (.object RX8, N, fun _ => none))) h5 (fun j k h => by cases h) ab_up_lt (fun _ _ => rfl) (fun _ _ => rfl)
  rw [va_up_self, show ab_e cT ad ac (I sh.length) (A sh.length) (.inr (.inl (.object RX8, N, fun _ => none))) = .inl (cT (.object RX8), N, .inr (.inr (.inr (.inr (fun _ => none))))) from rfl] at e1
  rw [← e1] at g9 g10
  have hle : sh.length ≤ (sh ++ [(.inr (.inl (.object RX8, N, fun _ => none)) : ab_S)]).length := by rw [List.length_append]; omega
  have e2 : st.map (ab_v ad ac) = st.map (ab_v (va_up ad sh.length q) ac) := List.map_congr_left (fun v hv => (ab_v_eq (n := sh.length) ab_up_lt (ab_ot h7 v hv)).symm)
  have e3 : ab_p ad ac 0 ls = ab_p (va_up ad sh.length q) ac 0 ls := (ab_p_eq (n := sh.length) ab_up_lt h6).symm
  rw [e3] at h8
  have e4 : Value.ref q :: st.map (ab_v ad ac) = (Value.ref sh.length :: st).map (ab_v (va_up ad sh.length q) ac) := by rw [List.map_cons, e2]; simp only [ab_v]; rw [va_up_self]
  rw [e4]
  exact kk hf (va_up ad sh.length q) H1 locs lsA (cells + 1) (slots + N) (by omega) (by omega) (by omega) (fun k hk => by rw [ab_up_lt k (by omega)]; exact h4 k hk) (ab_okpush h5 (fun j k h => by cases h)) (fun v hv => (h6 v hv).mono hle) (ab_oc (show sh.length < _ by rw [List.length_append]; exact Nat.lt_succ_self _) (fun v hv => (ab_ot h7 v hv).mono hle)) h8 g9 g10 g11
/-- the object and its arrays are the newest cells -/
def ab_Pk (sh' : List ab_S) (q : Nat) (I A : ab_F) (F : ab_F → ab_F → Prop) : ab_O → Prop := fun o => o.1 = .inl none ∧ o.2.1 = sh' ∧ (∀ c, c < q → o.2.2.1 c = I c) ∧ (∀ c, c < q → o.2.2.2 c = A c) ∧ F o.2.2.1 o.2.2.2
abbrev mX10_init : ab_M := (yX10_init, cX10_init, 1, none)
theorem okX10_init : ab_mOK mX10_init 0 := ⟨⟨by decide, by decide, by decide +kernel⟩, by decide, (ab_in 146 (by decide +kernel) rfl), (ab_in 97 (by decide +kernel) rfl)⟩
theorem ctX10_init {sh : List ab_S} {I A : ab_F}  : ab_Cl mX10_init 1 1 400 [.ref sh.length] (sh ++ [.inr (.inr (14, [some .null, none, none, none, none]))]) I A (ab_Pk (sh ++ .inr (.inr (14, [some (.ref (sh.length + 1)), none, none, none, none])) :: [.inl (.int, 400)]) sh.length I A (fun I2 A2 => I2 = I)) := by
  refine ab_enter (ls := [some (.ref sh.length)]) (by decide +kernel) (Nat.le_of_ble_eq_true rfl) rfl (fun C => ?_)
  refine g_aload_n (n := 1) dX10_init_0 rfl rfl rfl ?_
  refine g_objInit (n := 4) dX10_init_1 (ab_in 147 (by decide +kernel) rfl) (ab_in 140 (by decide +kernel) rfl) (ab_in 141 (by decide +kernel) rfl) (Nat.le_of_ble_eq_true rfl) (Nat.le_of_ble_eq_true rfl) rfl ?_
  refine g_aload_n (n := 5) dX10_init_4 rfl rfl rfl ?_
  refine g_sipush (n := 8) (v := (nI 400)) dX10_init_5 rfl rfl ?_
  refine g_newi (n := 10) (N := 400) (bc' := 0) (bs' := 0) dX10_init_8 (by decide) rfl (by omega) (ab_in 169 (by decide +kernel) rfl) (by omega) (by omega) rfl (s_apd sh (.inr (.inr (14, [some .null, none, none, none, none]))) _ []) ?_
  rw [s_len sh (.inr (.inr (14, [some .null, none, none, none, none]))) []]
  show ab_G _ _ _ _ _ _ [.ref (sh.length + 1), .ref sh.length] (sh ++ .inr (.inr (14, [some .null, none, none, none, none])) :: [.inl (.int, 400)]) _ _ _ _
  refine g_putFR (sh' := sh ++ .inr (.inr (14, [some (.ref (sh.length + 1)), none, none, none, none])) :: [.inl (.int, 400)]) (n := 13) (k := 0) dX10_init_10 (s_get sh _ _) vc_14 (Nat.le_of_ble_eq_true rfl) (Nat.le_of_ble_eq_true rfl) (ab_in 148 (by decide +kernel) rfl) rfl rfl rfl rfl (fun _ => rfl) (fun _ => rfl) rfl (s_set sh _ _ _) ?_
  refine g_vret rfl dX10_init_13 ⟨rfl, rfl, fun c hc => ?_, fun c hc => ?_, rfl⟩
  · rfl
  · show (wrow A (sh.length + 1) (fun _ => 0)) c = A c
    rw [wrow_ne (by omega)]
abbrev mX9_init : ab_M := (yX9_init, cX9_init, 2, none)
theorem okX9_init : ab_mOK mX9_init 1 := ⟨⟨by decide, by decide, by decide +kernel⟩, by decide, (ab_in 174 (by decide +kernel) rfl), (ab_in 98 (by decide +kernel) rfl)⟩
theorem ctX9_init {sh : List ab_S} {I A : ab_F} {t : Nat} : ab_Cl mX9_init 1 2 12 [.ref sh.length, .ref t] (sh ++ [.inr (.inr (13, [some .null, none, none, none, none, none, none, some .null, some .null]))]) I A (ab_Pk (sh ++ .inr (.inr (13, [some (.ref t), none, none, none, none, none, none, some (.ref (sh.length + 1)), some (.ref (sh.length + 2))])) :: [.inl (.int, 6), .inl (.int, 6)]) sh.length I A (fun I2 A2 => I2 = (wr (wr (wr I sh.length 2 (-1 : Int32)) sh.length 3 (nI 1)) sh.length 4 (nI 1)))) := by
  refine ab_enter (ls := [some (.ref sh.length), some (.ref t)]) (by decide +kernel) (Nat.le_of_ble_eq_true rfl) rfl (fun C => ?_)
  refine g_aload_n (n := 1) dX9_init_0 rfl rfl rfl ?_
  refine g_objInit (n := 4) dX9_init_1 (ab_in 175 (by decide +kernel) rfl) (ab_in 140 (by decide +kernel) rfl) (ab_in 141 (by decide +kernel) rfl) (Nat.le_of_ble_eq_true rfl) (Nat.le_of_ble_eq_true rfl) rfl ?_
  refine g_aload_n (n := 5) dX9_init_4 rfl rfl rfl ?_
  refine g_iconst (n := 6) (v := (-1 : Int32)) dX9_init_5 rfl rfl ?_
  refine g_putI (n := 9) (k := 2) dX9_init_6 (s_get sh _ _) vc_13 (Nat.le_of_ble_eq_true rfl) rfl (ab_in 179 (by decide +kernel) rfl) rfl rfl rfl rfl rfl ?_
  refine g_aload_n (n := 10) dX9_init_9 rfl rfl rfl ?_
  refine g_iconst (n := 11) (v := (nI 1)) dX9_init_10 rfl rfl ?_
  refine g_putI (n := 14) (k := 3) dX9_init_11 (s_get sh _ _) vc_13 (Nat.le_of_ble_eq_true rfl) rfl (ab_in 181 (by decide +kernel) rfl) rfl rfl rfl rfl rfl ?_
  refine g_aload_n (n := 15) dX9_init_14 rfl rfl rfl ?_
  refine g_iconst (n := 16) (v := (nI 1)) dX9_init_15 rfl rfl ?_
  refine g_putI (n := 19) (k := 4) dX9_init_16 (s_get sh _ _) vc_13 (Nat.le_of_ble_eq_true rfl) rfl (ab_in 183 (by decide +kernel) rfl) rfl rfl rfl rfl rfl ?_
  refine g_aload_n (n := 20) dX9_init_19 rfl rfl rfl ?_
  refine g_bipush (n := 22) (v := (nI 6)) dX9_init_20 rfl rfl ?_
  refine g_newi (n := 24) (N := 6) (bc' := 1) (bs' := 6) dX9_init_22 (by decide) rfl (by omega) (ab_in 169 (by decide +kernel) rfl) (by omega) (by omega) rfl (s_apd sh (.inr (.inr (13, [some .null, none, none, none, none, none, none, some .null, some .null]))) _ []) ?_
  rw [s_len sh (.inr (.inr (13, [some .null, none, none, none, none, none, none, some .null, some .null]))) []]
  show ab_G _ _ _ _ _ _ [.ref (sh.length + 1), .ref sh.length] (sh ++ .inr (.inr (13, [some .null, none, none, none, none, none, none, some .null, some .null])) :: [.inl (.int, 6)]) _ _ _ _
  refine g_putFR (sh' := sh ++ .inr (.inr (13, [some .null, none, none, none, none, none, none, some (.ref (sh.length + 1)), some .null])) :: [.inl (.int, 6)]) (n := 27) (k := 7) dX9_init_24 (s_get sh _ _) vc_13 (Nat.le_of_ble_eq_true rfl) (Nat.le_of_ble_eq_true rfl) (ab_in 189 (by decide +kernel) rfl) rfl rfl rfl rfl (fun _ => rfl) (fun _ => rfl) rfl (s_set sh _ _ _) ?_
  refine g_aload_n (n := 28) dX9_init_27 rfl rfl rfl ?_
  refine g_bipush (n := 30) (v := (nI 6)) dX9_init_28 rfl rfl ?_
  refine g_newi (n := 32) (N := 6) (bc' := 0) (bs' := 0) dX9_init_30 (by decide) rfl (by omega) (ab_in 169 (by decide +kernel) rfl) (by omega) (by omega) rfl (s_apd sh (.inr (.inr (13, [some .null, none, none, none, none, none, none, some (.ref (sh.length + 1)), some .null]))) _ [.inl (.int, 6)]) ?_
  rw [s_len sh (.inr (.inr (13, [some .null, none, none, none, none, none, none, some (.ref (sh.length + 1)), some .null]))) [.inl (.int, 6)]]
  show ab_G _ _ _ _ _ _ [.ref (sh.length + 2), .ref sh.length] (sh ++ .inr (.inr (13, [some .null, none, none, none, none, none, none, some (.ref (sh.length + 1)), some .null])) :: [.inl (.int, 6), .inl (.int, 6)]) _ _ _ _
  refine g_putFR (sh' := sh ++ .inr (.inr (13, [some .null, none, none, none, none, none, none, some (.ref (sh.length + 1)), some (.ref (sh.length + 2))])) :: [.inl (.int, 6), .inl (.int, 6)]) (n := 35) (k := 8) dX9_init_32 (s_get sh _ _) vc_13 (Nat.le_of_ble_eq_true rfl) (Nat.le_of_ble_eq_true rfl) (ab_in 191 (by decide +kernel) rfl) rfl rfl rfl rfl (fun _ => rfl) (fun _ => rfl) rfl (s_set sh _ _ _) ?_
  refine g_aload_n (n := 36) dX9_init_35 rfl rfl rfl ?_
  refine g_aload_n (n := 37) dX9_init_36 rfl rfl rfl ?_
  refine g_putFR (sh' := sh ++ .inr (.inr (13, [some (.ref t), none, none, none, none, none, none, some (.ref (sh.length + 1)), some (.ref (sh.length + 2))])) :: [.inl (.int, 6), .inl (.int, 6)]) (n := 40) (k := 0) dX9_init_37 (s_get sh _ _) vc_13 (Nat.le_of_ble_eq_true rfl) (Nat.le_of_ble_eq_true rfl) (ab_in 176 (by decide +kernel) rfl) rfl rfl rfl rfl (fun _ => rfl) (fun _ => rfl) rfl (s_set sh _ _ _) ?_
  refine g_vret rfl dX9_init_40 ⟨rfl, rfl, fun c hc => ?_, fun c hc => ?_, rfl⟩
  · show (wr (wr (wr I sh.length 2 (-1 : Int32)) sh.length 3 (nI 1)) sh.length 4 (nI 1)) c = I c
    rw [wr_ne (by omega), wr_ne (by omega), wr_ne (by omega)]
  · show (wrow (wrow A (sh.length + 1) (fun _ => 0)) (sh.length + 2) (fun _ => 0)) c = A c
    rw [wrow_ne (by omega), wrow_ne (by omega)]
abbrev mX6_init : ab_M := (yX6_init, cX6_init, 2, none)
theorem okX6_init : ab_mOK mX6_init 1 := ⟨⟨by decide, by decide, by decide +kernel⟩, by decide, (ab_in 216 (by decide +kernel) rfl), (ab_in 99 (by decide +kernel) rfl)⟩
theorem ctX6_init {sh : List ab_S} {I A : ab_F} {t : Nat} : ab_Cl mX6_init 1 1 3 [.ref sh.length, .ref t] (sh ++ [.inr (.inr (10, [some .null, some .null]))]) I A (ab_Pk (sh ++ .inr (.inr (10, [some (.ref t), some (.ref (sh.length + 1))])) :: [.inl (.int, 3)]) sh.length I A (fun I2 A2 => I2 = I)) := by
  refine ab_enter (ls := [some (.ref sh.length), some (.ref t)]) (by decide +kernel) (Nat.le_of_ble_eq_true rfl) rfl (fun C => ?_)
  refine g_aload_n (n := 1) dX6_init_0 rfl rfl rfl ?_
  refine g_objInit (n := 4) dX6_init_1 (ab_in 217 (by decide +kernel) rfl) (ab_in 140 (by decide +kernel) rfl) (ab_in 141 (by decide +kernel) rfl) (Nat.le_of_ble_eq_true rfl) (Nat.le_of_ble_eq_true rfl) rfl ?_
  refine g_aload_n (n := 5) dX6_init_4 rfl rfl rfl ?_
  refine g_iconst (n := 6) (v := (nI 3)) dX6_init_5 rfl rfl ?_
  refine g_newi (n := 8) (N := 3) (bc' := 0) (bs' := 0) dX6_init_6 (by decide) rfl (by omega) (ab_in 169 (by decide +kernel) rfl) (by omega) (by omega) rfl (s_apd sh (.inr (.inr (10, [some .null, some .null]))) _ []) ?_
  rw [s_len sh (.inr (.inr (10, [some .null, some .null]))) []]
  show ab_G _ _ _ _ _ _ [.ref (sh.length + 1), .ref sh.length] (sh ++ .inr (.inr (10, [some .null, some .null])) :: [.inl (.int, 3)]) _ _ _ _
  refine g_putFR (sh' := sh ++ .inr (.inr (10, [some .null, some (.ref (sh.length + 1))])) :: [.inl (.int, 3)]) (n := 11) (k := 1) dX6_init_8 (s_get sh _ _) vc_10 (Nat.le_of_ble_eq_true rfl) (Nat.le_of_ble_eq_true rfl) (ab_in 219 (by decide +kernel) rfl) rfl rfl rfl rfl (fun _ => rfl) (fun _ => rfl) rfl (s_set sh _ _ _) ?_
  refine g_aload_n (n := 12) dX6_init_11 rfl rfl rfl ?_
  refine g_aload_n (n := 13) dX6_init_12 rfl rfl rfl ?_
  refine g_putFR (sh' := sh ++ .inr (.inr (10, [some (.ref t), some (.ref (sh.length + 1))])) :: [.inl (.int, 3)]) (n := 16) (k := 0) dX6_init_13 (s_get sh _ _) vc_10 (Nat.le_of_ble_eq_true rfl) (Nat.le_of_ble_eq_true rfl) (ab_in 218 (by decide +kernel) rfl) rfl rfl rfl rfl (fun _ => rfl) (fun _ => rfl) rfl (s_set sh _ _ _) ?_
  refine g_vret rfl dX6_init_16 ⟨rfl, rfl, fun c hc => ?_, fun c hc => ?_, rfl⟩
  · rfl
  · show (wrow A (sh.length + 1) (fun _ => 0)) c = A c
    rw [wrow_ne (by omega)]
abbrev mX3_init : ab_M := (yX3_init, cX3_init, 1, none)
theorem okX3_init : ab_mOK mX3_init 0 := ⟨⟨by decide, by decide, by decide +kernel⟩, by decide, (ab_in 459 (by decide +kernel) rfl), (ab_in 106 (by decide +kernel) rfl)⟩
theorem ctX3_init {sh : List ab_S} {I A : ab_F}  : ab_Cl mX3_init 1 1 11 [.ref sh.length] (sh ++ [.inr (.inr (7, [some .null, none, none]))]) I A (ab_Pk (sh ++ .inr (.inr (7, [some (.ref (sh.length + 1)), none, none])) :: [.inr (.inl (.object RX8, 11, fun _ => none))]) sh.length I A (fun I2 A2 => I2 = I)) := by
  refine ab_enter (ls := [some (.ref sh.length)]) (by decide +kernel) (Nat.le_of_ble_eq_true rfl) rfl (fun C => ?_)
  refine g_aload_n (n := 1) dX3_init_0 rfl rfl rfl ?_
  refine g_objInit (n := 4) dX3_init_1 (ab_in 460 (by decide +kernel) rfl) (ab_in 140 (by decide +kernel) rfl) (ab_in 141 (by decide +kernel) rfl) (Nat.le_of_ble_eq_true rfl) (Nat.le_of_ble_eq_true rfl) rfl ?_
  refine g_aload_n (n := 5) dX3_init_4 rfl rfl rfl ?_
  refine g_bipush (n := 7) (v := (nI 11)) dX3_init_5 rfl rfl ?_
  refine g_anew (n := 10) (N := 11) (bc' := 0) (bs' := 0) dX3_init_7 (by decide) rfl (by omega) (ab_in 461 (by decide +kernel) rfl) (by omega) (by omega) rfl (s_apd sh (.inr (.inr (7, [some .null, none, none]))) _ []) ?_
  rw [s_len sh (.inr (.inr (7, [some .null, none, none]))) []]
  show ab_G _ _ _ _ _ _ [.ref (sh.length + 1), .ref sh.length] (sh ++ .inr (.inr (7, [some .null, none, none])) :: [.inr (.inl (.object RX8, 11, fun _ => none))]) _ _ _ _
  refine g_putFR (sh' := sh ++ .inr (.inr (7, [some (.ref (sh.length + 1)), none, none])) :: [.inr (.inl (.object RX8, 11, fun _ => none))]) (n := 13) (k := 0) dX3_init_10 (s_get sh _ _) vc_7 (Nat.le_of_ble_eq_true rfl) (Nat.le_of_ble_eq_true rfl) (ab_in 463 (by decide +kernel) rfl) rfl rfl rfl rfl (fun _ => rfl) (fun _ => rfl) rfl (s_set sh _ _ _) ?_
  refine g_vret rfl dX3_init_13 ⟨rfl, rfl, fun c hc => ?_, fun c hc => ?_, rfl⟩
  · rfl
  · rfl
abbrev mX5_init : ab_M := (yX5_init, cX5_init, 1, none)
theorem okX5_init : ab_mOK mX5_init 0 := ⟨⟨by decide, by decide, by decide +kernel⟩, by decide, (ab_in 478 (by decide +kernel) rfl), (ab_in 107 (by decide +kernel) rfl)⟩
theorem ctX5_init {sh : List ab_S} {I A : ab_F}  : ab_Cl mX5_init 1 5 208 [.ref sh.length] (sh ++ [.inr (.inr (9, [some .null, some .null, some .null, some .null, some .null, none, none]))]) I A (ab_Pk (sh ++ .inr (.inr (9, [some (.ref (sh.length + 1)), some (.ref (sh.length + 2)), some (.ref (sh.length + 3)), some (.ref (sh.length + 4)), some (.ref (sh.length + 5)), none, none])) :: [.inl (.int, 16), .inl (.int, 16), .inl (.int, 64), .inl (.int, 64), .inl (.int, 48)]) sh.length I A (fun I2 A2 => I2 = I)) := by
  refine ab_enter (ls := [some (.ref sh.length)]) (by decide +kernel) (Nat.le_of_ble_eq_true rfl) rfl (fun C => ?_)
  refine g_aload_n (n := 1) dX5_init_0 rfl rfl rfl ?_
  refine g_objInit (n := 4) dX5_init_1 (ab_in 479 (by decide +kernel) rfl) (ab_in 140 (by decide +kernel) rfl) (ab_in 141 (by decide +kernel) rfl) (Nat.le_of_ble_eq_true rfl) (Nat.le_of_ble_eq_true rfl) rfl ?_
  refine g_aload_n (n := 5) dX5_init_4 rfl rfl rfl ?_
  refine g_bipush (n := 7) (v := (nI 16)) dX5_init_5 rfl rfl ?_
  refine g_newi (n := 9) (N := 16) (bc' := 4) (bs' := 192) dX5_init_7 (by decide) rfl (by omega) (ab_in 169 (by decide +kernel) rfl) (by omega) (by omega) rfl (s_apd sh (.inr (.inr (9, [some .null, some .null, some .null, some .null, some .null, none, none]))) _ []) ?_
  rw [s_len sh (.inr (.inr (9, [some .null, some .null, some .null, some .null, some .null, none, none]))) []]
  show ab_G _ _ _ _ _ _ [.ref (sh.length + 1), .ref sh.length] (sh ++ .inr (.inr (9, [some .null, some .null, some .null, some .null, some .null, none, none])) :: [.inl (.int, 16)]) _ _ _ _
  refine g_putFR (sh' := sh ++ .inr (.inr (9, [some (.ref (sh.length + 1)), some .null, some .null, some .null, some .null, none, none])) :: [.inl (.int, 16)]) (n := 12) (k := 0) dX5_init_9 (s_get sh _ _) vc_9 (Nat.le_of_ble_eq_true rfl) (Nat.le_of_ble_eq_true rfl) (ab_in 480 (by decide +kernel) rfl) rfl rfl rfl rfl (fun _ => rfl) (fun _ => rfl) rfl (s_set sh _ _ _) ?_
  refine g_aload_n (n := 13) dX5_init_12 rfl rfl rfl ?_
  refine g_bipush (n := 15) (v := (nI 16)) dX5_init_13 rfl rfl ?_
  refine g_newi (n := 17) (N := 16) (bc' := 3) (bs' := 176) dX5_init_15 (by decide) rfl (by omega) (ab_in 169 (by decide +kernel) rfl) (by omega) (by omega) rfl (s_apd sh (.inr (.inr (9, [some (.ref (sh.length + 1)), some .null, some .null, some .null, some .null, none, none]))) _ [.inl (.int, 16)]) ?_
  rw [s_len sh (.inr (.inr (9, [some (.ref (sh.length + 1)), some .null, some .null, some .null, some .null, none, none]))) [.inl (.int, 16)]]
  show ab_G _ _ _ _ _ _ [.ref (sh.length + 2), .ref sh.length] (sh ++ .inr (.inr (9, [some (.ref (sh.length + 1)), some .null, some .null, some .null, some .null, none, none])) :: [.inl (.int, 16), .inl (.int, 16)]) _ _ _ _
  refine g_putFR (sh' := sh ++ .inr (.inr (9, [some (.ref (sh.length + 1)), some (.ref (sh.length + 2)), some .null, some .null, some .null, none, none])) :: [.inl (.int, 16), .inl (.int, 16)]) (n := 20) (k := 1) dX5_init_17 (s_get sh _ _) vc_9 (Nat.le_of_ble_eq_true rfl) (Nat.le_of_ble_eq_true rfl) (ab_in 481 (by decide +kernel) rfl) rfl rfl rfl rfl (fun _ => rfl) (fun _ => rfl) rfl (s_set sh _ _ _) ?_
  refine g_aload_n (n := 21) dX5_init_20 rfl rfl rfl ?_
  refine g_bipush (n := 23) (v := (nI 64)) dX5_init_21 rfl rfl ?_
  refine g_newi (n := 25) (N := 64) (bc' := 2) (bs' := 112) dX5_init_23 (by decide) rfl (by omega) (ab_in 169 (by decide +kernel) rfl) (by omega) (by omega) rfl (s_apd sh (.inr (.inr (9, [some (.ref (sh.length + 1)), some (.ref (sh.length + 2)), some .null, some .null, some .null, none, none]))) _ [.inl (.int, 16), .inl (.int, 16)]) ?_
  rw [s_len sh (.inr (.inr (9, [some (.ref (sh.length + 1)), some (.ref (sh.length + 2)), some .null, some .null, some .null, none, none]))) [.inl (.int, 16), .inl (.int, 16)]]
  show ab_G _ _ _ _ _ _ [.ref (sh.length + 3), .ref sh.length] (sh ++ .inr (.inr (9, [some (.ref (sh.length + 1)), some (.ref (sh.length + 2)), some .null, some .null, some .null, none, none])) :: [.inl (.int, 16), .inl (.int, 16), .inl (.int, 64)]) _ _ _ _
  refine g_putFR (sh' := sh ++ .inr (.inr (9, [some (.ref (sh.length + 1)), some (.ref (sh.length + 2)), some (.ref (sh.length + 3)), some .null, some .null, none, none])) :: [.inl (.int, 16), .inl (.int, 16), .inl (.int, 64)]) (n := 28) (k := 2) dX5_init_25 (s_get sh _ _) vc_9 (Nat.le_of_ble_eq_true rfl) (Nat.le_of_ble_eq_true rfl) (ab_in 482 (by decide +kernel) rfl) rfl rfl rfl rfl (fun _ => rfl) (fun _ => rfl) rfl (s_set sh _ _ _) ?_
  refine g_aload_n (n := 29) dX5_init_28 rfl rfl rfl ?_
  refine g_bipush (n := 31) (v := (nI 64)) dX5_init_29 rfl rfl ?_
  refine g_newi (n := 33) (N := 64) (bc' := 1) (bs' := 48) dX5_init_31 (by decide) rfl (by omega) (ab_in 169 (by decide +kernel) rfl) (by omega) (by omega) rfl (s_apd sh (.inr (.inr (9, [some (.ref (sh.length + 1)), some (.ref (sh.length + 2)), some (.ref (sh.length + 3)), some .null, some .null, none, none]))) _ [.inl (.int, 16), .inl (.int, 16), .inl (.int, 64)]) ?_
  rw [s_len sh (.inr (.inr (9, [some (.ref (sh.length + 1)), some (.ref (sh.length + 2)), some (.ref (sh.length + 3)), some .null, some .null, none, none]))) [.inl (.int, 16), .inl (.int, 16), .inl (.int, 64)]]
  show ab_G _ _ _ _ _ _ [.ref (sh.length + 4), .ref sh.length] (sh ++ .inr (.inr (9, [some (.ref (sh.length + 1)), some (.ref (sh.length + 2)), some (.ref (sh.length + 3)), some .null, some .null, none, none])) :: [.inl (.int, 16), .inl (.int, 16), .inl (.int, 64), .inl (.int, 64)]) _ _ _ _
  refine g_putFR (sh' := sh ++ .inr (.inr (9, [some (.ref (sh.length + 1)), some (.ref (sh.length + 2)), some (.ref (sh.length + 3)), some (.ref (sh.length + 4)), some .null, none, none])) :: [.inl (.int, 16), .inl (.int, 16), .inl (.int, 64), .inl (.int, 64)]) (n := 36) (k := 3) dX5_init_33 (s_get sh _ _) vc_9 (Nat.le_of_ble_eq_true rfl) (Nat.le_of_ble_eq_true rfl) (ab_in 483 (by decide +kernel) rfl) rfl rfl rfl rfl (fun _ => rfl) (fun _ => rfl) rfl (s_set sh _ _ _) ?_
  refine g_aload_n (n := 37) dX5_init_36 rfl rfl rfl ?_
  refine g_bipush (n := 39) (v := (nI 48)) dX5_init_37 rfl rfl ?_
  refine g_newi (n := 41) (N := 48) (bc' := 0) (bs' := 0) dX5_init_39 (by decide) rfl (by omega) (ab_in 169 (by decide +kernel) rfl) (by omega) (by omega) rfl (s_apd sh (.inr (.inr (9, [some (.ref (sh.length + 1)), some (.ref (sh.length + 2)), some (.ref (sh.length + 3)), some (.ref (sh.length + 4)), some .null, none, none]))) _ [.inl (.int, 16), .inl (.int, 16), .inl (.int, 64), .inl (.int, 64)]) ?_
  rw [s_len sh (.inr (.inr (9, [some (.ref (sh.length + 1)), some (.ref (sh.length + 2)), some (.ref (sh.length + 3)), some (.ref (sh.length + 4)), some .null, none, none]))) [.inl (.int, 16), .inl (.int, 16), .inl (.int, 64), .inl (.int, 64)]]
  show ab_G _ _ _ _ _ _ [.ref (sh.length + 5), .ref sh.length] (sh ++ .inr (.inr (9, [some (.ref (sh.length + 1)), some (.ref (sh.length + 2)), some (.ref (sh.length + 3)), some (.ref (sh.length + 4)), some .null, none, none])) :: [.inl (.int, 16), .inl (.int, 16), .inl (.int, 64), .inl (.int, 64), .inl (.int, 48)]) _ _ _ _
  refine g_putFR (sh' := sh ++ .inr (.inr (9, [some (.ref (sh.length + 1)), some (.ref (sh.length + 2)), some (.ref (sh.length + 3)), some (.ref (sh.length + 4)), some (.ref (sh.length + 5)), none, none])) :: [.inl (.int, 16), .inl (.int, 16), .inl (.int, 64), .inl (.int, 64), .inl (.int, 48)]) (n := 44) (k := 4) dX5_init_41 (s_get sh _ _) vc_9 (Nat.le_of_ble_eq_true rfl) (Nat.le_of_ble_eq_true rfl) (ab_in 484 (by decide +kernel) rfl) rfl rfl rfl rfl (fun _ => rfl) (fun _ => rfl) rfl (s_set sh _ _ _) ?_
  refine g_vret rfl dX5_init_44 ⟨rfl, rfl, fun c hc => ?_, fun c hc => ?_, rfl⟩
  · rfl
  · show (wrow (wrow (wrow (wrow (wrow A (sh.length + 1) (fun _ => 0)) (sh.length + 2) (fun _ => 0)) (sh.length + 3) (fun _ => 0)) (sh.length + 4) (fun _ => 0)) (sh.length + 5) (fun _ => 0)) c = A c
    rw [wrow_ne (by omega), wrow_ne (by omega), wrow_ne (by omega), wrow_ne (by omega), wrow_ne (by omega)]
abbrev mJ5_init_d00df : ab_M := (yJ5_init_d00df, cJ5_init_d00df, 2, none)
theorem okJ5_init_d00df : ab_mOK mJ5_init_d00df 1 := ⟨⟨by decide, by decide, by decide +kernel⟩, by decide, (ab_in 509 (by decide +kernel) rfl), (ab_in 108 (by decide +kernel) rfl)⟩
theorem ctJ5_init_d00df {sh : List ab_S} {I A : ab_F}  : ab_Cl mJ5_init_d00df 1 1 16 [.ref sh.length, .int (nI 16)] (sh ++ [.inr (.inr (1, [some .null, none, none, none]))]) I A (ab_Pk (sh ++ .inr (.inr (1, [some (.ref (sh.length + 1)), none, none, none])) :: [.inl (.byte, 16)]) sh.length I A (fun I2 A2 => I2 = (wr I sh.length 1 (nI 0)) ∧ A2 = (wrow A (sh.length + 1) (fun _ => 0)))) := by
  refine ab_enter (ls := [some (.ref sh.length), some (.int (nI 16))]) (by decide +kernel) (Nat.le_of_ble_eq_true rfl) rfl (fun C => ?_)
  refine g_aload_n (n := 1) dJ5_init_d00df_0 rfl rfl rfl ?_
  refine g_objInit (n := 4) dJ5_init_d00df_1 (ab_in 510 (by decide +kernel) rfl) (ab_in 140 (by decide +kernel) rfl) (ab_in 141 (by decide +kernel) rfl) (Nat.le_of_ble_eq_true rfl) (Nat.le_of_ble_eq_true rfl) rfl ?_
  refine g_compact (n := 7) dJ5_init_d00df_4 (ab_in 511 (by decide +kernel) rfl) rfl ?_
  refine g_if_eq 25 dJ5_init_d00df_7 (by decide) (n := 10) rfl (fun hc => absurd hc (by decide)) (fun _ => ?_)
  refine g_aload_n (n := 11) dJ5_init_d00df_10 rfl rfl rfl ?_
  refine g_iload_n (n := 12) dJ5_init_d00df_11 rfl rfl rfl ?_
  refine g_newb (n := 14) (N := 16) (bc' := 0) (bs' := 0) dJ5_init_d00df_12 (by decide) rfl (by omega) (ab_in 534 (by decide +kernel) rfl) (by omega) (by omega) rfl (s_apd sh (.inr (.inr (1, [some .null, none, none, none]))) _ []) ?_
  rw [s_len sh (.inr (.inr (1, [some .null, none, none, none]))) []]
  show ab_G _ _ _ _ _ _ [.ref (sh.length + 1), .ref sh.length] (sh ++ .inr (.inr (1, [some .null, none, none, none])) :: [.inl (.byte, 16)]) _ _ _ _
  refine g_putR (sh' := sh ++ .inr (.inr (1, [some (.ref (sh.length + 1)), none, none, none])) :: [.inl (.byte, 16)]) (n := 17) (k := 0) dJ5_init_d00df_14 (s_get sh _ _) vc_1 (Nat.le_of_ble_eq_true rfl) (Nat.le_of_ble_eq_true rfl) (ab_in 520 (by decide +kernel) rfl) rfl rfl (fun _ => rfl) (fun _ => rfl) rfl (s_set sh _ _ _) ?_
  refine g_aload_n (n := 18) dJ5_init_d00df_17 rfl rfl rfl ?_
  refine g_iconst (n := 19) (v := (nI 0)) dJ5_init_d00df_18 rfl rfl ?_
  refine g_putI (n := 22) (k := 1) dJ5_init_d00df_19 (s_get sh _ _) vc_1 (Nat.le_of_ble_eq_true rfl) rfl (ab_in 521 (by decide +kernel) rfl) rfl rfl rfl rfl rfl ?_
  refine g_goto 38 dJ5_init_d00df_22 (by decide) ?_
  refine g_vret rfl dJ5_init_d00df_38 ⟨rfl, rfl, fun c hc => ?_, fun c hc => ?_, rfl, rfl⟩
  · show (wr I sh.length 1 (nI 0)) c = I c
    rw [wr_ne (by omega)]
  · show (wrow A (sh.length + 1) (fun _ => 0)) c = A c
    rw [wrow_ne (by omega)]
abbrev mJ4_init_da8c8 : ab_M := (yJ4_init_da8c8, cJ4_init_da8c8, 1, none)
theorem okJ4_init_da8c8 : ab_mOK mJ4_init_da8c8 0 := ⟨⟨by decide, by decide, by decide +kernel⟩, by decide, (ab_in 506 (by decide +kernel) rfl), (ab_in 109 (by decide +kernel) rfl)⟩
theorem ctJ4_init {sh : List ab_S} {I A : ab_F} : ab_Cl mJ4_init_da8c8 2 1 16 [.ref sh.length] (sh ++ [.inr (.inr (1, [some .null, none, none, none]))]) I A (ab_Pk (sh ++ .inr (.inr (1, [some (.ref (sh.length + 1)), none, none, none])) :: [.inl (.byte, 16)]) sh.length I A (fun I2 A2 => I2 = (wr I sh.length 1 (nI 0)) ∧ A2 = (wrow A (sh.length + 1) (fun _ => 0)))) := by
  refine ab_enter (ls := [some (.ref sh.length)]) (by decide +kernel) (Nat.le_of_ble_eq_true rfl) rfl (fun C => ?_)
  refine g_aload_n (n := 1) dJ4_init_da8c8_0 rfl rfl rfl ?_
  refine g_bipush (n := 3) (v := (nI 16)) dJ4_init_da8c8_1 rfl rfl ?_
  refine g_callI (n := 6) (as := [.int (nI 16)]) (bc' := 0) (bs' := 0) ctJ5_init_d00df okJ5_init_d00df rfl rfl (ab_in 507 (by decide +kernel) rfl) (ab_in 508 (by decide +kernel) rfl) dJ4_init_da8c8_3 rfl rfl (Nat.le_of_ble_eq_true rfl) (Nat.le_of_ble_eq_true rfl) (Nat.le_of_ble_eq_true rfl) (Nat.le_of_ble_eq_true rfl) rfl (fun E sh1 I1 A1 hp _ => by have z : (Sum.inr E : Option Value ⊕ String) = .inl none := hp.1; cases z) (fun ro sh1 I1 A1 hp _ => ?_)
  have e1 : (Sum.inl ro : Option Value ⊕ String) = .inl none := hp.1
  cases e1
  exact g_vret rfl dJ4_init_da8c8_6 hp
