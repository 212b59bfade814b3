/-! copyFrom of the parts of a system -/
def cpI (x y k : Nat) (I : ab_F) : ab_F := wr I x k (I y k)
theorem wy_2 : Cond.native arraycopyName ∈ ab_ws := ab_in 715 (by decide +kernel) rfl
theorem wy_3 : Cond.static arraycopyName ∈ ab_ws := ab_in 714 (by decide +kernel) rfl
theorem wy_4 : Cond.initialized "java/lang/System" ∈ ab_ws := ab_in 124 (by decide +kernel) rfl
theorem wy_X4 : Cond.methodLink "CheckpointSwap$Pages" 39 arraycopyName ∈ ab_ws := ab_in 713 (by decide +kernel) rfl
abbrev mX4_copyFrom : ab_M := (yX4_copyFrom, cX4_copyFrom, 2, none)
theorem okX4_copyFrom : ab_mOK mX4_copyFrom 1 := ⟨⟨by decide, by decide, by decide +kernel⟩, by decide, ab_in 712 (by decide +kernel) rfl, ab_in 101 (by decide +kernel) rfl⟩
theorem ctX4_copyFrom {sh : List ab_S} {I A : ab_F} {x y x1 x2 x3 x4 x5 x6 y1 y2 y3 y4 y5 y6 : Nat} {K : ab_F → ab_F → Prop} (hx : sh[x]? = some (.inr (.inr (8, [none, some (.ref x1), some (.ref x2), some (.ref x3), some (.ref x4), some (.ref x5), some (.ref x6)])))) (hy : sh[y]? = some (.inr (.inr (8, [none, some (.ref y1), some (.ref y2), some (.ref y3), some (.ref y4), some (.ref y5), some (.ref y6)])))) (a1 : sh[x1]? = some (.inl (.int, 6))) (b1 : sh[y1]? = some (.inl (.int, 6))) (a2 : sh[x2]? = some (.inl (.int, 6))) (b2 : sh[y2]? = some (.inl (.int, 6))) (a3 : sh[x3]? = some (.inl (.int, 6))) (b3 : sh[y3]? = some (.inl (.int, 6))) (a4 : sh[x4]? = some (.inl (.int, 48))) (b4 : sh[y4]? = some (.inl (.int, 48))) (a5 : sh[x5]? = some (.inl (.int, 48))) (b5 : sh[y5]? = some (.inl (.int, 48))) (a6 : sh[x6]? = some (.inl (.int, 48))) (b6 : sh[y6]? = some (.inl (.int, 48))) (h : K (cpI x y 0 (I)) (g_cp (g_cp (g_cp (g_cp (g_cp (g_cp (A) x1 y1 6) x2 y2 6) x3 y3 6) x4 y4 48) x5 y5 48) x6 y6 48)) : ab_Cl mX4_copyFrom 1 0 0 [.ref x, .ref y] sh I A (ab_Px sh ab_no (ab_rv K)) := by
  refine ab_enter (ls := [some (.ref x), some (.ref y)]) (by decide +kernel) (Nat.le_of_ble_eq_true rfl) rfl (fun C => ?_)
  refine g_aload_n (n := 1) dX4_copyFrom_0 rfl rfl rfl ?_
  refine g_aload_n (n := 2) dX4_copyFrom_1 rfl rfl rfl ?_
  refine g_getIE (n := 5) (k := 0) (x := (I) y 0) dX4_copyFrom_2 hy vc_8 (Nat.le_of_ble_eq_true rfl) rfl w_237 rfl rfl ?_
  refine g_putI (n := 8) (k := 0) dX4_copyFrom_5 hx vc_8 (Nat.le_of_ble_eq_true rfl) rfl w_237 rfl rfl rfl rfl rfl ?_
  refine g_aload_n (n := 9) dX4_copyFrom_8 rfl rfl rfl ?_
  refine g_getR (n := 12) (k := 1) dX4_copyFrom_9 hy vc_8 (Nat.le_of_ble_eq_true rfl) rfl w_240 rfl ?_
  refine g_iconst (n := 13) (v := 0) dX4_copyFrom_12 rfl rfl ?_
  refine g_aload_n (n := 14) dX4_copyFrom_13 rfl rfl rfl ?_
  refine g_getR (n := 17) (k := 1) dX4_copyFrom_14 hx vc_8 (Nat.le_of_ble_eq_true rfl) rfl w_240 rfl ?_
  refine g_iconst (n := 18) (v := 0) dX4_copyFrom_17 rfl rfl ?_
  refine g_bipush (n := 20) (v := nI 6) dX4_copyFrom_18 rfl rfl ?_
  refine g_copy (n := 23) (L := 6) wy_X4 wy_2 wy_3 wy_4 dX4_copyFrom_20 b1 a1 (by omega) (by omega) (by omega) (Nat.le_of_ble_eq_true rfl) (Nat.le_of_ble_eq_true rfl) rfl ?_
  refine g_aload_n (n := 24) dX4_copyFrom_23 rfl rfl rfl ?_
  refine g_getR (n := 27) (k := 2) dX4_copyFrom_24 hy vc_8 (Nat.le_of_ble_eq_true rfl) rfl w_243 rfl ?_
  refine g_iconst (n := 28) (v := 0) dX4_copyFrom_27 rfl rfl ?_
  refine g_aload_n (n := 29) dX4_copyFrom_28 rfl rfl rfl ?_
  refine g_getR (n := 32) (k := 2) dX4_copyFrom_29 hx vc_8 (Nat.le_of_ble_eq_true rfl) rfl w_243 rfl ?_
  refine g_iconst (n := 33) (v := 0) dX4_copyFrom_32 rfl rfl ?_
  refine g_bipush (n := 35) (v := nI 6) dX4_copyFrom_33 rfl rfl ?_
  refine g_copy (n := 38) (L := 6) wy_X4 wy_2 wy_3 wy_4 dX4_copyFrom_35 b2 a2 (by omega) (by omega) (by omega) (Nat.le_of_ble_eq_true rfl) (Nat.le_of_ble_eq_true rfl) rfl ?_
  refine g_aload_n (n := 39) dX4_copyFrom_38 rfl rfl rfl ?_
  refine g_getR (n := 42) (k := 3) dX4_copyFrom_39 hy vc_8 (Nat.le_of_ble_eq_true rfl) rfl w_245 rfl ?_
  refine g_iconst (n := 43) (v := 0) dX4_copyFrom_42 rfl rfl ?_
  refine g_aload_n (n := 44) dX4_copyFrom_43 rfl rfl rfl ?_
  refine g_getR (n := 47) (k := 3) dX4_copyFrom_44 hx vc_8 (Nat.le_of_ble_eq_true rfl) rfl w_245 rfl ?_
  refine g_iconst (n := 48) (v := 0) dX4_copyFrom_47 rfl rfl ?_
  refine g_bipush (n := 50) (v := nI 6) dX4_copyFrom_48 rfl rfl ?_
  refine g_copy (n := 53) (L := 6) wy_X4 wy_2 wy_3 wy_4 dX4_copyFrom_50 b3 a3 (by omega) (by omega) (by omega) (Nat.le_of_ble_eq_true rfl) (Nat.le_of_ble_eq_true rfl) rfl ?_
  refine g_aload_n (n := 54) dX4_copyFrom_53 rfl rfl rfl ?_
  refine g_getR (n := 57) (k := 4) dX4_copyFrom_54 hy vc_8 (Nat.le_of_ble_eq_true rfl) rfl w_247 rfl ?_
  refine g_iconst (n := 58) (v := 0) dX4_copyFrom_57 rfl rfl ?_
  refine g_aload_n (n := 59) dX4_copyFrom_58 rfl rfl rfl ?_
  refine g_getR (n := 62) (k := 4) dX4_copyFrom_59 hx vc_8 (Nat.le_of_ble_eq_true rfl) rfl w_247 rfl ?_
  refine g_iconst (n := 63) (v := 0) dX4_copyFrom_62 rfl rfl ?_
  refine g_bipush (n := 65) (v := nI 48) dX4_copyFrom_63 rfl rfl ?_
  refine g_copy (n := 68) (L := 48) wy_X4 wy_2 wy_3 wy_4 dX4_copyFrom_65 b4 a4 (by omega) (by omega) (by omega) (Nat.le_of_ble_eq_true rfl) (Nat.le_of_ble_eq_true rfl) rfl ?_
  refine g_aload_n (n := 69) dX4_copyFrom_68 rfl rfl rfl ?_
  refine g_getR (n := 72) (k := 5) dX4_copyFrom_69 hy vc_8 (Nat.le_of_ble_eq_true rfl) rfl w_250 rfl ?_
  refine g_iconst (n := 73) (v := 0) dX4_copyFrom_72 rfl rfl ?_
  refine g_aload_n (n := 74) dX4_copyFrom_73 rfl rfl rfl ?_
  refine g_getR (n := 77) (k := 5) dX4_copyFrom_74 hx vc_8 (Nat.le_of_ble_eq_true rfl) rfl w_250 rfl ?_
  refine g_iconst (n := 78) (v := 0) dX4_copyFrom_77 rfl rfl ?_
  refine g_bipush (n := 80) (v := nI 48) dX4_copyFrom_78 rfl rfl ?_
  refine g_copy (n := 83) (L := 48) wy_X4 wy_2 wy_3 wy_4 dX4_copyFrom_80 b5 a5 (by omega) (by omega) (by omega) (Nat.le_of_ble_eq_true rfl) (Nat.le_of_ble_eq_true rfl) rfl ?_
  refine g_aload_n (n := 84) dX4_copyFrom_83 rfl rfl rfl ?_
  refine g_getR (n := 87) (k := 6) dX4_copyFrom_84 hy vc_8 (Nat.le_of_ble_eq_true rfl) rfl w_253 rfl ?_
  refine g_iconst (n := 88) (v := 0) dX4_copyFrom_87 rfl rfl ?_
  refine g_aload_n (n := 89) dX4_copyFrom_88 rfl rfl rfl ?_
  refine g_getR (n := 92) (k := 6) dX4_copyFrom_89 hx vc_8 (Nat.le_of_ble_eq_true rfl) rfl w_253 rfl ?_
  refine g_iconst (n := 93) (v := 0) dX4_copyFrom_92 rfl rfl ?_
  refine g_bipush (n := 95) (v := nI 48) dX4_copyFrom_93 rfl rfl ?_
  refine g_copy (n := 98) (L := 48) wy_X4 wy_2 wy_3 wy_4 dX4_copyFrom_95 b6 a6 (by omega) (by omega) (by omega) (Nat.le_of_ble_eq_true rfl) (Nat.le_of_ble_eq_true rfl) rfl ?_
  exact g_vret rfl dX4_copyFrom_98 ⟨rfl, rfl, h⟩
theorem wy_X2 : Cond.methodLink "CheckpointSwap$Frames" 34 arraycopyName ∈ ab_ws := ab_in 720 (by decide +kernel) rfl
abbrev mX2_copyFrom : ab_M := (yX2_copyFrom, cX2_copyFrom, 2, none)
theorem okX2_copyFrom : ab_mOK mX2_copyFrom 1 := ⟨⟨by decide, by decide, by decide +kernel⟩, by decide, ab_in 719 (by decide +kernel) rfl, ab_in 102 (by decide +kernel) rfl⟩
theorem ctX2_copyFrom {sh : List ab_S} {I A : ab_F} {x y x1 x2 x3 y1 y2 y3 : Nat} {K : ab_F → ab_F → Prop} (hx : sh[x]? = some (.inr (.inr (6, [none, none, some (.ref x1), some (.ref x2), some (.ref x3)])))) (hy : sh[y]? = some (.inr (.inr (6, [none, none, some (.ref y1), some (.ref y2), some (.ref y3)])))) (a1 : sh[x1]? = some (.inl (.int, 16))) (b1 : sh[y1]? = some (.inl (.int, 16))) (a2 : sh[x2]? = some (.inl (.int, 16))) (b2 : sh[y2]? = some (.inl (.int, 16))) (a3 : sh[x3]? = some (.inl (.int, 16))) (b3 : sh[y3]? = some (.inl (.int, 16))) (h : K (cpI x y 1 (cpI x y 0 (I))) (g_cp (g_cp (g_cp (A) x1 y1 16) x2 y2 16) x3 y3 16)) : ab_Cl mX2_copyFrom 1 0 0 [.ref x, .ref y] sh I A (ab_Px sh ab_no (ab_rv K)) := by
  refine ab_enter (ls := [some (.ref x), some (.ref y)]) (by decide +kernel) (Nat.le_of_ble_eq_true rfl) rfl (fun C => ?_)
  refine g_aload_n (n := 1) dX2_copyFrom_0 rfl rfl rfl ?_
  refine g_aload_n (n := 2) dX2_copyFrom_1 rfl rfl rfl ?_
  refine g_getIE (n := 5) (k := 0) (x := (I) y 0) dX2_copyFrom_2 hy vc_6 (Nat.le_of_ble_eq_true rfl) rfl w_277 rfl rfl ?_
  refine g_putI (n := 8) (k := 0) dX2_copyFrom_5 hx vc_6 (Nat.le_of_ble_eq_true rfl) rfl w_277 rfl rfl rfl rfl rfl ?_
  refine g_aload_n (n := 9) dX2_copyFrom_8 rfl rfl rfl ?_
  refine g_aload_n (n := 10) dX2_copyFrom_9 rfl rfl rfl ?_
  refine g_getIE (n := 13) (k := 1) (x := (cpI x y 0 (I)) y 1) dX2_copyFrom_10 hy vc_6 (Nat.le_of_ble_eq_true rfl) rfl w_280 rfl rfl ?_
  refine g_putI (n := 16) (k := 1) dX2_copyFrom_13 hx vc_6 (Nat.le_of_ble_eq_true rfl) rfl w_280 rfl rfl rfl rfl rfl ?_
  refine g_aload_n (n := 17) dX2_copyFrom_16 rfl rfl rfl ?_
  refine g_getR (n := 20) (k := 2) dX2_copyFrom_17 hy vc_6 (Nat.le_of_ble_eq_true rfl) rfl w_283 rfl ?_
  refine g_iconst (n := 21) (v := 0) dX2_copyFrom_20 rfl rfl ?_
  refine g_aload_n (n := 22) dX2_copyFrom_21 rfl rfl rfl ?_
  refine g_getR (n := 25) (k := 2) dX2_copyFrom_22 hx vc_6 (Nat.le_of_ble_eq_true rfl) rfl w_283 rfl ?_
  refine g_iconst (n := 26) (v := 0) dX2_copyFrom_25 rfl rfl ?_
  refine g_bipush (n := 28) (v := nI 16) dX2_copyFrom_26 rfl rfl ?_
  refine g_copy (n := 31) (L := 16) wy_X2 wy_2 wy_3 wy_4 dX2_copyFrom_28 b1 a1 (by omega) (by omega) (by omega) (Nat.le_of_ble_eq_true rfl) (Nat.le_of_ble_eq_true rfl) rfl ?_
  refine g_aload_n (n := 32) dX2_copyFrom_31 rfl rfl rfl ?_
  refine g_getR (n := 35) (k := 3) dX2_copyFrom_32 hy vc_6 (Nat.le_of_ble_eq_true rfl) rfl w_286 rfl ?_
  refine g_iconst (n := 36) (v := 0) dX2_copyFrom_35 rfl rfl ?_
  refine g_aload_n (n := 37) dX2_copyFrom_36 rfl rfl rfl ?_
  refine g_getR (n := 40) (k := 3) dX2_copyFrom_37 hx vc_6 (Nat.le_of_ble_eq_true rfl) rfl w_286 rfl ?_
  refine g_iconst (n := 41) (v := 0) dX2_copyFrom_40 rfl rfl ?_
  refine g_bipush (n := 43) (v := nI 16) dX2_copyFrom_41 rfl rfl ?_
  refine g_copy (n := 46) (L := 16) wy_X2 wy_2 wy_3 wy_4 dX2_copyFrom_43 b2 a2 (by omega) (by omega) (by omega) (Nat.le_of_ble_eq_true rfl) (Nat.le_of_ble_eq_true rfl) rfl ?_
  refine g_aload_n (n := 47) dX2_copyFrom_46 rfl rfl rfl ?_
  refine g_getR (n := 50) (k := 4) dX2_copyFrom_47 hy vc_6 (Nat.le_of_ble_eq_true rfl) rfl w_289 rfl ?_
  refine g_iconst (n := 51) (v := 0) dX2_copyFrom_50 rfl rfl ?_
  refine g_aload_n (n := 52) dX2_copyFrom_51 rfl rfl rfl ?_
  refine g_getR (n := 55) (k := 4) dX2_copyFrom_52 hx vc_6 (Nat.le_of_ble_eq_true rfl) rfl w_289 rfl ?_
  refine g_iconst (n := 56) (v := 0) dX2_copyFrom_55 rfl rfl ?_
  refine g_bipush (n := 58) (v := nI 16) dX2_copyFrom_56 rfl rfl ?_
  refine g_copy (n := 61) (L := 16) wy_X2 wy_2 wy_3 wy_4 dX2_copyFrom_58 b3 a3 (by omega) (by omega) (by omega) (Nat.le_of_ble_eq_true rfl) (Nat.le_of_ble_eq_true rfl) rfl ?_
  exact g_vret rfl dX2_copyFrom_61 ⟨rfl, rfl, h⟩
theorem wy_X7 : Cond.methodLink "CheckpointSwap$Slots" 33 arraycopyName ∈ ab_ws := ab_in 725 (by decide +kernel) rfl
abbrev mX7_copyFrom : ab_M := (yX7_copyFrom, cX7_copyFrom, 2, none)
theorem okX7_copyFrom : ab_mOK mX7_copyFrom 1 := ⟨⟨by decide, by decide, by decide +kernel⟩, by decide, ab_in 724 (by decide +kernel) rfl, ab_in 103 (by decide +kernel) rfl⟩
theorem ctX7_copyFrom {sh : List ab_S} {I A : ab_F} {x y x1 x2 x3 y1 y2 y3 : Nat} {K : ab_F → ab_F → Prop} (hx : sh[x]? = some (.inr (.inr (11, [none, none, some (.ref x1), some (.ref x2), some (.ref x3)])))) (hy : sh[y]? = some (.inr (.inr (11, [none, none, some (.ref y1), some (.ref y2), some (.ref y3)])))) (a1 : sh[x1]? = some (.inl (.int, 48))) (b1 : sh[y1]? = some (.inl (.int, 48))) (a2 : sh[x2]? = some (.inl (.int, 48))) (b2 : sh[y2]? = some (.inl (.int, 48))) (a3 : sh[x3]? = some (.inl (.int, 48))) (b3 : sh[y3]? = some (.inl (.int, 48))) (h : K (cpI x y 1 (cpI x y 0 (I))) (g_cp (g_cp (g_cp (A) x1 y1 48) x2 y2 48) x3 y3 48)) : ab_Cl mX7_copyFrom 1 0 0 [.ref x, .ref y] sh I A (ab_Px sh ab_no (ab_rv K)) := by
  refine ab_enter (ls := [some (.ref x), some (.ref y)]) (by decide +kernel) (Nat.le_of_ble_eq_true rfl) rfl (fun C => ?_)
  refine g_aload_n (n := 1) dX7_copyFrom_0 rfl rfl rfl ?_
  refine g_aload_n (n := 2) dX7_copyFrom_1 rfl rfl rfl ?_
  refine g_getIE (n := 5) (k := 0) (x := (I) y 0) dX7_copyFrom_2 hy vc_11 (Nat.le_of_ble_eq_true rfl) rfl w_309 rfl rfl ?_
  refine g_putI (n := 8) (k := 0) dX7_copyFrom_5 hx vc_11 (Nat.le_of_ble_eq_true rfl) rfl w_309 rfl rfl rfl rfl rfl ?_
  refine g_aload_n (n := 9) dX7_copyFrom_8 rfl rfl rfl ?_
  refine g_aload_n (n := 10) dX7_copyFrom_9 rfl rfl rfl ?_
  refine g_getIE (n := 13) (k := 1) (x := (cpI x y 0 (I)) y 1) dX7_copyFrom_10 hy vc_11 (Nat.le_of_ble_eq_true rfl) rfl w_312 rfl rfl ?_
  refine g_putI (n := 16) (k := 1) dX7_copyFrom_13 hx vc_11 (Nat.le_of_ble_eq_true rfl) rfl w_312 rfl rfl rfl rfl rfl ?_
  refine g_aload_n (n := 17) dX7_copyFrom_16 rfl rfl rfl ?_
  refine g_getR (n := 20) (k := 2) dX7_copyFrom_17 hy vc_11 (Nat.le_of_ble_eq_true rfl) rfl w_314 rfl ?_
  refine g_iconst (n := 21) (v := 0) dX7_copyFrom_20 rfl rfl ?_
  refine g_aload_n (n := 22) dX7_copyFrom_21 rfl rfl rfl ?_
  refine g_getR (n := 25) (k := 2) dX7_copyFrom_22 hx vc_11 (Nat.le_of_ble_eq_true rfl) rfl w_314 rfl ?_
  refine g_iconst (n := 26) (v := 0) dX7_copyFrom_25 rfl rfl ?_
  refine g_bipush (n := 28) (v := nI 48) dX7_copyFrom_26 rfl rfl ?_
  refine g_copy (n := 31) (L := 48) wy_X7 wy_2 wy_3 wy_4 dX7_copyFrom_28 b1 a1 (by omega) (by omega) (by omega) (Nat.le_of_ble_eq_true rfl) (Nat.le_of_ble_eq_true rfl) rfl ?_
  refine g_aload_n (n := 32) dX7_copyFrom_31 rfl rfl rfl ?_
  refine g_getR (n := 35) (k := 3) dX7_copyFrom_32 hy vc_11 (Nat.le_of_ble_eq_true rfl) rfl w_317 rfl ?_
  refine g_iconst (n := 36) (v := 0) dX7_copyFrom_35 rfl rfl ?_
  refine g_aload_n (n := 37) dX7_copyFrom_36 rfl rfl rfl ?_
  refine g_getR (n := 40) (k := 3) dX7_copyFrom_37 hx vc_11 (Nat.le_of_ble_eq_true rfl) rfl w_317 rfl ?_
  refine g_iconst (n := 41) (v := 0) dX7_copyFrom_40 rfl rfl ?_
  refine g_bipush (n := 43) (v := nI 48) dX7_copyFrom_41 rfl rfl ?_
  refine g_copy (n := 46) (L := 48) wy_X7 wy_2 wy_3 wy_4 dX7_copyFrom_43 b2 a2 (by omega) (by omega) (by omega) (Nat.le_of_ble_eq_true rfl) (Nat.le_of_ble_eq_true rfl) rfl ?_
  refine g_aload_n (n := 47) dX7_copyFrom_46 rfl rfl rfl ?_
  refine g_getR (n := 50) (k := 4) dX7_copyFrom_47 hy vc_11 (Nat.le_of_ble_eq_true rfl) rfl w_319 rfl ?_
  refine g_iconst (n := 51) (v := 0) dX7_copyFrom_50 rfl rfl ?_
  refine g_aload_n (n := 52) dX7_copyFrom_51 rfl rfl rfl ?_
  refine g_getR (n := 55) (k := 4) dX7_copyFrom_52 hx vc_11 (Nat.le_of_ble_eq_true rfl) rfl w_319 rfl ?_
  refine g_iconst (n := 56) (v := 0) dX7_copyFrom_55 rfl rfl ?_
  refine g_bipush (n := 58) (v := nI 48) dX7_copyFrom_56 rfl rfl ?_
  refine g_copy (n := 61) (L := 48) wy_X7 wy_2 wy_3 wy_4 dX7_copyFrom_58 b3 a3 (by omega) (by omega) (by omega) (Nat.le_of_ble_eq_true rfl) (Nat.le_of_ble_eq_true rfl) rfl ?_
  exact g_vret rfl dX7_copyFrom_61 ⟨rfl, rfl, h⟩
theorem wy_X1 : Cond.methodLink "CheckpointSwap$Barriers" 40 arraycopyName ∈ ab_ws := ab_in 730 (by decide +kernel) rfl
abbrev mX1_copyFrom : ab_M := (yX1_copyFrom, cX1_copyFrom, 2, none)
theorem okX1_copyFrom : ab_mOK mX1_copyFrom 1 := ⟨⟨by decide, by decide, by decide +kernel⟩, by decide, ab_in 729 (by decide +kernel) rfl, ab_in 104 (by decide +kernel) rfl⟩
theorem ctX1_copyFrom {sh : List ab_S} {I A : ab_F} {x y x1 x2 x3 x4 y1 y2 y3 y4 : Nat} {K : ab_F → ab_F → Prop} (hx : sh[x]? = some (.inr (.inr (5, [none, none, none, none, some (.ref x1), some (.ref x2), some (.ref x3), some (.ref x4)])))) (hy : sh[y]? = some (.inr (.inr (5, [none, none, none, none, some (.ref y1), some (.ref y2), some (.ref y3), some (.ref y4)])))) (a1 : sh[x1]? = some (.inl (.int, 48))) (b1 : sh[y1]? = some (.inl (.int, 48))) (a2 : sh[x2]? = some (.inl (.int, 6))) (b2 : sh[y2]? = some (.inl (.int, 6))) (a3 : sh[x3]? = some (.inl (.int, 48))) (b3 : sh[y3]? = some (.inl (.int, 48))) (a4 : sh[x4]? = some (.inl (.int, 32))) (b4 : sh[y4]? = some (.inl (.int, 32))) (h : K (cpI x y 3 (cpI x y 2 (cpI x y 1 (cpI x y 0 (I))))) (g_cp (g_cp (g_cp (g_cp (A) x1 y1 48) x2 y2 6) x3 y3 48) x4 y4 32)) : ab_Cl mX1_copyFrom 1 0 0 [.ref x, .ref y] sh I A (ab_Px sh ab_no (ab_rv K)) := by
  refine ab_enter (ls := [some (.ref x), some (.ref y)]) (by decide +kernel) (Nat.le_of_ble_eq_true rfl) rfl (fun C => ?_)
  refine g_aload_n (n := 1) dX1_copyFrom_0 rfl rfl rfl ?_
  refine g_aload_n (n := 2) dX1_copyFrom_1 rfl rfl rfl ?_
  refine g_getIE (n := 5) (k := 0) (x := (I) y 0) dX1_copyFrom_2 hy vc_5 (Nat.le_of_ble_eq_true rfl) rfl w_339 rfl rfl ?_
  refine g_putI (n := 8) (k := 0) dX1_copyFrom_5 hx vc_5 (Nat.le_of_ble_eq_true rfl) rfl w_339 rfl rfl rfl rfl rfl ?_
  refine g_aload_n (n := 9) dX1_copyFrom_8 rfl rfl rfl ?_
  refine g_aload_n (n := 10) dX1_copyFrom_9 rfl rfl rfl ?_
  refine g_getIE (n := 13) (k := 1) (x := (cpI x y 0 (I)) y 1) dX1_copyFrom_10 hy vc_5 (Nat.le_of_ble_eq_true rfl) rfl w_342 rfl rfl ?_
  refine g_putI (n := 16) (k := 1) dX1_copyFrom_13 hx vc_5 (Nat.le_of_ble_eq_true rfl) rfl w_342 rfl rfl rfl rfl rfl ?_
  refine g_aload_n (n := 17) dX1_copyFrom_16 rfl rfl rfl ?_
  refine g_aload_n (n := 18) dX1_copyFrom_17 rfl rfl rfl ?_
  refine g_getIE (n := 21) (k := 2) (x := (cpI x y 1 (cpI x y 0 (I))) y 2) dX1_copyFrom_18 hy vc_5 (Nat.le_of_ble_eq_true rfl) rfl w_345 rfl rfl ?_
  refine g_putI (n := 24) (k := 2) dX1_copyFrom_21 hx vc_5 (Nat.le_of_ble_eq_true rfl) rfl w_345 rfl rfl rfl rfl rfl ?_
  refine g_aload_n (n := 25) dX1_copyFrom_24 rfl rfl rfl ?_
  refine g_aload_n (n := 26) dX1_copyFrom_25 rfl rfl rfl ?_
  refine g_getIE (n := 29) (k := 3) (x := (cpI x y 2 (cpI x y 1 (cpI x y 0 (I)))) y 3) dX1_copyFrom_26 hy vc_5 (Nat.le_of_ble_eq_true rfl) rfl w_347 rfl rfl ?_
  refine g_putI (n := 32) (k := 3) dX1_copyFrom_29 hx vc_5 (Nat.le_of_ble_eq_true rfl) rfl w_347 rfl rfl rfl rfl rfl ?_
  refine g_aload_n (n := 33) dX1_copyFrom_32 rfl rfl rfl ?_
  refine g_getR (n := 36) (k := 4) dX1_copyFrom_33 hy vc_5 (Nat.le_of_ble_eq_true rfl) rfl w_349 rfl ?_
  refine g_iconst (n := 37) (v := 0) dX1_copyFrom_36 rfl rfl ?_
  refine g_aload_n (n := 38) dX1_copyFrom_37 rfl rfl rfl ?_
  refine g_getR (n := 41) (k := 4) dX1_copyFrom_38 hx vc_5 (Nat.le_of_ble_eq_true rfl) rfl w_349 rfl ?_
  refine g_iconst (n := 42) (v := 0) dX1_copyFrom_41 rfl rfl ?_
  refine g_bipush (n := 44) (v := nI 48) dX1_copyFrom_42 rfl rfl ?_
  refine g_copy (n := 47) (L := 48) wy_X1 wy_2 wy_3 wy_4 dX1_copyFrom_44 b1 a1 (by omega) (by omega) (by omega) (Nat.le_of_ble_eq_true rfl) (Nat.le_of_ble_eq_true rfl) rfl ?_
  refine g_aload_n (n := 48) dX1_copyFrom_47 rfl rfl rfl ?_
  refine g_getR (n := 51) (k := 5) dX1_copyFrom_48 hy vc_5 (Nat.le_of_ble_eq_true rfl) rfl w_351 rfl ?_
  refine g_iconst (n := 52) (v := 0) dX1_copyFrom_51 rfl rfl ?_
  refine g_aload_n (n := 53) dX1_copyFrom_52 rfl rfl rfl ?_
  refine g_getR (n := 56) (k := 5) dX1_copyFrom_53 hx vc_5 (Nat.le_of_ble_eq_true rfl) rfl w_351 rfl ?_
  refine g_iconst (n := 57) (v := 0) dX1_copyFrom_56 rfl rfl ?_
  refine g_bipush (n := 59) (v := nI 6) dX1_copyFrom_57 rfl rfl ?_
  refine g_copy (n := 62) (L := 6) wy_X1 wy_2 wy_3 wy_4 dX1_copyFrom_59 b2 a2 (by omega) (by omega) (by omega) (Nat.le_of_ble_eq_true rfl) (Nat.le_of_ble_eq_true rfl) rfl ?_
  refine g_aload_n (n := 63) dX1_copyFrom_62 rfl rfl rfl ?_
  refine g_getR (n := 66) (k := 6) dX1_copyFrom_63 hy vc_5 (Nat.le_of_ble_eq_true rfl) rfl w_354 rfl ?_
  refine g_iconst (n := 67) (v := 0) dX1_copyFrom_66 rfl rfl ?_
  refine g_aload_n (n := 68) dX1_copyFrom_67 rfl rfl rfl ?_
  refine g_getR (n := 71) (k := 6) dX1_copyFrom_68 hx vc_5 (Nat.le_of_ble_eq_true rfl) rfl w_354 rfl ?_
  refine g_iconst (n := 72) (v := 0) dX1_copyFrom_71 rfl rfl ?_
  refine g_bipush (n := 74) (v := nI 48) dX1_copyFrom_72 rfl rfl ?_
  refine g_copy (n := 77) (L := 48) wy_X1 wy_2 wy_3 wy_4 dX1_copyFrom_74 b3 a3 (by omega) (by omega) (by omega) (Nat.le_of_ble_eq_true rfl) (Nat.le_of_ble_eq_true rfl) rfl ?_
  refine g_aload_n (n := 78) dX1_copyFrom_77 rfl rfl rfl ?_
  refine g_getR (n := 81) (k := 7) dX1_copyFrom_78 hy vc_5 (Nat.le_of_ble_eq_true rfl) rfl w_357 rfl ?_
  refine g_iconst (n := 82) (v := 0) dX1_copyFrom_81 rfl rfl ?_
  refine g_aload_n (n := 83) dX1_copyFrom_82 rfl rfl rfl ?_
  refine g_getR (n := 86) (k := 7) dX1_copyFrom_83 hx vc_5 (Nat.le_of_ble_eq_true rfl) rfl w_357 rfl ?_
  refine g_iconst (n := 87) (v := 0) dX1_copyFrom_86 rfl rfl ?_
  refine g_bipush (n := 89) (v := nI 32) dX1_copyFrom_87 rfl rfl ?_
  refine g_copy (n := 92) (L := 32) wy_X1 wy_2 wy_3 wy_4 dX1_copyFrom_89 b4 a4 (by omega) (by omega) (by omega) (Nat.le_of_ble_eq_true rfl) (Nat.le_of_ble_eq_true rfl) rfl ?_
  exact g_vret rfl dX1_copyFrom_92 ⟨rfl, rfl, h⟩
theorem wy_X0 : Cond.methodLink "CheckpointSwap$Accesses" 25 arraycopyName ∈ ab_ws := ab_in 735 (by decide +kernel) rfl
abbrev mX0_copyFrom : ab_M := (yX0_copyFrom, cX0_copyFrom, 2, none)
theorem okX0_copyFrom : ab_mOK mX0_copyFrom 1 := ⟨⟨by decide, by decide, by decide +kernel⟩, by decide, ab_in 734 (by decide +kernel) rfl, ab_in 105 (by decide +kernel) rfl⟩
theorem ctX0_copyFrom {sh : List ab_S} {I A : ab_F} {x y x1 y1 : Nat} {K : ab_F → ab_F → Prop} (hx : sh[x]? = some (.inr (.inr (4, [none, none, none, some (.ref x1)])))) (hy : sh[y]? = some (.inr (.inr (4, [none, none, none, some (.ref y1)])))) (a1 : sh[x1]? = some (.inl (.int, 64))) (b1 : sh[y1]? = some (.inl (.int, 64))) (h : K (cpI x y 2 (cpI x y 1 (cpI x y 0 (I)))) (g_cp (A) x1 y1 64)) : ab_Cl mX0_copyFrom 1 0 0 [.ref x, .ref y] sh I A (ab_Px sh ab_no (ab_rv K)) := by
  refine ab_enter (ls := [some (.ref x), some (.ref y)]) (by decide +kernel) (Nat.le_of_ble_eq_true rfl) rfl (fun C => ?_)
  refine g_aload_n (n := 1) dX0_copyFrom_0 rfl rfl rfl ?_
  refine g_aload_n (n := 2) dX0_copyFrom_1 rfl rfl rfl ?_
  refine g_getIE (n := 5) (k := 0) (x := (I) y 0) dX0_copyFrom_2 hy vc_4 (Nat.le_of_ble_eq_true rfl) rfl w_381 rfl rfl ?_
  refine g_putI (n := 8) (k := 0) dX0_copyFrom_5 hx vc_4 (Nat.le_of_ble_eq_true rfl) rfl w_381 rfl rfl rfl rfl rfl ?_
  refine g_aload_n (n := 9) dX0_copyFrom_8 rfl rfl rfl ?_
  refine g_aload_n (n := 10) dX0_copyFrom_9 rfl rfl rfl ?_
  refine g_getIE (n := 13) (k := 1) (x := (cpI x y 0 (I)) y 1) dX0_copyFrom_10 hy vc_4 (Nat.le_of_ble_eq_true rfl) rfl w_384 rfl rfl ?_
  refine g_putI (n := 16) (k := 1) dX0_copyFrom_13 hx vc_4 (Nat.le_of_ble_eq_true rfl) rfl w_384 rfl rfl rfl rfl rfl ?_
  refine g_aload_n (n := 17) dX0_copyFrom_16 rfl rfl rfl ?_
  refine g_aload_n (n := 18) dX0_copyFrom_17 rfl rfl rfl ?_
  refine g_getIE (n := 21) (k := 2) (x := (cpI x y 1 (cpI x y 0 (I))) y 2) dX0_copyFrom_18 hy vc_4 (Nat.le_of_ble_eq_true rfl) rfl w_387 rfl rfl ?_
  refine g_putI (n := 24) (k := 2) dX0_copyFrom_21 hx vc_4 (Nat.le_of_ble_eq_true rfl) rfl w_387 rfl rfl rfl rfl rfl ?_
  refine g_aload_n (n := 25) dX0_copyFrom_24 rfl rfl rfl ?_
  refine g_getR (n := 28) (k := 3) dX0_copyFrom_25 hy vc_4 (Nat.le_of_ble_eq_true rfl) rfl w_389 rfl ?_
  refine g_iconst (n := 29) (v := 0) dX0_copyFrom_28 rfl rfl ?_
  refine g_aload_n (n := 30) dX0_copyFrom_29 rfl rfl rfl ?_
  refine g_getR (n := 33) (k := 3) dX0_copyFrom_30 hx vc_4 (Nat.le_of_ble_eq_true rfl) rfl w_389 rfl ?_
  refine g_iconst (n := 34) (v := 0) dX0_copyFrom_33 rfl rfl ?_
  refine g_bipush (n := 36) (v := nI 64) dX0_copyFrom_34 rfl rfl ?_
  refine g_copy (n := 39) (L := 64) wy_X0 wy_2 wy_3 wy_4 dX0_copyFrom_36 b1 a1 (by omega) (by omega) (by omega) (Nat.le_of_ble_eq_true rfl) (Nat.le_of_ble_eq_true rfl) rfl ?_
  exact g_vret rfl dX0_copyFrom_39 ⟨rfl, rfl, h⟩
