theorem xn_X11_72_a : ∀ w ∈ (vx_atS "CheckpointSwap" 72 "java/lang/IllegalStateException" ["java/lang/RuntimeException", "java/lang/Exception"]).filter goodWord, w ∈ ab_ws := fun w h => ab_inT ((by decide +kernel : ∀ w ∈ (vx_atS "CheckpointSwap" 72 "java/lang/IllegalStateException" ["java/lang/RuntimeException", "java/lang/Exception"]).filter goodWord, w ∈ lw_tbl) w h) (List.mem_filter.mp h).2
theorem xn_X11_72_b : ∀ w ∈ (vx_atS "CheckpointSwap" 72 "java/lang/IllegalStateException" ["java/lang/RuntimeException", "java/lang/Exception"]).filter (fun w => !goodWord w), w ∈ ab_ng := by decide +kernel
theorem xn_X11_72_c : ∀ w ∈ Cond.classLink "CheckpointSwap" 68 "java/lang/IllegalStateException" :: Cond.initialized "java/lang/IllegalStateException" :: (vx_atS "CheckpointSwap" 72 "java/lang/IllegalStateException" ["java/lang/RuntimeException", "java/lang/Exception"]), vx_ot w = true := by decide +kernel
theorem xn_X11_235_a : ∀ w ∈ (vx_atS "CheckpointSwap" 235 "java/lang/UnsupportedOperationException" ["java/lang/RuntimeException", "java/lang/Exception"]).filter goodWord, w ∈ ab_ws := fun w h => ab_inT ((by decide +kernel : ∀ w ∈ (vx_atS "CheckpointSwap" 235 "java/lang/UnsupportedOperationException" ["java/lang/RuntimeException", "java/lang/Exception"]).filter goodWord, w ∈ lw_tbl) w h) (List.mem_filter.mp h).2
theorem xn_X11_235_b : ∀ w ∈ (vx_atS "CheckpointSwap" 235 "java/lang/UnsupportedOperationException" ["java/lang/RuntimeException", "java/lang/Exception"]).filter (fun w => !goodWord w), w ∈ ab_ng := by decide +kernel
theorem xn_X11_235_c : ∀ w ∈ Cond.classLink "CheckpointSwap" 231 "java/lang/UnsupportedOperationException" :: Cond.initialized "java/lang/UnsupportedOperationException" :: (vx_atS "CheckpointSwap" 235 "java/lang/UnsupportedOperationException" ["java/lang/RuntimeException", "java/lang/Exception"]), vx_ot w = true := by decide +kernel
theorem xn_X11_374_a : ∀ w ∈ (vx_atS "CheckpointSwap" 374 "java/lang/ArithmeticException" ["java/lang/RuntimeException", "java/lang/Exception"]).filter goodWord, w ∈ ab_ws := fun w h => ab_inT ((by decide +kernel : ∀ w ∈ (vx_atS "CheckpointSwap" 374 "java/lang/ArithmeticException" ["java/lang/RuntimeException", "java/lang/Exception"]).filter goodWord, w ∈ lw_tbl) w h) (List.mem_filter.mp h).2
theorem xn_X11_374_b : ∀ w ∈ (vx_atS "CheckpointSwap" 374 "java/lang/ArithmeticException" ["java/lang/RuntimeException", "java/lang/Exception"]).filter (fun w => !goodWord w), w ∈ ab_ng := by decide +kernel
theorem xn_X11_374_c : ∀ w ∈ Cond.classLink "CheckpointSwap" 370 "java/lang/ArithmeticException" :: Cond.initialized "java/lang/ArithmeticException" :: (vx_atS "CheckpointSwap" 374 "java/lang/ArithmeticException" ["java/lang/RuntimeException", "java/lang/Exception"]), vx_ot w = true := by decide +kernel
theorem xn_X11_401_a : ∀ w ∈ (vx_atS "CheckpointSwap" 401 "java/lang/IllegalArgumentException" ["java/lang/RuntimeException", "java/lang/Exception"]).filter goodWord, w ∈ ab_ws := fun w h => ab_inT ((by decide +kernel : ∀ w ∈ (vx_atS "CheckpointSwap" 401 "java/lang/IllegalArgumentException" ["java/lang/RuntimeException", "java/lang/Exception"]).filter goodWord, w ∈ lw_tbl) w h) (List.mem_filter.mp h).2
theorem xn_X11_401_b : ∀ w ∈ (vx_atS "CheckpointSwap" 401 "java/lang/IllegalArgumentException" ["java/lang/RuntimeException", "java/lang/Exception"]).filter (fun w => !goodWord w), w ∈ ab_ng := by decide +kernel
theorem xn_X11_401_c : ∀ w ∈ Cond.classLink "CheckpointSwap" 397 "java/lang/IllegalArgumentException" :: Cond.initialized "java/lang/IllegalArgumentException" :: (vx_atS "CheckpointSwap" 401 "java/lang/IllegalArgumentException" ["java/lang/RuntimeException", "java/lang/Exception"]), vx_ot w = true := by decide +kernel
theorem xn_X11_442_a : ∀ w ∈ (vx_atS "CheckpointSwap" 442 "java/lang/IndexOutOfBoundsException" ["java/lang/RuntimeException", "java/lang/Exception"]).filter goodWord, w ∈ ab_ws := fun w h => ab_inT ((by decide +kernel : ∀ w ∈ (vx_atS "CheckpointSwap" 442 "java/lang/IndexOutOfBoundsException" ["java/lang/RuntimeException", "java/lang/Exception"]).filter goodWord, w ∈ lw_tbl) w h) (List.mem_filter.mp h).2
theorem xn_X11_442_b : ∀ w ∈ (vx_atS "CheckpointSwap" 442 "java/lang/IndexOutOfBoundsException" ["java/lang/RuntimeException", "java/lang/Exception"]).filter (fun w => !goodWord w), w ∈ ab_ng := by decide +kernel
theorem xn_X11_442_c : ∀ w ∈ Cond.classLink "CheckpointSwap" 438 "java/lang/IndexOutOfBoundsException" :: Cond.initialized "java/lang/IndexOutOfBoundsException" :: (vx_atS "CheckpointSwap" 442 "java/lang/IndexOutOfBoundsException" ["java/lang/RuntimeException", "java/lang/Exception"]), vx_ot w = true := by decide +kernel
theorem xn_X11_451_a : ∀ w ∈ (ta_at "CheckpointSwap" 451 "java/util/NoSuchElementException" 13 ta_rx ["java/lang/RuntimeException", "java/lang/Exception"]).filter goodWord, w ∈ ab_ws := fun w h => ab_inT ((by decide +kernel : ∀ w ∈ (ta_at "CheckpointSwap" 451 "java/util/NoSuchElementException" 13 ta_rx ["java/lang/RuntimeException", "java/lang/Exception"]).filter goodWord, w ∈ lw_tbl) w h) (List.mem_filter.mp h).2
theorem xn_X11_451_b : ∀ w ∈ (ta_at "CheckpointSwap" 451 "java/util/NoSuchElementException" 13 ta_rx ["java/lang/RuntimeException", "java/lang/Exception"]).filter (fun w => !goodWord w), w ∈ ab_ng := by decide +kernel
theorem xn_X11_451_c : ∀ w ∈ Cond.classLink "CheckpointSwap" 447 "java/util/NoSuchElementException" :: Cond.initialized "java/util/NoSuchElementException" :: (ta_at "CheckpointSwap" 451 "java/util/NoSuchElementException" 13 ta_rx ["java/lang/RuntimeException", "java/lang/Exception"]), vx_ot w = true := by decide +kernel
abbrev ab_Z : Type := (Nat → Option Nat) × Nat × List ab_S
def shC (Z : ab_Z) : List ab_S := [.inr (.inr (15, [some (.ref 8), some (.ref 32), some (.ref 1), some (.ref 3), some (.ref 6), some (.ref 34), some (.ref 40)])), .inr (.inr (14, [some (.ref 2), none, none, none, none])), .inl (.int, 400), .inr (.inr (13, [some (.ref 1), none, none, none, none, none, none, some (.ref 4), some (.ref 5)])), .inl (.int, 6), .inl (.int, 6), .inr (.inr (10, [some (.ref 1), some (.ref 7)])), .inl (.int, 3), .inr (.inr (12, [some (.ref 9), some (.ref 16), some (.ref 20), some (.ref 24), some (.ref 29), none, some (.ref 31)])), .inr (.inr (8, [none, some (.ref 10), some (.ref 11), some (.ref 12), some (.ref 13), some (.ref 14), some (.ref 15)])), .inl (.int, 6), .inl (.int, 6), .inl (.int, 6), .inl (.int, 48), .inl (.int, 48), .inl (.int, 48), .inr (.inr (6, [none, none, some (.ref 17), some (.ref 18), some (.ref 19)])), .inl (.int, 16), .inl (.int, 16), .inl (.int, 16), .inr (.inr (11, [none, none, some (.ref 21), some (.ref 22), some (.ref 23)])), .inl (.int, 48), .inl (.int, 48), .inl (.int, 48), .inr (.inr (5, [none, none, none, none, some (.ref 25), some (.ref 26), some (.ref 27), some (.ref 28)])), .inl (.int, 48), .inl (.int, 6), .inl (.int, 48), .inl (.int, 32), .inr (.inr (4, [none, none, none, some (.ref 30)])), .inl (.int, 64), .inl (.int, 48), .inr (.inr (7, [some (.ref 33), none, none])), .inr (.inl (.object RX8, 11, Z.1)), .inr (.inr (9, [some (.ref 35), some (.ref 36), some (.ref 37), some (.ref 38), some (.ref 39), none, none])), .inl (.int, 16), .inl (.int, 16), .inl (.int, 64), .inl (.int, 64), .inl (.int, 48), .inr (.inr (1, [some (.ref (Z.2.1)), none, none, none])), .inl (.byte, 16)] ++ Z.2.2
theorem sC_0 {Z : ab_Z} : (shC Z)[0]? = some (.inr (.inr (15, [some (.ref 8), some (.ref 32), some (.ref 1), some (.ref 3), some (.ref 6), some (.ref 34), some (.ref 40)]))) := rfl
theorem sC_1 {Z : ab_Z} : (shC Z)[1]? = some (.inr (.inr (14, [some (.ref 2), none, none, none, none]))) := rfl
theorem sC_2 {Z : ab_Z} : (shC Z)[2]? = some (.inl (.int, 400)) := rfl
theorem sC_3 {Z : ab_Z} : (shC Z)[3]? = some (.inr (.inr (13, [some (.ref 1), none, none, none, none, none, none, some (.ref 4), some (.ref 5)]))) := rfl
theorem sC_4 {Z : ab_Z} : (shC Z)[4]? = some (.inl (.int, 6)) := rfl
theorem sC_5 {Z : ab_Z} : (shC Z)[5]? = some (.inl (.int, 6)) := rfl
theorem sC_6 {Z : ab_Z} : (shC Z)[6]? = some (.inr (.inr (10, [some (.ref 1), some (.ref 7)]))) := rfl
theorem sC_7 {Z : ab_Z} : (shC Z)[7]? = some (.inl (.int, 3)) := rfl
theorem sC_8 {Z : ab_Z} : (shC Z)[8]? = some (.inr (.inr (12, [some (.ref 9), some (.ref 16), some (.ref 20), some (.ref 24), some (.ref 29), none, some (.ref 31)]))) := rfl
theorem sC_9 {Z : ab_Z} : (shC Z)[9]? = some (.inr (.inr (8, [none, some (.ref 10), some (.ref 11), some (.ref 12), some (.ref 13), some (.ref 14), some (.ref 15)]))) := rfl
theorem sC_10 {Z : ab_Z} : (shC Z)[10]? = some (.inl (.int, 6)) := rfl
theorem sC_11 {Z : ab_Z} : (shC Z)[11]? = some (.inl (.int, 6)) := rfl
theorem sC_12 {Z : ab_Z} : (shC Z)[12]? = some (.inl (.int, 6)) := rfl
theorem sC_13 {Z : ab_Z} : (shC Z)[13]? = some (.inl (.int, 48)) := rfl
theorem sC_14 {Z : ab_Z} : (shC Z)[14]? = some (.inl (.int, 48)) := rfl
theorem sC_15 {Z : ab_Z} : (shC Z)[15]? = some (.inl (.int, 48)) := rfl
theorem sC_16 {Z : ab_Z} : (shC Z)[16]? = some (.inr (.inr (6, [none, none, some (.ref 17), some (.ref 18), some (.ref 19)]))) := rfl
theorem sC_17 {Z : ab_Z} : (shC Z)[17]? = some (.inl (.int, 16)) := rfl
theorem sC_18 {Z : ab_Z} : (shC Z)[18]? = some (.inl (.int, 16)) := rfl
theorem sC_19 {Z : ab_Z} : (shC Z)[19]? = some (.inl (.int, 16)) := rfl
theorem sC_20 {Z : ab_Z} : (shC Z)[20]? = some (.inr (.inr (11, [none, none, some (.ref 21), some (.ref 22), some (.ref 23)]))) := rfl
theorem sC_21 {Z : ab_Z} : (shC Z)[21]? = some (.inl (.int, 48)) := rfl
theorem sC_22 {Z : ab_Z} : (shC Z)[22]? = some (.inl (.int, 48)) := rfl
theorem sC_23 {Z : ab_Z} : (shC Z)[23]? = some (.inl (.int, 48)) := rfl
theorem sC_24 {Z : ab_Z} : (shC Z)[24]? = some (.inr (.inr (5, [none, none, none, none, some (.ref 25), some (.ref 26), some (.ref 27), some (.ref 28)]))) := rfl
theorem sC_25 {Z : ab_Z} : (shC Z)[25]? = some (.inl (.int, 48)) := rfl
theorem sC_26 {Z : ab_Z} : (shC Z)[26]? = some (.inl (.int, 6)) := rfl
theorem sC_27 {Z : ab_Z} : (shC Z)[27]? = some (.inl (.int, 48)) := rfl
theorem sC_28 {Z : ab_Z} : (shC Z)[28]? = some (.inl (.int, 32)) := rfl
theorem sC_29 {Z : ab_Z} : (shC Z)[29]? = some (.inr (.inr (4, [none, none, none, some (.ref 30)]))) := rfl
theorem sC_30 {Z : ab_Z} : (shC Z)[30]? = some (.inl (.int, 64)) := rfl
theorem sC_31 {Z : ab_Z} : (shC Z)[31]? = some (.inl (.int, 48)) := rfl
theorem sC_32 {Z : ab_Z} : (shC Z)[32]? = some (.inr (.inr (7, [some (.ref 33), none, none]))) := rfl
theorem sC_33 {Z : ab_Z} : (shC Z)[33]? = some (.inr (.inl (.object RX8, 11, Z.1))) := rfl
theorem sC_34 {Z : ab_Z} : (shC Z)[34]? = some (.inr (.inr (9, [some (.ref 35), some (.ref 36), some (.ref 37), some (.ref 38), some (.ref 39), none, none]))) := rfl
theorem sC_35 {Z : ab_Z} : (shC Z)[35]? = some (.inl (.int, 16)) := rfl
theorem sC_36 {Z : ab_Z} : (shC Z)[36]? = some (.inl (.int, 16)) := rfl
theorem sC_37 {Z : ab_Z} : (shC Z)[37]? = some (.inl (.int, 64)) := rfl
theorem sC_38 {Z : ab_Z} : (shC Z)[38]? = some (.inl (.int, 64)) := rfl
theorem sC_39 {Z : ab_Z} : (shC Z)[39]? = some (.inl (.int, 48)) := rfl
theorem sC_40 {Z : ab_Z} : (shC Z)[40]? = some (.inr (.inr (1, [some (.ref (Z.2.1)), none, none, none]))) := rfl
theorem sC_41 {Z : ab_Z} : (shC Z)[41]? = some (.inl (.byte, 16)) := rfl
