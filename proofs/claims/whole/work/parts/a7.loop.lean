/-! the law's loop -/
theorem lp_63 (x : Int32) : ∃ n : Nat, n < 64 ∧ x &&& 63 = nI n := by
  refine ⟨(x &&& 63).toBitVec.toNat, ?_, ?_⟩
  · rw [Int32.toBitVec_and, BitVec.toNat_and]
    exact Nat.lt_of_le_of_lt Nat.and_le_right (by decide)
  · apply Int32.toBitVec_inj.mp
    show _ = (Int32.ofNat _).toBitVec
    rw [Int32.toBitVec_ofNat']
    simp
theorem lp_lt {L i : Nat} (hL : L ≤ 3072) (hi : i ≤ 4000) : (nI L - 6 < nI i) ↔ L < i + 6 := by
  have h1 : (nI L).toInt = L := Int32.toInt_ofNat_of_lt (by omega)
  have h2 : (nI i).toInt = i := Int32.toInt_ofNat_of_lt (by omega)
  rw [Int32.lt_iff_toInt_lt, Int32.toInt_sub, h1, h2, show (6 : Int32).toInt = 6 from rfl, Int.bmod_eq_of_le (by omega) (by omega)]
  omega
section
variable {p : Program} {l : Launch} {e : Env} {s : State} {m : MethodId} {below : List Frame} {meth : Method} {c : Code} {b L : Nat} {xs : Nat → Int32} {D : va_G} {cT : FieldType → ClassId} {cL cD : ClassId} {ac : Nat → Nat}
theorem lp_w {pc i B cells slots k n : Nat} {st : st_S} (hc : cells ≤ k) (hs : slots ≤ n) (h : lw_G p l e s m below meth c b D cT cL cD ac pc i B k n st) : lw_G p l e s m below meth c b D cT cL cD ac pc i B cells slots st := fun d0 H locs ls adC adM o1 o2 v1 v2 Z I A J B1 hd0 hV hr hm hk hl => W.widen hc hs (h d0 H locs ls adC adM o1 o2 v1 v2 Z I A J B1 hd0 hV hr hm hk hl)
theorem lp_sw (C0 : lw_X p l s m meth c b L xs D cT cL cD ac) {i B cells slots : Nat} {st : st_S} (hi : i + 6 ≤ L) (hL : L ≤ 3072) (hB : B + 401 < 2 ^ 24) (hc : cells + 800 ≤ 603072) (hs : slots + 1600 ≤ 7186538) (kk : ∀ st, lw_G p l e s m below meth c b D cT cL cD ac 3304 i (B + 401) (cells + 800) (slots + 1600) st) {d0 : Drawn} {H : Heap} {locs : List Loc} {ls : Array Slot} {adC adM : Nat → Nat} {o1 o2 : Nat} {v1 : Nat → Int64} {v2 : Nat → UInt64} {Z : ab_Z} {I A J B1 : ab_F} (hd0 : s.drawn.sameBut d0 lw_cs) (hV : lw_V D cT cL cD ac s H locs (adC, adM, (o1, o2), v1, v2, Z, (I, A), (J, B1))) (hr : RCs B st Z I A) (hm : RMs B st J B1) (hk : Ok st) (hl : lv_has ls 8 (LB b adC adM o1 o2 i)) : ∀ n : Nat, n < 64 → W p l e room_1 (s.setDrawn d0) m #[Value.ref b] below meth c H locs cells slots (lw_Z below #[Value.ref b] s) (F0 m 45 ls [.int (nI n)])
  | 0, _ => lv_tableIn (off := 271) (tgt := 316) C0.1 C0.2.1 dL_law_45 (by decide) (by decide) (by decide) (by decide) (la_appendText C0 hi hL hB (by omega) (by omega) (lp_w (by omega) (by omega) (kk _)) d0 H locs ls adC adM o1 o2 v1 v2 Z I A J B1 hd0 hV hr hm hk hl)
  | 1, _ => lv_tableIn (off := 375) (tgt := 420) C0.1 C0.2.1 dL_law_45 (by decide) (by decide) (by decide) (by decide) (la_truncateText C0 hi hL hB (by omega) (by omega) (lp_w (by omega) (by omega) (kk _)) d0 H locs ls adC adM o1 o2 v1 v2 Z I A J B1 hd0 hV hr hm hk hl)
  | 2, _ => lv_tableIn (off := 431) (tgt := 476) C0.1 C0.2.1 dL_law_45 (by decide) (by decide) (by decide) (by decide) (la_parseSystem C0 hi hL hB (by omega) (by omega) (lp_w (by omega) (by omega) (kk _)) d0 H locs ls adC adM o1 o2 v1 v2 Z I A J B1 hd0 hV hr hm hk hl)
  | 3, _ => lv_tableIn (off := 444) (tgt := 489) C0.1 C0.2.1 dL_law_45 (by decide) (by decide) (by decide) (by decide) (la_errorCode C0 hi hL hB (by omega) (by omega) (lp_w (by omega) (by omega) (kk _)) d0 H locs ls adC adM o1 o2 v1 v2 Z I A J B1 hd0 hV hr hm hk hl)
  | 4, _ => lv_tableIn (off := 457) (tgt := 502) C0.1 C0.2.1 dL_law_45 (by decide) (by decide) (by decide) (by decide) (la_errorPosition C0 hi hL hB (by omega) (by omega) (lp_w (by omega) (by omega) (kk _)) d0 H locs ls adC adM o1 o2 v1 v2 Z I A J B1 hd0 hV hr hm hk hl)
  | 5, _ => lv_tableIn (off := 470) (tgt := 515) C0.1 C0.2.1 dL_law_45 (by decide) (by decide) (by decide) (by decide) (la_processCount C0 hi hL hB (by omega) (by omega) (lp_w (by omega) (by omega) (kk _)) d0 H locs ls adC adM o1 o2 v1 v2 Z I A J B1 hd0 hV hr hm hk hl)
  | 6, _ => lv_tableIn (off := 483) (tgt := 528) C0.1 C0.2.1 dL_law_45 (by decide) (by decide) (by decide) (by decide) (la_frameCount C0 hi hL hB (by omega) (by omega) (lp_w (by omega) (by omega) (kk _)) d0 H locs ls adC adM o1 o2 v1 v2 Z I A J B1 hd0 hV hr hm hk hl)
  | 7, _ => lv_tableIn (off := 496) (tgt := 541) C0.1 C0.2.1 dL_law_45 (by decide) (by decide) (by decide) (by decide) (la_slotCount C0 hi hL hB (by omega) (by omega) (lp_w (by omega) (by omega) (kk _)) d0 H locs ls adC adM o1 o2 v1 v2 Z I A J B1 hd0 hV hr hm hk hl)
  | 8, _ => lv_tableIn (off := 509) (tgt := 554) C0.1 C0.2.1 dL_law_45 (by decide) (by decide) (by decide) (by decide) (la_epoch C0 hi hL hB (by omega) (by omega) (lp_w (by omega) (by omega) (kk _)) d0 H locs ls adC adM o1 o2 v1 v2 Z I A J B1 hd0 hV hr hm hk hl)
  | 9, _ => lv_tableIn (off := 522) (tgt := 567) C0.1 C0.2.1 dL_law_45 (by decide) (by decide) (by decide) (by decide) (la_readPage C0 hi hL hB (by omega) (by omega) (lp_w (by omega) (by omega) (kk _)) d0 H locs ls adC adM o1 o2 v1 v2 Z I A J B1 hd0 hV hr hm hk hl)
  | 10, _ => lv_tableIn (off := 590) (tgt := 635) C0.1 C0.2.1 dL_law_45 (by decide) (by decide) (by decide) (by decide) (la_writePage C0 hi hL hB (by omega) (by omega) (lp_w (by omega) (by omega) (kk _)) d0 H locs ls adC adM o1 o2 v1 v2 Z I A J B1 hd0 hV hr hm hk hl)
  | 11, _ => lv_tableIn (off := 670) (tgt := 715) C0.1 C0.2.1 dL_law_45 (by decide) (by decide) (by decide) (by decide) (la_setPolicy C0 hi hL hB (by omega) (by omega) (lp_w (by omega) (by omega) (kk _)) d0 H locs ls adC adM o1 o2 v1 v2 Z I A J B1 hd0 hV hr hm hk hl)
  | 12, _ => lv_tableIn (off := 726) (tgt := 771) C0.1 C0.2.1 dL_law_45 (by decide) (by decide) (by decide) (by decide) (la_startBarrier C0 hi hL hB (by omega) (by omega) (lp_w (by omega) (by omega) (kk _)) d0 H locs ls adC adM o1 o2 v1 v2 Z I A J B1 hd0 hV hr hm hk hl)
  | 13, _ => lv_tableIn (off := 782) (tgt := 827) C0.1 C0.2.1 dL_law_45 (by decide) (by decide) (by decide) (by decide) (la_writeBarrier C0 hi hL hB (by omega) (by omega) (lp_w (by omega) (by omega) (kk _)) d0 H locs ls adC adM o1 o2 v1 v2 Z I A J B1 hd0 hV hr hm hk hl)
  | 14, _ => lv_tableIn (off := 838) (tgt := 883) C0.1 C0.2.1 dL_law_45 (by decide) (by decide) (by decide) (by decide) (la_commitBarrier C0 hi hL hB (by omega) (by omega) (lp_w (by omega) (by omega) (kk _)) d0 H locs ls adC adM o1 o2 v1 v2 Z I A J B1 hd0 hV hr hm hk hl)
  | 15, _ => lv_tableIn (off := 882) (tgt := 927) C0.1 C0.2.1 dL_law_45 (by decide) (by decide) (by decide) (by decide) (la_abandonBarrier C0 hi hL hB (by omega) (by omega) (lp_w (by omega) (by omega) (kk _)) d0 H locs ls adC adM o1 o2 v1 v2 Z I A J B1 hd0 hV hr hm hk hl)
  | 16, _ => lv_tableIn (off := 926) (tgt := 971) C0.1 C0.2.1 dL_law_45 (by decide) (by decide) (by decide) (by decide) (la_crash C0 hi hL hB (by omega) (by omega) (lp_w (by omega) (by omega) (kk _)) d0 H locs ls adC adM o1 o2 v1 v2 Z I A J B1 hd0 hV hr hm hk hl)
  | 17, _ => lv_tableIn (off := 939) (tgt := 984) C0.1 C0.2.1 dL_law_45 (by decide) (by decide) (by decide) (by decide) (la_rollback C0 hi hL hB (by omega) (by omega) (lp_w (by omega) (by omega) (kk _)) d0 H locs ls adC adM o1 o2 v1 v2 Z I A J B1 hd0 hV hr hm hk hl)
  | 18, _ => lv_tableIn (off := 995) (tgt := 1040) C0.1 C0.2.1 dL_law_45 (by decide) (by decide) (by decide) (by decide) (la_evictPage C0 hi hL hB (by omega) (by omega) (lp_w (by omega) (by omega) (kk _)) d0 H locs ls adC adM o1 o2 v1 v2 Z I A J B1 hd0 hV hr hm hk hl)
  | 19, _ => lv_tableIn (off := 1063) (tgt := 1108) C0.1 C0.2.1 dL_law_45 (by decide) (by decide) (by decide) (by decide) (la_runScript C0 hi hL hB (by omega) (by omega) (lp_w (by omega) (by omega) (kk _)) d0 H locs ls adC adM o1 o2 v1 v2 Z I A J B1 hd0 hV hr hm hk hl)
  | 20, _ => lv_tableIn (off := 1076) (tgt := 1121) C0.1 C0.2.1 dL_law_45 (by decide) (by decide) (by decide) (by decide) (la_pageCount C0 hi hL hB (by omega) (by omega) (lp_w (by omega) (by omega) (kk _)) d0 H locs ls adC adM o1 o2 v1 v2 Z I A J B1 hd0 hV hr hm hk hl)
  | 21, _ => lv_tableIn (off := 1132) (tgt := 1177) C0.1 C0.2.1 dL_law_45 (by decide) (by decide) (by decide) (by decide) (la_kindOf C0 hi hL hB (by omega) (by omega) (lp_w (by omega) (by omega) (kk _)) d0 H locs ls adC adM o1 o2 v1 v2 Z I A J B1 hd0 hV hr hm hk hl)
  | 22, _ => lv_tableIn (off := 1188) (tgt := 1233) C0.1 C0.2.1 dL_law_45 (by decide) (by decide) (by decide) (by decide) (la_peek C0 hi hL hB (by omega) (by omega) (lp_w (by omega) (by omega) (kk _)) d0 H locs ls adC adM o1 o2 v1 v2 Z I A J B1 hd0 hV hr hm hk hl)
  | 23, _ => lv_tableIn (off := 1256) (tgt := 1301) C0.1 C0.2.1 dL_law_45 (by decide) (by decide) (by decide) (by decide) (la_peekFloat C0 hi hL hB (by omega) (by omega) (lp_w (by omega) (by omega) (kk _)) d0 H locs ls adC adM o1 o2 v1 v2 Z I A J B1 hd0 hV hr hm hk hl)
  | 24, _ => lv_tableIn (off := 1346) (tgt := 1391) C0.1 C0.2.1 dL_law_45 (by decide) (by decide) (by decide) (by decide) (la_pageState C0 hi hL hB (by omega) (by omega) (lp_w (by omega) (by omega) (kk _)) d0 H locs ls adC adM o1 o2 v1 v2 Z I A J B1 hd0 hV hr hm hk hl)
  | 25, _ => lv_tableIn (off := 1414) (tgt := 1459) C0.1 C0.2.1 dL_law_45 (by decide) (by decide) (by decide) (by decide) (la_frameOf C0 hi hL hB (by omega) (by omega) (lp_w (by omega) (by omega) (kk _)) d0 H locs ls adC adM o1 o2 v1 v2 Z I A J B1 hd0 hV hr hm hk hl)
  | 26, _ => lv_tableIn (off := 1482) (tgt := 1527) C0.1 C0.2.1 dL_law_45 (by decide) (by decide) (by decide) (by decide) (la_slotOf C0 hi hL hB (by omega) (by omega) (lp_w (by omega) (by omega) (kk _)) d0 H locs ls adC adM o1 o2 v1 v2 Z I A J B1 hd0 hV hr hm hk hl)
  | 27, _ => lv_tableIn (off := 1550) (tgt := 1595) C0.1 C0.2.1 dL_law_45 (by decide) (by decide) (by decide) (by decide) (la_frameOwner C0 hi hL hB (by omega) (by omega) (lp_w (by omega) (by omega) (kk _)) d0 H locs ls adC adM o1 o2 v1 v2 Z I A J B1 hd0 hV hr hm hk hl)
  | 28, _ => lv_tableIn (off := 1606) (tgt := 1651) C0.1 C0.2.1 dL_law_45 (by decide) (by decide) (by decide) (by decide) (la_frameTime C0 hi hL hB (by omega) (by omega) (lp_w (by omega) (by omega) (kk _)) d0 H locs ls adC adM o1 o2 v1 v2 Z I A J B1 hd0 hV hr hm hk hl)
  | 29, _ => lv_tableIn (off := 1674) (tgt := 1719) C0.1 C0.2.1 dL_law_45 (by decide) (by decide) (by decide) (by decide) (la_victim C0 hi hL hB (by omega) (by omega) (lp_w (by omega) (by omega) (kk _)) d0 H locs ls adC adM o1 o2 v1 v2 Z I A J B1 hd0 hV hr hm hk hl)
  | 30, _ => lv_tableIn (off := 1687) (tgt := 1732) C0.1 C0.2.1 dL_law_45 (by decide) (by decide) (by decide) (by decide) (la_residentPages C0 hi hL hB (by omega) (by omega) (lp_w (by omega) (by omega) (kk _)) d0 H locs ls adC adM o1 o2 v1 v2 Z I A J B1 hd0 hV hr hm hk hl)
  | 31, _ => lv_tableIn (off := 1743) (tgt := 1788) C0.1 C0.2.1 dL_law_45 (by decide) (by decide) (by decide) (by decide) (la_dirtyPages C0 hi hL hB (by omega) (by omega) (lp_w (by omega) (by omega) (kk _)) d0 H locs ls adC adM o1 o2 v1 v2 Z I A J B1 hd0 hV hr hm hk hl)
  | 32, _ => lv_tableIn (off := 1799) (tgt := 1844) C0.1 C0.2.1 dL_law_45 (by decide) (by decide) (by decide) (by decide) (la_slotUse C0 hi hL hB (by omega) (by omega) (lp_w (by omega) (by omega) (kk _)) d0 H locs ls adC adM o1 o2 v1 v2 Z I A J B1 hd0 hV hr hm hk hl)
  | 33, _ => lv_tableIn (off := 1855) (tgt := 1900) C0.1 C0.2.1 dL_law_45 (by decide) (by decide) (by decide) (by decide) (la_slotOwner C0 hi hL hB (by omega) (by omega) (lp_w (by omega) (by omega) (kk _)) d0 H locs ls adC adM o1 o2 v1 v2 Z I A J B1 hd0 hV hr hm hk hl)
  | 34, _ => lv_tableIn (off := 1911) (tgt := 1956) C0.1 C0.2.1 dL_law_45 (by decide) (by decide) (by decide) (by decide) (la_slotStamp C0 hi hL hB (by omega) (by omega) (lp_w (by omega) (by omega) (kk _)) d0 H locs ls adC adM o1 o2 v1 v2 Z I A J B1 hd0 hV hr hm hk hl)
  | 35, _ => lv_tableIn (off := 1967) (tgt := 2012) C0.1 C0.2.1 dL_law_45 (by decide) (by decide) (by decide) (by decide) (la_slotValue C0 hi hL hB (by omega) (by omega) (lp_w (by omega) (by omega) (kk _)) d0 H locs ls adC adM o1 o2 v1 v2 Z I A J B1 hd0 hV hr hm hk hl)
  | 36, _ => lv_tableIn (off := 2023) (tgt := 2068) C0.1 C0.2.1 dL_law_45 (by decide) (by decide) (by decide) (by decide) (la_nextSlot C0 hi hL hB (by omega) (by omega) (lp_w (by omega) (by omega) (kk _)) d0 H locs ls adC adM o1 o2 v1 v2 Z I A J B1 hd0 hV hr hm hk hl)
  | 37, _ => lv_tableIn (off := 2036) (tgt := 2081) C0.1 C0.2.1 dL_law_45 (by decide) (by decide) (by decide) (by decide) (la_freeSlots C0 hi hL hB (by omega) (by omega) (lp_w (by omega) (by omega) (kk _)) d0 H locs ls adC adM o1 o2 v1 v2 Z I A J B1 hd0 hV hr hm hk hl)
  | 38, _ => lv_tableIn (off := 2049) (tgt := 2094) C0.1 C0.2.1 dL_law_45 (by decide) (by decide) (by decide) (by decide) (la_sharedSlots C0 hi hL hB (by omega) (by omega) (lp_w (by omega) (by omega) (kk _)) d0 H locs ls adC adM o1 o2 v1 v2 Z I A J B1 hd0 hV hr hm hk hl)
  | 39, _ => lv_tableIn (off := 2062) (tgt := 2107) C0.1 C0.2.1 dL_law_45 (by decide) (by decide) (by decide) (by decide) (la_longestRun C0 hi hL hB (by omega) (by omega) (lp_w (by omega) (by omega) (kk _)) d0 H locs ls adC adM o1 o2 v1 v2 Z I A J B1 hd0 hV hr hm hk hl)
  | 40, _ => lv_tableIn (off := 2075) (tgt := 2120) C0.1 C0.2.1 dL_law_45 (by decide) (by decide) (by decide) (by decide) (la_freeSlot C0 hi hL hB (by omega) (by omega) (lp_w (by omega) (by omega) (kk _)) d0 H locs ls adC adM o1 o2 v1 v2 Z I A J B1 hd0 hV hr hm hk hl)
  | 41, _ => lv_tableIn (off := 2131) (tgt := 2176) C0.1 C0.2.1 dL_law_45 (by decide) (by decide) (by decide) (by decide) (la_twins C0 hi hL hB (by omega) (by omega) (lp_w (by omega) (by omega) (kk _)) d0 H locs ls adC adM o1 o2 v1 v2 Z I A J B1 hd0 hV hr hm hk hl)
  | 42, _ => lv_tableIn (off := 2187) (tgt := 2232) C0.1 C0.2.1 dL_law_45 (by decide) (by decide) (by decide) (by decide) (la_barrierSet C0 hi hL hB (by omega) (by omega) (lp_w (by omega) (by omega) (kk _)) d0 H locs ls adC adM o1 o2 v1 v2 Z I A J B1 hd0 hV hr hm hk hl)
  | 43, _ => lv_tableIn (off := 2200) (tgt := 2245) C0.1 C0.2.1 dL_law_45 (by decide) (by decide) (by decide) (by decide) (la_pendingPages C0 hi hL hB (by omega) (by omega) (lp_w (by omega) (by omega) (kk _)) d0 H locs ls adC adM o1 o2 v1 v2 Z I A J B1 hd0 hV hr hm hk hl)
  | 44, _ => lv_tableIn (off := 2213) (tgt := 2258) C0.1 C0.2.1 dL_law_45 (by decide) (by decide) (by decide) (by decide) (la_pendingPage C0 hi hL hB (by omega) (by omega) (lp_w (by omega) (by omega) (kk _)) d0 H locs ls adC adM o1 o2 v1 v2 Z I A J B1 hd0 hV hr hm hk hl)
  | 45, _ => lv_tableIn (off := 2269) (tgt := 2314) C0.1 C0.2.1 dL_law_45 (by decide) (by decide) (by decide) (by decide) (la_checkpointEpoch C0 hi hL hB (by omega) (by omega) (lp_w (by omega) (by omega) (kk _)) d0 H locs ls adC adM o1 o2 v1 v2 Z I A J B1 hd0 hV hr hm hk hl)
  | 46, _ => lv_tableIn (off := 2325) (tgt := 2370) C0.1 C0.2.1 dL_law_45 (by decide) (by decide) (by decide) (by decide) (la_checkpointSlot C0 hi hL hB (by omega) (by omega) (lp_w (by omega) (by omega) (kk _)) d0 H locs ls adC adM o1 o2 v1 v2 Z I A J B1 hd0 hV hr hm hk hl)
  | 47, _ => lv_tableIn (off := 2393) (tgt := 2438) C0.1 C0.2.1 dL_law_45 (by decide) (by decide) (by decide) (by decide) (la_checkpointValue C0 hi hL hB (by omega) (by omega) (lp_w (by omega) (by omega) (kk _)) d0 H locs ls adC adM o1 o2 v1 v2 Z I A J B1 hd0 hV hr hm hk hl)
  | 48, _ => lv_tableIn (off := 2461) (tgt := 2506) C0.1 C0.2.1 dL_law_45 (by decide) (by decide) (by decide) (by decide) (la_wouldWrite C0 hi hL hB (by omega) (by omega) (lp_w (by omega) (by omega) (kk _)) d0 H locs ls adC adM o1 o2 v1 v2 Z I A J B1 hd0 hV hr hm hk hl)
  | 49, _ => lv_tableIn (off := 2517) (tgt := 2562) C0.1 C0.2.1 dL_law_45 (by decide) (by decide) (by decide) (by decide) (la_wouldFree C0 hi hL hB (by omega) (by omega) (lp_w (by omega) (by omega) (kk _)) d0 H locs ls adC adM o1 o2 v1 v2 Z I A J B1 hd0 hV hr hm hk hl)
  | 50, _ => lv_tableIn (off := 2573) (tgt := 2618) C0.1 C0.2.1 dL_law_45 (by decide) (by decide) (by decide) (by decide) (la_bestBarrier C0 hi hL hB (by omega) (by omega) (lp_w (by omega) (by omega) (kk _)) d0 H locs ls adC adM o1 o2 v1 v2 Z I A J B1 hd0 hV hr hm hk hl)
  | 51, _ => lv_tableIn (off := 2629) (tgt := 2674) C0.1 C0.2.1 dL_law_45 (by decide) (by decide) (by decide) (by decide) (la_lostPages C0 hi hL hB (by omega) (by omega) (lp_w (by omega) (by omega) (kk _)) d0 H locs ls adC adM o1 o2 v1 v2 Z I A J B1 hd0 hV hr hm hk hl)
  | 52, _ => lv_tableIn (off := 2685) (tgt := 2730) C0.1 C0.2.1 dL_law_45 (by decide) (by decide) (by decide) (by decide) (la_barrierLog C0 hi hL hB (by omega) (by omega) (lp_w (by omega) (by omega) (kk _)) d0 H locs ls adC adM o1 o2 v1 v2 Z I A J B1 hd0 hV hr hm hk hl)
  | 53, _ => lv_tableIn (off := 2753) (tgt := 2798) C0.1 C0.2.1 dL_law_45 (by decide) (by decide) (by decide) (by decide) (la_recentAccess C0 hi hL hB (by omega) (by omega) (lp_w (by omega) (by omega) (kk _)) d0 H locs ls adC adM o1 o2 v1 v2 Z I A J B1 hd0 hV hr hm hk hl)
  | 54, _ => lv_tableIn (off := 2809) (tgt := 2854) C0.1 C0.2.1 dL_law_45 (by decide) (by decide) (by decide) (by decide) (la_faultsWith C0 hi hL hB (by omega) (by omega) (lp_w (by omega) (by omega) (kk _)) d0 H locs ls adC adM o1 o2 v1 v2 Z I A J B1 hd0 hV hr hm hk hl)
  | 55, _ => lv_tableIn (off := 2877) (tgt := 2922) C0.1 C0.2.1 dL_law_45 (by decide) (by decide) (by decide) (by decide) (la_leastFrames C0 hi hL hB (by omega) (by omega) (lp_w (by omega) (by omega) (kk _)) d0 H locs ls adC adM o1 o2 v1 v2 Z I A J B1 hd0 hV hr hm hk hl)
  | 56, _ => lv_tableIn (off := 2933) (tgt := 2978) C0.1 C0.2.1 dL_law_45 (by decide) (by decide) (by decide) (by decide) (la_workingSet C0 hi hL hB (by omega) (by omega) (lp_w (by omega) (by omega) (kk _)) d0 H locs ls adC adM o1 o2 v1 v2 Z I A J B1 hd0 hV hr hm hk hl)
  | 57, _ => lv_tableIn (off := 2989) (tgt := 3034) C0.1 C0.2.1 dL_law_45 (by decide) (by decide) (by decide) (by decide) (la_hottestPage C0 hi hL hB (by omega) (by omega) (lp_w (by omega) (by omega) (kk _)) d0 H locs ls adC adM o1 o2 v1 v2 Z I A J B1 hd0 hV hr hm hk hl)
  | 58, _ => lv_tableIn (off := 3033) (tgt := 3078) C0.1 C0.2.1 dL_law_45 (by decide) (by decide) (by decide) (by decide) (la_hitRatioBits C0 hi hL hB (by omega) (by omega) (lp_w (by omega) (by omega) (kk _)) d0 H locs ls adC adM o1 o2 v1 v2 Z I A J B1 hd0 hV hr hm hk hl)
  | 59, _ => lv_tableIn (off := 3077) (tgt := 3122) C0.1 C0.2.1 dL_law_45 (by decide) (by decide) (by decide) (by decide) (la_total C0 hi hL hB (by omega) (by omega) (lp_w (by omega) (by omega) (kk _)) d0 H locs ls adC adM o1 o2 v1 v2 Z I A J B1 hd0 hV hr hm hk hl)
  | 60, _ => lv_tableIn (off := 3133) (tgt := 3178) C0.1 C0.2.1 dL_law_45 (by decide) (by decide) (by decide) (by decide) (la_writeReport C0 hi hL hB (by omega) (by omega) (lp_w (by omega) (by omega) (kk _)) d0 H locs ls adC adM o1 o2 v1 v2 Z I A J B1 hd0 hV hr hm hk hl)
  | 61, _ => lv_tableIn (off := 3146) (tgt := 3191) C0.1 C0.2.1 dL_law_45 (by decide) (by decide) (by decide) (by decide) (la_reportByte C0 hi hL hB (by omega) (by omega) (lp_w (by omega) (by omega) (kk _)) d0 H locs ls adC adM o1 o2 v1 v2 Z I A J B1 hd0 hV hr hm hk hl)
  | 62, _ => lv_tableIn (off := 3202) (tgt := 3247) C0.1 C0.2.1 dL_law_45 (by decide) (by decide) (by decide) (by decide) (la_undo C0 hi hL hB (by omega) (by omega) (lp_w (by omega) (by omega) (kk _)) d0 H locs ls adC adM o1 o2 v1 v2 Z I A J B1 hd0 hV hr hm hk hl)
  | 63, _ => lv_tableIn (off := 3246) (tgt := 3291) C0.1 C0.2.1 dL_law_45 (by decide) (by decide) (by decide) (by decide) (la_undoDepth C0 hi hL hB (by omega) (by omega) (lp_w (by omega) (by omega) (kk _)) d0 H locs ls adC adM o1 o2 v1 v2 Z I A J B1 hd0 hV hr hm hk hl)
  | n + 64, h => absurd h (by omega)
theorem lp_loop (C0 : lw_X p l s m meth c b L xs D cT cL cD ac) (hL : L ≤ 3072) {c0 s0 : Nat} (hc0 : c0 + 410400 ≤ 603072) (hs0 : s0 + 820800 ≤ 7186538) : ∀ (n i B c' s' j : Nat) (st : st_S), i = 6 * j → B = 401 * j → c' = c0 + 800 * j → s' = s0 + 1600 * j → 6 * j ≤ L → L < 6 * (j + n) + 6 → lw_G p l e s m below meth c b D cT cL cD ac 28 i B c' s' st := by
  intro n
  induction n with
  | zero =>
    intro i B c' s' j st e1 e2 e3 e4 hj hn d0 H locs ls adC adM o1 o2 v1 v2 Z I A J B1 hd0 hV hr hm hk hl
    have hx := C0.1
    have hb := C0.2.1
    have hX : va_X b L xs (s.setDrawn d0) (s.setDrawn d0).heap := C0.2.2.2.2.2.2.2.2.2.1
    have hbl : b < s.heap.size := C0.2.2.2.2.2.2.2.2.2.2.1
    refine lv_iload hx hb dL_law_28 (lv_at hl 0 rfl) ?_
    refine lv_aload_n hx hb dL_law_30 rfl (lv_at hl 5 rfl) ?_
    refine va_slen (L := L) hx hb hX hbl (show ¬ s.heap.size ≤ b from Nat.not_le_of_lt hbl) hV.2.2.2 dL_law_31 ?_
    refine lv_bipush (v := 6) hx hb dL_law_32 (by decide) ?_
    refine lv_isub hx hb dL_law_34 ?_
    refine lv_icmp_gt (tgt := 3310) hx hb dL_law_35 (by decide) (fun _ => ?_) (fun z => absurd ((lp_lt (L := L) (i := i) hL (by omega)).mpr (by omega)) z)
    refine lv_iconst (v := 1) hx hb dL_law_3310 (by decide) ?_
    refine va_forget (fun q hq => hV.2.2.2.2.2 q hq) (W.widen (k := 603072) (n := 7186538) (by omega) (by omega) ?_)
    exact lw_ret hd0 hx hb C0.2.2.2.1 C0.2.2.2.2.2.2.2.2.2.2.2.1 dL_law_3311
  | succ n ih =>
    intro i B c' s' j st e1 e2 e3 e4 hj hn d0 H locs ls adC adM o1 o2 v1 v2 Z I A J B1 hd0 hV hr hm hk hl
    have hx := C0.1
    have hb := C0.2.1
    have hX : va_X b L xs (s.setDrawn d0) (s.setDrawn d0).heap := C0.2.2.2.2.2.2.2.2.2.1
    have hbl : b < s.heap.size := C0.2.2.2.2.2.2.2.2.2.2.1
    refine lv_iload hx hb dL_law_28 (lv_at hl 0 rfl) ?_
    refine lv_aload_n hx hb dL_law_30 rfl (lv_at hl 5 rfl) ?_
    refine va_slen (L := L) hx hb hX hbl (show ¬ s.heap.size ≤ b from Nat.not_le_of_lt hbl) hV.2.2.2 dL_law_31 ?_
    refine lv_bipush (v := 6) hx hb dL_law_32 (by decide) ?_
    refine lv_isub hx hb dL_law_34 ?_
    refine lv_icmp_gt (tgt := 3310) hx hb dL_law_35 (by decide) (fun _ => ?_) (fun z => ?_)
    · refine lv_iconst (v := 1) hx hb dL_law_3310 (by decide) ?_
      refine va_forget (fun q hq => hV.2.2.2.2.2 q hq) (W.widen (k := 603072) (n := 7186538) (by omega) (by omega) ?_)
      exact lw_ret hd0 hx hb C0.2.2.2.1 C0.2.2.2.2.2.2.2.2.2.2.2.1 dL_law_3311
    · have hi : i + 6 ≤ L := by
        exact Nat.le_of_not_lt (fun w => z ((lp_lt (L := L) (i := i) hL (by omega)).mpr w))
      refine lv_aload_n hx hb dL_law_38 rfl (lv_at hl 5 rfl) ?_
      refine lv_iload hx hb dL_law_39 (lv_at hl 0 rfl) ?_
      refine va_sld (L := L) hx hb hX hbl (show ¬ s.heap.size ≤ b from Nat.not_le_of_lt hbl) hV.2.2.2 (vp_in_nI (by omega) (by omega)) dL_law_41 ?_
      refine lv_bipush (v := 63) hx hb dL_law_42 (by decide) ?_
      refine lv_iand hx hb dL_law_44 ?_
      obtain ⟨q, hq, eq⟩ := lp_63 (xs (nI i).toNatClampNeg)
      rw [eq]
      refine lp_sw C0 hi hL (by omega) (by omega) (by omega) (fun st2 => ?_) hd0 hV hr hm hk hl q hq
      intro d0 H locs ls adC adM o1 o2 v1 v2 Z I A J B1 hd0 hV hr hm hk hl
      refine lv_iinc (k := 0) (lv' := LB b adC adM o1 o2 (i + 6)) hx hb dL_law_3304 hl rfl (by exact (nI_add (a := i) (b := 6))) (by decide) rfl (fun ls hl => ?_)
      exact lv_goto (tgt := 28) hx hb dL_law_3307 (by decide) (ih (i + 6) (B + 401) (c' + 800) (s' + 1600) (j + 1) st2 (by omega) (by omega) (by omega) (by omega) (by omega) (by omega) d0 H locs ls adC adM o1 o2 v1 v2 Z I A J B1 hd0 hV hr hm hk hl)
end
