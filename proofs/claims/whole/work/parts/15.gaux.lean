/-! ends, and rows in the form that the generator uses -/
def ab_no : String → ab_F → ab_F → Prop := fun _ _ _ => False
def ab_ri (K : Int32 → ab_F → ab_F → Prop) : Option Value → ab_F → ab_F → Prop := fun r I A => ∃ x, r = some (.int x) ∧ K x I A
def ab_rf (K : UInt32 → ab_F → ab_F → Prop) : Option Value → ab_F → ab_F → Prop := fun r I A => ∃ x, r = some (.float x) ∧ K x I A
def ab_rv (K : ab_F → ab_F → Prop) : Option Value → ab_F → ab_F → Prop := fun r I A => r = none ∧ K I A
def ab_rr (q : Nat) (K : ab_F → ab_F → Prop) : Option Value → ab_F → ab_F → Prop := fun r I A => r = some (.ref q) ∧ K I A
def ab_Px (sh : List ab_S) (KX : String → ab_F → ab_F → Prop) (R : Option Value → ab_F → ab_F → Prop) : ab_O → Prop
  | (.inl r, sh', I, A) => sh' = sh ∧ R r I A
  | (.inr E, sh', I, A) => sh' = sh ∧ KX E I A
/-- dead locals are forgotten: those that stay stay as they are -/
def ab_zip : List (Option Value) → List (Option Value) → List (Option Value)
  | none :: a, _ :: b => none :: ab_zip a b
  | some _ :: a, y :: b => y :: ab_zip a b
  | _, _ => []
theorem ab_fgA : ∀ (a b : List (Option Value)) (i : Nat) (v : Value), (ab_zip a b)[i]? = some (some v) → b[i]? = some (some v)
  | [], b, i, v, h => by simp [ab_zip] at h
  | none :: a, [], i, v, h => by simp [ab_zip] at h
  | some x :: a, [], i, v, h => by simp [ab_zip] at h
  | none :: a, y :: b, 0, v, h => by simp [ab_zip] at h
  | some x :: a, y :: b, 0, v, h => h
  | none :: a, y :: b, i + 1, v, h => ab_fgA a b i v h
  | some x :: a, y :: b, i + 1, v, h => ab_fgA a b i v h
theorem ab_fg {a b : List (Option Value)} (h : ab_zip a b = a) : ∀ (i : Nat) (v : Value), a[i]? = some (some v) → b[i]? = some (some v) := fun i v e => ab_fgA a b i v (by rw [h]; exact e)
theorem ab_ngm (i : Nat) {w : Cond} (h : ab_ng[i]? = some w) : w ∈ ab_ng := List.mem_of_getElem? h
section
variable {M : ab_M} {d : Nat} {C : ab_X} {P : ab_O → Prop} {pc n : Nat} {ls : List (Option Value)} {st : List Value} {sh : List ab_S} {I A : ab_F} {bc bs : Nat}
theorem g_less {bc' bs' : Nat} (h1 : bc' ≤ bc) (h2 : bs' ≤ bs) (kk : ab_G M d C P pc ls st sh I A bc' bs') : ab_G M d C P pc ls st sh I A bc bs := by
  obtain ⟨p, l, e, s, m, args, below, meth, c, D, cT, ac, Ar, ad0, n0, mc, ms⟩ := C
  intro hf ad H locs lsA cells slots g1 g2
  exact kk hf ad H locs lsA cells slots (by omega) (by omega)
theorem g_topi {x : Int32} (kk : ∀ y : Int32, y = x → ab_G M d C P pc ls (.int y :: st) sh I A bc bs) : ab_G M d C P pc ls (.int x :: st) sh I A bc bs := kk x rfl
theorem g_topl {x : Int64} (kk : ∀ y : Int64, y = x → ab_G M d C P pc ls (.long y :: st) sh I A bc bs) : ab_G M d C P pc ls (.long x :: st) sh I A bc bs := kk x rfl
theorem g_topf {x : UInt32} (kk : ∀ y : UInt32, y = x → ab_G M d C P pc ls (.float y :: st) sh I A bc bs) : ab_G M d C P pc ls (.float x :: st) sh I A bc bs := kk x rfl
theorem g_lcmp {x y : Int64} (dg : decode M.2.1 pc = .ok (.lcmp, 1)) (hn : pc + 1 = n) (kk : ab_G M d C P n ls (.int (lg_cmp x y) :: st) sh I A bc bs) : ab_G M d C P pc ls (.long y :: .long x :: st) sh I A bc bs := by
  obtain ⟨p, l, e, s, m, args, below, meth, c, D, cT, ac, Ar, ad0, n0, mc, ms⟩ := C
  intro hf ad H locs lsA cells slots h1 h2 h3 h4 h5 h6 h7 h8 h9 h10 h11
  subst hn
  exact W.lcmp hf.1 hf.2.1 dg (kk hf ad H locs lsA cells slots h1 h2 h3 h4 h5 h6 (ab_oc trivial (ab_ot (ab_ot h7))) h8 h9 h10 h11)
theorem g_getIE {q ci k idx N : Nat} {fs : List (Option Value)} {Cn : String} {T : u_T} {x : Int32} (dg : decode M.2.1 pc = .ok (.getfield idx, 3)) (hq : sh[q]? = some (.inr (.inr (ci, fs)))) (hc : vwCl[ci]? = some (Cn, T, N)) (hk : k < N) (hv : fs[k]? = some none) (hw : Cond.fieldLink M.1.cls idx (T k).1 (T k).2.1 (T k).2.2.1 ∈ ab_ws) (hx : I q k = x) (hn : pc + 3 = n) (kk : ab_G M d C P n ls (.int x :: st) sh I A bc bs) : ab_G M d C P pc ls (.ref q :: st) sh I A bc bs := by
  subst hx
  exact g_getI dg hq hc hk hv hw hn kk
theorem ab_ix {i : Int32} {j N : Nat} (hj : i = nI j) (hl : j < N) (hN : N < 2 ^ 31) : vp_in i N ∧ i.toNatClampNeg = j := by
  subst hj
  exact ⟨vp_in_nI hl hN, nI_clamp (by omega)⟩
theorem g_ialdJ {q N j : Nat} {i x : Int32} (dg : decode M.2.1 pc = .ok (.iaload, 1)) (hq : sh[q]? = some (.inl (.int, N))) (hj : i = nI j) (hl : j < N) (hN : N < 2 ^ 31) (hx : A q j = x) (hn : pc + 1 = n) (kk : ab_G M d C P n ls (.int x :: st) sh I A bc bs) : ab_G M d C P pc ls (.int i :: .ref q :: st) sh I A bc bs := by
  obtain ⟨h1, h2⟩ := ab_ix hj hl hN
  subst hx
  refine g_iald dg hq h1 hn ?_
  rw [h2]; exact kk
theorem g_baldJ {q N j : Nat} {i x : Int32} (dg : decode M.2.1 pc = .ok (.baload, 1)) (hq : sh[q]? = some (.inl (.byte, N))) (hj : i = nI j) (hl : j < N) (hN : N < 2 ^ 31) (hx : A q j = x) (hn : pc + 1 = n) (kk : ab_G M d C P n ls (.int x :: st) sh I A bc bs) : ab_G M d C P pc ls (.int i :: .ref q :: st) sh I A bc bs := by
  obtain ⟨h1, h2⟩ := ab_ix hj hl hN
  subst hx
  refine g_bald dg hq h1 hn ?_
  rw [h2]; exact kk
theorem g_iastJ {q N j : Nat} {i x : Int32} (dg : decode M.2.1 pc = .ok (.iastore, 1)) (hq : sh[q]? = some (.inl (.int, N))) (hj : i = nI j) (hl : j < N) (hN : N < 2 ^ 31) (hn : pc + 1 = n) (kk : ab_G M d C P n ls st sh I (wr A q j x) bc bs) : ab_G M d C P pc ls (.int x :: .int i :: .ref q :: st) sh I A bc bs := by
  obtain ⟨h1, h2⟩ := ab_ix hj hl hN
  refine g_iast dg hq h1 hn ?_
  rw [h2]; exact kk
theorem g_bastJ {q N j : Nat} {i x : Int32} (dg : decode M.2.1 pc = .ok (.bastore, 1)) (hq : sh[q]? = some (.inl (.byte, N))) (hj : i = nI j) (hl : j < N) (hN : N < 2 ^ 31) (hn : pc + 1 = n) (kk : ab_G M d C P n ls st sh I (wr A q j (vp_nar .byte x)) bc bs) : ab_G M d C P pc ls (.int x :: .int i :: .ref q :: st) sh I A bc bs := by
  obtain ⟨h1, h2⟩ := ab_ix hj hl hN
  refine g_bast dg hq h1 hn ?_
  rw [h2]; exact kk
end
theorem vc_0 : vwCl[0]? = some (RJ0, TJ0, 4) := rfl
theorem vc_1 : vwCl[1]? = some (RJ4, TJ4, 4) := rfl
theorem vc_4 : vwCl[4]? = some (RX0, TX0, 4) := rfl
theorem vc_5 : vwCl[5]? = some (RX1, TX1, 8) := rfl
theorem vc_6 : vwCl[6]? = some (RX2, TX2, 5) := rfl
theorem vc_7 : vwCl[7]? = some (RX3, TX3, 3) := rfl
theorem vc_8 : vwCl[8]? = some (RX4, TX4, 7) := rfl
theorem vc_9 : vwCl[9]? = some (RX5, TX5, 7) := rfl
theorem vc_10 : vwCl[10]? = some (RX6, TX6, 2) := rfl
theorem vc_11 : vwCl[11]? = some (RX7, TX7, 5) := rfl
theorem vc_12 : vwCl[12]? = some (RX8, TX8, 7) := rfl
theorem vc_13 : vwCl[13]? = some (RX9, TX9, 9) := rfl
theorem vc_14 : vwCl[14]? = some (RX10, TX10, 5) := rfl
theorem vc_15 : vwCl[15]? = some (RX11, TX11, 7) := rfl
theorem vc_16 : vwCl[16]? = some (RX12, TX12, 19) := rfl
