/-! a method with a table of its own that may draw: pf_freeD, pf_backD, pf_callSD, pf_runSD, pf_ofW follow the proofs of their sisters in the library, with the word codeWith -/
theorem pf_ofW {cs : List Choice} {l : Launch} {y : MethodName} {ws ws' : List Cond} {rm : Room} {Pc : Array Value → State → Prop} {Qc : Array Value → State → Outcome → State → Prop} {mc ms : Nat} {free : Addr → Prop} {hh : List (Nat × Nat × Nat × Nat)} {cc : ByteArray} {maxL : Nat} {ret : Option FieldType}
    (hy : plainName y.cls = true) (hw : ws = Cond.codeWith y cc maxL ret hh :: ws')
    (body : ∀ p e s m args below meth c s₁, BodyLoose p l y (headSpec ws rm) cc maxL ret e s m args below meth c s₁ → c.maxLocals = maxL → Pc args s → s.drawn.sameBut s.drawn cs →
      W p l e (headSpec ws rm).room (s.setDrawn s.drawn) m args below meth c s.heap [] 0 0 (MQD cs below Qc args s mc ms free) (entryFrame m args maxL)) : MetD cs l y ws rm Pc Qc mc ms free := by
  refine MetFree.of_bodyS (code := cc) (maxLocals := maxL) (ret := ret) hy ?_ ?_
  · intro args s m h hn
    obtain ⟨m9, meth, c, hn9, h1, h2, h3, h4, -, h5, h6, -⟩ := Cond.codeWith_spec (atoms_spec (ws := ws) h _ (by rw [hw]; exact List.mem_cons_self))
    cases hn.symm.trans hn9
    exact ⟨meth, c, h1, h2, h3, h4, h5, h6⟩
  · intro p e s m args below meth c s₁ B hml hP _
    have hh0 : s₁.heap = s.heap := by rw [B.state]; rfl
    have X0 : Stand p l e (headSpec ws rm).room (s.setDrawn s.drawn) m args below meth c s₁ [] 0 0 := Stand.of_body B
    obtain ⟨t, a1, d, hd, o, b1, b2, b3, b4⟩ := body p e s m args below meth c s₁ B hml hP (Drawn.sameBut.refl _ _) s₁ hh0 X0
    exact ⟨t, o, a1, b1, b2, d, hd, b3, b4⟩
section
variable {cs : List Choice} {l : Launch} {R : Room} {p : Program} {e : Env} {below : List Frame} {s : State} {sargs : Array Value} {y : MethodName} {len W : Nat}
theorem pf_freeD {Pre : Pt → Array Value → Prop} {Post : Pt → Array Value → Option Value → Pt → Prop} {S : Spec} {P : Array Value → State → Prop}
    {Q : Array Value → State → Outcome → State → Prop} {hh : List (Nat × Nat × Nat × Nat)} {bytes : ByteArray} {maxL : Nat} {ret : Option FieldType}
    {E : Array Value → State → Outcome → State → List Loc → Nat → Nat → Prop}
    (hM : MetFree l y S P (fun _ _ _ _ _ => True) (fun a st o t => ∃ d : Drawn, st.drawn.sameBut d cs ∧ Q a (st.setDrawn d) o t))
    (hframes : S.room.frames + 1 ≤ R.frames) (hlocals : W + (maxL + 11) + S.room.locals ≤ R.locals)
    (hpre : ∀ m meth c (A : Pt) a, Stand p l e R s m sargs below meth c A.U A.locs A.cells A.slots → Pre A a → S.pre.before a A.U = true ∧ (Cond.codeWith y bytes maxL ret hh).before a A.U = true ∧ (Cond.initialized y.cls).before a A.U = true ∧ A.cells + S.room.cells ≤ R.cells ∧ A.slots + S.room.slots ≤ R.slots)
    (hP : ∀ m meth c (A : Pt) a (g : JFrame) mk, Stand p l e R s m sargs below meth c A.U A.locs A.cells A.slots → Pre A a → P a (A.U.calling g mk a))
    (hQ : ∀ a first o t, Q a first o t → ∃ L k n, FrameEnd first o t L k n ∧ E a first o t L k n)
    (hpost : ∀ (A : Pt) a (g : JFrame) mk v t L k n, Q a (A.U.calling g mk a) (.returned v) t → FrameEnd (A.U.calling g mk a) (.returned v) t L k n → E a (A.U.calling g mk a) (.returned v) t L k n →
      Post A a v ⟨(({ A.U with heap := t.heap, slotsUsed := t.slotsUsed } : State).setVm t.vm), A.locs ++ L, A.cells + k, A.slots + n⟩) :
    BackD cs l R p e below s sargs y len W Pre Post := by
  intro m meth c A g ig mk a X hg hsize hdg hW hn hp
  obtain ⟨h1, h2, h3, h4, h5⟩ := hpre m meth c A a X hp
  have hP0 : P a (A.U.calling g mk a) := hP m meth c A a g mk X hp
  obtain ⟨U, Ls, c0, s0⟩ := A
  dsimp only [Pt.U, Pt.locs, Pt.cells, Pt.slots] at h1 h2 h3 h4 h5 X hn hP0 ⊢
  obtain ⟨m9, methY, cY, hn9, hmY, hcY, -, hlY, -⟩ := Cond.codeWith_spec h2
  cases hn.symm.trans hn9
  obtain ⟨kY, hkY, -⟩ := className_of_methodNamed hn
  have hinitY : kY.init = .initialized := Cond.initialized_spec (findClass_of_methodNamed hn) hkY h3
  have h : At U g.method c below := by rw [hg]; exact X.here
  have happ : S.appliesLoose y e.platform (U.calling g mk a) = true :=
    Spec.appliesLoose_calling (g := g) h hdg hn hkY hinitY
      (X.room_calling (g := g) (R' := S.room) hsize hmY hcY hframes (by rw [hlY]; omega) h4 h5) h1
  obtain ⟨mid, hmid⟩ := h.above
  have hfr : (U.setTop g).frames = (.java g :: mid) ++ below := by rw [State.frames_setTop' g h.top, hmid]; rfl
  obtain ⟨o, s₂, hsteps, -, hend, hq⟩ := Steps.callFree hM p X.admits X.cas X.clock (acts := []) hfr happ hP0 trivial
  have hq' : ∃ d : Drawn, (U.calling g mk a).drawn.sameBut d cs ∧ Q a ((U.calling g mk a).setDrawn d) o s₂ := hq
  rw [State.frames_setTop' g h.top] at hend
  obtain ⟨d, hd, hqd⟩ := hq'
  have hcdr : (U.calling g mk a).drawn = s.drawn := by
    rw [State.calling_eq h.top]
    exact X.drawn_eq
  rw [hcdr] at hd
  have h' : At (U.setDrawn d) g.method c below := h.setDrawn d
  have X' : Stand p l e R (s.setDrawn d) m sargs below meth c (U.setDrawn d) Ls c0 s0 := X.drew d
  have hcd : (U.calling g mk a).setDrawn d = (U.setDrawn d).calling g mk a := by
    rw [State.calling_eq h.top, State.calling_eq h'.top]
    rfl
  rw [hcd] at hqd
  obtain ⟨L, k, n, hfe, hE⟩ := hQ _ _ _ _ hqd
  obtain ⟨⟨v, rfl⟩, hW₂, e2, q2, q3, q4, q5, q6⟩ := id hfe
  have e3 : s₂ = ({ ((U.setDrawn d).calling g mk a).setFrames s₂.frames with heap := s₂.heap, slotsUsed := s₂.slotsUsed } : State).setVm s₂.vm := by
    have : s₂ = ({ s₂ with vm := ((U.setDrawn d).calling g mk a).vm } : State).setVm s₂.vm := rfl
    rw [e2] at this
    exact this
  obtain ⟨c₂, i₂, len₂, hc₂, hd₂, hf₂⟩ := hend
  have hW' : (U.setDrawn d).WarmedH s₂.vm := hW₂
  have hcc : c₂ = c := by
    have h1 : s₂.code? g.method = (U.setDrawn d).code? g.method := by
      rw [State.code?_eq, State.code?_eq, hW'.alike.method?]
    exact Option.some.inj (hc₂.symm.trans (h1.trans h'.code))
  subst hcc
  have hlen : len₂ = len := by rw [hdg] at hd₂; cases hd₂; rfl
  subst hlen
  obtain ⟨g₀, hg0⟩ := Option.isSome_iff_exists.mp h.top
  obtain ⟨r, hr⟩ := State.topJava?_eq_some.mp hg0
  have hrV : (U.setDrawn d).frames = .java g₀ :: r := hr
  have hs₂ : s₂ = (({ U.setDrawn d with heap := s₂.heap, slotsUsed := s₂.slotsUsed } : State).setVm s₂.vm).setTop { g with pc := g.pc + len₂, stack := v.toList ++ g.stack } := by
    have hr' : (({ U.setDrawn d with heap := s₂.heap, slotsUsed := s₂.slotsUsed } : State).setVm s₂.vm).frames = .java g₀ :: r := hr
    refine e3.trans ?_
    rw [hf₂, State.calling_eq h'.top, State.setFrames_setFrames, State.setTop_of_frames _ hr', hr]
    rfl
  have hsame : (U.setDrawn d).sameButNew ({ U.setDrawn d with heap := s₂.heap, slotsUsed := s₂.slotsUsed } : State) L k n := by
    refine ⟨?_, q2, q3, q4, q5, q6⟩
    obtain ⟨t, ht, -⟩ := State.frames_cons hrV
    show ({ U.setDrawn d with heap := s₂.heap, slotsUsed := s₂.slotsUsed } : State) = { (U.setDrawn d).setFrames (U.setDrawn d).frames with heap := s₂.heap, slotsUsed := s₂.slotsUsed }
    rw [State.setFrames_self ht]
  subst hg
  refine ⟨v, ⟨(({ U.setDrawn d with heap := s₂.heap, slotsUsed := s₂.slotsUsed } : State).setVm s₂.vm), Ls ++ L, c0 + k, s0 + n⟩, d, hd,
    ⟨X'.admits, X'.cas, X'.clock, X'.frames, X'.room, X'.hears, X'.method, X'.code, (X'.here.setHeapUsed s₂.heap s₂.slotsUsed).setVm hW'.alike, X'.tail, State.WarmedH.trans X'.warmed hW', X'.limits, X'.bytes, X'.same.trans (hsame.setVm (s.setDrawn d).vm)⟩,
    hpost ⟨U.setDrawn d, Ls, c0, s0⟩ a g mk v s₂ L k n hqd hfe hE, ?_⟩
  show Steps p.tables e below _ ((({ U.setDrawn d with heap := s₂.heap, slotsUsed := s₂.slotsUsed } : State).setVm s₂.vm).setTop { g with pc := g.pc + len₂, stack := v.toList ++ g.stack })
  rw [← hs₂]
  exact hsteps
theorem pf_backD {ws : List Cond} {rm : Room} {Pc : Array Value → State → Prop} {Qc : Array Value → State → Outcome → State → Prop} {mc ms : Nat} {free : Addr → Prop} {hh : List (Nat × Nat × Nat × Nat)} {bytes : ByteArray} {maxL : Nat} {ret : Option FieldType}
    (hM : MetD cs l y ws rm Pc Qc mc ms free) (hblind : FrameBlind Pc) (hrc : rm.cells = mc) (hrs : rm.slots = ms)
    (hframes : rm.frames + 1 ≤ R.frames) (hlocals : W + (maxL + 11) + rm.locals ≤ R.locals)
    (hws : ∀ w ∈ ws, ∀ a' U, s.WarmedH U.vm → w.before a' U = true) (hcode : Cond.codeWith y bytes maxL ret hh ∈ ws) (hinit : ∀ a' U, s.WarmedH U.vm → (Cond.initialized y.cls).before a' U = true) :
    BackD cs l R p e below s sargs y len W (PreOf R mc ms Pc) (PostOf Qc mc ms free) := by
  refine pf_freeD (hh := hh) (S := headSpec ws rm) (P := Pc) (Q := fun a st o t => Qc a st o t ∧ ∃ L, FrameEnd st o t L mc ms ∧ ∀ q ∈ L, free q.base) (bytes := bytes) (maxL := maxL) (ret := ret)
    (E := fun a st o t L k n => k = mc ∧ n = ms ∧ ∀ q ∈ L, free q.base) hM hframes hlocals ?_ ?_ ?_ ?_
  · intro m meth c A a X hp
    exact ⟨atoms_intro fun w hw => hws w hw _ _ X.warmed, hws _ hcode _ _ X.warmed, hinit _ _ X.warmed, by rw [show (headSpec ws rm).room.cells = mc from hrc]; exact hp.1, by rw [show (headSpec ws rm).room.slots = ms from hrs]; exact hp.2.1⟩
  · intro m meth c A a g mk X hp
    exact hblind _ _ _ _ hp.2.2
  · intro a st o t ⟨hq, L, hF, hL⟩
    exact ⟨L, mc, ms, hF, rfl, rfl, hL⟩
  · intro A a g mk v t L k n hq hF ⟨e1, e2, hL⟩
    subst e1; subst e2
    exact ⟨g, mk, t, L, rfl, rfl, hq.1, rfl, hL, rfl, rfl⟩
end
section
variable {cs : List Choice}
variable {p : Program} {l : Launch} {e : Env} {R : Room} {s : State} {m : MethodId} {args : Array Value} {below : List Frame} {meth : Method} {c : Code} {T : State} {locs : List Loc} {cells slots : Nat}
theorem pf_callSD (X : Stand p l e R s m args below meth c T locs cells slots) (hexec : p.tables.exec = Jvm.exec) {own : String} {index : Nat} {y : MethodName} {hh : List (Nat × Nat × Nat × Nat)} {bytes : ByteArray} {maxL : Nat} {ret : Option FieldType}
    (hown : s.vm.findClass own = some m.cls) (hlink : (Cond.methodLink own index y).before args s = true) (hstat : (Cond.static y).before args s = true) (hinit : (Cond.initialized y.cls).before args s = true)
    (hcode : (Cond.codeWith y bytes maxL ret hh).before args s = true) (hy : y.cls ≠ "java/lang/invoke/MethodHandle" ∧ y.cls ≠ "java/lang/invoke/VarHandle")
    {W : Nat} {Pre : Pt → Array Value → Prop} {Post : Pt → Array Value → Option Value → Pt → Prop} (hK : BackD cs l R p e below s args y 3 W Pre Post)
    {g : JFrame} (hg : g.method = m) (hsize : g.locals.size = c.maxLocals) {argsL rest : List Value} (hlen : ∀ sig, parseMethodDescriptor y.desc = some sig → argsL.length = sig.parameters.length)
    (hstack : g.stack = argsL.reverse ++ rest) (hW : 2 * g.monitorRoom + (rest.map fun v => v.category).sum ≤ W) (hdg : decode c.code g.pc = .ok (.invokestatic index, 3))
    (hpre : ∀ vm₁, s.WarmedH vm₁ → Pre ⟨T.setVm vm₁, locs, cells, slots⟩ argsL.toArray) :
    ∃ (v : Option Value) (vm₁ : Vm) (B : Pt) (d' : Drawn), s.drawn.sameBut d' cs ∧ s.WarmedH vm₁ ∧ Stand p l e R (s.setDrawn d') m args below meth c B.U B.locs B.cells B.slots ∧ Post ⟨(T.setVm vm₁).setDrawn d', locs, cells, slots⟩ argsL.toArray v B ∧
      ∀ target, Steps p.tables e below (B.U.setTop { g with pc := g.pc + 3, stack := v.toList ++ rest }) target → Steps p.tables e below (T.setTop g) target := by
  obtain ⟨mk, methM, cM, hnamed, hmethM, -, -, -, -, -, -, hsigM⟩ := Cond.codeWith_spec hcode
  have hstatic : methM.isStatic = true := Cond.static_spec hnamed hmethM hstat
  obtain ⟨kP, hkP, -⟩ := className_of_methodNamed hnamed
  have hinitP : kP.init = .initialized := Cond.initialized_spec (findClass_of_methodNamed hnamed) hkP hinit
  obtain ⟨vm₁, X₁, hstep₁⟩ := X.invokestatic hexec hown hlink hnamed hmethM hstatic hkP hinitP hy (g := g) hg (argsL := argsL) (rest := rest) (hlen _ hsigM) hstack hdg
  obtain ⟨v, B, d', hd', X', hpost, hsteps⟩ := hK m meth c ⟨T.setVm vm₁, locs, cells, slots⟩ { g with stack := rest } (.invokestatic index) mk argsL.toArray X₁ hg hsize hdg hW (X₁.named hnamed) (hpre vm₁ X₁.warmed)
  exact ⟨v, vm₁, B, d', hd', X₁.warmed, X', hpost, fun target h => hstep₁ _ fun acts => by rw [doInvoke_state]; exact hsteps.trans h⟩
end
section
variable {cs : List Choice}
variable {p : Program} {l : Launch} {e : Env} {R : Room} {s : State} {m : MethodId} {args : Array Value} {below : List Frame} {meth : Method} {c : Code} {H : Heap} {locs : List Loc} {cells slots : Nat} {Q : State → Prop}
variable {y : MethodName} {bytes cc : ByteArray} {maxL nL mc ms n index : Nat} {ret : Option FieldType} {ws : List Cond} {rm : Room} {Pc : Array Value → State → Prop} {Qc : Array Value → State → Outcome → State → Prop} {free : Addr → Prop} {Ts : List Cond} {own C : String} {b : Addr} {As rest : List Value} {g : JFrame}
theorem pf_runSD {hh : List (Nat × Nat × Nat × Nat)} (S : CallFix p m c cc nL s args Ts own) (hM : MetD cs l y ws rm Pc Qc mc ms free) (cw : vx_CSW R s args own index y bytes maxL ret hh ws rm mc ms n) (hp : PreS s H Pc As)
    (hg : g.method = m) (hn : As.length = n) (hsize : g.locals.size = nL) (hstack : g.stack = As.reverse ++ rest) (hW : 2 * g.monitorRoom + (rest.map fun v => v.category).sum ≤ 8) (hdg : decode cc g.pc = .ok (.invokestatic index, 3)) (hf : cells + mc ≤ R.cells ∧ slots + ms ≤ R.slots) :
    va_RunD cs p l e R s m args below meth c H locs cells slots mc ms g rest (Qc As.toArray) (free) := by
  obtain ⟨⟨hrc, hrs, hfr, hlo, hws, hcw⟩, hcode, hini, hy, hlen, hl, hstt⟩ := cw
  have hK : BackD cs l R p e below s args y 3 8 (PreOf R mc ms Pc) (PostOf Qc mc ms free) := pf_backD (hh := hh) (bytes := bytes) (maxL := maxL) (ret := ret) hM hp.1 hrc hrs hfr hlo hws hcw (fun a' U hW => word_at hW (Or.inl (by first | rfl | simp [Cond.onTables, Cond.keeps, Cond.steady])) hini)
  obtain ⟨hx, hb, hml, ho, -⟩ := S
  intro T hT X
  obtain ⟨v, vm₁, ⟨U', l2, c2, s2⟩, d', hd', hW₁, X', ⟨g', mk, t, L, e1, e2, hq, h1, hL, h2, h3⟩, st⟩ := pf_callSD (hh := hh) X hx (bytes := bytes) (maxL := maxL) (ret := ret) ho hl hstt hini hcode hy hK hg (hsize.trans hml.symm) (argsL := As) (rest := rest) (fun sig h => hn.trans (hlen sig h)) hstack hW (by rw [hb]; exact hdg)
    (fun vm₁ hW₁ => ⟨hf.1, hf.2, hp.2 (T.setVm vm₁) hT hW₁⟩)
  dsimp only [Pt.U, Pt.locs, Pt.cells, Pt.slots] at X' e1 e2 h1 h2 h3 st
  subst h1; subst h2; subst h3
  exact ⟨v, ((T.setVm vm₁).setDrawn d').calling g' mk As.toArray, t, U', L, d', hd', hT, X', hL, e1, e2, hq, st⟩
end
/-! NaNs -/
theorem pf_n64 {x : UInt64} : isNaN64 x = true ↔ FP.Core.val64 x = .nan := by
  rw [isNaN64_iff, ← FP.Core.dIsNaN_iff, FP.Core.isNaN_bits, show (0x7fffffffffffffff : Nat) = 2 ^ 63 - 1 from rfl, Nat.and_two_pow_sub_one_eq_mod]
theorem pf_n32 {x : UInt32} (h : FP.Core.val64 (FP.f2d x) = .nan) : FP.Core.val32 x = .nan := by
  have h1 := (FP.Core.dIsNaN_iff _).mpr h
  have h2 : FP.Core.dIsNaN (FP.f2d x) = FP.Core.fIsNaN x := FP.f2d_nan x
  rw [h2] at h1
  exact (FP.Core.fIsNaN_iff _).mp h1
theorem pf_al {r F : UInt64} (h : alike64 r F = true) : r = F ∨ (FP.Core.val64 r = .nan ∧ FP.Core.val64 F = .nan) := by
  unfold alike64 at h
  simp only [Bool.or_eq_true, decide_eq_true_eq, Bool.and_eq_true] at h
  rcases h with h | ⟨h1, h2⟩
  · exact Or.inl h
  · exact Or.inr ⟨pf_n64.mp h1, pf_n64.mp h2⟩
theorem pf_eq {r q F : UInt64} (h1 : alike64 r F = true) (h2 : alike64 q F = true) (hn : FP.Core.val64 F ≠ .nan) : Op.cmpValue (FP.dcmp r q) .l = 0 := by
  rcases pf_al h1 with e | e
  · rcases pf_al h2 with e2 | e2
    · rw [e, e2, show FP.dcmp F F = FP.Core.dcmp F F from rfl, FP.Core.dcmp_self hn]
      rfl
    · exact absurd e2.2 hn
  · exact absurd e.2 hn
theorem pf_ne {r q F : UInt64} (h1 : alike64 r F = true) (hn : FP.Core.val64 F = .nan) : Op.cmpValue (FP.dcmp r q) .l = -1 := by
  have hr : FP.Core.val64 r = .nan := by
    rcases pf_al h1 with e | e
    · rw [e]; exact hn
    · exact e.1
  rw [show FP.dcmp r q = FP.Core.dcmp r q from rfl, (FP.Core.dcmp_none r q).mpr (Or.inl hr)]
  rfl
theorem pf_nf {x : UInt32} (hn : FP.Core.val32 x = .nan) : Op.cmpValue (FP.fcmp x x) .l = -1 := by
  rw [show FP.fcmp x x = FP.Core.fcmp x x from rfl, (FP.Core.fcmp_none x x).mpr (Or.inl hn)]
  rfl
/-! peekFloat: contracts of both sides -/
def pf_zf (K : UInt32 → ab_Z → ab_F → ab_F → Prop) : Option Value → ab_Z → ab_F → ab_F → Prop := fun r Z I A => ∃ x, r = some (.float x) ∧ K x Z I A
def KF (B : Nat) (O : st_O) (c : Nat) (r : UInt32) (Z : ab_Z) (I A : ab_F) : Prop := c = O.1 ∧ (c = 0 → r = O.2.1.toUInt32) ∧ RCs B O.2.2 Z I A
def KFM (B : Nat) (O : st_O) (r : UInt32) (I A : ab_F) : Prop := RMs B O.2.2 I A ∧ I 0 5 = nI O.1 ∧ (O.1 = 0 → r = O.2.1.toUInt32)
theorem pf_Pz {M : ab_M} {d mc ms : Nat} {as : List Value} {Z : ab_Z} {I A : ab_F} {K : UInt32 → ab_Z → ab_F → ab_F → Prop} {KX : String → ab_Z → ab_F → ab_F → Prop} (h : ab_Cl M d mc ms as (shC Z) I A (ab_Px (shC Z) (fun E I A => KX E Z I A) (ab_rf (fun v I A => K v Z I A)))) : ab_Cl M d mc ms as (shC Z) I A (ab_Pz KX (pf_zf K)) := h.mono (fun o ho => by
  obtain ⟨r, sh1, I1, A1⟩ := o
  cases r with
  | inl r =>
    obtain ⟨e, x, e2, h⟩ := ho
    exact ⟨Z, e, x, e2, h⟩
  | inr E => exact ⟨Z, ho⟩)
theorem pf_mk {N : List String} {B B' : Nat} {O : st_O} (h : B ≤ B') : oC N B O (fun v Z I A => KF B' O 0 v.toUInt32 Z I A) (fun E Z I A => ∃ j, N[j]? = some E ∧ KF B' O (j + 1) 0 Z I A) := ⟨fun h0 Z I A r => ⟨h0.symm, fun _ => rfl, RC_mono h r⟩, fun E h0 hN Z I A r => ⟨O.1 - 1, hN, by omega, fun z => absurd z (by omega), RC_mono h r⟩⟩
theorem hc_peekFloat {B : Nat} {s : st_S} {Z : ab_Z} {I A : ab_F} {x0 x1 : Int32} (hB : B + 401 < 2 ^ 24) (k : Ok s) (r : RCs B s Z I A) : ab_Cl mX11_peekFloat 8 2 12 [.ref 0, .int x0, .int x1] (shC Z) I A (ab_Pz (fun E Z I A => ∃ j, ([xIx, xUn] : List String)[j]? = some E ∧ KF (B + 401) (s_peekF s x0 x1) (j + 1) 0 Z I A) (pf_zf (fun v Z I A => KF (B + 401) (s_peekF s x0 x1) 0 v Z I A))) := pf_Pz (ctX11_peekFloat (f_peekF (K := fun v Z I A => KF (B + 401) (s_peekF s x0 x1) 0 v Z I A) r (Nv_Nf k.1.1) (pf_mk (B' := B + 401) (by omega))))
theorem hm_peekFloat {B : Nat} {s : st_S} {I A : ab_F} {x0 x1 : Int32} (hB : B + 401 < 2 ^ 24) (k : Ok s) (r : RMs B s I A) : ab_Cl mX12_peekFloat 4 0 0 [.ref 0, .int x0, .int x1] shM I A (ab_Px shM ab_no (ab_rf (fun v I A => KFM (B + 401) (s_peekF s x0 x1) v I A))) := ctX12_peekFloat (r_peekF r (Nv_Nf k.1.1) (fun v I A x e5 hr => ⟨RM_mono (by omega) x, e5, hr⟩))
theorem ik_peekFloat {B : Nat} {s : st_S} {I A : ab_F} {x0 x1 : Int32} (hB : B + 401 < 2 ^ 24) (k : Ok s) (r : RMs B s I A) : Ok (s_peekF s x0 x1).2.2 := by rw [v_peekF]; exact k
def pf_wP (D : va_G) (cT : FieldType → ClassId) (cL cD : ClassId) (ac ad : Nat → Nat) (sz o : Nat) (v : Nat → UInt64) (as : List Value) (Z : ab_Z) (I A : ab_F) : Array Value → State → Prop := va_Pc ((.ref (ad 0) :: as) ++ [.ref o]) (fun U => U.heap.size = sz ∧ va_P D vwCl (ab_w cT ad ac I A 0 (shC Z)) U.heap ∧ va_P D vwCl [wD o cD v] U.heap ∧ va_K D vwCl (ab_tys cT ++ [(cL, .long), (cD, .double)]) U ∧ va_D (fun _ => True) (ab_w cT ad ac I A 0 (shC Z)) ∧ Dj (ab_w cT ad ac I A 0 (shC Z)) [wD o cD v] ∧ ab_CK ac (va_A (wD o cD v :: ab_w cT ad ac I A 0 (shC Z)) sz) U U.heap ∧ lw_NC U)
def pf_wQ (D : va_G) (cT : FieldType → ClassId) (cD : ClassId) (ac ad : Nat → Nat) (o : Nat) (Ar : Nat → Prop) (K : Nat → UInt32 → ab_Z → ab_F → ab_F → Prop) : Array Value → State → Outcome → State → Prop := fun _ st u t => (∃ (c : Nat) (r : UInt32) (Z : ab_Z) (I A : ab_F) (ad' : Nat → Nat) (v : Nat → UInt64), u = .returned (some (.int (nI c))) ∧ K c r Z I A ∧ (c = 0 → alike64 (v 0) (FP.f2d r) = true) ∧ ad' 0 = ad 0 ∧ ab_okH (shC Z) ∧ va_P D vwCl (ab_w cT ad' ac I A 0 (shC Z)) t.heap ∧ va_P D vwCl [wD o cD v] t.heap ∧ va_D Ar (ab_w cT ad' ac I A 0 (shC Z)) ∧ Dj (ab_w cT ad' ac I A 0 (shC Z)) [wD o cD v]) ∧ va_F Ar st t
theorem pf_dj {o : Nat} {cD : ClassId} {v v' : Nat → UInt64} {w : va_W} (h : Dj w [wD o cD v]) : Dj w [wD o cD v'] := fun i j p q hi hj => by
  have a : j = 0 := by have := (List.getElem?_eq_some_iff.mp hj).1; simp at this; omega
  subst a
  cases hj
  exact h i 0 p (wD o cD v) hi rfl
theorem pf_1 {v : Nat → UInt64} {x F : UInt64} (h : alike64 x F = true) : alike64 (vf_upd v (0 : Int32).toNatClampNeg x 0) F = true := by rw [sb_cl0]; simpa [vf_upd] using h
theorem wr_peekFloat {l : Launch} (htr : l.stackTraces = false) {D : va_G} {cT : FieldType → ClassId} {cL cD : ClassId} {ac ad : Nat → Nat} {sz o : Nat} {v : Nat → UInt64} {Z : ab_Z} {I A : ab_F} {x0 x1 : Int32} {K : Nat → UInt32 → ab_Z → ab_F → ab_F → Prop} (hM : ab_Cl mX11_peekFloat 8 2 12 [.ref 0, .int x0, .int x1] (shC Z) I A (ab_Pz (fun E Z I A => ∃ j, ["java/lang/IndexOutOfBoundsException", "java/lang/UnsupportedOperationException"][j]? = some E ∧ K (j + 1) 0 Z I A) (pf_zf (fun r Z I A => K 0 r Z I A)))) (hoh : ab_okH (shC Z)) : MetD lw_cs l yL_peekFloat (Cond.codeWith yL_peekFloat cL_peekFloat 5 (some .int) [(0, 10, 13, 25), (0, 10, 17, 44)] :: ab_ws) (ab_rm 9 2 12) (pf_wP D cT cL cD ac ad sz o v [.int x0, .int x1] Z I A) (pf_wQ D cT cD ac ad o (va_A (wD o cD v :: ab_w cT ad ac I A 0 (shC Z)) sz) K) 2 12 (va_A (wD o cD v :: ab_w cT ad ac I A 0 (shC Z)) sz) := by
  refine pf_ofW (cc := cL_peekFloat) (maxL := 5) (ret := some .int) (hh := [(0, 10, 13, 25), (0, 10, 17, 44)]) (by decide +kernel) rfl ?_
  intro p e s m args below meth c s₁ B hml hv hd0
  obtain ⟨rfl, hsz, hP, hPo, hK, hD0, hDj, hCK, hN⟩ := hv
  have hx := B.exec
  have hb := B.bytes
  have hr := B.returns
  have hts0 := atoms_spec (ws := Cond.codeWith yL_peekFloat cL_peekFloat 5 (some .int) [(0, 10, 13, 25), (0, 10, 17, 44)] :: ab_ws) B.pre
  have hts := fun w (hw : w ∈ ab_ws) => hts0 w (List.mem_cons_of_mem _ hw)
  have hown : s.vm.findClass "CheckpointSwapLaw" = some m.cls := findClass_of_methodNamed B.named
  have htab := vx_table (x := yL_peekFloat) B (hts0 _ List.mem_cons_self)
  subst hsz
  generalize hAe : va_A (wD o cD v :: ab_w cT ad ac I A 0 (shC Z)) s.heap.size = Ar at hCK ⊢
  have hA : ∀ q, s.heap.size ≤ q → Ar q := fun q h => by rw [← hAe]; exact Or.inr h
  have hAo : Ar o := by rw [← hAe]; exact Or.inl ⟨0, _, rfl⟩
  have hD : va_D Ar (ab_w cT ad ac I A 0 (shC Z)) := ⟨hD0.1, fun k q hk => by rw [← hAe]; exact Or.inl ⟨k + 1, q.2, hk⟩⟩
  have hAC : ∀ q, va_A (ab_w cT ad ac I A 0 (shC Z)) s.heap.size q → Ar q := fun q h => by
    rw [← hAe]; rcases h with ⟨k, e9, hk⟩ | hk
    · exact Or.inl ⟨k + 1, e9, hk⟩
    · exact Or.inr hk
  have hS : va_S Ar s.heap s.heap [] := va_S.rf
  have hl := lv_entry ((Value.ref (ad 0) :: [.int x0, .int x1]) ++ [.ref o]) (n := 5) (Nat.le_of_ble_eq_true rfl)
  rw [lg_entry_eq]
  generalize (lg_sl (((Value.ref (ad 0) :: [.int x0, .int x1]) ++ [.ref o])) ++ List.replicate (5 - (lg_sl (((Value.ref (ad 0) :: [.int x0, .int x1]) ++ [.ref o]))).length) Slot.unset).toArray = ls at hl ⊢
  have hl : lv_has ls 5 [(0, .ref (ad 0)), (1, .int x0), (2, .int x1), (3, .ref o)] := hl
  change W p l e _ s m _ below meth c s.heap [] 0 0 _ (F0 m 0 ls [])
  refine lv_aload_n hx hb dL_peekFloat_0 rfl (lv_at hl 3 rfl) ?_
  refine lv_iconst (v := 0) hx hb dL_peekFloat_1 (by decide) ?_
  refine lv_aload_n hx hb dL_peekFloat_2 rfl (lv_at hl 0 rfl) ?_
  refine lv_iload_n hx hb dL_peekFloat_3 rfl (lv_at hl 1 rfl) ?_
  refine lv_iload_n hx hb dL_peekFloat_4 rfl (lv_at hl 2 rfl) ?_
  refine lw_callV (D := D) (cT := cT) (ac := ac) (ad := ad) (as := [.int x0, .int x1]) (rest := [.int 0, .ref o]) ⟨hx, hb, hml, hown, hts⟩ htr (lw_sub hK) hCK hA sC_0 vc_15 hM okX11_peekFloat rfl (ab_in 1604 (by decide +kernel) rfl) (ab_in 1605 (by decide +kernel) rfl) (ab_in 1606 (by decide +kernel) rfl) (ab_in 96 (by decide +kernel) rfl) dL_peekFloat_5 rfl rfl hl.1 (Nat.le_of_ble_eq_true rfl) (Nat.le_of_ble_eq_true rfl) (Nat.le_of_ble_eq_true rfl) (Nat.le_of_ble_eq_true rfl) (Nat.le_of_ble_eq_true rfl) hoh (fun v hv => ?_) hP hD hS (fun E ce q9 sh1 I1 A1 ad1 H1 locs1 hp had hokh g9 g10 g12 g11 c1 c2 c3 => ?_) (fun r sh1 I1 A1 ad1 H1 locs1 hp had hokh g9 g10 g12 g11 => ?_)
  · simp only [List.mem_cons, List.not_mem_nil, or_false] at hv
    rcases hv with h | h | h <;> subst h <;> first | exact trivial | (show 0 < (shC Z).length; rw [sh_len]; omega)
  · obtain ⟨Z1, rfl, j, hj, hk⟩ := hp
    have hPo1 := fr_keep hPo hDj g12.2
    have hDj1 := fr_dj hPo hDj g10
    match j, hj, hk with
    | 0, hj, hk =>
      cases hj
      refine vx_catch (name := "java/lang/IndexOutOfBoundsException") hown [] ⟨0, 10, 13, 25⟩ [⟨0, 10, 17, 44⟩] (by rw [htab]; rfl) (fun z hz => absurd hz List.not_mem_nil) (by decide) (by decide) (hts _ (ab_in 1494 (by decide +kernel) rfl)) (va_any rfl (hCK.2.2.2.2.1 _ (ab_ngm 18 rfl))) c1 c2 c3 ?_
      refine lv_astore (lv' := [(4, .ref q9), (0, .ref (ad 0)), (1, .int x0), (2, .int x1), (3, .ref o)]) hx hb dL_peekFloat_13 hl (by decide) rfl (fun ls2 hl2 => ?_)
      refine lv_iconst (v := nI 1) hx hb dL_peekFloat_15 (by decide) ?_
      refine W.base (W.endD hd0 (W.widen (k := 2) (n := 12) (Nat.le_of_ble_eq_true rfl) (Nat.le_of_ble_eq_true rfl) ?_))
      exact W.iret hx hb hr (fun t ht hW => ⟨⟨1, 0, Z1, I1, A1, ad1, v, rfl, hk, (fun z => absurd z (by decide)), had, hokh, by rw [ht]; exact g9, by rw [ht]; exact hPo1, fr_D hAC g10, hDj1⟩, g11.F ht⟩) g11.2.2 dL_peekFloat_16
    | 1, hj, hk =>
      cases hj
      refine vx_catch (name := "java/lang/UnsupportedOperationException") hown [⟨0, 10, 13, 25⟩] ⟨0, 10, 17, 44⟩ [] (by rw [htab]; rfl) (fun z hz => by
      simp only [List.mem_cons, List.not_mem_nil, or_false] at hz
      have h9 := hz
      · subst h9; exact Or.inr ⟨by decide, "java/lang/IndexOutOfBoundsException", hts _ (ab_in 1494 (by decide +kernel) rfl), hN ("java/lang/UnsupportedOperationException", "java/lang/IndexOutOfBoundsException") (by decide)⟩) (by decide) (by decide) (hts _ (ab_in 1540 (by decide +kernel) rfl)) (va_any rfl (hCK.2.2.2.2.1 _ (ab_ngm 20 rfl))) c1 c2 c3 ?_
      refine lv_astore (lv' := [(4, .ref q9), (0, .ref (ad 0)), (1, .int x0), (2, .int x1), (3, .ref o)]) hx hb dL_peekFloat_17 hl (by decide) rfl (fun ls2 hl2 => ?_)
      refine lv_iconst (v := nI 2) hx hb dL_peekFloat_19 (by decide) ?_
      refine W.base (W.endD hd0 (W.widen (k := 2) (n := 12) (Nat.le_of_ble_eq_true rfl) (Nat.le_of_ble_eq_true rfl) ?_))
      exact W.iret hx hb hr (fun t ht hW => ⟨⟨2, 0, Z1, I1, A1, ad1, v, rfl, hk, (fun z => absurd z (by decide)), had, hokh, by rw [ht]; exact g9, by rw [ht]; exact hPo1, fr_D hAC g10, hDj1⟩, g11.F ht⟩) g11.2.2 dL_peekFloat_20
    | j + 2, hj, hk => exact nomatch hj
  · obtain ⟨Z1, rfl, x, rfl, hk⟩ := hp
    have hPo1 := fr_keep hPo hDj g12.2
    have hDj1 := fr_dj hPo hDj g10
    have hD1 := fr_D hAC g10
    refine W.base (lv_f2d_any hd0 lw_bits hx hb dL_peekFloat_8 (fun r9 d1 hal hd1 => ?_))
    refine va_dast (ws := wD o cD v :: ab_w cT ad1 ac I1 A1 0 (shC Z1)) hx hb (va_K.moved (u := s) (U := s.setDrawn d1) (Vm.Alike.refl s.vm) hK) (wo_cons hPo1 g9) (wo_D hAo hD1 hDj1) g11 0 4 rfl rfl (by unfold vp_in; decide) dL_peekFloat_9 (fun H2 locs2 k1 k2 k3 => ?_)
    refine lv_goto (tgt := 21) hx hb dL_peekFloat_10 (by decide) ?_
    refine lv_iconst (v := nI 0) hx hb dL_peekFloat_21 (by decide) ?_
    refine W.endD hd1 (W.widen (k := 2) (n := 12) (Nat.le_of_ble_eq_true rfl) (Nat.le_of_ble_eq_true rfl) ?_)
    exact W.iret hx hb hr (fun t ht hW => ⟨⟨0, x, Z1, I1, A1, ad1, _, rfl, hk, (fun _ => pf_1 hal), had, hokh, by rw [ht]; exact wo_tl k1, by rw [ht]; exact wo_hd k1, hD1, pf_dj hDj1⟩, k3.F ht⟩) k3.2.2 dL_peekFloat_22
