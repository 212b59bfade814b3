/-! THE TWO WORLDS AND ONE STATE: the row w, the past h (rows, depth), the text t (bytes, length), the error e, the report p (bytes, length) -/
/-- rows that agree in their 608 places -/
def Ew (w w' : Nat → Int32) : Prop := ∀ k, k < 608 → w' k = w k
theorem Ew.sm {w w' : Nat → Int32} (h : Ew w w') : Sm w w' := ⟨h _ (by omega), h _ (by omega), h _ (by omega), fun p hp => h _ (by omega)⟩
theorem Iv_ew {B : Nat} {w w' : Nat → Int32} (h : Ew w w') (x : Iv B w) : Iv B w' := by
  obtain ⟨z, fr, dy, sw, ck, re, ba, po, pk, co, rc⟩ := x
  have sm := h.sm
  exact ⟨sm.sz z, Fr_eq sm (fun f hf => h _ (by omega)) (fun k hk => h _ (by omega)) fr z, Dy_eq (fun k hk => h _ (by omega)) (fun k hk => h _ (by omega)) (fun k hk => h _ (by omega)) dy, Sw_eq sm (fun k hk => h _ (by omega)) sw, Ck_eq sm (fun k hk => h _ (by omega)) (fun k hk => h _ (by omega)) ck, Re_eq sm (h _ (by omega)) (fun k hk => h _ (by omega)) (fun k hk q => by rw [h _ (by omega)]; exact q) re, Ba_eq sm (h _ (by omega)) ba, Po_eq sm (fun k hk => h _ (by omega)) po, Pk_eq (h _ (by omega)) (fun k hk => h _ (by omega)) pk, Co_eq (h _ (by omega)) (h _ (by omega)) (h _ (by omega)) (h _ (by omega)) (h _ (by omega)) co, Rc_eq sm (h _ (by omega)) (fun k hk => h _ (by omega)) rc⟩
/-- a system that is a copy stands for the same row -/
theorem Rs_cp {I A I' A' : ab_F} {x y : Nat} {w w' : Nat → Int32} (ew : Ew w w') (hI : ∀ q ∈ ab_sysI, I' (x + q.1) q.2 = I (y + q.1) q.2) (hA : ∀ q ∈ ab_sysA, ∀ j, j < q.2 → A' (x + q.1) j = A (y + q.1) j) (r : Rs y I A w) : Rs x I' A' w' := by
  obtain ⟨⟨⟨a1, a2, a3⟩, ⟨b1, b2, b3⟩, ⟨c1, c2, c3⟩⟩, ⟨⟨d1, d2, d3⟩, d4, d5, d6, d7⟩, e1, e2, e3, n, a, eb, e4, e5, e6, e7, e8⟩ := r
  have sm := ew.sm
  have epc : m_pc w' = m_pc w := by
    unfold m_pc
    refine cn_congr (fun j hj => ?_)
    unfold m_tp m_pd
    rw [sm.th hj, ew 10 (by omega), ew (224 + j) (by omega)]
  refine ⟨⟨⟨?_, fun p hp => ⟨?_, ?_, ?_⟩, fun j hj => ⟨?_, ?_, ?_⟩⟩, ⟨?_, ?_, fun f hf => ⟨?_, ?_, ?_⟩⟩, ⟨?_, ?_, fun t ht => ⟨?_, ?_, ?_⟩⟩⟩, ⟨⟨?_, ?_, ?_⟩, ?_, fun j hj => ⟨?_, ?_⟩, fun p hp => ?_, ?_⟩, ?_, ?_, ?_, n, a, eb, ?_, e5, ?_, ?_, ?_⟩
  · rw [hI (1, 0) (by decide), a1, ew _ (by omega)]
  · rw [hA (2, 6) (by decide) p hp, (a2 p hp).1, ew _ (by omega)]
  · rw [hA (3, 6) (by decide) p hp, (a2 p hp).2.1, ew _ (by omega)]
  · rw [hA (4, 6) (by decide) p hp, (a2 p hp).2.2, ds_eq (w := w) (w' := w') (fun i hi => ew _ (by omega))]
  · rw [hA (5, 48) (by decide) j hj, (a3 j hj).1, ew _ (by omega)]
  · rw [hA (6, 48) (by decide) j hj, (a3 j hj).2.1, ew _ (by omega)]
  · rw [hA (7, 48) (by decide) j hj, (a3 j hj).2.2, ew _ (by omega)]
  · rw [hI (8, 0) (by decide), b1, ew _ (by omega)]
  · rw [hI (8, 1) (by decide), b2, ew _ (by omega)]
  · rw [hA (9, 16) (by decide) f hf, (b3 f hf).1, ew _ (by omega)]
  · rw [hA (10, 16) (by decide) f hf, (b3 f hf).2.1, ew _ (by omega)]
  · rw [hA (11, 16) (by decide) f hf, (b3 f hf).2.2, ew _ (by omega)]
  · rw [hI (12, 0) (by decide), c1, ew _ (by omega)]
  · rw [hI (12, 1) (by decide), c2, ew _ (by omega)]
  · rw [hA (13, 48) (by decide) t ht, (c3 t ht).1, ew _ (by omega)]
  · rw [hA (14, 48) (by decide) t ht, (c3 t ht).2.1, ew _ (by omega)]
  · rw [hA (15, 48) (by decide) t ht, (c3 t ht).2.2, ew _ (by omega)]
  · rw [hI (16, 0) (by decide), d1, ew _ (by omega)]
  · rw [hI (16, 1) (by decide), d2, ew _ (by omega)]
  · rw [hI (16, 3) (by decide), d3, ew _ (by omega)]
  · rw [ew 10 (by omega), ew 11 (by omega), epc, hI (16, 2) (by decide)]; exact d4
  · rw [hA (17, 48) (by decide) j hj, (d5 j hj).1]; unfold m_rk; rw [ew 10 (by omega), ew (224 + j) (by omega)]
  · rw [hA (19, 48) (by decide) j hj, (d5 j hj).2, ew _ (by omega)]
  · rw [hA (18, 6) (by decide) p hp, d6 p hp, ew _ (by omega)]
  · rw [ew 8 (by omega)]
    intro c hc hc2 i hi j hj
    rw [hA (20, 32) (by decide) _ (by show (c - 1 - i) % 8 * 4 + j < 32; omega), d7 c hc hc2 i hi j hj, ew _ (by omega)]
  · rw [hI (21, 0) (by decide), e1, ew _ (by omega)]
  · rw [hI (21, 1) (by decide), e2, ew _ (by omega)]
  · have q := hI (0, 5) (by decide)
    rw [ew 9 (by omega), ← e3]; exact q
  · rw [ew _ (by omega)]; exact e4
  · rw [hI (21, 2) (by decide)]; exact e6
  · rw [ew _ (by omega)]; exact e7
  · intro i hi
    rw [hA (22, 64) (by decide) _ (by show (n - 1 - i) % 64 < 64; omega), e8 i hi, ew _ (by omega)]
theorem Rs_ew {I A : ab_F} {x : Nat} {w w' : Nat → Int32} (ew : Ew w w') (r : Rs x I A w) : Rs x I A w' := Rs_cp ew (fun _ _ => rfl) (fun _ _ _ _ => rfl) r
theorem Rs_off {I A I' A' : ab_F} {x : Nat} {w : Nat → Int32} (h : ∀ c, x ≤ c → c < x + 24 → I' c = I c ∧ A' c = A c) (r : Rs x I A w) : Rs x I' A' w := by
  have hq : ∀ q ∈ ab_sysI, q.1 < 24 := by decide
  have hq2 : ∀ q ∈ ab_sysA, q.1 < 24 := by decide
  refine Rs_cp (fun _ _ => rfl) (fun q h1 => ?_) (fun q h1 j hj => ?_) r
  · rw [(h (x + q.1) (by omega) (by have := hq q h1; omega)).1]
  · rw [(h (x + q.1) (by omega) (by have := hq2 q h1; omega)).2]
abbrev st_H : Type := (Nat → Nat → Int32) × Nat
abbrev st_T : Type := (Nat → Int32) × Nat
/-- the class's past -/
def Hs (B : Nat) (h : st_H) (Z : ab_Z) (I A : ab_F) : Prop := h.2 ≤ 10 ∧ I 32 2 = nI h.2 ∧ ∃ s, s < 11 ∧ I 32 1 = nI s ∧ ∀ i, i < h.2 → ∃ b, Z.1 ((s + 11 - h.2 + i) % 11) = some b ∧ Rs b I A (h.1 i) ∧ Iv B (h.1 i)
/-- the systems of the class's past, apart from each other -/
def Zs (Z : ab_Z) : Prop := (∀ j b, j < 11 → Z.1 j = some b → ab_sys (shC Z) b ∧ 42 ≤ b) ∧ ∀ i j a b, i < 11 → j < 11 → i ≠ j → Z.1 i = some a → Z.1 j = some b → a + 24 ≤ b ∨ b + 24 ≤ a
def Tc (t : st_T) (I A : ab_F) : Prop := t.2 ≤ 400 ∧ I 1 1 = nI t.2 ∧ ∀ i, i < t.2 → A 2 i = t.1 i
/-- every byte lies in 0 .. 255 -/
def Tb (t : st_T) : Prop := ∀ i, i < t.2 → ∃ b, b < 256 ∧ t.1 i = nI b
def Pc (p : st_T) (Z : ab_Z) (I A : ab_F) : Prop := ∃ cap, ab_SB Z I A p.1 p.2 cap
/-- the class's world stands for the state -/
def RC (B : Nat) (w : Nat → Int32) (h : st_H) (t : st_T) (e : Int32 × Int32) (p : st_T) (Z : ab_Z) (I A : ab_F) : Prop := (Rs 8 I A w ∧ Iv B w) ∧ Hs B h Z I A ∧ Zs Z ∧ Tc t I A ∧ (I 3 1 = e.1 ∧ I 3 2 = e.2) ∧ Pc p Z I A
/-- the reference's world stands for the state -/
def RM (B : Nat) (w : Nat → Int32) (h : st_H) (t : st_T) (e : Int32 × Int32) (p : st_T) (I A : ab_F) : Prop := (A 1 = w ∧ Iv B w) ∧ (h.2 ≤ 10 ∧ I 0 4 = nI h.2 ∧ ∀ i, i < h.2 → Iv B (h.1 i) ∧ ∀ k, k < 608 → A 4 (608 * i + k) = h.1 i k) ∧ (t.2 ≤ 400 ∧ I 0 7 = nI t.2 ∧ ∀ i, i < t.2 → A 5 i &&& nI 255 = t.1 i) ∧ (I 0 11 = e.1 ∧ I 0 12 = e.2) ∧ (p.2 ≤ 800 ∧ I 0 18 = nI p.2 ∧ ∀ i, i < p.2 → A 10 i = p.1 i)
/-- cells of the class that are no part of the state -/
def Kc (I A I' A' : ab_F) : Prop := ∀ c, c ≠ 31 → (c < 34 ∨ 39 < c) → I' c = I c ∧ A' c = A c
theorem Kc.refl (I A : ab_F) : Kc I A I A := fun _ _ _ => ⟨rfl, rfl⟩
theorem Kc.trans {I A I' A' I'' A'' : ab_F} (h : Kc I A I' A') (g : Kc I' A' I'' A'') : Kc I A I'' A'' := fun c a b => ⟨(g c a b).1.trans (h c a b).1, (g c a b).2.trans (h c a b).2⟩
theorem Kc_u {I A : ab_F} (u : Nat → Int32) : Kc I A I (wrow A 31 u) := fun c a b => ⟨rfl, wrow_ne a⟩
theorem sys_len {sh : List ab_S} {b : Nat} (h : ab_sys sh b) : b + 24 ≤ sh.length := by
  have h1 := h 23 (by omega)
  have h2 : (ab_sysS b)[23]? = some (.inl (.int, 48)) := rfl
  rw [h2] at h1
  have := (List.getElem?_eq_some_iff.mp h1).1
  omega
/-- the report's array lies in no system -/
theorem SB_out {Z : ab_Z} {b cap : Nat} (h : ab_sys (shC Z) b) (hs : (shC Z)[Z.2.1]? = some (.inl (.byte, cap))) : Z.2.1 < b ∨ b + 24 ≤ Z.2.1 := by
  by_cases h1 : b ≤ Z.2.1 ∧ Z.2.1 < b + 24
  · exfalso
    have h2 := h (Z.2.1 - b) (by omega)
    rw [show b + (Z.2.1 - b) = Z.2.1 by omega, hs] at h2
    have h3 : ∀ k, k < 24 → ∀ c, (ab_sysS b)[k]? ≠ some (.inl (.byte, c)) := by
      intro k hk c
      have : k = 0 ∨ k = 1 ∨ k = 2 ∨ k = 3 ∨ k = 4 ∨ k = 5 ∨ k = 6 ∨ k = 7 ∨ k = 8 ∨ k = 9 ∨ k = 10 ∨ k = 11 ∨ k = 12 ∨ k = 13 ∨ k = 14 ∨ k = 15 ∨ k = 16 ∨ k = 17 ∨ k = 18 ∨ k = 19 ∨ k = 20 ∨ k = 21 ∨ k = 22 ∨ k = 23 := by omega
      rcases this with e | e | e | e | e | e | e | e | e | e | e | e | e | e | e | e | e | e | e | e | e | e | e | e <;> subst e <;> exact fun q => nomatch q
    exact h3 _ (by omega) cap h2.symm
  · omega
theorem RC_k {B : Nat} {w : Nat → Int32} {h : st_H} {t : st_T} {e : Int32 × Int32} {p : st_T} {Z : ab_Z} {I A I' A' : ab_F} (x : RC B w h t e p Z I A) (k : Kc I A I' A') : RC B w h t e p Z I' A' := by
  obtain ⟨⟨r, iv⟩, ⟨h1, h2, s, hs, h3, h4⟩, zs, ⟨t1, t2, t3⟩, ⟨e1, e2⟩, cap, p1, p2, p3, p4, p5, p6, p7⟩ := x
  have k24 : ∀ b, 42 ≤ b → ∀ c, b ≤ c → c < b + 24 → I' c = I c ∧ A' c = A c := fun b hb c h1 h2 => k c (by omega) (by omega)
  refine ⟨⟨?_, iv⟩, ⟨h1, by rw [(k 32 (by decide) (by omega)).1]; exact h2, s, hs, by rw [(k 32 (by decide) (by omega)).1]; exact h3, fun i hi => ?_⟩, zs, ⟨t1, by rw [(k 1 (by decide) (by omega)).1]; exact t2, fun i hi => by rw [(k 2 (by decide) (by omega)).2]; exact t3 i hi⟩, ⟨by rw [(k 3 (by decide) (by omega)).1]; exact e1, by rw [(k 3 (by decide) (by omega)).1]; exact e2⟩, cap, p1, p2, by rw [(k 40 (by decide) (by omega)).1]; exact p3, by rw [(k 40 (by decide) (by omega)).1]; exact p4, p5, p6, fun j => by rw [(k Z.2.1 (by omega) (by omega)).2]; exact p7 j⟩
  · have hq : ∀ q ∈ ab_sysI, q.1 < 23 := by decide
    have hq2 : ∀ q ∈ ab_sysA, q.1 < 23 := by decide
    refine Rs_cp (fun _ _ => rfl) (fun q h1 => ?_) (fun q h1 j hj => ?_) r
    · rw [(k (8 + q.1) (by have := hq q h1; omega) (by have := hq q h1; omega)).1]
    · rw [(k (8 + q.1) (by have := hq2 q h1; omega) (by have := hq2 q h1; omega)).2]
  · obtain ⟨b, b1, b2, b3⟩ := h4 i hi
    have hb := (zs.1 _ b (by omega) b1).2
    exact ⟨b, b1, Rs_off (k24 b hb) b2, b3⟩
theorem RC_mono {B B' : Nat} {w : Nat → Int32} {h : st_H} {t : st_T} {e : Int32 × Int32} {p : st_T} {Z : ab_Z} {I A : ab_F} (hB : B ≤ B') (x : RC B w h t e p Z I A) : RC B' w h t e p Z I A := by
  obtain ⟨⟨r, iv⟩, ⟨h1, h2, s, hs, h3, h4⟩, rest⟩ := x
  refine ⟨⟨r, iv.mono hB⟩, ⟨h1, h2, s, hs, h3, fun i hi => ?_⟩, rest⟩
  obtain ⟨b, b1, b2, b3⟩ := h4 i hi
  exact ⟨b, b1, b2, b3.mono hB⟩
theorem RM_mono {B B' : Nat} {w : Nat → Int32} {h : st_H} {t : st_T} {e : Int32 × Int32} {p : st_T} {I A : ab_F} (hB : B ≤ B') (x : RM B w h t e p I A) : RM B' w h t e p I A := by
  obtain ⟨⟨r, iv⟩, ⟨h1, h2, h3⟩, rest⟩ := x
  exact ⟨⟨r, iv.mono hB⟩, ⟨h1, h2, fun i hi => ⟨(h3 i hi).1.mono hB, (h3 i hi).2⟩⟩, rest⟩
/-- a step of the class's system -/
theorem RC_s {B B' : Nat} {w w' : Nat → Int32} {h : st_H} {t : st_T} {e : Int32 × Int32} {p : st_T} {Z : ab_Z} {I A I' A' : ab_F} (x : RC B w h t e p Z I A) (hB : B ≤ B') (r' : Rs 8 I' A' w') (iv' : Iv B' w') (k : Ek I A I' A') : RC B' w' h t e p Z I' A' := by
  obtain ⟨⟨r, iv⟩, ⟨h1, h2, s, hs, h3, h4⟩, zs, ⟨t1, t2, t3⟩, ⟨e1, e2⟩, cap, p1, p2, p3, p4, p5, p6, p7⟩ := RC_mono hB x
  have k24 : ∀ b, 42 ≤ b → ∀ c, b ≤ c → c < b + 24 → I' c = I c ∧ A' c = A c := fun b hb c h1 h2 => k c (by omega)
  refine ⟨⟨r', iv'⟩, ⟨h1, by rw [(k 32 (by omega)).1]; exact h2, s, hs, by rw [(k 32 (by omega)).1]; exact h3, fun i hi => ?_⟩, zs, ⟨t1, by rw [(k 1 (by omega)).1]; exact t2, fun i hi => by rw [(k 2 (by omega)).2]; exact t3 i hi⟩, ⟨by rw [(k 3 (by omega)).1]; exact e1, by rw [(k 3 (by omega)).1]; exact e2⟩, cap, p1, p2, by rw [(k 40 (by omega)).1]; exact p3, by rw [(k 40 (by omega)).1]; exact p4, p5, p6, fun j => by rw [(k Z.2.1 (by omega)).2]; exact p7 j⟩
  obtain ⟨b, b1, b2, b3⟩ := h4 i hi
  have hb := (zs.1 _ b (by omega) b1).2
  exact ⟨b, b1, Rs_off (k24 b hb) b2, b3⟩
/-! the past gets one more -/
def h_p (h : st_H) (w : Nat → Int32) : st_H := if h.2 = 10 then (fun i => if i = 9 then w else h.1 (i + 1), 10) else (fun i => if i = h.2 then w else h.1 i, h.2 + 1)
