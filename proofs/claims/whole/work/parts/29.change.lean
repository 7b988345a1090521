theorem SqL.cong {C : Mem} {q : Nat} {v v' : Nat → Nat} {B B' : Nat → Nat → Nat → Nat → Prop} (hB : ∀ x y a b, B x y a b → B' x y a b) (h0 : v' 0 = v 0) (h1 : v' 1 = v 1) (h2 : v' 2 = v 2) (hv : ∀ i, 163 ≤ i → v' i = v i) : ∀ n x y a b, SqL C q v B n x y a b → SqL C q v' B' n x y a b
  | 0, _, _, _, _, h => h
  | n + 1, x, y, a, b, h => by
    have ih := SqL.cong (C := C) (q := q) hB h0 h1 h2 hv n
    unfold SqL at h ⊢
    have e0 := hv (165 + 9 * x) (by omega)
    have e8 := hv (173 + 9 * x) (by omega)
    rcases h with h | ⟨a1, a2, a3, h⟩
    · exact Or.inl h
    · refine Or.inr ⟨a1, a2, ?_, ?_⟩
      · unfold StOK at a3 ⊢
        rw [e0, hv (166 + 9 * x) (by omega), hv (167 + 9 * x) (by omega), hv (168 + 9 * x) (by omega), hv (171 + 9 * x) (by omega), hv (172 + 9 * x) (by omega), h0, h1, h2]
        exact a3
      · unfold isBlk at h ⊢
        rw [e0, e8]
        rcases h with ⟨b1, b2, b3⟩ | ⟨b1, b2, b3, m, b4, b5, b6, b7, b8, b9, b10⟩
        · exact Or.inl ⟨b1, b2, ih _ _ _ _ b3⟩
        · exact Or.inr ⟨b1, b2, b3, m, b4, b5, hB _ _ _ _ b6, b7, b8, b9, ih _ _ _ _ b10⟩
theorem Sq.cong {C : Mem} {q : Nat} {v v' : Nat → Nat} (h0 : v' 0 = v 0) (h1 : v' 1 = v 1) (h2 : v' 2 = v 2) (hv : ∀ i, 163 ≤ i → v' i = v i) : ∀ d x y a b, Sq C q v d x y a b → Sq C q v' d x y a b
  | 0 => SqL.cong (fun _ _ _ _ h => h) h0 h1 h2 hv 60
  | d + 1 => SqL.cong (Sq.cong h0 h1 h2 hv d) h0 h1 h2 hv 60
/-- what a doing call may change of v: wind, hour, open, ships, fog -/
def chV (v v' : Nat → Nat) : Prop := ∀ i, (i < 83 ∧ i ≠ 6 ∧ i ≠ 9 ∧ i ≠ 10) ∨ 163 ≤ i → v' i = v i
theorem VV.chg {v v' : Nat → Nat} (h : VV v) (ev : chV v v') (h6 : v' 6 ≤ 4) (h10 : v' 10 < 2 ^ v 2) (hs : ∀ s, s < v 5 → v' (83 + s) < v 0 ∧ v' (87 + s) < v 1 ∧ v' (91 + s) < v 0 ∧ v' (95 + s) < v 1 ∧ v' (99 + s) ≤ 1) (hf : ∀ k, k < 60 → v' (103 + k) ≤ 999) (hz : ∀ b, v 0 * v 1 ≤ b → b < 30 → v' (103 + b) = 0 ∧ v' (133 + b) = 0) : VV v' := by
  obtain ⟨⟨a0, a1, a2, a3, a4, a5⟩, b3, b4, b5, b8, b10, bg, bh, bt, bs, bf, bz⟩ := h
  have e := fun i hi => ev i (Or.inl hi)
  have e0 := e 0 (by omega)
  have e1 := e 1 (by omega)
  have e2 := e 2 (by omega)
  refine ⟨⟨by rw [e0]; exact a0, by rw [e1]; exact a1, by rw [e2]; exact a2, h6, by rw [e 7 (by omega)]; exact a4, fun g hg => ?_⟩, by rw [e 3 (by omega)]; exact b3, by rw [e 4 (by omega)]; exact b4, by rw [e 5 (by omega)]; exact b5, by rw [e 8 (by omega)]; exact b8, by rw [e2]; exact h10, fun g hg => ?_, fun g hg => ?_, fun t ht => ?_, fun s hs' => ?_, hf, ?_⟩
  · rw [e2] at hg
    rw [e (11 + g) (by omega), e (17 + g) (by omega), e (23 + g) (by omega), e (29 + g) (by omega), e0, e1]
    exact a5 g hg
  · rw [e2] at hg
    rw [e (35 + g) (by omega)]
    exact bg g hg
  · rw [e 3 (by omega)] at hg
    rw [e (41 + g) (by omega)]
    exact bh g hg
  · rw [e 4 (by omega)] at ht
    rw [e (47 + t) (by omega), e (53 + t) (by omega), e (59 + t) (by omega), e (65 + t) (by omega), e (71 + t) (by omega), e (77 + t) (by omega), e0, e1]
    exact bt t ht
  · rw [e 5 (by omega)] at hs'
    rw [e0, e1]
    exact hs s hs'
  · rw [e0, e1]
    exact hz
theorem PC.chg {C C' : Mem} {p : Nat} {v v' : Nat → Nat} (hv : VV v) (h : PC C p v) (ev : chV v v') (f0 : ∀ k, k ≠ 2 → k ≠ 5 → k ≠ 6 → C'.1 p k = C.1 p k) (f2 : C'.1 p 2 = nI (v' 6)) (f5 : C'.1 p 5 = nI (v' 9)) (f6 : C'.1 p 6 = nI (v' 10)) (fr : ∀ j, j = 1 ∨ j = 3 ∨ j = 4 ∨ (7 ≤ j ∧ j < 13) → C'.1 (p + j) = C.1 (p + j))
    (fs : ∀ s, s < v 5 → C'.1 (p + 5) (s * 5) = nI (v' (83 + s)) ∧ C'.1 (p + 5) (s * 5 + 1) = nI (v' (87 + s)) ∧ C'.1 (p + 5) (s * 5 + 2) = nI (v' (91 + s)) ∧ C'.1 (p + 5) (s * 5 + 3) = nI (v' (95 + s)) ∧ C'.1 (p + 5) (s * 5 + 4) = nI (v' (99 + s))) (ff : Ar C' (p + 6) 60 (fun k => v' (103 + k))) : PC C' p v' := by
  obtain ⟨⟨a0, a1, a2, a3, a4, a5⟩, b4, b5, b6, b8, b9, b10, bg, bh, bt, bs, bf, bn⟩ := h
  have v2 := hv.1.2.2.1
  have v3 := hv.2.1
  have v4 := hv.2.2.1
  have e := fun i hi => ev i (Or.inl hi)
  have e2 := e 2 (by omega)
  have r1 := fr 1 (by omega)
  have r3 := fr 3 (by omega)
  have r4 := fr 4 (by omega)
  refine ⟨⟨by rw [f0 0 (by omega) (by omega) (by omega), e 0 (by omega)]; exact a0, by rw [f0 1 (by omega) (by omega) (by omega), e 1 (by omega)]; exact a1, f2, by rw [f0 3 (by omega) (by omega) (by omega), e 7 (by omega)]; exact a3, by rw [f0 7 (by omega) (by omega) (by omega), e 2 (by omega)]; exact a4, fun g hg => ?_⟩, by rw [f0 4 (by omega) (by omega) (by omega), e 8 (by omega)]; exact b4, f5, f6, by rw [f0 8 (by omega) (by omega) (by omega), e 3 (by omega)]; exact b8, by rw [f0 9 (by omega) (by omega) (by omega), e 4 (by omega)]; exact b9, by rw [f0 10 (by omega) (by omega) (by omega), e 5 (by omega)]; exact b10, fun g hg => ?_, fun g hg => ?_, fun t ht => ?_, fun s hs => ?_, ff, ?_⟩
  · rw [e2] at hg
    rw [r1, e (11 + g) (by omega), e (17 + g) (by omega), e (23 + g) (by omega), e (29 + g) (by omega)]
    exact a5 g hg
  · rw [e2] at hg
    rw [r1, e (35 + g) (by omega)]
    exact bg g hg
  · rw [e 3 (by omega)] at hg
    rw [r3, e (41 + g) (by omega)]
    exact bh g hg
  · rw [e 4 (by omega)] at ht
    rw [r4, e (47 + t) (by omega), e (53 + t) (by omega), e (59 + t) (by omega), e (65 + t) (by omega), e (71 + t) (by omega), e (77 + t) (by omega)]
    exact bt t ht
  · rw [e 5 (by omega)] at hs
    exact fs s hs
  · have q : ∀ j, j < 6 → C'.1 (p + 7 + j) = C.1 (p + 7 + j) := fun j hj => by rw [Nat.add_assoc]; exact fr (7 + j) (by omega)
    obtain ⟨c1, c2, c3⟩ := bn.same q
    have e163 := ev 163 (by omega)
    have e164 := ev 164 (by omega)
    refine ⟨by rw [e163]; exact c1, by rw [e163]; exact c2, fun z => ?_⟩
    rw [e163] at z
    obtain ⟨d1, w, d2, d3, d4⟩ := c3 z
    rw [e164]
    exact ⟨d1, w, d2, d3, Sq.cong (e 0 (by omega)) (e 1 (by omega)) e2 (fun i hi => ev i (Or.inr hi)) _ _ _ _ _ d4⟩
theorem PB.mk' {C S : Mem} {v : Nat → Nat} (hv : VV v) (h9 : v 9 ≤ 9999) (hC : PC C 10 v) (hA : Ar S 205 435 v) (hn : ∀ g, g < v 2 → C.2 12 g = S.2 208 g) : PB C 10 S 0 :=
  ⟨v, hv, h9, hC, fun k hk => by rw [Nat.mul_zero, Nat.zero_add]; exact hA k hk, fun g hg => by rw [Nat.mul_zero, Nat.zero_add]; exact hn g hg⟩
theorem KS.c {S S1 : Mem} (h : KS S S1) {j : Nat} (hj : j < 435) (x : Int32) : KS S (uI S1 205 j x) := h.tr ⟨rfl, fun k _ => by rw [g_uI, if_neg (by decide)], fun c hc => by rw [g_uI, if_neg (by omega)], fun k h1 _ => by rw [g_uI, if_pos rfl, g_upd, if_neg (by omega)]⟩
theorem KC.u {C C1 : Mem} (h : KC C C1) {c : Nat} (hc : scrC c) (j : Nat) (x : Int32) : KC C (uI C1 c j x) := h.tr ⟨rfl, fun k _ => by rw [g_uI, if_neg (by unfold scrC at hc; omega)], fun a ha => by rw [g_uI, if_neg (by unfold scrC at hc; omega)]⟩
theorem KC.r {C C1 : Mem} (h : KC C C1) {c : Nat} (hc : scrC c) (f : Nat → Int32) : KC C (rI C1 c f) := h.tr ⟨rfl, fun k _ => by rw [g_rI, if_neg (by unfold scrC at hc; omega)], fun a ha => by rw [g_rI, if_neg (by unfold scrC at hc; omega)]⟩
/-- a doing call: what changes is told, the rest stays -/
theorem Re.doing {C C' S S' : Mem} {v v' : Nat → Nat} (hR : Re C S) (hv : VV v) (hC : PC C 10 v) (hn : ∀ g, g < v 2 → C.2 12 g = S.2 208 g) (kc : KC C C') (ks : KS S S') (st : C'.1 0 0 = S'.1 200 0) (hA : Ar S' 205 435 v') (ev : chV v v') (h9 : v' 9 ≤ 9999) (h6 : v' 6 ≤ 4) (h10 : v' 10 < 2 ^ v 2)
    (f0 : ∀ k, k ≠ 2 → k ≠ 5 → k ≠ 6 → C'.1 10 k = C.1 10 k) (f2 : C'.1 10 2 = nI (v' 6)) (f5 : C'.1 10 5 = nI (v' 9)) (f6 : C'.1 10 6 = nI (v' 10)) (fr : ∀ j, j = 11 ∨ j = 13 ∨ j = 14 ∨ (17 ≤ j ∧ j < 23) → C'.1 j = C.1 j)
    (hsh : (C'.1 15 = C.1 15 ∧ ∀ i, 83 ≤ i → i < 103 → v' i = v i) ∨ ((∀ s, s < v 5 → v' (83 + s) < v 0 ∧ v' (87 + s) < v 1 ∧ v' (91 + s) < v 0 ∧ v' (95 + s) < v 1 ∧ v' (99 + s) ≤ 1) ∧ ∀ s, s < v 5 → C'.1 15 (s * 5) = nI (v' (83 + s)) ∧ C'.1 15 (s * 5 + 1) = nI (v' (87 + s)) ∧ C'.1 15 (s * 5 + 2) = nI (v' (91 + s)) ∧ C'.1 15 (s * 5 + 3) = nI (v' (95 + s)) ∧ C'.1 15 (s * 5 + 4) = nI (v' (99 + s))))
    (hfg : (C'.1 16 = C.1 16 ∧ ∀ i, 103 ≤ i → i < 163 → v' i = v i) ∨ ((∀ k, k < 60 → v' (103 + k) ≤ 999) ∧ (∀ b, v 0 * v 1 ≤ b → b < 30 → v' (103 + b) = 0 ∧ v' (133 + b) = 0) ∧ Ar C' 16 60 (fun k => v' (103 + k)))) : Rel C' S' := by
  have v5 := hv.2.2.2.1
  have s1 : ∀ s, s < v 5 → v' (83 + s) < v 0 ∧ v' (87 + s) < v 1 ∧ v' (91 + s) < v 0 ∧ v' (95 + s) < v 1 ∧ v' (99 + s) ≤ 1 := by
    rcases hsh with ⟨-, h⟩ | h
    · intro s hs
      rw [h (83 + s) (by omega) (by omega), h (87 + s) (by omega) (by omega), h (91 + s) (by omega) (by omega), h (95 + s) (by omega) (by omega), h (99 + s) (by omega) (by omega)]
      exact hv.2.2.2.2.2.2.2.2.2.1 s hs
    · exact h.1
  have s2 : ∀ s, s < v 5 → C'.1 15 (s * 5) = nI (v' (83 + s)) ∧ C'.1 15 (s * 5 + 1) = nI (v' (87 + s)) ∧ C'.1 15 (s * 5 + 2) = nI (v' (91 + s)) ∧ C'.1 15 (s * 5 + 3) = nI (v' (95 + s)) ∧ C'.1 15 (s * 5 + 4) = nI (v' (99 + s)) := by
    rcases hsh with ⟨g, h⟩ | h
    · intro s hs
      rw [g, h (83 + s) (by omega) (by omega), h (87 + s) (by omega) (by omega), h (91 + s) (by omega) (by omega), h (95 + s) (by omega) (by omega), h (99 + s) (by omega) (by omega)]
      exact hC.2.2.2.2.2.2.2.2.2.2.1 s hs
    · exact h.2
  have g : (∀ k, k < 60 → v' (103 + k) ≤ 999) ∧ (∀ b, v 0 * v 1 ≤ b → b < 30 → v' (103 + b) = 0 ∧ v' (133 + b) = 0) ∧ Ar C' 16 60 (fun k => v' (103 + k)) := by
    rcases hfg with ⟨g, h⟩ | h
    · refine ⟨fun k hk => ?_, fun b h1 h2 => ?_, fun k hk => ?_⟩
      · rw [h _ (by omega) (by omega)]
        exact hv.2.2.2.2.2.2.2.2.2.2.1 k hk
      · rw [h _ (by omega) (by omega), h _ (by omega) (by omega)]
        exact hv.2.2.2.2.2.2.2.2.2.2.2 b h1 h2
      · dsimp only
        rw [g, h _ (by omega) (by omega)]
        exact hC.2.2.2.2.2.2.2.2.2.2.2.1 k hk
    · exact h
  refine hR.port kc ks st (PB.mk' (hv.chg ev h6 h10 s1 g.1 g.2.1) h9 (PC.chg hv hC ev f0 f2 f5 f6 (fun j hj => fr (10 + j) (by omega)) s2 g.2.2) hA (fun q hq => ?_))
  rw [kc.1, ks.1]
  rw [ev 2 (by omega)] at hq
  exact hn q hq
theorem pt_at (G : Nat → Nat) (j y : Nat) : pt G j y j = y := if_pos rfl
theorem pt_ne {G : Nat → Nat} {j y k : Nat} (h : k ≠ j) : pt G j y k = G k := if_neg h
