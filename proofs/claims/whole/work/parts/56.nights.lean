/-! nights: one step of both -/
def chN (v v' : Nat → Nat) : Prop := ∀ i, (i < 103 ∧ i ≠ 6 ∧ i ≠ 9 ∧ i ≠ 10) ∨ 163 ≤ i → v' i = v i
theorem chN.rf {v : Nat → Nat} : chN v v := fun _ _ => rfl
theorem chN.tr {v v' v'' : Nat → Nat} (h : chN v v') (h2 : chN v' v'') : chN v v'' := fun i hi => (h2 i hi).trans (h i hi)
theorem chN.chV {v v' : Nat → Nat} (h : chN v v') : chV v v' := fun i hi => h i (by omega)
def NR (C S : Mem) (p L : Nat) (v : Nat → Nat) (st : Nat) : Prop := VV v ∧ v 9 ≤ 9999 ∧ PC C p v ∧ Ar S 205 435 v ∧ C.1 L 4 = nI st ∧ S.1 200 45 = nI st ∧ st ≤ 300 ∧ (∃ rn, rn < 65536 ∧ C.1 L 2 = nI rn ∧ S.1 200 44 = nI rn) ∧ C.1 L 5 = S.1 200 46 ∧ C.1 L 6 = S.1 200 47 ∧ C.1 L 7 = S.1 200 48 ∧ C.1 L 8 = S.1 200 49
def KL (p L : Nat) (C C' : Mem) : Prop := C'.2 = C.2 ∧ (∀ c, c ≠ p → c ≠ p + 6 → c ≠ L → c ≠ L + 1 → c ≠ 91 → c ≠ 92 → C'.1 c = C.1 c) ∧ (∀ k, k ≠ 2 → k ≠ 5 → k ≠ 6 → C'.1 p k = C.1 p k) ∧ C'.1 L 3 = C.1 L 3
def KM (S S' : Mem) : Prop := S'.2 = S.2 ∧ (∀ c, c ≠ 200 → c ≠ 205 → c ≠ 209 → S'.1 c = S.1 c) ∧ (∀ k, k < 43 ∨ 50 < k → S'.1 200 k = S.1 200 k) ∧ ∀ k, 163 ≤ k → S'.1 205 k = S.1 205 k
theorem KL.rf {p L : Nat} {C : Mem} : KL p L C C := ⟨rfl, fun _ _ _ _ _ _ _ => rfl, fun _ _ _ _ => rfl, rfl⟩
theorem KL.tr {p L : Nat} {C C1 C2 : Mem} (h : KL p L C C1) (h2 : KL p L C1 C2) : KL p L C C2 := ⟨h2.1.trans h.1, fun c a b d e f g => (h2.2.1 c a b d e f g).trans (h.2.1 c a b d e f g), fun k a b d => (h2.2.2.1 k a b d).trans (h.2.2.1 k a b d), h2.2.2.2.trans h.2.2.2⟩
theorem KM.rf {S : Mem} : KM S S := ⟨rfl, fun _ _ _ _ => rfl, fun _ _ => rfl, fun _ _ => rfl⟩
theorem KM.tr {S S1 S2 : Mem} (h : KM S S1) (h2 : KM S1 S2) : KM S S2 := ⟨h2.1.trans h.1, fun c a b d => (h2.2.1 c a b d).trans (h.2.1 c a b d), fun k a => (h2.2.2.1 k a).trans (h.2.2.1 k a), fun k a => (h2.2.2.2 k a).trans (h.2.2.2 k a)⟩
theorem KM.u {S S1 : Mem} {j : Nat} {x : Int32} (h : KM S S1) (hj : 43 ≤ j ∧ j ≤ 50) : KM S (uI S1 200 j x) := h.tr ⟨rfl, fun c a _ _ => u_ne a, fun k a => by rw [us_same, g_upd, if_neg (by omega)], fun k _ => by rw [u_ne (by decide)]⟩
theorem KM.c {S S1 : Mem} {j : Nat} {x : Int32} (h : KM S S1) (hj : j < 163) : KM S (uI S1 205 j x) := h.tr ⟨rfl, fun c _ b _ => u_ne b, fun k _ => by rw [u_ne (by decide)], fun k a => by rw [us_same, g_upd, if_neg (by omega)]⟩
/-- a port and a life of the class -/
def pL (p L : Nat) : Prop := (p = 10 ∨ p = 23) ∧ (L = 107 ∨ L = 109)
theorem KL.l {p L : Nat} {C C1 : Mem} {j : Nat} {x : Int32} (hp : pL p L) (h : KL p L C C1) (hj : j ≠ 3) : KL p L C (uI C1 L j x) := h.tr ⟨rfl, fun c _ _ a _ _ _ => u_ne a, fun k _ _ _ => by rw [u_ne (by unfold pL at hp; omega)], by rw [us_same, g_upd, if_neg (Ne.symm hj)]⟩
theorem KL.t {p L : Nat} {C C1 : Mem} {j : Nat} {x : Int32} (hp : pL p L) (h : KL p L C C1) : KL p L C (uI C1 (L + 1) j x) := h.tr ⟨rfl, fun c _ _ _ a _ _ => u_ne a, fun k _ _ _ => by rw [u_ne (by unfold pL at hp; omega)], by rw [u_ne (by omega)]⟩
theorem KL.p {p L : Nat} {C C1 : Mem} {j : Nat} {x : Int32} (hp : pL p L) (h : KL p L C C1) (hj : j = 2 ∨ j = 5 ∨ j = 6) : KL p L C (uI C1 p j x) := h.tr ⟨rfl, fun c a _ _ _ _ _ => u_ne a, fun k _ _ _ => by rw [us_same, g_upd, if_neg (by omega)], by rw [u_ne (by unfold pL at hp; omega)]⟩
section G1
variable {N p L : Nat} {C S : Mem} {v : Nat → Nat}
/-- the port, changed -/
theorem PCN {C' : Mem} {v' : Nat → Nat} (hp : pL p L) (hv : VV v) (hC : PC C p v) (kl : KL p L C C') (ev : chN v v') (h6 : v' 6 ≤ 4) (h10 : v' 10 < 2 ^ v 2) (f2 : C'.1 p 2 = nI (v' 6)) (f5 : C'.1 p 5 = nI (v' 9)) (f6 : C'.1 p 6 = nI (v' 10)) (hf : (∀ k, k < 60 → v' (103 + k) ≤ 999) ∧ (∀ b, v 0 * v 1 ≤ b → b < 30 → v' (103 + b) = 0 ∧ v' (133 + b) = 0)) (ff : Ar C' (p + 6) 60 (fogv v')) : VV v' ∧ PC C' p v' := by
  have v5 := hv.2.2.2.1
  have hs : ∀ s, s < v 5 → v' (83 + s) = v (83 + s) ∧ v' (87 + s) = v (87 + s) ∧ v' (91 + s) = v (91 + s) ∧ v' (95 + s) = v (95 + s) ∧ v' (99 + s) = v (99 + s) := fun s hs => ⟨ev _ (by omega), ev _ (by omega), ev _ (by omega), ev _ (by omega), ev _ (by omega)⟩
  unfold pL at hp
  refine ⟨hv.chg ev.chV h6 h10 (fun s h => ?_) hf.1 hf.2, PC.chg hv hC ev.chV (fun k a b c => kl.2.2.1 k a b c) f2 f5 f6 (fun j hj => kl.2.1 _ (by omega) (by omega) (by omega) (by omega) (by omega) (by omega)) (fun s h => ?_) ff⟩
  · obtain ⟨e1, e2, e3, e4, e5⟩ := hs s h
    rw [e1, e2, e3, e4, e5]
    exact hv.2.2.2.2.2.2.2.2.2.1 s h
  · obtain ⟨e1, e2, e3, e4, e5⟩ := hs s h
    rw [e1, e2, e3, e4, e5, kl.2.1 (p + 5) (by omega) (by omega) (by omega) (by omega) (by omega) (by omega)]
    exact hC.2.2.2.2.2.2.2.2.2.2.1 s h
/-- what one step leaves -/
def NP (p L : Nat) (C S : Mem) (v : Nat → Nat) (st : Nat) (C' S' : Mem) (r : Bool) : Prop := ∃ v', KL p L C C' ∧ C'.1 (L + 1) = C.1 (L + 1) ∧ KM S S' ∧ chN v v' ∧ NR C' (uI S' 200 46 (S.1 200 46 + (if r then 0 else 1))) p L v' st ∧ C'.1 L 9 = C.1 L 9 ∧ S'.1 200 50 = S.1 200 50 ∧ S'.1 200 43 = S.1 200 43
/-- missed: nothing but the count -/
theorem NP.miss {st : Nat} (hp : pL p L) (h : NR C S p L v st) : NP p L C S v st (uI C L 5 (C.1 L 5 + 1)) S false := by
  obtain ⟨h1, h2, h3, h4, h5, h6, h7, ⟨rn, h8, h9, h10⟩, h11, h12, h13, h14⟩ := h
  have hp' := hp
  unfold pL at hp'
  refine ⟨v, KL.rf.l hp (by decide), by rw [u_ne (by omega)], KM.rf, chN.rf, ⟨h1, h2, h3.same fun j hj => by rw [u_ne (by omega)], h4.oth (by decide), by rw [us_same, g_upd, if_neg (by decide)]; exact h5, by rw [us_same, g_upd, if_neg (by decide)]; exact h6, h7, ⟨rn, h8, by rw [us_same, g_upd, if_neg (by decide)]; exact h9, by rw [us_same, g_upd, if_neg (by decide)]; exact h10⟩, by rw [u_at, u_at, h11]; rfl, ?_, ?_, ?_⟩, by rw [us_same, g_upd, if_neg (by decide)], rfl, rfl⟩
  · rw [us_same, g_upd, if_neg (by decide), us_same, g_upd, if_neg (by decide)]; exact h12
  · rw [us_same, g_upd, if_neg (by decide), us_same, g_upd, if_neg (by decide)]; exact h13
  · rw [us_same, g_upd, if_neg (by decide), us_same, g_upd, if_neg (by decide)]; exact h14
theorem pt_fog {i y : Nat} (hi : i < 103) : fogv (pt v i y) = fogv v := by
  funext k
  exact pt_ne (by omega)
/-- a change of a number of the port alone: wind or gates -/
theorem NP.one {st i j y : Nat} (hp : pL p L) (h : NR C S p L v st) (hij : (i = 6 ∧ j = 2 ∧ y ≤ 4) ∨ (i = 10 ∧ j = 6 ∧ y < 2 ^ v 2)) : NP p L C S v st (uI C p j (nI y)) (uI S 205 i (nI y)) true := by
  obtain ⟨h1, h2, h3, h4, h5, h6, h7, ⟨rn, h8, h9, h10⟩, h11, h12, h13, h14⟩ := h
  have hp' := hp
  unfold pL at hp'
  have kl : KL p L C (uI C p j (nI y)) := KL.rf.p hp (by omega)
  have ev : chN v (pt v i y) := fun k hk => pt_ne (by omega)
  have eL : (uI C p j (nI y)).1 L = C.1 L := u_ne (by omega)
  have eS : ∀ k, k ≠ 46 → (uI (uI S 205 i (nI y)) 200 46 (S.1 200 46 + (if true then 0 else 1))).1 200 k = S.1 200 k := fun k hk => by rw [us_same, g_upd, if_neg hk, u_ne (by decide)]
  have pc := PCN (C' := uI C p j (nI y)) (v' := pt v i y) hp h1 h3 kl ev (by
    rcases hij with ⟨rfl, rfl, hy⟩ | ⟨rfl, rfl, hy⟩
    · rw [pt_at]; exact hy
    · rw [pt_ne (by decide)]; exact h1.1.2.2.2.1) (by
    rcases hij with ⟨rfl, rfl, hy⟩ | ⟨rfl, rfl, hy⟩
    · rw [pt_ne (by decide)]; exact h1.2.2.2.2.2.1
    · rw [pt_at]; exact hy) (by
    rcases hij with ⟨rfl, rfl, hy⟩ | ⟨rfl, rfl, hy⟩
    · rw [u_at, pt_at]
    · rw [us_same, g_upd, if_neg (by decide), pt_ne (by decide)]; exact h3.1.2.2.1) (by
    rw [us_same, g_upd, if_neg (by omega), pt_ne (by omega)]; exact h3.2.2.1) (by
    rcases hij with ⟨rfl, rfl, hy⟩ | ⟨rfl, rfl, hy⟩
    · rw [us_same, g_upd, if_neg (by decide), pt_ne (by decide)]; exact h3.2.2.2.1
    · rw [u_at, pt_at]) ⟨fun k hk => by rw [pt_ne (by omega)]; exact h1.2.2.2.2.2.2.2.2.2.2.1 k hk, fun b b1 b2 => by rw [pt_ne (by omega), pt_ne (by omega)]; exact h1.2.2.2.2.2.2.2.2.2.2.2 b b1 b2⟩ (by
    rw [pt_fog (by omega)]
    exact Ar.oth h3.2.2.2.2.2.2.2.2.2.2.2.1 (by omega))
  refine ⟨pt v i y, kl, by rw [u_ne (by omega)], KM.rf.c (by omega), ev, ⟨pc.1, by rw [pt_ne (by omega)]; exact h2, pc.2, (h4.put i y).oth (by decide), by rw [eL]; exact h5, by rw [eS 45 (by decide)]; exact h6, h7, ⟨rn, h8, by rw [eL]; exact h9, by rw [eS 44 (by decide)]; exact h10⟩, ?_, ?_, ?_, ?_⟩, by rw [eL], by rw [u_ne (by decide)], by rw [u_ne (by decide)]⟩
  · rw [u_at, eL, h11, if_pos rfl, Int32.add_zero]
  · rw [eL, eS 47 (by decide)]; exact h12
  · rw [eL, eS 48 (by decide)]; exact h13
  · rw [eL, eS 49 (by decide)]; exact h14
theorem n_gate {st g : Nat} {w : Bool} (hp : pL p L) (h : NR C S p L v st) (hg : g < v 2) : ∃ C' S' r, f_X2_turnGate L p (nI g) (b2i w) C = some C' ∧ bi (f_X12_has (S.1 205 10) (nI g) S) (fun r M => f_X12_does_b91 N (nI g) (b2i w) (b2i r) M) = some (r, S') ∧ NP p L C S v st C' S' r := by
  have hv := h.1
  have v2 := hv.1.2.2.1
  have h10 := hv.2.2.2.2.2.1
  have p64 := pow_le64 v2
  have c6 := h.2.2.1.2.2.2.1
  have a10 := h.2.2.2.1 10 (by omega)
  unfold f_X2_turnGate f_X12_does_b91 f_X5_setOpen
  rw [cc_open c6 (by omega), a10, cm_has (by omega), bi_s, bi_s]
  by_cases e : (v 10).testBit g = w
  · rw [e, if_pos rfl, if_pos rfl, bM_e]
    exact ⟨_, _, false, rfl, rfl, NP.miss hp h⟩
  · have ne : ¬ b2i ((v 10).testBit g) = b2i w := fun z => e (by revert z; cases (v 10).testBit g <;> cases w <;> decide)
    have hlt : v 10 ^^^ 2 ^ g < 2 ^ v 2 := Nat.xor_lt_two_pow h10 (Nat.pow_lt_pow_right (by decide) hg)
    rw [if_neg ne, if_neg ne, ck_l (by omega), ck_l (by omega), bM_e, show tn 10 = 10 from rfl, n_shl1 (by omega), c6, a10, fb_xorI, n_andnot (a := v 10) (g := g) (by omega), fa_or]
    have key := NP.one (i := 10) (j := 6) (y := v 10 ^^^ 2 ^ g) hp h (Or.inr ⟨rfl, rfl, hlt⟩)
    cases w with
    | false =>
      have t : (v 10).testBit g = true := by simpa using e
      rw [if_pos (show b2i false = 0 from rfl), bM_e, t]
      exact ⟨_, _, true, rfl, rfl, key⟩
    | true =>
      have t : (v 10).testBit g = false := by simpa using e
      rw [if_neg (show ¬ b2i true = 0 by decide), bM_e, or_xor t]
      exact ⟨_, _, true, rfl, rfl, key⟩
theorem n_wind {st k : Nat} (hp : pL p L) (h : NR C S p L v st) (hk : k ≤ 4) : ∃ C' S' r, f_X2_turnWind L p (nI k) C = some C' ∧ (if S.1 205 6 = nI k then f_X12_does_b57 N (nI k) 0 S else f_X12_does_b57 N (nI k) 1 S) = some (r, S') ∧ NP p L C S v st C' S' r := by
  have hv := h.1
  have v6 := hv.1.2.2.2.1
  have c2 := h.2.2.1.1.2.2.1
  have a6 := h.2.2.2.1 6 (by omega)
  unfold f_X2_turnWind f_X12_does_b57
  rw [c2, a6, ck_l (by omega), ck_l (by omega), show tn 6 = 6 from rfl, bM_e, bM_e]
  by_cases e : v 6 = k
  · rw [e, if_pos rfl, if_pos rfl, bM_e, zb_0]
    have es : uI S 205 6 (nI k) = S := by
      have key : ∀ c, (uI S 205 6 (nI k)).1 c = S.1 c := fun c => by
        by_cases z : c = 205
        · subst z
          rw [us_same, fa_upd_same (by rw [a6, e])]
        · rw [u_ne z]
      exact Prod.ext (funext key) rfl
    rw [es]
    exact ⟨_, _, false, rfl, rfl, NP.miss hp h⟩
  · rw [if_neg (by rw [n_eq (by omega)]; exact e), if_neg (by rw [n_eq (by omega)]; exact e), bM_e, zb_1]
    exact ⟨_, _, true, rfl, rfl, NP.one (i := 6) (j := 2) hp h (Or.inl ⟨rfl, rfl, hk⟩)⟩
theorem n_hours {st k : Nat} (hN : 200 < N) (hp : pL p L) (h : NR C S p L v st) (hk : 1 ≤ k ∧ k ≤ 24) : ∃ C' S' r, f_X2_letPass N L p (nI k) C = some C' ∧ f_X12_anyHours N (nI k) S = some (r, S') ∧ NP p L C S v st C' S' r := by
  have hh := h
  obtain ⟨hv, h2, hC, hA, h5, h6, h7, ⟨rn, h8, h9, h10⟩, h11, h12, h13, h14⟩ := h
  have hp' := hp
  unfold pL at hp'
  have hf9 : ∀ q, q < 60 → v (103 + q) ≤ 999 := hv.2.2.2.2.2.2.2.2.2.2.1
  have hz := hv.2.2.2.2.2.2.2.2.2.2.2
  have b30 := bd30 hv.1.1 hv.1.2.1
  have v8 := hv.2.2.2.2.1
  have v10 := hv.2.2.2.2.2.1
  have p64 := pow_le64 hv.1.2.2.1
  unfold f_X2_letPass f_X12_anyHours
  rw [hC.2.2.1, ck_l (by omega), show tn 9 = 9 from rfl, hA 9 (by omega), nI_add]
  by_cases g : v 9 + k ≤ 9999
  · rw [if_pos (show nI (v 9 + k) ≤ 9999 by rw [n_lel (by omega)]; exact g), if_pos (show nI (v 9 + k) ≤ 9999 by rw [n_lel (by omega)]; exact g)]
    obtain ⟨⟨rr, C1⟩, e1, a1, a2, a3, a4, a5⟩ := c_pass (M := C) (p := p) (n := k) (v := v) hN hp'.1 hv.1 v8 (by omega) hf9 (by omega) hC.1 hC.2.1 hC.2.2.1 hC.2.2.2.1 hC.2.2.2.2.2.2.2.2.2.2.2.1
    dsimp only at a1 a2 a3 a4 a5
    rw [e1, bi_s]
    simp only [bM_e]
    have m : Ho (lp (fun k a m => f_X12_anyHours_h19 N k a.1 a.2 m) N (nI k, 0) S) (fun q => q.1 = true ∧ KM S q.2 ∧ Ar q.2 205 435 (hvN v k) ∧ q.2.1 200 47 = S.1 200 47 + nI k ∧ q.2.1 200 48 = S.1 200 48 + nI (smC v k) ∧ ∀ j, j ≠ 47 → j ≠ 48 → q.2.1 200 j = S.1 200 j) := by
      refine Ho_lp (fun i a S' => a = (nI k, nI i) ∧ KM S S' ∧ Ar S' 205 435 (hvN v i) ∧ S'.1 200 48 = S.1 200 48 + nI (smC v i) ∧ ∀ j, j ≠ 48 → S'.1 200 j = S.1 200 j) k (by omega) ⟨rfl, KM.rf, hA, by rw [show smC v 0 = 0 from rfl, show nI 0 = 0 from rfl, Int32.add_zero], fun _ _ => rfl⟩ ?_
      rintro i hi k19 hk19 _ S1 ⟨rfl, s1, A1, q1, q2⟩
      obtain ⟨w1, w2, w3⟩ := hv_vw hv.1 hf9 i
      obtain ⟨o1, o2, o3⟩ := hv_ok hv.1 hf9 (i + 1)
      obtain ⟨o1', o2', o3'⟩ := hv_ok hv.1 hf9 i
      obtain ⟨u1, u2, u3⟩ := hv_vw hv.1 hf9 (i + 1)
      unfold f_X12_anyHours_h19
      dsimp only
      by_cases gi : k ≤ i
      · have ei : i = k := by omega
        subst ei
        rw [if_pos (by rw [n_le (by omega)]; exact gi), bM_e, Ho_some]
        refine ⟨rfl, s1.u (by omega), A1.oth (by decide), by rw [u_at, q2 47 (by decide)], by rw [us_same, g_upd, if_neg (by decide)]; exact q1, fun j j1 j2 => by rw [us_same, g_upd, if_neg j1]; exact q2 j j2⟩
      · rw [if_neg (by rw [n_le (by omega)]; exact gi), Ho_bv]
        refine Ho_mono (mh_hour hN w1 A1 w2 (by rw [w3]; omega)) ?_
        rintro S2 ⟨s2, A2⟩
        have A2' : Ar S2 205 435 (hvN v (i + 1)) := A2
        have hcn : cnF (hvN v (i + 1) 8) (fogv (hvN v (i + 1))) (hvN v (i + 1) 0 * hvN v (i + 1) 1) = cnAt v (i + 1) := by
          rw [o1 0 (by omega), o1 1 (by omega), o1 8 (by omega)]
          exact cnF_cong b30 o3
        rw [m_count (v := hvN v (i + 1)) (by omega) (by rw [o1 0 (by omega), o1 1 (by omega), o1 8 (by omega)]; exact ⟨hv.1.1, hv.1.2.1, v8⟩) A2' u2, hcn, bi_s, bM_e, n_addl]
        have km2 : KM S1 S2 := ⟨s2.1.1, fun c _ a b => s2.1.2 c (by simp [a, b]), fun q _ => by rw [s2.1.2 200 (by simp)], fun q hq => by
          by_cases g4 : q < 435
          · rw [A2' q g4, A1 q g4, o1 q (Or.inr hq), o1' q (Or.inr hq)]
          · exact s2.2 q (by omega)⟩
        refine hk19 (by omega) _ _ ⟨rfl, (s1.tr km2).u (by omega), A2'.oth (by decide), ?_, fun j hj => ?_⟩
        · rw [u_at, s2.1.2 200 (by simp), q1, Int32.add_assoc, nI_add]
          rfl
        · rw [us_same, g_upd, if_neg hj, s2.1.2 200 (by simp)]; exact q2 j hj
    obtain ⟨⟨r2, S2⟩, e2, b1, b2, b3, b4, b5, b6⟩ := m
    dsimp only at b1 b2 b3 b4 b5 b6
    subst b1
    rw [e2]
    obtain ⟨q1, q2, q3⟩ := hv_ok hv.1 hf9 k
    obtain ⟨w1, w2, w3⟩ := hv_vw hv.1 hf9 k
    have eL : C1.1 L = C.1 L := a2.2 L (by simp; omega)
    have fL : ∀ j, j ≠ 6 → j ≠ 7 → (uI (uI C1 L 7 (C.1 L 7 + rr)) L 6 ((uI C1 L 7 (C.1 L 7 + rr)).1 L 6 + nI k)).1 L j = C.1 L j := fun j j1 j2 => by rw [us_same, g_upd, if_neg j1, us_same, g_upd, if_neg j2, eL]
    have fo : ∀ c, c ≠ L → (uI (uI C1 L 7 (C.1 L 7 + rr)) L 6 ((uI C1 L 7 (C.1 L 7 + rr)).1 L 6 + nI k)).1 c = C1.1 c := fun c hc => by rw [u_ne hc, u_ne hc]
    have kl1 : KL p L C C1 := ⟨a2.1, fun c c1 c2 _ _ c3 c4 => a2.2 c (by simp [c1, c2, c3, c4]), fun q _ q5 _ => a4 q q5, by rw [eL]⟩
    have kl : KL p L C (uI (uI C1 L 7 (C.1 L 7 + rr)) L 6 ((uI C1 L 7 (C.1 L 7 + rr)).1 L 6 + nI k)) := (kl1.l hp (by decide)).l hp (by decide)
    have ev : chN v (hvN v k) := fun i hi => q1 i (by omega)
    have pc := PCN (v' := hvN v k) hp hv hC kl ev (by rw [q1 6 (by omega)]; exact hv.1.2.2.2.1) (by rw [q1 10 (by omega)]; exact v10) (by rw [fo p (by omega), a4 2 (by decide), q1 6 (by omega)]; exact hC.1.2.2.1) (by rw [fo p (by omega), a3, q2]) (by rw [fo p (by omega), a4 6 (by decide), q1 10 (by omega)]; exact hC.2.2.2.1) ⟨w2, fun b c1 c2 => by
      have := hz b c1 c2
      rw [q3 b (by omega), show 133 + b = 103 + (30 + b) by omega, q3 (30 + b) (by omega), hrN_oth hv.1 (by omega), hrN_oth hv.1 (by omega)]
      exact ⟨this.1, by show v (103 + (30 + b)) = 0; rw [show 103 + (30 + b) = 133 + b by omega]; exact this.2⟩⟩ (by
      refine Ar.same ?_ (fo (p + 6) (by omega))
      exact a5.cong fun q hq => (q3 q hq).symm)
    have eS : ∀ j, j ≠ 46 → (uI S2 200 46 (S.1 200 46 + (if true then 0 else 1))).1 200 j = S2.1 200 j := fun j hj => by rw [us_same, g_upd, if_neg hj]
    refine ⟨_, _, true, rfl, rfl, hvN v k, kl, by rw [fo (L + 1) (by omega), a2.2 (L + 1) (by simp; omega)], b2, ev, ⟨pc.1, by rw [q2]; exact g, pc.2, b3.oth (by decide), by rw [fL 4 (by decide) (by decide)]; exact h5, by rw [eS 45 (by decide), b6 45 (by decide) (by decide)]; exact h6, h7, ⟨rn, h8, by rw [fL 2 (by decide) (by decide)]; exact h9, by rw [eS 44 (by decide), b6 44 (by decide) (by decide)]; exact h10⟩, ?_, ?_, ?_, ?_⟩, fL 9 (by decide) (by decide), b6 50 (by decide) (by decide), b6 43 (by decide) (by decide)⟩
    · rw [fL 5 (by decide) (by decide), u_at, h11, if_pos rfl, Int32.add_zero]
    · rw [u_at, us_same, g_upd, if_neg (by decide), eL, h12, eS 47 (by decide), b4]
    · rw [us_same, g_upd, if_neg (by decide), u_at, h13, a1, eS 48 (by decide), b5]
    · rw [fL 8 (by decide) (by decide), eS 49 (by decide), b6 49 (by decide) (by decide)]; exact h14
  · rw [if_neg (show ¬ nI (v 9 + k) ≤ 9999 by rw [n_lel (by omega)]; exact g), if_neg (show ¬ nI (v 9 + k) ≤ 9999 by rw [n_lel (by omega)]; exact g), bM_e]
    exact ⟨_, _, false, rfl, rfl, NP.miss hp hh⟩
end G1
