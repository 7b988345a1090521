section Q4
variable {N n lo : Nat} {A Z C S : Mem} {B : Nat → Nat}
/-- a name sought among those of a sort -/
theorem named_is {bl s cnt : Nat} (hN : 1000 < N) (hb : bl ≤ 4 ∧ s ≤ 3 ∧ cnt ≤ 6) (h22 : 22 * bl + 6 * s + cnt ≤ 110) (hc : S.1 205 (435 * bl + 2 + s) = nI cnt) : ∃ r, f_X12_named N (nI bl) (nI s) S = some (r, S) ∧ ((r = -1 ∧ ∀ k, k < cnt → S.2 208 (22 * bl + 6 * s + k) ≠ S.2 200 19) ∨ ∃ k, k < cnt ∧ r = nI k ∧ S.2 208 (22 * bl + 6 * s + k) = S.2 200 19 ∧ ∀ j, j < k → S.2 208 (22 * bl + 6 * s + j) ≠ S.2 200 19) := by
  have key : Ho (f_X12_named N (nI bl) (nI s) S) (fun q => q.2 = S ∧ ((q.1 = -1 ∧ ∀ k, k < cnt → S.2 208 (22 * bl + 6 * s + k) ≠ S.2 200 19) ∨ ∃ k, k < cnt ∧ q.1 = nI k ∧ S.2 208 (22 * bl + 6 * s + k) = S.2 200 19 ∧ ∀ j, j < k → S.2 208 (22 * bl + 6 * s + j) ≠ S.2 200 19)) := by
    unfold f_X12_named
    refine Ho_lp (fun i st M => st = (nI bl, nI s, nI i) ∧ S = M ∧ i ≤ cnt ∧ ∀ j, j < i → S.2 208 (22 * bl + 6 * s + j) ≠ S.2 200 19) 6 (by omega) ⟨rfl, rfl, by omega, fun j hj => by omega⟩ ?_
    rintro i hi k hk _ M1 ⟨rfl, e1, him, hno⟩
    rw [← e1]
    unfold f_X12_named_h2 f_X12_fromOf
    dsimp only
    rw [show (435 : Int32) * nI bl = nI (435 * bl) from n_lmul .., n_addl, nI_add, ck_n (by omega), t_n (by omega), hc, bi_s, show (22 : Int32) * nI bl = nI (22 * bl) from n_lmul .., show (6 : Int32) * nI s = nI (6 * s) from n_lmul .., nI_add, nI_add, t_n (by omega)]
    by_cases g : cnt ≤ i
    · rw [if_pos (by rw [n_le (by omega)]; exact g), Ho_some]
      exact ⟨rfl, Or.inl ⟨rfl, fun k hk => hno k (by omega)⟩⟩
    · rw [if_neg (by rw [n_le (by omega)]; exact g), ck_n (by omega)]
      by_cases q : S.2 208 (22 * bl + 6 * s + i) = S.2 200 19
      · rw [if_pos (by rw [lg_eq0]; exact q), Ho_some]
        exact ⟨rfl, Or.inr ⟨i, by omega, rfl, q, hno⟩⟩
      · rw [if_neg (by rw [lg_eq0]; exact q), n_addl]
        refine hk (by omega) _ _ ⟨rfl, rfl, by omega, fun j hj => ?_⟩
        by_cases e : j = i
        · subst e; exact q
        · exact hno j (by omega)
  obtain ⟨⟨r, M⟩, e, h1, h2⟩ := key
  have h1 : M = S := h1
  subst h1
  exact ⟨r, e, h2⟩
/-- names of both: v 2 .. v 5 many of each sort -/
def NmR (A Z : Mem) (v : Nat → Nat) : Prop := A.1 83 4 = nI (v 2 + v 3 + v 4 + v 5) ∧ (∀ s, s < 4 → Z.1 205 (1742 + s) = nI (v (2 + s))) ∧ ∀ x : Int64, (∃ i, i < v 2 + v 3 + v 4 + v 5 ∧ A.2 84 i = x) ↔ ∃ s k, s < 4 ∧ k < v (2 + s) ∧ Z.2 208 (88 + 6 * s + k) = x
theorem taken_is {v : Nat → Nat} (hN : 1000 < N) (hv : v 2 ≤ 6 ∧ v 3 ≤ 6 ∧ v 4 ≤ 6 ∧ v 5 ≤ 4) (h : ∀ s, s < 4 → S.1 205 (1742 + s) = nI (v (2 + s))) : ∃ b, f_X12_isTaken N S = some (b, S) ∧ (b = true ↔ ∃ s k, s < 4 ∧ k < v (2 + s) ∧ S.2 208 (88 + 6 * s + k) = S.2 200 19) := by
  have one : ∀ s, s < 4 → ∃ r, f_X12_named N 4 (nI s) S = some (r, S) ∧ ((r < 0 ∧ ¬ 0 ≤ r ∧ ∀ k, k < v (2 + s) → S.2 208 (88 + 6 * s + k) ≠ S.2 200 19) ∨ (0 ≤ r ∧ ¬ r < 0 ∧ ∃ k, k < v (2 + s) ∧ S.2 208 (88 + 6 * s + k) = S.2 200 19)) := fun s hs => by
    have hc : v (2 + s) ≤ 6 ∧ (s = 3 → v (2 + s) ≤ 4) := by
      obtain rfl | rfl | rfl | rfl : s = 0 ∨ s = 1 ∨ s = 2 ∨ s = 3 := by omega
      · exact ⟨hv.1, by omega⟩
      · exact ⟨hv.2.1, by omega⟩
      · exact ⟨hv.2.2.1, by omega⟩
      · exact ⟨by have := hv.2.2.2; have e : v (2 + 3) = v 5 := rfl; omega, fun _ => hv.2.2.2⟩
    obtain ⟨r, e, q⟩ := named_is (S := S) (bl := 4) (s := s) (cnt := v (2 + s)) hN ⟨by omega, by omega, hc.1⟩ (by omega) (h s hs)
    refine ⟨r, e, ?_⟩
    rcases q with ⟨rfl, q⟩ | ⟨k, k1, rfl, k2, -⟩
    · exact Or.inl ⟨by decide, by decide, q⟩
    · refine Or.inr ⟨?_, nI_pos (by omega), k, k1, k2⟩
      rw [show (0 : Int32) = nI 0 from rfl, n_le (by omega)]
      omega
  unfold f_X12_isTaken
  obtain ⟨r0, e0, q0⟩ := one 0 (by omega)
  obtain ⟨r1, e1, q1⟩ := one 1 (by omega)
  obtain ⟨r2, e2, q2⟩ := one 2 (by omega)
  obtain ⟨r3, e3, q3⟩ := one 3 (by omega)
  have e0 : f_X12_named N 4 0 S = some (r0, S) := e0
  have e1 : f_X12_named N 4 1 S = some (r1, S) := e1
  have e2 : f_X12_named N 4 2 S = some (r2, S) := e2
  have e3 : f_X12_named N 4 3 S = some (r3, S) := e3
  rw [e0, bi_s]
  rcases q0 with ⟨a0, b0, c0⟩ | ⟨a0, b0, k, c0⟩
  · rw [if_neg b0, e1, bi_s]
    rcases q1 with ⟨a1, b1, c1⟩ | ⟨a1, b1, k, c1⟩
    · rw [if_neg b1, e2, bi_s]
      rcases q2 with ⟨a2, b2, c2⟩ | ⟨a2, b2, k, c2⟩
      · rw [if_neg b2, e3, bi_s]
        rcases q3 with ⟨a3, b3, c3⟩ | ⟨a3, b3, k, c3⟩
        · rw [if_pos a3]
          refine ⟨false, rfl, fun z => (by cases z), ?_⟩
          rintro ⟨s, k, s4, k1, k2⟩
          exfalso
          obtain rfl | rfl | rfl | rfl : s = 0 ∨ s = 1 ∨ s = 2 ∨ s = 3 := by omega
          · exact c0 k k1 k2
          · exact c1 k k1 k2
          · exact c2 k k1 k2
          · exact c3 k k1 k2
        · rw [if_neg b3]
          exact ⟨true, rfl, fun _ => ⟨3, k, by omega, c3⟩, fun _ => rfl⟩
      · rw [if_pos a2]
        exact ⟨true, rfl, fun _ => ⟨2, k, by omega, c2⟩, fun _ => rfl⟩
    · rw [if_pos a1]
      exact ⟨true, rfl, fun _ => ⟨1, k, by omega, c1⟩, fun _ => rfl⟩
  · rw [if_pos a0]
    exact ⟨true, rfl, fun _ => ⟨0, k, by omega, c0⟩, fun _ => rfl⟩
/-- the class's search -/
theorem cnew_lp {nc : Nat} {x : Int64} (hN : 1000 < N) (hn : nc ≤ 21) (h4 : C.1 83 4 = nI nc) : lp (fun k (a : Int64 × Int32) M => f_X6_readNewName_h29 N k a.1 a.2 M) N (x, 0) C = if ∃ i, i < nc ∧ C.2 84 i = x then (bi (f_X8_refuse 3 C) fun r M => some (r, M)) else bv (f_X8_advance N (uI (uL C 84 nc x) 83 4 (nI (nc + 1)))) fun M => some (true, M) := by
  have key : ∀ d i F, i + d = nc → d < F → (∀ j, j < i → C.2 84 j ≠ x) → lp (fun k (a : Int64 × Int32) M => f_X6_readNewName_h29 N k a.1 a.2 M) F (x, nI i) C = if ∃ i, i < nc ∧ C.2 84 i = x then (bi (f_X8_refuse 3 C) fun r M => some (r, M)) else bv (f_X8_advance N (uI (uL C 84 nc x) 83 4 (nI (nc + 1)))) fun M => some (true, M) := by
    intro d
    induction d with
    | zero =>
      intro i F hi hF hno
      obtain ⟨F, rfl⟩ : ∃ G, F = G + 1 := ⟨F - 1, by omega⟩
      show f_X6_readNewName_h29 N _ x (nI i) C = _
      unfold f_X6_readNewName_h29
      rw [h4, if_pos (by rw [n_le (by omega)]; omega), if_neg (by rw [n_lle (by omega)]; omega), ck_n (by omega), bM_e, bM_e, t_n (by omega), show (uL C 84 nc x).1 83 4 = nI nc from h4, n_addl, if_neg]
      rintro ⟨j, j1, j2⟩
      exact hno j (by omega) j2
    | succ d ih =>
      intro i F hi hF hno
      obtain ⟨F, rfl⟩ : ∃ G, F = G + 1 := ⟨F - 1, by omega⟩
      show f_X6_readNewName_h29 N (lp (fun k (a : Int64 × Int32) M => f_X6_readNewName_h29 N k a.1 a.2 M) F) x (nI i) C = _
      unfold f_X6_readNewName_h29
      rw [h4, if_neg (by rw [n_le (by omega)]; omega), ck_n (by omega), t_n (by omega)]
      by_cases q : C.2 84 i = x
      · rw [if_pos (by rw [lg_eq0]; exact q), if_pos ⟨i, by omega, q⟩]
      · rw [if_neg (by rw [lg_eq0]; exact q), n_addl]
        refine ih (i + 1) F (by omega) (by omega) fun j hj => ?_
        by_cases e : j = i
        · subst e; exact q
        · exact hno j (by omega)
  exact key nc 0 N (by omega) (by omega) fun j hj => by omega
/-- a new name, behind its sort's word -/
theorem St.new {v : Nat → Nat} {s mx : Nat} (hN : 1000 < N) (st : St n B lo A Z C S) (hq : C.1 82 2 = nI 1) (hv : v 2 ≤ 6 ∧ v 3 ≤ 6 ∧ v 4 ≤ 6 ∧ v 5 ≤ 4) (nr : NmR A Z v) (hs : s < 4) (hmx : v (2 + s) ≤ mx ∧ mx ≤ 6 ∧ (s = 3 → mx = 4)) :
    (v (2 + s) = mx → ∃ C' S', f_X8_refuse 6 C = some (false, C') ∧ f_X12_readNew N (nI s) (nI mx) S = some (nI 0, S') ∧ Fl n A Z C' S') ∧
    (v (2 + s) < mx → ∃ C1 b C' r S', f_X8_advance N C = some C1 ∧ f_X6_readNewName N C1 = some (b, C') ∧ f_X12_readNew N (nI s) (nI mx) S = some (nI r, S') ∧ ((b = true ∧ r = v (2 + s) ∧ ∃ x : Int64, (¬ ∃ i, i < v 2 + v 3 + v 4 + v 5 ∧ A.2 84 i = x) ∧ St n B (lo + 2) (uI (uL A 84 (v 2 + v 3 + v 4 + v 5) x) 83 4 (nI (v 2 + v 3 + v 4 + v 5 + 1))) (uL Z 208 (88 + 6 * s + v (2 + s)) x) C' S') ∨ (b = false ∧ r = 0 ∧ Fl n A Z C' S'))) := by
  have n9 := st.n9
  obtain ⟨nr1, nr2, nr3⟩ := nr
  have e5 : S.1 205 (1742 + s) = nI (v (2 + s)) := by rw [st.s (by decide)]; exact nr2 s hs
  have hx : v (2 + s) ≤ 6 := by omega
  have pre : f_X12_readNew N (nI s) (nI mx) S = if nI (v (2 + s)) = nI mx then (bv (f_X12_fail 6 (S.1 200 15) S) fun M => f_X12_readNew_b26 N (nI s) (nI (v (2 + s))) M) else f_X12_readNew_b26 N (nI s) (nI (v (2 + s))) S := by
    unfold f_X12_readNew
    rw [n_ladd, ck_n (by omega), t_n (by omega), e5]
  constructor
  · intro g
    obtain ⟨C', S', h1, h2, h3⟩ := st.bad (x := 6) hq (by omega) (by omega)
    have h1 : f_X8_refuse 6 C = some (false, C') := h1
    have h2 : f_X12_fail 6 (S.1 200 15) S = some S' := h2
    refine ⟨C', S', h1, ?_, h3⟩
    rw [pre, if_pos (by rw [g]), h2, bv_s]
    unfold f_X12_readNew_b26
    rw [if_neg h3.bd.2.1]
    rfl
  · intro g
    obtain ⟨C1, S1, h1, h2, st1⟩ := st.go hN (by rw [hq]; decide)
    have pre2 : f_X12_readNew N (nI s) (nI mx) S = if b2i (nm S1) = 0 then (bv (f_X12_amiss S1) fun M => f_X12_readNew_b50 N (nI s) (nI (v (2 + s))) M) else f_X12_readNew_b50 N (nI s) (nI (v (2 + s))) S1 := by
      rw [pre, if_neg (by rw [n_eq (by omega)]; omega)]
      unfold f_X12_readNew_b26
      rw [st.s12, if_pos (by decide), h2, bv_s, m_name, bi_s]
      rfl
    have cnm : f_X8_isName N C1 = some (nm S1, C1) := c_name hN st1.tx st1.tk
    refine ⟨C1, ?_⟩
    cases q : nm S1 with
    | false =>
      obtain ⟨C', S', r1, r2, r3⟩ := st1.no
      refine ⟨false, C', 0, S', h1, ?_, ?_, Or.inr ⟨rfl, rfl, r3⟩⟩
      · unfold f_X6_readNewName
        rw [cnm, bi_s, q, if_pos (by decide), r1, bi_s]
      · rw [pre2, q, if_pos (by decide), r2, bv_s]
        unfold f_X12_readNew_b50 f_X12_readNew_b73
        rw [if_neg r3.bd.2.2, if_neg r3.bd.2.1]
        rfl
    | true =>
      obtain ⟨a, m, m1, m8, amn, d2, d3, d4, dl, d19⟩ := nm_is n9 st1.tk q
      have cc := c_code hN st1.tx d3 d4 amn dl
      have e83 : C1.1 83 4 = nI (v 2 + v 3 + v 4 + v 5) := by rw [st1.c (by decide)]; exact nr1
      have e84 : C1.2 84 = A.2 84 := by rw [st1.c2]
      have hnc : v 2 + v 3 + v 4 + v 5 ≤ 21 := by
        have z0 : v (2 + 0) = v 2 := rfl
        have z1 : v (2 + 1) = v 3 := rfl
        have z2 : v (2 + 2) = v 4 := rfl
        have z3 : v (2 + 3) = v 5 := rfl
        obtain rfl | rfl | rfl | rfl : s = 0 ∨ s = 1 ∨ s = 2 ∨ s = 3 := by omega
        all_goals omega
      have clp := cnew_lp (N := N) (C := C1) (x := S1.2 200 19) hN hnc e83
      have e1 : f_X6_readNewName N C1 = lp (fun k (a : Int64 × Int32) M => f_X6_readNewName_h29 N k a.1 a.2 M) N (S1.2 200 19, 0) C1 := by
        unfold f_X6_readNewName
        rw [cnm, bi_s, q, if_neg (by decide), cc, bi_s, ← d19]
      have nr1' : ∀ t, t < 4 → S1.1 205 (1742 + t) = nI (v (2 + t)) := fun t ht => by rw [st1.s (by decide)]; exact nr2 t ht
      obtain ⟨b, tb, tb2⟩ := taken_is hN hv nr1'
      have tb3 : b = true ↔ ∃ i, i < v 2 + v 3 + v 4 + v 5 ∧ A.2 84 i = S1.2 200 19 := by
        rw [tb2, nr3]
        constructor
        · rintro ⟨t, k, t1, t2, t3⟩; exact ⟨t, k, t1, t2, by rw [← st1.s2 (c := 208) (by decide)]; exact t3⟩
        · rintro ⟨t, k, t1, t2, t3⟩; exact ⟨t, k, t1, t2, by rw [st1.s2 (c := 208) (by decide)]; exact t3⟩
      rw [q, if_neg (by decide)] at pre2
      unfold f_X12_readNew_b50 at pre2
      rw [st1.s12, if_pos rfl, tb, bi_s] at pre2
      cases hb : b with
      | true =>
        rw [hb] at tb3 pre2
        obtain ⟨C', S', r1, r2, r3⟩ := st1.bad (x := 3) d2 (by omega) (by omega)
        have r1 : f_X8_refuse 3 C1 = some (false, C') := r1
        have r2 : f_X12_fail 3 (S1.1 200 15) S1 = some S' := r2
        refine ⟨false, C', 0, S', h1, ?_, ?_, Or.inr ⟨rfl, rfl, r3⟩⟩
        · rw [e1, clp, if_pos (by rw [e84]; exact tb3.mp rfl), r1, bi_s]
        · rw [pre2, if_neg (by decide), r2, bv_s]
          unfold f_X12_readNew_b73
          rw [if_neg r3.bd.2.1]
          rfl
      | false =>
        rw [hb] at tb3 pre2
        have no : ¬ ∃ i, i < v 2 + v 3 + v 4 + v 5 ∧ A.2 84 i = S1.2 200 19 := fun y => by have := tb3.mpr y; cases this
        have st2 := ((st1.uc2 (c := 84) (k := v 2 + v 3 + v 4 + v 5) (x := S1.2 200 19)).uc (c := 83) (k := 4) (x := nI (v 2 + v 3 + v 4 + v 5 + 1)) (by decide)).us2 (c := 208) (k := 88 + 6 * s + v (2 + s)) (x := S1.2 200 19) (by decide)
        obtain ⟨C', S', r1, r2, st3⟩ := st2.go hN (by rw [u_ne (by decide)]; show C1.1 82 2 ≠ 0; rw [d2]; decide)
        refine ⟨true, C', v (2 + s), S', h1, ?_, ?_, Or.inl ⟨rfl, rfl, S1.2 200 19, no, st3⟩⟩
        · rw [e1, clp, if_neg (by rw [e84]; exact no), r1, bv_s]
        · rw [pre2, if_pos (by decide)]
          unfold f_X12_readNew_b73 f_X12_fromOf
          have hs6 : 6 * s + v (2 + s) ≤ 21 := by
            obtain rfl | rfl | rfl | rfl : s = 0 ∨ s = 1 ∨ s = 2 ∨ s = 3 := by omega
            all_goals omega
          rw [st1.s12, if_pos (by decide), bi_s, show (6 : Int32) * nI s = nI (6 * s) from n_lmul .., n_ladd, nI_add, ck_n (by omega), bM_e, t_n (by omega), r2, bv_s]
end Q4
