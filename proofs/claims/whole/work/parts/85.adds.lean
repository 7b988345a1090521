section Q6
variable {A Z A' Z' C0 S0 : Mem} {v : Nat → Nat}
def gtV (v : Nat → Nat) (k col row amt ans op quo : Nat) : Nat → Nat := fun i => if i = 2 then k + 1 else if i = 35 + k then quo else if i = 10 then op else if i = 29 + k then ans else if i = 23 + k then amt else if i = 17 + k then row else if i = 11 + k then col else v i
theorem PI.gate {k nc col row amt ans op quo : Nat} {x : Int64} (h : PI C0 S0 A Z v) (hk : v 2 = k) (k6 : k < 6) (hn : v 2 + v 3 + v 4 + v 5 = nc) (w : 1 ≤ v 0 ∧ 1 ≤ v 1) (b : col < v 0 ∧ row < v 1 ∧ amt ≤ 40 ∧ ans ≤ 1 ∧ quo ≤ 99) (bo : op < 2 ^ (k + 1))
    (p0 : ∀ j, j ≠ 6 → j ≠ 7 → A'.1 23 j = A.1 23 j) (p6 : A'.1 23 6 = nI op) (p7 : A'.1 23 7 = nI (k + 1))
    (q0 : ∀ i, i < k * 5 → A'.1 24 i = A.1 24 i) (q1 : A'.1 24 (k * 5) = nI col) (q2 : A'.1 24 (k * 5 + 1) = nI row) (q3 : A'.1 24 (k * 5 + 2) = nI amt) (q4 : A'.1 24 (k * 5 + 3) = nI ans) (q5 : A'.1 24 (k * 5 + 4) = nI quo)
    (r : ∀ g, A'.2 25 g = if g = k then x else A.2 25 g) (o : ∀ j, 3 ≤ j → j < 13 → A'.1 (23 + j) = A.1 (23 + j)) (a1 : A'.1 83 4 = nI (nc + 1)) (a2 : ∀ i, A'.2 84 i = if i = nc then x else A.2 84 i) (a3 : A'.1 85 = A.1 85) (xc : XC C0 A')
    (z0 : ∀ i, i < 435 → Z'.1 205 (1740 + i) = nI (gtV v k col row amt ans op quo i)) (z2 : ∀ j, Z'.2 208 j = if j = 88 + 6 * 0 + k then x else Z.2 208 j) (z3 : Z'.1 200 25 = Z.1 200 25) (xs : XS S0 Z') : PI C0 S0 A' Z' (gtV v k col row amt ans op quo) := by
  obtain ⟨⟨⟨⟨b0, b1, b2, b6, b7, bg⟩, b3, b4, b5, b8, b10, bq, bh, bt, bs, bf, bb⟩, y9, y163, -, yf⟩, ⟨⟨c0, c1, c2, c3, c7, cg⟩, c4, c5, c6, c8, c9, c10, cq, ch, ct, cs, cf, ⟨-, cn, -⟩⟩, -, hg, nr, ⟨t, t1, t2, t3⟩, -, -⟩ := h
  have ne : ∀ i, (i ≠ 2 ∧ i ≠ 10 ∧ i ≠ 11 + k ∧ i ≠ 17 + k ∧ i ≠ 23 + k ∧ i ≠ 29 + k ∧ i ≠ 35 + k) → gtV v k col row amt ans op quo i = v i := fun i hi => by
    unfold gtV
    rw [if_neg hi.1, if_neg hi.2.2.2.2.2.2, if_neg hi.2.1, if_neg hi.2.2.2.2.2.1, if_neg hi.2.2.2.2.1, if_neg hi.2.2.2.1, if_neg hi.2.2.1]
  have dne : ∀ i, (i ≠ 2 ∧ i ≠ 10 ∧ i ≠ 11 + k ∧ i ≠ 17 + k ∧ i ≠ 23 + k ∧ i ≠ 29 + k ∧ i ≠ 35 + k) → dfl (gtV v k col row amt ans op quo) i = dfl v i := fun i hi => by
    unfold dfl
    rw [ne i hi]
  have e2 : gtV v k col row amt ans op quo 2 = k + 1 := if_pos rfl
  have e10 : gtV v k col row amt ans op quo 10 = op := by unfold gtV; rw [if_neg (by omega), if_neg (by omega), if_pos rfl]
  have f1 : gtV v k col row amt ans op quo (11 + k) = col := by unfold gtV; rw [if_neg (by omega), if_neg (by omega), if_neg (by omega), if_neg (by omega), if_neg (by omega), if_neg (by omega), if_pos rfl]
  have f2 : gtV v k col row amt ans op quo (17 + k) = row := by unfold gtV; rw [if_neg (by omega), if_neg (by omega), if_neg (by omega), if_neg (by omega), if_neg (by omega), if_pos rfl]
  have f3 : gtV v k col row amt ans op quo (23 + k) = amt := by unfold gtV; rw [if_neg (by omega), if_neg (by omega), if_neg (by omega), if_neg (by omega), if_pos rfl]
  have f4 : gtV v k col row amt ans op quo (29 + k) = ans := by unfold gtV; rw [if_neg (by omega), if_neg (by omega), if_neg (by omega), if_pos rfl]
  have f5 : gtV v k col row amt ans op quo (35 + k) = quo := by unfold gtV; rw [if_neg (by omega), if_pos rfl]
  have e0 := ne 0 (by omega)
  have e1 := ne 1 (by omega)
  have e3 := ne 3 (by omega)
  have e4 := ne 4 (by omega)
  have e5 := ne 5 (by omega)
  have e6 := ne 6 (by omega)
  have e7 := ne 7 (by omega)
  have e8 := ne 8 (by omega)
  have e9 := ne 9 (by omega)
  have e163 := ne 163 (by omega)
  have d2 : dfl v 2 = k := by rw [dfl_ne (by omega)]; exact hk
  have d3 : dfl v 3 = v 3 := dfl_ne (by omega)
  have d4 : dfl v 4 = v 4 := dfl_ne (by omega)
  have d5 : dfl v 5 = v 5 := dfl_ne (by omega)
  rw [d2] at cg cq
  rw [d3] at ch
  rw [d4] at ct
  rw [d5] at cs
  refine ⟨⟨⟨⟨by omega, by omega, by omega, by omega, by omega, fun g hg => ?_⟩, by omega, by omega, by omega, by omega, by rw [e10, e2]; exact bo, fun g hg => ?_, fun g hg => ?_, fun g hg => ?_, fun g hg => ?_, fun g hg => ?_, fun b h1 h2 => ?_⟩, by omega, by omega, Or.inr (by omega), fun g hg => ?_⟩, ⟨⟨?_, ?_, ?_, ?_, ?_, fun g hg => ?_⟩, ?_, ?_, ?_, ?_, ?_, ?_, fun g hg => ?_, fun g hg => ?_, fun g hg => ?_, fun g hg => ?_, fun g hg => ?_, ?_⟩, z0, fun g hg' => ?_, nr.add (k := k) (nc := nc) (x := x) (s := 0) (by omega) hk hn (by omega) e2 (fun t h1 h2 => ne (2 + t) (by omega)) a1 a2 (fun s hs => ?_) z2, ⟨t, t1, by rw [z3]; exact t2, fun w hw => ?_⟩, xc, xs⟩
  · rw [e0, e1]
    by_cases q : g = k
    · subst q; rw [f1, f2, f3, f4]; exact ⟨b.1, b.2.1, b.2.2.1, b.2.2.2.1⟩
    · rw [ne _ (by omega), ne _ (by omega), ne _ (by omega), ne _ (by omega)]; exact bg g (by omega)
  · by_cases q : g = k
    · subst q; rw [f5]; exact b.2.2.2.2
    · rw [ne _ (by omega)]; exact bq g (by omega)
  · rw [ne _ (by omega)]; exact bh g (by omega)
  · rw [ne _ (by omega), ne _ (by omega), ne _ (by omega), ne _ (by omega), ne _ (by omega), ne _ (by omega), ne _ (by omega), ne _ (by omega)]; exact bt g (by omega)
  · rw [ne _ (by omega), ne _ (by omega), ne _ (by omega), ne _ (by omega), ne _ (by omega), ne _ (by omega), ne _ (by omega)]; exact bs g (by omega)
  · rw [ne _ (by omega)]; exact bf g (by omega)
  · rw [e0, e1] at h1
    rw [ne _ (by omega), ne _ (by omega)]; exact bb b h1 h2
  · rw [ne _ (by omega)]; exact yf g hg
  · rw [p0 0 (by omega) (by omega), dne 0 (by omega)]; exact c0
  · rw [p0 1 (by omega) (by omega), dne 1 (by omega)]; exact c1
  · rw [p0 2 (by omega) (by omega), dne 6 (by omega)]; exact c2
  · rw [p0 3 (by omega) (by omega), dne 7 (by omega)]; exact c3
  · rw [p7, dfl_ne (by omega), e2]
  · rw [dfl_ne (by omega), e2] at hg
    rw [dfl_ne (by omega), dfl_ne (by omega), dfl_ne (by omega), dfl_ne (by omega)]
    by_cases q : g = k
    · subst q; rw [f1, f2, f3, f4]; exact ⟨q1, q2, q3, q4⟩
    · have := cg g (by omega)
      rw [dfl_ne (by omega), dfl_ne (by omega), dfl_ne (by omega), dfl_ne (by omega)] at this
      rw [ne _ (by omega), ne _ (by omega), ne _ (by omega), ne _ (by omega), q0 _ (by omega), q0 _ (by omega), q0 _ (by omega), q0 _ (by omega)]
      exact this
  · rw [p0 4 (by omega) (by omega), dne 8 (by omega)]; exact c4
  · rw [p0 5 (by omega) (by omega), dne 9 (by omega)]; exact c5
  · rw [p6, dfl_ne (by omega), e10]
  · rw [p0 8 (by omega) (by omega), dne 3 (by omega)]; exact c8
  · rw [p0 9 (by omega) (by omega), dne 4 (by omega)]; exact c9
  · rw [p0 10 (by omega) (by omega), dne 5 (by omega)]; exact c10
  · rw [dfl_ne (by omega), e2] at hg
    rw [dfl_ne (by omega)]
    by_cases q : g = k
    · subst q; rw [f5]; exact q5
    · have := cq g (by omega)
      rw [dfl_ne (by omega)] at this
      rw [ne _ (by omega), q0 _ (by omega)]
      exact this
  · rw [dfl_ne (by omega), e3] at hg
    rw [o 3 (by omega) (by omega), dne _ (by omega)]; exact ch g hg
  · rw [dfl_ne (by omega), e4] at hg
    rw [o 4 (by omega) (by omega), dne _ (by omega), dne _ (by omega), dne _ (by omega), dne _ (by omega), dne _ (by omega), dne _ (by omega)]; exact ct g hg
  · rw [dfl_ne (by omega), e5] at hg
    rw [o 5 (by omega) (by omega), dne _ (by omega), dne _ (by omega), dne _ (by omega), dne _ (by omega), dne _ (by omega)]; exact cs g hg
  · rw [o 6 (by omega) (by omega)]
    show _ = nI (dfl _ (103 + g))
    rw [dne _ (by omega)]; exact cf g hg
  · have e : dfl (gtV v k col row amt ans op quo) 163 = 0 := by rw [dfl_ne (by omega), e163, y163]
    refine ⟨by omega, ?_, fun z => by omega⟩
    rw [o 7 (by omega) (by omega), e]
    rw [dfl_ne (by omega), y163] at cn
    exact cn
  · rw [e2] at hg'
    rw [r, z2]
    by_cases q : g = k
    · rw [if_pos q, if_pos (by omega)]
    · rw [if_neg q, if_neg (by omega)]; exact hg g (by omega)
  · have := z0 (2 + s) (by omega)
    rw [show 1740 + (2 + s) = 1742 + s by omega] at this
    exact this
  · rw [a3, ne _ (by omega)]; exact t3 w hw
def hdV (v : Nat → Nat) (k vo : Nat) : Nat → Nat := fun i => if i = 3 then k + 1 else if i = 41 + k then vo else v i
theorem PI.hd {k nc vo : Nat} {x : Int64} (h : PI C0 S0 A Z v) (hk : v 3 = k) (k6 : k < 6) (hn : v 2 + v 3 + v 4 + v 5 = nc) (w : 1 ≤ v 0 ∧ 1 ≤ v 1) (b : vo ≤ 20)
    (p0 : ∀ j, j ≠ 8 → A'.1 23 j = A.1 23 j) (p7 : A'.1 23 8 = nI (k + 1))
    (q0 : ∀ i, i < k → A'.1 26 i = A.1 26 i) (q1 : A'.1 26 (k) = nI vo)
    (r : A'.2 25 = A.2 25) (o : ∀ j, 1 ≤ j → j < 13 → j ≠ 3 → A'.1 (23 + j) = A.1 (23 + j)) (a1 : A'.1 83 4 = nI (nc + 1)) (a2 : ∀ i, A'.2 84 i = if i = nc then x else A.2 84 i) (a3 : A'.1 85 = A.1 85) (xc : XC C0 A')
    (z0 : ∀ i, i < 435 → Z'.1 205 (1740 + i) = nI (hdV v k vo i)) (z2 : ∀ j, Z'.2 208 j = if j = 88 + 6 * 1 + k then x else Z.2 208 j) (z3 : Z'.1 200 25 = Z.1 200 25) (xs : XS S0 Z') : PI C0 S0 A' Z' (hdV v k vo) := by
  obtain ⟨⟨⟨⟨b0, b1, b2, b6, b7, bg⟩, b3, b4, b5, b8, b10, bq, bh, bt, bs, bf, bb⟩, y9, y163, -, yf⟩, ⟨⟨c0, c1, c2, c3, c7, cg⟩, c4, c5, c6, c8, c9, c10, cq, ch, ct, cs, cf, ⟨-, cn, -⟩⟩, -, hg, nr, ⟨t, t1, t2, t3⟩, -, -⟩ := h
  have ne : ∀ i, (i ≠ 3 ∧ i ≠ 41 + k) → hdV v k vo i = v i := fun i hi => by
    unfold hdV
    rw [if_neg hi.1, if_neg hi.2]
  have dne : ∀ i, (i ≠ 3 ∧ i ≠ 41 + k) → dfl (hdV v k vo) i = dfl v i := fun i hi => by
    unfold dfl
    rw [ne i hi]
  have e3 : hdV v k vo 3 = k + 1 := if_pos rfl
  have f1 : hdV v k vo (41 + k) = vo := by unfold hdV; rw [if_neg (by omega), if_pos rfl]
  have e0 := ne 0 (by omega)
  have e1 := ne 1 (by omega)
  have e2 := ne 2 (by omega)
  have e4 := ne 4 (by omega)
  have e5 := ne 5 (by omega)
  have e6 := ne 6 (by omega)
  have e7 := ne 7 (by omega)
  have e8 := ne 8 (by omega)
  have e9 := ne 9 (by omega)
  have e10 := ne 10 (by omega)
  have e163 := ne 163 (by omega)
  have d2 : dfl v 2 = v 2 := dfl_ne (by omega)
  have d3 : dfl v 3 = v 3 := dfl_ne (by omega)
  have d4 : dfl v 4 = v 4 := dfl_ne (by omega)
  have d5 : dfl v 5 = v 5 := dfl_ne (by omega)
  rw [d2] at cg cq
  rw [d3] at ch
  rw [d4] at ct
  rw [d5] at cs
  refine ⟨⟨⟨⟨by omega, by omega, by omega, by omega, by omega, fun g hg => ?_⟩, by omega, by omega, by omega, by omega, by rw [e10, e2]; exact b10, fun g hg => ?_, fun g hg => ?_, fun g hg => ?_, fun g hg => ?_, fun g hg => ?_, fun b h1 h2 => ?_⟩, by omega, by omega, Or.inr (by omega), fun g hg => ?_⟩, ⟨⟨?_, ?_, ?_, ?_, ?_, fun g hg => ?_⟩, ?_, ?_, ?_, ?_, ?_, ?_, fun g hg => ?_, fun g hg => ?_, fun g hg => ?_, fun g hg => ?_, fun g hg => ?_, ?_⟩, z0, fun g hg' => ?_, nr.add (k := k) (nc := nc) (x := x) (s := 1) (by omega) hk hn (by omega) e3 (fun t h1 h2 => ne (2 + t) (by omega)) a1 a2 (fun s hs => ?_) z2, ⟨t, t1, by rw [z3]; exact t2, fun w hw => ?_⟩, xc, xs⟩
  · rw [ne _ (by omega), ne _ (by omega), ne _ (by omega), ne _ (by omega), ne _ (by omega), ne _ (by omega)]; exact bg g (by omega)
  · rw [ne _ (by omega)]; exact bq g (by omega)
  · by_cases q : g = k
    · subst q; rw [f1]; exact b
    · rw [ne _ (by omega)]; exact bh g (by omega)
  · rw [ne _ (by omega), ne _ (by omega), ne _ (by omega), ne _ (by omega), ne _ (by omega), ne _ (by omega), ne _ (by omega), ne _ (by omega)]; exact bt g (by omega)
  · rw [ne _ (by omega), ne _ (by omega), ne _ (by omega), ne _ (by omega), ne _ (by omega), ne _ (by omega), ne _ (by omega)]; exact bs g (by omega)
  · rw [ne _ (by omega)]; exact bf g (by omega)
  · rw [e0, e1] at h1
    rw [ne _ (by omega), ne _ (by omega)]; exact bb b h1 h2
  · rw [ne _ (by omega)]; exact yf g hg
  · rw [p0 0 (by omega), dne 0 (by omega)]; exact c0
  · rw [p0 1 (by omega), dne 1 (by omega)]; exact c1
  · rw [p0 2 (by omega), dne 6 (by omega)]; exact c2
  · rw [p0 3 (by omega), dne 7 (by omega)]; exact c3
  · rw [p0 7 (by omega), dne 2 (by omega)]; exact c7
  · rw [dfl_ne (by omega), e2] at hg
    rw [o 1 (by omega) (by omega) (by omega), dne _ (by omega), dne _ (by omega), dne _ (by omega), dne _ (by omega)]; exact cg g hg
  · rw [p0 4 (by omega), dne 8 (by omega)]; exact c4
  · rw [p0 5 (by omega), dne 9 (by omega)]; exact c5
  · rw [p0 6 (by omega), dne 10 (by omega)]; exact c6
  · rw [p7, dfl_ne (by omega), e3]
  · rw [p0 9 (by omega), dne 4 (by omega)]; exact c9
  · rw [p0 10 (by omega), dne 5 (by omega)]; exact c10
  · rw [dfl_ne (by omega), e2] at hg
    rw [o 1 (by omega) (by omega) (by omega), dne _ (by omega)]; exact cq g hg
  · rw [dfl_ne (by omega), e3] at hg
    rw [dfl_ne (by omega)]
    by_cases q : g = k
    · subst q; rw [f1]; exact q1
    · have := ch g (by omega)
      rw [dfl_ne (by omega)] at this
      rw [ne _ (by omega), q0 _ (by omega)]
      exact this
  · rw [dfl_ne (by omega), e4] at hg
    rw [o 4 (by omega) (by omega) (by omega), dne _ (by omega), dne _ (by omega), dne _ (by omega), dne _ (by omega), dne _ (by omega), dne _ (by omega)]; exact ct g hg
  · rw [dfl_ne (by omega), e5] at hg
    rw [o 5 (by omega) (by omega) (by omega), dne _ (by omega), dne _ (by omega), dne _ (by omega), dne _ (by omega), dne _ (by omega)]; exact cs g hg
  · rw [o 6 (by omega) (by omega) (by omega)]
    show _ = nI (dfl _ (103 + g))
    rw [dne _ (by omega)]; exact cf g hg
  · have e : dfl (hdV v k vo) 163 = 0 := by rw [dfl_ne (by omega), e163, y163]
    refine ⟨by omega, ?_, fun z => by omega⟩
    rw [o 7 (by omega) (by omega) (by omega), e]
    rw [dfl_ne (by omega), y163] at cn
    exact cn
  · rw [e2] at hg'
    rw [r, z2, if_neg (by omega)]; exact hg g hg'
  · have := z0 (2 + s) (by omega)
    rw [show 1740 + (2 + s) = 1742 + s by omega] at this
    exact this
  · rw [a3, ne _ (by omega)]; exact t3 w hw
def tdV (v : Nat → Nat) (k col row fr to pay cl : Nat) : Nat → Nat := fun i => if i = 4 then k + 1 else if i = 77 + k then cl else if i = 71 + k then pay else if i = 65 + k then to else if i = 59 + k then fr else if i = 53 + k then row else if i = 47 + k then col else v i
theorem PI.td {k nc col row fr to pay cl : Nat} {x : Int64} (h : PI C0 S0 A Z v) (hk : v 4 = k) (k6 : k < 6) (hn : v 2 + v 3 + v 4 + v 5 = nc) (w : 1 ≤ v 0 ∧ 1 ≤ v 1) (b : col < v 0 ∧ row < v 1 ∧ fr ≤ 24 ∧ to ≤ 24 ∧ pay ≤ 99 ∧ cl ≤ 1)
    (p0 : ∀ j, j ≠ 9 → A'.1 23 j = A.1 23 j) (p7 : A'.1 23 9 = nI (k + 1))
    (q0 : ∀ i, i < k * 6 → A'.1 27 i = A.1 27 i) (q1 : A'.1 27 (k * 6) = nI col) (q2 : A'.1 27 (k * 6 + 1) = nI row) (q3 : A'.1 27 (k * 6 + 2) = nI fr) (q4 : A'.1 27 (k * 6 + 3) = nI to) (q5 : A'.1 27 (k * 6 + 4) = nI pay) (q6 : A'.1 27 (k * 6 + 5) = nI cl)
    (r : A'.2 25 = A.2 25) (o : ∀ j, 1 ≤ j → j < 13 → j ≠ 4 → A'.1 (23 + j) = A.1 (23 + j)) (a1 : A'.1 83 4 = nI (nc + 1)) (a2 : ∀ i, A'.2 84 i = if i = nc then x else A.2 84 i) (a3 : A'.1 85 = A.1 85) (xc : XC C0 A')
    (z0 : ∀ i, i < 435 → Z'.1 205 (1740 + i) = nI (tdV v k col row fr to pay cl i)) (z2 : ∀ j, Z'.2 208 j = if j = 88 + 6 * 2 + k then x else Z.2 208 j) (z3 : Z'.1 200 25 = Z.1 200 25) (xs : XS S0 Z') : PI C0 S0 A' Z' (tdV v k col row fr to pay cl) := by
  obtain ⟨⟨⟨⟨b0, b1, b2, b6, b7, bg⟩, b3, b4, b5, b8, b10, bq, bh, bt, bs, bf, bb⟩, y9, y163, -, yf⟩, ⟨⟨c0, c1, c2, c3, c7, cg⟩, c4, c5, c6, c8, c9, c10, cq, ch, ct, cs, cf, ⟨-, cn, -⟩⟩, -, hg, nr, ⟨t, t1, t2, t3⟩, -, -⟩ := h
  have ne : ∀ i, (i ≠ 4 ∧ i ≠ 47 + k ∧ i ≠ 53 + k ∧ i ≠ 59 + k ∧ i ≠ 65 + k ∧ i ≠ 71 + k ∧ i ≠ 77 + k) → tdV v k col row fr to pay cl i = v i := fun i hi => by
    unfold tdV
    rw [if_neg hi.1, if_neg hi.2.2.2.2.2.2, if_neg hi.2.2.2.2.2.1, if_neg hi.2.2.2.2.1, if_neg hi.2.2.2.1, if_neg hi.2.2.1, if_neg hi.2.1]
  have dne : ∀ i, (i ≠ 4 ∧ i ≠ 47 + k ∧ i ≠ 53 + k ∧ i ≠ 59 + k ∧ i ≠ 65 + k ∧ i ≠ 71 + k ∧ i ≠ 77 + k) → dfl (tdV v k col row fr to pay cl) i = dfl v i := fun i hi => by
    unfold dfl
    rw [ne i hi]
  have e4 : tdV v k col row fr to pay cl 4 = k + 1 := if_pos rfl
  have f1 : tdV v k col row fr to pay cl (47 + k) = col := by unfold tdV; rw [if_neg (by omega), if_neg (by omega), if_neg (by omega), if_neg (by omega), if_neg (by omega), if_neg (by omega), if_pos rfl]
  have f2 : tdV v k col row fr to pay cl (53 + k) = row := by unfold tdV; rw [if_neg (by omega), if_neg (by omega), if_neg (by omega), if_neg (by omega), if_neg (by omega), if_pos rfl]
  have f3 : tdV v k col row fr to pay cl (59 + k) = fr := by unfold tdV; rw [if_neg (by omega), if_neg (by omega), if_neg (by omega), if_neg (by omega), if_pos rfl]
  have f4 : tdV v k col row fr to pay cl (65 + k) = to := by unfold tdV; rw [if_neg (by omega), if_neg (by omega), if_neg (by omega), if_pos rfl]
  have f5 : tdV v k col row fr to pay cl (71 + k) = pay := by unfold tdV; rw [if_neg (by omega), if_neg (by omega), if_pos rfl]
  have f6 : tdV v k col row fr to pay cl (77 + k) = cl := by unfold tdV; rw [if_neg (by omega), if_pos rfl]
  have e0 := ne 0 (by omega)
  have e1 := ne 1 (by omega)
  have e2 := ne 2 (by omega)
  have e3 := ne 3 (by omega)
  have e5 := ne 5 (by omega)
  have e6 := ne 6 (by omega)
  have e7 := ne 7 (by omega)
  have e8 := ne 8 (by omega)
  have e9 := ne 9 (by omega)
  have e10 := ne 10 (by omega)
  have e163 := ne 163 (by omega)
  have d2 : dfl v 2 = v 2 := dfl_ne (by omega)
  have d3 : dfl v 3 = v 3 := dfl_ne (by omega)
  have d4 : dfl v 4 = v 4 := dfl_ne (by omega)
  have d5 : dfl v 5 = v 5 := dfl_ne (by omega)
  rw [d2] at cg cq
  rw [d3] at ch
  rw [d4] at ct
  rw [d5] at cs
  refine ⟨⟨⟨⟨by omega, by omega, by omega, by omega, by omega, fun g hg => ?_⟩, by omega, by omega, by omega, by omega, by rw [e10, e2]; exact b10, fun g hg => ?_, fun g hg => ?_, fun g hg => ?_, fun g hg => ?_, fun g hg => ?_, fun b h1 h2 => ?_⟩, by omega, by omega, Or.inr (by omega), fun g hg => ?_⟩, ⟨⟨?_, ?_, ?_, ?_, ?_, fun g hg => ?_⟩, ?_, ?_, ?_, ?_, ?_, ?_, fun g hg => ?_, fun g hg => ?_, fun g hg => ?_, fun g hg => ?_, fun g hg => ?_, ?_⟩, z0, fun g hg' => ?_, nr.add (k := k) (nc := nc) (x := x) (s := 2) (by omega) hk hn (by omega) e4 (fun t h1 h2 => ne (2 + t) (by omega)) a1 a2 (fun s hs => ?_) z2, ⟨t, t1, by rw [z3]; exact t2, fun w hw => ?_⟩, xc, xs⟩
  · rw [ne _ (by omega), ne _ (by omega), ne _ (by omega), ne _ (by omega), ne _ (by omega), ne _ (by omega)]; exact bg g (by omega)
  · rw [ne _ (by omega)]; exact bq g (by omega)
  · rw [ne _ (by omega)]; exact bh g (by omega)
  · by_cases q : g = k
    · subst q; rw [f1, f2, f3, f4, f5, f6, e0, e1]; exact b
    · rw [ne _ (by omega), ne _ (by omega), ne _ (by omega), ne _ (by omega), ne _ (by omega), ne _ (by omega), ne _ (by omega), ne _ (by omega)]; exact bt g (by omega)
  · rw [ne _ (by omega), ne _ (by omega), ne _ (by omega), ne _ (by omega), ne _ (by omega), ne _ (by omega), ne _ (by omega)]; exact bs g (by omega)
  · rw [ne _ (by omega)]; exact bf g (by omega)
  · rw [e0, e1] at h1
    rw [ne _ (by omega), ne _ (by omega)]; exact bb b h1 h2
  · rw [ne _ (by omega)]; exact yf g hg
  · rw [p0 0 (by omega), dne 0 (by omega)]; exact c0
  · rw [p0 1 (by omega), dne 1 (by omega)]; exact c1
  · rw [p0 2 (by omega), dne 6 (by omega)]; exact c2
  · rw [p0 3 (by omega), dne 7 (by omega)]; exact c3
  · rw [p0 7 (by omega), dne 2 (by omega)]; exact c7
  · rw [dfl_ne (by omega), e2] at hg
    rw [o 1 (by omega) (by omega) (by omega), dne _ (by omega), dne _ (by omega), dne _ (by omega), dne _ (by omega)]; exact cg g hg
  · rw [p0 4 (by omega), dne 8 (by omega)]; exact c4
  · rw [p0 5 (by omega), dne 9 (by omega)]; exact c5
  · rw [p0 6 (by omega), dne 10 (by omega)]; exact c6
  · rw [p0 8 (by omega), dne 3 (by omega)]; exact c8
  · rw [p7, dfl_ne (by omega), e4]
  · rw [p0 10 (by omega), dne 5 (by omega)]; exact c10
  · rw [dfl_ne (by omega), e2] at hg
    rw [o 1 (by omega) (by omega) (by omega), dne _ (by omega)]; exact cq g hg
  · rw [dfl_ne (by omega), e3] at hg
    rw [o 3 (by omega) (by omega) (by omega), dne _ (by omega)]; exact ch g hg
  · rw [dfl_ne (by omega), e4] at hg
    rw [dfl_ne (by omega), dfl_ne (by omega), dfl_ne (by omega), dfl_ne (by omega), dfl_ne (by omega), dfl_ne (by omega)]
    by_cases q : g = k
    · subst q; rw [f1, f2, f3, f4, f5, f6]; exact ⟨q1, q2, q3, q4, q5, q6⟩
    · have := ct g (by omega)
      rw [dfl_ne (by omega), dfl_ne (by omega), dfl_ne (by omega), dfl_ne (by omega), dfl_ne (by omega), dfl_ne (by omega)] at this
      rw [ne _ (by omega), ne _ (by omega), ne _ (by omega), ne _ (by omega), ne _ (by omega), ne _ (by omega), q0 _ (by omega), q0 _ (by omega), q0 _ (by omega), q0 _ (by omega), q0 _ (by omega), q0 _ (by omega)]
      exact this
  · rw [dfl_ne (by omega), e5] at hg
    rw [o 5 (by omega) (by omega) (by omega), dne _ (by omega), dne _ (by omega), dne _ (by omega), dne _ (by omega), dne _ (by omega)]; exact cs g hg
  · rw [o 6 (by omega) (by omega) (by omega)]
    show _ = nI (dfl _ (103 + g))
    rw [dne _ (by omega)]; exact cf g hg
  · have e : dfl (tdV v k col row fr to pay cl) 163 = 0 := by rw [dfl_ne (by omega), e163, y163]
    refine ⟨by omega, ?_, fun z => by omega⟩
    rw [o 7 (by omega) (by omega) (by omega), e]
    rw [dfl_ne (by omega), y163] at cn
    exact cn
  · rw [e2] at hg'
    rw [r, z2, if_neg (by omega)]; exact hg g hg'
  · have := z0 (2 + s) (by omega)
    rw [show 1740 + (2 + s) = 1742 + s by omega] at this
    exact this
  · rw [a3, ne _ (by omega)]; exact t3 w hw
def spV (v : Nat → Nat) (k x1 y1 x2 y2 dk : Nat) : Nat → Nat := fun i => if i = 5 then k + 1 else if i = 99 + k then dk else if i = 95 + k then y2 else if i = 91 + k then x2 else if i = 87 + k then y1 else if i = 83 + k then x1 else v i
theorem PI.sp {k nc x1 y1 x2 y2 dk : Nat} {x : Int64} (h : PI C0 S0 A Z v) (hk : v 5 = k) (k6 : k < 4) (hn : v 2 + v 3 + v 4 + v 5 = nc) (w : 1 ≤ v 0 ∧ 1 ≤ v 1) (b : x1 < v 0 ∧ y1 < v 1 ∧ x2 < v 0 ∧ y2 < v 1 ∧ dk ≤ 1)
    (p0 : ∀ j, j ≠ 10 → A'.1 23 j = A.1 23 j) (p7 : A'.1 23 10 = nI (k + 1))
    (q0 : ∀ i, i < k * 5 → A'.1 28 i = A.1 28 i) (q1 : A'.1 28 (k * 5) = nI x1) (q2 : A'.1 28 (k * 5 + 1) = nI y1) (q3 : A'.1 28 (k * 5 + 2) = nI x2) (q4 : A'.1 28 (k * 5 + 3) = nI y2) (q5 : A'.1 28 (k * 5 + 4) = nI dk)
    (r : A'.2 25 = A.2 25) (o : ∀ j, 1 ≤ j → j < 13 → j ≠ 5 → A'.1 (23 + j) = A.1 (23 + j)) (a1 : A'.1 83 4 = nI (nc + 1)) (a2 : ∀ i, A'.2 84 i = if i = nc then x else A.2 84 i) (a3 : A'.1 85 = A.1 85) (xc : XC C0 A')
    (z0 : ∀ i, i < 435 → Z'.1 205 (1740 + i) = nI (spV v k x1 y1 x2 y2 dk i)) (z2 : ∀ j, Z'.2 208 j = if j = 88 + 6 * 3 + k then x else Z.2 208 j) (z3 : Z'.1 200 25 = Z.1 200 25) (xs : XS S0 Z') : PI C0 S0 A' Z' (spV v k x1 y1 x2 y2 dk) := by
  obtain ⟨⟨⟨⟨b0, b1, b2, b6, b7, bg⟩, b3, b4, b5, b8, b10, bq, bh, bt, bs, bf, bb⟩, y9, y163, -, yf⟩, ⟨⟨c0, c1, c2, c3, c7, cg⟩, c4, c5, c6, c8, c9, c10, cq, ch, ct, cs, cf, ⟨-, cn, -⟩⟩, -, hg, nr, ⟨t, t1, t2, t3⟩, -, -⟩ := h
  have ne : ∀ i, (i ≠ 5 ∧ i ≠ 83 + k ∧ i ≠ 87 + k ∧ i ≠ 91 + k ∧ i ≠ 95 + k ∧ i ≠ 99 + k) → spV v k x1 y1 x2 y2 dk i = v i := fun i hi => by
    unfold spV
    rw [if_neg hi.1, if_neg hi.2.2.2.2.2, if_neg hi.2.2.2.2.1, if_neg hi.2.2.2.1, if_neg hi.2.2.1, if_neg hi.2.1]
  have dne : ∀ i, (i ≠ 5 ∧ i ≠ 83 + k ∧ i ≠ 87 + k ∧ i ≠ 91 + k ∧ i ≠ 95 + k ∧ i ≠ 99 + k) → dfl (spV v k x1 y1 x2 y2 dk) i = dfl v i := fun i hi => by
    unfold dfl
    rw [ne i hi]
  have e5 : spV v k x1 y1 x2 y2 dk 5 = k + 1 := if_pos rfl
  have f1 : spV v k x1 y1 x2 y2 dk (83 + k) = x1 := by unfold spV; rw [if_neg (by omega), if_neg (by omega), if_neg (by omega), if_neg (by omega), if_neg (by omega), if_pos rfl]
  have f2 : spV v k x1 y1 x2 y2 dk (87 + k) = y1 := by unfold spV; rw [if_neg (by omega), if_neg (by omega), if_neg (by omega), if_neg (by omega), if_pos rfl]
  have f3 : spV v k x1 y1 x2 y2 dk (91 + k) = x2 := by unfold spV; rw [if_neg (by omega), if_neg (by omega), if_neg (by omega), if_pos rfl]
  have f4 : spV v k x1 y1 x2 y2 dk (95 + k) = y2 := by unfold spV; rw [if_neg (by omega), if_neg (by omega), if_pos rfl]
  have f5 : spV v k x1 y1 x2 y2 dk (99 + k) = dk := by unfold spV; rw [if_neg (by omega), if_pos rfl]
  have e0 := ne 0 (by omega)
  have e1 := ne 1 (by omega)
  have e2 := ne 2 (by omega)
  have e3 := ne 3 (by omega)
  have e4 := ne 4 (by omega)
  have e6 := ne 6 (by omega)
  have e7 := ne 7 (by omega)
  have e8 := ne 8 (by omega)
  have e9 := ne 9 (by omega)
  have e10 := ne 10 (by omega)
  have e163 := ne 163 (by omega)
  have d2 : dfl v 2 = v 2 := dfl_ne (by omega)
  have d3 : dfl v 3 = v 3 := dfl_ne (by omega)
  have d4 : dfl v 4 = v 4 := dfl_ne (by omega)
  have d5 : dfl v 5 = v 5 := dfl_ne (by omega)
  rw [d2] at cg cq
  rw [d3] at ch
  rw [d4] at ct
  rw [d5] at cs
  refine ⟨⟨⟨⟨by omega, by omega, by omega, by omega, by omega, fun g hg => ?_⟩, by omega, by omega, by omega, by omega, by rw [e10, e2]; exact b10, fun g hg => ?_, fun g hg => ?_, fun g hg => ?_, fun g hg => ?_, fun g hg => ?_, fun b h1 h2 => ?_⟩, by omega, by omega, Or.inr (by omega), fun g hg => ?_⟩, ⟨⟨?_, ?_, ?_, ?_, ?_, fun g hg => ?_⟩, ?_, ?_, ?_, ?_, ?_, ?_, fun g hg => ?_, fun g hg => ?_, fun g hg => ?_, fun g hg => ?_, fun g hg => ?_, ?_⟩, z0, fun g hg' => ?_, nr.add (k := k) (nc := nc) (x := x) (s := 3) (by omega) hk hn (by omega) e5 (fun t h1 h2 => ne (2 + t) (by omega)) a1 a2 (fun s hs => ?_) z2, ⟨t, t1, by rw [z3]; exact t2, fun w hw => ?_⟩, xc, xs⟩
  · rw [ne _ (by omega), ne _ (by omega), ne _ (by omega), ne _ (by omega), ne _ (by omega), ne _ (by omega)]; exact bg g (by omega)
  · rw [ne _ (by omega)]; exact bq g (by omega)
  · rw [ne _ (by omega)]; exact bh g (by omega)
  · rw [ne _ (by omega), ne _ (by omega), ne _ (by omega), ne _ (by omega), ne _ (by omega), ne _ (by omega), ne _ (by omega), ne _ (by omega)]; exact bt g (by omega)
  · by_cases q : g = k
    · subst q; rw [f1, f2, f3, f4, f5, e0, e1]; exact b
    · rw [ne _ (by omega), ne _ (by omega), ne _ (by omega), ne _ (by omega), ne _ (by omega), ne _ (by omega), ne _ (by omega)]; exact bs g (by omega)
  · rw [ne _ (by omega)]; exact bf g (by omega)
  · rw [e0, e1] at h1
    rw [ne _ (by omega), ne _ (by omega)]; exact bb b h1 h2
  · rw [ne _ (by omega)]; exact yf g hg
  · rw [p0 0 (by omega), dne 0 (by omega)]; exact c0
  · rw [p0 1 (by omega), dne 1 (by omega)]; exact c1
  · rw [p0 2 (by omega), dne 6 (by omega)]; exact c2
  · rw [p0 3 (by omega), dne 7 (by omega)]; exact c3
  · rw [p0 7 (by omega), dne 2 (by omega)]; exact c7
  · rw [dfl_ne (by omega), e2] at hg
    rw [o 1 (by omega) (by omega) (by omega), dne _ (by omega), dne _ (by omega), dne _ (by omega), dne _ (by omega)]; exact cg g hg
  · rw [p0 4 (by omega), dne 8 (by omega)]; exact c4
  · rw [p0 5 (by omega), dne 9 (by omega)]; exact c5
  · rw [p0 6 (by omega), dne 10 (by omega)]; exact c6
  · rw [p0 8 (by omega), dne 3 (by omega)]; exact c8
  · rw [p0 9 (by omega), dne 4 (by omega)]; exact c9
  · rw [p7, dfl_ne (by omega), e5]
  · rw [dfl_ne (by omega), e2] at hg
    rw [o 1 (by omega) (by omega) (by omega), dne _ (by omega)]; exact cq g hg
  · rw [dfl_ne (by omega), e3] at hg
    rw [o 3 (by omega) (by omega) (by omega), dne _ (by omega)]; exact ch g hg
  · rw [dfl_ne (by omega), e4] at hg
    rw [o 4 (by omega) (by omega) (by omega), dne _ (by omega), dne _ (by omega), dne _ (by omega), dne _ (by omega), dne _ (by omega), dne _ (by omega)]; exact ct g hg
  · rw [dfl_ne (by omega), e5] at hg
    rw [dfl_ne (by omega), dfl_ne (by omega), dfl_ne (by omega), dfl_ne (by omega), dfl_ne (by omega)]
    by_cases q : g = k
    · subst q; rw [f1, f2, f3, f4, f5]; exact ⟨q1, q2, q3, q4, q5⟩
    · have := cs g (by omega)
      rw [dfl_ne (by omega), dfl_ne (by omega), dfl_ne (by omega), dfl_ne (by omega), dfl_ne (by omega)] at this
      rw [ne _ (by omega), ne _ (by omega), ne _ (by omega), ne _ (by omega), ne _ (by omega), q0 _ (by omega), q0 _ (by omega), q0 _ (by omega), q0 _ (by omega), q0 _ (by omega)]
      exact this
  · rw [o 6 (by omega) (by omega) (by omega)]
    show _ = nI (dfl _ (103 + g))
    rw [dne _ (by omega)]; exact cf g hg
  · have e : dfl (spV v k x1 y1 x2 y2 dk) 163 = 0 := by rw [dfl_ne (by omega), e163, y163]
    refine ⟨by omega, ?_, fun z => by omega⟩
    rw [o 7 (by omega) (by omega) (by omega), e]
    rw [dfl_ne (by omega), y163] at cn
    exact cn
  · rw [e2] at hg'
    rw [r, z2, if_neg (by omega)]; exact hg g hg'
  · have := z0 (2 + s) (by omega)
    rw [show 1740 + (2 + s) = 1742 + s by omega] at this
    exact this
  · rw [a3, ne _ (by omega)]; exact t3 w hw
end Q6
