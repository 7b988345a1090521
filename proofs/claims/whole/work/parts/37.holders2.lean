theorem n_bit0 {a j : Nat} (h : a < 2147483648 ∧ j < 32) : ((nI a >>> (nI j &&& 31)) &&& 1 = 0) = (a.testBit j = false) := by
  rw [n_shr h, n_and1, show (0 : Int32) = nI 0 from rfl, n_eq (by omega)]
  rw [Nat.testBit_eq_decide_div_mod_eq, Nat.shiftRight_eq_div_pow]
  simp
theorem t_n {j : Nat} (h : j < 2147483648) : tn (nI j) = j := nI_clamp h
def fac : Nat → Nat
  | 0 => 1
  | n + 1 => (n + 1) * fac n
theorem fac_le : ∀ n, n < 7 → fac n ≤ 720 ∧ 0 < fac n := by decide
theorem sta_fac : ∀ n, n < 7 → sta 3 n = nI (fac n) := by decide
theorem pop_less : ∀ w, w < 7 → ∀ h, h < w → ∀ a, a < 2 ^ w → (a.testBit h = false → pop a + 1 ≤ w) := by decide +kernel
section C7
variable {N : Nat} {C S : Mem} {v : Nat → Nat}
def few (v : Nat → Nat) (g : Nat) : Nat → Nat
  | 0 => 2 ^ v 3 - 1
  | n + 1 => if canv v g n = true ∧ pop n < pop (few v g n) then n else few v g n
theorem few_lt (g : Nat) : ∀ n, n ≤ 2 ^ v 3 → few v g n < 2 ^ v 3
  | 0, _ => by have := pow_ge1 (v 3); rw [few]; omega
  | n + 1, h => by
    rw [few]
    split
    · omega
    · exact few_lt g n (by omega)
theorem c_few {g : Nat} (hN : 200 < N) (hv : VV v) (hC : PC C 10 v) (hg : g < v 2) : f_X5_smallestSet N 10 (nI g) C = some (nI (few v g (2 ^ v 3)), C) := by
  have v2 := hv.1.2.2.1
  have p64 := pow_le64 hv.2.1
  have p1 := pow_ge1 (v 3)
  apply Ho_e
  unfold f_X5_smallestSet
  rw [c_allh hv hC, bi_s]
  refine Ho_lp (fun i x M' => x = (nI g, nI (few v g i), nI i) ∧ M' = C) (2 ^ v 3) (by omega) ⟨rfl, rfl⟩ ?_
  rintro i hi k hk _ _ ⟨rfl, rfl⟩
  unfold f_X5_smallestSet_h7 f_X5_smallestSet_b37
  rw [c_allh hv hC, bi_s]
  dsimp only
  by_cases q : 2 ^ v 3 - 1 < i
  · have e : i = 2 ^ v 3 := by omega
    simp (disch := omega) only [n_lt, if_pos q]
    rw [Ho_some, e]
  · have hf := few_lt (v := v) g i hi
    have p := pop_le i
    have p' := pop_le (few v g i)
    simp (disch := omega) only [n_tn, n_tl, n_t0, n_lt, n_le, n_eq, n_ltl, n_lel, n_eql, n_llt, n_lle, n_leq, n_m1l, n_m1r, n_addl, n_ladd, nI_add, n_mul, n_mull, n_lmul, n_sub, n_subl, n_div, n_divl, n_modd, true_and, and_true, bi_s, bv_s, bM_e, bI_e, bL_e, ck_n, ck_l, ck_0, if_neg q, c_can (show 100 < N by omega) hv hC hg (show i < 64 by omega), c_bits, b2i_0]
    by_cases c : canv v g i = true
    · rw [if_neg (by rw [c]; decide)]
      by_cases d : pop (few v g i) ≤ pop i
      · rw [if_pos d]
        refine hk (by omega) _ _ ⟨?_, rfl⟩
        rw [few, if_neg (by omega)]
      · rw [if_neg d]
        refine hk (by omega) _ _ ⟨?_, rfl⟩
        rw [few, if_pos ⟨c, by omega⟩]
    · rw [if_pos (by simpa using c)]
      refine hk (by omega) _ _ ⟨?_, rfl⟩
      rw [few, if_neg (fun z => c z.1)]
theorem m_few {g : Nat} (hN : 200 < N) (hv : VV v) (hA : Ar S 205 435 v) (hg : g < v 2) : f_X12_fewOf N (nI g) S = some (nI (few v g (2 ^ v 3)), S) := by
  have v2 := hv.1.2.2.1
  have p64 := pow_le64 hv.2.1
  have p1 := pow_ge1 (v 3)
  apply Ho_e
  unfold f_X12_fewOf
  rw [m_allh hv hA, bi_s]
  refine Ho_lp (fun i x M' => x = (nI g, nI (few v g i), nI i) ∧ M' = S) (2 ^ v 3) (by omega) ⟨rfl, rfl⟩ ?_
  rintro i hi k hk _ _ ⟨rfl, rfl⟩
  unfold f_X12_fewOf_h7 f_X12_fewOf_b37
  rw [m_allh hv hA, bi_s]
  dsimp only
  by_cases q : 2 ^ v 3 - 1 < i
  · have e : i = 2 ^ v 3 := by omega
    simp (disch := omega) only [n_lt, if_pos q]
    rw [Ho_some, e]
  · have hf := few_lt (v := v) g i hi
    have p := pop_le i
    have p' := pop_le (few v g i)
    simp (disch := omega) only [n_tn, n_tl, n_t0, n_lt, n_le, n_eq, n_ltl, n_lel, n_eql, n_llt, n_lle, n_leq, n_m1l, n_m1r, n_addl, n_ladd, nI_add, n_mul, n_mull, n_lmul, n_sub, n_subl, n_div, n_divl, n_modd, true_and, and_true, bi_s, bv_s, bM_e, bI_e, bL_e, ck_n, ck_l, ck_0, if_neg q, m_can (show 100 < N by omega) hv hA hg (show i < 64 by omega), m_size, b2i_0]
    by_cases c : canv v g i = true
    · rw [if_neg (by rw [c]; decide)]
      by_cases d : pop (few v g i) ≤ pop i
      · rw [if_pos d]
        refine hk (by omega) _ _ ⟨?_, rfl⟩
        rw [few, if_neg (by omega)]
      · rw [if_neg d]
        refine hk (by omega) _ _ ⟨?_, rfl⟩
        rw [few, if_pos ⟨c, by omega⟩]
    · rw [if_pos (by simpa using c)]
      refine hk (by omega) _ _ ⟨?_, rfl⟩
      rw [few, if_neg (fun z => c z.1)]
/-- a call that asks whether all can: refused, or goes on -/
theorem e_fewest (hN : 200 < N) (h : Rel C S) (x : Int32) : Same (f_X11_fewest N x C) (f_X12_fewest N x S) := by
  unfold f_X11_fewest f_X12_fewest f_X11_refused f_X11_answered
  simp only [bM_e]
  have hR1 : Re C (uI S 200 1 0) := h.re.s0 1 n_okM.2 0
  generalize uI S 200 1 0 = S at *
  obtain ⟨v, hv, h9, hC, hA, hn⟩ := hR1.get
  have p64 := pow_le64 hv.2.1
  obtain ⟨r, e1, e2, hr⟩ := vote_is hN hv hC hA x
  simp only [e1, e2, bi_s, u_at]
  rcases hr with ⟨rfl, g, hg, rfl⟩ | rfl | rfl
  · have hR := hR1.s0 0 n_okM.1 0
    have hs := u_at S 200 0 0
    have hA' : Ar (uI S 200 0 0) 205 435 v := hA.oth (by decide)
    generalize uI S 200 0 0 = S at *
    have hf := few_lt (v := v) g (2 ^ v 3) (Nat.le_refl _)
    rw [if_pos rfl, if_pos (by decide), c_few hN hv hC hg, m_few hN hv hA' hg, bi_s, bi_s, c_bits C _ (by omega), m_size (by omega) (by omega), bi_s, bi_s]
    exact Same.mk (cl_ok hR hs)
  · rw [if_neg (by decide), if_neg (by decide)]
    exact Same.mk (cl_ref hR1 _)
  · rw [if_neg (by decide), if_neg (by decide)]
    exact Same.mk (cl_ref hR1 _)
theorem e_fewestSet (hN : 200 < N) (h : Rel C S) (x : Int32) : Same (f_X11_fewestSet N x C) (f_X12_fewestSet N x S) := by
  unfold f_X11_fewestSet f_X12_fewestSet f_X11_refused f_X11_answered
  simp only [bM_e]
  have hR1 : Re C (uI S 200 1 0) := h.re.s0 1 n_okM.2 0
  generalize uI S 200 1 0 = S at *
  obtain ⟨v, hv, h9, hC, hA, hn⟩ := hR1.get
  obtain ⟨r, e1, e2, hr⟩ := vote_is hN hv hC hA x
  simp only [e1, e2, bi_s, u_at]
  rcases hr with ⟨rfl, g, hg, rfl⟩ | rfl | rfl
  · have hR := hR1.s0 0 n_okM.1 0
    have hs := u_at S 200 0 0
    have hA' : Ar (uI S 200 0 0) 205 435 v := hA.oth (by decide)
    generalize uI S 200 0 0 = S at *
    rw [if_pos rfl, if_pos (by decide), c_few hN hv hC hg, m_few hN hv hA' hg, bi_s, bi_s]
    exact Same.mk (cl_ok hR hs)
  · rw [if_neg (by decide), if_neg (by decide)]
    exact Same.mk (cl_ref hR1 _)
  · rw [if_neg (by decide), if_neg (by decide)]
    exact Same.mk (cl_ref hR1 _)
theorem and_not_lt {a g w : Nat} (h : a < 2 ^ w) : (if a.testBit g then a ^^^ 2 ^ g else a) < 2 ^ w := by
  split
  · rename_i t
    have : g < w := by
      rcases Nat.lt_or_ge g w with q | q
      · exact q
      · rw [Nat.testBit_lt_two_pow (Nat.lt_of_lt_of_le h (Nat.pow_le_pow_right (by decide) q))] at t
        cases t
    exact Nat.xor_lt_two_pow h (Nat.pow_lt_pow_right (by decide) this)
  · exact h
theorem e_veto (hN : 200 < N) (h : Rel C S) (x : Int32) : Same (f_X11_veto N x C) (f_X12_veto N x S) := by
  unfold f_X11_veto f_X12_veto f_X11_refused f_X11_answered f_X5_neededHolders
  simp only [bM_e]
  have hR1 : Re C (uI S 200 1 0) := h.re.s0 1 n_okM.2 0
  generalize uI S 200 1 0 = S at *
  obtain ⟨v, hv, h9, hC, hA, hn⟩ := hR1.get
  have p64 := pow_le64 hv.2.1
  have p1 := pow_ge1 (v 3)
  obtain ⟨r, e1, e2, hr⟩ := vote_is hN hv hC hA x
  simp only [e1, e2, bi_s, u_at]
  rcases hr with ⟨rfl, g, hg, rfl⟩ | rfl | rfl
  · have hR := hR1.s0 0 n_okM.1 0
    have hs := u_at S 200 0 0
    have hA' : Ar (uI S 200 0 0) 205 435 v := hA.oth (by decide)
    generalize uI S 200 0 0 = S at *
    rw [if_pos rfl, if_pos (by decide)]
    have key : ∃ r, lp (fun k a m => f_X5_neededHolders_h4 N 10 k a.1 a.2.1 a.2.2 m) N (nI g, 0, 0) C = some (r, C) ∧ lp (fun k a m => f_X12_veto_h27 N k a.1 a.2.1 a.2.2 m) N (nI g, 0, 0) S = some (r, S) := by
      refine lq2 (R := fun o o' => ∃ r : Int32, o = some (r, C) ∧ o' = some (r, S)) (fun i x M x' M' => ∃ y, x = (nI g, y, nI i) ∧ x' = (nI g, y, nI i) ∧ M = C ∧ M' = S) (v 3) (by have := hv.2.1; omega) (by have := hv.2.1; omega) ⟨0, rfl, rfl, rfl, rfl⟩ ?_
      rintro i hi k k' hk _ _ _ _ ⟨y, rfl, rfl, rfl, rfl⟩
      have v3 := hv.2.1
      unfold f_X5_neededHolders_h4 f_X12_veto_h27 f_X5_neededHolders_b36 f_X12_veto_b63
      have c8 := hC.2.2.2.2.1
      have a3 := hA' 3 (by omega)
      by_cases q : v 3 ≤ i
      · simp (disch := omega) only [n_tn, n_tl, n_t0, n_lt, n_le, n_eq, n_ltl, n_lel, n_eql, n_llt, n_lle, n_leq, n_m1l, n_m1r, n_addl, n_ladd, nI_add, n_mul, n_mull, n_lmul, n_sub, n_subl, n_div, n_divl, n_modd, true_and, and_true, bi_s, bv_s, bM_e, bI_e, bL_e, ck_n, ck_l, ck_0, c8, a3, if_pos q]
        exact ⟨_, rfl, rfl⟩
      · have hl := and_not_lt (a := 2 ^ v 3 - 1) (g := i) (w := v 3) (by omega)
        have han := n_andnot (a := 2 ^ v 3 - 1) (g := i) (by omega)
        generalize (if (2 ^ v 3 - 1).testBit i then (2 ^ v 3 - 1) ^^^ 2 ^ i else 2 ^ v 3 - 1) = w at hl han
        simp (disch := omega) only [n_tn, n_tl, n_t0, n_lt, n_le, n_eq, n_ltl, n_lel, n_eql, n_llt, n_lle, n_leq, n_m1l, n_m1r, n_addl, n_ladd, nI_add, n_mul, n_mull, n_lmul, n_sub, n_subl, n_div, n_divl, n_modd, true_and, and_true, bi_s, bv_s, bM_e, bI_e, bL_e, ck_n, ck_l, ck_0, c8, a3, if_neg q, c_allh hv hC, m_allh hv hA', n_shl1, han, c_can (show 100 < N by omega) hv hC hg (show w < 64 by omega), m_can (show 100 < N by omega) hv hA' hg (show w < 64 by omega), b2i_0]
        split
        · exact hk (by omega) _ _ _ _ ⟨_, rfl, rfl, rfl, rfl⟩
        · exact hk (by omega) _ _ _ _ ⟨y, rfl, by rw [Int32.or_zero], rfl, rfl⟩
    obtain ⟨r, k1, k2⟩ := key
    rw [k1, k2, bi_s]
    exact Same.mk (cl_ok hR hs)
  · rw [if_neg (by decide), if_neg (by decide)]
    exact Same.mk (cl_ref hR1 _)
  · rw [if_neg (by decide), if_neg (by decide)]
    exact Same.mk (cl_ref hR1 _)
/-! orders -/
def ordv (v : Nat → Nat) (g h : Nat) : Nat → Nat
  | 0 => 0
  | n + 1 => ordv v g h n + (if n.testBit h = false ∧ canv v g n = false ∧ canv v g (n ||| 2 ^ h) = true then fac (pop n) * fac (v 3 - 1 - pop n) else 0)
theorem ordv_le (hv : VV v) (g h : Nat) : ∀ n, ordv v g h n ≤ 518400 * n
  | 0 => Nat.le_refl _
  | n + 1 => by
    have ih := ordv_le hv g h n
    have v3 := hv.2.1
    have a := (fac_le (pop n) (by have := pop_le n; omega)).1
    have b := (fac_le (v 3 - 1 - pop n) (by omega)).1
    have c : fac (pop n) * fac (v 3 - 1 - pop n) ≤ 720 * 720 := Nat.mul_le_mul a b
    rw [ordv]
    split <;> omega
theorem m_fac {n : Nat} (hN : 100 < N) (hn : n < 7) (M : Mem) : f_X12_factorial N (nI n) M = some (lN (fac n), M) := by
  apply Ho_e
  unfold f_X12_factorial
  refine Ho_lp (fun i x M' => x = (nI n, lN (fac (i + 1)), nI (i + 2)) ∧ M' = M) (n - 1) (by omega) ⟨rfl, rfl⟩ ?_
  rintro i hi k hk _ _ ⟨rfl, rfl⟩
  unfold f_X12_factorial_h4
  dsimp only
  by_cases q : n < i + 2
  · simp (disch := omega) only [n_lt, if_pos q]
    rw [Ho_some]
    have : n = i + 1 ∨ (n = 0 ∧ i = 0) := by omega
    rcases this with rfl | ⟨rfl, rfl⟩ <;> rfl
  · simp (disch := omega) only [n_lt, if_neg q]
    rw [nI_l (by omega), l_mul, n_addl]
    refine hk (by omega) _ _ ⟨?_, rfl⟩
    rw [show fac (i + 1 + 1) = (i + 1 + 1) * fac (i + 1) from rfl, Nat.mul_comm (fac (i + 1))]
theorem or_lt64 {a h : Nat} (ha : a < 64) (hh : h < 6) : a ||| 2 ^ h < 64 := Nat.or_lt_two_pow (n := 6) ha (Nat.pow_lt_pow_right (a := 2) (by decide) hh)
theorem c_ord {g h : Nat} (hN : 200 < N) (hv : VV v) (hC : PC C 10 v) (hg : g < v 2) (hh : h < v 3) : f_X5_decidingOrders N 10 (nI g) (nI h) C = some (nI (ordv v g h (2 ^ v 3)), C) := by
  have v2 := hv.1.2.2.1
  have v3 := hv.2.1
  have p64 := pow_le64 hv.2.1
  have p1 := pow_ge1 (v 3)
  apply Ho_e
  unfold f_X5_decidingOrders
  refine Ho_lp (fun i x M' => x = (nI g, nI h, nI (ordv v g h i), nI i) ∧ M' = C) (2 ^ v 3) (by omega) ⟨rfl, rfl⟩ ?_
  rintro i hi k hk _ _ ⟨rfl, rfl⟩
  unfold f_X5_decidingOrders_h5 f_X5_decidingOrders_b28 f_X5_decidingOrders_b89
  rw [c_allh hv hC, bi_s]
  dsimp only
  by_cases q : 2 ^ v 3 - 1 < i
  · have e : i = 2 ^ v 3 := by omega
    simp (disch := omega) only [n_lt, if_pos q]
    rw [Ho_some, e]
  · simp (disch := omega) only [n_lt, if_neg q, n_bit0]
    by_cases t : i.testBit h = false
    · rw [if_pos t, if_neg (by decide), c_can (show 100 < N by omega) hv hC hg (show i < 64 by omega), bi_s, n_shl1 (by omega), fa_or]
      simp only [b2i_0]
      by_cases c : canv v g i = false
      · rw [if_pos c, c_can (show 100 < N by omega) hv hC hg (or_lt64 (by omega) (by omega)), bi_s]
        by_cases d : canv v g (i ||| 2 ^ h) = false
        · rw [if_pos d, n_addl]
          refine hk (by omega) _ _ ⟨?_, rfl⟩
          rw [ordv, if_neg (by rw [d]; simp)]
          rfl
        · have pl := pop_less (v 3) (by omega) h hh i (by omega) t
          rw [if_neg d, c_bits _ i (by omega), bi_s, hC.2.2.2.2.1, n_sub (by omega), n_subl (by omega), ck_n (by omega), ck_n (by omega), t_n (show pop i < 2147483648 by omega), t_n (show v 3 - pop i - 1 < 2147483648 by omega), sta_fac _ (by omega), sta_fac _ (by omega), n_mul, nI_add, bI_e, n_addl]
          refine hk (by omega) _ _ ⟨?_, rfl⟩
          rw [ordv, if_pos ⟨t, c, by simpa using d⟩, show v 3 - pop i - 1 = v 3 - 1 - pop i by omega]
      · rw [if_neg c, n_addl]
        refine hk (by omega) _ _ ⟨?_, rfl⟩
        rw [ordv, if_neg (fun z => c z.2.1)]
        rfl
    · rw [if_neg t, if_pos trivial, n_addl]
      refine hk (by omega) _ _ ⟨?_, rfl⟩
      rw [ordv, if_neg (fun z => t z.1)]
      rfl
theorem m_ord {g h : Nat} (hN : 200 < N) (hv : VV v) (hA : Ar S 205 435 v) (hg : g < v 2) (hh : h < v 3) : f_X12_swings N (nI g) (nI h) S = some (lN (ordv v g h (2 ^ v 3)), S) := by
  have v2 := hv.1.2.2.1
  have v3 := hv.2.1
  have p64 := pow_le64 hv.2.1
  have p1 := pow_ge1 (v 3)
  apply Ho_e
  unfold f_X12_swings
  rw [ck_l (by omega), show tn 3 = 3 from rfl, hA 3 (by omega)]
  refine Ho_lp (fun i x M' => x = (nI g, nI h, lN (ordv v g h i), nI (v 3), nI i) ∧ M' = S) (2 ^ v 3) (by omega) ⟨rfl, rfl⟩ ?_
  rintro i hi k hk _ _ ⟨rfl, rfl⟩
  unfold f_X12_swings_h13 f_X12_swings_b83
  rw [m_allh hv hA, bi_s]
  dsimp only
  by_cases q : 2 ^ v 3 - 1 < i
  · have e : i = 2 ^ v 3 := by omega
    simp (disch := omega) only [n_lt, if_pos q]
    rw [Ho_some, e]
  · simp (disch := omega) only [n_lt, if_neg q, cm_has, bi_s, b2i_0]
    by_cases t : i.testBit h = false
    · rw [if_pos t, m_can (show 100 < N by omega) hv hA hg (show i < 64 by omega), bi_s, n_shl1 (by omega), fa_or]
      by_cases c : canv v g i = false
      · rw [if_pos c, m_can (show 100 < N by omega) hv hA hg (or_lt64 (by omega) (by omega)), bi_s]
        by_cases d : canv v g (i ||| 2 ^ h) = false
        · rw [if_pos d, n_addl]
          refine hk (by omega) _ _ ⟨?_, rfl⟩
          rw [ordv, if_neg (by rw [d]; simp)]
          rfl
        · have pl := pop_less (v 3) (by omega) h hh i (by omega) t
          rw [if_neg d, m_size (by omega) (by omega), bi_s, m_fac (by omega) (by omega), bi_s, m_size (by omega) (by omega), bi_s, n_subl (by omega), n_sub (by omega), m_fac (by omega) (by omega), bi_s, l_mul, l_add, n_addl]
          refine hk (by omega) _ _ ⟨?_, rfl⟩
          rw [ordv, if_pos ⟨t, c, by simpa using d⟩]
      · rw [if_neg c, n_addl]
        refine hk (by omega) _ _ ⟨?_, rfl⟩
        rw [ordv, if_neg (fun z => c z.2.1)]
        rfl
    · rw [if_neg t, n_addl]
      refine hk (by omega) _ _ ⟨?_, rfl⟩
      rw [ordv, if_neg (fun z => t z.1)]
      rfl
theorem e_idle (hN : 200 < N) (h : Rel C S) (x : Int32) : Same (f_X11_idle N x C) (f_X12_idle N x S) := by
  unfold f_X11_idle f_X12_idle f_X11_refused f_X11_answered f_X5_powerlessHolders
  simp only [bM_e]
  have hR1 : Re C (uI S 200 1 0) := h.re.s0 1 n_okM.2 0
  generalize uI S 200 1 0 = S at *
  obtain ⟨v, hv, h9, hC, hA, hn⟩ := hR1.get
  have p64 := pow_le64 hv.2.1
  obtain ⟨r, e1, e2, hr⟩ := vote_is hN hv hC hA x
  simp only [e1, e2, bi_s, u_at]
  rcases hr with ⟨rfl, g, hg, rfl⟩ | rfl | rfl
  · have hR := hR1.s0 0 n_okM.1 0
    have hs := u_at S 200 0 0
    have hA' : Ar (uI S 200 0 0) 205 435 v := hA.oth (by decide)
    generalize uI S 200 0 0 = S at *
    rw [if_pos rfl, if_pos (by decide)]
    have key : ∃ r, lp (fun k a m => f_X5_powerlessHolders_h4 N 10 k a.1 a.2.1 a.2.2 m) N (nI g, 0, 0) C = some (r, C) ∧ lp (fun k a m => f_X12_idle_h27 N k a.1 a.2.1 a.2.2 m) N (nI g, 0, 0) S = some (r, S) := by
      refine lq2 (R := fun o o' => ∃ r : Int32, o = some (r, C) ∧ o' = some (r, S)) (fun i x M x' M' => ∃ y, x = (nI g, y, nI i) ∧ x' = (nI g, y, nI i) ∧ M = C ∧ M' = S) (v 3) (by have := hv.2.1; omega) (by have := hv.2.1; omega) ⟨0, rfl, rfl, rfl, rfl⟩ ?_
      rintro i hi k k' hk _ _ _ _ ⟨y, rfl, rfl, rfl, rfl⟩
      have v3 := hv.2.1
      unfold f_X5_powerlessHolders_h4 f_X12_idle_h27 f_X5_powerlessHolders_b27 f_X12_idle_b56
      have c8 := hC.2.2.2.2.1
      have a3 := hA' 3 (by omega)
      by_cases q : v 3 ≤ i
      · simp (disch := omega) only [n_tn, n_tl, n_t0, n_lt, n_le, n_eq, n_ltl, n_lel, n_eql, n_llt, n_lle, n_leq, n_m1l, n_m1r, n_addl, n_ladd, nI_add, n_mul, n_mull, n_lmul, n_sub, n_subl, n_div, n_divl, n_modd, true_and, and_true, bi_s, bv_s, bM_e, bI_e, bL_e, ck_n, ck_l, ck_0, c8, a3, if_pos q]
        exact ⟨_, rfl, rfl⟩
      · have ol := ordv_le hv g i (2 ^ v 3)
        simp (disch := omega) only [n_tn, n_tl, n_t0, n_lt, n_le, n_eq, n_ltl, n_lel, n_eql, n_llt, n_lle, n_leq, n_m1l, n_m1r, n_addl, n_ladd, nI_add, n_mul, n_mull, n_lmul, n_sub, n_subl, n_div, n_divl, n_modd, true_and, and_true, bi_s, bv_s, bM_e, bI_e, bL_e, ck_n, ck_l, ck_0, c8, a3, if_neg q, c_ord hN hv hC hg (show i < v 3 by omega), m_ord hN hv hA' hg (show i < v 3 by omega), lg_eq0, l_eq0]
        split
        · exact hk (by omega) _ _ _ _ ⟨_, rfl, rfl, rfl, rfl⟩
        · exact hk (by omega) _ _ _ _ ⟨y, rfl, by rw [Int32.or_zero], rfl, rfl⟩
    obtain ⟨r, k1, k2⟩ := key
    rw [k1, k2, bi_s]
    exact Same.mk (cl_ok hR hs)
  · rw [if_neg (by decide), if_neg (by decide)]
    exact Same.mk (cl_ref hR1 _)
  · rw [if_neg (by decide), if_neg (by decide)]
    exact Same.mk (cl_ref hR1 _)
theorem e_power (hN : 200 < N) (h : Rel C S) (x y : Int32) : Same (f_X11_power N x y C) (f_X12_power N x y S) := by
  have hR := Re.go h
  have hs := S0_st S 0 0
  unfold f_X11_power f_X12_power f_X11_refusedFlag f_X11_granted f_X12_no f_X11_codeOfVoting
  simp only [bM_e]
  generalize uI (uI S 200 1 0) 200 0 0 = S at *
  obtain ⟨v, hv, h9, hC, hA, hn⟩ := hR.get
  have v2 := hv.1.2.2.1
  have v3 := hv.2.1
  have p64 := pow_le64 hv.2.1
  have p1 := pow_ge1 (v 3)
  obtain ⟨b, e1, e2, hb⟩ := gate_is (v := v) (by omega) hC.1.2.2.2.2.1 (hA 2 (by omega)) x
  obtain ⟨b', e1', e2', hb'⟩ := holder_is (v := v) (by omega) hC.2.2.2.2.1 (hA 3 (by omega)) y
  simp only [e1, e2, e1', e2', bi_s, b2i_0]
  cases b' with
  | false =>
    cases b with
    | false => exact Same.mk (cl_ref hR _)
    | true =>
      simp only [Bool.true_eq_false, if_false, if_true]
      exact Same.mk (cl_ref hR _)
  | true =>
    simp only [Bool.true_eq_false, if_false]
    cases b with
    | false =>
      simp only [if_true, bi_s]
      rw [if_neg (by decide)]
      exact Same.mk (cl_ref hR _)
    | true =>
      obtain ⟨g, hg, rfl⟩ := hb rfl
      obtain ⟨o, ho, rfl⟩ := hb' rfl
      simp only [Bool.true_eq_false, if_false, c_allh hv hC, m_allh hv hA, bi_s, c_can (show 100 < N by omega) hv hC hg (show 2 ^ v 3 - 1 < 64 by omega), m_can (show 100 < N by omega) hv hA hg (show 2 ^ v 3 - 1 < 64 by omega)]
      cases canv v g (2 ^ v 3 - 1) with
      | false =>
        simp only [if_true, bi_s]
        rw [if_neg (by decide)]
        exact Same.mk (cl_ref hR _)
      | true =>
        have ol := ordv_le hv g o (2 ^ v 3)
        have fl := fac_le (v 3) (by omega)
        simp only [Bool.true_eq_false, if_false, bi_s]
        rw [if_pos trivial, c_ord hN hv hC hg ho, bi_s, m_ord hN hv hA hg ho, bi_s, hC.2.2.2.2.1, ck_n (by omega), t_n (show v 3 < 2147483648 by omega), sta_fac _ (by omega), ck_l (by omega), show tn 3 = 3 from rfl, hA 3 (by omega), m_fac (by omega) (by omega), bi_s, nI_l (by omega), nI_l (by omega)]
        obtain ⟨p, q, f1, f2⟩ := fr_one (N := N) (C := C) (S := S) (t := ordv v g o (2 ^ v 3)) (b := fac (v 3)) hN (by omega) (by omega)
        rw [f1, f2, bv_s, bi_s]
        exact Same.mk (cl_fr hR hs p q)
end C7
