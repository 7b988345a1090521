section C9
variable {N : Nat} {C S : Mem}
/-- the numbers of a tray, poured -/
theorem m_pour {t u i j m : Nat} {w : Bool} (hN : 200 < N) (ht : t < 4 ∧ u < 4) (hb : i + m ≤ 60 ∧ j + m ≤ 60) (hw : (w = true ∧ i < j) ∨ (w = false ∧ j ≤ i)) : Ho (f_X12_pour_b153 N (nI t) (nI i) (nI u) (nI j) (nI m) (b2i w) S) (fun q => q.1 = true ∧ q.2.1 = S.1 ∧ (∀ c, c ≠ 203 → q.2.2 c = S.2 c) ∧ (∀ k, k < m → q.2.2 203 (60 * u + j + k) = S.2 203 (60 * t + i + k)) ∧ (∀ k, k < 60 * u + j ∨ 60 * u + j + m ≤ k → q.2.2 203 k = S.2 203 k)) := by
  unfold f_X12_pour_b153
  rcases hw with ⟨rfl, hw⟩ | ⟨rfl, hw⟩
  · refine Ho_lp (fun n a S' => a = (nI t, nI i, nI u, nI j, nI m, b2i true, nI n) ∧ S'.1 = S.1 ∧ (∀ c, c ≠ 203 → S'.2 c = S.2 c) ∧ (∀ k, m - n ≤ k → k < m → S'.2 203 (60 * u + j + k) = S.2 203 (60 * t + i + k)) ∧ (∀ k, k < 60 * u + j + (m - n) ∨ 60 * u + j + m ≤ k → S'.2 203 k = S.2 203 k)) m (by omega) ⟨rfl, rfl, fun _ _ => rfl, fun k h1 h2 => absurd h2 (by omega), fun _ _ => rfl⟩ ?_
    rintro n hn k hk _ S1 ⟨rfl, q1, q2, q3, q4⟩
    unfold f_X12_pour_h158 f_X12_pour_b182
    by_cases g : m ≤ n
    · have e : n = m := by omega
      subst e
      simp (disch := omega) only [n_tn, n_tl, n_t0, n_lt, n_le, n_eq, n_ltl, n_lel, n_eql, n_llt, n_lle, n_leq, n_m1l, n_m1r, n_addl, n_ladd, nI_add, n_mul, n_mull, n_lmul, n_sub, n_subl, n_div, n_divl, n_modd, true_and, and_true, bi_s, bv_s, bM_e, bI_e, bL_e, ck_n, ck_l, ck_0, if_pos g, Ho_some]
      exact ⟨q1, q2, fun k hk => q3 k (by omega) hk, fun k hk => q4 k (by omega)⟩
    · simp (disch := omega) only [n_tn, n_tl, n_t0, n_lt, n_le, n_eq, n_ltl, n_lel, n_eql, n_llt, n_lle, n_leq, n_m1l, n_m1r, n_addl, n_ladd, nI_add, n_mul, n_mull, n_lmul, n_sub, n_subl, n_div, n_divl, n_modd, true_and, and_true, bi_s, bv_s, bM_e, bI_e, bL_e, ck_n, ck_l, ck_0, if_neg g, Nat.not_lt_zero, Nat.zero_le, if_false, if_true, b2i_0, Bool.true_eq_false]
      refine hk (by omega) _ _ ⟨rfl, q1, fun c hc => by rw [g_uL, if_neg hc]; exact q2 c hc, fun k h1 h2 => ?_, fun k h1 => ?_⟩
      · rw [g_uL, if_pos rfl, g_updL]
        by_cases e : k = m - 1 - n
        · rw [if_pos (by omega), e]
          exact q4 _ (by omega)
        · rw [if_neg (by omega)]
          exact q3 k (by omega) h2
      · rw [g_uL, if_pos rfl, g_updL, if_neg (by omega)]
        exact q4 k (by omega)
  · refine Ho_lp (fun n a S' => a = (nI t, nI i, nI u, nI j, nI m, b2i false, nI n) ∧ S'.1 = S.1 ∧ (∀ c, c ≠ 203 → S'.2 c = S.2 c) ∧ (∀ k, k < n → S'.2 203 (60 * u + j + k) = S.2 203 (60 * t + i + k)) ∧ (∀ k, k < 60 * u + j ∨ 60 * u + j + n ≤ k → S'.2 203 k = S.2 203 k)) m (by omega) ⟨rfl, rfl, fun _ _ => rfl, fun k h1 => absurd h1 (by omega), fun _ _ => rfl⟩ ?_
    rintro n hn k hk _ S1 ⟨rfl, q1, q2, q3, q4⟩
    unfold f_X12_pour_h158 f_X12_pour_b182
    by_cases g : m ≤ n
    · have e : n = m := by omega
      subst e
      simp (disch := omega) only [n_tn, n_tl, n_t0, n_lt, n_le, n_eq, n_ltl, n_lel, n_eql, n_llt, n_lle, n_leq, n_m1l, n_m1r, n_addl, n_ladd, nI_add, n_mul, n_mull, n_lmul, n_sub, n_subl, n_div, n_divl, n_modd, true_and, and_true, bi_s, bv_s, bM_e, bI_e, bL_e, ck_n, ck_l, ck_0, if_pos g, Ho_some]
      exact ⟨q1, q2, q3, q4⟩
    · simp (disch := omega) only [n_tn, n_tl, n_t0, n_lt, n_le, n_eq, n_ltl, n_lel, n_eql, n_llt, n_lle, n_leq, n_m1l, n_m1r, n_addl, n_ladd, nI_add, n_mul, n_mull, n_lmul, n_sub, n_subl, n_div, n_divl, n_modd, true_and, and_true, bi_s, bv_s, bM_e, bI_e, bL_e, ck_n, ck_l, ck_0, if_neg g, Nat.not_lt_zero, Nat.zero_le, if_false, if_true, b2i_0, Bool.true_eq_false]
      refine hk (by omega) _ _ ⟨rfl, q1, fun c hc => by rw [g_uL, if_neg hc]; exact q2 c hc, fun k h1 => ?_, fun k h1 => ?_⟩
      · rw [g_uL, if_pos rfl, g_updL]
        by_cases e : k = n
        · rw [if_pos (by omega), e]
          exact q4 _ (by omega)
        · rw [if_neg (by omega)]
          exact q3 k (by omega)
      · rw [g_uL, if_pos rfl, g_updL, if_neg (by omega)]
        exact q4 k (by omega)
theorem acp_e {β : Type} {sp dp n ns nd : Nat} {k : Option β} (h : sp + n ≤ ns ∧ dp + n ≤ nd ∧ ns < 2147483648 ∧ nd < 2147483648) : acp (nI sp) (nI dp) (nI n) ns nd k = k := by
  unfold acp
  rw [if_neg]
  rw [t_n (by omega), t_n (by omega), t_n (by omega)]
  rintro (z | z | z | z | z)
  · exact nI_pos (by omega) z
  · exact nI_pos (by omega) z
  · exact nI_pos (by omega) z
  · omega
  · omega
theorem range_is {t m : Nat} (ht : t < 4) (hm : m ≤ 60 ∧ C.1 9 t = nI m) (i : Int32) (k : Nat) (hk : k < 2147483648) : ∃ b, f_X9_hasRange (nI t) i (nI k) C = some (b, C) ∧ ((b = true ∧ ∃ n, n + k ≤ m ∧ i = nI n) ∨ (b = false ∧ (i < 0 ∨ ∃ n, n < 2147483648 ∧ m < n + k ∧ i = nI n))) := by
  unfold f_X9_hasRange
  rcases i32c i with h | ⟨n, hn, rfl⟩
  · exact ⟨false, by rw [if_pos h], Or.inr ⟨rfl, Or.inl h⟩⟩
  · by_cases g : m < k
    · refine ⟨false, ?_, Or.inr ⟨rfl, Or.inr ⟨n, hn, by omega, rfl⟩⟩⟩
      simp (disch := omega) only [n_tn, n_tl, n_t0, n_lt, n_le, n_eq, n_ltl, n_lel, n_eql, n_llt, n_lle, n_leq, n_m1l, n_m1r, n_addl, n_ladd, nI_add, n_mul, n_mull, n_lmul, n_sub, n_subl, n_div, n_divl, n_modd, true_and, and_true, bi_s, bv_s, bM_e, bI_e, bL_e, ck_n, ck_l, ck_0, Nat.not_lt_zero, Nat.zero_le, if_false, if_true, b2i_0, Bool.true_eq_false, hm.2, if_pos g]
    · by_cases g2 : m - k < n
      · refine ⟨false, ?_, Or.inr ⟨rfl, Or.inr ⟨n, hn, by omega, rfl⟩⟩⟩
        simp (disch := omega) only [n_tn, n_tl, n_t0, n_lt, n_le, n_eq, n_ltl, n_lel, n_eql, n_llt, n_lle, n_leq, n_m1l, n_m1r, n_addl, n_ladd, nI_add, n_mul, n_mull, n_lmul, n_sub, n_subl, n_div, n_divl, n_modd, true_and, and_true, bi_s, bv_s, bM_e, bI_e, bL_e, ck_n, ck_l, ck_0, Nat.not_lt_zero, Nat.zero_le, if_false, if_true, b2i_0, Bool.true_eq_false, hm.2, if_neg g, if_pos g2]
      · refine ⟨true, ?_, Or.inl ⟨rfl, n, by omega, rfl⟩⟩
        simp (disch := omega) only [n_tn, n_tl, n_t0, n_lt, n_le, n_eq, n_ltl, n_lel, n_eql, n_llt, n_lle, n_leq, n_m1l, n_m1r, n_addl, n_ladd, nI_add, n_mul, n_mull, n_lmul, n_sub, n_subl, n_div, n_divl, n_modd, true_and, and_true, bi_s, bv_s, bM_e, bI_e, bL_e, ck_n, ck_l, ck_0, Nat.not_lt_zero, Nat.zero_le, if_false, if_true, b2i_0, Bool.true_eq_false, hm.2, if_neg g, if_neg g2]
theorem ltray_is (x : Int32) (M : Mem) : ∃ b, f_X9_isTray x M = some (b, M) ∧ ((b = true ∧ ∃ t, t < 4 ∧ x = nI t) ∨ (b = false ∧ (x < 0 ∨ (¬ x < 0 ∧ 4 ≤ x ∧ ¬ x < 4)))) := by
  unfold f_X9_isTray
  rcases i32c x with h | ⟨n, hn, rfl⟩
  · exact ⟨false, by rw [if_pos h], Or.inr ⟨rfl, Or.inl h⟩⟩
  · by_cases g : 4 ≤ n
    · refine ⟨false, ?_, Or.inr ⟨rfl, Or.inr ⟨nI_pos hn, ?_, ?_⟩⟩⟩
      · simp (disch := omega) only [n_tn, n_tl, n_t0, n_lt, n_le, n_eq, n_ltl, n_lel, n_eql, n_llt, n_lle, n_leq, n_m1l, n_m1r, n_addl, n_ladd, nI_add, n_mul, n_mull, n_lmul, n_sub, n_subl, n_div, n_divl, n_modd, Nat.not_lt_zero, Nat.zero_le, if_false, if_true, b2i_0, Bool.true_eq_false, if_pos g]
      · rw [n_lle (by omega)]; exact g
      · rw [n_ltl (by omega)]; omega
    · refine ⟨true, ?_, Or.inl ⟨rfl, n, by omega, rfl⟩⟩
      simp (disch := omega) only [n_tn, n_tl, n_t0, n_lt, n_le, n_eq, n_ltl, n_lel, n_eql, n_llt, n_lle, n_leq, n_m1l, n_m1r, n_addl, n_ladd, nI_add, n_mul, n_mull, n_lmul, n_sub, n_subl, n_div, n_divl, n_modd, Nat.not_lt_zero, Nat.zero_le, if_false, if_true, b2i_0, Bool.true_eq_false, if_neg g]
theorem lg_sum {a b m : Nat} (h : a < 2147483648 ∧ b < 2147483648 ∧ m < 2147483648) : ((0 < lg_cmp ((nI a).toInt64 + (nI b).toInt64) (nI m).toInt64) = (m < a + b)) ∧ ((lg_cmp ((nI a).toInt64 + (nI b).toInt64) (nI m).toInt64 ≤ 0) = (a + b ≤ m)) := by
  rw [nI_l h.1, nI_l h.2.1, nI_l h.2.2, l_add, lg_gt0, lg_le0, l_lt (by omega)]
  refine ⟨rfl, propext ?_⟩
  rw [fa_le64, l_toInt (by omega), l_toInt (by omega)]
  omega
theorem e_pour (hN : 300 < N) (h : Rel C S) (x i y j z : Int32) : Same (f_X11_pour x i y j z C) (f_X12_pour N x i y j z S) := by
  have hR := Re.go h
  have hs := S0_st S 0 0
  unfold f_X11_pour f_X12_pour f_X11_refusedFlag f_X11_granted f_X12_no f_X9_codeOfPour
  simp only [bM_e]
  generalize uI (uI S 200 1 0) 200 0 0 = S at *
  have ref : ∀ n : Int32, Same (some (false, uI C 0 0 n)) (some (false, uI S 200 0 n)) := fun n => Same.mk (cl_ref hR n)
  obtain ⟨b, e1, hb⟩ := ltray_is x C
  rw [e1, bi_s]
  rcases hb with ⟨rfl, t, ht, rfl⟩ | ⟨rfl, hb | ⟨hb1, hb2, hb3⟩⟩
  · obtain ⟨b, e2, hb⟩ := ltray_is y C
    have l1 : ¬ (4 : Int32) ≤ nI t := by rw [n_lle (by omega)]; omega
    rw [if_neg (show ¬ b2i true = 0 by decide), e2, bi_s, if_neg (nI_pos (n := t) (by omega)), if_neg l1]
    rcases hb with ⟨rfl, u, hu, rfl⟩ | ⟨rfl, hb | ⟨hb1, hb2, hb3⟩⟩
    · obtain ⟨s, hs3, y1, y2, y3⟩ := hR.2.2.1 t ht
      obtain ⟨s', hs3', y1', y2', y3'⟩ := hR.2.2.1 u hu
      have l2 : nI u < (4 : Int32) := by rw [n_ltl (by omega)]; omega
      rw [if_neg (show ¬ b2i true = 0 by decide), if_neg (nI_pos (n := u) (by omega)), if_pos l2]
      repeat rw [ck_n (j := t) (n := 4) (by omega)]
      repeat rw [ck_n (j := u) (n := 4) (by omega)]
      repeat rw [t_n (j := t) (by omega)]
      repeat rw [t_n (j := u) (by omega)]
      rcases y3 with ⟨a1, a2⟩ | ⟨m, hm, a1, a2, a3⟩
      · rw [a1, a2, if_pos (by decide), if_pos (by decide), bi_s, if_neg (by decide)]
        exact ref 3
      · rcases y3' with ⟨b1, b2⟩ | ⟨m', hm', b1, b2, b3⟩
        · rw [a1, a2, b1, b2]
          simp (disch := omega) only [n_tn, n_tl, n_t0, n_lt, n_le, n_eq, n_ltl, n_lel, n_eql, n_llt, n_lle, n_leq, n_m1l, n_m1r, n_addl, n_ladd, nI_add, n_mul, n_mull, n_lmul, n_sub, n_subl, n_div, n_divl, n_modd, true_and, and_true, bi_s, bv_s, bM_e, bI_e, bL_e, ck_n, ck_l, ck_0, Nat.not_lt_zero, Nat.zero_le, if_false, if_true, b2i_0, Bool.true_eq_false, show ¬ (0 : Int32) ≤ -1 by decide]
          rw [if_neg (by decide)]
          exact ref 3
        · rw [a1, a2, b1, b2, y1, y1', y2, y2']
          simp (disch := omega) only [n_tn, n_tl, n_t0, n_lt, n_le, n_eq, n_ltl, n_lel, n_eql, n_llt, n_lle, n_leq, n_m1l, n_m1r, n_addl, n_ladd, nI_add, n_mul, n_mull, n_lmul, n_sub, n_subl, n_div, n_divl, n_modd, true_and, and_true, bi_s, bv_s, bM_e, bI_e, bL_e, ck_n, ck_l, ck_0, Nat.not_lt_zero, Nat.zero_le, if_false, if_true, b2i_0, Bool.true_eq_false]
          by_cases gs : s = s'
          · rw [if_pos gs, if_pos gs]
            rcases i32c z with hz | ⟨n, hn, rfl⟩
            · rw [if_neg (z0_neg hz), if_neg (z0_neg hz), bi_s, if_neg (by decide)]
              exact ref 6
            · obtain ⟨b, e3, hb⟩ := range_is ht ⟨hm, a1⟩ i n hn
              obtain ⟨b', e4, hb'⟩ := range_is hu ⟨hm', b1⟩ j n hn
              simp (disch := omega) only [n_tn, n_tl, n_t0, n_lt, n_le, n_eq, n_ltl, n_lel, n_eql, n_llt, n_lle, n_leq, n_m1l, n_m1r, n_addl, n_ladd, nI_add, n_mul, n_mull, n_lmul, n_sub, n_subl, n_div, n_divl, n_modd, true_and, and_true, bi_s, bv_s, bM_e, bI_e, bL_e, ck_n, ck_l, ck_0, Nat.not_lt_zero, Nat.zero_le, if_false, if_true, b2i_0, Bool.true_eq_false, e3, e4]
              rcases hb with ⟨rfl, p, hp, rfl⟩ | ⟨rfl, hi | ⟨p, hp1, hp2, rfl⟩⟩
              · rcases hb' with ⟨rfl, q, hq, rfl⟩ | ⟨rfl, hj | ⟨q, hq1, hq2, rfl⟩⟩
                · have w1 : ¬ m < p + n := by omega
                  have w2 : q + n ≤ m' := hq
                  simp (disch := omega) only [n_tn, n_tl, n_t0, n_lt, n_le, n_eq, n_ltl, n_lel, n_eql, n_llt, n_lle, n_leq, n_m1l, n_m1r, n_addl, n_ladd, nI_add, n_mul, n_mull, n_lmul, n_sub, n_subl, n_div, n_divl, n_modd, true_and, and_true, bi_s, bv_s, bM_e, bI_e, bL_e, ck_n, ck_l, ck_0, Nat.not_lt_zero, Nat.zero_le, if_false, if_true, b2i_0, Bool.true_eq_false, (lg_sum (show p < 2147483648 ∧ n < 2147483648 ∧ m < 2147483648 by omega)).1, (lg_sum (show q < 2147483648 ∧ n < 2147483648 ∧ m' < 2147483648 by omega)).2, if_neg w1, if_pos w2, acp_e]
                  refine Same.two (P := fun r => r.1 = true ∧ r.2 = uI (rL C (4 + u) (va_cpy (C.2 (4 + t)) (C.2 (4 + u)) p q n)) 0 0 0) (P' := fun r => r.1 = true ∧ r.2.1 = S.1 ∧ (∀ c, c ≠ 203 → r.2.2 c = S.2 c) ∧ (∀ k, k < n → r.2.2 203 (60 * u + q + k) = S.2 203 (60 * t + p + k)) ∧ (∀ k, k < 60 * u + q ∨ 60 * u + q + n ≤ k → r.2.2 203 k = S.2 203 k)) ?_ ?_ ?_
                  · rw [Ho_some]
                    exact ⟨rfl, rfl⟩
                  · by_cases w : q ≤ p
                    · rw [if_pos w]
                      exact m_pour (w := false) (by omega) ⟨ht, hu⟩ (by omega) (Or.inr ⟨rfl, w⟩)
                    · rw [if_neg w]
                      exact m_pour (w := true) (by omega) ⟨ht, hu⟩ (by omega) (Or.inl ⟨rfl, by omega⟩)
                  · rintro r C' r' S' ⟨a, a'⟩ ⟨c1, c2, c3, c4, c5⟩
                    dsimp only at a a' c1 c2 c3 c4 c5
                    subst a'
                    refine ⟨a.trans c1.symm, hR.trays ?_ (fun k hk => ?_) (fun c k1 _ _ => ?_) (fun c hc => ?_) (fun k _ => by rw [c2]) (fun c _ _ _ => by rw [c2]) c3 fun f hf => ?_⟩
                    · rw [u_at, c2]; exact hs.symm
                    · rw [g_uI, if_pos rfl, g_upd, if_neg hk]; rfl
                    · rw [g_uI, if_neg k1]; rfl
                    · rw [g_uI2, g_rL, if_neg (by omega)]
                    · obtain ⟨o, ho, z1, z2, z3⟩ := hR.2.2.1 f hf
                      refine ⟨o, ho, by rw [g_uI, if_neg (by decide)]; exact z1, by rw [c2]; exact z2, ?_⟩
                      rw [g_uI, if_neg (by decide), c2]
                      rcases z3 with z3 | ⟨l, hl, d1, d2, d3⟩
                      · exact Or.inl z3
                      · refine Or.inr ⟨l, hl, d1, d2, fun k hk => ?_⟩
                        rw [g_uI2, g_rL]
                        by_cases e : f = u
                        · subst e
                          rw [if_pos rfl, g_cpy]
                          by_cases v : q ≤ k ∧ k < q + n
                          · rw [if_pos v, a3 _ (by omega)]
                            have := c4 (k - q) (by omega)
                            rw [show 60 * f + q + (k - q) = 60 * f + k by omega] at this
                            rw [this, show 60 * t + p + (k - q) = 60 * t + (p + (k - q)) by omega]
                          · rw [if_neg v, c5 _ (by omega)]
                            exact d3 k hk
                        · rw [if_neg (by omega), c5 _ (by omega)]
                          exact d3 k hk
                · have w1 : ¬ m < p + n := by omega
                  simp (disch := omega) only [n_tn, n_tl, n_t0, n_lt, n_le, n_eq, n_ltl, n_lel, n_eql, n_llt, n_lle, n_leq, n_m1l, n_m1r, n_addl, n_ladd, nI_add, n_mul, n_mull, n_lmul, n_sub, n_subl, n_div, n_divl, n_modd, true_and, and_true, bi_s, bv_s, bM_e, bI_e, bL_e, ck_n, ck_l, ck_0, Nat.not_lt_zero, Nat.zero_le, if_false, if_true, b2i_0, Bool.true_eq_false, (lg_sum (show p < 2147483648 ∧ n < 2147483648 ∧ m < 2147483648 by omega)).1, if_neg w1, if_pos hj]
                  rw [if_neg (by decide)]
                  exact ref 4
                · have w1 : ¬ m < p + n := by omega
                  have w2 : ¬ q + n ≤ m' := by omega
                  simp (disch := omega) only [n_tn, n_tl, n_t0, n_lt, n_le, n_eq, n_ltl, n_lel, n_eql, n_llt, n_lle, n_leq, n_m1l, n_m1r, n_addl, n_ladd, nI_add, n_mul, n_mull, n_lmul, n_sub, n_subl, n_div, n_divl, n_modd, true_and, and_true, bi_s, bv_s, bM_e, bI_e, bL_e, ck_n, ck_l, ck_0, Nat.not_lt_zero, Nat.zero_le, if_false, if_true, b2i_0, Bool.true_eq_false, (lg_sum (show p < 2147483648 ∧ n < 2147483648 ∧ m < 2147483648 by omega)).1, (lg_sum (show q < 2147483648 ∧ n < 2147483648 ∧ m' < 2147483648 by omega)).2, if_neg w1, if_neg w2]
                  rw [if_neg (by decide)]
                  exact ref 4
              · simp (disch := omega) only [n_tn, n_tl, n_t0, n_lt, n_le, n_eq, n_ltl, n_lel, n_eql, n_llt, n_lle, n_leq, n_m1l, n_m1r, n_addl, n_ladd, nI_add, n_mul, n_mull, n_lmul, n_sub, n_subl, n_div, n_divl, n_modd, true_and, and_true, bi_s, bv_s, bM_e, bI_e, bL_e, ck_n, ck_l, ck_0, Nat.not_lt_zero, Nat.zero_le, if_false, if_true, b2i_0, Bool.true_eq_false, if_pos hi]
                rw [if_neg (by decide)]
                exact ref 4
              · have w1 : m < p + n := hp2
                simp (disch := omega) only [n_tn, n_tl, n_t0, n_lt, n_le, n_eq, n_ltl, n_lel, n_eql, n_llt, n_lle, n_leq, n_m1l, n_m1r, n_addl, n_ladd, nI_add, n_mul, n_mull, n_lmul, n_sub, n_subl, n_div, n_divl, n_modd, true_and, and_true, bi_s, bv_s, bM_e, bI_e, bL_e, ck_n, ck_l, ck_0, Nat.not_lt_zero, Nat.zero_le, if_false, if_true, b2i_0, Bool.true_eq_false, (lg_sum (show p < 2147483648 ∧ n < 2147483648 ∧ m < 2147483648 by omega)).1, if_pos w1]
                rw [if_neg (by decide)]
                split
                · exact ref 4
                · exact ref 4
          · rw [if_neg gs, if_neg gs, bi_s, if_neg (by decide)]
            exact ref 11
    · rw [if_pos (show b2i false = 0 from rfl), bi_s, if_neg (show ¬ (1 : Int32) = 0 by decide), if_pos hb]
      exact ref 1
    · rw [if_pos (show b2i false = 0 from rfl), bi_s, if_neg (show ¬ (1 : Int32) = 0 by decide), if_neg hb1, if_neg hb3]
      exact ref 1
  · rw [if_pos (show b2i false = 0 from rfl), bi_s, if_neg (show ¬ (1 : Int32) = 0 by decide), if_pos hb]
    exact ref 1
  · rw [if_pos (show b2i false = 0 from rfl), bi_s, if_neg (show ¬ (1 : Int32) = 0 by decide), if_neg hb1, if_pos hb2]
    exact ref 1
end C9
