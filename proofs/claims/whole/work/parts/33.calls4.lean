def thk (c : Nat → Nat) : Nat → Nat × Nat
  | 0 => (0, 0)
  | i + 1 => if i = 0 then (c 1, 1) else if (thk c i).1 < c (i + 1) then (c (i + 1), i + 1) else thk c i
theorem thk_le {c : Nat → Nat} {B : Nat} (h : ∀ i, c i ≤ B) : ∀ i, (thk c i).1 ≤ B ∧ (thk c i).2 ≤ i
  | 0 => ⟨Nat.zero_le _, Nat.le_refl _⟩
  | i + 1 => by
    have ih := thk_le h i
    rw [thk]
    split
    · exact ⟨h 1, by show 1 ≤ i + 1; omega⟩
    · split
      · exact ⟨h _, Nat.le_refl _⟩
      · exact ⟨ih.1, by have := ih.2; omega⟩
section C4
variable {N : Nat} {C S : Mem}
def cnAt (v : Nat → Nat) (t : Nat) : Nat := cnF (v 8) (hrN v (v 10) (fogv v) t) (v 0 * v 1)
theorem cnAt_le {v : Nat → Nat} (hv : VW v) (t : Nat) : cnAt v t ≤ 30 := Nat.le_trans (cnF_le _ _ _) (bd30 hv.1 hv.2.1)
theorem c_thick {v : Nat → Nat} {n : Nat} (hN : 200 < N) (hv : VV v) (hn : 1 ≤ n ∧ n ≤ 48) (hC : PC C 10 v) : Ho (f_X0_foggiestHour N 10 (nI n) C) (fun q => q.1 = nI (thk (cnAt v) n).2 ∧ Sm [94, 91] C q.2) := by
  have hf9 := hv.2.2.2.2.2.2.2.2.2.2.1
  have h10 := hv.2.2.2.2.2.1
  have v8 := hv.2.2.2.2.1
  have p64 := pow_le64 hv.1.2.2.1
  unfold f_X0_foggiestHour
  rw [bM_e]
  refine Ho_lp (fun i a M' => a = (nI n, if i = 0 then -1 else nI (thk (cnAt v) i).1, if i = 0 then 1 else nI (thk (cnAt v) i).2, nI (i + 1)) ∧ Sm [94, 91] C M' ∧ Ar M' 94 60 (hrN v (v 10) (fogv v) i)) n (by omega) ⟨rfl, Sm.rf.rI (by simp), cpy60 hC.2.2.2.2.2.2.2.2.2.2.2.1⟩ ?_
  rintro i hi k hk _ M1 ⟨rfl, hS1, hA1⟩
  unfold f_X0_foggiestHour_h23 f_X0_foggiestHour_b68
  by_cases g : n < i + 1
  · have e : i = n := by omega
    subst e
    simp (disch := omega) only [n_tn, n_tl, n_t0, n_lt, n_le, n_eq, n_ltl, n_lel, n_eql, n_llt, n_lle, n_leq, n_m1l, n_m1r, n_addl, n_ladd, nI_add, n_mul, n_mull, n_lmul, n_sub, n_subl, n_div, n_divl, n_modd, true_and, and_true, bi_s, bv_s, bM_e, bI_e, bL_e, ck_n, ck_l, ck_0, if_pos g, Ho_some, if_neg (show ¬ i = 0 by omega)]
    exact hS1
  · have hle := hrN_le (g := v 10) hv.1 hf9 i
    have hcl := thk_le (cnAt_le hv.1) i
    have hc1 := cnAt_le hv.1 (i + 1)
    simp (disch := omega) only [n_tn, n_tl, n_t0, n_lt, n_le, n_eq, n_ltl, n_lel, n_eql, n_llt, n_lle, n_leq, n_m1l, n_m1r, n_addl, n_ladd, nI_add, n_mul, n_mull, n_lmul, n_sub, n_subl, n_div, n_divl, n_modd, true_and, and_true, bi_s, bv_s, bM_e, bI_e, bL_e, ck_n, ck_l, ck_0, if_neg g, hS1.at (by simp) hC.2.2.2.1, Ho_bv]
    refine Ho_mono (cw_hour (by omega) hv.1 rfl (by omega) (by omega) (hC.1.same (hS1.2 _ (by simp)) (hS1.2 _ (by simp))) hA1 hle (by omega)) ?_
    rintro M2 ⟨hS2, hA2⟩
    have hS := hS1.tr hS2
    rw [c_count (v := v) (by omega) ⟨hv.1.1, hv.1.2.1, v8⟩ rfl (hS.at (by simp) hC.1.1) (hS.at (by simp) hC.1.2.1) (hS.at (by simp) hC.2.1) hA2 (hrF_le hv.1 hle), bi_s]
    have hcn : cnF (v 8) (hrF v (v 10) (hrN v (v 10) (fogv v) i)) (v 0 * v 1) = cnAt v (i + 1) := rfl
    rw [hcn]
    by_cases z : i = 0
    · subst z
      rw [if_pos rfl, if_neg (by rw [n_m1le (by omega)]; exact id)]
      refine hk (by omega) _ _ ⟨rfl, hS, hA2⟩
    · rw [if_neg z, if_neg z]
      by_cases c : cnAt v (i + 1) ≤ (thk (cnAt v) i).1
      · rw [if_pos (by rw [n_le (by omega)]; exact c)]
        refine hk (by omega) _ _ ⟨?_, hS, hA2⟩
        rw [if_neg (by omega), if_neg (by omega), thk, if_neg z, if_neg (by omega)]
      · rw [if_neg (by rw [n_le (by omega)]; exact c)]
        refine hk (by omega) _ _ ⟨?_, hS, hA2⟩
        rw [if_neg (by omega), if_neg (by omega), thk, if_neg z, if_pos (by omega)]
theorem e_thickest (hN : 200 < N) (h : Rel C S) (z : Int32) : Same (f_X11_thickest N z C) (f_X12_thickest N z S) := by
  have hR := Re.go h
  have hs := S0_st S 0 0
  unfold f_X11_thickest f_X12_thickest f_X11_refused f_X11_answered f_X12_refuse
  simp only [bM_e]
  generalize uI (uI S 200 1 0) 200 0 0 = S at *
  obtain ⟨v, hv, -, hC, hA, -⟩ := hR.get
  have v0 := hv.1.1
  have v1 := hv.1.2.1
  have b30 := bd30 v0 v1
  have hf9 := hv.2.2.2.2.2.2.2.2.2.2.1
  have h10 := hv.2.2.2.2.2.1
  have v8 := hv.2.2.2.2.1
  have p64 := pow_le64 hv.1.2.2.1
  obtain ⟨q, e3, hq⟩ := in_is 1 48 (by omega) S z
  rw [show f_X12_isIn z.toInt64 1 48 S = _ from e3]
  rcases hq with ⟨rfl, n, hn1, hn, rfl⟩ | ⟨rfl, hy | ⟨n, hn, hw, rfl⟩⟩
  · have l1 : ¬ n < 1 := by omega
    simp (disch := omega) only [n_tn, n_tl, n_t0, n_lt, n_le, n_eq, n_ltl, n_lel, n_eql, n_llt, n_lle, n_leq, n_m1l, n_m1r, n_addl, n_ladd, nI_add, n_mul, n_mull, n_lmul, n_sub, n_subl, n_div, n_divl, n_modd, bi_s, if_false, if_true, l1, hn, Bool.true_eq_false, b2i_0]
    refine Same.two (P := fun q => q.1 = nI (thk (cnAt v) n).2 ∧ ∃ C1, Sm [94, 91] C C1 ∧ q.2 = uI C1 0 0 0) (P' := fun q => q.1 = nI (thk (cnAt v) n).2 ∧ Sm [206, 209] S q.2) ?_ ?_ ?_
    · rw [Ho_bi]
      refine Ho_mono (c_thick hN hv ⟨hn1, hn⟩ hC) ?_
      rintro ⟨r, C1⟩ ⟨a, b⟩
      rw [Ho_some]
      exact ⟨a, C1, b, rfl⟩
    · rw [Ho_bv]
      refine Ho_mono (m_keeps hN) ?_
      rintro S1 ⟨k1, k2⟩
      refine Ho_lp (fun i a S' => a = (nI n, if i = 0 then 0 else nI (thk (cnAt v) i).2, if i = 0 then -1 else nI (thk (cnAt v) i).1, nI (i + 1)) ∧ SmH S1 S' ∧ Ar S' 205 435 (hvN v i)) n (by omega) ⟨rfl, SmH.rf, hA.same (k1.2 205 (by simp))⟩ ?_
      rintro i hi k hk _ S2 ⟨rfl, s2, a2⟩
      obtain ⟨q1, q2, q3⟩ := hv_ok hv.1 hf9 i
      obtain ⟨w1, w2, w3⟩ := hv_vw hv.1 hf9 i
      unfold f_X12_thickest_h39 f_X12_thickest_b68
      by_cases g : n < i + 1
      · have e : i = n := by omega
        subst e
        simp (disch := omega) only [n_tn, n_tl, n_t0, n_lt, n_le, n_eq, n_ltl, n_lel, n_eql, n_llt, n_lle, n_leq, n_m1l, n_m1r, n_addl, n_ladd, nI_add, n_mul, n_mull, n_lmul, n_sub, n_subl, n_div, n_divl, n_modd, true_and, and_true, bi_s, bv_s, bM_e, bI_e, bL_e, ck_n, ck_l, ck_0, if_pos g, Ho_bv, if_neg (show ¬ i = 0 by omega)]
        refine Ho_mono (m_gives hN) ?_
        rintro S3 ⟨g1, g2, g3⟩
        rw [Ho_some]
        exact ⟨rfl, m_back hA k1 k2 s2 a2 (fun i hi => q1 i (Or.inr hi)) g1 g2 g3⟩
      · simp (disch := omega) only [n_tn, n_tl, n_t0, n_lt, n_le, n_eq, n_ltl, n_lel, n_eql, n_llt, n_lle, n_leq, n_m1l, n_m1r, n_addl, n_ladd, nI_add, n_mul, n_mull, n_lmul, n_sub, n_subl, n_div, n_divl, n_modd, true_and, and_true, bi_s, bv_s, bM_e, bI_e, bL_e, ck_n, ck_l, ck_0, if_neg g, Ho_bv]
        refine Ho_mono (mh_hour hN w1 a2 w2 (by rw [w3]; omega)) ?_
        rintro S3 ⟨s3, a3⟩
        have a3' : Ar S3 205 435 (hvN v (i + 1)) := a3
        obtain ⟨q1', q2', q3'⟩ := hv_ok hv.1 hf9 (i + 1)
        obtain ⟨w1', w2', w3'⟩ := hv_vw hv.1 hf9 (i + 1)
        have i0 := q1' 0 (by omega)
        have i1 := q1' 1 (by omega)
        have i8 := q1' 8 (by omega)
        have hcl := thk_le (cnAt_le hv.1) i
        have hc1 := cnAt_le hv.1 (i + 1)
        have hcn : cnF (hvN v (i + 1) 8) (fogv (hvN v (i + 1))) (hvN v (i + 1) 0 * hvN v (i + 1) 1) = cnAt v (i + 1) := by
          rw [i0, i1, i8]
          exact cnF_cong b30 q3'
        have ec : f_X12_foggyMany N S3 = some (nI (cnAt v (i + 1)), S3) := by
          rw [m_count (v := hvN v (i + 1)) (by omega) (by rw [i0, i1, i8]; exact ⟨v0, v1, v8⟩) a3' w2', hcn]
        simp only [ec, bi_s]
        by_cases z : i = 0
        · subst z
          rw [if_pos rfl, if_pos (by rw [n_m1lt (by omega)]; trivial)]
          exact hk (by omega) _ _ ⟨rfl, s2.tr s3, a3'⟩
        · rw [if_neg z, if_neg z]
          by_cases c : (thk (cnAt v) i).1 < cnAt v (i + 1)
          · rw [if_pos (by rw [n_lt (by omega)]; exact c)]
            refine hk (by omega) _ _ ⟨?_, s2.tr s3, a3'⟩
            rw [if_neg (by omega), if_neg (by omega), thk, if_neg z, if_pos c]
          · rw [if_neg (by rw [n_lt (by omega)]; exact c)]
            refine hk (by omega) _ _ ⟨?_, s2.tr s3, a3'⟩
            rw [if_neg (by omega), if_neg (by omega), thk, if_neg z, if_neg c]
    · rintro r C' r' S' ⟨a, C1, b, rfl⟩ ⟨a', b'⟩
      exact ⟨a.trans a'.symm, cl_for hR hs b scr94 b' scr2⟩
  · have l0 : z < 1 := by rw [fa_lt] at hy ⊢; exact Int.lt_trans hy (by decide)
    simp only [bi_s, if_pos l0, if_true, b2i_0]
    exact Same.mk (cl_ref hR _)
  · by_cases l1 : n < 1
    · simp (disch := omega) only [n_tn, n_tl, n_t0, n_lt, n_le, n_eq, n_ltl, n_lel, n_eql, n_llt, n_lle, n_leq, n_m1l, n_m1r, n_addl, n_ladd, nI_add, n_mul, n_mull, n_lmul, n_sub, n_subl, n_div, n_divl, n_modd, bi_s, if_true, l1, b2i_0]
      exact Same.mk (cl_ref hR _)
    · have l2 : ¬ n ≤ 48 := by omega
      simp (disch := omega) only [n_tn, n_tl, n_t0, n_lt, n_le, n_eq, n_ltl, n_lel, n_eql, n_llt, n_lle, n_leq, n_m1l, n_m1r, n_addl, n_ladd, nI_add, n_mul, n_mull, n_lmul, n_sub, n_subl, n_div, n_divl, n_modd, bi_s, if_true, if_false, l1, l2, b2i_0]
      exact Same.mk (cl_ref hR _)
/-! passHours -/
theorem c_ahead {q : Nat} {M : Mem} {F G : Nat → Nat} (hN : 100 < N) (hl : ln q = 60) (hF : Ar M q 60 F) (hG : Ar M 92 60 G) (hF9 : ∀ k, k < 60 → F k ≤ 999) (hG9 : ∀ k, k < 60 → G k ≤ 999) : Ho (f_X10_isAsAhead N q M) (fun r => r.2 = M ∧ (r.1 = true → ∀ k, k < 60 → F k = G k)) := by
  unfold f_X10_isAsAhead
  refine Ho_lp (fun i a M' => a = nI i ∧ M' = M ∧ ∀ k, k < i → F k = G k) 60 (by omega) ⟨rfl, rfl, fun k hk => absurd hk (Nat.not_lt_zero k)⟩ ?_
  rintro i hi k hk _ _ ⟨rfl, rfl, h⟩
  unfold f_X10_isAsAhead_h2
  by_cases g : 60 ≤ i
  · have e : i = 60 := by omega
    simp (disch := omega) only [n_tn, n_tl, n_t0, n_lt, n_le, n_eq, n_ltl, n_lel, n_eql, n_llt, n_lle, n_leq, n_m1l, n_m1r, n_addl, n_ladd, nI_add, n_mul, n_mull, n_lmul, n_sub, n_subl, n_div, n_divl, n_modd, true_and, and_true, bi_s, bv_s, bM_e, bI_e, bL_e, ck_n, ck_l, ck_0, if_pos g, Ho_some]
    exact fun _ => e ▸ h
  · have a1 := hF i (by omega)
    have a2 := hG i (by omega)
    have l1 := hF9 i (by omega)
    have l2 := hG9 i (by omega)
    simp (disch := omega) only [n_tn, n_tl, n_t0, n_lt, n_le, n_eq, n_ltl, n_lel, n_eql, n_llt, n_lle, n_leq, n_m1l, n_m1r, n_addl, n_ladd, nI_add, n_mul, n_mull, n_lmul, n_sub, n_subl, n_div, n_divl, n_modd, true_and, and_true, bi_s, bv_s, bM_e, bI_e, bL_e, ck_n, ck_l, ck_0, if_neg g, hl, a1, a2]
    by_cases c : F i = G i
    · rw [if_pos c]
      refine hk (by omega) _ _ ⟨rfl, rfl, fun j hj => ?_⟩
      by_cases e : j = i
      · rw [e]; exact c
      · exact h j (by omega)
    · rw [if_neg c, Ho_some]
      exact ⟨rfl, fun z => by cases z⟩
def smC (v : Nat → Nat) (n : Nat) : Nat := fb_sm (fun i => cnAt v (i + 1)) n
theorem c_pass {p n : Nat} {M : Mem} {v : Nat → Nat} (hN : 200 < N) (hp : p = 10 ∨ p = 23) (hv : VW v) (v8 : v 8 ≤ 99) (h10 : v 10 < 64) (hf9 : ∀ k, k < 60 → v (103 + k) ≤ 999) (hn : n ≤ 48) (hW : PW M p v) (h4 : M.1 p 4 = nI (v 8)) (h5 : M.1 p 5 = nI (v 9)) (h6 : M.1 p 6 = nI (v 10)) (hF : Ar M (p + 6) 60 (fogv v)) : Ho (f_X10_passHours N p (nI n) M) (fun q => q.1 = nI (smC v n) ∧ Sm [p, p + 6, 91, 92] M q.2 ∧ q.2.1 p 5 = nI (v 9 + n) ∧ (∀ k, k ≠ 5 → q.2.1 p k = M.1 p k) ∧ Ar q.2 (p + 6) 60 (hrN v (v 10) (fogv v) n)) := by
  have hl : ln (p + 6) = 60 := by rcases hp with rfl | rfl <;> rfl
  have b30 := bd30 hv.1 hv.2.1
  unfold f_X10_passHours
  refine Ho_lp (fun i a M' => ∃ s : Bool, a = (nI n, nI (smC v i), (if i = 0 then 0 else nI (cnAt v i)), b2i s, nI i) ∧ (s = true → i ≠ 0 ∧ ∀ k, k < 60 → hrN v (v 10) (fogv v) (i + 1) k = hrN v (v 10) (fogv v) i k) ∧ Sm [p + 6, 91, 92] M M' ∧ Ar M' (p + 6) 60 (hrN v (v 10) (fogv v) i)) n (by omega) ⟨false, rfl, ⟨fun z => absurd z (by decide), Sm.rf, hF⟩⟩ ?_
  rintro i hi k hk _ M1 ⟨s, rfl, hst, hS1, hA1⟩
  have np : p ∉ [p + 6, 91, 92] := by simp; omega
  have np1 : p + 1 ∉ [p + 6, 91, 92] := by simp; omega
  unfold f_X10_passHours_h11 f_X10_passHours_b70
  by_cases g : n ≤ i
  · have e : i = n := by omega
    subst e
    simp (disch := omega) only [n_tn, n_tl, n_t0, n_lt, n_le, n_eq, n_ltl, n_lel, n_eql, n_llt, n_lle, n_leq, n_m1l, n_m1r, n_addl, n_ladd, nI_add, n_mul, n_mull, n_lmul, n_sub, n_subl, n_div, n_divl, n_modd, true_and, and_true, bi_s, bv_s, bM_e, bI_e, bL_e, ck_n, ck_l, ck_0, Nat.le_refl, if_true, Ho_some, hS1.at np h5]
    refine ⟨(hS1.mono (by simp)).uI (by simp), by rw [g_uI, if_pos rfl, g_upd, if_pos rfl], fun k hk => by rw [g_uI, if_pos rfl, g_upd, if_neg hk, hS1.2 p np], hA1.oth (by omega)⟩
  · have hle := hrN_le (g := v 10) hv hf9 i
    have hsm : smC v (i + 1) = smC v i + cnAt v (i + 1) := rfl
    cases s with
    | false =>
      simp (disch := omega) only [n_tn, n_tl, n_t0, n_lt, n_le, n_eq, n_ltl, n_lel, n_eql, n_llt, n_lle, n_leq, n_m1l, n_m1r, n_addl, n_ladd, nI_add, n_mul, n_mull, n_lmul, n_sub, n_subl, n_div, n_divl, n_modd, true_and, and_true, bi_s, bv_s, bM_e, bI_e, bL_e, ck_n, ck_l, ck_0, if_neg g, b2i_0, if_true]
      have hS2 : Sm [p + 6, 91, 92] M (rI M1 92 (va_cpy (M1.1 (p + 6)) (M1.1 92) (tn 0) (tn 0) (tn 60))) := hS1.rI (by simp)
      have hB2 : Ar (rI M1 92 (va_cpy (M1.1 (p + 6)) (M1.1 92) (tn 0) (tn 0) (tn 60))) 92 60 (hrN v (v 10) (fogv v) i) := cpy60 hA1
      have hA2 : Ar (rI M1 92 (va_cpy (M1.1 (p + 6)) (M1.1 92) (tn 0) (tn 0) (tn 60))) (p + 6) 60 (hrN v (v 10) (fogv v) i) := hA1.same (by rw [g_rI, if_neg (by omega)])
      simp only [n_t0, n_tl 60 (by decide)] at hS2 hB2 hA2
      generalize hM2 : rI M1 92 (va_cpy (M1.1 (p + 6)) (M1.1 92) 0 0 60) = M2 at *
      rw [hS2.at np h6, Ho_bv]
      refine Ho_mono (cw_hour (by omega) hv hl (by omega) (by omega) (hW.same (hS2.2 _ np) (hS2.2 _ np1)) hA2 hle (by omega)) ?_
      rintro M3 ⟨hS3, hA3⟩
      have hS : Sm [p + 6, 91, 92] M M3 := hS2.tr (hS3.mono (by simp))
      rw [c_count (v := v) (by omega) ⟨hv.1, hv.2.1, v8⟩ hl (hS.at np hW.1) (hS.at np hW.2.1) (hS.at np h4) hA3 (hrF_le hv hle), bi_s, Ho_bi]
      refine Ho_mono (c_ahead (by omega) hl hA3 (hB2.same (hS3.2 92 (by simp; omega))) (hrF_le hv hle) hle) ?_
      rintro ⟨s', M4⟩ ⟨e4, hs'⟩
      dsimp only at e4 hs' ⊢
      subst e4
      refine hk (by omega) _ _ ⟨s', ?_, fun z => ⟨by omega, fun k hk => ?_⟩, hS, hA3⟩
      · rw [if_neg (by omega), hsm, show cnAt v (i + 1) = cnF (v 8) (hrF v (v 10) (hrN v (v 10) (fogv v) i)) (v 0 * v 1) from rfl, nI_add]
      · exact hrF_cong hv (fun _ _ _ => rfl) (hs' z) k hk
    | true =>
      obtain ⟨hi0, hfix⟩ := hst rfl
      have hcc : cnAt v (i + 1) = cnAt v i := cnF_cong b30 hfix
      simp (disch := omega) only [n_tn, n_tl, n_t0, n_lt, n_le, n_eq, n_ltl, n_lel, n_eql, n_llt, n_lle, n_leq, n_m1l, n_m1r, n_addl, n_ladd, nI_add, n_mul, n_mull, n_lmul, n_sub, n_subl, n_div, n_divl, n_modd, true_and, and_true, bi_s, bv_s, bM_e, bI_e, bL_e, ck_n, ck_l, ck_0, if_neg g, b2i_0, Bool.true_eq_false, if_false, if_neg hi0]
      refine hk (by omega) _ _ ⟨true, ?_, fun _ => ⟨by omega, fun k hk => hrF_cong hv (fun _ _ _ => rfl) hfix k hk⟩, hS1, hA1.cong fun k hk => (hfix k hk).symm⟩
      rw [if_neg (by omega), hsm, hcc]
end C4
