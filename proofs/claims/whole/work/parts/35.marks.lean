theorem letF_oth {v F : Nat → Nat} {g k : Nat} (hv : VW v) (hk : (k < 30 ∧ v 0 * v 1 ≤ k) ∨ 30 + v 0 * v 1 ≤ k) : ∀ n, n ≤ v 2 → letF v g F n k = F k
  | 0, _ => rfl
  | n + 1, hn => by
    have ih := letF_oth (F := F) (g := g) hv hk n (by omega)
    have h := hv.2.2.2.2.2 n (by omega)
    have h1 := bd h.1 h.2.1
    have b30 := bd30 hv.1 hv.2.1
    unfold letF
    split
    · unfold pt
      rw [if_neg, ih]
      unfold gpl
      have : v (29 + n) = 0 ∨ v (29 + n) = 1 := by omega
      rcases this with e | e <;> rw [e] <;> omega
    · exact ih
theorem hrF_oth {v F : Nat → Nat} {g k : Nat} (hv : VW v) (hk : (k < 30 ∧ v 0 * v 1 ≤ k) ∨ 30 + v 0 * v 1 ≤ k) : hrF v g F k = F k := by
  have b30 := bd30 hv.1 hv.2.1
  unfold hrF stl
  rw [if_neg (by omega), if_neg (by omega), drf_oth (by omega) _ (Nat.le_refl _), drf_oth (by omega) _ (Nat.le_refl _), letF_oth hv hk _ (Nat.le_refl _)]
theorem hrN_oth {v F : Nat → Nat} {g k : Nat} (hv : VW v) (hk : (k < 30 ∧ v 0 * v 1 ≤ k) ∨ 30 + v 0 * v 1 ≤ k) : ∀ n, hrN v g F n k = F k
  | 0 => rfl
  | n + 1 => by rw [hrN, hrF_oth hv hk, hrN_oth hv hk n]
section C5
variable {N : Nat} {C S : Mem}
theorem e_hour (hN : 200 < N) (h : Rel C S) (z : Int32) : Same (f_X11_hour N z C) (f_X12_hour N z S) := by
  have hR := Re.go h
  have hs := S0_st S 0 0
  unfold f_X11_hour f_X12_hour f_X11_refused f_X11_answered f_X12_refuse
  simp only [bM_e]
  generalize uI (uI S 200 1 0) 200 0 0 = S at *
  obtain ⟨v, hv, h9, hC, hA, hn2⟩ := hR.get
  have hf9 := hv.2.2.2.2.2.2.2.2.2.2.1
  have h10 := hv.2.2.2.2.2.1
  have v8 := hv.2.2.2.2.1
  have p64 := pow_le64 hv.1.2.2.1
  have hz := hv.2.2.2.2.2.2.2.2.2.2.2
  have b30 := bd30 hv.1.1 hv.1.2.1
  obtain ⟨q, e3, hq⟩ := in_is 1 48 (by omega) S z
  rw [show f_X12_isIn z.toInt64 1 48 S = _ from e3]
  rcases hq with ⟨rfl, n, hn1, hn, rfl⟩ | ⟨rfl, hy | ⟨n, hn, hw, rfl⟩⟩
  · have l1 : ¬ n < 1 := by omega
    simp (disch := omega) only [n_tn, n_tl, n_t0, n_lt, n_le, n_eq, n_ltl, n_lel, n_eql, n_llt, n_lle, n_leq, n_m1l, n_m1r, n_addl, n_ladd, nI_add, n_mul, n_mull, n_lmul, n_sub, n_subl, n_div, n_divl, n_modd, true_and, and_true, bi_s, bv_s, bM_e, bI_e, bL_e, ck_n, ck_l, ck_0, if_false, if_true, l1, hn, Bool.true_eq_false, b2i_0, hA 9 (by omega), hC.2.2.1]
    by_cases g : v 9 + n ≤ 9999
    · rw [if_pos g, if_pos g]
      obtain ⟨w1, w2, w3⟩ := hv_vw hv.1 hf9 n
      obtain ⟨q1, q2, q3⟩ := hv_ok hv.1 hf9 n
      refine Same.two (P := fun q => q.1 = nI (v 9 + n) ∧ ∃ C1, Sm [10, 10 + 6, 91, 92] C C1 ∧ C1.1 10 5 = nI (v 9 + n) ∧ (∀ k, k ≠ 5 → C1.1 10 k = C.1 10 k) ∧ Ar C1 16 60 (hrN v (v 10) (fogv v) n) ∧ q.2 = uI C1 0 0 0) (P' := fun q => q.1 = nI (v 9 + n) ∧ SmH S q.2 ∧ Ar q.2 205 435 (hvN v n)) ?_ ?_ ?_
      · rw [Ho_bi]
        refine Ho_mono (c_pass (v := v) hN (Or.inl rfl) hv.1 v8 (by omega) hf9 hn hC.1 hC.2.1 hC.2.2.1 hC.2.2.2.1 hC.2.2.2.2.2.2.2.2.2.2.2.1) ?_
        rintro ⟨r, C1⟩ ⟨-, a2, a3, a4, a5⟩
        dsimp only at a2 a3 a4 a5 ⊢
        rw [Ho_some]
        exact ⟨a3, C1, a2, a3, a4, a5, rfl⟩
      · refine Ho_lp (fun i a S' => a = (nI n, nI i) ∧ SmH S S' ∧ Ar S' 205 435 (hvN v i)) n (by omega) ⟨rfl, SmH.rf, hA⟩ ?_
        rintro i hi k hk _ S2 ⟨rfl, s2, a2⟩
        obtain ⟨w1, w2, w3⟩ := hv_vw hv.1 hf9 i
        obtain ⟨q1, q2, q3⟩ := hv_ok hv.1 hf9 i
        unfold f_X12_hour_h52
        by_cases g2 : n ≤ i
        · have e : i = n := by omega
          subst e
          simp (disch := omega) only [n_tn, n_tl, n_t0, n_lt, n_le, n_eq, n_ltl, n_lel, n_eql, n_llt, n_lle, n_leq, n_m1l, n_m1r, n_addl, n_ladd, nI_add, n_mul, n_mull, n_lmul, n_sub, n_subl, n_div, n_divl, n_modd, true_and, and_true, bi_s, bv_s, bM_e, bI_e, bL_e, ck_n, ck_l, ck_0, if_pos g2, Ho_some, a2 9 (by omega), q2]
          exact ⟨s2, a2⟩
        · simp (disch := omega) only [n_tn, n_tl, n_t0, n_lt, n_le, n_eq, n_ltl, n_lel, n_eql, n_llt, n_lle, n_leq, n_m1l, n_m1r, n_addl, n_ladd, nI_add, n_mul, n_mull, n_lmul, n_sub, n_subl, n_div, n_divl, n_modd, true_and, and_true, bi_s, bv_s, bM_e, bI_e, bL_e, ck_n, ck_l, ck_0, if_neg g2, Ho_bv]
          refine Ho_mono (mh_hour hN w1 a2 w2 (by rw [w3]; omega)) ?_
          rintro S3 ⟨s3, a3⟩
          exact hk (by omega) _ _ ⟨rfl, s2.tr s3, a3⟩
      · rintro r C' r' S' ⟨a, C1, b1, b2, b3, b4, rfl⟩ ⟨a', b', c'⟩
        refine ⟨a.trans a'.symm, hR.doing hv hC hn2 ((KC.sm b1 (by intro c hc; simp at hc; unfold scrC; omega)).st 0) (KS.smH b') ?_ c' (fun i hi => q1 i (by omega)) (by rw [q2]; exact g) (by rw [q1 6 (by omega)]; exact hv.1.2.2.2.1) (by rw [q1 10 (by omega)]; exact h10) (fun k k1 k2 k3 => ?_) ?_ ?_ ?_ (fun j hj => ?_) (Or.inl ⟨?_, fun i i1 i2 => q1 i (by omega)⟩) (Or.inr ⟨w2, fun b k1 k2 => ?_, ?_⟩)⟩
        · rw [g_uI, if_pos rfl, g_upd, if_pos rfl, b'.1.2 200 (by simp), hs]
        · rw [g_uI, if_neg (by decide), b3 k k2]
        · rw [g_uI, if_neg (by decide), b3 2 (by decide), q1 6 (by omega)]; exact hC.1.2.2.1
        · rw [g_uI, if_neg (by decide), b2, q2]
        · rw [g_uI, if_neg (by decide), b3 6 (by decide), q1 10 (by omega)]; exact hC.2.2.2.1
        · rw [g_uI, if_neg (by omega), b1.2 j (by simp; omega)]
        · rw [g_uI, if_neg (by omega), b1.2 15 (by simp)]
        · have := hz b k1 k2
          rw [q3 b (by omega), show 133 + b = 103 + (30 + b) by omega, q3 (30 + b) (by omega), hrN_oth hv.1 (by omega), hrN_oth hv.1 (by omega)]
          exact ⟨this.1, by show v (103 + (30 + b)) = 0; rw [show 103 + (30 + b) = 133 + b by omega]; exact this.2⟩
        · exact (b4.cong fun k hk => (q3 k hk).symm).oth (by decide)
    · rw [if_neg g, if_neg g]
      exact Same.mk (cl_ref hR _)
  · have l0 : z < 1 := by rw [fa_lt] at hy ⊢; exact Int.lt_trans hy (by decide)
    simp only [bi_s, if_pos l0, if_true, b2i_0]
    exact Same.mk (cl_ref hR _)
  · by_cases l1 : n < 1
    · simp (disch := omega) only [n_tn, n_tl, n_t0, n_lt, n_le, n_eq, n_ltl, n_lel, n_eql, n_llt, n_lle, n_leq, n_m1l, n_m1r, n_addl, n_ladd, nI_add, n_mul, n_mull, n_lmul, n_sub, n_subl, n_div, n_divl, n_modd, bi_s, if_true, l1, b2i_0]
      exact Same.mk (cl_ref hR _)
    · have l2 : ¬ n ≤ 48 := by omega
      simp (disch := omega) only [n_tn, n_tl, n_t0, n_lt, n_le, n_eq, n_ltl, n_lel, n_eql, n_llt, n_lle, n_leq, n_m1l, n_m1r, n_addl, n_ladd, nI_add, n_mul, n_mull, n_lmul, n_sub, n_subl, n_div, n_divl, n_modd, bi_s, if_true, if_false, l1, l2, b2i_0]
      exact Same.mk (cl_ref hR _)
theorem PN.bool {q : Nat} {v : Nat → Nat} (h : PN C q v) : ∃ b, C.1 q 0 = b2i b := by
  obtain ⟨a, b, -⟩ := h
  have : v 163 = 0 ∨ v 163 = 1 := by omega
  rcases this with e | e
  · exact ⟨false, by rw [b, e]; rfl⟩
  · exact ⟨true, by rw [b, e]; rfl⟩
theorem e_mark (hN : 500 < N) (h : Rel C S) : Same (f_X11_mark C) (f_X12_mark N S) := by
  have hR := Re.go h
  have hs := S0_st S 0 0
  unfold f_X11_mark f_X12_mark f_X11_refused f_X11_answered f_X12_refuse
  simp only [bM_e]
  generalize uI (uI S 200 1 0) 200 0 0 = S at *
  have hR0 := hR
  obtain ⟨ra, rb, rc, rd, ⟨n, hn, m1, m2, m3⟩, re, rf⟩ := hR0
  rw [m1, m2]
  by_cases g : n = 3
  · subst g
    rw [if_neg (by decide), if_pos (by decide)]
    exact Same.mk (cl_ref hR _)
  · have g2 : n < 3 := by omega
    obtain ⟨v, hv, h9, hC, hA, hnm⟩ := rd
    obtain ⟨b, hb⟩ := hC.2.2.2.2.2.2.2.2.2.2.2.2.bool
    simp (disch := omega) only [n_tn, n_tl, n_t0, n_lt, n_le, n_eq, n_ltl, n_lel, n_eql, n_llt, n_lle, n_leq, n_m1l, n_m1r, n_addl, n_ladd, nI_add, n_mul, n_mull, n_lmul, n_sub, n_subl, n_div, n_divl, n_modd, true_and, and_true, bi_s, bv_s, bM_e, bI_e, bL_e, ck_n, ck_l, ck_0, g, if_false, if_pos g2]
    refine Same.two (P := fun q => q.1 = nI (n + 1) ∧ ∃ C1, Out (37 + 13 * n) (37 + 13 * n + 13) C C1 ∧ PEq C 10 C1 (37 + 13 * n) ∧ q.2 = uI (uI C1 0 4 (nI (n + 1))) 0 0 0) (P' := fun q => q.1 = nI (n + 1) ∧ q.2.1 200 24 = nI (n + 1) ∧ (∀ k, k ≠ 24 → q.2.1 200 k = S.1 200 k) ∧ (∀ c, c ≠ 200 → c ≠ 205 → q.2.1 c = S.1 c) ∧ (∀ c, c ≠ 208 → q.2.2 c = S.2 c) ∧ (∀ k, k < 435 → q.2.1 205 (435 * (n + 1) + k) = S.1 205 k) ∧ (∀ k, k < 435 * (n + 1) ∨ 435 * (n + 1) + 435 ≤ k → q.2.1 205 k = S.1 205 k) ∧ (∀ k, k < 22 → q.2.2 208 (22 * (n + 1) + k) = S.2 208 k) ∧ (∀ k, k < 22 * (n + 1) ∨ 22 * (n + 1) + 22 ≤ k → q.2.2 208 k = S.2 208 k)) ?_ ?_ ?_
    · rw [Ho_bv]
      refine Ho_mono (c_copy (b := b) (by omega) hb) ?_
      rintro C1 ⟨o, pe⟩
      have e0 : C1.1 0 4 = nI n := by rw [(o 0 (by omega)).1]; exact m1
      simp (disch := omega) only [e0, n_tn, n_tl, n_t0, n_lt, n_le, n_eq, n_ltl, n_lel, n_eql, n_llt, n_lle, n_leq, n_m1l, n_m1r, n_addl, n_ladd, nI_add, n_mul, n_mull, n_lmul, n_sub, n_subl, n_div, n_divl, n_modd, true_and, and_true, bi_s, bv_s, bM_e, bI_e, bL_e, ck_n, ck_l, ck_0, Ho_some]
      refine ⟨?_, C1, o, pe, rfl⟩
      rw [g_uI, if_pos rfl, g_upd, if_pos rfl]
    · have e1 : (uI S 200 24 (nI (n + 1))).1 200 24 = nI (n + 1) := by rw [g_uI, if_pos rfl, g_upd, if_pos rfl]
      rw [e1, Ho_bv]
      refine Ho_mono (m_copy (a := 0) (b := n + 1) hN (by omega)) ?_
      rintro S1 ⟨s1, s2, s3, s4, s5, s6⟩
      rw [Ho_some]
      dsimp only
      have s24 : S1.1 200 24 = nI (n + 1) := by rw [s1 200 (by decide)]; exact e1
      refine ⟨s24, s24, fun k hk => ?_, fun c h1 h2 => ?_, fun c hc => ?_, fun k hk => ?_, fun k hk => ?_, fun k hk => ?_, fun k hk => ?_⟩
      · rw [s1 200 (by decide), g_uI, if_pos rfl, g_upd, if_neg hk]
      · rw [s1 c h2, g_uI, if_neg h1]
      · rw [s2 c hc]; rfl
      · rw [s3 k hk, g_uI, if_neg (by decide), Nat.mul_zero, Nat.zero_add]
      · rw [s4 k hk, g_uI, if_neg (by decide)]
      · rw [s5 k hk, Nat.mul_zero, Nat.zero_add]; rfl
      · rw [s6 k hk]; rfl
    · rintro r C' r' S' ⟨a, C1, o, pe, rfl⟩ ⟨a', t1, t2, t3, t4, t5, t6, t7, t8⟩
      dsimp only at a' t1 t2 t3 t4 t5 t6 t7 t8
      have oc : ∀ c, c ≠ 0 → c < 37 + 13 * n ∨ 37 + 13 * n + 13 ≤ c → (uI (uI C1 0 4 (nI (n + 1))) 0 0 0).1 c = C.1 c := fun c h0 hc => by rw [g_uI, if_neg h0, g_uI, if_neg h0, (o c hc).1]
      have oc0 : ∀ k, k ≠ 0 → k ≠ 4 → (uI (uI C1 0 4 (nI (n + 1))) 0 0 0).1 0 k = C.1 0 k := fun k h0 h4 => by rw [g_uI, if_pos rfl, g_upd, if_neg h0, g_uI, if_pos rfl, g_upd, if_neg h4, (o 0 (by omega)).1]
      have oL : ∀ c, c < 37 + 13 * n ∨ 37 + 13 * n + 13 ≤ c → (uI (uI C1 0 4 (nI (n + 1))) 0 0 0).2 c = C.2 c := fun c hc => (o c hc).2
      refine ⟨a.trans a'.symm, ?_, ra.same (by rw [oL 0 (by omega)]) (by rw [oL 0 (by omega)]) (by rw [t4 200 (by decide)]) (by rw [t4 200 (by decide)]), rb.same (oc0 3 (by decide) (by decide)) (oc 1 (by decide) (by omega)) (t2 8 (by decide)) (t3 204 (by decide) (by decide)), rc.same (oc 8 (by decide) (by omega)) (oc 9 (by decide) (by omega)) (fun t ht => oL _ (by omega)) (t3 201 (by decide) (by decide)) (t3 202 (by decide) (by decide)) (t4 203 (by decide)), PB.same ⟨v, hv, h9, hC, hA, hnm⟩ (fun j hj => oc _ (by omega) (by omega)) (oL _ (by omega)) (fun k hk => t6 _ (by omega)) (fun k hk => t8 _ (by omega)), ⟨n + 1, by omega, ?_, t1, fun j hj => ?_⟩, re.same (by rw [oc 82 (by decide) (by omega)]) (by rw [oc 82 (by decide) (by omega)]) (t2 10 (by decide)) (t2 11 (by decide)), rf.same (oc 107 (by decide) (by omega)) (t2 42 (by decide)) (t3 219 (by decide) (by decide))⟩
      · rw [t2 0 (by decide), hs, g_uI, if_pos rfl, g_upd, if_pos rfl]
      · rw [g_uI, if_pos rfl, g_upd, if_neg (by decide), g_uI, if_pos rfl, g_upd, if_pos rfl]
      · by_cases e : j = n
        · subst e
          refine ⟨v, hv, h9, ?_, fun k hk => ?_, fun q hq => ?_⟩
          · refine (PC.eq hv hC pe).same fun q hq => ?_
            rw [g_uI, if_neg (by omega), g_uI, if_neg (by omega)]
          · rw [t5 k hk]
            have := hA k hk
            rwa [Nat.mul_zero, Nat.zero_add] at this
          · have v2 := hv.1.2.2.1
            rw [t7 q (by omega)]
            have := hnm q hq
            rw [Nat.mul_zero, Nat.zero_add] at this
            rw [← this]
            exact pe.2.2.1 q (by omega)
        · exact (m3 j (by omega)).same (fun q hq => oc _ (by omega) (by omega)) (oL _ (by omega)) (fun k hk => t6 _ (by omega)) (fun k hk => t8 _ (by omega))
theorem e_back (hN : 500 < N) (h : Rel C S) : Same (f_X11_back C) (f_X12_back N S) := by
  have hR := Re.go h
  have hs := S0_st S 0 0
  unfold f_X11_back f_X12_back f_X11_refused f_X11_answered f_X12_refuse
  simp only [bM_e]
  generalize uI (uI S 200 1 0) 200 0 0 = S at *
  have hR0 := hR
  obtain ⟨ra, rb, rc, rd, ⟨n, hn, m1, m2, m3⟩, re, rf⟩ := hR0
  rw [m1, m2]
  by_cases g : n = 0
  · subst g
    rw [if_neg (by decide), if_pos (by decide)]
    exact Same.mk (cl_ref hR _)
  · obtain ⟨n, rfl⟩ : ∃ m, n = m + 1 := ⟨n - 1, by omega⟩
    obtain ⟨v, hv, h9, hC, hA, hnm⟩ := m3 n (by omega)
    obtain ⟨b, hb⟩ := hC.2.2.2.2.2.2.2.2.2.2.2.2.bool
    have g2 : 0 < n + 1 := by omega
    have e0 : (uI C 0 4 (nI n)).1 0 4 = nI n := by rw [g_uI, if_pos rfl, g_upd, if_pos rfl]
    simp (disch := omega) only [n_tn, n_tl, n_t0, n_lt, n_le, n_eq, n_ltl, n_lel, n_eql, n_llt, n_lle, n_leq, n_m1l, n_m1r, n_addl, n_ladd, nI_add, n_mul, n_mull, n_lmul, n_sub, n_subl, n_div, n_divl, n_modd, true_and, and_true, bi_s, bv_s, bM_e, bI_e, bL_e, ck_n, ck_l, ck_0, g, if_false, if_pos g2, Nat.add_sub_cancel, e0]
    refine Same.two (P := fun q => q.1 = nI n ∧ ∃ C1, Out 10 23 (uI C 0 4 (nI n)) C1 ∧ PEq (uI C 0 4 (nI n)) (37 + 13 * n) C1 10 ∧ q.2 = uI C1 0 0 0) (P' := fun q => q.1 = nI n ∧ q.2.1 200 24 = nI n ∧ (∀ k, k ≠ 24 → q.2.1 200 k = S.1 200 k) ∧ (∀ c, c ≠ 200 → c ≠ 205 → q.2.1 c = S.1 c) ∧ (∀ c, c ≠ 208 → q.2.2 c = S.2 c) ∧ (∀ k, k < 435 → q.2.1 205 k = S.1 205 (435 * (n + 1) + k)) ∧ (∀ k, 435 ≤ k → q.2.1 205 k = S.1 205 k) ∧ (∀ k, k < 22 → q.2.2 208 k = S.2 208 (22 * (n + 1) + k)) ∧ (∀ k, 22 ≤ k → q.2.2 208 k = S.2 208 k)) ?_ ?_ ?_
    · rw [Ho_bv]
      refine Ho_mono (c_copy (p0 := 10) (p1 := 37 + 13 * n) (b := b) (by omega) (by rw [g_uI, if_neg (by omega)]; exact hb)) ?_
      rintro C1 ⟨o, pe⟩
      have e4 : C1.1 0 4 = nI n := by rw [(o 0 (by omega)).1]; exact e0
      simp (disch := omega) only [e4, n_tn, n_tl, n_t0, n_lt, n_le, n_eq, n_ltl, n_lel, n_eql, n_llt, n_lle, n_leq, n_m1l, n_m1r, n_addl, n_ladd, nI_add, n_mul, n_mull, n_lmul, n_sub, n_subl, n_div, n_divl, n_modd, true_and, and_true, bi_s, bv_s, bM_e, bI_e, bL_e, ck_n, ck_l, ck_0, Ho_some]
      exact ⟨C1, o, pe, rfl⟩
    · rw [Ho_bv]
      refine Ho_mono (m_copy (a := n + 1) (b := 0) hN (by omega)) ?_
      rintro S1 ⟨s1, s2, s3, s4, s5, s6⟩
      have s24 : S1.1 200 24 = nI (n + 1) := by rw [s1 200 (by decide)]; exact m2
      simp (disch := omega) only [s24, n_tn, n_tl, n_t0, n_lt, n_le, n_eq, n_ltl, n_lel, n_eql, n_llt, n_lle, n_leq, n_m1l, n_m1r, n_addl, n_ladd, nI_add, n_mul, n_mull, n_lmul, n_sub, n_subl, n_div, n_divl, n_modd, true_and, and_true, bi_s, bv_s, bM_e, bI_e, bL_e, ck_n, ck_l, ck_0, Ho_some, Nat.add_sub_cancel]
      have e24 : (uI S1 200 24 (nI n)).1 200 24 = nI n := by rw [g_uI, if_pos rfl, g_upd, if_pos rfl]
      refine ⟨e24, e24, fun k hk => ?_, fun c h1 h2 => ?_, fun c hc => ?_, fun k hk => ?_, fun k hk => ?_, fun k hk => ?_, fun k hk => ?_⟩
      · rw [g_uI, if_pos rfl, g_upd, if_neg hk, s1 200 (by decide)]
      · rw [g_uI, if_neg h1, s1 c h2]
      · exact s2 c hc
      · have := s3 k hk
        rw [Nat.mul_zero, Nat.zero_add] at this
        rw [g_uI, if_neg (by decide), this]
      · rw [g_uI, if_neg (by decide), s4 k (by omega)]
      · have := s5 k hk
        rw [Nat.mul_zero, Nat.zero_add] at this
        exact this
      · exact s6 k (by omega)
    · rintro r C' r' S' ⟨a, C1, o, pe, rfl⟩ ⟨a', t1, t2, t3, t4, t5, t6, t7, t8⟩
      dsimp only at a' t1 t2 t3 t4 t5 t6 t7 t8
      have oc : ∀ c, c ≠ 0 → c < 10 ∨ 23 ≤ c → (uI C1 0 0 0).1 c = C.1 c := fun c h0 hc => by rw [g_uI, if_neg h0, (o c hc).1, g_uI, if_neg h0]
      have oc0 : ∀ k, k ≠ 0 → k ≠ 4 → (uI C1 0 0 0).1 0 k = C.1 0 k := fun k h0 h4 => by rw [g_uI, if_pos rfl, g_upd, if_neg h0, (o 0 (by omega)).1, g_uI, if_pos rfl, g_upd, if_neg h4]
      have oL : ∀ c, c < 10 ∨ 23 ≤ c → (uI C1 0 0 0).2 c = C.2 c := fun c hc => (o c hc).2
      refine ⟨a.trans a'.symm, ?_, ra.same (by rw [oL 0 (by omega)]) (by rw [oL 0 (by omega)]) (by rw [t4 200 (by decide)]) (by rw [t4 200 (by decide)]), rb.same (oc0 3 (by decide) (by decide)) (oc 1 (by decide) (by omega)) (t2 8 (by decide)) (t3 204 (by decide) (by decide)), rc.same (oc 8 (by decide) (by omega)) (oc 9 (by decide) (by omega)) (fun t ht => oL _ (by omega)) (t3 201 (by decide) (by decide)) (t3 202 (by decide) (by decide)) (t4 203 (by decide)), ?_, ⟨n, by omega, ?_, t1, fun j hj => ?_⟩, re.same (by rw [oc 82 (by decide) (by omega)]) (by rw [oc 82 (by decide) (by omega)]) (t2 10 (by decide)) (t2 11 (by decide)), rf.same (oc 107 (by decide) (by omega)) (t2 42 (by decide)) (t3 219 (by decide) (by decide))⟩
      · rw [t2 0 (by decide), hs, g_uI, if_pos rfl, g_upd, if_pos rfl]
      · have hC2 : PC (uI C 0 4 (nI n)) (37 + 13 * n) v := hC.same fun j hj => by rw [g_uI, if_neg (by omega)]
        refine ⟨v, hv, h9, (PC.eq hv hC2 pe).same fun j hj => by rw [g_uI, if_neg (by omega)], fun k hk => ?_, fun q hq => ?_⟩
        · rw [Nat.mul_zero, Nat.zero_add, t5 k hk]
          exact hA k hk
        · have v2 := hv.1.2.2.1
          rw [Nat.mul_zero, Nat.zero_add, t7 q (by omega), ← hnm q hq]
          exact pe.2.2.1 q (by omega)
      · rw [g_uI, if_pos rfl, g_upd, if_neg (by decide), (o 0 (by omega)).1]
        exact e0
      · exact (m3 j (by omega)).same (fun q hq => oc _ (by omega) (by omega)) (oL _ (by omega)) (fun k hk => t6 _ (by omega)) (fun k hk => t8 _ (by omega))
theorem e_lived (h : Rel C S) (z : Int32) : Same (f_X11_lived z C) (f_X12_lived z S) := by
  have hR := Re.go h
  have hs := S0_st S 0 0
  unfold f_X11_lived f_X12_lived f_X11_refused f_X11_answered f_X12_refuse f_X2_factOf
  simp only [bM_e]
  generalize uI (uI S 200 1 0) 200 0 0 = S at *
  obtain ⟨b, l1, l2, l3⟩ := hR.2.2.2.2.2.2
  obtain ⟨q, e3, hq⟩ := in_is 0 4 (by omega) S z
  rw [show f_X12_isIn z.toInt64 0 4 S = _ from e3]
  rcases hq with ⟨rfl, n, hn1, hn, rfl⟩ | ⟨rfl, hy | ⟨n, hn, hw, rfl⟩⟩
  · have g0 : ¬ n < 0 := by omega
    have g1 : n < 5 := by omega
    simp (disch := omega) only [n_tn, n_tl, n_t0, n_lt, n_le, n_eq, n_ltl, n_lel, n_eql, n_llt, n_lle, n_leq, n_m1l, n_m1r, n_addl, n_ladd, nI_add, n_mul, n_mull, n_lmul, n_sub, n_subl, n_div, n_divl, n_modd, true_and, and_true, bi_s, bv_s, bM_e, bI_e, bL_e, ck_n, ck_l, ck_0, if_false, if_true, g0, g1, Bool.true_eq_false, b2i_0, l1, l2]
    cases b with
    | false =>
      simp only [if_true]
      exact Same.mk (cl_ref hR _)
    | true =>
      obtain ⟨c, f0, f1, f2, f3, f4, f5⟩ := l3 rfl
      simp only [Bool.true_eq_false, if_false]
      obtain rfl | rfl | rfl | rfl | rfl : n = 0 ∨ n = 1 ∨ n = 2 ∨ n = 3 ∨ n = 4 := by omega
      · simp only [f0, if_true, bi_s]
        exact Same.mk (cl_ok hR hs)
      · simp [f1, bi_s]
        exact Same.mk (cl_ok hR hs)
      · simp [f2, bi_s]
        exact Same.mk (cl_ok hR hs)
      · simp [f3, bi_s]
        exact Same.mk (cl_ok hR hs)
      · simp [f4, f5, bi_s, b2i_0]
        cases c
        · simp [bi_s, b2i]
          exact Same.mk (cl_ok hR hs)
        · simp [bi_s, b2i]
          exact Same.mk (cl_ok hR hs)
  · simp only [bi_s, if_pos hy, if_true, b2i_0]
    exact Same.mk (cl_ref hR _)
  · have g0 : ¬ n < 0 := by omega
    have g1 : ¬ n < 5 := by omega
    simp (disch := omega) only [n_tn, n_tl, n_t0, n_lt, n_le, n_eq, n_ltl, n_lel, n_eql, n_llt, n_lle, n_leq, n_m1l, n_m1r, n_addl, n_ladd, nI_add, n_mul, n_mull, n_lmul, n_sub, n_subl, n_div, n_divl, n_modd, bi_s, if_true, if_false, g0, g1, b2i_0]
    exact Same.mk (cl_ref hR _)
end C5
