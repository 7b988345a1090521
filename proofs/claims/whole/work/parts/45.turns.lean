section D6
variable {N : Nat} {C S M : Mem} {v : Nat → Nat}
/-- the model's frame while it turns -/
def SmT (S S' : Mem) : Prop := S'.2 = S.2 ∧ (∀ c, c ≠ 200 → c ≠ 205 → c ≠ 207 → c ≠ 209 → c ≠ 210 → S'.1 c = S.1 c) ∧ (∀ k, k ≠ 28 → k ≠ 29 → k ≠ 30 → S'.1 200 k = S.1 200 k) ∧ ∀ k, 163 ≤ k → S'.1 205 k = S.1 205 k
theorem SmT.rf : SmT S S := ⟨rfl, fun _ _ _ _ _ _ => rfl, fun _ _ _ _ => rfl, fun _ _ => rfl⟩
theorem SmT.tr {S1 S2 : Mem} (h : SmT S S1) (h2 : SmT S1 S2) : SmT S S2 := ⟨h2.1.trans h.1, fun c a b d e f => (h2.2.1 c a b d e f).trans (h.2.1 c a b d e f), fun k a b d => (h2.2.2.1 k a b d).trans (h.2.2.1 k a b d), fun k a => (h2.2.2.2 k a).trans (h.2.2.2 k a)⟩
theorem SmT.u {S1 : Mem} {j : Nat} {x : Int32} (h : SmT S S1) (hj : j = 28 ∨ j = 29 ∨ j = 30) : SmT S (uI S1 200 j x) := h.tr ⟨rfl, fun c a _ _ _ _ => u_ne a, fun k a b d => by rw [us_same, g_upd, if_neg (by omega)], fun k _ => by rw [u_ne (by decide)]⟩
theorem SmT.c {S1 : Mem} {j : Nat} {x : Int32} (h : SmT S S1) (hj : j < 163) : SmT S (uI S1 205 j x) := h.tr ⟨rfl, fun c _ b _ _ _ => u_ne b, fun k _ _ _ => by rw [u_ne (by decide)], fun k a => by rw [us_same, g_upd, if_neg (by omega)]⟩
theorem SmT.b {S1 : Mem} {e j : Nat} {x : Int32} (h : SmT S S1) (he : e = 207 ∨ e = 210) : SmT S (uI S1 e j x) := h.tr ⟨rfl, fun c _ _ a _ b => u_ne (by omega), fun k _ _ _ => by rw [u_ne (by omega)], fun k _ => by rw [u_ne (by omega)]⟩
theorem SmT.h {S1 S2 : Mem} {w w2 : Nat → Nat} (h : SmT S S1) (h2 : SmH S1 S2) (a1 : Ar S1 205 435 w) (a2 : Ar S2 205 435 w2) (e : ∀ k, 163 ≤ k → w2 k = w k) : SmT S S2 := h.tr ⟨h2.1.1, fun c _ b _ d _ => h2.1.2 c (by simp [b, d]), fun k _ _ _ => by rw [h2.1.2 200 (by simp)], fun k hk => by
  by_cases g : k < 435
  · rw [a2 k g, a1 k g, e k hk]
  · exact h2.2 k (by omega)⟩
theorem m_turns {h : Nat} (hN : 200 < N) (hv : VV v) (hA : Ar S 205 435 v) (hh : 1 ≤ h ∧ h ≤ 23) : Ho (f_X12_turns N (nI h) S) (fun S' => SmT S S' ∧ (∀ k, k < 163 → S'.1 205 k = nI (v k)) ∧ bsT v h (S'.1 200 28) (S'.1 200 29) (S'.1 200 30) (fun _ _ => True)) := by
  have v2 := hv.1.2.2.1
  have v4 := hv.2.2.1
  have p64 := pow_le64 v2
  have hf9 : ∀ k, k < 60 → fogv v k ≤ 999 := hv.2.2.2.2.2.2.2.2.2.2.1
  unfold f_X12_turns
  simp only [bM_e, bI_e]
  rw [ck_l (by omega), show tn 4 = 4 from rfl, hA 4 (by omega), n_shl1 (by omega), n_subl (pow_ge1 _), ← tf_all]
  have s0 : SmT S (uI S 200 28 (-1)) := SmT.rf.u (by omega)
  have a0 : Ar (uI S 200 28 (-1)) 205 435 v := hA.oth (by decide)
  have e28 : (uI S 200 28 (-1)).1 200 28 = -1 := u_at _ _ _ _
  generalize uI S 200 28 (-1) = S0 at *
  refine Ho_lp (fun i a S' => a = (nI h, nI (tfS (fun _ => true) (v 4)), nI i) ∧ SmT S S' ∧ Ar S' 205 435 v ∧ S'.1 200 28 = -1 ∧ ∀ k, k < i → S'.1 207 k = nI (v k)) 163 (by omega) ⟨rfl, s0, a0, e28, fun k hk => absurd hk (Nat.not_lt_zero k)⟩ ?_
  rintro i0 hi0 k0 hk0 _ S1 ⟨rfl, s1, a1, e1, r1⟩
  unfold f_X12_turns_h18
  by_cases g0 : 163 ≤ i0
  case neg =>
    simp (disch := omega) only [n_tn, n_tl, n_t0, n_lt, n_le, n_eq, n_ltl, n_lel, n_eql, n_llt, n_lle, n_leq, n_m1l, n_m1r, n_addl, n_ladd, nI_add, n_mul, n_mull, n_lmul, n_sub, n_subl, n_div, n_divl, n_modd, true_and, and_true, bi_s, bv_s, bM_e, bI_e, bL_e, ck_n, ck_l, ck_0, if_neg g0, a1 i0 (by omega)]
    refine hk0 (by omega) _ _ ⟨rfl, s1.b (by omega), a1.oth (by decide), by rw [u_ne (by decide)]; exact e1, fun k hk => ?_⟩
    rw [us_same, g_upd]
    by_cases e : k = i0
    · rw [if_pos e, e]
    · rw [if_neg e]; exact r1 k (by omega)
  have ei : i0 = 163 := by omega
  subst ei
  simp (disch := omega) only [n_tn, n_tl, n_t0, n_lt, n_le, n_eq, n_ltl, n_lel, n_eql, n_llt, n_lle, n_leq, n_m1l, n_m1r, n_addl, n_ladd, nI_add, n_mul, n_mull, n_lmul, n_sub, n_subl, n_div, n_divl, n_modd, true_and, and_true, bi_s, bv_s, bM_e, bI_e, bL_e, ck_n, ck_l, ck_0, if_pos g0]
  -- the first set
  refine Ho_lp (fun i a S' => a = (nI h, nI (tfS (fun _ => true) (v 4)), nI i) ∧ SmT S S' ∧ (∀ k, k < 103 → k ≠ 9 → k ≠ 10 → S'.1 205 k = nI (v k)) ∧ (∀ k, k < 163 → S'.1 207 k = nI (v k)) ∧ bsT v h (S'.1 200 28) (S'.1 200 29) (S'.1 200 30) (fun x _ => x < i)) (2 ^ v 2) (by omega) ⟨rfl, s1, fun k h1 _ _ => a1 k (by omega), r1, Or.inl ⟨fun _ _ _ _ => Nat.not_lt_zero _, e1⟩⟩ ?_
  rintro i hi k45 hk45 _ S2 ⟨rfl, s2, a2, r2, b2⟩
  unfold f_X12_turns_h45
  dsimp only
  rw [ck_l (by omega), show tn 2 = 2 from rfl, a2 2 (by omega) (by omega) (by omega), n_shl1 (by omega)]
  by_cases gi : 2 ^ v 2 ≤ i
  · rw [if_pos (by rw [n_le (by omega)]; exact gi)]
    refine Ho_lp (fun j a S' => a = nI j ∧ SmT S S' ∧ (∀ k, k < j → S'.1 205 k = nI (v k)) ∧ (∀ k, k < 163 → S'.1 207 k = nI (v k)) ∧ S'.1 200 = S2.1 200) 163 (by omega) ⟨rfl, s2, fun k hk => absurd hk (Nat.not_lt_zero k), r2, rfl⟩ ?_
    rintro j hj k hk _ S3 ⟨rfl, s3, a3, r3, e3⟩
    unfold f_X12_turns_h258
    by_cases gj : 163 ≤ j
    · have ej : j = 163 := by omega
      subst ej
      simp (disch := omega) only [n_tn, n_tl, n_t0, n_lt, n_le, n_eq, n_ltl, n_lel, n_eql, n_llt, n_lle, n_leq, n_m1l, n_m1r, n_addl, n_ladd, nI_add, n_mul, n_mull, n_lmul, n_sub, n_subl, n_div, n_divl, n_modd, true_and, and_true, bi_s, bv_s, bM_e, bI_e, bL_e, ck_n, ck_l, ck_0, if_pos gj, Ho_some]
      refine ⟨s3, a3, ?_⟩
      rw [e3]
      rcases b2 with ⟨h1, h2⟩ | ⟨a, b, h1, h2, h3, h4, h5, h6, h7⟩
      · exact Or.inl ⟨fun x y hx hy z => h1 x y hx hy (by omega), h2⟩
      · exact Or.inr ⟨a, b, h1, h2, trivial, h4, h5, h6, fun x y hx hy z => h7 x y hx hy (by omega)⟩
    · simp (disch := omega) only [n_tn, n_tl, n_t0, n_lt, n_le, n_eq, n_ltl, n_lel, n_eql, n_llt, n_lle, n_leq, n_m1l, n_m1r, n_addl, n_ladd, nI_add, n_mul, n_mull, n_lmul, n_sub, n_subl, n_div, n_divl, n_modd, true_and, and_true, bi_s, bv_s, bM_e, bI_e, bL_e, ck_n, ck_l, ck_0, if_neg gj, r3 j (by omega)]
      refine hk (by omega) _ _ ⟨rfl, s3.c (by omega), fun k hk => ?_, fun k hk => by rw [u_ne (by decide)]; exact r3 k hk, by rw [u_ne (by decide)]; exact e3⟩
      rw [us_same, g_upd]
      by_cases e : k = j
      · rw [if_pos e, e]
      · rw [if_neg e]; exact a3 k (by omega)
  rw [if_neg (by rw [n_le (by omega)]; exact gi)]
  refine Ho_lp (fun j a S' => a = (nI h, nI (tfS (fun _ => true) (v 4)), nI i, nI j) ∧ SmT S S' ∧ (∀ k, k < j → S'.1 205 k = nI (v k)) ∧ (∀ k, k < 163 → S'.1 207 k = nI (v k)) ∧ S'.1 200 = S2.1 200) 163 (by omega) ⟨rfl, s2, fun k hk => absurd hk (Nat.not_lt_zero k), r2, rfl⟩ ?_
  rintro j0 hj0 k60 hk60 _ S3 ⟨rfl, s3, a3, r3, e3⟩
  unfold f_X12_turns_h60
  by_cases gj0 : 163 ≤ j0
  case neg =>
    simp (disch := omega) only [n_tn, n_tl, n_t0, n_lt, n_le, n_eq, n_ltl, n_lel, n_eql, n_llt, n_lle, n_leq, n_m1l, n_m1r, n_addl, n_ladd, nI_add, n_mul, n_mull, n_lmul, n_sub, n_subl, n_div, n_divl, n_modd, true_and, and_true, bi_s, bv_s, bM_e, bI_e, bL_e, ck_n, ck_l, ck_0, if_neg gj0, r3 j0 (by omega)]
    refine hk60 (by omega) _ _ ⟨rfl, s3.c (by omega), fun k hk => ?_, fun k hk => by rw [u_ne (by decide)]; exact r3 k hk, by rw [u_ne (by decide)]; exact e3⟩
    rw [us_same, g_upd]
    by_cases e : k = j0
    · rw [if_pos e, e]
    · rw [if_neg e]; exact a3 k (by omega)
  have ej : j0 = 163 := by omega
  subst ej
  have A3 : Ar S3 205 435 v := fun k hk => by
    by_cases g : k < 163
    · exact a3 k g
    · rw [s3.2.2.2 k (by omega)]; exact hA k hk
  simp (disch := omega) only [n_tn, n_tl, n_t0, n_lt, n_le, n_eq, n_ltl, n_lel, n_eql, n_llt, n_lle, n_leq, n_m1l, n_m1r, n_addl, n_ladd, nI_add, n_mul, n_mull, n_lmul, n_sub, n_subl, n_div, n_divl, n_modd, true_and, and_true, bi_s, bv_s, bM_e, bI_e, bL_e, ck_n, ck_l, ck_0, if_pos gj0, Ho_bi]
  have A4 : Ar (uI S3 205 10 (nI i)) 205 435 (pt v 10 i) := A3.put 10 i
  have s4 : SmT S (uI S3 205 10 (nI i)) := s3.c (by omega)
  have w4 : MW v (pt v 10 i) := MW.gts hv (by omega)
  have W4 : VW (pt v 10 i) := hv.1.cg w4.1
  refine Ho_mono (m_fails (t0 := 1) (n := h) hN hv w4 A4 (by omega) (by rw [show 1 + h - 1 = h by omega])) ?_
  rintro ⟨r, S5⟩ ⟨e5, s5, A5⟩
  dsimp only at e5 s5 A5 ⊢
  rw [pt_at] at e5
  have ef : tfS (fld v i (fogv (pt v 10 i)) 1 h) (v 4) = tfS (fld v i (fogv v) 1 h) (v 4) := tf_cong fun k hk => fld_cg hv (fun _ _ _ _ => rfl) (fun q _ => fogv_pt v i q) hk h
  rw [ef] at e5
  subst e5
  obtain ⟨q1, q2, q3⟩ := hv_ok W4 w4.2.2 h
  rw [pt_at] at q3
  obtain ⟨w1, w2, w3⟩ := hv_vw W4 w4.2.2 h
  have sT5 : SmT S S5 := s4.h s5 A4 A5 (fun k hk => q1 k (Or.inr hk))
  have f5 : ∀ k, k < 60 → hvN (pt v 10 i) h (103 + k) = hrN v i (fogv v) h k := fun k hk => by
    rw [q3 k hk]
    exact hrN_cg hv.1 w4.1 (fun q _ => fogv_pt v i q) h k hk
  have r5 : ∀ k, k < 163 → S5.1 207 k = nI (v k) := fun k hk => by rw [s5.1.2 207 (by simp), u_ne (by decide)]; exact r3 k hk
  have e5' : S5.1 200 = S2.1 200 := by rw [s5.1.2 200 (by simp), u_ne (by decide)]; exact e3
  have lo5 : ∀ k, k < 103 → k ≠ 9 → k ≠ 10 → hvN (pt v 10 i) h k = v k := fun k h1 h2 h3 => by rw [q1 k (by omega)]; exact pt_ne h3
  generalize hvN (pt v 10 i) h = W at *
  -- kept midway
  refine Ho_lp (fun j a S' => a = (nI h, nI (tfS (fun _ => true) (v 4)), nI i, nI (tfS (fld v i (fogv v) 1 h) (v 4)), nI j) ∧ SmT S S' ∧ Ar S' 205 435 W ∧ (∀ k, k < 163 → S'.1 207 k = nI (v k)) ∧ S'.1 200 = S2.1 200 ∧ ∀ k, k < j → S'.1 210 k = nI (W k)) 163 (by omega) ⟨rfl, sT5, A5, r5, e5', fun k hk => absurd hk (Nat.not_lt_zero k)⟩ ?_
  rintro j1 hj1 k107 hk107 _ S6 ⟨rfl, s6, A6, r6, e6, m6⟩
  unfold f_X12_turns_h107
  by_cases gj1 : 163 ≤ j1
  case neg =>
    simp (disch := omega) only [n_tn, n_tl, n_t0, n_lt, n_le, n_eq, n_ltl, n_lel, n_eql, n_llt, n_lle, n_leq, n_m1l, n_m1r, n_addl, n_ladd, nI_add, n_mul, n_mull, n_lmul, n_sub, n_subl, n_div, n_divl, n_modd, true_and, and_true, bi_s, bv_s, bM_e, bI_e, bL_e, ck_n, ck_l, ck_0, if_neg gj1, A6 j1 (by omega)]
    refine hk107 (by omega) _ _ ⟨rfl, s6.b (by omega), A6.oth (by decide), fun k hk => by rw [u_ne (by decide)]; exact r6 k hk, by rw [u_ne (by decide)]; exact e6, fun k hk => ?_⟩
    rw [us_same, g_upd]
    by_cases e : k = j1
    · rw [if_pos e, e]
    · rw [if_neg e]; exact m6 k (by omega)
  have ej1 : j1 = 163 := by omega
  subst ej1
  simp (disch := omega) only [n_tn, n_tl, n_t0, n_lt, n_le, n_eq, n_ltl, n_lel, n_eql, n_llt, n_lle, n_leq, n_m1l, n_m1r, n_addl, n_ladd, nI_add, n_mul, n_mull, n_lmul, n_sub, n_subl, n_div, n_divl, n_modd, true_and, and_true, bi_s, bv_s, bM_e, bI_e, bL_e, ck_n, ck_l, ck_0, if_pos gj1]
  -- the second set
  have b6 : bsT v h (S6.1 200 28) (S6.1 200 29) (S6.1 200 30) (fun x y => x < i ∨ (x = i ∧ y < 0)) := by
    rw [e6]
    rcases b2 with ⟨h1, h2⟩ | ⟨a, b, h1, h2, h3, h4, h5, h6, h7⟩
    · exact Or.inl ⟨fun x y hx hy z => h1 x y hx hy (by omega), h2⟩
    · exact Or.inr ⟨a, b, h1, h2, Or.inl h3, h4, h5, h6, fun x y hx hy z => h7 x y hx hy (by omega)⟩
  refine Ho_lp (fun j a S' => a = (nI h, nI (tfS (fun _ => true) (v 4)), nI i, nI (tfS (fld v i (fogv v) 1 h) (v 4)), nI j) ∧ SmT S S' ∧ (∀ k, k < 103 → k ≠ 9 → k ≠ 10 → S'.1 205 k = nI (v k)) ∧ (∀ k, k < 163 → S'.1 207 k = nI (v k)) ∧ (∀ k, k < 163 → S'.1 210 k = nI (W k)) ∧ bsT v h (S'.1 200 28) (S'.1 200 29) (S'.1 200 30) (fun x y => x < i ∨ (x = i ∧ y < j))) (2 ^ v 2) (by omega) ⟨rfl, s6, fun k h1 h2 h3 => by rw [A6 k (by omega), lo5 k h1 h2 h3], r6, m6, b6⟩ ?_
  rintro j hj k138 hk138 _ S7 ⟨rfl, s7, a7, r7, m7, b7⟩
  unfold f_X12_turns_h138
  dsimp only
  rw [ck_l (by omega), show tn 2 = 2 from rfl, a7 2 (by omega) (by omega) (by omega), n_shl1 (by omega)]
  by_cases gj : 2 ^ v 2 ≤ j
  · rw [if_pos (by rw [n_le (by omega)]; exact gj), n_addl]
    refine hk45 (by omega) _ _ ⟨rfl, s7, a7, r7, ?_⟩
    rcases b7 with ⟨h1, h2⟩ | ⟨a, b, h1, h2, h3, h4, h5, h6, h7⟩
    · exact Or.inl ⟨fun x y hx hy z => h1 x y hx hy (by omega), h2⟩
    · exact Or.inr ⟨a, b, h1, h2, by omega, h4, h5, h6, fun x y hx hy z => h7 x y hx hy (by omega)⟩
  rw [if_neg (by rw [n_le (by omega)]; exact gj)]
  refine Ho_lp (fun q a S' => a = (nI h, nI (tfS (fun _ => true) (v 4)), nI i, nI (tfS (fld v i (fogv v) 1 h) (v 4)), nI j, nI q) ∧ SmT S S' ∧ (∀ k, k < q → S'.1 205 k = nI (W k)) ∧ (∀ k, k < 163 → S'.1 207 k = nI (v k)) ∧ (∀ k, k < 163 → S'.1 210 k = nI (W k)) ∧ S'.1 200 = S7.1 200) 163 (by omega) ⟨rfl, s7, fun k hk => absurd hk (Nat.not_lt_zero k), r7, m7, rfl⟩ ?_
  rintro j2 hj2 k154 hk154 _ S8 ⟨rfl, s8, a8, r8, m8, e8⟩
  unfold f_X12_turns_h154 f_X12_turns_b244
  by_cases gj2 : 163 ≤ j2
  case neg =>
    simp (disch := omega) only [n_tn, n_tl, n_t0, n_lt, n_le, n_eq, n_ltl, n_lel, n_eql, n_llt, n_lle, n_leq, n_m1l, n_m1r, n_addl, n_ladd, nI_add, n_mul, n_mull, n_lmul, n_sub, n_subl, n_div, n_divl, n_modd, true_and, and_true, bi_s, bv_s, bM_e, bI_e, bL_e, ck_n, ck_l, ck_0, if_neg gj2, m8 j2 (by omega)]
    refine hk154 (by omega) _ _ ⟨rfl, s8.c (by omega), fun k hk => ?_, fun k hk => by rw [u_ne (by decide)]; exact r8 k hk, fun k hk => by rw [u_ne (by decide)]; exact m8 k hk, by rw [u_ne (by decide)]; exact e8⟩
    rw [us_same, g_upd]
    by_cases e : k = j2
    · rw [if_pos e, e]
    · rw [if_neg e]; exact a8 k (by omega)
  have ej2 : j2 = 163 := by omega
  subst ej2
  have Whi : ∀ k, 163 ≤ k → W k = v k := fun k hk => by rw [q1 k (Or.inr hk)]; exact pt_ne (by omega)
  have A8 : Ar S8 205 435 W := fun k hk => by
    by_cases g : k < 163
    · exact a8 k g
    · rw [s8.2.2.2 k (by omega), hA k hk, Whi k (by omega)]
  simp (disch := omega) only [n_tn, n_tl, n_t0, n_lt, n_le, n_eq, n_ltl, n_lel, n_eql, n_llt, n_lle, n_leq, n_m1l, n_m1r, n_addl, n_ladd, nI_add, n_mul, n_mull, n_lmul, n_sub, n_subl, n_div, n_divl, n_modd, true_and, and_true, bi_s, bv_s, bM_e, bI_e, bL_e, ck_n, ck_l, ck_0, if_pos gj2, Ho_bi]
  have A9 : Ar (uI S8 205 10 (nI j)) 205 435 (pt W 10 j) := A8.put 10 j
  have s9 : SmT S (uI S8 205 10 (nI j)) := s8.c (by omega)
  have w9 : MW v (pt W 10 j) := ⟨fun k h1 h2 h3 => by rw [pt_ne h3]; exact lo5 k h1 h2 h3, by rw [pt_at]; omega, fun k hk => by rw [pt_ne (by omega)]; exact w2 k hk⟩
  refine Ho_mono (m_fails (t0 := h + 1) (n := 24 - h) hN hv w9 A9 (by omega) (by rw [show h + 1 + (24 - h) - 1 = 24 by omega]; rfl)) ?_
  rintro ⟨r', S10⟩ ⟨e10, s10, A10⟩
  dsimp only at e10 s10 A10 ⊢
  rw [pt_at] at e10
  have ef' : tfS (fld v j (fogv (pt W 10 j)) (h + 1) (24 - h)) (v 4) = tfS (fld v j (hrN v i (fogv v) h) (h + 1) (24 - h)) (v 4) := tf_cong fun k hk => fld_cg hv (fun _ _ _ _ => rfl) (fun q hq => by rw [show fogv (pt W 10 j) q = W (103 + q) from pt_ne (by omega)]; exact f5 q hq) hk _
  rw [ef'] at e10
  subst e10
  rw [tf_andnot, tf_andnot]
  have W9 : VW (pt W 10 j) := hv.1.cg w9.1
  obtain ⟨z1, z2, z3⟩ := hv_ok W9 w9.2.2 (24 - h)
  have s10' : SmT S S10 := s9.h s10 A9 A10 (fun k hk => z1 k (Or.inr hk))
  have lo10 : ∀ k, k < 103 → k ≠ 9 → k ≠ 10 → S10.1 205 k = nI (v k) := fun k h1 h2 h3 => by rw [A10 k (by omega), z1 k (by omega), w9.1 k h1 h2 h3]
  have tl := tf_small hv (fun k => (true && !fld v i (fogv v) 1 h k) && !fld v j (hrN v i (fogv v) h) (h + 1) (24 - h) k)
  rw [m_paidFor hN hv lo10 (by omega), Ho_some, pyS_tf]
  dsimp only
  have ep : pyS v (fun k => (true && !fld v i (fogv v) 1 h k) && !fld v j (hrN v i (fogv v) h) (h + 1) (24 - h) k) (v 4) = pyT v h i j := by
    unfold pyT
    refine pyS_cong fun k _ => ?_
    rw [Bool.true_and]
  rw [ep]
  have x200 : S10.1 200 = S7.1 200 := by rw [s10.1.2 200 (by simp), u_ne (by decide)]; exact e8
  have x207 : ∀ k, k < 163 → S10.1 207 k = nI (v k) := fun k hk => by rw [s10.1.2 207 (by simp), u_ne (by decide)]; exact r8 k hk
  have x210 : ∀ k, k < 163 → S10.1 210 k = nI (W k) := fun k hk => by rw [s10.1.2 210 (by simp), u_ne (by decide)]; exact m8 k hk
  rw [x200]
  by_cases c : S7.1 200 28 < nI (pyT v h i j)
  · rw [if_pos c]
    refine hk138 (by omega) _ _ ⟨rfl, ((s10'.u (by omega)).u (by omega)).u (by omega), fun k h1 h2 h3 => ?_, fun k hk => ?_, fun k hk => ?_, bsT_step hv (by omega) (by omega) b7 (Or.inl ⟨c, ?_, ?_, u_at _ _ _ _⟩)⟩
    · rw [u_ne (by decide), u_ne (by decide), u_ne (by decide)]; exact lo10 k h1 h2 h3
    · rw [u_ne (by decide), u_ne (by decide), u_ne (by decide)]; exact x207 k hk
    · rw [u_ne (by decide), u_ne (by decide), u_ne (by decide)]; exact x210 k hk
    · rw [us_same, g_upd, if_neg (by decide), us_same, g_upd, if_neg (by decide), u_at]
    · rw [us_same, g_upd, if_neg (by decide), u_at]
  · rw [if_neg c]
    refine hk138 (by omega) _ _ ⟨rfl, s10', lo10, x207, x210, bsT_step hv (by omega) (by omega) b7 (Or.inr ⟨c, by rw [x200], by rw [x200], by rw [x200]⟩)⟩
theorem cl_turn {C1 S1 : Mem} (hR : Re C S) (hs : S.1 200 0 = 0) (hC : Sm [93, 94, 91, 95] C C1) (hS : SmT S S1) (hA : ∀ k, k < 163 → S1.1 205 k = S.1 205 k) : Rel (uI C1 0 0 0) S1 :=
  hR.st ((KC.sm hC fun c hc => by have := scrF c hc; unfold scrC; omega).st 0) ⟨hS.1, fun k hk => hS.2.2.1 k (by unfold okM at hk; omega) (by unfold okM at hk; omega) (by unfold okM at hk; omega), fun c hc => hS.2.1 c (by omega) (by omega) (by omega) (by omega) (by omega), fun k h1 _ => hS.2.2.2 k (by omega)⟩ (by rw [u_at, hS.2.2.1 0 (by decide) (by decide) (by decide), hs]) (fun c h1 h2 => by rw [u_ne (by omega)]; exact hC.2 c (fun z => by have := scrF c z; omega)) (fun k hk => by
    by_cases e : k < 163
    · exact hA k e
    · exact hS.2.2.2 k (by omega))
theorem e_turn (hN : 200 < N) (h : Rel C S) (z : Int32) : Same (f_X11_turn N z C) (f_X12_turn N z S) := by
  have hR := Re.go h
  have hs := S0_st S 0 0
  unfold f_X11_turn f_X12_turn f_X11_refused f_X11_answered f_X12_refuse
  simp only [bM_e]
  generalize uI (uI S 200 1 0) 200 0 0 = S at *
  obtain ⟨v, hv, h9, hC, hA, hn⟩ := hR.get
  obtain ⟨q, e3, hq⟩ := in_is 1 23 (by omega) S z
  rw [show f_X12_isIn z.toInt64 1 23 S = _ from e3]
  rcases hq with ⟨rfl, n, hn1, hn, rfl⟩ | ⟨rfl, hy | ⟨n, hn, hw, rfl⟩⟩
  · have l1 : ¬ n < 1 := by omega
    have l2 : n < 24 := by omega
    simp (disch := omega) only [n_tn, n_tl, n_t0, n_lt, n_le, n_eq, n_ltl, n_lel, n_eql, n_llt, n_lle, n_leq, n_m1l, n_m1r, n_addl, n_ladd, nI_add, n_mul, n_mull, n_lmul, n_sub, n_subl, n_div, n_divl, n_modd, true_and, and_true, bi_s, bv_s, bM_e, bI_e, bL_e, ck_n, ck_l, ck_0, Nat.not_lt_zero, Nat.zero_le, if_false, if_true, b2i_0, Bool.true_eq_false, if_neg l1, if_pos l2]
    refine Same.two (P := fun q => ∃ C1, q.1 = C1.1 93 6 ∧ Sm [93, 94, 91, 95] C C1 ∧ bsT v n (C1.1 93 6) (C1.1 93 7) (C1.1 93 8) (fun _ _ => True) ∧ q.2 = uI C1 0 0 0) (P' := fun q => q.1 = q.2.1 200 28 ∧ SmT S q.2 ∧ (∀ k, k < 163 → q.2.1 205 k = nI (v k)) ∧ bsT v n (q.2.1 200 28) (q.2.1 200 29) (q.2.1 200 30) (fun _ _ => True)) ?_ ?_ ?_
    · rw [Ho_bv]
      refine Ho_mono (c_turn hN hv hC ⟨hn1, hn⟩) ?_
      rintro C1 ⟨a, b⟩
      exact ⟨_, rfl, C1, rfl, a, b, rfl⟩
    · rw [Ho_bv]
      refine Ho_mono (m_turns hN hv hA ⟨hn1, hn⟩) ?_
      rintro S1 ⟨a, b, c⟩
      exact ⟨_, rfl, rfl, a, b, c⟩
    · rintro r C' r' S' ⟨C1, a, b, c, rfl⟩ ⟨a', b', c', d'⟩
      dsimp only at a a' b' c' d'
      exact ⟨by rw [a, a']; exact (bsT_one hv c d').1, cl_turn hR hs b b' fun k hk => by rw [c' k hk, hA k (by omega)]⟩
  · have l0 : z < 1 := by rw [fa_lt] at hy ⊢; exact Int.lt_trans hy (by decide)
    simp only [bi_s, if_pos l0, Nat.not_lt_zero, Nat.zero_le, if_false, if_true, b2i_0, Bool.true_eq_false]
    exact Same.mk (cl_ref hR _)
  · by_cases l1 : n < 1
    · simp (disch := omega) only [n_tn, n_tl, n_t0, n_lt, n_le, n_eq, n_ltl, n_lel, n_eql, n_llt, n_lle, n_leq, n_m1l, n_m1r, n_addl, n_ladd, nI_add, n_mul, n_mull, n_lmul, n_sub, n_subl, n_div, n_divl, n_modd, bi_s, if_pos l1, Nat.not_lt_zero, Nat.zero_le, if_false, if_true, b2i_0, Bool.true_eq_false]
      exact Same.mk (cl_ref hR _)
    · have l2 : ¬ n < 24 := by omega
      simp (disch := omega) only [n_tn, n_tl, n_t0, n_lt, n_le, n_eq, n_ltl, n_lel, n_eql, n_llt, n_lle, n_leq, n_m1l, n_m1r, n_addl, n_ladd, nI_add, n_mul, n_mull, n_lmul, n_sub, n_subl, n_div, n_divl, n_modd, bi_s, if_neg l1, if_neg l2, Nat.not_lt_zero, Nat.zero_le, if_false, if_true, b2i_0, Bool.true_eq_false]
      exact Same.mk (cl_ref hR _)
theorem e_turnSet (hN : 200 < N) (h : Rel C S) (z y : Int32) : Same (f_X11_turnSet N z y C) (f_X12_turnSet N z y S) := by
  have hR := Re.go h
  have hs := S0_st S 0 0
  unfold f_X11_turnSet f_X12_turnSet f_X11_refused f_X11_answered f_X12_refuse
  simp only [bM_e]
  generalize uI (uI S 200 1 0) 200 0 0 = S at *
  obtain ⟨v, hv, h9, hC, hA, hn⟩ := hR.get
  obtain ⟨q, e3, hq⟩ := in_is 1 23 (by omega) S z
  rw [show f_X12_isIn z.toInt64 1 23 S = _ from e3]
  rcases hq with ⟨rfl, n, hn1, hn, rfl⟩ | ⟨rfl, hy | ⟨n, hn, hw, rfl⟩⟩
  · have l1 : ¬ n < 1 := by omega
    have l2 : ¬ 24 ≤ n := by omega
    obtain ⟨q', e4, hq'⟩ := in_is 0 1 (by omega) S y
    have e4' : f_X12_isIn y.toInt64 0 1 S = some (q', S) := e4
    simp (disch := omega) only [n_tn, n_tl, n_t0, n_lt, n_le, n_eq, n_ltl, n_lel, n_eql, n_llt, n_lle, n_leq, n_m1l, n_m1r, n_addl, n_ladd, nI_add, n_mul, n_mull, n_lmul, n_sub, n_subl, n_div, n_divl, n_modd, true_and, and_true, bi_s, bv_s, bM_e, bI_e, bL_e, ck_n, ck_l, ck_0, Nat.not_lt_zero, Nat.zero_le, if_false, if_true, b2i_0, Bool.true_eq_false, if_neg l1, if_neg l2, e4']
    rcases hq' with ⟨rfl, m, -, hm, rfl⟩ | ⟨rfl, hy | ⟨m, hm, hw, rfl⟩⟩
    · simp (disch := omega) only [n_tn, n_tl, n_t0, n_lt, n_le, n_eq, n_ltl, n_lel, n_eql, n_llt, n_lle, n_leq, n_m1l, n_m1r, n_addl, n_ladd, nI_add, n_mul, n_mull, n_lmul, n_sub, n_subl, n_div, n_divl, n_modd, true_and, and_true, bi_s, bv_s, bM_e, bI_e, bL_e, ck_n, ck_l, ck_0, Nat.not_lt_zero, Nat.zero_le, if_false, if_true, b2i_0, Bool.true_eq_false, if_pos hm]
      refine Same.two (P := fun q => ∃ C1, q.1 = (if m = 0 then C1.1 93 7 else C1.1 93 8) ∧ Sm [93, 94, 91, 95] C C1 ∧ bsT v n (C1.1 93 6) (C1.1 93 7) (C1.1 93 8) (fun _ _ => True) ∧ q.2 = uI C1 0 0 0) (P' := fun q => q.1 = (if m = 0 then q.2.1 200 29 else q.2.1 200 30) ∧ SmT S q.2 ∧ (∀ k, k < 163 → q.2.1 205 k = nI (v k)) ∧ bsT v n (q.2.1 200 28) (q.2.1 200 29) (q.2.1 200 30) (fun _ _ => True)) ?_ ?_ ?_
      · rw [Ho_bv]
        refine Ho_mono (c_turn hN hv hC ⟨hn1, hn⟩) ?_
        rintro C1 ⟨a, b⟩
        by_cases m0 : m = 0
        · rw [if_pos m0]
          exact ⟨_, rfl, C1, (if_pos m0).symm, a, b, rfl⟩
        · rw [if_neg m0]
          exact ⟨_, rfl, C1, (if_neg m0).symm, a, b, rfl⟩
      · rw [Ho_bv]
        refine Ho_mono (m_turns hN hv hA ⟨hn1, hn⟩) ?_
        rintro S1 ⟨a, b, c⟩
        by_cases m0 : m = 0
        · rw [if_pos m0]
          exact ⟨_, rfl, (if_pos m0).symm, a, b, c⟩
        · rw [if_neg m0]
          exact ⟨_, rfl, (if_neg m0).symm, a, b, c⟩
      · rintro r C' r' S' ⟨C1, a, b, c, rfl⟩ ⟨a', b', c', d'⟩
        dsimp only at a a' b' c' d'
        refine ⟨?_, cl_turn hR hs b b' fun k hk => by rw [c' k hk, hA k (by omega)]⟩
        obtain ⟨-, o1, o2⟩ := bsT_one hv c d'
        rw [a, a', o1, o2]
    · simp only [if_pos hy, Nat.not_lt_zero, Nat.zero_le, if_false, if_true, b2i_0, Bool.true_eq_false, bi_s]
      exact Same.mk (cl_ref hR _)
    · have l3 : ¬ m ≤ 1 := by omega
      simp (disch := omega) only [n_tn, n_tl, n_t0, n_lt, n_le, n_eq, n_ltl, n_lel, n_eql, n_llt, n_lle, n_leq, n_m1l, n_m1r, n_addl, n_ladd, nI_add, n_mul, n_mull, n_lmul, n_sub, n_subl, n_div, n_divl, n_modd, bi_s, if_neg l3, Nat.not_lt_zero, Nat.zero_le, if_false, if_true, b2i_0, Bool.true_eq_false]
      exact Same.mk (cl_ref hR _)
  · have l0 : z < 1 := by rw [fa_lt] at hy ⊢; exact Int.lt_trans hy (by decide)
    simp only [bi_s, if_pos l0, Nat.not_lt_zero, Nat.zero_le, if_false, if_true, b2i_0, Bool.true_eq_false]
    exact Same.mk (cl_ref hR _)
  · by_cases l1 : n < 1
    · simp (disch := omega) only [n_tn, n_tl, n_t0, n_lt, n_le, n_eq, n_ltl, n_lel, n_eql, n_llt, n_lle, n_leq, n_m1l, n_m1r, n_addl, n_ladd, nI_add, n_mul, n_mull, n_lmul, n_sub, n_subl, n_div, n_divl, n_modd, bi_s, if_pos l1, Nat.not_lt_zero, Nat.zero_le, if_false, if_true, b2i_0, Bool.true_eq_false]
      exact Same.mk (cl_ref hR _)
    · have l2 : 24 ≤ n := by omega
      simp (disch := omega) only [n_tn, n_tl, n_t0, n_lt, n_le, n_eq, n_ltl, n_lel, n_eql, n_llt, n_lle, n_leq, n_m1l, n_m1r, n_addl, n_ladd, nI_add, n_mul, n_mull, n_lmul, n_sub, n_subl, n_div, n_divl, n_modd, bi_s, if_neg l1, if_pos l2, Nat.not_lt_zero, Nat.zero_le, if_false, if_true, b2i_0, Bool.true_eq_false]
      exact Same.mk (cl_ref hR _)
end D6
