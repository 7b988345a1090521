section C3
variable {N : Nat} {C S : Mem}
theorem scr2 : ∀ c, c ∈ [206, 209] → scrS c := by intro c hc; simp at hc; unfold scrS; omega
theorem scr94 : ∀ c, c ∈ [94, 91] → 83 ≤ c ∧ c < 107 := by intro c hc; simp at hc; omega
/-- from Ho of both to Same -/
theorem Same.of {β : Type} {o o' : Option (β × Mem)} (h : Ho o (fun q => Ho o' (fun q' => q.1 = q'.1 ∧ Rel q.2 q'.2))) : Same o o' := by
  obtain ⟨⟨r, C'⟩, e, ⟨r', S'⟩, e', h1, h2⟩ := h
  dsimp only at h1 h2
  subst h1
  exact ⟨r, C', S', e, e', h2⟩
theorem Same.two {β : Type} {o o' : Option (β × Mem)} {P P' : β × Mem → Prop} (h : Ho o P) (h' : Ho o' P') (k : ∀ r C' r' S', P (r, C') → P' (r', S') → r = r' ∧ Rel C' S') : Same o o' := by
  obtain ⟨⟨r, C'⟩, e, p⟩ := h
  obtain ⟨⟨r', S'⟩, e', p'⟩ := h'
  obtain ⟨h1, h2⟩ := k r C' r' S' p p'
  subst h1
  exact ⟨r, C', S', e, e', h2⟩
theorem e_later (hN : 200 < N) (h : Rel C S) (x y z : Int32) : Same (f_X11_later N x y z C) (f_X12_later N x y z S) := by
  have hR := Re.go h
  have hs := S0_st S 0 0
  unfold f_X11_later f_X12_later f_X11_refused f_X11_answered f_X12_refuse
  simp only [bM_e]
  generalize uI (uI S 200 1 0) 200 0 0 = S at *
  obtain ⟨v, hv, -, hC, hA, -⟩ := hR.get
  have v0 := hv.1.1
  have v1 := hv.1.2.1
  have b30 := bd30 v0 v1
  have hf9 := hv.2.2.2.2.2.2.2.2.2.2.1
  have h10 := hv.2.2.2.2.2.1
  have p64 := pow_le64 hv.1.2.2.1
  obtain ⟨b, e1, e2, hb⟩ := board_is (v := v) (by omega) hC.1.1 hC.1.2.1 (hA 0 (by omega)) (hA 1 (by omega)) x y
  simp only [e1, e2, bi_s, b2i_0]
  cases b with
  | false => exact Same.mk (cl_ref hR _)
  | true =>
    obtain ⟨c, r, hc, hr, rfl, rfl⟩ := hb rfl
    have hb := bd hc hr
    simp only [Bool.true_eq_false, if_false]
    obtain ⟨q, e3, hq⟩ := in_is 0 48 (by omega) S z
    rw [show f_X12_isIn z.toInt64 0 48 S = _ from e3]
    rcases hq with ⟨rfl, n, -, hn, rfl⟩ | ⟨rfl, hy | ⟨n, hn, hw, rfl⟩⟩
    · have l1 : ¬ n < 0 := by omega
      simp (disch := omega) only [n_tn, n_tl, n_t0, n_lt, n_le, n_eq, n_ltl, n_lel, n_eql, n_llt, n_lle, n_leq, n_m1l, n_m1r, n_addl, n_ladd, nI_add, n_mul, n_mull, n_lmul, n_sub, n_subl, n_div, n_divl, n_modd, bi_s, if_false, if_true, l1, hn, Bool.true_eq_false]
      apply Same.of
      rw [Ho_bv]
      refine Ho_mono (c_look hN hv hn hC) ?_
      rintro C1 ⟨hS1, hA1⟩
      have hfl := hrN_le (g := v 10) hv.1 hf9 n
      have c1 := hA1 (r * v 0 + c) (by omega)
      have c2 := hA1 (30 + (r * v 0 + c)) (by omega)
      unfold f_X5_boardAt f_X5_bothKinds
      simp (disch := omega) only [n_tn, n_tl, n_t0, n_lt, n_le, n_eq, n_ltl, n_lel, n_eql, n_llt, n_lle, n_leq, n_m1l, n_m1r, n_addl, n_ladd, nI_add, n_mul, n_mull, n_lmul, n_sub, n_subl, n_div, n_divl, n_modd, true_and, and_true, bi_s, bv_s, bM_e, bI_e, bL_e, ck_n, ck_l, ck_0, hS1.at (by simp) hC.1.1, show ln 94 = 60 from rfl, c1, c2, Ho_some]
      rw [Ho_bv]
      refine Ho_mono (m_keeps hN) ?_
      rintro S1 ⟨k1, k2⟩
      refine Ho_lp (fun i a S' => a = (nI c, nI r, nI n, nI i) ∧ SmH S1 S' ∧ Ar S' 205 435 (hvN v i)) n (by omega) ⟨rfl, SmH.rf, hA.same (k1.2 205 (by simp))⟩ ?_
      rintro i hi k hk _ S2 ⟨rfl, s2, a2⟩
      obtain ⟨q1, q2, q3⟩ := hv_ok hv.1 hf9 i
      obtain ⟨w1, w2, w3⟩ := hv_vw hv.1 hf9 i
      unfold f_X12_later_h50
      by_cases g : n ≤ i
      · have e : i = n := by omega
        subst e
        have hh0 : S2.1 205 0 = nI (v 0) := by rw [a2 0 (by omega), q1 0 (by omega)]
        have f1 : S2.1 205 (103 + (r * v 0 + c)) = nI (hrN v (v 10) (fogv v) i (r * v 0 + c)) := by rw [a2 _ (by omega), q3 _ (by omega)]
        have f2 : S2.1 205 (133 + (r * v 0 + c)) = nI (hrN v (v 10) (fogv v) i (30 + (r * v 0 + c))) := by rw [a2 _ (by omega), show 133 + (r * v 0 + c) = 103 + (30 + (r * v 0 + c)) by omega, q3 _ (by omega)]
        unfold f_X12_fogOf
        have eq : v 0 * r + c = r * v 0 + c := by rw [Nat.mul_comm]
        simp (disch := omega) only [n_tn, n_tl, n_t0, n_lt, n_le, n_eq, n_ltl, n_lel, n_eql, n_llt, n_lle, n_leq, n_m1l, n_m1r, n_addl, n_ladd, nI_add, n_mul, n_mull, n_lmul, n_sub, n_subl, n_div, n_divl, n_modd, true_and, and_true, bi_s, bv_s, bM_e, bI_e, bL_e, ck_n, ck_l, ck_0, Nat.le_refl, if_true, m_board (x := c) (y := r) hh0, eq, f1, f2, Ho_bv]
        refine Ho_mono (m_gives hN) ?_
        rintro S3 ⟨g1, g2, g3⟩
        rw [Ho_some]
        exact ⟨rfl, cl_for hR hs hS1 scr94 (m_back hA k1 k2 s2 a2 (fun i hi => q1 i (Or.inr hi)) g1 g2 g3) scr2⟩
      · simp (disch := omega) only [n_tn, n_tl, n_t0, n_lt, n_le, n_eq, n_ltl, n_lel, n_eql, n_llt, n_lle, n_leq, n_m1l, n_m1r, n_addl, n_ladd, nI_add, n_mul, n_mull, n_lmul, n_sub, n_subl, n_div, n_divl, n_modd, true_and, and_true, bi_s, bv_s, bM_e, bI_e, bL_e, ck_n, ck_l, ck_0, if_neg g, Ho_bv]
        refine Ho_mono (mh_hour hN w1 a2 w2 (by rw [w3]; omega)) ?_
        rintro S3 ⟨s3, a3⟩
        exact hk (by omega) _ _ ⟨rfl, s2.tr s3, a3⟩
    · simp only [bi_s, if_pos hy, if_true]
      exact Same.mk (cl_ref hR _)
    · have l1 : ¬ (n < 0) := by omega
      have l2 : ¬ n ≤ 48 := by omega
      simp (disch := omega) only [n_tn, n_tl, n_t0, n_lt, n_le, n_eq, n_ltl, n_lel, n_eql, n_llt, n_lle, n_leq, n_m1l, n_m1r, n_addl, n_ladd, nI_add, n_mul, n_mull, n_lmul, n_sub, n_subl, n_div, n_divl, n_modd, bi_s, if_true, l1, l2, if_false]
      exact Same.mk (cl_ref hR _)
theorem e_foggyIn (hN : 200 < N) (h : Rel C S) (z : Int32) : Same (f_X11_foggyIn N z C) (f_X12_foggyIn N z S) := by
  have hR := Re.go h
  have hs := S0_st S 0 0
  unfold f_X11_foggyIn f_X12_foggyIn f_X11_refused f_X11_answered f_X12_refuse
  simp only [bM_e]
  generalize uI (uI S 200 1 0) 200 0 0 = S at *
  obtain ⟨v, hv, -, hC, hA, -⟩ := hR.get
  have v0 := hv.1.1
  have v1 := hv.1.2.1
  have b30 := bd30 v0 v1
  have hf9 := hv.2.2.2.2.2.2.2.2.2.2.1
  have h10 := hv.2.2.2.2.2.1
  have v8 := hv.2.2.2.2.1
  have p64 := pow_le64 hv.1.2.2.1
  obtain ⟨q, e3, hq⟩ := in_is 0 48 (by omega) S z
  rw [show f_X12_isIn z.toInt64 0 48 S = _ from e3]
  rcases hq with ⟨rfl, n, -, hn, rfl⟩ | ⟨rfl, hy | ⟨n, hn, hw, rfl⟩⟩
  · have l1 : ¬ n < 0 := by omega
    simp (disch := omega) only [n_tn, n_tl, n_t0, n_lt, n_le, n_eq, n_ltl, n_lel, n_eql, n_llt, n_lle, n_leq, n_m1l, n_m1r, n_addl, n_ladd, nI_add, n_mul, n_mull, n_lmul, n_sub, n_subl, n_div, n_divl, n_modd, bi_s, if_false, if_true, l1, hn, Bool.true_eq_false, b2i_0]
    apply Same.of
    rw [Ho_bv]
    refine Ho_mono (c_look hN hv hn hC) ?_
    rintro C1 ⟨hS1, hA1⟩
    have hfl := hrN_le (g := v 10) hv.1 hf9 n
    rw [c_count (v := v) (by omega) ⟨v0, v1, v8⟩ rfl (hS1.at (by simp) hC.1.1) (hS1.at (by simp) hC.1.2.1) (hS1.at (by simp) hC.2.1) hA1 hfl]
    simp only [bi_s, Ho_some]
    rw [Ho_bv]
    refine Ho_mono (m_keeps hN) ?_
    rintro S1 ⟨k1, k2⟩
    refine Ho_lp (fun i a S' => a = (nI n, nI i) ∧ SmH S1 S' ∧ Ar S' 205 435 (hvN v i)) n (by omega) ⟨rfl, SmH.rf, hA.same (k1.2 205 (by simp))⟩ ?_
    rintro i hi k hk _ S2 ⟨rfl, s2, a2⟩
    obtain ⟨q1, q2, q3⟩ := hv_ok hv.1 hf9 i
    obtain ⟨w1, w2, w3⟩ := hv_vw hv.1 hf9 i
    unfold f_X12_foggyIn_h34
    by_cases g : n ≤ i
    · have e : i = n := by omega
      subst e
      have i0 := q1 0 (by omega)
      have i1 := q1 1 (by omega)
      have i8 := q1 8 (by omega)
      simp (disch := omega) only [n_tn, n_tl, n_t0, n_lt, n_le, n_eq, n_ltl, n_lel, n_eql, n_llt, n_lle, n_leq, n_m1l, n_m1r, n_addl, n_ladd, nI_add, n_mul, n_mull, n_lmul, n_sub, n_subl, n_div, n_divl, n_modd, true_and, and_true, bi_s, bv_s, bM_e, bI_e, bL_e, ck_n, ck_l, ck_0, Nat.le_refl, if_true, m_count (N := N) (v := hvN v i) (by omega) (by rw [i0, i1, i8]; exact ⟨v0, v1, v8⟩) a2 w2, Ho_bv]
      refine Ho_mono (m_gives hN) ?_
      rintro S3 ⟨g1, g2, g3⟩
      rw [Ho_some]
      refine ⟨?_, cl_for hR hs hS1 scr94 (m_back hA k1 k2 s2 a2 (fun i hi => q1 i (Or.inr hi)) g1 g2 g3) scr2⟩
      dsimp only
      rw [i0, i1, i8, cnF_cong b30 (F := fogv (hvN v i)) q3]
    · simp (disch := omega) only [n_tn, n_tl, n_t0, n_lt, n_le, n_eq, n_ltl, n_lel, n_eql, n_llt, n_lle, n_leq, n_m1l, n_m1r, n_addl, n_ladd, nI_add, n_mul, n_mull, n_lmul, n_sub, n_subl, n_div, n_divl, n_modd, true_and, and_true, bi_s, bv_s, bM_e, bI_e, bL_e, ck_n, ck_l, ck_0, if_neg g, Ho_bv]
      refine Ho_mono (mh_hour hN w1 a2 w2 (by rw [w3]; omega)) ?_
      rintro S3 ⟨s3, a3⟩
      exact hk (by omega) _ _ ⟨rfl, s2.tr s3, a3⟩
  · simp only [bi_s, if_pos hy, if_true, b2i_0]
    exact Same.mk (cl_ref hR _)
  · have l1 : ¬ (n < 0) := by omega
    have l2 : ¬ n ≤ 48 := by omega
    simp (disch := omega) only [n_tn, n_tl, n_t0, n_lt, n_le, n_eq, n_ltl, n_lel, n_eql, n_llt, n_lle, n_leq, n_m1l, n_m1r, n_addl, n_ladd, nI_add, n_mul, n_mull, n_lmul, n_sub, n_subl, n_div, n_divl, n_modd, bi_s, if_true, l1, l2, if_false, b2i_0]
    exact Same.mk (cl_ref hR _)
/-- the first hour with p, of 49; -1 if there is none -/
def FH (p : Nat → Bool) (r : Int32) : Prop := (∃ t, t ≤ 48 ∧ (∀ j, j < t → p j = false) ∧ p t = true ∧ r = nI t) ∨ ((∀ j, j ≤ 48 → p j = false) ∧ r = -1)
theorem FH_uniq {p : Nat → Bool} {r r' : Int32} (h : FH p r) (h' : FH p r') : r = r' := by
  rcases h with ⟨t, a, b, c, d⟩ | ⟨a, b⟩
  · rcases h' with ⟨t', a', b', c', d'⟩ | ⟨a', b'⟩
    · have : t = t' := by
        rcases Nat.lt_trichotomy t t' with g | g | g
        · rw [b' t g] at c; cases c
        · exact g
        · rw [b t' g] at c'; cases c'
      rw [d, d', this]
    · rw [a' t a] at c; cases c
  · rcases h' with ⟨t', a', b', c', d'⟩ | ⟨a', b'⟩
    · rw [a t' a'] at c'; cases c'
    · rw [b, b']
def fgAt (v : Nat → Nat) (b : Nat) (w : Bool) (t : Nat) : Bool := decide (v 8 ≤ hrN v (v 10) (fogv v) t b + hrN v (v 10) (fogv v) t (30 + b)) == w
theorem c_first {v : Nat → Nat} {b : Nat} {w : Bool} (hN : 200 < N) (hv : VV v) (hb : b < 30) (hC : PC C 10 v) : Ho (f_X0_firstHour N 10 (nI b) (b2i w) C) (fun q => FH (fgAt v b w) q.1 ∧ Sm [94, 91] C q.2) := by
  have hf9 := hv.2.2.2.2.2.2.2.2.2.2.1
  have h10 := hv.2.2.2.2.2.1
  have v8 := hv.2.2.2.2.1
  have p64 := pow_le64 hv.1.2.2.1
  unfold f_X0_firstHour
  rw [bM_e]
  refine Ho_lp (fun i a M' => a = (nI b, b2i w, nI i) ∧ Sm [94, 91] C M' ∧ Ar M' 94 60 (hrN v (v 10) (fogv v) i) ∧ ∀ j, j < i → fgAt v b w j = false) 49 (by omega) ⟨rfl, Sm.rf.rI (by simp), cpy60 hC.2.2.2.2.2.2.2.2.2.2.2.1, fun j hj => absurd hj (Nat.not_lt_zero j)⟩ ?_
  rintro i hi k hk _ M1 ⟨rfl, hS1, hA1, hf⟩
  unfold f_X0_firstHour_h18
  by_cases g : 48 < i
  · simp (disch := omega) only [n_tn, n_tl, n_t0, n_lt, n_le, n_eq, n_ltl, n_lel, n_eql, n_llt, n_lle, n_leq, n_m1l, n_m1r, n_addl, n_ladd, nI_add, n_mul, n_mull, n_lmul, n_sub, n_subl, n_div, n_divl, n_modd, true_and, and_true, bi_s, bv_s, bM_e, bI_e, bL_e, ck_n, ck_l, ck_0, if_pos g, Ho_some]
    exact ⟨Or.inr ⟨fun j hj => hf j (by omega), rfl⟩, hS1⟩
  · have hle := hrN_le (g := v 10) hv.1 hf9 i
    rw [if_neg (by rw [n_llt (by omega)]; exact g), c_foggy (F := hrN v (v 10) (fogv v) i) (w := v 8) rfl (hS1.at (by simp) hC.2.1) hA1 hb hle (by omega), bi_s]
    by_cases e : fgAt v b w i = true
    · have e2 : decide (v 8 ≤ hrN v (v 10) (fogv v) i b + hrN v (v 10) (fogv v) i (30 + b)) = w := by
        unfold fgAt at e
        exact eq_of_beq e
      rw [if_pos (by rw [e2]), Ho_some]
      exact ⟨Or.inl ⟨i, by omega, hf, e, rfl⟩, hS1⟩
    · have e2 : ¬ decide (v 8 ≤ hrN v (v 10) (fogv v) i b + hrN v (v 10) (fogv v) i (30 + b)) = w := by
        intro z
        apply e
        unfold fgAt
        rw [z]
        exact beq_self_eq_true w
      rw [if_neg (by
        intro z
        apply e2
        revert z
        generalize decide (v 8 ≤ hrN v (v 10) (fogv v) i b + hrN v (v 10) (fogv v) i (30 + b)) = d
        cases d <;> cases w <;> simp [b2i]), hS1.at (by simp) hC.2.2.2.1, Ho_bv]
      refine Ho_mono (cw_hour (by omega) hv.1 rfl (by omega) (by omega) (hC.1.same (hS1.2 _ (by simp)) (hS1.2 _ (by simp))) hA1 hle (by omega)) ?_
      rintro M2 ⟨hS2, hA2⟩
      refine hk (by omega) _ _ ⟨by dsimp only; rw [nI_1], hS1.tr hS2, hA2, fun j hj => ?_⟩
      by_cases c : j = i
      · rw [c]
        simpa using e
      · exact hf j (by omega)
theorem m_first {v : Nat → Nat} {b : Nat} {w : Bool} (hN : 200 < N) (hv : VV v) (hb : b < 30) (hA : Ar S 205 435 v) : Ho (f_X12_hourWith N (nI b) (b2i w) S) (fun q => FH (fgAt v b w) q.1 ∧ Sm [206, 209] S q.2) := by
  have hf9 := hv.2.2.2.2.2.2.2.2.2.2.1
  have h10 := hv.2.2.2.2.2.1
  have v8 := hv.2.2.2.2.1
  have p64 := pow_le64 hv.1.2.2.1
  unfold f_X12_hourWith
  rw [Ho_bv]
  refine Ho_mono (m_keeps hN) ?_
  rintro S1 ⟨k1, k2⟩
  refine Ho_lp (fun i a S' => a = (nI b, b2i w, nI i) ∧ SmH S1 S' ∧ Ar S' 205 435 (hvN v i) ∧ ∀ j, j < i → fgAt v b w j = false) 49 (by omega) ⟨rfl, SmH.rf, hA.same (k1.2 205 (by simp)), fun j hj => absurd hj (Nat.not_lt_zero j)⟩ ?_
  rintro i hi k hk _ S2 ⟨rfl, s2, a2, hf⟩
  obtain ⟨q1, q2, q3⟩ := hv_ok hv.1 hf9 i
  obtain ⟨w1, w2, w3⟩ := hv_vw hv.1 hf9 i
  unfold f_X12_hourWith_h6 f_X12_hourWith_b31
  by_cases g : 48 < i
  · simp (disch := omega) only [n_tn, n_tl, n_t0, n_lt, n_le, n_eq, n_ltl, n_lel, n_eql, n_llt, n_lle, n_leq, n_m1l, n_m1r, n_addl, n_ladd, nI_add, n_mul, n_mull, n_lmul, n_sub, n_subl, n_div, n_divl, n_modd, true_and, and_true, bi_s, bv_s, bM_e, bI_e, bL_e, ck_n, ck_l, ck_0, if_pos g, Ho_bv]
    refine Ho_mono (m_gives hN) ?_
    rintro S3 ⟨g1, g2, g3⟩
    rw [if_neg (by omega), Ho_some]
    exact ⟨Or.inr ⟨fun j hj => hf j (by omega), rfl⟩, m_back hA k1 k2 s2 a2 (fun i hi => q1 i (Or.inr hi)) g1 g2 g3⟩
  · have e3 : hvN v i (133 + b) = hrN v (v 10) (fogv v) i (30 + b) := by rw [show 133 + b = 103 + (30 + b) by omega, q3 _ (by omega)]
    rw [if_neg (by rw [n_llt (by omega)]; exact g), m_foggy a2 hb w2 (by rw [q1 8 (by omega)]; omega), bi_s, q1 8 (by omega), q3 b (by omega), e3]
    by_cases e : fgAt v b w i = true
    · have e2 : decide (v 8 ≤ hrN v (v 10) (fogv v) i b + hrN v (v 10) (fogv v) i (30 + b)) = w := by
        unfold fgAt at e
        exact eq_of_beq e
      rw [if_pos (by rw [e2]), Ho_bv]
      refine Ho_mono (m_gives hN) ?_
      rintro S3 ⟨g1, g2, g3⟩
      rw [if_pos (by rw [n_lel (by omega)]; omega), Ho_some]
      exact ⟨Or.inl ⟨i, by omega, hf, e, rfl⟩, m_back hA k1 k2 s2 a2 (fun i hi => q1 i (Or.inr hi)) g1 g2 g3⟩
    · have e2 : ¬ decide (v 8 ≤ hrN v (v 10) (fogv v) i b + hrN v (v 10) (fogv v) i (30 + b)) = w := by
        intro z
        apply e
        unfold fgAt
        rw [z]
        exact beq_self_eq_true w
      rw [if_neg (by
        intro z
        apply e2
        revert z
        generalize decide (v 8 ≤ hrN v (v 10) (fogv v) i b + hrN v (v 10) (fogv v) i (30 + b)) = d
        cases d <;> cases w <;> simp [b2i]), Ho_bv]
      refine Ho_mono (mh_hour hN w1 a2 w2 (by rw [w3]; omega)) ?_
      rintro S3 ⟨s3, a3⟩
      refine hk (by omega) _ _ ⟨by dsimp only; rw [nI_1], s2.tr s3, a3, fun j hj => ?_⟩
      by_cases c : j = i
      · rw [c]
        simpa using e
      · exact hf j (by omega)
theorem FH_cases {p : Nat → Bool} {r : Int32} (h : FH p r) : (∃ t, t ≤ 48 ∧ r = nI t) ∨ r = -1 := by
  rcases h with ⟨t, a, -, -, d⟩ | ⟨-, b⟩
  · exact Or.inl ⟨t, a, d⟩
  · exact Or.inr b
theorem e_lifts (hN : 200 < N) (h : Rel C S) (x y : Int32) : Same (f_X11_lifts N x y C) (f_X12_lifts N x y S) := by
  have hR := Re.go h
  have hs := S0_st S 0 0
  unfold f_X11_lifts f_X12_lifts f_X11_answeredIfAny f_X11_refused f_X11_answered f_X12_refuse f_X5_boardAt
  simp only [bM_e]
  generalize uI (uI S 200 1 0) 200 0 0 = S at *
  obtain ⟨v, hv, -, hC, hA, -⟩ := hR.get
  have v0 := hv.1.1
  have v1 := hv.1.2.1
  have b30 := bd30 v0 v1
  obtain ⟨b, e1, e2, hb⟩ := board_is (v := v) (by omega) hC.1.1 hC.1.2.1 (hA 0 (by omega)) (hA 1 (by omega)) x y
  simp only [e1, e2, bi_s, b2i_0]
  cases b with
  | false => exact Same.mk (cl_ref hR _)
  | true =>
    obtain ⟨c, r, hc, hr, rfl, rfl⟩ := hb rfl
    have hb := bd hc hr
    have eq : v 0 * r + c = r * v 0 + c := by rw [Nat.mul_comm]
    simp only [Bool.true_eq_false, if_false, hC.1.1, n_mul, nI_add, m_board (x := c) (y := r) (hA 0 (by omega)), eq, bi_s]
    apply Same.of
    rw [Ho_bi]
    refine Ho_mono (c_first (b := r * v 0 + c) (w := false) hN hv (by omega) hC) ?_
    rintro ⟨r1, C1⟩ ⟨f1, s1⟩
    dsimp only at f1 s1 ⊢
    have key : ∀ {o : Option (Int32 × Mem)}, (∀ S1 : Mem, Sm [206, 209] S S1 → Ho (if 0 ≤ r1 then some (r1, S1) else some (-1, uI S1 200 0 8)) (fun q' => Ho o (fun q => q.1 = q'.1 ∧ Rel q.2 q'.2))) → Ho o (fun q => Ho (bi (f_X12_hourWith N (nI (r * v 0 + c)) 0 S) fun r_11 M_9 => if 0 ≤ r_11 then some (r_11, M_9) else some (-1, uI M_9 200 0 8)) (fun q' => q.1 = q'.1 ∧ Rel q.2 q'.2)) := by
      intro o ho
      obtain ⟨⟨r2, S1⟩, e, f2, s2⟩ := m_first (b := r * v 0 + c) (w := false) hN hv (by omega) hA
      dsimp only at f2 s2
      have := FH_uniq f1 f2
      subst this
      obtain ⟨q', e', q, e'', h⟩ := ho S1 s2
      refine ⟨q, e'', ?_⟩
      rw [show f_X12_hourWith N (nI (r * v 0 + c)) 0 S = _ from e, bi_s]
      exact ⟨q', e', h⟩
    apply key
    intro S1 s2
    rcases FH_cases f1 with ⟨t, ht, rfl⟩ | rfl
    · rw [if_pos (nI_pos' (by omega)), Ho_some, if_neg (by rw [n_m1l (by omega)]; exact id), bi_s, Ho_some]
      exact ⟨rfl, cl_for hR hs s1 scr94 s2 scr2⟩
    · rw [if_neg (by decide), Ho_some, if_pos rfl, bi_s, Ho_some]
      exact ⟨rfl, cl_forR hR s1 scr94 s2 scr2 8⟩
theorem e_comes (hN : 200 < N) (h : Rel C S) (x y : Int32) : Same (f_X11_comes N x y C) (f_X12_comes N x y S) := by
  have hR := Re.go h
  have hs := S0_st S 0 0
  unfold f_X11_comes f_X12_comes f_X11_answeredIfAny f_X11_refused f_X11_answered f_X12_refuse f_X5_boardAt
  simp only [bM_e]
  generalize uI (uI S 200 1 0) 200 0 0 = S at *
  obtain ⟨v, hv, -, hC, hA, -⟩ := hR.get
  have v0 := hv.1.1
  have v1 := hv.1.2.1
  have b30 := bd30 v0 v1
  obtain ⟨b, e1, e2, hb⟩ := board_is (v := v) (by omega) hC.1.1 hC.1.2.1 (hA 0 (by omega)) (hA 1 (by omega)) x y
  simp only [e1, e2, bi_s, b2i_0]
  cases b with
  | false => exact Same.mk (cl_ref hR _)
  | true =>
    obtain ⟨c, r, hc, hr, rfl, rfl⟩ := hb rfl
    have hb := bd hc hr
    have eq : v 0 * r + c = r * v 0 + c := by rw [Nat.mul_comm]
    simp only [Bool.true_eq_false, if_false, hC.1.1, n_mul, nI_add, m_board (x := c) (y := r) (hA 0 (by omega)), eq, bi_s]
    apply Same.of
    rw [Ho_bi]
    refine Ho_mono (c_first (b := r * v 0 + c) (w := true) hN hv (by omega) hC) ?_
    rintro ⟨r1, C1⟩ ⟨f1, s1⟩
    dsimp only at f1 s1 ⊢
    have key : ∀ {o : Option (Int32 × Mem)}, (∀ S1 : Mem, Sm [206, 209] S S1 → Ho (if 0 ≤ r1 then some (r1, S1) else some (-1, uI S1 200 0 8)) (fun q' => Ho o (fun q => q.1 = q'.1 ∧ Rel q.2 q'.2))) → Ho o (fun q => Ho (bi (f_X12_hourWith N (nI (r * v 0 + c)) 1 S) fun r_11 M_9 => if 0 ≤ r_11 then some (r_11, M_9) else some (-1, uI M_9 200 0 8)) (fun q' => q.1 = q'.1 ∧ Rel q.2 q'.2)) := by
      intro o ho
      obtain ⟨⟨r2, S1⟩, e, f2, s2⟩ := m_first (b := r * v 0 + c) (w := true) hN hv (by omega) hA
      dsimp only at f2 s2
      have := FH_uniq f1 f2
      subst this
      obtain ⟨q', e', q, e'', h⟩ := ho S1 s2
      refine ⟨q, e'', ?_⟩
      rw [show f_X12_hourWith N (nI (r * v 0 + c)) 1 S = _ from e, bi_s]
      exact ⟨q', e', h⟩
    apply key
    intro S1 s2
    rcases FH_cases f1 with ⟨t, ht, rfl⟩ | rfl
    · rw [if_pos (nI_pos' (by omega)), Ho_some, if_neg (by rw [n_m1l (by omega)]; exact id), bi_s, Ho_some]
      exact ⟨rfl, cl_for hR hs s1 scr94 s2 scr2⟩
    · rw [if_neg (by decide), Ho_some, if_pos rfl, bi_s, Ho_some]
      exact ⟨rfl, cl_forR hR s1 scr94 s2 scr2 8⟩
end C3
