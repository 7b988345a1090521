section E2
variable {N : Nat} {C S M : Mem} {v : Nat → Nat}
theorem nar_b (b : Bool) : vp_nar .boolean (b2i b) = b2i b := by cases b <;> decide
theorem nar_0 : vp_nar .boolean 0 = b2i false := by decide
theorem nar_1 : vp_nar .boolean 1 = b2i true := by decide
/-- the model's frame in a forecast that also keeps rows of boards -/
def SmQ (S S' : Mem) : Prop := S'.2 = S.2 ∧ (∀ c, c ≠ 205 → c ≠ 209 → c ≠ 212 → c ≠ 213 → S'.1 c = S.1 c) ∧ ∀ k, 435 ≤ k → S'.1 205 k = S.1 205 k
theorem SmQ.rf : SmQ S S := ⟨rfl, fun _ _ _ _ _ => rfl, fun _ _ => rfl⟩
theorem SmQ.tr {S1 S2 : Mem} (h : SmQ S S1) (h2 : SmQ S1 S2) : SmQ S S2 := ⟨h2.1.trans h.1, fun c a b d e => (h2.2.1 c a b d e).trans (h.2.1 c a b d e), fun k a => (h2.2.2 k a).trans (h.2.2 k a)⟩
theorem SmQ.h {S1 S2 : Mem} (h : SmQ S S1) (h2 : SmH S1 S2) : SmQ S S2 := h.tr ⟨h2.1.1, fun c a b _ _ => h2.1.2 c (by simp [a, b]), h2.2⟩
theorem SmQ.b {S1 : Mem} {e j : Nat} {x : Int32} (h : SmQ S S1) (he : e = 212 ∨ e = 213) : SmQ S (uI S1 e j x) := h.tr ⟨rfl, fun c _ _ a b => u_ne (by omega), fun k _ => by rw [u_ne (by omega)]⟩
theorem m_back2 {S1 S2 S3 : Mem} {v2 : Nat → Nat} (hA : Ar S 205 435 v) (a1 : Sm [206, 212] S S1) (a2 : ∀ k, k < 163 → S1.1 206 k = S.1 205 k) (b1 : SmQ S1 S2) (b2 : Ar S2 205 435 v2) (b3 : ∀ i, 163 ≤ i → v2 i = v i) (c1 : Sm [205] S2 S3) (c2 : ∀ k, k < 163 → S3.1 205 k = S2.1 206 k) (c3 : ∀ k, 163 ≤ k → S3.1 205 k = S2.1 205 k) : Sm [206, 209, 212, 213] S S3 := by
  refine ⟨c1.1.trans (b1.1.trans a1.1), fun c hc => ?_⟩
  simp at hc
  by_cases e : c = 205
  · subst e
    funext k
    by_cases h : k < 163
    · rw [c2 k h, b1.2.1 206 (by decide) (by decide) (by decide) (by decide), a2 k h]
    · rw [c3 k (by omega)]
      by_cases g : k < 435
      · rw [b2 k g, b3 k (by omega), hA k g]
      · rw [b1.2.2 k (by omega), a1.2 205 (by simp)]
  · rw [c1.2 c (by simp [e]), b1.2.1 c e hc.2.1 hc.2.2.1 hc.2.2.2, a1.2 c (by simp [hc])]
theorem rcS_out {dk : Bool} {fr b : Nat} (hf : fr < v 0 * v 1) (hb : v 0 * v 1 ≤ b) : ∀ t, rcS v dk fr t b = false
  | 0 => by
    unfold rcS
    exact decide_eq_false (by omega)
  | t + 1 => by
    rw [rcS_s, decide_eq_false (by omega)]
    rfl
theorem m_sail {fr to s : Nat} {dk : Bool} (hN : 200 < N) (hv : VV v) (hA : Ar S 205 435 v) (hs : s < v 5) (hfr : fr = v 0 * v (87 + s) + v (83 + s)) (hto : to = v 0 * v (95 + s) + v (91 + s)) : Ho (f_X12_sail_b42 N (nI s) (b2i dk) S) (fun q => ∃ r, FH (fun t => rcS v dk fr t to) r ∧ ((r = -1 ∧ q.1 = -1 ∧ ∃ S1, Sm [206, 209, 212, 213] S S1 ∧ q.2 = uI S1 200 0 8) ∨ (r ≠ -1 ∧ q.1 = r ∧ Sm [206, 209, 212, 213] S q.2))) := by
  have v5 := hv.2.2.2.1
  have v8 := hv.2.2.2.2.1
  have b30 := bd30 hv.1.1 hv.1.2.1
  have hf9 : ∀ k, k < 60 → v (103 + k) ≤ 999 := hv.2.2.2.2.2.2.2.2.2.2.1
  have h10 := hv.2.2.2.2.2.1
  have p64 := pow_le64 hv.1.2.2.1
  obtain ⟨l0, l1, l2, l3, l4⟩ := hv.2.2.2.2.2.2.2.2.2.1 s hs
  have hfr' : fr < v 0 * v 1 := by rw [hfr, Nat.mul_comm (v 0) (v (87 + s))]; exact bd l0 l1
  have hto' : to < v 0 * v 1 := by rw [hto, Nat.mul_comm (v 0) (v (95 + s))]; exact bd l2 l3
  unfold f_X12_sail_b42
  simp (disch := omega) only [n_tn, n_tl, n_t0, n_lt, n_le, n_eq, n_ltl, n_lel, n_eql, n_llt, n_lle, n_leq, n_m1l, n_m1r, n_addl, n_ladd, nI_add, n_mul, n_mull, n_lmul, n_sub, n_subl, n_div, n_divl, n_modd, true_and, and_true, bi_s, bv_s, bM_e, bI_e, bL_e, ck_n, ck_l, ck_0, hA (91 + s) (by omega), hA (95 + s) (by omega), m_board (hA 0 (by omega)), ← hto]
  refine Ho_lp (fun i a S' => a = (nI s, b2i dk, nI to, nI i) ∧ Sm [206, 212] S S' ∧ ∀ b, b < i → S'.1 212 b = b2i (rcS v dk fr 0 b)) 30 (by omega) ⟨rfl, Sm.rf, fun b hb => absurd hb (Nat.not_lt_zero b)⟩ ?_
  rintro i hi k69 hk69 _ S1 ⟨rfl, s1, q1⟩
  have A1 : Ar S1 205 435 v := hA.same (s1.2 205 (by simp))
  unfold f_X12_sail_h69 f_X12_sail_b114
  by_cases gi : 30 ≤ i
  case neg =>
    simp (disch := omega) only [n_tn, n_tl, n_t0, n_lt, n_le, n_eq, n_ltl, n_lel, n_eql, n_llt, n_lle, n_leq, n_m1l, n_m1r, n_addl, n_ladd, nI_add, n_mul, n_mull, n_lmul, n_sub, n_subl, n_div, n_divl, n_modd, true_and, and_true, bi_s, bv_s, bM_e, bI_e, bL_e, ck_n, ck_l, ck_0, if_neg gi, A1 (83 + s) (by omega), A1 (87 + s) (by omega), m_board (A1 0 (by omega)), ← hfr, nar_0, nar_1]
    have step : ∀ y, y = rcS v dk fr 0 i → ∀ b, b < i + 1 → (uI S1 212 i (b2i y)).1 212 b = b2i (rcS v dk fr 0 b) := fun y hy b hb => by
      rw [us_same, g_upd]
      by_cases e : b = i
      · rw [if_pos e, hy, e]
      · rw [if_neg e]; exact q1 b (by omega)
    by_cases e : i = fr
    · rw [if_pos e]
      exact hk69 (by omega) _ _ ⟨rfl, s1.uI (by simp), step true (by unfold rcS; exact (decide_eq_true e).symm)⟩
    · rw [if_neg e]
      exact hk69 (by omega) _ _ ⟨rfl, s1.uI (by simp), step false (by unfold rcS; exact (decide_eq_false e).symm)⟩
  have e30 : i = 30 := by omega
  subst e30
  simp (disch := omega) only [n_tn, n_tl, n_t0, n_lt, n_le, n_eq, n_ltl, n_lel, n_eql, n_llt, n_lle, n_leq, n_m1l, n_m1r, n_addl, n_ladd, nI_add, n_mul, n_mull, n_lmul, n_sub, n_subl, n_div, n_divl, n_modd, true_and, and_true, bi_s, bv_s, bM_e, bI_e, bL_e, ck_n, ck_l, ck_0, if_pos gi, Ho_bv]
  refine Ho_mono (m_keeps hN) ?_
  rintro S2 ⟨k1, k2⟩
  have s2 : Sm [206, 212] S S2 := s1.tr (k1.mono (by simp))
  have kk : ∀ k, k < 163 → S2.1 206 k = S.1 205 k := fun k hk => by rw [k2 k hk, s1.2 205 (by simp)]
  have A2 : Ar S2 205 435 v := hA.same (s2.2 205 (by simp))
  have q2 : ∀ b, b < 30 → S2.1 212 b = b2i (rcS v dk fr 0 b) := fun b hb => by rw [k1.2 212 (by simp)]; exact q1 b hb
  refine Ho_lp (fun t a S' => a = (b2i dk, nI to, nI t) ∧ SmQ S2 S' ∧ Ar S' 205 435 (hvN v t) ∧ (∀ b, b < 30 → S'.1 212 b = b2i (rcS v dk fr t b)) ∧ ∀ j, j < t → rcS v dk fr j to = false) 49 (by omega) ⟨rfl, SmQ.rf, A2, q2, fun j hj => absurd hj (Nat.not_lt_zero j)⟩ ?_
  rintro t ht k128 hk128 _ S3 ⟨rfl, s3, A3, q3, n3⟩
  obtain ⟨o1, o2, o3⟩ := hv_ok hv.1 hf9 t
  obtain ⟨w1, w2, w3⟩ := hv_vw hv.1 hf9 t
  have fin : Ho (f_X12_gives N S3) (fun S' => Sm [206, 209, 212, 213] S S') := Ho_mono (m_gives hN) fun S4 ⟨g1, g2, g3⟩ => m_back2 hA s2 kk s3 A3 (fun i hi => o1 i (Or.inr hi)) g1 g2 g3
  unfold f_X12_sail_h128 f_X12_sail_b314
  dsimp only
  by_cases gt : 48 < t
  · rw [if_pos (by rw [n_llt (by omega)]; exact gt), Ho_bv]
    refine Ho_mono fin ?_
    intro S4 s4
    rw [if_neg (by rw [n_lel (by omega)]; omega)]
    unfold f_X12_refuse
    rw [bM_e, bi_s, Ho_some]
    exact ⟨-1, Or.inr ⟨fun j hj => n3 j (by omega), rfl⟩, Or.inl ⟨rfl, rfl, S4, s4, rfl⟩⟩
  rw [if_neg (by rw [n_llt (by omega)]; exact gt), ck_n (by omega), t_n (by omega), q3 to (by omega)]
  simp only [b2i_0]
  cases rt : rcS v dk fr t to with
  | true =>
    rw [if_neg (by decide), Ho_bv]
    refine Ho_mono fin ?_
    intro S4 s4
    rw [if_pos (by rw [n_lel (by omega)]; omega), Ho_some]
    exact ⟨nI t, Or.inl ⟨t, by omega, n3, rt, rfl⟩, Or.inr ⟨fun z => by rw [n_m1l (by omega)] at z; exact z, rfl, s4⟩⟩
  | false =>
  rw [if_pos rfl, Ho_bv, n_addl]
  refine Ho_mono (mh_hour hN w1 A3 w2 (by rw [w3]; omega)) ?_
  rintro S4 ⟨s4, A4⟩
  have A4' : Ar S4 205 435 (hvN v (t + 1)) := A4
  obtain ⟨o1', o2', o3'⟩ := hv_ok hv.1 hf9 (t + 1)
  obtain ⟨w1', w2', w3'⟩ := hv_vw hv.1 hf9 (t + 1)
  have q4 : ∀ b, b < 30 → S4.1 212 b = b2i (rcS v dk fr t b) := fun b hb => by rw [s4.1.2 212 (by simp)]; exact q3 b hb
  have fgE : ∀ (M : Mem) (b : Nat), M.1 205 = S4.1 205 → b < v 0 * v 1 → f_X12_isFoggy (nI b) M = some (fgy v (hrN v (v 10) (fogv v) (t + 1)) b, M) := fun M b hM hb => by
    rw [m_foggy (v := hvN v (t + 1)) (A4'.same hM) (by omega) w2' (by rw [o1' 8 (by omega)]; omega)]
    unfold fgy
    rw [o1' 8 (by omega), o3' b (by omega), show 133 + b = 103 + (30 + b) by omega, o3' (30 + b) (by omega)]
  have wd : ∀ (M : Mem), M.1 205 = S4.1 205 → M.1 205 0 = nI (v 0) ∧ M.1 205 1 = nI (v 1) := fun M hM => by rw [hM, A4' 0 (by omega), A4' 1 (by omega), o1' 0 (by omega), o1' 1 (by omega)]; exact ⟨rfl, rfl⟩
  -- the boards
  refine Ho_lp (fun b a S' => a = (b2i dk, nI to, nI (t + 1), nI b) ∧ SmQ S2 S' ∧ S'.1 205 = S4.1 205 ∧ S'.1 212 = S4.1 212 ∧ ∀ x, x < b → S'.1 213 x = b2i (rcS v dk fr (t + 1) x)) (v 0 * v 1) (by omega) ⟨rfl, s3.h s4, rfl, rfl, fun x hx => absurd hx (Nat.not_lt_zero x)⟩ ?_
  rintro b hb k154 hk154 _ S5 ⟨rfl, s5, e5, f5, q5⟩
  unfold f_X12_sail_h154
  dsimp only
  rw [m_boards (wd S5 e5).1 (wd S5 e5).2, bi_s]
  by_cases gb : v 0 * v 1 ≤ b
  · have eb : b = v 0 * v 1 := by omega
    rw [if_pos (by rw [n_le (by omega)]; exact gb)]
    refine Ho_lp (fun j a S' => a = (b2i dk, nI to, nI (t + 1), nI j) ∧ SmQ S2 S' ∧ S'.1 205 = S4.1 205 ∧ S'.1 213 = S5.1 213 ∧ (∀ x, x < j → S'.1 212 x = b2i (rcS v dk fr (t + 1) x)) ∧ ∀ x, v 0 * v 1 ≤ x → S'.1 212 x = S4.1 212 x) (v 0 * v 1) (by omega) ⟨rfl, s5, e5, rfl, fun x hx => absurd hx (Nat.not_lt_zero x), fun x _ => by rw [f5]⟩ ?_
    rintro j hj k282 hk282 _ S6 ⟨rfl, s6, e6, f6, q6, r6⟩
    unfold f_X12_sail_h282
    dsimp only
    rw [m_boards (wd S6 e6).1 (wd S6 e6).2, bi_s]
    by_cases gj : v 0 * v 1 ≤ j
    · rw [if_pos (by rw [n_le (by omega)]; exact gj)]
      refine hk128 (by omega) _ _ ⟨rfl, s6, A4'.same e6, fun x hx => ?_, fun j hj => ?_⟩
      · by_cases c : x < v 0 * v 1
        · exact q6 x (by omega)
        · rw [r6 x (by omega), q4 x hx, rcS_out hfr' (by omega), rcS_out hfr' (by omega)]
      · by_cases e : j = t
        · rw [e]; exact rt
        · exact n3 j (by omega)
    · rw [if_neg (by rw [n_le (by omega)]; exact gj), ck_n (by omega), ck_n (by omega), t_n (by omega), bM_e, f6, q5 j (by omega), nar_b, n_addl]
      refine hk282 (by omega) _ _ ⟨rfl, s6.b (by omega), by rw [u_ne (by decide)]; exact e6, by rw [u_ne (by decide)]; exact f6, fun x hx => ?_, fun x hx => ?_⟩
      · rw [us_same, g_upd]
        by_cases e : x = j
        · rw [if_pos e, e]
        · rw [if_neg e]; exact q6 x (by omega)
      · rw [us_same, g_upd, if_neg (by omega)]; exact r6 x hx
  rw [if_neg (by rw [n_le (by omega)]; exact gb), ck_n (by omega), ck_n (by omega), t_n (by omega), bM_e, f5, q4 b (by omega), nar_b]
  refine Ho_lp (fun w a S' => a = (b2i dk, nI to, nI (t + 1), nI b, nI (w + 1)) ∧ SmQ S2 S' ∧ S'.1 205 = S4.1 205 ∧ S'.1 212 = S4.1 212 ∧ (∀ x, x < b → S'.1 213 x = b2i (rcS v dk fr (t + 1) x)) ∧ S'.1 213 b = b2i (nrs (v 0) (v 1) (rcS v dk fr t) b w)) 4 (by omega) ⟨rfl, s5.b (by omega), by rw [u_ne (by decide)]; exact e5, by rw [u_ne (by decide)]; exact f5, fun x hx => by rw [us_same, g_upd, if_neg (by omega)]; exact q5 x hx, u_at _ _ _ _⟩ ?_
  rintro w hw k180 hk180 _ S6 ⟨rfl, s6, e6, f6, q6, r6⟩
  unfold f_X12_sail_h180 f_X12_sail_b272 f_X12_sail_b271 f_X12_sail_b233 f_X12_sail_b229 f_X12_sail_b234
  unfold f_X12_sail_b272
  dsimp only
  by_cases gw : 4 < w + 1
  · have ew : w = 4 := by omega
    subst ew
    rw [if_pos (by rw [n_llt (by omega)]; exact gw), ck_n (by omega), t_n (by omega), r6, fgE S6 b e6 (by omega)]
    simp (disch := omega) only [true_and, and_true, bi_s, bv_s, bM_e, bI_e, bL_e, ck_n, ck_l, ck_0, n_addl, nar_0, nar_1, b2i_0, n_tn]
    have rs : rcS v dk fr (t + 1) b = ((fgy v (hrN v (v 10) (fogv v) (t + 1)) b == dk) && nrs (v 0) (v 1) (rcS v dk fr t) b 4) := by
      rw [rcS_s, decide_eq_true (show b < v 0 * v 1 by omega), Bool.true_and]
    have step : ∀ y, y = rcS v dk fr (t + 1) b → Ho (k154 (b2i dk, nI to, nI (t + 1), nI (b + 1)) (uI S6 213 b (b2i y))) (fun q => ∃ r, FH (fun t => rcS v dk fr t to) r ∧ ((r = -1 ∧ q.1 = -1 ∧ ∃ S1, Sm [206, 209, 212, 213] S S1 ∧ q.2 = uI S1 200 0 8) ∨ (r ≠ -1 ∧ q.1 = r ∧ Sm [206, 209, 212, 213] S q.2))) := fun y hy => by
      refine hk154 (by omega) _ _ ⟨rfl, s6.b (by omega), by rw [u_ne (by decide)]; exact e6, by rw [u_ne (by decide)]; exact f6, fun x hx => ?_⟩
      rw [us_same, g_upd]
      by_cases e : x = b
      · rw [if_pos e, hy, e]
      · rw [if_neg e]; exact q6 x (by omega)
    cases z : nrs (v 0) (v 1) (rcS v dk fr t) b 4 with
    | false =>
      rw [if_pos rfl]
      exact step false (by rw [rs, z, Bool.and_false])
    | true =>
      rw [if_neg (by decide)]
      by_cases f : fgy v (hrN v (v 10) (fogv v) (t + 1)) b = dk
      · rw [if_pos (by rw [f])]
        exact step true (by rw [rs, z, f]; simp)
      · rw [if_neg (fun e => f (by revert e; cases fgy v (hrN v (v 10) (fogv v) (t + 1)) b <;> cases dk <;> decide))]
        refine step false ?_
        have : (fgy v (hrN v (v 10) (fogv v) (t + 1)) b == dk) = false := by simpa using f
        rw [rs, this]
        rfl
  · rw [if_neg (by rw [n_llt (by omega)]; exact gw), ck_n (by omega), t_n (by omega), r6, m_nb (wd S6 e6).1 (wd S6 e6).2 (by omega) ⟨hv.1.1, hv.1.2.1⟩ (show b < v 0 * v 1 by omega)]
    simp (disch := omega) only [true_and, and_true, bi_s, bv_s, bM_e, bI_e, bL_e, ck_n, ck_l, ck_0, n_addl, nar_0, nar_1, b2i_0, n_tn]
    rw [m_nb (wd S6 e6).1 (wd S6 e6).2 (by omega) ⟨hv.1.1, hv.1.2.1⟩ (show b < v 0 * v 1 by omega), bi_s]
    have step : ∀ y, y = nrs (v 0) (v 1) (rcS v dk fr t) b (w + 1) → Ho (k180 (b2i dk, nI to, nI (t + 1), nI b, nI (w + 1 + 1)) (uI S6 213 b (b2i y))) (fun q => ∃ r, FH (fun t => rcS v dk fr t to) r ∧ ((r = -1 ∧ q.1 = -1 ∧ ∃ S1, Sm [206, 209, 212, 213] S S1 ∧ q.2 = uI S1 200 0 8) ∨ (r ≠ -1 ∧ q.1 = r ∧ Sm [206, 209, 212, 213] S q.2))) := fun y hy => by
      refine hk180 (by omega) _ _ ⟨rfl, s6.b (by omega), by rw [u_ne (by decide)]; exact e6, by rw [u_ne (by decide)]; exact f6, fun x hx => by rw [us_same, g_upd, if_neg (by omega)]; exact q6 x hx, by rw [u_at, hy]⟩
    cases z : nrs (v 0) (v 1) (rcS v dk fr t) b w with
    | true =>
      rw [if_neg (by decide)]
      exact step true (by rw [nrs, z]; rfl)
    | false =>
      rw [if_pos rfl]
      cases e : nbd (v 0) (v 1) b (w + 1) with
      | none =>
        rw [if_pos (show oI none < 0 by decide)]
        exact step false (by rw [nrs, z, e]; rfl)
      | some x =>
        have hx := (nb_is ⟨hv.1.1, hv.1.2.1⟩ (show b < v 0 * v 1 by omega) (by omega) e).1
        rw [show oI (some x) = nI x from rfl, if_neg (nI_pos (n := x) (by omega)), ck_n (by omega), t_n (by omega), f6, q4 x (by omega)]
        simp only [b2i_0]
        cases rx : rcS v dk fr t x with
        | false =>
          rw [if_pos rfl]
          exact step false (by rw [nrs, z, e]; dsimp only; rw [rx]; rfl)
        | true =>
          rw [if_neg (by decide)]
          exact step true (by rw [nrs, z, e]; dsimp only; rw [rx]; rfl)
theorem scr4 : ∀ c, c ∈ [206, 209, 212, 213] → scrS c := by intro c hc; simp at hc; unfold scrS; omega
theorem scr98 : ∀ c, c ∈ [98, 91] → 83 ≤ c ∧ c < 107 := by intro c hc; simp at hc; omega
theorem e_sail (hN : 200 < N) (h : Rel C S) (x : Int32) : Same (f_X11_sail N x C) (f_X12_sail N x S) := by
  have hR := Re.go h
  have hs := S0_st S 0 0
  unfold f_X11_sail f_X12_sail f_X11_answeredIfAny f_X11_refused f_X11_answered f_X12_refuse
  simp only [bM_e]
  generalize uI (uI S 200 1 0) 200 0 0 = S at *
  obtain ⟨v, hv, h9, hC, hA, hn⟩ := hR.get
  have v5 := hv.2.2.2.1
  obtain ⟨b, e1, e2, hb⟩ := ship_is (v := v) (by omega) hC.2.2.2.2.2.2.1 (hA 5 (by omega)) x
  simp only [e1, e2, bi_s, b2i_0]
  cases b with
  | false => exact Same.mk (cl_ref hR _)
  | true =>
    obtain ⟨s, hs', rfl⟩ := hb rfl
    simp only [Bool.true_eq_false, if_false]
    have l4 := (hv.2.2.2.2.2.2.2.2.2.1 s hs').2.2.2.2
    have a99 := hA (99 + s) (by omega)
    have mm : Ho (f_X12_sail_b42 N (nI s) (b2i (decide (v (99 + s) = 1))) S) _ := m_sail hN hv hA hs' rfl rfl
    have cc := c_sail hN hv hC hs'
    rw [Nat.mul_comm (v (87 + s)), Nat.mul_comm (v (95 + s))] at cc
    refine Same.two (P := fun q => ∃ r C1, FH (fun t => rcS v (decide (v (99 + s) = 1)) (v 0 * v (87 + s) + v (83 + s)) t (v 0 * v (95 + s) + v (91 + s))) r ∧ Sm [98, 91] C C1 ∧ ((r = -1 ∧ q.1 = -1 ∧ q.2 = uI C1 0 0 8) ∨ (r ≠ -1 ∧ q.1 = r ∧ q.2 = uI C1 0 0 0))) (P' := fun q => ∃ r, FH (fun t => rcS v (decide (v (99 + s) = 1)) (v 0 * v (87 + s) + v (83 + s)) t (v 0 * v (95 + s) + v (91 + s))) r ∧ ((r = -1 ∧ q.1 = -1 ∧ ∃ S1, Sm [206, 209, 212, 213] S S1 ∧ q.2 = uI S1 200 0 8) ∨ (r ≠ -1 ∧ q.1 = r ∧ Sm [206, 209, 212, 213] S q.2))) ?_ ?_ ?_
    · rw [Ho_bi]
      refine Ho_mono cc ?_
      rintro ⟨r, C1⟩ ⟨a, b⟩
      dsimp only at a b ⊢
      by_cases z : r = -1
      · rw [if_pos z, bi_s, Ho_some]
        exact ⟨r, C1, a, b, Or.inl ⟨z, rfl, rfl⟩⟩
      · rw [if_neg z, bi_s, Ho_some]
        exact ⟨r, C1, a, b, Or.inr ⟨z, rfl, rfl⟩⟩
    · simp (disch := omega) only [n_ladd, ck_n, n_tn, a99]
      by_cases e : v (99 + s) = 1
      · rw [if_pos (by rw [e]; rfl)]
        simp only [e, decide_true] at mm ⊢
        exact mm
      · rw [if_neg (by rw [n_eql (by omega)]; exact e)]
        simp only [e, decide_false] at mm ⊢
        exact mm
    · rintro r C' r' S' ⟨q, C1, a, b, c⟩ ⟨q', a', c'⟩
      have eq := FH_uniq a a'
      subst eq
      dsimp only at c c'
      rcases c with ⟨c1, c2, c3⟩ | ⟨c1, c2, c3⟩
      · rcases c' with ⟨d1, d2, S1, d3, d4⟩ | ⟨d1, -⟩
        · rw [c2, d2, c3, d4]
          exact ⟨rfl, cl_forR hR b scr98 d3 scr4 8⟩
        · exact absurd c1 d1
      · rcases c' with ⟨d1, -⟩ | ⟨d1, d2, d3⟩
        · exact absurd d1 c1
        · rw [c2, d2, c3]
          exact ⟨rfl, cl_for hR hs b scr98 d3 scr4⟩
end E2
