section D1
variable {N : Nat} {C S : Mem}
theorem Re.tape {C C' S S' : Mem} (h : Re C S) (hst : C'.1 0 0 = S'.1 200 0) (c0 : ∀ k, k ≠ 0 → k ≠ 3 → C'.1 0 k = C.1 0 k) (c1 : ∀ c, c ≠ 0 → c ≠ 1 → C'.1 c = C.1 c) (cL : C'.2 = C.2) (s0 : ∀ k, k ≠ 0 → k ≠ 8 → S'.1 200 k = S.1 200 k) (s1 : ∀ c, c ≠ 200 → c ≠ 204 → S'.1 c = S.1 c) (sL : S'.2 = S.2) (hy : RT C' S') : Rel C' S' := by
  obtain ⟨ra, rb, rc, rd, rm, re, rf⟩ := h
  exact ⟨hst, ra.same (by rw [cL]) (by rw [cL]) (by rw [sL]) (by rw [sL]), hy, rc.same (c1 8 (by decide) (by decide)) (c1 9 (by decide) (by decide)) (fun t _ => by rw [cL]) (s1 201 (by decide) (by decide)) (s1 202 (by decide) (by decide)) (by rw [sL]), rd.same (fun j hj => c1 _ (by omega) (by omega)) (by rw [cL]) (fun k _ => by rw [s1 205 (by decide) (by decide)]) (fun g _ => by rw [sL]), rm.same (c0 4 (by decide) (by decide)) (s0 24 (by decide) (by decide)) (fun c h1 h2 => ⟨c1 c (by omega) (by omega), by rw [cL]⟩) (fun k _ _ => by rw [s1 205 (by decide) (by decide)]) (fun k _ _ => by rw [sL]), re.same (by rw [c1 82 (by decide) (by decide)]) (by rw [c1 82 (by decide) (by decide)]) (s0 10 (by decide) (by decide)) (s0 11 (by decide) (by decide)), rf.same (c1 107 (by decide) (by decide)) (s0 42 (by decide) (by decide)) (s1 219 (by decide) (by decide))⟩
theorem bt_i2b (x : Int32) {i : Nat} (hi : i < 32) : bt (i2b x) i = if i < 8 then bt x i else bt x 7 := by
  unfold bt i2b
  rw [Int8.toBitVec_toInt32, Int32.toBitVec_toInt8, BitVec.getLsbD_signExtend]
  simp only [hi, decide_true, Bool.true_and]
  split
  · rename_i h
    rw [BitVec.getLsbD_signExtend]
    simp [h, hi]
  · rw [BitVec.msb_eq_getLsbD_last, BitVec.getLsbD_signExtend]
    simp
theorem byte_sh (x : Int32) {s : Nat} (hs : s ≤ 24) : i2b (ush x (nI s)) = i2b (x >>> (nI s &&& 31)) := by
  apply b_ext
  intro i hi
  rw [bt_i2b _ hi, bt_i2b _ hi]
  split
  · rw [show bt (ush x (nI s)) i = _ from b_ushr s (by omega) x i, b_sshr s (by omega) x hi, if_pos (by omega)]
  · rw [show bt (ush x (nI s)) 7 = _ from b_ushr s (by omega) x 7, b_sshr s (by omega) x (by decide), if_pos (by omega)]
theorem nar_byte (y : Int32) : vp_nar .byte (i2b y) = i2b y := fb_byte_twice y
/-- what a tape has while bytes are laid -/
def TpR (C S : Mem) (n : Nat) (o o' : Option Mem) : Prop := ∃ C' S', o = some C' ∧ o' = some S' ∧ C'.2 = C.2 ∧ S'.2 = S.2 ∧ (∀ k, k ≠ 3 → C'.1 0 k = C.1 0 k) ∧ (∀ c, c ≠ 0 → c ≠ 1 → C'.1 c = C.1 c) ∧ (∀ k, k ≠ 8 → S'.1 200 k = S.1 200 k) ∧ (∀ c, c ≠ 200 → c ≠ 204 → S'.1 c = S.1 c) ∧ C'.1 0 3 = nI n ∧ S'.1 200 8 = nI n ∧ ∀ k, k < n → C'.1 1 k = S'.1 204 k ∧ ∃ y : Int32, C'.1 1 k = i2b y
theorem lay_one {n : Nat} (hN : 200 < N) (hn : n + 4 ≤ 900) (x : Int32) (c3 : C.1 0 3 = nI n) (s8 : S.1 200 8 = nI n) (ht : ∀ k, k < n → C.1 1 k = S.1 204 k ∧ ∃ y : Int32, C.1 1 k = i2b y) : TpR C S (n + 4) (f_X11_appendBytes N x C) (f_X12_lay N x S) := by
  unfold f_X11_appendBytes f_X12_lay
  refine lq2 (R := TpR C S (n + 4)) (fun i a M a' M' => a = (x, if i < 4 then nI (24 - 8 * i) else -8) ∧ a' = (x, if i < 4 then nI (3 - i) else -1) ∧ M.2 = C.2 ∧ M'.2 = S.2 ∧ (∀ k, k ≠ 3 → M.1 0 k = C.1 0 k) ∧ (∀ c, c ≠ 0 → c ≠ 1 → M.1 c = C.1 c) ∧ (∀ k, k ≠ 8 → M'.1 200 k = S.1 200 k) ∧ (∀ c, c ≠ 200 → c ≠ 204 → M'.1 c = S.1 c) ∧ M.1 0 3 = nI (n + i) ∧ M'.1 200 8 = nI (n + i) ∧ ∀ k, k < n + i → M.1 1 k = M'.1 204 k ∧ ∃ y : Int32, M.1 1 k = i2b y) 4 (by omega) (by omega) ⟨rfl, rfl, rfl, rfl, fun _ _ => rfl, fun _ _ _ => rfl, fun _ _ => rfl, fun _ _ _ => rfl, c3, s8, ht⟩ ?_
  rintro i hi k k' hk _ M _ M' ⟨rfl, rfl, q1, q2, q3, q4, q5, q6, q7, q8, q9⟩
  unfold f_X11_appendBytes_h3 f_X12_lay_h2
  by_cases g : i < 4
  · dsimp only
    rw [if_pos g, if_pos g, if_neg (nI_pos (n := 24 - 8 * i) (by omega)), if_neg (nI_pos (n := 3 - i) (by omega)), q7, q8]
    have l9 : ¬ 900 ≤ n + i := by omega
    have e8 : (8 : Int32) * nI (3 - i) = nI (24 - 8 * i) := by rw [n_lmul]; congr 1; omega
    simp (disch := omega) only [n_tn, n_tl, n_t0, n_lt, n_le, n_eq, n_ltl, n_lel, n_eql, n_llt, n_lle, n_leq, n_m1l, n_m1r, n_addl, n_ladd, nI_add, n_mul, n_mull, n_lmul, n_sub, n_subl, n_div, n_divl, n_modd, true_and, and_true, bi_s, bv_s, bM_e, bI_e, bL_e, ck_n, ck_l, ck_0, if_neg l9]
    rw [show nI (8 * (3 - i)) = nI (24 - 8 * i) by congr 1; omega, nar_byte, nar_byte, ← byte_sh x (show 24 - 8 * i ≤ 24 by omega)]
    have a3 : (uI M 1 (n + i) (i2b (ush x (nI (24 - 8 * i))))).1 0 3 = nI (n + i) := by rw [g_uI, if_neg (by decide)]; exact q7
    have a8 : (uI M' 204 (n + i) (i2b (ush x (nI (24 - 8 * i))))).1 200 8 = nI (n + i) := by rw [g_uI, if_neg (by decide)]; exact q8
    rw [a3, a8, n_addl]
    have f1 : nI (24 - 8 * i) + (-8) = if i + 1 < 4 then nI (24 - 8 * (i + 1)) else -8 := by
      obtain rfl | rfl | rfl | rfl : i = 0 ∨ i = 1 ∨ i = 2 ∨ i = 3 := by omega
      all_goals decide
    have f2 : nI (3 - i) + (-1) = if i + 1 < 4 then nI (3 - (i + 1)) else -1 := by
      obtain rfl | rfl | rfl | rfl : i = 0 ∨ i = 1 ∨ i = 2 ∨ i = 3 := by omega
      all_goals decide
    rw [f1, f2]
    refine hk (by omega) _ _ _ _ ⟨rfl, rfl, q1, q2, fun k hk => ?_, fun c h0 h1 => ?_, fun k hk => ?_, fun c h0 h1 => ?_, u_at _ _ _ _, u_at _ _ _ _, fun k hk => ?_⟩
    · rw [g_uI, if_pos rfl, g_upd, if_neg hk, g_uI, if_neg (by decide)]
      exact q3 k hk
    · rw [g_uI, if_neg h0, g_uI, if_neg h1]
      exact q4 c h0 h1
    · rw [g_uI, if_pos rfl, g_upd, if_neg hk, g_uI, if_neg (by decide)]
      exact q5 k hk
    · rw [g_uI, if_neg h0, g_uI, if_neg h1]
      exact q6 c h0 h1
    · rw [u_ne (by decide), us_same, g_upd, u_ne (by decide), us_same, g_upd]
      by_cases e : k = n + i
      · rw [if_pos e, if_pos e]
        exact ⟨rfl, _, rfl⟩
      · rw [if_neg e, if_neg e]
        exact q9 k (by omega)
  · have e : i = 4 := by omega
    subst e
    dsimp only
    rw [if_neg g, if_neg g, if_pos (by decide), if_pos (by decide)]
    exact ⟨M, M', rfl, rfl, q1, q2, q3, q4, q5, q6, q7, q8, q9⟩
theorem e_feed (hN : 200 < N) (h : Rel C S) (x1 x2 x3 x4 x5 : Int32) : Same (f_X11_feed N x1 x2 x3 x4 x5 C) (f_X12_feed N x1 x2 x3 x4 x5 S) := by
  unfold f_X11_feed f_X12_feed
  have hst : C.1 0 0 = (uI S 200 1 0).1 200 0 := by rw [g_uI, if_pos rfl, g_upd, if_neg (by decide)]; exact h.1
  have hR : Re C (uI S 200 1 0) := h.re.s0 1 n_okM.2 0
  simp only [bM_e]
  generalize uI S 200 1 0 = S at *
  obtain ⟨n, hn, c3, s8, ht⟩ := hR.2.1
  rw [c3, s8]
  by_cases g : n + 20 ≤ 900
  · rw [if_pos (show nI n + 20 ≤ 900 by rw [n_addl, n_lel (by omega)]; exact g), if_pos (show nI n + 20 ≤ 900 by rw [n_addl, n_lel (by omega)]; exact g)]
    obtain ⟨C1, S1, e1, f1, a1, a2, a3, a4, a5, a6, a7, a8, a9⟩ := lay_one hN (show n + 4 ≤ 900 by omega) x1 c3 s8 ht
    obtain ⟨C2, S2, e2, f2, b1, b2, b3, b4, b5, b6, b7, b8, b9⟩ := lay_one hN (show n + 4 + 4 ≤ 900 by omega) x2 a7 a8 a9
    obtain ⟨C3, S3, e3, f3, d1, d2, d3, d4, d5, d6, d7, d8, d9⟩ := lay_one hN (show n + 4 + 4 + 4 ≤ 900 by omega) x3 b7 b8 b9
    obtain ⟨C4, S4, e4, f4, g1, g2, g3, g4, g5, g6, g7, g8, g9⟩ := lay_one hN (show n + 4 + 4 + 4 + 4 ≤ 900 by omega) x4 d7 d8 d9
    obtain ⟨C5, S5, e5, f5, k1, k2, k3, k4, k5, k6, k7, k8, k9⟩ := lay_one hN (show n + 4 + 4 + 4 + 4 + 4 ≤ 900 by omega) x5 g7 g8 g9
    simp only [e1, e2, e3, e4, e5, f1, f2, f3, f4, f5, bv_s]
    rw [k7, k8]
    refine Same.mk (hR.tape ?_ (fun k _ hk => ?_) (fun c h0 h1 => ?_) ?_ (fun k _ hk => ?_) (fun c h0 h1 => ?_) ?_ ⟨n + 4 + 4 + 4 + 4 + 4, by omega, k7, k8, k9⟩)
    · rw [k3 0 (by decide), g3 0 (by decide), d3 0 (by decide), b3 0 (by decide), a3 0 (by decide), k5 0 (by decide), g5 0 (by decide), d5 0 (by decide), b5 0 (by decide), a5 0 (by decide)]
      exact hst
    · rw [k3 k hk, g3 k hk, d3 k hk, b3 k hk, a3 k hk]
    · rw [k4 c h0 h1, g4 c h0 h1, d4 c h0 h1, b4 c h0 h1, a4 c h0 h1]
    · rw [k1, g1, d1, b1, a1]
    · rw [k5 k hk, g5 k hk, d5 k hk, b5 k hk, a5 k hk]
    · rw [k6 c h0 h1, g6 c h0 h1, d6 c h0 h1, b6 c h0 h1, a6 c h0 h1]
    · rw [k2, g2, d2, b2, a2]
  · rw [if_neg (show ¬ nI n + 20 ≤ 900 by rw [n_addl, n_lel (by omega)]; exact g), if_neg (show ¬ nI n + 20 ≤ 900 by rw [n_addl, n_lel (by omega)]; exact g)]
    exact Same.mk ⟨hst, hR⟩
/-! many -/
def smK (v : Nat → Nat) (kd : Nat) : Nat → Nat := fb_sm (fun b => v (103 + 30 * kd + b))
theorem c_sum {v : Nat → Nat} {kd : Nat} (hN : 200 < N) (hk : kd ≤ 1) (hC : PC C 10 v) : f_X5_sumOfKind N 10 (nI kd) C = some (nI (smK v kd 30), C) := by
  apply Ho_e
  unfold f_X5_sumOfKind
  refine Ho_lp (fun i a M' => a = (nI kd, nI (smK v kd i), nI i) ∧ M' = C) 30 (by omega) ⟨rfl, rfl⟩ ?_
  rintro i hi k hk' _ _ ⟨rfl, rfl⟩
  unfold f_X5_sumOfKind_h4
  by_cases g : 30 ≤ i
  · have e : i = 30 := by omega
    subst e
    simp (disch := omega) only [n_tn, n_tl, n_t0, n_lt, n_le, n_eq, n_ltl, n_lel, n_eql, n_llt, n_lle, n_leq, n_m1l, n_m1r, n_addl, n_ladd, nI_add, n_mul, n_mull, n_lmul, n_sub, n_subl, n_div, n_divl, n_modd, true_and, and_true, bi_s, bv_s, bM_e, bI_e, bL_e, ck_n, ck_l, ck_0, Nat.le_refl, if_true, Ho_some]
  · have f := hC.2.2.2.2.2.2.2.2.2.2.2.1 (kd * 30 + i) (by omega)
    dsimp only at f
    rw [show 103 + (kd * 30 + i) = 103 + 30 * kd + i by omega] at f
    simp (disch := omega) only [n_tn, n_tl, n_t0, n_lt, n_le, n_eq, n_ltl, n_lel, n_eql, n_llt, n_lle, n_leq, n_m1l, n_m1r, n_addl, n_ladd, nI_add, n_mul, n_mull, n_lmul, n_sub, n_subl, n_div, n_divl, n_modd, true_and, and_true, bi_s, bv_s, bM_e, bI_e, bL_e, ck_n, ck_l, ck_0, if_neg g, f]
    exact hk' (by omega) _ _ ⟨rfl, rfl⟩
theorem m_sum {v : Nat → Nat} {kd : Nat} (hN : 200 < N) (hk : kd ≤ 1) (hv : VV v) (hA : Ar S 205 435 v) : f_X12_all N (nI kd) S = some (nI (smK v kd (v 0 * v 1)), S) := by
  have b30 := bd30 hv.1.1 hv.1.2.1
  apply Ho_e
  unfold f_X12_all
  refine Ho_lp (fun i a M' => a = (nI kd, nI (smK v kd i), nI i) ∧ M' = S) (v 0 * v 1) (by omega) ⟨rfl, rfl⟩ ?_
  rintro i hi k hk' _ _ ⟨rfl, rfl⟩
  unfold f_X12_all_h4
  simp (disch := omega) only [n_tn, n_tl, n_t0, n_lt, n_le, n_eq, n_ltl, n_lel, n_eql, n_llt, n_lle, n_leq, n_m1l, n_m1r, n_addl, n_ladd, nI_add, n_mul, n_mull, n_lmul, n_sub, n_subl, n_div, n_divl, n_modd, true_and, and_true, bi_s, bv_s, bM_e, bI_e, bL_e, ck_n, ck_l, ck_0, m_boards (hA 0 (by omega)) (hA 1 (by omega))]
  by_cases g : v 0 * v 1 ≤ i
  · have e : i = v 0 * v 1 := by omega
    rw [if_pos g, Ho_some, e]
  · rw [if_neg g, hA (103 + 30 * kd + i) (by omega)]
    exact hk' (by omega) _ _ ⟨by rw [nI_add]; rfl, rfl⟩
theorem sm_30 {v : Nat → Nat} {kd : Nat} (hk : kd ≤ 1) (hv : VV v) : smK v kd 30 = smK v kd (v 0 * v 1) := by
  have b30 := bd30 hv.1.1 hv.1.2.1
  have hz := hv.2.2.2.2.2.2.2.2.2.2.2
  unfold smK
  have sp := fb_sm_split (fun b => v (103 + 30 * kd + b)) (v 0 * v 1) (30 - v 0 * v 1)
  rw [show v 0 * v 1 + (30 - v 0 * v 1) = 30 by omega] at sp
  have : fb_sm (fun k => v (103 + 30 * kd + (v 0 * v 1 + k))) (30 - v 0 * v 1) = 0 := by
    have h2 : fb_sm (fun k => v (103 + 30 * kd + (v 0 * v 1 + k))) (30 - v 0 * v 1) = fb_sm (fun _ => 0) (30 - v 0 * v 1) := fb_sm_cong fun k hk2 => by
      have := hz (v 0 * v 1 + k) (by omega) (by omega)
      have hkd : kd = 0 ∨ kd = 1 := by omega
      rcases hkd with rfl | rfl
      · exact this.1
      · rw [show 103 + 30 * 1 + (v 0 * v 1 + k) = 133 + (v 0 * v 1 + k) by omega]; exact this.2
    rw [h2, fb_sm_const]
    rfl
  rw [sp, this, Nat.add_zero]
theorem e_many (hN : 200 < N) (h : Rel C S) (z : Int32) : Same (f_X11_many N z C) (f_X12_many N z S) := by
  have hR := Re.go h
  have hs := S0_st S 0 0
  unfold f_X11_many f_X12_many f_X11_refused f_X11_answered f_X12_refuse f_X5_factOf
  simp only [bM_e]
  generalize uI (uI S 200 1 0) 200 0 0 = S at *
  obtain ⟨v, hv, h9, hC, hA, hn⟩ := hR.get
  obtain ⟨q, e3, hq⟩ := in_is 0 13 (by omega) S z
  rw [show f_X12_isIn z.toInt64 0 13 S = _ from e3]
  rcases hq with ⟨rfl, n, hn1, hn, rfl⟩ | ⟨rfl, hy | ⟨n, hn, hw, rfl⟩⟩
  · rw [if_neg (nI_pos (n := n) (by omega)), if_pos (show nI n < 14 by rw [n_ltl (by omega)]; omega), bi_s, if_neg (show ¬ b2i true = 0 by decide)]
    have hcls : ∀ (x : Int32), Same (some (x, uI C 0 0 0)) (some (x, S)) := fun x => Same.mk (cl_ok hR hs)
    by_cases l : n < 11
    · have e : C.1 10 (if n < 2 then n else if n < 6 then n + 5 else if n = 6 then 2 else if n = 7 then 3 else if n = 8 then 4 else if n = 9 then 5 else 6) = nI (v n) := by
        obtain rfl | rfl | rfl | rfl | rfl | rfl | rfl | rfl | rfl | rfl | rfl : n = 0 ∨ n = 1 ∨ n = 2 ∨ n = 3 ∨ n = 4 ∨ n = 5 ∨ n = 6 ∨ n = 7 ∨ n = 8 ∨ n = 9 ∨ n = 10 := by omega
        · exact hC.1.1
        · exact hC.1.2.1
        · exact hC.1.2.2.2.2.1
        · exact hC.2.2.2.2.1
        · exact hC.2.2.2.2.2.1
        · exact hC.2.2.2.2.2.2.1
        · exact hC.1.2.2.1
        · exact hC.1.2.2.2.1
        · exact hC.2.1
        · exact hC.2.2.1
        · exact hC.2.2.2.1
      have a := hA n (by omega)
      rw [if_neg (show ¬ (11 : Int32) ≤ nI n by rw [n_lle (by omega)]; omega), ck_n (by omega), t_n (by omega), a]
      obtain rfl | rfl | rfl | rfl | rfl | rfl | rfl | rfl | rfl | rfl | rfl : n = 0 ∨ n = 1 ∨ n = 2 ∨ n = 3 ∨ n = 4 ∨ n = 5 ∨ n = 6 ∨ n = 7 ∨ n = 8 ∨ n = 9 ∨ n = 10 := by omega
      all_goals
        simp (disch := omega) only [n_tn, n_tl, n_t0, n_lt, n_le, n_eq, n_ltl, n_lel, n_eql, n_llt, n_lle, n_leq, n_m1l, n_m1r, n_addl, n_ladd, nI_add, n_mul, n_mull, n_lmul, n_sub, n_subl, n_div, n_divl, n_modd, true_and, and_true, bi_s, bv_s, bM_e, bI_e, bL_e, ck_n, ck_l, ck_0, Nat.reduceLT, Nat.reduceEqDiff, Nat.reduceAdd, if_true, if_false] at e ⊢
        first
          | (rw [e]; exact hcls _)
          | (simp [e, bi_s]; exact hcls _)
    · obtain rfl | rfl | rfl : n = 11 ∨ n = 12 ∨ n = 13 := by omega
      · simp (disch := omega) only [n_tn, n_tl, n_t0, n_lt, n_le, n_eq, n_ltl, n_lel, n_eql, n_llt, n_lle, n_leq, n_m1l, n_m1r, n_addl, n_ladd, nI_add, n_mul, n_mull, n_lmul, n_sub, n_subl, n_div, n_divl, n_modd, true_and, and_true, bi_s, bv_s, bM_e, bI_e, bL_e, ck_n, ck_l, ck_0, Nat.reduceLT, Nat.reduceLeDiff, Nat.reduceEqDiff, Nat.reduceSub, if_true, if_false]
        rw [show (0 : Int32) = nI 0 from rfl, c_sum hN (by omega) hC, m_sum hN (by omega) hv hA, sm_30 (by omega) hv, bi_s, bi_s, bi_s]
        exact hcls _
      · simp (disch := omega) only [n_tn, n_tl, n_t0, n_lt, n_le, n_eq, n_ltl, n_lel, n_eql, n_llt, n_lle, n_leq, n_m1l, n_m1r, n_addl, n_ladd, nI_add, n_mul, n_mull, n_lmul, n_sub, n_subl, n_div, n_divl, n_modd, true_and, and_true, bi_s, bv_s, bM_e, bI_e, bL_e, ck_n, ck_l, ck_0, Nat.reduceLT, Nat.reduceLeDiff, Nat.reduceEqDiff, Nat.reduceSub, if_true, if_false]
        rw [show (1 : Int32) = nI 1 from rfl, c_sum hN (by omega) hC, m_sum hN (by omega) hv hA, sm_30 (by omega) hv, bi_s, bi_s, bi_s]
        exact hcls _
      · simp (disch := omega) only [n_tn, n_tl, n_t0, n_lt, n_le, n_eq, n_ltl, n_lel, n_eql, n_llt, n_lle, n_leq, n_m1l, n_m1r, n_addl, n_ladd, nI_add, n_mul, n_mull, n_lmul, n_sub, n_subl, n_div, n_divl, n_modd, true_and, and_true, bi_s, bv_s, bM_e, bI_e, bL_e, ck_n, ck_l, ck_0, Nat.reduceLT, Nat.reduceLeDiff, Nat.reduceEqDiff, Nat.reduceSub, if_true, if_false]
        have hf9 := hv.2.2.2.2.2.2.2.2.2.2.1
        rw [c_count (v := v) (F := fogv v) (by omega) ⟨hv.1.1, hv.1.2.1, hv.2.2.2.2.1⟩ rfl hC.1.1 hC.1.2.1 hC.2.1 hC.2.2.2.2.2.2.2.2.2.2.2.1 hf9, m_count (v := v) (by omega) ⟨hv.1.1, hv.1.2.1, hv.2.2.2.2.1⟩ hA hf9, bi_s, bi_s, bi_s]
        exact hcls _
  · rw [if_pos hy, bi_s, bi_s, if_pos (show b2i false = 0 from rfl)]
    exact Same.mk (cl_ref hR _)
  · rw [if_neg (nI_pos hn), if_neg (show ¬ nI n < 14 by rw [n_ltl (by omega)]; omega), bi_s, bi_s, if_pos (show b2i false = 0 from rfl)]
    exact Same.mk (cl_ref hR _)
end D1
