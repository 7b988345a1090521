section C2
variable {C S : Mem}
theorem e_votes (h : Rel C S) (x : Int32) : Same (f_X11_votes x C) (f_X12_votes x S) := by
  have hR := Re.go h
  have hs := S0_st S 0 0
  unfold f_X11_votes f_X12_votes f_X11_refused f_X11_answered f_X12_refuse
  simp only [bM_e]
  generalize uI (uI S 200 1 0) 200 0 0 = S at *
  obtain ⟨v, hv, -, hC, hA, -⟩ := hR.get
  have v3 := hv.2.1
  obtain ⟨b, e1, e2, hb⟩ := holder_is (v := v) (by omega) hC.2.2.2.2.1 (hA 3 (by omega)) x
  simp only [e1, e2, bi_s, b2i_0]
  cases b with
  | false => exact Same.mk (cl_ref hR _)
  | true =>
    obtain ⟨g, hg, rfl⟩ := hb rfl
    have e := hC.2.2.2.2.2.2.2.2.1 g hg
    have a := hA (41 + g) (by omega)
    simp (disch := omega) only [n_tn, n_tl, n_t0, n_lt, n_le, n_eq, n_ltl, n_lel, n_eql, n_llt, n_lle, n_leq, n_m1l, n_m1r, n_addl, n_ladd, nI_add, n_mul, n_mull, n_lmul, n_sub, n_subl, n_div, n_divl, n_modd, true_and, and_true, bi_s, bv_s, bM_e, bI_e, bL_e, ck_n, ck_l, ck_0, e, a, if_false, Bool.true_eq_false]
    exact Same.mk (cl_ok hR hs)
theorem e_trade (h : Rel C S) (x y : Int32) : Same (f_X11_trade x y C) (f_X12_trade x y S) := by
  have hR := Re.go h
  have hs := S0_st S 0 0
  unfold f_X11_trade f_X12_trade f_X11_refused f_X11_answered f_X12_refuse
  simp only [bM_e]
  generalize uI (uI S 200 1 0) 200 0 0 = S at *
  obtain ⟨v, hv, -, hC, hA, -⟩ := hR.get
  have v4 := hv.2.2.1
  have c9 := hC.2.2.2.2.2.1
  have a4 := hA 4 (by omega)
  rw [ck_l (by omega), show tn 4 = 4 from rfl, a4]
  rcases i32c x with hx | ⟨t, ht, rfl⟩
  · rw [if_pos hx, show (0 : Int64) = lN 0 from rfl, m_inneg hx (by omega)]
    simp only [bi_s, b2i_0, if_true]
    exact Same.mk (cl_ref hR _)
  · rw [if_neg (nI_pos ht), c9, m_in0 (by omega)]
    by_cases g : t < v 4
    · simp only [bi_s, b2i_0]
      rw [if_pos (by rw [n_lt (by omega)]; exact g), if_neg (show ¬ decide (t < v 4) = false by simp [g])]
      obtain ⟨c, e3, hc⟩ := in_is 0 5 (by omega) S y
      rw [show f_X12_isIn y.toInt64 0 5 S = _ from e3]
      rcases hc with ⟨rfl, w, -, hw, rfl⟩ | ⟨rfl, hy | ⟨n, hn, hw, rfl⟩⟩
      · have hf := hC.2.2.2.2.2.2.2.2.2.1 t g
        have e : C.1 14 (t * 6 + w) = nI (v (47 + 6 * w + t)) := by
          obtain rfl | rfl | rfl | rfl | rfl | rfl : w = 0 ∨ w = 1 ∨ w = 2 ∨ w = 3 ∨ w = 4 ∨ w = 5 := by omega
          · exact hf.1
          · exact hf.2.1
          · exact hf.2.2.1
          · exact hf.2.2.2.1
          · exact hf.2.2.2.2.1
          · exact hf.2.2.2.2.2
        have a := hA (47 + 6 * w + t) (by omega)
        simp (disch := omega) only [n_tn, n_tl, n_t0, n_lt, n_le, n_eq, n_ltl, n_lel, n_eql, n_llt, n_lle, n_leq, n_m1l, n_m1r, n_addl, n_ladd, nI_add, n_mul, n_mull, n_lmul, n_sub, n_subl, n_div, n_divl, n_modd, true_and, and_true, bi_s, bv_s, bM_e, bI_e, bL_e, ck_n, ck_l, ck_0, e, a, nI_pos, if_false, Bool.true_eq_false, not_false_iff]
        rw [if_neg (by omega), if_pos (by omega)]
        exact Same.mk (cl_ok hR hs)
      · simp only [bi_s, if_pos hy, if_true]
        exact Same.mk (cl_ref hR _)
      · simp (disch := omega) only [n_tn, n_tl, n_t0, n_lt, n_le, n_eq, n_ltl, n_lel, n_eql, n_llt, n_lle, n_leq, n_m1l, n_m1r, n_addl, n_ladd, nI_add, n_mul, n_mull, n_lmul, n_sub, n_subl, n_div, n_divl, n_modd, bi_s, if_true]
        rw [if_neg (by omega), if_neg (by omega)]
        exact Same.mk (cl_ref hR _)
    · simp only [bi_s, b2i_0]
      rw [if_neg (by rw [n_lt (by omega)]; exact g), if_pos (show decide (t < v 4) = false by simp [g])]
      exact Same.mk (cl_ref hR _)
theorem e_ship (h : Rel C S) (x y : Int32) : Same (f_X11_ship x y C) (f_X12_ship x y S) := by
  have hR := Re.go h
  have hs := S0_st S 0 0
  unfold f_X11_ship f_X12_ship f_X11_refused f_X11_answered f_X12_refuse
  simp only [bM_e]
  generalize uI (uI S 200 1 0) 200 0 0 = S at *
  obtain ⟨v, hv, -, hC, hA, -⟩ := hR.get
  have v5 := hv.2.2.2.1
  obtain ⟨b, e1, e2, hb⟩ := ship_is (v := v) (by omega) hC.2.2.2.2.2.2.1 (hA 5 (by omega)) x
  simp only [e1, e2, bi_s, b2i_0]
  cases b with
  | false => exact Same.mk (cl_ref hR _)
  | true =>
    obtain ⟨g, hg, rfl⟩ := hb rfl
    simp only [Bool.true_eq_false, if_false]
    obtain ⟨c, e3, hc⟩ := in_is 0 4 (by omega) S y
    rw [show f_X12_isIn y.toInt64 0 4 S = _ from e3]
    rcases hc with ⟨rfl, w, -, hw, rfl⟩ | ⟨rfl, hy | ⟨n, hn, hw, rfl⟩⟩
    · have hf := hC.2.2.2.2.2.2.2.2.2.2.1 g hg
      have e : C.1 15 (g * 5 + w) = nI (v (83 + 4 * w + g)) := by
        obtain rfl | rfl | rfl | rfl | rfl : w = 0 ∨ w = 1 ∨ w = 2 ∨ w = 3 ∨ w = 4 := by omega
        · exact hf.1
        · exact hf.2.1
        · exact hf.2.2.1
        · exact hf.2.2.2.1
        · exact hf.2.2.2.2
      have a := hA (83 + 4 * w + g) (by omega)
      simp (disch := omega) only [n_tn, n_tl, n_t0, n_lt, n_le, n_eq, n_ltl, n_lel, n_eql, n_llt, n_lle, n_leq, n_m1l, n_m1r, n_addl, n_ladd, nI_add, n_mul, n_mull, n_lmul, n_sub, n_subl, n_div, n_divl, n_modd, true_and, and_true, bi_s, bv_s, bM_e, bI_e, bL_e, ck_n, ck_l, ck_0, e, a, nI_pos, if_false, Bool.true_eq_false, not_false_iff]
      rw [if_neg (by omega), if_pos (by omega)]
      exact Same.mk (cl_ok hR hs)
    · simp only [bi_s, if_pos hy, if_true]
      exact Same.mk (cl_ref hR _)
    · simp (disch := omega) only [n_tn, n_tl, n_t0, n_lt, n_le, n_eq, n_ltl, n_lel, n_eql, n_llt, n_lle, n_leq, n_m1l, n_m1r, n_addl, n_ladd, nI_add, n_mul, n_mull, n_lmul, n_sub, n_subl, n_div, n_divl, n_modd, bi_s, if_true]
      rw [if_neg (by omega), if_neg (by omega)]
      exact Same.mk (cl_ref hR _)
theorem e_fog (h : Rel C S) (x y z : Int32) : Same (f_X11_fog x y z C) (f_X12_fog x y z S) := by
  have hR := Re.go h
  have hs := S0_st S 0 0
  unfold f_X11_fog f_X12_fog f_X11_refused f_X11_answered f_X12_refuse f_X5_boardAt
  simp only [bM_e]
  generalize uI (uI S 200 1 0) 200 0 0 = S at *
  obtain ⟨v, hv, -, hC, hA, -⟩ := hR.get
  have v0 := hv.1.1
  have v1 := hv.1.2.1
  have b30 := bd30 v0 v1
  obtain ⟨b, e1, e2, hb⟩ := board_is (v := v) (by omega) hC.1.1 hC.1.2.1 (hA 0 (by omega)) (hA 1 (by omega)) x y
  simp only [e1, e2, bi_s, b2i_0]
  cases b with
  | false => exact Same.mk (cl_ref hR _)
  | true =>
    obtain ⟨c, r, hc, hr, rfl, rfl⟩ := hb rfl
    have hb := bd hc hr
    simp only [Bool.true_eq_false, if_false]
    obtain ⟨q, e3, hq⟩ := in_is 0 1 (by omega) S z
    rw [show f_X12_isIn z.toInt64 0 1 S = _ from e3]
    rcases hq with ⟨rfl, w, -, hw, rfl⟩ | ⟨rfl, hy | ⟨n, hn, hw, rfl⟩⟩
    · have e := hC.2.2.2.2.2.2.2.2.2.2.2.1 (w * 30 + (r * v 0 + c)) (by omega)
      have a := hA (103 + 30 * w + (v 0 * r + c)) (by rw [Nat.mul_comm (v 0)]; omega)
      have : 103 + 30 * w + (v 0 * r + c) = 103 + (w * 30 + (r * v 0 + c)) := by rw [Nat.mul_comm (v 0)]; omega
      have hlt : 103 + 30 * w + (v 0 * r + c) < 2175 := by omega
      have l1 : ¬ (w < 0) := by omega
      have l2 : w ≤ 1 := by omega
      have e' : C.1 16 (w * 30 + (r * v 0 + c)) = nI (v (103 + (w * 30 + (r * v 0 + c)))) := e
      simp (disch := omega) only [n_tn, n_tl, n_t0, n_lt, n_le, n_eq, n_ltl, n_lel, n_eql, n_llt, n_lle, n_leq, n_m1l, n_m1r, n_addl, n_ladd, nI_add, n_mul, n_mull, n_lmul, n_sub, n_subl, n_div, n_divl, n_modd, true_and, and_true, bi_s, bv_s, bM_e, bI_e, bL_e, ck_n, ck_l, ck_0, hC.1.1, m_board (x := c) (y := r) (hA 0 (by omega)), nI_pos, if_false, if_true, Bool.true_eq_false, l1, l2, a, e', this]
      rw [this] at a
      rw [a]
      exact Same.mk (cl_ok hR hs)
    · simp only [bi_s, if_pos hy, if_true]
      exact Same.mk (cl_ref hR _)
    · have l1 : ¬ (n < 0) := by omega
      have l2 : ¬ n ≤ 1 := by omega
      simp (disch := omega) only [n_tn, n_tl, n_t0, n_lt, n_le, n_eq, n_ltl, n_lel, n_eql, n_llt, n_lle, n_leq, n_m1l, n_m1r, n_addl, n_ladd, nI_add, n_mul, n_mull, n_lmul, n_sub, n_subl, n_div, n_divl, n_modd, bi_s, if_true, l1, l2, if_false]
      exact Same.mk (cl_ref hR _)
theorem c_foggy {p q b w : Nat} {F : Nat → Nat} {M : Mem} (hl : ln q = 60) (h8 : M.1 p 4 = nI w) (hF : Ar M q 60 F) (hb : b < 30) (hF9 : ∀ k, k < 60 → F k ≤ 999) (hw : w < 2147483648) : f_X5_isFoggy p q (nI b) M = some (decide (w ≤ F b + F (30 + b)), M) := by
  unfold f_X5_isFoggy f_X5_bothKinds
  have a1 := hF b (by omega)
  have a2 := hF (30 + b) (by omega)
  have l1 := hF9 b (by omega)
  have l2 := hF9 (30 + b) (by omega)
  simp (disch := omega) only [n_tn, n_tl, n_t0, n_lt, n_le, n_eq, n_ltl, n_lel, n_eql, n_llt, n_lle, n_leq, n_m1l, n_m1r, n_addl, n_ladd, nI_add, n_mul, n_mull, n_lmul, n_sub, n_subl, n_div, n_divl, n_modd, true_and, and_true, bi_s, bv_s, bM_e, bI_e, bL_e, ck_n, ck_l, ck_0, hl, a1, a2, h8]
  by_cases g : F b + F (30 + b) < w
  · rw [if_pos g]; simp; omega
  · rw [if_neg g]; simp; omega
theorem m_foggy {b : Nat} {v : Nat → Nat} {M : Mem} (hA : Ar M 205 435 v) (hb : b < 30) (hF9 : ∀ k, k < 60 → v (103 + k) ≤ 999) (hw : v 8 < 2147483648) : f_X12_isFoggy (nI b) M = some (decide (v 8 ≤ v (103 + b) + v (133 + b)), M) := by
  unfold f_X12_isFoggy f_X12_fogOf
  have a1 := hA (103 + b) (by omega)
  have a2 := hA (133 + b) (by omega)
  have l1 := hF9 b (by omega)
  have l2 := hF9 (30 + b) (by omega)
  rw [show 103 + (30 + b) = 133 + b by omega] at l2
  simp (disch := omega) only [n_tn, n_tl, n_t0, n_lt, n_le, n_eq, n_ltl, n_lel, n_eql, n_llt, n_lle, n_leq, n_m1l, n_m1r, n_addl, n_ladd, nI_add, n_mul, n_mull, n_lmul, n_sub, n_subl, n_div, n_divl, n_modd, true_and, and_true, bi_s, bv_s, bM_e, bI_e, bL_e, ck_n, ck_l, ck_0, a1, a2, hA 8 (by omega)]
  by_cases g : v (103 + b) + v (133 + b) < v 8
  · rw [if_pos g]; simp; omega
  · rw [if_neg g]; simp; omega
theorem e_foggy (h : Rel C S) (x y : Int32) : Same (f_X11_foggy x y C) (f_X12_foggy x y S) := by
  have hR := Re.go h
  have hs := S0_st S 0 0
  unfold f_X11_foggy f_X12_foggy f_X11_refused f_X11_answered f_X12_refuse f_X5_boardAt
  simp only [bM_e]
  generalize uI (uI S 200 1 0) 200 0 0 = S at *
  obtain ⟨v, hv, -, hC, hA, -⟩ := hR.get
  have v0 := hv.1.1
  have v1 := hv.1.2.1
  have b30 := bd30 v0 v1
  obtain ⟨b, e1, e2, hb⟩ := board_is (v := v) (by omega) hC.1.1 hC.1.2.1 (hA 0 (by omega)) (hA 1 (by omega)) x y
  simp only [e1, e2, bi_s, b2i_0]
  cases b with
  | false => exact Same.mk (cl_ref hR _)
  | true =>
    obtain ⟨c, r, hc, hr, rfl, rfl⟩ := hb rfl
    have hb := bd hc hr
    have hf9 := hv.2.2.2.2.2.2.2.2.2.2.1
    have v8 := hv.2.2.2.2.1
    have eF := c_foggy (b := r * v 0 + c) (p := 10) (q := 16) (M := C) rfl hC.2.1 hC.2.2.2.2.2.2.2.2.2.2.2.1 (by omega) hf9 (by omega)
    have eM := m_foggy (b := r * v 0 + c) hA (by omega) hf9 (by omega)
    have eq : v 0 * r + c = r * v 0 + c := by rw [Nat.mul_comm]
    simp (disch := omega) only [n_tn, n_tl, n_t0, n_lt, n_le, n_eq, n_ltl, n_lel, n_eql, n_llt, n_lle, n_leq, n_m1l, n_m1r, n_addl, n_ladd, nI_add, n_mul, n_mull, n_lmul, n_sub, n_subl, n_div, n_divl, n_modd, true_and, and_true, bi_s, bv_s, bM_e, bI_e, bL_e, ck_n, ck_l, ck_0, hC.1.1, m_board (x := c) (y := r) (hA 0 (by omega)), eq, eF, eM, if_false, Bool.true_eq_false, b2i_0]
    rw [show 103 + (30 + (r * v 0 + c)) = 133 + (r * v 0 + c) by omega]
    by_cases g : v 8 ≤ v (103 + (r * v 0 + c)) + v (133 + (r * v 0 + c))
    · simp only [g, decide_true, Bool.true_eq_false, if_false]
      exact Same.mk (cl_ok hR hs)
    · simp only [g, decide_false, if_true]
      exact Same.mk (cl_ok hR hs)
theorem e_wind (h : Rel C S) (x : Int32) : Same (f_X11_wind x C) (f_X12_wind x S) := by
  have hR := Re.go h
  have hs := S0_st S 0 0
  unfold f_X11_wind f_X12_wind f_X11_refusedFlag f_X11_granted f_X12_no
  simp only [bM_e]
  generalize uI (uI S 200 1 0) 200 0 0 = S at *
  obtain ⟨v, hv, h9, hC, hA, hn⟩ := hR.get
  have v6 := hv.1.2.2.2.1
  have a6 := hA 6 (by omega)
  have c2 := hC.1.2.2.1
  obtain ⟨q, e3, hq⟩ := in_is 0 4 (by omega) S x
  rw [show f_X12_isIn x.toInt64 0 4 S = _ from e3]
  rcases hq with ⟨rfl, w, -, hw, rfl⟩ | ⟨rfl, hy | ⟨n, hn, hw, rfl⟩⟩
  · have l1 : ¬ (w < 0) := by omega
    simp (disch := omega) only [n_tn, n_tl, n_t0, n_lt, n_le, n_eq, n_ltl, n_lel, n_eql, n_llt, n_lle, n_leq, n_m1l, n_m1r, n_addl, n_ladd, nI_add, n_mul, n_mull, n_lmul, n_sub, n_subl, n_div, n_divl, n_modd, true_and, and_true, bi_s, bv_s, bM_e, bI_e, bL_e, ck_n, ck_l, ck_0, c2, a6, b2i_0, if_false, if_true, Bool.true_eq_false, l1, hw]
    by_cases g : w = v 6
    · rw [if_pos g, if_pos g.symm]
      exact Same.mk (cl_ref hR _)
    · rw [if_neg g, if_neg (Ne.symm g)]
      refine Same.mk (hR.doing hv hC hn ((KC.rf.u (by simp [scrC]) _ _).st _) (KS.rf.c (by omega) _) ?_ (hA.put 6 w) (fun i hi => pt_ne (by omega)) h9 hw hv.2.2.2.2.2.1 (fun k h1 h2 h3 => ?_) rfl hC.2.2.1 hC.2.2.2.1 (fun j hj => ?_) (Or.inl ⟨rfl, fun i h1 h2 => pt_ne (by omega)⟩) (Or.inl ⟨rfl, fun i h1 h2 => pt_ne (by omega)⟩))
      · rw [g_uI, if_pos rfl, g_upd, if_pos rfl, g_uI, if_neg (by decide), hs]
      · rw [g_uI, if_neg (by decide), g_uI, if_pos rfl, g_upd, if_neg h1]
      · rw [g_uI, if_neg (by omega), g_uI, if_neg (by omega)]
  · simp only [bi_s, if_pos hy, b2i_0, if_true]
    exact Same.mk (cl_ref hR _)
  · have l1 : ¬ (n < 0) := by omega
    have l2 : ¬ n ≤ 4 := by omega
    simp (disch := omega) only [n_tn, n_tl, n_t0, n_lt, n_le, n_eq, n_ltl, n_lel, n_eql, n_llt, n_lle, n_leq, n_m1l, n_m1r, n_addl, n_ladd, nI_add, n_mul, n_mull, n_lmul, n_sub, n_subl, n_div, n_divl, n_modd, bi_s, if_true, l1, l2, if_false, b2i_0]
    exact Same.mk (cl_ref hR _)
theorem n_andnot {a g : Nat} (hg : g < 31) : nI a &&& (nI (2 ^ g) ^^^ (-1)) = nI (if a.testBit g then a ^^^ 2 ^ g else a) := by
  apply b_ext
  intro i hi
  rw [b_and, b_xor, b_m1 i hi, bt_nI _ hi, bt_nI _ hi, bt_nI _ hi, Nat.testBit_two_pow]
  by_cases e : g = i
  · subst e
    by_cases t : a.testBit g
    · rw [if_pos t, Nat.testBit_xor, t]; simp
    · rw [if_neg t]; simp at t; simp [t]
  · by_cases t : a.testBit g
    · rw [if_pos t, Nat.testBit_xor, Nat.testBit_two_pow]; simp [e]
    · rw [if_neg t]; simp [e]
theorem or_xor {a g : Nat} (h : a.testBit g = false) : a ||| 2 ^ g = a ^^^ 2 ^ g := by
  apply Nat.eq_of_testBit_eq
  intro i
  rw [Nat.testBit_or, Nat.testBit_xor, Nat.testBit_two_pow]
  by_cases e : g = i
  · subst e; simp [h]
  · simp [e]
theorem pow_le64 {n : Nat} (h : n ≤ 6) : 2 ^ n ≤ 64 := Nat.pow_le_pow_right (n := 2) (by decide) h
theorem cm_has {a g : Nat} (h : a < 2147483648 ∧ g < 31) (M : Mem) : f_X12_has (nI a) (nI g) M = some (a.testBit g, M) := by
  unfold f_X12_has
  by_cases t : a.testBit g = true
  · rw [if_pos (by rw [n_bit (by omega)]; exact t), t]
  · rw [if_neg (by rw [n_bit (by omega)]; exact t)]
    simp at t
    rw [t]
theorem cc_open {p a g : Nat} {M : Mem} (h6 : M.1 p 6 = nI a) (h : a < 2147483648 ∧ g < 31) : f_X5_isOpen p (nI g) M = some (a.testBit g, M) := by
  unfold f_X5_isOpen
  rw [h6]
  by_cases t : a.testBit g = true
  · rw [if_pos (by rw [n_bit (by omega)]; exact t), t]
  · rw [if_neg (by rw [n_bit (by omega)]; exact t)]
    simp at t
    rw [t]
theorem e_open (h : Rel C S) (x : Int32) (is : Bool) : Same (f_X11_open x (b2i is) C) (f_X12_open x (b2i is) S) := by
  have hR := Re.go h
  have hs := S0_st S 0 0
  unfold f_X11_open f_X12_open f_X11_refusedFlag f_X11_granted f_X12_no f_X5_setOpen
  simp only [bM_e]
  generalize uI (uI S 200 1 0) 200 0 0 = S at *
  obtain ⟨v, hv, h9, hC, hA, hn⟩ := hR.get
  have v2 := hv.1.2.2.1
  have h10 := hv.2.2.2.2.2.1
  have p64 := pow_le64 v2
  obtain ⟨b, e1, e2, hb⟩ := gate_is (v := v) (by omega) hC.1.2.2.2.2.1 (hA 2 (by omega)) x
  simp only [e1, e2, bi_s, b2i_0]
  cases b with
  | false => exact Same.mk (cl_ref hR _)
  | true =>
    obtain ⟨g, hg, rfl⟩ := hb rfl
    have a10 := hA 10 (by omega)
    have c6 := hC.2.2.2.1
    simp (disch := omega) only [n_tn, n_tl, n_t0, n_lt, n_le, n_eq, n_ltl, n_lel, n_eql, n_llt, n_lle, n_leq, n_m1l, n_m1r, n_addl, n_ladd, nI_add, n_mul, n_mull, n_lmul, n_sub, n_subl, n_div, n_divl, n_modd, true_and, and_true, bi_s, bv_s, bM_e, bI_e, bL_e, ck_n, ck_l, ck_0, cc_open c6 (show v 10 < 2147483648 ∧ g < 31 by omega), a10, cm_has, if_false, Bool.true_eq_false, n_shl1]
    have fin : ∀ y, y = v 10 ^^^ 2 ^ g → Rel (uI (uI C 10 6 (nI y)) 0 0 0) (uI S 205 10 (nI y)) := by
      intro y hy
      have hlt : y < 2 ^ v 2 := by rw [hy]; exact Nat.xor_lt_two_pow h10 (Nat.pow_lt_pow_right (by decide) hg)
      refine hR.doing hv hC hn ((KC.rf.u (by simp [scrC]) _ _).st _) (KS.rf.c (by omega) _) ?_ (hA.put 10 y) (fun i hi => pt_ne (by omega)) h9 hv.1.2.2.2.1 hlt (fun k h1 h2 h3 => ?_) hC.1.2.2.1 hC.2.2.1 rfl (fun j hj => ?_) (Or.inl ⟨rfl, fun i h1 h2 => pt_ne (by omega)⟩) (Or.inl ⟨rfl, fun i h1 h2 => pt_ne (by omega)⟩)
      · rw [g_uI, if_pos rfl, g_upd, if_pos rfl, g_uI, if_neg (by decide), hs]
      · rw [g_uI, if_neg (by decide), g_uI, if_pos rfl, g_upd, if_neg h3]
      · rw [g_uI, if_neg (by omega), g_uI, if_neg (by omega)]
    rw [c6, fb_xorI, n_andnot (a := v 10) (g := g) (by omega), fa_or]
    cases is with
    | false =>
      by_cases t : (v 10).testBit g = true
      · rw [t]
        rw [if_neg (show ¬ b2i true = b2i false by decide), if_neg (show ¬ b2i true = b2i false by decide)]
        simp only [if_true, bv_s]
        exact Same.mk (fin _ rfl)
      · simp at t
        rw [t]
        simp only [if_true]
        exact Same.mk (cl_ref hR _)
    | true =>
      by_cases t : (v 10).testBit g = true
      · rw [t]
        simp only [if_true]
        exact Same.mk (cl_ref hR _)
      · simp at t
        rw [t, or_xor t]
        rw [if_neg (show ¬ b2i false = b2i true by decide), if_neg (show ¬ b2i false = b2i true by decide)]
        simp only [Bool.true_eq_false, if_false, bv_s]
        exact Same.mk (fin _ rfl)
theorem e_sweep (h : Rel C S) (x y : Int32) : Same (f_X11_sweep x y C) (f_X12_sweep x y S) := by
  have hR := Re.go h
  have hs := S0_st S 0 0
  unfold f_X11_sweep f_X12_sweep f_X11_refused f_X11_answered f_X12_refuse f_X5_boardAt f_X5_bothKinds f_X12_fogOf
  simp only [bM_e]
  generalize uI (uI S 200 1 0) 200 0 0 = S at *
  obtain ⟨v, hv, h9, hC, hA, hn⟩ := hR.get
  have v0 := hv.1.1
  have v1 := hv.1.2.1
  have b30 := bd30 v0 v1
  obtain ⟨b, e1, e2, hb⟩ := board_is (v := v) (by omega) hC.1.1 hC.1.2.1 (hA 0 (by omega)) (hA 1 (by omega)) x y
  simp only [e1, e2, bi_s, b2i_0]
  cases b with
  | false => exact Same.mk (cl_ref hR _)
  | true =>
    obtain ⟨c, r, hc, hr, rfl, rfl⟩ := hb rfl
    have hb := bd hc hr
    have hf9 := hv.2.2.2.2.2.2.2.2.2.2.1
    have eq : v 0 * r + c = r * v 0 + c := by rw [Nat.mul_comm]
    have hF : Ar C 16 60 (fun k => v (103 + k)) := hC.2.2.2.2.2.2.2.2.2.2.2.1
    simp (disch := omega) only [n_tn, n_tl, n_t0, n_lt, n_le, n_eq, n_ltl, n_lel, n_eql, n_llt, n_lle, n_leq, n_m1l, n_m1r, n_addl, n_ladd, nI_add, n_mul, n_mull, n_lmul, n_sub, n_subl, n_div, n_divl, n_modd, true_and, and_true, bi_s, bv_s, bM_e, bI_e, bL_e, ck_n, ck_l, ck_0, hC.1.1, m_board (x := c) (y := r) (hA 0 (by omega)), eq, if_false, Bool.true_eq_false, show ln 16 = 60 from rfl]
    generalize r * v 0 + c = b at *
    have a1 := hF b (by omega)
    have a2 := hF (30 + b) (by omega)
    have a3 := hA (103 + b) (by omega)
    have a4 := hA (133 + b) (by omega)
    dsimp only at a1 a2
    rw [show 103 + (30 + b) = 133 + b by omega] at a2
    rw [a1, a2, a3, a4]
    refine Same.mk (hR.doing (v' := pt (pt v (103 + b) 0) (133 + b) 0) hv hC hn (((KC.rf.u (by simp [scrC]) _ _).u (by simp [scrC]) _ _).st _) ((KS.rf.c (by omega) _).c (by omega) _) ?_ ((hA.put (103 + b) 0).put (133 + b) 0) (fun i hi => by rw [pt_ne (by omega), pt_ne (by omega)]) (by rw [pt_ne (by omega), pt_ne (by omega)]; exact h9) (by rw [pt_ne (by omega), pt_ne (by omega)]; exact hv.1.2.2.2.1) (by rw [pt_ne (by omega), pt_ne (by omega)]; exact hv.2.2.2.2.2.1) (fun k h1 h2 h3 => rfl) ?_ ?_ ?_ (fun j hj => ?_) (Or.inl ⟨rfl, fun i h1 h2 => by rw [pt_ne (by omega), pt_ne (by omega)]⟩) (Or.inr ⟨fun k hk => ?_, fun b' h1 h2 => ?_, ?_⟩))
    · rw [g_uI, if_pos rfl, g_upd, if_pos rfl, g_uI, if_neg (by decide), g_uI, if_neg (by decide), hs]
    · rw [pt_ne (by omega), pt_ne (by omega)]; exact hC.1.2.2.1
    · rw [pt_ne (by omega), pt_ne (by omega)]; exact hC.2.2.1
    · rw [pt_ne (by omega), pt_ne (by omega)]; exact hC.2.2.2.1
    · rw [g_uI, if_neg (by omega), g_uI, if_neg (by omega), g_uI, if_neg (by omega)]
    · have := hf9 k hk
      unfold pt
      split
      · omega
      · split <;> omega
    · have := hv.2.2.2.2.2.2.2.2.2.2.2 b' h1 h2
      unfold pt
      constructor
      · split
        · rfl
        · split
          · rfl
          · exact this.1
      · split
        · rfl
        · split
          · rfl
          · exact this.2
    · have hh := (hF.put b 0).put (30 + b) 0
      intro k hk
      have := hh k hk
      rw [show (uI (uI (uI C 16 b 0) 16 (30 + b) 0) 0 0 0).1 16 = (uI (uI C 16 b (nI 0)) 16 (30 + b) (nI 0)).1 16 from rfl, this]
      congr 1
      unfold pt
      dsimp only
      by_cases c1 : k = 30 + b
      · rw [if_pos c1, if_pos (by omega)]
      · rw [if_neg c1, if_neg (show ¬ 103 + k = 133 + b by omega)]
        by_cases c2 : k = b
        · rw [if_pos c2, if_pos (by omega)]
        · rw [if_neg c2, if_neg (by omega)]
theorem e_breathe (h : Rel C S) (x y z w : Int32) : Same (f_X11_breathe x y z w C) (f_X12_breathe x y z w S) := by
  have hR := Re.go h
  have hs := S0_st S 0 0
  unfold f_X11_breathe f_X12_breathe f_X11_refused f_X11_answered f_X12_refuse f_X5_boardAt
  simp only [bM_e]
  generalize uI (uI S 200 1 0) 200 0 0 = S at *
  obtain ⟨v, hv, h9, hC, hA, hn⟩ := hR.get
  have v0 := hv.1.1
  have v1 := hv.1.2.1
  have b30 := bd30 v0 v1
  obtain ⟨b, e1, e2, hb⟩ := board_is (v := v) (by omega) hC.1.1 hC.1.2.1 (hA 0 (by omega)) (hA 1 (by omega)) x y
  simp only [e1, e2, bi_s, b2i_0]
  cases b with
  | false => exact Same.mk (cl_ref hR _)
  | true =>
    obtain ⟨c, r, hc, hr, rfl, rfl⟩ := hb rfl
    have hb := bd hc hr
    have hf9 := hv.2.2.2.2.2.2.2.2.2.2.1
    have eq : v 0 * r + c = r * v 0 + c := by rw [Nat.mul_comm]
    have hF : Ar C 16 60 (fun k => v (103 + k)) := hC.2.2.2.2.2.2.2.2.2.2.2.1
    simp only [Bool.true_eq_false, if_false]
    obtain ⟨q, e3, hq⟩ := in_is 0 1 (by omega) S z
    rw [show f_X12_isIn z.toInt64 0 1 S = _ from e3]
    rcases hq with ⟨rfl, k, -, hk, rfl⟩ | ⟨rfl, hy | ⟨n, hn, hw, rfl⟩⟩
    · have l1 : ¬ k < 0 := by omega
      have l2 : ¬ 1 < k := by omega
      simp (disch := omega) only [n_tn, n_tl, n_t0, n_lt, n_le, n_eq, n_ltl, n_lel, n_eql, n_llt, n_lle, n_leq, n_m1l, n_m1r, n_addl, n_ladd, nI_add, n_mul, n_mull, n_lmul, n_sub, n_subl, n_div, n_divl, n_modd, bi_s, if_true, l1, l2, if_false, Bool.true_eq_false]
      obtain ⟨q, e3, hq⟩ := in_is 1 999 (by omega) S w
      rw [show f_X12_isIn w.toInt64 1 999 S = _ from e3]
      rcases hq with ⟨rfl, u, hu1, hu, rfl⟩ | ⟨rfl, hy | ⟨n, hn, hw, rfl⟩⟩
      · have l1 : ¬ u < 1 := by omega
        have hb' : k * 30 + (r * v 0 + c) < 60 := by omega
        have e4 : 103 + 30 * k + (r * v 0 + c) = 103 + (k * 30 + (r * v 0 + c)) := by omega
        have a1 := hF _ hb'
        have a2 := hA (103 + (k * 30 + (r * v 0 + c))) (by omega)
        have a9 := hf9 _ hb'
        have hbz : v 0 * v 1 ≤ 30 := b30
        have hnb : r * v 0 + c < v 0 * v 1 := hb
        dsimp only at a1
        simp (disch := omega) only [n_tn, n_tl, n_t0, n_lt, n_le, n_eq, n_ltl, n_lel, n_eql, n_llt, n_lle, n_leq, n_m1l, n_m1r, n_addl, n_ladd, nI_add, n_mul, n_mull, n_lmul, n_sub, n_subl, n_div, n_divl, n_modd, true_and, and_true, bi_s, bv_s, bM_e, bI_e, bL_e, ck_n, ck_l, ck_0, hC.1.1, m_board (x := c) (y := r) (hA 0 (by omega)), eq, e4, if_false, if_true, Bool.true_eq_false, l1, hu, a1, a2, n_lmin]
        have hrc : r * v 0 + c < v 0 * v 1 := hb
        generalize r * v 0 + c = b at *
        rw [show (uI C 16 (k * 30 + b) (nI (min 999 (v (103 + (k * 30 + b)) + u)))).1 16 (k * 30 + b) = nI (min 999 (v (103 + (k * 30 + b)) + u)) by rw [g_uI, if_pos rfl, g_upd, if_pos rfl], show (uI S 205 (103 + (k * 30 + b)) (nI (min 999 (v (103 + (k * 30 + b)) + u)))).1 205 (103 + (k * 30 + b)) = nI (min 999 (v (103 + (k * 30 + b)) + u)) by rw [g_uI, if_pos rfl, g_upd, if_pos rfl]]
        refine Same.mk (hR.doing hv hC hn ((KC.rf.u (by simp [scrC]) _ _).st _) (KS.rf.c (by omega) _) ?_ (hA.put (103 + (k * 30 + b)) (min 999 (v (103 + (k * 30 + b)) + u))) (fun i hi => pt_ne (by omega)) (by rw [pt_ne (by omega)]; exact h9) (by rw [pt_ne (by omega)]; exact hv.1.2.2.2.1) (by rw [pt_ne (by omega)]; exact hv.2.2.2.2.2.1) (fun k h1 h2 h3 => rfl) (by rw [pt_ne (by omega)]; exact hC.1.2.2.1) (by rw [pt_ne (by omega)]; exact hC.2.2.1) (by rw [pt_ne (by omega)]; exact hC.2.2.2.1) (fun j hj => ?_) (Or.inl ⟨rfl, fun i h1 h2 => pt_ne (by omega)⟩) (Or.inr ⟨fun j hj => ?_, fun b' h1 h2 => ?_, ?_⟩))
        · rw [g_uI, if_pos rfl, g_upd, if_pos rfl, g_uI, if_neg (by decide), hs]
        · rw [g_uI, if_neg (by omega), g_uI, if_neg (by omega)]
        · have := hf9 j hj
          unfold pt
          split <;> omega
        · rw [pt_ne (by omega), pt_ne (by omega)]
          exact hv.2.2.2.2.2.2.2.2.2.2.2 b' h1 h2
        · intro j hj
          have := hF.put (k * 30 + b) (min 999 (v (103 + (k * 30 + b)) + u)) j hj
          rw [show (uI (uI C 16 (k * 30 + b) (nI (min 999 (v (103 + (k * 30 + b)) + u)))) 0 0 0).1 16 = (uI C 16 (k * 30 + b) (nI (min 999 (v (103 + (k * 30 + b)) + u)))).1 16 from rfl, this]
          congr 1
          unfold pt
          dsimp only
          by_cases c1 : j = k * 30 + b
          · rw [if_pos c1, if_pos (by omega)]
          · rw [if_neg c1, if_neg (by omega)]
      · have l0 : w < 1 := by rw [fa_lt] at hy ⊢; exact Int.lt_trans hy (by decide)
        simp only [bi_s, if_pos l0, if_true]
        exact Same.mk (cl_ref hR _)
      · by_cases l1 : n < 1
        · simp (disch := omega) only [n_tn, n_tl, n_t0, n_lt, n_le, n_eq, n_ltl, n_lel, n_eql, n_llt, n_lle, n_leq, n_m1l, n_m1r, n_addl, n_ladd, nI_add, n_mul, n_mull, n_lmul, n_sub, n_subl, n_div, n_divl, n_modd, bi_s, if_true, l1]
          exact Same.mk (cl_ref hR _)
        · have l2 : ¬ n ≤ 999 := by omega
          simp (disch := omega) only [n_tn, n_tl, n_t0, n_lt, n_le, n_eq, n_ltl, n_lel, n_eql, n_llt, n_lle, n_leq, n_m1l, n_m1r, n_addl, n_ladd, nI_add, n_mul, n_mull, n_lmul, n_sub, n_subl, n_div, n_divl, n_modd, bi_s, if_true, if_false, l1, l2]
          exact Same.mk (cl_ref hR _)
    · simp only [bi_s, if_pos hy, if_true]
      exact Same.mk (cl_ref hR _)
    · have l1 : ¬ (n < 0) := by omega
      have l2 : 1 < n := by omega
      simp (disch := omega) only [n_tn, n_tl, n_t0, n_lt, n_le, n_eq, n_ltl, n_lel, n_eql, n_llt, n_lle, n_leq, n_m1l, n_m1r, n_addl, n_ladd, nI_add, n_mul, n_mull, n_lmul, n_sub, n_subl, n_div, n_divl, n_modd, bi_s, if_true, l1, l2, if_false]
      exact Same.mk (cl_ref hR _)
theorem e_tow (h : Rel C S) (x y z : Int32) : Same (f_X11_tow x y z C) (f_X12_tow x y z S) := by
  have hR := Re.go h
  have hs := S0_st S 0 0
  unfold f_X11_tow f_X12_tow f_X11_tow_b71 f_X12_tow_b66 f_X11_refusedFlag f_X11_granted f_X12_no
  simp only [bM_e]
  generalize uI (uI S 200 1 0) 200 0 0 = S at *
  obtain ⟨v, hv, h9, hC, hA, hn⟩ := hR.get
  have v0 := hv.1.1
  have v1 := hv.1.2.1
  have v5 := hv.2.2.2.1
  obtain ⟨b, e1, e2, hb⟩ := ship_is (v := v) (by omega) hC.2.2.2.2.2.2.1 (hA 5 (by omega)) x
  simp only [e1, e2, bi_s, b2i_0]
  cases b with
  | false => exact Same.mk (cl_ref hR _)
  | true =>
    obtain ⟨s, hss, rfl⟩ := hb rfl
    obtain ⟨b, e1, e2, hb⟩ := board_is (v := v) (by omega) hC.1.1 hC.1.2.1 (hA 0 (by omega)) (hA 1 (by omega)) y z
    simp only [e1, e2, bi_s, Bool.true_eq_false, if_false]
    cases b with
    | false => exact Same.mk (cl_ref hR _)
    | true =>
      obtain ⟨c, r, hc, hr, rfl, rfl⟩ := hb rfl
      have hf : C.1 15 (s * 5) = nI (v (83 + s)) ∧ C.1 15 (s * 5 + 1) = nI (v (87 + s)) ∧ _ := hC.2.2.2.2.2.2.2.2.2.2.1 s hss
      have hr5 := hv.2.2.2.2.2.2.2.2.2.1 s hss
      have a1 := hA (83 + s) (by omega)
      have a2 := hA (87 + s) (by omega)
      simp (disch := omega) only [n_tn, n_tl, n_t0, n_lt, n_le, n_eq, n_ltl, n_lel, n_eql, n_llt, n_lle, n_leq, n_m1l, n_m1r, n_addl, n_ladd, nI_add, n_mul, n_mull, n_lmul, n_sub, n_subl, n_div, n_divl, n_modd, true_and, and_true, bi_s, bv_s, bM_e, bI_e, bL_e, ck_n, ck_l, ck_0, hf.1, hf.2.1, a1, a2, if_false, Bool.true_eq_false]
      by_cases g : v (83 + s) = c ∧ v (87 + s) = r
      · rw [if_pos g.1, if_pos g.2, if_pos g.1, if_pos g.2]
        exact Same.mk (cl_ref hR _)
      · have fin : Same (some (true, uI (uI (uI C 15 (s * 5) (nI c)) 15 (s * 5 + 1) (nI r)) 0 0 0)) (some (true, uI (uI S 205 (83 + s) (nI c)) 205 (87 + s) (nI r))) := by
          refine Same.mk (hR.doing (v' := pt (pt v (83 + s) c) (87 + s) r) hv hC hn (((KC.rf.u (by simp [scrC]) _ _).u (by simp [scrC]) _ _).st _) ((KS.rf.c (by omega) _).c (by omega) _) ?_ ((hA.put (83 + s) c).put (87 + s) r) (fun i hi => by rw [pt_ne (by omega), pt_ne (by omega)]) (by rw [pt_ne (by omega), pt_ne (by omega)]; exact h9) (by rw [pt_ne (by omega), pt_ne (by omega)]; exact hv.1.2.2.2.1) (by rw [pt_ne (by omega), pt_ne (by omega)]; exact hv.2.2.2.2.2.1) (fun k h1 h2 h3 => rfl) ?_ ?_ ?_ (fun j hj => ?_) (Or.inr ⟨fun t ht => ?_, fun t ht => ?_⟩) (Or.inl ⟨rfl, fun i h1 h2 => by rw [pt_ne (by omega), pt_ne (by omega)]⟩))
          · rw [g_uI, if_pos rfl, g_upd, if_pos rfl, g_uI, if_neg (by decide), g_uI, if_neg (by decide), hs]
          · rw [pt_ne (by omega), pt_ne (by omega)]; exact hC.1.2.2.1
          · rw [pt_ne (by omega), pt_ne (by omega)]; exact hC.2.2.1
          · rw [pt_ne (by omega), pt_ne (by omega)]; exact hC.2.2.2.1
          · rw [g_uI, if_neg (by omega), g_uI, if_neg (by omega), g_uI, if_neg (by omega)]
          · have q := hv.2.2.2.2.2.2.2.2.2.1 t ht
            rw [pt_ne (show 91 + t ≠ 87 + s by omega), pt_ne (show 91 + t ≠ 83 + s by omega), pt_ne (show 95 + t ≠ 87 + s by omega), pt_ne (show 95 + t ≠ 83 + s by omega), pt_ne (show 99 + t ≠ 87 + s by omega), pt_ne (show 99 + t ≠ 83 + s by omega), pt_ne (show 83 + t ≠ 87 + s by omega)]
            unfold pt
            by_cases e : t = s
            · subst e
              simp [hc, hr, q]
            · rw [if_neg (by omega), if_neg (by omega), if_neg (by omega)]
              exact q
          · have q : C.1 15 (t * 5) = nI (v (83 + t)) ∧ C.1 15 (t * 5 + 1) = nI (v (87 + t)) ∧ C.1 15 (t * 5 + 2) = nI (v (91 + t)) ∧ C.1 15 (t * 5 + 3) = nI (v (95 + t)) ∧ C.1 15 (t * 5 + 4) = nI (v (99 + t)) := hC.2.2.2.2.2.2.2.2.2.2.1 t ht
            rw [pt_ne (show 91 + t ≠ 87 + s by omega), pt_ne (show 91 + t ≠ 83 + s by omega), pt_ne (show 95 + t ≠ 87 + s by omega), pt_ne (show 95 + t ≠ 83 + s by omega), pt_ne (show 99 + t ≠ 87 + s by omega), pt_ne (show 99 + t ≠ 83 + s by omega), pt_ne (show 83 + t ≠ 87 + s by omega)]
            rw [show (uI (uI (uI C 15 (s * 5) (nI c)) 15 (s * 5 + 1) (nI r)) 0 0 0).1 15 = upd (upd (C.1 15) (s * 5) (nI c)) (s * 5 + 1) (nI r) from rfl]
            unfold pt upd
            by_cases e : t = s
            · subst e
              simp [q]
            · rw [if_neg (by omega), if_neg (by omega), if_neg (by omega), if_neg (by omega), if_neg (by omega), if_neg (by omega), if_neg (by omega), if_neg (by omega), if_neg (by omega), if_neg (by omega), if_neg (by omega), if_neg (by omega), if_neg (by omega)]
              exact q
        by_cases g1 : v (83 + s) = c
        · rw [if_pos g1, if_neg (fun z => g ⟨g1, z⟩), if_pos g1, if_neg (fun z => g ⟨g1, z⟩)]
          exact fin
        · rw [if_neg g1, if_neg g1]
          exact fin
end C2
