theorem Re.trays {C C' S S' : Mem} (h : Re C S) (hst : C'.1 0 0 = S'.1 200 0) (c0 : ∀ k, k ≠ 0 → C'.1 0 k = C.1 0 k) (c1 : ∀ c, c ≠ 0 → c ≠ 8 → c ≠ 9 → C'.1 c = C.1 c) (cL : ∀ c, c < 4 ∨ 8 ≤ c → C'.2 c = C.2 c) (s0 : ∀ k, k ≠ 0 → S'.1 200 k = S.1 200 k) (s1 : ∀ c, c ≠ 200 → c ≠ 201 → c ≠ 202 → S'.1 c = S.1 c) (sL : ∀ c, c ≠ 203 → S'.2 c = S.2 c) (hy : RY C' S') : Rel C' S' := by
  obtain ⟨ra, rb, rc, rd, rm, re, rf⟩ := h
  refine ⟨hst, ra.same (by rw [cL 0 (by omega)]) (by rw [cL 0 (by omega)]) (by rw [sL 200 (by decide)]) (by rw [sL 200 (by decide)]), rb.same (c0 3 (by decide)) (c1 1 (by decide) (by decide) (by decide)) (s0 8 (by decide)) (s1 204 (by decide) (by decide) (by decide)), hy, rd.same (fun j hj => c1 _ (by omega) (by omega) (by omega)) (cL _ (by omega)) (fun k _ => by rw [s1 205 (by decide) (by decide) (by decide)]) (fun g _ => by rw [sL 208 (by decide)]), rm.same (c0 4 (by decide)) (s0 24 (by decide)) (fun c h1 h2 => ⟨c1 c (by omega) (by omega) (by omega), cL c (by omega)⟩) (fun k _ _ => by rw [s1 205 (by decide) (by decide) (by decide)]) (fun k _ _ => by rw [sL 208 (by decide)]), re.same (by rw [c1 82 (by decide) (by decide) (by decide)]) (by rw [c1 82 (by decide) (by decide) (by decide)]) (s0 10 (by decide)) (s0 11 (by decide)), rf.same (c1 107 (by decide) (by decide) (by decide)) (s0 42 (by decide)) (s1 219 (by decide) (by decide) (by decide))⟩
theorem c_fillL {N p : Nat} {M : Mem} (hN : 300 < N) (x : Int64) (hl : ln p ≤ 240) : Ho (f_J7_fill_d0a16 N p x M) (fun M' => M'.1 = M.1 ∧ (∀ c, c ≠ p → M'.2 c = M.2 c) ∧ ∀ k, k < ln p → M'.2 p k = x) := by
  unfold f_J7_fill_d0a16
  rw [show Int32.ofNat (ln p) = nI (ln p) from rfl]
  refine Ho_lp (fun i a M' => a = (x, nI i, nI (ln p)) ∧ M'.1 = M.1 ∧ (∀ c, c ≠ p → M'.2 c = M.2 c) ∧ ∀ k, k < i → M'.2 p k = x) (ln p) (by omega) ⟨rfl, rfl, fun _ _ => rfl, fun k hk => absurd hk (Nat.not_lt_zero k)⟩ ?_
  rintro i hi k hk _ M1 ⟨rfl, h1, h2, h3⟩
  unfold f_J7_fill_d0a16_h6
  by_cases g : ln p ≤ i
  · have e : i = ln p := by omega
    simp (disch := omega) only [n_tn, n_tl, n_t0, n_lt, n_le, n_eq, n_ltl, n_lel, n_eql, n_llt, n_lle, n_leq, n_m1l, n_m1r, n_addl, n_ladd, nI_add, n_mul, n_mull, n_lmul, n_sub, n_subl, n_div, n_divl, n_modd, true_and, and_true, bi_s, bv_s, bM_e, bI_e, bL_e, ck_n, ck_l, ck_0, if_pos g, Ho_some]
    exact ⟨h1, h2, e ▸ h3⟩
  · simp (disch := omega) only [n_tn, n_tl, n_t0, n_lt, n_le, n_eq, n_ltl, n_lel, n_eql, n_llt, n_lle, n_leq, n_m1l, n_m1r, n_addl, n_ladd, nI_add, n_mul, n_mull, n_lmul, n_sub, n_subl, n_div, n_divl, n_modd, true_and, and_true, bi_s, bv_s, bM_e, bI_e, bL_e, ck_n, ck_l, ck_0, if_neg g]
    refine hk (by omega) _ _ ⟨rfl, h1, fun c hc => by rw [g_uL, if_neg hc]; exact h2 c hc, fun j hj => ?_⟩
    rw [g_uL, if_pos rfl, g_updL]
    by_cases c : j = i
    · rw [if_pos c]
    · rw [if_neg c]
      exact h3 j (by omega)
theorem c_fillI {N p : Nat} {M : Mem} (hN : 300 < N) (x : Int32) (hl : ln p ≤ 240) : Ho (f_J7_fill_53178 N p x M) (fun M' => Sm [p] M M' ∧ ∀ k, k < ln p → M'.1 p k = x) := by
  unfold f_J7_fill_53178
  rw [show Int32.ofNat (ln p) = nI (ln p) from rfl]
  refine Ho_lp (fun i a M' => a = (x, nI i, nI (ln p)) ∧ Sm [p] M M' ∧ ∀ k, k < i → M'.1 p k = x) (ln p) (by omega) ⟨rfl, Sm.rf, fun k hk => absurd hk (Nat.not_lt_zero k)⟩ ?_
  rintro i hi k hk _ M1 ⟨rfl, h1, h3⟩
  unfold f_J7_fill_53178_h5
  by_cases g : ln p ≤ i
  · have e : i = ln p := by omega
    simp (disch := omega) only [n_tn, n_tl, n_t0, n_lt, n_le, n_eq, n_ltl, n_lel, n_eql, n_llt, n_lle, n_leq, n_m1l, n_m1r, n_addl, n_ladd, nI_add, n_mul, n_mull, n_lmul, n_sub, n_subl, n_div, n_divl, n_modd, true_and, and_true, bi_s, bv_s, bM_e, bI_e, bL_e, ck_n, ck_l, ck_0, if_pos g, Ho_some]
    exact ⟨h1, e ▸ h3⟩
  · simp (disch := omega) only [n_tn, n_tl, n_t0, n_lt, n_le, n_eq, n_ltl, n_lel, n_eql, n_llt, n_lle, n_leq, n_m1l, n_m1r, n_addl, n_ladd, nI_add, n_mul, n_mull, n_lmul, n_sub, n_subl, n_div, n_divl, n_modd, true_and, and_true, bi_s, bv_s, bM_e, bI_e, bL_e, ck_n, ck_l, ck_0, if_neg g]
    refine hk (by omega) _ _ ⟨rfl, h1.uI (by simp), fun j hj => ?_⟩
    rw [g_uI, if_pos rfl, g_upd]
    by_cases c : j = i
    · rw [if_pos c]
    · rw [if_neg c]
      exact h3 j (by omega)
theorem vn {n m : Nat} (h : n < m ∧ m < 2147483648) : vp_in (nI n) m := vp_in_nI h.1 h.2
theorem z0_neg {x : Int32} (h : x < 0) : ¬ 0 ≤ x := by rw [fa_lt] at h; rw [fa_le]; omega
theorem z_neg {x : Int32} (h : x < 0) (n : Nat) (hn : n < 2147483648) : x ≤ nI n ∧ x < nI n := by
  rw [fa_lt] at h
  rw [fa_le, fa_lt, nI_toInt hn]
  have : (0 : Int32).toInt = 0 := by decide
  omega
/-- a tray: no such one, missing, there -/
def Tr (C S : Mem) (t m : Nat) : Prop := m ≤ 60 ∧ C.1 9 t = nI m ∧ S.1 202 t = nI m ∧ (∃ s, s ≤ 3 ∧ C.1 8 t = nI s ∧ S.1 201 t = nI s) ∧ ∀ k, k < m → C.2 (4 + t) k = S.2 203 (60 * t + k)
section C8
variable {N : Nat} {C S : Mem}
theorem tray_is (hy : RY C S) (x : Int32) : ∃ r, f_X9_codeOfTray x C = some (r, C) ∧ f_X12_trayed x S = some (r, S) ∧ ((r = 0 ∧ ∃ t m, t < 4 ∧ x = nI t ∧ Tr C S t m) ∨ (r = 1 ∧ (x < 0 ∨ ∃ n, n < 2147483648 ∧ 4 ≤ n ∧ x = nI n)) ∨ (r = 3 ∧ ∃ t, t < 4 ∧ x = nI t ∧ C.1 9 t = -1 ∧ S.1 202 t = -1)) := by
  unfold f_X9_codeOfTray f_X9_isTray f_X12_trayed
  rcases i32c x with h | ⟨n, hn, rfl⟩
  · refine ⟨1, ?_, ?_, Or.inr (Or.inl ⟨rfl, Or.inl h⟩)⟩
    · rw [if_pos h, bi_s]; rfl
    · rw [if_pos h]
  · by_cases g : n < 4
    · have g2 : ¬ 4 ≤ n := by omega
      obtain ⟨s, hs, y1, y2, y3⟩ := hy n g
      rcases y3 with ⟨a, b⟩ | ⟨m, hm, a, b, c⟩
      · refine ⟨3, ?_, ?_, Or.inr (Or.inr ⟨rfl, n, g, rfl, a, b⟩)⟩
        · simp (disch := omega) only [n_tn, n_tl, n_t0, n_lt, n_le, n_eq, n_ltl, n_lel, n_eql, n_llt, n_lle, n_leq, n_m1l, n_m1r, n_addl, n_ladd, nI_add, n_mul, n_mull, n_lmul, n_sub, n_subl, n_div, n_divl, n_modd, true_and, and_true, bi_s, bv_s, bM_e, bI_e, bL_e, ck_n, ck_l, ck_0, Nat.not_lt_zero, Nat.zero_le, if_false, if_true, b2i_0, Bool.true_eq_false, if_neg g2, a]
          rfl
        · simp (disch := omega) only [n_tn, n_tl, n_t0, n_lt, n_le, n_eq, n_ltl, n_lel, n_eql, n_llt, n_lle, n_leq, n_m1l, n_m1r, n_addl, n_ladd, nI_add, n_mul, n_mull, n_lmul, n_sub, n_subl, n_div, n_divl, n_modd, true_and, and_true, bi_s, bv_s, bM_e, bI_e, bL_e, ck_n, ck_l, ck_0, Nat.not_lt_zero, Nat.zero_le, if_false, if_true, b2i_0, Bool.true_eq_false, if_pos g, b]
          rfl
      · refine ⟨0, ?_, ?_, Or.inl ⟨rfl, n, m, g, rfl, hm, a, b, ⟨s, hs, y1, y2⟩, c⟩⟩
        · simp (disch := omega) only [n_tn, n_tl, n_t0, n_lt, n_le, n_eq, n_ltl, n_lel, n_eql, n_llt, n_lle, n_leq, n_m1l, n_m1r, n_addl, n_ladd, nI_add, n_mul, n_mull, n_lmul, n_sub, n_subl, n_div, n_divl, n_modd, true_and, and_true, bi_s, bv_s, bM_e, bI_e, bL_e, ck_n, ck_l, ck_0, Nat.not_lt_zero, Nat.zero_le, if_false, if_true, b2i_0, Bool.true_eq_false, if_neg g2, a]
        · simp (disch := omega) only [n_tn, n_tl, n_t0, n_lt, n_le, n_eq, n_ltl, n_lel, n_eql, n_llt, n_lle, n_leq, n_m1l, n_m1r, n_addl, n_ladd, nI_add, n_mul, n_mull, n_lmul, n_sub, n_subl, n_div, n_divl, n_modd, true_and, and_true, bi_s, bv_s, bM_e, bI_e, bL_e, ck_n, ck_l, ck_0, Nat.not_lt_zero, Nat.zero_le, if_false, if_true, b2i_0, Bool.true_eq_false, if_pos g, b]
    · have g2 : 4 ≤ n := by omega
      refine ⟨1, ?_, ?_, Or.inr (Or.inl ⟨rfl, Or.inr ⟨n, hn, g2, rfl⟩⟩)⟩
      · simp (disch := omega) only [n_tn, n_tl, n_t0, n_lt, n_le, n_eq, n_ltl, n_lel, n_eql, n_llt, n_lle, n_leq, n_m1l, n_m1r, n_addl, n_ladd, nI_add, n_mul, n_mull, n_lmul, n_sub, n_subl, n_div, n_divl, n_modd, true_and, and_true, bi_s, bv_s, bM_e, bI_e, bL_e, ck_n, ck_l, ck_0, Nat.not_lt_zero, Nat.zero_le, if_false, if_true, b2i_0, Bool.true_eq_false, if_pos g2]
      · simp (disch := omega) only [n_tn, n_tl, n_t0, n_lt, n_le, n_eq, n_ltl, n_lel, n_eql, n_llt, n_lle, n_leq, n_m1l, n_m1r, n_addl, n_ladd, nI_add, n_mul, n_mull, n_lmul, n_sub, n_subl, n_div, n_divl, n_modd, true_and, and_true, bi_s, bv_s, bM_e, bI_e, bL_e, ck_n, ck_l, ck_0, Nat.not_lt_zero, Nat.zero_le, if_false, if_true, b2i_0, Bool.true_eq_false, if_neg g]
theorem place_is (hy : RY C S) (x y : Int32) : ∃ r, f_X9_codeOfPlace x y C = some (r, C) ∧ f_X12_placed x y S = some (r, S) ∧ ((r = 0 ∧ ∃ t m k, t < 4 ∧ x = nI t ∧ Tr C S t m ∧ k < m ∧ y = nI k) ∨ r = 1 ∨ r = 3 ∨ r = 4) := by
  unfold f_X9_codeOfPlace f_X12_placed
  obtain ⟨r, e1, e2, hr⟩ := tray_is hy x
  simp only [e1, e2, bi_s]
  rcases hr with ⟨rfl, t, m, ht, rfl, tr⟩ | ⟨rfl, -⟩ | ⟨rfl, -⟩
  · rw [if_pos rfl, if_pos (show (0 : Int32) ≤ 0 by decide), ck_n (by omega), ck_n (by omega), t_n (by omega), tr.2.1, tr.2.2.1]
    have hm := tr.1
    rcases i32c y with h | ⟨n, hn, rfl⟩
    · rw [if_pos h, if_pos h]
      exact ⟨4, rfl, rfl, Or.inr (Or.inr (Or.inr rfl))⟩
    · by_cases g : n < m
      · simp (disch := omega) only [n_tn, n_tl, n_t0, n_lt, n_le, n_eq, n_ltl, n_lel, n_eql, n_llt, n_lle, n_leq, n_m1l, n_m1r, n_addl, n_ladd, nI_add, n_mul, n_mull, n_lmul, n_sub, n_subl, n_div, n_divl, n_modd, Nat.not_lt_zero, Nat.zero_le, if_false, if_true, b2i_0, Bool.true_eq_false, if_pos g]
        exact ⟨0, rfl, rfl, Or.inl ⟨rfl, t, m, n, ht, rfl, tr, g, rfl⟩⟩
      · simp (disch := omega) only [n_tn, n_tl, n_t0, n_lt, n_le, n_eq, n_ltl, n_lel, n_eql, n_llt, n_lle, n_leq, n_m1l, n_m1r, n_addl, n_ladd, nI_add, n_mul, n_mull, n_lmul, n_sub, n_subl, n_div, n_divl, n_modd, Nat.not_lt_zero, Nat.zero_le, if_false, if_true, b2i_0, Bool.true_eq_false, if_neg g]
        exact ⟨4, rfl, rfl, Or.inr (Or.inr (Or.inr rfl))⟩
  · rw [if_neg (by decide), if_neg (by decide)]
    exact ⟨1, rfl, rfl, Or.inr (Or.inl rfl)⟩
  · rw [if_neg (by decide), if_neg (by decide)]
    exact ⟨3, rfl, rfl, Or.inr (Or.inr (Or.inl rfl))⟩
theorem e_read (h : Rel C S) (x y : Int32) : Same (f_X11_read x y C) (f_X12_read x y S) := by
  unfold f_X11_read f_X12_read f_X11_refused
  simp only [bM_e]
  have hR1 : Re C (uI S 200 1 0) := h.re.s0 1 n_okM.2 0
  generalize uI S 200 1 0 = S at *
  obtain ⟨r, e1, e2, hr⟩ := place_is hR1.2.2.1 x y
  simp only [e1, e2, bi_s, u_at]
  rcases hr with ⟨rfl, t, m, k, ht, rfl, tr, hk, rfl⟩ | rfl | rfl | rfl
  · have hm := tr.1
    have hR := hR1.s0 0 n_okM.1 0
    have hs := u_at S 200 0 0
    rw [if_pos rfl, if_pos (by decide)]
    simp (disch := omega) only [n_tn, n_tl, n_t0, n_lt, n_le, n_eq, n_ltl, n_lel, n_eql, n_llt, n_lle, n_leq, n_m1l, n_m1r, n_addl, n_ladd, nI_add, n_mul, n_mull, n_lmul, n_sub, n_subl, n_div, n_divl, n_modd, true_and, and_true, bi_s, bv_s, bM_e, bI_e, bL_e, ck_n, ck_l, ck_0]
    rw [show (uI C 0 0 0).2 (4 + t) k = (uI S 200 0 0).2 203 (60 * t + k) from tr.2.2.2.2 k hk]
    exact Same.mk (cl_ok hR hs)
  all_goals
    rw [if_neg (by decide), if_neg (by decide)]
    exact Same.mk (cl_ref hR1 _)
def cutv (s : Nat) (x : Int64) : Int64 := if s = 0 then Int32.toInt64 (i2b (Int64.toInt32 x)) else if s = 1 then Int32.toInt64 (i2s (Int64.toInt32 x)) else if s = 2 then Int32.toInt64 (Int64.toInt32 x) else x
theorem c_cut {s : Nat} (hs : s ≤ 3) (x : Int64) (M : Mem) : f_X9_cut x (nI s) M = some (cutv s x, M) := by
  unfold f_X9_cut cutv
  simp (disch := omega) only [n_tn, n_tl, n_t0, n_lt, n_le, n_eq, n_ltl, n_lel, n_eql, n_llt, n_lle, n_leq, n_m1l, n_m1r, n_addl, n_ladd, nI_add, n_mul, n_mull, n_lmul, n_sub, n_subl, n_div, n_divl, n_modd]
  repeat' split
  all_goals rfl
theorem m_cut {s : Nat} (hs : s ≤ 3) (x : Int64) (M : Mem) : f_X12_cut (nI s) x M = some (cutv s x, M) := by
  unfold f_X12_cut cutv
  simp (disch := omega) only [n_tn, n_tl, n_t0, n_lt, n_le, n_eq, n_ltl, n_lel, n_eql, n_llt, n_lle, n_leq, n_m1l, n_m1r, n_addl, n_ladd, nI_add, n_mul, n_mull, n_lmul, n_sub, n_subl, n_div, n_divl, n_modd]
  repeat' split
  all_goals rfl
/-- one number put into a tray -/
theorem RY.put {C S : Mem} (hy : RY C S) {t k : Nat} (ht : t < 4) (hk : k < 60) (x : Int64) : RY (uL C (4 + t) k x) (uL S 203 (60 * t + k) x) := by
  intro j hj
  obtain ⟨s, hs, y1, y2, y3⟩ := hy j hj
  refine ⟨s, hs, y1, y2, ?_⟩
  rcases y3 with y3 | ⟨m, hm, a, b, c⟩
  · exact Or.inl y3
  · refine Or.inr ⟨m, hm, a, b, fun q hq => ?_⟩
    rw [g_uL, g_uL, if_pos rfl, g_updL]
    by_cases e : j = t
    · subst e
      rw [if_pos rfl, g_updL]
      by_cases f : q = k
      · rw [if_pos f, if_pos (by omega)]
      · rw [if_neg f, if_neg (by omega)]
        exact c q hq
    · rw [if_neg (by omega), if_neg (by omega)]
      exact c q hq
theorem e_write (h : Rel C S) (x y : Int32) (z : Int64) : Same (f_X11_write x y z C) (f_X12_write x y z S) := by
  unfold f_X11_write f_X12_write f_X11_refusedFlag f_X11_granted f_X9_put
  simp only [bM_e]
  have hR1 : Re C (uI S 200 1 0) := h.re.s0 1 n_okM.2 0
  generalize uI S 200 1 0 = S at *
  obtain ⟨r, e1, e2, hr⟩ := place_is hR1.2.2.1 x y
  simp only [e1, e2, bi_s, u_at]
  rcases hr with ⟨rfl, t, m, k, ht, rfl, tr, hk, rfl⟩ | rfl | rfl | rfl
  · obtain ⟨hm, -, -, ⟨s, hs3, s1, s2⟩, -⟩ := tr
    have hR := hR1.s0 0 n_okM.1 0
    have hs := u_at S 200 0 0
    have s2' : (uI S 200 0 0).1 201 t = nI s := by rw [g_uI, if_neg (by decide)]; exact s2
    generalize uI S 200 0 0 = S at *
    rw [if_pos rfl, if_pos (by decide)]
    simp (disch := omega) only [n_tn, n_tl, n_t0, n_lt, n_le, n_eq, n_ltl, n_lel, n_eql, n_llt, n_lle, n_leq, n_m1l, n_m1r, n_addl, n_ladd, nI_add, n_mul, n_mull, n_lmul, n_sub, n_subl, n_div, n_divl, n_modd, true_and, and_true, bi_s, bv_s, bM_e, bI_e, bL_e, ck_n, ck_l, ck_0, s1, s2', c_cut hs3, m_cut hs3]
    refine Same.mk (hR.trays ?_ (fun j hj => ?_) (fun c h1 _ _ => ?_) (fun c hc => ?_) (fun _ _ => rfl) (fun _ _ _ _ => rfl) (fun c hc => ?_) ?_)
    · rw [u_at]; exact hs.symm
    · rw [g_uI, if_pos rfl, g_upd, if_neg hj]; rfl
    · rw [g_uI, if_neg h1]; rfl
    · rw [g_uI2, g_uL, if_neg (by omega)]
    · rw [g_uL, if_neg hc]
    · exact (RY.put hR.2.2.1 ht (by omega) _).same (by rw [g_uI, if_neg (by decide)]) (by rw [g_uI, if_neg (by decide)]) (fun _ _ => rfl) rfl rfl rfl
  all_goals
    rw [if_neg (by decide), if_neg (by decide)]
    exact Same.mk (cl_ref hR1 _)
theorem e_tray (hN : 300 < N) (h : Rel C S) (x y z : Int32) : Same (f_X11_tray N x y z C) (f_X12_tray N x y z S) := by
  have hR := Re.go h
  have hs := S0_st S 0 0
  unfold f_X11_tray f_X12_tray f_X11_refusedFlag f_X11_granted f_X12_no f_X9_isTray f_X9_make
  simp only [bM_e]
  generalize uI (uI S 200 1 0) 200 0 0 = S at *
  rcases i32c x with hx | ⟨t, ht, rfl⟩
  · rw [if_pos hx, if_pos hx, bi_s, if_pos (show b2i false = 0 from rfl)]
    exact Same.mk (cl_ref hR _)
  · by_cases g : 4 ≤ t
    · simp (disch := omega) only [n_tn, n_tl, n_t0, n_lt, n_le, n_eq, n_ltl, n_lel, n_eql, n_llt, n_lle, n_leq, n_m1l, n_m1r, n_addl, n_ladd, nI_add, n_mul, n_mull, n_lmul, n_sub, n_subl, n_div, n_divl, n_modd, true_and, and_true, bi_s, bv_s, bM_e, bI_e, bL_e, ck_n, ck_l, ck_0, Nat.not_lt_zero, Nat.zero_le, if_false, if_true, b2i_0, Bool.true_eq_false, if_pos g]
      exact Same.mk (cl_ref hR _)
    · simp (disch := omega) only [n_tn, n_tl, n_t0, n_lt, n_le, n_eq, n_ltl, n_lel, n_eql, n_llt, n_lle, n_leq, n_m1l, n_m1r, n_addl, n_ladd, nI_add, n_mul, n_mull, n_lmul, n_sub, n_subl, n_div, n_divl, n_modd, true_and, and_true, bi_s, bv_s, bM_e, bI_e, bL_e, ck_n, ck_l, ck_0, Nat.not_lt_zero, Nat.zero_le, if_false, if_true, b2i_0, Bool.true_eq_false, if_neg g]
      rcases i32c y with hy | ⟨s, hs2, rfl⟩
      · rw [if_pos hy, if_pos hy]
        exact Same.mk (cl_ref hR _)
      · by_cases g2 : s ≤ 3
        · simp (disch := omega) only [n_tn, n_tl, n_t0, n_lt, n_le, n_eq, n_ltl, n_lel, n_eql, n_llt, n_lle, n_leq, n_m1l, n_m1r, n_addl, n_ladd, nI_add, n_mul, n_mull, n_lmul, n_sub, n_subl, n_div, n_divl, n_modd, true_and, and_true, bi_s, bv_s, bM_e, bI_e, bL_e, ck_n, ck_l, ck_0, Nat.not_lt_zero, Nat.zero_le, if_false, if_true, b2i_0, Bool.true_eq_false, if_pos g2]
          rcases i32c z with hz | ⟨m, hm, rfl⟩
          · have h1 := (z_neg hz 60 (by omega)).1
            rw [if_pos (show z ≤ 60 from h1), if_neg (z0_neg hz), if_pos (show z ≤ 60 from h1), if_neg (z0_neg hz)]
            exact Same.mk (cl_ref hR _)
          · by_cases g3 : m ≤ 60
            · simp (disch := omega) only [n_tn, n_tl, n_t0, n_lt, n_le, n_eq, n_ltl, n_lel, n_eql, n_llt, n_lle, n_leq, n_m1l, n_m1r, n_addl, n_ladd, nI_add, n_mul, n_mull, n_lmul, n_sub, n_subl, n_div, n_divl, n_modd, true_and, and_true, bi_s, bv_s, bM_e, bI_e, bL_e, ck_n, ck_l, ck_0, Nat.not_lt_zero, Nat.zero_le, if_false, if_true, b2i_0, Bool.true_eq_false, if_pos g3]
              refine Same.two (P := fun q => q.1 = true ∧ (∀ c, c ≠ 0 → c ≠ 8 → c ≠ 9 → q.2.1 c = C.1 c) ∧ q.2.1 0 0 = 0 ∧ (∀ k, k ≠ 0 → q.2.1 0 k = C.1 0 k) ∧ q.2.1 8 = upd (C.1 8) t (nI s) ∧ q.2.1 9 = upd (C.1 9) t (nI m) ∧ (∀ c, c ≠ 4 + t → q.2.2 c = C.2 c) ∧ ∀ k, k < 60 → q.2.2 (4 + t) k = 0) (P' := fun q => q.1 = true ∧ (∀ c, c ≠ 201 → c ≠ 202 → q.2.1 c = S.1 c) ∧ q.2.1 201 = upd (S.1 201) t (nI s) ∧ q.2.1 202 = upd (S.1 202) t (nI m) ∧ (∀ c, c ≠ 203 → q.2.2 c = S.2 c) ∧ (∀ k, k < m → q.2.2 203 (60 * t + k) = 0) ∧ (∀ k, k < 60 * t ∨ 60 * t + 60 ≤ k → q.2.2 203 k = S.2 203 k)) ?_ ?_ ?_
              · rw [Ho_bv, Ho_bv]
                have l60 : ln (4 + t) = 60 := by
                  obtain rfl | rfl | rfl | rfl : t = 0 ∨ t = 1 ∨ t = 2 ∨ t = 3 := by omega
                  all_goals rfl
                refine Ho_mono (c_fillL hN 0 (by omega)) ?_
                rintro C1 ⟨c1, c2, c3⟩
                rw [Ho_some, Ho_some]
                dsimp only
                refine ⟨rfl, fun c h0 h8 h9 => ?_, u_at _ _ _ _, fun k hk => ?_, ?_, ?_, fun c hc => c2 c hc, fun k hk => c3 k (by omega)⟩
                · rw [g_uI, if_neg h0, g_uI, if_neg h9, g_uI, if_neg h8, c1]
                · rw [g_uI, if_pos rfl, g_upd, if_neg hk, g_uI, if_neg (by decide), g_uI, if_neg (by decide), c1]
                · rw [g_uI, if_neg (by decide), g_uI, if_neg (by decide), g_uI, if_pos rfl, c1]
                · rw [g_uI, if_neg (by decide), g_uI, if_pos rfl, g_uI, if_neg (by decide), c1]
              · refine Ho_lp (fun i a S' => a = (nI t, nI m, nI i) ∧ S'.1 = (uI (uI S 201 t (nI s)) 202 t (nI m)).1 ∧ (∀ c, c ≠ 203 → S'.2 c = S.2 c) ∧ (∀ k, k < i → S'.2 203 (60 * t + k) = 0) ∧ (∀ k, k < 60 * t ∨ 60 * t + 60 ≤ k → S'.2 203 k = S.2 203 k)) m (by omega) ⟨rfl, rfl, fun _ _ => rfl, fun k hk => absurd hk (Nat.not_lt_zero k), fun _ _ => rfl⟩ ?_
                rintro i hi k hk _ S1 ⟨rfl, q1, q2, q3, q4⟩
                unfold f_X12_tray_h74
                by_cases gi : m ≤ i
                · have e : i = m := by omega
                  subst e
                  simp (disch := omega) only [n_tn, n_tl, n_t0, n_lt, n_le, n_eq, n_ltl, n_lel, n_eql, n_llt, n_lle, n_leq, n_m1l, n_m1r, n_addl, n_ladd, nI_add, n_mul, n_mull, n_lmul, n_sub, n_subl, n_div, n_divl, n_modd, true_and, and_true, bi_s, bv_s, bM_e, bI_e, bL_e, ck_n, ck_l, ck_0, if_pos gi, Ho_some]
                  refine ⟨fun c h1 h2 => ?_, ?_, ?_, q2, q3, q4⟩
                  · rw [q1, g_uI, if_neg h2, g_uI, if_neg h1]
                  · rw [q1, g_uI, if_neg (by decide), g_uI, if_pos rfl]
                  · rw [q1, g_uI, if_pos rfl, g_uI, if_neg (by decide)]
                · simp (disch := omega) only [n_tn, n_tl, n_t0, n_lt, n_le, n_eq, n_ltl, n_lel, n_eql, n_llt, n_lle, n_leq, n_m1l, n_m1r, n_addl, n_ladd, nI_add, n_mul, n_mull, n_lmul, n_sub, n_subl, n_div, n_divl, n_modd, true_and, and_true, bi_s, bv_s, bM_e, bI_e, bL_e, ck_n, ck_l, ck_0, if_neg gi]
                  refine hk (by omega) _ _ ⟨rfl, q1, fun c hc => by rw [g_uL, if_neg hc]; exact q2 c hc, fun j hj => ?_, fun j hj => ?_⟩
                  · rw [g_uL, if_pos rfl, g_updL]
                    by_cases c : j = i
                    · rw [if_pos (by omega)]
                    · rw [if_neg (by omega)]
                      exact q3 j (by omega)
                  · rw [g_uL, if_pos rfl, g_updL, if_neg (by omega)]
                    exact q4 j hj
              · rintro r C' r' S' ⟨a, c1, c2, c3, c4, c5, c6, c7⟩ ⟨a', s1, s2, s3, s4, s5, s6⟩
                dsimp only at a c1 c2 c3 c4 c5 c6 c7 a' s1 s2 s3 s4 s5 s6
                refine ⟨a.trans a'.symm, hR.trays ?_ c3 c1 (fun c hc => c6 c (by omega)) (fun k _ => by rw [s1 200 (by decide) (by decide)]) (fun c _ h1 h2 => s1 c h1 h2) s4 fun j hj => ?_⟩
                · rw [c2, s1 200 (by decide) (by decide), hs]
                · obtain ⟨s', hs', y1, y2, y3⟩ := hR.2.2.1 j hj
                  rw [c4, c5, s2, s3, g_upd, g_upd, g_upd, g_upd]
                  by_cases e : j = t
                  · subst e
                    rw [if_pos rfl, if_pos rfl, if_pos rfl, if_pos rfl]
                    exact ⟨s, g2, rfl, rfl, Or.inr ⟨m, g3, rfl, rfl, fun k hk => by rw [c7 k (by omega), s5 k hk]⟩⟩
                  · rw [if_neg e, if_neg e, if_neg e, if_neg e]
                    refine ⟨s', hs', y1, y2, ?_⟩
                    rcases y3 with y3 | ⟨m', hm', a1, b1, d1⟩
                    · exact Or.inl y3
                    · exact Or.inr ⟨m', hm', a1, b1, fun k hk => by rw [c6 _ (by omega), s6 _ (by omega)]; exact d1 k hk⟩
            · simp (disch := omega) only [n_tn, n_tl, n_t0, n_lt, n_le, n_eq, n_ltl, n_lel, n_eql, n_llt, n_lle, n_leq, n_m1l, n_m1r, n_addl, n_ladd, nI_add, n_mul, n_mull, n_lmul, n_sub, n_subl, n_div, n_divl, n_modd, true_and, and_true, bi_s, bv_s, bM_e, bI_e, bL_e, ck_n, ck_l, ck_0, if_neg g3]
              exact Same.mk (cl_ref hR _)
        · simp (disch := omega) only [n_tn, n_tl, n_t0, n_lt, n_le, n_eq, n_ltl, n_lel, n_eql, n_llt, n_lle, n_leq, n_m1l, n_m1r, n_addl, n_ladd, nI_add, n_mul, n_mull, n_lmul, n_sub, n_subl, n_div, n_divl, n_modd, true_and, and_true, bi_s, bv_s, bM_e, bI_e, bL_e, ck_n, ck_l, ck_0, Nat.not_lt_zero, Nat.zero_le, if_false, if_true, b2i_0, Bool.true_eq_false, if_neg g2]
          exact Same.mk (cl_ref hR _)
end C8
