/-! hour after hour -/
abbrev fogv (v : Nat → Nat) : Nat → Nat := fun k => v (103 + k)
def hrN (v : Nat → Nat) (g : Nat) (F : Nat → Nat) : Nat → Nat → Nat
  | 0 => F
  | n + 1 => hrF v g (hrN v g F n)
def hvN (v : Nat → Nat) : Nat → Nat → Nat
  | 0 => v
  | n + 1 => hrV (hvN v n)
theorem hrN_le {v F : Nat → Nat} {g : Nat} (hv : VW v) (hF : ∀ k, k < 60 → F k ≤ 999) : ∀ n k, k < 60 → hrN v g F n k ≤ 999
  | 0 => hF
  | n + 1 => hrF_le hv (hrN_le hv hF n)
theorem letF_cong {v v' F G : Nat → Nat} {g : Nat} (hv : VW v) (h : ∀ i, i < 103 → i ≠ 9 → v' i = v i) (hF : ∀ k, k < 60 → F k = G k) : ∀ n, n ≤ v 2 → ∀ k, k < 60 → letF v' g F n k = letF v g G n k
  | 0, _, k, hk => hF k hk
  | n + 1, hn, k, hk => by
    have v2 := hv.2.2.1
    have ih := letF_cong hv h hF (g := g) n (by omega)
    have hg : gpl v' n = gpl v n := by
      unfold gpl
      rw [h (29 + n) (by omega) (by omega), h (17 + n) (by omega) (by omega), h (11 + n) (by omega) (by omega), h 0 (by omega) (by omega)]
    have hl := gpl_lt hv (show n < v 2 by omega)
    unfold letF
    split
    · rw [hg, h (23 + n) (by omega) (by omega), ih _ hl]
      unfold pt
      split
      · rfl
      · exact ih k hk
    · exact ih k hk
theorem drf_cong {v v' Was Was' F G : Nat → Nat} {f : Nat} (hv : VW v) (h : ∀ i, i < 103 → i ≠ 9 → v' i = v i) (hw : ∀ k, k < 60 → Was k = Was' k) (hF : ∀ k, k < 60 → F k = G k) : ∀ n, f + n ≤ 60 → ∀ k, k < 60 → drf v' f Was F n k = drf v f Was' G n k
  | 0, _, k, hk => hF k hk
  | n + 1, hn, k, hk => by
    have ih := drf_cong (f := f) hv h hw hF n (by omega) k hk
    rw [drf, drf]
    unfold stp outp tgt shr
    rw [ih, hw (f + n) (by omega), h 6 (by omega) (by omega), h 0 (by omega) (by omega), h 1 (by omega) (by omega)]
theorem stl_cong {v v' F G : Nat → Nat} {n : Nat} (h : v' 7 = v 7) (hn : n ≤ 30) (hF : ∀ k, k < 60 → F k = G k) (k : Nat) (hk : k < 60) : stl v' F n k = stl v G n k := by
  unfold stl
  rw [h]
  by_cases a : k < n
  · rw [if_pos a, if_pos a, hF k hk, hF (30 + k) (by omega)]
  · rw [if_neg a, if_neg a]
    by_cases b : 30 ≤ k ∧ k < 30 + n
    · rw [if_pos b, if_pos b, hF k hk, hF (k - 30) (by omega)]
    · rw [if_neg b, if_neg b, hF k hk]
theorem hrF_cong {v v' F G : Nat → Nat} {g : Nat} (hv : VW v) (h : ∀ i, i < 103 → i ≠ 9 → v' i = v i) (hF : ∀ k, k < 60 → F k = G k) (k : Nat) (hk : k < 60) : hrF v' g F k = hrF v g G k := by
  have b30 := bd30 hv.1 hv.2.1
  unfold hrF
  rw [h 0 (by omega) (by omega), h 1 (by omega) (by omega), h 2 (by omega) (by omega)]
  have l := letF_cong (g := g) hv h hF (v 2) (Nat.le_refl _)
  exact stl_cong (h 7 (by omega) (by omega)) b30 (drf_cong hv h l (drf_cong hv h l l (v 0 * v 1) (by omega)) (v 0 * v 1) (by omega)) k hk
theorem hrN_cong {v v' F G : Nat → Nat} {g : Nat} (hv : VW v) (h : ∀ i, i < 103 → i ≠ 9 → v' i = v i) (hF : ∀ k, k < 60 → F k = G k) : ∀ n k, k < 60 → hrN v' g F n k = hrN v g G n k
  | 0, k, hk => hF k hk
  | n + 1, k, hk => hrF_cong hv h (hrN_cong hv h hF n) k hk
theorem VW.cong {v v' : Nat → Nat} (hv : VW v) (h : ∀ i, i < 103 → i ≠ 9 → v' i = v i) : VW v' := by
  obtain ⟨a, b, c, d, e, f⟩ := hv
  refine ⟨by rw [h 0 (by omega) (by omega)]; exact a, by rw [h 1 (by omega) (by omega)]; exact b, by rw [h 2 (by omega) (by omega)]; exact c, by rw [h 6 (by omega) (by omega)]; exact d, by rw [h 7 (by omega) (by omega)]; exact e, fun g hg => ?_⟩
  rw [h 2 (by omega) (by omega)] at hg
  rw [h (11 + g) (by omega) (by omega), h (17 + g) (by omega) (by omega), h (23 + g) (by omega) (by omega), h (29 + g) (by omega) (by omega), h 0 (by omega) (by omega), h 1 (by omega) (by omega)]
  exact f g hg
theorem hv_ok {v : Nat → Nat} (hv : VW v) (hF : ∀ k, k < 60 → v (103 + k) ≤ 999) : ∀ t, (∀ i, (i < 103 ∧ i ≠ 9) ∨ 163 ≤ i → hvN v t i = v i) ∧ hvN v t 9 = v 9 + t ∧ ∀ k, k < 60 → hvN v t (103 + k) = hrN v (v 10) (fogv v) t k
  | 0 => ⟨fun _ _ => rfl, rfl, fun _ _ => rfl⟩
  | t + 1 => by
    obtain ⟨a, b, c⟩ := hv_ok hv hF t
    have ha : ∀ i, i < 103 → i ≠ 9 → hvN v t i = v i := fun i h1 h2 => a i (Or.inl ⟨h1, h2⟩)
    refine ⟨fun i hi => ?_, ?_, fun k hk => ?_⟩
    · rw [hvN]
      unfold hrV
      rw [if_neg (by omega)]
      unfold fgV
      rw [if_neg (by omega)]
      exact a i hi
    · rw [hvN]
      unfold hrV
      rw [if_pos rfl, b]
      rfl
    · rw [hvN]
      unfold hrV
      rw [if_neg (by omega), fg_at hk, a 10 (by omega), hrN]
      exact hrF_cong hv ha c k hk
theorem hv_vw {v : Nat → Nat} (hv : VW v) (hF : ∀ k, k < 60 → v (103 + k) ≤ 999) (t : Nat) : VW (hvN v t) ∧ (∀ k, k < 60 → hvN v t (103 + k) ≤ 999) ∧ hvN v t 10 = v 10 := by
  obtain ⟨a, b, c⟩ := hv_ok hv hF t
  exact ⟨hv.cong fun i h1 h2 => a i (Or.inl ⟨h1, h2⟩), fun k hk => by rw [c k hk]; exact hrN_le hv hF t k hk, a 10 (by omega)⟩
def cnF (w : Nat) (F : Nat → Nat) (n : Nat) : Nat := fa_cnt (fun b => decide (w ≤ F b + F (30 + b))) n
theorem cnF_le (w : Nat) (F : Nat → Nat) (n : Nat) : cnF w F n ≤ n := fa_cnt_le _ n
theorem cnF_cong {w : Nat} {F G : Nat → Nat} {n : Nat} (hn : n ≤ 30) (h : ∀ k, k < 60 → F k = G k) : cnF w F n = cnF w G n := fa_cnt_cong fun k hk => by rw [h k (by omega), h (30 + k) (by omega)]
theorem Ho_e {β : Type} {o : Option β} {r : β} (h : Ho o (fun q => q = r)) : o = some r := by
  obtain ⟨q, e, rfl⟩ := h
  exact e
section HC
variable {N p q : Nat} {M : Mem} {v F : Nat → Nat}
theorem c_count (hN : 100 < N) (hv : v 0 ≤ 6 ∧ v 1 ≤ 5 ∧ v 8 ≤ 99) (hl : ln q = 60) (h0 : M.1 p 0 = nI (v 0)) (h1 : M.1 p 1 = nI (v 1)) (h4 : M.1 p 4 = nI (v 8)) (hF : Ar M q 60 F) (hF9 : ∀ k, k < 60 → F k ≤ 999) : f_X5_countFoggy N p q M = some (nI (cnF (v 8) F (v 0 * v 1)), M) := by
  have b30 := bd30 hv.1 hv.2.1
  apply Ho_e
  unfold f_X5_countFoggy f_X5_boardCount
  simp (disch := omega) only [n_tn, n_tl, n_t0, n_lt, n_le, n_eq, n_ltl, n_lel, n_eql, n_llt, n_lle, n_leq, n_m1l, n_m1r, n_addl, n_ladd, nI_add, n_mul, n_mull, n_lmul, n_sub, n_subl, n_div, n_divl, n_modd, true_and, and_true, bi_s, bv_s, bM_e, bI_e, bL_e, ck_n, ck_l, ck_0, h0, h1]
  refine Ho_lp (fun i a M' => a = (nI (v 0 * v 1), nI (cnF (v 8) F i), nI i) ∧ M' = M) (v 0 * v 1) (by omega) ⟨rfl, rfl⟩ ?_
  rintro i hi k hk _ _ ⟨rfl, rfl⟩
  unfold f_X5_countFoggy_h10 f_X5_countFoggy_b38
  by_cases g : v 0 * v 1 ≤ i
  · have e : i = v 0 * v 1 := by omega
    simp (disch := omega) only [n_tn, n_tl, n_t0, n_lt, n_le, n_eq, n_ltl, n_lel, n_eql, n_llt, n_lle, n_leq, n_m1l, n_m1r, n_addl, n_ladd, nI_add, n_mul, n_mull, n_lmul, n_sub, n_subl, n_div, n_divl, n_modd, true_and, and_true, bi_s, bv_s, bM_e, bI_e, bL_e, ck_n, ck_l, ck_0, if_pos g, Ho_some]
    rw [e]
  · have a1 := hF i (by omega)
    have a2 := hF (30 + i) (by omega)
    have l1 := hF9 i (by omega)
    have l2 := hF9 (30 + i) (by omega)
    simp (disch := omega) only [n_tn, n_tl, n_t0, n_lt, n_le, n_eq, n_ltl, n_lel, n_eql, n_llt, n_lle, n_leq, n_m1l, n_m1r, n_addl, n_ladd, nI_add, n_mul, n_mull, n_lmul, n_sub, n_subl, n_div, n_divl, n_modd, true_and, and_true, bi_s, bv_s, bM_e, bI_e, bL_e, ck_n, ck_l, ck_0, if_neg g, hl, a1, a2, h4]
    by_cases c : F i + F (30 + i) < v 8
    · rw [if_pos c]
      refine hk (by omega) _ _ ⟨?_, rfl⟩
      rw [show cnF (v 8) F (i + 1) = cnF (v 8) F i from fa_cnt_no (decide_eq_false (by omega))]
    · rw [if_neg c]
      refine hk (by omega) _ _ ⟨?_, rfl⟩
      rw [show cnF (v 8) F (i + 1) = cnF (v 8) F i + 1 from fa_cnt_yes (decide_eq_true (by omega))]
theorem m_count {S : Mem} (hN : 100 < N) (hv : v 0 ≤ 6 ∧ v 1 ≤ 5 ∧ v 8 ≤ 99) (hA : Ar S 205 435 v) (hF9 : ∀ k, k < 60 → v (103 + k) ≤ 999) : f_X12_foggyMany N S = some (nI (cnF (v 8) (fogv v) (v 0 * v 1)), S) := by
  have b30 := bd30 hv.1 hv.2.1
  apply Ho_e
  unfold f_X12_foggyMany
  refine Ho_lp (fun i a M' => a = (nI (cnF (v 8) (fogv v) i), nI i) ∧ M' = S) (v 0 * v 1) (by omega) ⟨rfl, rfl⟩ ?_
  rintro i hi k hk _ _ ⟨rfl, rfl⟩
  unfold f_X12_foggyMany_h4 f_X12_foggyMany_b26
  simp (disch := omega) only [n_tn, n_tl, n_t0, n_lt, n_le, n_eq, n_ltl, n_lel, n_eql, n_llt, n_lle, n_leq, n_m1l, n_m1r, n_addl, n_ladd, nI_add, n_mul, n_mull, n_lmul, n_sub, n_subl, n_div, n_divl, n_modd, true_and, and_true, bi_s, bv_s, bM_e, bI_e, bL_e, ck_n, ck_l, ck_0, m_boards (hA 0 (by omega)) (hA 1 (by omega))]
  by_cases g : v 0 * v 1 ≤ i
  · have e : i = v 0 * v 1 := by omega
    rw [if_pos g, Ho_some, e]
  · rw [if_neg g, m_foggy hA (by omega) hF9 (by omega), bi_s]
    have e3 : 103 + (30 + i) = 133 + i := by omega
    by_cases c : v 8 ≤ v (103 + i) + v (133 + i)
    · rw [if_neg (by rw [b2i_0]; simp [c])]
      refine hk (by omega) _ _ ⟨?_, rfl⟩
      rw [show cnF (v 8) (fogv v) (i + 1) = cnF (v 8) (fogv v) i + 1 from fa_cnt_yes (decide_eq_true (by dsimp only [fogv]; rw [e3]; omega))]
    · rw [if_pos (by rw [b2i_0]; simp [c])]
      refine hk (by omega) _ _ ⟨?_, rfl⟩
      rw [show cnF (v 8) (fogv v) (i + 1) = cnF (v 8) (fogv v) i from fa_cnt_no (decide_eq_false (by dsimp only [fogv]; rw [e3]; omega))]
      rw [Nat.add_zero]
theorem cpy60 {M : Mem} {a b : Nat} (hF : Ar M a 60 F) : Ar (rI M b (va_cpy (M.1 a) (M.1 b) (tn 0) (tn 0) (tn 60))) b 60 F := fun k hk => by
  rw [g_rI, if_pos rfl, g_cpy, if_pos ⟨Nat.zero_le _, by rw [show tn 60 = 60 from rfl]; omega⟩]
  rw [show tn 0 + (k - tn 0) = k by rw [show tn 0 = 0 from rfl]; omega]
  exact hF k hk
theorem c_look {n : Nat} (hN : 200 < N) (hv : VV v) (hn : n ≤ 48) (hC : PC M 10 v) : Ho (f_X0_look N 10 (nI n) M) (fun M' => Sm [94, 91] M M' ∧ Ar M' 94 60 (hrN v (v 10) (fogv v) n)) := by
  have hf9 := hv.2.2.2.2.2.2.2.2.2.2.1
  have h10 := hv.2.2.2.2.2.1
  have p64 := pow_le64 hv.1.2.2.1
  unfold f_X0_look
  rw [bM_e]
  refine Ho_lp (fun i a M' => a = (nI n, nI i) ∧ Sm [94, 91] M M' ∧ Ar M' 94 60 (hrN v (v 10) (fogv v) i)) n (by omega) ⟨rfl, Sm.rf.rI (by simp), cpy60 hC.2.2.2.2.2.2.2.2.2.2.2.1⟩ ?_
  rintro i hi k hk _ M1 ⟨rfl, hS1, hA1⟩
  unfold f_X0_look_h17
  by_cases g : n ≤ i
  · have e : i = n := by omega
    subst e
    simp (disch := omega) only [n_tn, n_tl, n_t0, n_lt, n_le, n_eq, n_ltl, n_lel, n_eql, n_llt, n_lle, n_leq, n_m1l, n_m1r, n_addl, n_ladd, nI_add, n_mul, n_mull, n_lmul, n_sub, n_subl, n_div, n_divl, n_modd, true_and, and_true, bi_s, bv_s, bM_e, bI_e, bL_e, ck_n, ck_l, ck_0, Nat.le_refl, if_true, Ho_some]
    exact ⟨hS1, hA1⟩
  · simp (disch := omega) only [n_tn, n_tl, n_t0, n_lt, n_le, n_eq, n_ltl, n_lel, n_eql, n_llt, n_lle, n_leq, n_m1l, n_m1r, n_addl, n_ladd, nI_add, n_mul, n_mull, n_lmul, n_sub, n_subl, n_div, n_divl, n_modd, true_and, and_true, bi_s, bv_s, bM_e, bI_e, bL_e, ck_n, ck_l, ck_0, if_neg g, hS1.at (by simp) hC.2.2.2.1, Ho_bv]
    refine Ho_mono (cw_hour (by omega) hv.1 rfl (by omega) (by omega) (hC.1.same (hS1.2 _ (by simp)) (hS1.2 _ (by simp))) hA1 (hrN_le hv.1 hf9 i) (by omega)) ?_
    rintro M2 ⟨hS2, hA2⟩
    exact hk (by omega) _ _ ⟨rfl, hS1.tr hS2, hA2⟩
theorem m_keeps (hN : 200 < N) {S : Mem} : Ho (f_X12_keeps N S) (fun S' => Sm [206] S S' ∧ ∀ k, k < 163 → S'.1 206 k = S.1 205 k) := by
  unfold f_X12_keeps
  refine Ho_lp (fun i a S' => a = nI i ∧ Sm [206] S S' ∧ ∀ k, k < i → S'.1 206 k = S.1 205 k) 163 (by omega) ⟨rfl, Sm.rf, fun k hk => absurd hk (Nat.not_lt_zero k)⟩ ?_
  rintro i hi k hk _ S1 ⟨rfl, hS1, h1⟩
  unfold f_X12_keeps_h2
  by_cases g : 163 ≤ i
  · have e : i = 163 := by omega
    simp (disch := omega) only [n_tn, n_tl, n_t0, n_lt, n_le, n_eq, n_ltl, n_lel, n_eql, n_llt, n_lle, n_leq, n_m1l, n_m1r, n_addl, n_ladd, nI_add, n_mul, n_mull, n_lmul, n_sub, n_subl, n_div, n_divl, n_modd, true_and, and_true, bi_s, bv_s, bM_e, bI_e, bL_e, ck_n, ck_l, ck_0, if_pos g, Ho_some]
    exact ⟨hS1, e ▸ h1⟩
  · simp (disch := omega) only [n_tn, n_tl, n_t0, n_lt, n_le, n_eq, n_ltl, n_lel, n_eql, n_llt, n_lle, n_leq, n_m1l, n_m1r, n_addl, n_ladd, nI_add, n_mul, n_mull, n_lmul, n_sub, n_subl, n_div, n_divl, n_modd, true_and, and_true, bi_s, bv_s, bM_e, bI_e, bL_e, ck_n, ck_l, ck_0, if_neg g]
    refine hk (by omega) _ _ ⟨rfl, hS1.uI (by simp), fun j hj => ?_⟩
    rw [g_uI, if_pos rfl, g_upd]
    by_cases c : j = i
    · rw [if_pos c, hS1.2 205 (by simp), c]
    · rw [if_neg c]
      exact h1 j (by omega)
theorem m_gives (hN : 200 < N) {S : Mem} : Ho (f_X12_gives N S) (fun S' => Sm [205] S S' ∧ (∀ k, k < 163 → S'.1 205 k = S.1 206 k) ∧ ∀ k, 163 ≤ k → S'.1 205 k = S.1 205 k) := by
  unfold f_X12_gives
  refine Ho_lp (fun i a S' => a = nI i ∧ Sm [205] S S' ∧ (∀ k, k < i → S'.1 205 k = S.1 206 k) ∧ ∀ k, i ≤ k → S'.1 205 k = S.1 205 k) 163 (by omega) ⟨rfl, Sm.rf, fun k hk => absurd hk (Nat.not_lt_zero k), fun _ _ => rfl⟩ ?_
  rintro i hi k hk _ S1 ⟨rfl, hS1, h1, h2⟩
  unfold f_X12_gives_h2
  by_cases g : 163 ≤ i
  · have e : i = 163 := by omega
    simp (disch := omega) only [n_tn, n_tl, n_t0, n_lt, n_le, n_eq, n_ltl, n_lel, n_eql, n_llt, n_lle, n_leq, n_m1l, n_m1r, n_addl, n_ladd, nI_add, n_mul, n_mull, n_lmul, n_sub, n_subl, n_div, n_divl, n_modd, true_and, and_true, bi_s, bv_s, bM_e, bI_e, bL_e, ck_n, ck_l, ck_0, if_pos g, Ho_some]
    exact ⟨hS1, e ▸ h1, e ▸ h2⟩
  · simp (disch := omega) only [n_tn, n_tl, n_t0, n_lt, n_le, n_eq, n_ltl, n_lel, n_eql, n_llt, n_lle, n_leq, n_m1l, n_m1r, n_addl, n_ladd, nI_add, n_mul, n_mull, n_lmul, n_sub, n_subl, n_div, n_divl, n_modd, true_and, and_true, bi_s, bv_s, bM_e, bI_e, bL_e, ck_n, ck_l, ck_0, if_neg g]
    refine hk (by omega) _ _ ⟨rfl, hS1.uI (by simp), fun j hj => ?_, fun j hj => ?_⟩
    · rw [g_uI, if_pos rfl, g_upd]
      by_cases c : j = i
      · rw [if_pos c, hS1.2 206 (by simp), c]
      · rw [if_neg c]
        exact h1 j (by omega)
    · rw [g_uI, if_pos rfl, g_upd, if_neg (by omega)]
      exact h2 j (by omega)
/-- keeps, hours, gives: the model is as it was -/
theorem m_back {S S1 S2 S3 : Mem} {v v2 : Nat → Nat} (hA : Ar S 205 435 v) (a1 : Sm [206] S S1) (a2 : ∀ k, k < 163 → S1.1 206 k = S.1 205 k) (b1 : SmH S1 S2) (b2 : Ar S2 205 435 v2) (b3 : ∀ i, 163 ≤ i → v2 i = v i) (c1 : Sm [205] S2 S3) (c2 : ∀ k, k < 163 → S3.1 205 k = S2.1 206 k) (c3 : ∀ k, 163 ≤ k → S3.1 205 k = S2.1 205 k) : Sm [206, 209] S S3 := by
  refine ⟨c1.1.trans (b1.1.1.trans a1.1), fun c hc => ?_⟩
  simp at hc
  by_cases e : c = 205
  · subst e
    funext k
    by_cases h : k < 163
    · rw [c2 k h, b1.1.2 206 (by simp), a2 k h]
    · rw [c3 k (by omega)]
      by_cases g : k < 435
      · rw [b2 k g, b3 k (by omega), hA k g]
      · rw [b1.2 k (by omega), a1.2 205 (by simp)]
  · rw [c1.2 c (by simp [e]), b1.1.2 c (by simp [e, hc]), a1.2 c (by simp [hc])]
end HC
/-- a forecast answered -/
theorem cl_for {C S C1 S1 : Mem} {L L' : List Nat} (hR : Re C S) (hs : S.1 200 0 = 0) (hC : Sm L C C1) (hl : ∀ c, c ∈ L → 83 ≤ c ∧ c < 107) (hS : Sm L' S S1) (hl' : ∀ c, c ∈ L' → scrS c) : Rel (uI C1 0 0 0) S1 :=
  hR.st ((KC.sm hC fun c hc => by have := hl c hc; unfold scrC; omega).st 0) (KS.sm hS hl') (by rw [g_uI, if_pos rfl, g_upd, if_pos rfl, hS.2 200 (fun z => by have := hl' _ z; unfold scrS at this; omega), hs]) (fun c h1 h2 => by rw [g_uI, if_neg (by omega)]; exact hC.2 c (fun z => by have := hl c z; omega)) (fun k hk => by rw [hS.2 205 (fun z => by have := hl' _ z; unfold scrS at this; omega)])
theorem cl_forR {C S C1 S1 : Mem} {L L' : List Nat} (hR : Re C S) (hC : Sm L C C1) (hl : ∀ c, c ∈ L → 83 ≤ c ∧ c < 107) (hS : Sm L' S S1) (hl' : ∀ c, c ∈ L' → scrS c) (x : Int32) : Rel (uI C1 0 0 x) (uI S1 200 0 x) :=
  hR.st ((KC.sm hC fun c hc => by have := hl c hc; unfold scrC; omega).st x) ((KS.sm hS hl').st n_okM.1 x) (by rw [g_uI, if_pos rfl, g_upd, if_pos rfl, g_uI, if_pos rfl, g_upd, if_pos rfl]) (fun c h1 h2 => by rw [g_uI, if_neg (by omega)]; exact hC.2 c (fun z => by have := hl c z; omega)) (fun k hk => by rw [g_uI, if_neg (by decide), hS.2 205 (fun z => by have := hl' _ z; unfold scrS at this; omega)])
