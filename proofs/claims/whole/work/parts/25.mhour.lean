/-! the model: small ones -/
theorem m_isIn (x a b : Int32) (M : Mem) : f_X12_isIn x.toInt64 a.toInt64 b.toInt64 M = some (decide (a ≤ x ∧ x ≤ b), M) := by
  unfold f_X12_isIn
  simp only [lg_lt0, lg_gt0, fa_wide_lt]
  by_cases h : x < a
  · have := (fa_of_lt h).2.1
    rw [if_pos h]
    simp [this]
  · have := fa_of_nlt h
    rw [if_neg h]
    by_cases g : b < x
    · have g2 := (fa_of_lt g).2.1
      rw [if_pos g]
      simp [g2]
    · have g2 := fa_of_nlt g
      rw [if_neg g]
      simp [this, g2]
theorem m_in0 {n W : Nat} (h : n < 2147483648 ∧ W < 2147483648) (M : Mem) : f_X12_isIn (nI n).toInt64 0 (nI W - 1).toInt64 M = some (decide (n < W), M) := by
  rw [show (0 : Int64) = (0 : Int32).toInt64 from by decide, m_isIn]
  congr 2
  apply decide_eq_decide.mpr
  rw [n_lle (by omega)]
  by_cases g : 1 ≤ W
  · rw [n_subl g, n_le (by omega)]
    omega
  · rw [show W = 0 by omega, show nI 0 - 1 = -1 from by decide, n_m1le h.1]
    simp
theorem m_inneg {x : Int32} (h : x < 0) {a : Nat} (ha : a < 2147483648) (b : Int32) (M : Mem) : f_X12_isIn x.toInt64 (lN a) b.toInt64 M = some (false, M) := by
  rw [← nI_l ha, m_isIn]
  have : ¬ nI a ≤ x := by
    rw [fa_le, nI_toInt ha]
    rw [fa_lt] at h
    have : (0 : Int32).toInt = 0 := by decide
    omega
  simp [this]
theorem m_inl {n a b : Nat} (h : n < 2147483648 ∧ a < 2147483648 ∧ b < 2147483648) (M : Mem) : f_X12_isIn (nI n).toInt64 (lN a) (lN b) M = some (decide (a ≤ n ∧ n ≤ b), M) := by
  rw [← nI_l h.2.1, ← nI_l h.2.2, m_isIn]
  congr 2
  apply decide_eq_decide.mpr
  rw [n_le (by omega), n_le (by omega)]
theorem m_board {x y W : Nat} {M : Mem} (h0 : M.1 205 0 = nI W) : f_X12_board (nI x) (nI y) M = some (nI (W * y + x), M) := by
  unfold f_X12_board
  simp (disch := omega) only [n_tn, n_tl, n_t0, n_lt, n_le, n_eq, n_ltl, n_lel, n_eql, n_llt, n_lle, n_leq, n_m1l, n_m1r, n_addl, n_ladd, nI_add, n_mul, n_mull, n_lmul, n_sub, n_subl, n_div, n_divl, n_modd, true_and, and_true, bi_s, bv_s, bM_e, bI_e, bL_e, ck_n, ck_l, ck_0, h0]
theorem m_boards {W D : Nat} {M : Mem} (h0 : M.1 205 0 = nI W) (h1 : M.1 205 1 = nI D) : f_X12_boards M = some (nI (W * D), M) := by
  unfold f_X12_boards
  simp (disch := omega) only [n_tn, n_tl, n_t0, n_lt, n_le, n_eq, n_ltl, n_lel, n_eql, n_llt, n_lle, n_leq, n_m1l, n_m1r, n_addl, n_ladd, nI_add, n_mul, n_mull, n_lmul, n_sub, n_subl, n_div, n_divl, n_modd, true_and, and_true, bi_s, bv_s, bM_e, bI_e, bL_e, ck_n, ck_l, ck_0, h0, h1]
theorem m_isB {x y W D : Nat} {M : Mem} (h0 : M.1 205 0 = nI W) (h1 : M.1 205 1 = nI D) (h : x < 2147483648 ∧ y < 2147483648 ∧ W < 2147483648 ∧ D < 2147483648) : f_X12_isBoard (nI x) (nI y) M = some (decide (x < W ∧ y < D), M) := by
  unfold f_X12_isBoard
  simp (disch := omega) only [n_tn, n_tl, n_t0, n_lt, n_le, n_eq, n_ltl, n_lel, n_eql, n_llt, n_lle, n_leq, n_m1l, n_m1r, n_addl, n_ladd, nI_add, n_mul, n_mull, n_lmul, n_sub, n_subl, n_div, n_divl, n_modd, true_and, and_true, bi_s, bv_s, bM_e, bI_e, bL_e, ck_n, ck_l, ck_0, h0, h1, m_in0, b2i_0]
  by_cases a : x < W
  · by_cases b : y < D
    · simp [a, b]
    · simp [a, b]
  · simp [a]
theorem m_isB0 {x y : Int32} {M : Mem} (h : x < 0) : f_X12_isBoard x y M = some (false, M) := by
  unfold f_X12_isBoard
  rw [ck_0 (by omega), show (0 : Int64) = lN 0 from rfl, m_inneg h (by omega), bi_s]
  rfl
theorem m_isB1 {x W : Nat} {y : Int32} {M : Mem} (h0 : M.1 205 0 = nI W) (hx : x < 2147483648 ∧ W < 2147483648) (h : y < 0) : f_X12_isBoard (nI x) y M = some (false, M) := by
  unfold f_X12_isBoard
  rw [ck_0 (by omega), show tn 0 = 0 from rfl, h0, m_in0 hx, bi_s]
  split
  · rfl
  · rw [ck_l (by omega), show (0 : Int64) = lN 0 from rfl, m_inneg h (by omega), bi_s]
    rfl
theorem m_beside {b w W D : Nat} {M : Mem} (h0 : M.1 205 0 = nI W) (h1 : M.1 205 1 = nI D) (hw : 1 ≤ w ∧ w ≤ 4) (hW : 1 ≤ W ∧ W ≤ 6 ∧ D ≤ 5) (hb : b < W * D) : f_X12_beside (nI b) (nI w) M = some (if blc w W D (b % W) (b / W) then nI (bltg w W b) else -1, M) := by
  have b30 := bd30 hW.2.1 hW.2.2
  have hm : b % W < W := Nat.mod_lt b hW.1
  have hd : b / W < D := Nat.div_lt_of_lt_mul hb
  have e1 : f_X12_eastOf (nI w) M = some (sta 0 w, M) := by
    unfold f_X12_eastOf
    obtain rfl | rfl | rfl | rfl : w = 1 ∨ w = 2 ∨ w = 3 ∨ w = 4 := by omega
    all_goals rfl
  have e2 : f_X12_southOf (nI w) M = some (sta 1 w, M) := by
    unfold f_X12_southOf
    obtain rfl | rfl | rfl | rfl : w = 1 ∨ w = 2 ∨ w = 3 ∨ w = 4 := by omega
    all_goals rfl
  have nz : ¬ nI W = 0 := by rw [n_eql (by omega)]; omega
  have e3 : f_X12_isBoard (nI (b % W) + sta 0 w) (nI (b / W) + sta 1 w) M = some (decide (blc w W D (b % W) (b / W)), M) := by
    obtain h | h | h | h : w = 1 ∨ w = 2 ∨ w = 3 ∨ w = 4 := by omega
    · subst h
      show f_X12_isBoard (nI (b % W) + 1) (nI (b / W) + 0) M = _
      rw [nI_1, show nI (b / W) + 0 = nI (b / W) from Int32.add_zero _, m_isB h0 h1 (by omega)]
      congr 2
      apply decide_eq_decide.mpr
      omega
    · subst h
      show f_X12_isBoard (nI (b % W) + 0) (nI (b / W) + 1) M = _
      rw [nI_1, show nI (b % W) + 0 = nI (b % W) from Int32.add_zero _, m_isB h0 h1 (by omega)]
      congr 2
      apply decide_eq_decide.mpr
      omega
    · subst h
      show f_X12_isBoard (nI (b % W) + (-1)) (nI (b / W) + 0) M = _
      rw [show nI (b / W) + 0 = nI (b / W) from Int32.add_zero _]
      by_cases g : 0 < b % W
      · rw [n_addm1 g, m_isB h0 h1 (by omega)]
        congr 2
        apply decide_eq_decide.mpr
        omega
      · rw [show b % W = 0 from Nat.eq_zero_of_not_pos g, m_isB0 (show nI 0 + (-1) < 0 by decide)]
        congr 2
    · subst h
      show f_X12_isBoard (nI (b % W) + 0) (nI (b / W) + (-1)) M = _
      rw [show nI (b % W) + 0 = nI (b % W) from Int32.add_zero _]
      by_cases g : 0 < b / W
      · rw [n_addm1 g, m_isB h0 h1 (by omega)]
        congr 2
        apply decide_eq_decide.mpr
        omega
      · rw [show b / W = 0 from Nat.eq_zero_of_not_pos g, m_isB1 h0 (by omega) (show nI 0 + (-1) < 0 by decide)]
        congr 2
  unfold f_X12_beside
  simp (disch := omega) only [h0, true_and, and_true, bi_s, bv_s, bM_e, bI_e, bL_e, ck_n, ck_l, ck_0, n_t0, cz_e nz, e1, e2, n_modd, n_mul, n_div, e3, b2i_0]
  by_cases g : blc w W D (b % W) (b / W)
  · rw [if_neg (by simp [g]), if_pos g]
    unfold f_X12_board
    simp (disch := omega) only [h0, true_and, and_true, bi_s, bv_s, bM_e, bI_e, bL_e, ck_n, ck_l, ck_0, n_t0]
    congr 2
    have hdm := Nat.div_add_mod b W
    obtain h | h | h | h : w = 1 ∨ w = 2 ∨ w = 3 ∨ w = 4 := by omega
    · subst h
      show nI W * (nI (b / W) + 0) + (nI (b % W) + 1) = nI (b + 1)
      rw [Int32.add_zero, n_mul, nI_1, nI_add, ← Nat.add_assoc, hdm]
    · subst h
      show nI W * (nI (b / W) + 1) + (nI (b % W) + 0) = nI (b + W)
      rw [Int32.add_zero, nI_1, n_mul, nI_add, Nat.mul_succ]
      congr 1
      omega
    · subst h
      show nI W * (nI (b / W) + 0) + (nI (b % W) + (-1)) = nI (b - 1)
      rw [Int32.add_zero, n_mul, n_addm1 (by omega), nI_add, show W * (b / W) + (b % W - 1) = b - 1 by omega]
    · subst h
      show nI W * (nI (b / W) + (-1)) + (nI (b % W) + 0) = nI (b - W)
      rw [Int32.add_zero, n_addm1 (by omega), n_mul, nI_add, Nat.mul_sub, Nat.mul_one]
      have : W ≤ W * (b / W) := Nat.le_mul_of_pos_right W (by omega)
      rw [show W * (b / W) - W + b % W = b - W by omega]
  · rw [if_pos (by simp [g]), if_neg g]
/-! the model's hour -/
def fgV (v F : Nat → Nat) : Nat → Nat := fun i => if 103 ≤ i ∧ i < 163 then F (i - 103) else v i
theorem fg_lo {v F : Nat → Nat} {i : Nat} (h : i < 103) : fgV v F i = v i := if_neg (by omega)
theorem fg_hi {v F : Nat → Nat} {i : Nat} (h : 163 ≤ i) : fgV v F i = v i := if_neg (by omega)
theorem fg_at {v F : Nat → Nat} {k : Nat} (h : k < 60) : fgV v F (103 + k) = F k := by
  unfold fgV
  rw [if_pos (by omega), Nat.add_sub_cancel_left]
theorem fg_pt {v F : Nat → Nat} {k y : Nat} (h : k < 60) (i : Nat) : pt (fgV v F) (103 + k) y i = fgV v (pt F k y) i := by
  unfold pt fgV
  by_cases a : i = 103 + k
  · rw [if_pos a, if_pos (by omega)]
    exact (if_pos (by omega)).symm
  · rw [if_neg a]
    by_cases b : 103 ≤ i ∧ i < 163
    · rw [if_pos b, if_pos b]
      exact (if_neg (by omega)).symm
    · rw [if_neg b, if_neg b]
theorem fg_fg (v F G : Nat → Nat) (i : Nat) : fgV (fgV v F) G i = fgV v G i := by
  unfold fgV
  split
  · rfl
  · rfl
theorem fg_id (v : Nat → Nat) (i : Nat) : fgV v (fun k => v (103 + k)) i = v i := by
  unfold fgV
  split
  · show v (103 + (i - 103)) = v i
    rw [show 103 + (i - 103) = i by omega]
  · rfl
/-- what the model's hours leave as it is -/
def SmH (S S' : Mem) : Prop := Sm [205, 209] S S' ∧ ∀ k, 435 ≤ k → S'.1 205 k = S.1 205 k
theorem SmH.rf {S : Mem} : SmH S S := ⟨Sm.rf, fun _ _ => rfl⟩
theorem SmH.tr {S S1 S2 : Mem} (h : SmH S S1) (h2 : SmH S1 S2) : SmH S S2 := ⟨h.1.tr h2.1, fun k hk => (h2.2 k hk).trans (h.2 k hk)⟩
theorem SmH.c {S S1 : Mem} (h : SmH S S1) {j : Nat} {x : Int32} (hj : j < 435) : SmH S (uI S1 205 j x) := ⟨h.1.uI (by simp), fun k hk => by
  rw [g_uI, if_pos rfl, g_upd, if_neg (by omega)]
  exact h.2 k hk⟩
theorem SmH.w {S S1 : Mem} (h : SmH S S1) {j : Nat} {x : Int32} : SmH S (uI S1 209 j x) := ⟨h.1.uI (by simp), fun k hk => by
  rw [g_uI, if_neg (by decide)]
  exact h.2 k hk⟩
theorem Ar.fg {S : Mem} {v F : Nat → Nat} (h : Ar S 205 435 (fgV v F)) {k y : Nat} (hk : k < 60) : Ar (uI S 205 (103 + k) (nI y)) 205 435 (fgV v (pt F k y)) := (h.put _ _).cong fun i _ => fg_pt hk i
theorem Ar.oth {M : Mem} {c n c' j : Nat} {x : Int32} {G : Nat → Nat} (h : Ar M c n G) (hc : c ≠ c') : Ar (uI M c' j x) c n G := h.same (by rw [g_uI, if_neg hc])
section MH
variable {N : Nat} {S : Mem} {v F : Nat → Nat}
theorem mh_let (hN : 100 < N) (hv : VW v) (hA : Ar S 205 435 (fgV v F)) (hF9 : ∀ k, k < 60 → F k ≤ 999) (hg : v 10 < 2147483648) :
    Ho (f_X12_lets N S) (fun S' => SmH S S' ∧ Ar S' 205 435 (fgV v (letF v (v 10) F (v 2)))) := by
  unfold f_X12_lets
  refine Ho_lp (fun i a S' => a = nI i ∧ SmH S S' ∧ Ar S' 205 435 (fgV v (letF v (v 10) F i))) (v 2) (by have := hv.2.2.1; omega) ⟨rfl, SmH.rf, hA⟩ ?_
  rintro i hi k hk _ S1 ⟨rfl, hS1, hA1⟩
  have v2 := hv.2.2.1
  have lo : ∀ j, j < 103 → S1.1 205 j = nI (v j) := fun j hj => by rw [hA1 j (by omega), fg_lo hj]
  have c0 := lo 0 (by omega)
  have c2 := lo 2 (by omega)
  have c10 := lo 10 (by omega)
  unfold f_X12_lets_h2 f_X12_lets_b93 f_X12_has
  by_cases h : v 2 ≤ i
  · have e : i = v 2 := by omega
    subst e
    simp (disch := omega) only [c2, n_tn, n_tl, n_t0, n_lt, n_le, n_eq, n_ltl, n_lel, n_eql, n_llt, n_lle, n_leq, n_m1l, n_m1r, n_addl, n_ladd, nI_add, n_mul, n_mull, n_lmul, n_sub, n_subl, n_div, n_divl, n_modd, true_and, and_true, bi_s, bv_s, bM_e, bI_e, bL_e, ck_n, ck_l, ck_0, Nat.le_refl, if_true, Ho_some]
    exact ⟨hS1, hA1⟩
  · have g0 := lo (11 + i) (by omega)
    have g1 := lo (17 + i) (by omega)
    have g2 := lo (23 + i) (by omega)
    have g3 := lo (29 + i) (by omega)
    have hgp := gpl_lt hv (show i < v 2 by omega)
    have q1 := letF_le (v := v) (gates := v 10) hF9 i
    have qr := (hv.2.2.2.2.2 i (by omega)).2.2.1
    have q2 := q1 (gpl v i) hgp
    have ep : 103 + 30 * v (29 + i) + (v 0 * v (17 + i) + v (11 + i)) = 103 + gpl v i := by
      unfold gpl
      rw [Nat.mul_comm 30, Nat.mul_comm (v 0)]
      omega
    have hAp : S1.1 205 (103 + gpl v i) = nI (letF v (v 10) F i (gpl v i)) := by rw [hA1 _ (by omega), fg_at hgp]
    by_cases hb : (v 10).testBit i = true
    · simp (disch := omega) only [c2, c10, g0, g1, g2, g3, m_board c0, n_tn, n_tl, n_t0, n_lt, n_le, n_eq, n_ltl, n_lel, n_eql, n_llt, n_lle, n_leq, n_m1l, n_m1r, n_addl, n_ladd, nI_add, n_mul, n_mull, n_lmul, n_sub, n_subl, n_div, n_divl, n_modd, true_and, and_true, bi_s, bv_s, bM_e, bI_e, bL_e, ck_n, ck_l, ck_0, n_bit, if_pos hb, if_neg h, n_lmin, ep, hAp, b2i_t]
      rw [if_neg (by decide)]
      refine hk (by omega) _ _ ⟨rfl, hS1.c (by omega), ?_⟩
      rw [show letF v (v 10) F (i + 1) = _ from by rw [letF, if_pos hb]]
      exact hA1.fg hgp
    · simp (disch := omega) only [c2, c10, g0, g1, g3, m_board c0, n_tn, n_tl, n_t0, n_lt, n_le, n_eq, n_ltl, n_lel, n_eql, n_llt, n_lle, n_leq, n_m1l, n_m1r, n_addl, n_ladd, nI_add, n_mul, n_mull, n_lmul, n_sub, n_subl, n_div, n_divl, n_modd, true_and, and_true, bi_s, bv_s, bM_e, bI_e, bL_e, ck_n, ck_l, ck_0, n_bit, if_neg hb, if_neg h, ep, b2i_f, if_true]
      refine hk (by omega) _ _ ⟨rfl, hS1, ?_⟩
      rw [show letF v (v 10) F (i + 1) = _ from by rw [letF, if_neg hb]]
      exact hA1
def amt (v : Nat → Nat) (b s w : Nat) : Nat := if v 6 = 0 then (if blc w (v 0) (v 1) (b % v 0) (b / v 0) then s else 0) else if w = v 6 then s else 0
def mdN (v : Nat → Nat) (f b s : Nat) (F : Nat → Nat) : Nat → Nat → Nat
  | 0 => F
  | w + 1 => fun k => if k = f + b then mdN v f b s F w k - amt v b s (w + 1) else if blc (w + 1) (v 0) (v 1) (b % v 0) (b / v 0) ∧ k = f + bltg (w + 1) (v 0) b then mdN v f b s F w k + amt v b s (w + 1) else mdN v f b s F w k
theorem amt_le {b s w : Nat} : amt v b s w ≤ s := by
  unfold amt
  repeat' split
  all_goals omega
theorem mdN_ge {f b s : Nat} : ∀ w, F (f + b) ≤ mdN v f b s F w (f + b) + w * s
  | 0 => by unfold mdN; omega
  | w + 1 => by
    have ih := mdN_ge (f := f) (b := b) (s := s) w
    have := amt_le (v := v) (b := b) (s := s) (w := w + 1)
    rw [mdN]
    dsimp only
    rw [if_pos rfl, Nat.succ_mul]
    omega
theorem mdN_4 {f b s : Nat} (hv : VW v) (hb : b < v 0 * v 1) (k : Nat) : mdN v f b s F 4 k = stp v f b s F k := by
  have W1 : 1 ≤ v 0 := by
    rcases Nat.eq_zero_or_pos (v 0) with h | h
    · rw [h, Nat.zero_mul] at hb; omega
    · exact h
  have hm : b % v 0 < v 0 := Nat.mod_lt b W1
  have hdm := Nat.div_add_mod b (v 0)
  have hr : 0 < b / v 0 → v 0 ≤ v 0 * (b / v 0) := fun h => Nat.le_mul_of_pos_right (v 0) h
  have v6 := hv.2.2.2.1
  generalize hR : v 0 * (b / v 0) = R at *
  simp only [mdN, stp]
  by_cases g : k = f + b
  · simp only [if_pos g]
    unfold outp amt deg
    by_cases h6 : v 6 = 0
    · simp only [if_pos h6, blc]
      generalize b / v 0 = r at *
      generalize b % v 0 = c at *
      by_cases a1 : 0 < c <;> by_cases a2 : c + 1 < v 0 <;> by_cases a3 : 0 < r <;> by_cases a4 : r + 1 < v 1 <;> simp [a1, a2, a3, a4] <;> omega
    · simp only [if_neg h6]
      obtain h | h | h | h : v 6 = 1 ∨ v 6 = 2 ∨ v 6 = 3 ∨ v 6 = 4 := by omega
      all_goals rw [h]; simp
  · simp only [if_neg g]
    unfold amt tgt
    by_cases h6 : v 6 = 0
    · simp only [if_pos h6, blc, adj, bltg, decide_eq_true_eq]
      generalize b / v 0 = r at *
      generalize b % v 0 = c at *
      by_cases a1 : 0 < c <;> by_cases a2 : c + 1 < v 0 <;> by_cases a3 : 0 < r <;> by_cases a4 : r + 1 < v 1 <;> simp [a1, a2, a3, a4] at hr ⊢ <;> (repeat' split) <;> omega
    · simp only [if_neg h6, blc, nbw, bltg, decide_eq_true_eq]
      generalize b / v 0 = r at *
      generalize b % v 0 = c at *
      obtain h | h | h | h : v 6 = 1 ∨ v 6 = 2 ∨ v 6 = 3 ∨ v 6 = 4 := by omega
      all_goals (rw [h]; simp; repeat' split)
      all_goals omega
def cap (f n : Nat) (F : Nat → Nat) : Nat → Nat := fun k => if f ≤ k ∧ k < f + n then min 999 (F k) else F k
theorem mh_121 {f b w n : Nat} {G : Nat → Nat} {S1 : Mem} {k40 : Int32 × Int32 → Mem → Option Mem} {k51 : Int32 × Int32 × Int32 → Mem → Option Mem} {Q : Mem → Prop} (hf : f + b < 60) (hw : 1 ≤ w ∧ w ≤ 4) (ht : blc w (v 0) (v 1) (b % v 0) (b / v 0) → f + bltg w (v 0) b < 60 ∧ bltg w (v 0) b ≠ b) (hA : Ar S1 205 435 (fgV v G)) (hn : n ≤ G (f + b))
    (hk : ∀ S2, SmH S1 S2 → S2.1 209 = S1.1 209 → Ar S2 205 435 (fgV v (fun k => if k = f + b then G k - n else if blc w (v 0) (v 1) (b % v 0) (b / v 0) ∧ k = f + bltg w (v 0) b then G k + n else G k)) → Ho (k51 (nI (103 + f), nI b, nI (w + 1)) S2) Q) :
    Ho (f_X12_drifts_b121 N k40 k51 (nI (103 + f)) (nI b) (nI w) (if blc w (v 0) (v 1) (b % v 0) (b / v 0) then nI (bltg w (v 0) b) else -1) (nI n) S1) Q := by
  unfold f_X12_drifts_b121 f_X12_drifts_b155
  have a1 : S1.1 205 (103 + f + b) = nI (G (f + b)) := by rw [Nat.add_assoc, hA _ (by omega), fg_at hf]
  simp (disch := omega) only [n_tn, n_tl, n_t0, n_lt, n_le, n_eq, n_ltl, n_lel, n_eql, n_llt, n_lle, n_leq, n_m1l, n_m1r, n_addl, n_ladd, nI_add, n_mul, n_mull, n_lmul, n_sub, n_subl, n_div, n_divl, n_modd, true_and, and_true, bi_s, bv_s, bM_e, bI_e, bL_e, ck_n, ck_l, ck_0, a1]
  have hA2 : Ar (uI S1 205 (103 + f + b) (nI (G (f + b) - n))) 205 435 (fgV v (pt G (f + b) (G (f + b) - n))) := by rw [Nat.add_assoc]; exact hA.fg hf
  by_cases g : blc w (v 0) (v 1) (b % v 0) (b / v 0)
  · obtain ⟨t1, t2⟩ := ht g
    have a2 : (uI S1 205 (103 + f + b) (nI (G (f + b) - n))).1 205 (103 + f + bltg w (v 0) b) = nI (G (f + bltg w (v 0) b)) := by
      rw [Nat.add_assoc 103 f (bltg w (v 0) b), hA2 _ (by omega), fg_at t1]
      unfold pt
      rw [if_neg (by omega)]
    rw [if_pos g, if_neg (nI_pos (by omega))]
    simp (disch := omega) only [n_tn, n_tl, n_t0, n_lt, n_le, n_eq, n_ltl, n_lel, n_eql, n_llt, n_lle, n_leq, n_m1l, n_m1r, n_addl, n_ladd, nI_add, n_mul, n_mull, n_lmul, n_sub, n_subl, n_div, n_divl, n_modd, true_and, and_true, bi_s, bv_s, bM_e, bI_e, bL_e, ck_n, ck_l, ck_0, a2]
    refine hk _ ((SmH.rf.c (by omega)).c (by omega)) (by rw [g_uI, if_neg (by decide), g_uI, if_neg (by decide)]) ?_
    have hA3 : Ar (uI (uI S1 205 (103 + f + b) (nI (G (f + b) - n))) 205 (103 + f + bltg w (v 0) b) (nI (G (f + bltg w (v 0) b) + n))) 205 435 (fgV v (pt (pt G (f + b) (G (f + b) - n)) (f + bltg w (v 0) b) (G (f + bltg w (v 0) b) + n))) := by
      rw [Nat.add_assoc 103 f (bltg w (v 0) b)]
      exact hA2.fg t1
    refine hA3.cong fun i _ => ?_
    congr 1
    funext k
    unfold pt
    by_cases c1 : k = f + bltg w (v 0) b
    · rw [if_pos c1, if_neg (by omega), if_pos ⟨g, c1⟩, c1]
    · rw [if_neg c1]
      by_cases c2 : k = f + b
      · rw [if_pos c2, if_pos c2, c2]
      · rw [if_neg c2, if_neg c2, if_neg (fun z => c1 z.2)]
  · rw [if_neg g, if_pos (by decide)]
    refine hk _ (SmH.rf.c (by omega)) (by rw [g_uI, if_neg (by decide)]) ?_
    refine hA2.cong fun i _ => ?_
    congr 1
    funext k
    unfold pt
    by_cases c2 : k = f + b
    · rw [if_pos c2, if_pos c2, c2]
    · rw [if_neg c2, if_neg c2, if_neg (fun z => g z.1)]
theorem mh_drift {f kd : Nat} (hN : 200 < N) (hv : VW v) (hkd : kd ≤ 1) (hf : f = 30 * kd) (hA : Ar S 205 435 (fgV v F)) (hF9 : ∀ k, k < 60 → F k ≤ 999) :
    Ho (f_X12_drifts N (nI kd) S) (fun S' => SmH S S' ∧ Ar S' 205 435 (fgV v (cap f (v 0 * v 1) (drf v f F F (v 0 * v 1))))) := by
  have b30 := bd30 hv.1 hv.2.1
  have v0 := hv.1
  have v1 := hv.2.1
  have v6 := hv.2.2.2.1
  have lo : ∀ {S1 : Mem} {G : Nat → Nat}, Ar S1 205 435 (fgV v G) → ∀ j, j < 103 → S1.1 205 j = nI (v j) := fun h j hj => by rw [h j (by omega), fg_lo hj]
  have hdl := drf_le (v := v) (f := f) (B := 999) hF9 hF9
  unfold f_X12_drifts
  simp (disch := omega) only [n_tn, n_tl, n_t0, n_lt, n_le, n_eq, n_ltl, n_lel, n_eql, n_llt, n_lle, n_leq, n_m1l, n_m1r, n_addl, n_ladd, nI_add, n_mul, n_mull, n_lmul, n_sub, n_subl, n_div, n_divl, n_modd, ← hf]
  refine Ho_lp (fun i a S' => a = (nI (103 + f), nI i) ∧ SmH S S' ∧ Ar S' 205 435 (fgV v F) ∧ ∀ k, k < i → S'.1 209 k = nI (F (f + k))) (v 0 * v 1) (by omega) ⟨rfl, SmH.rf, hA, fun k hk => absurd hk (Nat.not_lt_zero k)⟩ ?_
  rintro i hi k10 hk10 _ S1 ⟨rfl, hS1, hA1, hW1⟩
  unfold f_X12_drifts_h10
  simp (disch := omega) only [m_boards (lo hA1 0 (by omega)) (lo hA1 1 (by omega)), n_tn, n_tl, n_t0, n_lt, n_le, n_eq, n_ltl, n_lel, n_eql, n_llt, n_lle, n_leq, n_m1l, n_m1r, n_addl, n_ladd, nI_add, n_mul, n_mull, n_lmul, n_sub, n_subl, n_div, n_divl, n_modd, true_and, and_true, bi_s, bv_s, bM_e, bI_e, bL_e, ck_n, ck_l, ck_0]
  by_cases hie : v 0 * v 1 ≤ i
  · rw [if_pos hie]
    have e : i = v 0 * v 1 := by omega
    rw [e] at hW1
    refine Ho_lp (fun i a S' => a = (nI (103 + f), nI i) ∧ SmH S S' ∧ Ar S' 205 435 (fgV v (drf v f F F i)) ∧ S'.1 209 = S1.1 209) (v 0 * v 1) (by omega) ⟨rfl, hS1, hA1, rfl⟩ ?_
    rintro b hb k40 hk40 _ S2 ⟨rfl, hS2, hA2, hw2⟩
    unfold f_X12_drifts_h40
    simp (disch := omega) only [m_boards (lo hA2 0 (by omega)) (lo hA2 1 (by omega)), n_tn, n_tl, n_t0, n_lt, n_le, n_eq, n_ltl, n_lel, n_eql, n_llt, n_lle, n_leq, n_m1l, n_m1r, n_addl, n_ladd, nI_add, n_mul, n_mull, n_lmul, n_sub, n_subl, n_div, n_divl, n_modd, true_and, and_true, bi_s, bv_s, bM_e, bI_e, bL_e, ck_n, ck_l, ck_0]
    by_cases hbe : v 0 * v 1 ≤ b
    · rw [if_pos hbe]
      have e : b = v 0 * v 1 := by omega
      rw [e] at hA2
      refine Ho_lp (fun i a S' => a = (nI (103 + f), nI i) ∧ SmH S S' ∧ Ar S' 205 435 (fgV v (cap f i (drf v f F F (v 0 * v 1))))) (v 0 * v 1) (by omega) ⟨rfl, hS2, hA2.cong fun j _ => by congr 1; funext k; unfold cap; rw [if_neg (by omega)]⟩ ?_
      rintro i hi k hk _ S3 ⟨rfl, hS3, hA3⟩
      unfold f_X12_drifts_h169
      simp (disch := omega) only [m_boards (lo hA3 0 (by omega)) (lo hA3 1 (by omega)), n_tn, n_tl, n_t0, n_lt, n_le, n_eq, n_ltl, n_lel, n_eql, n_llt, n_lle, n_leq, n_m1l, n_m1r, n_addl, n_ladd, nI_add, n_mul, n_mull, n_lmul, n_sub, n_subl, n_div, n_divl, n_modd, true_and, and_true, bi_s, bv_s, bM_e, bI_e, bL_e, ck_n, ck_l, ck_0]
      by_cases hje : v 0 * v 1 ≤ i
      · rw [if_pos hje, Ho_some]
        have e : i = v 0 * v 1 := by omega
        exact ⟨hS3, e ▸ hA3⟩
      · rw [if_neg hje]
        have a3 : S3.1 205 (103 + f + i) = nI (drf v f F F (v 0 * v 1) (f + i)) := by
          rw [Nat.add_assoc, hA3 _ (by omega), fg_at (by omega)]
          unfold cap
          rw [if_neg (by omega)]
        have l3 := hdl (v 0 * v 1) (by omega) (f + i) (by omega)
        simp (disch := omega) only [n_tn, n_tl, n_t0, n_lt, n_le, n_eq, n_ltl, n_lel, n_eql, n_llt, n_lle, n_leq, n_m1l, n_m1r, n_addl, n_ladd, nI_add, n_mul, n_mull, n_lmul, n_sub, n_subl, n_div, n_divl, n_modd, true_and, and_true, bi_s, bv_s, bM_e, bI_e, bL_e, ck_n, ck_l, ck_0, a3, n_lmin]
        refine hk (by omega) _ _ ⟨rfl, hS3.c (by omega), ?_⟩
        have := hA3.fg (k := f + i) (y := min 999 (drf v f F F (v 0 * v 1) (f + i))) (by omega)
        rw [← Nat.add_assoc] at this
        refine this.cong fun j _ => ?_
        congr 1
        funext k
        unfold pt cap
        by_cases c1 : k = f + i
        · rw [if_pos c1, if_pos (by omega), c1]
        · rw [if_neg c1]
          by_cases c2 : f ≤ k ∧ k < f + i
          · rw [if_pos c2, if_pos (by omega)]
          · rw [if_neg c2, if_neg (by omega)]
    · rw [if_neg hbe]
      have W1 : 1 ≤ v 0 := by
        rcases Nat.eq_zero_or_pos (v 0) with h | h
        · rw [h, Nat.zero_mul] at hbe; omega
        · exact h
      have hm : b % v 0 < v 0 := Nat.mod_lt b W1
      have hd : b / v 0 < v 1 := Nat.div_lt_of_lt_mul (by omega)
      have hdm : b / v 0 * v 0 + b % v 0 = b := by rw [Nat.mul_comm]; exact Nat.div_add_mod b (v 0)
      have fb9 := hF9 (f + b) (by omega)
      have fg := drf_ge (v := v) (f := f) (Was := F) (F := F) b b (Nat.le_refl _)
      have hsh : 4 * shr v (F (f + b)) ≤ F (f + b) := by
        unfold shr
        split <;> omega
      have htg : ∀ w, 1 ≤ w ∧ w ≤ 4 → blc w (v 0) (v 1) (b % v 0) (b / v 0) → f + bltg w (v 0) b < 60 ∧ bltg w (v 0) b ≠ b := by
        intro w hw hbl
        have h1 := bl_lt hw hm hd hbl
        rw [hdm] at h1
        refine ⟨by omega, ?_⟩
        have hr0 : 0 < b / v 0 → v 0 ≤ b / v 0 * v 0 := fun h => Nat.le_mul_of_pos_left (v 0) h
        unfold bltg
        repeat' split
        · omega
        · omega
        · have : 0 < b % v 0 := by omega
          omega
        · have := hr0 (by omega)
          omega
      refine Ho_lp (fun j a S' => a = (nI (103 + f), nI b, nI (j + 1)) ∧ SmH S S' ∧ Ar S' 205 435 (fgV v (mdN v f b (shr v (F (f + b))) (drf v f F F b) j)) ∧ S'.1 209 = S1.1 209) 4 (by omega) ⟨rfl, hS2, hA2, hw2⟩ ?_
      rintro j hj k51 hk51 _ S3 ⟨rfl, hS3, hA3, hw3⟩
      unfold f_X12_drifts_h51
      by_cases hj4 : 4 < j + 1
      · simp (disch := omega) only [n_tn, n_tl, n_t0, n_lt, n_le, n_eq, n_ltl, n_lel, n_eql, n_llt, n_lle, n_leq, n_m1l, n_m1r, n_addl, n_ladd, nI_add, n_mul, n_mull, n_lmul, n_sub, n_subl, n_div, n_divl, n_modd, true_and, and_true, bi_s, bv_s, bM_e, bI_e, bL_e, ck_n, ck_l, ck_0, if_pos hj4]
        refine hk40 (by omega) _ _ ⟨rfl, hS3, ?_, hw3⟩
        have e : j = 4 := by omega
        rw [e] at hA3
        refine hA3.cong fun i _ => ?_
        congr 1
        funext k
        rw [mdN_4 hv (by omega), drf]
      · have c6 := lo hA3 6 (by omega)
        have w9 : S3.1 209 b = nI (F (f + b)) := by rw [hw3]; exact hW1 b (by omega)
        have hge := mdN_ge (v := v) (F := drf v f F F b) (f := f) (b := b) (s := shr v (F (f + b))) j
        have hjs : j * shr v (F (f + b)) ≤ 3 * shr v (F (f + b)) := Nat.mul_le_mul_right _ (by omega)
        have ham := amt_le (v := v) (b := b) (s := shr v (F (f + b))) (w := j + 1)
        have go : ∀ n, n = amt v b (shr v (F (f + b))) (j + 1) → Ho (f_X12_drifts_b121 N k40 k51 (nI (103 + f)) (nI b) (nI (j + 1)) (if blc (j + 1) (v 0) (v 1) (b % v 0) (b / v 0) then nI (bltg (j + 1) (v 0) b) else -1) (nI n) S3) (fun S' => SmH S S' ∧ Ar S' 205 435 (fgV v (cap f (v 0 * v 1) (drf v f F F (v 0 * v 1))))) := by
          intro n hn
          subst hn
          refine mh_121 (by omega) (by omega) (htg (j + 1) (by omega)) hA3 (by omega) ?_
          intro S4 hS4 hw4 hA4
          exact hk51 (by omega) _ _ ⟨rfl, hS3.tr hS4, hA4, hw4.trans hw3⟩
        simp (disch := omega) only [n_tn, n_tl, n_t0, n_lt, n_le, n_eq, n_ltl, n_lel, n_eql, n_llt, n_lle, n_leq, n_m1l, n_m1r, n_addl, n_ladd, nI_add, n_mul, n_mull, n_lmul, n_sub, n_subl, n_div, n_divl, n_modd, true_and, and_true, bi_s, bv_s, bM_e, bI_e, bL_e, ck_n, ck_l, ck_0, if_neg hj4, m_beside (lo hA3 0 (by omega)) (lo hA3 1 (by omega)) (show 1 ≤ j + 1 ∧ j + 1 ≤ 4 by omega) (show 1 ≤ v 0 ∧ v 0 ≤ 6 ∧ v 1 ≤ 5 by omega) (show b < v 0 * v 1 by omega), c6, w9]
        by_cases h6 : v 6 = 0
        · rw [if_pos h6]
          by_cases hbl : blc (j + 1) (v 0) (v 1) (b % v 0) (b / v 0)
          · have ht := (htg (j + 1) (by omega) hbl).1
            have := go (F (f + b) / 8) (by unfold amt shr; rw [if_pos h6, if_pos hbl, if_pos h6])
            rw [if_pos (show 0 ≤ (if blc (j + 1) (v 0) (v 1) (b % v 0) (b / v 0) then nI (bltg (j + 1) (v 0) b) else -1) by rw [if_pos hbl]; exact nI_pos' (by omega))]
            exact this
          · have := go 0 (by unfold amt; rw [if_pos h6, if_neg hbl])
            rw [if_neg (show ¬ 0 ≤ (if blc (j + 1) (v 0) (v 1) (b % v 0) (b / v 0) then nI (bltg (j + 1) (v 0) b) else -1) by rw [if_neg hbl]; decide)]
            exact this
        · rw [if_neg h6]
          by_cases hwj : j + 1 = v 6
          · rw [if_pos hwj]
            exact go (F (f + b) / 4) (by unfold amt shr; rw [if_neg h6, if_pos hwj, if_neg h6])
          · rw [if_neg hwj]
            exact go 0 (by unfold amt; rw [if_neg h6, if_neg hwj])
  · have a1 : S1.1 205 (103 + f + i) = nI (F (f + i)) := by rw [Nat.add_assoc, hA1 _ (by omega), fg_at (by omega)]
    simp (disch := omega) only [n_tn, n_tl, n_t0, n_lt, n_le, n_eq, n_ltl, n_lel, n_eql, n_llt, n_lle, n_leq, n_m1l, n_m1r, n_addl, n_ladd, nI_add, n_mul, n_mull, n_lmul, n_sub, n_subl, n_div, n_divl, n_modd, true_and, and_true, bi_s, bv_s, bM_e, bI_e, bL_e, ck_n, ck_l, ck_0, if_neg hie, a1]
    refine hk10 (by omega) _ _ ⟨rfl, hS1.w, hA1.oth (by decide), fun k hk => ?_⟩
    rw [g_uI, if_pos rfl, g_upd]
    by_cases c : k = i
    · rw [if_pos c, c]
    · rw [if_neg c]
      exact hW1 k (by omega)
end MH
