section D3
variable {N : Nat} {C S M : Mem} {v : Nat → Nat}
theorem c_pay {a : Nat} (hN : 200 < N) (hv : VV v) (hC : PC M 10 v) (ha : a < 2147483648) : f_X5_payOf N 10 (nI a) M = some (nI (pyS v (fun k => a.testBit k) (v 4)), M) := by
  have v4 := hv.2.2.1
  apply Ho_e
  unfold f_X5_payOf
  refine Ho_lp (fun i x M' => x = (nI a, nI (pyS v (fun k => a.testBit k) i), nI i) ∧ M' = M) (v 4) (by omega) ⟨rfl, rfl⟩ ?_
  rintro i hi k hk _ _ ⟨rfl, rfl⟩
  unfold f_X5_payOf_h4 f_X5_payOf_b35
  have c9 := hC.2.2.2.2.2.1
  by_cases q : v 4 ≤ i
  · have e : i = v 4 := by omega
    subst e
    simp (disch := omega) only [n_tn, n_tl, n_t0, n_lt, n_le, n_eq, n_ltl, n_lel, n_eql, n_llt, n_lle, n_leq, n_m1l, n_m1r, n_addl, n_ladd, nI_add, n_mul, n_mull, n_lmul, n_sub, n_subl, n_div, n_divl, n_modd, true_and, and_true, bi_s, bv_s, bM_e, bI_e, bL_e, ck_n, ck_l, ck_0, c9, Nat.le_refl, if_true, Ho_some]
  · have c3 := (hC.2.2.2.2.2.2.2.2.2.1 i (by omega)).2.2.2.2.1
    simp (disch := omega) only [n_tn, n_tl, n_t0, n_lt, n_le, n_eq, n_ltl, n_lel, n_eql, n_llt, n_lle, n_leq, n_m1l, n_m1r, n_addl, n_ladd, nI_add, n_mul, n_mull, n_lmul, n_sub, n_subl, n_div, n_divl, n_modd, true_and, and_true, bi_s, bv_s, bM_e, bI_e, bL_e, ck_n, ck_l, ck_0, c9, if_neg q, n_bit, c3]
    by_cases t : a.testBit i = true
    · rw [if_pos t]
      refine hk (by omega) _ _ ⟨?_, rfl⟩
      rw [show pyS v (fun k => a.testBit k) (i + 1) = pyS v (fun k => a.testBit k) i + (if a.testBit i then v (71 + i) else 0) from rfl, if_pos t]
    · rw [if_neg t]
      refine hk (by omega) _ _ ⟨?_, rfl⟩
      rw [show pyS v (fun k => a.testBit k) (i + 1) = pyS v (fun k => a.testBit k) i + (if a.testBit i then v (71 + i) else 0) from rfl, if_neg t]
      rfl
theorem pyS_tf (p : Nat → Bool) : pyS v (fun k => (tfS p (v 4)).testBit k) (v 4) = pyS v p (v 4) := pyS_cong fun k hk => by rw [tf_bit]; simp [hk]
theorem tf_small (hv : VV v) (p : Nat → Bool) : tfS p (v 4) < 64 := Nat.lt_of_lt_of_le (tf_lt p (v 4)) (pow_le64 hv.2.2.1)
/-- the forecast's fields: fog F, trades P unspoilt -/
def FS (M : Mem) (v F : Nat → Nat) (P : Nat → Bool) : Prop := Ar M 94 60 F ∧ M.1 93 3 = nI (tfS P (v 4)) ∧ M.1 93 4 = nI (pyS v P (v 4)) ∧ M.1 93 5 = nI (lsH v (v 4))
theorem PC.sm {L : List Nat} {M M' : Mem} (h : PC M 10 v) (hs : Sm L M M') (hl : ∀ c, c ∈ L → 83 ≤ c ∧ c < 107) : PC M' 10 v := h.same fun j hj => hs.2 _ fun z => by have := hl _ z; omega
theorem scrF : ∀ c, c ∈ [93, 94, 91, 95] → 83 ≤ c ∧ c < 107 := by intro c hc; simp at hc; omega
theorem c_begin (hN : 200 < N) (hv : VV v) (hC : PC M 10 v) : Ho (f_X0_begin N 10 M) (fun M' => Sm [93, 94, 91, 95] M M' ∧ FS M' v (fogv v) (fun _ => true) ∧ ∀ k, 6 ≤ k → M'.1 93 k = M.1 93 k) := by
  have v4 := hv.2.2.1
  unfold f_X0_begin
  simp only [bM_e]
  have hS1 : Sm [93, 94, 91, 95] M (rI M 94 (va_cpy (M.1 (10 + 6)) (M.1 94) (tn 0) (tn 0) (tn 60))) := Sm.rf.rI (by simp)
  have hA1 : Ar (rI M 94 (va_cpy (M.1 (10 + 6)) (M.1 94) (tn 0) (tn 0) (tn 60))) 94 60 (fogv v) := cpy60 hC.2.2.2.2.2.2.2.2.2.2.2.1
  have h93 : (rI M 94 (va_cpy (M.1 (10 + 6)) (M.1 94) (tn 0) (tn 0) (tn 60))).1 93 = M.1 93 := r_ne (by decide)
  generalize rI M 94 (va_cpy (M.1 (10 + 6)) (M.1 94) (tn 0) (tn 0) (tn 60)) = M1 at *
  have hC1 := hC.sm hS1 scrF
  rw [hC1.2.2.2.2.2.1, n_shl1 (by omega), n_subl (pow_ge1 _), ← tf_all]
  have hC2 : PC (uI M1 93 3 (nI (tfS (fun _ => true) (v 4)))) 10 v := hC1.sm (L := [93]) (Sm.rf.uI (by simp)) (by simp)
  rw [u_at, c_pay hN hv hC2 (by have := tf_small hv (fun _ => true); omega), bi_s, pyS_tf]
  refine Ho_lp (fun i a M' => a = nI i ∧ Sm [93, 94, 91, 95] M M' ∧ Ar M' 94 60 (fogv v) ∧ M'.1 93 3 = nI (tfS (fun _ => true) (v 4)) ∧ M'.1 93 4 = nI (pyS v (fun _ => true) (v 4)) ∧ M'.1 93 5 = nI (lsH v i) ∧ ∀ k, 6 ≤ k → M'.1 93 k = M.1 93 k) (v 4) (by omega) ⟨rfl, ((hS1.uI (by simp)).uI (by simp)).uI (by simp), ((hA1.oth (by decide)).oth (by decide)).oth (by decide), ?_, ?_, u_at _ _ _ _, fun k hk => ?_⟩ ?_
  · rw [us_same, g_upd, if_neg (by decide), us_same, g_upd, if_neg (by decide), u_at]
  · rw [us_same, g_upd, if_neg (by decide), u_at]
  · rw [us_same, g_upd, if_neg (by omega), us_same, g_upd, if_neg (by omega), us_same, g_upd, if_neg (by omega), h93]
  rintro i hi k hk _ M2 ⟨rfl, s2, q1, q2, q3, q4, q5⟩
  have hC3 := hC.sm s2 scrF
  unfold f_X0_begin_h46
  by_cases g : v 4 ≤ i
  · have e : i = v 4 := by omega
    subst e
    simp (disch := omega) only [n_tn, n_tl, n_t0, n_lt, n_le, n_eq, n_ltl, n_lel, n_eql, n_llt, n_lle, n_leq, n_m1l, n_m1r, n_addl, n_ladd, nI_add, n_mul, n_mull, n_lmul, n_sub, n_subl, n_div, n_divl, n_modd, true_and, and_true, bi_s, bv_s, bM_e, bI_e, bL_e, ck_n, ck_l, ck_0, hC3.2.2.2.2.2.1, if_pos g, Ho_some]
    exact ⟨s2, ⟨q1, q2, q3, q4⟩, q5⟩
  · have c3 := (hC3.2.2.2.2.2.2.2.2.2.1 i (by omega)).2.2.2.1
    have l1 := lsH_le hv i hi
    have l2 := (hv.2.2.2.2.2.2.2.2.1 i (by omega)).2.2.2.1
    simp (disch := omega) only [n_tn, n_tl, n_t0, n_lt, n_le, n_eq, n_ltl, n_lel, n_eql, n_llt, n_lle, n_leq, n_m1l, n_m1r, n_addl, n_ladd, nI_add, n_mul, n_mull, n_lmul, n_sub, n_subl, n_div, n_divl, n_modd, true_and, and_true, bi_s, bv_s, bM_e, bI_e, bL_e, ck_n, ck_l, ck_0, hC3.2.2.2.2.2.1, if_neg g, c3, q4, n_max]
    refine hk (by omega) _ _ ⟨rfl, s2.uI (by simp), q1.oth (by decide), ?_, ?_, u_at _ _ _ _, fun k hk => ?_⟩
    · rw [us_same, g_upd, if_neg (by decide)]; exact q2
    · rw [us_same, g_upd, if_neg (by decide)]; exact q3
    · rw [us_same, g_upd, if_neg (by omega)]; exact q5 k hk
/-- trades below i tried at hour t -/
def spP (v F : Nat → Nat) (t : Nat) (P : Nat → Bool) (i : Nat) : Nat → Bool := fun k => P k && !(decide (k < i) && flT v F t k)
theorem spP_no {F : Nat → Nat} {t i : Nat} {P : Nat → Bool} (h : P i = false ∨ flT v F t i = false) (k : Nat) : spP v F t P (i + 1) k = spP v F t P i k := by
  unfold spP
  by_cases e : k = i
  · subst e
    rcases h with h | h <;> simp [h]
  · have : (k < i + 1) = (k < i) := by apply propext; omega
    simp [this]
theorem spP_yes {F : Nat → Nat} {t i : Nat} {P : Nat → Bool} (h : flT v F t i = true) (k : Nat) : spP v F t P (i + 1) k = (spP v F t P i k && decide (k ≠ i)) := by
  unfold spP
  by_cases e : k = i
  · subst e
    simp [h]
  · have : (k < i + 1) = (k < i) := by apply propext; omega
    simp [this, e]
theorem c_spoil {t : Nat} {F : Nat → Nat} {P : Nat → Bool} (hN : 200 < N) (hv : VV v) (hC : PC M 10 v) (ht : t < 2147483648) (hF9 : ∀ k, k < 60 → F k ≤ 999) (hF : FS M v F P) : Ho (f_X0_spoil N 10 (nI t) M) (fun M' => Sm [93] M M' ∧ FS M' v F (fun k => P k && !flT v F t k) ∧ ∀ k, 6 ≤ k → M'.1 93 k = M.1 93 k) := by
  have v4 := hv.2.2.1
  have v8 := hv.2.2.2.2.1
  have b30 := bd30 hv.1.1 hv.1.2.1
  have pay9 : ∀ k, k < v 4 → v (71 + k) ≤ 99 := fun k hk => (hv.2.2.2.2.2.2.2.2.1 k hk).2.2.2.2.1
  unfold f_X0_spoil
  refine Ho_lp (fun i a M' => a = (nI t, nI i) ∧ Sm [93] M M' ∧ FS M' v F (spP v F t P i) ∧ ∀ k, 6 ≤ k → M'.1 93 k = M.1 93 k) (v 4) (by omega) ⟨rfl, Sm.rf, ?_, fun _ _ => rfl⟩ ?_
  · have : spP v F t P 0 = P := by funext k; simp [spP]
    rw [this]
    exact hF
  rintro i hi k hk _ M1 ⟨rfl, s1, ⟨q1, q2, q3, q4⟩, q5⟩
  have hC1 := hC.sm s1 (by simp)
  unfold f_X0_spoil_h2 f_X0_spoil_b46 f_X0_spoil_b47 f_X0_spoil_b105 f_X0_spoil_b154
  by_cases g : v 4 ≤ i
  · have e : i = v 4 := by omega
    subst e
    simp (disch := omega) only [n_tn, n_tl, n_t0, n_lt, n_le, n_eq, n_ltl, n_lel, n_eql, n_llt, n_lle, n_leq, n_m1l, n_m1r, n_addl, n_ladd, nI_add, n_mul, n_mull, n_lmul, n_sub, n_subl, n_div, n_divl, n_modd, true_and, and_true, bi_s, bv_s, bM_e, bI_e, bL_e, ck_n, ck_l, ck_0, hC1.2.2.2.2.2.1, if_pos g, Ho_some]
    have ec : ∀ k, k < v 4 → spP v F t P (v 4) k = (P k && !flT v F t k) := fun k hk => by simp [spP, hk]
    exact ⟨s1, ⟨q1, by rw [q2, tf_cong ec], by rw [q3, pyS_cong ec], q4⟩, q5⟩
  · obtain ⟨c0, c1, c2, c3, c4, c5⟩ := hC1.2.2.2.2.2.2.2.2.2.1 i (by omega)
    obtain ⟨t0, t1, t2, t3, t4, t5⟩ := hv.2.2.2.2.2.2.2.2.1 i (by omega)
    have hb := bdT_lt hv (show i < v 4 by omega)
    have l2 : (v (59 + i)) < 2147483648 := by omega
    have tl := tf_small hv (spP v F t P i)
    have skip : (P i = false ∨ flT v F t i = false) → Ho (k (nI t, nI (i + 1)) M1) (fun M' => Sm [93] M M' ∧ FS M' v F (fun k => P k && !flT v F t k) ∧ ∀ k, 6 ≤ k → M'.1 93 k = M.1 93 k) := fun h => hk (by omega) _ _ ⟨rfl, s1, ⟨q1, by rw [q2, tf_cong fun k _ => (spP_no h k).symm], by rw [q3, pyS_cong fun k _ => (spP_no h k).symm], q4⟩, q5⟩
    simp (disch := omega) only [n_tn, n_tl, n_t0, n_lt, n_le, n_eq, n_ltl, n_lel, n_eql, n_llt, n_lle, n_leq, n_m1l, n_m1r, n_addl, n_ladd, nI_add, n_mul, n_mull, n_lmul, n_sub, n_subl, n_div, n_divl, n_modd, true_and, and_true, bi_s, bv_s, bM_e, bI_e, bL_e, ck_n, ck_l, ck_0, hC1.2.2.2.2.2.1, if_neg g, c2, c3]
    by_cases a1 : t < v (59 + i)
    · rw [if_pos a1, if_pos trivial]
      exact skip (Or.inr (by simp [flT]; omega))
    · rw [if_neg a1]
      by_cases a2 : v (65 + i) < t
      · rw [if_pos a2, if_pos trivial]
        exact skip (Or.inr (flT_late a2))
      · rw [if_neg a2, if_neg (by decide), q2]
        have hd : decide (v (59 + i) ≤ t ∧ t ≤ v (65 + i)) = true := decide_eq_true (by omega)
        have bi1 : (tfS (spP v F t P i) (v 4)).testBit i = P i := by
          rw [tf_bit]
          simp [spP, show i < v 4 by omega]
        by_cases a3 : P i = true
        · rw [if_pos (by rw [n_bit (by omega), bi1]; exact a3)]
          unfold f_X5_boardAt
          have fg := c_foggy (p := 10) (q := 94) (b := bdT v i) (w := v 8) (M := M1) rfl hC1.2.1 q1 (by omega) hF9 (by omega)
          have eb : v (53 + i) * v 0 + v (47 + i) = bdT v i := rfl
          simp (disch := omega) only [n_tn, n_tl, n_t0, n_lt, n_le, n_eq, n_ltl, n_lel, n_eql, n_llt, n_lle, n_leq, n_m1l, n_m1r, n_addl, n_ladd, nI_add, n_mul, n_mull, n_lmul, n_sub, n_subl, n_div, n_divl, n_modd, true_and, and_true, bi_s, bv_s, bM_e, bI_e, bL_e, ck_n, ck_l, ck_0, c0, c1, c4, c5, hC1.1.1, eb, fg]
          have rem : flT v F t i = true → Ho (k (nI t, nI (i + 1)) (uI (uI M1 93 3 (nI (tfS (fun k => spP v F t P i k && decide (k ≠ i)) (v 4)))) 93 4 (nI (pyS v (spP v F t P i) (v 4) - v (71 + i))))) (fun M' => Sm [93] M M' ∧ FS M' v F (fun k => P k && !flT v F t k) ∧ ∀ k, 6 ≤ k → M'.1 93 k = M.1 93 k) := fun h => by
            have dr := pyS_drop (v := v) (p := spP v F t P i) (n := v 4) (j := i) (by omega) (by simp [spP, a3])
            refine hk (by omega) _ _ ⟨rfl, (s1.uI (by simp)).uI (by simp), ⟨(q1.oth (by decide)).oth (by decide), ?_, ?_, ?_⟩, fun k hk => ?_⟩
            · rw [us_same, g_upd, if_neg (by decide), u_at, tf_cong fun k _ => (spP_yes h k).symm]
            · rw [u_at, pyS_cong fun k _ => spP_yes h k]
              congr 1
              omega
            · rw [us_same, g_upd, if_neg (by decide), us_same, g_upd, if_neg (by decide)]; exact q4
            · rw [us_same, g_upd, if_neg (by omega), us_same, g_upd, if_neg (by omega)]; exact q5 k hk
          have dr := pyS_drop (v := v) (p := spP v F t P i) (n := v 4) (j := i) (by omega) (by simp [spP, a3])
          have ce4 : (uI M1 93 3 (nI (tfS (spP v F t P i) (v 4)) &&& (nI (2 ^ i) ^^^ (-1)))).1 (10 + 4) (i * 6 + 4) = nI (v (71 + i)) := by rw [u_ne (by decide)]; exact c4
          have ce3 : (uI M1 93 3 (nI (tfS (spP v F t P i) (v 4)) &&& (nI (2 ^ i) ^^^ (-1)))).1 93 4 = nI (pyS v (spP v F t P i) (v 4)) := by rw [us_same, g_upd, if_neg (by decide)]; exact q3
          rw [q2, n_shl1 (by omega), ce3]
          have fe : flT v F t i = (decide (v 8 ≤ F (bdT v i) + F (30 + bdT v i)) == decide (v (77 + i) = 1)) := by
            unfold flT fgy
            rw [hd]
            rfl
          rw [show (10 + 4 : Nat) = 14 from rfl] at ce4
          rw [ce4, n_sub (by omega), tf_drop _ (by omega)]
          by_cases d : v (77 + i) = 0
          · rw [if_pos d]
            by_cases f : v 8 ≤ F (bdT v i) + F (30 + bdT v i)
            · rw [if_pos (by simp [f, b2i])]
              exact skip (Or.inr (by rw [fe]; simp [f, d]))
            · rw [if_neg (by simp [f, b2i])]
              exact rem (by rw [fe]; simp [f, d])
          · have d1 : v (77 + i) = 1 := by omega
            rw [if_neg d]
            by_cases f : v 8 ≤ F (bdT v i) + F (30 + bdT v i)
            · rw [if_neg (by simp [f, b2i])]
              exact rem (by rw [fe]; simp [f, d1])
            · rw [if_pos (by simp [f, b2i])]
              exact skip (Or.inr (by rw [fe]; simp [f, d1]))
        · rw [if_neg (by rw [n_bit (by omega), bi1]; exact a3)]
          exact skip (Or.inl (by simpa using a3))
theorem c_follow {g t0 n : Nat} {fl e : Int32} {F : Nat → Nat} {P : Nat → Bool} (hN : 200 < N) (hv : VV v) (hC : PC M 10 v) (hg : g < 64) (ht : 1 ≤ t0 ∧ t0 + n ≤ 25) (he : e = nI (t0 + n - 1)) (hF9 : ∀ k, k < 60 → F k ≤ 999) (hF : FS M v F P) : Ho (f_X0_follow N 10 (nI g) (nI t0) e fl M) (fun M' => Sm [93, 94, 91, 95] M M' ∧ M'.1 95 = M.1 95 ∧ (∀ k, 6 ≤ k → M'.1 93 k = M.1 93 k) ∧ ∃ m, m ≤ n ∧ FS M' v (hrN v g F m) (fun k => P k && !fld v g F t0 m k) ∧ (m = n ∨ lsH v (v 4) < t0 + m ∨ ¬ fl < nI (pyS v (fun k => P k && !fld v g F t0 m k) (v 4)))) := by
  subst he
  have l24 := lsH_le hv (v 4) (Nat.le_refl _)
  unfold f_X0_follow
  refine Ho_lp (fun i a M' => a = (nI g, nI (t0 + n - 1), fl, nI (t0 + i)) ∧ Sm [93, 94, 91, 95] M M' ∧ M'.1 95 = M.1 95 ∧ (∀ k, 6 ≤ k → M'.1 93 k = M.1 93 k) ∧ FS M' v (hrN v g F i) (fun k => P k && !fld v g F t0 i k)) n (by omega) ⟨rfl, Sm.rf, rfl, fun _ _ => rfl, ?_⟩ ?_
  · have : (fun k => P k && !fld v g F t0 0 k) = P := by funext k; simp [fld]
    rw [this]
    exact hF
  rintro i hi k hk _ M1 ⟨rfl, s1, s95, s6, f1⟩
  have hC1 := hC.sm s1 scrF
  unfold f_X0_follow_h3
  dsimp only
  rw [f1.2.2.2, f1.2.2.1]
  by_cases a1 : t0 + n - 1 < t0 + i
  · rw [if_pos (by rw [n_lt (by omega)]; exact a1), Ho_some]
    exact ⟨s1, s95, s6, i, hi, f1, Or.inl (by omega)⟩
  · rw [if_neg (by rw [n_lt (by omega)]; exact a1)]
    by_cases a2 : lsH v (v 4) < t0 + i
    · rw [if_pos (by rw [n_lt (by omega)]; exact a2), Ho_some]
      exact ⟨s1, s95, s6, i, hi, f1, Or.inr (Or.inl a2)⟩
    · rw [if_neg (by rw [n_lt (by omega)]; exact a2)]
      by_cases a3 : fl < nI (pyS v (fun k => P k && !fld v g F t0 i k) (v 4))
      · rw [if_pos a3, Ho_bv]
        have hF9' := hrN_le (g := g) hv.1 hF9 i
        refine Ho_mono (cw_hour (by omega) hv.1 rfl (by omega) (by omega) hC1.1 f1.1 hF9' (by omega)) ?_
        rintro M2 ⟨s2, a2'⟩
        have s2' : Sm [93, 94, 91, 95] M1 M2 := s2.mono (by simp)
        have e93 := s2.2 93 (by simp)
        rw [Ho_bv]
        refine Ho_mono (c_spoil (t := t0 + i) hN hv (hC1.sm s2' scrF) (by omega) (hrF_le hv.1 hF9') ⟨a2', by rw [e93]; exact f1.2.1, by rw [e93]; exact f1.2.2.1, by rw [e93]; exact f1.2.2.2⟩) ?_
        rintro M3 ⟨s3, f3, s36⟩
        rw [n_addl]
        refine hk (by omega) _ _ ⟨rfl, (s1.tr s2').tr (s3.mono (by simp)), ?_, fun k hk => ?_, ?_⟩
        · rw [s3.2 95 (by simp), s2.2 95 (by simp), s95]
        · rw [s36 k hk, e93, s6 k hk]
        · have : (fun k => (P k && !fld v g F t0 i k) && !flT v (hrF v g (hrN v g F i)) (t0 + i) k) = fun k => P k && !fld v g F t0 (i + 1) k := by
            funext k
            rw [fld_s, show hrN v g F (i + 1) = hrF v g (hrN v g F i) from rfl]
            cases P k <;> cases fld v g F t0 i k <;> simp
          rw [this] at f3
          exact f3
      · rw [if_neg a3, Ho_some]
        exact ⟨s1, s95, s6, i, hi, f1, Or.inr (Or.inr a3)⟩
/-- what is left when a forecast is followed to its end -/
theorem fol_eq {g t0 n m : Nat} {F : Nat → Nat} {P : Nat → Bool} (hm : m ≤ n) (h : m = n ∨ lsH v (v 4) < t0 + m) (k : Nat) (hk : k < v 4) : (P k && !fld v g F t0 m k) = (P k && !fld v g F t0 n k) := by
  rcases h with rfl | h
  · rfl
  · have := lsH_ge (v := v) (v 4) k hk
    rw [show n = m + (n - m) by omega, fld_late (by omega)]
theorem c_served (hN : 200 < N) (hv : VV v) (hC : PC M 10 v) : Ho (f_X0_servedSet N 10 M) (fun q => q.1 = nI (tfS (fun k => !fld v (v 10) (fogv v) 1 24 k) (v 4)) ∧ Sm [93, 94, 91, 95] M q.2) := by
  have p64 := pow_le64 hv.1.2.2.1
  have h10 := hv.2.2.2.2.2.1
  have v4 := hv.2.2.1
  unfold f_X0_servedSet
  rw [Ho_bv]
  refine Ho_mono (c_begin hN hv hC) ?_
  rintro M1 ⟨s1, f1, -⟩
  have hC1 := hC.sm s1 scrF
  rw [hC1.2.2.2.1, Ho_bv]
  refine Ho_mono (c_follow (t0 := 1) (n := 24) (fl := -1) (F := fogv v) (P := fun _ => true) hN hv hC1 (by omega) (by omega) rfl hv.2.2.2.2.2.2.2.2.2.2.1 f1) ?_
  rintro M2 ⟨s2, -, -, m, hm, f2, hd⟩
  rw [Ho_some]
  have hd' : m = 24 ∨ lsH v (v 4) < 1 + m := by
    rcases hd with hd | hd | hd
    · exact Or.inl hd
    · exact Or.inr hd
    · exfalso
      apply hd
      have := pyS_le (v := v) (p := fun k => true && !fld v (v 10) (fogv v) 1 m k) (n := v 4) (fun k hk => (hv.2.2.2.2.2.2.2.2.1 k hk).2.2.2.2.1)
      rw [n_m1lt (by omega)]
      trivial
  refine ⟨?_, s1.tr s2⟩
  dsimp only
  rw [f2.2.1, tf_cong (q := fun k => true && !fld v (v 10) (fogv v) 1 24 k) fun k hk => fol_eq (P := fun _ => true) hm hd' k hk]
  simp
theorem MW.self (hv : VV v) : MW v v := ⟨fun _ _ _ _ => rfl, by have := pow_le64 hv.1.2.2.1; have := hv.2.2.2.2.2.1; omega, hv.2.2.2.2.2.2.2.2.2.2.1⟩
theorem e_served (hN : 200 < N) (h : Rel C S) : Same (f_X11_served N C) (f_X12_served N S) := by
  have hR := Re.go h
  have hs := S0_st S 0 0
  unfold f_X11_served f_X12_served f_X11_answered
  simp only [bM_e]
  generalize uI (uI S 200 1 0) 200 0 0 = S at *
  obtain ⟨v, hv, h9, hC, hA, hn⟩ := hR.get
  refine Same.two (P := fun q => q.1 = nI (tfS (fun k => !fld v (v 10) (fogv v) 1 24 k) (v 4)) ∧ ∃ C1, Sm [93, 94, 91, 95] C C1 ∧ q.2 = uI C1 0 0 0) (P' := fun q => q.1 = nI (tfS (fun k => !fld v (v 10) (fogv v) 1 24 k) (v 4)) ∧ Sm [206, 209] S q.2) ?_ ?_ ?_
  · rw [Ho_bi]
    refine Ho_mono (c_served hN hv hC) ?_
    rintro ⟨r, C1⟩ ⟨a, b⟩
    exact ⟨_, rfl, a, C1, b, rfl⟩
  · rw [Ho_bi]
    refine Ho_mono (m_served hN hv (MW.self hv) hA) ?_
    rintro ⟨r, S1⟩ ⟨a, b⟩
    exact ⟨_, rfl, a, b⟩
  · rintro r C' r' S' ⟨a, C1, b, rfl⟩ ⟨a', b'⟩
    exact ⟨a.trans a'.symm, cl_for hR hs b scrF b' scr2⟩
theorem e_paid (hN : 200 < N) (h : Rel C S) : Same (f_X11_paid N C) (f_X12_paid N S) := by
  have hR := Re.go h
  have hs := S0_st S 0 0
  unfold f_X11_paid f_X12_paid f_X11_answered
  simp only [bM_e]
  generalize uI (uI S 200 1 0) 200 0 0 = S at *
  obtain ⟨v, hv, h9, hC, hA, hn⟩ := hR.get
  have tl := tf_small hv (fun k => !fld v (v 10) (fogv v) 1 24 k)
  refine Same.two (P := fun q => q.1 = nI (pyS v (fun k => !fld v (v 10) (fogv v) 1 24 k) (v 4)) ∧ ∃ C1, Sm [93, 94, 91, 95] C C1 ∧ q.2 = uI C1 0 0 0) (P' := fun q => q.1 = nI (pyS v (fun k => !fld v (v 10) (fogv v) 1 24 k) (v 4)) ∧ Sm [206, 209] S q.2) ?_ ?_ ?_
  · rw [Ho_bi]
    refine Ho_mono (c_served hN hv hC) ?_
    rintro ⟨r, C1⟩ ⟨a, b⟩
    dsimp only at a b ⊢
    rw [a, c_pay hN hv (hC.sm b scrF) (by omega), bi_s, pyS_tf]
    exact ⟨_, rfl, rfl, C1, b, rfl⟩
  · rw [Ho_bi]
    refine Ho_mono (m_served hN hv (MW.self hv) hA) ?_
    rintro ⟨r, S1⟩ ⟨a, b⟩
    dsimp only at a b ⊢
    rw [a, m_paidFor hN hv (fun i h1 h2 h3 => by rw [b.2 205 (by simp)]; exact hA i (by omega)) (by omega), bi_s, pyS_tf]
    exact ⟨_, rfl, rfl, b⟩
  · rintro r C' r' S' ⟨a, C1, b, rfl⟩ ⟨a', b'⟩
    exact ⟨a.trans a'.symm, cl_for hR hs b scrF b' scr2⟩
/-! copyFog -/
theorem cut_small {s n : Nat} (hs : s ≤ 3) (hn : n ≤ 1998) : cutv s (nI n).toInt64 = if s = 0 then Int32.toInt64 (i2b (nI n)) else (nI n).toInt64 := by
  have hti : (nI n).toInt = (n : Int) := nI_toInt (by omega)
  unfold cutv
  rw [lg_l2i_i2l]
  split
  · rfl
  · split
    · rw [show i2s (nI n) = nI n from fb_short (by rw [hti]; omega) (by rw [hti]; omega)]
    · split <;> rfl
theorem e_copyFog (hN : 200 < N) (h : Rel C S) (x : Int32) : Same (f_X11_copyFog N x C) (f_X12_copyFog N x S) := by
  have hR := Re.go h
  have hs := S0_st S 0 0
  unfold f_X11_copyFog f_X12_copyFog f_X11_refused f_X12_refuse f_X5_boardCount f_X9_codeOfLength f_X12_isTray
  simp only [bM_e]
  generalize uI (uI S 200 1 0) 200 0 0 = S at *
  obtain ⟨v, hv, h9, hC, hA, hn⟩ := hR.get
  have b30 := bd30 hv.1.1 hv.1.2.1
  have hf9 := hv.2.2.2.2.2.2.2.2.2.2.1
  rw [hC.1.1, hC.1.2.1, n_mul, bi_s]
  obtain ⟨r, e1, -, hr⟩ := tray_is hR.2.2.1 x
  obtain ⟨q, e3, hq⟩ := in_is 0 3 (by omega) S x
  rw [show f_X12_isIn x.toInt64 0 3 S = _ from e3, e1, bi_s, bi_s, bi_s]
  rcases hr with ⟨rfl, t, m, ht, rfl, tr⟩ | ⟨rfl, hx⟩ | ⟨rfl, t, ht, rfl, t1, t2⟩
  · have hq1 : q = true := by
      rcases hq with ⟨hq, -⟩ | ⟨-, hq | ⟨n, hn, hw, hq⟩⟩
      · exact hq
      · exact absurd hq (nI_pos (by omega))
      · rw [n_eq (by omega)] at hq
        omega
    subst hq1
    obtain ⟨hm, c9, s202, ⟨s, hs3, s1, s2⟩, hk⟩ := tr
    rw [if_neg (show ¬ b2i true = 0 by decide), if_pos rfl, ck_n (by omega), ck_n (by omega), ck_n (by omega), t_n (by omega), c9, s202, if_pos (nI_pos' (show m < 2147483648 by omega)), m_boards (hA 0 (by omega)) (hA 1 (by omega)), bi_s]
    by_cases g : v 0 * v 1 ≤ m
    · rw [if_pos (by rw [n_le (by omega)]; exact g), if_pos (by rw [n_le (by omega)]; exact g), bi_s, if_pos rfl]
      refine lq2 (R := Same) (fun i a M a' M' => a = (nI t, nI (v 0 * v 1), nI i) ∧ a' = (nI t, nI i) ∧ M.1 = C.1 ∧ M'.1 = S.1 ∧ (∀ c, c < 4 ∨ 8 ≤ c → M.2 c = C.2 c) ∧ (∀ c, c ≠ 203 → M'.2 c = S.2 c) ∧ RY M M') (v 0 * v 1) (by omega) (by omega) ⟨rfl, rfl, rfl, rfl, fun _ _ => rfl, fun _ _ => rfl, hR.2.2.1⟩ ?_
      rintro i hi k k' hk _ M _ M' ⟨rfl, rfl, m1, m1', m2, m2', hy⟩
      unfold f_X11_copyFog_h31 f_X12_copyFog_h60 f_X12_copyFog_b103 f_X11_answered f_X9_put f_X5_bothKinds f_X12_fogOf
      dsimp only
      rw [m_boards (by rw [m1']; exact hA 0 (by omega)) (by rw [m1']; exact hA 1 (by omega)), bi_s]
      by_cases gi : v 0 * v 1 ≤ i
      · rw [if_pos (by rw [n_le (by omega)]; exact gi), if_pos (by rw [n_le (by omega)]; exact gi), m_boards (by rw [m1']; exact hA 0 (by omega)) (by rw [m1']; exact hA 1 (by omega)), bM_e, bi_s, bi_s]
        refine Same.mk (hR.trays ?_ (fun j hj => ?_) (fun c h1 _ _ => ?_) (fun c hc => m2 c hc) (fun _ _ => by rw [m1']) (fun _ _ _ _ => by rw [m1']) (fun c hc => m2' c hc) ?_)
        · rw [u_at, m1']; exact hs.symm
        · rw [us_same, g_upd, if_neg hj, m1]
        · rw [u_ne h1, m1]
        · exact hy.same (u_ne (by decide)) (u_ne (by decide)) (fun _ _ => rfl) rfl rfl rfl
      · rw [if_neg (by rw [n_le (by omega)]; exact gi), if_neg (by rw [n_le (by omega)]; exact gi)]
        have f1 := hC.2.2.2.2.2.2.2.2.2.2.2.1 i (by omega)
        have f2 := hC.2.2.2.2.2.2.2.2.2.2.2.1 (30 + i) (by omega)
        have a1 := hA (103 + i) (by omega)
        have a2 := hA (133 + i) (by omega)
        have l1 := hf9 i (by omega)
        have l2 := hf9 (30 + i) (by omega)
        dsimp only at f1 f2
        rw [show 103 + (30 + i) = 133 + i by omega] at f2 l2
        have ln16 : ln 16 = 60 := rfl
        simp (disch := omega) only [n_tn, n_tl, n_t0, n_lt, n_le, n_eq, n_ltl, n_lel, n_eql, n_llt, n_lle, n_leq, n_m1l, n_m1r, n_addl, n_ladd, nI_add, n_mul, n_mull, n_lmul, n_sub, n_subl, n_div, n_divl, n_modd, true_and, and_true, bi_s, bv_s, bM_e, bI_e, bL_e, ck_n, ck_l, ck_0, m1, m1', f1, f2, a1, a2, s1, s2, ln16, c_cut hs3, show (10 + 6 : Nat) = 16 from rfl]
        rw [cut_small hs3 (by omega)]
        by_cases z : s = 0
        · rw [if_pos z, if_pos z]
          refine hk (by omega) _ _ _ _ ⟨rfl, rfl, m1, m1', fun c hc => ?_, fun c hc => ?_, RY.put hy ht (by omega) _⟩
          · rw [g_uL, if_neg (by omega)]; exact m2 c hc
          · rw [g_uL, if_neg hc]; exact m2' c hc
        · rw [if_neg z, if_neg z]
          refine hk (by omega) _ _ _ _ ⟨rfl, rfl, m1, m1', fun c hc => ?_, fun c hc => ?_, RY.put hy ht (by omega) _⟩
          · rw [g_uL, if_neg (by omega)]; exact m2 c hc
          · rw [g_uL, if_neg hc]; exact m2' c hc
    · rw [if_neg (by rw [n_le (by omega)]; exact g), if_neg (by rw [n_le (by omega)]; exact g), bi_s, if_neg (by decide)]
      exact Same.mk (cl_ref hR _)
  · have hq1 : q = false := by
      rcases hq with ⟨hq, n, h1, h2, rfl⟩ | ⟨hq, -⟩
      · rcases hx with hx | ⟨n', hn', h4, e⟩
        · exact absurd hx (nI_pos (by omega))
        · rw [n_eq (by omega)] at e
          omega
      · exact hq
    subst hq1
    rw [if_pos (show b2i false = 0 from rfl), if_neg (by decide), bi_s, if_neg (by decide)]
    exact Same.mk (cl_ref hR _)
  · have hq1 : q = true := by
      rcases hq with ⟨hq, -⟩ | ⟨-, hq | ⟨n, hn, hw, hq⟩⟩
      · exact hq
      · exact absurd hq (nI_pos (by omega))
      · rw [n_eq (by omega)] at hq
        omega
    subst hq1
    rw [if_neg (show ¬ b2i true = 0 by decide), if_neg (show ¬ (3 : Int32) = 0 by decide), bi_s, if_neg (show ¬ (3 : Int32) = 0 by decide), ck_n (by omega), t_n (by omega), t2, if_neg (by decide)]
    exact Same.mk (cl_ref hR _)
end D3
