section P2
variable {N n lo : Nat} {C S : Mem} {B : Nat → Nat}
theorem wc_lt {a : Nat} : ∀ i, (∀ j, a ≤ j → j < a + i → 97 ≤ B j ∧ B j ≤ 122) → wc B a i < 32 ^ i
  | 0, _ => by show 0 < 32 ^ 0; decide
  | i + 1, h => by
    have ih := wc_lt i fun j h1 h2 => h j h1 (by omega)
    have := h (a + i) (by omega) (by omega)
    rw [wc, Nat.pow_succ]
    omega
/-- letters: both loops in step -/
theorem adv_let {M M' : Mem} {a : Nat} (hlo : lo ≤ a) (hN : 1000 < N) (tx : TxR C S n B) (fc : FkC C M) (fs : FkS S M') (h1 : M.1 82 1 = nI n) (h9 : M'.1 200 9 = nI n) (c3 : M.1 82 3 = nI a) (s15 : M'.1 200 15 = nI a) (c4 : M.1 82 4 = nI a) (s16 : M'.1 200 16 = nI a) (s14 : M'.1 200 14 = 1) (s19 : M'.2 200 19 = 0) (ha : a < n) (hl : 97 ≤ B a ∧ B a ≤ 122) : AdvR C S n B lo (lp (fun k a m => f_X8_advance_h73 N k m) N () M) (lp (fun k a m => f_X12_advance_h109 N k m) N () M') := by
  have n9 := tx.1
  refine lq2 (R := AdvR C S n B lo) (fun i _ M1 _ M1' => FkC C M1 ∧ FkS S M1' ∧ a + i ≤ n ∧ M1.1 82 3 = nI a ∧ M1'.1 200 15 = nI a ∧ M1.1 82 1 = nI n ∧ M1'.1 200 9 = nI n ∧ M1.1 82 4 = nI (a + i) ∧ M1'.1 200 16 = nI (a + i) ∧ M1'.1 200 14 = 1 ∧ (∀ j, a ≤ j → j < a + i → 97 ≤ B j ∧ B j ≤ 122) ∧ M1'.2 200 19 = if i ≤ 8 then lN (wc B a i) else -1) (n - a) (by omega) (by omega) ⟨fc, fs, by omega, c3, s15, h1, h9, c4, s16, s14, fun j j1 j2 => by omega, s19⟩ ?_
  rintro i hi k k' hk _ M1 _ M1' ⟨f1, g1, p0, p1, p2, p3, p4, p5, p6, p7, p8, p9⟩
  have tx1 := tx.fk f1 g1
  unfold f_X8_advance_h73 f_X12_advance_h109 f_X8_advance_b125
  rw [p5, p3, p6, look_is (a := a + i) tx1 rfl p4 p0, bi_s]
  have fin : 0 < i → AdvR C S n B lo (if M1.1 82 4 ≤ M1.1 82 3 then lp (fun k a m => f_X8_advance_h142 N k m) N () M1 else bM (uI M1 82 2 1) fun M_20 => some M_20) (bM (uI M1' 200 18 (nI (a + i) - nI a)) fun M_41 => some M_41) := fun i0 => by
    rw [p5, p1, if_neg (by rw [n_le (by omega)]; omega), bM_e, bM_e, n_sub (by omega)]
    refine ⟨_, _, rfl, rfl, f1.u (by omega), g1.u (by omega), ⟨a, hlo, by omega, by rw [us_same, g_upd, if_neg (by decide)]; exact p1⟩, a, a + i, 1, by omega, p0, fun _ => by omega, ?_, ?_, ?_, ?_, u_at _ _ _ _, ?_, Or.inr (Or.inl ⟨rfl, p8, ?_, ?_⟩)⟩
    · rw [us_same, g_upd, if_neg (by decide)]; exact p1
    · rw [us_same, g_upd, if_neg (by decide)]; exact p2
    · rw [us_same, g_upd, if_neg (by decide)]; exact p5
    · rw [us_same, g_upd, if_neg (by decide)]; exact p6
    · rw [us_same, g_upd, if_neg (by decide)]; exact p7
    · rw [u_at]
    · rw [show a + i - a = i by omega]; exact p9
  rw [p5, p1] at fin
  by_cases g : a + i < n
  · obtain ⟨b1, b2, b3, b4⟩ := tx1.2 (a + i) g
    rw [if_neg (show ¬ nI n ≤ nI (a + i) by rw [n_le (by omega)]; omega), if_pos g, let_is _ b1, bi_s, ck_n (by omega), ck_n (by omega), t_n (by omega), p1]
    by_cases l : 97 ≤ B (a + i) ∧ B (a + i) ≤ 122
    · rw [decide_eq_true l, if_neg (show ¬ b2i true = 0 by decide), if_neg (show ¬ M1.1 1 (a + i) < 97 from fun z => by have := (tx1.lt (L := 97) g (by omega)).mp z; omega), if_neg (show ¬ 122 < M1.1 1 (a + i) from fun z => by have := (tx1.gt (L := 122) g (by omega)).mp z; omega), bM_e, n_addl, p6, p2, n_sub (by omega), show a + i - a = i by omega]
      have step : ∀ w, (w = if i + 1 ≤ 8 then lN (wc B a (i + 1)) else -1) → AdvR C S n B lo (k () (uI M1 82 4 (nI (a + i + 1)))) (f_X12_advance_b166 N k' w M1') := fun w hw => by
        unfold f_X12_advance_b166
        have e16 : (uL M1' 200 19 w).1 200 16 = nI (a + i) := p6
        rw [bM_e, bM_e, e16, n_addl]
        refine hk (by omega) _ _ _ _ ⟨f1.u (by omega), (g1.l).u (by omega), by omega, ?_, ?_, ?_, ?_, u_at _ _ _ _, u_at _ _ _ _, ?_, fun j j1 j2 => ?_, ?_⟩
        · rw [us_same, g_upd, if_neg (by decide)]; exact p1
        · rw [us_same, g_upd, if_neg (by decide)]; exact p2
        · rw [us_same, g_upd, if_neg (by decide)]; exact p3
        · rw [us_same, g_upd, if_neg (by decide)]; exact p4
        · rw [us_same, g_upd, if_neg (by decide)]; exact p7
        · by_cases e : j = a + i
          · subst e; exact l
          · exact p8 j j1 (by omega)
        · rw [g_uI2, g_uL, if_pos rfl, g_updL, if_pos rfl]; exact hw
      by_cases g8 : 8 ≤ i
      · rw [if_pos (by rw [n_lle (by omega)]; exact g8)]
        exact step _ (by rw [if_neg (by omega)])
      · rw [if_neg (by rw [n_lle (by omega)]; exact g8), look_is (a := a + i) tx1 rfl p4 p0, bi_s, if_pos g, p9, if_pos (by omega)]
        refine step _ ?_
        rw [if_pos (by omega), wc, nI_l (by omega), show (32 : Int64) = lN 32 from rfl, l_mul, l_add, show (96 : Int64) = lN 96 from rfl, l_sub (by omega)]
        congr 1
        omega
    · rw [decide_eq_false l, if_pos (show b2i false = 0 from rfl)]
      have i0 : 0 < i := by
        rcases Nat.eq_zero_or_pos i with z | z
        · subst z; exact absurd hl l
        · exact z
      rw [p6, p2]
      by_cases q : M1.1 1 (a + i) < 97
      · rw [if_pos q]
        exact fin i0
      · rw [if_neg q]
        by_cases q2 : 122 < M1.1 1 (a + i)
        · rw [if_pos q2]
          exact fin i0
        · exfalso
          have a1 := mt (tx1.lt (L := 97) g (by omega)).mpr q
          have a2 := mt (tx1.gt (L := 122) g (by omega)).mpr q2
          omega
  · rw [if_pos (show nI n ≤ nI (a + i) by rw [n_le (by omega)]; omega), if_neg g, let_is 0 (by decide), bi_s, decide_eq_false (by omega), if_pos (show b2i false = 0 from rfl), p1, p6, p2]
    exact fin (by omega)
/-- digits -/
theorem adv_dig {M M' : Mem} {a : Nat} (hlo : lo ≤ a) (hN : 1000 < N) (tx : TxR C S n B) (fc : FkC C M) (fs : FkS S M') (h1 : M.1 82 1 = nI n) (h9 : M'.1 200 9 = nI n) (c3 : M.1 82 3 = nI a) (s15 : M'.1 200 15 = nI a) (c4 : M.1 82 4 = nI a) (s16 : M'.1 200 16 = nI a) (c5 : M.1 82 5 = 0) (s17 : M'.1 200 17 = 0) (ha : a < n) (hl : 48 ≤ B a ∧ B a ≤ 57) : AdvR C S n B lo (lp (fun k a m => f_X8_advance_h142 N k m) N () M) (lp (fun k a m => f_X12_advance_h210 N k m) N () M') := by
  have n9 := tx.1
  refine lq2 (R := AdvR C S n B lo) (fun i _ M1 _ M1' => FkC C M1 ∧ FkS S M1' ∧ a + i ≤ n ∧ M1.1 82 3 = nI a ∧ M1'.1 200 15 = nI a ∧ M1.1 82 1 = nI n ∧ M1'.1 200 9 = nI n ∧ M1.1 82 4 = nI (a + i) ∧ M1'.1 200 16 = nI (a + i) ∧ ∃ x, x < 10 ^ i ∧ x < 10000 ∧ M1.1 82 5 = nI x ∧ M1'.1 200 17 = nI x) (n - a) (by omega) (by omega) ⟨fc, fs, by omega, c3, s15, h1, h9, c4, s16, 0, by decide, by decide, c5, s17⟩ ?_
  rintro i hi k k' hk _ M1 _ M1' ⟨f1, g1, p0, p1, p2, p3, p4, p5, p6, x, x1, x2, p7, p8⟩
  have tx1 := tx.fk f1 g1
  unfold f_X8_advance_h142 f_X12_advance_h210
  rw [p5, p3, p6, look_is (a := a + i) tx1 rfl p4 p0, bi_s]
  have fin : 0 < i → AdvR C S n B lo (f_X8_advance_b231 N M1) (if (nI (a + i) - nI a) ≤ 4 then (bM (uI M1' 200 14 2) fun M_26 => some M_26) else (bM (uI M1' 200 14 4) fun M_27 => some M_27)) := fun i0 => by
    unfold f_X8_advance_b231
    rw [p5, p1, if_neg (by rw [n_le (by omega)]; omega), n_sub (by omega), show a + i - a = i by omega]
    have put : ∀ y, (y = 2 ∨ y = 4) → AdvR C S n B lo (bM (uI M1 82 2 (nI y)) fun M_13 => some M_13) (bM (uI M1' 200 14 (nI y)) fun M_26 => some M_26) := fun y hy => by
      rw [bM_e, bM_e]
      refine ⟨_, _, rfl, rfl, f1.u (by omega), g1.u (by omega), ⟨a, hlo, by omega, by rw [us_same, g_upd, if_neg (by decide)]; exact p1⟩, a, a + i, y, by omega, p0, fun _ => by omega, ?_, ?_, ?_, ?_, u_at _ _ _ _, u_at _ _ _ _, ?_⟩
      · rw [us_same, g_upd, if_neg (by decide)]; exact p1
      · rw [us_same, g_upd, if_neg (by decide)]; exact p2
      · rw [us_same, g_upd, if_neg (by decide)]; exact p5
      · rw [us_same, g_upd, if_neg (by decide)]; exact p6
      · rcases hy with rfl | rfl
        · exact Or.inr (Or.inr (Or.inl ⟨rfl, x, by omega, by rw [us_same, g_upd, if_neg (by decide)]; exact p7, by rw [us_same, g_upd, if_neg (by decide)]; exact p8⟩))
        · exact Or.inr (Or.inr (Or.inr (Or.inr rfl)))
    by_cases g4 : i ≤ 4
    · rw [if_pos (show nI i ≤ 4 by rw [n_lel (by omega)]; exact g4), if_pos (show nI i ≤ 4 by rw [n_lel (by omega)]; exact g4)]
      exact put 2 (Or.inl rfl)
    · rw [if_neg (show ¬ nI i ≤ 4 by rw [n_lel (by omega)]; exact g4), if_neg (show ¬ nI i ≤ 4 by rw [n_lel (by omega)]; exact g4)]
      exact put 4 (Or.inr rfl)
  by_cases g : a + i < n
  · obtain ⟨b1, b2, b3, b4⟩ := tx1.2 (a + i) g
    rw [if_neg (show ¬ nI n ≤ nI (a + i) by rw [n_le (by omega)]; omega), if_pos g, dig_is _ b1, bi_s, ck_n (by omega), ck_n (by omega), t_n (by omega), p1, p6, p2]
    by_cases l : 48 ≤ B (a + i) ∧ B (a + i) ≤ 57
    · have eb := b3 (by omega)
      rw [decide_eq_true l, if_neg (show ¬ b2i true = 0 by decide), if_neg (show ¬ M1.1 1 (a + i) < 48 from fun z => by have := (tx1.lt (L := 48) g (by omega)).mp z; omega), if_neg (show ¬ 57 < M1.1 1 (a + i) from fun z => by have := (tx1.gt (L := 57) g (by omega)).mp z; omega), n_sub (by omega), show a + i - a = i by omega]
      unfold f_X8_advance_b218 f_X12_advance_b260
      by_cases g4 : 4 ≤ i
      · rw [if_pos (by rw [n_lle (by omega)]; exact g4), if_pos (by rw [n_lle (by omega)]; exact g4), bM_e, bM_e, p5, p6, n_addl]
        refine hk (by omega) _ _ _ _ ⟨f1.u (by omega), g1.u (by omega), by omega, ?_, ?_, ?_, ?_, u_at _ _ _ _, u_at _ _ _ _, x, ?_, x2, ?_, ?_⟩
        · rw [us_same, g_upd, if_neg (by decide)]; exact p1
        · rw [us_same, g_upd, if_neg (by decide)]; exact p2
        · rw [us_same, g_upd, if_neg (by decide)]; exact p3
        · rw [us_same, g_upd, if_neg (by decide)]; exact p4
        · rw [Nat.pow_succ]; omega
        · rw [us_same, g_upd, if_neg (by decide)]; exact p7
        · rw [us_same, g_upd, if_neg (by decide)]; exact p8
      · rw [if_neg (by rw [n_lle (by omega)]; exact g4), if_neg (by rw [n_lle (by omega)]; exact g4), ck_n (by omega), bM_e, look_is (a := a + i) tx1 rfl p4 p0, bi_s, if_pos g, bM_e, p7, p8, eb, n_mull, n_lmul, nI_add, nI_add, n_subl (by omega), n_subl (by omega), us_same, g_upd, if_neg (by decide), p5, n_addl, bM_e, bM_e, us_same, g_upd, if_neg (by decide), p6, n_addl]
        have pw : 10 ^ (i + 1) ≤ 10 ^ 4 := Nat.pow_le_pow_right (by decide) (by omega)
        have ps : 10 ^ (i + 1) = 10 ^ i * 10 := Nat.pow_succ ..
        refine hk (by omega) _ _ _ _ ⟨(f1.u (by omega)).u (by omega), (g1.u (by omega)).u (by omega), by omega, ?_, ?_, ?_, ?_, u_at _ _ _ _, u_at _ _ _ _, 10 * x + B (a + i) - 48, by omega, by omega, ?_, ?_⟩
        · rw [us_same, g_upd, if_neg (by decide), us_same, g_upd, if_neg (by decide)]; exact p1
        · rw [us_same, g_upd, if_neg (by decide), us_same, g_upd, if_neg (by decide)]; exact p2
        · rw [us_same, g_upd, if_neg (by decide), us_same, g_upd, if_neg (by decide)]; exact p3
        · rw [us_same, g_upd, if_neg (by decide), us_same, g_upd, if_neg (by decide)]; exact p4
        · rw [us_same, g_upd, if_neg (by decide), u_at, Nat.mul_comm x 10]
        · rw [us_same, g_upd, if_neg (by decide), u_at]
    · rw [decide_eq_false l, if_pos (show b2i false = 0 from rfl)]
      have i0 : 0 < i := by
        rcases Nat.eq_zero_or_pos i with z | z
        · subst z; exact absurd hl l
        · exact z
      by_cases q : M1.1 1 (a + i) < 48
      · rw [if_pos q]
        exact fin i0
      · rw [if_neg q]
        by_cases q2 : 57 < M1.1 1 (a + i)
        · rw [if_pos q2]
          exact fin i0
        · exfalso
          have a1 := mt (tx1.lt (L := 48) g (by omega)).mpr q
          have a2 := mt (tx1.gt (L := 57) g (by omega)).mpr q2
          omega
  · rw [if_pos (show nI n ≤ nI (a + i) by rw [n_le (by omega)]; omega), if_neg g, dig_is 0 (by decide), bi_s, decide_eq_false (by omega), if_pos (show b2i false = 0 from rfl), p6, p2]
    exact fin (by omega)
end P2
