section P3
variable {N n lo : Nat} {C S : Mem} {B : Nat → Nat}
theorem adv_tok {M M' : Mem} {a : Nat} (hlo : lo ≤ a) (hN : 1000 < N) (tx : TxR C S n B) (fc : FkC C M) (fs : FkS S M') (h1 : M.1 82 1 = nI n) (h9 : M'.1 200 9 = nI n) (c3 : M.1 82 3 = nI a) (s15 : M'.1 200 15 = nI a) (ha : a ≤ n) : AdvR C S n B lo (f_X8_advance_b60 N M) (f_X12_advance_b58 N M') := by
  have n9 := tx.1
  have fc3 : FkC C (uI (uI M 82 4 (nI a)) 82 5 0) := (fc.u (by omega)).u (by omega)
  have fs2 : FkS S (uI M' 200 16 (nI a)) := fs.u (by omega)
  have a3 : (uI (uI M 82 4 (nI a)) 82 5 0).1 82 3 = nI a := by rw [us_same, g_upd, if_neg (by decide), us_same, g_upd, if_neg (by decide)]; exact c3
  have a4 : (uI (uI M 82 4 (nI a)) 82 5 0).1 82 4 = nI a := by rw [us_same, g_upd, if_neg (by decide), u_at]
  have a1 : (uI (uI M 82 4 (nI a)) 82 5 0).1 82 1 = nI n := by rw [us_same, g_upd, if_neg (by decide), us_same, g_upd, if_neg (by decide)]; exact h1
  have a5 : (uI (uI M 82 4 (nI a)) 82 5 0).1 82 5 = 0 := u_at _ _ _ _
  have d15 : (uI M' 200 16 (nI a)).1 200 15 = nI a := by rw [us_same, g_upd, if_neg (by decide)]; exact s15
  have d16 : (uI M' 200 16 (nI a)).1 200 16 = nI a := u_at _ _ _ _
  have d9 : (uI M' 200 16 (nI a)).1 200 9 = nI n := by rw [us_same, g_upd, if_neg (by decide)]; exact h9
  unfold f_X8_advance_b60 f_X12_advance_b58
  rw [bM_e, bM_e, bM_e, c3, s15, d15, d9]
  generalize uI (uI M 82 4 (nI a)) 82 5 0 = M3 at *
  generalize uI M' 200 16 (nI a) = M2 at *
  have tx3 := tx.fk fc3 fs2
  have nolet : (a < n → ¬ (97 ≤ B a ∧ B a ≤ 122)) → lp (fun k (_ : Unit) m => f_X8_advance_h73 N k m) N () M3 = lp (fun k (_ : Unit) m => f_X8_advance_h142 N k m) N () M3 := fun hl => by
    obtain ⟨F, rfl⟩ : ∃ F, N = F + 1 := ⟨N - 1, by omega⟩
    show f_X8_advance_h73 (F + 1) (lp (fun k (_ : Unit) m => f_X8_advance_h73 (F + 1) k m) F) M3 = _
    unfold f_X8_advance_h73 f_X8_advance_b125
    rw [a4, a1, a3, if_pos (show nI a ≤ nI a by rw [n_le (by omega)]; omega)]
    by_cases g : a < n
    · rw [if_neg (show ¬ nI n ≤ nI a by rw [n_le (by omega)]; omega), ck_n (by omega), ck_n (by omega), t_n (by omega)]
      by_cases q : M3.1 1 a < 97
      · rw [if_pos q]
      · rw [if_neg q]
        by_cases q2 : 122 < M3.1 1 a
        · rw [if_pos q2]
        · exfalso
          have a1 := mt (tx3.lt (L := 97) g (by omega)).mpr q
          have a2 := mt (tx3.gt (L := 122) g (by omega)).mpr q2
          have := (tx3.2 a g).1
          exact hl g (by omega)
    · rw [if_pos (show nI n ≤ nI a by rw [n_le (by omega)]; omega)]
  have nodig : (a < n → ¬ (48 ≤ B a ∧ B a ≤ 57)) → lp (fun k (_ : Unit) m => f_X8_advance_h142 N k m) N () M3 = f_X8_advance_b231 N M3 := fun hl => by
    obtain ⟨F, rfl⟩ : ∃ F, N = F + 1 := ⟨N - 1, by omega⟩
    show f_X8_advance_h142 (F + 1) (lp (fun k (_ : Unit) m => f_X8_advance_h142 (F + 1) k m) F) M3 = _
    unfold f_X8_advance_h142
    rw [a4, a1]
    by_cases g : a < n
    · rw [if_neg (show ¬ nI n ≤ nI a by rw [n_le (by omega)]; omega), ck_n (by omega), ck_n (by omega), t_n (by omega)]
      by_cases q : M3.1 1 a < 48
      · rw [if_pos q]
      · rw [if_neg q]
        by_cases q2 : 57 < M3.1 1 a
        · rw [if_pos q2]
        · exfalso
          have a1 := mt (tx3.lt (L := 48) g (by omega)).mpr q
          have a2 := mt (tx3.gt (L := 57) g (by omega)).mpr q2
          have := (tx3.2 a g).1
          exact hl g (by omega)
    · rw [if_pos (show nI n ≤ nI a by rw [n_le (by omega)]; omega)]
  by_cases g : a < n
  · obtain ⟨b1, b2, b3, b4⟩ := tx3.2 a g
    rw [if_pos (show nI a < nI n by rw [n_lt (by omega)]; exact g), look_is (a := a) tx3 rfl d9 ha, if_pos g, bi_s, let_is _ b1, bi_s]
    by_cases l : 97 ≤ B a ∧ B a ≤ 122
    · rw [decide_eq_true l, if_neg (show ¬ b2i true = 0 by decide), bM_e, bM_e]
      refine adv_let hlo hN tx fc3 ((fs2.u (by omega)).l) a1 ?_ a3 ?_ a4 ?_ ?_ ?_ g l
      · show (uI M2 200 14 1).1 200 9 = _
        rw [us_same, g_upd, if_neg (by decide)]; exact d9
      · show (uI M2 200 14 1).1 200 15 = _
        rw [us_same, g_upd, if_neg (by decide)]; exact d15
      · show (uI M2 200 14 1).1 200 16 = _
        rw [us_same, g_upd, if_neg (by decide)]; exact d16
      · show (uI M2 200 14 1).1 200 14 = _
        exact u_at _ _ _ _
      · rw [g_uL, if_pos rfl, g_updL, if_pos rfl]
    · rw [decide_eq_false l, if_pos (show b2i false = 0 from rfl), dig_is _ b1, bi_s, nolet fun _ => l]
      by_cases d : 48 ≤ B a ∧ B a ≤ 57
      · rw [decide_eq_true d, if_neg (show ¬ b2i true = 0 by decide), bM_e]
        refine adv_dig hlo hN tx fc3 (fs2.u (by omega)) a1 ?_ a3 ?_ a4 ?_ a5 (u_at _ _ _ _) g d
        · rw [us_same, g_upd, if_neg (by decide)]; exact d9
        · rw [us_same, g_upd, if_neg (by decide)]; exact d15
        · rw [us_same, g_upd, if_neg (by decide)]; exact d16
      · rw [decide_eq_false d, if_pos (show b2i false = 0 from rfl), nodig fun _ => d, bM_e, bM_e, d15, n_addl, sgn_is _ b1, bi_s]
        unfold f_X8_advance_b231
        have e3 : (uI M3 82 2 0).1 82 3 = nI a := by rw [us_same, g_upd, if_neg (by decide)]; exact a3
        have e1 : (uI M3 82 2 0).1 82 1 = nI n := by rw [us_same, g_upd, if_neg (by decide)]; exact a1
        have eb : (uI M3 82 2 0).1 1 = M3.1 1 := u_ne (by decide)
        rw [a4, a3, if_pos (show nI a ≤ nI a by rw [n_le (by omega)]; omega), bM_e, e1, e3, if_neg (show ¬ nI n ≤ nI a by rw [n_le (by omega)]; omega), ck_n (by omega), bM_e, t_n (by omega), eb, us_same, g_upd, if_neg (by decide), e3, n_addl, bM_e]
        have fc4 : FkC C (uI (uI (uI M3 82 2 0) 82 5 (M3.1 1 a)) 82 4 (nI (a + 1))) := ((fc3.u (by omega)).u (by omega)).u (by omega)
        have fs4 : FkS S (uI (uI M2 200 16 (nI (a + 1))) 200 17 (nI (B a))) := (fs2.u (by omega)).u (by omega)
        have c3' : (uI (uI (uI M3 82 2 0) 82 5 (M3.1 1 a)) 82 4 (nI (a + 1))).1 82 3 = nI a := by rw [us_same, g_upd, if_neg (by decide), us_same, g_upd, if_neg (by decide)]; exact e3
        have c4' : (uI (uI (uI M3 82 2 0) 82 5 (M3.1 1 a)) 82 4 (nI (a + 1))).1 82 4 = nI (a + 1) := u_at _ _ _ _
        have c5' : (uI (uI (uI M3 82 2 0) 82 5 (M3.1 1 a)) 82 4 (nI (a + 1))).1 82 5 = M3.1 1 a := by rw [us_same, g_upd, if_neg (by decide), u_at]
        have s15' : (uI (uI M2 200 16 (nI (a + 1))) 200 17 (nI (B a))).1 200 15 = nI a := by rw [us_same, g_upd, if_neg (by decide), us_same, g_upd, if_neg (by decide)]; exact d15
        have s16' : (uI (uI M2 200 16 (nI (a + 1))) 200 17 (nI (B a))).1 200 16 = nI (a + 1) := by rw [us_same, g_upd, if_neg (by decide), u_at]
        have s17' : (uI (uI M2 200 16 (nI (a + 1))) 200 17 (nI (B a))).1 200 17 = nI (B a) := u_at _ _ _ _
        generalize uI (uI (uI M3 82 2 0) 82 5 (M3.1 1 a)) 82 4 (nI (a + 1)) = M4 at *
        generalize uI (uI M2 200 16 (nI (a + 1))) 200 17 (nI (B a)) = M5 at *
        rw [c5']
        have put : ∀ y, (y = 3 ∧ 59 ≤ B a ∧ B a ≤ 62 ∨ y = 4) → AdvR C S n B lo (bM (uI M4 82 2 (nI y)) fun M_8 => some M_8) (bM (uI M5 200 14 (nI y)) fun M_17 => some M_17) := fun y hy => by
          rw [bM_e, bM_e]
          refine ⟨_, _, rfl, rfl, fc4.u (by omega), fs4.u (by omega), ⟨a, hlo, by omega, by rw [us_same, g_upd, if_neg (by decide)]; exact c3'⟩, a, a + 1, y, by omega, by omega, fun _ => by omega, ?_, ?_, ?_, ?_, u_at _ _ _ _, u_at _ _ _ _, ?_⟩
          · rw [us_same, g_upd, if_neg (by decide)]; exact c3'
          · rw [us_same, g_upd, if_neg (by decide)]; exact s15'
          · rw [us_same, g_upd, if_neg (by decide)]; exact c4'
          · rw [us_same, g_upd, if_neg (by decide)]; exact s16'
          · rcases hy with ⟨rfl, hy⟩ | rfl
            · exact Or.inr (Or.inr (Or.inr (Or.inl ⟨rfl, B a, hy, by rw [us_same, g_upd, if_neg (by decide), c5']; exact b3 (by omega), by rw [us_same, g_upd, if_neg (by decide)]; exact s17'⟩)))
            · exact Or.inr (Or.inr (Or.inr (Or.inr rfl)))
        by_cases s : 59 ≤ B a ∧ B a ≤ 62
        · rw [decide_eq_true s, if_neg (show ¬ b2i true = 0 by decide), b3 (by omega)]
          obtain q | q | q | q : B a = 59 ∨ B a = 60 ∨ B a = 62 ∨ B a = 61 := by omega
          · rw [q, if_pos (show nI 59 = 59 from rfl)]
            exact put 3 (Or.inl ⟨rfl, s⟩)
          · rw [q, if_neg (show ¬ nI 60 = 59 by decide), if_pos (show nI 60 = 60 from rfl)]
            exact put 3 (Or.inl ⟨rfl, s⟩)
          · rw [q, if_neg (show ¬ nI 62 = 59 by decide), if_neg (show ¬ nI 62 = 60 by decide), if_pos (show nI 62 = 62 from rfl)]
            exact put 3 (Or.inl ⟨rfl, s⟩)
          · rw [q, if_neg (show ¬ nI 61 = 59 by decide), if_neg (show ¬ nI 61 = 60 by decide), if_neg (show ¬ nI 61 = 62 by decide), if_pos (show nI 61 = 61 from rfl)]
            exact put 3 (Or.inl ⟨rfl, s⟩)
        · rw [decide_eq_false s, if_pos (show b2i false = 0 from rfl), if_neg (show ¬ M3.1 1 a = 59 from fun z => by have := (tx3.eq (L := 59) g (by omega)).mp z; omega), if_neg (show ¬ M3.1 1 a = 60 from fun z => by have := (tx3.eq (L := 60) g (by omega)).mp z; omega), if_neg (show ¬ M3.1 1 a = 62 from fun z => by have := (tx3.eq (L := 62) g (by omega)).mp z; omega), if_neg (show ¬ M3.1 1 a = 61 from fun z => by have := (tx3.eq (L := 61) g (by omega)).mp z; omega)]
          exact put 4 (Or.inr rfl)
  · have ea : a = n := by omega
    rw [if_neg (show ¬ nI a < nI n by rw [n_lt (by omega)]; exact g), nolet fun q => absurd q g, nodig fun q => absurd q g]
    unfold f_X8_advance_b231
    have e3 : (uI M3 82 2 0).1 82 3 = nI a := by rw [us_same, g_upd, if_neg (by decide)]; exact a3
    have e1 : (uI M3 82 2 0).1 82 1 = nI n := by rw [us_same, g_upd, if_neg (by decide)]; exact a1
    rw [a4, a3, if_pos (show nI a ≤ nI a by rw [n_le (by omega)]; omega), bM_e, e1, e3, if_pos (show nI n ≤ nI a by rw [n_le (by omega)]; omega), bM_e]
    refine ⟨_, _, rfl, rfl, fc3.u (by omega), fs2.u (by omega), ⟨a, hlo, ha, e3⟩, a, a, 0, by omega, ha, fun q => absurd rfl q, e3, ?_, ?_, ?_, u_at _ _ _ _, u_at _ _ _ _, Or.inl ⟨rfl, ea⟩⟩
    · rw [us_same, g_upd, if_neg (by decide)]; exact d15
    · rw [us_same, g_upd, if_neg (by decide)]; exact a4
    · rw [us_same, g_upd, if_neg (by decide)]; exact d16
/-- both go on to the next token -/
theorem adv {z : Nat} (hN : 1000 < N) (tx : TxR C S n B) (h1 : C.1 82 1 = nI n) (h9 : S.1 200 9 = nI n) (c4 : C.1 82 4 = nI z) (s16 : S.1 200 16 = nI z) (hz : z ≤ n) : AdvR C S n B z (f_X8_advance N C) (f_X12_advance N S) := by
  have n9 := tx.1
  unfold f_X8_advance f_X12_advance
  rw [bM_e, bM_e, c4, s16]
  refine lq2 (R := AdvR C S n B z) (fun i _ M _ M' => FkC C M ∧ FkS S M' ∧ z + i ≤ n ∧ M.1 82 1 = nI n ∧ M'.1 200 9 = nI n ∧ M.1 82 3 = nI (z + i) ∧ M'.1 200 15 = nI (z + i)) (n - z) (by omega) (by omega) ⟨FkC.rf.u (by omega), FkS.rf.u (by omega), by omega, by rw [us_same, g_upd, if_neg (by decide)]; exact h1, by rw [us_same, g_upd, if_neg (by decide)]; exact h9, u_at _ _ _ _, u_at _ _ _ _⟩ ?_
  rintro i hi k k' hk _ M _ M' ⟨fc, fs, p0, p1, p2, p3, p4⟩
  have tx1 := tx.fk fc fs
  have tok := adv_tok (lo := z) (by omega) hN tx fc fs p1 p2 p3 p4 p0
  unfold f_X8_advance_h8 f_X12_advance_h8
  rw [p1, p3, p2, p4]
  by_cases g : z + i < n
  · obtain ⟨b1, b2, b3, b4⟩ := tx1.2 (z + i) g
    rw [if_neg (show ¬ nI n ≤ nI (z + i) by rw [n_le (by omega)]; omega), if_neg (show ¬ nI n ≤ nI (z + i) by rw [n_le (by omega)]; omega), ck_n (by omega), ck_n (by omega), t_n (by omega), look_is (a := z + i) tx1 rfl p2 p0, if_pos g, bi_s, p4, look_is (a := z + i) tx1 rfl p2 p0, if_pos g, bi_s]
    have nxt : AdvR C S n B z (f_X8_advance_b47 N k M) (f_X12_advance_b45 N k' M') := by
      unfold f_X8_advance_b47 f_X12_advance_b45
      rw [bM_e, bM_e, p3, p4, n_addl]
      refine hk (by omega) _ _ _ _ ⟨fc.u (by omega), fs.u (by omega), by omega, ?_, ?_, u_at _ _ _ _, u_at _ _ _ _⟩
      · rw [us_same, g_upd, if_neg (by decide)]; exact p1
      · rw [us_same, g_upd, if_neg (by decide)]; exact p2
    by_cases q : B (z + i) = 10
    · rw [if_pos (show M.1 1 (z + i) = 10 from (tx1.eq (L := 10) g (by omega)).mpr q), if_pos (show nI (B (z + i)) = 10 by rw [q]; rfl)]
      exact nxt
    · rw [if_neg (show ¬ M.1 1 (z + i) = 10 from fun y => q ((tx1.eq (L := 10) g (by omega)).mp y)), if_neg (show ¬ nI (B (z + i)) = 10 by rw [n_eql (by omega)]; exact q)]
      by_cases q2 : B (z + i) = 32
      · rw [if_pos (show M.1 1 (z + i) = 32 from (tx1.eq (L := 32) g (by omega)).mpr q2), if_pos (show nI (B (z + i)) = 32 by rw [q2]; rfl)]
        exact nxt
      · rw [if_neg (show ¬ M.1 1 (z + i) = 32 from fun y => q2 ((tx1.eq (L := 32) g (by omega)).mp y)), if_neg (show ¬ nI (B (z + i)) = 32 by rw [n_eql (by omega)]; exact q2)]
        exact tok
  · rw [if_pos (show nI n ≤ nI (z + i) by rw [n_le (by omega)]; omega), if_pos (show nI n ≤ nI (z + i) by rw [n_le (by omega)]; omega)]
    exact tok
end P3
