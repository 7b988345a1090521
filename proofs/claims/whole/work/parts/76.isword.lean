section P5
variable {N n : Nat} {C S : Mem} {B : Nat → Nat}
/-- word z: one to eight letters -/
def wGood (z : Nat) : Bool := decide ((wL z).length ≤ 8) && decide (1 ≤ (wL z).length) && (wL z).all fun x => decide (97 ≤ x ∧ x ≤ 122)
abbrev wG (z : Nat) : Nat → Nat := fun i => (wL z).getD i 0
theorem wGood_at {z i : Nat} (h : wGood z = true) (hi : i < (wL z).length) : 97 ≤ wG z i ∧ wG z i ≤ 122 := by
  unfold wGood at h
  simp only [Bool.and_eq_true] at h
  have := List.all_eq_true.mp h.2 _ (List.getElem_mem hi)
  rw [decide_eq_true_eq] at this
  unfold wG
  rw [List.getD_eq_getElem?_getD, List.getElem?_eq_getElem hi]
  exact this
/-- is the token the word? -/
theorem word_is {z : Nat} (hN : 1000 < N) (hz : z < 32) (hg : wGood z = true) (tx : TxR C S n B) (tk : Tk C S n B) : ∃ b, f_X8_isWord N z C = some (b, C) ∧ f_X12_isWord (lN (wc (wG z) 0 (wL z).length)) S = some (b, S) := by
  have n9 := tx.1
  have hl : 1 ≤ (wL z).length ∧ (wL z).length ≤ 8 := by
    unfold wGood at hg
    simp only [Bool.and_eq_true, decide_eq_true_eq] at hg
    omega
  have ll := wL_len z
  have lo : Int32.ofNat (chL.getD z []).length = nI (chL.getD z []).length := by
    have : ((List.range 32).all fun z => decide (Int32.ofNat (chL.getD z []).length = nI (chL.getD z []).length)) = true := by decide +kernel
    have := List.all_eq_true.mp this z (List.mem_range.mpr hz)
    simpa using this
  obtain ⟨a, e, k, t1, t2, t3, t4, t5, t6, t7, t8, t9, t10⟩ := tk
  unfold f_X8_isWord f_X12_isWord
  rw [t8, t9]
  have kb : k ≤ 4 := by omega
  by_cases k1 : k = 1
  · subst k1
    rcases t10 with ⟨q, -⟩ | ⟨-, q1, q2, q3⟩ | ⟨q, -⟩ | ⟨q, -⟩ | q
    · omega
    · have hae := t3 (by decide)
      rw [if_pos (show nI 1 = 1 from rfl), if_pos (show nI 1 = 1 from rfl), q3]
      unfold f_J0_length_8abf5
      rw [bi_s, lo, ← ll, t6, t4, n_sub (by omega)]
      have gz : ∀ j, j < (wL z).length → 97 ≤ wG z j ∧ wG z j ≤ 122 := fun j hj => wGood_at hg hj
      have bw := wc_lt (B := wG z) (a := 0) (wL z).length fun j _ j2 => gz j (by omega)
      have p8 : 32 ^ (wL z).length ≤ 32 ^ 8 := Nat.pow_le_pow_right (by decide) hl.2
      have p8' : 32 ^ 8 = 1099511627776 := by decide
      by_cases g8 : e - a ≤ 8
      · rw [if_pos g8]
        have cs : f_X8_isSameAt N z 0 C = some (smW z 0 B a (e - a), C) := c_same (off := 0) (a := a) (m := e - a) hN hz tx t4 (by rw [t6, show a + (e - a) = e by omega]) (by omega) (by omega)
        have be := wc_lt (B := B) (a := a) (e - a) fun j j1 j2 => q1 j j1 (by omega)
        have p9 : 32 ^ (e - a) ≤ 32 ^ 8 := Nat.pow_le_pow_right (by decide) g8
        by_cases same : wc B a (e - a) = wc (wG z) 0 (wL z).length
        · obtain ⟨i1, i2⟩ := wc_inj (B := B) (a := a) (e - a) (wG z) (wL z).length (fun j hj => q1 (a + j) (by omega) (by omega)) gz same
          have sm : smW z 0 B a (e - a) = true := smW_is.mpr fun i hi => ⟨by omega, by rw [Nat.zero_add]; exact (i2 i hi).symm⟩
          rw [if_pos (by rw [i1]), cs, bi_s, sm, if_neg (by decide), if_pos (show lg_cmp (lN (wc B a (e - a))) (lN (wc (wG z) 0 (wL z).length)) = 0 by rw [lg_eq0, same])]
          exact ⟨true, rfl, rfl⟩
        · rw [if_neg (show ¬ lg_cmp (lN (wc B a (e - a))) (lN (wc (wG z) 0 (wL z).length)) = 0 by rw [lg_eq0, l_eq (by omega)]; exact same)]
          refine ⟨false, ?_, rfl⟩
          by_cases i1 : e - a = (wL z).length
          · have sm : smW z 0 B a (e - a) = false := by
              cases q : smW z 0 B a (e - a) with
              | false => rfl
              | true =>
                refine absurd ?_ same
                rw [i1]
                refine wc_cong _ fun j hj => ?_
                have := (smW_is.mp q j (by omega)).2
                rw [Nat.zero_add] at this
                exact this.symm
            rw [if_pos (by rw [i1]), cs, bi_s, sm, if_pos (by decide)]
          · rw [if_neg (by rw [n_eq (by omega)]; exact i1)]
      · rw [if_neg g8, if_neg (show ¬ nI (e - a) = nI (wL z).length by rw [n_eq (by omega)]; omega), if_neg (show ¬ lg_cmp (-1 : Int64) (lN (wc (wG z) 0 (wL z).length)) = 0 from fun y => by
          rw [lg_eq0] at y
          have := congrArg Int64.toInt y
          rw [l_toInt (by omega)] at this
          have : (-1 : Int64).toInt = -1 := by decide
          omega)]
        exact ⟨false, rfl, rfl⟩
    · omega
    · omega
    · omega
  · rw [if_neg (show ¬ nI k = 1 by rw [n_eql (by omega)]; exact k1), if_neg (show ¬ nI k = 1 by rw [n_eql (by omega)]; exact k1)]
    exact ⟨false, rfl, rfl⟩
end P5
