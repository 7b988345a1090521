section P8
variable {N n : Nat} {C S : Mem} {B : Nat → Nat}
/-- a name's number, of the class -/
theorem c_code {a m : Nat} (hN : 1000 < N) (tx : TxR C S n B) (c3 : C.1 82 3 = nI a) (c4 : C.1 82 4 = nI (a + m)) (ham : a + m ≤ n) (hl : ∀ j, a ≤ j → j < a + m → 97 ≤ B j ∧ B j ≤ 122) : f_X8_nameCode N C = some (lN (wc B a m), C) := by
  have n9 := tx.1
  have key : Ho (f_X8_nameCode N C) (fun q => q = (lN (wc B a m), C)) := by
    unfold f_X8_nameCode
    rw [c3]
    refine Ho_lp (fun i s M => s = (lN (wc B a i), nI (a + i)) ∧ C = M ∧ i ≤ m) m (by omega) ⟨rfl, rfl, by omega⟩ ?_
    rintro i hi k hk _ M1 ⟨rfl, e1, him⟩
    rw [← e1]
    unfold f_X8_nameCode_h7
    dsimp only
    rw [c4]
    by_cases g : m ≤ i
    · rw [if_pos (by rw [n_le (by omega)]; omega), Ho_some]
      have : i = m := by omega
      rw [this]
    · have hb := hl (a + i) (by omega) (by omega)
      have eb := (tx.2 (a + i) (by omega)).2.2.1 (by omega)
      rw [if_neg (by rw [n_le (by omega)]; omega), ck_n (by omega), t_n (by omega), eb, nI_l (by omega), show (32 : Int64) = lN 32 from rfl, l_mul, l_add, show (97 : Int64) = lN 97 from rfl, l_sub (by omega), show (1 : Int64) = lN 1 from rfl, l_add, bL_e, n_addl]
      refine hk (by omega) _ _ ⟨?_, rfl, by omega⟩
      rw [wc, show wc B a i * 32 + B (a + i) - 97 + 1 = wc B a i * 32 + (B (a + i) - 96) by omega]
      rfl
  obtain ⟨q, e, rfl⟩ := key
  exact e
end P8
