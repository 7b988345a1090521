section P6
variable {N n : Nat} {C S : Mem} {B : Nat → Nat}
theorem sp_m (a b c d e f : Int32) (M : Mem) : ∃ r, ∀ M, f_X12_spelled a b c d e f M = some (r, M) := by
  unfold f_X12_spelled f_X12_spelled_b41 f_X12_spelled_b65 f_X12_spelled_b91
  simp only [bL_e]
  by_cases h1 : c ≤ 0 <;> by_cases h2 : d ≤ 0 <;> by_cases h3 : e ≤ 0 <;> by_cases h4 : f ≤ 0
  all_goals simp only [h1, h2, h3, h4, if_true, if_false]
  all_goals exact ⟨_, fun _ => rfl⟩
theorem sp_go {a b c d e f : Int32} {w : Int64} {M0 M : Mem} (h : (f_X12_spelled a b c d e f M0).map Prod.fst = some w) : f_X12_spelled a b c d e f M = some (w, M) := by
  obtain ⟨r, hr⟩ := sp_m a b c d e f M
  rw [hr] at h ⊢
  cases h
  rfl
/-- the number of word z -/
abbrev wN (z : Nat) : Int64 := lN (wc (wG z) 0 (wL z).length)
theorem sp_0 (M : Mem) : f_X12_spelled 112 111 114 116 0 0 M = some (wN 0, M) := by
  have e : (f_X12_spelled 112 111 114 116 0 0 (fun _ _ => 0, fun _ _ => 0)).map Prod.fst = some (wN 0) := by decide +kernel
  exact sp_go e
theorem sp_1 (M : Mem) : f_X12_spelled 98 121 0 0 0 0 M = some (wN 1, M) := by
  have e : (f_X12_spelled 98 121 0 0 0 0 (fun _ _ => 0, fun _ _ => 0)).map Prod.fst = some (wN 1) := by decide +kernel
  exact sp_go e
theorem sp_2 (M : Mem) : f_X12_spelled 103 97 116 101 0 0 M = some (wN 2, M) := by
  have e : (f_X12_spelled 103 97 116 101 0 0 (fun _ _ => 0, fun _ _ => 0)).map Prod.fst = some (wN 2) := by decide +kernel
  exact sp_go e
theorem sp_4 (M : Mem) : f_X12_spelled 97 116 0 0 0 0 M = some (wN 4, M) := by
  have e : (f_X12_spelled 97 116 0 0 0 0 (fun _ _ => 0, fun _ _ => 0)).map Prod.fst = some (wN 4) := by decide +kernel
  exact sp_go e
theorem sp_5 (M : Mem) : f_X12_spelled 108 101 116 115 0 0 M = some (wN 5, M) := by
  have e : (f_X12_spelled 108 101 116 115 0 0 (fun _ _ => 0, fun _ _ => 0)).map Prod.fst = some (wN 5) := by decide +kernel
  exact sp_go e
theorem sp_7 (M : Mem) : f_X12_spelled 111 112 101 110 0 0 M = some (wN 7, M) := by
  have e : (f_X12_spelled 111 112 101 110 0 0 (fun _ _ => 0, fun _ _ => 0)).map Prod.fst = some (wN 7) := by decide +kernel
  exact sp_go e
theorem sp_8 (M : Mem) : f_X12_spelled 113 117 111 116 97 0 M = some (wN 8, M) := by
  have e : (f_X12_spelled 113 117 111 116 97 0 (fun _ _ => 0, fun _ _ => 0)).map Prod.fst = some (wN 8) := by decide +kernel
  exact sp_go e
theorem sp_9 (M : Mem) : f_X12_spelled 104 111 108 100 101 114 M = some (wN 9, M) := by
  have e : (f_X12_spelled 104 111 108 100 101 114 (fun _ _ => 0, fun _ _ => 0)).map Prod.fst = some (wN 9) := by decide +kernel
  exact sp_go e
theorem sp_10 (M : Mem) : f_X12_spelled 118 111 116 101 115 0 M = some (wN 10, M) := by
  have e : (f_X12_spelled 118 111 116 101 115 0 (fun _ _ => 0, fun _ _ => 0)).map Prod.fst = some (wN 10) := by decide +kernel
  exact sp_go e
theorem sp_11 (M : Mem) : f_X12_spelled 116 114 97 100 101 0 M = some (wN 11, M) := by
  have e : (f_X12_spelled 116 114 97 100 101 0 (fun _ _ => 0, fun _ _ => 0)).map Prod.fst = some (wN 11) := by decide +kernel
  exact sp_go e
theorem sp_12 (M : Mem) : f_X12_spelled 102 114 111 109 0 0 M = some (wN 12, M) := by
  have e : (f_X12_spelled 102 114 111 109 0 0 (fun _ _ => 0, fun _ _ => 0)).map Prod.fst = some (wN 12) := by decide +kernel
  exact sp_go e
theorem sp_13 (M : Mem) : f_X12_spelled 116 111 0 0 0 0 M = some (wN 13, M) := by
  have e : (f_X12_spelled 116 111 0 0 0 0 (fun _ _ => 0, fun _ _ => 0)).map Prod.fst = some (wN 13) := by decide +kernel
  exact sp_go e
theorem sp_14 (M : Mem) : f_X12_spelled 112 97 121 115 0 0 M = some (wN 14, M) := by
  have e : (f_X12_spelled 112 97 121 115 0 0 (fun _ _ => 0, fun _ _ => 0)).map Prod.fst = some (wN 14) := by decide +kernel
  exact sp_go e
theorem sp_15 (M : Mem) : f_X12_spelled 99 108 101 97 114 0 M = some (wN 15, M) := by
  have e : (f_X12_spelled 99 108 101 97 114 0 (fun _ _ => 0, fun _ _ => 0)).map Prod.fst = some (wN 15) := by decide +kernel
  exact sp_go e
theorem sp_16 (M : Mem) : f_X12_spelled 115 104 105 112 0 0 M = some (wN 16, M) := by
  have e : (f_X12_spelled 115 104 105 112 0 0 (fun _ _ => 0, fun _ _ => 0)).map Prod.fst = some (wN 16) := by decide +kernel
  exact sp_go e
theorem sp_17 (M : Mem) : f_X12_spelled 100 97 114 107 0 0 M = some (wN 17, M) := by
  have e : (f_X12_spelled 100 97 114 107 0 0 (fun _ _ => 0, fun _ _ => 0)).map Prod.fst = some (wN 17) := by decide +kernel
  exact sp_go e
theorem sp_18 (M : Mem) : f_X12_spelled 119 105 110 100 0 0 M = some (wN 18, M) := by
  have e : (f_X12_spelled 119 105 110 100 0 0 (fun _ _ => 0, fun _ _ => 0)).map Prod.fst = some (wN 18) := by decide +kernel
  exact sp_go e
theorem sp_19 (M : Mem) : f_X12_spelled 116 104 105 110 115 0 M = some (wN 19, M) := by
  have e : (f_X12_spelled 116 104 105 110 115 0 (fun _ _ => 0, fun _ _ => 0)).map Prod.fst = some (wN 19) := by decide +kernel
  exact sp_go e
theorem sp_20 (M : Mem) : f_X12_spelled 102 111 103 103 121 0 M = some (wN 20, M) := by
  have e : (f_X12_spelled 102 111 103 103 121 0 (fun _ _ => 0, fun _ _ => 0)).map Prod.fst = some (wN 20) := by decide +kernel
  exact sp_go e
theorem sp_21 (M : Mem) : f_X12_spelled 101 110 100 0 0 0 M = some (wN 21, M) := by
  have e : (f_X12_spelled 101 110 100 0 0 0 (fun _ _ => 0, fun _ _ => 0)).map Prod.fst = some (wN 21) := by decide +kernel
  exact sp_go e
theorem sp_22 (M : Mem) : f_X12_spelled 104 111 117 114 0 0 M = some (wN 22, M) := by
  have e : (f_X12_spelled 104 111 117 114 0 0 (fun _ _ => 0, fun _ _ => 0)).map Prod.fst = some (wN 22) := by decide +kernel
  exact sp_go e
theorem sp_24 (M : Mem) : f_X12_spelled 115 104 117 116 0 0 M = some (wN 24, M) := by
  have e : (f_X12_spelled 115 104 117 116 0 0 (fun _ _ => 0, fun _ _ => 0)).map Prod.fst = some (wN 24) := by decide +kernel
  exact sp_go e
theorem sp_26 (M : Mem) : f_X12_spelled 115 116 111 114 109 0 M = some (wN 26, M) := by
  have e : (f_X12_spelled 115 116 111 114 109 0 (fun _ _ => 0, fun _ _ => 0)).map Prod.fst = some (wN 26) := by decide +kernel
  exact sp_go e
theorem sp_27 (M : Mem) : f_X12_spelled 119 104 101 110 0 0 M = some (wN 27, M) := by
  have e : (f_X12_spelled 119 104 101 110 0 0 (fun _ _ => 0, fun _ _ => 0)).map Prod.fst = some (wN 27) := by decide +kernel
  exact sp_go e
theorem sp_28 (M : Mem) : f_X12_spelled 108 111 111 112 0 0 M = some (wN 28, M) := by
  have e : (f_X12_spelled 108 111 111 112 0 0 (fun _ _ => 0, fun _ _ => 0)).map Prod.fst = some (wN 28) := by decide +kernel
  exact sp_go e
theorem sp_29 (M : Mem) : f_X12_spelled 115 116 111 112 0 0 M = some (wN 29, M) := by
  have e : (f_X12_spelled 115 116 111 112 0 0 (fun _ _ => 0, fun _ _ => 0)).map Prod.fst = some (wN 29) := by decide +kernel
  exact sp_go e
theorem w_0 (hN : 1000 < N) (tx : TxR C S n B) (tk : Tk C S n B) : ∃ b, f_X8_isWord N 0 C = some (b, C) ∧ f_X12_isPort S = some (b, S) := by
  obtain ⟨b, h1, h2⟩ := word_is (z := 0) hN (by decide) (by decide +kernel) tx tk
  refine ⟨b, h1, ?_⟩
  unfold f_X12_isPort
  rw [sp_0, bi_s, show f_X12_isWord (wN 0) S = _ from h2, bi_s]
theorem w_1 (hN : 1000 < N) (tx : TxR C S n B) (tk : Tk C S n B) : ∃ b, f_X8_isWord N 1 C = some (b, C) ∧ f_X12_isBy S = some (b, S) := by
  obtain ⟨b, h1, h2⟩ := word_is (z := 1) hN (by decide) (by decide +kernel) tx tk
  refine ⟨b, h1, ?_⟩
  unfold f_X12_isBy
  rw [sp_1, bi_s, show f_X12_isWord (wN 1) S = _ from h2, bi_s]
theorem w_2 (hN : 1000 < N) (tx : TxR C S n B) (tk : Tk C S n B) : ∃ b, f_X8_isWord N 2 C = some (b, C) ∧ f_X12_isGate S = some (b, S) := by
  obtain ⟨b, h1, h2⟩ := word_is (z := 2) hN (by decide) (by decide +kernel) tx tk
  refine ⟨b, h1, ?_⟩
  unfold f_X12_isGate
  rw [sp_2, bi_s, show f_X12_isWord (wN 2) S = _ from h2, bi_s]
theorem w_4 (hN : 1000 < N) (tx : TxR C S n B) (tk : Tk C S n B) : ∃ b, f_X8_isWord N 4 C = some (b, C) ∧ f_X12_isAt S = some (b, S) := by
  obtain ⟨b, h1, h2⟩ := word_is (z := 4) hN (by decide) (by decide +kernel) tx tk
  refine ⟨b, h1, ?_⟩
  unfold f_X12_isAt
  rw [sp_4, bi_s, show f_X12_isWord (wN 4) S = _ from h2, bi_s]
theorem w_5 (hN : 1000 < N) (tx : TxR C S n B) (tk : Tk C S n B) : ∃ b, f_X8_isWord N 5 C = some (b, C) ∧ f_X12_isLets S = some (b, S) := by
  obtain ⟨b, h1, h2⟩ := word_is (z := 5) hN (by decide) (by decide +kernel) tx tk
  refine ⟨b, h1, ?_⟩
  unfold f_X12_isLets
  rw [sp_5, bi_s, show f_X12_isWord (wN 5) S = _ from h2, bi_s]
theorem w_7 (hN : 1000 < N) (tx : TxR C S n B) (tk : Tk C S n B) : ∃ b, f_X8_isWord N 7 C = some (b, C) ∧ f_X12_isOpen S = some (b, S) := by
  obtain ⟨b, h1, h2⟩ := word_is (z := 7) hN (by decide) (by decide +kernel) tx tk
  refine ⟨b, h1, ?_⟩
  unfold f_X12_isOpen
  rw [sp_7, bi_s, show f_X12_isWord (wN 7) S = _ from h2, bi_s]
theorem w_8 (hN : 1000 < N) (tx : TxR C S n B) (tk : Tk C S n B) : ∃ b, f_X8_isWord N 8 C = some (b, C) ∧ f_X12_isQuota S = some (b, S) := by
  obtain ⟨b, h1, h2⟩ := word_is (z := 8) hN (by decide) (by decide +kernel) tx tk
  refine ⟨b, h1, ?_⟩
  unfold f_X12_isQuota
  rw [sp_8, bi_s, show f_X12_isWord (wN 8) S = _ from h2, bi_s]
theorem w_9 (hN : 1000 < N) (tx : TxR C S n B) (tk : Tk C S n B) : ∃ b, f_X8_isWord N 9 C = some (b, C) ∧ f_X12_isHolder S = some (b, S) := by
  obtain ⟨b, h1, h2⟩ := word_is (z := 9) hN (by decide) (by decide +kernel) tx tk
  refine ⟨b, h1, ?_⟩
  unfold f_X12_isHolder
  rw [sp_9, bi_s, show f_X12_isWord (wN 9) S = _ from h2, bi_s]
theorem w_10 (hN : 1000 < N) (tx : TxR C S n B) (tk : Tk C S n B) : ∃ b, f_X8_isWord N 10 C = some (b, C) ∧ f_X12_isVotes S = some (b, S) := by
  obtain ⟨b, h1, h2⟩ := word_is (z := 10) hN (by decide) (by decide +kernel) tx tk
  refine ⟨b, h1, ?_⟩
  unfold f_X12_isVotes
  rw [sp_10, bi_s, show f_X12_isWord (wN 10) S = _ from h2, bi_s]
theorem w_11 (hN : 1000 < N) (tx : TxR C S n B) (tk : Tk C S n B) : ∃ b, f_X8_isWord N 11 C = some (b, C) ∧ f_X12_isTrade S = some (b, S) := by
  obtain ⟨b, h1, h2⟩ := word_is (z := 11) hN (by decide) (by decide +kernel) tx tk
  refine ⟨b, h1, ?_⟩
  unfold f_X12_isTrade
  rw [sp_11, bi_s, show f_X12_isWord (wN 11) S = _ from h2, bi_s]
theorem w_12 (hN : 1000 < N) (tx : TxR C S n B) (tk : Tk C S n B) : ∃ b, f_X8_isWord N 12 C = some (b, C) ∧ f_X12_isFrom S = some (b, S) := by
  obtain ⟨b, h1, h2⟩ := word_is (z := 12) hN (by decide) (by decide +kernel) tx tk
  refine ⟨b, h1, ?_⟩
  unfold f_X12_isFrom
  rw [sp_12, bi_s, show f_X12_isWord (wN 12) S = _ from h2, bi_s]
theorem w_13 (hN : 1000 < N) (tx : TxR C S n B) (tk : Tk C S n B) : ∃ b, f_X8_isWord N 13 C = some (b, C) ∧ f_X12_isTo S = some (b, S) := by
  obtain ⟨b, h1, h2⟩ := word_is (z := 13) hN (by decide) (by decide +kernel) tx tk
  refine ⟨b, h1, ?_⟩
  unfold f_X12_isTo
  rw [sp_13, bi_s, show f_X12_isWord (wN 13) S = _ from h2, bi_s]
theorem w_14 (hN : 1000 < N) (tx : TxR C S n B) (tk : Tk C S n B) : ∃ b, f_X8_isWord N 14 C = some (b, C) ∧ f_X12_isPays S = some (b, S) := by
  obtain ⟨b, h1, h2⟩ := word_is (z := 14) hN (by decide) (by decide +kernel) tx tk
  refine ⟨b, h1, ?_⟩
  unfold f_X12_isPays
  rw [sp_14, bi_s, show f_X12_isWord (wN 14) S = _ from h2, bi_s]
theorem w_15 (hN : 1000 < N) (tx : TxR C S n B) (tk : Tk C S n B) : ∃ b, f_X8_isWord N 15 C = some (b, C) ∧ f_X12_isClear S = some (b, S) := by
  obtain ⟨b, h1, h2⟩ := word_is (z := 15) hN (by decide) (by decide +kernel) tx tk
  refine ⟨b, h1, ?_⟩
  unfold f_X12_isClear
  rw [sp_15, bi_s, show f_X12_isWord (wN 15) S = _ from h2, bi_s]
theorem w_16 (hN : 1000 < N) (tx : TxR C S n B) (tk : Tk C S n B) : ∃ b, f_X8_isWord N 16 C = some (b, C) ∧ f_X12_isShip S = some (b, S) := by
  obtain ⟨b, h1, h2⟩ := word_is (z := 16) hN (by decide) (by decide +kernel) tx tk
  refine ⟨b, h1, ?_⟩
  unfold f_X12_isShip
  rw [sp_16, bi_s, show f_X12_isWord (wN 16) S = _ from h2, bi_s]
theorem w_17 (hN : 1000 < N) (tx : TxR C S n B) (tk : Tk C S n B) : ∃ b, f_X8_isWord N 17 C = some (b, C) ∧ f_X12_isDark S = some (b, S) := by
  obtain ⟨b, h1, h2⟩ := word_is (z := 17) hN (by decide) (by decide +kernel) tx tk
  refine ⟨b, h1, ?_⟩
  unfold f_X12_isDark
  rw [sp_17, bi_s, show f_X12_isWord (wN 17) S = _ from h2, bi_s]
theorem w_18 (hN : 1000 < N) (tx : TxR C S n B) (tk : Tk C S n B) : ∃ b, f_X8_isWord N 18 C = some (b, C) ∧ f_X12_isWind S = some (b, S) := by
  obtain ⟨b, h1, h2⟩ := word_is (z := 18) hN (by decide) (by decide +kernel) tx tk
  refine ⟨b, h1, ?_⟩
  unfold f_X12_isWind
  rw [sp_18, bi_s, show f_X12_isWord (wN 18) S = _ from h2, bi_s]
theorem w_19 (hN : 1000 < N) (tx : TxR C S n B) (tk : Tk C S n B) : ∃ b, f_X8_isWord N 19 C = some (b, C) ∧ f_X12_isThins S = some (b, S) := by
  obtain ⟨b, h1, h2⟩ := word_is (z := 19) hN (by decide) (by decide +kernel) tx tk
  refine ⟨b, h1, ?_⟩
  unfold f_X12_isThins
  rw [sp_19, bi_s, show f_X12_isWord (wN 19) S = _ from h2, bi_s]
theorem w_20 (hN : 1000 < N) (tx : TxR C S n B) (tk : Tk C S n B) : ∃ b, f_X8_isWord N 20 C = some (b, C) ∧ f_X12_isFoggyWord S = some (b, S) := by
  obtain ⟨b, h1, h2⟩ := word_is (z := 20) hN (by decide) (by decide +kernel) tx tk
  refine ⟨b, h1, ?_⟩
  unfold f_X12_isFoggyWord
  rw [sp_20, bi_s, show f_X12_isWord (wN 20) S = _ from h2, bi_s]
theorem w_21 (hN : 1000 < N) (tx : TxR C S n B) (tk : Tk C S n B) : ∃ b, f_X8_isWord N 21 C = some (b, C) ∧ f_X12_isEnd S = some (b, S) := by
  obtain ⟨b, h1, h2⟩ := word_is (z := 21) hN (by decide) (by decide +kernel) tx tk
  refine ⟨b, h1, ?_⟩
  unfold f_X12_isEnd
  rw [sp_21, bi_s, show f_X12_isWord (wN 21) S = _ from h2, bi_s]
end P6
