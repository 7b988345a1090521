section Q1
variable {N n : Nat} {C S : Mem} {B : Nat → Nat}
/-- is the model's token the word z? -/
def qW (z : Nat) (S : Mem) : Bool := decide (S.1 200 14 = 1 ∧ S.2 200 19 = wN z)
theorem qW_e (z : Nat) (S : Mem) : f_X12_isWord (wN z) S = some (qW z S, S) := by
  unfold f_X12_isWord qW
  by_cases g : S.1 200 14 = 1
  · rw [if_pos g]
    by_cases h : S.2 200 19 = wN z
    · rw [if_pos (by rw [lg_eq0]; exact h), decide_eq_true ⟨g, h⟩]
    · rw [if_neg (by rw [lg_eq0]; exact h), decide_eq_false fun y => h y.2]
  · rw [if_neg g, decide_eq_false fun y => g y.1]
theorem m_0 (S : Mem) : f_X12_isPort S = some (qW 0 S, S) := by unfold f_X12_isPort; rw [sp_0, bi_s, qW_e, bi_s]
theorem m_1 (S : Mem) : f_X12_isBy S = some (qW 1 S, S) := by unfold f_X12_isBy; rw [sp_1, bi_s, qW_e, bi_s]
theorem m_2 (S : Mem) : f_X12_isGate S = some (qW 2 S, S) := by unfold f_X12_isGate; rw [sp_2, bi_s, qW_e, bi_s]
theorem m_4 (S : Mem) : f_X12_isAt S = some (qW 4 S, S) := by unfold f_X12_isAt; rw [sp_4, bi_s, qW_e, bi_s]
theorem m_5 (S : Mem) : f_X12_isLets S = some (qW 5 S, S) := by unfold f_X12_isLets; rw [sp_5, bi_s, qW_e, bi_s]
theorem m_6 (S : Mem) : f_X12_isAnswers S = some (qW 6 S, S) := by
  obtain ⟨r, hr⟩ := sp_m 97 110 115 119 101 114 S
  have e : (f_X12_spelled 97 110 115 119 101 114 (fun _ _ => 0, fun _ _ => 0)).map (fun q => q.1 * 32 + 19) = some (wN 6) := by decide +kernel
  rw [hr] at e
  have e' : r * 32 + 19 = wN 6 := Option.some.inj e
  unfold f_X12_isAnswers
  rw [hr, bi_s, e', qW_e, bi_s]
theorem m_7 (S : Mem) : f_X12_isOpen S = some (qW 7 S, S) := by unfold f_X12_isOpen; rw [sp_7, bi_s, qW_e, bi_s]
theorem m_8 (S : Mem) : f_X12_isQuota S = some (qW 8 S, S) := by unfold f_X12_isQuota; rw [sp_8, bi_s, qW_e, bi_s]
theorem m_9 (S : Mem) : f_X12_isHolder S = some (qW 9 S, S) := by unfold f_X12_isHolder; rw [sp_9, bi_s, qW_e, bi_s]
theorem m_10 (S : Mem) : f_X12_isVotes S = some (qW 10 S, S) := by unfold f_X12_isVotes; rw [sp_10, bi_s, qW_e, bi_s]
theorem m_11 (S : Mem) : f_X12_isTrade S = some (qW 11 S, S) := by unfold f_X12_isTrade; rw [sp_11, bi_s, qW_e, bi_s]
theorem m_12 (S : Mem) : f_X12_isFrom S = some (qW 12 S, S) := by unfold f_X12_isFrom; rw [sp_12, bi_s, qW_e, bi_s]
theorem m_13 (S : Mem) : f_X12_isTo S = some (qW 13 S, S) := by unfold f_X12_isTo; rw [sp_13, bi_s, qW_e, bi_s]
theorem m_14 (S : Mem) : f_X12_isPays S = some (qW 14 S, S) := by unfold f_X12_isPays; rw [sp_14, bi_s, qW_e, bi_s]
theorem m_15 (S : Mem) : f_X12_isClear S = some (qW 15 S, S) := by unfold f_X12_isClear; rw [sp_15, bi_s, qW_e, bi_s]
theorem m_16 (S : Mem) : f_X12_isShip S = some (qW 16 S, S) := by unfold f_X12_isShip; rw [sp_16, bi_s, qW_e, bi_s]
theorem m_17 (S : Mem) : f_X12_isDark S = some (qW 17 S, S) := by unfold f_X12_isDark; rw [sp_17, bi_s, qW_e, bi_s]
theorem m_18 (S : Mem) : f_X12_isWind S = some (qW 18 S, S) := by unfold f_X12_isWind; rw [sp_18, bi_s, qW_e, bi_s]
theorem m_19 (S : Mem) : f_X12_isThins S = some (qW 19 S, S) := by unfold f_X12_isThins; rw [sp_19, bi_s, qW_e, bi_s]
theorem m_20 (S : Mem) : f_X12_isFoggyWord S = some (qW 20 S, S) := by unfold f_X12_isFoggyWord; rw [sp_20, bi_s, qW_e, bi_s]
theorem m_21 (S : Mem) : f_X12_isEnd S = some (qW 21 S, S) := by unfold f_X12_isEnd; rw [sp_21, bi_s, qW_e, bi_s]
/-- the word of a step, of a test, as a number -/
def swB (a b c d e f g h : Bool) : Int32 := if a then 0 else if b then 1 else if c then 2 else if d then 3 else if e then 4 else if f then 5 else if g then 6 else if h then 7 else -1
def swM (S : Mem) : Int32 := swB (qW 22 S) (qW 7 S) (qW 24 S) (qW 18 S) (qW 26 S) (qW 27 S) (qW 28 S) (qW 29 S)
theorem m_step (S : Mem) : f_X12_stepWord S = some (swM S, S) := by
  unfold f_X12_stepWord swM swB
  simp only [sp_22, sp_24, sp_26, sp_27, sp_28, sp_29, m_7, m_18, bi_s, qW_e, b2i_0]
  cases qW 22 S <;> cases qW 7 S <;> cases qW 24 S <;> cases qW 18 S <;> simp only [if_true, if_false, Bool.true_eq_false, Bool.false_eq_true]
  cases qW 26 S <;> cases qW 27 S <;> cases qW 28 S <;> cases qW 29 S <;> simp only [if_true, if_false, Bool.true_eq_false, Bool.false_eq_true]
def twB (a b c : Bool) : Int32 := if a then 0 else if b then 1 else if c then 2 else -1
def twM (S : Mem) : Int32 := twB (qW 20 S) (qW 7 S) (qW 5 S)
theorem m_test (S : Mem) : f_X12_testWord S = some (twM S, S) := by
  unfold f_X12_testWord twM twB
  simp only [m_20, m_7, m_5, bi_s, b2i_0]
  cases qW 20 S <;> cases qW 7 S <;> cases qW 5 S <;> simp only [if_true, if_false, Bool.true_eq_false, Bool.false_eq_true]
theorem sw_any : ∀ a b c d e f g h : Bool, decide (0 ≤ swB a b c d e f g h) = (a || b || c || d || e || f || g || h) := by decide +kernel
theorem tw_any : ∀ a b c : Bool, decide (0 ≤ twB a b c) = (a || b || c) := by decide +kernel
/-- the words that are no names -/
def kL : List Nat := [0, 1, 2, 4, 6, 8, 9, 10, 11, 12, 13, 14, 15, 16, 17, 19, 22, 7, 24, 18, 26, 27, 28, 29, 20, 5, 21]
def kp (S : Mem) : Bool := kL.any fun z => qW z S
theorem ite_or (b c : Bool) (S : Mem) : (if b2i b = 0 then some (c, S) else some (true, S)) = some (b || c, S) := by cases b <;> rfl
theorem ite_de {p : Prop} [Decidable p] (c : Bool) (S : Mem) : (if p then some (true, S) else some (c, S)) = some (decide p || c, S) := by by_cases h : p <;> simp [h]
theorem b_id (b : Bool) (S : Mem) : (if b2i b = 0 then some (false, S) else some (true, S)) = some (b, S) := by cases b <;> rfl
theorem m_kept (S : Mem) : f_X12_isKept S = some (kp S, S) := by
  unfold f_X12_isKept
  simp only [m_0, m_1, m_2, m_4, m_5, m_6, m_8, m_9, m_10, m_11, m_12, m_13, m_14, m_15, m_16, m_17, m_19, m_21, m_step, m_test, bi_s, ite_or, ite_de, b_id]
  unfold swM twM
  rw [sw_any, tw_any]
  unfold kp kL
  simp only [List.any_cons, List.any_nil, Bool.or_assoc, Bool.or_false]
  cases qW 7 S <;> simp
theorem m_name (S : Mem) : f_X12_isName S = some (decide (S.1 200 14 = 1 ∧ ¬ 8 < S.1 200 18) && !kp S, S) := by
  unfold f_X12_isName
  by_cases g : S.1 200 14 = 1
  · rw [if_pos g]
    by_cases h : 8 < S.1 200 18
    · rw [if_pos h, decide_eq_false fun y => y.2 h]; rfl
    · rw [if_neg h, m_kept, bi_s, decide_eq_true ⟨g, h⟩]
      cases kp S <;> rfl
  · rw [if_neg g, decide_eq_false fun y => g y.1]; rfl
/-- word tests of the class by the model's -/
theorem c_word {z : Nat} (hN : 1000 < N) (hz : z < 32) (hg : wGood z = true) (tx : TxR C S n B) (tk : Tk C S n B) : f_X8_isWord N z C = some (qW z S, C) := by
  obtain ⟨b, h1, h2⟩ := word_is hN hz hg tx tk
  have h3 : f_X12_isWord (wN z) S = some (b, S) := h2
  rw [qW_e] at h3
  have h4 : qW z S = b := congrArg (fun q => (q.getD (false, S)).1) h3
  rw [h1, h4]
theorem wN_23 : wN 23 = wN 7 := by decide +kernel
theorem wN_25 : wN 25 = wN 18 := by decide +kernel
theorem wN_30 : wN 30 = wN 20 := by decide +kernel
theorem wN_31 : wN 31 = wN 5 := by decide +kernel
theorem q_23 (S : Mem) : qW 23 S = qW 7 S := by unfold qW; rw [wN_23]
theorem q_25 (S : Mem) : qW 25 S = qW 18 S := by unfold qW; rw [wN_25]
theorem q_30 (S : Mem) : qW 30 S = qW 20 S := by unfold qW; rw [wN_30]
theorem q_31 (S : Mem) : qW 31 S = qW 5 S := by unfold qW; rw [wN_31]
/-- all words but the reserved one's row are good -/
theorem wG_all : ((List.range 32).all fun z => decide (z = 3) || wGood z) = true := by decide +kernel
theorem wG_at {z : Nat} (hz : z < 32) (h3 : z ≠ 3) : wGood z = true := by
  have := List.all_eq_true.mp wG_all z (List.mem_range.mpr hz)
  simpa [h3] using this
theorem kL_lt : ∀ z, z ∈ kL → z < 32 ∧ z ≠ 3 := by decide
/-- the row of the reserved words: what stands between blanks is a word -/
def rC (i : Nat) : Nat := (wL 3).getD i 0
def rOK (i m : Nat) : Bool := decide (rC i = 32) && decide (rC (i + m + 1) = 32) && (List.range m).all fun j => decide (97 ≤ rC (i + 1 + j))
def isW (z i m : Nat) : Bool := decide ((wL z).length = m) && (List.range m).all fun j => decide (wG z j = rC (i + 1 + j))
theorem r_to : ((List.range 160).all fun i => (List.range 9).all fun m => !(rOK i m && decide (1 ≤ m) && decide (i + m + 1 < (wL 3).length)) || kL.any fun z => isW z i m) = true := by decide +kernel
theorem r_from : (kL.all fun z => (List.range 160).any fun i => decide (i + (wL z).length + 1 < (wL 3).length) && decide (rC i = 32) && decide (rC (i + (wL z).length + 1) = 32) && isW z i (wL z).length) = true := by decide +kernel
theorem r_len : (wL 3).length < 150 := by decide +kernel
end Q1
