section Q2
variable {N n : Nat} {C S : Mem} {B : Nat → Nat}
/-- is the model's token a name? -/
def nm (S : Mem) : Bool := decide (S.1 200 14 = 1 ∧ ¬ 8 < S.1 200 18) && !kp S
theorem ch_at {i : Nat} (hi : i < (wL 3).length) (M : Mem) : f_J0_charAt_5068e 3 (nI i) M = some (nI (rC i), M) ∧ rC i < 128 := by
  have ll := wL_len 3
  have l3 := r_len
  obtain ⟨w1, w2⟩ := wL_at (z := 3) (i := i) (by decide) (by omega)
  refine ⟨?_, w2⟩
  unfold f_J0_charAt_5068e
  rw [ck_n (by omega)]
  have ec : chA 3 (nI i) = nI (rC i) := by
    unfold rC
    rw [← w1]
    show i2c ((chL.getD 3 []).getD (tn (nI i)) 0 &&& 255) = _
    rw [t_n (by omega)]
  rw [ec]
theorem le_3 (M : Mem) : f_J0_length_8abf5 3 M = some (nI (wL 3).length, M) := by
  unfold f_J0_length_8abf5
  have : Int32.ofNat (chL.getD 3 []).length = nI (wL 3).length := by decide +kernel
  rw [this]
def hit (B : Nat → Nat) (a m i : Nat) : Prop := i + m + 1 < (wL 3).length ∧ rC i = 32 ∧ rC (i + m + 1) = 32 ∧ smW 3 (i + 1) B a m = true
theorem name_lp {a m : Nat} (hN : 1000 < N) (tx : TxR C S n B) (c3 : C.1 82 3 = nI a) (c4 : C.1 82 4 = nI (a + m)) (ham : a + m ≤ n) (hm : m ≤ 8) (b : Bool) (hb : b = true ↔ ∀ i, ¬ hit B a m i) : lp (fun k (a : Int32 × Int32) M => f_X8_isName_h28 N k a.1 a.2 M) N (nI m, 0) C = some (b, C) := by
  have n9 := tx.1
  have l3 := r_len
  have key : Ho (lp (fun k (a : Int32 × Int32) M => f_X8_isName_h28 N k a.1 a.2 M) N (nI m, 0) C) (fun q => q = (b, C)) := by
    refine Ho_lp (fun i s M => s = (nI m, nI i) ∧ C = M ∧ i ≤ 150 ∧ ∀ j, j < i → ¬ hit B a m j) 160 (by omega) ⟨rfl, rfl, by omega, fun j hj => by omega⟩ ?_
    rintro i hi k hk _ M1 ⟨rfl, e1, him, hno⟩
    rw [← e1]
    unfold f_X8_isName_h28
    dsimp only
    rw [le_3, bi_s, nI_add, n_addl]
    by_cases g : i + m + 1 < (wL 3).length
    · have nxt : ¬ hit B a m i → Ho (f_X8_isName_b91 N k (nI m) (nI i) C) (fun q => q = (b, C)) := fun h => by
        unfold f_X8_isName_b91
        rw [n_addl]
        refine hk (by omega) _ _ ⟨rfl, rfl, by omega, fun j hj => ?_⟩
        by_cases e : j = i
        · subst e; exact h
        · exact hno j (by omega)
      obtain ⟨h1, h1'⟩ := ch_at (i := i) (by omega) C
      obtain ⟨h2, h2'⟩ := ch_at (i := i + m + 1) g C
      rw [if_neg (show ¬ nI (wL 3).length ≤ nI (i + m + 1) by rw [n_le (by omega)]; omega), h1, bi_s]
      by_cases q1 : rC i = 32
      · rw [if_pos (show nI (rC i) = 32 by rw [q1]; rfl), h2, bi_s]
        by_cases q2 : rC (i + m + 1) = 32
        · rw [if_pos (show nI (rC (i + m + 1)) = 32 by rw [q2]; rfl)]
          unfold f_X8_isName_b72
          rw [if_neg (by decide), n_addl, c_same (off := i + 1) (a := a) (m := m) hN (by decide) tx c3 c4 ham (by omega), bi_s]
          cases q3 : smW 3 (i + 1) B a m with
          | true =>
            rw [if_neg (by decide), Ho_some]
            have : b = false := by
              cases b with
              | false => rfl
              | true => exact absurd ⟨g, q1, q2, q3⟩ (hb.mp rfl i)
            rw [this]
          | false =>
            rw [if_pos (by decide)]
            exact nxt fun h => by have := h.2.2.2; rw [q3] at this; cases this
        · rw [if_neg (show ¬ nI (rC (i + m + 1)) = 32 by rw [n_eql (by omega)]; exact q2)]
          unfold f_X8_isName_b71 f_X8_isName_b72
          rw [if_pos rfl]
          exact nxt fun h => q2 h.2.2.1
      · rw [if_neg (show ¬ nI (rC i) = 32 by rw [n_eql (by omega)]; exact q1)]
        unfold f_X8_isName_b71 f_X8_isName_b72
        rw [if_pos rfl]
        exact nxt fun h => q1 h.2.1
    · rw [if_pos (show nI (wL 3).length ≤ nI (i + m + 1) by rw [n_le (by omega)]; omega), Ho_some]
      have : b = true := hb.mpr fun j hj => by
        by_cases e : j < i
        · exact hno j e hj
        · have := hj.1; omega
      rw [this]
  obtain ⟨q, e, rfl⟩ := key
  exact e
theorem q_is {z a m : Nat} (hz : z ∈ kL) (hm : m ≤ 8) (hl : ∀ j, a ≤ j → j < a + m → 97 ≤ B j ∧ B j ≤ 122) (h14 : S.1 200 14 = 1) (h19 : S.2 200 19 = lN (wc B a m)) : qW z S = true ↔ m = (wL z).length ∧ ∀ j, j < m → B (a + j) = wG z j := by
  obtain ⟨z1, z2⟩ := kL_lt z hz
  have hg := wG_at z1 z2
  have hlz : (wL z).length ≤ 8 := by
    unfold wGood at hg
    simp only [Bool.and_eq_true, decide_eq_true_eq] at hg
    omega
  have gz : ∀ j, j < (wL z).length → 97 ≤ wG z j ∧ wG z j ≤ 122 := fun j hj => wGood_at hg hj
  have bw := wc_lt (B := wG z) (a := 0) (wL z).length fun j _ j2 => gz j (by omega)
  have be := wc_lt (B := B) (a := a) m hl
  have p8 : 32 ^ (wL z).length ≤ 32 ^ 8 := Nat.pow_le_pow_right (by decide) hlz
  have p9 : 32 ^ m ≤ 32 ^ 8 := Nat.pow_le_pow_right (by decide) hm
  have p8' : 32 ^ 8 = 1099511627776 := by decide
  unfold qW
  rw [decide_eq_true_eq, h19]
  constructor
  · rintro ⟨-, h⟩
    rw [l_eq (by omega)] at h
    exact wc_inj (B := B) (a := a) m (wG z) (wL z).length (fun j hj => hl (a + j) (by omega) (by omega)) gz h
  · rintro ⟨h1, h2⟩
    refine ⟨h14, ?_⟩
    rw [h1]
    congr 1
    exact wc_cong _ fun j hj => h2 j (by omega)
theorem kp_is {a m : Nat} (hm : 1 ≤ m ∧ m ≤ 8) (hl : ∀ j, a ≤ j → j < a + m → 97 ≤ B j ∧ B j ≤ 122) (h14 : S.1 200 14 = 1) (h19 : S.2 200 19 = lN (wc B a m)) : kp S = true ↔ ∃ i, hit B a m i := by
  have l3 := r_len
  unfold kp
  rw [List.any_eq_true]
  constructor
  · rintro ⟨z, hz, hq⟩
    obtain ⟨h1, h2⟩ := (q_is hz hm.2 hl h14 h19).mp hq
    have h := List.all_eq_true.mp r_from z hz
    rw [List.any_eq_true] at h
    obtain ⟨i, hi, h⟩ := h
    simp only [Bool.and_eq_true, decide_eq_true_eq] at h
    obtain ⟨⟨⟨a1, a2⟩, a3⟩, a4⟩ := h
    rw [← h1] at a1 a3 a4
    unfold isW at a4
    rw [Bool.and_eq_true, List.all_eq_true] at a4
    refine ⟨i, a1, a2, a3, smW_is.mpr fun j hj => ⟨by omega, ?_⟩⟩
    have := a4.2 j (List.mem_range.mpr hj)
    rw [decide_eq_true_eq] at this
    rw [h2 j hj, this]
    rfl
  · rintro ⟨i, a1, a2, a3, a4⟩
    have a5 := smW_is.mp a4
    have h := List.all_eq_true.mp r_to i (List.mem_range.mpr (by omega))
    have h := List.all_eq_true.mp h m (List.mem_range.mpr (by omega))
    have ok : rOK i m = true := by
      unfold rOK
      simp only [Bool.and_eq_true, decide_eq_true_eq, List.all_eq_true]
      refine ⟨⟨a2, a3⟩, fun j hj => ?_⟩
      have hj := List.mem_range.mp hj
      have := (a5 j hj).2
      have e : rC (i + 1 + j) = B (a + j) := this
      rw [e]
      exact (hl (a + j) (by omega) (by omega)).1
    rw [ok, decide_eq_true (show 1 ≤ m from hm.1), decide_eq_true a1] at h
    simp only [Bool.and_self, Bool.not_true, Bool.false_or] at h
    rw [List.any_eq_true] at h
    obtain ⟨z, hz, hw⟩ := h
    refine ⟨z, hz, (q_is hz hm.2 hl h14 h19).mpr ?_⟩
    unfold isW at hw
    rw [Bool.and_eq_true, decide_eq_true_eq, List.all_eq_true] at hw
    refine ⟨hw.1.symm, fun j hj => ?_⟩
    have := hw.2 j (List.mem_range.mpr hj)
    rw [decide_eq_true_eq] at this
    rw [this]
    exact (a5 j hj).2.symm
/-- both say alike whether the token is a name -/
theorem c_name (hN : 1000 < N) (tx : TxR C S n B) (tk : Tk C S n B) : f_X8_isName N C = some (nm S, C) := by
  have n9 := tx.1
  obtain ⟨a, e, k, t1, t2, t3, t4, t5, t6, t7, t8, t9, t10⟩ := tk
  unfold f_X8_isName nm
  rw [t8, t9, t6, t4, n_sub t1]
  have kb : k ≤ 4 := by omega
  by_cases k1 : k = 1
  · subst k1
    rcases t10 with ⟨q, -⟩ | ⟨-, q1, q2, q3⟩ | ⟨q, -⟩ | ⟨q, -⟩ | q
    · omega
    · have hae := t3 (by decide)
      rw [if_pos (show nI 1 = 1 from rfl), q2]
      by_cases g8 : e - a ≤ 8
      · rw [if_pos (by rw [n_lel (by omega)]; exact g8), decide_eq_true (show nI 1 = 1 ∧ ¬ 8 < nI (e - a) from ⟨rfl, by rw [n_llt (by omega)]; omega⟩), Bool.true_and]
        rw [if_pos g8] at q3
        have ki := kp_is (a := a) (m := e - a) (by omega) (fun j j1 j2 => q1 j j1 (by omega)) t9 q3
        refine name_lp (a := a) (m := e - a) hN tx t4 (by rw [t6]; congr 1; omega) (by omega) g8 (!kp S) ?_
        constructor
        · intro h i hi
          rw [ki.mpr ⟨i, hi⟩] at h
          cases h
        · intro h
          cases q : kp S with
          | false => rfl
          | true =>
            obtain ⟨i, hi⟩ := ki.mp q
            exact absurd hi (h i)
      · rw [if_neg (by rw [n_lel (by omega)]; exact g8), decide_eq_false (show ¬ (nI 1 = 1 ∧ ¬ 8 < nI (e - a)) from fun y => y.2 (by rw [n_llt (by omega)]; omega))]
        rfl
    · omega
    · omega
    · omega
  · rw [if_neg (show ¬ nI k = 1 by rw [n_eql (by omega)]; exact k1), decide_eq_false (show ¬ (nI k = 1 ∧ ¬ 8 < S.1 200 18) from fun y => k1 (by have := y.1; rwa [n_eql (by omega)] at this))]
    rfl
/-- a name: its letters, its number -/
theorem nm_is (hn : n ≤ 900) (tk : Tk C S n B) (h : nm S = true) : ∃ a m, 1 ≤ m ∧ m ≤ 8 ∧ a + m ≤ n ∧ C.1 82 2 = nI 1 ∧ C.1 82 3 = nI a ∧ C.1 82 4 = nI (a + m) ∧ (∀ j, a ≤ j → j < a + m → 97 ≤ B j ∧ B j ≤ 122) ∧ S.2 200 19 = lN (wc B a m) := by
  obtain ⟨a, e, k, t1, t2, t3, t4, t5, t6, t7, t8, t9, t10⟩ := tk
  unfold nm at h
  rw [Bool.and_eq_true, decide_eq_true_eq, t9] at h
  obtain ⟨⟨h1, h2⟩, -⟩ := h
  have kb : k ≤ 4 := by omega
  rw [n_eql (by omega)] at h1
  have h1 : k = 1 := h1
  subst h1
  rcases t10 with ⟨q, -⟩ | ⟨-, q1, q2, q3⟩ | ⟨q, -⟩ | ⟨q, -⟩ | q
  · omega
  · have hae := t3 (by decide)
    rw [q2] at h2
    have g8 : e - a ≤ 8 := Nat.not_lt.mp fun y => h2 (by rw [n_llt (by omega)]; exact y)
    rw [if_pos g8] at q3
    exact ⟨a, e - a, by omega, g8, by omega, t8, t4, by rw [t6]; congr 1; omega, fun j j1 j2 => q1 j j1 (by omega), q3⟩
  · omega
  · omega
  · omega
end Q2
