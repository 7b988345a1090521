section P7
variable {N n : Nat} {C S : Mem} {B : Nat → Nat}
theorem w_6 (hN : 1000 < N) (tx : TxR C S n B) (tk : Tk C S n B) : ∃ b, f_X8_isWord N 6 C = some (b, C) ∧ f_X12_isAnswers S = some (b, S) := by
  obtain ⟨b, h1, h2⟩ := word_is (z := 6) hN (by decide) (by decide +kernel) tx tk
  refine ⟨b, h1, ?_⟩
  obtain ⟨r, hr⟩ := sp_m 97 110 115 119 101 114 S
  have e : (f_X12_spelled 97 110 115 119 101 114 (fun _ _ => 0, fun _ _ => 0)).map (fun q => q.1 * 32 + 19) = some (wN 6) := by decide +kernel
  rw [hr] at e
  have e' : r * 32 + 19 = wN 6 := Option.some.inj e
  unfold f_X12_isAnswers
  rw [hr, bi_s, e', show f_X12_isWord (wN 6) S = _ from h2, bi_s]
/-- a fault f, told of both -/
def flC (C : Mem) (f a : Nat) : Mem := uI (uI C 82 6 (nI f)) 82 7 (nI a)
def flS (S : Mem) (f a : Nat) : Mem := uI (uI S 200 12 (nI f)) 200 13 (nI a)
theorem fl_fail {f a : Nat} (h : S.1 200 12 = 0) : f_X12_fail (nI f) (nI a) S = some (flS S f a) := by
  unfold f_X12_fail
  rw [h, if_pos (by decide), bM_e, bM_e]
  rfl
/-- what should be there is not -/
theorem fl_2 (tk : Tk C S n B) (hc : C.1 82 6 = 0) (hs : S.1 200 12 = 0) : ∃ f a, 1 ≤ f ∧ f ≤ 2 ∧ a ≤ n ∧ f_X8_refuse 2 C = some (false, flC C f a) ∧ f_X12_amiss S = some (flS S f a) := by
  obtain ⟨a, e, k, t1, t2, t3, t4, t5, t6, t7, t8, t9, t10⟩ := tk
  have kb : k ≤ 4 := by omega
  unfold f_X8_refuse f_X12_amiss
  rw [hc, if_pos rfl, t8, t9, t5]
  by_cases g : k = 4
  · refine ⟨1, a, by omega, by omega, by omega, ?_, ?_⟩
    · rw [if_pos (show nI k = 4 by rw [g]; rfl), bM_e, us_same, g_upd, if_neg (by decide), t4, bM_e]
      rfl
    · rw [if_pos (show nI k = 4 by rw [g]; rfl), show f_X12_fail 1 (nI a) S = _ from fl_fail (f := 1) hs, bv_s]
  · refine ⟨2, a, by omega, by omega, by omega, ?_, ?_⟩
    · rw [if_neg (show ¬ nI k = 4 by rw [n_eql (by omega)]; exact g), bM_e, us_same, g_upd, if_neg (by decide), t4, bM_e]
      rfl
    · rw [if_neg (show ¬ nI k = 4 by rw [n_eql (by omega)]; exact g), show f_X12_fail 2 (nI a) S = _ from fl_fail (f := 2) hs, bv_s]
/-- it is there, but will not do -/
theorem fl_x {x k : Nat} (tk : Tk C S n B) (hk : C.1 82 2 = nI k) (hk4 : k < 4) (hc : C.1 82 6 = 0) (hs : S.1 200 12 = 0) : ∃ a, a ≤ n ∧ S.1 200 15 = nI a ∧ f_X8_refuse (nI x) C = some (false, flC C x a) ∧ f_X12_fail (nI x) (S.1 200 15) S = some (flS S x a) := by
  obtain ⟨a, e, k', t1, t2, t3, t4, t5, t6, t7, t8, t9, t10⟩ := tk
  refine ⟨a, by omega, t5, ?_, ?_⟩
  · unfold f_X8_refuse
    rw [hc, if_pos rfl, hk, if_neg (show ¬ nI k = 4 by rw [n_eql (by omega)]; omega), bM_e, us_same, g_upd, if_neg (by decide), t4, bM_e]
    rfl
  · rw [t5]
    exact fl_fail hs
end P7
