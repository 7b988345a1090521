def uT (x : Int64) : Nat := x.toInt.toNat
def vT (G : Nat) (x : Int64) : Prop := ¬ x < 0 ∧ okT G (uT x)
theorem uT_l {x : Int64} (h : ¬ x < 0) : x = lN (uT x) ∧ uT x < 9223372036854775808 := by
  have h0 : (0 : Int64).toInt = 0 := by decide
  rw [fa_lt64, h0] at h
  have hl := Int64.toInt_lt x
  have e : (uT x : Int) = x.toInt := Int.toNat_of_nonneg (by omega)
  have lt : uT x < 9223372036854775808 := by omega
  refine ⟨?_, lt⟩
  rw [fa_eq64, l_toInt lt]
  exact e.symm
theorem l_i {u : Nat} (h : u < 2147483648) : (lN u).toInt32 = nI u := by rw [← nI_l h, lg_l2i_i2l]
theorem dg1 {u : Nat} (h : u < 2147483648) : nI u / 10 - nI u / 10 / 10 * 10 = nI (u / 10 % 10) := by
  rw [show (10 : Int32) = nI 10 from rfl, n_div (by omega), n_mod (by omega)]
theorem dg0 {u : Nat} (h : u < 2147483648) : nI u - nI u / 10 * 10 = nI (u % 10) := by
  rw [show (10 : Int32) = nI 10 from rfl, n_mod (by omega)]
theorem dg2 {u : Nat} (h : u < 2147483648) : nI u / 100 = nI (u / 100) := by
  rw [show (100 : Int32) = nI 100 from rfl, n_div (by omega)]
section F2
variable {N : Nat} {C S M : Mem} {G : Nat} {cn : Nat → Nat → Bool}
theorem c_try2 (hN : 300 < N) (hG : G ≤ 6) (x : Int64) (h : CnR M G cn) : Ho (f_X1_takeTry N x M) (fun q => (vT G x ∧ q.1 = true ∧ Sm [104] M q.2 ∧ CnR q.2 G (fun key g => cn key g && !(decide (uT x / 100 = key) && (decide (g = uT x / 10 % 10) == decide (uT x % 10 = 0))))) ∨ (¬ vT G x ∧ q.1 = false ∧ q.2 = M)) := by
  unfold f_X1_takeTry
  rw [h.1]
  by_cases z : x < 0
  · rw [if_pos (by rw [lg_lt0]; exact z), Ho_some]
    exact Or.inr ⟨fun q => q.1 z, rfl, rfl⟩
  · obtain ⟨ex, lu⟩ := uT_l z
    rw [if_neg (by rw [lg_lt0]; exact z), show (100 : Int64) = lN 100 from rfl, nI_l (by omega), l_mul]
    have hxl : (x < lN (100 * G)) = (uT x < 100 * G) := by
      have := l_lt (a := uT x) (b := 100 * G) (by omega)
      rw [← ex] at this
      exact this
    by_cases g : uT x < 100 * G
    · have e1 : x.toInt32 = nI (uT x) := by
        have := l_i (u := uT x) (by omega)
        rw [← ex] at this
        exact this
      rw [if_pos (by rw [lg_lt0, hxl]; exact g)]
      simp only [bI_e, e1]
      rw [dg1 (by omega), dg0 (by omega), dg2 (by omega)]
      by_cases g2 : G ≤ uT x / 10 % 10
      · rw [if_pos (by rw [n_le (by omega)]; exact g2), Ho_some]
        exact Or.inr ⟨fun q => by have := q.2.2.1; omega, rfl, rfl⟩
      · rw [if_neg (by rw [n_le (by omega)]; exact g2)]
        by_cases g3 : uT x % 10 ≤ 1
        · rw [if_pos (by rw [n_lel (by omega)]; exact g3)]
          have hv : vT G x := ⟨z, by omega, by omega, g3⟩
          generalize uT x = u at *
          refine Ho_lp (fun i a M' => a = (nI (u / 100), nI (u / 10 % 10), nI (u % 10), nI i) ∧ Sm [104] M M' ∧ CnR M' G (fun key g => cn key g && !(decide (u / 100 = key) && decide (g < i) && (decide (g = u / 10 % 10) == decide (u % 10 = 0))))) G (by omega) ⟨rfl, Sm.rf, h.1, fun key g h1 h2 => ?_⟩ ?_
          · rw [h.2 key g h1 h2]
            simp
          rintro i hi k hk _ M1 ⟨rfl, s1, c1⟩
          unfold f_X1_takeTry_h65 f_X1_takeTry_b86 f_X1_takeTry_b96 f_X1_takeTry_b112
          dsimp only
          rw [c1.1]
          by_cases gi : G ≤ i
          · rw [if_pos (by rw [n_le (by omega)]; exact gi), Ho_some]
            refine Or.inl ⟨hv, rfl, s1, c1.1, fun key g h1 h2 => ?_⟩
            rw [c1.2 key g h1 h2]
            simp [show g < i by omega]
          · rw [if_neg (by rw [n_le (by omega)]; exact gi)]
            have keep : ¬ (decide (i = u / 10 % 10) = decide (u % 10 = 0)) → Ho (k (nI (u / 100), nI (u / 10 % 10), nI (u % 10), nI i + 1) M1) _ := fun hne => by
              rw [n_addl]
              refine hk (by omega) _ _ ⟨rfl, s1, c1.1, fun key g h1 h2 => ?_⟩
              rw [c1.2 key g h1 h2]
              by_cases e : g = i
              · subst e
                have : (decide (g = u / 10 % 10) == decide (u % 10 = 0)) = false := by simpa using hne
                simp only [this, Bool.and_false]
              · have : (g < i + 1) = (g < i) := by apply propext; omega
                simp only [this]
            have drop : (decide (i = u / 10 % 10) = decide (u % 10 = 0)) → Ho (k (nI (u / 100), nI (u / 10 % 10), nI (u % 10), nI i + 1) (uI M1 104 (u / 100 * 6 + i) 0)) _ := fun he => by
              rw [n_addl]
              refine hk (by omega) _ _ ⟨rfl, s1.uI (by simp), by rw [u_ne (by decide)]; exact c1.1, fun key g h1 h2 => ?_⟩
              rw [us_same, g_upd]
              by_cases e : key * 6 + g = u / 100 * 6 + i
              · have e1' : key = u / 100 := by omega
                have e2' : g = i := by omega
                rw [if_pos e, e1', e2']
                dsimp only
                rw [he]
                simp [b2i]
              · rw [if_neg e, c1.2 key g h1 h2]
                by_cases e1' : u / 100 = key
                · have : (g < i + 1) = (g < i) := by apply propext; omega
                  simp only [this]
                · simp [e1']
            have hu : u / 100 < 6 := by have := hv.2.1; omega
            simp (disch := omega) only [n_tn, n_tl, n_t0, n_lt, n_le, n_eq, n_ltl, n_lel, n_eql, n_llt, n_lle, n_leq, n_m1l, n_m1r, n_addl, n_ladd, nI_add, n_mul, n_mull, n_lmul, n_sub, n_subl, n_div, n_divl, n_modd, true_and, and_true, bi_s, bv_s, bM_e, bI_e, bL_e, ck_n, ck_l, ck_0]
            by_cases a1 : i = u / 10 % 10
            · rw [if_pos a1]
              by_cases a2 : u % 10 = 0
              · rw [if_pos a2, if_pos trivial]
                have := drop (by rw [decide_eq_true a1, decide_eq_true a2])
                rwa [n_addl] at this
              · rw [if_neg a2, if_neg (by decide)]
                have := keep (by rw [decide_eq_true a1, decide_eq_false a2]; decide)
                rwa [n_addl] at this
            · rw [if_neg a1]
              by_cases a2 : u % 10 = 0
              · rw [if_pos a2, if_neg (by decide)]
                have := keep (by rw [decide_eq_false a1, decide_eq_true a2]; decide)
                rwa [n_addl] at this
              · rw [if_neg a2, if_pos trivial]
                have := drop (by rw [decide_eq_false a1, decide_eq_false a2])
                rwa [n_addl] at this
        · rw [if_neg (by rw [n_lel (by omega)]; exact g3), Ho_some]
          exact Or.inr ⟨fun q => g3 q.2.2.2, rfl, rfl⟩
    · rw [if_neg (by rw [lg_lt0, hxl]; exact g), Ho_some]
      exact Or.inr ⟨fun q => by have := q.2.1; omega, rfl, rfl⟩
theorem c_take {t n : Nat} (hN : 300 < N) (hG : G ≤ 6) (ht : t < 4) (hn : n ≤ 60) : Ho (f_X1_take N (4 + t) (nI n) (nI G) C) (fun q => Sm [103, 104, 105, 106] C q.2 ∧ ((q.1 = true ∧ (∀ i, i < n → vT G (C.2 (4 + t) i)) ∧ KwR q.2 G (cnT (fun i => uT (C.2 (4 + t) i)) n)) ∨ (q.1 = false ∧ ∃ i, i < n ∧ ¬ vT G (C.2 (4 + t) i)))) := by
  have l60 : ln (4 + t) = 60 := by
    obtain rfl | rfl | rfl | rfl : t = 0 ∨ t = 1 ∨ t = 2 ∨ t = 3 := by omega
    all_goals rfl
  unfold f_X1_take
  rw [bM_e, Ho_bv]
  refine Ho_mono (c_fillI hN 1 (by rw [ln_104]; omega)) ?_
  rintro M1 ⟨s1, a1⟩
  rw [ln_104] at a1
  refine Ho_lp (fun i a M' => a = (nI n, nI i) ∧ Sm [103, 104, 105, 106] C M' ∧ (∀ j, j < i → vT G (C.2 (4 + t) j)) ∧ CnR M' G (cnT (fun i => uT (C.2 (4 + t) i)) i)) n (by omega) ⟨rfl, (Sm.rf.uI (by simp)).tr (s1.mono (by simp)), fun j hj => absurd hj (Nat.not_lt_zero j), by rw [s1.2 103 (by simp), u_at], fun key g h1 h2 => by rw [a1 _ (by omega)]; rfl⟩ ?_
  rintro i hi k hk _ M2 ⟨rfl, s2, v2, c2⟩
  unfold f_X1_take_h16
  dsimp only
  by_cases gi : n ≤ i
  · have ei : i = n := by omega
    subst ei
    rw [if_pos (by rw [n_le (by omega)]; exact gi), Ho_bv]
    refine Ho_mono (c_count2 hN hG c2) ?_
    rintro M3 ⟨s3, k3⟩
    rw [Ho_some]
    exact ⟨s2.tr s3, Or.inl ⟨rfl, v2, k3⟩⟩
  · rw [if_neg (by rw [n_le (by omega)]; exact gi), show Int32.ofNat (ln (4 + t)) = nI (ln (4 + t)) from rfl, l60, if_neg (by rw [n_le (by omega)]; omega), ck_n (by omega), t_n (by omega), s2.1, Ho_bi]
    refine Ho_mono (c_try2 hN hG (C.2 (4 + t) i) c2) ?_
    rintro ⟨r, M3⟩ hd
    dsimp only at hd ⊢
    simp only [b2i_0]
    rcases hd with ⟨hv, rfl, s3, c3⟩ | ⟨hv, rfl, rfl⟩
    · rw [if_neg (by decide), n_addl]
      refine hk (by omega) _ _ ⟨rfl, s2.tr (s3.mono (by simp)), fun j hj => ?_, c3⟩
      by_cases e : j = i
      · rw [e]; exact hv
      · exact v2 j (by omega)
    · rw [if_pos rfl, Ho_some]
      exact ⟨s2, Or.inr ⟨rfl, i, by omega, hv⟩⟩
/-! the model -/
theorem m_gateN {v : Nat → Nat} {n : Nat} (hv : VV v) (hA : Ar S 205 435 v) (hn : n < 2147483648) : f_X12_isGateAt (nI n) S = some (decide (n < v 2), S) := by
  have v2 := hv.1.2.2.1
  unfold f_X12_isGateAt
  rw [ck_l (by omega), show tn 2 = 2 from rfl, hA 2 (by omega), m_in0 (by omega), bi_s]
theorem m_tries {v : Nat → Nat} {t n m : Nat} (hN : 300 < N) (hv : VV v) (hA : Ar S 205 435 v) (ht : t < 4) (hn : n ≤ m) (hm : m ≤ 60) : ∃ r, lp (fun k a m => f_X12_whyNoTries_h49 N k a.1 a.2.1 a.2.2 m) N (nI t, nI n, 0) S = some (r, S) ∧ ((r = 0 ∧ ∀ i, i < n → vT (v 2) (S.2 203 (60 * t + i))) ∨ (r = 5 ∧ ∃ i, i < n ∧ ¬ vT (v 2) (S.2 203 (60 * t + i)))) := by
  have v2 := hv.1.2.2.1
  have key : Ho (lp (fun k a m => f_X12_whyNoTries_h49 N k a.1 a.2.1 a.2.2 m) N (nI t, nI n, 0) S) (fun q => q.2 = S ∧ ((q.1 = 0 ∧ ∀ i, i < n → vT (v 2) (S.2 203 (60 * t + i))) ∨ (q.1 = 5 ∧ ∃ i, i < n ∧ ¬ vT (v 2) (S.2 203 (60 * t + i))))) := by
    refine Ho_lp (fun i a S' => a = (nI t, nI n, nI i) ∧ S = S' ∧ ∀ j, j < i → vT (v 2) (S.2 203 (60 * t + j))) n (by omega) ⟨rfl, rfl, fun j hj => absurd hj (Nat.not_lt_zero j)⟩ ?_
    rintro i hi k hk _ _ ⟨rfl, rfl, v1⟩
    unfold f_X12_whyNoTries_h49 f_X12_numberOf
    dsimp only
    by_cases gi : n ≤ i
    · have ei : i = n := by omega
      subst ei
      rw [if_pos (by rw [n_le (by omega)]; exact gi), Ho_some]
      exact ⟨rfl, Or.inl ⟨rfl, v1⟩⟩
    · rw [if_neg (by rw [n_le (by omega)]; exact gi), n_lmul, nI_add, ck_n (by omega), t_n (by omega), bi_s]
      have bad : ¬ vT (v 2) (S.2 203 (60 * t + i)) → Ho (some ((5 : Int32), S)) (fun q => q.2 = S ∧ ((q.1 = 0 ∧ ∀ i, i < n → vT (v 2) (S.2 203 (60 * t + i))) ∨ (q.1 = 5 ∧ ∃ i, i < n ∧ ¬ vT (v 2) (S.2 203 (60 * t + i))))) := fun hb => ⟨_, rfl, rfl, Or.inr ⟨rfl, i, by omega, hb⟩⟩
      have good : vT (v 2) (S.2 203 (60 * t + i)) → Ho (k (nI t, nI n, nI i + 1) S) (fun q => q.2 = S ∧ ((q.1 = 0 ∧ ∀ i, i < n → vT (v 2) (S.2 203 (60 * t + i))) ∨ (q.1 = 5 ∧ ∃ i, i < n ∧ ¬ vT (v 2) (S.2 203 (60 * t + i))))) := fun hg => by
        rw [n_addl]
        refine hk (by omega) _ _ ⟨rfl, rfl, fun j hj => ?_⟩
        by_cases e : j = i
        · rw [e]; exact hg
        · exact v1 j (by omega)
      generalize S.2 203 (60 * t + i) = x at *
      by_cases z : x < 0
      · have e : f_X12_isIn x 0 999 S = some (false, S) := by
          unfold f_X12_isIn
          rw [if_pos (by rw [lg_lt0]; exact z)]
        rw [e, bi_s, if_pos (show b2i false = 0 from rfl)]
        exact bad fun q => q.1 z
      · obtain ⟨ex, lu⟩ := uT_l z
        have h99 : ((999 : Int64) < x) = (999 < uT x) := by
          have := l_lt (a := 999) (b := uT x) (by omega)
          rw [← ex] at this
          exact this
        by_cases g : uT x ≤ 999
        · have e : f_X12_isIn x 0 999 S = some (true, S) := by
            unfold f_X12_isIn
            rw [if_neg (by rw [lg_lt0]; exact z), if_neg]
            rw [lg_gt0, h99]
            omega
          have e1 : x.toInt32 = nI (uT x) := by
            have := l_i (u := uT x) (by omega)
            rw [← ex] at this
            exact this
          have e2 : x - x / 10 * 10 = lN (uT x % 10) := by
            have := l_mod (a := uT x) (b := 10) (by omega)
            rw [← ex] at this
            exact this
          rw [e, bi_s, if_neg (show ¬ b2i true = 0 by decide), e1, e2, dg1 (by omega), dg2 (by omega), m_gateN hv hA (by omega), bi_s, m_gateN hv hA (by omega), bi_s]
          simp only [b2i_0, decide_eq_false_iff_not]
          by_cases g1 : uT x / 100 < v 2
          · rw [if_neg (fun q => q g1)]
            by_cases g2 : uT x / 10 % 10 < v 2
            · rw [if_neg (fun q => q g2)]
              by_cases g3 : uT x % 10 ≤ 1
              · rw [if_pos (by rw [lg_le0, fa_le64, l_toInt (by omega), show (1 : Int64).toInt = 1 by decide]; omega)]
                exact good ⟨z, g1, g2, g3⟩
              · rw [if_neg (by rw [lg_le0, fa_le64, l_toInt (by omega), show (1 : Int64).toInt = 1 by decide]; omega)]
                exact bad fun q => g3 q.2.2.2
            · rw [if_pos g2]
              exact bad fun q => g2 q.2.2.1
          · rw [if_pos g1]
            exact bad fun q => g1 q.2.1
        · have e : f_X12_isIn x 0 999 S = some (false, S) := by
            unfold f_X12_isIn
            rw [if_neg (by rw [lg_lt0]; exact z), if_pos]
            rw [lg_gt0, h99]
            omega
          rw [e, bi_s, if_pos (show b2i false = 0 from rfl)]
          exact bad fun q => by have := q.2.1; omega
  obtain ⟨⟨r, S'⟩, e, h1, h2⟩ := key
  dsimp only at h1 h2
  subst h1
  exact ⟨r, e, h2⟩
end F2
