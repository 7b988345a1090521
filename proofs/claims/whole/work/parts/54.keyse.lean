theorem Re.scr {C C1 S S1 : Mem} {L L' : List Nat} (h : Re C S) (hC : Sm L C C1) (hl : ∀ c, c ∈ L → 83 ≤ c ∧ c < 107) (hS : Sm L' S S1) (hl' : ∀ c, c ∈ L' → scrS c) : Re C1 S1 := by
  obtain ⟨ra, rb, rc, rd, rm, re, rf⟩ := h
  have oc : ∀ c, c < 83 ∨ 107 ≤ c → C1.1 c = C.1 c := fun c hc => hC.2 c fun z => by have := hl c z; omega
  have os : ∀ c, ¬ scrS c → S1.1 c = S.1 c := fun c hc => hS.2 c fun z => hc (hl' c z)
  have n200 : ¬ scrS 200 := by unfold scrS; omega
  have n201 : ¬ scrS 201 := by unfold scrS; omega
  have n202 : ¬ scrS 202 := by unfold scrS; omega
  have n204 : ¬ scrS 204 := by unfold scrS; omega
  have n205 : ¬ scrS 205 := by unfold scrS; omega
  have n219 : ¬ scrS 219 := by unfold scrS; omega
  exact ⟨ra.same (by rw [hC.1]) (by rw [hC.1]) (by rw [hS.1]) (by rw [hS.1]), rb.same (by rw [oc 0 (by omega)]) (oc 1 (by omega)) (by rw [os 200 n200]) (os 204 n204), rc.same (oc 8 (by omega)) (oc 9 (by omega)) (fun t _ => by rw [hC.1]) (os 201 n201) (os 202 n202) (by rw [hS.1]), rd.same (fun j hj => oc _ (by omega)) (by rw [hC.1]) (fun k _ => by rw [os 205 n205]) (fun g _ => by rw [hS.1]), rm.same (by rw [oc 0 (by omega)]) (by rw [os 200 n200]) (fun c h1 h2 => ⟨oc c (by omega), by rw [hC.1]⟩) (fun k _ _ => by rw [os 205 n205]) (fun k _ _ => by rw [hS.1]), re.same (by rw [oc 82 (by omega)]) (by rw [oc 82 (by omega)]) (by rw [os 200 n200]) (by rw [os 200 n200]), rf.same (oc 107 (by omega)) (by rw [os 200 n200]) (os 219 n219)⟩
theorem cnT_cong {T T' : Nat → Nat} : ∀ n, (∀ i, i < n → T i = T' i) → cnT T n = cnT T' n
  | 0, _ => rfl
  | n + 1, h => by
    have ih := cnT_cong n (fun i hi => h i (by omega))
    funext key g
    rw [cnT_s, cnT_s, ih, h n (by omega)]
theorem cy_rw {G k g : Nat} {cn : Nat → Nat → Bool} (hG : G ≤ 6) (hk : k < G) (hg : g < G) : ∀ n s, s < 2 ^ G → pop s + n = k → cyK G cn g n s ≤ rwS G cn s
  | 0, s, hs, hp => by
    have p64 := pow_le64 hG
    rw [cyK, rwS_s (s := s) hG (by omega) (by omega)]
    have := fb_sm_part (fun j => if cfK G cn s j then rwS G cn (s ||| 2 ^ j) else 0) hg
    unfold sEK
    dsimp only
    omega
  | n + 1, s, hs, hp => by
    have p64 := pow_le64 hG
    rw [cyK, rwS_s (s := s) hG (by omega) (by omega)]
    refine fb_sm_le fun j hj => ?_
    by_cases c : cfK G cn s j = true
    · rw [if_pos c, if_pos c]
      exact cy_rw hG hk hg n (s ||| 2 ^ j) (or_ltG hs hj) (by rw [pop_or s (by omega) j (by omega) (cf_lt c).2.1]; omega)
    · rw [if_neg c, if_neg c]; exact Nat.le_refl _
theorem cy_le {G k g : Nat} {cn : Nat → Nat → Bool} (hG : G ≤ 6) (hk : k < G) (hg : g < G) : cyS G cn k g 0 ≤ rwS G cn 0 := by
  unfold cyS
  exact cy_rw hG hk hg _ 0 (Nat.two_pow_pos _) (by rw [show pop 0 = 0 from rfl]; omega)
section F4
variable {N : Nat} {C S : Mem}
theorem scrK : ∀ c, c ∈ [103, 104, 105, 106] → 83 ≤ c ∧ c < 107 := by intro c hc; simp at hc; omega
theorem scrW : ∀ c, c ∈ [216, 217, 218] → scrS c := by intro c hc; simp at hc; unfold scrS; omega
theorem scrE : ∀ c, c ∈ ([] : List Nat) → scrS c := by intro c hc; cases hc
/-- the tries of a tray: why not, or how they count -/
theorem tries_is {v : Nat → Nat} (hN : 300 < N) (hv : VV v) (hC : PC C 10 v) (hA : Ar S 205 435 v) (hy : RY C S) (x n : Int32) : ∃ r b, f_X12_whyNoTries N x n S = some (r, S) ∧ f_X9_isTray x C = some (b, C) ∧ (b = false ↔ r = 1) ∧ Ho (f_X11_codeOfTries N x n C) (fun q => q.1 = r ∧ Sm [103, 104, 105, 106] C q.2 ∧ (r = 0 → ∃ t m, t < 4 ∧ m ≤ 60 ∧ x = nI t ∧ n = nI m ∧ (∀ i, i < m → vT (v 2) (S.2 203 (60 * t + i))) ∧ KwR q.2 (v 2) (cnT (fun i => uT (S.2 203 (60 * t + i))) m))) ∧ (r = 0 ∨ r = 1 ∨ r = 3 ∨ r = 4 ∨ r = 5) := by
  have v2 := hv.1.2.2.1
  obtain ⟨r0, e1, -, hr⟩ := tray_is hy x
  obtain ⟨b, eb, hb⟩ := ltray_is x C
  obtain ⟨q, e3, hq⟩ := in_is 0 3 (by omega) S x
  unfold f_X11_codeOfTries f_X9_codeOfLength f_X12_whyNoTries f_X12_isTray
  rw [show f_X12_isIn x.toInt64 0 3 S = _ from e3, e1, bi_s, bi_s, bi_s]
  rcases hr with ⟨rfl, t, m, ht, rfl, tr⟩ | ⟨rfl, hx⟩ | ⟨rfl, t, ht, rfl, t1, t2⟩
  · have hq1 : q = true := by
      rcases hq with ⟨hq, -⟩ | ⟨-, hq | ⟨n, hn, hw, hq⟩⟩
      · exact hq
      · exact absurd hq (nI_pos (by omega))
      · rw [n_eq (by omega)] at hq
        omega
    have hb1 : b = true := by
      rcases hb with ⟨hb, -⟩ | ⟨-, hb | ⟨-, hb, -⟩⟩
      · exact hb
      · exact absurd hb (nI_pos (by omega))
      · rw [n_lle (by omega)] at hb; omega
    subst hq1
    subst hb1
    obtain ⟨hm, c9, s202, -, hk⟩ := tr
    rw [if_neg (show ¬ b2i true = 0 by decide), if_pos rfl, ck_n (by omega), ck_n (by omega), ck_n (by omega), t_n (by omega), c9, s202, if_pos (nI_pos' (show m < 2147483648 by omega))]
    rcases i32c n with hn | ⟨k, hk', rfl⟩
    · have h1 := (z_neg hn m (by omega)).1
      have e4 : f_X12_isIn n.toInt64 0 60 S = some (false, S) := by
        obtain ⟨q, e4, hq⟩ := in_is 0 60 (by omega) S n
        rcases hq with ⟨-, k, -, hk, rfl⟩ | ⟨rfl, -⟩
        · exact absurd hn (nI_pos (by omega))
        · exact e4
      rw [if_pos h1, if_pos h1, e4, bi_s, if_pos (show b2i false = 0 from rfl), bi_s, if_pos rfl, if_pos hn]
      exact ⟨5, true, rfl, eb, ⟨fun z => (by cases z), fun z => absurd z (by decide)⟩, ⟨_, rfl, rfl, Sm.rf, fun z => absurd z (by decide)⟩, by simp⟩
    · by_cases g : k ≤ m
      · have e4 : f_X12_isIn (nI k).toInt64 0 60 S = some (true, S) := by
          rw [show (0 : Int64) = lN 0 from rfl, show (60 : Int64) = lN 60 from rfl, m_inl (by omega)]
          simp
          omega
        rw [if_pos (show nI k ≤ nI m by rw [n_le (by omega)]; exact g), if_pos (show nI k ≤ nI m by rw [n_le (by omega)]; exact g), e4, bi_s, if_neg (show ¬ b2i true = 0 by decide), bi_s, if_pos rfl, if_neg (nI_pos hk'), ck_n (by omega), hC.1.2.2.2.2.1]
        obtain ⟨r, er, hr⟩ := m_tries hN hv hA ht g hm
        have xe : ∀ i, i < k → C.2 (4 + t) i = S.2 203 (60 * t + i) := fun i hi => hk i (by omega)
        refine ⟨r, true, er, eb, ⟨fun z => (by cases z), fun z => ?_⟩, ?_, ?_⟩
        · rcases hr with ⟨rfl, -⟩ | ⟨rfl, -⟩ <;> exact absurd z (by decide)
        · rw [Ho_bi]
          refine Ho_mono (c_take hN v2 ht (show k ≤ 60 by omega)) ?_
          rintro ⟨r', C1⟩ ⟨s1, d1⟩
          dsimp only at s1 d1 ⊢
          simp only [b2i_0]
          rcases d1 with ⟨rfl, w1, w2⟩ | ⟨rfl, i, i1, i2⟩
          · rw [if_neg (by decide), Ho_some]
            have hr0 : r = 0 := by
              rcases hr with ⟨hr, -⟩ | ⟨-, i, i1, i2⟩
              · exact hr
              · have := w1 i i1
                rw [xe i i1] at this
                exact absurd this i2
            refine ⟨hr0.symm, s1, fun _ => ⟨t, k, ht, by omega, rfl, rfl, fun i hi => by have := w1 i hi; rwa [xe i hi] at this, ?_⟩⟩
            rw [cnT_cong (T' := fun i => uT (C.2 (4 + t) i)) k fun i hi => by rw [xe i hi]]
            exact w2
          · rw [if_pos rfl, Ho_some]
            have hr5 : r = 5 := by
              rcases hr with ⟨-, w⟩ | ⟨hr, -⟩
              · have := w i i1
                rw [← xe i i1] at this
                exact absurd this i2
              · exact hr
            exact ⟨hr5.symm, s1, fun z => by rw [hr5] at z; exact absurd z (by decide)⟩
        · rcases hr with ⟨rfl, -⟩ | ⟨rfl, -⟩ <;> simp
      · rw [if_neg (show ¬ nI k ≤ nI m by rw [n_le (by omega)]; exact g), if_neg (show ¬ nI k ≤ nI m by rw [n_le (by omega)]; exact g), bi_s, if_neg (by decide)]
        exact ⟨4, true, rfl, eb, ⟨fun z => (by cases z), fun z => absurd z (by decide)⟩, ⟨_, rfl, rfl, Sm.rf, fun z => absurd z (by decide)⟩, by simp⟩
  · have hq1 : q = false := by
      rcases hq with ⟨hq, n', h1, h2, rfl⟩ | ⟨hq, -⟩
      · rcases hx with hx | ⟨n', hn', h4, e⟩
        · exact absurd hx (nI_pos (by omega))
        · rw [n_eq (by omega)] at e
          omega
      · exact hq
    have hb1 : b = false := by
      rcases hb with ⟨-, t, ht, rfl⟩ | ⟨hb, -⟩
      · rcases hx with hx | ⟨n', hn', h4, e⟩
        · exact absurd hx (nI_pos (by omega))
        · rw [n_eq (by omega)] at e
          omega
      · exact hb
    subst hq1
    subst hb1
    rw [if_pos (show b2i false = 0 from rfl), if_neg (by decide), bi_s, if_neg (by decide)]
    exact ⟨1, false, rfl, eb, ⟨fun _ => rfl, fun _ => rfl⟩, ⟨_, rfl, rfl, Sm.rf, fun z => absurd z (by decide)⟩, by simp⟩
  · have hq1 : q = true := by
      rcases hq with ⟨hq, -⟩ | ⟨-, hq | ⟨n, hn, hw, hq⟩⟩
      · exact hq
      · exact absurd hq (nI_pos (by omega))
      · rw [n_eq (by omega)] at hq
        omega
    have hb1 : b = true := by
      rcases hb with ⟨hb, -⟩ | ⟨-, hb | ⟨-, hb, -⟩⟩
      · exact hb
      · exact absurd hb (nI_pos (by omega))
      · rw [n_lle (by omega)] at hb; omega
    subst hq1
    subst hb1
    rw [if_neg (show ¬ b2i true = 0 by decide), if_neg (show ¬ (3 : Int32) = 0 by decide), bi_s, if_neg (show ¬ (3 : Int32) = 0 by decide), ck_n (by omega), t_n (by omega), t2, if_neg (by decide)]
    exact ⟨3, true, rfl, eb, ⟨fun z => (by cases z), fun z => absurd z (by decide)⟩, ⟨_, rfl, rfl, Sm.rf, fun z => absurd z (by decide)⟩, by simp⟩
theorem e_fits (hN : 300 < N) (h : Rel C S) (x y : Int32) : Same (f_X11_fits N x y C) (f_X12_fits N x y S) := by
  unfold f_X11_fits f_X12_fits f_X11_refused f_X11_answered
  simp only [bM_e]
  have hR1 : Re C (uI S 200 1 0) := h.re.s0 1 n_okM.2 0
  generalize uI S 200 1 0 = S at *
  obtain ⟨v, hv, h9, hC, hA, hn⟩ := hR1.get
  have v2 := hv.1.2.2.1
  obtain ⟨r, b, e1, -, -, hc, hr⟩ := tries_is hN hv hC hA hR1.2.2.1 x y
  rw [e1, bi_s, u_at]
  obtain ⟨⟨r', C1⟩, e2, er, s1, h0⟩ := hc
  dsimp only at er s1 h0
  subst er
  rw [e2, bi_s]
  by_cases z : r' = 0
  · subst z
    obtain ⟨t, m, ht, hm, rfl, rfl, hT, kw⟩ := h0 rfl
    have hR := hR1.s0 0 n_okM.1 0
    have hs := u_at S 200 0 0
    have hA' : Ar (uI S 200 0 0) 205 435 v := hA.oth (by decide)
    have hL : (uI S 200 0 0).2 = S.2 := rfl
    generalize uI S 200 0 0 = S' at *
    rw [if_pos rfl, if_pos (by decide), kw.2.1, bi_s]
    obtain ⟨⟨r2, S2⟩, e3, a1, a2, a3⟩ := m_waysBy hN hv hA' ht hm (by rw [hL]; exact hT)
    dsimp only at a1 a2 a3
    rw [hL] at a1
    rw [e3, bi_s, a1]
    exact Same.mk (cl_for hR hs s1 scrK a2 scrW)
  · rw [if_neg z, if_neg (by rcases hr with rfl | rfl | rfl | rfl | rfl; exact absurd rfl z; all_goals decide), bi_s]
    exact Same.mk (cl_forR hR1 s1 scrK (Sm.rf (L := [])) scrE _)
end F4
