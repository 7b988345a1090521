section Q19
variable {N n lo x z d i : Nat} {C S C0 S0 : Mem} {B : Nat → Nat} {v : Nat → Nat}
theorem sw_end (h : qW 21 S = true) : swM S = -1 := by
  unfold qW at h
  rw [decide_eq_true_eq] at h
  have no : ∀ z, wN 21 ≠ wN z → qW z S = false := fun z hz => by
    unfold qW
    rw [decide_eq_false_iff_not, h.2]
    exact fun q => hz q.2
  unfold swM
  rw [no 22 (by decide +kernel), no 7 (by decide +kernel), no 24 (by decide +kernel), no 18 (by decide +kernel), no 26 (by decide +kernel), no 27 (by decide +kernel), no 28 (by decide +kernel), no 29 (by decide +kernel)]
  rfl
theorem NS.c6 (h : NS n B v C0 S0 lo d x z C S) : C.1 82 6 = 0 := h.1.c6
/-- one step of nights, with all that stands within -/
theorem n_step (hN : 1000 < N) (hn : n ≤ 300) : ∀ D d, D + d = 6 → d ≤ 3 → StepAt N n B v C0 S0 D d := by
  intro D
  induction D with
  | zero => intro d h1 h2; omega
  | succ D im =>
    intro d hD hd lo x z C S i ns hi hk0 hk21
    obtain ⟨st, c1, c2, c3, s26, ⟨x30, zd, d3, -⟩, np, xc, xs⟩ := id ns
    show (∃ i' lo' x' z' C' S', Lp N i C = Lp N i' C' ∧ g_X12_readStep N (f_X12_readStep N D) (nI d) S = some S' ∧ _) ∨ (∃ C' S', Lp N i C = some (false, C') ∧ g_X12_readStep N (f_X12_readStep N D) (nI d) S = some S' ∧ _)
    unfold g_X12_readStep
    have n9 := st.n9
    have ln := ns.lo_n
    -- a word that is none of a step's
    have nost : f_X12_stepWord S = some (-1, S) → (∃ C' S', f_X8_refuse 2 C = some (false, C') ∧ (bi (f_X12_stepWord S) fun r_3 M_1 => if r_3 = 5 then (f_X12_readStep_b16 N (f_X12_readStep N D) (nI d) r_3 M_1) else (if r_3 = 6 then (f_X12_readStep_b16 N (f_X12_readStep N D) (nI d) r_3 M_1) else (f_X12_readStep_b21 N (f_X12_readStep N D) (nI d) r_3 0 M_1))) = some S' ∧ Fl n C S C' S') := fun e => by
      obtain ⟨C1, S1, r1, r2, fl⟩ := st.no
      refine ⟨C1, S1, r1, ?_, fl⟩
      rw [e, bi_s, if_neg (by decide), if_neg (by decide)]
      unfold f_X12_readStep_b21
      rw [if_neg (by decide), r2, bv_s, b30_bad fl.bd]
    by_cases k0 : C.1 82 2 = 0
    · have d0 := hk0 k0
      have sw : f_X12_stepWord S = some (-1, S) := by
        rcases c_sort hN st with ⟨κ, σ, -, -, -, q⟩ | ⟨-, q⟩
        · rw [k0] at q
          exact absurd q (by decide)
        · exact q
      obtain ⟨C1, S1, r1, r2, fl⟩ := nost sw
      obtain ⟨f, a, f1, f2, f3, f4, -⟩ := id fl
      refine Or.inr ⟨C1, S1, ?_, r2, fl.xn xc xs⟩
      rw [Lp_stop hN (by omega) (Or.inr k0)]
      unfold f_X4_fill_b77 f_X4_fill_b93
      rw [c3, if_neg (show ¬ nI d ≤ 0 by rw [show (0 : Int32) = nI 0 from rfl, n_le (by omega)]; omega), r1, bi_s, if_neg (show ¬ C1.1 82 6 = 0 by rw [f4]; exact nz0 (by omega) (by omega))]
    have ltn := ns.lt_n k0
    rw [Lp_go hN (by omega) st.c6 k0 (c_word hN (by decide) (wG_at (by decide) (by decide)) st.tx st.tk)]
    cases q21 : qW 21 S with
    | true =>
      have d0 : d = 0 := by
        rcases Nat.eq_zero_or_pos d with g | g
        · exact g
        · have := hk21 g
          rw [q21] at this
          cases this
      obtain ⟨C1, S1, r1, r2, fl⟩ := nost (by rw [m_step, sw_end q21])
      refine Or.inr ⟨C1, S1, ?_, r2, fl.xn xc xs⟩
      unfold f_X4_readEnd
      rw [if_pos rfl, c3, d0, if_pos (by decide), r1, bi_s, bi_s]
      exact Lp_bad hN (by omega) (fl.xn xc xs)
    | false =>
      rw [if_neg (by decide)]
      rcases c_sort hN st with ⟨κ, σ, ks, e1, e2, hq⟩ | ⟨e1, e2⟩
      rotate_left
      · obtain ⟨C1, S1, r1, r2, fl⟩ := nost e2
        refine Or.inr ⟨C1, S1, ?_, r2, fl.xn xc xs⟩
        unfold f_X4_readStep
        rw [e1, bi_s, if_pos rfl, r1, bi_s, bi_s]
        exact Lp_bad hN (by omega) (fl.xn xc xs)
      have hk : κ < 8 ∧ 1 ≤ σ ∧ σ < 9 := by unfold KS2 at ks; omega
      have eM : (bi (f_X12_stepWord S) fun r_3 M_1 => if r_3 = 5 then (f_X12_readStep_b16 N (f_X12_readStep N D) (nI d) r_3 M_1) else (if r_3 = 6 then (f_X12_readStep_b16 N (f_X12_readStep N D) (nI d) r_3 M_1) else (f_X12_readStep_b21 N (f_X12_readStep N D) (nI d) r_3 0 M_1))) = f_X12_readStep_b30 N (f_X12_readStep N D) (nI d) (nI κ) (if κ = 5 ∨ κ = 6 then 1 else 0) S := by
        have p : 0 ≤ nI κ := by rw [show (0 : Int32) = nI 0 from rfl, n_le (by omega)]; omega
        rw [e2, bi_s]
        unfold f_X12_readStep_b16 f_X12_readStep_b21
        by_cases g5 : κ = 5
        · rw [if_pos (show nI κ = 5 by rw [g5]; rfl), if_pos p, if_pos (Or.inl g5)]
        · rw [if_neg (show ¬ nI κ = 5 by rw [n_eql (by omega)]; exact g5)]
          by_cases g6 : κ = 6
          · rw [if_pos (show nI κ = 6 by rw [g6]; rfl), if_pos p, if_pos (Or.inr g6)]
          · rw [if_neg (show ¬ nI κ = 6 by rw [n_eql (by omega)]; exact g6), if_pos p, if_neg (by omega)]
      rw [eM]
      unfold f_X4_readStep
      rw [e1, bi_s, if_neg (show ¬ nI σ = -1 by rw [n_m1l (by omega)]; exact id), c2]
      by_cases hx : x = 30
      · obtain ⟨C1, S1, r1, r2, fl⟩ := st.bad (x := 6) hq (by omega) (by omega)
        have r1 : f_X8_refuse 6 C = some (false, C1) := r1
        have r2 : f_X12_fail 6 (S.1 200 15) S = some S1 := r2
        refine Or.inr ⟨C1, S1, ?_, ?_, fl.xn xc xs⟩
        · rw [if_pos (show 30 ≤ nI x by rw [n_lle (by omega)]; show 30 ≤ x; omega), r1, bi_s, bi_s]
          exact Lp_bad hN (by omega) (fl.xn xc xs)
        · unfold f_X12_readStep_b30 f_X12_readStep_b56 f_X12_readStep_b82
          rw [st.s12, if_pos rfl, s26, if_pos (show nI x = 30 by rw [hx]; rfl), r2, bv_s, if_neg fl.bd.2.2, if_neg fl.bd.2.1]
      have hz : z < 60 := by omega
      unfold f_X3_isFull
      rw [if_neg (show ¬ 30 ≤ nI x by rw [n_lle (by omega)]; show ¬ 30 ≤ x; omega), c1, if_pos (by rw [n_ltl (by omega)]; show z < 60; exact hz), bi_s, if_pos b2i_f]
      have m30 : ∀ bl : Int32, f_X12_readStep_b30 N (f_X12_readStep N D) (nI d) (nI κ) bl S = if bl = 0 then f_X12_readStep_b82 N (f_X12_readStep N D) (nI d) (nI κ) bl S else (if nI d = 3 then (bv (f_X12_fail 7 (S.1 200 15) S) fun M_34 => f_X12_readStep_b82 N (f_X12_readStep N D) (nI d) (nI κ) bl M_34) else (f_X12_readStep_b82 N (f_X12_readStep N D) (nI d) (nI κ) bl S)) := fun bl => by
        unfold f_X12_readStep_b30 f_X12_readStep_b56
        rw [st.s12, if_pos rfl, s26, if_neg (show ¬ nI x = 30 by rw [n_eql (by omega)]; exact hx), if_pos rfl]
      rw [m30]
      by_cases hb : κ = 5 ∨ κ = 6
      rotate_left
      · -- a step that has nothing within
        have s7 : ¬ nI σ = 7 := by rw [n_eql (by omega)]; unfold KS2 at ks; show ¬ σ = 7; omega
        have s8 : ¬ nI σ = 8 := by rw [n_eql (by omega)]; unfold KS2 at ks; show ¬ σ = 8; omega
        rw [if_neg hb, if_pos rfl, if_neg s7, if_neg s8]
        unfold f_X4_readStep_b62
        rw [if_pos rfl]
        obtain ⟨b, C1, S1, r1, r2, hh⟩ := n_head (κ := κ) (σ := σ) (bl := 0) (rc := f_X12_readStep N D) hN ks ns hq (by omega) (Or.inr ⟨rfl, by omega, by omega⟩)
        have r1 : f_X4_readStep_b87 N 76 10 (nI σ) 0 C = some (b, C1) := r1
        have r2 : f_X12_readStep_b82 N (f_X12_readStep N D) (nI d) (nI κ) 0 S = _ := r2
        rw [r1, bi_s, r2]
        rcases hh with ⟨rfl, ns1, -, so, u0, fz⟩ | ⟨rfl, xf⟩
        rotate_left
        · rw [h141_bad (by omega) xf.bd (by omega)]
          exact Or.inr ⟨C1, _, Lp_bad hN (by omega) xf, rfl, xf.us (by omega)⟩
        obtain ⟨F, hF⟩ : ∃ F, N = F + 1 := ⟨N - 1, by omega⟩
        have eL : lp (fun k (a : Int32 × Int32 × Int32) m => f_X12_readStep_h141 N (f_X12_readStep N D) k a.1 a.2.1 a.2.2 m) N (nI d, nI 0, nI (1905 + 9 * x)) S1 = some (uI S1 205 (1905 + 9 * x + 8) (nI (x + 1))) := by
          have : lp (fun k (a : Int32 × Int32 × Int32) m => f_X12_readStep_h141 N (f_X12_readStep N D) k a.1 a.2.1 a.2.2 m) N (nI d, nI 0, nI (1905 + 9 * x)) S1 = lp (fun k (a : Int32 × Int32 × Int32) m => f_X12_readStep_h141 N (f_X12_readStep N D) k a.1 a.2.1 a.2.2 m) (F + 1) (nI d, nI 0, nI (1905 + 9 * x)) S1 := by rw [← hF]
          rw [this]
          show f_X12_readStep_h141 N (f_X12_readStep N D) _ (nI d) (nI 0) (nI (1905 + 9 * x)) S1 = _
          unfold f_X12_readStep_h141 f_X12_readStep_b169
          rw [if_pos (show nI 0 = 0 from rfl), if_pos (show nI 0 = 0 from rfl), b191_e (by omega), ns1.2.2.2.2.1]
        rw [eL]
        have oU : ∀ k, k ≠ 173 + 9 * x → U v (uI S1 205 (1905 + 9 * x + 8) (nI (x + 1))) k = U v S1 k := fun k hk => U_ne (by omega)
        refine Or.inl ⟨i + 1, lo + 1, x + 1, z + 1, C1, _, rfl, rfl, ns1.us (by omega), by omega, by omega, ⟨by omega, by omega, ?_, Or.inl ⟨?_, ?_, rfl, rfl⟩⟩, ⟨fz.1, fz.2.1, fun k hk => ?_⟩⟩
        · exact StOK.loc (C := C1) (v := U v S1) ⟨oU 0 (by omega), oU 1 (by omega), oU 2 (by omega)⟩ (fun _ _ _ => rfl) (fun k h1 h2 => oU k (by omega)) so
        · unfold isBlk
          rw [oU _ (by omega), u0]
          exact hb
        · exact U_at (by omega) (by omega) (by omega)
        · rw [us_same, g_upd, if_neg (by omega)]; exact fz.2.2 k hk
      -- a when, a loop
      have ca : ∀ K : Int32, (if nI σ = 7 then f_X4_readStep_b57 N 76 10 (nI σ) C else if nI σ = 8 then f_X4_readStep_b57 N 76 10 (nI σ) C else f_X4_readStep_b62 N 76 10 (nI σ) 0 C) = f_X4_readStep_b62 N 76 10 (nI σ) 1 C := fun _ => by
        unfold f_X4_readStep_b57
        have : σ = 7 ∨ σ = 8 := by unfold KS2 at ks; omega
        rcases this with rfl | rfl
        · rw [if_pos (show nI 7 = 7 from rfl)]
        · rw [if_neg (by decide), if_pos (show nI 8 = 8 from rfl)]
      rw [ca 0, if_pos hb, if_neg (by decide)]
      unfold f_X4_readStep_b62
      rw [if_neg (by decide), c3]
      by_cases hd3 : d = 3
      · obtain ⟨C1, S1, r1, r2, fl⟩ := st.bad (x := 7) hq (by omega) (by omega)
        have r1 : f_X8_refuse 7 C = some (false, C1) := r1
        have r2 : f_X12_fail 7 (S.1 200 15) S = some S1 := r2
        refine Or.inr ⟨C1, S1, ?_, ?_, fl.xn xc xs⟩
        · rw [if_neg (show ¬ nI d < 3 by rw [n_ltl (by omega)]; show ¬ d < 3; omega), r1, bi_s, bi_s]
          exact Lp_bad hN (by omega) (fl.xn xc xs)
        · rw [if_pos (show nI d = 3 by rw [hd3]; rfl), r2, bv_s]
          unfold f_X12_readStep_b82
          rw [if_neg fl.bd.2.1]
      rw [if_pos (show nI d < 3 by rw [n_ltl (by omega)]; show d < 3; omega), if_neg (show ¬ nI d = 3 by rw [n_eql (by omega)]; exact hd3)]
      obtain ⟨b, C1, S1, r1, r2, hh⟩ := n_head (κ := κ) (σ := σ) (bl := 1) (rc := f_X12_readStep N D) hN ks ns hq (by omega) (Or.inl ⟨rfl, hb, by omega⟩)
      have r1 : f_X4_readStep_b87 N 76 10 (nI σ) 1 C = some (b, C1) := r1
      have r2 : f_X12_readStep_b82 N (f_X12_readStep N D) (nI d) (nI κ) 1 S = _ := r2
      rw [r1, bi_s, r2]
      rcases hh with ⟨rfl, ns1, h88, so, u0, fz⟩ | ⟨rfl, xf⟩
      rotate_left
      · rw [h141_bad (by omega) xf.bd (by omega)]
        exact Or.inr ⟨C1, _, Lp_bad hN (by omega) xf, rfl, xf.us (by omega)⟩
      rcases n_body (x0 := x) (a0 := z) hN hn (show d < 3 by omega) (im (d + 1) (by omega) (by omega)) (n + 1) (lo + 1) (x + 1) (z + 1) C1 S1 (i + 1) N (by omega) (by omega) ns1 (by omega) (by omega) (by omega) (h88 rfl) (by rw [show x + 1 - (x + 1) = 0 by omega]; exact ⟨rfl, rfl⟩) with ⟨i2, lo2, x2, z2, C2, S2, q1, q2, q3, q4, q5, q6, q7, q8, q9, q10, q11, q12, q13, q14, q15⟩ | r
      rotate_left
      · exact Or.inr r
      rw [q1, q2, b191_e (by omega), q3.2.2.2.2.1]
      have oU : ∀ k, k ≠ 173 + 9 * x → U v (uI S2 205 (1905 + 9 * x + 8) (nI x2)) k = U v S2 k := fun k hk => U_ne (by omega)
      have hU : ∀ k, k < 165 + 9 * (x + 1) → U v S2 k = U v S1 k := fun k hk => U_same (q15 _ (by omega))
      have x2b := q3.2.2.2.2.2.1.1
      refine Or.inl ⟨i2, lo2, x2, z2 + 1, C2, _, rfl, rfl, q3.us (by omega), q4, by omega, ⟨by omega, by omega, ?_, Or.inr ⟨?_, ?_, z2, q7, rfl, ?_, q10, q11, q12⟩⟩, ⟨fun c k h1 h2 h3 => ?_, fun j hj => ?_, fun k hk => ?_⟩⟩
      · refine StOK.loc (C := C1) (v := U v S1) ⟨?_, ?_, ?_⟩ (fun j h1 h2 => ?_) (fun k h1 h2 => ?_) so
        · rw [oU 0 (by omega), hU 0 (by omega)]
        · rw [oU 1 (by omega), hU 1 (by omega)]
        · rw [oU 2 (by omega), hU 2 (by omega)]
        · exact q13 _ z (by omega) (by omega) (by omega) (by omega)
        · rw [oU k (by omega), hU k (by omega)]
      · unfold isBlk
        rw [oU _ (by omega), hU _ (by omega), u0]
        exact hb
      · exact U_at (by omega) (by omega) (by omega)
      · have e32 : 3 - d = (2 - d) + 1 := by omega
        rw [e32]
        show Sq C2 76 _ (2 - d) (x + 1) x2 (z + 1) z2
        rw [Sq_BB]
        exact SqU (fun _ _ _ _ _ _ => rfl) (fun k h1 h2 => by rw [us_same, g_upd, if_neg (by omega)]) q9
      · rw [q13 c k h1 h2 (by omega) (by omega)]; exact fz.1 c k h1 h2 h3
      · rw [q14 j hj]; exact fz.2.1 j hj
      · rw [us_same, g_upd, if_neg (by omega), q15 k (by omega)]; exact fz.2.2 k hk
end Q19
