section Q16
variable {N n lo x z : Nat} {A Z A' Z' C S C0 S0 : Mem} {B : Nat → Nat} {v : Nat → Nat}
theorem St.low (st : St n B lo A Z C S) {lo' : Nat} (h : lo' ≤ lo) : St n B lo' A Z C S := by
  obtain ⟨a, b, c, d, e, f, g, i, ⟨y, i1, i2⟩, j⟩ := st
  exact ⟨a, b, c, d, e, f, g, i, ⟨y, by omega, i2⟩, j⟩
/-- is the model's token the sign w? -/
def qS (w : Int32) (S : Mem) : Bool := decide (S.1 200 14 = 3 ∧ S.1 200 17 = w)
theorem sgn_q (w : Int32) (S : Mem) : f_X12_isSign w S = some (qS w S, S) := sgn_e w S
/-- a board in nights -/
theorem r_board (hN : 1000 < N) (st : St n B lo A Z C S) (hz : z < 60) (hx : x < 30) (sz : A.1 76 1 = nI z) (np : NPt v A Z) : ∃ b C' S', f_X4_readBoard N 76 10 C = some (b, C') ∧ f_X12_readBoard N 0 (nI (1905 + 9 * x + 1)) 1 S = some S' ∧ ((b = true ∧ ∃ c r, c < v 0 ∧ r < v 1 ∧ St n B lo (uI (uI (uI A 89 0 (nI c)) 89 1 (nI r)) 78 z (nI (r * v 0 + c))) (uI (uI Z 205 (1905 + 9 * x + 1) (nI c)) 205 (1905 + 9 * x + 2) (nI r)) C' S') ∨ (b = false ∧ Bd S' ∧ ∀ C0 S0, XN C0 A → XS S0 Z → XFn n C0 S0 C' S')) := by
  obtain ⟨v0, v1, v2, d0, d1, d7, z0, z1, z2, nms⟩ := np
  unfold f_X4_readBoard f_X12_readBoard
  have w0 : (435 : Int32) * 0 = nI 0 := rfl
  have w1 : (435 : Int32) * 0 + 1 = nI 1 := rfl
  rw [w1, w0, show C.1 10 0 = nI (v 0) by rw [st.c (by decide)]; exact d0, ck_n (by omega), t_n (by omega), show S.1 205 0 = nI (v 0) by rw [st.s (by decide)]; exact z0]
  obtain ⟨b, c, C1, S1, e1, e2, hh⟩ := st.num0 (p1 := 89) (i := 0) (W := v 0) hN ⟨by rw [ln_89]; omega, by rw [ln_89]; omega⟩ (by omega) (by omega)
  have e1 : f_X8_takeNumber N 89 0 0 (nI (v 0) - 1) C = some (b, C1) := e1
  rw [e1, bi_s, e2, bi_s, ck_n (by omega), t_n (by omega), nw]
  rcases hh with ⟨rfl, h1, h9, st1⟩ | ⟨rfl, rfl, fl⟩
  rotate_left
  · unfold f_X4_readBoard_b48 f_X4_readBoard_b49
    rw [if_pos b2i_f, if_pos rfl, zb_0, b_cnt fl.bd, bi_s, ck_n (by omega), bM_e, t_n (by omega), ck_n (by omega), bM_e, t_n (by omega)]
    refine ⟨_, _, _, rfl, rfl, Or.inr ⟨rfl, ?_, fun C0 S0 xc xs => ((fl.xn xc xs).us (by omega)).us (by omega)⟩⟩
    rw [bd5, bd5]; exact fl.bd
  rw [if_neg (by decide), show C1.1 10 1 = nI (v 1) by rw [st1.c (by decide), u_ne (by decide)]; exact d1, show S1.1 205 1 = nI (v 1) by rw [st1.s (by decide)]; exact z1]
  clear e1 e2
  obtain ⟨b, r, C2, S2, e1, e2, hh⟩ := st1.num0 (p1 := 89) (i := 1) (W := v 1) hN ⟨by rw [ln_89]; omega, by rw [ln_89]; omega⟩ (by omega) (by omega)
  have e1 : f_X8_takeNumber N 89 1 0 (nI (v 1) - 1) C1 = some (b, C2) := e1
  rw [e1, bi_s, e2, bi_s, ck_n (by omega), bM_e, t_n (by omega), ck_n (by omega), bM_e, t_n (by omega)]
  rcases hh with ⟨rfl, h2, h9', st2⟩ | ⟨rfl, rfl, fl⟩
  rotate_left
  · unfold f_X4_readBoard_b48 f_X4_readBoard_b49
    rw [if_pos b2i_f, if_pos rfl, zb_0]
    refine ⟨_, _, _, rfl, rfl, Or.inr ⟨rfl, ?_, fun C0 S0 xc xs => ((fl.xn (xc.u (by omega)) xs).us (by omega)).us (by omega)⟩⟩
    rw [bd5, bd5]; exact fl.bd
  unfold f_X4_readBoard_b49 f_X5_boardAt
  rw [if_neg (by decide), if_neg (by decide), ck_0 (by decide), show ck (1 : Int32) 2 = ck (β := Bool × Mem) (nI 1) 2 from rfl, ck_n (by omega), show tn 0 = 0 from rfl, show tn 1 = 1 from rfl, show C2.1 89 0 = nI c by rw [st2.c (by decide), us_same, g_upd, if_neg (by decide), u_at], show C2.1 89 1 = nI r by rw [st2.c (by decide), u_at], show C2.1 10 0 = nI (v 0) by rw [st2.c (by decide), u_ne (by decide), u_ne (by decide)]; exact d0, bi_s, show C2.1 76 1 = nI z by rw [st2.c (by decide), u_ne (by decide), u_ne (by decide)]; exact sz, ck_n (by omega), bM_e, t_n (by omega), zb_1, n_mul, nI_add]
  exact ⟨_, _, _, rfl, rfl, Or.inl ⟨rfl, c, r, h1, h2, (((st2.uc (c := 78) (k := z) (x := nI (r * v 0 + c)) (by decide)).us (c := 205) (k := 1905 + 9 * x + 1) (x := nI c) (by decide)).us (c := 205) (k := 1905 + 9 * x + 2) (x := nI r) (by decide)).low (by omega)⟩⟩
theorem b_rboard (h : Bd S) (hx : x < 30) : f_X12_readBoard N 0 (nI (1905 + 9 * x + 1)) 1 S = some (uI (uI S 205 (1905 + 9 * x + 1) (nI 0)) 205 (1905 + 9 * x + 2) (nI 0)) := by
  unfold f_X12_readBoard
  have w0 : (435 : Int32) * 0 = nI 0 := rfl
  have w1 : (435 : Int32) * 0 + 1 = nI 1 := rfl
  rw [w1, w0, ck_n (by omega), b_cnt h, bi_s, ck_n (by omega), b_cnt h, bi_s, ck_n (by omega), bM_e, t_n (by omega), nw, ck_n (by omega), bM_e, t_n (by omega)]
theorem nwj (a : Nat) : nI a + 3 = nI (a + 3) ∧ nI a + 6 = nI (a + 6) ∧ nI a + 7 = nI (a + 7) := ⟨nI_add a 3, nI_add a 6, nI_add a 7⟩
/-- the test of a when -/
theorem r_test (hN : 1000 < N) (st : St n B lo A Z C S) (hz : z < 60) (hx : x < 30) (sz : A.1 76 1 = nI z) (np : NPt v A Z) (k5 : Z.1 205 (1905 + 9 * x) = nI 5) (s8 : A.1 77 z = nI 8) : Rst n B lo v x z A Z (f_X4_readTest N 76 10 C) (f_X12_readTest N (nI (1905 + 9 * x)) S) := by
  obtain ⟨v0, v1, v2, -⟩ := id np
  have w3 := (nwj (1905 + 9 * x)).1
  have w6 := (nwj (1905 + 9 * x)).2.1
  have w7 := (nwj (1905 + 9 * x)).2.2
  unfold f_X4_readTest f_X12_readTest
  rw [m_test, bi_s]
  unfold twM
  have q20 : qW 30 S = qW 20 S := q_30 S
  -- foggy
  have c30 := c_word (z := 30) hN (by decide) (wG_at (by decide) (by decide)) st.tx st.tk
  have c23 := c_word (z := 23) hN (by decide) (wG_at (by decide) (by decide)) st.tx st.tk
  unfold f_X8_tryWord
  rw [c30, bi_s, q20]
  cases h20 : qW 20 S with
  | true =>
    obtain ⟨C1, S1, e1, e2, st1⟩ := st.go hN (by rw [st.q1 h20]; decide)
    have em : f_X12_must N 1 S = some S1 := by
      unfold f_X12_must
      rw [st.s12, if_pos (by decide), if_neg (by decide), e2, bv_s]
    rw [if_neg (by decide), e1, bv_s, bi_s, if_neg (by decide), show twB true (qW 7 S) (qW 5 S) = 0 from rfl, if_neg (by decide)]
    unfold f_X12_readTest_b15
    rw [em, bv_s, w6, ck_n (by omega), bM_e, t_n (by omega), if_neg (by decide), nw]
    have st2 := st1.us (c := 205) (k := 1905 + 9 * x + 6) (x := 0) (by decide)
    obtain ⟨b, C2, S2, e3, e4, hh⟩ := r_board (v := v) hN st2 hz hx sz (np.of XN.rf (XS.rf.u (by omega)))
    rw [e3, bi_s, e4, bv_s]
    rcases hh with ⟨rfl, c, r, hc, hr, st3⟩ | ⟨rfl, hb, xf⟩
    · rw [st3.s12, if_neg (by decide), if_pos rfl]
      refine ⟨_, _, _, rfl, rfl, Or.inl ⟨rfl, _, _, st3.low (by omega), ((FA.rf.p).p).u (by omega), (((FZ.rf).u (by omega)).u (by omega)).u (by omega), ?_⟩⟩
      have u0 : U v (uI (uI (uI Z 205 (1905 + 9 * x + 6) 0) 205 (1905 + 9 * x + 1) (nI c)) 205 (1905 + 9 * x + 2) (nI r)) (165 + 9 * x) = 5 := U_hi (by omega) (by omega) (by rw [us_same, g_upd, if_neg (by omega), us_same, g_upd, if_neg (by omega), us_same, g_upd, if_neg (by omega), show 1740 + (165 + 9 * x) = 1905 + 9 * x by omega]; exact k5)
      have u6 : U v (uI (uI (uI Z 205 (1905 + 9 * x + 6) 0) 205 (1905 + 9 * x + 1) (nI c)) 205 (1905 + 9 * x + 2) (nI r)) (171 + 9 * x) = 0 := U_hi (by omega) (by omega) (by rw [us_same, g_upd, if_neg (by omega), us_same, g_upd, if_neg (by omega), us_same, g_upd, if_pos (by omega)]; rfl)
      have u1 : U v (uI (uI (uI Z 205 (1905 + 9 * x + 6) 0) 205 (1905 + 9 * x + 1) (nI c)) 205 (1905 + 9 * x + 2) (nI r)) (166 + 9 * x) = c := U_hi (by omega) (by omega) (by rw [us_same, g_upd, if_neg (by omega), us_same, g_upd, if_pos (by omega)])
      have u2 : U v (uI (uI (uI Z 205 (1905 + 9 * x + 6) 0) 205 (1905 + 9 * x + 1) (nI c)) 205 (1905 + 9 * x + 2) (nI r)) (167 + 9 * x) = r := U_hi (by omega) (by omega) (by rw [us_same, g_upd, if_pos (by omega)])
      unfold StOK
      rw [u0, u6, u1, u2, U_lo (by omega), U_lo (by omega)]
      refine Or.inr (Or.inr (Or.inr (Or.inr (Or.inr (Or.inr (Or.inr (Or.inl ⟨rfl, rfl, ?_, ?_, hc, hr⟩)))))))
      · rw [u_ne (by decide), u_ne (by decide), u_ne (by decide)]; exact s8
      · exact u_at _ _ _ _
    · rw [if_pos hb.1]
      exact ⟨_, _, _, rfl, rfl, Or.inr ⟨rfl, fun C0 S0 xc xs => xf C0 S0 xc (xs.u (by omega))⟩⟩
  | false =>
    rw [if_pos b2i_f, bi_s, if_pos b2i_f, c23, bi_s, q_23]
    have szC : C.1 76 1 = nI z := by rw [st.c (by decide)]; exact sz
    cases h7 : qW 7 S with
    | true =>
      obtain ⟨C1, S1, e1, e2, st1⟩ := st.go hN (by rw [st.q1 h7]; decide)
      have em : f_X12_must N 1 S = some S1 := by
        unfold f_X12_must
        rw [st.s12, if_pos (by decide), if_neg (by decide), e2, bv_s]
      rw [if_neg (by decide), e1, bv_s, bi_s, if_neg (by decide), show twB false true (qW 5 S) = 1 from rfl, if_neg (by decide)]
      unfold f_X12_readTest_b15
      rw [em, bv_s, w6, ck_n (by omega), bM_e, bM_e, t_n (by omega), if_pos rfl, show C1.1 76 1 = nI z by rw [st1.c (by decide)]; exact sz, ck_n (by omega), t_n (by omega), bis_id]
      have st2 := (st1.us (c := 205) (k := 1905 + 9 * x + 6) (x := 1) (by decide)).uc (c := 76 + 1) (k := z) (x := 9) (by decide)
      obtain ⟨b, C2, S2, e3, e4, hh⟩ := r_gate (v := v) hN st2 hz hx (by rw [u_ne (by decide)]; exact sz) (np.of (XN.rf.u (by omega)) (XS.rf.u (by omega))) (fun g hg => by
        have u0 : U v (uI (uI Z 205 (1905 + 9 * x + 6) 1) 205 (1905 + 9 * x + 1) (nI g)) (165 + 9 * x) = 5 := U_hi (by omega) (by omega) (by rw [us_same, g_upd, if_neg (by omega), us_same, g_upd, if_neg (by omega), show 1740 + (165 + 9 * x) = 1905 + 9 * x by omega]; exact k5)
        have u6 : U v (uI (uI Z 205 (1905 + 9 * x + 6) 1) 205 (1905 + 9 * x + 1) (nI g)) (171 + 9 * x) = 1 := U_hi (by omega) (by omega) (by rw [us_same, g_upd, if_neg (by omega), us_same, g_upd, if_pos (by omega)]; rfl)
        have u1 : U v (uI (uI Z 205 (1905 + 9 * x + 6) 1) 205 (1905 + 9 * x + 1) (nI g)) (166 + 9 * x) = g := U_hi (by omega) (by omega) (by rw [us_same, g_upd, if_pos (by omega)])
        unfold StOK
        rw [u0, u6, u1, U_lo (by omega)]
        refine Or.inr (Or.inr (Or.inr (Or.inr (Or.inr (Or.inr (Or.inr (Or.inr (Or.inl ⟨rfl, rfl, ?_, ?_, hg⟩))))))))
        · rw [u_ne (by decide)]; exact u_at _ _ _ _
        · exact u_at _ _ _ _)
      rw [e3, e4]
      refine ⟨_, _, _, rfl, rfl, ?_⟩
      rcases hh with ⟨rfl, A2, Z2, st3, fa, fz, so⟩ | ⟨rfl, xf⟩
      · obtain ⟨f1, f2, f3⟩ := fa
        obtain ⟨g1, g2, g3⟩ := fz
        have fa0 : FA z A (uI A (76 + 1) z 9) := FA.rf.u (by omega)
        have fz0 : FZ x Z (uI Z 205 (1905 + 9 * x + 6) 1) := FZ.rf.u (by omega)
        exact Or.inl ⟨rfl, A2, Z2, st3.low (by omega), ⟨f1.trans fa0.1, fun c h1 h2 h3 h4 h5 => (f2 c h1 h2 h3 h4 h5).trans (fa0.2.1 c h1 h2 h3 h4 h5), fun c k h1 h2 => (f3 c k h1 h2).trans (fa0.2.2 c k h1 h2)⟩, ⟨g1.trans fz0.1, fun c hc => (g2 c hc).trans (fz0.2.1 c hc), fun k hk => (g3 k hk).trans (fz0.2.2 k hk)⟩, so⟩
      · exact Or.inr ⟨rfl, fun C0 S0 xc xs => xf C0 S0 (xc.u (by omega)) (xs.u (by omega))⟩
    | false =>
      rw [if_pos b2i_f, bi_s, if_pos b2i_f, szC, ck_n (by omega), bM_e, t_n (by omega)]
      have stA := st.uc (c := 76 + 1) (k := z) (x := 10) (by decide)
      obtain ⟨b, C1, S1, e1, e2, hh⟩ := stA.word (z := 31) hN (by decide) (by decide)
      rw [q_31] at e2
      rw [e1, bi_s]
      cases h5 : qW 5 S with
      | false =>
        rw [h5] at e2
        rcases hh with ⟨rfl, st1⟩ | ⟨rfl, fl⟩
        · exfalso
          have := stA.must (b := false) hN (fun h => by cases h)
          obtain ⟨C9, S9, -, m2, fl⟩ := this.2 rfl
          have e2 : f_X12_must N (b2i false) S = some S1 := e2
          rw [m2] at e2
          cases e2
          have := fl.bd.2.2
          exact this st1.s12
        · have hb := fl.bd
          rw [if_pos b2i_f, show twB false false false = -1 from rfl, if_pos (by decide)]
          unfold f_X12_readTest_b15
          have e2 : f_X12_must N 0 S = some S1 := e2
          have hb2 : Bd (uI S1 205 (1905 + 9 * x + 6) (-1)) := by rw [bd5]; exact hb
          rw [e2, bv_s, w6, ck_n (by omega), bM_e, t_n (by omega), if_neg (by decide), nw, b_rboard hb2 hx, bv_s, if_pos (show Bd _ by rw [bd5, bd5]; exact hb2).1]
          exact ⟨_, _, _, rfl, rfl, Or.inr ⟨rfl, fun C0 S0 xc xs => (((fl.xn (xc.u (by omega)) xs).us (by omega)).us (by omega)).us (by omega)⟩⟩
      | true =>
        rw [h5] at e2
        rcases hh with ⟨rfl, st1⟩ | ⟨rfl, fl⟩
        rotate_left
        · exfalso
          have := stA.must (b := true) hN (fun _ => by rw [u_ne (by decide), st.q1 h5]; decide)
          obtain ⟨C9, S9, -, m2, st9⟩ := this.1 rfl
          rw [m2] at e2
          cases e2
          exact fl.bd.2.2 st9.s12
        rw [if_neg (by decide), show twB false false true = 2 from rfl, if_neg (by decide)]
        unfold f_X12_readTest_b15
        have e2 : f_X12_must N 1 S = some S1 := e2
        rw [e2, bv_s, w6, ck_n (by omega), bM_e, t_n (by omega), if_neg (by decide), nw]
        have st2 := st1.us (c := 205) (k := 1905 + 9 * x + 6) (x := 2) (by decide)
        obtain ⟨b, C2, S2, e3, e4, hh⟩ := r_board (v := v) hN st2 hz hx (by rw [u_ne (by decide)]; exact sz) (np.of (XN.rf.u (by omega)) (XS.rf.u (by omega)))
        rw [e3, bi_s, e4, bv_s]
        clear e1 e2 e3 e4
        rcases hh with ⟨rfl, c, r, hc, hr, st3⟩ | ⟨rfl, hb, xf⟩
        rotate_left
        · rw [if_pos hb.1, if_pos b2i_f]
          exact ⟨_, _, _, rfl, rfl, Or.inr ⟨rfl, fun C0 S0 xc xs => xf C0 S0 (xc.u (by omega)) (xs.u (by omega))⟩⟩
        rw [st3.s12, if_neg (by decide), if_neg (by decide), if_neg (by decide)]
        have n9 := st.n9
        obtain ⟨a, e, k, t1, t2, t3, t4, t5, t6, t7, t8, t9, t10⟩ := st3.tk
        have kb : k ≤ 4 := by omega
        unfold f_X4_readCompares
        rw [t8, t9, w7]
        -- no sign: both refuse
        have bad : ∀ y : Int32, (∀ w, (w = 60 ∨ w = 61 ∨ w = 62) → qS w S2 = false) → (∃ C3 S3, f_X8_refuse 2 C2 = some (false, C3) ∧ f_X12_readTest_b91 N (nI (1905 + 9 * x)) y (nI (1905 + 9 * x + 7)) S2 = some S3 ∧ ∀ C0 S0, XN C0 A → XS S0 Z → XFn n C0 S0 C3 S3) := fun y hs => by
          have st4 := st3.us (c := 205) (k := 1905 + 9 * x + 7) (x := y) (by decide)
          have q : ∀ w, qS w (uI S2 205 (1905 + 9 * x + 7) y) = qS w S2 := fun w => by unfold qS; rw [u_ne (by decide)]
          obtain ⟨C3, S3, r1, r2, fl⟩ := (st4.must (b := false) hN fun h => by cases h).2 rfl
          have r2 : f_X12_must N 0 (uI S2 205 (1905 + 9 * x + 7) y) = some S3 := r2
          refine ⟨C3, uI S3 205 (1905 + 9 * x + 3) (nI 0), r1, ?_, fun C0 S0 xc xs => (fl.xn (by repeat' first | exact xc | refine XN.u ?_ (by omega)) (by repeat' first | exact xs | refine XS.u ?_ (by omega) | refine XS.ul ?_ (by omega) | refine XS.u2 ?_ (by omega))).us (by omega)⟩
          unfold f_X12_readTest_b91 f_X12_readTest_b125
          rw [ck_n (by omega), bM_e, t_n (by omega), sgn_q, bi_s, q, hs 60 (by simp), if_pos b2i_f, sgn_q, bi_s, q, hs 62 (by simp), if_pos b2i_f, sgn_q, bi_s, q, hs 61 (by simp), if_pos b2i_f, r2, bv_s, b_cnt fl.bd, bi_s, w3, ck_n (by omega), bM_e, t_n (by omega)]
        by_cases k3 : k = 3
        rotate_left
        · obtain ⟨C3, S3, r1, r2, xf⟩ := bad 0 (fun w _ => by unfold qS; rw [t9, decide_eq_false]; intro q; exact k3 (by have := q.1; rwa [n_eql (by omega)] at this))
          rw [if_neg (show ¬ nI k = 3 by rw [n_eql (by omega)]; exact k3), if_neg (show ¬ nI k = 3 by rw [n_eql (by omega)]; exact k3), r1, bi_s, bi_s, if_pos b2i_f, r2]
          exact ⟨_, _, _, rfl, rfl, Or.inr ⟨rfl, xf⟩⟩
        subst k3
        rcases t10 with ⟨q, -⟩ | ⟨q, -⟩ | ⟨q, -⟩ | ⟨-, y, y1, y2, y3⟩ | q
        · omega
        · omega
        · omega
        rotate_left
        · omega
        rw [if_pos (show nI 3 = 3 from rfl), if_pos (show nI 3 = 3 from rfl), y2, y3]
        by_cases y59 : y = 59
        · obtain ⟨C3, S3, r1, r2, xf⟩ := bad (nI y) (fun w hw => by
            unfold qS
            rw [y3, decide_eq_false]
            intro q
            have := q.2
            rw [y59] at this
            rcases hw with rfl | rfl | rfl
            · revert this; decide
            · revert this; decide
            · revert this; decide)
          rw [if_pos (show nI y = 59 by rw [y59]; rfl), r1, bi_s, bi_s, if_pos b2i_f, r2]
          exact ⟨_, _, _, rfl, rfl, Or.inr ⟨rfl, xf⟩⟩
        rw [if_neg (show ¬ nI y = 59 by rw [n_eql (by omega)]; exact y59), show C2.1 76 1 = nI z by rw [st3.c (by decide), u_ne (by decide), u_ne (by decide), u_ne (by decide), u_ne (by decide)]; exact sz, ck_n (by omega), bM_e, t_n (by omega)]
        have st4 := (st3.uc (c := 76 + 3) (k := z) (x := nI y) (by decide)).us (c := 205) (k := 1905 + 9 * x + 7) (x := nI y) (by decide)
        obtain ⟨C3, S3, r1, r2, st5⟩ := (st4.must (b := true) hN fun _ => by rw [u_ne (by decide), t8]; decide).1 rfl
        have r2 : f_X12_must N 1 (uI S2 205 (1905 + 9 * x + 7) (nI y)) = some S3 := r2
        have m91 : f_X12_readTest_b91 N (nI (1905 + 9 * x)) (nI y) (nI (1905 + 9 * x + 7)) S2 = bi (f_X12_count N 0 999 S3) fun r M => ck (nI (1905 + 9 * x) + 3) 2175 (bM (uI M 205 (tn (nI (1905 + 9 * x) + 3)) r) fun M => some M) := by
          have q : ∀ w, qS w (uI S2 205 (1905 + 9 * x + 7) (nI y)) = decide (nI y = w) := fun w => by
            unfold qS
            rw [u_ne (by decide), t9, y3]
            by_cases g : nI y = w
            · rw [decide_eq_true (⟨rfl, g⟩ : nI 3 = 3 ∧ nI y = w), decide_eq_true g]
            · rw [decide_eq_false (fun h : nI 3 = 3 ∧ nI y = w => g h.2), decide_eq_false g]
          unfold f_X12_readTest_b91 f_X12_readTest_b120 f_X12_readTest_b125
          rw [ck_n (by omega), bM_e, t_n (by omega), sgn_q, bi_s, q]
          obtain rfl | rfl | rfl : y = 60 ∨ y = 62 ∨ y = 61 := by omega
          · rw [if_neg (by decide), r2, bv_s]
          · rw [if_pos (by decide), sgn_q, bi_s, q, if_neg (by decide), r2, bv_s]
          · rw [if_pos (by decide), sgn_q, bi_s, q, if_pos (by decide), sgn_q, bi_s, q, if_neg (by decide), r2, bv_s]
        rw [m91, r1, bv_s, bi_s, if_neg (by decide), show C3.1 76 1 = nI z by rw [st5.c (by decide), u_ne (by decide), u_ne (by decide), u_ne (by decide), u_ne (by decide), u_ne (by decide)]; exact sz, w3]
        obtain ⟨b, l, C4, S4, e1, e2, hh⟩ := st5.num (p1 := 76 + 4) (i := z) (L := 0) (H := 999) hN ⟨by rw [show ln (76 + 4) = 60 from ln_80]; omega, by rw [show ln (76 + 4) = 60 from ln_80]; omega⟩ (by decide) (by omega)
        have e1 : f_X8_takeNumber N (76 + 4) (nI z) 0 999 C3 = some (b, C4) := e1
        have e2 : f_X12_count N 0 999 S3 = some (nI l, S4) := e2
        rw [e1, bi_s, e2, bi_s, ck_n (by omega), bM_e, t_n (by omega)]
        rcases hh with ⟨rfl, ⟨l1, l2⟩, -, st6⟩ | ⟨rfl, rfl, fl⟩
        rotate_left
        · rw [if_pos b2i_f]
          exact ⟨_, _, _, rfl, rfl, Or.inr ⟨rfl, fun C0 S0 xc xs => (fl.xn (by repeat' first | exact xc | refine XN.u ?_ (by omega)) (by repeat' first | exact xs | refine XS.u ?_ (by omega) | refine XS.ul ?_ (by omega) | refine XS.u2 ?_ (by omega))).us (by omega)⟩⟩
        rw [if_neg (by decide)]
        have st7 := st6.us (c := 205) (k := 1905 + 9 * x + 3) (x := nI l) (by decide)
        refine ⟨_, _, _, rfl, rfl, Or.inl ⟨rfl, _, _, st7.low (by omega), (((((FA.rf.u (by omega)).p).p).u (by omega)).u (by omega)).u (by omega), ((((FZ.rf.u (by omega)).u (by omega)).u (by omega)).u (by omega)).u (by omega), ?_⟩⟩
        have zf : ∀ k, 1905 + 9 * x ≤ k → (uI (uI (uI (uI (uI Z 205 (1905 + 9 * x + 6) 2) 205 (1905 + 9 * x + 1) (nI c)) 205 (1905 + 9 * x + 2) (nI r)) 205 (1905 + 9 * x + 7) (nI y)) 205 (1905 + 9 * x + 3) (nI l)).1 205 k = if k = 1905 + 9 * x + 3 then nI l else if k = 1905 + 9 * x + 7 then nI y else if k = 1905 + 9 * x + 2 then nI r else if k = 1905 + 9 * x + 1 then nI c else if k = 1905 + 9 * x + 6 then 2 else Z.1 205 k := fun k _ => by
          rw [us_same, g_upd, us_same, g_upd, us_same, g_upd, us_same, g_upd, us_same, g_upd]
        generalize uI (uI (uI (uI (uI Z 205 (1905 + 9 * x + 6) 2) 205 (1905 + 9 * x + 1) (nI c)) 205 (1905 + 9 * x + 2) (nI r)) 205 (1905 + 9 * x + 7) (nI y)) 205 (1905 + 9 * x + 3) (nI l) = Z9 at *
        have u0 : U v Z9 (165 + 9 * x) = 5 := U_hi (by omega) (by omega) (by rw [show 1740 + (165 + 9 * x) = 1905 + 9 * x by omega, zf _ (by omega), if_neg (by omega), if_neg (by omega), if_neg (by omega), if_neg (by omega), if_neg (by omega)]; exact k5)
        have u1 : U v Z9 (166 + 9 * x) = c := U_hi (by omega) (by omega) (by rw [show 1740 + (166 + 9 * x) = 1905 + 9 * x + 1 by omega, zf _ (by omega), if_neg (by omega), if_neg (by omega), if_neg (by omega), if_pos rfl])
        have u2 : U v Z9 (167 + 9 * x) = r := U_hi (by omega) (by omega) (by rw [show 1740 + (167 + 9 * x) = 1905 + 9 * x + 2 by omega, zf _ (by omega), if_neg (by omega), if_neg (by omega), if_pos rfl])
        have u3 : U v Z9 (168 + 9 * x) = l := U_hi (by omega) (by omega) (by rw [show 1740 + (168 + 9 * x) = 1905 + 9 * x + 3 by omega, zf _ (by omega), if_pos rfl])
        have u6 : U v Z9 (171 + 9 * x) = 2 := U_hi (by omega) (by omega) (by rw [show 1740 + (171 + 9 * x) = 1905 + 9 * x + 6 by omega, zf _ (by omega), if_neg (by omega), if_neg (by omega), if_neg (by omega), if_neg (by omega), if_pos rfl]; rfl)
        have u7 : U v Z9 (172 + 9 * x) = y := U_hi (by omega) (by omega) (by rw [show 1740 + (172 + 9 * x) = 1905 + 9 * x + 7 by omega, zf _ (by omega), if_neg (by omega), if_pos rfl])
        unfold StOK
        rw [u0, u1, u2, u3, u6, u7, U_lo (by omega), U_lo (by omega)]
        refine Or.inr (Or.inr (Or.inr (Or.inr (Or.inr (Or.inr (Or.inr (Or.inr (Or.inr ⟨rfl, rfl, ?_, ?_, hc, hr, ?_, by omega, y1.2, ?_, l2⟩))))))))
        · rw [u_ne (by decide), u_ne (by decide), u_ne (by decide), u_ne (by decide), u_ne (by decide)]; exact u_at _ _ _ _
        · rw [u_ne (by decide), u_ne (by decide)]; exact u_at _ _ _ _
        · rw [u_ne (by decide)]; exact u_at _ _ _ _
        · exact u_at _ _ _ _
end Q16
