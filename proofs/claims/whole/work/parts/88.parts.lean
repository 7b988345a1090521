section Q9
variable {N n lo : Nat} {A Z A' Z' C S C0 S0 : Mem} {B : Nat → Nat} {v : Nat → Nat}
theorem na_2 (a : Nat) : nI a + 2 = nI (a + 2) := nI_add a 2
theorem na_3 (a : Nat) : nI a + 3 = nI (a + 3) := nI_add a 3
theorem na_4 (a : Nat) : nI a + 4 = nI (a + 4) := nI_add a 4
theorem na_5 (a : Nat) : nI a + 5 = nI (a + 5) := nI_add a 5
theorem na_8 (a : Nat) : nI a + 8 = nI (a + 8) := nI_add a 8
theorem na_12 (a : Nat) : nI a + 12 = nI (a + 12) := nI_add a 12
theorem na_16 (a : Nat) : nI a + 16 = nI (a + 16) := nI_add a 16
theorem na_18 (a : Nat) : nI a + 18 = nI (a + 18) := nI_add a 18
theorem na_24 (a : Nat) : nI a + 24 = nI (a + 24) := nI_add a 24
theorem na_30 (a : Nat) : nI a + 30 = nI (a + 30) := nI_add a 30
theorem holder_fin {k nc vo : Nat} {x : Int64} (hN : 1000 < N) (h : PI C0 S0 A Z v) (st : St n B lo A' Z' C S) (hk : v 3 = k) (k6 : k < 6) (hn : v 2 + v 3 + v 4 + v 5 = nc) (w : 1 ≤ v 0 ∧ 1 ≤ v 1) (b : vo ≤ 20)
    (p0 : A'.1 23 = A.1 23)
    (q0 : ∀ i, i < k → A'.1 26 i = A.1 26 i) (q1 : A'.1 26 (k) = nI vo)
    (r : A'.2 25 = A.2 25) (o : ∀ j, 1 ≤ j → j < 13 → j ≠ 3 → A'.1 (23 + j) = A.1 (23 + j)) (a1 : A'.1 83 4 = nI (nc + 1)) (a2 : ∀ i, A'.2 84 i = if i = nc then x else A.2 84 i) (a3 : A'.1 85 = A.1 85) (xc : XC C0 A')
    (z0 : ∀ i, i < 435 → Z'.1 205 (1740 + i) = nI ((pt v (41 + k) vo) i)) (z2 : ∀ j, Z'.2 208 j = if j = 88 + 6 * 1 + k then x else Z.2 208 j) (z3 : Z'.1 200 25 = Z.1 200 25) (xs : XS S0 Z') :
    PRes n B (lo + 1) C0 S0 (f_X6_readHolder_b71 N 23 1 C) (bv (if S.1 200 12 = 0 then (ck 1743 2175 (ck 1743 2175 (bM (uI S 205 (tn 1743) ((S.1 205 (tn 1743)) + 1)) fun M_14 => some M_14))) else (some S)) (mS N)) := by
  have c7 : C.1 23 8 = nI k := by
    rw [st.c (by decide), p0]
    have := h.2.1.2.2.2.2.1
    rw [dfl_ne (by omega), hk] at this
    exact this
  have yc : S.1 205 1743 = nI k := by
    rw [st.s (by decide)]
    have := z0 3 (by omega)
    rw [pt_ne (by omega), hk] at this
    exact this
  unfold f_X6_readHolder_b71
  rw [if_neg (by decide), c7, n_addl, bM_e, show S.1 200 12 = 0 from st.s12, if_pos rfl, show (1743 : Int32) = nI 1743 from rfl, ck_n (by omega), ck_n (by omega), bM_e, t_n (by omega), yc, n_addl, bv_s]
  have st2 := (st.uc (c := 23) (k := 8) (x := nI (k + 1)) (by decide)).us (c := 205) (k := 1743) (x := nI (k + 1)) (by decide)
  have e := PRes.end (C0 := C0) (S0 := S0) (v := hdV v k vo) hN st2 (h.hd (x := x) hk k6 hn w b (fun j j7 => ?_) ?_ (fun i hi => ?_) ?_ ?_ (fun j j1 j13 jc => ?_) ?_ (fun i => ?_) ?_ (xc.u (by omega)) (fun i hi => ?_) (fun j => ?_) ?_ (xs.u (by omega)))
  · obtain ⟨b, C', S', e1, e2, e3⟩ := e
    exact ⟨b, C', S', by first | (rw [e1, bi_s]) | exact (by rw [e1, bi_s]), e2, e3⟩
  · rw [us_same, g_upd, if_neg j7, p0]
  · exact u_at _ _ _ _
  · rw [u_ne (by decide)]; exact q0 i hi
  · rw [u_ne (by decide)]; exact q1
  · exact r
  · rw [u_ne (by omega)]; exact o j j1 j13 jc
  · rw [u_ne (by decide)]; exact a1
  · exact a2 i
  · rw [u_ne (by decide)]; exact a3
  · exact bk_u z0 (j := 3) (y := k + 1) (by omega) i hi
  · exact z2 j
  · rw [u_ne (by decide)]; exact z3
theorem p_holder (hN : 1000 < N) (h : PI C0 S0 C S v) (st : St n B lo C S C S) (hq : C.1 82 2 = nI 1) (w : 1 ≤ v 0 ∧ 1 ≤ v 1) : PRes n B (lo + 1) C0 S0 (f_X6_readHolder N 23 C) (bv (f_X12_readHolder N S) (mS N)) := by
  obtain ⟨⟨vv, -⟩, pc, bk, -, nr, -, xc, xs⟩ := id h
  have v2 := vv.1.2.2.1
  have v3 := vv.2.1
  have v4 := vv.2.2.1
  have v5 := vv.2.2.2.1
  have v0 := vv.1.1
  have v1 := vv.1.2.1
  have hv10 := vv.2.2.2.2.2.1
  have c0 : C.1 23 0 = nI (v 0) := by have := pc.1.1; rwa [dfl_ne (by omega)] at this
  have c1 : C.1 23 1 = nI (v 1) := by have := pc.1.2.1; rwa [dfl_ne (by omega)] at this
  have z0 : S.1 205 1740 = nI (v 0) := bk 0 (by omega)
  have z1 : S.1 205 1741 = nI (v 1) := bk 1 (by omega)
  have c7 : C.1 23 8 = nI (v 3) := by have := pc.2.2.2.2.1; rwa [dfl_ne (by omega)] at this
  have hnew := st.new (s := 1) (mx := 6) hN hq ⟨v2, v3, v4, v5⟩ nr (by omega) ⟨(by show v 3 ≤ 6; omega), by omega, by omega⟩
  have nr1 := nr.1
  generalize hk : v 3 = k at *
  generalize hnc : v 2 + k + v 4 + v 5 = nc at *
  unfold f_X6_readHolder f_X12_readHolder
  simp only [Nat.reduceAdd, f_X12_behindWord]
  rw [c7]
  by_cases g : k < 6
  rotate_left
  · obtain ⟨C1, S2, e1, e3, fl⟩ := hnew.1 (by omega)
    have e3 : f_X12_readNew N 1 6 S = some (nI 0, S2) := e3
    rw [if_neg (by rw [n_ltl (by omega)]; exact g), e1, bi_s, e3, bi_s]
    · refine PRes.no (C' := C1) (rfl) ?_
      have hb := fl.bd
      have xf := fl.xf (C0 := C0) (S0 := S0) (by repeat' first | exact xc | refine XC.u ?_ (by omega) | refine XC.ul ?_ (by omega)) (by repeat' first | exact xs | refine XS.u ?_ (by omega) | refine XS.ul ?_ (by omega) | refine XS.u2 ?_ (by omega))
      rw [m_10, bi_s, b_must (by first | exact hb | (simp only [bd5]; exact hb)), bv_s]
      rw [b_cnt (by first | exact hb | (simp only [bd5]; exact hb)), bi_s, bi_s]
      rw [n_ladd, ck_n (by omega), bM_e, t_n (by omega)]
      rw [if_neg (show ¬ _ = (0 : Int32) from (show Bd _ by first | exact hb | (simp only [bd5]; exact hb)).2.2)]
      rw [bv_s, b_semi (by first | exact hb | (simp only [bd5]; exact hb))]
      exact ⟨_, rfl, by repeat' first | exact xf | refine XF.us ?_ (by omega)⟩
  obtain ⟨C1, b, C2, r, S2, e1, e2, e3, hh⟩ := hnew.2 g
  have e3 : f_X12_readNew N 1 6 S = some (nI r, S2) := e3
  rw [if_pos (by rw [n_ltl (by omega)]; exact g), e1, bv_s, e2, bi_s, e3, bi_s]
  clear e1 e2 e3 hnew
  rcases hh with ⟨rfl, hr, x, hx, st2⟩ | ⟨rfl, rfl, fl⟩
  rotate_left
  · refine PRes.no (C' := C2) (by rw [if_pos b2i_f]; rfl) ?_
    have hb := fl.bd
    have xf := fl.xf (C0 := C0) (S0 := S0) (by repeat' first | exact xc | refine XC.u ?_ (by omega) | refine XC.ul ?_ (by omega)) (by repeat' first | exact xs | refine XS.u ?_ (by omega) | refine XS.ul ?_ (by omega) | refine XS.u2 ?_ (by omega))
    rw [m_10, bi_s, b_must (by first | exact hb | (simp only [bd5]; exact hb)), bv_s]
    rw [b_cnt (by first | exact hb | (simp only [bd5]; exact hb)), bi_s, bi_s]
    rw [n_ladd, ck_n (by omega), bM_e, t_n (by omega)]
    rw [if_neg (show ¬ _ = (0 : Int32) from (show Bd _ by first | exact hb | (simp only [bd5]; exact hb)).2.2)]
    rw [bv_s, b_semi (by first | exact hb | (simp only [bd5]; exact hb))]
    exact ⟨_, rfl, by repeat' first | exact xf | refine XF.us ?_ (by omega)⟩
  subst hr
  rw [if_neg (by decide), m_10, bi_s]
  obtain ⟨b, C3, S3, e1, e2, hh⟩ := st2.word (z := 10) hN (by decide) (by decide)
  rw [e1, bi_s, e2, bv_s]
  clear e1 e2
  rcases hh with ⟨rfl, st3⟩ | ⟨rfl, fl⟩
  rotate_left
  · refine PRes.no (C' := C3) (by rw [if_pos b2i_f]; rfl) ?_
    have hb := fl.bd
    have xf := fl.xf (C0 := C0) (S0 := S0) (by repeat' first | exact xc | refine XC.u ?_ (by omega) | refine XC.ul ?_ (by omega)) (by repeat' first | exact xs | refine XS.u ?_ (by omega) | refine XS.ul ?_ (by omega) | refine XS.u2 ?_ (by omega))
    rw [b_cnt (by first | exact hb | (simp only [bd5]; exact hb)), bi_s, bi_s]
    rw [n_ladd, ck_n (by omega), bM_e, t_n (by omega)]
    rw [if_neg (show ¬ _ = (0 : Int32) from (show Bd _ by first | exact hb | (simp only [bd5]; exact hb)).2.2)]
    rw [bv_s, b_semi (by first | exact hb | (simp only [bd5]; exact hb))]
    exact ⟨_, rfl, by repeat' first | exact xf | refine XF.us ?_ (by omega)⟩
  rw [if_neg (by decide), show C3.1 23 8 = nI r by rw [st3.c (by decide), u_ne (by decide)]; exact c7]
  obtain ⟨b, vo, C4, S4, e1, e2, hh⟩ := st3.num (p1 := 26) (i := r) (L := 1) (H := 20) hN ⟨by rw [ln_26]; omega, by rw [ln_26]; omega⟩ (by decide) (by omega)
  have e1 : f_X8_takeNumber N 26 (nI (r)) 1 20 C3 = some (b, C4) := e1
  have e2 : f_X12_count N 1 20 S3 = some (nI vo, S4) := e2
  rw [e1, bi_s, e2, bi_s, bi_s]
  clear e1 e2
  rcases hh with ⟨rfl, ⟨vo1, vo2⟩, -, st4⟩ | ⟨rfl, rfl, fl⟩
  rotate_left
  · refine PRes.no (C' := C4) (by rw [if_pos b2i_f]; rfl) ?_
    have hb := fl.bd
    have xf := fl.xf (C0 := C0) (S0 := S0) (by repeat' first | exact xc | refine XC.u ?_ (by omega) | refine XC.ul ?_ (by omega)) (by repeat' first | exact xs | refine XS.u ?_ (by omega) | refine XS.ul ?_ (by omega) | refine XS.u2 ?_ (by omega))
    rw [n_ladd, ck_n (by omega), bM_e, t_n (by omega)]
    rw [if_neg (show ¬ _ = (0 : Int32) from (show Bd _ by first | exact hb | (simp only [bd5]; exact hb)).2.2)]
    rw [bv_s, b_semi (by first | exact hb | (simp only [bd5]; exact hb))]
    exact ⟨_, rfl, by repeat' first | exact xf | refine XF.us ?_ (by omega)⟩
  rw [show 1781 + nI r = nI (1781 + r) from n_ladd _ _, ck_n (show 1781 + r < 2175 ∧ 2175 < 2147483648 by omega), bM_e, t_n (show 1781 + r < 2147483648 by omega)]
  have st5 := st4.us (c := 205) (k := 1781 + r) (x := nI vo) (by decide)
  refine (holder_fin (vo := vo) (x := x) (nc := nc) hN h st5 hk g (by rw [← hnc, ← hk]) w vo2 ?_ (fun i hi => ?_) ?_ ?_ (fun j h1 h2 h3 => ?_) ?_ (fun i => ?_) ?_ (by repeat' first | exact xc | refine XC.u ?_ (by omega) | refine XC.ul ?_ (by omega)) (fun i hi => ?_) (fun j => ?_) ?_ (by repeat' first | exact xs | refine XS.u ?_ (by omega) | refine XS.ul ?_ (by omega) | refine XS.u2 ?_ (by omega))).mono (by omega)
  · rw [u_ne (by decide), u_ne (by decide)]; rfl
  · rw [us_same, g_upd, if_neg (by omega), u_ne (by decide)]; rfl
  · exact u_at _ _ _ _
  · show (uL C 84 nc x).2 25 = _
    rw [l_ne (by decide)]
  · rw [u_ne (by omega), u_ne (by omega)]; rfl
  · rw [u_ne (by decide), u_at]
  · show (uL C 84 nc x).2 84 i = _
    rw [l_same, g_updL]
  · rw [u_ne (by decide), u_ne (by decide)]; rfl
  · exact bk_u (Z := uL S 208 (88 + 6 * 1 + r) x) bk (j := 41 + r) (y := vo) (by omega) i hi
  · show (uL S 208 (88 + 6 * 1 + r) x).2 208 j = _
    rw [l_same, g_updL]
  · rw [u_ne (by decide)]; rfl
theorem trade_fin {k nc col row fr to pay cl : Nat} {x : Int64} (hN : 1000 < N) (h : PI C0 S0 A Z v) (st : St n B lo A' Z' C S) (hk : v 4 = k) (k6 : k < 6) (hn : v 2 + v 3 + v 4 + v 5 = nc) (w : 1 ≤ v 0 ∧ 1 ≤ v 1) (b : col < v 0 ∧ row < v 1 ∧ fr ≤ 24 ∧ to ≤ 24 ∧ pay ≤ 99 ∧ cl ≤ 1)
    (p0 : A'.1 23 = A.1 23)
    (q0 : ∀ i, i < k * 6 → A'.1 27 i = A.1 27 i) (q1 : A'.1 27 (k * 6) = nI col) (q2 : A'.1 27 (k * 6 + 1) = nI row) (q3 : A'.1 27 (k * 6 + 2) = nI fr) (q4 : A'.1 27 (k * 6 + 3) = nI to) (q5 : A'.1 27 (k * 6 + 4) = nI pay)
    (r : A'.2 25 = A.2 25) (o : ∀ j, 1 ≤ j → j < 13 → j ≠ 4 → A'.1 (23 + j) = A.1 (23 + j)) (a1 : A'.1 83 4 = nI (nc + 1)) (a2 : ∀ i, A'.2 84 i = if i = nc then x else A.2 84 i) (a3 : A'.1 85 = A.1 85) (xc : XC C0 A')
    (z0 : ∀ i, i < 435 → Z'.1 205 (1740 + i) = nI ((pt (pt (pt (pt (pt v (47 + k) col) (53 + k) row) (59 + k) fr) (65 + k) to) (71 + k) pay) i)) (z2 : ∀ j, Z'.2 208 j = if j = 88 + 6 * 2 + k then x else Z.2 208 j) (z3 : Z'.1 200 25 = Z.1 200 25) (xs : XS S0 Z') :
    PRes n B (lo + 1) C0 S0 (f_X6_readTrade_b194 N 23 (nI cl) (nI (k * 6) + 5) C) (bv (f_X12_readTrade_b114 N (nI cl) (nI (1787 + k) + 30) S) (mS N)) := by
  have c7 : C.1 23 9 = nI k := by
    rw [st.c (by decide), p0]
    have := h.2.1.2.2.2.2.2.1
    rw [dfl_ne (by omega), hk] at this
    exact this
  have yc : S.1 205 1744 = nI k := by
    rw [st.s (by decide)]
    have := z0 4 (by omega)
    rw [pt_ne (by omega), pt_ne (by omega), pt_ne (by omega), pt_ne (by omega), pt_ne (by omega), hk] at this
    exact this
  unfold f_X6_readTrade_b194 f_X12_readTrade_b114
  simp only [Nat.reduceAdd]
  rw [show nI (k * 6) + 5 = nI (k * 6 + 5) from n_addl _ _, ck_n (by omega), bM_e, bM_e, t_n (by omega), show (uI C 27 (k * 6 + 5) (nI cl)).1 23 9 = nI k from c7, n_addl k 1, show nI (1787 + k) + 30 = nI (1787 + k + 30) from n_addl _ _, ck_n (by omega), bM_e, t_n (by omega), show (uI S 205 (1787 + k + 30) (nI cl)).1 200 12 = 0 by rw [u_ne (by decide)]; exact st.s12, if_pos rfl, show (1744 : Int32) = nI 1744 from rfl, ck_n (by omega), ck_n (by omega), bM_e, t_n (by omega), us_same, g_upd, if_neg (by omega), yc, n_addl, bv_s]
  have st2 := (((st.uc (c := 27) (k := k * 6 + 5) (x := nI cl) (by decide)).uc (c := 23) (k := 9) (x := nI (k + 1)) (by decide)).us (c := 205) (k := 1787 + k + 30) (x := nI cl) (by decide)).us (c := 205) (k := 1744) (x := nI (k + 1)) (by decide)
  have e := PRes.end (C0 := C0) (S0 := S0) (v := tdV v k col row fr to pay cl) hN st2 (h.td (x := x) hk k6 hn w b (fun j j7 => ?_) ?_ (fun i hi => ?_) ?_ ?_ ?_ ?_ ?_ ?_ ?_ (fun j j1 j13 jc => ?_) ?_ (fun i => ?_) ?_ ((xc.u (by omega)).u (by omega)) (fun i hi => ?_) (fun j => ?_) ?_ ((xs.u (by omega)).u (by omega)))
  · obtain ⟨b, C', S', e1, e2, e3⟩ := e
    exact ⟨b, C', S', by first | (rw [e1, bi_s]) | exact (by rw [e1, bi_s]), e2, e3⟩
  · rw [us_same, g_upd, if_neg j7, u_ne (by decide), p0]
  · exact u_at _ _ _ _
  · rw [u_ne (by decide), us_same, g_upd, if_neg (by omega)]; exact q0 i hi
  · rw [u_ne (by decide), us_same, g_upd, if_neg (by omega)]; exact q1
  · rw [u_ne (by decide), us_same, g_upd, if_neg (by omega)]; exact q2
  · rw [u_ne (by decide), us_same, g_upd, if_neg (by omega)]; exact q3
  · rw [u_ne (by decide), us_same, g_upd, if_neg (by omega)]; exact q4
  · rw [u_ne (by decide), us_same, g_upd, if_neg (by omega)]; exact q5
  · rw [u_ne (by decide), u_at]
  · exact r
  · rw [u_ne (by omega), u_ne (by omega)]; exact o j j1 j13 jc
  · rw [u_ne (by decide), u_ne (by decide)]; exact a1
  · exact a2 i
  · rw [u_ne (by decide), u_ne (by decide)]; exact a3
  · exact bk_u (bk_u z0 (j := 77 + k) (y := cl) (by omega)) (j := 4) (y := k + 1) (by omega) i hi
  · exact z2 j
  · rw [u_ne (by decide), u_ne (by decide)]; exact z3
theorem p_trade (hN : 1000 < N) (h : PI C0 S0 C S v) (st : St n B lo C S C S) (hq : C.1 82 2 = nI 1) (w : 1 ≤ v 0 ∧ 1 ≤ v 1) : PRes n B (lo + 1) C0 S0 (f_X6_readTrade N 23 C) (bv (f_X12_readTrade N S) (mS N)) := by
  obtain ⟨⟨vv, -⟩, pc, bk, -, nr, -, xc, xs⟩ := id h
  have v2 := vv.1.2.2.1
  have v3 := vv.2.1
  have v4 := vv.2.2.1
  have v5 := vv.2.2.2.1
  have v0 := vv.1.1
  have v1 := vv.1.2.1
  have hv10 := vv.2.2.2.2.2.1
  have c0 : C.1 23 0 = nI (v 0) := by have := pc.1.1; rwa [dfl_ne (by omega)] at this
  have c1 : C.1 23 1 = nI (v 1) := by have := pc.1.2.1; rwa [dfl_ne (by omega)] at this
  have z0 : S.1 205 1740 = nI (v 0) := bk 0 (by omega)
  have z1 : S.1 205 1741 = nI (v 1) := bk 1 (by omega)
  have c7 : C.1 23 9 = nI (v 4) := by have := pc.2.2.2.2.2.1; rwa [dfl_ne (by omega)] at this
  have hnew := st.new (s := 2) (mx := 6) hN hq ⟨v2, v3, v4, v5⟩ nr (by omega) ⟨(by show v 4 ≤ 6; omega), by omega, by omega⟩
  have nr1 := nr.1
  generalize hk : v 4 = k at *
  generalize hnc : v 2 + v 3 + k + v 5 = nc at *
  unfold f_X6_readTrade f_X12_readTrade
  simp only [Nat.reduceAdd, f_X12_behindWord]
  rw [c7]
  by_cases g : k < 6
  rotate_left
  · obtain ⟨C1, S2, e1, e3, fl⟩ := hnew.1 (by omega)
    have e3 : f_X12_readNew N 2 6 S = some (nI 0, S2) := e3
    rw [if_neg (by rw [n_ltl (by omega)]; exact g), e1, bi_s, e3, bi_s]
    · refine PRes.no (C' := C1) (rfl) ?_
      have hb := fl.bd
      have xf := fl.xf (C0 := C0) (S0 := S0) (by repeat' first | exact xc | refine XC.u ?_ (by omega) | refine XC.ul ?_ (by omega)) (by repeat' first | exact xs | refine XS.u ?_ (by omega) | refine XS.ul ?_ (by omega) | refine XS.u2 ?_ (by omega))
      rw [m_4, bi_s, b_must (by first | exact hb | (simp only [bd5]; exact hb)), bv_s]
      rw [n_ladd, b_board6 (by first | exact hb | (simp only [bd5]; exact hb)) (by omega), bv_s]
      rw [m_12, bi_s, b_must (by first | exact hb | (simp only [bd5]; exact hb)), bv_s]
      rw [b_cnt (by first | exact hb | (simp only [bd5]; exact hb)), bi_s, bi_s]
      rw [na_12 _, ck_n (by omega), bM_e, t_n (by omega)]
      rw [m_13, bi_s, b_must (by first | exact hb | (simp only [bd5]; exact hb)), bv_s]
      rw [b_cnt (by first | exact hb | (simp only [bd5]; exact hb)), bi_s, bi_s]
      rw [na_18 _, ck_n (by omega), bM_e, t_n (by omega)]
      rw [m_14, bi_s, b_must (by first | exact hb | (simp only [bd5]; exact hb)), bv_s]
      rw [b_cnt (by first | exact hb | (simp only [bd5]; exact hb)), bi_s, bi_s]
      rw [na_24 _, ck_n (by omega), bM_e, t_n (by omega)]
      rw [m_15, bi_s, b_perh (by first | exact hb | (simp only [bd5]; exact hb)), bi_s, if_pos b2i_f]
      unfold f_X12_readTrade_b114
      rw [na_30 _, ck_n (by omega), bM_e, t_n (by omega)]
      rw [if_neg (show ¬ _ = (0 : Int32) from (show Bd _ by first | exact hb | (simp only [bd5]; exact hb)).2.2)]
      rw [bv_s, b_semi (by first | exact hb | (simp only [bd5]; exact hb))]
      exact ⟨_, rfl, by repeat' first | exact xf | refine XF.us ?_ (by omega)⟩
  obtain ⟨C1, b, C2, r, S2, e1, e2, e3, hh⟩ := hnew.2 g
  have e3 : f_X12_readNew N 2 6 S = some (nI r, S2) := e3
  rw [if_pos (by rw [n_ltl (by omega)]; exact g), e1, bv_s, e2, bi_s, e3, bi_s, n_mull]
  clear e1 e2 e3 hnew
  rcases hh with ⟨rfl, hr, x, hx, st2⟩ | ⟨rfl, rfl, fl⟩
  rotate_left
  · refine PRes.no (C' := C2) (by rw [if_pos b2i_f]; rfl) ?_
    have hb := fl.bd
    have xf := fl.xf (C0 := C0) (S0 := S0) (by repeat' first | exact xc | refine XC.u ?_ (by omega) | refine XC.ul ?_ (by omega)) (by repeat' first | exact xs | refine XS.u ?_ (by omega) | refine XS.ul ?_ (by omega) | refine XS.u2 ?_ (by omega))
    rw [m_4, bi_s, b_must (by first | exact hb | (simp only [bd5]; exact hb)), bv_s]
    rw [n_ladd, b_board6 (by first | exact hb | (simp only [bd5]; exact hb)) (by omega), bv_s]
    rw [m_12, bi_s, b_must (by first | exact hb | (simp only [bd5]; exact hb)), bv_s]
    rw [b_cnt (by first | exact hb | (simp only [bd5]; exact hb)), bi_s, bi_s]
    rw [na_12 _, ck_n (by omega), bM_e, t_n (by omega)]
    rw [m_13, bi_s, b_must (by first | exact hb | (simp only [bd5]; exact hb)), bv_s]
    rw [b_cnt (by first | exact hb | (simp only [bd5]; exact hb)), bi_s, bi_s]
    rw [na_18 _, ck_n (by omega), bM_e, t_n (by omega)]
    rw [m_14, bi_s, b_must (by first | exact hb | (simp only [bd5]; exact hb)), bv_s]
    rw [b_cnt (by first | exact hb | (simp only [bd5]; exact hb)), bi_s, bi_s]
    rw [na_24 _, ck_n (by omega), bM_e, t_n (by omega)]
    rw [m_15, bi_s, b_perh (by first | exact hb | (simp only [bd5]; exact hb)), bi_s, if_pos b2i_f]
    unfold f_X12_readTrade_b114
    rw [na_30 _, ck_n (by omega), bM_e, t_n (by omega)]
    rw [if_neg (show ¬ _ = (0 : Int32) from (show Bd _ by first | exact hb | (simp only [bd5]; exact hb)).2.2)]
    rw [bv_s, b_semi (by first | exact hb | (simp only [bd5]; exact hb))]
    exact ⟨_, rfl, by repeat' first | exact xf | refine XF.us ?_ (by omega)⟩
  subst hr
  rw [if_neg (by decide), m_4, bi_s]
  obtain ⟨b, C3, S3, e1, e2, hh⟩ := st2.word (z := 4) hN (by decide) (by decide)
  rw [e1, bi_s, e2, bv_s]
  clear e1 e2
  rcases hh with ⟨rfl, st3⟩ | ⟨rfl, fl⟩
  rotate_left
  · refine PRes.no (C' := C3) (by rw [if_pos b2i_f]; rfl) ?_
    have hb := fl.bd
    have xf := fl.xf (C0 := C0) (S0 := S0) (by repeat' first | exact xc | refine XC.u ?_ (by omega) | refine XC.ul ?_ (by omega)) (by repeat' first | exact xs | refine XS.u ?_ (by omega) | refine XS.ul ?_ (by omega) | refine XS.u2 ?_ (by omega))
    rw [n_ladd, b_board6 (by first | exact hb | (simp only [bd5]; exact hb)) (by omega), bv_s]
    rw [m_12, bi_s, b_must (by first | exact hb | (simp only [bd5]; exact hb)), bv_s]
    rw [b_cnt (by first | exact hb | (simp only [bd5]; exact hb)), bi_s, bi_s]
    rw [na_12 _, ck_n (by omega), bM_e, t_n (by omega)]
    rw [m_13, bi_s, b_must (by first | exact hb | (simp only [bd5]; exact hb)), bv_s]
    rw [b_cnt (by first | exact hb | (simp only [bd5]; exact hb)), bi_s, bi_s]
    rw [na_18 _, ck_n (by omega), bM_e, t_n (by omega)]
    rw [m_14, bi_s, b_must (by first | exact hb | (simp only [bd5]; exact hb)), bv_s]
    rw [b_cnt (by first | exact hb | (simp only [bd5]; exact hb)), bi_s, bi_s]
    rw [na_24 _, ck_n (by omega), bM_e, t_n (by omega)]
    rw [m_15, bi_s, b_perh (by first | exact hb | (simp only [bd5]; exact hb)), bi_s, if_pos b2i_f]
    unfold f_X12_readTrade_b114
    rw [na_30 _, ck_n (by omega), bM_e, t_n (by omega)]
    rw [if_neg (show ¬ _ = (0 : Int32) from (show Bd _ by first | exact hb | (simp only [bd5]; exact hb)).2.2)]
    rw [bv_s, b_semi (by first | exact hb | (simp only [bd5]; exact hb))]
    exact ⟨_, rfl, by repeat' first | exact xf | refine XF.us ?_ (by omega)⟩
  rw [if_neg (by decide), n_ladd]
  obtain ⟨b, C4, S4, e1, e2, hh⟩ := st3.board (p2 := 27) (i := r * 6) (j := 1787 + r) (stp := 6) (W := v 0) (D := v 1) hN ⟨by rw [ln_27]; omega, by rw [ln_27]; omega⟩ (by omega) (by rw [u_ne (by decide)]; exact c0) (by rw [u_ne (by decide)]; exact c1) z0 z1 (by omega) (by omega)
  have e1 : f_X6_readBoard N 23 27 (nI (r * 6)) C3 = some (b, C4) := e1
  have e2 : f_X12_readBoard N 4 (nI (1787 + r)) 6 S3 = some S4 := e2
  rw [e1, bi_s, e2, bv_s]
  clear e1 e2
  rcases hh with ⟨rfl, col, row, hcol, hrow, st4⟩ | ⟨rfl, hb, xf⟩
  rotate_left
  · refine PRes.no (C' := C4) (by rw [if_pos b2i_f]; rfl) ?_
    have xf := xf C0 S0 (by repeat' first | exact xc | refine XC.u ?_ (by omega) | refine XC.ul ?_ (by omega)) (by repeat' first | exact xs | refine XS.u ?_ (by omega) | refine XS.ul ?_ (by omega) | refine XS.u2 ?_ (by omega))
    rw [m_12, bi_s, b_must (by first | exact hb | (simp only [bd5]; exact hb)), bv_s]
    rw [b_cnt (by first | exact hb | (simp only [bd5]; exact hb)), bi_s, bi_s]
    rw [na_12 _, ck_n (by omega), bM_e, t_n (by omega)]
    rw [m_13, bi_s, b_must (by first | exact hb | (simp only [bd5]; exact hb)), bv_s]
    rw [b_cnt (by first | exact hb | (simp only [bd5]; exact hb)), bi_s, bi_s]
    rw [na_18 _, ck_n (by omega), bM_e, t_n (by omega)]
    rw [m_14, bi_s, b_must (by first | exact hb | (simp only [bd5]; exact hb)), bv_s]
    rw [b_cnt (by first | exact hb | (simp only [bd5]; exact hb)), bi_s, bi_s]
    rw [na_24 _, ck_n (by omega), bM_e, t_n (by omega)]
    rw [m_15, bi_s, b_perh (by first | exact hb | (simp only [bd5]; exact hb)), bi_s, if_pos b2i_f]
    unfold f_X12_readTrade_b114
    rw [na_30 _, ck_n (by omega), bM_e, t_n (by omega)]
    rw [if_neg (show ¬ _ = (0 : Int32) from (show Bd _ by first | exact hb | (simp only [bd5]; exact hb)).2.2)]
    rw [bv_s, b_semi (by first | exact hb | (simp only [bd5]; exact hb))]
    exact ⟨_, rfl, by repeat' first | exact xf | refine XF.us ?_ (by omega)⟩
  rw [if_neg (by decide), m_12, bi_s]
  obtain ⟨b, C5, S5, e1, e2, hh⟩ := st4.word (z := 12) hN (by decide) (by decide)
  rw [e1, bi_s, e2, bv_s]
  clear e1 e2
  rcases hh with ⟨rfl, st5⟩ | ⟨rfl, fl⟩
  rotate_left
  · refine PRes.no (C' := C5) (by rw [if_pos b2i_f]; rfl) ?_
    have hb := fl.bd
    have xf := fl.xf (C0 := C0) (S0 := S0) (by repeat' first | exact xc | refine XC.u ?_ (by omega) | refine XC.ul ?_ (by omega)) (by repeat' first | exact xs | refine XS.u ?_ (by omega) | refine XS.ul ?_ (by omega) | refine XS.u2 ?_ (by omega))
    rw [b_cnt (by first | exact hb | (simp only [bd5]; exact hb)), bi_s, bi_s]
    rw [na_12 _, ck_n (by omega), bM_e, t_n (by omega)]
    rw [m_13, bi_s, b_must (by first | exact hb | (simp only [bd5]; exact hb)), bv_s]
    rw [b_cnt (by first | exact hb | (simp only [bd5]; exact hb)), bi_s, bi_s]
    rw [na_18 _, ck_n (by omega), bM_e, t_n (by omega)]
    rw [m_14, bi_s, b_must (by first | exact hb | (simp only [bd5]; exact hb)), bv_s]
    rw [b_cnt (by first | exact hb | (simp only [bd5]; exact hb)), bi_s, bi_s]
    rw [na_24 _, ck_n (by omega), bM_e, t_n (by omega)]
    rw [m_15, bi_s, b_perh (by first | exact hb | (simp only [bd5]; exact hb)), bi_s, if_pos b2i_f]
    unfold f_X12_readTrade_b114
    rw [na_30 _, ck_n (by omega), bM_e, t_n (by omega)]
    rw [if_neg (show ¬ _ = (0 : Int32) from (show Bd _ by first | exact hb | (simp only [bd5]; exact hb)).2.2)]
    rw [bv_s, b_semi (by first | exact hb | (simp only [bd5]; exact hb))]
    exact ⟨_, rfl, by repeat' first | exact xf | refine XF.us ?_ (by omega)⟩
  rw [if_neg (by decide), na_2 (r * 6)]
  obtain ⟨b, fr, C6, S6, e1, e2, hh⟩ := st5.num (p1 := 27) (i := r * 6 + 2) (L := 1) (H := 24) hN ⟨by rw [ln_27]; omega, by rw [ln_27]; omega⟩ (by decide) (by omega)
  have e1 : f_X8_takeNumber N 27 (nI (r * 6 + 2)) 1 24 C5 = some (b, C6) := e1
  have e2 : f_X12_count N 1 24 S5 = some (nI fr, S6) := e2
  rw [e1, bi_s, e2, bi_s, bi_s]
  clear e1 e2
  rcases hh with ⟨rfl, ⟨fr1, fr2⟩, -, st6⟩ | ⟨rfl, rfl, fl⟩
  rotate_left
  · refine PRes.no (C' := C6) (by rw [if_pos b2i_f]; rfl) ?_
    have hb := fl.bd
    have xf := fl.xf (C0 := C0) (S0 := S0) (by repeat' first | exact xc | refine XC.u ?_ (by omega) | refine XC.ul ?_ (by omega)) (by repeat' first | exact xs | refine XS.u ?_ (by omega) | refine XS.ul ?_ (by omega) | refine XS.u2 ?_ (by omega))
    rw [na_12 _, ck_n (by omega), bM_e, t_n (by omega)]
    rw [m_13, bi_s, b_must (by first | exact hb | (simp only [bd5]; exact hb)), bv_s]
    rw [b_cnt (by first | exact hb | (simp only [bd5]; exact hb)), bi_s, bi_s]
    rw [na_18 _, ck_n (by omega), bM_e, t_n (by omega)]
    rw [m_14, bi_s, b_must (by first | exact hb | (simp only [bd5]; exact hb)), bv_s]
    rw [b_cnt (by first | exact hb | (simp only [bd5]; exact hb)), bi_s, bi_s]
    rw [na_24 _, ck_n (by omega), bM_e, t_n (by omega)]
    rw [m_15, bi_s, b_perh (by first | exact hb | (simp only [bd5]; exact hb)), bi_s, if_pos b2i_f]
    unfold f_X12_readTrade_b114
    rw [na_30 _, ck_n (by omega), bM_e, t_n (by omega)]
    rw [if_neg (show ¬ _ = (0 : Int32) from (show Bd _ by first | exact hb | (simp only [bd5]; exact hb)).2.2)]
    rw [bv_s, b_semi (by first | exact hb | (simp only [bd5]; exact hb))]
    exact ⟨_, rfl, by repeat' first | exact xf | refine XF.us ?_ (by omega)⟩
  rw [show nI (1787 + r) + 12 = nI (1787 + r + 12) from n_addl _ _, ck_n (show 1787 + r + 12 < 2175 ∧ 2175 < 2147483648 by omega), bM_e, t_n (show 1787 + r + 12 < 2147483648 by omega)]
  have st7 := st6.us (c := 205) (k := 1787 + r + 12) (x := nI fr) (by decide)
  rw [if_neg (by decide), m_13, bi_s]
  obtain ⟨b, C8, S8, e1, e2, hh⟩ := st7.word (z := 13) hN (by decide) (by decide)
  rw [e1, bi_s, e2, bv_s]
  clear e1 e2
  rcases hh with ⟨rfl, st8⟩ | ⟨rfl, fl⟩
  rotate_left
  · refine PRes.no (C' := C8) (by rw [if_pos b2i_f]; rfl) ?_
    have hb := fl.bd
    have xf := fl.xf (C0 := C0) (S0 := S0) (by repeat' first | exact xc | refine XC.u ?_ (by omega) | refine XC.ul ?_ (by omega)) (by repeat' first | exact xs | refine XS.u ?_ (by omega) | refine XS.ul ?_ (by omega) | refine XS.u2 ?_ (by omega))
    rw [b_cnt (by first | exact hb | (simp only [bd5]; exact hb)), bi_s, bi_s]
    rw [na_18 _, ck_n (by omega), bM_e, t_n (by omega)]
    rw [m_14, bi_s, b_must (by first | exact hb | (simp only [bd5]; exact hb)), bv_s]
    rw [b_cnt (by first | exact hb | (simp only [bd5]; exact hb)), bi_s, bi_s]
    rw [na_24 _, ck_n (by omega), bM_e, t_n (by omega)]
    rw [m_15, bi_s, b_perh (by first | exact hb | (simp only [bd5]; exact hb)), bi_s, if_pos b2i_f]
    unfold f_X12_readTrade_b114
    rw [na_30 _, ck_n (by omega), bM_e, t_n (by omega)]
    rw [if_neg (show ¬ _ = (0 : Int32) from (show Bd _ by first | exact hb | (simp only [bd5]; exact hb)).2.2)]
    rw [bv_s, b_semi (by first | exact hb | (simp only [bd5]; exact hb))]
    exact ⟨_, rfl, by repeat' first | exact xf | refine XF.us ?_ (by omega)⟩
  rw [if_neg (by decide), ck_n (show r * 6 + 2 < 36 ∧ 36 < 2147483648 by omega), t_n (show r * 6 + 2 < 2147483648 by omega), show C8.1 27 (r * 6 + 2) = nI fr by rw [st8.c (by decide), u_at], na_3 (r * 6)]
  obtain ⟨b, to, C9, S9, e1, e2, hh⟩ := st8.num (p1 := 27) (i := r * 6 + 3) (L := fr) (H := 24) hN ⟨by rw [ln_27]; omega, by rw [ln_27]; omega⟩ (by decide) (by omega)
  have e1 : f_X8_takeNumber N 27 (nI (r * 6 + 3)) (nI fr) 24 C8 = some (b, C9) := e1
  have e2 : f_X12_count N (nI fr) 24 S8 = some (nI to, S9) := e2
  rw [e1, bi_s, e2, bi_s, bi_s]
  clear e1 e2
  rcases hh with ⟨rfl, ⟨to1, to2⟩, -, st9⟩ | ⟨rfl, rfl, fl⟩
  rotate_left
  · refine PRes.no (C' := C9) (by rw [if_pos b2i_f]; rfl) ?_
    have hb := fl.bd
    have xf := fl.xf (C0 := C0) (S0 := S0) (by repeat' first | exact xc | refine XC.u ?_ (by omega) | refine XC.ul ?_ (by omega)) (by repeat' first | exact xs | refine XS.u ?_ (by omega) | refine XS.ul ?_ (by omega) | refine XS.u2 ?_ (by omega))
    rw [na_18 _, ck_n (by omega), bM_e, t_n (by omega)]
    rw [m_14, bi_s, b_must (by first | exact hb | (simp only [bd5]; exact hb)), bv_s]
    rw [b_cnt (by first | exact hb | (simp only [bd5]; exact hb)), bi_s, bi_s]
    rw [na_24 _, ck_n (by omega), bM_e, t_n (by omega)]
    rw [m_15, bi_s, b_perh (by first | exact hb | (simp only [bd5]; exact hb)), bi_s, if_pos b2i_f]
    unfold f_X12_readTrade_b114
    rw [na_30 _, ck_n (by omega), bM_e, t_n (by omega)]
    rw [if_neg (show ¬ _ = (0 : Int32) from (show Bd _ by first | exact hb | (simp only [bd5]; exact hb)).2.2)]
    rw [bv_s, b_semi (by first | exact hb | (simp only [bd5]; exact hb))]
    exact ⟨_, rfl, by repeat' first | exact xf | refine XF.us ?_ (by omega)⟩
  rw [show nI (1787 + r) + 18 = nI (1787 + r + 18) from n_addl _ _, ck_n (show 1787 + r + 18 < 2175 ∧ 2175 < 2147483648 by omega), bM_e, t_n (show 1787 + r + 18 < 2147483648 by omega)]
  have st10 := st9.us (c := 205) (k := 1787 + r + 18) (x := nI to) (by decide)
  rw [if_neg (by decide), m_14, bi_s]
  obtain ⟨b, C11, S11, e1, e2, hh⟩ := st10.word (z := 14) hN (by decide) (by decide)
  rw [e1, bi_s, e2, bv_s]
  clear e1 e2
  rcases hh with ⟨rfl, st11⟩ | ⟨rfl, fl⟩
  rotate_left
  · refine PRes.no (C' := C11) (by rw [if_pos b2i_f]; rfl) ?_
    have hb := fl.bd
    have xf := fl.xf (C0 := C0) (S0 := S0) (by repeat' first | exact xc | refine XC.u ?_ (by omega) | refine XC.ul ?_ (by omega)) (by repeat' first | exact xs | refine XS.u ?_ (by omega) | refine XS.ul ?_ (by omega) | refine XS.u2 ?_ (by omega))
    rw [b_cnt (by first | exact hb | (simp only [bd5]; exact hb)), bi_s, bi_s]
    rw [na_24 _, ck_n (by omega), bM_e, t_n (by omega)]
    rw [m_15, bi_s, b_perh (by first | exact hb | (simp only [bd5]; exact hb)), bi_s, if_pos b2i_f]
    unfold f_X12_readTrade_b114
    rw [na_30 _, ck_n (by omega), bM_e, t_n (by omega)]
    rw [if_neg (show ¬ _ = (0 : Int32) from (show Bd _ by first | exact hb | (simp only [bd5]; exact hb)).2.2)]
    rw [bv_s, b_semi (by first | exact hb | (simp only [bd5]; exact hb))]
    exact ⟨_, rfl, by repeat' first | exact xf | refine XF.us ?_ (by omega)⟩
  rw [if_neg (by decide), na_4 (r * 6)]
  obtain ⟨b, pay, C12, S12, e1, e2, hh⟩ := st11.num (p1 := 27) (i := r * 6 + 4) (L := 1) (H := 99) hN ⟨by rw [ln_27]; omega, by rw [ln_27]; omega⟩ (by decide) (by omega)
  have e1 : f_X8_takeNumber N 27 (nI (r * 6 + 4)) 1 99 C11 = some (b, C12) := e1
  have e2 : f_X12_count N 1 99 S11 = some (nI pay, S12) := e2
  rw [e1, bi_s, e2, bi_s, bi_s]
  clear e1 e2
  rcases hh with ⟨rfl, ⟨pay1, pay2⟩, -, st12⟩ | ⟨rfl, rfl, fl⟩
  rotate_left
  · refine PRes.no (C' := C12) (by rw [if_pos b2i_f]; rfl) ?_
    have hb := fl.bd
    have xf := fl.xf (C0 := C0) (S0 := S0) (by repeat' first | exact xc | refine XC.u ?_ (by omega) | refine XC.ul ?_ (by omega)) (by repeat' first | exact xs | refine XS.u ?_ (by omega) | refine XS.ul ?_ (by omega) | refine XS.u2 ?_ (by omega))
    rw [na_24 _, ck_n (by omega), bM_e, t_n (by omega)]
    rw [m_15, bi_s, b_perh (by first | exact hb | (simp only [bd5]; exact hb)), bi_s, if_pos b2i_f]
    unfold f_X12_readTrade_b114
    rw [na_30 _, ck_n (by omega), bM_e, t_n (by omega)]
    rw [if_neg (show ¬ _ = (0 : Int32) from (show Bd _ by first | exact hb | (simp only [bd5]; exact hb)).2.2)]
    rw [bv_s, b_semi (by first | exact hb | (simp only [bd5]; exact hb))]
    exact ⟨_, rfl, by repeat' first | exact xf | refine XF.us ?_ (by omega)⟩
  rw [show nI (1787 + r) + 24 = nI (1787 + r + 24) from n_addl _ _, ck_n (show 1787 + r + 24 < 2175 ∧ 2175 < 2147483648 by omega), bM_e, t_n (show 1787 + r + 24 < 2147483648 by omega)]
  have st13 := st12.us (c := 205) (k := 1787 + r + 24) (x := nI pay) (by decide)
  rw [if_neg (by decide)]
  unfold f_X6_readTrade_b164
  rw [if_neg (by decide), m_15, bi_s]
  obtain ⟨b, C14, S14, e1, e2, st14⟩ := st13.may (z := 15) hN (by decide) (by decide)
  rw [e1, bi_s, e2, bi_s]
  clear e1 e2
  have fin : ∀ l, l ≤ 1 → PRes n B (lo + 1) C0 S0 (f_X6_readTrade_b194 N 23 (nI l) (nI (r * 6) + 5) C14) (bv (f_X12_readTrade_b114 N (nI l) (nI (1787 + r) + 30) S14) (mS N)) := fun l hl => by
    refine (trade_fin (x := x) (nc := nc) (col := col) (row := row) (fr := fr) (to := to) (pay := pay) (cl := l) hN h st14 hk g (by rw [← hnc, ← hk]) w ⟨hcol, hrow, fr2, to2, pay2, hl⟩ ?_ (fun i hi => ?_) ?_ ?_ ?_ ?_ ?_ ?_ (fun j h1 h2 h3 => ?_) ?_ (fun i => ?_) ?_ (by repeat' first | exact xc | refine XC.u ?_ (by omega) | refine XC.ul ?_ (by omega)) (fun i hi => ?_) (fun j => ?_) ?_ (by repeat' first | exact xs | refine XS.u ?_ (by omega) | refine XS.ul ?_ (by omega) | refine XS.u2 ?_ (by omega))).mono (by omega)
    · rw [u_ne (by decide), u_ne (by decide), u_ne (by decide), u_ne (by decide), u_ne (by decide), u_ne (by decide)]; rfl
    · rw [us_same, g_upd, if_neg (by omega), us_same, g_upd, if_neg (by omega), us_same, g_upd, if_neg (by omega), us_same, g_upd, if_neg (by omega), us_same, g_upd, if_neg (by omega), u_ne (by decide)]; rfl
    · rw [us_same, g_upd, if_neg (by omega), us_same, g_upd, if_neg (by omega), us_same, g_upd, if_neg (by omega), us_same, g_upd, if_neg (by omega), u_at]
    · rw [us_same, g_upd, if_neg (by omega), us_same, g_upd, if_neg (by omega), us_same, g_upd, if_neg (by omega), u_at]
    · rw [us_same, g_upd, if_neg (by omega), us_same, g_upd, if_neg (by omega), u_at]
    · rw [us_same, g_upd, if_neg (by omega), u_at]
    · rw [u_at]
    · show (uL C 84 nc x).2 25 = _
      rw [l_ne (by decide)]
    · rw [u_ne (by omega), u_ne (by omega), u_ne (by omega), u_ne (by omega), u_ne (by omega), u_ne (by omega)]; rfl
    · rw [u_ne (by decide), u_ne (by decide), u_ne (by decide), u_ne (by decide), u_ne (by decide), u_at]
    · show (uL C 84 nc x).2 84 i = _
      rw [l_same, g_updL]
    · rw [u_ne (by decide), u_ne (by decide), u_ne (by decide), u_ne (by decide), u_ne (by decide), u_ne (by decide)]; rfl
    · exact bk_u (bk_u (bk_u (bk_u (bk_u (Z := uL S 208 (88 + 6 * 2 + r) x) bk (j := 47 + r) (y := col) (by omega)) (j := 53 + r) (y := row) (by omega)) (j := 59 + r) (y := fr) (by omega)) (j := 65 + r) (y := to) (by omega)) (j := 71 + r) (y := pay) (by omega) i hi
    · show (uL S 208 (88 + 6 * 2 + r) x).2 208 j = _
      rw [l_same, g_updL]
    · rw [u_ne (by decide), u_ne (by decide), u_ne (by decide), u_ne (by decide), u_ne (by decide)]; rfl
  cases b with
  | false =>
    rw [if_pos b2i_f, if_pos b2i_f]
    exact fin 0 (by omega)
  | true =>
    rw [if_neg (by decide), if_neg (by decide)]
    exact fin 1 (by omega)
theorem ship_fin {k nc x1 y1 x2 y2 dk : Nat} {x : Int64} (hN : 1000 < N) (h : PI C0 S0 A Z v) (st : St n B lo A' Z' C S) (hk : v 5 = k) (k6 : k < 4) (hn : v 2 + v 3 + v 4 + v 5 = nc) (w : 1 ≤ v 0 ∧ 1 ≤ v 1) (b : x1 < v 0 ∧ y1 < v 1 ∧ x2 < v 0 ∧ y2 < v 1 ∧ dk ≤ 1)
    (p0 : A'.1 23 = A.1 23)
    (q0 : ∀ i, i < k * 5 → A'.1 28 i = A.1 28 i) (q1 : A'.1 28 (k * 5) = nI x1) (q2 : A'.1 28 (k * 5 + 1) = nI y1) (q3 : A'.1 28 (k * 5 + 2) = nI x2) (q4 : A'.1 28 (k * 5 + 3) = nI y2)
    (r : A'.2 25 = A.2 25) (o : ∀ j, 1 ≤ j → j < 13 → j ≠ 5 → A'.1 (23 + j) = A.1 (23 + j)) (a1 : A'.1 83 4 = nI (nc + 1)) (a2 : ∀ i, A'.2 84 i = if i = nc then x else A.2 84 i) (a3 : A'.1 85 = A.1 85) (xc : XC C0 A')
    (z0 : ∀ i, i < 435 → Z'.1 205 (1740 + i) = nI ((pt (pt (pt (pt v (83 + k) x1) (87 + k) y1) (91 + k) x2) (95 + k) y2) i)) (z2 : ∀ j, Z'.2 208 j = if j = 88 + 6 * 3 + k then x else Z.2 208 j) (z3 : Z'.1 200 25 = Z.1 200 25) (xs : XS S0 Z') :
    PRes n B (lo + 1) C0 S0 (f_X6_readShip_b125 N 23 (nI dk) (nI (k * 5) + 4) C) (bv (f_X12_readShip_b68 N (nI dk) (nI (1823 + k) + 16) S) (mS N)) := by
  have c7 : C.1 23 10 = nI k := by
    rw [st.c (by decide), p0]
    have := h.2.1.2.2.2.2.2.2.1
    rw [dfl_ne (by omega), hk] at this
    exact this
  have yc : S.1 205 1745 = nI k := by
    rw [st.s (by decide)]
    have := z0 5 (by omega)
    rw [pt_ne (by omega), pt_ne (by omega), pt_ne (by omega), pt_ne (by omega), hk] at this
    exact this
  unfold f_X6_readShip_b125 f_X12_readShip_b68
  simp only [Nat.reduceAdd]
  rw [show nI (k * 5) + 4 = nI (k * 5 + 4) from n_addl _ _, ck_n (by omega), bM_e, bM_e, t_n (by omega), show (uI C 28 (k * 5 + 4) (nI dk)).1 23 10 = nI k from c7, n_addl k 1, show nI (1823 + k) + 16 = nI (1823 + k + 16) from n_addl _ _, ck_n (by omega), bM_e, t_n (by omega), show (uI S 205 (1823 + k + 16) (nI dk)).1 200 12 = 0 by rw [u_ne (by decide)]; exact st.s12, if_pos rfl, show (1745 : Int32) = nI 1745 from rfl, ck_n (by omega), ck_n (by omega), bM_e, t_n (by omega), us_same, g_upd, if_neg (by omega), yc, n_addl, bv_s]
  have st2 := (((st.uc (c := 28) (k := k * 5 + 4) (x := nI dk) (by decide)).uc (c := 23) (k := 10) (x := nI (k + 1)) (by decide)).us (c := 205) (k := 1823 + k + 16) (x := nI dk) (by decide)).us (c := 205) (k := 1745) (x := nI (k + 1)) (by decide)
  have e := PRes.end (C0 := C0) (S0 := S0) (v := spV v k x1 y1 x2 y2 dk) hN st2 (h.sp (x := x) hk k6 hn w b (fun j j7 => ?_) ?_ (fun i hi => ?_) ?_ ?_ ?_ ?_ ?_ ?_ (fun j j1 j13 jc => ?_) ?_ (fun i => ?_) ?_ ((xc.u (by omega)).u (by omega)) (fun i hi => ?_) (fun j => ?_) ?_ ((xs.u (by omega)).u (by omega)))
  · obtain ⟨b, C', S', e1, e2, e3⟩ := e
    exact ⟨b, C', S', by first | (rw [e1, bi_s]) | exact (by rw [e1, bi_s]), e2, e3⟩
  · rw [us_same, g_upd, if_neg j7, u_ne (by decide), p0]
  · exact u_at _ _ _ _
  · rw [u_ne (by decide), us_same, g_upd, if_neg (by omega)]; exact q0 i hi
  · rw [u_ne (by decide), us_same, g_upd, if_neg (by omega)]; exact q1
  · rw [u_ne (by decide), us_same, g_upd, if_neg (by omega)]; exact q2
  · rw [u_ne (by decide), us_same, g_upd, if_neg (by omega)]; exact q3
  · rw [u_ne (by decide), us_same, g_upd, if_neg (by omega)]; exact q4
  · rw [u_ne (by decide), u_at]
  · exact r
  · rw [u_ne (by omega), u_ne (by omega)]; exact o j j1 j13 jc
  · rw [u_ne (by decide), u_ne (by decide)]; exact a1
  · exact a2 i
  · rw [u_ne (by decide), u_ne (by decide)]; exact a3
  · exact bk_u (bk_u z0 (j := 99 + k) (y := dk) (by omega)) (j := 5) (y := k + 1) (by omega) i hi
  · exact z2 j
  · rw [u_ne (by decide), u_ne (by decide)]; exact z3
theorem p_ship (hN : 1000 < N) (h : PI C0 S0 C S v) (st : St n B lo C S C S) (hq : C.1 82 2 = nI 1) (w : 1 ≤ v 0 ∧ 1 ≤ v 1) : PRes n B (lo + 1) C0 S0 (f_X6_readShip N 23 C) (bv (f_X12_readShip N S) (mS N)) := by
  obtain ⟨⟨vv, -⟩, pc, bk, -, nr, -, xc, xs⟩ := id h
  have v2 := vv.1.2.2.1
  have v3 := vv.2.1
  have v4 := vv.2.2.1
  have v5 := vv.2.2.2.1
  have v0 := vv.1.1
  have v1 := vv.1.2.1
  have hv10 := vv.2.2.2.2.2.1
  have c0 : C.1 23 0 = nI (v 0) := by have := pc.1.1; rwa [dfl_ne (by omega)] at this
  have c1 : C.1 23 1 = nI (v 1) := by have := pc.1.2.1; rwa [dfl_ne (by omega)] at this
  have z0 : S.1 205 1740 = nI (v 0) := bk 0 (by omega)
  have z1 : S.1 205 1741 = nI (v 1) := bk 1 (by omega)
  have c7 : C.1 23 10 = nI (v 5) := by have := pc.2.2.2.2.2.2.1; rwa [dfl_ne (by omega)] at this
  have hnew := st.new (s := 3) (mx := 4) hN hq ⟨v2, v3, v4, v5⟩ nr (by omega) ⟨(by show v 5 ≤ 4; omega), by omega, by omega⟩
  have nr1 := nr.1
  generalize hk : v 5 = k at *
  generalize hnc : v 2 + v 3 + v 4 + k = nc at *
  unfold f_X6_readShip f_X12_readShip
  simp only [Nat.reduceAdd, f_X12_behindWord]
  rw [c7]
  by_cases g : k < 4
  rotate_left
  · obtain ⟨C1, S2, e1, e3, fl⟩ := hnew.1 (by omega)
    have e3 : f_X12_readNew N 3 4 S = some (nI 0, S2) := e3
    rw [if_neg (by rw [n_ltl (by omega)]; exact g), e1, bi_s, e3, bi_s]
    · refine PRes.no (C' := C1) (rfl) ?_
      have hb := fl.bd
      have xf := fl.xf (C0 := C0) (S0 := S0) (by repeat' first | exact xc | refine XC.u ?_ (by omega) | refine XC.ul ?_ (by omega)) (by repeat' first | exact xs | refine XS.u ?_ (by omega) | refine XS.ul ?_ (by omega) | refine XS.u2 ?_ (by omega))
      rw [m_4, bi_s, b_must (by first | exact hb | (simp only [bd5]; exact hb)), bv_s]
      rw [n_ladd, b_board4 (by first | exact hb | (simp only [bd5]; exact hb)) (by omega), bv_s]
      rw [m_13, bi_s, b_must (by first | exact hb | (simp only [bd5]; exact hb)), bv_s]
      rw [na_8 _, b_board4 (by first | exact hb | (simp only [bd5]; exact hb)) (by omega), bv_s]
      rw [m_17, bi_s, b_perh (by first | exact hb | (simp only [bd5]; exact hb)), bi_s, if_pos b2i_f]
      unfold f_X12_readShip_b68
      rw [na_16 _, ck_n (by omega), bM_e, t_n (by omega)]
      rw [if_neg (show ¬ _ = (0 : Int32) from (show Bd _ by first | exact hb | (simp only [bd5]; exact hb)).2.2)]
      rw [bv_s, b_semi (by first | exact hb | (simp only [bd5]; exact hb))]
      exact ⟨_, rfl, by repeat' first | exact xf | refine XF.us ?_ (by omega)⟩
  obtain ⟨C1, b, C2, r, S2, e1, e2, e3, hh⟩ := hnew.2 g
  have e3 : f_X12_readNew N 3 4 S = some (nI r, S2) := e3
  rw [if_pos (by rw [n_ltl (by omega)]; exact g), e1, bv_s, e2, bi_s, e3, bi_s, n_mull]
  clear e1 e2 e3 hnew
  rcases hh with ⟨rfl, hr, x, hx, st2⟩ | ⟨rfl, rfl, fl⟩
  rotate_left
  · refine PRes.no (C' := C2) (by rw [if_pos b2i_f]; rfl) ?_
    have hb := fl.bd
    have xf := fl.xf (C0 := C0) (S0 := S0) (by repeat' first | exact xc | refine XC.u ?_ (by omega) | refine XC.ul ?_ (by omega)) (by repeat' first | exact xs | refine XS.u ?_ (by omega) | refine XS.ul ?_ (by omega) | refine XS.u2 ?_ (by omega))
    rw [m_4, bi_s, b_must (by first | exact hb | (simp only [bd5]; exact hb)), bv_s]
    rw [n_ladd, b_board4 (by first | exact hb | (simp only [bd5]; exact hb)) (by omega), bv_s]
    rw [m_13, bi_s, b_must (by first | exact hb | (simp only [bd5]; exact hb)), bv_s]
    rw [na_8 _, b_board4 (by first | exact hb | (simp only [bd5]; exact hb)) (by omega), bv_s]
    rw [m_17, bi_s, b_perh (by first | exact hb | (simp only [bd5]; exact hb)), bi_s, if_pos b2i_f]
    unfold f_X12_readShip_b68
    rw [na_16 _, ck_n (by omega), bM_e, t_n (by omega)]
    rw [if_neg (show ¬ _ = (0 : Int32) from (show Bd _ by first | exact hb | (simp only [bd5]; exact hb)).2.2)]
    rw [bv_s, b_semi (by first | exact hb | (simp only [bd5]; exact hb))]
    exact ⟨_, rfl, by repeat' first | exact xf | refine XF.us ?_ (by omega)⟩
  subst hr
  rw [if_neg (by decide), m_4, bi_s]
  obtain ⟨b, C3, S3, e1, e2, hh⟩ := st2.word (z := 4) hN (by decide) (by decide)
  rw [e1, bi_s, e2, bv_s]
  clear e1 e2
  rcases hh with ⟨rfl, st3⟩ | ⟨rfl, fl⟩
  rotate_left
  · refine PRes.no (C' := C3) (by rw [if_pos b2i_f]; rfl) ?_
    have hb := fl.bd
    have xf := fl.xf (C0 := C0) (S0 := S0) (by repeat' first | exact xc | refine XC.u ?_ (by omega) | refine XC.ul ?_ (by omega)) (by repeat' first | exact xs | refine XS.u ?_ (by omega) | refine XS.ul ?_ (by omega) | refine XS.u2 ?_ (by omega))
    rw [n_ladd, b_board4 (by first | exact hb | (simp only [bd5]; exact hb)) (by omega), bv_s]
    rw [m_13, bi_s, b_must (by first | exact hb | (simp only [bd5]; exact hb)), bv_s]
    rw [na_8 _, b_board4 (by first | exact hb | (simp only [bd5]; exact hb)) (by omega), bv_s]
    rw [m_17, bi_s, b_perh (by first | exact hb | (simp only [bd5]; exact hb)), bi_s, if_pos b2i_f]
    unfold f_X12_readShip_b68
    rw [na_16 _, ck_n (by omega), bM_e, t_n (by omega)]
    rw [if_neg (show ¬ _ = (0 : Int32) from (show Bd _ by first | exact hb | (simp only [bd5]; exact hb)).2.2)]
    rw [bv_s, b_semi (by first | exact hb | (simp only [bd5]; exact hb))]
    exact ⟨_, rfl, by repeat' first | exact xf | refine XF.us ?_ (by omega)⟩
  rw [if_neg (by decide), n_ladd]
  obtain ⟨b, C4, S4, e1, e2, hh⟩ := st3.board (p2 := 28) (i := r * 5) (j := 1823 + r) (stp := 4) (W := v 0) (D := v 1) hN ⟨by rw [ln_28]; omega, by rw [ln_28]; omega⟩ (by omega) (by rw [u_ne (by decide)]; exact c0) (by rw [u_ne (by decide)]; exact c1) z0 z1 (by omega) (by omega)
  have e1 : f_X6_readBoard N 23 28 (nI (r * 5)) C3 = some (b, C4) := e1
  have e2 : f_X12_readBoard N 4 (nI (1823 + r)) 4 S3 = some S4 := e2
  rw [e1, bi_s, e2, bv_s]
  clear e1 e2
  rcases hh with ⟨rfl, x1, y1, hx1, hy1, st4⟩ | ⟨rfl, hb, xf⟩
  rotate_left
  · refine PRes.no (C' := C4) (by rw [if_pos b2i_f]; rfl) ?_
    have xf := xf C0 S0 (by repeat' first | exact xc | refine XC.u ?_ (by omega) | refine XC.ul ?_ (by omega)) (by repeat' first | exact xs | refine XS.u ?_ (by omega) | refine XS.ul ?_ (by omega) | refine XS.u2 ?_ (by omega))
    rw [m_13, bi_s, b_must (by first | exact hb | (simp only [bd5]; exact hb)), bv_s]
    rw [na_8 _, b_board4 (by first | exact hb | (simp only [bd5]; exact hb)) (by omega), bv_s]
    rw [m_17, bi_s, b_perh (by first | exact hb | (simp only [bd5]; exact hb)), bi_s, if_pos b2i_f]
    unfold f_X12_readShip_b68
    rw [na_16 _, ck_n (by omega), bM_e, t_n (by omega)]
    rw [if_neg (show ¬ _ = (0 : Int32) from (show Bd _ by first | exact hb | (simp only [bd5]; exact hb)).2.2)]
    rw [bv_s, b_semi (by first | exact hb | (simp only [bd5]; exact hb))]
    exact ⟨_, rfl, by repeat' first | exact xf | refine XF.us ?_ (by omega)⟩
  rw [if_neg (by decide), m_13, bi_s]
  obtain ⟨b, C5, S5, e1, e2, hh⟩ := st4.word (z := 13) hN (by decide) (by decide)
  rw [e1, bi_s, e2, bv_s]
  clear e1 e2
  rcases hh with ⟨rfl, st5⟩ | ⟨rfl, fl⟩
  rotate_left
  · refine PRes.no (C' := C5) (by rw [if_pos b2i_f]; rfl) ?_
    have hb := fl.bd
    have xf := fl.xf (C0 := C0) (S0 := S0) (by repeat' first | exact xc | refine XC.u ?_ (by omega) | refine XC.ul ?_ (by omega)) (by repeat' first | exact xs | refine XS.u ?_ (by omega) | refine XS.ul ?_ (by omega) | refine XS.u2 ?_ (by omega))
    rw [na_8 _, b_board4 (by first | exact hb | (simp only [bd5]; exact hb)) (by omega), bv_s]
    rw [m_17, bi_s, b_perh (by first | exact hb | (simp only [bd5]; exact hb)), bi_s, if_pos b2i_f]
    unfold f_X12_readShip_b68
    rw [na_16 _, ck_n (by omega), bM_e, t_n (by omega)]
    rw [if_neg (show ¬ _ = (0 : Int32) from (show Bd _ by first | exact hb | (simp only [bd5]; exact hb)).2.2)]
    rw [bv_s, b_semi (by first | exact hb | (simp only [bd5]; exact hb))]
    exact ⟨_, rfl, by repeat' first | exact xf | refine XF.us ?_ (by omega)⟩
  rw [if_neg (by decide), na_2 (r * 5), na_8 (1823 + r)]
  obtain ⟨b, C6, S6, e1, e2, hh⟩ := st5.board (p2 := 28) (i := r * 5 + 2) (j := 1823 + r + 8) (stp := 4) (W := v 0) (D := v 1) hN ⟨by rw [ln_28]; omega, by rw [ln_28]; omega⟩ (by omega) (by rw [u_ne (by decide), u_ne (by decide), u_ne (by decide)]; exact c0) (by rw [u_ne (by decide), u_ne (by decide), u_ne (by decide)]; exact c1) (by rw [us_same, g_upd, if_neg (by omega), us_same, g_upd, if_neg (by omega)]; exact z0) (by rw [us_same, g_upd, if_neg (by omega), us_same, g_upd, if_neg (by omega)]; exact z1) (by omega) (by omega)
  have e1 : f_X6_readBoard N 23 28 (nI (r * 5 + 2)) C5 = some (b, C6) := e1
  have e2 : f_X12_readBoard N 4 (nI (1823 + r + 8)) 4 S5 = some S6 := e2
  rw [e1, bi_s, e2, bv_s]
  clear e1 e2
  rcases hh with ⟨rfl, x2, y2, hx2, hy2, st6⟩ | ⟨rfl, hb, xf⟩
  rotate_left
  · refine PRes.no (C' := C6) (by rw [if_pos b2i_f]; rfl) ?_
    have xf := xf C0 S0 (by repeat' first | exact xc | refine XC.u ?_ (by omega) | refine XC.ul ?_ (by omega)) (by repeat' first | exact xs | refine XS.u ?_ (by omega) | refine XS.ul ?_ (by omega) | refine XS.u2 ?_ (by omega))
    rw [m_17, bi_s, b_perh (by first | exact hb | (simp only [bd5]; exact hb)), bi_s, if_pos b2i_f]
    unfold f_X12_readShip_b68
    rw [na_16 _, ck_n (by omega), bM_e, t_n (by omega)]
    rw [if_neg (show ¬ _ = (0 : Int32) from (show Bd _ by first | exact hb | (simp only [bd5]; exact hb)).2.2)]
    rw [bv_s, b_semi (by first | exact hb | (simp only [bd5]; exact hb))]
    exact ⟨_, rfl, by repeat' first | exact xf | refine XF.us ?_ (by omega)⟩
  rw [if_neg (by decide)]
  unfold f_X6_readShip_b95
  rw [if_neg (by decide), m_17, bi_s]
  obtain ⟨b, C7, S7, e1, e2, st7⟩ := st6.may (z := 17) hN (by decide) (by decide)
  rw [e1, bi_s, e2, bi_s]
  clear e1 e2
  have fin : ∀ l, l ≤ 1 → PRes n B (lo + 1) C0 S0 (f_X6_readShip_b125 N 23 (nI l) (nI (r * 5) + 4) C7) (bv (f_X12_readShip_b68 N (nI l) (nI (1823 + r) + 16) S7) (mS N)) := fun l hl => by
    refine (ship_fin (x := x) (nc := nc) (x1 := x1) (y1 := y1) (x2 := x2) (y2 := y2) (dk := l) hN h st7 hk g (by rw [← hnc, ← hk]) w ⟨hx1, hy1, hx2, hy2, hl⟩ ?_ (fun i hi => ?_) ?_ ?_ ?_ ?_ ?_ (fun j h1 h2 h3 => ?_) ?_ (fun i => ?_) ?_ (by repeat' first | exact xc | refine XC.u ?_ (by omega) | refine XC.ul ?_ (by omega)) (fun i hi => ?_) (fun j => ?_) ?_ (by repeat' first | exact xs | refine XS.u ?_ (by omega) | refine XS.ul ?_ (by omega) | refine XS.u2 ?_ (by omega))).mono (by omega)
    · rw [u_ne (by decide), u_ne (by decide), u_ne (by decide), u_ne (by decide), u_ne (by decide)]; rfl
    · rw [us_same, g_upd, if_neg (by omega), us_same, g_upd, if_neg (by omega), us_same, g_upd, if_neg (by omega), us_same, g_upd, if_neg (by omega), u_ne (by decide)]; rfl
    · rw [us_same, g_upd, if_neg (by omega), us_same, g_upd, if_neg (by omega), us_same, g_upd, if_neg (by omega), u_at]
    · rw [us_same, g_upd, if_neg (by omega), us_same, g_upd, if_neg (by omega), u_at]
    · rw [us_same, g_upd, if_neg (by omega), u_at]
    · rw [u_at]
    · show (uL C 84 nc x).2 25 = _
      rw [l_ne (by decide)]
    · rw [u_ne (by omega), u_ne (by omega), u_ne (by omega), u_ne (by omega), u_ne (by omega)]; rfl
    · rw [u_ne (by decide), u_ne (by decide), u_ne (by decide), u_ne (by decide), u_at]
    · show (uL C 84 nc x).2 84 i = _
      rw [l_same, g_updL]
    · rw [u_ne (by decide), u_ne (by decide), u_ne (by decide), u_ne (by decide), u_ne (by decide)]; rfl
    · exact bk_u (bk_u (bk_u (bk_u (Z := uL S 208 (88 + 6 * 3 + r) x) bk (j := 83 + r) (y := x1) (by omega)) (j := 87 + r) (y := y1) (by omega)) (j := 91 + r) (y := x2) (by omega)) (j := 95 + r) (y := y2) (by omega) i hi
    · show (uL S 208 (88 + 6 * 3 + r) x).2 208 j = _
      rw [l_same, g_updL]
    · rw [u_ne (by decide), u_ne (by decide), u_ne (by decide), u_ne (by decide)]; rfl
  cases b with
  | false =>
    rw [if_pos b2i_f, if_pos b2i_f]
    exact fin 0 (by omega)
  | true =>
    rw [if_neg (by decide), if_neg (by decide)]
    exact fin 1 (by omega)
end Q9
