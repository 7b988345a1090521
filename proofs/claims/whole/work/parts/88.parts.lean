section Q9
variable {N n lo : Nat} {A Z A' Z' C S C0 S0 : Mem} {B : Nat → Nat} {v : Nat → Nat}
theorem holder_fin {k nc vo : Nat} {x : Int64} (hN : 1000 < N) (h : PI C0 S0 A Z v) (st : St n B lo A' Z' C S) (hk : v 3 = k) (k6 : k < 6) (hn : v 2 + v 3 + v 4 + v 5 = nc) (w : 1 ≤ v 0 ∧ 1 ≤ v 1) (b : vo ≤ 20)
    (p0 : A'.1 23 = A.1 23)
    (q0 : ∀ i, i < k → A'.1 26 i = A.1 26 i) (q1 : A'.1 26 (k) = nI vo)
    (r : A'.2 25 = A.2 25) (o : ∀ j, 1 ≤ j → j < 13 → j ≠ 3 → A'.1 (23 + j) = A.1 (23 + j)) (a1 : A'.1 83 4 = nI (nc + 1)) (a2 : ∀ i, A'.2 84 i = if i = nc then x else A.2 84 i) (a3 : A'.1 85 = A.1 85) (xc : XC C0 A')
    (z0 : ∀ i, i < 435 → Z'.1 205 (1740 + i) = nI ((pt v (41 + k) vo) i)) (z2 : ∀ j, Z'.2 208 j = if j = 88 + 6 * 1 + k then x else Z.2 208 j) (z3 : Z'.1 200 25 = Z.1 200 25) (xs : XS S0 Z') :
    PRes n B (lo + 1) C0 S0 (f_X6_readHolder_b71 N 23 1 C) (bv (if S.1 200 12 = 0 then (ck 1743 2175 (ck 1743 2175 (bM (uI S 205 (tn 1743) ((S.1 205 (tn 1743)) + 1)) fun M_14 => some M_14))) else (some S)) (mS N)) := by
  have c7 : C.1 23 8 = nI k := by
    rw [st.c (by decide), p0]
    have := h.2.1.2.2.2.2.1
    rw [dfl_ne (by omega), hk] at this
    exact this
  have y2 : S.1 205 1743 = nI k := by
    rw [st.s (by decide)]
    have := z0 3 (by omega)
    rw [pt_ne (by omega), hk] at this
    exact this
  unfold f_X6_readHolder_b71
  rw [if_neg (by decide), c7, n_addl, bM_e, show S.1 200 12 = 0 from st.s12, if_pos rfl, show (1743 : Int32) = nI 1743 from rfl, ck_n (by omega), ck_n (by omega), bM_e, t_n (by omega), y2, n_addl, bv_s]
  have st2 := (st.uc (c := 23) (k := 8) (x := nI (k + 1)) (by decide)).us (c := 205) (k := 1743) (x := nI (k + 1)) (by decide)
  have e := PRes.end (C0 := C0) (S0 := S0) (v := hdV v k vo) hN st2 (h.hd (x := x) hk k6 hn w b (fun j j7 => ?_) ?_ (fun i hi => ?_) ?_ ?_ (fun j j1 j13 jc => ?_) ?_ (fun i => ?_) ?_ (xc.u (by omega)) (fun i hi => ?_) (fun j => ?_) ?_ (xs.u (by omega)))
  · obtain ⟨b, C', S', e1, e2, e3⟩ := e
    exact ⟨b, C', S', by first | (rw [e1, bi_s]) | exact (by rw [e1, bi_s]), e2, e3⟩
  · rw [us_same, g_upd, if_neg j7, p0]
  · exact u_at _ _ _ _
  · rw [u_ne (by decide)]; exact q0 i hi
  · rw [u_ne (by decide)]; exact q1
  · exact r
  · rw [u_ne (by omega)]; exact o j j1 j13 jc
  · rw [u_ne (by decide)]; exact a1
  · exact a2 i
  · rw [u_ne (by decide)]; exact a3
  · exact bk_u z0 (j := 3) (y := k + 1) (by omega) i hi
  · exact z2 j
  · rw [u_ne (by decide)]; exact z3
theorem p_holder (hN : 1000 < N) (h : PI C0 S0 C S v) (st : St n B lo C S C S) (hq : C.1 82 2 = nI 1) (w : 1 ≤ v 0 ∧ 1 ≤ v 1) : PRes n B (lo + 1) C0 S0 (f_X6_readHolder N 23 C) (bv (f_X12_readHolder N S) (mS N)) := by
  obtain ⟨⟨vv, -⟩, pc, bk, -, nr, -, xc, xs⟩ := id h
  have v2 := vv.1.2.2.1
  have v3 := vv.2.1
  have v4 := vv.2.2.1
  have v5 := vv.2.2.2.1
  have v0 := vv.1.1
  have v1 := vv.1.2.1
  have hv10 := vv.2.2.2.2.2.1
  have c0 : C.1 23 0 = nI (v 0) := by have := pc.1.1; rwa [dfl_ne (by omega)] at this
  have c1 : C.1 23 1 = nI (v 1) := by have := pc.1.2.1; rwa [dfl_ne (by omega)] at this
  have z0 : S.1 205 1740 = nI (v 0) := bk 0 (by omega)
  have z1 : S.1 205 1741 = nI (v 1) := bk 1 (by omega)
  have c7 : C.1 23 8 = nI (v 3) := by have := pc.2.2.2.2.1; rwa [dfl_ne (by omega)] at this
  have hnew := st.new (s := 1) (mx := 6) hN hq ⟨v2, v3, v4, v5⟩ nr (by omega) ⟨(by show v 3 ≤ 6; omega), by omega, by omega⟩
  have nr1 := nr.1
  generalize hk : v 3 = k at *
  generalize hnc : v 2 + k + v 4 + v 5 = nc at *
  unfold f_X6_readHolder f_X12_readHolder
  simp only [Nat.reduceAdd, f_X12_behindWord]
  rw [c7]
  by_cases g : k < 6
  rotate_left
  · obtain ⟨C1, S2, e1, e3, fl⟩ := hnew.1 (by omega)
    have e3 : f_X12_readNew N 1 6 S = some (nI 0, S2) := e3
    rw [if_neg (by rw [n_ltl (by omega)]; exact g), e1, bi_s, e3, bi_s]
    · refine PRes.no (C' := C1) (rfl) ?_
      have hb := fl.bd
      have xf := fl.xf (C0 := C0) (S0 := S0) (by repeat' first | exact xc | refine XC.u ?_ (by omega) | refine XC.ul ?_ (by omega)) (by repeat' first | exact xs | refine XS.u ?_ (by omega) | refine XS.ul ?_ (by omega) | refine XS.u2 ?_ (by omega))
      rw [m_10, bi_s, b_must (by first | exact hb | (simp only [bd5]; exact hb)), bv_s]
      rw [b_cnt (by first | exact hb | (simp only [bd5]; exact hb)), bi_s, bi_s]
      rw [n_ladd, ck_n (by omega), bM_e, t_n (by omega)]
      rw [if_neg (show ¬ _ = (0 : Int32) from (show Bd _ by first | exact hb | (simp only [bd5]; exact hb)).2.2)]
      rw [bv_s, b_semi (by first | exact hb | (simp only [bd5]; exact hb))]
      exact ⟨_, rfl, by repeat' first | exact xf | refine XF.us ?_ (by omega)⟩
  obtain ⟨C1, b, C2, r, S2, e1, e2, e3, hh⟩ := hnew.2 g
  have e3 : f_X12_readNew N 1 6 S = some (nI r, S2) := e3
  rw [if_pos (by rw [n_ltl (by omega)]; exact g), e1, bv_s, e2, bi_s, e3, bi_s]
  clear e1 e2 e3 hnew
  rcases hh with ⟨rfl, hr, x, hx, st2⟩ | ⟨rfl, rfl, fl⟩
  rotate_left
  · refine PRes.no (C' := C2) (by rw [if_pos b2i_f]; rfl) ?_
    have hb := fl.bd
    have xf := fl.xf (C0 := C0) (S0 := S0) (by repeat' first | exact xc | refine XC.u ?_ (by omega) | refine XC.ul ?_ (by omega)) (by repeat' first | exact xs | refine XS.u ?_ (by omega) | refine XS.ul ?_ (by omega) | refine XS.u2 ?_ (by omega))
    rw [m_10, bi_s, b_must (by first | exact hb | (simp only [bd5]; exact hb)), bv_s]
    rw [b_cnt (by first | exact hb | (simp only [bd5]; exact hb)), bi_s, bi_s]
    rw [n_ladd, ck_n (by omega), bM_e, t_n (by omega)]
    rw [if_neg (show ¬ _ = (0 : Int32) from (show Bd _ by first | exact hb | (simp only [bd5]; exact hb)).2.2)]
    rw [bv_s, b_semi (by first | exact hb | (simp only [bd5]; exact hb))]
    exact ⟨_, rfl, by repeat' first | exact xf | refine XF.us ?_ (by omega)⟩
  subst hr
  rw [if_neg (by decide), m_10, bi_s]
  obtain ⟨b, C3, S3, e1, e2, hh⟩ := st2.word (z := 10) hN (by decide) (by decide)
  rw [e1, bi_s, e2, bv_s]
  clear e1 e2
  rcases hh with ⟨rfl, st3⟩ | ⟨rfl, fl⟩
  rotate_left
  · refine PRes.no (C' := C3) (by rw [if_pos b2i_f]; rfl) ?_
    have hb := fl.bd
    have xf := fl.xf (C0 := C0) (S0 := S0) (by repeat' first | exact xc | refine XC.u ?_ (by omega) | refine XC.ul ?_ (by omega)) (by repeat' first | exact xs | refine XS.u ?_ (by omega) | refine XS.ul ?_ (by omega) | refine XS.u2 ?_ (by omega))
    rw [b_cnt (by first | exact hb | (simp only [bd5]; exact hb)), bi_s, bi_s]
    rw [n_ladd, ck_n (by omega), bM_e, t_n (by omega)]
    rw [if_neg (show ¬ _ = (0 : Int32) from (show Bd _ by first | exact hb | (simp only [bd5]; exact hb)).2.2)]
    rw [bv_s, b_semi (by first | exact hb | (simp only [bd5]; exact hb))]
    exact ⟨_, rfl, by repeat' first | exact xf | refine XF.us ?_ (by omega)⟩
  rw [if_neg (by decide), show C3.1 23 8 = nI r by rw [st3.c (by decide), u_ne (by decide)]; exact c7]
  obtain ⟨b, vo, C4, S4, e1, e2, hh⟩ := st3.num (p1 := 26) (i := r) (L := 1) (H := 20) hN ⟨by rw [ln_26]; omega, by rw [ln_26]; omega⟩ (by decide) (by omega)
  have e1 : f_X8_takeNumber N 26 (nI (r)) 1 20 C3 = some (b, C4) := e1
  have e2 : f_X12_count N 1 20 S3 = some (nI vo, S4) := e2
  rw [e1, bi_s, e2, bi_s, bi_s]
  clear e1 e2
  rcases hh with ⟨rfl, ⟨vo1, vo2⟩, -, st4⟩ | ⟨rfl, rfl, fl⟩
  rotate_left
  · refine PRes.no (C' := C4) (by rw [if_pos b2i_f]; rfl) ?_
    have hb := fl.bd
    have xf := fl.xf (C0 := C0) (S0 := S0) (by repeat' first | exact xc | refine XC.u ?_ (by omega) | refine XC.ul ?_ (by omega)) (by repeat' first | exact xs | refine XS.u ?_ (by omega) | refine XS.ul ?_ (by omega) | refine XS.u2 ?_ (by omega))
    rw [n_ladd, ck_n (by omega), bM_e, t_n (by omega)]
    rw [if_neg (show ¬ _ = (0 : Int32) from (show Bd _ by first | exact hb | (simp only [bd5]; exact hb)).2.2)]
    rw [bv_s, b_semi (by first | exact hb | (simp only [bd5]; exact hb))]
    exact ⟨_, rfl, by repeat' first | exact xf | refine XF.us ?_ (by omega)⟩
  rw [show 1781 + nI r = nI (1781 + r) from n_ladd _ _, ck_n (show 1781 + r < 2175 ∧ 2175 < 2147483648 by omega), bM_e, t_n (show 1781 + r < 2147483648 by omega)]
  have st5 := st4.us (c := 205) (k := 1781 + r) (x := nI vo) (by decide)
  refine (holder_fin (vo := vo) (x := x) (nc := nc) hN h st5 hk g (by rw [← hnc, ← hk]) w vo2 ?_ (fun i hi => ?_) ?_ ?_ (fun j h1 h2 h3 => ?_) ?_ (fun i => ?_) ?_ (by repeat' first | exact xc | refine XC.u ?_ (by omega) | refine XC.ul ?_ (by omega)) (fun i hi => ?_) (fun j => ?_) ?_ (by repeat' first | exact xs | refine XS.u ?_ (by omega) | refine XS.ul ?_ (by omega) | refine XS.u2 ?_ (by omega))).mono (by omega)
  · rw [u_ne (by decide), u_ne (by decide)]; rfl
  · rw [us_same, g_upd, if_neg (by omega), u_ne (by decide)]; rfl
  · exact u_at _ _ _ _
  · show (uL C 84 nc x).2 25 = _
    rw [l_ne (by decide)]
  · rw [u_ne (by omega), u_ne (by omega)]; rfl
  · rw [u_ne (by decide), u_at]
  · show (uL C 84 nc x).2 84 i = _
    rw [l_same, g_updL]
  · rw [u_ne (by decide), u_ne (by decide)]; rfl
  · exact bk_u (Z := uL S 208 (88 + 6 * 1 + r) x) bk (j := 41 + r) (y := vo) (by omega) i hi
  · show (uL S 208 (88 + 6 * 1 + r) x).2 208 j = _
    rw [l_same, g_updL]
  · rw [u_ne (by decide)]; rfl
end Q9
