section Q8
variable {N n lo : Nat} {A Z A' Z' C S C0 S0 : Mem} {B : Nat → Nat} {v : Nat → Nat}
theorem uI_id {M : Mem} {c k : Nat} {x : Int32} (h : M.1 c k = x) : uI M c k x = M := by
  have : (uI M c k x).1 = M.1 := by
    funext a j
    by_cases g : a = c
    · subst g
      rw [us_same, g_upd]
      by_cases q : j = k
      · rw [if_pos q, q, h]
      · rw [if_neg q]
    · rw [u_ne g]
  exact Prod.ext this rfl
theorem so_e {M : Mem} {k op : Nat} (b : Bool) (hk : k < 6) (ho : op < 2 ^ k) (h : M.1 23 6 = nI op) : f_X5_setOpen 23 (nI k) (b2i b) M = some (uI M 23 6 (nI (if b = true then op ||| 2 ^ k else op))) := by
  unfold f_X5_setOpen
  rw [h, n_shl1 (by omega)]
  cases b with
  | true => rw [if_neg (by decide), bM_e, fa_or]; rfl
  | false =>
    rw [if_pos b2i_f, bM_e, n_andnot (by omega), if_neg (show ¬ op.testBit k = true by rw [Nat.testBit_lt_two_pow ho]; decide)]
    rfl
theorem om_e {M : Mem} {k op : Nat} (b : Bool) (hk : k < 6) (h : M.1 205 1750 = nI op) : (if b2i b = 0 then (f_X12_readGate_b105 N (nI (1751 + k)) M) else (ck 1750 2175 (ck 1750 2175 (bM (uI M 205 (tn 1750) ((M.1 205 (tn 1750)) ||| (1 <<< (((nI (1751 + k) - 1740) - 11) &&& 31)))) fun M_49 => f_X12_readGate_b105 N (nI (1751 + k)) M_49)))) = f_X12_readGate_b105 N (nI (1751 + k)) (uI M 205 1750 (nI (if b = true then op ||| 2 ^ k else op))) := by
  cases b with
  | true =>
    rw [if_neg (by decide), show (1750 : Int32) = nI 1750 from rfl, ck_n (by omega), ck_n (by omega), bM_e, t_n (by omega), h, n_subl (by show 1740 ≤ 1751 + k; omega), n_subl (by show 11 ≤ 1751 + k - 1740; omega), n_shl1 (by show 1751 + k - 1740 - 11 < 31; omega), fa_or, show 1751 + k - OfNat.ofNat 1740 - OfNat.ofNat 11 = k from (by show 1751 + k - 1740 - 11 = k; omega)]
    rfl
  | false =>
    rw [if_pos b2i_f, if_neg (by decide), uI_id h]
theorem gate_fin {k nc col row amt ans op q : Nat} {x : Int64} (hN : 1000 < N) (h : PI C0 S0 A Z v) (st : St n B lo A' Z' C S) (hk : v 2 = k) (k6 : k < 6) (hn : v 2 + v 3 + v 4 + v 5 = nc) (w : 1 ≤ v 0 ∧ 1 ≤ v 1) (b : col < v 0 ∧ row < v 1 ∧ amt ≤ 40 ∧ ans ≤ 1 ∧ q ≤ 99) (bo : op < 2 ^ (k + 1))
    (p0 : ∀ j, j ≠ 6 → A'.1 23 j = A.1 23 j) (p6 : A'.1 23 6 = nI op)
    (q0 : ∀ i, i < k * 5 → A'.1 24 i = A.1 24 i) (q1 : A'.1 24 (k * 5) = nI col) (q2 : A'.1 24 (k * 5 + 1) = nI row) (q3 : A'.1 24 (k * 5 + 2) = nI amt) (q4 : A'.1 24 (k * 5 + 3) = nI ans) (q5 : A'.1 24 (k * 5 + 4) = nI q)
    (r : A'.2 25 = A.2 25) (o : ∀ j, 3 ≤ j → j < 13 → A'.1 (23 + j) = A.1 (23 + j)) (a1 : A'.1 83 4 = nI (nc + 1)) (a2 : ∀ i, A'.2 84 i = if i = nc then x else A.2 84 i) (a3 : A'.1 85 = A.1 85) (xc : XC C0 A')
    (z0 : ∀ i, i < 435 → Z'.1 205 (1740 + i) = nI (pt (pt (pt (pt (pt v (11 + k) col) (17 + k) row) (23 + k) amt) (29 + k) ans) 10 op i)) (z2 : ∀ j, Z'.2 208 j = if j = 88 + 6 * 0 + k then x else Z.2 208 j) (z3 : Z'.1 200 25 = Z.1 200 25) (xs : XS S0 Z') :
    PRes n B (lo + 1) C0 S0 (f_X6_readGate_b186 N 23 C) (bv (f_X12_readGate_b135 N (nI q) (nI (1751 + k) + 24) S) (mS N)) := by
  have c7 : C.1 23 7 = nI k := by
    rw [st.c (by decide), p0 7 (by omega)]
    have := h.2.1.1.2.2.2.2.1
    rw [dfl_ne (by omega), hk] at this
    exact this
  have hnc : nc < 22 := by
    have := h.1.1.1.2.2.1
    have := h.1.1.2.1
    have := h.1.1.2.2.1
    have := h.1.1.2.2.2.1
    omega
  have y2 : S.1 205 1742 = nI k := by
    rw [st.s (by decide)]
    have := z0 2 (by omega)
    rw [pt_ne (by omega), pt_ne (by omega), pt_ne (by omega), pt_ne (by omega), pt_ne (by omega), hk] at this
    exact this
  unfold f_X6_readGate_b186 f_X12_readGate_b135
  simp only [Nat.reduceAdd]
  rw [show C.1 83 4 = nI (nc + 1) by rw [st.c (by decide)]; exact a1, n_subl (by show 1 ≤ nc + 1; omega), show nc + 1 - OfNat.ofNat 1 = nc from (by show nc + 1 - 1 = nc; omega), ck_n (by omega), c7, ck_n (by omega), bM_e, bM_e, t_n (by omega), t_n (by omega), show C.2 84 nc = x by rw [st.c2, a2, if_pos rfl], show (uL C 25 k x).1 23 7 = nI k from c7, n_addl, n_addl, ck_n (by omega), bM_e, t_n (by omega), show (uI S 205 (1751 + k + 24) (nI q)).1 200 12 = 0 by rw [u_ne (by decide)]; exact st.s12, if_pos rfl, show (1742 : Int32) = nI 1742 from rfl, ck_n (by omega), ck_n (by omega), bM_e, t_n (by omega), us_same, g_upd, if_neg (by omega), y2, n_addl, bv_s]
  have st2 := (((st.uc2 (c := 25) (k := k) (x := x)).uc (c := 23) (k := 7) (x := nI (k + 1)) (by decide)).us (c := 205) (k := 1751 + k + 24) (x := nI q) (by decide)).us (c := 205) (k := 1742) (x := nI (k + 1)) (by decide)
  show PRes n B (lo + 1) C0 S0 (bi (f_X8_takeSemicolon N (uI (uL C 25 k x) 23 7 (nI (k + 1)))) fun r M => some (r, M)) (mS N (uI (uI S 205 (1751 + k + 24) (nI q)) 205 1742 (nI (k + 1))))
  have e := PRes.end (C0 := C0) (S0 := S0) (v := gtV v k col row amt ans op q) hN st2 (h.gate (x := x) hk k6 hn w b bo (fun j j6 j7 => ?_) ?_ ?_ (fun i hi => ?_) ?_ ?_ ?_ ?_ ?_ (fun g => ?_) (fun j j3 j13 => ?_) ?_ (fun i => ?_) ?_ ((xc.ul (by omega)).u (by omega)) (fun i hi => ?_) (fun j => ?_) ?_ ((xs.u (by omega)).u (by omega)))
  · obtain ⟨b, C', S', e1, e2, e3⟩ := e
    exact ⟨b, C', S', by rw [e1, bi_s], e2, e3⟩
  · rw [us_same, g_upd, if_neg j7]; exact p0 j j6
  · rw [us_same, g_upd, if_neg (by omega)]; exact p6
  · exact u_at _ _ _ _
  · rw [u_ne (by decide)]; exact q0 i hi
  · rw [u_ne (by decide)]; exact q1
  · rw [u_ne (by decide)]; exact q2
  · rw [u_ne (by decide)]; exact q3
  · rw [u_ne (by decide)]; exact q4
  · rw [u_ne (by decide)]; exact q5
  · show (uL A' 25 k x).2 25 g = _
    rw [l_same, g_updL, r]
  · rw [u_ne (by omega)]; exact o j j3 j13
  · rw [u_ne (by decide)]; exact a1
  · show (uL A' 25 k x).2 84 i = _
    rw [l_ne (by decide)]; exact a2 i
  · rw [u_ne (by decide)]; exact a3
  · exact bk_u (bk_u z0 (j := 35 + k) (y := q) (by omega)) (j := 2) (y := k + 1) (by omega) i hi
  · exact z2 j
  · rw [u_ne (by decide), u_ne (by decide)]; exact z3
theorem gate_mid {k nc col row amt ans : Nat} {x : Int64} (hN : 1000 < N) (h : PI C0 S0 A Z v) (st : St n B lo A' Z' C S) (hk : v 2 = k) (k6 : k < 6) (hn : v 2 + v 3 + v 4 + v 5 = nc) (w : 1 ≤ v 0 ∧ 1 ≤ v 1) (b : col < v 0 ∧ row < v 1 ∧ amt ≤ 40 ∧ ans ≤ 1)
    (p0 : A'.1 23 = A.1 23)
    (q0 : ∀ i, i < k * 5 → A'.1 24 i = A.1 24 i) (q1 : A'.1 24 (k * 5) = nI col) (q2 : A'.1 24 (k * 5 + 1) = nI row) (q3 : A'.1 24 (k * 5 + 2) = nI amt)
    (r : A'.2 25 = A.2 25) (o : ∀ j, 3 ≤ j → j < 13 → A'.1 (23 + j) = A.1 (23 + j)) (a1 : A'.1 83 4 = nI (nc + 1)) (a2 : ∀ i, A'.2 84 i = if i = nc then x else A.2 84 i) (a3 : A'.1 85 = A.1 85) (xc : XC C0 A')
    (z0 : ∀ i, i < 435 → Z'.1 205 (1740 + i) = nI (pt (pt (pt v (11 + k) col) (17 + k) row) (23 + k) amt i)) (z2 : ∀ j, Z'.2 208 j = if j = 88 + 6 * 0 + k then x else Z.2 208 j) (z3 : Z'.1 200 25 = Z.1 200 25) (xs : XS S0 Z') :
    PRes n B (lo + 1) C0 S0 (f_X6_readGate_b131 N 23 (nI (k * 5)) (nI ans) (nI (k * 5) + 3) C) (bv (f_X12_readGate_b72 N (nI (1751 + k)) (nI ans) (nI (1751 + k) + 18) S) (mS N)) := by
  have hv10 := h.1.1.2.2.2.2.2.1
  rw [hk] at hv10
  have a6 : A.1 23 6 = nI (v 10) := by have := h.2.1.2.2.2.1; rwa [dfl_ne (by omega)] at this
  have a7 : A.1 23 7 = nI k := by have := h.2.1.1.2.2.2.2.1; rwa [dfl_ne (by omega), hk] at this
  unfold f_X6_readGate_b131 f_X12_readGate_b72
  simp only [Nat.reduceAdd]
  rw [n_addl, ck_n (by show k * 5 + 3 < 30 ∧ _; omega), bM_e, t_n (by show k * 5 + 3 < _; omega), show nI (1751 + k) + 18 = nI (1751 + k + 18) from n_addl _ _, ck_n (by show 1751 + k + 18 < 2175 ∧ _; omega), bM_e, t_n (by show 1751 + k + 18 < _; omega), m_7, bi_s]
  have st1 := (st.uc (c := 24) (k := k * 5 + 3) (x := nI ans) (by decide)).us (c := 205) (k := 1751 + k + 18) (x := nI ans) (by decide)
  obtain ⟨b7, C1, S1, e1, e2, st2⟩ := st1.may (z := 7) hN (by decide) (by decide)
  have c6 : C1.1 23 6 = nI (v 10) := by rw [st2.c (by decide), u_ne (by decide), p0]; exact a6
  have z10 : S1.1 205 1750 = nI (v 10) := by
    rw [st2.s (by decide), us_same, g_upd, if_neg (by omega)]
    have := z0 10 (by omega)
    rw [pt_ne (by omega), pt_ne (by omega), pt_ne (by omega)] at this
    exact this
  rw [show OfNat.ofNat 3 = 3 from rfl, e1, bi_s, show (uI C 24 (k * 5 + 3) (nI ans)).1 23 7 = nI k by rw [u_ne (by decide), st.c (by decide), p0]; exact a7, so_e b7 k6 hv10 c6, bv_s, e2, bi_s, om_e b7 k6 z10]
  have hop : (if b7 = true then v 10 ||| 2 ^ k else v 10) < 2 ^ (k + 1) := by
    have : 2 ^ k < 2 ^ (k + 1) := Nat.pow_lt_pow_right (by decide) (by omega)
    cases b7 with
    | true => exact Nat.or_lt_two_pow (by omega) this
    | false => show v 10 < _; omega
  generalize (if b7 = true then v 10 ||| 2 ^ k else v 10) = op at *
  have st3 := (st2.uc (c := 23) (k := 6) (x := nI op) (by decide)).us (c := 205) (k := 1750) (x := nI op) (by decide)
  have st4 := st3.uc (c := 24) (k := k * 5 + 4) (x := 1) (by decide)
  unfold f_X12_readGate_b105
  rw [n_addl, ck_n (by show k * 5 + 4 < 30 ∧ _; omega), bM_e, t_n (by show k * 5 + 4 < _; omega), m_8, bi_s, show OfNat.ofNat 4 = 4 from rfl]
  obtain ⟨b8, C2, S2, e3, e4, st5⟩ := st4.may (z := 8) hN (by decide) (by decide)
  rw [e3, bi_s, e4, bi_s]
  have fin : ∀ q l C S, q ≤ 99 → lo ≤ l → St n B l (uI (uI (uI (uI A' 24 (k * 5 + 3) (nI ans)) 23 6 (nI op)) 24 (k * 5 + 4) 1) 24 (k * 5 + 4) (nI q)) (uI (uI Z' 205 (1751 + k + 18) (nI ans)) 205 1750 (nI op)) C S → PRes n B (lo + 1) C0 S0 (f_X6_readGate_b186 N 23 C) (bv (f_X12_readGate_b135 N (nI q) (nI (1751 + k) + 24) S) (mS N)) := fun q l C S hq hl st => by
    refine (gate_fin (col := col) (row := row) (amt := amt) (ans := ans) (op := op) hN h st hk k6 hn w ⟨b.1, b.2.1, b.2.2.1, b.2.2.2, hq⟩ hop (fun j hj => ?_) ?_ (fun i hi => ?_) ?_ ?_ ?_ ?_ ?_ ?_ (fun j h1 h2 => ?_) ?_ a2 ?_ ?_ (fun i hi => ?_) z2 ?_ ?_).mono (by omega)
    · rw [u_ne (by decide), u_ne (by decide), us_same, g_upd, if_neg hj, u_ne (by decide), p0]
    · rw [u_ne (by decide), u_ne (by decide), u_at]
    · rw [us_same, g_upd, if_neg (by omega), us_same, g_upd, if_neg (by omega), u_ne (by decide), us_same, g_upd, if_neg (by omega)]; exact q0 i hi
    · rw [us_same, g_upd, if_neg (by omega), us_same, g_upd, if_neg (by omega), u_ne (by decide), us_same, g_upd, if_neg (by omega)]; exact q1
    · rw [us_same, g_upd, if_neg (by omega), us_same, g_upd, if_neg (by omega), u_ne (by decide), us_same, g_upd, if_neg (by omega)]; exact q2
    · rw [us_same, g_upd, if_neg (by omega), us_same, g_upd, if_neg (by omega), u_ne (by decide), us_same, g_upd, if_neg (by omega)]; exact q3
    · rw [us_same, g_upd, if_neg (by omega), us_same, g_upd, if_neg (by omega), u_ne (by decide), u_at]
    · exact u_at _ _ _ _
    · exact r
    · rw [u_ne (by omega), u_ne (by omega), u_ne (by omega), u_ne (by omega)]; exact o j h1 h2
    · rw [u_ne (by decide), u_ne (by decide), u_ne (by decide), u_ne (by decide)]; exact a1
    · rw [u_ne (by decide), u_ne (by decide), u_ne (by decide), u_ne (by decide)]; exact a3
    · exact (by repeat' first | exact xc | refine XC.u ?_ (by omega) | refine XC.ul ?_ (by omega))
    · exact bk_u (bk_u z0 (j := 29 + k) (y := ans) (by omega)) (j := 10) (y := op) (by omega) i hi
    · rw [u_ne (by decide), u_ne (by decide)]; exact z3
    · exact (by repeat' first | exact xs | refine XS.u ?_ (by omega) | refine XS.ul ?_ (by omega) | refine XS.u2 ?_ (by omega))
  cases b8 with
  | false =>
    rw [if_pos b2i_f, if_pos b2i_f]
    have st6 := st5.uc (c := 24) (k := k * 5 + 4) (x := nI 1) (by decide)
    rw [uI_id (M := C2) (c := 24) (k := k * 5 + 4) (x := nI 1) (by rw [st5.c (by decide), u_at]; rfl)] at st6
    exact fin 1 lo C2 S2 (by omega) (by omega) st6
  | true =>
    rw [if_neg (by decide), if_neg (by decide)]
    obtain ⟨b, q, C3, S3, e1, e2, hh⟩ := st5.num (p1 := 24) (i := k * 5 + 4) (L := 1) (H := 99) hN ⟨by rw [ln_24]; omega, by rw [ln_24]; omega⟩ (by decide) (by omega)
    have e1 : f_X8_takeNumber N 24 (nI (k * 5 + 4)) 1 99 C2 = some (b, C3) := e1
    have e2 : f_X12_count N 1 99 S2 = some (nI q, S3) := e2
    rw [e1, bi_s, e2, bi_s]
    clear e1 e2 e3 e4
    rcases hh with ⟨rfl, ⟨q1', q99⟩, -, st6⟩ | ⟨rfl, rfl, fl⟩
    · rw [if_neg (by decide)]
      exact fin q _ C3 S3 q99 (by omega) st6
    · refine PRes.no (C' := C3) (if_pos b2i_f) ?_
      have hb := fl.bd
      have xf := fl.xf (C0 := C0) (S0 := S0) (by repeat' first | exact xc | refine XC.u ?_ (by omega) | refine XC.ul ?_ (by omega)) (by repeat' first | exact xs | refine XS.u ?_ (by omega) | refine XS.ul ?_ (by omega) | refine XS.u2 ?_ (by omega))
      unfold f_X12_readGate_b135
      rw [n_addl, ck_n (by show 1751 + k + 24 < 2175 ∧ _; omega), bM_e, t_n (by show 1751 + k + 24 < _; omega), if_neg (show ¬ _ = (0 : Int32) from (show Bd _ by first | exact hb | (simp only [bd5]; exact hb)).2.2), bv_s, b_semi (by first | exact hb | (simp only [bd5]; exact hb))]
      exact ⟨_, rfl, xf.us (by show 1740 ≤ 1751 + k + 24; omega)⟩
theorem p_gate (hN : 1000 < N) (h : PI C0 S0 C S v) (st : St n B lo C S C S) (hq : C.1 82 2 = nI 1) (w : 1 ≤ v 0 ∧ 1 ≤ v 1) : PRes n B (lo + 1) C0 S0 (f_X6_readGate N 23 C) (bv (f_X12_readGate N S) (mS N)) := by
  obtain ⟨⟨vv, -⟩, pc, bk, -, nr, -, xc, xs⟩ := id h
  have v2 := vv.1.2.2.1
  have v3 := vv.2.1
  have v4 := vv.2.2.1
  have v5 := vv.2.2.2.1
  have v0 := vv.1.1
  have v1 := vv.1.2.1
  have hv10 := vv.2.2.2.2.2.1
  have c0 : C.1 23 0 = nI (v 0) := by have := pc.1.1; rwa [dfl_ne (by omega)] at this
  have c1 : C.1 23 1 = nI (v 1) := by have := pc.1.2.1; rwa [dfl_ne (by omega)] at this
  have z0 : S.1 205 1740 = nI (v 0) := bk 0 (by omega)
  have z1 : S.1 205 1741 = nI (v 1) := bk 1 (by omega)
  have c7 : C.1 23 7 = nI (v 2) := by have := pc.1.2.2.2.2.1; rwa [dfl_ne (by omega)] at this
  have c6 : C.1 23 6 = nI (v 10) := by have := pc.2.2.2.1; rwa [dfl_ne (by omega)] at this
  have z10 : S.1 205 1750 = nI (v 10) := bk 10 (by omega)
  have hnew := st.new (s := 0) (mx := 6) hN hq ⟨v2, v3, v4, v5⟩ nr (by omega) ⟨v2, by omega, by omega⟩
  generalize hk : v 2 = k at *
  generalize hnc : k + v 3 + v 4 + v 5 = nc at *
  unfold f_X6_readGate f_X12_readGate
  simp only [Nat.reduceAdd, f_X12_behindWord]
  rw [c7]
  by_cases g : k < 6
  rotate_left
  · obtain ⟨C1, S2, e1, e3, fl⟩ := hnew.1 (by omega)
    have e3 : f_X12_readNew N 0 6 S = some (nI 0, S2) := e3
    rw [if_neg (by rw [n_ltl (by omega)]; exact g), e1, bi_s, e3, bi_s]
    · refine PRes.no (C' := C1) (rfl) ?_
      have hb := fl.bd
      have xf := fl.xf (C0 := C0) (S0 := S0) (by repeat' first | exact xc | refine XC.u ?_ (by omega) | refine XC.ul ?_ (by omega)) (by repeat' first | exact xs | refine XS.u ?_ (by omega) | refine XS.ul ?_ (by omega) | refine XS.u2 ?_ (by omega))
      rw [m_4, bi_s, b_must (by first | exact hb | (simp only [bd5]; exact hb)), bv_s]
      rw [n_ladd, b_board6 (by first | exact hb | (simp only [bd5]; exact hb)) (by omega), bv_s]
      rw [m_5, bi_s, b_must (by first | exact hb | (simp only [bd5]; exact hb)), bv_s]
      rw [b_cnt (by first | exact hb | (simp only [bd5]; exact hb)), bi_s, bi_s]
      rw [n_addl, ck_n (by omega), bM_e, t_n (by omega)]
      rw [m_6, bi_s, b_perh (by first | exact hb | (simp only [bd5]; exact hb)), bi_s, if_pos b2i_f]
      unfold f_X12_readGate_b72
      rw [n_addl, ck_n (by omega), bM_e, t_n (by omega)]
      rw [m_7, bi_s, b_perh (by first | exact hb | (simp only [bd5]; exact hb)), bi_s, if_pos b2i_f]
      unfold f_X12_readGate_b105
      rw [m_8, bi_s, b_perh (by first | exact hb | (simp only [bd5]; exact hb)), bi_s, if_pos b2i_f]
      unfold f_X12_readGate_b135
      rw [n_addl, ck_n (by omega), bM_e, t_n (by omega)]
      rw [if_neg (show ¬ _ = (0 : Int32) from (show Bd _ by first | exact hb | (simp only [bd5]; exact hb)).2.2)]
      rw [bv_s, b_semi (by first | exact hb | (simp only [bd5]; exact hb))]
      exact ⟨_, rfl, by repeat' first | exact xf | refine XF.us ?_ (by omega)⟩
  obtain ⟨C1, b, C2, r, S2, e1, e2, e3, hh⟩ := hnew.2 g
  have e3 : f_X12_readNew N 0 6 S = some (nI r, S2) := e3
  rw [if_pos (by rw [n_ltl (by omega)]; exact g), e1, bv_s, e2, bi_s, e3, bi_s, n_mull]
  clear e1 e2 e3 hnew
  rcases hh with ⟨rfl, hr, x, hx, st2⟩ | ⟨rfl, rfl, fl⟩
  rotate_left
  · refine PRes.no (C' := C2) (by rw [if_pos b2i_f]; rfl) ?_
    have hb := fl.bd
    have xf := fl.xf (C0 := C0) (S0 := S0) (by repeat' first | exact xc | refine XC.u ?_ (by omega) | refine XC.ul ?_ (by omega)) (by repeat' first | exact xs | refine XS.u ?_ (by omega) | refine XS.ul ?_ (by omega) | refine XS.u2 ?_ (by omega))
    rw [m_4, bi_s, b_must (by first | exact hb | (simp only [bd5]; exact hb)), bv_s]
    rw [n_ladd, b_board6 (by first | exact hb | (simp only [bd5]; exact hb)) (by omega), bv_s]
    rw [m_5, bi_s, b_must (by first | exact hb | (simp only [bd5]; exact hb)), bv_s]
    rw [b_cnt (by first | exact hb | (simp only [bd5]; exact hb)), bi_s, bi_s]
    rw [n_addl, ck_n (by omega), bM_e, t_n (by omega)]
    rw [m_6, bi_s, b_perh (by first | exact hb | (simp only [bd5]; exact hb)), bi_s, if_pos b2i_f]
    unfold f_X12_readGate_b72
    rw [n_addl, ck_n (by omega), bM_e, t_n (by omega)]
    rw [m_7, bi_s, b_perh (by first | exact hb | (simp only [bd5]; exact hb)), bi_s, if_pos b2i_f]
    unfold f_X12_readGate_b105
    rw [m_8, bi_s, b_perh (by first | exact hb | (simp only [bd5]; exact hb)), bi_s, if_pos b2i_f]
    unfold f_X12_readGate_b135
    rw [n_addl, ck_n (by omega), bM_e, t_n (by omega)]
    rw [if_neg (show ¬ _ = (0 : Int32) from (show Bd _ by first | exact hb | (simp only [bd5]; exact hb)).2.2)]
    rw [bv_s, b_semi (by first | exact hb | (simp only [bd5]; exact hb))]
    exact ⟨_, rfl, by repeat' first | exact xf | refine XF.us ?_ (by omega)⟩
  subst hr
  rw [if_neg (by decide), m_4, bi_s]
  obtain ⟨b, C3, S3, e1, e2, hh⟩ := st2.word (z := 4) hN (by decide) (by decide)
  rw [e1, bi_s, e2, bv_s]
  clear e1 e2
  rcases hh with ⟨rfl, st3⟩ | ⟨rfl, fl⟩
  rotate_left
  · refine PRes.no (C' := C3) (by rw [if_pos b2i_f]; rfl) ?_
    have hb := fl.bd
    have xf := fl.xf (C0 := C0) (S0 := S0) (by repeat' first | exact xc | refine XC.u ?_ (by omega) | refine XC.ul ?_ (by omega)) (by repeat' first | exact xs | refine XS.u ?_ (by omega) | refine XS.ul ?_ (by omega) | refine XS.u2 ?_ (by omega))
    rw [n_ladd, b_board6 (by first | exact hb | (simp only [bd5]; exact hb)) (by omega), bv_s]
    rw [m_5, bi_s, b_must (by first | exact hb | (simp only [bd5]; exact hb)), bv_s]
    rw [b_cnt (by first | exact hb | (simp only [bd5]; exact hb)), bi_s, bi_s]
    rw [n_addl, ck_n (by omega), bM_e, t_n (by omega)]
    rw [m_6, bi_s, b_perh (by first | exact hb | (simp only [bd5]; exact hb)), bi_s, if_pos b2i_f]
    unfold f_X12_readGate_b72
    rw [n_addl, ck_n (by omega), bM_e, t_n (by omega)]
    rw [m_7, bi_s, b_perh (by first | exact hb | (simp only [bd5]; exact hb)), bi_s, if_pos b2i_f]
    unfold f_X12_readGate_b105
    rw [m_8, bi_s, b_perh (by first | exact hb | (simp only [bd5]; exact hb)), bi_s, if_pos b2i_f]
    unfold f_X12_readGate_b135
    rw [n_addl, ck_n (by omega), bM_e, t_n (by omega)]
    rw [if_neg (show ¬ _ = (0 : Int32) from (show Bd _ by first | exact hb | (simp only [bd5]; exact hb)).2.2)]
    rw [bv_s, b_semi (by first | exact hb | (simp only [bd5]; exact hb))]
    exact ⟨_, rfl, by repeat' first | exact xf | refine XF.us ?_ (by omega)⟩
  rw [if_neg (by decide), n_ladd]
  obtain ⟨b, C4, S4, e1, e2, hh⟩ := st3.board (p2 := 24) (i := r * 5) (j := 1751 + r) (stp := 6) (W := v 0) (D := v 1) hN ⟨by rw [ln_24]; omega, by rw [ln_24]; omega⟩ (by omega) (by rw [u_ne (by decide)]; exact c0) (by rw [u_ne (by decide)]; exact c1) z0 z1 (by omega) (by omega)
  have e2 : f_X12_readBoard N 4 (nI (1751 + r)) 6 S3 = some S4 := e2
  rw [e1, bi_s, e2, bv_s]
  clear e1 e2
  rcases hh with ⟨rfl, col, row, hcol, hrow, st4⟩ | ⟨rfl, hb, xf⟩
  rotate_left
  · refine PRes.no (C' := C4) (by rw [if_pos b2i_f]; rfl) ?_
    have xf := xf C0 S0 (by repeat' first | exact xc | refine XC.u ?_ (by omega) | refine XC.ul ?_ (by omega)) (by repeat' first | exact xs | refine XS.u ?_ (by omega) | refine XS.ul ?_ (by omega) | refine XS.u2 ?_ (by omega))
    rw [m_5, bi_s, b_must (by first | exact hb | (simp only [bd5]; exact hb)), bv_s]
    rw [b_cnt (by first | exact hb | (simp only [bd5]; exact hb)), bi_s, bi_s]
    rw [n_addl, ck_n (by omega), bM_e, t_n (by omega)]
    rw [m_6, bi_s, b_perh (by first | exact hb | (simp only [bd5]; exact hb)), bi_s, if_pos b2i_f]
    unfold f_X12_readGate_b72
    rw [n_addl, ck_n (by omega), bM_e, t_n (by omega)]
    rw [m_7, bi_s, b_perh (by first | exact hb | (simp only [bd5]; exact hb)), bi_s, if_pos b2i_f]
    unfold f_X12_readGate_b105
    rw [m_8, bi_s, b_perh (by first | exact hb | (simp only [bd5]; exact hb)), bi_s, if_pos b2i_f]
    unfold f_X12_readGate_b135
    rw [n_addl, ck_n (by omega), bM_e, t_n (by omega)]
    rw [if_neg (show ¬ _ = (0 : Int32) from (show Bd _ by first | exact hb | (simp only [bd5]; exact hb)).2.2)]
    rw [bv_s, b_semi (by first | exact hb | (simp only [bd5]; exact hb))]
    exact ⟨_, rfl, by repeat' first | exact xf | refine XF.us ?_ (by omega)⟩
  rw [if_neg (by decide), m_5, bi_s]
  obtain ⟨b, C5, S5, e1, e2, hh⟩ := st4.word (z := 5) hN (by decide) (by decide)
  rw [e1, bi_s, e2, bv_s]
  clear e1 e2
  rcases hh with ⟨rfl, st5⟩ | ⟨rfl, fl⟩
  rotate_left
  · refine PRes.no (C' := C5) (by rw [if_pos b2i_f]; rfl) ?_
    have hb := fl.bd
    have xf := fl.xf (C0 := C0) (S0 := S0) (by repeat' first | exact xc | refine XC.u ?_ (by omega) | refine XC.ul ?_ (by omega)) (by repeat' first | exact xs | refine XS.u ?_ (by omega) | refine XS.ul ?_ (by omega) | refine XS.u2 ?_ (by omega))
    rw [b_cnt (by first | exact hb | (simp only [bd5]; exact hb)), bi_s, bi_s]
    rw [n_addl, ck_n (by omega), bM_e, t_n (by omega)]
    rw [m_6, bi_s, b_perh (by first | exact hb | (simp only [bd5]; exact hb)), bi_s, if_pos b2i_f]
    unfold f_X12_readGate_b72
    rw [n_addl, ck_n (by omega), bM_e, t_n (by omega)]
    rw [m_7, bi_s, b_perh (by first | exact hb | (simp only [bd5]; exact hb)), bi_s, if_pos b2i_f]
    unfold f_X12_readGate_b105
    rw [m_8, bi_s, b_perh (by first | exact hb | (simp only [bd5]; exact hb)), bi_s, if_pos b2i_f]
    unfold f_X12_readGate_b135
    rw [n_addl, ck_n (by omega), bM_e, t_n (by omega)]
    rw [if_neg (show ¬ _ = (0 : Int32) from (show Bd _ by first | exact hb | (simp only [bd5]; exact hb)).2.2)]
    rw [bv_s, b_semi (by first | exact hb | (simp only [bd5]; exact hb))]
    exact ⟨_, rfl, by repeat' first | exact xf | refine XF.us ?_ (by omega)⟩
  rw [if_neg (by decide), n_addl]
  obtain ⟨b, amt, C6, S6, e1, e2, hh⟩ := st5.num (p1 := 24) (i := r * 5 + 2) (L := 1) (H := 40) hN ⟨by rw [ln_24]; omega, by rw [ln_24]; omega⟩ (by decide) (by omega)
  have e1 : f_X8_takeNumber N 24 (nI (r * 5 + 2)) 1 40 C5 = some (b, C6) := e1
  have e2 : f_X12_count N 1 40 S5 = some (nI amt, S6) := e2
  rw [show OfNat.ofNat 2 = 2 from rfl, e1, bi_s, e2, bi_s, bi_s]
  clear e1 e2
  rcases hh with ⟨rfl, ⟨amt1, amt40⟩, -, st6⟩ | ⟨rfl, rfl, fl⟩
  rotate_left
  · refine PRes.no (C' := C6) (by rw [if_pos b2i_f]; rfl) ?_
    have hb := fl.bd
    have xf := fl.xf (C0 := C0) (S0 := S0) (by repeat' first | exact xc | refine XC.u ?_ (by omega) | refine XC.ul ?_ (by omega)) (by repeat' first | exact xs | refine XS.u ?_ (by omega) | refine XS.ul ?_ (by omega) | refine XS.u2 ?_ (by omega))
    rw [n_addl, ck_n (by omega), bM_e, t_n (by omega)]
    rw [m_6, bi_s, b_perh (by first | exact hb | (simp only [bd5]; exact hb)), bi_s, if_pos b2i_f]
    unfold f_X12_readGate_b72
    rw [n_addl, ck_n (by omega), bM_e, t_n (by omega)]
    rw [m_7, bi_s, b_perh (by first | exact hb | (simp only [bd5]; exact hb)), bi_s, if_pos b2i_f]
    unfold f_X12_readGate_b105
    rw [m_8, bi_s, b_perh (by first | exact hb | (simp only [bd5]; exact hb)), bi_s, if_pos b2i_f]
    unfold f_X12_readGate_b135
    rw [n_addl, ck_n (by omega), bM_e, t_n (by omega)]
    rw [if_neg (show ¬ _ = (0 : Int32) from (show Bd _ by first | exact hb | (simp only [bd5]; exact hb)).2.2)]
    rw [bv_s, b_semi (by first | exact hb | (simp only [bd5]; exact hb))]
    exact ⟨_, rfl, by repeat' first | exact xf | refine XF.us ?_ (by omega)⟩
  rw [if_neg (by decide), n_addl, ck_n (by show 1751 + r + 12 < 2175 ∧ _; omega), bM_e, t_n (by show 1751 + r + 12 < _; omega), show OfNat.ofNat 12 = 12 from rfl]
  unfold f_X6_readGate_b101
  have st7 := st6.us (c := 205) (k := 1751 + r + 12) (x := nI amt) (by decide)
  rw [if_neg (by decide), m_6, bi_s]
  obtain ⟨b6, C7, S7, e1, e2, st8⟩ := st7.may (z := 6) hN (by decide) (by decide)
  rw [e1, bi_s, e2, bi_s]
  clear e1 e2
  have fin : ∀ ans, ans ≤ 1 → PRes n B (lo + 1) C0 S0 (f_X6_readGate_b131 N 23 (nI (r * 5)) (nI ans) (nI (r * 5) + 3) C7) (bv (f_X12_readGate_b72 N (nI (1751 + r)) (nI ans) (nI (1751 + r) + 18) S7) (mS N)) := fun ans hans => by
    refine (gate_mid (nc := nc) (col := col) (row := row) (amt := amt) (x := x) hN h st8 hk g (by rw [hk]; exact hnc) w ⟨hcol, hrow, amt40, hans⟩ ?_ (fun i hi => ?_) ?_ ?_ ?_ ?_ (fun j h1 h2 => ?_) ?_ (fun i => ?_) ?_ (by repeat' first | exact xc | refine XC.u ?_ (by omega) | refine XC.ul ?_ (by omega)) (fun i hi => ?_) (fun j => ?_) ?_ (by repeat' first | exact xs | refine XS.u ?_ (by omega) | refine XS.ul ?_ (by omega) | refine XS.u2 ?_ (by omega))).mono (by omega)
    · rw [u_ne (by decide), u_ne (by decide), u_ne (by decide), u_ne (by decide)]; rfl
    · rw [us_same, g_upd, if_neg (by omega), us_same, g_upd, if_neg (by omega), us_same, g_upd, if_neg (by omega), u_ne (by decide)]; rfl
    · rw [us_same, g_upd, if_neg (by omega), us_same, g_upd, if_neg (by omega), u_at]
    · rw [us_same, g_upd, if_neg (by omega), u_at]
    · exact u_at _ _ _ _
    · show (uL C 84 nc x).2 25 = _
      rw [l_ne (by decide)]
    · rw [u_ne (by omega), u_ne (by omega), u_ne (by omega), u_ne (by omega)]; rfl
    · rw [u_ne (by decide), u_ne (by decide), u_ne (by decide), u_at]
    · show (uL C 84 nc x).2 84 i = _
      rw [l_same, g_updL]
    · rw [u_ne (by decide), u_ne (by decide), u_ne (by decide), u_ne (by decide)]; rfl
    · exact bk_u (bk_u (bk_u (Z := uL S 208 (88 + 6 * 0 + r) x) bk (j := 11 + r) (y := col) (by omega)) (j := 17 + r) (y := row) (by omega)) (j := 23 + r) (y := amt) (by omega) i hi
    · show (uL S 208 (88 + 6 * 0 + r) x).2 208 j = _
      rw [l_same, g_updL]
    · rw [u_ne (by decide), u_ne (by decide), u_ne (by decide)]; rfl
  cases b6 with
  | false =>
    rw [if_pos b2i_f, if_pos b2i_f]
    exact fin 0 (by omega)
  | true =>
    rw [if_neg (by decide), if_neg (by decide)]
    exact fin 1 (by omega)
end Q8
