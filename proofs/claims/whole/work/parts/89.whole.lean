section Q10
variable {N n lo : Nat} {A Z A' Z' C S C0 S0 : Mem} {B : Nat → Nat} {v : Nat → Nat}
/-- the port's size -/
theorem p_size (hN : 1000 < N) (h : PI C0 S0 C S v) (st : St n B lo C S C S) (hq : C.1 82 2 = nI 1) : PRes n B (lo + 1) C0 S0 (f_X6_readSize N 23 C) (bv (f_X12_readPort N S) (mS N)) := by
  obtain ⟨⟨vv, y9, y163, yw, yf⟩, pc, bk, hg, nr, tl, xc, xs⟩ := id h
  have c0 : C.1 23 0 = nI (v 0) := by have := pc.1.1; rwa [dfl_ne (by omega)] at this
  have z0 : S.1 205 1740 = nI (v 0) := bk 0 (by omega)
  have v0 := vv.1.1
  unfold f_X6_readSize f_X12_readPort
  rw [c0, show (1740 : Int32) = nI 1740 from rfl, ck_n (by omega), t_n (by omega), z0]
  by_cases g : v 0 = 0
  rotate_left
  · obtain ⟨C1, S1, e1, e2, fl⟩ := st.bad (x := 5) hq (by omega) (by omega)
    have e1 : f_X8_refuse 5 C = some (false, C1) := e1
    have e2 : f_X12_fail 5 (S.1 200 15) S = some S1 := e2
    have hb := fl.bd
    rw [if_neg (show ¬ nI (v 0) = 0 by rw [show (0 : Int32) = nI 0 from rfl, n_eq (by omega)]; exact g), if_neg (show ¬ nI (v 0) ≤ 0 by rw [show (0 : Int32) = nI 0 from rfl, n_le (by omega)]; omega), e1, bi_s, e2, bv_s]
    refine PRes.no rfl ⟨S1, ?_, fl.xf xc xs⟩
    unfold f_X12_readPort_b20
    rw [if_neg hb.2.1, bv_s, b_semi hb]
  have hz : v 0 = 0 ∧ v 1 = 0 ∧ v 2 = 0 ∧ v 3 = 0 ∧ v 4 = 0 ∧ v 5 = 0 := by omega
  rw [g, if_pos (show nI 0 = 0 from rfl), if_pos (show nI 0 ≤ 0 by decide)]
  unfold f_X12_readPort_b20
  obtain ⟨C1, S1, e1, e2, st1⟩ := st.go hN (by rw [hq]; decide)
  rw [st.s12, if_pos (by decide), e1, bv_s, e2, bv_s]
  clear e1 e2
  obtain ⟨b, x, C2, S2, e1, e2, hh⟩ := st1.num (p1 := 86) (i := 0) (L := 1) (H := 6) hN ⟨by rw [ln_86]; omega, by rw [ln_86]; omega⟩ (by decide) (by omega)
  have e1 : f_X8_takeNumber N 86 0 1 6 C1 = some (b, C2) := e1
  have e2 : f_X12_count N 1 6 S1 = some (nI x, S2) := e2
  rw [e1, bi_s, e2, bi_s, m_1, bi_s]
  clear e1 e2
  rcases hh with ⟨rfl, ⟨x1, x2⟩, -, st2⟩ | ⟨rfl, rfl, fl⟩
  rotate_left
  · refine PRes.no (C' := C2) (by rw [if_pos b2i_f]; rfl) ⟨S2, ?_, fl.xf xc xs⟩
    have hb := fl.bd
    rw [b_must hb, bv_s, b_cnt hb, bi_s, if_neg hb.2.1, bv_s, b_semi hb]
  rw [if_neg (by decide)]
  obtain ⟨b, C3, S3, e1, e2, hh⟩ := st2.word (z := 1) hN (by decide) (by decide)
  rw [e1, bi_s, e2, bv_s]
  clear e1 e2
  rcases hh with ⟨rfl, st3⟩ | ⟨rfl, fl⟩
  rotate_left
  · refine PRes.no (C' := C3) (by rw [if_pos b2i_f]; rfl) ⟨S3, ?_, fl.xf (by repeat' first | exact xc | refine XC.u ?_ (by omega) | refine XC.ul ?_ (by omega)) xs⟩
    have hb := fl.bd
    rw [b_cnt hb, bi_s, if_neg hb.2.1, bv_s, b_semi hb]
  rw [if_neg (by decide)]
  obtain ⟨b, y, C4, S4, e1, e2, hh⟩ := st3.num (p1 := 86) (i := 1) (L := 1) (H := 5) hN ⟨by rw [ln_86]; omega, by rw [ln_86]; omega⟩ (by decide) (by omega)
  have e1 : f_X8_takeNumber N 86 1 1 5 C3 = some (b, C4) := e1
  have e2 : f_X12_count N 1 5 S3 = some (nI y, S4) := e2
  rw [e1, bi_s, e2, bi_s]
  clear e1 e2
  rcases hh with ⟨rfl, ⟨y1, y2⟩, -, st4⟩ | ⟨rfl, rfl, fl⟩
  rotate_left
  · refine PRes.no (C' := C4) (by rw [if_pos b2i_f]; rfl) ⟨S4, ?_, fl.xf (by repeat' first | exact xc | refine XC.u ?_ (by omega) | refine XC.ul ?_ (by omega)) xs⟩
    have hb := fl.bd
    rw [if_neg hb.2.1, bv_s, b_semi hb]
  rw [if_neg (by decide), st4.s12, if_pos (by decide), show (1740 : Int32) = nI 1740 from rfl, ck_n (by omega), bM_e, t_n (by omega), show (1741 : Int32) = nI 1741 from rfl, ck_n (by omega), bM_e, t_n (by omega), bv_s]
  unfold f_X6_readSize_b75
  have g0 : C4.1 86 0 = nI x := by rw [st4.c (by decide), us_same, g_upd, if_neg (by decide), u_at]
  have g1 : (uI C4 23 0 (nI x)).1 86 1 = nI y := by rw [u_ne (by decide), st4.c (by decide), u_at]
  rw [if_neg (by decide), ck_0 (by decide), bM_e, show tn 0 = 0 from rfl, g0, show (1 : Int32) = nI 1 from rfl, ck_n (by decide), bM_e, show tn (nI 1) = 1 from rfl, g1]
  have st5 := (((st4.uc (c := 23) (k := 0) (x := nI x) (by decide)).uc (c := 23) (k := 1) (x := nI y) (by decide)).us (c := 205) (k := 1740) (x := nI x) (by decide)).us (c := 205) (k := 1741) (x := nI y) (by decide)
  have ne : ∀ i, i ≠ 0 → i ≠ 1 → pt (pt v 0 x) 1 y i = v i := fun i h0 h1 => by rw [pt_ne h1, pt_ne h0]
  have e0 : pt (pt v 0 x) 1 y 0 = x := by rw [pt_ne (by decide), pt_at]
  have e1 : pt (pt v 0 x) 1 y 1 = y := pt_at _ _ _
  have n2 := ne 2 (by decide) (by decide)
  have n3 := ne 3 (by decide) (by decide)
  have n4 := ne 4 (by decide) (by decide)
  have n5 := ne 5 (by decide) (by decide)
  have n6 := ne 6 (by decide) (by decide)
  have n7 := ne 7 (by decide) (by decide)
  have n8 := ne 8 (by decide) (by decide)
  have n9 := ne 9 (by decide) (by decide)
  have n10 := ne 10 (by decide) (by decide)
  have n163 := ne 163 (by decide) (by decide)
  have bk' : ∀ i, i < 435 → (uI (uI S 205 1740 (nI x)) 205 1741 (nI y)).1 205 (1740 + i) = nI (pt (pt v 0 x) 1 y i) := bk_u (bk_u bk (j := 0) (y := x) (by omega)) (j := 1) (y := y) (by omega)
  obtain ⟨⟨-, -, -, b6, b7, -⟩, -, -, -, b8, b10, -, -, -, -, bf, -⟩ := vv
  obtain ⟨⟨-, -, p2, p3, p7, -⟩, p4, p5, p6, p8, p9, p10, -, -, -, -, pf, ⟨-, pn, -⟩⟩ := pc
  obtain ⟨nr1, nr2, nr3⟩ := nr
  obtain ⟨t, t1, t2, t3⟩ := tl
  have pi : PI C0 S0 (uI (uI (uI (uI C 86 0 (nI x)) 86 1 (nI y)) 23 0 (nI x)) 23 1 (nI y)) (uI (uI S 205 1740 (nI x)) 205 1741 (nI y)) (pt (pt v 0 x) 1 y) := by
    have dne : ∀ i, i ≠ 0 → i ≠ 1 → dfl (pt (pt v 0 x) 1 y) i = dfl v i := fun i h0 h1 => by unfold dfl; rw [ne i h0 h1]
    refine ⟨⟨⟨⟨by omega, by omega, by omega, by omega, by omega, fun g hg => by omega⟩, by omega, by omega, by omega, by omega, by rw [n10, n2]; exact b10, fun g hg => by omega, fun g hg => by omega, fun g hg => by omega, fun g hg => by omega, fun k hk => by rw [ne _ (by omega) (by omega)]; exact bf k hk, fun b hb1 hb2 => ?_⟩, by omega, by omega, Or.inr (by omega), fun k hk => by rw [ne _ (by omega) (by omega)]; exact yf k hk⟩, ⟨⟨?_, ?_, ?_, ?_, ?_, fun g hg => ?_⟩, ?_, ?_, ?_, ?_, ?_, ?_, fun g hg => ?_, fun g hg => ?_, fun g hg => ?_, fun g hg => ?_, fun k hk => ?_, ?_⟩, bk', fun g hg => by omega, ⟨?_, fun s hs => ?_, fun y => ?_⟩, ⟨t, t1, ?_, fun w hw => ?_⟩, (by repeat' first | exact xc | refine XC.u ?_ (by omega) | refine XC.ul ?_ (by omega)), (by repeat' first | exact xs | refine XS.u ?_ (by omega) | refine XS.ul ?_ (by omega) | refine XS.u2 ?_ (by omega))⟩
    · rw [ne _ (by omega) (by omega), ne _ (by omega) (by omega)]
      have := yf b (by omega)
      have := yf (30 + b) (by omega)
      rw [show 103 + (30 + b) = 133 + b by omega] at this
      omega
    · rw [us_same, g_upd, if_neg (by decide), u_at, dfl_ne (by omega), e0]
    · rw [u_at, dfl_ne (by omega), e1]
    · rw [us_same, g_upd, if_neg (by decide), us_same, g_upd, if_neg (by decide), u_ne (by decide), u_ne (by decide), dne 6 (by decide) (by decide)]; exact p2
    · rw [us_same, g_upd, if_neg (by decide), us_same, g_upd, if_neg (by decide), u_ne (by decide), u_ne (by decide), dne 7 (by decide) (by decide)]; exact p3
    · rw [us_same, g_upd, if_neg (by decide), us_same, g_upd, if_neg (by decide), u_ne (by decide), u_ne (by decide), dne 2 (by decide) (by decide)]; exact p7
    · rw [dfl_ne (by omega)] at hg; omega
    · rw [us_same, g_upd, if_neg (by decide), us_same, g_upd, if_neg (by decide), u_ne (by decide), u_ne (by decide), dne 8 (by decide) (by decide)]; exact p4
    · rw [us_same, g_upd, if_neg (by decide), us_same, g_upd, if_neg (by decide), u_ne (by decide), u_ne (by decide), dne 9 (by decide) (by decide)]; exact p5
    · rw [us_same, g_upd, if_neg (by decide), us_same, g_upd, if_neg (by decide), u_ne (by decide), u_ne (by decide), dne 10 (by decide) (by decide)]; exact p6
    · rw [us_same, g_upd, if_neg (by decide), us_same, g_upd, if_neg (by decide), u_ne (by decide), u_ne (by decide), dne 3 (by decide) (by decide)]; exact p8
    · rw [us_same, g_upd, if_neg (by decide), us_same, g_upd, if_neg (by decide), u_ne (by decide), u_ne (by decide), dne 4 (by decide) (by decide)]; exact p9
    · rw [us_same, g_upd, if_neg (by decide), us_same, g_upd, if_neg (by decide), u_ne (by decide), u_ne (by decide), dne 5 (by decide) (by decide)]; exact p10
    · rw [dfl_ne (by omega)] at hg; omega
    · rw [dfl_ne (by omega)] at hg; omega
    · rw [dfl_ne (by omega)] at hg; omega
    · rw [dfl_ne (by omega)] at hg; omega
    · rw [u_ne (by decide), u_ne (by decide), u_ne (by decide), u_ne (by decide)]
      show _ = nI (dfl _ (103 + k))
      rw [dne _ (by omega) (by omega)]; exact pf k hk
    · have e : dfl (pt (pt v 0 x) 1 y) 163 = 0 := by rw [dfl_ne (by omega), n163, y163]
      refine ⟨by omega, ?_, fun z => by omega⟩
      rw [u_ne (by decide), u_ne (by decide), u_ne (by decide), u_ne (by decide), e]
      rw [dfl_ne (by omega), y163] at pn
      exact pn
    · rw [u_ne (by decide), u_ne (by decide), u_ne (by decide), u_ne (by decide), n2, n3, n4, n5]; exact nr1
    · have := bk' (2 + s) (by omega)
      rw [show 1740 + (2 + s) = 1742 + s by omega] at this
      exact this
    · rw [n2, n3, n4, n5]
      constructor
      · intro q
        obtain ⟨s, k, h1, h2, h3⟩ := (nr3 y).mp q
        exact ⟨s, k, h1, by rw [ne _ (by omega) (by omega)]; exact h2, h3⟩
      · rintro ⟨s, k, h1, h2, h3⟩
        exact (nr3 y).mpr ⟨s, k, h1, by rw [ne _ (by omega) (by omega)] at h2; exact h2, h3⟩
    · rw [u_ne (by decide), u_ne (by decide)]; exact t2
    · rw [u_ne (by decide), u_ne (by decide), u_ne (by decide), u_ne (by decide), ne _ (by omega) (by omega)]; exact t3 w hw
  obtain ⟨b, C', S', e1, e2, e3⟩ := (PRes.end (C0 := C0) (S0 := S0) hN st5 pi).mono (lo' := lo + 1) (by omega)
  exact ⟨b, C', S', by rw [e1, bi_s], e2, e3⟩
/-- wind, thins, foggy -/
theorem p_set {w L H : Nat} (hN : 1000 < N) (h : PI C0 S0 C S v) (st : St n B lo C S C S) (hq : C.1 82 2 = nI 1) (hw : w < 3) (hH : L ≤ H ∧ H ≤ 99 ∧ (w = 0 → H ≤ 4) ∧ (w = 1 → H ≤ 9)) : PRes n B (lo + 1) C0 S0 (f_X6_readSetting N (nI w) (nI L) (nI H) C) (bv (f_X12_readOnce N (nI w) (nI (6 + w)) (nI L) (nI H) S) (mS N)) := by
  obtain ⟨⟨vv, y9, y163, yw, yf⟩, pc, bk, hg, nr, ⟨t, t1, t2, t3⟩, xc, xs⟩ := id h
  unfold f_X6_readSetting f_X12_readOnce f_X12_has
  rw [ck_n (by omega), t_n (by omega), t2]
  rcases t3 w hw with ⟨ta, tb⟩ | ⟨ta, tb, tc⟩
  · obtain ⟨C1, S1, e1, e2, fl⟩ := st.bad (x := 5) hq (by omega) (by omega)
    have e1 : f_X8_refuse 5 C = some (false, C1) := e1
    have e2 : f_X12_fail 5 (S.1 200 15) S = some S1 := e2
    have hb := fl.bd
    have hv : v (6 + w) ≤ 99 := by
      obtain rfl | rfl | rfl : w = 0 ∨ w = 1 ∨ w = 2 := by omega
      · have := vv.1.2.2.2.1; show v 6 ≤ 99; omega
      · have := vv.1.2.2.2.2.1; show v 7 ≤ 99; omega
      · have := vv.2.2.2.2.1; show v 8 ≤ 99; omega
    rw [tb, if_neg (show ¬ nI (v (6 + w)) = -1 by rw [n_m1l (by omega)]; exact id), e1, bi_s, if_pos (show nI t >>> (nI w &&& 31) &&& 1 = 1 by rw [n_bit (by omega)]; exact ta), bi_s, if_neg (by decide), e2, bv_s]
    refine PRes.no rfl ⟨S1, ?_, fl.xf xc xs⟩
    unfold f_X12_readOnce_b20
    rw [if_neg hb.2.1, bv_s, b_semi hb]
  · rw [if_neg (show ¬ nI t >>> (nI w &&& 31) &&& 1 = 1 by rw [n_bit (by omega), ta]; decide), bi_s, if_pos b2i_f, tb, if_pos rfl]
    unfold f_X12_readOnce_b20
    rw [st.s12, if_pos (by decide), bM_e, t2, n_shl1 (by omega), fa_or]
    have st1 := st.u200 (k := 25) (x := nI (t ||| 2 ^ w)) (by decide)
    obtain ⟨C2, S2, e1, e2, st2⟩ := st1.go hN (by rw [hq]; decide)
    rw [e1, bv_s, e2, bv_s]
    clear e1 e2
    obtain ⟨b, y, C3, S3, e1, e2, hh⟩ := st2.num (p1 := 85) (i := w) (L := L) (H := H) hN ⟨by rw [ln_85]; omega, by rw [ln_85]; omega⟩ (by decide) (by omega)
    rw [e1, bi_s, e2, bi_s, n_ladd, ck_n (by show 1740 + (6 + w) < 2175 ∧ _; omega), bM_e, t_n (by show 1740 + (6 + w) < _; omega), bv_s]
    clear e1 e2
    have xs' : XS S0 (uI S 200 25 (nI (t ||| 2 ^ w))) := xs.u2 (by omega)
    rcases hh with ⟨rfl, ⟨y1, y2⟩, -, st3⟩ | ⟨rfl, rfl, fl⟩
    rotate_left
    · refine PRes.no (C' := C3) (by rw [if_pos b2i_f]) ⟨_, ?_, (fl.xf xc xs').us (k := 1740 + (6 + w)) (x := nI 0) (by omega)⟩
      have hb := fl.bd
      rw [show (OfNat.ofNat 1740 : Nat) = 1740 from rfl, b_semi (by rw [bd5]; exact hb)]
    rw [if_neg (by decide)]
    have st4 := st3.us (c := 205) (k := 1740 + (6 + w)) (x := nI y) (by decide)
    have ne : ∀ i, i ≠ 6 + w → pt v (6 + w) y i = v i := fun i h0 => by rw [pt_ne h0]
    have ea : pt v (6 + w) y (6 + w) = y := pt_at _ _ _
    have dn : dfl (pt v (6 + w) y) = dfl v := by
      funext i
      unfold dfl
      by_cases g6 : i = 6
      · rw [if_pos g6, if_pos g6]
      · by_cases g7 : i = 7
        · rw [if_neg g6, if_pos g7, if_neg g6, if_pos g7]
        · by_cases g8 : i = 8
          · rw [if_neg g6, if_neg g7, if_pos g8, if_neg g6, if_neg g7, if_pos g8]
          · rw [if_neg g6, if_neg g7, if_neg g8, if_neg g6, if_neg g7, if_neg g8, ne i (by omega)]
    have bk' : ∀ i, i < 435 → (uI (uI S 200 25 (nI (t ||| 2 ^ w))) 205 (1740 + (6 + w)) (nI y)).1 205 (1740 + i) = nI (pt v (6 + w) y i) := bk_u (bk_0 bk (u_ne (by decide))) rfl
    have n0 := ne 0 (by omega)
    have n1 := ne 1 (by omega)
    have n2 := ne 2 (by omega)
    have n3 := ne 3 (by omega)
    have n4 := ne 4 (by omega)
    have n5 := ne 5 (by omega)
    have n9 := ne 9 (by omega)
    have n10 := ne 10 (by omega)
    have n163 := ne 163 (by omega)
    have n678 : pt v (6 + w) y 6 ≤ 4 ∧ pt v (6 + w) y 7 ≤ 9 ∧ pt v (6 + w) y 8 ≤ 99 := by
      have a6 := vv.1.2.2.2.1
      have a7 := vv.1.2.2.2.2.1
      have a8 := vv.2.2.2.2.1
      obtain rfl | rfl | rfl : w = 0 ∨ w = 1 ∨ w = 2 := by omega
      · rw [ne 7 (by omega), ne 8 (by omega), show pt v (6 + 0) y 6 = y from pt_at _ _ _]; omega
      · rw [ne 6 (by omega), ne 8 (by omega), show pt v (6 + 1) y 7 = y from pt_at _ _ _]; omega
      · rw [ne 6 (by omega), ne 7 (by omega), show pt v (6 + 2) y 8 = y from pt_at _ _ _]; omega
    obtain ⟨⟨b0, b1, b2, b6, b7, bg⟩, b3, b4, b5, b8, b10, bq, bh, bt, bs, bf, bb⟩ := vv
    have N1 : ∀ i, 10 ≤ i → pt v (6 + w) y i = v i := fun i hi => ne i (by omega)
    obtain ⟨nr1, nr2, nr3⟩ := nr
    have pi : PI C0 S0 (uI C 85 w (nI y)) (uI (uI S 200 25 (nI (t ||| 2 ^ w))) 205 (1740 + (6 + w)) (nI y)) (pt v (6 + w) y) := by
      refine ⟨⟨⟨⟨by omega, by omega, by omega, by omega, by omega, fun g hg => ?_⟩, by omega, by omega, by omega, by omega, by rw [n10, n2]; exact b10, fun g hg => ?_, fun g hg => ?_, fun g hg => ?_, fun g hg => ?_, fun k hk => by rw [N1 _ (by omega)]; exact bf k hk, fun b hb1 hb2 => ?_⟩, by omega, by omega, by omega, fun k hk => by rw [N1 _ (by omega)]; exact yf k hk⟩, ?_, bk', fun g hg' => ?_, ⟨?_, fun s hs => ?_, fun y => ?_⟩, ⟨t ||| 2 ^ w, ?_, ?_, fun u hu => ?_⟩, (by repeat' first | exact xc | refine XC.u ?_ (by omega) | refine XC.ul ?_ (by omega)), xs'.u (by omega)⟩
      · rw [n0, n1, N1 _ (by omega), N1 _ (by omega), N1 _ (by omega), N1 _ (by omega)]; exact bg g (by omega)
      · rw [N1 _ (by omega)]; exact bq g (by omega)
      · rw [N1 _ (by omega)]; exact bh g (by omega)
      · rw [n0, n1, N1 _ (by omega), N1 _ (by omega), N1 _ (by omega), N1 _ (by omega), N1 _ (by omega), N1 _ (by omega)]; exact bt g (by omega)
      · rw [n0, n1, N1 _ (by omega), N1 _ (by omega), N1 _ (by omega), N1 _ (by omega), N1 _ (by omega)]; exact bs g (by omega)
      · rw [n0, n1] at hb1
        rw [N1 _ (by omega), N1 _ (by omega)]; exact bb b hb1 hb2
      · rw [dn]; exact pc.same fun j hj => u_ne (by omega)
      · exact hg g (by omega)
      · rw [u_ne (by decide), n2, n3, n4, n5]; exact nr1
      · have := bk' (2 + s) (by omega)
        rw [show 1740 + (2 + s) = 1742 + s by omega] at this
        exact this
      · rw [n2, n3, n4, n5]
        constructor
        · intro q
          obtain ⟨s, k, h1, h2, h3⟩ := (nr3 y).mp q
          exact ⟨s, k, h1, by rw [ne _ (by omega)]; exact h2, h3⟩
        · rintro ⟨s, k, h1, h2, h3⟩
          exact (nr3 y).mpr ⟨s, k, h1, by rw [ne _ (by omega)] at h2; exact h2, h3⟩
      · have : 2 ^ w < 2 ^ 3 := Nat.pow_lt_pow_right (by decide) hw
        exact Nat.or_lt_two_pow (n := 3) t1 this
      · rw [u_ne (by decide), u_at]
      · by_cases q : u = w
        · subst q
          refine Or.inl ⟨?_, ?_⟩
          · rw [fb_bit_set]; simp
          · rw [u_at, ea]
        · have e : (t ||| 2 ^ w).testBit u = t.testBit u := by rw [fb_bit_set]; simp [q]
          rw [e, us_same, g_upd, if_neg q, ne _ (by omega)]
          exact t3 u hu
    obtain ⟨b, C', S', e1, e2, e3⟩ := (PRes.end (C0 := C0) (S0 := S0) hN st4 pi).mono (lo' := lo + 1) (by omega)
    refine ⟨b, C', S', ?_, e2, e3⟩
    rw [e1, bi_s]
    cases b <;> rfl
end Q10
