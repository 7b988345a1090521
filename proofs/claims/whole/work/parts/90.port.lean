section Q11
variable {N n lo : Nat} {A Z A' Z' C S C0 S0 : Mem} {B : Nat → Nat} {v : Nat → Nat}
/-- what is there is not wanted -/
theorem p_no (h : PI C0 S0 C S v) (st : St n B lo C S C S) : PRes n B (lo + 1) C0 S0 (bi (f_X8_refuse 2 C) fun r M => some (r, M)) (bv (bv (f_X12_amiss S) fun M => some M) (mS N)) := by
  obtain ⟨C1, S1, e1, e2, fl⟩ := st.no
  rw [e1, bi_s, e2, bv_s, bv_s]
  exact PRes.no rfl ⟨S1, b_semi fl.bd, fl.xf h.2.2.2.2.2.2.1 h.2.2.2.2.2.2.2⟩
theorem bi_id (o : Option (Bool × Mem)) : (bi o fun r M => some (r, M)) = o := by
  cases o with
  | none => rfl
  | some q => rfl
theorem bv_id (o : Option Mem) : (bv o fun M => some M) = o := by
  cases o with
  | none => rfl
  | some q => rfl
theorem p_part (hN : 1000 < N) (h : PI C0 S0 C S v) (st : St n B lo C S C S) : PRes n B (lo + 1) C0 S0 (f_X6_readPart N 23 C) (bv (f_X12_readPart N S) (mS N)) := by
  have c0 : C.1 23 0 = nI (v 0) := by have := h.2.1.1.1; rwa [dfl_ne (by omega)] at this
  have z0 : S.1 205 1740 = nI (v 0) := h.2.2.1 0 (by omega)
  have v0 := h.1.1.1.1
  have cw : ∀ z, z < 32 → z ≠ 3 → f_X8_isWord N z C = some (qW z S, C) := fun z hz h3 => c_word hN hz (wG_at hz h3) st.tx st.tk
  have no := p_no (N := N) h st
  unfold f_X6_readPart f_X12_readPart
  rw [cw 0 (by decide) (by decide), bi_s, m_0, bi_s]
  cases q0 : qW 0 S with
  | true =>
    rw [if_neg (by decide), if_neg (by decide), bi_id, bv_id]
    exact p_size hN h st (st.q1 q0)
  | false =>
    rw [if_pos b2i_f, if_pos b2i_f, c0, show (1740 : Int32) = nI 1740 from rfl, ck_n (by omega), t_n (by omega), z0]
    by_cases g : v 0 = 0
    · rw [g, if_pos (show nI 0 = 0 from rfl), if_pos (show nI 0 = 0 from rfl)]
      exact no
    · have w : 1 ≤ v 0 ∧ 1 ≤ v 1 := by
        rcases h.1.2.2.2.1 with q | q
        · exact absurd q.1 g
        · exact q
      have gn : ¬ nI (v 0) = 0 := by rw [show (0 : Int32) = nI 0 from rfl, n_eq (by omega)]; exact g
      rw [if_neg gn, if_neg gn, cw 2 (by decide) (by decide), bi_s, m_2, bi_s]
      cases q2 : qW 2 S with
      | true =>
        rw [if_neg (by decide), if_neg (by decide), bi_id, bv_id]
        exact p_gate hN h st (st.q1 q2) w
      | false =>
        rw [if_pos b2i_f, if_pos b2i_f, cw 9 (by decide) (by decide), bi_s, m_9, bi_s]
        cases q9 : qW 9 S with
        | true =>
          rw [if_neg (by decide), if_neg (by decide), bi_id, bv_id]
          exact p_holder hN h st (st.q1 q9) w
        | false =>
          rw [if_pos b2i_f, if_pos b2i_f, cw 11 (by decide) (by decide), bi_s, m_11, bi_s]
          cases q11 : qW 11 S with
          | true =>
            rw [if_neg (by decide), if_neg (by decide), bi_id, bv_id]
            exact p_trade hN h st (st.q1 q11) w
          | false =>
            rw [if_pos b2i_f, if_pos b2i_f, cw 16 (by decide) (by decide), bi_s, m_16, bi_s]
            cases q16 : qW 16 S with
            | true =>
              rw [if_neg (by decide), if_neg (by decide), bi_id, bv_id]
              exact p_ship hN h st (st.q1 q16) w
            | false =>
              rw [if_pos b2i_f, if_pos b2i_f, cw 18 (by decide) (by decide), bi_s, m_18, bi_s]
              cases q18 : qW 18 S with
              | true =>
                rw [if_neg (by decide), if_neg (by decide), bi_id, bv_id]
                exact p_set (w := 0) (L := 0) (H := 4) hN h st (st.q1 q18) (by omega) (by omega)
              | false =>
                rw [if_pos b2i_f, if_pos b2i_f, cw 19 (by decide) (by decide), bi_s, m_19, bi_s]
                cases q19 : qW 19 S with
                | true =>
                  rw [if_neg (by decide), if_neg (by decide), bi_id, bv_id]
                  exact p_set (w := 1) (L := 0) (H := 9) hN h st (st.q1 q19) (by omega) (by omega)
                | false =>
                  rw [if_pos b2i_f, if_pos b2i_f, cw 20 (by decide) (by decide), bi_s, m_20, bi_s]
                  cases q20 : qW 20 S with
                  | true =>
                    rw [if_neg (by decide), if_neg (by decide), bi_id, bv_id]
                    exact p_set (w := 2) (L := 1) (H := 99) hN h st (st.q1 q20) (by omega) (by omega)
                  | false =>
                    rw [if_pos b2i_f, if_pos b2i_f]
                    exact no
/-- wind, thins and foggy at the end -/
theorem b56_is (M : Mem) : ∃ x y z, (x = if M.1 85 0 = -1 then 0 else M.1 85 0) ∧ (y = if M.1 85 1 = -1 then 1 else M.1 85 1) ∧ (z = if M.1 85 2 = -1 then 10 else M.1 85 2) ∧ f_X6_fill_b56 N 23 M = if M.1 82 6 = 0 then some (true, uI (uI (uI M 23 2 x) 23 3 y) 23 4 z) else some (false, uI (uI (uI M 23 2 x) 23 3 y) 23 4 z) := by
  refine ⟨_, _, _, rfl, rfl, rfl, ?_⟩
  have last : ∀ M s, f_X6_fill_b126 N 23 s M = if M.1 82 6 = 0 then some (true, uI M 23 4 s) else some (false, uI M 23 4 s) := fun M s => rfl
  have mid : ∀ M s, f_X6_fill_b101 N 23 s M = f_X6_fill_b126 N 23 (if M.1 85 2 = -1 then 10 else M.1 85 2) (uI M 23 3 s) := fun M s => by
    unfold f_X6_fill_b101
    rw [bM_e, show (2 : Int32) = nI 2 from rfl, ck_n (by omega), ck_n (by omega), t_n (by omega), u_ne (by decide)]
    by_cases g : M.1 85 2 = -1
    · rw [if_pos g, if_pos g]
    · rw [if_neg g, if_neg g]
  have fst : ∀ M s, f_X6_fill_b77 N 23 s M = f_X6_fill_b101 N 23 (if M.1 85 1 = -1 then 1 else M.1 85 1) (uI M 23 2 s) := fun M s => by
    unfold f_X6_fill_b77
    rw [bM_e, show ck 1 3 = ck (β := Bool × Mem) (nI 1) 3 from rfl, ck_n (by omega), ck_n (by omega), show tn 1 = 1 from rfl, u_ne (by decide)]
    by_cases g : M.1 85 1 = -1
    · rw [if_pos g, if_pos g]
    · rw [if_neg g, if_neg g]
  have zer : f_X6_fill_b56 N 23 M = f_X6_fill_b77 N 23 (if M.1 85 0 = -1 then 0 else M.1 85 0) M := by
    unfold f_X6_fill_b56
    rw [ck_0 (by decide), ck_0 (by decide), show tn 0 = 0 from rfl]
    by_cases g : M.1 85 0 = -1
    · rw [if_pos g, if_pos g]
    · rw [if_neg g, if_neg g]
  rw [zer, fst, mid, last, u_ne (by decide), u_ne (by decide), u_ne (by decide)]
/-- the port is read -/
def Pok (n : Nat) (C0 S0 C S : Mem) : Prop := ∃ v, VV v ∧ v 9 = 0 ∧ v 163 = 0 ∧ PC C 23 v ∧ (∀ k, k < 435 → S.1 205 (1740 + k) = nI (v k)) ∧ (∀ g, g < v 2 → C.2 25 g = S.2 208 (88 + g)) ∧ XC C0 C ∧ XS S0 S ∧ C.1 82 6 = 0 ∧ C.1 82 7 = -1 ∧ S.1 200 12 = 0
def PEnd (N n : Nat) (C0 S0 : Mem) (o : Option (Bool × Mem)) (o' : Option (Int32 × Mem)) : Prop := ∃ b C' S', o = some (b, C') ∧ o' = f_X12_port_b104 N S' ∧ ((b = true ∧ Pok n C0 S0 C' S') ∨ (b = false ∧ XF n C0 S0 C' S'))
theorem p_end1 (h : PI C0 S0 C S v) (st : St n B lo C S C S) : PEnd N n C0 S0 (f_X6_fill_b56 N 23 C) (f_X12_port_b104 N S) := by
  obtain ⟨⟨vv, y9, y163, yw, yf⟩, pc, bk, hg, nr, ⟨t, t1, t2, t3⟩, xc, xs⟩ := id h
  obtain ⟨x, y, z, hx, hy, hz, e⟩ := b56_is (N := N) C
  have v6 := vv.1.2.2.2.1
  have v7 := vv.1.2.2.2.2.1
  have v8 := vv.2.2.2.2.1
  have hx : x = nI (v 6) := by
    rw [hx]
    rcases t3 0 (by omega) with ⟨-, q⟩ | ⟨-, q, q2⟩
    · rw [q, if_neg (show ¬ nI (v (6 + 0)) = -1 by rw [n_m1l (show v 6 < 2147483648 by omega)]; exact id)]
    · rw [if_pos q, show v 6 = 0 from q2]; rfl
  have hy : y = nI (v 7) := by
    rw [hy]
    rcases t3 1 (by omega) with ⟨-, q⟩ | ⟨-, q, q2⟩
    · rw [q, if_neg (show ¬ nI (v (6 + 1)) = -1 by rw [n_m1l (show v 7 < 2147483648 by omega)]; exact id)]
    · rw [if_pos q, show v 7 = 1 from q2]; rfl
  have hz : z = nI (v 8) := by
    rw [hz]
    rcases t3 2 (by omega) with ⟨-, q⟩ | ⟨-, q, q2⟩
    · rw [q, if_neg (show ¬ nI (v (6 + 2)) = -1 by rw [n_m1l (show v 8 < 2147483648 by omega)]; exact id)]
    · rw [if_pos q, show v 8 = 10 from q2]; rfl
  subst hx hy hz
  rw [st.c6, if_pos rfl] at e
  refine ⟨true, _, S, e, rfl, Or.inl ⟨rfl, v, vv, y9, y163, ?_, bk, hg, (by repeat' first | exact xc | refine XC.u ?_ (by omega) | refine XC.ul ?_ (by omega)), xs, ?_, ?_, st.s12⟩⟩
  · have d : ∀ i, (i ≠ 6 ∧ i ≠ 7 ∧ i ≠ 8) → dfl v i = v i := fun i hi => dfl_ne hi
    obtain ⟨⟨c0, c1, -, -, c7, cg⟩, -, c5, c6, c8, c9, c10, cq, ch, ct, cs, cf, cn⟩ := pc
    have f : ∀ j, (j ≠ 2 ∧ j ≠ 3 ∧ j ≠ 4) → (uI (uI (uI C 23 2 (nI (v 6))) 23 3 (nI (v 7))) 23 4 (nI (v 8))).1 23 j = C.1 23 j := fun j hj => by rw [us_same, g_upd, if_neg (by omega), us_same, g_upd, if_neg (by omega), us_same, g_upd, if_neg (by omega)]
    have o : ∀ c, c ≠ 23 → (uI (uI (uI C 23 2 (nI (v 6))) 23 3 (nI (v 7))) 23 4 (nI (v 8))).1 c = C.1 c := fun c hc => by rw [u_ne hc, u_ne hc, u_ne hc]
    rw [d 2 (by omega)] at cg cq
    rw [d 3 (by omega)] at ch
    rw [d 4 (by omega)] at ct
    rw [d 5 (by omega)] at cs
    refine ⟨⟨?_, ?_, ?_, ?_, ?_, fun g hg => ?_⟩, ?_, ?_, ?_, ?_, ?_, ?_, fun g hg => ?_, fun g hg => ?_, fun g hg => ?_, fun g hg => ?_, fun k hk => ?_, ?_⟩
    · rw [f 0 (by omega), c0, d 0 (by omega)]
    · rw [f 1 (by omega), c1, d 1 (by omega)]
    · rw [us_same, g_upd, if_neg (by omega), us_same, g_upd, if_neg (by omega), u_at]
    · rw [us_same, g_upd, if_neg (by omega), u_at]
    · rw [f 7 (by omega), c7, d 2 (by omega)]
    · have := cg g hg
      rw [d _ (by omega), d _ (by omega), d _ (by omega), d _ (by omega)] at this
      rw [o _ (by omega)]; exact this
    · exact u_at _ _ _ _
    · rw [f 5 (by omega), c5, d 9 (by omega)]
    · rw [f 6 (by omega), c6, d 10 (by omega)]
    · rw [f 8 (by omega), c8, d 3 (by omega)]
    · rw [f 9 (by omega), c9, d 4 (by omega)]
    · rw [f 10 (by omega), c10, d 5 (by omega)]
    · have := cq g hg
      rw [d _ (by omega)] at this
      rw [o _ (by omega)]; exact this
    · have := ch g hg
      rw [d _ (by omega)] at this
      rw [o _ (by omega)]; exact this
    · have := ct g hg
      rw [d _ (by omega), d _ (by omega), d _ (by omega), d _ (by omega), d _ (by omega), d _ (by omega)] at this
      rw [o _ (by omega)]; exact this
    · have := cs g hg
      rw [d _ (by omega), d _ (by omega), d _ (by omega), d _ (by omega), d _ (by omega)] at this
      rw [o _ (by omega)]; exact this
    · have := cf k hk
      rw [o _ (by omega), this]
      show nI (dfl v (103 + k)) = _
      rw [d _ (by omega)]
    · have := cn.2.1
      rw [d _ (by omega)] at this
      exact ⟨by omega, by rw [o _ (by omega)]; exact this, fun q => by omega⟩
  · rw [u_ne (by decide), u_ne (by decide), u_ne (by decide)]; exact st.c6
  · rw [u_ne (by decide), u_ne (by decide), u_ne (by decide)]; exact st.2.2.2.2.2.2.2.1
theorem p_end2 (h : XF n C0 S0 C S) (hn : n ≤ 900) : PEnd N n C0 S0 (f_X6_fill_b56 N 23 C) (f_X12_port_b104 N S) := by
  obtain ⟨x, y, z, -, -, -, e⟩ := b56_is (N := N) C
  obtain ⟨⟨f, a, f1, f2, f3, f4, f5, f6, f7⟩, xc, xs⟩ := h
  rw [f4, if_neg (show ¬ nI f = 0 by rw [show (0 : Int32) = nI 0 from rfl, n_eq (by omega)]; omega)] at e
  have o : ∀ c, c ≠ 23 → (uI (uI (uI C 23 2 x) 23 3 y) 23 4 z).1 c = C.1 c := fun c hc => by rw [u_ne hc, u_ne hc, u_ne hc]
  exact ⟨false, _, S, e, rfl, Or.inr ⟨rfl, ⟨f, a, f1, f2, f3, by rw [o 82 (by decide)]; exact f4, by rw [o 82 (by decide)]; exact f5, f6, f7⟩, (by repeat' first | exact xc | refine XC.u ?_ (by omega) | refine XC.ul ?_ (by omega)), xs⟩⟩
/-- all parts -/
theorem p_loop (hN : 1000 < N) (hn : n ≤ 900) (h : PI C0 S0 C S v) (st : St n B 0 C S C S) : PEnd N n C0 S0 (lp (fun k (a : Int32) m => f_X6_fill_h27 N 23 k a m) N 0 C) (lp (fun k (_ : Unit) m => f_X12_port_h73 N k m) N () S) := by
  refine lq2 (R := PEnd N n C0 S0) (fun i a M _ M' => a = nI i ∧ i ≤ 900 ∧ (PRt n B i C0 S0 M M' ∨ XF n C0 S0 M M')) 900 (by omega) (by omega) ⟨rfl, by omega, Or.inl ⟨v, h, st⟩⟩ ?_
  rintro i hi k k' hk _ M _ M' ⟨rfl, i9, h | h⟩
  · obtain ⟨v, h, st⟩ := h
    obtain ⟨a, l1, l2, l3⟩ := st.2.2.2.2.2.2.2.2.1
    obtain ⟨a', z, t, t1, t2, t3, t4, t5, t6, t7, t8, t9, t10⟩ := st.tk
    have ea : a' = a := by rw [t4, n_eq (by omega)] at l3; exact l3
    subst ea
    have tb : t ≤ 4 := by omega
    have e1 := p_end1 (N := N) h st
    unfold f_X6_fill_h27 f_X12_port_h73 f_X8_isGoingOn
    rw [st.c6, st.s12, if_pos rfl, if_pos rfl, t8, t9]
    by_cases g : t = 0
    · subst g
      rw [if_pos (show nI 0 = 0 from rfl), if_pos (show nI 0 = 0 from rfl), bi_s, if_pos b2i_f]
      by_cases q : 900 ≤ i
      · rw [if_pos (by rw [n_lle (by omega)]; exact q)]
        exact e1
      · rw [if_neg (by rw [n_lle (by omega)]; exact q)]
        exact e1
    · have := t3 g
      rw [if_neg (show ¬ 900 ≤ nI i by rw [n_lle (by omega)]; show ¬ 900 ≤ i; omega), if_neg (show ¬ nI t = 0 by rw [show (0 : Int32) = nI 0 from rfl, n_eq (by omega)]; exact g), if_neg (show ¬ nI t = 0 by rw [show (0 : Int32) = nI 0 from rfl, n_eq (by omega)]; exact g), bi_s, if_neg (by decide)]
      obtain ⟨b, C', S', p1, p2, p3⟩ := p_part hN h st
      rw [p1, bi_s]
      have e : ∀ K : Mem → Option (Int32 × Mem), (bv (f_X12_readPart N M') fun M_17 => bi (f_X12_isSign 59 M_17) fun r_21 M_19 => bv (f_X12_must N (b2i r_21) M_19) K) = bv (bv (f_X12_readPart N M') (mS N)) K := fun K => by
        cases f_X12_readPart N M' with
        | none => rfl
        | some M1 =>
          rw [bv_s, bv_s]
          unfold mS
          rw [sgn_e, bi_s, bi_s]
      rw [e, p2, bv_s, n_addl]
      exact hk (by omega) _ _ _ _ ⟨rfl, by omega, p3⟩
  · have e2 := p_end2 (N := N) h hn
    obtain ⟨⟨f, a, f1, f2, f3, f4, f5, f6, f7⟩, -⟩ := h
    have fn : ¬ nI f = 0 := by rw [show (0 : Int32) = nI 0 from rfl, n_eq (by omega)]; omega
    unfold f_X6_fill_h27 f_X12_port_h73 f_X8_isGoingOn
    rw [f4, f6, if_neg fn, if_neg fn, bi_s, if_pos b2i_f]
    by_cases q : 900 ≤ i
    · rw [if_pos (by rw [n_lle (by omega)]; exact q)]
      exact e2
    · rw [if_neg (by rw [n_lle (by omega)]; exact q)]
      exact e2
end Q11
