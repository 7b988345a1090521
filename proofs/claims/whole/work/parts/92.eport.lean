section Q13
variable {N n : Nat} {C S C0 S0 C' S' : Mem} {B : Nat → Nat}
/-- the model's last word on a text -/
theorem well_no {f a : Nat} (hf : 1 ≤ f ∧ f ≤ 7) (h12 : S.1 200 12 = nI f) (h13 : S.1 200 13 = nI a) : f_X12_isWell S = some (false, uI (uI (uI S 200 10 (nI f)) 200 11 (nI a)) 200 0 10) := by
  have f0 : ¬ nI f = 0 := by rw [show (0 : Int32) = nI 0 from rfl, n_eq (by omega)]; omega
  have e1 : (uI S 200 10 (nI f)).1 200 12 = nI f := by rw [us_same, g_upd, if_neg (by decide)]; exact h12
  have e3 : (uI S 200 10 (nI f)).1 200 13 = nI a := by rw [us_same, g_upd, if_neg (by decide)]; exact h13
  have e2 : (uI (uI S 200 10 (nI f)) 200 11 (nI a)).1 200 12 = nI f := by rw [us_same, g_upd, if_neg (by decide)]; exact e1
  unfold f_X12_isWell f_X12_isWell_b24 f_X12_no
  simp only [bM_e]
  rw [h12, e1, if_neg f0, e3, e2, if_neg f0, bi_s, if_pos b2i_f]
theorem well_ok (h12 : S.1 200 12 = 0) : f_X12_isWell S = some (true, uI (uI S 200 10 0) 200 11 (-1)) := by
  have e1 : (uI S 200 10 0).1 200 12 = 0 := by rw [us_same, g_upd, if_neg (by decide)]; exact h12
  have e2 : (uI (uI S 200 10 0) 200 11 (-1)).1 200 12 = 0 := by rw [us_same, g_upd, if_neg (by decide)]; exact e1
  unfold f_X12_isWell f_X12_isWell_b24
  simp only [bM_e]
  rw [h12, e1, if_pos rfl, e2, if_pos rfl]
/-- a text refused -/
theorem Re.refuse (h : Re C S) {f a : Nat} (hf : 1 ≤ f ∧ f ≤ 7) (hC : ∀ c, ¬ (23 ≤ c ∧ c < 37) → ¬ (76 ≤ c ∧ c < 107) → C'.1 c = C.1 c ∧ C'.2 c = C.2 c) (hS : ∀ c, c ≠ 200 → c ≠ 205 → c ≠ 208 → S'.1 c = S.1 c ∧ S'.2 c = S.2 c) (h205 : ∀ k, k < 1740 → S'.1 205 k = S.1 205 k) (h208 : ∀ k, k < 88 → S'.2 208 k = S.2 208 k) (h24 : S'.1 200 24 = S.1 200 24) (h42 : S'.1 200 42 = S.1 200 42) (hl2 : ∀ j, j ≠ 19 → S'.2 200 j = S.2 200 j) (h8 : S'.1 200 8 = 0) (c6 : C'.1 82 6 = nI f) (c7 : C'.1 82 7 = nI a) : Rel (uI (uI C' 0 3 0) 0 0 10) (uI (uI (uI S' 200 10 (nI f)) 200 11 (nI a)) 200 0 10) := by
  have oc : ∀ c, c ≠ 0 → (uI (uI C' 0 3 0) 0 0 10).1 c = C'.1 c := fun c hc => by rw [u_ne hc, u_ne hc]
  have os : ∀ c, c ≠ 200 → (uI (uI (uI S' 200 10 (nI f)) 200 11 (nI a)) 200 0 10).1 c = S'.1 c := fun c hc => by rw [u_ne hc, u_ne hc, u_ne hc]
  have ok : ∀ k, k ≠ 0 → k ≠ 10 → k ≠ 11 → (uI (uI (uI S' 200 10 (nI f)) 200 11 (nI a)) 200 0 10).1 200 k = S'.1 200 k := fun k h1 h2 h3 => by rw [us_same, g_upd, if_neg h1, us_same, g_upd, if_neg h3, us_same, g_upd, if_neg h2]
  refine h.fin (fun c h1 h2 h3 => ⟨?_, (hC c (by omega) h3).2⟩) (fun k h1 h2 => ?_) (hC 0 (by omega) (by omega)).2 ?_ (fun c h1 h2 h3 => ⟨?_, (hS c h1 h2 h3).2⟩) (fun k h1 h2 => ?_) (fun k h1 h2 => h208 k h2) ?_ ?_ hl2 ?_ ?_ ?_ ⟨?_, ?_⟩
  · rw [oc c h1]; exact (hC c (by omega) h3).1
  · rw [us_same, g_upd, if_neg h1, us_same, g_upd, if_neg h2, (hC 0 (by omega) (by omega)).1]
  · rw [us_same, g_upd, if_neg (by decide), u_at]
  · rw [os c h1]; exact (hS c h1 h2 h3).1
  · rw [os 205 (by decide)]; exact h205 k h2
  · rw [ok 24 (by decide) (by decide) (by decide)]; exact h24
  · rw [ok 42 (by decide) (by decide) (by decide)]; exact h42
  · rw [ok 8 (by decide) (by decide) (by decide)]; exact h8
  · rw [u_at, u_at]
  · refine h.2.2.2.1.same (fun j hj => ?_) (hC 12 (by omega) (by omega)).2 (fun k hk => ?_) (fun g hg => ?_)
    · rw [oc _ (by omega)]; exact (hC _ (by omega) (by omega)).1
    · rw [os 205 (by decide)]; exact h205 _ (by omega)
    · exact h208 _ (by omega)
  · rw [oc 82 (by decide), c6, us_same, g_upd, if_neg (by decide), us_same, g_upd, if_neg (by decide), u_at]
  · rw [oc 82 (by decide), c7, us_same, g_upd, if_neg (by decide), u_at]
theorem e_port (hN : 1000 < N) (h : Rel C S) (x : Int32) : Same (f_X11_port N x C) (f_X12_port N x S) := by
  have hR := Re.go h
  have hs := S0_st S 0 0
  unfold f_X11_port f_X12_port f_X12_starts f_X12_no f_X11_refused f_X11_answered
  simp only [bM_e]
  generalize uI (uI S 200 1 0) 200 0 0 = S at *
  obtain ⟨m, hm, t1, t2, t3⟩ := hR.2.1
  rw [t1, t2]
  rcases i32c x with hx | ⟨n, hn, rfl⟩
  · rw [if_pos hx, if_pos hx, bi_s, bi_s, bi_s, if_pos b2i_f]
    exact Same.mk (cl_ref hR _)
  · rw [if_neg (nI_pos hn), if_neg (nI_pos hn)]
    by_cases g : n ≤ m
    rotate_left
    · rw [if_neg (by rw [n_le (by omega)]; exact g), if_pos (by rw [n_lt (by omega)]; omega), bi_s, bi_s, bi_s, if_pos b2i_f]
      exact Same.mk (cl_ref hR _)
    · rw [if_pos (by rw [n_le (by omega)]; exact g), if_neg (by rw [n_lt (by omega)]; omega), if_pos (by rw [n_lel (by omega)]; show n ≤ 900; omega)]
      obtain ⟨C1, e1, s1, s2, s3, s4, s5⟩ := c_clear (N := N) (by omega) C
      obtain ⟨C2, e2, ⟨q1, q2⟩, q3⟩ := c_fillI (N := N) (p := 85) (M := uI C1 83 4 0) (by omega) (-1) (by rw [ln_85]; decide)
      have oA : ∀ c, c ≠ 23 → c ≠ 29 → c ≠ 30 → c ≠ 83 → c ≠ 85 → C2.1 c = C.1 c := fun c h1 h2 h3 h4 h5 => by rw [q2 c (by simp; exact h5), u_ne h4, s1 c h1 h2 h3]
      have oB : ∀ c, c = 23 ∨ c = 29 ∨ c = 30 → C2.1 c = C1.1 c := fun c hc => by rw [q2 c (by simp; omega), u_ne (by omega)]
      have o2 : C2.2 = C.2 := by rw [q1]; exact s2
      obtain ⟨B, C3, S3, e3, e4, st, r1, r2, r3, r4, r5, r6⟩ := rd_begin (N := N) (n := n) (A := C2) (Z := S) hN (by omega) (fun k hk => by rw [oA 1 (by decide) (by decide) (by decide) (by decide) (by decide)]; exact t3 k (by omega))
      obtain ⟨S4, e5, w1, w2, w3, w4, w5, w6⟩ := m_zero (N := N) hN S3
      have eC : f_X6_fill N 23 (nI n) C = lp (fun k (a : Int32) m => f_X6_fill_h27 N 23 k a m) N 0 C3 := by
        unfold f_X6_fill
        simp only [bM_e]
        rw [e1, bv_s, e2, bv_s, e3, bv_s]
      rw [eC, e4, bv_s, bi_s, if_neg (by decide), e5]
      have st4 : St n B 0 C3 S4 C3 S4 := by
        obtain ⟨-, -, ⟨tx1, tx2⟩, d1, d2, d3, d4, d5, d6, d7⟩ := st
        refine ⟨FkC.rf, FkS.rf, ⟨tx1, by rw [w2 204 (by decide) (by decide)]; exact tx2⟩, d1, by rw [w3 9 (by decide)]; exact d2, d3, by rw [w3 12 (by decide)]; exact d4, d5, d6, ?_⟩
        unfold Tk
        rw [w3 15 (by decide), w3 16 (by decide), w3 14 (by decide), w3 18 (by decide), w3 17 (by decide), w1]
        exact d7
      have p23 : ∀ j, j < 11 → C3.1 23 j = nI (if j = 3 then 1 else if j = 4 then 10 else 0) := fun j hj => by rw [r2 23 (by decide), oB 23 (by omega)]; exact s3 j hj
      have p29 : ∀ k, k < 60 → C3.1 29 k = 0 := fun k hk => by rw [r2 29 (by decide), oB 29 (by omega)]; exact s4 k hk
      have p30 : C3.1 30 0 = 0 := by rw [r2 30 (by decide), oB 30 (by omega)]; exact s5
      have p83 : C3.1 83 4 = 0 := by rw [r2 83 (by decide), q2 83 (by simp), u_at]
      have p85 : ∀ k, k < 3 → C3.1 85 k = -1 := fun k hk => by rw [r2 85 (by decide)]; exact q3 k (by rw [ln_85]; exact hk)
      have pi : PI C3 S4 C3 S4 (fun k => if k = 7 then 1 else if k = 8 then 10 else 0) := by
        refine ⟨⟨⟨⟨by decide, by decide, by decide, by decide, by decide, fun g hg => absurd hg (Nat.not_lt_zero g)⟩, by decide, by decide, by decide, by decide, by decide, fun g hg => absurd hg (Nat.not_lt_zero g), fun g hg => absurd hg (Nat.not_lt_zero g), fun g hg => absurd hg (Nat.not_lt_zero g), fun g hg => absurd hg (Nat.not_lt_zero g), fun k hk => ?_, fun b _ hb => ?_⟩, rfl, rfl, Or.inl ⟨rfl, rfl, rfl, rfl, rfl, rfl⟩, fun k hk => ?_⟩, ⟨⟨p23 0 (by decide), p23 1 (by decide), p23 2 (by decide), p23 3 (by decide), p23 7 (by decide), fun g hg => absurd hg (Nat.not_lt_zero g)⟩, p23 4 (by decide), p23 5 (by decide), p23 6 (by decide), p23 8 (by decide), p23 9 (by decide), p23 10 (by decide), fun g hg => absurd hg (Nat.not_lt_zero g), fun g hg => absurd hg (Nat.not_lt_zero g), fun g hg => absurd hg (Nat.not_lt_zero g), fun g hg => absurd hg (Nat.not_lt_zero g), fun k hk => ?_, ⟨by decide, p30, fun z => by cases z⟩⟩, w6, fun g hg => absurd hg (Nat.not_lt_zero g), ⟨p83, fun s hs => ?_, fun x => ⟨?_, ?_⟩⟩, ⟨0, by decide, w4, fun w hw => Or.inr ⟨Nat.zero_testBit _, p85 w hw, ?_⟩⟩, XC.rf, XS.rf⟩
        · dsimp only
          rw [if_neg (by omega), if_neg (by omega)]; omega
        · dsimp only
          rw [if_neg (by omega), if_neg (by omega), if_neg (by omega), if_neg (by omega)]
          exact ⟨rfl, rfl⟩
        · dsimp only
          rw [if_neg (by omega), if_neg (by omega)]
        · rw [p29 k hk]
          show (0 : Int32) = nI (dfl _ (103 + k))
          rw [dfl_ne (by omega), if_neg (by omega), if_neg (by omega)]
          rfl
        · have := w6 (2 + s) (by omega)
          rw [show 1740 + (2 + s) = 1742 + s by omega] at this
          exact this
        · rintro ⟨i, hi, -⟩
          exact absurd hi (Nat.not_lt_zero i)
        · rintro ⟨s, k, h1, h2, -⟩
          dsimp only at h2
          rw [if_neg (by omega), if_neg (by omega)] at h2
          exact absurd h2 (Nat.not_lt_zero k)
        · obtain rfl | rfl | rfl : w = 0 ∨ w = 1 ∨ w = 2 := by omega
          all_goals rfl
      have S4o : ∀ c, c ≠ 200 → c ≠ 205 → c ≠ 208 → S4.1 c = S.1 c ∧ S4.2 c = S.2 c := fun c h1 h2 h3 => ⟨by rw [w2 c h1 h2]; exact (r3 c h1).1, by rw [w1]; exact (r3 c h1).2⟩
      have S45 : ∀ k, k < 1740 → S4.1 205 k = S.1 205 k := fun k hk => by rw [w5 k hk, (r3 205 (by decide)).1]
      have S48 : S4.2 208 = S.2 208 := by rw [w1]; exact (r3 208 (by decide)).2
      have S40 : ∀ j, j < 8 ∨ (9 < j ∧ j < 12) ∨ (18 < j ∧ j ≠ 25) → S4.1 200 j = S.1 200 j := fun j hj => by rw [w3 j (by omega), r4 j (by omega)]
      have S4L : ∀ j, j ≠ 19 → S4.2 200 j = S.2 200 j := fun j hj => by rw [w1, r6 j hj]
      have S4z : S4.1 200 8 = 0 := by rw [w3 8 (by decide), r5]
      have C3o : ∀ c, ¬ (23 ≤ c ∧ c < 36) → ¬ (82 ≤ c ∧ c < 87) → C3.1 c = C.1 c ∧ C3.2 c = C.2 c := fun c h1 h2 => ⟨by rw [r2 c (by omega), oA c (by omega) (by omega) (by omega) (by omega) (by omega)], by rw [r1, o2]⟩
      obtain ⟨b, C', S', f1, f2, f3⟩ := p_loop hN (by omega) pi st4
      rw [f1, f2, bi_s]
      unfold f_X12_port_b104
      rcases f3 with ⟨rfl, v, vv, y9, y163, pc, bk, hg, xc, ⟨x1, x2, x3, x4, x5⟩, c6, c7, s12⟩ | ⟨rfl, ⟨f, a, g1, g2, g3, g4, g5, g6, g7⟩, xc, ⟨x1, x2, x3, x4, x5⟩⟩
      · rw [if_neg (by decide), well_ok s12, bi_s, if_neg (by decide)]
        refine Same.two (P := fun q => q.1 = nI (v 2) ∧ ∃ C1, Out 10 23 (uI C' 0 3 0) C1 ∧ PEq (uI C' 0 3 0) 23 C1 10 ∧ q.2 = uI C1 0 0 0) (P' := fun q => q.1 = nI (v 2) ∧ (∀ c, c ≠ 205 → q.2.1 c = (uI (uI S' 200 10 0) 200 11 (-1)).1 c) ∧ (∀ c, c ≠ 208 → q.2.2 c = S'.2 c) ∧ (∀ k, k < 435 → q.2.1 205 k = S'.1 205 (1740 + k)) ∧ (∀ k, 435 ≤ k → q.2.1 205 k = S'.1 205 k) ∧ (∀ k, k < 22 → q.2.2 208 k = S'.2 208 (88 + k)) ∧ (∀ k, 22 ≤ k → q.2.2 208 k = S'.2 208 k)) ?_ ?_ ?_
        · rw [Ho_bv]
          refine Ho_mono (c_copy (p0 := 10) (p1 := 23) (b := false) (by omega) (by rw [u_ne (by decide), pc.2.2.2.2.2.2.2.2.2.2.2.2.2.1, y163]; rfl)) ?_
          rintro C1 ⟨o, pe⟩
          rw [bi_s, Ho_some]
          refine ⟨?_, C1, o, pe, rfl⟩
          rw [pe.1 7 (by decide), u_ne (by decide)]
          exact pc.1.2.2.2.2.1
        · rw [Ho_bv]
          refine Ho_mono (m_copy (a := 4) (b := 0) (by omega) (by omega)) ?_
          rintro S1 ⟨u1, u2, u3, u4, u5, u6⟩
          rw [show ck (2 : Int32) 2175 = ck (β := Int32 × Mem) (nI 2) 2175 from rfl, ck_n (by omega), Ho_some]
          have b0 : ∀ k, k < 435 → S1.1 205 k = S'.1 205 (1740 + k) := fun k hk => by
            have := u3 k hk
            rw [Nat.mul_zero, Nat.zero_add, u_ne (by decide), u_ne (by decide)] at this
            exact this
          refine ⟨?_, u1, u2, b0, fun k hk => ?_, fun k hk => ?_, fun k hk => ?_⟩
          · show S1.1 205 2 = _
            rw [b0 2 (by decide), bk 2 (by decide)]
          · rw [u4 k (by omega), u_ne (by decide), u_ne (by decide)]
          · have := u5 k hk
            rw [Nat.mul_zero, Nat.zero_add] at this
            exact this
          · exact u6 k (by omega)
        · rintro r Cx r' Sx ⟨a, C1, o, pe, rfl⟩ ⟨a', t1, t2, t3, t4, t5, t6⟩
          dsimp only at a a' t1 t2 t3 t4 t5 t6
          refine ⟨by rw [a, a'], ?_⟩
          have oC : ∀ c, c ≠ 0 → ¬ (10 ≤ c ∧ c < 23) → (uI C1 0 0 0).1 c = C'.1 c := fun c h1 h2 => by rw [u_ne h1, (o c (by omega)).1, u_ne h1]
          have o0 : ∀ k, k ≠ 0 → k ≠ 3 → (uI C1 0 0 0).1 0 k = C'.1 0 k := fun k h1 h2 => by rw [us_same, g_upd, if_neg h1, (o 0 (by omega)).1, us_same, g_upd, if_neg h2]
          have tS : ∀ k, k ≠ 10 → k ≠ 11 → Sx.1 200 k = S'.1 200 k := fun k h1 h2 => by rw [t1 200 (by decide), us_same, g_upd, if_neg h2, us_same, g_upd, if_neg h1]
          have v2 := vv.1.2.2.1
          refine hR.fin (fun c h1 h2 h3 => ⟨?_, ?_⟩) (fun k h1 h2 => ?_) ?_ ?_ (fun c h1 h2 h3 => ⟨?_, ?_⟩) (fun k h1 h2 => ?_) (fun k h1 h2 => ?_) ?_ ?_ (fun j hj => ?_) ?_ ?_ ⟨v, vv, by omega, ?_, fun k hk => ?_, fun g hg' => ?_⟩ ⟨?_, ?_⟩
          · rw [oC c h1 (by omega), (xc c (by omega) (by omega)).1]; exact (C3o c (by omega) (by omega)).1
          · show C1.2 c = _
            rw [(o c (by omega)).2]
            show C'.2 c = _
            rw [(xc c (by omega) (by omega)).2]; exact (C3o c (by omega) (by omega)).2
          · rw [o0 k h1 h2, (xc 0 (by omega) (by omega)).1, (C3o 0 (by omega) (by omega)).1]
          · show C1.2 0 = _
            rw [(o 0 (by omega)).2]
            show C'.2 0 = _
            rw [(xc 0 (by omega) (by omega)).2]; exact (C3o 0 (by omega) (by omega)).2
          · rw [us_same, g_upd, if_neg (by decide), (o 0 (by omega)).1, u_at]
          · rw [t1 c h2, u_ne h1, u_ne h1, (x1 c h1 h2 h3).1]; exact (S4o c h1 h2 h3).1
          · rw [t2 c h3, (x1 c h1 h2 h3).2]; exact (S4o c h1 h2 h3).2
          · rw [t4 k h1, x2 k h2, S45 k h2]
          · rw [t6 k h1, x3 k h2, S48]
          · rw [tS 24 (by decide) (by decide), x4 24 (by omega), S40 24 (by omega)]
          · rw [tS 42 (by decide) (by decide), x4 42 (by omega), S40 42 (by omega)]
          · rw [t2 200 (by decide), x5 j hj, S4L j hj]
          · rw [tS 8 (by decide) (by decide), x4 8 (by omega), S4z]
          · rw [u_at, tS 0 (by decide) (by decide), x4 0 (by omega), S40 0 (by omega)]; exact hs.symm
          · refine (PC.eq vv pc (C' := C1) (p' := 10) ?_).same fun j hj => u_ne (by omega)
            obtain ⟨a1, a2, a3, a4, a5, a6, a7, a8, a9⟩ := pe
            refine ⟨fun k hk => ?_, fun k hk => ?_, fun k hk => ?_, fun k hk => ?_, fun k hk => ?_, fun k hk => ?_, fun k hk => ?_, fun k hk => ?_, fun j k h1 h2 h3 => ?_⟩
            · rw [a1 k hk, u_ne (by decide)]
            · rw [a2 k hk, u_ne (by decide)]
            · exact a3 k hk
            · rw [a4 k hk, u_ne (by decide)]
            · rw [a5 k hk, u_ne (by decide)]
            · rw [a6 k hk, u_ne (by decide)]
            · rw [a7 k hk, u_ne (by decide)]
            · rw [a8 k hk, u_ne (by decide)]
            · rw [a9 j k h1 h2 h3, u_ne (by omega)]
          · rw [Nat.mul_zero, Nat.zero_add, t3 k hk]; exact bk k hk
          · have := pe.2.2.1 g (by omega)
            rw [Nat.mul_zero, Nat.zero_add, t5 g (by omega)]
            show C1.2 12 g = _
            rw [this]
            exact hg g hg'
          · rw [oC 82 (by decide) (by omega), c6, t1 200 (by decide), us_same, g_upd, if_neg (by decide), u_at]
          · rw [oC 82 (by decide) (by omega), c7, t1 200 (by decide), u_at]
      · rw [if_pos b2i_f, bi_s, well_no ⟨g1, g2⟩ g6 g7, bi_s, if_pos b2i_f]
        refine Same.mk (hR.refuse ⟨g1, g2⟩ (fun c h1 h2 => ⟨?_, ?_⟩) (fun c h1 h2 h3 => ⟨?_, ?_⟩) (fun k hk => ?_) (fun k hk => ?_) ?_ ?_ (fun j hj => ?_) ?_ g4 g5)
        · rw [(xc c (by omega) (by omega)).1]; exact (C3o c (by omega) (by omega)).1
        · rw [(xc c (by omega) (by omega)).2]; exact (C3o c (by omega) (by omega)).2
        · rw [(x1 c h1 h2 h3).1]; exact (S4o c h1 h2 h3).1
        · rw [(x1 c h1 h2 h3).2]; exact (S4o c h1 h2 h3).2
        · rw [x2 k hk, S45 k hk]
        · rw [x3 k hk, S48]
        · rw [x4 24 (by omega), S40 24 (by omega)]
        · rw [x4 42 (by omega), S40 42 (by omega)]
        · rw [x5 j hj, S4L j hj]
        · rw [x4 8 (by omega), S4z]
end Q13
