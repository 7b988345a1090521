section G3
variable {N p L z : Nat} {C S : Mem} {v : Nat → Nat}
def BD (N p L : Nat) : (Int32 × Int32 → Mem → Option Mem) → Int32 × Int32 → Mem → Option Mem := fun k a m => f_X2_run_h51 N L p k a.1 a.2 m
def Cr (N p L F a i : Nat) (C : Mem) : Option Mem := lp (BD N p L) F (nI a, nI i) C
theorem Cr_s (N p L F a i : Nat) (C : Mem) : Cr N p L (F + 1) a i C = f_X2_run_h51 N L p (lp (BD N p L) F) (nI a) (nI i) C := rfl
theorem mv_step {F a a' i st s : Nat} {C' : Mem} (hi : i < 1000000) (hz : C.1 (p + 7) 1 = nI z) (ha : a < z ∧ z ≤ 60) (hs : C.1 (p + 7 + 1) a = nI s) (hs1 : s < 11) (h4 : C.1 L 4 = nI st) (hst : st < 300) (hd : f_X2_doStep N L p (nI a) (uI C L 4 (nI (st + 1))) = some (nI a', C')) : Cr N p L (F + 1) a i C = Cr N p L F a' (i + 1) C' := by
  rw [Cr_s]
  unfold f_X2_run_h51 f_X2_run_b126
  rw [if_neg (by rw [n_lle (by omega)]; omega), hz, if_neg (by rw [n_le (by omega)]; omega), ck_n (by omega), t_n (by omega), hs, if_neg (by rw [n_eql (by omega)]; omega), h4, if_pos (by rw [n_ltl (by omega)]; omega), bM_e, n_addl, hd, bi_s, n_addl]
  rfl
theorem mv_cut {F a i st s : Nat} (hi : i < 1000000) (hz : C.1 (p + 7) 1 = nI z) (ha : a < z ∧ z ≤ 60) (hs : C.1 (p + 7 + 1) a = nI s) (hs1 : s < 11) (h4 : C.1 L 4 = nI st) (hst : st = 300) : Cr N p L (F + 1) a i C = some (uI C L 9 1) := by
  rw [Cr_s]
  unfold f_X2_run_h51
  rw [if_neg (by rw [n_lle (by omega)]; omega), hz, if_neg (by rw [n_le (by omega)]; omega), ck_n (by omega), t_n (by omega), hs, if_neg (by rw [n_eql (by omega)]; omega), h4, if_neg (by rw [n_ltl (by omega)]; omega), bM_e]
theorem mv_over {F a i : Nat} (hz : C.1 (p + 7) 1 = nI z) (ha : z ≤ a ∧ a < 1000) : Cr N p L (F + 1) a i C = some C := by
  rw [Cr_s]
  unfold f_X2_run_h51
  by_cases g : (1000000 : Int32) ≤ nI i
  · rw [if_pos g]
  · rw [if_neg g, hz, if_pos (by rw [n_le (by omega)]; omega)]
theorem mv_endw {F m a i s : Nat} (hi : i < 1000000) (hz : C.1 (p + 7) 1 = nI z) (hm : m < z ∧ z ≤ 60) (ham : a < m) (hs : C.1 (p + 7 + 1) m = nI 11) (hq : C.1 (p + 7 + 5) m = nI a) (ha : C.1 (p + 7 + 1) a = nI s) (hs7 : s ≠ 7 ∧ s < 100) : Cr N p L (F + 1) m i C = Cr N p L F (m + 1) (i + 1) C := by
  rw [Cr_s]
  unfold f_X2_run_h51 f_X2_run_b126 f_X2_behindEnd
  rw [if_neg (by rw [n_lle (by omega)]; omega), hz, if_neg (by rw [n_le (by omega)]; omega), ck_n (by omega), ck_n (by omega), t_n (by omega), hs, if_pos (show nI 11 = 11 from rfl), hq, ck_n (by omega), t_n (by omega), ha, if_neg (by rw [n_eql (by omega)]; exact hs7.1), bi_s, n_addl, n_addl]
  rfl
theorem mv_endl {F m a i r : Nat} (hi : i < 1000000) (hz : C.1 (p + 7) 1 = nI z) (hm : m < z ∧ z ≤ 60) (ham : a < m) (hs : C.1 (p + 7 + 1) m = nI 11) (hq : C.1 (p + 7 + 5) m = nI a) (ha : C.1 (p + 7 + 1) a = nI 7) (ht : C.1 (L + 1) a = nI (r + 1)) (hr : r < 100) : Cr N p L (F + 1) m i C = Cr N p L F (if r = 0 then m + 1 else a + 1) (i + 1) (uI C (L + 1) a (nI r)) := by
  rw [Cr_s]
  unfold f_X2_run_h51 f_X2_run_b126 f_X2_behindEnd
  rw [if_neg (by rw [n_lle (by omega)]; omega), hz, if_neg (by rw [n_le (by omega)]; omega), ck_n (by omega), ck_n (by omega), t_n (by omega), hs, if_pos (show nI 11 = 11 from rfl), hq, ck_n (by omega), t_n (by omega), ha, if_pos (show nI 7 = 7 from rfl), ck_n (by omega), ck_n (by omega), bM_e, ht, ck_n (by omega), n_subl (by omega), u_at, Nat.add_sub_cancel]
  by_cases e : r = 0
  · rw [if_pos (by rw [e]; decide), if_pos e, bi_s]
    unfold Cr
    simp only [n_addl]
  · rw [if_neg (by rw [n_lel (by omega)]; omega), if_neg e, bi_s]
    unfold Cr
    simp only [n_addl]
/-- both go on; n moves of the class -/
def Rn (N p L lo hi : Nat) (C S : Mem) (v : Nat → Nat) (st a b n : Nat) (C' S' : Mem) (v' : Nat → Nat) (st' : Nat) : Prop := st ≤ st' ∧ (∀ F i, i + n ≤ 1000000 → Cr N p L (F + n) a i C = Cr N p L F b (i + n) C') ∧ NR C' S' p L v' st' ∧ KL p L C C' ∧ chN v v' ∧ (∀ k, k < lo ∨ hi ≤ k → C'.1 (L + 1) k = C.1 (L + 1) k) ∧ C'.1 L 9 = 0 ∧ KM S S' ∧ S'.1 200 43 = 0 ∧ S'.1 200 50 = 0
/-- both are over -/
def Ov (N p L : Nat) (C S : Mem) (v : Nat → Nat) (st a n : Nat) (S' : Mem) (st' : Nat) : Prop := ∃ C' v', st ≤ st' ∧ (∀ F i, i + n < 1000000 → Cr N p L (F + n + 1) a i C = some C') ∧ NR C' S' p L v' st' ∧ KL p L C C' ∧ chN v v' ∧ (∃ cut : Bool, C'.1 L 9 = b2i cut ∧ S'.1 200 50 = b2i cut) ∧ KM S S' ∧ S'.1 200 43 = 1
theorem Rn.tr {lo hi st a m b n n2 st1 st2 : Nat} {C1 S1 C2 S2 : Mem} {v1 v2 : Nat → Nat} (h : Rn N p L lo hi C S v st a m n C1 S1 v1 st1) (h2 : Rn N p L lo hi C1 S1 v1 st1 m b n2 C2 S2 v2 st2) : Rn N p L lo hi C S v st a b (n + n2) C2 S2 v2 st2 := by
  obtain ⟨a1, a2, a3, a4, a5, a6, a7, a8, a9, a10⟩ := h
  obtain ⟨b1, b2, b3, b4, b5, b6, b7, b8, b9, b10⟩ := h2
  refine ⟨by omega, fun F i hi => ?_, b3, a4.tr b4, a5.tr b5, fun k hk => ?_, b7, a8.tr b8, b9, b10⟩
  · rw [show F + (n + n2) = (F + n2) + n by omega, a2 (F + n2) i (by omega), b2 F (i + n) (by omega), Nat.add_assoc]
  · rw [b6 k hk, a6 k hk]
theorem Rn.wk {lo hi lo' hi' st a b n st1 : Nat} {C1 S1 : Mem} {v1 : Nat → Nat} (h : Rn N p L lo hi C S v st a b n C1 S1 v1 st1) (hl : lo' ≤ lo ∧ hi ≤ hi') : Rn N p L lo' hi' C S v st a b n C1 S1 v1 st1 := by
  obtain ⟨a1, a2, a3, a4, a5, a6, a7⟩ := h
  exact ⟨a1, a2, a3, a4, a5, fun k hk => a6 k (by omega), a7⟩
theorem Rn.ov {lo hi st a m n n2 st1 st2 : Nat} {C1 S1 S2 : Mem} {v1 : Nat → Nat} (h : Rn N p L lo hi C S v st a m n C1 S1 v1 st1) (h2 : Ov N p L C1 S1 v1 st1 m n2 S2 st2) : Ov N p L C S v st a (n + n2) S2 st2 := by
  obtain ⟨a1, a2, a3, a4, a5, a6, a7, a8, a9, a10⟩ := h
  obtain ⟨C', v', b1, b2, b3, b4, b5, b6, b7, b8⟩ := h2
  refine ⟨C', v', by omega, fun F i hi => ?_, b3, a4.tr b4, a5.tr b5, b6, a8.tr b7, b8⟩
  rw [show F + (n + n2) + 1 = (F + n2 + 1) + n by omega, a2 (F + n2 + 1) i (by omega), b2 F (i + n) (by omega)]
/-- a step more -/
theorem NR.inc {st : Nat} (hp : pL p L) (h : NR C S p L v st) (hs : st < 300) : NR (uI C L 4 (nI (st + 1))) (uI S 200 45 (nI (st + 1))) p L v (st + 1) := by
  obtain ⟨h1, h2, h3, h4, h5, h6, h7, ⟨rn, h8, h9, h10⟩, h11, h12, h13, h14⟩ := h
  have hp' := hp
  unfold pL at hp'
  have e : ∀ j, j ≠ 4 → (uI C L 4 (nI (st + 1))).1 L j = C.1 L j := fun j hj => by rw [us_same, g_upd, if_neg hj]
  have e' : ∀ j, j ≠ 45 → (uI S 200 45 (nI (st + 1))).1 200 j = S.1 200 j := fun j hj => by rw [us_same, g_upd, if_neg hj]
  exact ⟨h1, h2, h3.same fun j hj => u_ne (by omega), h4.oth (by decide), u_at _ _ _ _, u_at _ _ _ _, by omega, ⟨rn, h8, by rw [e 2 (by decide)]; exact h9, by rw [e' 44 (by decide)]; exact h10⟩, by rw [e 5 (by decide), e' 46 (by decide)]; exact h11, by rw [e 6 (by decide), e' 47 (by decide)]; exact h12, by rw [e 7 (by decide), e' 48 (by decide)]; exact h13, by rw [e 8 (by decide), e' 49 (by decide)]; exact h14⟩
/-- a plain step: hour, open, shut, wind, storm -/
theorem n_plain {rc : Int32 → Int32 → Mem → Option Mem} {st x a : Nat} (hN : 200 < N) (hp : pL p L) (h : NR C S p L v st) (hst : st < 300) (ha : a < 60) (hx : x < 30) (hk : v (165 + 9 * x) ≤ 4) (hs : StOK C (p + 7) v x a) : ∃ C' S' v', f_X2_doStep N L p (nI a) (uI C L 4 (nI (st + 1))) = some (nI (a + 1), C') ∧ f_X12_doOne N rc (nI x) S = some S' ∧ NR C' S' p L v' (st + 1) ∧ KL p L C C' ∧ chN v v' ∧ C'.1 (L + 1) = C.1 (L + 1) ∧ C'.1 L 9 = C.1 L 9 ∧ KM S S' ∧ S'.1 200 43 = S.1 200 43 ∧ S'.1 200 50 = S.1 200 50 := by
  have hi := h.inc hp hst
  have hp' := hp
  unfold pL at hp'
  have kl0 : KL p L C (uI C L 4 (nI (st + 1))) := KL.rf.l hp (by decide)
  have km0 : KM S (uI S 200 45 (nI (st + 1))) := KM.rf.u (by omega)
  have t0 : (uI C L 4 (nI (st + 1))).1 (L + 1) = C.1 (L + 1) := u_ne (by omega)
  have n0 : (uI C L 4 (nI (st + 1))).1 L 9 = C.1 L 9 := by rw [us_same, g_upd, if_neg (by decide)]
  have x0 : ∀ j, j ≠ 45 → (uI S 200 45 (nI (st + 1))).1 200 j = S.1 200 j := fun j hj => by rw [us_same, g_upd, if_neg hj]
  have hs' : StOK (uI C L 4 (nI (st + 1))) (p + 7) v x a := by
    unfold StOK at hs ⊢
    rw [u_ne (by omega), u_ne (by omega), u_ne (by omega), u_ne (by omega)]
    exact hs
  have a0 := hi.2.2.2.1 (165 + 9 * x) (by omega)
  have a1 := hi.2.2.2.1 (166 + 9 * x) (by omega)
  have st45 := h.2.2.2.2.2.1
  have fin : ∀ (C' S' : Mem) (r : Bool), f_X2_doStep N L p (nI a) (uI C L 4 (nI (st + 1))) = some (nI (a + 1), C') → f_X12_does N (nI (165 + 9 * x)) (uI S 200 45 (nI (st + 1))) = some (r, S') → NP p L (uI C L 4 (nI (st + 1))) (uI S 200 45 (nI (st + 1))) v (st + 1) C' S' r → ∃ C' S' v', f_X2_doStep N L p (nI a) (uI C L 4 (nI (st + 1))) = some (nI (a + 1), C') ∧ f_X12_doOne N rc (nI x) S = some S' ∧ NR C' S' p L v' (st + 1) ∧ KL p L C C' ∧ chN v v' ∧ C'.1 (L + 1) = C.1 (L + 1) ∧ C'.1 L 9 = C.1 L 9 ∧ KM S S' ∧ S'.1 200 43 = S.1 200 43 ∧ S'.1 200 50 = S.1 200 50 := fun C' S' r e1 e2 np => by
    obtain ⟨v', n1, n2, n3, n4, n5, n6, n7, n8⟩ := np
    refine ⟨C', _, v', e1, ?_, n5, kl0.tr n1, n4, n2.trans t0, n6.trans n0, (km0.tr n3).u (by omega), by rw [us_same, g_upd, if_neg (by decide), n8, x0 43 (by decide)], by rw [us_same, g_upd, if_neg (by decide), n7, x0 50 (by decide)]⟩
    unfold f_X12_doOne
    rw [st45, if_neg (by rw [n_eql (by omega)]; omega), bM_e, n_addl, n_lmul, n_ladd, ck_n (by omega), bI_e, t_n (by omega), a0, if_neg (by rw [n_lle (by omega)]; omega), e2, bi_s]
    cases r with
    | false => rw [if_pos (show b2i false = 0 from rfl), bM_e]; rfl
    | true => rw [if_neg (show ¬ b2i true = 0 by decide), bM_e]; rfl
  have n1 : 165 + 9 * x + 1 = 166 + 9 * x := by omega
  generalize uI C L 4 (nI (st + 1)) = C0 at *
  generalize uI S 200 45 (nI (st + 1)) = S0 at *
  unfold StOK at hs'
  rcases hs' with ⟨s0, s1, s2, s3, s4⟩ | ⟨s0, s1, s2, s3⟩ | ⟨s0, s1, s2, s3⟩ | ⟨s0, s1, s2, s3⟩ | ⟨s0, s1⟩ | ⟨s0, -⟩ | ⟨s0, -⟩ | ⟨s0, -⟩ | ⟨s0, -⟩ | ⟨s0, -⟩
  · obtain ⟨C', S', r, e1, e2, np⟩ := n_hours hN hp hi ⟨s3, s4⟩
    refine fin C' S' r ?_ ?_ np
    · unfold f_X2_doStep
      rw [ck_n (by omega), bI_e, ck_n (by omega), t_n (by omega), s1, s2, if_pos (show nI 1 = 1 from rfl), e1, bv_s, n_addl]
    · unfold f_X12_does
      rw [n_addl, n1, ck_n (by omega), ck_n (by omega), t_n (by omega), t_n (by omega), a0, a1, s0, if_pos (show nI 0 = 0 from rfl), e2, bi_s]
  · obtain ⟨C', S', r, e1, e2, np⟩ := n_gate (N := N) (w := true) hp hi s3
    refine fin C' S' r ?_ ?_ np
    · unfold f_X2_doStep
      rw [ck_n (by omega), bI_e, ck_n (by omega), t_n (by omega), s1, s2, if_neg (show ¬ nI 2 = 1 by decide), if_pos (show nI 2 = 2 from rfl), show (1 : Int32) = b2i true from rfl, e1, bv_s]
      rw [show b2i true = (1 : Int32) from rfl, n_addl]
    · unfold f_X12_does
      rw [n_addl, n1, ck_n (by omega), ck_n (by omega), t_n (by omega), t_n (by omega), a0, a1, s0, if_neg (show ¬ nI 1 = 0 by decide), if_neg (show ¬ nI 1 = 4 by decide), if_neg (show ¬ nI 1 = 3 by decide), ck_l (by omega), show tn 10 = 10 from rfl]
      simp only [show (nI 1 = 1) = True from eq_true rfl, if_true]
      exact e2
  · obtain ⟨C', S', r, e1, e2, np⟩ := n_gate (N := N) (w := false) hp hi s3
    refine fin C' S' r ?_ ?_ np
    · unfold f_X2_doStep
      rw [ck_n (by omega), bI_e, ck_n (by omega), t_n (by omega), s1, s2, if_neg (show ¬ nI 3 = 1 by decide), if_neg (show ¬ nI 3 = 2 by decide), if_pos (show nI 3 = 3 from rfl), show (0 : Int32) = b2i false from rfl, e1, bv_s, n_addl]
    · unfold f_X12_does
      rw [n_addl, n1, ck_n (by omega), ck_n (by omega), t_n (by omega), t_n (by omega), a0, a1, s0, if_neg (show ¬ nI 2 = 0 by decide), if_neg (show ¬ nI 2 = 4 by decide), if_neg (show ¬ nI 2 = 3 by decide), ck_l (by omega), show tn 10 = 10 from rfl]
      simp only [show (nI 2 = 1) = False from eq_false (by decide), if_false]
      exact e2
  · obtain ⟨C', S', r, e1, e2, np⟩ := n_wind (N := N) hp hi s3
    refine fin C' S' r ?_ ?_ np
    · unfold f_X2_doStep
      rw [ck_n (by omega), bI_e, ck_n (by omega), t_n (by omega), s1, s2, if_neg (show ¬ nI 4 = 1 by decide), if_neg (show ¬ nI 4 = 2 by decide), if_neg (show ¬ nI 4 = 3 by decide), if_pos (show nI 4 = 4 from rfl), e1, bv_s, n_addl]
    · unfold f_X12_does
      rw [n_addl, n1, ck_n (by omega), ck_n (by omega), t_n (by omega), t_n (by omega), a0, a1, s0, if_neg (show ¬ nI 3 = 0 by decide), if_neg (show ¬ nI 3 = 4 by decide), if_pos (show nI 3 = 3 from rfl), ck_l (by omega), show tn 6 = 6 from rfl]
      exact e2
  · obtain ⟨C', S', r, e1, e2, np⟩ := n_storm hN hp hi
    refine fin C' S' r ?_ ?_ np
    · unfold f_X2_doStep
      rw [ck_n (by omega), bI_e, ck_n (by omega), t_n (by omega), s1, if_neg (show ¬ nI 5 = 1 by decide), if_neg (show ¬ nI 5 = 2 by decide), if_neg (show ¬ nI 5 = 3 by decide), if_neg (show ¬ nI 5 = 4 by decide), if_pos (show nI 5 = 5 from rfl), e1, bv_s, n_addl]
    · unfold f_X12_does
      rw [n_addl, n1, ck_n (by omega), ck_n (by omega), t_n (by omega), a0, s0, if_neg (show ¬ nI 4 = 0 by decide), if_pos (show nI 4 = 4 from rfl), e2, bi_s]
  all_goals omega
end G3
