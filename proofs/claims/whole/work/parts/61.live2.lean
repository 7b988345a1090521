section G6
variable {N : Nat} {C S : Mem}
def lvT (M : Mem) : Mem := uI (uI (uI (uI (uI (uI M 219 0 (M.1 200 46)) 219 1 (M.1 200 47)) 219 2 (M.1 200 48)) 219 3 (M.1 200 49)) 219 4 (M.1 200 50)) 200 42 1
theorem lv_tail (M : Mem) : (ck 0 5 (bM (uI M 219 (tn 0) (M.1 200 46)) fun M_10 => ck 1 5 (bM (uI M_10 219 (tn 1) (M_10.1 200 47)) fun M_12 => ck 2 5 (bM (uI M_12 219 (tn 2) (M_12.1 200 48)) fun M_14 => ck 3 5 (bM (uI M_14 219 (tn 3) (M_14.1 200 49)) fun M_16 => ck 4 5 (bM (uI M_16 219 (tn 4) (M_16.1 200 50)) fun M_18 => bM (uI M_18 200 42 1) fun M_19 => some ((M_19.1 200 45), M_19))))))) = some (M.1 200 45, lvT M) := by
  rw [ck_l (by decide), bM_e, ck_l (by decide), bM_e, ck_l (by decide), bM_e, ck_l (by decide), bM_e, ck_l (by decide), bM_e, bM_e]
  rfl
theorem lv_c (M : Mem) {c : Nat} (h : c ≠ 200) (h2 : c ≠ 219) : (lvT M).1 c = M.1 c := by
  unfold lvT
  rw [u_ne h, u_ne h2, u_ne h2, u_ne h2, u_ne h2, u_ne h2]
theorem lv_k (M : Mem) {k : Nat} (h : k ≠ 42) : (lvT M).1 200 k = M.1 200 k := by
  unfold lvT
  rw [us_same, g_upd, if_neg h, u_ne (by decide), u_ne (by decide), u_ne (by decide), u_ne (by decide), u_ne (by decide)]
theorem lv_r (M : Mem) : (lvT M).1 200 42 = 1 ∧ (lvT M).1 219 0 = M.1 200 46 ∧ (lvT M).1 219 1 = M.1 200 47 ∧ (lvT M).1 219 2 = M.1 200 48 ∧ (lvT M).1 219 3 = M.1 200 49 ∧ (lvT M).1 219 4 = M.1 200 50 := ⟨rfl, rfl, rfl, rfl, rfl, rfl⟩
theorem e_live (hN : 40000 < N) (h : Rel C S) (z : Int32) : Same (f_X11_live N z C) (f_X12_live N z S) := by
  have hR := Re.go h
  have hs := S0_st S 0 0
  unfold f_X11_live f_X12_live
  rw [bM_e, bM_e]
  unfold f_X11_refused f_X11_answered f_X12_refuse
  generalize uI (uI S 200 1 0) 200 0 0 = S at *
  obtain ⟨v, hv, h9, hC, hA, hnm⟩ := hR.get
  obtain ⟨n1, n2, -⟩ := hC.2.2.2.2.2.2.2.2.2.2.2.2
  have n2' : C.1 17 0 = nI (v 163) := n2
  have a163 : S.1 205 (tn 163) = nI (v 163) := hA 163 (by decide)
  obtain ⟨q, e3, hq⟩ := in_is 0 9999 (by omega) S z
  rw [show f_X12_isIn z.toInt64 0 9999 S = _ from e3]
  rcases hq with ⟨rfl, n, hn1, hn, rfl⟩ | ⟨rfl, hy | ⟨n, hn, hw, rfl⟩⟩
  · have g0 : ¬ n < 0 := by omega
    have g1 : n ≤ 9999 := by omega
    rw [if_neg (show ¬ nI n < 0 by rw [n_ltl (by omega)]; exact g0), if_pos (show nI n ≤ 9999 by rw [n_lel (by omega)]; exact g1), bi_s, if_neg (show ¬ b2i true = 0 by decide), ck_l (by decide), n2', a163]
    by_cases e0 : v 163 = 0
    · rw [e0, if_pos (show nI 0 = 0 from rfl), if_pos (show nI 0 = 0 from rfl)]
      simp only [bM_e, bi_s]
      exact Same.mk (cl_ref hR _)
    · have e1 : v 163 = 1 := by omega
      rw [e1, if_neg (show ¬ nI 1 = 0 by decide), if_neg (show ¬ nI 1 = 0 by decide)]
      obtain ⟨C', S', v', st', cut, r1, r2, nr, kl, ev, km, r3, r4⟩ := run_both (p := 10) (L := 107) hN ⟨Or.inl rfl, Or.inl rfl⟩ hv h9 hC hA e1 (show n < 65536 by omega)
      rw [r1, bv_s, r2, bv_s, lv_tail, bM_e, bi_s]
      obtain ⟨k1, k2, k3, k4⟩ := kl
      obtain ⟨m1, m2, m3, m4⟩ := km
      obtain ⟨ra, rb, rc, rd, re, rx, rl⟩ := hR
      refine ⟨C'.1 107 4, _, lvT S', rfl, by rw [nr.2.2.2.2.1, nr.2.2.2.2.2.1], ?_⟩
      have e2 : (uI C' 0 0 0).2 = C.2 := k1
      have f2 : (lvT S').2 = S.2 := m1
      have ec : ∀ c, c ≠ 0 → c ≠ 10 → c ≠ 16 → c ≠ 107 → c ≠ 108 → c ≠ 91 → c ≠ 92 → (uI C' 0 0 0).1 c = C.1 c := fun c a b d e f g i => by rw [u_ne a, k2 c b d e f g i]
      have e0 : ∀ k, k ≠ 0 → (uI C' 0 0 0).1 0 k = C.1 0 k := fun k hk => by rw [us_same, g_upd, if_neg hk, k2 0 (by decide) (by decide) (by decide) (by decide) (by decide) (by decide)]
      have fc : ∀ c, c ≠ 200 → c ≠ 205 → c ≠ 209 → c ≠ 219 → (lvT S').1 c = S.1 c := fun c a b d e => by rw [lv_c S' a e, m2 c a b d]
      have f0 : ∀ k, k ≠ 42 → k < 43 → (lvT S').1 200 k = S.1 200 k := fun k a b => by rw [lv_k S' a, m3 k (Or.inl b)]
      have f5 : (lvT S').1 205 = S'.1 205 := lv_c S' (by decide) (by decide)
      obtain ⟨t0, t1, t2, t3, t4, t5⟩ := lv_r S'
      refine ⟨by rw [u_at, f0 0 (by decide) (by decide), hs], ra.same (by rw [e2]) (by rw [e2]) (by rw [f2]) (by rw [f2]), rb.same (e0 3 (by decide)) (ec 1 (by decide) (by decide) (by decide) (by decide) (by decide) (by decide) (by decide)) (f0 8 (by decide) (by decide)) (fc 204 (by decide) (by decide) (by decide) (by decide)), rc.same (ec 8 (by decide) (by decide) (by decide) (by decide) (by decide) (by decide) (by decide)) (ec 9 (by decide) (by decide) (by decide) (by decide) (by decide) (by decide) (by decide)) (fun t _ => by rw [e2]) (fc 201 (by decide) (by decide) (by decide) (by decide)) (fc 202 (by decide) (by decide) (by decide) (by decide)) (by rw [f2]), ⟨v', nr.1, nr.2.1, nr.2.2.1.same fun j hj => u_ne (by omega), fun k hk => by rw [f5, Nat.mul_zero, Nat.zero_add]; exact nr.2.2.2.1 k hk, fun g hg => ?_⟩, re.same (e0 4 (by decide)) (f0 24 (by decide) (by decide)) (fun c c1 c2 => ⟨ec c (by omega) (by omega) (by omega) (by omega) (by omega) (by omega) (by omega), by rw [e2]⟩) (fun k q1 q2 => by rw [f5, m4 k (by omega)]) (fun k _ _ => by rw [f2]), rx.same (by rw [ec 82 (by decide) (by decide) (by decide) (by decide) (by decide) (by decide) (by decide)]) (by rw [ec 82 (by decide) (by decide) (by decide) (by decide) (by decide) (by decide) (by decide)]) (f0 10 (by decide) (by decide)) (f0 11 (by decide) (by decide)), ⟨true, by rw [u_ne (by decide), k4]; rfl, t0, fun _ => ⟨cut, ?_, ?_, ?_, ?_, ?_, ?_⟩⟩⟩
      · rw [e2, f2, Nat.mul_zero, Nat.zero_add]
        exact hnm g (by rw [← ev 2 (by omega)]; exact hg)
      · rw [u_ne (by decide), t1]; exact nr.2.2.2.2.2.2.2.2.1
      · rw [u_ne (by decide), t2]; exact nr.2.2.2.2.2.2.2.2.2.1
      · rw [u_ne (by decide), t3]; exact nr.2.2.2.2.2.2.2.2.2.2.1
      · rw [u_ne (by decide), t4]; exact nr.2.2.2.2.2.2.2.2.2.2.2
      · rw [u_ne (by decide)]; exact r3
      · rw [t5]; exact r4
  · have l0 : z < 0 := by rw [fa_lt] at hy ⊢; exact hy
    rw [if_pos l0, bi_s, if_pos (show b2i false = 0 from rfl)]
    simp only [bM_e, bi_s]
    exact Same.mk (cl_ref hR _)
  · have l0 : ¬ n < 0 := by omega
    have l2 : ¬ n ≤ 9999 := by omega
    rw [if_neg (show ¬ nI n < 0 by rw [n_ltl (by omega)]; exact l0), if_neg (show ¬ nI n ≤ 9999 by rw [n_lel (by omega)]; exact l2), bi_s, if_pos (show b2i false = 0 from rfl)]
    simp only [bM_e, bi_s]
    exact Same.mk (cl_ref hR _)
end G6
