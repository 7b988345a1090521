section C1
variable {C S : Mem}
theorem e_status (h : Rel C S) : Same (f_X11_status C) (f_X12_status S) := by
  unfold f_X11_status f_X12_status
  rw [bM_e]
  have e : (uI S 200 1 0).1 200 0 = C.1 0 0 := by rw [g_uI, if_pos rfl, g_upd, if_neg (by decide), h.1]
  rw [e]
  exact Same.mk ⟨e.symm, h.re.s0 1 n_okM.2 0⟩
theorem e_top (h : Rel C S) : Same (f_X11_top C) (f_X12_top S) := by
  unfold f_X11_top f_X12_top
  rw [bM_e]
  have e : (uI S 200 1 0).1 200 0 = C.1 0 0 := by rw [g_uI, if_pos rfl, g_upd, if_neg (by decide), h.1]
  rw [show (uI S 200 1 0).2 200 2 = C.2 0 1 from h.2.1.1.symm]
  exact Same.mk ⟨e.symm, h.re.s0 1 n_okM.2 0⟩
theorem e_bottom (h : Rel C S) : Same (f_X11_bottom C) (f_X12_bottom S) := by
  unfold f_X11_bottom f_X12_bottom
  rw [bM_e]
  have e : (uI S 200 1 0).1 200 0 = C.1 0 0 := by rw [g_uI, if_pos rfl, g_upd, if_neg (by decide), h.1]
  rw [show (uI S 200 1 0).2 200 3 = C.2 0 2 from h.2.1.2.symm]
  exact Same.mk ⟨e.symm, h.re.s0 1 n_okM.2 0⟩
theorem e_fault (h : Rel C S) (x : Int32) : Same (f_X11_fault x C) (f_X12_fault x S) := by
  unfold f_X11_fault f_X12_fault
  rw [bM_e]
  have e : ∀ k, k ≠ 1 → (uI S 200 1 0).1 200 k = S.1 200 k := fun k hk => by rw [g_uI, if_pos rfl, g_upd, if_neg hk]
  have r : Rel C (uI S 200 1 0) := ⟨by rw [e 0 (by decide)]; exact h.1, h.re.s0 1 n_okM.2 0⟩
  rw [e 10 (by decide), e 11 (by decide), ← h.2.2.2.2.2.2.1.1, ← h.2.2.2.2.2.2.1.2]
  split
  · exact Same.mk r
  · split
    · exact Same.mk r
    · exact Same.mk r
/-- the model begins a call: thrown = 0, status = 0 -/
theorem Re.go (h : Rel C S) : Re C (uI (uI S 200 1 0) 200 0 0) := (h.re.s0 1 n_okM.2 0).s0 0 n_okM.1 0
theorem e_gate (h : Rel C S) (x y : Int32) : Same (f_X11_gate x y C) (f_X12_gate x y S) := by
  have hR := Re.go h
  have hs := S0_st S 0 0
  unfold f_X11_gate f_X12_gate f_X11_refused f_X11_answered f_X12_refuse
  simp only [bM_e]
  generalize uI (uI S 200 1 0) 200 0 0 = S at *
  obtain ⟨v, hv, -, hC, hA, -⟩ := hR.get
  have v2 := hv.1.2.2.1
  obtain ⟨b, e1, e2, hb⟩ := gate_is (v := v) (by omega) hC.1.2.2.2.2.1 (hA 2 (by omega)) x
  simp only [e1, e2, bi_s, b2i_0]
  cases b with
  | false => exact Same.mk (cl_ref hR _)
  | true =>
    obtain ⟨g, hg, rfl⟩ := hb rfl
    simp only [Bool.true_eq_false, if_false]
    obtain ⟨c, e3, hc⟩ := in_is 0 4 (by omega) S y
    rw [show f_X12_isIn y.toInt64 0 4 S = _ from e3]
    rcases hc with ⟨rfl, w, -, hw, rfl⟩ | ⟨rfl, hy | ⟨n, hn, hw, rfl⟩⟩
    · have hgf := hC.1.2.2.2.2.2 g hg
      have hgq := hC.2.2.2.2.2.2.2.1 g hg
      have e : C.1 11 (g * 5 + w) = nI (v (11 + 6 * w + g)) := by
        obtain rfl | rfl | rfl | rfl | rfl : w = 0 ∨ w = 1 ∨ w = 2 ∨ w = 3 ∨ w = 4 := by omega
        · exact hgf.1
        · exact hgf.2.1
        · exact hgf.2.2.1
        · exact hgf.2.2.2
        · exact hgq
      have a := hA (11 + 6 * w + g) (by omega)
      simp (disch := omega) only [n_tn, n_tl, n_t0, n_lt, n_le, n_eq, n_ltl, n_lel, n_eql, n_llt, n_lle, n_leq, n_m1l, n_m1r, n_addl, n_ladd, nI_add, n_mul, n_mull, n_lmul, n_sub, n_subl, n_div, n_divl, n_modd, true_and, and_true, bi_s, bv_s, bM_e, bI_e, bL_e, ck_n, ck_l, ck_0, e, a, nI_pos, if_false, Bool.true_eq_false, not_false_iff]
      rw [if_neg (by omega), if_pos (by omega)]
      exact Same.mk (cl_ok hR hs)
    · simp only [bi_s, if_pos hy, if_true]
      exact Same.mk (cl_ref hR _)
    · simp (disch := omega) only [n_tn, n_tl, n_t0, n_lt, n_le, n_eq, n_ltl, n_lel, n_eql, n_llt, n_lle, n_leq, n_m1l, n_m1r, n_addl, n_ladd, nI_add, n_mul, n_mull, n_lmul, n_sub, n_subl, n_div, n_divl, n_modd, bi_s, if_true]
      rw [if_neg (by omega), if_neg (by omega)]
      exact Same.mk (cl_ref hR _)
end C1
