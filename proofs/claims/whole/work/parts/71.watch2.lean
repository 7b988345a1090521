section W8
variable {N fr to : Nat} {M C S : Mem} {v : Nat → Nat} {R : Nat → Nat → Nat}
def inQ (qu : Nat → Nat) (m x : Nat) : Bool := (List.range m).any fun k => nd (qu k) == x
theorem inQ_is {qu : Nat → Nat} {m x : Nat} : inQ qu m x = true ↔ ∃ k, k < m ∧ nd (qu k) = x := by
  unfold inQ
  rw [List.any_eq_true]
  constructor
  · rintro ⟨k, a, b⟩
    exact ⟨k, List.mem_range.mp a, beq_iff_eq.mp b⟩
  · rintro ⟨k, a, b⟩
    exact ⟨k, List.mem_range.mpr a, beq_iff_eq.mpr b⟩
theorem scrW2 : ∀ c, c ∈ [96, 99, 100, 101, 102] → 83 ≤ c ∧ c < 107 := by intro c hc; simp at hc; omega
theorem scrR2 : ∀ c, c ∈ [214, 215] → scrS c := by intro c hc; simp at hc; unfold scrS; omega
theorem c_leastW (hN : 300 < N) (hv : VV v) (hC : PC C 10 v) (hfr : fr < v 0 * v 1) (hto : to < v 0 * v 1) (hne : fr ≠ to) : Ho (f_X7_leastWatch N 10 (nI fr) (nI to) C) (fun q => ∃ n, n ≤ 4 ∧ q.1 = nI n ∧ Sm [96, 99, 100, 101, 102] C q.2 ∧ MxF (capF v fr to) (2 * fr + 1) (2 * to) n) := by
  have hW : v 0 ≤ 6 ∧ v 1 ≤ 5 := ⟨hv.1.1, hv.1.2.1⟩
  have b30 := bd30 hW.1 hW.2
  unfold f_X7_leastWatch
  rw [Ho_bv]
  refine Ho_mono (c_fillI hN 0 (show ln 99 ≤ 240 by decide)) ?_
  rintro M1 ⟨s1, z1⟩
  have z1' : ∀ k, k < 30 → M1.1 99 k = 0 := z1
  rw [Ho_bv]
  refine Ho_mono (c_fillI hN 0 (show ln 100 ≤ 240 by decide)) ?_
  rintro M2 ⟨s2, z2⟩
  have z2' : ∀ k, k < 150 → M2.1 100 k = 0 := z2
  refine Ho_lp (fun i a M' => ∃ R, a = (nI fr, nI to, nI i, nI i) ∧ Sm [96, 99, 100, 101, 102] C M' ∧ RpC v M' R ∧ FL (capF v fr to) R (net (2 * fr + 1) (2 * to) i)) 4 (by omega) ⟨capF v fr to, rfl, (s1.mono (by simp)).tr (s2.mono (by simp)), ⟨fun b hb => ?_, fun b d w hb d1 d2 hn => ?_⟩, net_0 _ _⟩ ?_
  · rw [s2.2 99 (by simp), z1' b (by omega), cF_self hW]; rfl
  · have := (nb_is hW hb ⟨d1, d2⟩ hn).2.1
    rw [z2' _ (by omega), cF_ne this]; rfl
  rintro i hi k hk _ M3 ⟨R, rfl, s3, r3, f3⟩
  have hC3 := hC.sm s3 scrW2
  unfold f_X7_leastWatch_h22
  dsimp only
  by_cases g : 4 ≤ i
  · have : i = 4 := by omega
    subst this
    rw [if_pos (by decide), Ho_some]
    refine ⟨4, by omega, rfl, s3, ⟨R, f3⟩, fun R' m h' => ?_⟩
    have h1 := fl_out h' (by omega) (by omega)
    have h2 : zs (fun y => (capF v fr to (2 * fr + 1) y : Int)) 60 ≤ 4 := cap4 fun b => by split <;> omega
    omega
  · rw [if_neg (by rw [n_lle (by omega)]; exact g), Ho_bi]
    refine Ho_mono (c_find hN hv hC3 f3 r3 hfr hto hne) ?_
    rintro ⟨r, M4⟩ ⟨s4, m, qu, bq, hd⟩
    dsimp only at s4 hd ⊢
    rcases hd with ⟨rfl, kt, k1, k2⟩ | ⟨rfl, z, cl⟩
    · have s4' : Sm [96, 99, 100, 101, 102] M3 M4 := s4.mono (by simp)
      rw [if_neg (by decide), Ho_bv]
      refine Ho_mono (c_lay hN hv (hC3.sm s4' scrW2) f3 (r3.sm s4) hfr hto bq k1 k2) ?_
      rintro M5 ⟨s5, R5, r5, f5⟩
      rw [n_addl]
      exact hk (by omega) _ _ ⟨R5, rfl, (s3.tr s4').tr (s5.mono (by simp)), r5, f5⟩
    · rw [if_pos (by decide), Ho_some]
      refine ⟨i, by omega, rfl, s3.tr (s4.mono (by simp)), ⟨R, f3⟩, fun R' m' h' => ?_⟩
      refine fl_le (A := inQ qu m) f3 h' (by omega) ?_ ?_ fun x y hx hy ha hR => ?_
      · exact inQ_is.mpr ⟨0, bq.2.1, by rw [bq.2.2.2.1, nd_out]⟩
      · rw [← Bool.not_eq_true, inQ_is]
        rintro ⟨kk, a, b⟩
        have : qu kk = to := nd_inj (by rw [b, nd_in (by omega)])
        have := (bq.2.2.2.2.1 kk a).2.2.2
        rename_i e1
        rw [e1] at this
        exact this z
      · obtain ⟨kk, a, b⟩ := inQ_is.mp ha
        rw [← b] at hR
        exact inQ_is.mpr (cl kk y a hy hR)
theorem e_watch (hN : 4000 < N) (h : Rel C S) (x y x2 y2 : Int32) : Same (f_X11_watch N x y x2 y2 C) (f_X12_watch N x y x2 y2 S) := by
  have hR := Re.go h
  have hs := S0_st S 0 0
  unfold f_X11_watch f_X12_watch f_X11_refused f_X11_answered f_X12_refuse f_X5_boardAt f_X12_board
  simp only [bM_e]
  generalize uI (uI S 200 1 0) 200 0 0 = S at *
  obtain ⟨v, hv, h9, hC, hA, hn⟩ := hR.get
  have v0 := hv.1.1
  have v1 := hv.1.2.1
  have b30 := bd30 v0 v1
  obtain ⟨b, e1, e2, hb⟩ := board_is (v := v) (by omega) hC.1.1 hC.1.2.1 (hA 0 (by omega)) (hA 1 (by omega)) x y
  obtain ⟨b', e1', e2', hb'⟩ := board_is (v := v) (by omega) hC.1.1 hC.1.2.1 (hA 0 (by omega)) (hA 1 (by omega)) x2 y2
  simp only [e1, e2, e1', e2', bi_s, b2i_0]
  cases b with
  | false => exact Same.mk (cl_ref hR _)
  | true =>
    simp only [Bool.true_eq_false, if_false]
    cases b' with
    | false => exact Same.mk (cl_ref hR _)
    | true =>
      simp only [Bool.true_eq_false, if_false]
      by_cases g : 2 ≤ iabs (x - x2) + iabs (y - y2)
      · rw [if_pos g, if_pos g]
        obtain ⟨c1, r1, hc1, hr1, rfl, rfl⟩ := hb rfl
        obtain ⟨c2, r2, hc2, hr2, rfl, rfl⟩ := hb' rfl
        have hf : v 0 * r1 + c1 < v 0 * v 1 := by rw [Nat.mul_comm (v 0) r1]; exact bd hc1 hr1
        have ht : v 0 * r2 + c2 < v 0 * v 1 := by rw [Nat.mul_comm (v 0) r2]; exact bd hc2 hr2
        have hne : v 0 * r1 + c1 ≠ v 0 * r2 + c2 := fun z => by
          have q1 : c1 = c2 := by
            have a1 : (v 0 * r1 + c1) % v 0 = c1 := by rw [Nat.mul_add_mod]; exact Nat.mod_eq_of_lt hc1
            have a2 : (v 0 * r2 + c2) % v 0 = c2 := by rw [Nat.mul_add_mod]; exact Nat.mod_eq_of_lt hc2
            rw [← a1, z, a2]
          have q2 : r1 = r2 := Nat.eq_of_mul_eq_mul_left (show 0 < v 0 by omega) (by omega)
          rw [q1, q2, Int32.sub_self, Int32.sub_self] at g
          exact absurd g (by decide)
        rw [ck_l (by decide), bi_s, ck_l (by decide), bi_s, show tn 0 = 0 from rfl, hA 0 (by omega), hC.1.1, n_mul r1, n_mul r2, n_mul (v 0) r1, n_mul (v 0) r2, Nat.mul_comm r1, Nat.mul_comm r2, nI_add, nI_add]
        obtain ⟨⟨q, C1⟩, p1, n, n1, n2, n3, n4⟩ := c_leastW (N := N) (by omega) hv hC hf ht hne
        obtain ⟨⟨q', S1⟩, p1', n', n1', n2', n3', n4'⟩ := m_roads (N := N) (by omega) hv hA hf ht
        dsimp only at n2 n3 n2' n3'
        have en := n4.eq n4'
        subst en
        rw [p1, p1', bi_s, bi_s, n2, n2']
        exact Same.mk (cl_for hR hs n3 scrW2 n3' scrR2)
      · rw [if_neg g, if_neg g]
        exact Same.mk (cl_ref hR _)
end W8
