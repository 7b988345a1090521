section Q7
variable {N n lo : Nat} {A Z C S C0 S0 : Mem} {B : Nat → Nat} {v : Nat → Nat}
theorem l_same (M : Mem) (c k : Nat) (x : Int64) : (uL M c k x).2 c = vp_updL (M.2 c) k x := by rw [g_uL, if_pos rfl]
theorem l_ne {M : Mem} {a c k : Nat} {x : Int64} (h : a ≠ c) : (uL M c k x).2 a = M.2 a := by rw [g_uL, if_neg h]
theorem bd5 (k : Nat) (x : Int32) (S : Mem) : Bd (uI S 205 k x) = Bd S := Bd.u 205 k x (by decide) S
theorem b_12 (h : Bd S) : (S.1 200 12 = 0) = False := eq_false h.2.2
theorem b_12l (h : Bd S) : (S.1 200 12 ≤ 0) = False := eq_false h.2.1
theorem b_12g (h : Bd S) : (0 < S.1 200 12) = True := eq_true h.1
theorem b_boardN {j stp : Nat} (h : Bd S) (hj : j + stp < 2175) : f_X12_readBoard N 4 (nI j) (nI stp) S = some (uI (uI S 205 j (nI 0)) 205 (j + stp) (nI 0)) := by
  unfold f_X12_readBoard
  rw [show (435 : Int32) * 4 = nI 1740 from rfl, ck_n (by omega), b_cnt h, bi_s, n_addl, ck_n (by omega), b_cnt h, bi_s, ck_n (by omega), bM_e, t_n (by omega), nI_add, ck_n (by omega), bM_e, t_n (by omega)]
theorem b_board6 {j : Nat} (h : Bd S) (hj : j + 6 < 2175) : f_X12_readBoard N 4 (nI j) 6 S = some (uI (uI S 205 j (nI 0)) 205 (j + 6) (nI 0)) := b_boardN h hj
theorem b_board4 {j : Nat} (h : Bd S) (hj : j + 4 < 2175) : f_X12_readBoard N 4 (nI j) 4 S = some (uI (uI S 205 j (nI 0)) 205 (j + 4) (nI 0)) := b_boardN h hj
/-- a board of the port being read -/
theorem St.board {p2 i j stp W D : Nat} (hN : 1000 < N) (st : St n B lo A Z C S) (hi : i + 1 < ln p2 ∧ ln p2 < 2147483648) (hp : 23 < p2 ∧ p2 < 36) (c0 : A.1 23 0 = nI W) (c1 : A.1 23 1 = nI D) (s0 : Z.1 205 1740 = nI W) (s1 : Z.1 205 1741 = nI D) (hW : W < 100000 ∧ D < 100000) (hj : 1740 ≤ j ∧ j + stp < 2175) : ∃ b C' S', f_X6_readBoard N 23 p2 (nI i) C = some (b, C') ∧ f_X12_readBoard N 4 (nI j) (nI stp) S = some S' ∧ ((b = true ∧ ∃ x y, x < W ∧ y < D ∧ St n B (lo + 2) (uI (uI A p2 i (nI x)) p2 (i + 1) (nI y)) (uI (uI Z 205 j (nI x)) 205 (j + stp) (nI y)) C' S') ∨ (b = false ∧ Bd S' ∧ ∀ C0 S0, XC C0 A → XS S0 Z → XF n C0 S0 C' S')) := by
  unfold f_X6_readBoard f_X12_readBoard
  rw [show C.1 23 0 = nI W by rw [st.c (by decide)]; exact c0, show (435 : Int32) * 4 = nI 1740 from rfl, ck_n (by omega), t_n (by omega), show S.1 205 1740 = nI W by rw [st.s (by decide)]; exact s0]
  obtain ⟨b, x, C1, S1, e1, e2, ⟨rfl, h1, h9, st1⟩ | ⟨rfl, rfl, fl⟩⟩ := st.num0 (p1 := p2) (i := i) hN (by omega) (by omega) hW.1
  · rw [e1, bi_s, e2, bi_s, if_neg (by decide), n_addl, n_addl, ck_n (by omega), t_n (by omega), show C1.1 23 1 = nI D by rw [st1.c (by decide), u_ne (by omega)]; exact c1, show S1.1 205 (1740 + 1) = nI D by rw [st1.s (by decide)]; exact s1]
    obtain ⟨b, y, C2, S2, e3, e4, ⟨rfl, h2, h9', st2⟩ | ⟨rfl, rfl, fl⟩⟩ := st1.num0 (p1 := p2) (i := i + 1) hN (by omega) (by omega) hW.2
    · rw [e3, bi_s, e4, bi_s, if_neg (by decide), ck_n (by omega), bM_e, t_n (by omega), nI_add, ck_n (by omega), bM_e, t_n (by omega)]
      exact ⟨_, _, _, rfl, rfl, Or.inl ⟨rfl, x, y, h1, h2, (st2.us (by decide)).us (by decide)⟩⟩
    · rw [e3, bi_s, e4, bi_s, if_pos b2i_f, ck_n (by omega), bM_e, t_n (by omega), nI_add, ck_n (by omega), bM_e, t_n (by omega)]
      refine ⟨_, _, _, rfl, rfl, Or.inr ⟨rfl, ?_, fun C0 S0 xc xs => ?_⟩⟩
      · rw [bd5, bd5]; exact fl.bd
      · exact ((fl.xf (xc.u (by omega)) xs).us (by omega)).us (by omega)
  · rw [e1, bi_s, e2, bi_s, if_pos b2i_f, n_addl, ck_n (by omega), b_cnt fl.bd, bi_s, ck_n (by omega), bM_e, t_n (by omega), nI_add, ck_n (by omega), bM_e, t_n (by omega)]
    refine ⟨_, _, _, rfl, rfl, Or.inr ⟨rfl, ?_, fun C0 S0 xc xs => ?_⟩⟩
    · rw [bd5, bd5]; exact fl.bd
    · exact ((fl.xf xc xs).us (by omega)).us (by omega)
end Q7
