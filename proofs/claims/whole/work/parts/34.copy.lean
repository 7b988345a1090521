theorem us_same (M : Mem) (c k : Nat) (v : Int32) : (uI M c k v).1 c = upd (M.1 c) k v := if_pos rfl
theorem u_ne {M : Mem} {c k a : Nat} {v : Int32} (h : a ≠ c) : (uI M c k v).1 a = M.1 a := if_neg h
theorem r_same (M : Mem) (c : Nat) (f : Nat → Int32) : (rI M c f).1 c = f := if_pos rfl
theorem r_ne {M : Mem} {c a : Nat} {f : Nat → Int32} (h : a ≠ c) : (rI M c f).1 a = M.1 a := if_neg h
theorem rL_same (M : Mem) (c : Nat) (f : Nat → Int64) : (rL M c f).2 c = f := if_pos rfl
theorem rL_ne {M : Mem} {c a : Nat} {f : Nat → Int64} (h : a ≠ c) : (rL M c f).2 a = M.2 a := if_neg h
theorem cp_in {α : Type} {f g : Nat → α} {n k : Nat} (h : k < n) : va_cpy f g 0 0 n k = f k := by
  rw [g_cpy, if_pos ⟨Nat.zero_le _, by omega⟩]
  congr 1
  omega
theorem SqL.ptw {C C' : Mem} {q q' : Nat} {v : Nat → Nat} {B B' : Nat → Nat → Nat → Nat → Prop} (hB : ∀ x y a b, b ≤ 60 → B x y a b → B' x y a b) (h : ∀ j k, 1 ≤ j → j < 6 → k < 60 → C'.1 (q' + j) k = C.1 (q + j) k) : ∀ n x y a b, b ≤ 60 → SqL C q v B n x y a b → SqL C' q' v B' n x y a b
  | 0, _, _, _, _, _, h => h
  | n + 1, x, y, a, b, hb, hq => by
    have ih := SqL.ptw (v := v) hB h n
    unfold SqL at hq ⊢
    rcases hq with hq | ⟨a1, a2, a3, hq⟩
    · exact Or.inl hq
    · refine Or.inr ⟨a1, a2, ?_, ?_⟩
      · unfold StOK at a3 ⊢
        rw [h 1 a (by omega) (by omega) (by omega), h 2 a (by omega) (by omega) (by omega), h 3 a (by omega) (by omega) (by omega), h 4 a (by omega) (by omega) (by omega)]
        exact a3
      · rcases hq with ⟨b1, b2, b3⟩ | ⟨b1, b2, b3, m, b4, b5, b6, b7, b8, b9, b10⟩
        · exact Or.inl ⟨b1, b2, ih _ _ _ _ hb b3⟩
        · exact Or.inr ⟨b1, b2, b3, m, b4, b5, hB _ _ _ _ (by omega) b6, by rw [h 1 m (by omega) (by omega) (by omega)]; exact b7, by rw [h 5 m (by omega) (by omega) (by omega)]; exact b8, by rw [h 5 a (by omega) (by omega) (by omega)]; exact b9, ih _ _ _ _ hb b10⟩
theorem Sq.ptw {C C' : Mem} {q q' : Nat} {v : Nat → Nat} (h : ∀ j k, 1 ≤ j → j < 6 → k < 60 → C'.1 (q' + j) k = C.1 (q + j) k) : ∀ d x y a b, b ≤ 60 → Sq C q v d x y a b → Sq C' q' v d x y a b
  | 0 => SqL.ptw (fun _ _ _ _ _ h => h) h 60
  | d + 1 => SqL.ptw (Sq.ptw h d) h 60
/-- nights q' of C' as nights q of C -/
def NEq (C : Mem) (q : Nat) (C' : Mem) (q' : Nat) : Prop := (∀ k, k < 3 → C'.1 q' k = C.1 q k) ∧ ∀ j k, 1 ≤ j → j < 6 → k < 60 → C'.1 (q' + j) k = C.1 (q + j) k
/-- port p' of C' as port p of C -/
def PEq (C : Mem) (p : Nat) (C' : Mem) (p' : Nat) : Prop := (∀ k, k < 11 → C'.1 p' k = C.1 p k) ∧ (∀ k, k < 30 → C'.1 (p' + 1) k = C.1 (p + 1) k) ∧ (∀ k, k < 6 → C'.2 (p' + 2) k = C.2 (p + 2) k) ∧ (∀ k, k < 6 → C'.1 (p' + 3) k = C.1 (p + 3) k) ∧ (∀ k, k < 36 → C'.1 (p' + 4) k = C.1 (p + 4) k) ∧ (∀ k, k < 20 → C'.1 (p' + 5) k = C.1 (p + 5) k) ∧ (∀ k, k < 60 → C'.1 (p' + 6) k = C.1 (p + 6) k) ∧ NEq C (p + 7) C' (p' + 7)
theorem PN.eq {C C' : Mem} {q q' : Nat} {v : Nat → Nat} (h : PN C q v) (e : NEq C q C' q') : PN C' q' v := by
  obtain ⟨a, b, c⟩ := h
  refine ⟨a, by rw [e.1 0 (by omega)]; exact b, fun z => ?_⟩
  obtain ⟨d, w, e1, f, g⟩ := c z
  exact ⟨d, w, e1, by rw [e.1 1 (by omega)]; exact f, Sq.ptw e.2 _ _ _ _ _ e1 g⟩
theorem PC.eq {C C' : Mem} {p p' : Nat} {v : Nat → Nat} (hv : VV v) (h : PC C p v) (e : PEq C p C' p') : PC C' p' v := by
  obtain ⟨⟨a0, a1, a2, a3, a4, a5⟩, b4, b5, b6, b8, b9, b10, bg, bh, bt, bs, bf, bn⟩ := h
  obtain ⟨e0, e1, -, e3, e4, e5, e6, e7⟩ := e
  have v2 := hv.1.2.2.1
  have v3 := hv.2.1
  have v4 := hv.2.2.1
  have v5 := hv.2.2.2.1
  refine ⟨⟨by rw [e0 0 (by omega)]; exact a0, by rw [e0 1 (by omega)]; exact a1, by rw [e0 2 (by omega)]; exact a2, by rw [e0 3 (by omega)]; exact a3, by rw [e0 7 (by omega)]; exact a4, fun g hg => ?_⟩, by rw [e0 4 (by omega)]; exact b4, by rw [e0 5 (by omega)]; exact b5, by rw [e0 6 (by omega)]; exact b6, by rw [e0 8 (by omega)]; exact b8, by rw [e0 9 (by omega)]; exact b9, by rw [e0 10 (by omega)]; exact b10, fun g hg => ?_, fun g hg => ?_, fun t ht => ?_, fun s hs => ?_, fun k hk => ?_, bn.eq e7⟩
  · rw [e1 _ (by omega), e1 _ (by omega), e1 _ (by omega), e1 _ (by omega)]
    exact a5 g hg
  · rw [e1 _ (by omega)]
    exact bg g hg
  · rw [e3 _ (by omega)]
    exact bh g hg
  · rw [e4 _ (by omega), e4 _ (by omega), e4 _ (by omega), e4 _ (by omega), e4 _ (by omega), e4 _ (by omega)]
    exact bt t ht
  · rw [e5 _ (by omega), e5 _ (by omega), e5 _ (by omega), e5 _ (by omega), e5 _ (by omega)]
    exact bs s hs
  · rw [e6 k hk]
    exact bf k hk
/-- cells a .. b - 1 may have changed, no others -/
def Out (a b : Nat) (M M' : Mem) : Prop := ∀ c, c < a ∨ b ≤ c → M'.1 c = M.1 c ∧ M'.2 c = M.2 c
theorem c_ncopy {p0 p1 : Nat} {M : Mem} {b : Bool} (hd : p0 + 6 ≤ p1 ∨ p1 + 6 ≤ p0) (hb : M.1 p1 0 = b2i b) : Ho (f_X3_copyFrom p0 p1 M) (fun M' => Out p0 (p0 + 6) M M' ∧ M'.2 = M.2 ∧ NEq M p1 M' p0) := by
  unfold f_X3_copyFrom
  simp only [hb, zb_b, bM_e, n_t0, n_tl 60 (by decide), Ho_some]
  refine ⟨fun c hc => ⟨?_, rfl⟩, rfl, fun k hk => ?_, fun j k h1 h2 hk => ?_⟩
  · simp (disch := omega) only [u_ne, r_ne]
  · simp (disch := omega) only [u_ne, r_ne, us_same]
    obtain rfl | rfl | rfl : k = 0 ∨ k = 1 ∨ k = 2 := by omega
    · simp [g_upd, hb]
    · simp [g_upd]
    · simp [g_upd]
  · obtain rfl | rfl | rfl | rfl | rfl : j = 1 ∨ j = 2 ∨ j = 3 ∨ j = 4 ∨ j = 5 := by omega
    all_goals simp (disch := omega) only [u_ne, r_ne, r_same, cp_in]
theorem c_copy {p0 p1 : Nat} {M : Mem} {b : Bool} (hd : p0 + 13 ≤ p1 ∨ p1 + 13 ≤ p0) (hb : M.1 (p1 + 7) 0 = b2i b) : Ho (f_X5_copyFrom p0 p1 M) (fun M' => Out p0 (p0 + 13) M M' ∧ PEq M p1 M' p0) := by
  unfold f_X5_copyFrom
  simp only [bM_e, n_t0, n_tl 60 (by decide), n_tl 30 (by decide), n_tl 6 (by decide), n_tl 36 (by decide), n_tl 20 (by decide)]
  rw [Ho_bv]
  refine Ho_mono (c_ncopy (b := b) (by omega) ?_) ?_
  · simp (disch := omega) only [u_ne, r_ne, g_rL2]
    exact hb
  · rintro M' ⟨ho, h2, hn1, hn2⟩
    rw [Ho_some]
    have e1 : ∀ c, c < p0 + 7 ∨ p0 + 13 ≤ c → M'.1 c = _ := fun c hc => (ho c (by omega)).1
    refine ⟨fun c hc => ⟨?_, ?_⟩, fun k hk => ?_, fun k hk => ?_, fun k hk => ?_, fun k hk => ?_, fun k hk => ?_, fun k hk => ?_, fun k hk => ?_, fun k hk => ?_, fun j k a1 a2 hk => ?_⟩
    · rw [e1 c (by omega)]
      simp (disch := omega) only [u_ne, r_ne, g_rL2]
    · rw [h2]
      simp (disch := omega) only [rL_ne, g_rI2, g_uI2]
    · rw [e1 _ (by omega)]
      simp (disch := omega) only [u_ne, r_ne, us_same, g_rL2]
      obtain rfl | rfl | rfl | rfl | rfl | rfl | rfl | rfl | rfl | rfl | rfl : k = 0 ∨ k = 1 ∨ k = 2 ∨ k = 3 ∨ k = 4 ∨ k = 5 ∨ k = 6 ∨ k = 7 ∨ k = 8 ∨ k = 9 ∨ k = 10 := by omega
      all_goals simp [g_upd]
    · rw [e1 _ (by omega)]
      simp (disch := omega) only [u_ne, r_ne, r_same, g_rL2, cp_in]
    · rw [h2]
      simp (disch := omega) only [rL_ne, rL_same, g_rI2, g_uI2, cp_in]
    · rw [e1 _ (by omega)]
      simp (disch := omega) only [u_ne, r_ne, r_same, g_rL2, cp_in]
    · rw [e1 _ (by omega)]
      simp (disch := omega) only [u_ne, r_ne, r_same, g_rL2, cp_in]
    · rw [e1 _ (by omega)]
      simp (disch := omega) only [u_ne, r_ne, r_same, g_rL2, cp_in]
    · rw [e1 _ (by omega)]
      simp (disch := omega) only [u_ne, r_ne, r_same, g_rL2, cp_in]
    · rw [hn1 k hk]
      simp (disch := omega) only [u_ne, r_ne, g_rL2]
    · rw [hn2 j k a1 a2 hk]
      simp (disch := omega) only [u_ne, r_ne, g_rL2]
/-- the model's copy of blocks -/
theorem m_copy {N a b : Nat} {S : Mem} (hN : 500 < N) (hab : a < 5 ∧ b < 5 ∧ a ≠ b) : Ho (f_X12_copy N (nI a) (nI b) S) (fun S' => (∀ c, c ≠ 205 → S'.1 c = S.1 c) ∧ (∀ c, c ≠ 208 → S'.2 c = S.2 c) ∧ (∀ k, k < 435 → S'.1 205 (435 * b + k) = S.1 205 (435 * a + k)) ∧ (∀ k, k < 435 * b ∨ 435 * b + 435 ≤ k → S'.1 205 k = S.1 205 k) ∧ (∀ k, k < 22 → S'.2 208 (22 * b + k) = S.2 208 (22 * a + k)) ∧ (∀ k, k < 22 * b ∨ 22 * b + 22 ≤ k → S'.2 208 k = S.2 208 k)) := by
  unfold f_X12_copy
  refine Ho_lp (fun i x S' => x = (nI a, nI b, nI i) ∧ S'.2 = S.2 ∧ (∀ c, c ≠ 205 → S'.1 c = S.1 c) ∧ (∀ k, k < i → S'.1 205 (435 * b + k) = S.1 205 (435 * a + k)) ∧ (∀ k, k < 435 * b ∨ 435 * b + i ≤ k → S'.1 205 k = S.1 205 k)) 435 (by omega) ⟨rfl, rfl, fun _ _ => rfl, fun k hk => absurd hk (Nat.not_lt_zero k), fun _ _ => rfl⟩ ?_
  rintro i hi k hk _ S1 ⟨rfl, h2, h1, hc, ho⟩
  unfold f_X12_copy_h2
  by_cases g : 435 ≤ i
  · have e : i = 435 := by omega
    subst e
    simp (disch := omega) only [n_tn, n_tl, n_t0, n_lt, n_le, n_eq, n_ltl, n_lel, n_eql, n_llt, n_lle, n_leq, n_m1l, n_m1r, n_addl, n_ladd, nI_add, n_mul, n_mull, n_lmul, n_sub, n_subl, n_div, n_divl, n_modd, true_and, and_true, bi_s, bv_s, bM_e, bI_e, bL_e, ck_n, ck_l, ck_0, if_pos g]
    refine Ho_lp (fun i x S' => x = (nI a, nI b, nI i) ∧ S'.1 = S1.1 ∧ (∀ c, c ≠ 208 → S'.2 c = S.2 c) ∧ (∀ k, k < i → S'.2 208 (22 * b + k) = S.2 208 (22 * a + k)) ∧ (∀ k, k < 22 * b ∨ 22 * b + i ≤ k → S'.2 208 k = S.2 208 k)) 22 (by omega) ⟨rfl, rfl, fun c _ => by rw [h2], fun k hk => absurd hk (Nat.not_lt_zero k), fun k _ => by rw [h2]⟩ ?_
    rintro i hi k hk _ S2 ⟨rfl, q1, q2, q3, q4⟩
    unfold f_X12_copy_h41
    by_cases g : 22 ≤ i
    · have e : i = 22 := by omega
      subst e
      simp (disch := omega) only [n_tn, n_tl, n_t0, n_lt, n_le, n_eq, n_ltl, n_lel, n_eql, n_llt, n_lle, n_leq, n_m1l, n_m1r, n_addl, n_ladd, nI_add, n_mul, n_mull, n_lmul, n_sub, n_subl, n_div, n_divl, n_modd, true_and, and_true, bi_s, bv_s, bM_e, bI_e, bL_e, ck_n, ck_l, ck_0, if_pos g, Ho_some]
      exact ⟨fun c hc => by rw [q1]; exact h1 c hc, q2, fun k hk => by rw [q1]; exact hc k hk, fun k hk => by rw [q1]; exact ho k hk, q3, q4⟩
    · simp (disch := omega) only [n_tn, n_tl, n_t0, n_lt, n_le, n_eq, n_ltl, n_lel, n_eql, n_llt, n_lle, n_leq, n_m1l, n_m1r, n_addl, n_ladd, nI_add, n_mul, n_mull, n_lmul, n_sub, n_subl, n_div, n_divl, n_modd, true_and, and_true, bi_s, bv_s, bM_e, bI_e, bL_e, ck_n, ck_l, ck_0, if_neg g]
      refine hk (by omega) _ _ ⟨rfl, q1, fun c hc => ?_, fun k hk => ?_, fun k hk => ?_⟩
      · rw [g_uL, if_neg hc]
        exact q2 c hc
      · rw [g_uL, if_pos rfl, g_updL]
        by_cases e : k = i
        · rw [if_pos (by omega), e]
          exact q4 _ (by omega)
        · rw [if_neg (by omega)]
          exact q3 k (by omega)
      · rw [g_uL, if_pos rfl, g_updL, if_neg (by omega)]
        exact q4 k (by omega)
  · simp (disch := omega) only [n_tn, n_tl, n_t0, n_lt, n_le, n_eq, n_ltl, n_lel, n_eql, n_llt, n_lle, n_leq, n_m1l, n_m1r, n_addl, n_ladd, nI_add, n_mul, n_mull, n_lmul, n_sub, n_subl, n_div, n_divl, n_modd, true_and, and_true, bi_s, bv_s, bM_e, bI_e, bL_e, ck_n, ck_l, ck_0, if_neg g]
    refine hk (by omega) _ _ ⟨rfl, h2, fun c hc => ?_, fun k hk => ?_, fun k hk => ?_⟩
    · rw [g_uI, if_neg hc]
      exact h1 c hc
    · rw [g_uI, if_pos rfl, g_upd]
      by_cases e : k = i
      · rw [if_pos (by omega), e]
        exact ho _ (by omega)
      · rw [if_neg (by omega)]
        exact hc k (by omega)
    · rw [g_uI, if_pos rfl, g_upd, if_neg (by omega)]
      exact ho k (by omega)
