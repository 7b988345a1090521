/-! two loops in step -/
theorem lq2 {α α' β β' : Type} {body : (α → Mem → Option β) → α → Mem → Option β} {body' : (α' → Mem → Option β') → α' → Mem → Option β'} {R : Option β → Option β' → Prop} (P : Nat → α → Mem → α' → Mem → Prop) (n : Nat) {F F' : Nat} {a : α} {M : Mem} {a' : α'} {M' : Mem} (hF : n < F) (hF' : n < F') (h0 : P 0 a M a' M') (hb : ∀ i, i ≤ n → ∀ k k', (i < n → ∀ a M a' M', P (i + 1) a M a' M' → R (k a M) (k' a' M')) → ∀ a M a' M', P i a M a' M' → R (body k a M) (body' k' a' M')) : R (lp body F a M) (lp body' F' a' M') := by
  have key : ∀ m i, i + m = n → ∀ F F', m < F → m < F' → ∀ a M a' M', P i a M a' M' → R (lp body F a M) (lp body' F' a' M') := by
    intro m
    induction m with
    | zero =>
      intro i hi F F' hF hF' a M a' M' hP
      obtain ⟨F, rfl⟩ : ∃ G, F = G + 1 := ⟨F - 1, by omega⟩
      obtain ⟨F', rfl⟩ : ∃ G, F' = G + 1 := ⟨F' - 1, by omega⟩
      exact hb i (by omega) _ _ (fun z => absurd z (by omega)) a M a' M' hP
    | succ m ih =>
      intro i hi F F' hF hF' a M a' M' hP
      obtain ⟨F, rfl⟩ : ∃ G, F = G + 1 := ⟨F - 1, by omega⟩
      obtain ⟨F', rfl⟩ : ∃ G, F' = G + 1 := ⟨F' - 1, by omega⟩
      exact hb i (by omega) _ _ (fun _ a1 M1 a2 M2 h' => ih (i + 1) (by omega) F F' (by omega) (by omega) a1 M1 a2 M2 h') a M a' M' hP
  exact key n 0 (by omega) F F' hF hF' a M a' M' h0
theorem u_at (M : Mem) (c k : Nat) (x : Int32) : (uI M c k x).1 c k = x := by rw [g_uI, if_pos rfl, g_upd, if_pos rfl]
theorem pow_ge1 (n : Nat) : 1 ≤ 2 ^ n := Nat.one_le_two_pow
/-! longs beside lN -/
theorem l_add (a b : Nat) : lN a + lN b = lN (a + b) := by
  unfold lN
  rw [← Int64.ofNat_add]
theorem l_mul (a b : Nat) : lN a * lN b = lN (a * b) := by
  unfold lN
  rw [← Int64.ofNat_mul]
theorem l_sub {a b : Nat} (h : b ≤ a) : lN a - lN b = lN (a - b) := by
  unfold lN
  rw [Int64.ofNat_sub _ _ h]
theorem l_toInt {a : Nat} (h : a < 9223372036854775808) : (lN a).toInt = (a : Int) := lg_ofNat_toInt h
theorem l_div {a b : Nat} (h : a < 9223372036854775808 ∧ b < 9223372036854775808) : lN a / lN b = lN (a / b) := by
  rw [← Int64.toInt_inj, Int64.toInt_div_of_ne_left _ _ (by
    intro e
    have := l_toInt h.1
    rw [e] at this
    have : Int64.minValue.toInt = -9223372036854775808 := by decide
    omega), l_toInt h.1, l_toInt h.2, l_toInt (Nat.lt_of_le_of_lt (Nat.div_le_self a b) h.1)]
  rfl
theorem l_mod {a b : Nat} (h : a < 9223372036854775808 ∧ b < 9223372036854775808) : lN a - lN a / lN b * lN b = lN (a % b) := by
  rw [l_div h, l_mul, l_sub (Nat.div_mul_le_self a b)]
  congr 1
  have := Nat.div_add_mod a b
  rw [Nat.mul_comm] at this
  omega
theorem l_eq {a b : Nat} (h : a < 9223372036854775808 ∧ b < 9223372036854775808) : (lN a = lN b) = (a = b) := propext ⟨fun e => by have := congrArg Int64.toInt e; rw [l_toInt h.1, l_toInt h.2] at this; omega, fun e => by rw [e]⟩
theorem l_lt {a b : Nat} (h : a < 9223372036854775808 ∧ b < 9223372036854775808) : (lN a < lN b) = (a < b) := propext (by rw [fa_lt64, l_toInt h.1, l_toInt h.2]; omega)
theorem l_eq0 {a : Nat} (h : a < 9223372036854775808) : (lN a = 0) = (a = 0) := l_eq ⟨h, by decide⟩
/-! the fraction -/
def gs : Nat → Nat → Nat → Nat
  | 0, _, y => y
  | n + 1, x, y => if y = 0 then 0 else gs n y (x % y)
theorem gs_0 (n x : Nat) : gs n x 0 = 0 := by
  cases n with
  | zero => rfl
  | succ n => rw [gs, if_pos rfl]
theorem gs_end : ∀ k x y, y < 2 ^ k → gs (2 * k) x y = 0
  | 0, x, y, h => by
    have : y = 0 := by simpa using h
    rw [this]
    rfl
  | k + 1, x, y, h => by
    rw [show 2 * (k + 1) = 2 * k + 1 + 1 by omega, gs]
    split
    · rfl
    · rw [gs]
      split
      · rfl
      · rename_i h1 h2
        apply gs_end k
        have a1 : x % y < y := Nat.mod_lt _ (by omega)
        have a2 : y % (x % y) < x % y := Nat.mod_lt _ (by omega)
        have a3 := Nat.div_add_mod y (x % y)
        have a4 : 1 ≤ y / (x % y) := Nat.div_pos (by omega) (by omega)
        have a5 := Nat.mul_le_mul_left (x % y) a4
        have : 2 ^ (k + 1) = 2 * 2 ^ k := by rw [Nat.pow_succ, Nat.mul_comm]
        omega
def FrR (C S : Mem) (o : Option Mem) (o' : Option (Bool × Mem)) : Prop := ∃ x y : Int64, o = some (uL (uL C 0 1 x) 0 2 y) ∧ o' = some (true, uL (uL S 200 2 x) 200 3 y)
theorem fr_one {N t b : Nat} {C S : Mem} (hN : 200 < N) (ht : t < 1073741824) (hb : 0 < b ∧ b < 1073741824) : FrR C S (f_X11_tellFraction N (lN t) (lN b) C) (f_X12_fraction N (lN t) (lN b) S) := by
  unfold f_X11_tellFraction f_X12_fraction
  have e : labs (lN t) = lN t := by
    unfold labs
    split
    · rfl
    · rename_i h
      have : ¬ 0 < t := by
        intro z
        apply h
        rw [show (0 : Int64) = lN 0 from rfl, l_lt (by omega)]
        exact z
      have : t = 0 := by omega
      subst this
      rfl
  rw [e]
  refine lq2 (R := FrR C S) (fun i a M a' M' => ∃ x y, a = (lN t, lN b, lN x, lN y, nI i) ∧ a' = (lN t, lN b, lN x, lN y) ∧ M = C ∧ M' = S ∧ x < 1073741824 ∧ y < 1073741824 ∧ (y = 0 → 0 < x) ∧ gs (60 - i) x y = 0) 60 (by omega) (by omega) ⟨t, b, rfl, rfl, rfl, rfl, ht, hb.2, fun z => by omega, gs_end 30 t b (by omega)⟩ ?_
  rintro i hi k k' hk _ _ _ _ ⟨x, y, rfl, rfl, rfl, rfl, hx, hy, h0, hg⟩
  unfold f_X11_tellFraction_h9 f_X12_fraction_h9 f_X11_tellFraction_b44
  dsimp only
  have l1 : ¬ 100 ≤ i := by omega
  have ly : (lg_cmp (lN y) 0 = 0) = (y = 0) := by rw [lg_eq0]; exact l_eq0 (by omega)
  by_cases z : y = 0
  · have hx0 := h0 z
    have nx : ¬ lN x = 0 := by rw [l_eq0 (by omega)]; omega
    rw [if_neg (show ¬ (100 : Int32) ≤ nI i by rw [n_lle (by omega)]; exact l1), if_pos (show lg_cmp (lN y) 0 = 0 by rw [ly]; exact z), if_pos (show lg_cmp (lN y) 0 = 0 by rw [ly]; exact z), if_pos (show 0 < lg_cmp (lN x) 0 by rw [lg_gt0, show (0 : Int64) = lN 0 from rfl, l_lt (by omega)]; exact hx0)]
    simp only [bM_e, czL_e nx]
    exact ⟨_, _, rfl, rfl⟩
  · have ny : ¬ lN y = 0 := by rw [l_eq0 (by omega)]; exact z
    rw [if_neg (show ¬ (100 : Int32) ≤ nI i by rw [n_lle (by omega)]; exact l1), if_neg (show ¬ lg_cmp (lN y) 0 = 0 by rw [ly]; exact z), if_neg (show ¬ lg_cmp (lN y) 0 = 0 by rw [ly]; exact z), czL_e ny, czL_e ny, l_mod (by omega), n_addl]
    have i60 : i < 60 := by
      rcases Nat.lt_or_ge i 60 with h | h
      · exact h
      · rw [show 60 - i = 0 by omega] at hg
        exact absurd hg z
    have hm := Nat.mod_lt x (show 0 < y by omega)
    refine hk i60 _ _ _ _ ⟨y, x % y, rfl, rfl, rfl, rfl, hy, by omega, fun _ => by omega, ?_⟩
    rw [show 60 - i = 60 - (i + 1) + 1 by omega, gs, if_neg z] at hg
    exact hg
/-- a call that tells a fraction -/
theorem cl_fr {C S : Mem} (h : Re C S) (hs : S.1 200 0 = 0) (x y : Int64) : Rel (uI (uL (uL C 0 1 x) 0 2 y) 0 0 0) (uL (uL S 200 2 x) 200 3 y) := by
  obtain ⟨ra, rb, rc, rd, rm, re, rf⟩ := h
  have oc : ∀ c, c ≠ 0 → (uI (uL (uL C 0 1 x) 0 2 y) 0 0 0).1 c = C.1 c := fun c hc => by rw [g_uI, if_neg hc]; rfl
  have o0 : ∀ k, k ≠ 0 → (uI (uL (uL C 0 1 x) 0 2 y) 0 0 0).1 0 k = C.1 0 k := fun k hk => by rw [g_uI, if_pos rfl, g_upd, if_neg hk]; rfl
  have oL : ∀ c, c ≠ 0 → (uI (uL (uL C 0 1 x) 0 2 y) 0 0 0).2 c = C.2 c := fun c hc => by rw [g_uI2, g_uL, if_neg hc, g_uL, if_neg hc]
  have sL : ∀ c, c ≠ 200 → (uL (uL S 200 2 x) 200 3 y).2 c = S.2 c := fun c hc => by rw [g_uL, if_neg hc, g_uL, if_neg hc]
  refine ⟨by rw [u_at]; exact hs.symm, ⟨?_, ?_⟩, rb.same (o0 3 (by decide)) (oc 1 (by decide)) rfl rfl, rc.same (oc 8 (by decide)) (oc 9 (by decide)) (fun t ht => oL _ (by omega)) rfl rfl (sL 203 (by decide)), rd.same (fun j hj => oc _ (by omega)) (oL _ (by omega)) (fun k _ => rfl) (fun g _ => by rw [sL 208 (by decide)]), rm.same (o0 4 (by decide)) rfl (fun c h1 h2 => ⟨oc c (by omega), oL c (by omega)⟩) (fun _ _ _ => rfl) (fun k _ _ => by rw [sL 208 (by decide)]), re.same (by rw [oc 82 (by decide)]) (by rw [oc 82 (by decide)]) rfl rfl, rf.same (oc 107 (by decide)) rfl rfl⟩
  · simp [g_uI2, g_uL, g_updL]
  · simp [g_uI2, g_uL, g_updL]
/-! sets of holders -/
def pop (a : Nat) : Nat := fa_cnt (fun k => a.testBit k) 6
theorem pop_le (a : Nat) : pop a ≤ 6 := fa_cnt_le _ 6
theorem c_bits (M : Mem) : ∀ a, a < 64 → f_J6_bitCount_0f7a4 (nI a) M = some (nI (pop a), M) := by
  have h : ∀ a, a < 64 → (f_J6_bitCount_0f7a4 (nI a) (fun _ _ => 0, fun _ _ => 0)).map Prod.fst = some (nI (pop a)) := by decide +kernel
  intro a ha
  have := h a ha
  unfold f_J6_bitCount_0f7a4 at this ⊢
  simp only [bI_e, Option.map_some, Option.some.injEq] at this ⊢
  rw [this]
section C6
variable {N : Nat} {C S : Mem} {v : Nat → Nat}
theorem m_size {a : Nat} (hN : 100 < N) (ha : a < 64) (M : Mem) : f_X12_sizeOf N (nI a) M = some (nI (pop a), M) := by
  apply Ho_e
  unfold f_X12_sizeOf
  refine Ho_lp (fun i x M' => x = (nI a, nI (fa_cnt (fun k => a.testBit k) i), nI i) ∧ M' = M) 6 (by omega) ⟨rfl, rfl⟩ ?_
  rintro i hi k hk _ _ ⟨rfl, rfl⟩
  unfold f_X12_sizeOf_h4 f_X12_sizeOf_b24
  by_cases g : 6 ≤ i
  · have e : i = 6 := by omega
    subst e
    simp (disch := omega) only [n_tn, n_tl, n_t0, n_lt, n_le, n_eq, n_ltl, n_lel, n_eql, n_llt, n_lle, n_leq, n_m1l, n_m1r, n_addl, n_ladd, nI_add, n_mul, n_mull, n_lmul, n_sub, n_subl, n_div, n_divl, n_modd, true_and, and_true, bi_s, bv_s, bM_e, bI_e, bL_e, ck_n, ck_l, ck_0, Nat.le_refl, if_true, Ho_some]
    rfl
  · simp (disch := omega) only [n_tn, n_tl, n_t0, n_lt, n_le, n_eq, n_ltl, n_lel, n_eql, n_llt, n_lle, n_leq, n_m1l, n_m1r, n_addl, n_ladd, nI_add, n_mul, n_mull, n_lmul, n_sub, n_subl, n_div, n_divl, n_modd, true_and, and_true, bi_s, bv_s, bM_e, bI_e, bL_e, ck_n, ck_l, ck_0, if_neg g, cm_has, b2i_0]
    by_cases t : a.testBit i = true
    · rw [if_neg (by rw [t]; decide)]
      refine hk (by omega) _ _ ⟨?_, rfl⟩
      rw [fa_cnt_yes (p := fun k => a.testBit k) t]
    · simp at t
      rw [if_pos t]
      refine hk (by omega) _ _ ⟨?_, rfl⟩
      rw [fa_cnt_no (p := fun k => a.testBit k) t, Nat.add_zero]
def vot (v : Nat → Nat) (a : Nat) : Nat → Nat
  | 0 => 0
  | n + 1 => vot v a n + (if a.testBit n then v (41 + n) else 0)
theorem vot_le (hv : VV v) (a : Nat) : ∀ n, n ≤ v 3 → vot v a n ≤ 20 * n
  | 0, _ => Nat.le_refl _
  | n + 1, h => by
    have ih := vot_le hv a n (by omega)
    have := hv.2.2.2.2.2.2.2.1 n (by omega)
    rw [vot]
    split <;> omega
abbrev canv (v : Nat → Nat) (g a : Nat) : Bool := decide (v (35 + g) ≤ vot v a (v 3))
theorem c_can {g a : Nat} (hN : 100 < N) (hv : VV v) (hC : PC C 10 v) (hg : g < v 2) (ha : a < 64) : f_X5_canOpen N 10 (nI g) (nI a) C = some (canv v g a, C) := by
  have v2 := hv.1.2.2.1
  have v3 := hv.2.1
  have h1 : f_X5_votesTogether N 10 (nI a) C = some (nI (vot v a (v 3)), C) := by
    apply Ho_e
    unfold f_X5_votesTogether
    refine Ho_lp (fun i x M' => x = (nI a, nI (vot v a i), nI i) ∧ M' = C) (v 3) (by omega) ⟨rfl, rfl⟩ ?_
    rintro i hi k hk _ _ ⟨rfl, rfl⟩
    unfold f_X5_votesTogether_h4 f_X5_votesTogether_b30
    have c8 := hC.2.2.2.2.1
    by_cases q : v 3 ≤ i
    · have e : i = v 3 := by omega
      subst e
      simp (disch := omega) only [n_tn, n_tl, n_t0, n_lt, n_le, n_eq, n_ltl, n_lel, n_eql, n_llt, n_lle, n_leq, n_m1l, n_m1r, n_addl, n_ladd, nI_add, n_mul, n_mull, n_lmul, n_sub, n_subl, n_div, n_divl, n_modd, true_and, and_true, bi_s, bv_s, bM_e, bI_e, bL_e, ck_n, ck_l, ck_0, c8, Nat.le_refl, if_true, Ho_some]
    · have c3 := hC.2.2.2.2.2.2.2.2.1 i (by omega)
      simp (disch := omega) only [n_tn, n_tl, n_t0, n_lt, n_le, n_eq, n_ltl, n_lel, n_eql, n_llt, n_lle, n_leq, n_m1l, n_m1r, n_addl, n_ladd, nI_add, n_mul, n_mull, n_lmul, n_sub, n_subl, n_div, n_divl, n_modd, true_and, and_true, bi_s, bv_s, bM_e, bI_e, bL_e, ck_n, ck_l, ck_0, c8, if_neg q, n_bit, c3]
      by_cases t : a.testBit i = true
      · rw [if_pos t]
        refine hk (by omega) _ _ ⟨?_, rfl⟩
        rw [vot, if_pos t]
      · rw [if_neg t]
        refine hk (by omega) _ _ ⟨?_, rfl⟩
        rw [vot, if_neg t]
        rfl
  have q := hC.2.2.2.2.2.2.2.1 g hg
  have b1 := vot_le hv a (v 3) (Nat.le_refl _)
  have b2 := hv.2.2.2.2.2.2.1 g hg
  unfold f_X5_canOpen f_X5_quotaOf
  simp (disch := omega) only [h1, n_tn, n_tl, n_t0, n_lt, n_le, n_eq, n_ltl, n_lel, n_eql, n_llt, n_lle, n_leq, n_m1l, n_m1r, n_addl, n_ladd, nI_add, n_mul, n_mull, n_lmul, n_sub, n_subl, n_div, n_divl, n_modd, true_and, and_true, bi_s, bv_s, bM_e, bI_e, bL_e, ck_n, ck_l, ck_0, q]
  by_cases c : vot v a (v 3) < v (35 + g)
  · rw [if_pos c]
    simp [canv, show ¬ v (35 + g) ≤ vot v a (v 3) by omega]
  · rw [if_neg c]
    simp [canv, show v (35 + g) ≤ vot v a (v 3) by omega]
theorem m_can {g a : Nat} (hN : 100 < N) (hv : VV v) (hA : Ar S 205 435 v) (hg : g < v 2) (ha : a < 64) : f_X12_can N (nI g) (nI a) S = some (canv v g a, S) := by
  have v2 := hv.1.2.2.1
  have v3 := hv.2.1
  have h1 : f_X12_votesOf N (nI a) S = some (nI (vot v a (v 3)), S) := by
    apply Ho_e
    unfold f_X12_votesOf
    refine Ho_lp (fun i x M' => x = (nI a, nI (vot v a i), nI i) ∧ M' = S) (v 3) (by omega) ⟨rfl, rfl⟩ ?_
    rintro i hi k hk _ _ ⟨rfl, rfl⟩
    unfold f_X12_votesOf_h4 f_X12_votesOf_b36
    have c8 := hA 3 (by omega)
    by_cases q : v 3 ≤ i
    · have e : i = v 3 := by omega
      subst e
      simp (disch := omega) only [n_tn, n_tl, n_t0, n_lt, n_le, n_eq, n_ltl, n_lel, n_eql, n_llt, n_lle, n_leq, n_m1l, n_m1r, n_addl, n_ladd, nI_add, n_mul, n_mull, n_lmul, n_sub, n_subl, n_div, n_divl, n_modd, true_and, and_true, bi_s, bv_s, bM_e, bI_e, bL_e, ck_n, ck_l, ck_0, c8, Nat.le_refl, if_true, Ho_some]
    · have c3 := hA (41 + i) (by omega)
      simp (disch := omega) only [n_tn, n_tl, n_t0, n_lt, n_le, n_eq, n_ltl, n_lel, n_eql, n_llt, n_lle, n_leq, n_m1l, n_m1r, n_addl, n_ladd, nI_add, n_mul, n_mull, n_lmul, n_sub, n_subl, n_div, n_divl, n_modd, true_and, and_true, bi_s, bv_s, bM_e, bI_e, bL_e, ck_n, ck_l, ck_0, c8, if_neg q, cm_has, c3, b2i_0]
      by_cases t : a.testBit i = true
      · rw [if_neg (by rw [t]; decide)]
        refine hk (by omega) _ _ ⟨?_, rfl⟩
        rw [vot, if_pos t]
      · simp at t
        rw [if_pos t]
        refine hk (by omega) _ _ ⟨?_, rfl⟩
        rw [vot, t]
        rfl
  have q := hA (35 + g) (by omega)
  have b1 := vot_le hv a (v 3) (Nat.le_refl _)
  have b2 := hv.2.2.2.2.2.2.1 g hg
  unfold f_X12_can
  simp (disch := omega) only [h1, n_tn, n_tl, n_t0, n_lt, n_le, n_eq, n_ltl, n_lel, n_eql, n_llt, n_lle, n_leq, n_m1l, n_m1r, n_addl, n_ladd, nI_add, n_mul, n_mull, n_lmul, n_sub, n_subl, n_div, n_divl, n_modd, true_and, and_true, bi_s, bv_s, bM_e, bI_e, bL_e, ck_n, ck_l, ck_0, q]
  by_cases c : vot v a (v 3) < v (35 + g)
  · rw [if_pos c]
    simp [canv, show ¬ v (35 + g) ≤ vot v a (v 3) by omega]
  · rw [if_neg c]
    simp [canv, show v (35 + g) ≤ vot v a (v 3) by omega]
theorem c_allh (hv : VV v) (hC : PC C 10 v) : f_X5_allHolders 10 C = some (nI (2 ^ v 3 - 1), C) := by
  have v3 := hv.2.1
  unfold f_X5_allHolders
  rw [hC.2.2.2.2.1, n_shl1 (by omega), n_subl (pow_ge1 _)]
theorem m_allh (hv : VV v) (hA : Ar S 205 435 v) : f_X12_allHolders S = some (nI (2 ^ v 3 - 1), S) := by
  have v3 := hv.2.1
  unfold f_X12_allHolders
  rw [ck_l (by omega), show tn 3 = 3 from rfl, hA 3 (by omega), n_shl1 (by omega), n_subl (pow_ge1 _)]
theorem set_is (hv : VV v) (hC : PC C 10 v) (hA : Ar S 205 435 v) (x : Int32) : ∃ b, f_X5_isHolderSet 10 x C = some (b, C) ∧ f_X12_isSet x S = some (b, S) ∧ (b = true → ∃ a, a < 2 ^ v 3 ∧ x = nI a) := by
  have p64 := pow_le64 hv.2.1
  have p1 := pow_ge1 (v 3)
  unfold f_X5_isHolderSet f_X12_isSet
  rw [m_allh hv hA, bi_s]
  rcases i32c x with h | ⟨n, hn, rfl⟩
  · refine ⟨false, by rw [if_pos h], ?_, fun z => by cases z⟩
    rw [show (0 : Int64) = lN 0 from rfl, m_inneg h (by omega), bi_s]
  · refine ⟨decide (n < 2 ^ v 3), ?_, ?_, fun z => ⟨n, of_decide_eq_true z, rfl⟩⟩
    · rw [if_neg (nI_pos hn), c_allh hv hC, bi_s]
      by_cases g : n < 2 ^ v 3
      · rw [if_neg (by rw [n_lt (by omega)]; omega)]; simp [g]
      · rw [if_pos (by rw [n_lt (by omega)]; omega)]; simp [g]
    · rw [nI_l (show 2 ^ v 3 - 1 < 2147483648 by omega), show (0 : Int64) = lN 0 from rfl, m_inl ⟨hn, by omega, by omega⟩, bi_s]
      congr 2
      simp
      omega
theorem e_together (hN : 200 < N) (h : Rel C S) (x y : Int32) : Same (f_X11_together N x y C) (f_X12_together N x y S) := by
  have hR := Re.go h
  have hs := S0_st S 0 0
  unfold f_X11_together f_X12_together f_X11_refused f_X11_answered f_X12_refuse
  simp only [bM_e]
  generalize uI (uI S 200 1 0) 200 0 0 = S at *
  obtain ⟨v, hv, h9, hC, hA, hn⟩ := hR.get
  have v2 := hv.1.2.2.1
  have p64 := pow_le64 hv.2.1
  obtain ⟨b, e1, e2, hb⟩ := gate_is (v := v) (by omega) hC.1.2.2.2.2.1 (hA 2 (by omega)) x
  simp only [e1, e2, bi_s, b2i_0]
  cases b with
  | false => exact Same.mk (cl_ref hR _)
  | true =>
    obtain ⟨g, hg, rfl⟩ := hb rfl
    obtain ⟨b, e1, e2, hb⟩ := set_is hv hC hA y
    simp only [e1, e2, bi_s, Bool.true_eq_false, if_false]
    cases b with
    | false => exact Same.mk (cl_ref hR _)
    | true =>
      obtain ⟨a, ha, rfl⟩ := hb rfl
      simp only [c_can (show 100 < N by omega) hv hC hg (show a < 64 by omega), m_can (show 100 < N by omega) hv hA hg (show a < 64 by omega), bi_s, Bool.true_eq_false, if_false]
      split
      · exact Same.mk (cl_ok hR hs)
      · exact Same.mk (cl_ok hR hs)
theorem e_openBy (hN : 200 < N) (h : Rel C S) (x y : Int32) : Same (f_X11_openBy N x y C) (f_X12_openBy N x y S) := by
  have hR := Re.go h
  have hs := S0_st S 0 0
  unfold f_X11_openBy f_X12_openBy f_X11_refusedFlag f_X11_granted f_X12_no f_X5_setOpen
  simp only [bM_e]
  generalize uI (uI S 200 1 0) 200 0 0 = S at *
  obtain ⟨v, hv, h9, hC, hA, hn⟩ := hR.get
  have v2 := hv.1.2.2.1
  have h10 := hv.2.2.2.2.2.1
  have p64 := pow_le64 hv.2.1
  have p64' := pow_le64 v2
  obtain ⟨b, e1, e2, hb⟩ := gate_is (v := v) (by omega) hC.1.2.2.2.2.1 (hA 2 (by omega)) x
  simp only [e1, e2, bi_s, b2i_0]
  cases b with
  | false => exact Same.mk (cl_ref hR _)
  | true =>
    obtain ⟨g, hg, rfl⟩ := hb rfl
    obtain ⟨b, e1, e2, hb⟩ := set_is hv hC hA y
    simp only [e1, e2, bi_s, Bool.true_eq_false, if_false]
    cases b with
    | false => exact Same.mk (cl_ref hR _)
    | true =>
      obtain ⟨a, ha, rfl⟩ := hb rfl
      have a10 := hA 10 (by omega)
      have c6 := hC.2.2.2.1
      simp (disch := omega) only [n_tn, n_tl, n_t0, n_lt, n_le, n_eq, n_ltl, n_lel, n_eql, n_llt, n_lle, n_leq, n_m1l, n_m1r, n_addl, n_ladd, nI_add, n_mul, n_mull, n_lmul, n_sub, n_subl, n_div, n_divl, n_modd, true_and, and_true, bi_s, bv_s, bM_e, bI_e, bL_e, ck_n, ck_l, ck_0, cc_open c6 (show v 10 < 2147483648 ∧ g < 31 by omega), a10, cm_has, c_can (show 100 < N by omega) hv hC hg (show a < 64 by omega), m_can (show 100 < N by omega) hv hA hg (show a < 64 by omega), if_false, Bool.true_eq_false, n_shl1, zb_1]
      by_cases t : (v 10).testBit g = true
      · rw [t]
        simp only [Bool.true_eq_false, if_false]
        exact Same.mk (cl_ref hR _)
      · simp at t
        rw [t]
        simp only [if_true]
        by_cases c : canv v g a = true
        · rw [c]
          simp only [Bool.true_eq_false, if_false]
          rw [c6, fa_or, or_xor t]
          simp
          have hlt : v 10 ^^^ 2 ^ g < 2 ^ v 2 := Nat.xor_lt_two_pow h10 (Nat.pow_lt_pow_right (by decide) hg)
          refine Same.mk (hR.doing hv hC hn ((KC.rf.u (by simp [scrC]) _ _).st _) (KS.rf.c (by omega) _) ?_ (hA.put 10 (v 10 ^^^ 2 ^ g)) (fun i hi => pt_ne (by omega)) h9 hv.1.2.2.2.1 hlt (fun k h1 h2 h3 => ?_) hC.1.2.2.1 hC.2.2.1 rfl (fun j hj => ?_) (Or.inl ⟨rfl, fun i h1 h2 => pt_ne (by omega)⟩) (Or.inl ⟨rfl, fun i h1 h2 => pt_ne (by omega)⟩))
          · rw [g_uI, if_pos rfl, g_upd, if_pos rfl, g_uI, if_neg (by decide), hs]
          · rw [g_uI, if_neg (by decide), g_uI, if_pos rfl, g_upd, if_neg h3]
          · rw [g_uI, if_neg (by omega), g_uI, if_neg (by omega)]
        · simp only [Bool.not_eq_true] at c
          rw [c]
          simp only [if_true]
          exact Same.mk (cl_ref hR _)
theorem e_reach (hN : 200 < N) (h : Rel C S) (x : Int32) : Same (f_X11_reach N x C) (f_X12_reach N x S) := by
  have hR := Re.go h
  have hs := S0_st S 0 0
  unfold f_X11_reach f_X12_reach f_X11_refused f_X12_refuse
  simp only [bM_e]
  generalize uI (uI S 200 1 0) 200 0 0 = S at *
  obtain ⟨v, hv, h9, hC, hA, hn⟩ := hR.get
  have v2 := hv.1.2.2.1
  have p64 := pow_le64 hv.2.1
  obtain ⟨b, e1, e2, hb⟩ := set_is hv hC hA x
  simp only [e1, e2, bi_s, b2i_0]
  cases b with
  | false => exact Same.mk (cl_ref hR _)
  | true =>
    obtain ⟨a, ha, rfl⟩ := hb rfl
    simp only [Bool.true_eq_false, if_false]
    refine lq2 (R := Same) (fun i x M x' M' => ∃ y, x = (nI a, y, nI i) ∧ x' = (nI a, y, nI i) ∧ M = C ∧ M' = S) (v 2) (by omega) (by omega) ⟨0, rfl, rfl, rfl, rfl⟩ ?_
    rintro i hi k k' hk _ _ _ _ ⟨y, rfl, rfl, rfl, rfl⟩
    unfold f_X11_reach_h21 f_X12_reach_h28 f_X11_reach_b50 f_X12_reach_b55 f_X11_answered
    have c7 := hC.1.2.2.2.2.1
    have a2 := hA 2 (by omega)
    by_cases q : v 2 ≤ i
    · simp (disch := omega) only [n_tn, n_tl, n_t0, n_lt, n_le, n_eq, n_ltl, n_lel, n_eql, n_llt, n_lle, n_leq, n_m1l, n_m1r, n_addl, n_ladd, nI_add, n_mul, n_mull, n_lmul, n_sub, n_subl, n_div, n_divl, n_modd, true_and, and_true, bi_s, bv_s, bM_e, bI_e, bL_e, ck_n, ck_l, ck_0, c7, a2, if_pos q]
      exact Same.mk (cl_ok hR hs)
    · simp (disch := omega) only [n_tn, n_tl, n_t0, n_lt, n_le, n_eq, n_ltl, n_lel, n_eql, n_llt, n_lle, n_leq, n_m1l, n_m1r, n_addl, n_ladd, nI_add, n_mul, n_mull, n_lmul, n_sub, n_subl, n_div, n_divl, n_modd, true_and, and_true, bi_s, bv_s, bM_e, bI_e, bL_e, ck_n, ck_l, ck_0, c7, a2, if_neg q, c_can (show 100 < N by omega) hv hC (show i < v 2 by omega) (show a < 64 by omega), m_can (show 100 < N by omega) hv hA (show i < v 2 by omega) (show a < 64 by omega), b2i_0]
      split
      · exact hk (by omega) _ _ _ _ ⟨_, rfl, by rw [Int32.or_zero], rfl, rfl⟩
      · exact hk (by omega) _ _ _ _ ⟨_, rfl, rfl, rfl, rfl⟩
/-- why no gate can be opened at all -/
theorem vote_is (hN : 200 < N) (hv : VV v) (hC : PC C 10 v) (hA : Ar S 205 435 v) (x : Int32) : ∃ r, f_X11_codeOfVoting N x C = some (r, C) ∧ f_X12_whyNoGate N x S = some (r, S) ∧ ((r = 0 ∧ ∃ g, g < v 2 ∧ x = nI g) ∨ r = 2 ∨ r = 8) := by
  have v2 := hv.1.2.2.1
  have p64 := pow_le64 hv.2.1
  have p1 := pow_ge1 (v 3)
  obtain ⟨b, e1, e2, hb⟩ := gate_is (v := v) (by omega) hC.1.2.2.2.2.1 (hA 2 (by omega)) x
  unfold f_X11_codeOfVoting f_X12_whyNoGate
  simp only [e1, e2, bi_s, b2i_0]
  cases b with
  | false => exact ⟨2, rfl, rfl, Or.inr (Or.inl rfl)⟩
  | true =>
    obtain ⟨g, hg, rfl⟩ := hb rfl
    simp only [Bool.true_eq_false, if_false, c_allh hv hC, m_allh hv hA, bi_s, c_can (show 100 < N by omega) hv hC hg (show 2 ^ v 3 - 1 < 64 by omega), m_can (show 100 < N by omega) hv hA hg (show 2 ^ v 3 - 1 < 64 by omega)]
    split
    · exact ⟨8, rfl, rfl, Or.inr (Or.inr rfl)⟩
    · exact ⟨0, rfl, rfl, Or.inl ⟨rfl, g, hg, rfl⟩⟩
end C6
