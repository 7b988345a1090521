/-! tries -/
def okT (G u : Nat) : Prop := u / 100 < G ∧ u / 10 % 10 < G ∧ u % 10 ≤ 1
def cnT (T : Nat → Nat) : Nat → Nat → Nat → Bool
  | 0 => fun _ _ => true
  | j + 1 => fun key g => cnT T j key g && !(decide (T j / 100 = key) && (decide (g = T j / 10 % 10) == decide (T j % 10 = 0)))
theorem cnT_s (T : Nat → Nat) (j key g : Nat) : cnT T (j + 1) key g = (cnT T j key g && !(decide (T j / 100 = key) && (decide (g = T j / 10 % 10) == decide (T j % 10 = 0)))) := rfl
section F1
variable {N : Nat} {C S M : Mem} {G : Nat} {cn : Nat → Nat → Bool}
/-- the class's row can -/
def CnR (M : Mem) (G : Nat) (cn : Nat → Nat → Bool) : Prop := M.1 103 0 = nI G ∧ ∀ key g, key < G → g < G → M.1 104 (key * 6 + g) = b2i (cn key g)
theorem c_follow2 {s i : Nat} (hG : G ≤ 6) (hs : s < 64) (hi : i < G) (h : CnR M G cn) : f_X1_canFollow (nI s) (nI i) M = some (cfK G cn s i, M) := by
  have pl := pop_le s
  unfold f_X1_canFollow cfK
  rw [c_bits M s hs, bi_s, h.1]
  by_cases g : G ≤ pop s
  · rw [if_pos (by rw [n_le (by omega)]; exact g), decide_eq_false (by omega)]
    rfl
  · rw [if_neg (by rw [n_le (by omega)]; exact g), decide_eq_true (by omega)]
    cases t : s.testBit i with
    | true =>
      rw [if_neg (by rw [n_bit0 (by omega), t]; decide)]
      rfl
    | false =>
      rw [if_pos (by rw [n_bit0 (by omega)]; exact t), n_mull, nI_add, ck_n (by omega), t_n (by omega), h.2 (pop s) i (by omega) hi]
      cases cn (pop s) i <;> rfl
/-- firstWays, restWays -/
def KwR (M : Mem) (G : Nat) (cn : Nat → Nat → Bool) : Prop := CnR M G cn ∧ M.1 103 1 = nI (rwS G cn 0) ∧ ∃ F, FwP G cn F (2 ^ G - 1) ∧ (∀ t, t < 2 ^ G → M.1 105 t = nI (F t)) ∧ ∀ t, t < 2 ^ G → M.1 106 t = nI (rwS G cn t)
theorem CnR.oth {c k : Nat} {x : Int32} (h : CnR M G cn) (hc : c ≠ 103 ∧ c ≠ 104) : CnR (uI M c k x) G cn := ⟨by rw [u_ne (Ne.symm hc.1)]; exact h.1, fun key g h1 h2 => by rw [u_ne (Ne.symm hc.2)]; exact h.2 key g h1 h2⟩
theorem c_count2 (hN : 300 < N) (hG : G ≤ 6) (h : CnR M G cn) : Ho (f_X1_countWays N M) (fun M' => Sm [103, 104, 105, 106] M M' ∧ KwR M' G cn) := by
  have p64 := pow_le64 hG
  have p1 := pow_ge1 G
  have pa := pop_all G (by omega)
  unfold f_X1_countWays
  rw [bI_e, h.1, n_shl1 (by omega), n_subl (pow_ge1 _), Ho_bv]
  refine Ho_mono (c_fillI hN 0 (by rw [ln_105]; omega)) ?_
  rintro M1 ⟨s1, z1⟩
  rw [Ho_bv]
  refine Ho_mono (c_fillI hN 0 (by rw [ln_106]; omega)) ?_
  rintro M2 ⟨s2, z2⟩
  rw [ln_105] at z1
  rw [ln_106] at z2
  rw [ck_0 (by omega), bM_e, ck_n (by omega), bM_e, t_n (by omega), show tn 0 = 0 from rfl]
  have S2 : Sm [103, 104, 105, 106] M (uI (uI M2 105 0 1) 106 (2 ^ G - 1) 1) := (((s1.mono (by simp)).tr (s2.mono (by simp))).uI (by simp)).uI (by simp)
  have cr0 : CnR (uI (uI M2 105 0 1) 106 (2 ^ G - 1) 1) G cn := by
    refine ⟨?_, fun key g h1 h2 => ?_⟩
    · rw [u_ne (by decide), u_ne (by decide), s2.2 103 (by simp), s1.2 103 (by simp)]; exact h.1
    · rw [u_ne (by decide), u_ne (by decide), s2.2 104 (by simp), s1.2 104 (by simp)]; exact h.2 key g h1 h2
  have f0 : ∀ t, t < 2 ^ G → (uI (uI M2 105 0 1) 106 (2 ^ G - 1) 1).1 105 t = nI (if t = 0 then 1 else 0) := fun t ht => by
    rw [u_ne (by decide), us_same, g_upd]
    by_cases e : t = 0
    · rw [if_pos e, if_pos e]; rfl
    · rw [if_neg e, if_neg e, s2.2 105 (by simp), z1 t (by omega)]; rfl
  have g0 : ∀ t, t < 2 ^ G → (uI (uI M2 105 0 1) 106 (2 ^ G - 1) 1).1 106 t = nI (if t = 2 ^ G - 1 then 1 else 0) := fun t ht => by
    rw [us_same, g_upd]
    by_cases e : t = 2 ^ G - 1
    · rw [if_pos e, if_pos e]; rfl
    · rw [if_neg e, if_neg e, u_ne (by decide), z2 t (by omega)]; rfl
  generalize uI (uI M2 105 0 1) 106 (2 ^ G - 1) 1 = M3 at *
  refine Ho_lp (fun s a M' => a = (nI (2 ^ G - 1), nI s) ∧ Sm [103, 104, 105, 106] M M' ∧ CnR M' G cn ∧ M'.1 106 = M3.1 106 ∧ ∃ F, FwP G cn F s ∧ ∀ t, t < 2 ^ G → M'.1 105 t = nI (F t)) (2 ^ G - 1) (by omega) ⟨rfl, S2, cr0, rfl, fun t => if t = 0 then 1 else 0, FwP_0 (if_pos rfl) (fun t ht => if_neg ht), f0⟩ ?_
  rintro s hs k41 hk41 _ M4 ⟨rfl, s4, c4, e4, F, w4, f4⟩
  unfold f_X1_countWays_h41
  dsimp only
  by_cases gs : 2 ^ G - 1 ≤ s
  · have es : s = 2 ^ G - 1 := by omega
    subst es
    rw [if_pos (by rw [n_le (by omega)]; exact gs)]
    have fa := Fw_all hG w4
    -- the rest, from above
    refine Ho_lp (fun j a M' => a = (nI (2 ^ G - 1), if j < 2 ^ G - 1 then nI (2 ^ G - 2 - j) else -1) ∧ Sm [103, 104, 105, 106] M M' ∧ CnR M' G cn ∧ M'.1 105 = M4.1 105 ∧ (∀ t, t < 2 ^ G → 2 ^ G - 1 - j ≤ t → M'.1 106 t = nI (rwS G cn t)) ∧ ∀ t, t < 2 ^ G - 1 - j → M'.1 106 t = 0) (2 ^ G - 1) (by omega) ⟨?_, s4, c4, rfl, fun t h1 h2 => ?_, fun t h1 => ?_⟩ ?_
    · by_cases z : 0 < 2 ^ G - 1
      · rw [if_pos z, n_subl (by omega)]; rfl
      · rw [if_neg z, show 2 ^ G - 1 = 0 by omega]; rfl
    · have et : t = 2 ^ G - 1 := by omega
      rw [e4, g0 t h1, if_pos et, et]
      unfold rwS
      rw [(pa (2 ^ G - 1) (by omega)).2.2, Nat.sub_self]
      rfl
    · rw [e4, g0 t (by omega), if_neg (by omega)]; rfl
    rintro j hj k100 hk100 _ M5 ⟨rfl, s5, c5, e5, q5, z5⟩
    unfold f_X1_countWays_h100
    dsimp only
    by_cases gj : j < 2 ^ G - 1
    case neg =>
      have ej : j = 2 ^ G - 1 := by omega
      subst ej
      rw [if_neg gj, if_pos (show (-1 : Int32) < 0 by decide), ck_n (by omega), bM_e, Ho_some, t_n (by omega), e5, f4 _ (by omega), fa]
      refine ⟨s5.uI (by simp), ⟨by rw [us_same, g_upd, if_neg (by decide)]; exact c5.1, fun key g h1 h2 => by rw [u_ne (by decide)]; exact c5.2 key g h1 h2⟩, u_at _ _ _ _, F, w4, fun t ht => ?_, fun t ht => ?_⟩
      · rw [u_ne (by decide), e5]; exact f4 t ht
      · rw [u_ne (by decide)]; exact q5 t ht (by omega)
    rw [if_pos gj, if_neg (nI_pos (n := 2 ^ G - 2 - j) (by omega))]
    have hps : pop (2 ^ G - 2 - j) < G := by
      have := pa (2 ^ G - 2 - j) (by omega)
      rcases Nat.lt_or_ge (pop (2 ^ G - 2 - j)) G with z | z
      · exact z
      · have := this.1 (by omega); omega
    have rs := rwS_s (cn := cn) hG (show 2 ^ G - 2 - j < 64 by omega) hps
    generalize hsv : 2 ^ G - 2 - j = sv at *
    refine Ho_lp (fun i a M' => a = (nI (2 ^ G - 1), nI sv, nI i) ∧ Sm [103, 104, 105, 106] M M' ∧ CnR M' G cn ∧ M'.1 105 = M4.1 105 ∧ (∀ t, t < 2 ^ G → sv < t → M'.1 106 t = nI (rwS G cn t)) ∧ M'.1 106 sv = nI (sEK G cn sv (fun j => rwS G cn (sv ||| 2 ^ j)) i) ∧ ∀ t, t < sv → M'.1 106 t = 0) G (by omega) ⟨rfl, s5, c5, e5, fun t h1 h2 => q5 t h1 (by omega), z5 sv (by omega), fun t h1 => z5 t (by omega)⟩ ?_
    rintro i hi k106 hk106 _ M6 ⟨rfl, s6, c6, e6, q6, m6, z6⟩
    unfold f_X1_countWays_h106 f_X1_countWays_b142
    dsimp only
    rw [c6.1]
    by_cases gi : G ≤ i
    · have ei : i = G := by omega
      subst ei
      rw [if_pos (by rw [n_le (by omega)]; exact gi)]
      refine hk100 (by omega) _ _ ⟨?_, s6, c6, e6, fun t h1 h2 => ?_, fun t h1 => z6 t (by omega)⟩
      · by_cases z : j + 1 < 2 ^ i - 1
        · rw [if_pos z, n_addm1 (by omega)]
          rw [show sv - 1 = 2 ^ i - 2 - (j + 1) by omega]
        · rw [if_neg z, show sv = 0 by omega]; rfl
      · by_cases e : t = sv
        · rw [e, m6, rs]
        · exact q6 t h1 (by omega)
    · rw [if_neg (by rw [n_le (by omega)]; exact gi), c_follow2 hG (by omega) (by omega) c6, bi_s]
      simp only [b2i_0]
      cases cf : cfK G cn sv i with
      | false =>
        rw [if_pos rfl, n_addl]
        refine hk106 (by omega) _ _ ⟨rfl, s6, c6, e6, q6, ?_, z6⟩
        rw [m6, sEK_s, cf]
        rfl
      | true =>
        have hb := (cf_lt cf).2.1
        have og := or_gt hb
        have ol := or_ltG (G := G) (s := sv) (i := i) (by omega) (by omega)
        rw [if_neg (by decide), n_shl1 (by omega), fa_or]
        simp (disch := omega) only [true_and, and_true, bi_s, bv_s, bM_e, bI_e, bL_e, ck_n, ck_l, ck_0, n_tn]
        rw [m6, q6 (sv ||| 2 ^ i) ol og, nI_add, n_addl]
        refine hk106 (by omega) _ _ ⟨rfl, s6.uI (by simp), c6.oth (by decide), by rw [u_ne (by decide)]; exact e6, fun t h1 h2 => ?_, ?_, fun t h1 => ?_⟩
        · rw [us_same, g_upd, if_neg (by omega)]; exact q6 t h1 h2
        · rw [u_at, sEK_s, if_pos cf]
        · rw [us_same, g_upd, if_neg (by omega)]; exact z6 t h1
  rw [if_neg (by rw [n_le (by omega)]; exact gs)]
  refine Ho_lp (fun i a M' => a = (nI (2 ^ G - 1), nI s, nI i) ∧ Sm [103, 104, 105, 106] M M' ∧ CnR M' G cn ∧ M'.1 106 = M3.1 106 ∧ ∃ F, FwQ G cn F s i ∧ ∀ t, t < 2 ^ G → M'.1 105 t = nI (F t)) G (by omega) ⟨rfl, s4, c4, e4, F, Fw_begin (by omega) w4, f4⟩ ?_
  rintro i hi k48 hk48 _ M5 ⟨rfl, s5, c5, e5, F5, w5, f5⟩
  unfold f_X1_countWays_h48 f_X1_countWays_b84
  dsimp only
  rw [c5.1]
  by_cases gi : G ≤ i
  · have ei : i = G := by omega
    subst ei
    rw [if_pos (by rw [n_le (by omega)]; exact gi), n_addl]
    exact hk41 (by omega) _ _ ⟨rfl, s5, c5, e5, F5, Fw_end hG (by omega) w5, f5⟩
  · rw [if_neg (by rw [n_le (by omega)]; exact gi), c_follow2 hG (by omega) (by omega) c5, bi_s]
    simp only [b2i_0]
    cases cf : cfK G cn s i with
    | false =>
      rw [if_pos rfl, n_addl]
      exact hk48 (by omega) _ _ ⟨rfl, s5, c5, e5, F5, Fw_no w5 cf, f5⟩
    | true =>
      have hb := (cf_lt cf).2.1
      have ol := or_ltG (G := G) (s := s) (i := i) (by omega) (by omega)
      rw [if_neg (by decide), n_shl1 (by omega), fa_or]
      simp (disch := omega) only [true_and, and_true, bi_s, bv_s, bM_e, bI_e, bL_e, ck_n, ck_l, ck_0, n_tn]
      rw [f5 s (by omega), f5 (s ||| 2 ^ i) ol, nI_add, n_addl]
      refine hk48 (by omega) _ _ ⟨rfl, s5.uI (by simp), c5.oth (by decide), by rw [u_ne (by decide)]; exact e5, _, Fw_yes hG (by omega) (by omega) w5 cf, fun t ht => ?_⟩
      rw [us_same, g_upd]
      by_cases e : t = s ||| 2 ^ i
      · rw [if_pos e, if_pos e]
      · rw [if_neg e, if_neg e]; exact f5 t ht
theorem c_with {k g : Nat} (hN : 300 < N) (hG : G ≤ 6) (hk : k < G) (hg : g < G) (h : KwR M G cn) : f_X1_waysWith N (nI k) (nI g) M = some (nI (cyS G cn k g 0), M) := by
  have p64 := pow_le64 hG
  have p1 := pow_ge1 G
  obtain ⟨hc, hw, F, fp, f5, f6⟩ := h
  apply Ho_e
  unfold f_X1_waysWith
  rw [bI_e, hc.1, n_shl1 (by omega), ← Fw_with hG hk hg fp]
  refine Ho_lp (fun i a M' => a = (nI k, nI g, nI (fb_sm (fun t => if pop t = k ∧ cfK G cn t g = true then F t * rwS G cn (t ||| 2 ^ g) else 0) i), nI (2 ^ G), nI i) ∧ M' = M) (2 ^ G) (by omega) ⟨rfl, rfl⟩ ?_
  rintro i hi k13 hk13 _ _ ⟨rfl, rfl⟩
  unfold f_X1_waysWith_h13 f_X1_waysWith_b61
  dsimp only
  have st : fb_sm (fun t => if pop t = k ∧ cfK G cn t g = true then F t * rwS G cn (t ||| 2 ^ g) else 0) (i + 1) = fb_sm (fun t => if pop t = k ∧ cfK G cn t g = true then F t * rwS G cn (t ||| 2 ^ g) else 0) i + (if pop i = k ∧ cfK G cn i g = true then F i * rwS G cn (i ||| 2 ^ g) else 0) := rfl
  by_cases gi : 2 ^ G ≤ i
  · have ei : i = 2 ^ G := by omega
    rw [if_pos (by rw [n_le (by omega)]; exact gi), Ho_some, ei]
  · have pl := pop_le i
    rw [if_neg (by rw [n_le (by omega)]; exact gi), c_bits _ i (by omega), bi_s, n_addl]
    by_cases e : pop i = k
    · rw [if_pos (by rw [n_eq (by omega)]; exact e), c_follow2 hG (by omega) hg hc, bi_s]
      simp only [b2i_0]
      cases cf : cfK G cn i g with
      | false =>
        rw [if_pos rfl]
        refine hk13 (by omega) _ _ ⟨?_, rfl⟩
        rw [st, if_neg (by rw [cf]; simp)]
        rfl
      | true =>
        have ol := or_ltG (G := G) (s := i) (i := g) (by omega) hg
        rw [if_neg (by decide), n_shl1 (by omega), fa_or]
        simp (disch := omega) only [true_and, and_true, bi_s, bv_s, bM_e, bI_e, bL_e, ck_n, ck_l, ck_0, n_tn]
        rw [f5 i (by omega), f6 (i ||| 2 ^ g) ol, n_mul, nI_add]
        refine hk13 (by omega) _ _ ⟨?_, rfl⟩
        rw [st, if_pos ⟨e, cf⟩]
    · rw [if_neg (by rw [n_eq (by omega)]; exact e)]
      refine hk13 (by omega) _ _ ⟨?_, rfl⟩
      rw [st, if_neg (fun z => e z.1)]
      rfl
end F1
