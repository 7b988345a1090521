/-! boards beside one -/
def nbd (W D b w : Nat) : Option Nat := if blc w W D (b % W) (b / W) then some (bltg w W b) else none
def oI : Option Nat → Int32
  | none => -1
  | some t => nI t
def opw (w : Nat) : Nat := if w = 1 then 3 else if w = 2 then 4 else if w = 3 then 1 else 2
def nbB (W D b w : Nat) : Bool := match nbd W D b (w + 1) with
  | none => true
  | some t => decide (t < W * D) && decide (t ≠ b) && (nbd W D t (opw (w + 1)) == some b)
theorem nb_all : ((List.range 7).all fun W => (List.range 6).all fun D => (List.range (W * D)).all fun b => (List.range 4).all fun w => nbB W D b w) = true := by decide +kernel
theorem nb_is {W D b w t : Nat} (hW : W ≤ 6 ∧ D ≤ 5) (hb : b < W * D) (hw : 1 ≤ w ∧ w ≤ 4) (h : nbd W D b w = some t) : t < W * D ∧ t ≠ b ∧ nbd W D t (opw w) = some b := by
  obtain ⟨w, rfl⟩ : ∃ u, w = u + 1 := ⟨w - 1, by omega⟩
  have h1 := List.all_eq_true.mp nb_all W (List.mem_range.mpr (by omega))
  have h2 := List.all_eq_true.mp h1 D (List.mem_range.mpr (by omega))
  have h3 := List.all_eq_true.mp h2 b (List.mem_range.mpr hb)
  have h4 := List.all_eq_true.mp h3 w (List.mem_range.mpr (by omega))
  unfold nbB at h4
  rw [h] at h4
  simp only [Bool.and_eq_true, decide_eq_true_eq, beq_iff_eq] at h4
  exact ⟨h4.1.1, h4.1.2, h4.2⟩
theorem opw_in {w : Nat} (hw : 1 ≤ w ∧ w ≤ 4) : 1 ≤ opw w ∧ opw w ≤ 4 := by
  unfold opw
  repeat' split
  all_goals omega
theorem opw_opw {w : Nat} (hw : 1 ≤ w ∧ w ≤ 4) : opw (opw w) = w := by
  obtain rfl | rfl | rfl | rfl : w = 1 ∨ w = 2 ∨ w = 3 ∨ w = 4 := by omega
  all_goals rfl
section E1
variable {N : Nat} {C S M : Mem} {v : Nat → Nat}
theorem m_nb {b w W D : Nat} (h0 : M.1 205 0 = nI W) (h1 : M.1 205 1 = nI D) (hw : 1 ≤ w ∧ w ≤ 4) (hW : W ≤ 6 ∧ D ≤ 5) (hb : b < W * D) : f_X12_beside (nI b) (nI w) M = some (oI (nbd W D b w), M) := by
  have hW1 : 1 ≤ W := by
    rcases Nat.eq_zero_or_pos W with h | h
    · subst h; omega
    · exact h
  rw [m_beside h0 h1 hw ⟨hW1, hW⟩ hb]
  unfold nbd
  split <;> rfl
theorem c_nb {p b w W D : Nat} (h0 : M.1 p 0 = nI W) (h1 : M.1 p 1 = nI D) (hw : 1 ≤ w ∧ w ≤ 4) (hW : W ≤ 6 ∧ D ≤ 5) (hb : b < W * D) : f_X5_beside p (nI b) (nI w) M = some (oI (nbd W D b w), M) := by
  have hW1 : 1 ≤ W := by
    rcases Nat.eq_zero_or_pos W with h | h
    · subst h; omega
    · exact h
  have b30 := bd30 hW.1 hW.2
  have hm : b % W < W := Nat.mod_lt b hW1
  have hd : b / W < D := Nat.div_lt_of_lt_mul hb
  have hdm := Nat.div_add_mod b W
  have nz : ¬ nI W = 0 := by rw [n_eql (by omega)]; omega
  unfold f_X5_beside
  rw [h0, if_pos (show (0 : Int32) < nI W by rw [n_llt (by omega)]; omega), cz_e nz, ck_n (by omega)]
  simp only [bI_e]
  rw [cz_e nz, ck_n (by omega), t_n (by omega), n_mod (by omega), n_div (by omega)]
  rw [bl_is hw h0 h1 ⟨hm, hW.1⟩ ⟨hd, hW.2⟩, bi_s]
  unfold nbd f_X5_boardAt
  simp only [b2i_0]
  by_cases g : blc w W D (b % W) (b / W)
  · rw [if_neg (by simp only [g, decide_true]; decide), if_pos g, bi_s, h0]
    show _ = some (nI (bltg w W b), M)
    have key := bl_st (f := 0) hw hm g
    rw [show b / W * W + b % W = b by rw [Nat.mul_comm]; exact hdm, Nat.zero_add, Nat.zero_add] at key
    rw [← key]
    congr 2
    rw [show nI b = nI (b / W) * nI W + nI (b % W) by rw [n_mul, nI_add, Nat.mul_comm, hdm], Int32.add_mul]
    ac_rfl
  · rw [if_pos (by simp only [g, decide_false]), if_neg g]
    rfl
/-! sail -/
def nrs (W D : Nat) (R : Nat → Bool) (b : Nat) : Nat → Bool
  | 0 => R b
  | n + 1 => nrs W D R b n || (match nbd W D b (n + 1) with | none => false | some x => R x)
def rcS (v : Nat → Nat) (dk : Bool) (fr : Nat) : Nat → Nat → Bool
  | 0 => fun b => decide (b = fr)
  | t + 1 => fun b => decide (b < v 0 * v 1) && (fgy v (hrN v (v 10) (fogv v) (t + 1)) b == dk) && nrs (v 0) (v 1) (rcS v dk fr t) b 4
theorem rcS_s (v : Nat → Nat) (dk : Bool) (fr t b : Nat) : rcS v dk fr (t + 1) b = (decide (b < v 0 * v 1) && (fgy v (hrN v (v 10) (fogv v) (t + 1)) b == dk) && nrs (v 0) (v 1) (rcS v dk fr t) b 4) := rfl
theorem nrs_none {W D b : Nat} {R : Nat → Bool} (hW : W ≤ 6 ∧ D ≤ 5) (hb : b < W * D) (h : ∀ x, x < W * D → R x = false) : ∀ n, n ≤ 4 → nrs W D R b n = false
  | 0, _ => h b hb
  | n + 1, hn => by
    rw [nrs, nrs_none hW hb h n (by omega)]
    cases e : nbd W D b (n + 1) with
    | none => rfl
    | some x => exact h x (nb_is hW hb (by omega) e).1
theorem rcS_none {dk : Bool} {fr t : Nat} (hW : v 0 ≤ 6 ∧ v 1 ≤ 5) (h : ∀ x, x < v 0 * v 1 → rcS v dk fr t x = false) : ∀ m x, x < v 0 * v 1 → rcS v dk fr (t + m) x = false
  | 0, x, hx => h x hx
  | m + 1, x, hx => by rw [show t + (m + 1) = (t + m) + 1 from rfl, rcS_s, nrs_none hW hx (rcS_none hW h m) 4 (by omega), Bool.and_false]
theorem c_at {W D b p : Nat} {R : Nat → Bool} (hN : 100 < N) (h0 : M.1 p 0 = nI W) (h1 : M.1 p 1 = nI D) (hW : W ≤ 6 ∧ D ≤ 5) (hb : b < W * D) : f_X7_isAtOrBeside N p (nI (tfS R 30)) (nI b) M = some (nrs W D R b 4, M) := by
  have b30 := bd30 hW.1 hW.2
  have tl : tfS R 30 < 2147483648 := Nat.lt_of_lt_of_le (tf_lt R 30) (by decide)
  have bit : ∀ x, x < 30 → (tfS R 30).testBit x = R x := fun x hx => by rw [tf_bit]; simp [hx]
  have key : f_X7_isAtOrBeside_b14 N p (nI (tfS R 30)) (nI b) (b2i (R b)) M = some (nrs W D R b 4, M) := by
    apply Ho_e
    unfold f_X7_isAtOrBeside_b14
    refine Ho_lp (fun i a M' => a = (nI (tfS R 30), nI b, b2i (nrs W D R b i), nI (i + 1)) ∧ M' = M) 4 (by omega) ⟨rfl, rfl⟩ ?_
    rintro i hi k hk _ _ ⟨rfl, rfl⟩
    unfold f_X7_isAtOrBeside_h19 f_X7_isAtOrBeside_b59 f_X7_isAtOrBeside_b60
    dsimp only
    by_cases g : 4 < i + 1
    · have e : i = 4 := by omega
      subst e
      rw [if_pos (by rw [n_llt (by omega)]; exact g), zb_b, Ho_some]
    · rw [if_neg (by rw [n_llt (by omega)]; exact g)]
      simp only [b2i_0]
      cases r : nrs W D R b i with
      | true =>
        rw [if_neg (by decide), zb_b, Ho_some]
        have mono : ∀ m, nrs W D R b (i + m) = true := by
          intro m
          induction m with
          | zero => exact r
          | succ m ih => rw [show i + (m + 1) = (i + m) + 1 from rfl, nrs, ih]; rfl
        have := mono (4 - i)
        rw [show i + (4 - i) = 4 by omega] at this
        rw [this]
      | false =>
        rw [if_pos rfl, c_nb h0 h1 (by omega) hW hb, bi_s, n_addl]
        cases e : nbd W D b (i + 1) with
        | none =>
          rw [if_pos (show oI none = -1 from rfl)]
          refine hk (by omega) _ _ ⟨?_, rfl⟩
          rw [nrs, r, e]
          rfl
        | some x =>
          have hx := (nb_is hW hb (by omega) e).1
          rw [if_neg (show ¬ oI (some x) = -1 by rw [show oI (some x) = nI x from rfl, n_m1l (by omega)]; exact id), show oI (some x) = nI x from rfl]
          cases rx : R x with
          | true =>
            rw [if_pos (by rw [n_bit (by omega), bit x (by omega)]; exact rx)]
            refine hk (by omega) _ _ ⟨?_, rfl⟩
            rw [nrs, r, e]
            dsimp only
            rw [rx]
            rfl
          | false =>
            rw [if_neg (by rw [n_bit (by omega), bit x (by omega), rx]; decide)]
            refine hk (by omega) _ _ ⟨?_, rfl⟩
            rw [nrs, r, e]
            dsimp only
            rw [rx]
            rfl
  unfold f_X7_isAtOrBeside
  cases rb : R b with
  | true =>
    rw [if_pos (by rw [n_bit (by omega), bit b (by omega)]; exact rb)]
    rw [rb] at key
    exact key
  | false =>
    rw [if_neg (by rw [n_bit (by omega), bit b (by omega), rb]; decide)]
    rw [rb] at key
    exact key
theorem scrR : ∀ c, c ∈ [97, 98, 91, 99, 100, 101, 102, 96] → 83 ≤ c ∧ c < 107 := by intro c hc; simp at hc; omega
theorem c_then {t : Nat} {dk : Bool} {fr : Nat} (hN : 200 < N) (hv : VV v) (hC : PC M 10 v) (hF : Ar M 98 60 (hrN v (v 10) (fogv v) (t + 1))) : f_X7_reachedThen N 10 (nI (tfS (rcS v dk fr t) 30)) (b2i dk) M = some (nI (tfS (rcS v dk fr (t + 1)) 30), M) := by
  have b30 := bd30 hv.1.1 hv.1.2.1
  have hf9 : ∀ k, k < 60 → fogv v k ≤ 999 := hv.2.2.2.2.2.2.2.2.2.2.1
  have hle := hrN_le (g := v 10) hv.1 hf9 (t + 1)
  have v8 := hv.2.2.2.2.1
  have tail : ∀ m, tfS (rcS v dk fr (t + 1)) (v 0 * v 1 + m) = tfS (rcS v dk fr (t + 1)) (v 0 * v 1) := by
    intro m
    induction m with
    | zero => rfl
    | succ m ih =>
      rw [show v 0 * v 1 + (m + 1) = (v 0 * v 1 + m) + 1 from rfl, tfS, if_neg, ih]
      rw [rcS_s]
      simp
      omega
  apply Ho_e
  unfold f_X7_reachedThen f_X5_boardCount
  rw [hC.1.1, hC.1.2.1, n_mul, bi_s]
  refine Ho_lp (fun i a M' => a = (nI (tfS (rcS v dk fr t) 30), b2i dk, nI (v 0 * v 1), nI (tfS (rcS v dk fr (t + 1)) i), nI i) ∧ M' = M) (v 0 * v 1) (by omega) ⟨rfl, rfl⟩ ?_
  rintro i hi k hk _ _ ⟨rfl, rfl⟩
  unfold f_X7_reachedThen_h12 f_X7_reachedThen_b53
  dsimp only
  by_cases g : v 0 * v 1 ≤ i
  · have e : i = v 0 * v 1 := by omega
    rw [if_pos (by rw [n_le (by omega)]; exact g), Ho_some, e]
    have := tail (30 - v 0 * v 1)
    rw [show v 0 * v 1 + (30 - v 0 * v 1) = 30 by omega] at this
    rw [this]
  · rw [if_neg (by rw [n_le (by omega)]; exact g), c_foggy (p := 10) (q := 98) (b := i) (w := v 8) rfl hC.2.1 hF (by omega) hle (by omega), bi_s, c_at (by omega) hC.1.1 hC.1.2.1 ⟨hv.1.1, hv.1.2.1⟩ (show i < v 0 * v 1 by omega), n_addl]
    have st : tfS (rcS v dk fr (t + 1)) (i + 1) = if rcS v dk fr (t + 1) i then tfS (rcS v dk fr (t + 1)) i ||| 2 ^ i else tfS (rcS v dk fr (t + 1)) i := rfl
    have rs : rcS v dk fr (t + 1) i = ((fgy v (hrN v (v 10) (fogv v) (t + 1)) i == dk) && nrs (v 0) (v 1) (rcS v dk fr t) i 4) := by
      rw [rcS_s]
      simp only [show i < v 0 * v 1 by omega, decide_true, Bool.true_and]
    rw [show decide (v 8 ≤ hrN v (v 10) (fogv v) (t + 1) i + hrN v (v 10) (fogv v) (t + 1) (30 + i)) = fgy v (hrN v (v 10) (fogv v) (t + 1)) i from rfl]
    by_cases f : fgy v (hrN v (v 10) (fogv v) (t + 1)) i = dk
    · rw [if_pos (by rw [f]), bi_s]
      simp only [b2i_0]
      cases z : nrs (v 0) (v 1) (rcS v dk fr t) i 4 with
      | false =>
        rw [if_pos rfl]
        refine hk (by omega) _ _ ⟨?_, rfl⟩
        rw [st, rs, z, Bool.and_false]
        rfl
      | true =>
        rw [if_neg (by decide), bI_e, n_shl1 (by omega), fa_or]
        refine hk (by omega) _ _ ⟨?_, rfl⟩
        rw [st, rs, z, f]
        simp
    · rw [if_neg (fun e => f (by revert e; cases fgy v (hrN v (v 10) (fogv v) (t + 1)) i <;> cases dk <;> decide))]
      refine hk (by omega) _ _ ⟨?_, rfl⟩
      rw [st, rs]
      have : (fgy v (hrN v (v 10) (fogv v) (t + 1)) i == dk) = false := by simpa using f
      rw [this]
      rfl
theorem c_sail {s : Nat} (hN : 200 < N) (hv : VV v) (hC : PC C 10 v) (hs : s < v 5) : Ho (f_X7_leastHours N 10 (nI s) C) (fun q => FH (fun t => rcS v (decide (v (99 + s) = 1)) (v (87 + s) * v 0 + v (83 + s)) t (v (95 + s) * v 0 + v (91 + s))) q.1 ∧ Sm [98, 91] C q.2) := by
  have v5 := hv.2.2.2.1
  have b30 := bd30 hv.1.1 hv.1.2.1
  have h10 := hv.2.2.2.2.2.1
  have p64 := pow_le64 hv.1.2.2.1
  have hf9 : ∀ k, k < 60 → fogv v k ≤ 999 := hv.2.2.2.2.2.2.2.2.2.2.1
  obtain ⟨c0, c1, c2, c3, c4⟩ := hC.2.2.2.2.2.2.2.2.2.2.1 s hs
  obtain ⟨l0, l1, l2, l3, l4⟩ := hv.2.2.2.2.2.2.2.2.2.1 s hs
  have hfr := bd l0 l1
  have hto := bd l2 l3
  generalize hdk : decide (v (99 + s) = 1) = dk
  have ed : (if nI (v (99 + s)) = 1 then (1 : Int32) else 0) = b2i dk := by
    by_cases e : v (99 + s) = 1
    · rw [← hdk, e]; rfl
    · rw [if_neg (by rw [n_eql (by omega)]; exact e), ← hdk]
      simp [e, b2i]
  have body : Ho (f_X7_leastHours_b63 N 10 (nI (v (87 + s) * v 0 + v (83 + s))) (nI (v (95 + s) * v 0 + v (91 + s))) (b2i dk) C) (fun q => FH (fun t => rcS v dk (v (87 + s) * v 0 + v (83 + s)) t (v (95 + s) * v 0 + v (91 + s))) q.1 ∧ Sm [98, 91] C q.2) := by
    generalize v (87 + s) * v 0 + v (83 + s) = fr at *
    generalize v (95 + s) * v 0 + v (91 + s) = to at *
    unfold f_X7_leastHours_b63
    rw [bM_e, n_shl1 (by omega)]
    have e0 : 2 ^ fr = tfS (rcS v dk fr 0) 30 := by
      apply Nat.eq_of_testBit_eq
      intro i
      rw [tf_bit, Nat.testBit_two_pow]
      unfold rcS
      by_cases e : fr = i
      · subst e; simp; omega
      · simp [e, Ne.symm e]
    rw [e0]
    refine Ho_lp (fun t a M' => a = (nI to, b2i dk, nI (tfS (rcS v dk fr t) 30), nI t) ∧ Sm [98, 91] C M' ∧ Ar M' 98 60 (hrN v (v 10) (fogv v) t) ∧ ∀ j, j < t → rcS v dk fr j to = false) 49 (by omega) ⟨rfl, Sm.rf.rI (by simp), cpy60 hC.2.2.2.2.2.2.2.2.2.2.2.1, fun j hj => absurd hj (Nat.not_lt_zero j)⟩ ?_
    rintro t ht k hk _ M1 ⟨rfl, s1, a1, n1⟩
    unfold f_X7_leastHours_h89
    dsimp only
    have tl : tfS (rcS v dk fr t) 30 < 2147483648 := Nat.lt_of_lt_of_le (tf_lt _ 30) (by decide)
    by_cases g : 48 < t
    · rw [if_pos (by rw [n_llt (by omega)]; exact g), Ho_some]
      exact ⟨Or.inr ⟨fun j hj => n1 j (by omega), rfl⟩, s1⟩
    · rw [if_neg (by rw [n_llt (by omega)]; exact g)]
      by_cases z : tfS (rcS v dk fr t) 30 = 0
      · rw [if_pos (by rw [z]; rfl), Ho_some]
        refine ⟨Or.inr ⟨fun j hj => ?_, rfl⟩, s1⟩
        have none : ∀ x, x < v 0 * v 1 → rcS v dk fr t x = false := fun x hx => by
          have := tf_bit (rcS v dk fr t) x 30
          rw [z] at this
          simp [show x < 30 by omega] at this
          exact this
        by_cases e : j < t
        · exact n1 j e
        · have := rcS_none ⟨hv.1.1, hv.1.2.1⟩ none (j - t) to hto
          rw [show t + (j - t) = j by omega] at this
          exact this
      · rw [if_neg (by rw [n_eql (by omega)]; exact z)]
        have bit : (tfS (rcS v dk fr t) 30).testBit to = rcS v dk fr t to := by rw [tf_bit]; simp [show to < 30 by omega]
        cases r : rcS v dk fr t to with
        | true =>
          rw [if_pos (by rw [n_bit (by omega), bit]; exact r), Ho_some]
          exact ⟨Or.inl ⟨t, by omega, n1, r, rfl⟩, s1⟩
        | false =>
          rw [if_neg (by rw [n_bit (by omega), bit, r]; decide), s1.at (by simp) hC.2.2.2.1, Ho_bv]
          have s1' : Sm [97, 98, 91, 99, 100, 101, 102, 96] C M1 := s1.mono (by simp)
          refine Ho_mono (cw_hour (by omega) hv.1 rfl (by omega) (by omega) (hC.sm s1' scrR).1 a1 (hrN_le hv.1 hf9 t) (by omega)) ?_
          rintro M2 ⟨s2, a2⟩
          have s12 := s1.tr s2
          have s12' : Sm [97, 98, 91, 99, 100, 101, 102, 96] C M2 := s12.mono (by simp)
          rw [c_then hN hv (hC.sm s12' scrR) a2, bi_s, n_addl]
          refine hk (by omega) _ _ ⟨rfl, s12, a2, fun j hj => ?_⟩
          by_cases e : j = t
          · rw [e]; exact r
          · exact n1 j (by omega)
  unfold f_X7_leastHours f_X5_boardAt
  simp (disch := omega) only [n_tn, n_tl, n_t0, n_lt, n_le, n_eq, n_ltl, n_lel, n_eql, n_llt, n_lle, n_leq, n_m1l, n_m1r, n_addl, n_ladd, nI_add, n_mul, n_mull, n_lmul, n_sub, n_subl, n_div, n_divl, n_modd, true_and, and_true, bi_s, bv_s, bM_e, bI_e, bL_e, ck_n, ck_l, ck_0, c0, c1, c2, c3, c4, hC.1.1]
  by_cases e : v (99 + s) = 1
  · rw [if_pos e]
    rw [← hdk] at body
    simp only [e, decide_true] at body
    rw [← hdk]
    simp only [e, decide_true]
    exact body
  · rw [if_neg e]
    rw [← hdk] at body
    simp only [e, decide_false] at body
    rw [← hdk]
    simp only [e, decide_false]
    exact body
end E1
