/-! sets of numbers below n -/
def tfS (p : Nat → Bool) : Nat → Nat
  | 0 => 0
  | n + 1 => if p n then tfS p n ||| 2 ^ n else tfS p n
theorem tf_bit (p : Nat → Bool) (k : Nat) : ∀ n, (tfS p n).testBit k = (decide (k < n) && p k)
  | 0 => by simp [tfS]
  | n + 1 => by
    have ih := tf_bit p k n
    rw [tfS]
    by_cases h : p n = true
    · rw [if_pos h, fb_bit_set, ih]
      by_cases e : k = n
      · subst e; simp [h]
      · have : (k < n) = (k < n + 1) := by apply propext; omega
        simp [e, this]
    · rw [if_neg h, ih]
      by_cases e : k = n
      · subst e
        simp at h
        simp [h]
      · have : (k < n) = (k < n + 1) := by apply propext; omega
        simp [this]
theorem tf_lt (p : Nat → Bool) : ∀ n, tfS p n < 2 ^ n
  | 0 => Nat.one_pos
  | n + 1 => by
    have ih := tf_lt p n
    have e : 2 ^ (n + 1) = 2 * 2 ^ n := by rw [Nat.pow_succ, Nat.mul_comm]
    rw [tfS]
    split
    · exact Nat.or_lt_two_pow (by omega) (Nat.pow_lt_pow_right (by decide) (by omega))
    · omega
theorem tf_cong {p q : Nat → Bool} {n : Nat} (h : ∀ k, k < n → p k = q k) : tfS p n = tfS q n := by
  apply Nat.eq_of_testBit_eq
  intro i
  rw [tf_bit, tf_bit]
  by_cases g : i < n
  · rw [h i g]
  · simp [g]
theorem tf_or (p q : Nat → Bool) (n : Nat) : tfS p n ||| tfS q n = tfS (fun k => p k || q k) n := by
  apply Nat.eq_of_testBit_eq
  intro i
  rw [Nat.testBit_or, tf_bit, tf_bit, tf_bit]
  cases decide (i < n) <;> simp
theorem tf_all (n : Nat) : tfS (fun _ => true) n = 2 ^ n - 1 := by
  apply Nat.eq_of_testBit_eq
  intro i
  rw [tf_bit, Nat.testBit_two_pow_sub_one]
  simp
theorem bt_tf (p : Nat → Bool) {n i : Nat} (hi : i < 32) : bt (nI (tfS p n)) i = (decide (i < n) && p i) := by rw [bt_nI _ hi, tf_bit]
theorem tf_andnot (p q : Nat → Bool) (n : Nat) : nI (tfS p n) &&& (nI (tfS q n) ^^^ (-1)) = nI (tfS (fun k => p k && !q k) n) := by
  apply b_ext
  intro i hi
  rw [b_and, b_xor, b_m1 i hi, bt_tf p hi, bt_tf q hi, bt_tf _ hi]
  cases decide (i < n) <;> simp
theorem tf_drop (p : Nat → Bool) {n j : Nat} (hj : j < 31) : nI (tfS p n) &&& (nI (2 ^ j) ^^^ (-1)) = nI (tfS (fun k => p k && decide (k ≠ j)) n) := by
  apply b_ext
  intro i hi
  rw [b_and, b_xor, b_m1 i hi, bt_tf p hi, bt_nI _ hi, bt_tf _ hi, Nat.testBit_two_pow]
  by_cases e : j = i
  · subst e; simp
  · simp [e, Ne.symm e]
theorem tf_add (p : Nat → Bool) {n j : Nat} (hj : j < n) : tfS p n ||| 2 ^ j = tfS (fun k => p k || decide (k = j)) n := by
  apply Nat.eq_of_testBit_eq
  intro i
  rw [fb_bit_set, tf_bit, tf_bit]
  by_cases e : i = j
  · subst e; simp [hj]
  · simp [e]
/-! trades: which fail when, what is paid -/
def fgy (v F : Nat → Nat) (b : Nat) : Bool := decide (v 8 ≤ F b + F (30 + b))
def bdT (v : Nat → Nat) (k : Nat) : Nat := v (53 + k) * v 0 + v (47 + k)
def flT (v F : Nat → Nat) (t k : Nat) : Bool := decide (v (59 + k) ≤ t ∧ t ≤ v (65 + k)) && (fgy v F (bdT v k) == decide (v (77 + k) = 1))
def fld (v : Nat → Nat) (g : Nat) (F : Nat → Nat) (t0 : Nat) : Nat → Nat → Bool
  | 0 => fun _ => false
  | n + 1 => fun k => fld v g F t0 n k || flT v (hrN v g F (n + 1)) (t0 + n) k
theorem fld_s (v : Nat → Nat) (g : Nat) (F : Nat → Nat) (t0 n k : Nat) : fld v g F t0 (n + 1) k = (fld v g F t0 n k || flT v (hrN v g F (n + 1)) (t0 + n) k) := rfl
def pyS (v : Nat → Nat) (p : Nat → Bool) (n : Nat) : Nat := fb_sm (fun k => if p k then v (71 + k) else 0) n
theorem pyS_cong {v : Nat → Nat} {p q : Nat → Bool} {n : Nat} (h : ∀ k, k < n → p k = q k) : pyS v p n = pyS v q n := fb_sm_cong fun k hk => by rw [h k hk]
theorem pyS_mono {v : Nat → Nat} {p q : Nat → Bool} {n : Nat} (h : ∀ k, k < n → p k = true → q k = true) : pyS v p n ≤ pyS v q n := fb_sm_le fun k hk => by
  by_cases e : p k = true
  · rw [if_pos e, if_pos (h k hk e)]; exact Nat.le_refl _
  · rw [if_neg e]; exact Nat.zero_le _
theorem pyS_le {v : Nat → Nat} {p : Nat → Bool} {n : Nat} (h : ∀ k, k < n → v (71 + k) ≤ 99) : pyS v p n ≤ n * 99 := fb_sm_bound fun k hk => by
  have := h k hk
  split <;> omega
theorem pyS_drop {v : Nat → Nat} {p : Nat → Bool} {n j : Nat} (hj : j < n) (hp : p j = true) : pyS v (fun k => p k && decide (k ≠ j)) n + v (71 + j) = pyS v p n := by
  have := fb_sm_upd (fun k => if p k then v (71 + k) else 0) 0 hj
  rw [if_pos hp] at this
  unfold pyS
  rw [← Nat.add_zero (fb_sm (fun k => if p k = true then v (71 + k) else 0) n), ← this]
  congr 1
  refine fb_sm_cong fun k hk => ?_
  by_cases e : k = j
  · subst e; simp
  · simp [e]
theorem bdT_lt {v : Nat → Nat} (hv : VV v) {k : Nat} (hk : k < v 4) : bdT v k < v 0 * v 1 := by
  have h := hv.2.2.2.2.2.2.2.2.1 k hk
  exact bd h.1 h.2.1
/-- the same for all that doesn't touch the gates' state, the hour, the fog -/
abbrev qv (v v' : Nat → Nat) : Prop := ∀ i, i < 103 → i ≠ 9 → i ≠ 10 → v' i = v i
theorem letF_cg {v v' F G : Nat → Nat} {g : Nat} (hv : VW v) (h : qv v v') (hF : ∀ k, k < 60 → F k = G k) : ∀ n, n ≤ v 2 → ∀ k, k < 60 → letF v' g F n k = letF v g G n k
  | 0, _, k, hk => hF k hk
  | n + 1, hn, k, hk => by
    have v2 := hv.2.2.1
    have ih := letF_cg hv h hF (g := g) n (by omega)
    have hg : gpl v' n = gpl v n := by
      unfold gpl
      rw [h (29 + n) (by omega) (by omega) (by omega), h (17 + n) (by omega) (by omega) (by omega), h (11 + n) (by omega) (by omega) (by omega), h 0 (by omega) (by omega) (by omega)]
    have hl := gpl_lt hv (show n < v 2 by omega)
    unfold letF
    split
    · rw [hg, h (23 + n) (by omega) (by omega) (by omega), ih _ hl]
      unfold pt
      split
      · rfl
      · exact ih k hk
    · exact ih k hk
theorem drf_cg {v v' Was Was' F G : Nat → Nat} {f : Nat} (h : qv v v') (hw : ∀ k, k < 60 → Was k = Was' k) (hF : ∀ k, k < 60 → F k = G k) : ∀ n, f + n ≤ 60 → ∀ k, k < 60 → drf v' f Was F n k = drf v f Was' G n k
  | 0, _, k, hk => hF k hk
  | n + 1, hn, k, hk => by
    have ih := drf_cg (f := f) h hw hF n (by omega) k hk
    rw [drf, drf]
    unfold stp outp tgt shr
    rw [ih, hw (f + n) (by omega), h 6 (by omega) (by omega) (by omega), h 0 (by omega) (by omega) (by omega), h 1 (by omega) (by omega) (by omega)]
theorem hrF_cg {v v' F G : Nat → Nat} {g : Nat} (hv : VW v) (h : qv v v') (hF : ∀ k, k < 60 → F k = G k) (k : Nat) (hk : k < 60) : hrF v' g F k = hrF v g G k := by
  have b30 := bd30 hv.1 hv.2.1
  unfold hrF
  rw [h 0 (by omega) (by omega) (by omega), h 1 (by omega) (by omega) (by omega), h 2 (by omega) (by omega) (by omega)]
  have l := letF_cg (g := g) hv h hF (v 2) (Nat.le_refl _)
  exact stl_cong (h 7 (by omega) (by omega) (by omega)) b30 (drf_cg h l (drf_cg h l l (v 0 * v 1) (by omega)) (v 0 * v 1) (by omega)) k hk
theorem hrN_cg {v v' F G : Nat → Nat} {g : Nat} (hv : VW v) (h : qv v v') (hF : ∀ k, k < 60 → F k = G k) : ∀ n k, k < 60 → hrN v' g F n k = hrN v g G n k
  | 0, k, hk => hF k hk
  | n + 1, k, hk => hrF_cg hv h (hrN_cg hv h hF n) k hk
theorem hrN_add {v F : Nat → Nat} {g : Nat} (m : Nat) : ∀ n k, hrN v g (hrN v g F m) n k = hrN v g F (m + n) k
  | 0, k => rfl
  | n + 1, k => by
    rw [hrN, show m + (n + 1) = (m + n) + 1 from rfl, hrN]
    congr 1
    funext q
    exact hrN_add m n q
theorem VW.cg {v v' : Nat → Nat} (hv : VW v) (h : qv v v') : VW v' := by
  obtain ⟨a, b, c, d, e, f⟩ := hv
  refine ⟨by rw [h 0 (by omega) (by omega) (by omega)]; exact a, by rw [h 1 (by omega) (by omega) (by omega)]; exact b, by rw [h 2 (by omega) (by omega) (by omega)]; exact c, by rw [h 6 (by omega) (by omega) (by omega)]; exact d, by rw [h 7 (by omega) (by omega) (by omega)]; exact e, fun g hg => ?_⟩
  rw [h 2 (by omega) (by omega) (by omega)] at hg
  rw [h (11 + g) (by omega) (by omega) (by omega), h (17 + g) (by omega) (by omega) (by omega), h (23 + g) (by omega) (by omega) (by omega), h (29 + g) (by omega) (by omega) (by omega), h 0 (by omega) (by omega) (by omega), h 1 (by omega) (by omega) (by omega)]
  exact f g hg
theorem flT_cg {v v' F G : Nat → Nat} (hv : VV v) (h : qv v v') (hF : ∀ k, k < 60 → F k = G k) {t k : Nat} (hk : k < v 4) : flT v' F t k = flT v G t k := by
  have v4 := hv.2.2.1
  have hb := bdT_lt hv hk
  have b30 := bd30 hv.1.1 hv.1.2.1
  have e : bdT v' k = bdT v k := by
    unfold bdT
    rw [h (53 + k) (by omega) (by omega) (by omega), h (47 + k) (by omega) (by omega) (by omega), h 0 (by omega) (by omega) (by omega)]
  unfold flT fgy
  rw [e, h (59 + k) (by omega) (by omega) (by omega), h (65 + k) (by omega) (by omega) (by omega), h (77 + k) (by omega) (by omega) (by omega), h 8 (by omega) (by omega) (by omega), hF _ (by omega), hF _ (by omega)]
theorem fld_cg {v v' F G : Nat → Nat} {g t0 : Nat} (hv : VV v) (h : qv v v') (hF : ∀ k, k < 60 → F k = G k) {k : Nat} (hk : k < v 4) : ∀ n, fld v' g F t0 n k = fld v g G t0 n k
  | 0 => rfl
  | n + 1 => by rw [fld_s, fld_s, fld_cg hv h hF hk n, flT_cg hv h (hrN_cg hv.1 h hF (n + 1)) hk]
theorem fld_mono {v F : Nat → Nat} {g t0 k : Nat} : ∀ n m, fld v g F t0 n k = true → fld v g F t0 (n + m) k = true
  | n, 0, h => h
  | n, m + 1, h => by
    rw [show n + (m + 1) = (n + m) + 1 from rfl, fld_s, fld_mono n m h]
    rfl
theorem flT_late {v F : Nat → Nat} {t k : Nat} (h : v (65 + k) < t) : flT v F t k = false := by
  unfold flT
  simp
  omega
theorem fld_late {v F : Nat → Nat} {g t0 k n : Nat} (h : v (65 + k) < t0 + n) : ∀ m, fld v g F t0 (n + m) k = fld v g F t0 n k
  | 0 => rfl
  | m + 1 => by rw [show n + (m + 1) = (n + m) + 1 from rfl, fld_s, fld_late h m, flT_late (by omega), Bool.or_false]
def lsH (v : Nat → Nat) : Nat → Nat
  | 0 => 0
  | n + 1 => max (lsH v n) (v (65 + n))
theorem lsH_ge {v : Nat → Nat} : ∀ n k, k < n → v (65 + k) ≤ lsH v n
  | n + 1, k, hk => by
    rw [lsH]
    by_cases e : k = n
    · subst e; omega
    · have := lsH_ge (v := v) n k (by omega); omega
theorem lsH_le {v : Nat → Nat} (hv : VV v) : ∀ n, n ≤ v 4 → lsH v n ≤ 24
  | 0, _ => Nat.zero_le _
  | n + 1, hn => by
    have := lsH_le hv n (by omega)
    have := hv.2.2.2.2.2.2.2.2.1 n (by omega)
    rw [lsH]
    omega
theorem m_inL {n a b : Nat} (h : n < 2147483648 ∧ a < 2147483648 ∧ b < 2147483648) (M : Mem) : f_X12_isIn (lN n) (lN a) (lN b) M = some (decide (a ≤ n ∧ n ≤ b), M) := by
  have := m_inl h M
  rwa [nI_l h.1] at this
/-- what the model's forecasts want of its numbers -/
def MW (v w : Nat → Nat) : Prop := qv v w ∧ w 10 < 64 ∧ (∀ k, k < 60 → w (103 + k) ≤ 999)
section D2
variable {N : Nat} {S : Mem} {v w : Nat → Nat}
theorem m_paidFor {a : Nat} (hN : 200 < N) (hv : VV v) (hA : ∀ i, i < 103 → i ≠ 9 → i ≠ 10 → S.1 205 i = nI (v i)) (ha : a < 2147483648) : f_X12_paidFor N (nI a) S = some (nI (pyS v (fun k => a.testBit k) (v 4)), S) := by
  have v4 := hv.2.2.1
  apply Ho_e
  unfold f_X12_paidFor
  refine Ho_lp (fun i x M' => x = (nI a, nI (pyS v (fun k => a.testBit k) i), nI i) ∧ M' = S) (v 4) (by omega) ⟨rfl, rfl⟩ ?_
  rintro i hi k hk _ _ ⟨rfl, rfl⟩
  unfold f_X12_paidFor_h4 f_X12_paidFor_b36
  have c4 := hA 4 (by omega) (by omega) (by omega)
  by_cases q : v 4 ≤ i
  · have e : i = v 4 := by omega
    subst e
    simp (disch := omega) only [n_tn, n_tl, n_t0, n_lt, n_le, n_eq, n_ltl, n_lel, n_eql, n_llt, n_lle, n_leq, n_m1l, n_m1r, n_addl, n_ladd, nI_add, n_mul, n_mull, n_lmul, n_sub, n_subl, n_div, n_divl, n_modd, true_and, and_true, bi_s, bv_s, bM_e, bI_e, bL_e, ck_n, ck_l, ck_0, c4, Nat.le_refl, if_true, Ho_some]
  · have c3 := hA (71 + i) (by omega) (by omega) (by omega)
    simp (disch := omega) only [n_tn, n_tl, n_t0, n_lt, n_le, n_eq, n_ltl, n_lel, n_eql, n_llt, n_lle, n_leq, n_m1l, n_m1r, n_addl, n_ladd, nI_add, n_mul, n_mull, n_lmul, n_sub, n_subl, n_div, n_divl, n_modd, true_and, and_true, bi_s, bv_s, bM_e, bI_e, bL_e, ck_n, ck_l, ck_0, c4, if_neg q, cm_has, c3, b2i_0]
    by_cases t : a.testBit i = true
    · rw [if_neg (by rw [t]; decide)]
      refine hk (by omega) _ _ ⟨?_, rfl⟩
      rw [show pyS v (fun k => a.testBit k) (i + 1) = pyS v (fun k => a.testBit k) i + (if a.testBit i then v (71 + i) else 0) from rfl, if_pos t]
    · rw [if_pos (by simpa using t)]
      refine hk (by omega) _ _ ⟨?_, rfl⟩
      rw [show pyS v (fun k => a.testBit k) (i + 1) = pyS v (fun k => a.testBit k) i + (if a.testBit i then v (71 + i) else 0) from rfl, if_neg t]
theorem m_failing {t : Nat} (hN : 200 < N) (hv : VV v) (hw : MW v w) (hA : Ar S 205 435 w) (ht : t < 2147483648) : f_X12_failing N (nI t) S = some (nI (tfS (flT v (fogv w) t) (v 4)), S) := by
  have v4 := hv.2.2.1
  have v8 := hv.2.2.2.2.1
  have b30 := bd30 hv.1.1 hv.1.2.1
  have h4 := hw.1 4 (by omega) (by omega) (by omega)
  have h8 := hw.1 8 (by omega) (by omega) (by omega)
  have h0 := hw.1 0 (by omega) (by omega) (by omega)
  apply Ho_e
  unfold f_X12_failing
  refine Ho_lp (fun i x M' => x = (nI t, nI (tfS (flT v (fogv w) t) i), nI i) ∧ M' = S) (v 4) (by omega) ⟨rfl, rfl⟩ ?_
  rintro i hi k hk _ _ ⟨rfl, rfl⟩
  unfold f_X12_failing_h4 f_X12_failing_b63 f_X12_failing_b102
  have c4 := hA 4 (by omega)
  rw [h4] at c4
  by_cases q : v 4 ≤ i
  · have e : i = v 4 := by omega
    subst e
    simp (disch := omega) only [n_tn, n_tl, n_t0, n_lt, n_le, n_eq, n_ltl, n_lel, n_eql, n_llt, n_lle, n_leq, n_m1l, n_m1r, n_addl, n_ladd, nI_add, n_mul, n_mull, n_lmul, n_sub, n_subl, n_div, n_divl, n_modd, true_and, and_true, bi_s, bv_s, bM_e, bI_e, bL_e, ck_n, ck_l, ck_0, c4, Nat.le_refl, if_true, Ho_some]
  · have hb := bdT_lt hv (show i < v 4 by omega)
    have htr := hv.2.2.2.2.2.2.2.2.1 i (by omega)
    have c0 := hA 0 (by omega)
    have c47 := hA (47 + i) (by omega)
    have c53 := hA (53 + i) (by omega)
    have c59 := hA (59 + i) (by omega)
    have c65 := hA (65 + i) (by omega)
    have c77 := hA (77 + i) (by omega)
    rw [h0] at c0
    rw [hw.1 (47 + i) (by omega) (by omega) (by omega)] at c47
    rw [hw.1 (53 + i) (by omega) (by omega) (by omega)] at c53
    rw [hw.1 (59 + i) (by omega) (by omega) (by omega)] at c59
    rw [hw.1 (65 + i) (by omega) (by omega) (by omega)] at c65
    rw [hw.1 (77 + i) (by omega) (by omega) (by omega)] at c77
    have eb : v 0 * v (53 + i) + v (47 + i) = bdT v i := by unfold bdT; rw [Nat.mul_comm]
    have fg := m_foggy (b := bdT v i) hA (by omega) hw.2.2 (by omega)
    rw [h8] at fg
    simp (disch := omega) only [n_tn, n_tl, n_t0, n_lt, n_le, n_eq, n_ltl, n_lel, n_eql, n_llt, n_lle, n_leq, n_m1l, n_m1r, n_addl, n_ladd, nI_add, n_mul, n_mull, n_lmul, n_sub, n_subl, n_div, n_divl, n_modd, true_and, and_true, bi_s, bv_s, bM_e, bI_e, bL_e, ck_n, ck_l, ck_0, c4, c47, c53, c59, c65, c77, if_neg q, nI_l, m_inL, m_board c0, eb, fg, b2i_0]
    rw [show tfS (flT v (fogv w) t) (i + 1) = if flT v (fogv w) t i then tfS (flT v (fogv w) t) i ||| 2 ^ i else tfS (flT v (fogv w) t) i from rfl] at hk
    have e133 : 103 + (30 + bdT v i) = 133 + bdT v i := by omega
    by_cases c : v (59 + i) ≤ t ∧ t ≤ v (65 + i)
    · rw [if_neg (by simp [c])]
      have fe : flT v (fogv w) t i = (decide (v 8 ≤ w (103 + bdT v i) + w (133 + bdT v i)) == decide (v (77 + i) = 1)) := by
        unfold flT fgy fogv
        rw [e133]
        simp [c]
      rw [fe] at hk
      by_cases d : v (77 + i) = 1
      · rw [if_pos d]
        by_cases f : v 8 ≤ w (103 + bdT v i) + w (133 + bdT v i)
        · simp only [d, f, decide_true, beq_self_eq_true, if_true, b2i_t] at hk ⊢
          rw [n_shl1 (by omega), fa_or]
          exact hk (by omega) _ _ ⟨rfl, rfl⟩
        · rw [if_neg (show ¬ b2i (decide (v 8 ≤ w (103 + bdT v i) + w (133 + bdT v i))) = 1 by simp only [f, decide_false]; decide)]
          simp only [d, f, decide_true, decide_false] at hk
          exact hk (by omega) _ _ ⟨rfl, rfl⟩
      · rw [if_neg d]
        by_cases f : v 8 ≤ w (103 + bdT v i) + w (133 + bdT v i)
        · rw [if_neg (show ¬ decide (v 8 ≤ w (103 + bdT v i) + w (133 + bdT v i)) = false by simp only [f, decide_true]; decide)]
          simp only [d, f, decide_true, decide_false] at hk
          exact hk (by omega) _ _ ⟨rfl, rfl⟩
        · rw [if_pos (show decide (v 8 ≤ w (103 + bdT v i) + w (133 + bdT v i)) = false by simp only [f, decide_false])]
          simp only [d, f, decide_false, beq_self_eq_true, if_true] at hk
          rw [n_shl1 (by omega), fa_or]
          exact hk (by omega) _ _ ⟨rfl, rfl⟩
    · rw [if_pos (by simp only [decide_eq_false_iff_not]; exact c)]
      have fe : flT v (fogv w) t i = false := by
        unfold flT
        rw [decide_eq_false c]
        rfl
      rw [fe] at hk
      exact hk (by omega) _ _ ⟨rfl, rfl⟩
/-- the model's fails: n hours from t0 on -/
theorem m_fails {t0 n : Nat} {e : Int32} (hN : 200 < N) (hv : VV v) (hw : MW v w) (hA : Ar S 205 435 w) (ht : 1 ≤ t0 ∧ t0 + n ≤ 25) (he : e = nI (t0 + n - 1)) : Ho (f_X12_fails N (nI t0) e S) (fun q => q.1 = nI (tfS (fld v (w 10) (fogv w) t0 n) (v 4)) ∧ SmH S q.2 ∧ Ar q.2 205 435 (hvN w n)) := by
  subst he
  have hwW : VW w := hv.1.cg hw.1
  unfold f_X12_fails
  refine Ho_lp (fun i a S' => a = (nI (t0 + n - 1), nI (tfS (fld v (w 10) (fogv w) t0 i) (v 4)), nI (t0 + i)) ∧ SmH S S' ∧ Ar S' 205 435 (hvN w i)) n (by omega) ⟨?_, SmH.rf, hA⟩ ?_
  · rw [show tfS (fld v (w 10) (fogv w) t0 0) (v 4) = 0 from by
      have : ∀ m, tfS (fld v (w 10) (fogv w) t0 0) m = 0 := by
        intro m
        induction m with
        | zero => rfl
        | succ m ih => rw [tfS, if_neg (by simp [fld]), ih]
      exact this _]
    rfl
  rintro i hi k hk _ S1 ⟨rfl, s1, a1⟩
  unfold f_X12_fails_h5
  by_cases q : t0 + n - 1 < t0 + i
  · have e : i = n := by omega
    subst e
    simp (disch := omega) only [n_tn, n_tl, n_t0, n_lt, n_le, n_eq, n_ltl, n_lel, n_eql, n_llt, n_lle, n_leq, n_m1l, n_m1r, n_addl, n_ladd, nI_add, n_mul, n_mull, n_lmul, n_sub, n_subl, n_div, n_divl, n_modd, true_and, and_true, bi_s, bv_s, bM_e, bI_e, bL_e, ck_n, ck_l, ck_0, if_pos q, Ho_some]
    exact ⟨s1, a1⟩
  · obtain ⟨w1, w2, w3⟩ := hv_vw hwW hw.2.2 i
    obtain ⟨q1, q2, q3⟩ := hv_ok hwW hw.2.2 (i + 1)
    obtain ⟨w1', w2', w3'⟩ := hv_vw hwW hw.2.2 (i + 1)
    have hw' : MW v (hvN w (i + 1)) := ⟨fun j j1 j2 j3 => by rw [q1 j (by omega)]; exact hw.1 j j1 j2 j3, by rw [w3']; exact hw.2.1, w2'⟩
    simp (disch := omega) only [n_tn, n_tl, n_t0, n_lt, n_le, n_eq, n_ltl, n_lel, n_eql, n_llt, n_lle, n_leq, n_m1l, n_m1r, n_addl, n_ladd, nI_add, n_mul, n_mull, n_lmul, n_sub, n_subl, n_div, n_divl, n_modd, true_and, and_true, bi_s, bv_s, bM_e, bI_e, bL_e, ck_n, ck_l, ck_0, if_neg q, Ho_bv]
    refine Ho_mono (mh_hour hN w1 a1 w2 (by rw [w3]; have := hw.2.1; omega)) ?_
    rintro S2 ⟨s2, a2⟩
    have a2' : Ar S2 205 435 (hvN w (i + 1)) := a2
    rw [m_failing hN hv hw' a2' (by omega), bi_s, fa_or, tf_or]
    refine hk (by omega) _ _ ⟨?_, s1.tr s2, a2'⟩
    congr 2
    congr 1
    refine tf_cong fun j hj => ?_
    rw [fld_s]
    congr 1
    refine flT_cg hv (fun _ _ _ _ => rfl) (fun m hm => ?_) hj
    rw [show fogv (hvN w (i + 1)) m = hvN w (i + 1) (103 + m) from rfl, q3 m hm]
    exact hrN_cg hv.1 hw.1 (fun _ _ => rfl) (i + 1) m hm
/-- served, by the gates that are open in w -/
theorem m_served (hN : 200 < N) (hv : VV v) (hw : MW v w) (hA : Ar S 205 435 w) : Ho (f_X12_servedNow N S) (fun q => q.1 = nI (tfS (fun k => !fld v (w 10) (fogv w) 1 24 k) (v 4)) ∧ Sm [206, 209] S q.2) := by
  have hwW : VW w := hv.1.cg hw.1
  have v4 := hv.2.2.1
  unfold f_X12_servedNow
  rw [Ho_bv]
  refine Ho_mono (m_keeps hN) ?_
  rintro S1 ⟨k1, k2⟩
  rw [Ho_bi]
  refine Ho_mono (m_fails (t0 := 1) (n := 24) hN hv hw (hA.same (k1.2 205 (by simp))) (by omega) rfl) ?_
  rintro ⟨r, S2⟩ ⟨e1, s2, a2⟩
  dsimp only at e1 s2 a2 ⊢
  rw [Ho_bv]
  refine Ho_mono (m_gives hN) ?_
  rintro S3 ⟨g1, g2, g3⟩
  obtain ⟨q1, q2, q3⟩ := hv_ok hwW hw.2.2 24
  have hb := m_back hA k1 k2 s2 a2 (fun i hi => q1 i (Or.inr hi)) g1 g2 g3
  have c4 : S3.1 205 4 = nI (v 4) := by rw [hb.2 205 (by simp), hA 4 (by omega), hw.1 4 (by omega) (by omega) (by omega)]
  simp (disch := omega) only [n_tn, n_tl, n_t0, n_lt, n_le, n_eq, n_ltl, n_lel, n_eql, n_llt, n_lle, n_leq, n_m1l, n_m1r, n_addl, n_ladd, nI_add, n_mul, n_mull, n_lmul, n_sub, n_subl, n_div, n_divl, n_modd, true_and, and_true, bi_s, bv_s, bM_e, bI_e, bL_e, ck_n, ck_l, ck_0, Ho_some, c4, n_shl1]
  rw [n_subl (pow_ge1 _), e1, ← tf_all, tf_andnot]
  exact ⟨by simp, hb⟩
end D2
