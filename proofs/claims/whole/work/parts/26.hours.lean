theorem tgt_lt {v : Nat → Nat} {b x : Nat} (hb : b < v 0 * v 1) (h : tgt v b x = true) : x < v 0 * v 1 := by
  have W1 : 1 ≤ v 0 := by
    rcases Nat.eq_zero_or_pos (v 0) with h | h
    · rw [h, Nat.zero_mul] at hb; omega
    · exact h
  have hm : b % v 0 < v 0 := Nat.mod_lt b W1
  have hd : b / v 0 < v 1 := Nat.div_lt_of_lt_mul hb
  have hdm : b / v 0 * v 0 + b % v 0 = b := by rw [Nat.mul_comm]; exact Nat.div_add_mod b (v 0)
  have h1 : b % v 0 + 1 < v 0 → b + 1 < v 0 * v 1 := fun z => by
    have := bd z hd
    omega
  have h2 : b / v 0 + 1 < v 1 → b + v 0 < v 0 * v 1 := fun z => by
    have := bd hm z
    rw [Nat.succ_mul] at this
    omega
  unfold tgt at h
  split at h
  · have h := of_decide_eq_true h
    rcases h with h | h | h | h
    · omega
    · have := h1 h.1; omega
    · omega
    · have := h2 h.1; omega
  · have h := of_decide_eq_true h
    rcases h with h | h | h | h
    · have := h1 h.2.1; omega
    · have := h2 h.2.1; omega
    · omega
    · omega
theorem drf_oth {v : Nat → Nat} {f : Nat} {Was F : Nat → Nat} {k : Nat} (hk : k < f ∨ f + v 0 * v 1 ≤ k) : ∀ n, n ≤ v 0 * v 1 → drf v f Was F n k = F k
  | 0, _ => rfl
  | n + 1, hn => by
    have ih := drf_oth (Was := Was) (F := F) hk n (by omega)
    rw [drf]
    unfold stp
    rw [if_neg (by omega), if_neg]
    · exact ih
    · rintro ⟨h1, h2⟩
      have := tgt_lt (by omega) h2
      omega
theorem drf_loc {v : Nat → Nat} {f : Nat} {Was Was' F G : Nat → Nat} (hw : ∀ b, b < v 0 * v 1 → Was (f + b) = Was' (f + b)) (hF : ∀ k, f ≤ k → k < f + v 0 * v 1 → F k = G k) : ∀ n, n ≤ v 0 * v 1 → ∀ k, f ≤ k → k < f + v 0 * v 1 → drf v f Was F n k = drf v f Was' G n k
  | 0, _, k, h1, h2 => hF k h1 h2
  | n + 1, hn, k, h1, h2 => by
    have ih := drf_loc hw hF n (by omega) k h1 h2
    rw [drf, drf]
    unfold stp
    rw [ih, hw n (by omega)]
/-- the port behind an hour -/
def hrV (v : Nat → Nat) : Nat → Nat := fun i => if i = 9 then v 9 + 1 else fgV v (hrF v (v 10) (fun k => v (103 + k))) i
def st2 (v : Nat → Nat) (F : Nat → Nat) (n : Nat) : Nat → Nat := fun k => if k < n then F k - (min (F k) (F (30 + k)) + v 7) else if 30 ≤ k ∧ k < 30 + n then F k - (min (F (k - 30)) (F k) + v 7) else F k
theorem hr_two {v F1 : Nat → Nat} (hv : VW v) (k : Nat) : st2 v (cap 30 (v 0 * v 1) (drf v 30 (cap 0 (v 0 * v 1) (drf v 0 F1 F1 (v 0 * v 1))) (cap 0 (v 0 * v 1) (drf v 0 F1 F1 (v 0 * v 1))) (v 0 * v 1))) (v 0 * v 1) k = stl v (drf v 30 F1 (drf v 0 F1 F1 (v 0 * v 1)) (v 0 * v 1)) (v 0 * v 1) k := by
  have b30 := bd30 hv.1 hv.2.1
  have e0 : ∀ k, 30 ≤ k → drf v 0 F1 F1 (v 0 * v 1) k = F1 k := fun k hk => drf_oth (by omega) _ (Nat.le_refl _)
  have c0 : ∀ G : Nat → Nat, ∀ k, 30 ≤ k → cap 0 (v 0 * v 1) G k = G k := fun G k hk => if_neg (by omega)
  have e3 : ∀ k, 30 ≤ k → k < 30 + v 0 * v 1 → drf v 30 (cap 0 (v 0 * v 1) (drf v 0 F1 F1 (v 0 * v 1))) (cap 0 (v 0 * v 1) (drf v 0 F1 F1 (v 0 * v 1))) (v 0 * v 1) k = drf v 30 F1 (drf v 0 F1 F1 (v 0 * v 1)) (v 0 * v 1) k := fun k h1 h2 => drf_loc (fun b hb => by rw [c0 _ _ (by omega), e0 _ (by omega)]) (fun k h1 h2 => c0 _ _ h1) _ (Nat.le_refl _) k h1 h2
  have e4 : ∀ (Was G : Nat → Nat) k, k < 30 ∨ 30 + v 0 * v 1 ≤ k → drf v 30 Was G (v 0 * v 1) k = G k := fun Was G k hk => drf_oth hk _ (Nat.le_refl _)
  have lo : ∀ k, k < v 0 * v 1 → cap 30 (v 0 * v 1) (drf v 30 (cap 0 (v 0 * v 1) (drf v 0 F1 F1 (v 0 * v 1))) (cap 0 (v 0 * v 1) (drf v 0 F1 F1 (v 0 * v 1))) (v 0 * v 1)) k = min 999 (drf v 30 F1 (drf v 0 F1 F1 (v 0 * v 1)) (v 0 * v 1) k) := fun k hk => by
    have : ∀ G, cap 30 (v 0 * v 1) G k = G k := fun G => if_neg (by omega)
    rw [this, e4 _ _ k (by omega), e4 _ _ k (by omega)]
    exact if_pos (by omega)
  have hi : ∀ k, 30 ≤ k → k < 30 + v 0 * v 1 → cap 30 (v 0 * v 1) (drf v 30 (cap 0 (v 0 * v 1) (drf v 0 F1 F1 (v 0 * v 1))) (cap 0 (v 0 * v 1) (drf v 0 F1 F1 (v 0 * v 1))) (v 0 * v 1)) k = min 999 (drf v 30 F1 (drf v 0 F1 F1 (v 0 * v 1)) (v 0 * v 1) k) := fun k h1 h2 => by
    have : ∀ G, cap 30 (v 0 * v 1) G k = min 999 (G k) := fun G => if_pos ⟨h1, h2⟩
    rw [this, e3 k h1 h2]
  unfold st2 stl
  by_cases a : k < v 0 * v 1
  · rw [if_pos a, if_pos a, lo k a, hi (30 + k) (by omega) (by omega), Nat.sub_sub]
  · rw [if_neg a, if_neg a]
    by_cases b : 30 ≤ k ∧ k < 30 + v 0 * v 1
    · rw [if_pos b, if_pos b, hi k b.1 b.2, lo (k - 30) (by omega), Nat.sub_sub]
    · rw [if_neg b, if_neg b]
      have : ∀ G, cap 30 (v 0 * v 1) G k = G k := fun G => if_neg (by omega)
      rw [this, e4 _ _ k (by omega), e4 _ _ k (by omega)]
      exact if_neg (by omega)
section GH
variable {N : Nat} {S : Mem} {v : Nat → Nat}
theorem mh_hour (hN : 200 < N) (hv : VW v) (hA : Ar S 205 435 v) (hF9 : ∀ k, k < 60 → v (103 + k) ≤ 999) (hg : v 10 < 2147483648) :
    Ho (f_X12_goesHour N S) (fun S' => SmH S S' ∧ Ar S' 205 435 (hrV v)) := by
  have b30 := bd30 hv.1 hv.2.1
  have v7 := hv.2.2.2.2.1
  have lo : ∀ {S1 : Mem} {G : Nat → Nat}, Ar S1 205 435 (fgV v G) → ∀ j, j < 103 → S1.1 205 j = nI (v j) := fun h j hj => by rw [h j (by omega), fg_lo hj]
  unfold f_X12_goesHour
  rw [Ho_bv]
  refine Ho_mono (mh_let (F := fun k => v (103 + k)) (by omega) hv (hA.cong fun k _ => (fg_id v k).symm) hF9 hg) ?_
  rintro S1 ⟨hS1, hA1⟩
  have f1 := letF_le (v := v) (gates := v 10) hF9 (v 2)
  have hfin : ∀ k, hrF v (v 10) (fun k => v (103 + k)) k = _ := fun k => (hr_two (F1 := letF v (v 10) (fun k => v (103 + k)) (v 2)) hv k).symm
  have hrVe : hrV v = fun i => if i = 9 then v 9 + 1 else fgV v (st2 v (cap 30 (v 0 * v 1) (drf v 30 (cap 0 (v 0 * v 1) (drf v 0 (letF v (v 10) (fun k => v (103 + k)) (v 2)) (letF v (v 10) (fun k => v (103 + k)) (v 2)) (v 0 * v 1))) (cap 0 (v 0 * v 1) (drf v 0 (letF v (v 10) (fun k => v (103 + k)) (v 2)) (letF v (v 10) (fun k => v (103 + k)) (v 2)) (v 0 * v 1))) (v 0 * v 1))) (v 0 * v 1)) i := by
    unfold hrV
    rw [show hrF v (v 10) (fun k => v (103 + k)) = _ from funext hfin]
  rw [hrVe]
  clear hrVe hfin
  generalize letF v (v 10) (fun k => v (103 + k)) (v 2) = F1 at *
  rw [Ho_bv]
  refine Ho_mono (mh_drift (kd := 0) (f := 0) hN hv (by omega) rfl hA1 f1) ?_
  rintro S2 ⟨hS2, hA2⟩
  have d1 := drf_le (v := v) (f := 0) (B := 999) f1 f1 (v 0 * v 1) (by omega)
  have f2 : ∀ k, k < 60 → cap 0 (v 0 * v 1) (drf v 0 F1 F1 (v 0 * v 1)) k ≤ 999 := fun k hk => by
    unfold cap
    split
    · omega
    · rw [drf_oth (by omega) _ (Nat.le_refl _)]
      exact f1 k hk
  generalize cap 0 (v 0 * v 1) (drf v 0 F1 F1 (v 0 * v 1)) = F2 at *
  rw [Ho_bv]
  refine Ho_mono (mh_drift (kd := 1) (f := 30) hN hv (by omega) rfl hA2 f2) ?_
  rintro S3 ⟨hS3, hA3⟩
  have f3 : ∀ k, k < 60 → cap 30 (v 0 * v 1) (drf v 30 F2 F2 (v 0 * v 1)) k ≤ 999 := fun k hk => by
    unfold cap
    split
    · omega
    · rw [drf_oth (by omega) _ (Nat.le_refl _)]
      exact f2 k hk
  generalize cap 30 (v 0 * v 1) (drf v 30 F2 F2 (v 0 * v 1)) = F3 at *
  refine Ho_lp (fun i a S' => a = nI i ∧ SmH S S' ∧ Ar S' 205 435 (fgV v (st2 v F3 i))) (v 0 * v 1) (by omega) ⟨rfl, (hS1.tr hS2).tr hS3, hA3.cong fun j _ => by congr 1; funext k; unfold st2; rw [if_neg (by omega), if_neg (by omega)]⟩ ?_
  rintro i hi k hk _ S4 ⟨rfl, hS4, hA4⟩
  unfold f_X12_goesHour_h16
  simp (disch := omega) only [m_boards (lo hA4 0 (by omega)) (lo hA4 1 (by omega)), n_tn, n_tl, n_t0, n_lt, n_le, n_eq, n_ltl, n_lel, n_eql, n_llt, n_lle, n_leq, n_m1l, n_m1r, n_addl, n_ladd, nI_add, n_mul, n_mull, n_lmul, n_sub, n_subl, n_div, n_divl, n_modd, true_and, and_true, bi_s, bv_s, bM_e, bI_e, bL_e, ck_n, ck_l, ck_0]
  by_cases hie : v 0 * v 1 ≤ i
  · rw [if_pos hie]
    have e : i = v 0 * v 1 := by omega
    simp (disch := omega) only [lo hA4 9 (by omega), n_tn, n_tl, n_t0, n_lt, n_le, n_eq, n_ltl, n_lel, n_eql, n_llt, n_lle, n_leq, n_m1l, n_m1r, n_addl, n_ladd, nI_add, n_mul, n_mull, n_lmul, n_sub, n_subl, n_div, n_divl, n_modd, true_and, and_true, bi_s, bv_s, bM_e, bI_e, bL_e, ck_n, ck_l, ck_0, Ho_some]
    refine ⟨hS4.c (by omega), ?_⟩
    rw [e] at hA4
    exact hA4.put 9 (v 9 + 1)
  · rw [if_neg hie]
    have a1 : S4.1 205 (103 + i) = nI (F3 i) := by
      rw [hA4 _ (by omega), fg_at (by omega)]
      unfold st2
      rw [if_neg (by omega), if_neg (by omega)]
    have a2 : S4.1 205 (133 + i) = nI (F3 (30 + i)) := by
      rw [show 133 + i = 103 + (30 + i) by omega, hA4 _ (by omega), fg_at (by omega)]
      unfold st2
      rw [if_neg (by omega), if_neg (by omega)]
    have l1 := f3 i (by omega)
    have l2 := f3 (30 + i) (by omega)
    simp (disch := omega) only [lo hA4 7 (by omega), n_tn, n_tl, n_t0, n_lt, n_le, n_eq, n_ltl, n_lel, n_eql, n_llt, n_lle, n_leq, n_m1l, n_m1r, n_addl, n_ladd, nI_add, n_mul, n_mull, n_lmul, n_sub, n_subl, n_div, n_divl, n_modd, true_and, and_true, bi_s, bv_s, bM_e, bI_e, bL_e, ck_n, ck_l, ck_0, a1, a2, n_min, n_max0]
    have a3 : (uI S4 205 (103 + i) (nI (F3 i - (min (F3 i) (F3 (30 + i)) + v 7)))).1 205 (133 + i) = nI (F3 (30 + i)) := by
      rw [g_uI, if_pos rfl, g_upd, if_neg (by omega), a2]
    rw [a3]
    simp (disch := omega) only [n_max0]
    refine hk (by omega) _ _ ⟨rfl, (hS4.c (by omega)).c (by omega), ?_⟩
    have := (hA4.fg (k := i) (y := F3 i - (min (F3 i) (F3 (30 + i)) + v 7)) (by omega)).fg (k := 30 + i) (y := F3 (30 + i) - (min (F3 i) (F3 (30 + i)) + v 7)) (by omega)
    rw [show 103 + (30 + i) = 133 + i by omega] at this
    refine this.cong fun j _ => ?_
    congr 1
    funext k
    unfold pt st2
    by_cases c1 : k = 30 + i
    · rw [if_pos c1, if_neg (show ¬ k < i + 1 by omega), if_pos (show 30 ≤ k ∧ k < 30 + (i + 1) by omega), c1, show 30 + i - 30 = i by omega]
    · rw [if_neg c1]
      by_cases c2 : k = i
      · rw [if_pos c2, if_pos (show k < i + 1 by omega), c2]
      · rw [if_neg c2]
        by_cases c3 : k < i
        · rw [if_pos c3, if_pos (show k < i + 1 by omega)]
        · rw [if_neg c3, if_neg (show ¬ k < i + 1 by omega)]
          by_cases c4 : 30 ≤ k ∧ k < 30 + i
          · rw [if_pos c4, if_pos (show 30 ≤ k ∧ k < 30 + (i + 1) by omega)]
          · rw [if_neg c4, if_neg (show ¬ (30 ≤ k ∧ k < 30 + (i + 1)) by omega)]
end GH
theorem hrF_le {v F : Nat → Nat} {g : Nat} (hv : VW v) (hF : ∀ k, k < 60 → F k ≤ 999) : ∀ k, k < 60 → hrF v g F k ≤ 999 := by
  intro k hk
  have b30 := bd30 hv.1 hv.2.1
  have f1 := letF_le (v := v) (gates := g) hF (v 2)
  unfold hrF stl
  split
  · omega
  · split
    · omega
    · rename_i h1 h2
      by_cases h : k < 30
      · rw [drf_oth (by omega) _ (Nat.le_refl _), drf_oth (by omega) _ (Nat.le_refl _)]
        exact f1 k hk
      · rw [drf_oth (by omega) _ (Nat.le_refl _), drf_oth (by omega) _ (Nat.le_refl _)]
        exact f1 k hk
