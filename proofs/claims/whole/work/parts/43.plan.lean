section D4
variable {N : Nat} {C S M : Mem} {v : Nat → Nat}
def pyP (v : Nat → Nat) (a : Nat) : Nat := pyS v (fun k => !fld v a (fogv v) 1 24 k) (v 4)
theorem pyP_le (hv : VV v) (a : Nat) : pyP v a ≤ 594 := by
  have := pyS_le (v := v) (p := fun k => !fld v a (fogv v) 1 24 k) (n := v 4) (fun k hk => (hv.2.2.2.2.2.2.2.2.1 k hk).2.2.2.2.1)
  have := hv.2.2.1
  unfold pyP
  omega
def kyP (v : Nat → Nat) (x : Nat) : Nat := 64 * (7 * pyP v x + (6 - pop x)) + (63 - x)
theorem kyP_inj {x y : Nat} (hx : x < 64) (hy : y < 64) (h : kyP v x = kyP v y) : x = y := by
  unfold kyP at h
  omega
theorem i_le_nlt (x y : Int32) : x ≤ y ↔ ¬ y < x := by rw [fa_le, fa_lt]; omega
theorem c_try {j : Nat} {bp : Int32} (hN : 200 < N) (hv : VV v) (hC : PC M 10 v) (hj : j < 64) (hb : M.1 93 6 = bp) : Ho (f_X0_tryPlan N 10 (nI j) M) (fun M' => Sm [93, 94, 91, 95] M M' ∧ ((bp < nI (pyP v j) ∧ M'.1 93 6 = nI (pyP v j) ∧ M'.1 93 7 = nI j) ∨ (¬ bp < nI (pyP v j) ∧ M'.1 93 6 = bp ∧ M'.1 93 7 = M.1 93 7))) := by
  have v4 := hv.2.2.1
  unfold f_X0_tryPlan
  rw [Ho_bv]
  refine Ho_mono (c_begin hN hv hC) ?_
  rintro M1 ⟨s1, f1, o1⟩
  have hC1 := hC.sm s1 scrF
  rw [o1 6 (by omega), hb, Ho_bv]
  refine Ho_mono (c_follow (t0 := 1) (n := 24) (fl := bp) (F := fogv v) (P := fun _ => true) hN hv hC1 hj (by omega) rfl hv.2.2.2.2.2.2.2.2.2.2.1 f1) ?_
  rintro M2 ⟨s2, -, o2, m, hm, f2, hd⟩
  have m6 : M2.1 93 6 = bp := by rw [o2 6 (by omega), o1 6 (by omega), hb]
  have m7 : M2.1 93 7 = M.1 93 7 := by rw [o2 7 (by omega), o1 7 (by omega)]
  have mono : pyP v j ≤ pyS v (fun k => true && !fld v j (fogv v) 1 m k) (v 4) := by
    refine pyS_mono fun k hk h => ?_
    simp only [Bool.not_eq_true', Bool.true_and] at h ⊢
    cases e : fld v j (fogv v) 1 m k with
    | false => rfl
    | true =>
      have := fld_mono (v := v) (F := fogv v) (g := j) (t0 := 1) (k := k) m (24 - m) e
      rw [show m + (24 - m) = 24 by omega, h] at this
      cases this
  have ple := pyS_le (v := v) (p := fun k => true && !fld v j (fogv v) 1 m k) (n := v 4) (fun k hk => (hv.2.2.2.2.2.2.2.2.1 k hk).2.2.2.2.1)
  rw [f2.2.2.1, m6]
  have key : (bp < nI (pyS v (fun k => true && !fld v j (fogv v) 1 m k) (v 4)) ∧ pyP v j = pyS v (fun k => true && !fld v j (fogv v) 1 m k) (v 4)) ∨ (¬ bp < nI (pyS v (fun k => true && !fld v j (fogv v) 1 m k) (v 4)) ∧ ¬ bp < nI (pyP v j)) := by
    by_cases c : bp < nI (pyS v (fun k => true && !fld v j (fogv v) 1 m k) (v 4))
    · refine Or.inl ⟨c, ?_⟩
      have hd' : m = 24 ∨ lsH v (v 4) < 1 + m := by
        rcases hd with hd | hd | hd
        · exact Or.inl hd
        · exact Or.inr hd
        · exact absurd c hd
      unfold pyP
      refine pyS_cong fun k hk => ?_
      have := fol_eq (v := v) (g := j) (F := fogv v) (P := fun _ => true) hm hd' k hk
      simp only [Bool.true_and] at this ⊢
      exact this.symm
    · refine Or.inr ⟨c, fun z => c ?_⟩
      rw [fa_lt, nI_toInt (by omega)] at z ⊢
      omega
  rcases key with ⟨k1, k2⟩ | ⟨k1, k2⟩
  · rw [if_neg (by rw [i_le_nlt]; exact fun z => z k1)]
    simp only [bM_e, Ho_some]
    refine ⟨((s1.tr s2).uI (by simp)).uI (by simp), Or.inl ⟨by rw [k2]; exact k1, ?_, u_at _ _ _ _⟩⟩
    rw [us_same, g_upd, if_neg (by decide), u_at, k2]
  · rw [if_pos (by rw [i_le_nlt]; exact k1), Ho_some]
    exact ⟨s1.tr s2, Or.inr ⟨k2, m6, m7⟩⟩
/-- the best of those done -/
def bsP (v : Nat → Nat) (p f : Int32) (done : Nat → Prop) : Prop := ((∀ x, x < 2 ^ v 2 → ¬ done x) ∧ p = -1) ∨ ∃ b, b < 2 ^ v 2 ∧ done b ∧ p = nI (pyP v b) ∧ f = nI b ∧ ∀ x, x < 2 ^ v 2 → done x → kyP v x ≤ kyP v b
theorem c_plan (hN : 200 < N) (hv : VV v) (hC : PC M 10 v) : Ho (f_X0_findPlan N 10 M) (fun M' => Sm [93, 94, 91, 95] M M' ∧ bsP v (M'.1 93 6) (M'.1 93 7) (fun _ => True)) := by
  have v2 := hv.1.2.2.1
  have p64 := pow_le64 v2
  unfold f_X0_findPlan
  simp only [bM_e, bI_e]
  have c7 := hC.1.2.2.2.2.1
  have e7 : (uI (uI M 93 6 (-1)) 93 7 0).1 10 7 = nI (v 2) := by rw [u_ne (by decide), u_ne (by decide)]; exact c7
  rw [e7, n_shl1 (by omega)]
  refine Ho_lp (fun s a M' => a = (nI (2 ^ v 2), nI s) ∧ Sm [93, 94, 91, 95] M M' ∧ bsP v (M'.1 93 6) (M'.1 93 7) (fun x => pop x < s)) (v 2 + 1) (by omega) ⟨rfl, (Sm.rf.uI (by simp)).uI (by simp), Or.inl ⟨fun _ _ => Nat.not_lt_zero _, ?_⟩⟩ ?_
  · rw [us_same, g_upd, if_neg (by decide), u_at]
  rintro s hs k hk _ M1 ⟨rfl, s1, b1⟩
  unfold f_X0_findPlan_h19
  have hC1 := hC.sm s1 scrF
  dsimp only
  rw [hC1.1.2.2.2.2.1]
  by_cases g : v 2 < s
  · have e : s = v 2 + 1 := by omega
    subst e
    rw [if_pos (by rw [n_lt (by omega)]; exact g), Ho_some]
    have hp : ∀ w, w < 7 → ∀ x, x < 2 ^ w → pop x < w + 1 := by decide +kernel
    refine ⟨s1, ?_⟩
    rcases b1 with ⟨h1, h2⟩ | ⟨b, h1, h2, h3, h4, h5⟩
    · exact absurd (hp (v 2) (by omega) 0 (Nat.two_pow_pos _)) (h1 0 (Nat.two_pow_pos _))
    · exact Or.inr ⟨b, h1, trivial, h3, h4, fun x hx _ => h5 x hx (hp (v 2) (by omega) x hx)⟩
  · rw [if_neg (by rw [n_lt (by omega)]; exact g)]
    refine Ho_lp (fun j a M' => a = (nI (2 ^ v 2), nI s, nI j) ∧ Sm [93, 94, 91, 95] M M' ∧ bsP v (M'.1 93 6) (M'.1 93 7) (fun x => pop x < s ∨ (pop x = s ∧ x < j))) (2 ^ v 2) (by omega) ⟨rfl, s1, ?_⟩ ?_
    · rcases b1 with ⟨h1, h2⟩ | ⟨b, h1, h2, h3, h4, h5⟩
      · exact Or.inl ⟨fun x hx z => by rcases z with z | z; exact h1 x hx z; omega, h2⟩
      · exact Or.inr ⟨b, h1, Or.inl h2, h3, h4, fun x hx z => h5 x hx (by omega)⟩
    rintro j hj k2 hk2 _ M2 ⟨rfl, s2, b2⟩
    unfold f_X0_findPlan_h30 f_X0_findPlan_b52
    dsimp only
    by_cases gj : 2 ^ v 2 ≤ j
    · have e : j = 2 ^ v 2 := by omega
      rw [if_pos (by rw [n_le (by omega)]; exact gj), n_addl]
      refine hk (by omega) _ _ ⟨rfl, s2, ?_⟩
      rcases b2 with ⟨h1, h2⟩ | ⟨b, h1, h2, h3, h4, h5⟩
      · exact Or.inl ⟨fun x hx z => h1 x hx (by omega), h2⟩
      · exact Or.inr ⟨b, h1, by omega, h3, h4, fun x hx z => h5 x hx (by omega)⟩
    · rw [if_neg (by rw [n_le (by omega)]; exact gj), c_bits M2 j (by omega), bi_s]
      have pj := pop_le j
      by_cases gs : pop j = s
      · rw [if_pos (by rw [n_eq (by omega)]; exact gs), Ho_bv]
        refine Ho_mono (c_try hN hv (hC.sm s2 scrF) (show j < 64 by omega) rfl) ?_
        rintro M3 ⟨s3, b3⟩
        rw [n_addl]
        refine hk2 (by omega) _ _ ⟨rfl, s2.tr s3, ?_⟩
        have pl := pyP_le hv j
        rcases b2 with ⟨h1, h2⟩ | ⟨b, h1, h2, h3, h4, h5⟩
        · rcases b3 with ⟨-, q2, q3⟩ | ⟨q1, -⟩
          · refine Or.inr ⟨j, by omega, by omega, q2, q3, fun x hx z => ?_⟩
            by_cases e : x = j
            · rw [e]; exact Nat.le_refl _
            · exact absurd (show pop x < s ∨ (pop x = s ∧ x < j) by omega) (h1 x hx)
          · rw [h2, n_m1lt (by omega)] at q1
            exact absurd trivial q1
        · have pb := pyP_le hv b
          have pob := pop_le b
          rw [h3, n_lt (by omega)] at b3
          rcases b3 with ⟨q1, q2, q3⟩ | ⟨q1, q2, q3⟩
          · refine Or.inr ⟨j, by omega, by omega, q2, q3, fun x hx z => ?_⟩
            by_cases e : x = j
            · rw [e]; exact Nat.le_refl _
            · refine Nat.le_trans (h5 x hx (by omega)) ?_
              unfold kyP
              omega
          · refine Or.inr ⟨b, h1, by omega, q2, by rw [q3]; exact h4, fun x hx z => ?_⟩
            by_cases e : x = j
            · subst e
              unfold kyP
              omega
            · exact h5 x hx (by omega)
      · rw [if_neg (by rw [n_eq (by omega)]; exact gs), n_addl]
        refine hk2 (by omega) _ _ ⟨rfl, s2, ?_⟩
        rcases b2 with ⟨h1, h2⟩ | ⟨b, h1, h2, h3, h4, h5⟩
        · refine Or.inl ⟨fun x hx z => h1 x hx ?_, h2⟩
          by_cases e : x = j
          · subst e; omega
          · omega
        · refine Or.inr ⟨b, h1, by omega, h3, h4, fun x hx z => h5 x hx ?_⟩
          by_cases e : x = j
          · subst e; omega
          · omega
/-- the model's frame while it plans: fields 28 to 30, the gates' state -/
def SmP (S S' : Mem) : Prop := S'.2 = S.2 ∧ (∀ c, c ≠ 200 → c ≠ 205 → c ≠ 206 → c ≠ 209 → S'.1 c = S.1 c) ∧ (∀ k, k ≠ 28 → k ≠ 29 → k ≠ 30 → S'.1 200 k = S.1 200 k) ∧ ∀ k, k ≠ 10 → S'.1 205 k = S.1 205 k
theorem SmP.rf : SmP S S := ⟨rfl, fun _ _ _ _ _ => rfl, fun _ _ _ _ => rfl, fun _ _ => rfl⟩
theorem SmP.tr {S1 S2 : Mem} (h : SmP S S1) (h2 : SmP S1 S2) : SmP S S2 := ⟨h2.1.trans h.1, fun c a b d e => (h2.2.1 c a b d e).trans (h.2.1 c a b d e), fun k a b d => (h2.2.2.1 k a b d).trans (h.2.2.1 k a b d), fun k a => (h2.2.2.2 k a).trans (h.2.2.2 k a)⟩
theorem SmP.u {S1 : Mem} {j : Nat} {x : Int32} (h : SmP S S1) (hj : j = 28 ∨ j = 29 ∨ j = 30) : SmP S (uI S1 200 j x) := h.tr ⟨rfl, fun c a _ _ _ => u_ne a, fun k a b d => by rw [us_same, g_upd, if_neg (by omega)], fun k _ => by rw [u_ne (by decide)]⟩
theorem SmP.o {S1 : Mem} {x : Int32} (h : SmP S S1) : SmP S (uI S1 205 10 x) := h.tr ⟨rfl, fun c _ b _ _ => u_ne b, fun k _ _ _ => by rw [u_ne (by decide)], fun k a => by rw [us_same, g_upd, if_neg a]⟩
theorem SmP.sm {S1 S2 : Mem} (h : SmP S S1) (h2 : Sm [206, 209] S1 S2) : SmP S S2 := h.tr ⟨h2.1, fun c _ _ a b => h2.2 c (by simp [a, b]), fun k _ _ _ => by rw [h2.2 200 (by simp)], fun k _ => by rw [h2.2 205 (by simp)]⟩
theorem MW.gts (hv : VV v) {i : Nat} (hi : i < 64) : MW v (pt v 10 i) := ⟨fun j _ _ h => pt_ne h, by rw [pt_at]; exact hi, fun k hk => by rw [pt_ne (by omega)]; exact hv.2.2.2.2.2.2.2.2.2.2.1 k hk⟩
theorem fogv_pt (v : Nat → Nat) (i k : Nat) : fogv (pt v 10 i) k = fogv v k := pt_ne (by omega)
theorem m_plans (hN : 200 < N) (hv : VV v) (hA : Ar S 205 435 v) : Ho (f_X12_plans N S) (fun S' => SmP S S' ∧ S'.1 205 10 = nI (v 10) ∧ bsP v (S'.1 200 28) (S'.1 200 29) (fun _ => True)) := by
  have v2 := hv.1.2.2.1
  have v4 := hv.2.2.1
  have p64 := pow_le64 v2
  unfold f_X12_plans
  rw [ck_l (by omega), show tn 10 = 10 from rfl, bM_e, hA 10 (by omega)]
  refine Ho_lp (fun i a S' => a = (nI (v 10), nI i) ∧ SmP S S' ∧ bsP v (S'.1 200 28) (S'.1 200 29) (fun x => x < i)) (2 ^ v 2) (by omega) ⟨rfl, SmP.rf.u (by omega), Or.inl ⟨fun _ _ => Nat.not_lt_zero _, u_at _ _ _ _⟩⟩ ?_
  rintro i hi k hk _ S1 ⟨rfl, s1, b1⟩
  have a2 : S1.1 205 2 = nI (v 2) := by rw [s1.2.2.2 2 (by decide)]; exact hA 2 (by omega)
  unfold f_X12_plans_h15 f_X12_plans_b77 f_X12_plans_b87
  dsimp only
  rw [ck_l (by omega), show tn 2 = 2 from rfl, a2, n_shl1 (by omega)]
  by_cases g : 2 ^ v 2 ≤ i
  · have e : i = 2 ^ v 2 := by omega
    subst e
    rw [if_pos (by rw [n_le (by omega)]; exact g), ck_l (by omega), bM_e, Ho_some]
    refine ⟨s1.o, by rw [show tn 10 = 10 from rfl, u_at], ?_⟩
    rw [u_ne (by decide)]
    rcases b1 with ⟨h1, h2⟩ | ⟨b, h1, h2, h3, h4, h5⟩
    · exact Or.inl ⟨fun x hx => absurd hx (h1 x hx), h2⟩
    · exact Or.inr ⟨b, h1, trivial, h3, h4, fun x hx _ => h5 x hx hx⟩
  · rw [if_neg (by rw [n_le (by omega)]; exact g), ck_l (by omega), bM_e, show tn 10 = 10 from rfl]
    have s2 : SmP S (uI S1 205 10 (nI i)) := s1.o
    have hA2 : Ar (uI S1 205 10 (nI i)) 205 435 (pt v 10 i) := fun q hq => by
      by_cases e : q = 10
      · subst e
        rw [u_at, pt_at]
      · rw [s2.2.2.2 q e, pt_ne e]
        exact hA q hq
    have h28 : (uI S1 205 10 (nI i)).1 200 28 = S1.1 200 28 := by rw [u_ne (by decide)]
    have h29 : (uI S1 205 10 (nI i)).1 200 29 = S1.1 200 29 := by rw [u_ne (by decide)]
    rw [Ho_bi]
    refine Ho_mono (m_served hN hv (MW.gts hv (show i < 64 by omega)) hA2) ?_
    rintro ⟨r, S3⟩ ⟨e3, s3⟩
    dsimp only at e3 s3 ⊢
    have s3' := s2.sm s3
    rw [pt_at] at e3
    have ef : tfS (fun k => !fld v i (fogv (pt v 10 i)) 1 24 k) (v 4) = tfS (fun k => !fld v i (fogv v) 1 24 k) (v 4) := tf_cong fun k hk => by rw [fld_cg hv (fun _ _ _ _ => rfl) (fun q _ => fogv_pt v i q) hk]
    rw [ef] at e3
    have tl := tf_small hv (fun k => !fld v i (fogv v) 1 24 k)
    rw [e3, m_paidFor hN hv (fun q h1 h2 h3 => by rw [s3'.2.2.2 q h3]; exact hA q (by omega)) (by omega), bi_s, pyS_tf, show pyS v (fun k => !fld v i (fogv v) 1 24 k) (v 4) = pyP v i from rfl, s3.2 200 (by simp), h28, n_addl]
    have pl := pyP_le hv i
    have poi := pop_le i
    have set : (∀ x, x < i → kyP v x ≤ kyP v i) → Ho (k (nI (v 10), nI (i + 1)) (uI (uI S3 200 28 (nI (pyP v i))) 200 29 (nI i))) (fun S' => SmP S S' ∧ S'.1 205 10 = nI (v 10) ∧ bsP v (S'.1 200 28) (S'.1 200 29) (fun _ => True)) := fun h => by
      refine hk (by omega) _ _ ⟨rfl, (s3'.u (by omega)).u (by omega), Or.inr ⟨i, by omega, by omega, ?_, u_at _ _ _ _, fun x hx z => ?_⟩⟩
      · rw [us_same, g_upd, if_neg (by decide), u_at]
      · by_cases e : x = i
        · rw [e]; exact Nat.le_refl _
        · exact h x (by omega)
    rcases b1 with ⟨h1, h2⟩ | ⟨b, h1, h2, h3, h4, h5⟩
    · have i0 : i = 0 := by
        rcases Nat.eq_zero_or_pos i with z | z
        · exact z
        · exact absurd z (h1 0 (Nat.two_pow_pos _))
      rw [h2, if_neg (fun z => by rw [fa_lt, nI_toInt (by omega), show (-1 : Int32).toInt = -1 by decide] at z; omega), if_neg (by rw [n_m1l (by omega)]; exact id)]
      simp only [bM_e]
      exact set fun x hx => by omega
    · have pb := pyP_le hv b
      have pob := pop_le b
      have keep : kyP v i ≤ kyP v b → Ho (k (nI (v 10), nI (i + 1)) S3) (fun S' => SmP S S' ∧ S'.1 205 10 = nI (v 10) ∧ bsP v (S'.1 200 28) (S'.1 200 29) (fun _ => True)) := fun h => by
        refine hk (by omega) _ _ ⟨rfl, s3', Or.inr ⟨b, h1, by omega, ?_, ?_, fun x hx z => ?_⟩⟩
        · rw [s3.2 200 (by simp), h28, h3]
        · rw [s3.2 200 (by simp), h29, h4]
        · by_cases e : x = i
          · rw [e]; exact h
          · exact h5 x hx (by omega)
      rw [h3]
      by_cases c1 : pyP v i < pyP v b
      · rw [if_pos (by rw [n_lt (by omega)]; exact c1)]
        exact keep (by unfold kyP; omega)
      · rw [if_neg (by rw [n_lt (by omega)]; exact c1)]
        by_cases c2 : pyP v i = pyP v b
        · rw [if_pos (by rw [n_eq (by omega)]; exact c2), m_size (by omega) (by omega), bi_s, s3.2 200 (by simp), h29, h4, m_size (by omega) (by omega), bi_s]
          by_cases c3 : pop i < pop b
          · rw [if_pos (by rw [n_lt (by omega)]; exact c3)]
            simp only [bM_e]
            exact set fun x hx => Nat.le_trans (h5 x (by omega) hx) (by unfold kyP; omega)
          · rw [if_neg (by rw [n_lt (by omega)]; exact c3)]
            exact keep (by unfold kyP; omega)
        · rw [if_neg (by rw [n_eq (by omega)]; exact c2)]
          simp only [bM_e]
          exact set fun x hx => Nat.le_trans (h5 x (by omega) hx) (by unfold kyP; omega)
theorem bsP_one (hv : VV v) {p f p' f' : Int32} (h : bsP v p f (fun _ => True)) (h' : bsP v p' f' (fun _ => True)) : p = p' ∧ f = f' := by
  have p64 := pow_le64 hv.1.2.2.1
  rcases h with ⟨h, -⟩ | ⟨b, h1, -, h3, h4, h5⟩
  · exact absurd trivial (h 0 (Nat.two_pow_pos _))
  · rcases h' with ⟨h, -⟩ | ⟨b', h1', -, h3', h4', h5'⟩
    · exact absurd trivial (h 0 (Nat.two_pow_pos _))
    · have e : b = b' := kyP_inj (v := v) (by omega) (by omega) (Nat.le_antisymm (h5' b h1 trivial) (h5 b' h1' trivial))
      subst e
      exact ⟨h3.trans h3'.symm, h4.trans h4'.symm⟩
/-- a plan answered -/
theorem cl_plan {C1 S1 : Mem} (hR : Re C S) (hs : S.1 200 0 = 0) (hC : Sm [93, 94, 91, 95] C C1) (hS : SmP S S1) (h10 : S1.1 205 10 = S.1 205 10) : Rel (uI C1 0 0 0) S1 :=
  hR.st ((KC.sm hC fun c hc => by have := scrF c hc; unfold scrC; omega).st 0) ⟨hS.1, fun k hk => hS.2.2.1 k (by unfold okM at hk; omega) (by unfold okM at hk; omega) (by unfold okM at hk; omega), fun c hc => hS.2.1 c (by omega) (by omega) (by omega) (by omega), fun k h1 _ => hS.2.2.2 k (by omega)⟩ (by rw [u_at, hS.2.2.1 0 (by decide) (by decide) (by decide), hs]) (fun c h1 h2 => by rw [u_ne (by omega)]; exact hC.2 c (fun z => by have := scrF c z; omega)) (fun k hk => by
    by_cases e : k = 10
    · rw [e]; exact h10
    · exact hS.2.2.2 k e)
theorem e_plan (hN : 200 < N) (h : Rel C S) : Same (f_X11_plan N C) (f_X12_plan N S) := by
  have hR := Re.go h
  have hs := S0_st S 0 0
  unfold f_X11_plan f_X12_plan f_X11_answered
  simp only [bM_e]
  generalize uI (uI S 200 1 0) 200 0 0 = S at *
  obtain ⟨v, hv, h9, hC, hA, hn⟩ := hR.get
  refine Same.two (P := fun q => ∃ C1, q.1 = C1.1 93 6 ∧ Sm [93, 94, 91, 95] C C1 ∧ bsP v (C1.1 93 6) (C1.1 93 7) (fun _ => True) ∧ q.2 = uI C1 0 0 0) (P' := fun q => q.1 = q.2.1 200 28 ∧ SmP S q.2 ∧ q.2.1 205 10 = nI (v 10) ∧ bsP v (q.2.1 200 28) (q.2.1 200 29) (fun _ => True)) ?_ ?_ ?_
  · rw [Ho_bv]
    refine Ho_mono (c_plan hN hv hC) ?_
    rintro C1 ⟨a, b⟩
    exact ⟨_, rfl, C1, rfl, a, b, rfl⟩
  · rw [Ho_bv]
    refine Ho_mono (m_plans hN hv hA) ?_
    rintro S1 ⟨a, b, c⟩
    exact ⟨_, rfl, rfl, a, b, c⟩
  · rintro r C' r' S' ⟨C1, a, b, c, rfl⟩ ⟨a', b', c', d'⟩
    dsimp only at a a' b' c' d'
    exact ⟨by rw [a, a']; exact (bsP_one hv c d').1, cl_plan hR hs b b' (by rw [c', hA 10 (by omega)])⟩
theorem e_planSet (hN : 200 < N) (h : Rel C S) : Same (f_X11_planSet N C) (f_X12_planSet N S) := by
  have hR := Re.go h
  have hs := S0_st S 0 0
  unfold f_X11_planSet f_X12_planSet f_X11_answered
  simp only [bM_e]
  generalize uI (uI S 200 1 0) 200 0 0 = S at *
  obtain ⟨v, hv, h9, hC, hA, hn⟩ := hR.get
  refine Same.two (P := fun q => ∃ C1, q.1 = C1.1 93 7 ∧ Sm [93, 94, 91, 95] C C1 ∧ bsP v (C1.1 93 6) (C1.1 93 7) (fun _ => True) ∧ q.2 = uI C1 0 0 0) (P' := fun q => q.1 = q.2.1 200 29 ∧ SmP S q.2 ∧ q.2.1 205 10 = nI (v 10) ∧ bsP v (q.2.1 200 28) (q.2.1 200 29) (fun _ => True)) ?_ ?_ ?_
  · rw [Ho_bv]
    refine Ho_mono (c_plan hN hv hC) ?_
    rintro C1 ⟨a, b⟩
    exact ⟨_, rfl, C1, rfl, a, b, rfl⟩
  · rw [Ho_bv]
    refine Ho_mono (m_plans hN hv hA) ?_
    rintro S1 ⟨a, b, c⟩
    exact ⟨_, rfl, rfl, a, b, c⟩
  · rintro r C' r' S' ⟨C1, a, b, c, rfl⟩ ⟨a', b', c', d'⟩
    dsimp only at a a' b' c' d'
    exact ⟨by rw [a, a']; exact (bsP_one hv c d').2, cl_plan hR hs b b' (by rw [c', hA 10 (by omega)])⟩
end D4
