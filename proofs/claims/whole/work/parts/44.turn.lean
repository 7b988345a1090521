section D5
variable {N : Nat} {C S M : Mem} {v : Nat → Nat}
def pyT (v : Nat → Nat) (h a b : Nat) : Nat := pyS v (fun k => !fld v a (fogv v) 1 h k && !fld v b (hrN v a (fogv v) h) (h + 1) (24 - h) k) (v 4)
theorem pyS_594 (hv : VV v) (p : Nat → Bool) : pyS v p (v 4) ≤ 594 := by
  have := pyS_le (v := v) (p := p) (n := v 4) (fun k hk => (hv.2.2.2.2.2.2.2.2.1 k hk).2.2.2.2.1)
  have := hv.2.2.1
  omega
def kyT (v : Nat → Nat) (h x y : Nat) : Nat := 4096 * pyT v h x y + (4095 - (64 * x + y))
theorem kyT_inj {h x y x' y' : Nat} (hx : x < 64 ∧ y < 64) (hx' : x' < 64 ∧ y' < 64) (e : kyT v h x y = kyT v h x' y') : x = x' ∧ y = y' := by
  unfold kyT at e
  omega
def bsT (v : Nat → Nat) (h : Nat) (p f s : Int32) (done : Nat → Nat → Prop) : Prop := ((∀ x y, x < 2 ^ v 2 → y < 2 ^ v 2 → ¬ done x y) ∧ p = -1) ∨ ∃ a b, a < 2 ^ v 2 ∧ b < 2 ^ v 2 ∧ done a b ∧ p = nI (pyT v h a b) ∧ f = nI a ∧ s = nI b ∧ ∀ x y, x < 2 ^ v 2 → y < 2 ^ v 2 → done x y → kyT v h x y ≤ kyT v h a b
theorem bsT_one {h : Nat} (hv : VV v) {p f s p' f' s' : Int32} (h1 : bsT v h p f s (fun _ _ => True)) (h2 : bsT v h p' f' s' (fun _ _ => True)) : p = p' ∧ f = f' ∧ s = s' := by
  have p64 := pow_le64 hv.1.2.2.1
  rcases h1 with ⟨h1, -⟩ | ⟨a, b, a1, a2, -, a3, a4, a5, a6⟩
  · exact absurd trivial (h1 0 0 (Nat.two_pow_pos _) (Nat.two_pow_pos _))
  · rcases h2 with ⟨h2, -⟩ | ⟨a', b', b1, b2, -, b3, b4, b5, b6⟩
    · exact absurd trivial (h2 0 0 (Nat.two_pow_pos _) (Nat.two_pow_pos _))
    · obtain ⟨rfl, rfl⟩ := kyT_inj (v := v) (h := h) (x := a) (y := b) (x' := a') (y' := b') (by omega) (by omega) (Nat.le_antisymm (b6 a b a1 a2 trivial) (a6 a' b' b1 b2 trivial))
      exact ⟨a3.trans b3.symm, a4.trans b4.symm, a5.trans b5.symm⟩
/-- one more pair tried, in the order of pairs -/
theorem bsT_step {h i j : Nat} {p f s p' f' s' : Int32} (hv : VV v) (hi : i < 2 ^ v 2) (hj : j < 2 ^ v 2) (h1 : bsT v h p f s (fun x y => x < i ∨ (x = i ∧ y < j))) (h2 : (p < nI (pyT v h i j) ∧ p' = nI (pyT v h i j) ∧ f' = nI i ∧ s' = nI j) ∨ (¬ p < nI (pyT v h i j) ∧ p' = p ∧ f' = f ∧ s' = s)) : bsT v h p' f' s' (fun x y => x < i ∨ (x = i ∧ y < j + 1)) := by
  have p64 := pow_le64 hv.1.2.2.1
  have pl : pyT v h i j ≤ 594 := pyS_594 hv _
  rcases h1 with ⟨a1, a2⟩ | ⟨a, b, a1, a2, a3, a4, a5, a6, a7⟩
  · rcases h2 with ⟨b1, b2, b3, b4⟩ | ⟨b1, -⟩
    · refine Or.inr ⟨i, j, hi, hj, by omega, b2, b3, b4, fun x y hx hy z => ?_⟩
      by_cases e : x = i ∧ y = j
      · rw [e.1, e.2]; exact Nat.le_refl _
      · exact absurd (show x < i ∨ (x = i ∧ y < j) by omega) (a1 x y hx hy)
    · rw [a2, n_m1lt (by omega)] at b1
      exact absurd trivial b1
  · have pb : pyT v h a b ≤ 594 := pyS_594 hv _
    rw [a4, n_lt (by omega)] at h2
    rcases h2 with ⟨b1, b2, b3, b4⟩ | ⟨b1, b2, b3, b4⟩
    · refine Or.inr ⟨i, j, hi, hj, by omega, b2, b3, b4, fun x y hx hy z => ?_⟩
      by_cases e : x = i ∧ y = j
      · rw [e.1, e.2]; exact Nat.le_refl _
      · refine Nat.le_trans (a7 x y hx hy (by omega)) ?_
        unfold kyT
        omega
    · refine Or.inr ⟨a, b, a1, a2, by omega, b2, by rw [b3]; exact a5, by rw [b4]; exact a6, fun x y hx hy z => ?_⟩
      by_cases e : x = i ∧ y = j
      · obtain ⟨rfl, rfl⟩ := e
        unfold kyT
        omega
      · exact a7 x y hx hy (by omega)
/-- a forecast followed, with a floor -/
theorem c_folB {g t0 n : Nat} {fl e : Int32} {F : Nat → Nat} {P : Nat → Bool} (hN : 200 < N) (hv : VV v) (hC : PC M 10 v) (hg : g < 64) (ht : 1 ≤ t0 ∧ t0 + n ≤ 25) (he : e = nI (t0 + n - 1)) (hF9 : ∀ k, k < 60 → F k ≤ 999) (hF : FS M v F P) : Ho (f_X0_follow N 10 (nI g) (nI t0) e fl M) (fun M' => Sm [93, 94, 91, 95] M M' ∧ M'.1 95 = M.1 95 ∧ (∀ k, 6 ≤ k → M'.1 93 k = M.1 93 k) ∧ M'.1 93 5 = nI (lsH v (v 4)) ∧ ∃ q, q ≤ 594 ∧ M'.1 93 4 = nI q ∧ ((fl < nI q ∧ q = pyS v (fun k => P k && !fld v g F t0 n k) (v 4) ∧ ∃ m, m ≤ n ∧ FS M' v (hrN v g F m) (fun k => P k && !fld v g F t0 m k) ∧ (m = n ∨ lsH v (v 4) < t0 + m)) ∨ (¬ fl < nI q ∧ ¬ fl < nI (pyS v (fun k => P k && !fld v g F t0 n k) (v 4))))) := by
  refine Ho_mono (c_follow hN hv hC hg ht he hF9 hF) ?_
  rintro M1 ⟨s1, s95, s6, m, hm, f1, hd⟩
  refine ⟨s1, s95, s6, f1.2.2.2, _, pyS_594 hv _, f1.2.2.1, ?_⟩
  have pl := pyS_594 hv (fun k => P k && !fld v g F t0 m k)
  by_cases c : fl < nI (pyS v (fun k => P k && !fld v g F t0 m k) (v 4))
  · have hd' : m = n ∨ lsH v (v 4) < t0 + m := by
      rcases hd with hd | hd | hd
      · exact Or.inl hd
      · exact Or.inr hd
      · exact absurd c hd
    exact Or.inl ⟨c, pyS_cong fun k hk => fol_eq hm hd' k hk, m, hm, f1, hd'⟩
  · refine Or.inr ⟨c, fun z => c ?_⟩
    have mono : pyS v (fun k => P k && !fld v g F t0 n k) (v 4) ≤ pyS v (fun k => P k && !fld v g F t0 m k) (v 4) := by
      refine pyS_mono fun k hk h => ?_
      simp only [Bool.and_eq_true, Bool.not_eq_true'] at h ⊢
      refine ⟨h.1, ?_⟩
      cases e : fld v g F t0 m k with
      | false => rfl
      | true =>
        have := fld_mono (v := v) (F := F) (g := g) (t0 := t0) (k := k) m (n - m) e
        rw [show m + (n - m) = n by omega, h.2] at this
        cases this
    rw [fa_lt, nI_toInt (by omega)] at z ⊢
    omega
theorem c_seconds {h i : Nat} {F1 : Nat → Nat} {P1 : Nat → Bool} (hN : 200 < N) (hv : VV v) (hC : PC M 10 v) (hh : 1 ≤ h ∧ h ≤ 23) (hi : i < 2 ^ v 2) (hF9 : ∀ k, k < 60 → F1 k ≤ 999) (hF : FS M v F1 P1) (hp : ∀ b, pyS v (fun k => P1 k && !fld v b F1 (h + 1) (24 - h) k) (v 4) = pyT v h i b) (hb : bsT v h (M.1 93 6) (M.1 93 7) (M.1 93 8) (fun x _ => x < i)) : Ho (f_X0_trySeconds N 10 (nI i) (nI h) M) (fun M' => Sm [93, 94, 91, 95] M M' ∧ bsT v h (M'.1 93 6) (M'.1 93 7) (M'.1 93 8) (fun x _ => x < i + 1)) := by
  have v2 := hv.1.2.2.1
  have p64 := pow_le64 v2
  unfold f_X0_trySeconds
  simp only [bM_e, bI_e]
  have s0 : Sm [93, 94, 91, 95] M (rI M 95 (va_cpy (M.1 94) (M.1 95) (tn 0) (tn 0) (tn 60))) := Sm.rf.rI (by simp)
  have a0 : Ar (rI M 95 (va_cpy (M.1 94) (M.1 95) (tn 0) (tn 0) (tn 60))) 95 60 F1 := cpy60 hF.1
  have e93 : (rI M 95 (va_cpy (M.1 94) (M.1 95) (tn 0) (tn 0) (tn 60))).1 93 = M.1 93 := r_ne (by decide)
  generalize rI M 95 (va_cpy (M.1 94) (M.1 95) (tn 0) (tn 0) (tn 60)) = M0 at *
  rw [(hC.sm s0 scrF).1.2.2.2.2.1, n_shl1 (by omega), hF.2.1, hF.2.2.1]
  refine Ho_lp (fun j a M' => a = (nI i, nI h, nI (tfS P1 (v 4)), nI (pyS v P1 (v 4)), nI (2 ^ v 2), nI j) ∧ Sm [93, 94, 91, 95] M M' ∧ Ar M' 95 60 F1 ∧ M'.1 93 5 = nI (lsH v (v 4)) ∧ bsT v h (M'.1 93 6) (M'.1 93 7) (M'.1 93 8) (fun x y => x < i ∨ (x = i ∧ y < j))) (2 ^ v 2) (by omega) ⟨rfl, s0, a0, by rw [e93]; exact hF.2.2.2, ?_⟩ ?_
  · rw [e93]
    rcases hb with ⟨h1, h2⟩ | ⟨a, b, h1, h2, h3, h4, h5, h6, h7⟩
    · exact Or.inl ⟨fun x y hx hy z => h1 x y hx hy (by omega), h2⟩
    · exact Or.inr ⟨a, b, h1, h2, Or.inl h3, h4, h5, h6, fun x y hx hy z => h7 x y hx hy (by omega)⟩
  rintro j hj k hk _ M1 ⟨rfl, s1, a1, l1, b1⟩
  unfold f_X0_trySeconds_h38 f_X0_trySeconds_b118
  dsimp only
  by_cases g : 2 ^ v 2 ≤ j
  · rw [if_pos (by rw [n_le (by omega)]; exact g), Ho_some]
    refine ⟨s1, ?_⟩
    rcases b1 with ⟨h1, h2⟩ | ⟨a, b, h1, h2, h3, h4, h5, h6, h7⟩
    · exact Or.inl ⟨fun x y hx hy z => h1 x y hx hy (by omega), h2⟩
    · exact Or.inr ⟨a, b, h1, h2, by omega, h4, h5, h6, fun x y hx hy z => h7 x y hx hy (by omega)⟩
  · rw [if_neg (by rw [n_le (by omega)]; exact g)]
    simp only [bM_e]
    have s2 : Sm [93, 94, 91, 95] M1 (uI (uI (rI M1 94 (va_cpy (M1.1 95) (M1.1 94) (tn 0) (tn 0) (tn 60))) 93 3 (nI (tfS P1 (v 4)))) 93 4 (nI (pyS v P1 (v 4)))) := ((Sm.rf.rI (by simp)).uI (by simp)).uI (by simp)
    have f2 : FS (uI (uI (rI M1 94 (va_cpy (M1.1 95) (M1.1 94) (tn 0) (tn 0) (tn 60))) 93 3 (nI (tfS P1 (v 4)))) 93 4 (nI (pyS v P1 (v 4)))) v F1 P1 := ⟨((cpy60 a1).oth (by decide)).oth (by decide), by rw [us_same, g_upd, if_neg (by decide), u_at], u_at _ _ _ _, by rw [us_same, g_upd, if_neg (by decide), us_same, g_upd, if_neg (by decide), r_ne (by decide)]; exact l1⟩
    have e95 : (uI (uI (rI M1 94 (va_cpy (M1.1 95) (M1.1 94) (tn 0) (tn 0) (tn 60))) 93 3 (nI (tfS P1 (v 4)))) 93 4 (nI (pyS v P1 (v 4)))).1 95 = M1.1 95 := by rw [u_ne (by decide), u_ne (by decide), r_ne (by decide)]
    have e6 : ∀ q, 6 ≤ q → (uI (uI (rI M1 94 (va_cpy (M1.1 95) (M1.1 94) (tn 0) (tn 0) (tn 60))) 93 3 (nI (tfS P1 (v 4)))) 93 4 (nI (pyS v P1 (v 4)))).1 93 q = M1.1 93 q := fun q hq => by rw [us_same, g_upd, if_neg (by omega), us_same, g_upd, if_neg (by omega), r_ne (by decide)]
    generalize uI (uI (rI M1 94 (va_cpy (M1.1 95) (M1.1 94) (tn 0) (tn 0) (tn 60))) 93 3 (nI (tfS P1 (v 4)))) 93 4 (nI (pyS v P1 (v 4))) = M2 at *
    rw [n_addl, e6 6 (by omega), Ho_bv]
    refine Ho_mono (c_folB (t0 := h + 1) (n := 24 - h) (fl := M1.1 93 6) hN hv (hC.sm (s1.tr s2) scrF) (show j < 64 by omega) (by omega) (by rw [show h + 1 + (24 - h) - 1 = 24 by omega]; rfl) hF9 f2) ?_
    rintro M3 ⟨s3, t95, t6, t5, q, q1, q2, hd⟩
    have m6 : M3.1 93 6 = M1.1 93 6 := by rw [t6 6 (by omega), e6 6 (by omega)]
    have m7 : M3.1 93 7 = M1.1 93 7 := by rw [t6 7 (by omega), e6 7 (by omega)]
    have m8 : M3.1 93 8 = M1.1 93 8 := by rw [t6 8 (by omega), e6 8 (by omega)]
    rw [q2, m6, n_addl]
    rw [hp j] at hd
    have a3 : Ar M3 95 60 F1 := a1.same (by rw [t95, e95])
    rcases hd with ⟨d1, d2, -⟩ | ⟨d1, d2⟩
    · rw [if_neg (by rw [i_le_nlt]; exact fun z => z d1)]
      refine hk (by omega) _ _ ⟨rfl, ((((s1.tr s2).tr s3).uI (by simp)).uI (by simp)).uI (by simp), ((a3.oth (by decide)).oth (by decide)).oth (by decide), ?_, ?_⟩
      · rw [us_same, g_upd, if_neg (by decide), us_same, g_upd, if_neg (by decide), us_same, g_upd, if_neg (by decide)]; exact t5
      · refine bsT_step hv hi (by omega) b1 (Or.inl ⟨by rw [← d2]; exact d1, ?_, ?_, u_at _ _ _ _⟩)
        · rw [us_same, g_upd, if_neg (by decide), us_same, g_upd, if_neg (by decide), u_at, d2]
        · rw [us_same, g_upd, if_neg (by decide), u_at]
    · rw [if_pos (by rw [i_le_nlt]; exact d1)]
      exact hk (by omega) _ _ ⟨rfl, (s1.tr s2).tr s3, a3, t5, bsT_step hv hi (by omega) b1 (Or.inr ⟨d2, m6, m7, m8⟩)⟩
theorem c_turn {h : Nat} (hN : 200 < N) (hv : VV v) (hC : PC M 10 v) (hh : 1 ≤ h ∧ h ≤ 23) : Ho (f_X0_findTurn N 10 (nI h) M) (fun M' => Sm [93, 94, 91, 95] M M' ∧ bsT v h (M'.1 93 6) (M'.1 93 7) (M'.1 93 8) (fun _ _ => True)) := by
  have v2 := hv.1.2.2.1
  have p64 := pow_le64 v2
  have hf9 : ∀ k, k < 60 → fogv v k ≤ 999 := hv.2.2.2.2.2.2.2.2.2.2.1
  unfold f_X0_findTurn
  simp only [bM_e, bI_e]
  have s0 : Sm [93, 94, 91, 95] M (uI (uI (uI M 93 6 (-1)) 93 7 0) 93 8 0) := ((Sm.rf.uI (by simp)).uI (by simp)).uI (by simp)
  have e6 : (uI (uI (uI M 93 6 (-1)) 93 7 0) 93 8 0).1 93 6 = -1 := by rw [us_same, g_upd, if_neg (by decide), us_same, g_upd, if_neg (by decide), u_at]
  generalize uI (uI (uI M 93 6 (-1)) 93 7 0) 93 8 0 = M0 at *
  rw [(hC.sm s0 scrF).1.2.2.2.2.1, n_shl1 (by omega)]
  refine Ho_lp (fun i a M' => a = (nI h, nI (2 ^ v 2), nI i) ∧ Sm [93, 94, 91, 95] M M' ∧ bsT v h (M'.1 93 6) (M'.1 93 7) (M'.1 93 8) (fun x _ => x < i)) (2 ^ v 2) (by omega) ⟨rfl, s0, Or.inl ⟨fun _ _ _ _ => Nat.not_lt_zero _, e6⟩⟩ ?_
  rintro i hi k hk _ M1 ⟨rfl, s1, b1⟩
  unfold f_X0_findTurn_h25 f_X0_findTurn_b68
  dsimp only
  by_cases g : 2 ^ v 2 ≤ i
  · rw [if_pos (by rw [n_le (by omega)]; exact g), Ho_some]
    refine ⟨s1, ?_⟩
    rcases b1 with ⟨h1, h2⟩ | ⟨a, b, h1, h2, h3, h4, h5, h6, h7⟩
    · exact Or.inl ⟨fun x y hx hy z => h1 x y hx hy (by omega), h2⟩
    · exact Or.inr ⟨a, b, h1, h2, trivial, h4, h5, h6, fun x y hx hy z => h7 x y hx hy (by omega)⟩
  · rw [if_neg (by rw [n_le (by omega)]; exact g), Ho_bv]
    have hC1 := hC.sm s1 scrF
    refine Ho_mono (c_begin hN hv hC1) ?_
    rintro M2 ⟨s2, f2, o2⟩
    rw [o2 6 (by omega), Ho_bv]
    refine Ho_mono (c_folB (t0 := 1) (n := h) (fl := M1.1 93 6) (F := fogv v) (P := fun _ => true) hN hv (hC1.sm s2 scrF) (show i < 64 by omega) (by omega) (by rw [show 1 + h - 1 = h by omega]) hf9 f2) ?_
    rintro M3 ⟨s3, -, t6, t5, q, q1, q2, hd⟩
    have m6 : M3.1 93 6 = M1.1 93 6 := by rw [t6 6 (by omega), o2 6 (by omega)]
    have m7 : M3.1 93 7 = M1.1 93 7 := by rw [t6 7 (by omega), o2 7 (by omega)]
    have m8 : M3.1 93 8 = M1.1 93 8 := by rw [t6 8 (by omega), o2 8 (by omega)]
    have s13 := (s1.tr s2).tr s3
    rw [q2, m6, n_addl]
    rcases hd with ⟨d1, d2, m, hm, f3, hmd⟩ | ⟨d1, d2⟩
    · rw [if_neg (by rw [i_le_nlt]; exact fun z => z d1), Ho_bv]
      refine Ho_mono (c_seconds (h := h) (i := i) hN hv (hC.sm s13 scrF) hh (by omega) (hrN_le hv.1 hf9 m) f3 (fun b => ?_) (by rw [m6, m7, m8]; exact b1)) ?_
      · unfold pyT
        refine pyS_cong fun k hk => ?_
        have fe := fol_eq (v := v) (g := i) (F := fogv v) (P := fun _ => true) hm hmd k hk
        simp only [Bool.true_and] at fe ⊢
        rw [fe]
        rcases hmd with rfl | hl
        · rfl
        · have lg := lsH_ge (v := v) (v 4) k hk
          have z1 := fld_late (v := v) (F := hrN v i (fogv v) m) (g := b) (t0 := h + 1) (k := k) (n := 0) (by omega) (24 - h)
          have z2 := fld_late (v := v) (F := hrN v i (fogv v) h) (g := b) (t0 := h + 1) (k := k) (n := 0) (by omega) (24 - h)
          rw [Nat.zero_add] at z1 z2
          rw [z1, z2]
          rfl
      · rintro M4 ⟨s4, b4⟩
        exact hk (by omega) _ _ ⟨rfl, s13.tr s4, b4⟩
    · rw [if_pos (by rw [i_le_nlt]; exact d1)]
      refine hk (by omega) _ _ ⟨rfl, s13, ?_⟩
      rw [m6, m7, m8]
      have pl : pyS v (fun k => true && !fld v i (fogv v) 1 h k) (v 4) ≤ 594 := pyS_594 hv _
      rcases b1 with ⟨h1, h2⟩ | ⟨a, b, h1, h2, h3, h4, h5, h6, h7⟩
      · rw [h2, n_m1lt (by omega)] at d2
        exact absurd trivial d2
      · have pb : pyT v h a b ≤ 594 := pyS_594 hv _
        rw [h4, n_lt (by omega)] at d2
        refine Or.inr ⟨a, b, h1, h2, by omega, h4, h5, h6, fun x y hx hy z => ?_⟩
        by_cases e : x = i
        · subst e
          have mono : pyT v h x y ≤ pyS v (fun k => true && !fld v x (fogv v) 1 h k) (v 4) := by
            refine pyS_mono fun k hk hq => ?_
            simp only [Bool.and_eq_true] at hq
            simp only [Bool.true_and]
            exact hq.1
          unfold kyT
          omega
        · exact h7 x y hx hy (by omega)
end D5
