section G7
variable {N : Nat} {C S : Mem}
/-- the cells that the nights of a copy touch -/
def scrN (c : Nat) : Prop := (23 ≤ c ∧ c < 36) ∨ c = 91 ∨ c = 92 ∨ c = 109 ∨ c = 110
def FcM (C C' : Mem) : Prop := ∀ c, ¬ scrN c → C'.1 c = C.1 c ∧ C'.2 c = C.2 c
def Fs (S S' : Mem) : Prop := S'.2 = S.2 ∧ (∀ c, c ≠ 200 → c ≠ 205 → c ≠ 209 → c ≠ 220 → S'.1 c = S.1 c) ∧ (∀ k, k < 43 ∨ 50 < k → S'.1 200 k = S.1 200 k) ∧ (∀ k, S'.1 205 k = S.1 205 k) ∧ ∀ k, k < 163 → S'.1 220 k = S.1 205 k
theorem Re.cs {C' S' : Mem} (h : Re C S) (hc : FcM C C') (hs : Fs S S') : Re C' S' := by
  obtain ⟨ra, rb, rc, rd, rm, re, rf⟩ := h
  have oc : ∀ c, c < 23 ∨ (36 ≤ c ∧ c < 91) ∨ (92 < c ∧ c < 109) → C'.1 c = C.1 c ∧ C'.2 c = C.2 c := fun c h => hc c (by unfold scrN; omega)
  obtain ⟨s1, s2, s3, s4, -⟩ := hs
  have os : ∀ c, c = 201 ∨ c = 202 ∨ c = 204 ∨ c = 219 → S'.1 c = S.1 c := fun c h => s2 c (by omega) (by omega) (by omega) (by omega)
  exact ⟨ra.same (by rw [(oc 0 (by omega)).2]) (by rw [(oc 0 (by omega)).2]) (by rw [s1]) (by rw [s1]), rb.same (by rw [(oc 0 (by omega)).1]) (oc 1 (by omega)).1 (s3 8 (by omega)) (os 204 (by omega)), rc.same (oc 8 (by omega)).1 (oc 9 (by omega)).1 (fun t _ => (oc _ (by omega)).2) (os 201 (by omega)) (os 202 (by omega)) (by rw [s1]), rd.same (fun j hj => (oc _ (by omega)).1) (oc _ (by omega)).2 (fun k _ => s4 _) (fun g _ => by rw [s1]), rm.same (by rw [(oc 0 (by omega)).1]) (s3 24 (by omega)) (fun c h1 h2 => oc c (by omega)) (fun k _ _ => s4 k) (fun k _ _ => by rw [s1]), re.same (by rw [(oc 82 (by omega)).1]) (by rw [(oc 82 (by omega)).1]) (s3 10 (by omega)) (s3 11 (by omega)), rf.same (oc 107 (by omega)).1 (s3 42 (by omega)) (os 219 (by omega))⟩
/-- copies of numbers below 163 from a cell to another -/
def cpy (S : Mem) (d s i : Nat) : Mem := (fun c k => if c = d ∧ i ≤ k ∧ k < 163 then S.1 s k else S.1 c k, S.2)
theorem cpy_ne (S : Mem) {d s i c k : Nat} (h : ¬ (c = d ∧ i ≤ k ∧ k < 163)) : (cpy S d s i).1 c k = S.1 c k := if_neg h
theorem cpy_in (S : Mem) {d s i k : Nat} (h : i ≤ k ∧ k < 163) : (cpy S d s i).1 d k = S.1 s k := if_pos ⟨rfl, h⟩
theorem cpy_end (S : Mem) (d s : Nat) : cpy S d s 163 = S := by
  have key : ∀ c k, (cpy S d s 163).1 c k = S.1 c k := fun c k => if_neg (by omega)
  exact Prod.ext (funext fun c => funext fun k => key c k) rfl
theorem cpy_s (S : Mem) {d s i : Nat} (h : d ≠ s) (hi : i < 163) : cpy (uI S d i (S.1 s i)) d s (i + 1) = cpy S d s i := by
  have key : ∀ c k, (cpy (uI S d i (S.1 s i)) d s (i + 1)).1 c k = (cpy S d s i).1 c k := fun c k => by
    unfold cpy
    dsimp only
    by_cases e : c = d
    · subst e
      rw [u_ne (Ne.symm h)]
      by_cases g : i = k
      · subst g
        rw [if_neg (by omega), if_pos (by omega), u_at]
      · by_cases g2 : i + 1 ≤ k ∧ k < 163
        · rw [if_pos ⟨rfl, g2⟩, if_pos (by omega)]
        · rw [if_neg (by omega), if_neg (by omega), us_same, g_upd, if_neg (Ne.symm g)]
    · rw [if_neg (by omega), if_neg (by omega), u_ne e]
  exact Prod.ext (funext fun c => funext fun k => key c k) rfl
theorem m_save {x k : Int32} : ∀ r i F (S : Mem), i + r = 163 → r < F → lp (fun k a m => f_X12_mean_h63 N k a.1 a.2.1 a.2.2 m) F (x, k, nI i) S = lp (fun k a m => f_X12_mean_h93 N k a.1 a.2.1 a.2.2.1 a.2.2.2 m) N (x, k, 0, 0) (cpy S 220 205 i) := by
  intro r
  induction r with
  | zero =>
    intro i F S hi hF
    obtain ⟨F, rfl⟩ : ∃ G, F = G + 1 := ⟨F - 1, by omega⟩
    have e : i = 163 := by omega
    subst e
    rw [cpy_end]
    show f_X12_mean_h63 N (lp (fun k a m => f_X12_mean_h63 N k a.1 a.2.1 a.2.2 m) F) x k (nI 163) S = _
    unfold f_X12_mean_h63
    rw [if_pos (show (163 : Int32) ≤ nI 163 by decide)]
  | succ r ih =>
    intro i F S hi hF
    obtain ⟨F, rfl⟩ : ∃ G, F = G + 1 := ⟨F - 1, by omega⟩
    rw [← cpy_s S (by decide) (by omega), ← ih (i + 1) F _ (by omega) (by omega)]
    refine (if_neg (by rw [n_lle (by omega)]; omega)).trans ?_
    dsimp only
    rw [ck_n (by omega), ck_n (by omega), bM_e, t_n (by omega), n_addl]
theorem m_rest {k93 : Int32 × Int32 × Int64 × Int32 → Mem → Option (Bool × Mem)} {x k j : Int32} {t : Int64} : ∀ r i F (S : Mem), i + r = 163 → r < F → lp (fun k a m => f_X12_mean_h118 N k93 k a.1 a.2.1 a.2.2.1 a.2.2.2.1 a.2.2.2.2 m) F (x, k, t, j, nI i) S = k93 (x, k, t, j + 1) (cpy S 205 220 i) := by
  intro r
  induction r with
  | zero =>
    intro i F S hi hF
    obtain ⟨F, rfl⟩ : ∃ G, F = G + 1 := ⟨F - 1, by omega⟩
    have e : i = 163 := by omega
    subst e
    rw [cpy_end]
    show f_X12_mean_h118 N k93 (lp (fun k a m => f_X12_mean_h118 N k93 k a.1 a.2.1 a.2.2.1 a.2.2.2.1 a.2.2.2.2 m) F) x k t j (nI 163) S = _
    unfold f_X12_mean_h118
    rw [if_pos (show (163 : Int32) ≤ nI 163 by decide)]
  | succ r ih =>
    intro i F S hi hF
    obtain ⟨F, rfl⟩ : ∃ G, F = G + 1 := ⟨F - 1, by omega⟩
    rw [← cpy_s S (by decide) (by omega), ← ih (i + 1) F _ (by omega) (by omega)]
    refine (if_neg (by rw [n_lle (by omega)]; omega)).trans ?_
    dsimp only
    rw [ck_n (by omega), ck_n (by omega), bM_e, t_n (by omega), n_addl]
/-- the loop over the nights -/
theorem mean_lp {x k : Nat} (hN : 40000 < N) (hR : Re C S) (hs : S.1 200 0 = 0) {v : Nat → Nat} (hv : VV v) (h9 : v 9 ≤ 9999) (hC : PC C 10 v) (hA : Ar S 205 435 v) (hq : v 163 = 1) (hk : 1 ≤ k ∧ k ≤ 20) (hx : x ≤ 9999) : Same (lp (fun k a m => f_X11_mean_h64 N k a.1 a.2.1 a.2.2.1 a.2.2.2 m) N (nI x, nI k, 0, 0) C) (lp (fun k a m => f_X12_mean_h93 N k a.1 a.2.1 a.2.2.1 a.2.2.2 m) N (nI x, nI k, 0, 0) (cpy S 220 205 0)) := by
  have f0 : Fs S (cpy S 220 205 0) := ⟨rfl, fun c _ _ _ a => funext fun q => cpy_ne S (by omega), fun q _ => cpy_ne S (by omega), fun q => cpy_ne S (by omega), fun q hq => cpy_in S (by omega)⟩
  refine lq2 (R := Same) (fun i a M a' M' => ∃ s, a = (nI x, nI k, nI s, nI i) ∧ a' = (nI x, nI k, lN s, nI i) ∧ s ≤ 30 * i ∧ FcM C M ∧ Fs S M') k (by omega) (by omega) ⟨0, rfl, rfl, by omega, fun _ _ => ⟨rfl, rfl⟩, f0⟩ ?_
  rintro i hi kk kk' hkk _ C1 _ S1 ⟨s, rfl, rfl, hsi, fc, fs⟩
  unfold f_X11_mean_h64 f_X12_mean_h93 f_X11_granted
  dsimp only
  by_cases g : k ≤ i
  · rw [if_pos (by rw [n_le (by omega)]; exact g), if_pos (by rw [n_le (by omega)]; exact g), nI_l (by omega), nI_l (by omega)]
    obtain ⟨p, q, f1, f2⟩ := fr_one (N := N) (C := C1) (S := S1) (t := s) (b := k) (by omega) (by omega) (by omega)
    rw [f1, f2, bv_s, bi_s, bM_e, bi_s]
    exact Same.mk (cl_fr (hR.cs fc fs) (by rw [fs.2.2.1 0 (by omega)]; exact hs) p q)
  · rw [if_neg (by rw [n_le (by omega)]; exact g), if_neg (by rw [n_le (by omega)]; exact g), nI_add]
    have hC1 : PC C1 10 v := hC.same fun j hj => (fc _ (by unfold scrN; omega)).1
    have hA1 : Ar S1 205 435 v := fun q hq => by rw [fs.2.2.2.1 q]; exact hA q hq
    obtain ⟨b, hb⟩ := hC1.2.2.2.2.2.2.2.2.2.2.2.2.bool
    obtain ⟨C2, e1, o, pe⟩ := c_copy (p0 := 23) (p1 := 10) (M := C1) (b := b) (by omega) hb
    obtain ⟨C3, S3, v', st', cut, r1, r2, nr, kl, ev, km, -, -⟩ := run_both (p := 23) (L := 109) (x := x + i) hN ⟨Or.inr rfl, Or.inr rfl⟩ hv h9 (PC.eq hv hC1 pe) hA1 hq (by omega)
    have w := nr.1
    have c30 := Nat.le_trans (cnF_le (v' 8) (fogv v') (v' 0 * v' 1)) (bd30 w.1.1 w.1.2.1)
    rw [e1, bv_s, r1, bv_s, r2, bv_s, c_count (v := v') (F := fogv v') (by omega) ⟨w.1.1, w.1.2.1, w.2.2.2.2.1⟩ rfl nr.2.2.1.1.1 nr.2.2.1.1.2.1 nr.2.2.1.2.1 nr.2.2.1.2.2.2.2.2.2.2.2.2.2.2.1 w.2.2.2.2.2.2.2.2.2.2.1, bi_s, m_count (v := v') (by omega) ⟨w.1.1, w.1.2.1, w.2.2.2.2.1⟩ nr.2.2.2.1 w.2.2.2.2.2.2.2.2.2.2.1, bi_s]
    generalize cnF (v' 8) (fogv v') (v' 0 * v' 1) = cn at *
    have mr := m_rest (N := N) (k93 := kk') (x := nI x) (k := nI k) (j := nI i) (t := lN (s + cn)) 163 0 N S3 (by omega) (by omega)
    rw [show nI 0 = 0 from rfl] at mr
    rw [bL_e, nI_l (by omega), l_add, mr, nI_add, n_addl]
    refine hkk (by omega) _ _ _ _ ⟨s + cn, rfl, rfl, by omega, fun c hc => ?_, ?_⟩
    · have hc' := hc
      unfold scrN at hc'
      have := o c (by omega)
      have f := fc c hc
      rw [kl.1, kl.2.1 c (by omega) (by omega) (by omega) (by omega) (by omega) (by omega), this.1, this.2]
      exact f
    · obtain ⟨m1, m2, m3, m4⟩ := km
      obtain ⟨t1, t2, t3, t4, t5⟩ := fs
      have k220 : S3.1 220 = S1.1 220 := m2 220 (by decide) (by decide) (by decide)
      refine ⟨m1.trans t1, fun c a b d e => ?_, fun q hq => ?_, fun q => ?_, fun q hq => ?_⟩
      · exact (funext fun q => cpy_ne S3 (by omega)).trans ((m2 c a b d).trans (t2 c a b d e))
      · exact (cpy_ne S3 (by omega)).trans ((m3 q hq).trans (t3 q hq))
      · by_cases g2 : q < 163
        · exact (cpy_in S3 (by omega)).trans (by rw [k220]; exact t5 q g2)
        · exact (cpy_ne S3 (by omega)).trans ((m4 q (by omega)).trans (t4 q))
      · exact (cpy_ne S3 (by omega)).trans (by rw [k220]; exact t5 q hq)
theorem e_mean (hN : 40000 < N) (h : Rel C S) (x w : Int32) : Same (f_X11_mean N x w C) (f_X12_mean N x w S) := by
  have hR := Re.go h
  have hs := S0_st S 0 0
  unfold f_X11_mean f_X12_mean
  rw [bM_e, bM_e]
  unfold f_X11_refusedFlag f_X12_no
  generalize uI (uI S 200 1 0) 200 0 0 = S at *
  obtain ⟨v, hv, h9, hC, hA, hnm⟩ := hR.get
  obtain ⟨n1, n2, -⟩ := hC.2.2.2.2.2.2.2.2.2.2.2.2
  have n2' : C.1 17 0 = nI (v 163) := n2
  have a163 : S.1 205 (tn 163) = nI (v 163) := hA 163 (by decide)
  simp only [bM_e, bi_s]
  obtain ⟨q, e3, hq⟩ := in_is 1 20 (by omega) S w
  rw [show f_X12_isIn w.toInt64 1 20 S = _ from e3, bi_s]
  have rf : Same (some (false, uI C 0 0 5)) (some (false, uI S 200 0 5)) := Same.mk (cl_ref hR _)
  rcases hq with ⟨rfl, k, hk1, hk, rfl⟩ | ⟨rfl, hq⟩
  · rw [if_neg (show ¬ nI k < 1 by rw [n_ltl (by omega)]; omega), if_neg (show ¬ 20 < nI k by rw [n_llt (by omega)]; omega), if_neg (show ¬ b2i true = 0 by decide)]
    obtain ⟨q, e4, hq⟩ := in_is 0 (10000 - k) (by omega) S x
    rw [show (10000 : Int32) - nI k = nI (10000 - k) from n_sub (a := 10000) (b := k) (by omega), nI_l (by omega), show f_X12_isIn x.toInt64 0 (lN (10000 - k)) S = _ from e4, bi_s]
    rcases hq with ⟨rfl, n, hn1, hn, rfl⟩ | ⟨rfl, hq⟩
    · rw [if_neg (show ¬ nI n < 0 by rw [n_ltl (by omega)]; omega), if_neg (show ¬ 9999 < nI n by rw [n_llt (by omega)]; omega), nI_add, n_subl (by omega), if_pos (show nI (n + k - 1) ≤ 9999 by rw [n_lel (by omega)]; omega), if_neg (show ¬ b2i true = 0 by decide), ck_l (by decide), n2', a163]
      by_cases e0 : v 163 = 0
      · rw [e0, if_pos (show nI 0 = 0 from rfl), if_pos (show nI 0 = 0 from rfl)]
        exact Same.mk (cl_ref hR _)
      · have e1 : v 163 = 1 := by omega
        rw [e1, if_neg (show ¬ nI 1 = 0 by decide), if_neg (show ¬ nI 1 = 0 by decide)]
        have ms := m_save (N := N) (x := nI n) (k := nI k) 163 0 N S (by omega) (by omega)
        rw [show nI 0 = 0 from rfl] at ms
        rw [ms]
        exact mean_lp hN hR hs hv h9 hC hA e1 ⟨hk1, hk⟩ (by omega)
    · rw [if_pos (show b2i false = 0 from rfl)]
      rcases hq with hy | ⟨n, hn, hw, rfl⟩
      · rw [if_pos hy]
        exact rf
      · rw [if_neg (show ¬ nI n < 0 by rw [n_ltl (by omega)]; omega)]
        by_cases g : 9999 < n
        · rw [if_pos (show 9999 < nI n by rw [n_llt (by omega)]; omega)]
          exact rf
        · rw [if_neg (show ¬ 9999 < nI n by rw [n_llt (by omega)]; omega), nI_add, n_subl (by omega), if_neg (show ¬ nI (n + k - 1) ≤ 9999 by rw [n_lel (by omega)]; omega)]
          exact rf
  · rw [if_pos (show b2i false = 0 from rfl)]
    by_cases g1 : x < 0
    · rw [if_pos g1]
      exact rf
    · rw [if_neg g1]
      by_cases g2 : 9999 < x
      · rw [if_pos g2]
        exact rf
      · rw [if_neg g2]
        rcases hq with hy | ⟨n, hn, hw, rfl⟩
        · rw [if_pos (show w < 1 by rw [fa_lt] at hy ⊢; exact Int.lt_trans hy (by decide))]
          exact rf
        · by_cases g : n < 1
          · rw [if_pos (show nI n < 1 by rw [n_ltl (by omega)]; exact g)]
            exact rf
          · rw [if_neg (show ¬ nI n < 1 by rw [n_ltl (by omega)]; exact g), if_pos (show 20 < nI n by rw [n_llt (by omega)]; omega)]
            exact rf
end G7
