section W6
variable {N fr to : Nat} {M C : Mem} {v : Nat → Nat} {R : Nat → Nat → Nat} {e : Nat → Int}
theorem sta2 {d : Nat} (hd : 1 ≤ d ∧ d ≤ 4) : sta 2 d = nI (opw d) := by
  obtain rfl | rfl | rfl | rfl : d = 1 ∨ d = 2 ∨ d = 3 ∨ d = 4 := by omega
  all_goals rfl
theorem c_goIn2 {m m0 b j : Nat} {qu q0 : Nat → Nat} {M0 : Mem} (hN : 200 < N) (hv : VV v) (hC : PC M 10 v) (hF : FL (capF v fr to) R e) (hr : RpC v M R) (h : BQ v fr to R M m qu) (hb : b < v 0 * v 1) (hj : j < m) (hqj : qu j = b) (hfr : fr < 30) (hs : Sm [96, 101, 102] M0 M) (hx : Ext m0 q0 m qu) (h0 : R (2 * b) (2 * b + 1) ≠ 0 → ∃ i, i < m ∧ qu i = 30 + b) : Ho (f_X7_goIn_b18 N 10 (nI b) (nI fr) M) (StP v fr to R M0 m0 q0 b) := by
  have hW : v 0 ≤ 6 ∧ v 1 ≤ 5 := ⟨hv.1.1, hv.1.2.1⟩
  have b30 := bd30 hW.1 hW.2
  unfold f_X7_goIn_b18
  refine Ho_lp (fun d a M' => a = (nI b, nI fr, nI (d + 1)) ∧ Sm [96, 101, 102] M M' ∧ ∃ m' qu', BQ v fr to R M' m' qu' ∧ Ext m qu m' qu' ∧ ∀ k w, 1 ≤ k → k ≤ d → nbd (v 0) (v 1) b k = some w → R (2 * b) (2 * w + 1) ≠ 0 → ∃ i, i < m' ∧ qu' i = 30 + w) 4 (by omega) ⟨rfl, Sm.rf, m, qu, h, Ext.rf, fun k w k1 k2 => by omega⟩ ?_
  rintro d hd k hk _ M1 ⟨rfl, s1, m1, q1, h1, x1, c1⟩
  have hC1 := hC.sm s1 scrQ
  have r1 := hr.sm s1
  have hj1 : j < m1 := Nat.lt_of_lt_of_le hj x1.1
  have ej : q1 j = b := (x1.2 j hj).trans hqj
  unfold f_X7_goIn_h21 f_X7_goIn_b78 f_X7_roadPlace
  dsimp only
  by_cases g : 4 < d + 1
  · have : d = 4 := by omega
    subst this
    rw [if_pos (by decide), Ho_some]
    refine ⟨hs.tr s1, m1, q1, h1, hx.tr x1, fun y hy hne => ?_⟩
    rw [nd_in (by omega)] at hne
    rcases R_in hW hF hb hy hne with rfl | ⟨w, dd, w1, w2, w3, rfl, w4, w5, w6⟩
    · obtain ⟨i, i1, i2⟩ := x1.in (h0 hne)
      exact ⟨i, i1, by rw [i2, nd_out]⟩
    · have od := opw_in (w := dd) ⟨w2, w3⟩
      obtain ⟨i, i1, i2⟩ := c1 (opw dd) w od.1 od.2 w5 hne
      exact ⟨i, i1, by rw [i2, nd_out]⟩
  · have hd4 : 1 ≤ d + 1 ∧ d + 1 ≤ 4 := by omega
    rw [if_neg (by rw [n_llt (by omega)]; exact g), c_nb hC1.1.1 hC1.1.2.1 hd4 hW hb, bi_s]
    have nxt : ∀ (M2 : Mem) (m2 : Nat) (q2 : Nat → Nat), Sm [96, 101, 102] M1 M2 → BQ v fr to R M2 m2 q2 → Ext m1 q1 m2 q2 → (∀ w, nbd (v 0) (v 1) b (d + 1) = some w → R (2 * b) (2 * w + 1) ≠ 0 → ∃ i, i < m2 ∧ q2 i = 30 + w) → Ho (k (nI b, nI fr, nI (d + 1) + 1) M2) (StP v fr to R M0 m0 q0 b) := fun M2 m2 q2 s2 b2 x2 hw => by
      rw [n_addl]
      refine hk (by omega) _ _ ⟨rfl, s1.tr s2, m2, q2, b2, x1.tr x2, fun kk w k1 k2 kn hne => ?_⟩
      by_cases ek : kk = d + 1
      · subst ek
        exact hw w kn hne
      · exact x2.in (c1 kk w k1 (by omega) kn hne)
    cases eo : nbd (v 0) (v 1) b (d + 1) with
    | none =>
      rw [if_pos (show oI none = -1 from rfl)]
      exact nxt M1 m1 q1 Sm.rf h1 Ext.rf fun w hw => by rw [eo] at hw; cases hw
    | some w =>
      obtain ⟨w1, w2, w3⟩ := nb_is hW hb hd4 eo
      have od := opw_in hd4
      have hrd := r1.2 w (opw (d + 1)) b w1 od.1 od.2 w3
      obtain ⟨u1, u2, u3, u4⟩ := R_way hW hF w1 od w3
      rw [show oI (some w) = nI w from rfl, if_neg (by rw [n_m1l (by omega)]; exact id)]
      by_cases e1 : w = fr
      · rw [if_pos (by rw [e1])]
        refine nxt M1 m1 q1 Sm.rf h1 Ext.rf fun w' hw' _ => ?_
        rw [eo] at hw'
        cases hw'
        exact ⟨0, h1.2.1, by rw [e1]; exact h1.2.2.2.1⟩
      · rw [if_neg (by rw [n_eq (by omega)]; exact e1), ck_n (by omega), t_n (by omega), sta2 hd4, bi_s, n_mull, nI_add, show w * 5 + opw (d + 1) = 5 * w + opw (d + 1) by omega, ck_n (by omega), t_n (by omega), hrd]
        by_cases z : R (2 * b) (2 * w + 1) = 1
        · have vw1 : vb v fr to w = true := by
            rcases R_in (y := 2 * w + 1) hW hF hb (by omega) (by omega) with q | ⟨w', dd, p1, p2, p3, p4, p5, p6, p7⟩
            · omega
            · rw [show w = w' by omega]; exact p7
          rw [if_pos (by rw [z]; rfl), Ho_bv, n_ladd, show nI b = nI (q1 j) by rw [ej]]
          refine Ho_mono (c_enq h1 (show 30 + w < 60 by omega) (Or.inr ⟨by omega, by rw [show 30 + w - 30 = w by omega]; exact w1, by rw [show 30 + w - 30 = w by omega]; exact vw1⟩) hj1 (by rw [ej, nd_out, nd_in (by omega)]; omega)) ?_
          rintro M2 ⟨s2, m2, q2, b2, x2, i2⟩
          rw [ej]
          exact nxt M2 m2 q2 s2 b2 x2 fun w' hw' _ => by
            rw [eo] at hw'
            cases hw'
            exact i2
        · rw [if_neg (by rw [n_eql (by omega)]; exact z)]
          exact nxt M1 m1 q1 Sm.rf h1 Ext.rf fun w' hw' hne => by
            rw [eo] at hw'
            cases hw'
            omega
theorem c_goIn {m b j : Nat} {qu : Nat → Nat} (hN : 200 < N) (hv : VV v) (hC : PC M 10 v) (hF : FL (capF v fr to) R e) (hr : RpC v M R) (h : BQ v fr to R M m qu) (hb : b < v 0 * v 1) (hvb : vb v fr to b = true) (hj : j < m) (hqj : qu j = b) (hfr : fr < 30) : Ho (f_X7_goIn N 10 (nI b) (nI fr) M) (StP v fr to R M m qu b) := by
  have hW : v 0 ≤ 6 ∧ v 1 ≤ 5 := ⟨hv.1.1, hv.1.2.1⟩
  have b30 := bd30 hW.1 hW.2
  have rs := R_self hW hF hb
  rw [if_pos hvb] at rs
  unfold f_X7_goIn
  rw [ck_n (by omega), t_n (by omega), hr.1 b hb]
  by_cases z : R (2 * b + 1) (2 * b) = 0
  · rw [if_pos (by rw [z]; rfl), Ho_bv, n_ladd, show f_X7_enqueue (nI (30 + b)) (nI b) M = f_X7_enqueue (nI (30 + b)) (nI (qu j)) M by rw [hqj]]
    refine Ho_mono (c_enq h (show 30 + b < 60 by omega) (Or.inr ⟨by omega, by rw [show 30 + b - 30 = b by omega]; exact hb, by rw [show 30 + b - 30 = b by omega]; exact hvb⟩) hj (by rw [hqj, nd_out, nd_in (by omega)]; omega)) ?_
    rintro M1 ⟨s1, m1, q1, b1, x1, i1⟩
    exact c_goIn2 hN hv (hC.sm s1 scrQ) hF (hr.sm s1) b1 hb (Nat.lt_of_lt_of_le hj x1.1) ((x1.2 j hj).trans hqj) hfr s1 x1 fun _ => i1
  · rw [if_neg (by rw [n_eql (by omega)]; exact z)]
    exact c_goIn2 hN hv hC hF hr h hb hj hqj hfr Sm.rf Ext.rf fun q => by omega
/-- a whole search -/
def FdP (v : Nat → Nat) (fr to : Nat) (R : Nat → Nat → Nat) (M : Mem) (q : Bool × Mem) : Prop := Sm [96, 101, 102] M q.2 ∧ ∃ m qu, BQ v fr to R q.2 m qu ∧ ((q.1 = true ∧ ∃ i, i < m ∧ qu i = to) ∨ (q.1 = false ∧ q.2.1 101 to = -1 ∧ ∀ i y, i < m → y < 60 → R (nd (qu i)) y ≠ 0 → ∃ k, k < m ∧ nd (qu k) = y))
theorem c_find (hN : 300 < N) (hv : VV v) (hC : PC M 10 v) (hF : FL (capF v fr to) R e) (hr : RpC v M R) (hfr : fr < v 0 * v 1) (hto : to < v 0 * v 1) (hne : fr ≠ to) : Ho (f_X7_findRoad N 10 (nI fr) (nI to) M) (FdP v fr to R M) := by
  have hW : v 0 ≤ 6 ∧ v 1 ≤ 5 := ⟨hv.1.1, hv.1.2.1⟩
  have b30 := bd30 hW.1 hW.2
  have vfr : vb v fr to fr = true := by
    unfold vb vbB
    rw [decide_eq_true hne, decide_eq_true rfl]
    rfl
  unfold f_X7_findRoad
  rw [Ho_bv]
  refine Ho_mono (c_fillI hN (-1) (show ln 101 ≤ 240 by decide)) ?_
  rintro M1 ⟨s1, f1⟩
  have f1' : ∀ q, q < 60 → M1.1 101 q = -1 := f1
  unfold f_X7_enqueue
  have e7 : (uI M1 96 7 0).1 96 7 = 0 := u_at _ _ _ _
  have e101 : (uI M1 96 7 0).1 101 = M1.1 101 := u_ne (by decide)
  rw [bM_e, n_ladd, ck_n (by omega), t_n (by omega), e101, f1' (30 + fr) (by omega), if_pos rfl, e7, if_neg (by decide), ck_n (by omega), bM_e, u_ne (by decide), e7, ck_l (by decide), bM_e, u_ne (by decide), u_ne (by decide), e7, bM_e, bv_s, show tn 0 = 0 from rfl, show (0 : Int32) + 1 = nI 1 from rfl]
  have sM : Sm [96, 101, 102] M (uI (uI (uI (uI M1 96 7 0) 101 (30 + fr) (nI (30 + fr))) 102 0 (nI (30 + fr))) 96 7 (nI 1)) := ((((s1.mono (by simp)).uI (by simp)).uI (by simp)).uI (by simp)).uI (by simp)
  have a101 : (uI (uI (uI (uI M1 96 7 0) 101 (30 + fr) (nI (30 + fr))) 102 0 (nI (30 + fr))) 96 7 (nI 1)).1 101 (30 + fr) = nI (30 + fr) := by rw [u_ne (by decide), u_ne (by decide), u_at]
  have n101 : ∀ x, x ≠ 30 + fr → (uI (uI (uI (uI M1 96 7 0) 101 (30 + fr) (nI (30 + fr))) 102 0 (nI (30 + fr))) 96 7 (nI 1)).1 101 x = M1.1 101 x := fun x hx => by rw [u_ne (by decide), u_ne (by decide), us_same, g_upd, if_neg hx, e101]
  have ne1 : ¬ nI (30 + fr) = -1 := by rw [n_m1l (by omega)]; exact id
  have bq0 : BQ v fr to R (uI (uI (uI (uI M1 96 7 0) 101 (30 + fr) (nI (30 + fr))) 102 0 (nI (30 + fr))) 96 7 (nI 1)) 1 (fun _ => 30 + fr) := by
    refine ⟨u_at _ _ _ _, by omega, ?_, rfl, fun i hi => ⟨?_, show 30 + fr < 60 by omega, Or.inr ⟨show 30 ≤ 30 + fr by omega, ?_, ?_⟩, ?_⟩, fun i j hi hj _ => by omega, fun q hq hn => ⟨0, by omega, ?_⟩, fun i i0 hi => by omega⟩
    · have z : fa_cnt (fun q => decide (M1.1 101 q ≠ -1)) 60 = 0 := by
        rw [fa_cnt_cong (q := fun _ => false) fun k hk => decide_eq_false (fun z => z (f1' k hk))]
        decide
      have := cnt_up (K := fun q => decide (M1.1 101 q ≠ -1)) (K' := fun q => decide ((uI (uI (uI (uI M1 96 7 0) 101 (30 + fr) (nI (30 + fr))) 102 0 (nI (30 + fr))) 96 7 (nI 1)).1 101 q ≠ -1)) (u := 30 + fr) 60 (by omega) (decide_eq_false (fun z => z (f1' _ (by omega)))) (decide_eq_true (by rw [a101]; exact ne1)) (fun x hx => by rw [n101 x hx])
      omega
    · have : i = 0 := by omega
      subst this
      rw [u_ne (by decide), u_at]
    · rw [show 30 + fr - 30 = fr by omega]; exact hfr
    · rw [show 30 + fr - 30 = fr by omega]; exact vfr
    · rw [a101]; exact ne1
    · by_cases g : q = 30 + fr
      · exact g.symm
      · exact absurd (f1' q hq) (by rw [n101 q g] at hn; exact hn)
  generalize uI (uI (uI (uI M1 96 7 0) 101 (30 + fr) (nI (30 + fr))) 102 0 (nI (30 + fr))) 96 7 (nI 1) = M2 at *
  refine Ho_lp (fun i a M' => a = (nI fr, nI to, nI i) ∧ Sm [96, 101, 102] M M' ∧ ∃ m qu, BQ v fr to R M' m qu ∧ i ≤ m ∧ ∀ h y, h < i → y < 60 → R (nd (qu h)) y ≠ 0 → ∃ k, k < m ∧ nd (qu k) = y) 60 (by omega) ⟨rfl, sM, 1, _, bq0, by omega, fun h y hh => by omega⟩ ?_
  rintro i hi k hk _ M3 ⟨rfl, s3, m, qu, bq, im, cl⟩
  have hm60 : m ≤ 60 := by rw [bq.2.2.1]; exact fa_cnt_le _ 60
  have hC3 := hC.sm s3 scrQ
  have r3 := hr.sm s3
  unfold f_X7_findRoad_h28 f_X7_findRoad_b92 f_X7_findRoad_b86
  dsimp only
  rw [bq.1, ck_n (by omega), ck_n (by omega), t_n (show to < 2147483648 by omega)]
  by_cases g : m ≤ i
  · have : i = m := by omega
    subst this
    rw [if_pos (by rw [n_le (by omega)]; exact g)]
    by_cases z : M3.1 101 to = -1
    · rw [if_pos z, Ho_some]
      exact ⟨s3, i, qu, bq, Or.inr ⟨rfl, z, cl⟩⟩
    · rw [if_neg z, Ho_some]
      exact ⟨s3, i, qu, bq, Or.inl ⟨rfl, bq.2.2.2.2.2.2.1 to (by omega) z⟩⟩
  · rw [if_neg (by rw [n_le (by omega)]; exact g)]
    by_cases z : M3.1 101 to = -1
    · obtain ⟨p1, p2, p3, p4⟩ := bq.2.2.2.2.1 i (by omega)
      rw [if_pos z, ck_n (by omega), t_n (by omega), p1]
      have nxt : ∀ M4, StP v fr to R M3 m qu (qu i) M4 → Ho (k (nI fr, nI to, nI i + 1) M4) (FdP v fr to R M) := fun M4 st => by
        obtain ⟨s4, m4, q4, b4, x4, c4⟩ := st
        rw [n_addl]
        refine hk (by omega) _ _ ⟨rfl, s3.tr s4, m4, q4, b4, by have := x4.1; omega, fun hh y h1 h2 h3 => ?_⟩
        rw [x4.2 hh (by omega)] at h3
        by_cases eh : hh = i
        · subst eh
          exact c4 y h2 h3
        · obtain ⟨kk, k1, k2⟩ := cl hh y (by omega) h2 h3
          exact ⟨kk, Nat.lt_of_lt_of_le k1 x4.1, by rw [x4.2 kk k1]; exact k2⟩
      rcases p3 with ⟨v1, v2, v3⟩ | ⟨v1, v2, v3⟩
      · have vv : vb v fr to (qu i) = true := by
          rcases v3 with q | q
          · rw [q] at p4; exact absurd z p4
          · exact q
        rw [if_pos (by rw [n_ltl (by omega)]; exact v1), Ho_bv]
        exact Ho_mono (c_goIn (by omega) hv hC3 hF r3 bq v2 vv (show i < m by omega) rfl (by omega)) nxt
      · rw [if_neg (by rw [n_ltl (by omega)]; omega), Ho_bv, n_subl (by omega)]
        have st := c_goOut (b := qu i - 30) (j := i) (by omega : 200 < N) hv hC3 hF r3 bq v2 v3 (by omega) (by omega) (by omega) (by omega)
        rw [show 30 + (qu i - 30) = qu i by omega] at st
        exact Ho_mono st nxt
    · rw [if_neg z, if_neg z, Ho_some]
      exact ⟨s3, m, qu, bq, Or.inl ⟨rfl, bq.2.2.2.2.2.2.1 to (by omega) z⟩⟩
end W6
