section W5
variable {N fr to : Nat} {M C : Mem} {v : Nat → Nat} {R : Nat → Nat → Nat} {e : Nat → Int}
def nd (q : Nat) : Nat := if q < 30 then 2 * q else 2 * (q - 30) + 1
theorem nd_lt {q : Nat} (h : q < 60) : nd q < 60 := by unfold nd; split <;> omega
theorem nd_in {b : Nat} (h : b < 30) : nd b = 2 * b := if_pos h
theorem nd_out (b : Nat) : nd (30 + b) = 2 * b + 1 := by unfold nd; rw [if_neg (by omega)]; omega
theorem nd_inj {p q : Nat} (h : nd p = nd q) : p = q := by
  unfold nd at h
  split at h <;> split at h <;> omega
def VnQ (v : Nat → Nat) (fr to q : Nat) : Prop := (q < 30 ∧ q < v 0 * v 1 ∧ (q = to ∨ vb v fr to q = true)) ∨ (30 ≤ q ∧ q - 30 < v 0 * v 1 ∧ vb v fr to (q - 30) = true)
def BQ (v : Nat → Nat) (fr to : Nat) (R : Nat → Nat → Nat) (M : Mem) (m : Nat) (qu : Nat → Nat) : Prop := M.1 96 7 = nI m ∧ 1 ≤ m ∧ m = fa_cnt (fun q => decide (M.1 101 q ≠ -1)) 60 ∧ qu 0 = 30 + fr ∧ (∀ i, i < m → M.1 102 i = nI (qu i) ∧ qu i < 60 ∧ VnQ v fr to (qu i) ∧ M.1 101 (qu i) ≠ -1) ∧ (∀ i j, i < m → j < m → qu i = qu j → i = j) ∧ (∀ q, q < 60 → M.1 101 q ≠ -1 → ∃ i, i < m ∧ qu i = q) ∧ (∀ i, 0 < i → i < m → ∃ j, j < i ∧ M.1 101 (qu i) = nI (qu j) ∧ R (nd (qu j)) (nd (qu i)) ≠ 0)
def Ext (m : Nat) (qu : Nat → Nat) (m' : Nat) (qu' : Nat → Nat) : Prop := m ≤ m' ∧ ∀ i, i < m → qu' i = qu i
theorem Ext.rf {m : Nat} {qu : Nat → Nat} : Ext m qu m qu := ⟨Nat.le_refl _, fun _ _ => rfl⟩
theorem Ext.tr {m m1 m2 : Nat} {qu q1 q2 : Nat → Nat} (h : Ext m qu m1 q1) (h2 : Ext m1 q1 m2 q2) : Ext m qu m2 q2 := ⟨Nat.le_trans h.1 h2.1, fun i hi => (h2.2 i (Nat.lt_of_lt_of_le hi h.1)).trans (h.2 i hi)⟩
theorem Ext.in {m m' : Nat} {qu qu' : Nat → Nat} {q : Nat} (h : Ext m qu m' qu') (hq : ∃ i, i < m ∧ qu i = q) : ∃ i, i < m' ∧ qu' i = q := by
  obtain ⟨i, a, b⟩ := hq
  exact ⟨i, Nat.lt_of_lt_of_le a h.1, by rw [h.2 i a]; exact b⟩
theorem cnt_up {K K' : Nat → Bool} {u : Nat} : ∀ n, u < n → K u = false → K' u = true → (∀ x, x ≠ u → K' x = K x) → fa_cnt K' n = fa_cnt K n + 1
  | 0, hu, _, _, _ => by omega
  | n + 1, hu, h1, h2, h3 => by
    by_cases e : u = n
    · subst e
      rw [fa_cnt_no h1, fa_cnt_yes h2, fa_cnt_cong fun k hk => h3 k (by omega)]
    · have ih := cnt_up n (by omega) h1 h2 h3
      have en := h3 n (fun z => e z.symm)
      cases q : K n with
      | false => rw [fa_cnt_no q, fa_cnt_no (en.trans q)]; exact ih
      | true => rw [fa_cnt_yes q, fa_cnt_yes (en.trans q), ih]
theorem c_enq {m q j : Nat} {qu : Nat → Nat} (h : BQ v fr to R M m qu) (hq : q < 60) (hV : VnQ v fr to q) (hj : j < m) (hR : R (nd (qu j)) (nd q) ≠ 0) : Ho (f_X7_enqueue (nI q) (nI (qu j)) M) (fun M' => Sm [96, 101, 102] M M' ∧ ∃ m' qu', BQ v fr to R M' m' qu' ∧ Ext m qu m' qu' ∧ ∃ i, i < m' ∧ qu' i = q) := by
  have hh := h
  obtain ⟨h1, h2, h3, h4, h5, h6, h7, h8⟩ := h
  unfold f_X7_enqueue
  rw [ck_n (by omega), t_n (by omega)]
  by_cases g : M.1 101 q = -1
  · have hm : m < 60 := by
      have := cnt_lt (K := fun q => decide (M.1 101 q ≠ -1)) (K' := fun _ => true) (u := q) 60 (fun _ _ _ => rfl) hq (decide_eq_false (fun z => z g)) rfl
      have := fa_cnt_le (fun _ => true) 60
      omega
    have qj := (h5 j hj).2.1
    rw [if_pos g, h1, if_neg (by rw [n_lle (by omega)]; omega), ck_n (by omega), bM_e, u_ne (by decide), h1, ck_n (by omega), bM_e, u_ne (by decide), u_ne (by decide), h1, n_addl, bM_e, t_n (by omega), Ho_some]
    have n101 : ∀ x, x ≠ q → (uI (uI (uI M 101 q (nI (qu j))) 102 m (nI q)) 96 7 (nI (m + 1))).1 101 x = M.1 101 x := fun x hx => by rw [u_ne (by decide), u_ne (by decide), us_same, g_upd, if_neg hx]
    have a101 : (uI (uI (uI M 101 q (nI (qu j))) 102 m (nI q)) 96 7 (nI (m + 1))).1 101 q = nI (qu j) := by rw [u_ne (by decide), u_ne (by decide), u_at]
    have ne1 : ¬ nI (qu j) = -1 := by rw [n_m1l (by omega)]; exact id
    have old : ∀ i, i < m → qu i ≠ q := fun i hi z => (h5 i hi).2.2.2 (by rw [z]; exact g)
    refine ⟨((Sm.rf.uI (by simp)).uI (by simp)).uI (by simp), m + 1, pt qu m q, ⟨u_at _ _ _ _, by omega, ?_, by rw [pt_ne (by omega)]; exact h4, fun i hi => ?_, fun i k hi hk z => ?_, fun x hx hn => ?_, fun i i0 hi => ?_⟩, ⟨by omega, fun i hi => pt_ne (by omega)⟩, m, by omega, pt_at _ _ _⟩
    · refine (congrArg (· + 1) h3).trans (cnt_up (u := q) 60 hq (decide_eq_false (fun z => z g)) (decide_eq_true ?_) fun x hx => ?_).symm
      · rw [a101]; exact ne1
      · rw [n101 x hx]
    · by_cases e : i = m
      · subst e
        rw [pt_at, a101]
        refine ⟨?_, hq, hV, ne1⟩
        rw [u_ne (by decide), u_at]
      · rw [pt_ne e, n101 _ (old i (by omega))]
        obtain ⟨k1, k2⟩ := h5 i (by omega)
        refine ⟨?_, k2⟩
        rw [u_ne (by decide), us_same, g_upd, if_neg e, u_ne (by decide)]
        exact k1
    · by_cases e1 : i = m
      · by_cases e2 : k = m
        · omega
        · rw [e1, pt_at, pt_ne e2] at z
          exact absurd z.symm (old k (by omega))
      · by_cases e2 : k = m
        · rw [e2, pt_at, pt_ne e1] at z
          exact absurd z (old i (by omega))
        · rw [pt_ne e1, pt_ne e2] at z
          exact h6 i k (by omega) (by omega) z
    · by_cases e : x = q
      · exact ⟨m, by omega, by rw [pt_at, e]⟩
      · rw [n101 x e] at hn
        obtain ⟨i, a, b⟩ := h7 x hx hn
        exact ⟨i, by omega, by rw [pt_ne (by omega)]; exact b⟩
    · by_cases e : i = m
      · subst e
        refine ⟨j, hj, ?_, ?_⟩
        · rw [pt_at, pt_ne (by omega)]; exact a101
        · rw [pt_at, pt_ne (by omega)]; exact hR
      · obtain ⟨k, k1, k2, k3⟩ := h8 i i0 (by omega)
        refine ⟨k, k1, ?_, ?_⟩
        · rw [pt_ne e, pt_ne (by omega), n101 _ (old i (by omega))]; exact k2
        · rw [pt_ne e, pt_ne (by omega)]; exact k3
  · rw [if_neg g, Ho_some]
    exact ⟨Sm.rf, m, qu, hh, Ext.rf, h7 q hq g⟩
theorem scrQ : ∀ c, c ∈ [96, 101, 102] → 83 ≤ c ∧ c < 107 := by intro c hc; simp at hc; omega
theorem RpC.sm {M' : Mem} (h : RpC v M R) (s : Sm [96, 101, 102] M M') : RpC v M' R := ⟨fun b hb => by rw [s.2 99 (by simp)]; exact h.1 b hb, fun b d w hb d1 d2 hn => by rw [s.2 100 (by simp)]; exact h.2 b d w hb d1 d2 hn⟩
theorem c_fg {b : Nat} (hv : VV v) (hC : PC M 10 v) (hb : b < 30) : f_X5_isFoggy 10 16 (nI b) M = some (fgy v (fogv v) b, M) := by
  have v8 := hv.2.2.2.2.1
  rw [c_foggy (F := fogv v) rfl hC.2.1 hC.2.2.2.2.2.2.2.2.2.2.2.1 hb hv.2.2.2.2.2.2.2.2.2.2.1 (by omega)]
  rfl
/-- what a step of the search leaves -/
def StP (v : Nat → Nat) (fr to : Nat) (R : Nat → Nat → Nat) (M : Mem) (m : Nat) (qu : Nat → Nat) (q : Nat) (M' : Mem) : Prop := Sm [96, 101, 102] M M' ∧ ∃ m' qu', BQ v fr to R M' m' qu' ∧ Ext m qu m' qu' ∧ ∀ y, y < 60 → R (nd q) y ≠ 0 → ∃ i, i < m' ∧ nd (qu' i) = y
theorem c_goOut {m b j : Nat} {qu : Nat → Nat} (hN : 200 < N) (hv : VV v) (hC : PC M 10 v) (hF : FL (capF v fr to) R e) (hr : RpC v M R) (h : BQ v fr to R M m qu) (hb : b < v 0 * v 1) (hvb : vb v fr to b = true) (hj : j < m) (hqj : qu j = 30 + b) (hfr : fr < 30) (hto : to < 30) : Ho (f_X7_goOut N 10 (nI b) (nI fr) (nI to) M) (StP v fr to R M m qu (30 + b)) := by
  have hW : v 0 ≤ 6 ∧ v 1 ≤ 5 := ⟨hv.1.1, hv.1.2.1⟩
  have b30 := bd30 hW.1 hW.2
  unfold f_X7_goOut
  refine Ho_lp (fun d a M' => a = (nI b, nI fr, nI to, nI (d + 1)) ∧ Sm [96, 101, 102] M M' ∧ ∃ m' qu', BQ v fr to R M' m' qu' ∧ Ext m qu m' qu' ∧ ∀ k w, 1 ≤ k → k ≤ d → nbd (v 0) (v 1) b k = some w → R (2 * b + 1) (2 * w) ≠ 0 → ∃ i, i < m' ∧ qu' i = w) 4 (by omega) ⟨rfl, Sm.rf, m, qu, h, Ext.rf, fun k w k1 k2 => by omega⟩ ?_
  rintro d hd k hk _ M1 ⟨rfl, s1, m1, q1, h1, x1, c1⟩
  have hC1 := hC.sm s1 scrQ
  have r1 := hr.sm s1
  have hj1 : j < m1 := Nat.lt_of_lt_of_le hj x1.1
  have ej : q1 j = 30 + b := (x1.2 j hj).trans hqj
  unfold f_X7_goOut_h3 f_X7_goOut_b54 f_X7_goOut_b50 f_X7_goOut_b55 f_X7_goOut_b86 f_X7_roadPlace
  dsimp only
  by_cases g : 4 < d + 1
  · have : d = 4 := by omega
    subst this
    have rs := R_self hW hF hb
    rw [if_pos hvb] at rs
    rw [if_pos (by decide), ck_n (by omega), t_n (by omega), r1.1 b hb]
    have fin : ∀ (M2 : Mem) (m2 : Nat) (q2 : Nat → Nat), Sm [96, 101, 102] M1 M2 → BQ v fr to R M2 m2 q2 → Ext m1 q1 m2 q2 → (R (2 * b + 1) (2 * b) ≠ 0 → ∃ i, i < m2 ∧ q2 i = b) → StP v fr to R M m qu (30 + b) M2 := fun M2 m2 q2 s2 b2 x2 hb2 => by
      refine ⟨s1.tr s2, m2, q2, b2, x1.tr x2, fun y hy hne => ?_⟩
      rw [nd_out] at hne
      rcases R_out hW hF hb hy hne with rfl | ⟨w, dd, w1, w2, w3, rfl, w4, w5⟩
      · obtain ⟨i, i1, i2⟩ := hb2 hne
        exact ⟨i, i1, by rw [i2, nd_in (by omega)]⟩
      · obtain ⟨i, i1, i2⟩ := x2.in (c1 dd w w2 w3 w4 hne)
        exact ⟨i, i1, by rw [i2, nd_in (by omega)]⟩
    by_cases z : R (2 * b + 1) (2 * b) = 1
    · rw [if_pos (by rw [z]; rfl), Ho_bv, show (30 : Int32) + nI b = nI (q1 j) by rw [ej, n_ladd]]
      refine Ho_mono (c_enq h1 (show b < 60 by omega) (Or.inl ⟨by omega, hb, Or.inr hvb⟩) hj1 (by rw [ej, nd_out, nd_in (by omega), z]; decide)) ?_
      rintro M2 ⟨s2, m2, q2, b2, x2, i2⟩
      rw [Ho_some]
      exact fin M2 m2 q2 s2 b2 x2 fun _ => i2
    · rw [if_neg (by rw [n_eql (by omega)]; exact z), Ho_some]
      exact fin M1 m1 q1 Sm.rf h1 Ext.rf fun q => by omega
  · have hd4 : 1 ≤ d + 1 ∧ d + 1 ≤ 4 := by omega
    rw [if_neg (by rw [n_llt (by omega)]; exact g), c_nb hC1.1.1 hC1.1.2.1 hd4 hW hb, bi_s]
    have nxt : ∀ (M2 : Mem) (m2 : Nat) (q2 : Nat → Nat), Sm [96, 101, 102] M1 M2 → BQ v fr to R M2 m2 q2 → Ext m1 q1 m2 q2 → (∀ w, nbd (v 0) (v 1) b (d + 1) = some w → R (2 * b + 1) (2 * w) ≠ 0 → ∃ i, i < m2 ∧ q2 i = w) → Ho (k (nI b, nI fr, nI to, nI (d + 1) + 1) M2) (StP v fr to R M m qu (30 + b)) := fun M2 m2 q2 s2 b2 x2 hw => by
      rw [n_addl]
      refine hk (by omega) _ _ ⟨rfl, s1.tr s2, m2, q2, b2, x1.tr x2, fun kk w k1 k2 kn hne => ?_⟩
      by_cases ek : kk = d + 1
      · subst ek
        exact hw w kn hne
      · exact x2.in (c1 kk w k1 (by omega) kn hne)
    simp only [if_true, if_neg (show ¬ (1 : Int32) = 0 by decide), bi_s]
    cases eo : nbd (v 0) (v 1) b (d + 1) with
    | none =>
      rw [if_pos (show oI none = -1 from rfl)]
      exact nxt M1 m1 q1 Sm.rf h1 Ext.rf fun w hw => by rw [eo] at hw; cases hw
    | some w =>
      obtain ⟨w1, w2, w3, w4⟩ := R_way hW hF hb hd4 eo
      have hrd := r1.2 b (d + 1) w hb hd4.1 hd4.2 eo
      have no : vw v fr to w = false → Ho (k (nI b, nI fr, nI to, nI (d + 1) + 1) M1) (StP v fr to R M m qu (30 + b)) := fun hw0 => nxt M1 m1 q1 Sm.rf h1 Ext.rf fun w' hw' hne => by
        rw [eo] at hw'
        cases hw'
        have hc : capF v fr to (2 * b + 1) (2 * w) ≠ 0 := by omega
        have := (cF_o (x := 2 * b + 1) (by omega) hc).2.2.2.1
        rw [show 2 * w / 2 = w by omega, hw0] at this
        cases this
      have yes : vw v fr to w = true → Ho (ck (nI b * 5 + nI (d + 1)) 150 (if M1.1 100 (tn (nI b * 5 + nI (d + 1))) = 0 then bv (f_X7_enqueue (nI w) (30 + nI b) M1) fun M_11 => k (nI b, nI fr, nI to, nI (d + 1) + 1) M_11 else k (nI b, nI fr, nI to, nI (d + 1) + 1) M1)) (StP v fr to R M m qu (30 + b)) := fun hw1 => by
        have hc := cF_1 (fr := fr) (to := to) hb hvb hw1 hd4 eo
        rw [n_mull, nI_add, show b * 5 + (d + 1) = 5 * b + (d + 1) by omega, ck_n (by omega), t_n (by omega), hrd]
        by_cases z : R (2 * w) (2 * b + 1) = 0
        · rw [if_pos (by rw [z]; rfl), Ho_bv, show (30 : Int32) + nI b = nI (q1 j) by rw [ej, n_ladd]]
          refine Ho_mono (c_enq h1 (show w < 60 by omega) (Or.inl ⟨by omega, w1, ?_⟩) hj1 (by rw [ej, nd_out, nd_in (by omega)]; omega)) ?_
          · unfold vw vwB at hw1
            simp only [Bool.and_eq_true, Bool.or_eq_true, decide_eq_true_eq] at hw1
            rcases hw1.2 with q | q
            · exact Or.inl q
            · by_cases et : w = to
              · exact Or.inl et
              · refine Or.inr ?_
                unfold vb vbB
                simp only [Bool.and_eq_true, Bool.or_eq_true, decide_eq_true_eq]
                exact ⟨et, Or.inr q⟩
          · rintro M2 ⟨s2, m2, q2, b2, x2, i2⟩
            exact nxt M2 m2 q2 s2 b2 x2 fun w' hw' _ => by
              rw [eo] at hw'
              cases hw'
              exact i2
        · rw [if_neg (by rw [n_eql (by omega)]; exact z)]
          exact nxt M1 m1 q1 Sm.rf h1 Ext.rf fun w' hw' hne => by
            rw [eo] at hw'
            cases hw'
            omega
      rw [show oI (some w) = nI w from rfl, if_neg (by rw [n_m1l (by omega)]; exact id)]
      by_cases e1 : w = fr
      · rw [if_pos (by rw [e1])]
        refine no ?_
        unfold vw vwB
        rw [decide_eq_false (by omega), Bool.false_and]
      · rw [if_neg (by rw [n_eq (by omega)]; exact e1)]
        by_cases e2 : w = to
        · rw [if_pos (by rw [e2])]
          refine yes ?_
          unfold vw vwB
          rw [decide_eq_true e1, decide_eq_true e2]
          rfl
        · rw [if_neg (by rw [n_eq (by omega)]; exact e2), c_fg hv hC1 (by omega), bi_s]
          have ew : vw v fr to w = fgy v (fogv v) w := by
            unfold vw vwB
            rw [decide_eq_true e1, decide_eq_false e2, Bool.true_and, Bool.false_or]
          cases ef : fgy v (fogv v) w with
          | false =>
            rw [if_pos (by decide)]
            exact no (ew.trans ef)
          | true =>
            rw [if_neg (by decide)]
            exact yes (ew.trans ef)
end W5
