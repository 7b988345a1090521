section W3
variable {N : Nat} {M S : Mem} {v : Nat → Nat}
theorem m_fg {b : Nat} (hv : VV v) (hA : Ar M 205 435 v) (hb : b < 30) : f_X12_isFoggy (nI b) M = some (fgy v (fogv v) b, M) := by
  have v8 := hv.2.2.2.2.1
  rw [m_foggy hA hb hv.2.2.2.2.2.2.2.2.2.2.1 (by omega)]
  unfold fgy fogv
  rw [show 103 + (30 + b) = 133 + b by omega]
/-- the ways at the start -/
abbrev capV (v : Nat → Nat) (fr to : Nat) (lim : Nat → Nat) : Nat → Nat → Nat := capL (v 0) (v 1) (fgy v (fogv v)) fr to lim
theorem cap_io {fr to i : Nat} {lim : Nat → Nat} (hi : i < 30) (h0 : lim i = 0) (hb : vbB (fgy v (fogv v)) fr to i = true) (h : MRs M (capV v fr to lim)) : MRs (uI M 214 (60 * (2 * i) + 2 * i + 1) 1) (capV v fr to (pt lim i 1)) := by
  intro x y hx hy
  rw [us_same, g_upd]
  by_cases g : x = 2 * i ∧ y = 2 * i + 1
  · rw [if_pos (by omega)]
    unfold capV capL
    rw [if_pos (by omega), show x / 2 = i by omega, hb, pt_at, if_pos (by simp; omega)]
    rfl
  · rw [if_neg (by omega), h x y hx hy]
    by_cases e : x / 2 = i
    · unfold capV capL
      rw [e, pt_at, h0]
      by_cases e2 : x % 2 = 0
      · rw [if_pos e2, if_pos e2, if_neg (by simp), if_neg (by simp; omega)]
      · rw [if_neg e2, if_neg e2]
    · exact congrArg nI (capL_cong fun _ => (pt_ne e).symm)
theorem cap_dir {fr to i d : Nat} {lim : Nat → Nat} (hi : i < 30) (h0 : lim i = d + 1) (hb : vbB (fgy v (fogv v)) fr to i = true) (h : MRs M (capV v fr to lim)) : (∀ w, w < 30 → vwB (fgy v (fogv v)) fr to w = true → nbd (v 0) (v 1) i (d + 1) = some w → MRs (uI M 214 (60 * (2 * i + 1) + 2 * w) 1) (capV v fr to (pt lim i (d + 2)))) ∧ ((∀ w, nbd (v 0) (v 1) i (d + 1) = some w → vwB (fgy v (fogv v)) fr to w = false) → MRs M (capV v fr to (pt lim i (d + 2)))) := by
  have key : ∀ x y, (∀ w, nbd (v 0) (v 1) i (d + 1) = some w → vwB (fgy v (fogv v)) fr to w = true → ¬ (x = 2 * i + 1 ∧ y = 2 * w)) → capV v fr to (pt lim i (d + 2)) x y = capV v fr to lim x y := fun x y hw => by
    by_cases e : x / 2 = i
    · unfold capV capL
      rw [e, pt_at, h0]
      by_cases e2 : x % 2 = 0
      · rw [if_pos e2, if_pos e2]; simp
      · rw [if_neg e2, if_neg e2, show d + 2 - 1 = d + 1 by omega, show d + 1 - 1 = d by omega, adN]
        cases q : (nbd (v 0) (v 1) i (d + 1) == some (y / 2)) with
        | false => rw [Bool.or_false]
        | true =>
          rw [beq_iff_eq] at q
          have := hw _ q
          cases q2 : vwB (fgy v (fogv v)) fr to (y / 2) with
          | false => simp only [Bool.and_false, Bool.false_and]
          | true =>
            have := this q2
            rw [decide_eq_false (show ¬ y % 2 = 0 by omega)]
            simp only [Bool.false_and]
    · exact capL_cong fun _ => pt_ne e
  refine ⟨fun w hw hv1 hn x y hx hy => ?_, fun hn x y hx hy => ?_⟩
  · rw [us_same, g_upd]
    by_cases g : x = 2 * i + 1 ∧ y = 2 * w
    · rw [if_pos (by omega)]
      unfold capV capL
      rw [if_neg (by omega), show x / 2 = i by omega, show y / 2 = w by omega, hb, hv1, pt_at, show d + 2 - 1 = d + 1 by omega, adN, hn, decide_eq_true (show y % 2 = 0 by omega)]
      simp
      rfl
    · rw [if_neg (by omega), h x y hx hy, key x y fun w' hw' _ => by rw [hn] at hw'; cases hw'; exact g]
  · rw [h x y hx hy, key x y fun w' hw' h2 => by rw [hn w' hw'] at h2; cases h2]
theorem m_roads {fr to : Nat} (hN : 4000 < N) (hv : VV v) (hA : Ar S 205 435 v) (hf : fr < v 0 * v 1) (ht : to < v 0 * v 1) : Ho (f_X12_roads N (nI fr) (nI to) S) (RdP (capV v fr to (fun b => if b < v 0 * v 1 then 5 else 0)) (2 * fr + 1) (2 * to) S) := by
  have b30 := bd30 hv.1.1 hv.1.2.1
  unfold f_X12_roads
  refine Ho_lp (fun i a M' => a = (nI fr, nI to, nI i) ∧ Sm [214, 215] S M' ∧ ∀ k, k < i → M'.1 214 k = 0) 3600 (by omega) ⟨rfl, Sm.rf, fun k hk => by omega⟩ ?_
  rintro i hi k hk _ M1 ⟨rfl, s1, z1⟩
  unfold f_X12_roads_h2
  dsimp only
  by_cases g : 3600 ≤ i
  · have : i = 3600 := by omega
    subst this
    rw [if_pos (by decide)]
    refine Ho_lp (fun i a M' => a = (nI fr, nI to, nI i) ∧ Sm [214, 215] S M' ∧ MRs M' (capV v fr to (fun b => if b < i then 5 else 0))) (v 0 * v 1) (by omega) ⟨rfl, s1, fun x y hx hy => ?_⟩ ?_
    · rw [z1 _ (by omega)]
      unfold capV capL
      simp [adN]
      rfl
    rintro i hi k hk _ M2 ⟨rfl, s2, r2⟩
    have hA2 : Ar M2 205 435 v := fun q hq => by rw [s2.2 205 (by simp)]; exact hA q hq
    unfold f_X12_roads_h24 f_X12_roads_b140
    dsimp only
    rw [m_boards (hA2 0 (by omega)) (hA2 1 (by omega)), bi_s]
    by_cases g2 : v 0 * v 1 ≤ i
    · have e : i = v 0 * v 1 := by omega
      rw [if_pos (by rw [n_le (by omega)]; exact g2)]
      subst e
      exact m_rounds (by omega) (by omega) (by omega) (fun x y => capL_1 x y) (cap4 fun b => by split <;> omega) s2 r2
    · rw [if_neg (by rw [n_le (by omega)]; exact g2), n_addl]
      have skip : vbB (fgy v (fogv v)) fr to i = false → Ho (k (nI fr, nI to, nI (i + 1)) M2) (RdP (capV v fr to (fun b => if b < v 0 * v 1 then 5 else 0)) (2 * fr + 1) (2 * to) S) := fun hb => by
        refine hk (by omega) _ _ ⟨rfl, s2, fun x y hx hy => ?_⟩
        rw [r2 x y hx hy]
        refine congrArg nI (capL_cong fun hb2 => ?_)
        have : x / 2 ≠ i := fun z => by rw [z, hb] at hb2; cases hb2
        by_cases q : x / 2 < i
        · rw [if_pos q, if_pos (by omega)]
        · rw [if_neg q, if_neg (by omega)]
      have go : vbB (fgy v (fogv v)) fr to i = true → Ho (f_X12_roads_b53 N k (nI fr) (nI to) (nI i) M2) (RdP (capV v fr to (fun b => if b < v 0 * v 1 then 5 else 0)) (2 * fr + 1) (2 * to) S) := fun hb => by
        unfold f_X12_roads_b53
        rw [n_lmul, n_lmul, nI_add, n_addl, ck_n (by omega), bM_e, t_n (by omega)]
        refine Ho_lp (fun d a M' => a = (nI fr, nI to, nI i, nI (d + 1)) ∧ Sm [214, 215] S M' ∧ MRs M' (capV v fr to (pt (fun b => if b < i then 5 else 0) i (d + 1)))) 4 (by omega) ⟨rfl, s2.uI (by simp), cap_io (by omega) (by rw [if_neg (by omega)]) hb r2⟩ ?_
        rintro d hd k2 hk2 _ M3 ⟨rfl, s3, r3⟩
        have hA3 : Ar M3 205 435 v := fun q hq => by rw [s3.2 205 (by simp)]; exact hA q hq
        unfold f_X12_roads_h74 f_X12_roads_b140 f_X12_roads_b115 f_X12_roads_b134
        dsimp only
        by_cases g3 : 4 < d + 1
        · have : d = 4 := by omega
          subst this
          rw [if_pos (by decide), n_addl]
          refine hk (by omega) _ _ ⟨rfl, s3, fun x y hx hy => ?_⟩
          rw [r3 x y hx hy]
          refine congrArg nI (capL_cong fun _ => ?_)
          by_cases q : x / 2 = i
          · rw [q, pt_at, if_pos (by omega)]
          · rw [pt_ne q]
            by_cases q2 : x / 2 < i
            · rw [if_pos q2, if_pos (by omega)]
            · rw [if_neg q2, if_neg (by omega)]
        · rw [if_neg (by rw [n_llt (by omega)]; exact g3), m_nb (hA3 0 (by omega)) (hA3 1 (by omega)) (by omega) ⟨hv.1.1, hv.1.2.1⟩ (by omega), bi_s, n_addl]
          obtain ⟨c1, c2⟩ := cap_dir (i := i) (d := d) (show i < 30 by omega) (pt_at _ _ _) hb r3
          have ep : ∀ q, pt (pt (fun b => if b < i then 5 else 0) i (d + 1)) i q = pt (fun b => if b < i then 5 else 0) i q := fun q => by
            funext x
            by_cases e : x = i
            · rw [e, pt_at, pt_at]
            · rw [pt_ne e, pt_ne e, pt_ne e]
          rw [ep] at c1 c2
          have skip2 : (∀ w, nbd (v 0) (v 1) i (d + 1) = some w → vwB (fgy v (fogv v)) fr to w = false) → Ho (k2 (nI fr, nI to, nI i, nI (d + 1 + 1)) M3) (RdP (capV v fr to (fun b => if b < v 0 * v 1 then 5 else 0)) (2 * fr + 1) (2 * to) S) := fun h => hk2 (by omega) _ _ ⟨rfl, s3, c2 h⟩
          cases eo : nbd (v 0) (v 1) i (d + 1) with
          | none =>
            rw [if_pos (show oI none < 0 by decide)]
            exact skip2 fun w hw => by rw [eo] at hw; cases hw
          | some w =>
            have hw := (nb_is ⟨hv.1.1, hv.1.2.1⟩ (show i < v 0 * v 1 by omega) (show 1 ≤ d + 1 ∧ d + 1 ≤ 4 by omega) eo).1
            have lay : vwB (fgy v (fogv v)) fr to w = true → Ho (ck (60 * (2 * nI i + 1) + 2 * nI w) 3600 (bM (uI M3 214 (tn (60 * (2 * nI i + 1) + 2 * nI w)) 1) fun M_15 => k2 (nI fr, nI to, nI i, nI (d + 1 + 1)) M_15)) (RdP (capV v fr to (fun b => if b < v 0 * v 1 then 5 else 0)) (2 * fr + 1) (2 * to) S) := fun h => by
              rw [n_lmul, n_addl, n_lmul, n_lmul, nI_add, ck_n (by omega), bM_e, t_n (by omega)]
              exact hk2 (by omega) _ _ ⟨rfl, s3.uI (by simp), c1 w (by omega) h eo⟩
            have some1 : ∀ b, vwB (fgy v (fogv v)) fr to w = b → ∀ w', some w = some w' → vwB (fgy v (fogv v)) fr to w' = b := fun b hb w' e => by cases e; exact hb
            rw [show oI (some w) = nI w from rfl, if_neg (show ¬ nI w < 0 from nI_pos (by omega))]
            by_cases e1 : w = fr
            · rw [if_pos (by rw [e1])]
              have hw0 : vwB (fgy v (fogv v)) fr to w = false := by
                unfold vwB
                rw [decide_eq_false (by omega), Bool.false_and]
              exact skip2 (by rw [eo]; exact some1 false hw0)
            · rw [if_neg (by rw [n_eq (by omega)]; exact e1)]
              by_cases e2 : w = to
              · rw [if_pos (by rw [e2])]
                refine lay ?_
                unfold vwB
                rw [decide_eq_true e1, decide_eq_true e2]
                rfl
              · rw [if_neg (by rw [n_eq (by omega)]; exact e2), m_fg hv hA3 (by omega), bi_s]
                have ew : vwB (fgy v (fogv v)) fr to w = fgy v (fogv v) w := by
                  unfold vwB
                  rw [decide_eq_true e1, decide_eq_false e2, Bool.true_and, Bool.false_or]
                cases ef : fgy v (fogv v) w with
                | false =>
                  rw [if_pos (by decide)]
                  exact skip2 (by rw [eo]; exact some1 false (ew.trans ef))
                | true =>
                  rw [if_neg (by decide)]
                  exact lay (ew.trans ef)
      by_cases e1 : i = to
      · rw [if_pos (by rw [e1])]
        refine skip ?_
        unfold vbB
        rw [decide_eq_false (by omega), Bool.false_and]
      · rw [if_neg (by rw [n_eq (by omega)]; exact e1)]
        by_cases e2 : i = fr
        · rw [if_pos (by rw [e2])]
          refine go ?_
          unfold vbB
          rw [decide_eq_true e1, decide_eq_true e2]
          rfl
        · rw [if_neg (by rw [n_eq (by omega)]; exact e2), m_fg hv hA2 (by omega), bi_s]
          have ew : vbB (fgy v (fogv v)) fr to i = fgy v (fogv v) i := by
            unfold vbB
            rw [decide_eq_true e1, decide_eq_false e2, Bool.true_and, Bool.false_or]
          cases ef : fgy v (fogv v) i with
          | false =>
            rw [if_pos (by decide)]
            exact skip (ew.trans ef)
          | true =>
            rw [if_neg (by decide)]
            exact go (ew.trans ef)
  · rw [if_neg (by rw [n_lle (by omega)]; exact g), ck_n (by omega), bM_e, t_n (by omega), n_addl]
    refine hk (by omega) _ _ ⟨rfl, s1.uI (by simp), fun x hx => ?_⟩
    rw [us_same, g_upd]
    by_cases e : x = i
    · rw [if_pos e]
    · rw [if_neg e]; exact z1 x (by omega)
end W3
