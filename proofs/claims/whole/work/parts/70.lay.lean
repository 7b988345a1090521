section W7
variable {N fr to : Nat} {M C S : Mem} {v : Nat → Nat} {R : Nat → Nat → Nat} {e : Nat → Int}
theorem adR_ne {x y a b : Nat} (h1 : ¬ (a = x ∧ b = y)) (h2 : ¬ (a = y ∧ b = x)) : adR R x y a b = R a b := by
  unfold adR
  rw [if_neg h1, if_neg h2]
theorem adR_xy (x y : Nat) : adR R x y x y = R x y - 1 := if_pos ⟨rfl, rfl⟩
theorem adR_yx {x y : Nat} (h : x ≠ y) : adR R x y y x = R y x + 1 := by
  unfold adR
  rw [if_neg (by omega), if_pos ⟨rfl, rfl⟩]
theorem RpC.up1 {R' : Nat → Nat → Nat} {b k : Nat} (hW : v 0 ≤ 6 ∧ v 1 ≤ 5) (h : RpC v M R) (hb : b < v 0 * v 1) (hk : R' (2 * b + 1) (2 * b) = k) (hR : ∀ x y, ¬ (x = 2 * b + 1 ∧ y = 2 * b) → ¬ (x = 2 * b ∧ y = 2 * b + 1) → R' x y = R x y) : RpC v (uI M 99 b (nI k)) R' := by
  refine ⟨fun b' hb' => ?_, fun b' d w hb' d1 d2 hn => ?_⟩
  · rw [us_same, g_upd]
    by_cases g : b' = b
    · rw [if_pos g, g, hk]
    · rw [if_neg g, hR _ _ (by omega) (by omega)]
      exact h.1 b' hb'
  · have := (nb_is hW hb' ⟨d1, d2⟩ hn).2.1
    rw [u_ne (by decide), hR _ _ (by omega) (by omega)]
    exact h.2 b' d w hb' d1 d2 hn
theorem RpC.up2 {R' : Nat → Nat → Nat} {b d w k : Nat} (hW : v 0 ≤ 6 ∧ v 1 ≤ 5) (h : RpC v M R) (hb : b < v 0 * v 1) (hd : 1 ≤ d ∧ d ≤ 4) (hn : nbd (v 0) (v 1) b d = some w) (hk : R' (2 * w) (2 * b + 1) = k) (hR : ∀ x y, ¬ (x = 2 * b + 1 ∧ y = 2 * w) → ¬ (x = 2 * w ∧ y = 2 * b + 1) → R' x y = R x y) : RpC v (uI M 100 (5 * b + d) (nI k)) R' := by
  have wb := (nb_is hW hb hd hn).2.1
  refine ⟨fun b' hb' => ?_, fun b' d' w' hb' d1 d2 hn' => ?_⟩
  · rw [u_ne (by decide), hR _ _ (by omega) (by omega)]
    exact h.1 b' hb'
  · rw [us_same, g_upd]
    by_cases g : 5 * b' + d' = 5 * b + d
    · have e1 : b' = b := by omega
      have e2 : d' = d := by omega
      subst e1 e2
      rw [hn] at hn'
      cases hn'
      rw [if_pos rfl, hk]
    · rw [if_neg g, hR _ _ (by omega) (fun q => ?_)]
      · exact h.2 b' d' w' hb' d1 d2 hn'
      · have e1 : b' = b := by omega
        have e2 : w' = w := by omega
        subst e1 e2
        have := nb_inj hW hb hd ⟨d1, d2⟩ hn hn'
        omega
theorem c_dir {b w d : Nat} (hN : 200 < N) (hv : VV v) (hC : PC M 10 v) (hb : b < v 0 * v 1) (hd : 1 ≤ d ∧ d ≤ 4) (hn : nbd (v 0) (v 1) b d = some w) : f_X7_directionTo N 10 (nI b) (nI w) M = some (nI d, M) := by
  have hW : v 0 ≤ 6 ∧ v 1 ≤ 5 := ⟨hv.1.1, hv.1.2.1⟩
  have b30 := bd30 hW.1 hW.2
  have hw := (nb_is hW hb hd hn).1
  have key : Ho (f_X7_directionTo N 10 (nI b) (nI w) M) (fun q => q = (nI d, M)) := by
    unfold f_X7_directionTo
    refine Ho_lp (fun i a M' => a = (nI b, nI w, nI (i + 1)) ∧ M = M' ∧ i + 1 ≤ d) 4 (by omega) ⟨rfl, rfl, hd.1⟩ ?_
    rintro i hi k hk _ M1 ⟨rfl, e1, hid⟩
    rw [← e1]
    unfold f_X7_directionTo_h3
    dsimp only
    rw [if_neg (by rw [n_llt (by omega)]; omega), c_nb hC.1.1 hC.1.2.1 (by omega) hW hb, bi_s]
    by_cases g : i + 1 = d
    · rw [g, hn, if_pos (show oI (some w) = nI w from rfl), Ho_some]
    · have ne : ¬ oI (nbd (v 0) (v 1) b (i + 1)) = nI w := by
        cases eo : nbd (v 0) (v 1) b (i + 1) with
        | none =>
          intro z
          have : nI w = -1 := z.symm
          rw [n_m1l (by omega)] at this
          exact this
        | some w' =>
          have hw' := (nb_is hW hb (show 1 ≤ i + 1 ∧ i + 1 ≤ 4 by omega) eo).1
          intro z
          have z' : nI w' = nI w := z
          rw [n_eq (by omega)] at z'
          subst z'
          exact g (nb_inj hW hb hd (by omega) hn eo)
      rw [if_neg ne, n_addl]
      exact hk (by omega) _ _ ⟨rfl, rfl, by omega⟩
  obtain ⟨q, e, rfl⟩ := key
  exact e
theorem scrL : ∀ c, c ∈ [99, 100] → 83 ≤ c ∧ c < 107 := by intro c hc; simp at hc; omega
theorem n_md {a : Nat} (h : a < 60) : nI a - nI a / 30 * 30 = nI (a % 30) := n_mod (a := a) (b := 30) (by omega)
/-- the way found is laid -/
theorem c_lay {m kt n : Nat} {qu : Nat → Nat} (hN : 300 < N) (hv : VV v) (hC : PC M 10 v) (hF : FL (capF v fr to) R (net (2 * fr + 1) (2 * to) n)) (hr : RpC v M R) (hfr : fr < v 0 * v 1) (hto : to < v 0 * v 1) (h : BQ v fr to R M m qu) (hk : kt < m) (hkt : qu kt = to) : Ho (f_X7_layRoad N 10 (nI fr) (nI to) M) (fun M' => Sm [99, 100] M M' ∧ ∃ R', RpC v M' R' ∧ FL (capF v fr to) R' (net (2 * fr + 1) (2 * to) ((n + 1 : Nat) : Int))) := by
  have hW : v 0 ≤ 6 ∧ v 1 ≤ 5 := ⟨hv.1.1, hv.1.2.1⟩
  have b30 := bd30 hW.1 hW.2
  have hm60 : m ≤ 60 := by rw [h.2.2.1]; exact fa_cnt_le _ 60
  obtain ⟨h1, h2, h3, h4, h5, h6, h7, h8⟩ := h
  unfold f_X7_layRoad
  refine Ho_lp (fun i a M' => ∃ k Rc, a = (nI fr, nI (qu k), nI i) ∧ k + i < 60 ∧ k < m ∧ Sm [99, 100] M M' ∧ RpC v M' Rc ∧ FL (capF v fr to) Rc (fun a => net (2 * fr + 1) (2 * to) n a + (if a = nd (qu k) then 1 else 0) - (if a = 2 * to then 1 else 0)) ∧ ∀ hh x, hh < k → Rc (nd (qu hh)) x = R (nd (qu hh)) x) 60 (by omega) ⟨kt, R, by rw [hkt]; rfl, by omega, hk, Sm.rf, hr, ?_, fun _ _ _ => rfl⟩ ?_
  · have : (fun a => net (2 * fr + 1) (2 * to) n a + (if a = nd (qu kt) then 1 else 0) - (if a = 2 * to then 1 else 0)) = net (2 * fr + 1) (2 * to) n := by
      funext a
      rw [hkt, nd_in (by omega)]
      split <;> omega
    rw [this]
    exact hF
  rintro i hi k hk2 _ M1 ⟨kk, Rc, rfl, k1, k2, s1, r1, f1, c1⟩
  have hC1 := hC.sm s1 scrL
  obtain ⟨-, q60, qV, -⟩ := h5 kk k2
  unfold f_X7_layRoad_h6 f_X7_layRoad_b70 f_X7_layRoad_b124 f_X7_roadPlace
  dsimp only
  rw [if_neg (by rw [n_lle (by omega)]; omega), n_ladd]
  by_cases g : qu kk = 30 + fr
  · rw [if_pos (by rw [g]), Ho_some]
    refine ⟨s1, Rc, r1, ?_⟩
    rw [g, nd_out, net_s] at f1
    exact f1
  · rw [if_neg (by rw [n_eq (by omega)]; exact g), ck_n (by omega), bI_e, t_n (by omega)]
    have k0 : 0 < kk := by
      rcases Nat.eq_zero_or_pos kk with z | z
      · rw [z, h4] at g; exact absurd rfl g
      · exact z
    obtain ⟨j, j1, j2, j3⟩ := h8 kk k0 k2
    obtain ⟨-, p60, pV, -⟩ := h5 j (by omega)
    have pq : qu j ≠ qu kk := fun z => by have := h6 j kk (by omega) k2 z; omega
    have npq : nd (qu j) ≠ nd (qu kk) := fun z => pq (nd_inj z)
    have rc := c1 j (nd (qu kk)) j1
    have rge : 1 ≤ Rc (nd (qu j)) (nd (qu kk)) := by omega
    have f2 := f1.ad (nd_lt p60) (nd_lt q60) npq rge
    have ee : (fun a => (fun a => net (2 * fr + 1) (2 * to) n a + (if a = nd (qu kk) then 1 else 0) - (if a = 2 * to then 1 else 0)) a + (if a = nd (qu j) then 1 else 0) - (if a = nd (qu kk) then 1 else 0)) = (fun a => net (2 * fr + 1) (2 * to) n a + (if a = nd (qu j) then 1 else 0) - (if a = 2 * to then 1 else 0)) := by
      funext a
      dsimp only
      omega
    rw [ee] at f2
    have c2 : ∀ hh x, hh < j → adR Rc (nd (qu j)) (nd (qu kk)) (nd (qu hh)) x = R (nd (qu hh)) x := fun hh x hlt => by
      have a1 : nd (qu hh) ≠ nd (qu j) := fun z => by have := h6 hh j (by omega) (by omega) (nd_inj z); omega
      have a2 : nd (qu hh) ≠ nd (qu kk) := fun z => by have := h6 hh kk (by omega) (by omega) (nd_inj z); omega
      rw [adR_ne (fun z => a1 z.1) (fun z => a2 z.1)]
      exact c1 hh x (by omega)
    have nxt : ∀ M2, Sm [99, 100] M1 M2 → RpC v M2 (adR Rc (nd (qu j)) (nd (qu kk))) → Ho (k (nI fr, nI (qu j), nI i + 1) M2) (fun M' => Sm [99, 100] M M' ∧ ∃ R', RpC v M' R' ∧ FL (capF v fr to) R' (net (2 * fr + 1) (2 * to) ((n + 1 : Nat) : Int))) := fun M2 s2 r2 => by
      rw [n_addl]
      exact hk2 (by omega) _ _ ⟨j, _, rfl, by omega, by omega, s1.tr s2, r2, f2, c2⟩
    have e101 : M1.1 101 (qu kk) = nI (qu j) := by rw [s1.2 101 (by simp)]; exact j2
    rw [e101, n_md p60, n_md q60]
    generalize qu j = p at *
    generalize qu kk = q at *
    rcases qV with ⟨q30, qn, -⟩ | ⟨q30, qn, -⟩
    · -- into q
      have eq : nd q = 2 * q := nd_in q30
      have mq : q % 30 = q := Nat.mod_eq_of_lt q30
      rcases pV with ⟨p30, pn, -⟩ | ⟨p30, pn, -⟩
      · exfalso
        rw [nd_in p30, eq] at rge
        rcases R_in hW f1 pn (show 2 * q < 60 by omega) (by omega) with z | ⟨w, d, -, -, -, z, -⟩
        · omega
        · omega
      · obtain ⟨b, rfl⟩ : ∃ b, p = 30 + b := ⟨p - 30, by omega⟩
        rw [show 30 + b - 30 = b by omega] at pn
        have mp : (30 + b) % 30 = b := by omega
        rw [nd_out, eq] at nxt rge npq
        rw [mp, mq]
        by_cases same : q = b
        · subst same
          have rs := R_self hW f1 qn
          have le1 : (if vb v fr to q then 1 else 0) ≤ 1 := by split <;> omega
          rw [if_pos rfl, if_pos (by rw [n_ltl (by omega)]; exact q30), ck_n (by omega), bM_e, t_n (by omega)]
          exact nxt _ (Sm.rf.uI (by simp)) (r1.up1 (k := 0) hW qn (by rw [adR_xy]; omega) fun x y a1 a2 => adR_ne a1 a2)
        · rcases R_out hW f1 pn (show 2 * q < 60 by omega) (by omega) with z | ⟨w, d, w1, d1, d2, z, hn, -⟩
          · omega
          · have : w = q := by omega
            subst this
            obtain ⟨u1, u2, u3, u4⟩ := R_way hW f1 pn ⟨d1, d2⟩ hn
            rw [if_neg (by rw [n_eq (by omega)]; exact same), if_neg (by rw [n_lle (by omega)]; omega), c_dir (by omega) hv hC1 pn ⟨d1, d2⟩ hn, bi_s, bi_s, n_mull, nI_add, show b * 5 + d = 5 * b + d by omega, ck_n (by omega), bM_e, t_n (by omega)]
            exact nxt _ (Sm.rf.uI (by simp)) (r1.up2 (k := 1) hW pn ⟨d1, d2⟩ hn (by rw [adR_yx npq]; omega) fun x y a1 a2 => adR_ne a1 a2)
    · -- out of q
      obtain ⟨b, rfl⟩ : ∃ b, q = 30 + b := ⟨q - 30, by omega⟩
      rw [show 30 + b - 30 = b by omega] at qn
      have mq : (30 + b) % 30 = b := by omega
      have eq := nd_out b
      rcases pV with ⟨p30, pn, -⟩ | ⟨p30, pn, -⟩
      · have mp : p % 30 = p := Nat.mod_eq_of_lt p30
        rw [nd_in p30, eq] at nxt rge npq
        rw [mp, mq]
        by_cases same : b = p
        · subst same
          have rs := R_self hW f1 qn
          have le1 : (if vb v fr to b then 1 else 0) ≤ 1 := by split <;> omega
          rw [if_pos rfl, if_neg (by rw [n_ltl (by omega)]; omega), ck_n (by omega), bM_e, t_n (by omega)]
          exact nxt _ (Sm.rf.uI (by simp)) (r1.up1 (k := 1) hW qn (by rw [adR_yx npq]; omega) fun x y a1 a2 => adR_ne a2 a1)
        · rcases R_in hW f1 pn (show 2 * b + 1 < 60 by omega) (by omega) with z | ⟨w, d, w1, d1, d2, z, hn, -, -⟩
          · omega
          · have : w = b := by omega
            subst this
            obtain ⟨u1, u2, u3, u4⟩ := R_way hW f1 qn ⟨d1, d2⟩ hn
            rw [if_neg (by rw [n_eq (by omega)]; exact same), if_pos (by rw [n_lle (by omega)]; omega), c_dir (by omega) hv hC1 qn ⟨d1, d2⟩ hn, bi_s, bi_s, n_mull, nI_add, show w * 5 + d = 5 * w + d by omega, ck_n (by omega), bM_e, t_n (by omega)]
            exact nxt _ (Sm.rf.uI (by simp)) (r1.up2 (k := 0) hW qn ⟨d1, d2⟩ hn (by rw [adR_xy]; omega) fun x y a1 a2 => adR_ne a2 a1)
      · exfalso
        obtain ⟨b', rfl⟩ : ∃ b, p = 30 + b := ⟨p - 30, by omega⟩
        rw [show 30 + b' - 30 = b' by omega] at pn
        rw [nd_out, eq] at rge
        rcases R_out hW f1 pn (show 2 * b + 1 < 60 by omega) (by omega) with z | ⟨w, d, -, -, -, z, -⟩
        · omega
        · omega
end W7
