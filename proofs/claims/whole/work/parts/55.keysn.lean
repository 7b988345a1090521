def KnO (G w : Nat) (f : Nat → Nat) (o : Option Nat) : Prop := (∃ i, o = some i ∧ i < G ∧ 0 < w ∧ f i = w ∧ ∀ j, j < i → f j ≠ w) ∨ (o = none ∧ ∀ i, i < G → ¬ (0 < w ∧ f i = w))
theorem KnO_one {G w : Nat} {f : Nat → Nat} {o o' : Option Nat} (h : KnO G w f o) (h' : KnO G w f o') : o = o' := by
  rcases h with ⟨i, rfl, a1, a2, a3, a4⟩ | ⟨rfl, a1⟩
  · rcases h' with ⟨j, rfl, b1, b2, b3, b4⟩ | ⟨rfl, b1⟩
    · have : i = j := by
        rcases Nat.lt_trichotomy i j with g | g | g
        · exact absurd a3 (b4 i g)
        · exact g
        · exact absurd b3 (a4 j g)
      rw [this]
    · exact absurd ⟨a2, a3⟩ (b1 i a1)
  · rcases h' with ⟨j, rfl, b1, b2, b3, b4⟩ | ⟨rfl, b1⟩
    · exact absurd ⟨b2, b3⟩ (a1 j b1)
    · rfl
section F5
variable {N : Nat} {C S M : Mem} {G : Nat} {cn : Nat → Nat → Bool}
theorem c_only {key : Nat} (hN : 300 < N) (hG : G ≤ 6) (hk : key < G) (h : KwR M G cn) : Ho (f_X1_onlyGate N (nI key) M) (fun q => q.2 = M ∧ ∃ o, KnO G (rwS G cn 0) (fun g => cyS G cn key g 0) o ∧ q.1 = oI o) := by
  have wl := rwS_le (cn := cn) hG 0
  unfold f_X1_onlyGate
  refine Ho_lp (fun i a M' => a = (nI key, nI i) ∧ M = M' ∧ ∀ j, j < i → cyS G cn key j 0 ≠ rwS G cn 0) G (by omega) ⟨rfl, rfl, fun j hj => absurd hj (Nat.not_lt_zero j)⟩ ?_
  rintro i hi k hk2 _ _ ⟨rfl, rfl, q⟩
  unfold f_X1_onlyGate_h2
  dsimp only
  rw [h.1.1, h.2.1]
  by_cases gi : G ≤ i
  · rw [if_pos (by rw [n_le (by omega)]; exact gi), Ho_some]
    exact ⟨rfl, none, Or.inr ⟨rfl, fun j hj z => q j (by omega) z.2⟩, rfl⟩
  · rw [if_neg (by rw [n_le (by omega)]; exact gi)]
    by_cases z : rwS G cn 0 ≤ 0
    · rw [if_pos (by rw [n_lel (by omega)]; exact z), Ho_some]
      exact ⟨rfl, none, Or.inr ⟨rfl, fun j hj y => by omega⟩, rfl⟩
    · have cl := cy_le (cn := cn) hG hk (show i < G by omega)
      rw [if_neg (by rw [n_lel (by omega)]; exact z), c_with hN hG hk (by omega) h, bi_s, h.2.1]
      by_cases e : cyS G cn key i 0 = rwS G cn 0
      · rw [if_pos (by rw [e]), Ho_some]
        exact ⟨rfl, some i, Or.inl ⟨i, rfl, by omega, by omega, e, q⟩, rfl⟩
      · rw [if_neg (by rw [n_eq (by omega)]; exact e), n_addl]
        refine hk2 (by omega) _ _ ⟨rfl, rfl, fun j hj => ?_⟩
        by_cases y : j = i
        · rw [y]; exact e
        · exact q j (by omega)
theorem e_known (hN : 300 < N) (h : Rel C S) (x y z : Int32) : Same (f_X11_known N x y z C) (f_X12_known N x y z S) := by
  unfold f_X11_known f_X12_known f_X11_refused f_X11_answeredIfAny f_X11_codeOfKey f_X12_whyNoKey
  simp only [bM_e]
  have hR1 : Re C (uI S 200 1 0) := h.re.s0 1 n_okM.2 0
  generalize uI S 200 1 0 = S at *
  obtain ⟨v, hv, h9, hC, hA, hn⟩ := hR1.get
  have v2 := hv.1.2.2.1
  obtain ⟨r, b, e1, eb, hbr, hc, hr⟩ := tries_is hN hv hC hA hR1.2.2.1 y z
  obtain ⟨bg, g1, g2, hg⟩ := gate_is (v := v) (by omega) hC.1.2.2.2.2.1 (hA 2 (by omega)) x
  simp only [e1, eb, bi_s, b2i_0, g1, g2]
  have rf : ∀ q : Int32, ¬ q = 0 → ¬ q ≤ 0 → Same (if q = 0 then bi (f_X1_onlyGate N x C) fun r_6 M_4 => bi (if r_6 = -1 then bi (some (-1, uI M_4 0 0 8)) fun r_6 M_4 => some (r_6, M_4) else bi (f_X11_answered r_6 M_4) fun r_3 M_1 => some (r_3, M_1)) fun r_9 M_7 => some (r_9, M_7) else bi (some (-1, uI C 0 0 q)) fun r_12 M_10 => some (r_12, M_10)) (if (uI S 200 0 q).1 200 0 ≤ 0 then bi (f_X12_waysBy N y z (uI S 200 0 q)) fun r_8 M_6 => lp (fun k a m => f_X12_known_h36 N k a.1 a.2.1 a.2.2 m) N (x, r_8, 0) M_6 else some (-1, uI S 200 0 q)) := fun q q1 q2 => by
    rw [if_neg q1, u_at, if_neg q2, bi_s]
    exact Same.mk (cl_ref hR1 _)
  cases b with
  | false =>
    have r1 := hbr.mp rfl
    subst r1
    rw [if_pos rfl, if_pos rfl, bi_s, bi_s]
    exact rf 1 (by decide) (by decide)
  | true =>
    have rn : ¬ r = 1 := fun q => by have := hbr.mpr q; cases this
    rw [if_neg (by decide), if_neg rn]
    cases bg with
    | false =>
      rw [if_pos rfl, if_pos rfl, bi_s, bi_s]
      exact rf 2 (by decide) (by decide)
    | true =>
      obtain ⟨key, hkey, rfl⟩ := hg rfl
      rw [if_neg (by decide), if_neg (by decide), if_neg (by decide), bi_s, u_at]
      obtain ⟨⟨r', C1⟩, e2, er, s1, h0⟩ := hc
      dsimp only at er s1 h0
      subst er
      rw [e2, bi_s, bi_s]
      by_cases zr : r' = 0
      · subst zr
        obtain ⟨t, m, ht, hm, rfl, rfl, hT, kw⟩ := h0 rfl
        have hR := hR1.s0 0 n_okM.1 0
        have hs := u_at S 200 0 0
        have hA' : Ar (uI S 200 0 0) 205 435 v := hA.oth (by decide)
        have hL : (uI S 200 0 0).2 = S.2 := rfl
        generalize uI S 200 0 0 = S' at *
        rw [if_pos rfl, if_pos (by decide)]
        obtain ⟨⟨r2, S2⟩, e3, a1, a2, a3⟩ := m_waysBy hN hv hA' ht hm (by rw [hL]; exact hT)
        dsimp only at a1 a2 a3
        rw [hL] at a1 a3
        rw [e3, bi_s, a1]
        generalize cnT (fun i => uT (S.2 203 (60 * t + i))) m = cn at *
        have wl := rwS_le (cn := cn) v2 0
        have A2 : S2.1 205 2 = nI (v 2) := by rw [a2.2 205 (by simp)]; exact hA' 2 (by omega)
        refine Same.two (P := fun q => ∃ o, KnO (v 2) (rwS (v 2) cn 0) (fun g => cyS (v 2) cn key g 0) o ∧ ((o = none ∧ q.1 = -1 ∧ q.2 = uI C1 0 0 8) ∨ (∃ i, o = some i ∧ q.1 = nI i ∧ q.2 = uI C1 0 0 0))) (P' := fun q => ∃ o, KnO (v 2) (rwS (v 2) cn 0) (fun g => cyS (v 2) cn key g 0) o ∧ ((o = none ∧ q.1 = -1 ∧ q.2 = uI S2 200 0 8) ∨ (∃ i, o = some i ∧ q.1 = nI i ∧ q.2 = S2))) ?_ ?_ ?_
        · rw [Ho_bi]
          refine Ho_mono (c_only hN v2 hkey kw) ?_
          rintro ⟨rr, C2⟩ ⟨ec, o, ho, eo⟩
          dsimp only at ec eo ⊢
          subst ec
          subst eo
          cases o with
          | none =>
            unfold f_X11_refused
            rw [if_pos (show oI none = -1 from rfl), bM_e, bi_s, bi_s, Ho_some]
            exact ⟨none, ho, Or.inl ⟨rfl, rfl, rfl⟩⟩
          | some i =>
            have hi : i < v 2 := by
              rcases ho with ⟨j, e, h1, -⟩ | ⟨e, -⟩
              · rw [Option.some.inj e]; exact h1
              · cases e
            rw [show oI (some i) = nI i from rfl, if_neg (show ¬ nI i = -1 by rw [n_m1l (by omega)]; exact id)]
            unfold f_X11_answered
            rw [bM_e, bi_s, bi_s, Ho_some]
            exact ⟨some i, ho, Or.inr ⟨i, rfl, rfl, rfl⟩⟩
        · refine Ho_lp (fun i a S' => a = (nI key, nI (rwS (v 2) cn 0), nI i) ∧ S2 = S' ∧ ∀ j, j < i → ¬ (0 < rwS (v 2) cn 0 ∧ cyS (v 2) cn key j 0 = rwS (v 2) cn 0)) (v 2) (by omega) ⟨rfl, rfl, fun j hj => absurd hj (Nat.not_lt_zero j)⟩ ?_
          rintro i hi k hk _ _ ⟨rfl, rfl, q⟩
          unfold f_X12_known_h36 f_X12_known_b72 f_X12_refuse
          dsimp only
          rw [ck_l (by omega), show tn 2 = 2 from rfl, A2]
          by_cases gi : v 2 ≤ i
          · rw [if_pos (by rw [n_le (by omega)]; exact gi), bM_e, bi_s, Ho_some]
            exact ⟨none, Or.inr ⟨rfl, fun j hj => q j (by omega)⟩, Or.inl ⟨rfl, rfl, rfl⟩⟩
          · rw [if_neg (by rw [n_le (by omega)]; exact gi), n_addl]
            have next : ¬ (0 < rwS (v 2) cn 0 ∧ cyS (v 2) cn key i 0 = rwS (v 2) cn 0) → Ho (k (nI key, nI (rwS (v 2) cn 0), nI (i + 1)) S2) _ := fun hh => hk (by omega) _ _ ⟨rfl, rfl, fun j hj => by
              by_cases e : j = i
              · rw [e]; exact hh
              · exact q j (by omega)⟩
            by_cases zz : rwS (v 2) cn 0 ≤ 0
            · rw [if_pos (by rw [n_lel (by omega)]; exact zz)]
              exact next (by omega)
            · have cl := cy_le (cn := cn) v2 hkey (show i < v 2 by omega)
              rw [if_neg (by rw [n_lel (by omega)]; exact zz), n_lmul, nI_add, ck_n (by omega), t_n (by omega), a3 key i hkey (by omega)]
              by_cases e : cyS (v 2) cn key i 0 = rwS (v 2) cn 0
              · rw [if_pos (by rw [e]), Ho_some]
                exact ⟨some i, Or.inl ⟨i, rfl, by omega, by omega, e, fun j hj y => q j hj ⟨by omega, y⟩⟩, Or.inr ⟨i, rfl, rfl, rfl⟩⟩
              · rw [if_neg (by rw [n_eq (by omega)]; exact e)]
                exact next (fun y => e y.2)
        · rintro rr C' rr' S'' ⟨o, ho, d⟩ ⟨o', ho', d'⟩
          have eo := KnO_one ho ho'
          subst eo
          dsimp only at d d'
          rcases d with ⟨f1, f2, f3⟩ | ⟨i, f1, f2, f3⟩
          · rcases d' with ⟨f1', f2', f3'⟩ | ⟨i', f1', -⟩
            · rw [f2, f2', f3, f3']
              exact ⟨rfl, cl_forR hR s1 scrK a2 scrW 8⟩
            · rw [f1] at f1'; cases f1'
          · rcases d' with ⟨f1', -⟩ | ⟨i', f1', f2', f3'⟩
            · rw [f1] at f1'; cases f1'
            · rw [f1] at f1'
              have := Option.some.inj f1'
              subst this
              rw [f2, f2', f3, f3']
              exact ⟨rfl, cl_for hR hs s1 scrK a2 scrW⟩
      · rw [if_neg zr, if_neg (by rcases hr with rfl | rfl | rfl | rfl | rfl; exact absurd rfl zr; all_goals decide)]
        exact Same.mk (cl_forR hR1 s1 scrK (Sm.rf (L := [])) scrE _)
theorem e_chance (hN : 300 < N) (h : Rel C S) (x w y z : Int32) : Same (f_X11_chance N x w y z C) (f_X12_chance N x w y z S) := by
  unfold f_X11_chance f_X12_chance f_X11_refusedFlag f_X11_granted f_X11_codeOfKey f_X12_whyNoKey f_X12_chance_b38 f_X12_no
  simp only [bM_e]
  have hR1 : Re C (uI S 200 1 0) := h.re.s0 1 n_okM.2 0
  generalize uI S 200 1 0 = S at *
  obtain ⟨v, hv, h9, hC, hA, hn⟩ := hR1.get
  have v2 := hv.1.2.2.1
  obtain ⟨r, b, e1, eb, hbr, hc, hr⟩ := tries_is hN hv hC hA hR1.2.2.1 y z
  obtain ⟨bg, g1, g2, hg⟩ := gate_is (v := v) (by omega) hC.1.2.2.2.2.1 (hA 2 (by omega)) x
  have hA0 : ∀ q, (uI S 200 0 q).1 205 2 = nI (v 2) := fun q => by rw [u_ne (by decide)]; exact hA 2 (by omega)
  have hwg : ∃ b', f_X5_isGate 10 w C = some (b', C) ∧ (∀ q, f_X12_isGateAt w (uI S 200 0 q) = some (b', uI S 200 0 q)) ∧ (b' = true → ∃ g, g < v 2 ∧ w = nI g) := by
    obtain ⟨b', i1, i2, i3⟩ := gate_is (v := v) (S := uI S 200 0 0) (by omega) hC.1.2.2.2.2.1 (hA0 0) w
    refine ⟨b', i1, fun q => ?_, i3⟩
    obtain ⟨b2, j1, j2, -⟩ := gate_is (v := v) (S := uI S 200 0 q) (by omega) hC.1.2.2.2.2.1 (hA0 q) w
    rw [i1] at j1
    have : b' = b2 := by cases j1; rfl
    rw [this]; exact j2
  obtain ⟨bw, w1, w2, hw⟩ := hwg
  simp only [e1, eb, bi_s, b2i_0, g1, g2, w1, w2, u_at]
  have u2 : ∀ (a b : Int32), uI (uI S 200 0 a) 200 0 b = uI S 200 0 b := fun a b => by
    have key : ∀ c, (uI (uI S 200 0 a) 200 0 b).1 c = (uI S 200 0 b).1 c := fun c => by
      by_cases e : c = 200
      · subst e
        rw [us_same, us_same, us_same, fa_upd_twice]
      · rw [u_ne e, u_ne e, u_ne e]
    exact Prod.ext (funext key) rfl
  cases b with
  | false =>
    have r1 := hbr.mp rfl
    subst r1
    simp only [if_true, bi_s, u_at]
    rw [if_neg (by decide), if_neg (by decide)]
    exact Same.mk (cl_ref hR1 _)
  | true =>
    have rn : ¬ r = 1 := fun q => by have := hbr.mpr q; cases this
    cases bg with
    | false =>
      simp only [if_neg rn, if_true, Bool.true_eq_false, if_false, bi_s, u_at]
      rw [if_neg (by decide), if_neg (by decide), w2, bi_s]
      cases bw with
      | false =>
        simp only [if_true, u_at, u2]
        rw [if_neg (by decide)]
        exact Same.mk (cl_ref hR1 _)
      | true =>
        simp only [Bool.true_eq_false, if_false, u_at]
        rw [if_neg (by decide)]
        exact Same.mk (cl_ref hR1 _)
    | true =>
      obtain ⟨key, hkey, rfl⟩ := hg rfl
      simp only [if_neg rn, Bool.true_eq_false, if_false, bi_s, u_at]
      rw [w2, bi_s]
      cases bw with
      | false =>
        simp only [if_true, bi_s, u_at, u2]
        rw [if_neg (by decide), if_neg (by decide)]
        exact Same.mk (cl_ref hR1 _)
      | true =>
        obtain ⟨gg, hgg, rfl⟩ := hw rfl
        simp only [Bool.true_eq_false, if_false, u_at]
        obtain ⟨⟨r', C1⟩, e2, er, s1, h0⟩ := hc
        dsimp only at er s1 h0
        subst er
        simp only [e2, bi_s]
        by_cases zr : r' = 0
        · subst zr
          obtain ⟨t, m, ht, hm, rfl, rfl, hT, kw⟩ := h0 rfl
          have hR := hR1.s0 0 n_okM.1 0
          have hs := u_at S 200 0 0
          have hA' : Ar (uI S 200 0 0) 205 435 v := hA.oth (by decide)
          have hL : (uI S 200 0 0).2 = S.2 := rfl
          generalize uI S 200 0 0 = S' at *
          rw [if_pos rfl, if_pos (show (0 : Int32) ≤ 0 by decide)]
          obtain ⟨⟨r2, S2⟩, e3, a1, a2, a3⟩ := m_waysBy hN hv hA' ht hm (by rw [hL]; exact hT)
          dsimp only at a1 a2 a3
          rw [hL] at a1 a3
          rw [e3, bi_s, a1, kw.2.1]
          generalize cnT (fun i => uT (S.2 203 (60 * t + i))) m = cn at *
          have wl := rwS_le (cn := cn) v2 0
          have cl := cy_le (cn := cn) v2 hkey hgg
          by_cases z0 : rwS (v 2) cn 0 = 0
          · rw [z0, if_pos (show nI 0 = 0 from rfl), if_pos (show nI 0 = 0 from rfl)]
            exact Same.mk (cl_forR hR s1 scrK a2 scrW 8)
          · rw [if_neg (by rw [n_eql (by omega)]; exact z0), if_neg (by rw [n_eql (by omega)]; exact z0), c_with hN v2 hkey hgg kw, bi_s, kw.2.1, n_lmul, nI_add, ck_n (by omega), t_n (by omega), a3 key gg hkey hgg, nI_l (by omega), nI_l (by omega)]
            obtain ⟨p, q, f1, f2⟩ := fr_one (N := N) (C := C1) (S := S2) (t := cyS (v 2) cn key gg 0) (b := rwS (v 2) cn 0) (by omega) (by omega) (by omega)
            rw [f1, f2, bv_s, bi_s]
            have hs2 : S2.1 200 0 = 0 := by rw [a2.2 200 (by simp)]; exact hs
            exact Same.mk (cl_fr (hR.scr s1 scrK a2 scrW) hs2 p q)
        · rw [if_neg zr, if_neg (by rcases hr with rfl | rfl | rfl | rfl | rfl; exact absurd rfl zr; all_goals decide)]
          exact Same.mk (cl_forR hR1 s1 scrK (Sm.rf (L := [])) scrE _)
theorem e_next (hN : 300 < N) (h : Rel C S) (x y : Int32) : Same (f_X11_next N x y C) (f_X12_next N x y S) := by
  unfold f_X11_next f_X12_next f_X11_refused f_X11_answeredIfAny f_X12_refuse
  simp only [bM_e]
  have hR1 : Re C (uI S 200 1 0) := h.re.s0 1 n_okM.2 0
  generalize uI S 200 1 0 = S at *
  obtain ⟨v, hv, h9, hC, hA, hn⟩ := hR1.get
  have v2 := hv.1.2.2.1
  obtain ⟨r, b, e1, -, -, hc, hr⟩ := tries_is hN hv hC hA hR1.2.2.1 x y
  rw [e1, bi_s, u_at]
  obtain ⟨⟨r', C1⟩, e2, er, s1, h0⟩ := hc
  dsimp only at er s1 h0
  subst er
  rw [e2, bi_s]
  by_cases zr : r' = 0
  · subst zr
    obtain ⟨t, m, ht, hm, rfl, rfl, hT, kw⟩ := h0 rfl
    have hR := hR1.s0 0 n_okM.1 0
    have hs := u_at S 200 0 0
    have hA' : Ar (uI S 200 0 0) 205 435 v := hA.oth (by decide)
    have hL : (uI S 200 0 0).2 = S.2 := rfl
    generalize uI S 200 0 0 = S' at *
    rw [if_pos rfl, if_pos (by decide)]
    obtain ⟨⟨r2, S2⟩, e3, a1, a2, a3⟩ := m_waysBy hN hv hA' ht hm (by rw [hL]; exact hT)
    dsimp only at a1 a2 a3
    rw [hL] at a1 a3
    rw [e3, bi_s, a1]
    generalize cnT (fun i => uT (S.2 203 (60 * t + i))) m = cn at *
    have wl := rwS_le (cn := cn) v2 0
    have A2 : S2.1 205 2 = nI (v 2) := by rw [a2.2 205 (by simp)]; exact hA' 2 (by omega)
    unfold f_X1_bestTry
    rw [kw.2.1]
    by_cases g2 : 2 ≤ rwS (v 2) cn 0
    · rw [if_pos (show (2 : Int32) ≤ nI (rwS (v 2) cn 0) by rw [n_lle (by omega)]; exact g2), if_pos (show (2 : Int32) ≤ nI (rwS (v 2) cn 0) by rw [n_lle (by omega)]; exact g2), n_addl]
      -- there is a gate
      have G1 : 0 < v 2 := by
        rcases Nat.eq_zero_or_pos (v 2) with z | z
        · rw [z] at g2
          exact absurd g2 (by show ¬ 2 ≤ 1; decide)
        · exact z
      have key : ∃ bb, bb < 60 ∧ lp (fun k a m => f_X1_bestTry_h21 N k a.1 a.2.1 a.2.2 m) N ((-1 : Int32), nI (rwS (v 2) cn 0 + 1), (0 : Int32)) C1 = some (nI bb, C1) ∧ lp (fun k a m => f_X12_next_h52 N k a.1 a.2.1 a.2.2.1 a.2.2.2 m) N (nI (rwS (v 2) cn 0), (-1 : Int32), (0 : Int32), (0 : Int32)) S2 = some (nI bb, S2) := by
        refine lq2 (R := fun o o' => ∃ bb, bb < 60 ∧ o = some (nI bb, C1) ∧ o' = some (nI bb, S2)) (fun i a M a' M' => C1 = M ∧ S2 = M' ∧ ((i = 0 ∧ a = (-1, nI (rwS (v 2) cn 0 + 1), nI i) ∧ a' = (nI (rwS (v 2) cn 0), -1, 0, nI i)) ∨ ∃ bb l, bb < 60 ∧ l ≤ rwS (v 2) cn 0 ∧ a = (nI bb, nI l, nI i) ∧ a' = (nI (rwS (v 2) cn 0), nI bb, nI l, nI i))) (v 2) (by omega) (by omega) ⟨rfl, rfl, Or.inl ⟨rfl, rfl, rfl⟩⟩ ?_
        rintro i hi k k' hk a M a' M' ⟨rfl, rfl, st⟩
        have go : ∀ (bA bL bA' bL' : Int32), ((i = 0 ∧ bA = -1 ∧ bL = nI (rwS (v 2) cn 0 + 1) ∧ bA' = -1 ∧ bL' = 0) ∨ ∃ bb l, bb < 60 ∧ l ≤ rwS (v 2) cn 0 ∧ bA = nI bb ∧ bL = nI l ∧ bA' = nI bb ∧ bL' = nI l) → ∃ bb, bb < 60 ∧ f_X1_bestTry_h21 N k bA bL (nI i) C1 = some (nI bb, C1) ∧ f_X12_next_h52 N k' (nI (rwS (v 2) cn 0)) bA' bL' (nI i) S2 = some (nI bb, S2) := fun bA bL bA' bL' hst => by
          unfold f_X1_bestTry_h21 f_X12_next_h52
          rw [kw.1.1, ck_l (by omega), show tn 2 = 2 from rfl, A2]
          by_cases gi : v 2 ≤ i
          · rw [if_pos (show nI (v 2) ≤ nI i by rw [n_le (by omega)]; exact gi), if_pos (show nI (v 2) ≤ nI i by rw [n_le (by omega)]; exact gi)]
            rcases hst with ⟨h0, -⟩ | ⟨bb, l, h1, h2, rfl, rfl, rfl, rfl⟩
            · omega
            · exact ⟨bb, h1, rfl, rfl⟩
          · rw [if_neg (show ¬ nI (v 2) ≤ nI i by rw [n_le (by omega)]; exact gi), if_neg (show ¬ nI (v 2) ≤ nI i by rw [n_le (by omega)]; exact gi)]
            refine lq2 (R := fun o o' => ∃ bb, bb < 60 ∧ o = some (nI bb, C1) ∧ o' = some (nI bb, S2)) (fun j a M a' M' => C1 = M ∧ S2 = M' ∧ ((i = 0 ∧ j = 0 ∧ a = (-1, nI (rwS (v 2) cn 0 + 1), nI i, nI j) ∧ a' = (nI (rwS (v 2) cn 0), -1, 0, nI i, nI j)) ∨ ∃ bb l, bb < 60 ∧ l ≤ rwS (v 2) cn 0 ∧ a = (nI bb, nI l, nI i, nI j) ∧ a' = (nI (rwS (v 2) cn 0), nI bb, nI l, nI i, nI j))) (v 2) (by omega) (by omega) ⟨rfl, rfl, ?_⟩ ?_
            · rcases hst with ⟨h0, rfl, rfl, rfl, rfl⟩ | ⟨bb, l, h1, h2, rfl, rfl, rfl, rfl⟩
              · exact Or.inl ⟨h0, rfl, rfl, rfl⟩
              · exact Or.inr ⟨bb, l, h1, h2, rfl, rfl⟩
            rintro j hj q q' hq a M a' M' ⟨rfl, rfl, st2⟩
            have go2 : ∀ (bA bL bA' bL' : Int32), ((i = 0 ∧ j = 0 ∧ bA = -1 ∧ bL = nI (rwS (v 2) cn 0 + 1) ∧ bA' = -1 ∧ bL' = 0) ∨ ∃ bb l, bb < 60 ∧ l ≤ rwS (v 2) cn 0 ∧ bA = nI bb ∧ bL = nI l ∧ bA' = nI bb ∧ bL' = nI l) → ∃ bb, bb < 60 ∧ f_X1_bestTry_h32 N k q bA bL (nI i) (nI j) C1 = some (nI bb, C1) ∧ f_X12_next_h66 N k' q' (nI (rwS (v 2) cn 0)) bA' bL' (nI i) (nI j) S2 = some (nI bb, S2) := fun bA bL bA' bL' hst2 => by
              unfold f_X1_bestTry_h32 f_X12_next_h66 f_X1_bestTry_b81 f_X12_next_b125 f_X12_next_b139
              rw [kw.1.1, ck_l (by omega), show tn 2 = 2 from rfl, A2]
              by_cases gj : v 2 ≤ j
              · rw [if_pos (show nI (v 2) ≤ nI j by rw [n_le (by omega)]; exact gj), if_pos (show nI (v 2) ≤ nI j by rw [n_le (by omega)]; exact gj), n_addl]
                rcases hst2 with ⟨-, h0, -⟩ | ⟨bb, l, h1, h2, rfl, rfl, rfl, rfl⟩
                · omega
                · exact hk (by omega) _ _ _ _ ⟨rfl, rfl, Or.inr ⟨bb, l, h1, h2, rfl, rfl⟩⟩
              · have cl := cy_le (cn := cn) v2 (show i < v 2 by omega) (show j < v 2 by omega)
                rw [if_neg (show ¬ nI (v 2) ≤ nI j by rw [n_le (by omega)]; exact gj), if_neg (show ¬ nI (v 2) ≤ nI j by rw [n_le (by omega)]; exact gj), c_with hN v2 (by omega) (by omega) kw, bi_s, kw.2.1, n_lmul, nI_add, ck_n (by omega), ck_n (by omega), t_n (by omega), a3 i j (by omega) (by omega), n_sub cl, n_max (by omega), bI_e, bI_e, n_addl, n_mull, nI_add, n_lmul, nI_add]
                have e10 : i * 10 + j = 10 * i + j := by omega
                rw [e10]
                have ml : max (cyS (v 2) cn i j 0) (rwS (v 2) cn 0 - cyS (v 2) cn i j 0) ≤ rwS (v 2) cn 0 := by omega
                rcases hst2 with ⟨-, -, rfl, rfl, rfl, rfl⟩ | ⟨bb, l, h1, h2, rfl, rfl, rfl, rfl⟩
                · rw [if_neg (by rw [n_le (by omega)]; omega), if_pos (show (-1 : Int32) < 0 by decide)]
                  exact hq (by omega) _ _ _ _ ⟨rfl, rfl, Or.inr ⟨10 * i + j, _, by omega, ml, rfl, rfl⟩⟩
                · rw [if_neg (nI_pos (n := bb) (by omega))]
                  by_cases gl : l ≤ max (cyS (v 2) cn i j 0) (rwS (v 2) cn 0 - cyS (v 2) cn i j 0)
                  · rw [if_pos (by rw [n_le (by omega)]; exact gl), if_neg (by rw [n_lt (by omega)]; omega)]
                    exact hq (by omega) _ _ _ _ ⟨rfl, rfl, Or.inr ⟨bb, l, h1, h2, rfl, rfl⟩⟩
                  · rw [if_neg (by rw [n_le (by omega)]; exact gl), if_pos (by rw [n_lt (by omega)]; omega)]
                    exact hq (by omega) _ _ _ _ ⟨rfl, rfl, Or.inr ⟨10 * i + j, _, by omega, ml, rfl, rfl⟩⟩
            rcases st2 with ⟨h0, h0', rfl, rfl⟩ | ⟨bb, l, h1, h2, rfl, rfl⟩
            · exact go2 _ _ _ _ (Or.inl ⟨h0, h0', rfl, rfl, rfl, rfl⟩)
            · exact go2 _ _ _ _ (Or.inr ⟨bb, l, h1, h2, rfl, rfl, rfl, rfl⟩)
        rcases st with ⟨h0, rfl, rfl⟩ | ⟨bb, l, h1, h2, rfl, rfl⟩
        · exact go _ _ _ _ (Or.inl ⟨h0, rfl, rfl, rfl, rfl⟩)
        · exact go _ _ _ _ (Or.inr ⟨bb, l, h1, h2, rfl, rfl, rfl, rfl⟩)
      obtain ⟨bb, hbb, k1, k2⟩ := key
      rw [k1, k2, bi_s, if_neg (show ¬ nI bb = -1 by rw [n_m1l (by omega)]; exact id)]
      unfold f_X11_answered
      rw [bM_e, bi_s, bi_s]
      exact Same.mk (cl_for hR hs s1 scrK a2 scrW)
    · rw [if_neg (show ¬ (2 : Int32) ≤ nI (rwS (v 2) cn 0) by rw [n_lle (by omega)]; exact g2), if_neg (show ¬ (2 : Int32) ≤ nI (rwS (v 2) cn 0) by rw [n_lle (by omega)]; exact g2), bi_s, if_pos rfl]
      unfold f_X11_refused
      rw [bM_e, bi_s, bi_s]
      exact Same.mk (cl_forR hR s1 scrK a2 scrW 8)
  · rw [if_neg zr, if_neg (by rcases hr with rfl | rfl | rfl | rfl | rfl; exact absurd rfl zr; all_goals decide), bi_s]
    exact Same.mk (cl_forR hR1 s1 scrK (Sm.rf (L := [])) scrE _)
end F5
