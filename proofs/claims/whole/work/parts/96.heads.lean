section Q17
variable {N n lo x z d : Nat} {A Z A' Z' C S C0 S0 : Mem} {B : Nat → Nat} {v : Nat → Nat}
/-- a step's kind (model), sort (class) -/
def KS2 (κ σ : Nat) : Prop := (κ = 0 ∧ σ = 1) ∨ (κ = 1 ∧ σ = 2) ∨ (κ = 2 ∧ σ = 3) ∨ (κ = 3 ∧ σ = 4) ∨ (κ = 4 ∧ σ = 5) ∨ (κ = 5 ∧ σ = 8) ∨ (κ = 6 ∧ σ = 7) ∨ (κ = 7 ∧ σ = 6)
theorem c_sort (hN : 1000 < N) (st : St n B lo A Z C S) : (∃ κ σ, KS2 κ σ ∧ f_X4_sortOfWord N C = some (nI σ, C) ∧ f_X12_stepWord S = some (nI κ, S) ∧ C.1 82 2 = nI 1) ∨ (f_X4_sortOfWord N C = some (-1, C) ∧ f_X12_stepWord S = some (-1, S)) := by
  have cw : ∀ z, z < 32 → z ≠ 3 → f_X8_isWord N z C = some (qW z S, C) := fun z hz h3 => c_word hN hz (wG_at hz h3) st.tx st.tk
  unfold f_X4_sortOfWord
  rw [m_step]
  unfold swM
  rw [cw 22 (by decide) (by decide), bi_s]
  cases h22 : qW 22 S with
  | true => exact Or.inl ⟨0, 1, Or.inl ⟨rfl, rfl⟩, by rw [if_neg (by decide)]; rfl, rfl, st.q1 h22⟩
  | false =>
    rw [if_pos b2i_f, cw 23 (by decide) (by decide), bi_s, q_23]
    cases h7 : qW 7 S with
    | true => exact Or.inl ⟨1, 2, Or.inr (Or.inl ⟨rfl, rfl⟩), by rw [if_neg (by decide)]; rfl, rfl, st.q1 h7⟩
    | false =>
      rw [if_pos b2i_f, cw 24 (by decide) (by decide), bi_s]
      cases h24 : qW 24 S with
      | true => exact Or.inl ⟨2, 3, Or.inr (Or.inr (Or.inl ⟨rfl, rfl⟩)), by rw [if_neg (by decide)]; rfl, rfl, st.q1 h24⟩
      | false =>
        rw [if_pos b2i_f, cw 25 (by decide) (by decide), bi_s, q_25]
        cases h18 : qW 18 S with
        | true => exact Or.inl ⟨3, 4, Or.inr (Or.inr (Or.inr (Or.inl ⟨rfl, rfl⟩))), by rw [if_neg (by decide)]; rfl, rfl, st.q1 h18⟩
        | false =>
          rw [if_pos b2i_f, cw 26 (by decide) (by decide), bi_s]
          cases h26 : qW 26 S with
          | true => exact Or.inl ⟨4, 5, Or.inr (Or.inr (Or.inr (Or.inr (Or.inl ⟨rfl, rfl⟩)))), by rw [if_neg (by decide)]; rfl, rfl, st.q1 h26⟩
          | false =>
            rw [if_pos b2i_f, cw 27 (by decide) (by decide), bi_s]
            cases h27 : qW 27 S with
            | true => exact Or.inl ⟨5, 8, Or.inr (Or.inr (Or.inr (Or.inr (Or.inr (Or.inl ⟨rfl, rfl⟩))))), by rw [if_neg (by decide)]; rfl, rfl, st.q1 h27⟩
            | false =>
              rw [if_pos b2i_f, cw 28 (by decide) (by decide), bi_s]
              cases h28 : qW 28 S with
              | true => exact Or.inl ⟨6, 7, Or.inr (Or.inr (Or.inr (Or.inr (Or.inr (Or.inr (Or.inl ⟨rfl, rfl⟩)))))), by rw [if_neg (by decide)]; rfl, rfl, st.q1 h28⟩
              | false =>
                rw [if_pos b2i_f, cw 29 (by decide) (by decide), bi_s]
                cases h29 : qW 29 S with
                | true => exact Or.inl ⟨7, 6, Or.inr (Or.inr (Or.inr (Or.inr (Or.inr (Or.inr (Or.inr ⟨rfl, rfl⟩)))))), by rw [if_neg (by decide)]; rfl, rfl, st.q1 h29⟩
                | false => exact Or.inr ⟨by rw [if_pos b2i_f], rfl⟩
theorem U_at {j m y : Nat} (hj : 165 ≤ j) (hm : m = 1740 + j) (hy : y < 2147483648) : U v (uI Z 205 m (nI y)) j = y := U_hi hj hy (by rw [hm, u_at])
theorem U_ne {j m : Nat} {y : Int32} (hm : m ≠ 1740 + j) : U v (uI Z 205 m y) j = U v Z j := U_same (by rw [us_same, g_upd, if_neg (by omega)])
/-- what a step's word wants -/
theorem r_rest {κ σ : Nat} (hN : 1000 < N) (ks : KS2 κ σ) (st : St n B lo A Z C S) (hz : z < 60) (hx : x < 30) (sz : A.1 76 1 = nI z) (np : NPt v A Z) (k5 : Z.1 205 (1905 + 9 * x) = nI κ) (s8 : A.1 77 z = nI σ) : Rst n B lo v x z A Z (if nI σ = 8 then f_X4_readTest N 76 10 C else f_X4_readRest N 76 10 (nI σ) C) (f_X12_readRest N (nI (1905 + 9 * x)) S) := by
  have k5' : S.1 205 (1905 + 9 * x) = nI κ := by rw [st.s (by decide)]; exact k5
  have u0 : κ < 8 → U v Z (165 + 9 * x) = κ := fun h => U_hi (by omega) (by omega) (by rw [show 1740 + (165 + 9 * x) = 1905 + 9 * x by omega]; exact k5)
  have s77 : ∀ k y, (uI A 78 k y).1 (76 + 1) z = nI σ := fun k y => by rw [u_ne (by decide)]; exact s8
  unfold f_X12_readRest
  rw [ck_n (by omega), t_n (by omega), k5']
  have nothing : (κ = 4 ∧ σ = 5) ∨ (κ = 7 ∧ σ = 6) → Rst n B lo v x z A Z (some (true, C)) (some S) := fun h => by
    refine ⟨true, C, S, rfl, rfl, Or.inl ⟨rfl, A, Z, st, FA.rf, FZ.rf, ?_⟩⟩
    unfold StOK
    rcases h with ⟨rfl, rfl⟩ | ⟨rfl, rfl⟩
    · rw [u0 (by decide)]
      exact Or.inr (Or.inr (Or.inr (Or.inr (Or.inl ⟨rfl, s8⟩))))
    · rw [u0 (by decide)]
      exact Or.inr (Or.inr (Or.inr (Or.inr (Or.inr (Or.inl ⟨rfl, s8⟩)))))
  rcases ks with ⟨rfl, rfl⟩ | ⟨rfl, rfl⟩ | ⟨rfl, rfl⟩ | ⟨rfl, rfl⟩ | ⟨rfl, rfl⟩ | ⟨rfl, rfl⟩ | ⟨rfl, rfl⟩ | ⟨rfl, rfl⟩
  · rw [if_neg (by decide), if_pos (show nI 0 = 0 from rfl)]
    unfold f_X4_readRest
    rw [if_pos (show nI 1 = 1 from rfl), bis_id]
    refine r_num (L := 1) (H := 24) hN st hz hx sz (by omega) fun r r1 r2 r3 => ?_
    unfold StOK
    rw [U_at (j := 166 + 9 * x) (by omega) (by omega) (by omega), U_ne (j := 165 + 9 * x) (by omega), u0 (by decide)]
    exact Or.inl ⟨rfl, s77 _ _, u_at _ _ _ _, r1, r2⟩
  · rw [if_neg (by decide), if_neg (by decide), if_neg (by decide), if_neg (by decide), if_neg (by decide), if_pos (show nI 1 = 1 from rfl)]
    unfold f_X4_readRest f_X12_readRest_b98
    rw [if_neg (by decide), if_pos (show nI 2 = 2 from rfl), bis_id]
    refine r_gate hN st hz hx sz np fun r hr => ?_
    have := np.2.2.1
    unfold StOK
    rw [U_at (j := 166 + 9 * x) (by omega) (by omega) (by omega), U_ne (j := 165 + 9 * x) (by omega), u0 (by decide), U_lo (by omega)]
    exact Or.inr (Or.inl ⟨rfl, s77 _ _, u_at _ _ _ _, hr⟩)
  · rw [if_neg (by decide), if_neg (by decide), if_neg (by decide), if_neg (by decide), if_neg (by decide), if_neg (by decide), if_pos (show nI 2 = 2 from rfl)]
    unfold f_X4_readRest f_X12_readRest_b98
    rw [if_neg (by decide), if_neg (by decide), if_pos (show nI 3 = 3 from rfl), bis_id]
    refine r_gate hN st hz hx sz np fun r hr => ?_
    have := np.2.2.1
    unfold StOK
    rw [U_at (j := 166 + 9 * x) (by omega) (by omega) (by omega), U_ne (j := 165 + 9 * x) (by omega), u0 (by decide), U_lo (by omega)]
    exact Or.inr (Or.inr (Or.inl ⟨rfl, s77 _ _, u_at _ _ _ _, hr⟩))
  · rw [if_neg (by decide), if_neg (by decide), if_pos (show nI 3 = 3 from rfl)]
    unfold f_X4_readRest
    rw [if_neg (by decide), if_neg (by decide), if_neg (by decide), if_pos (show nI 4 = 4 from rfl), bis_id]
    refine r_num (L := 0) (H := 4) hN st hz hx sz (by omega) fun r r1 r2 r3 => ?_
    unfold StOK
    rw [U_at (j := 166 + 9 * x) (by omega) (by omega) (by omega), U_ne (j := 165 + 9 * x) (by omega), u0 (by decide)]
    exact Or.inr (Or.inr (Or.inr (Or.inl ⟨rfl, s77 _ _, u_at _ _ _ _, r2⟩)))
  · rw [if_neg (by decide), if_neg (by decide), if_neg (by decide), if_neg (by decide), if_neg (by decide), if_neg (by decide), if_neg (by decide)]
    unfold f_X4_readRest
    rw [if_neg (by decide), if_neg (by decide), if_neg (by decide), if_neg (by decide), if_pos (show nI 5 = 5 from rfl)]
    exact nothing (Or.inl ⟨rfl, rfl⟩)
  · rw [if_pos (show nI 8 = 8 from rfl), if_neg (by decide), if_neg (by decide), if_neg (by decide), if_pos (show nI 5 = 5 from rfl), bv_id]
    exact r_test hN st hz hx sz np k5 s8
  · rw [if_neg (by decide), if_neg (by decide), if_neg (by decide), if_pos (show nI 6 = 6 from rfl)]
    unfold f_X4_readRest
    rw [if_neg (by decide), if_neg (by decide), if_neg (by decide), if_neg (by decide), if_neg (by decide), if_neg (by decide), if_pos (show nI 7 = 7 from rfl), bis_id]
    refine r_num (L := 1) (H := 99) hN st hz hx sz (by omega) fun r r1 r2 r3 => ?_
    unfold StOK
    rw [U_at (j := 166 + 9 * x) (by omega) (by omega) (by omega), U_ne (j := 165 + 9 * x) (by omega), u0 (by decide)]
    exact Or.inr (Or.inr (Or.inr (Or.inr (Or.inr (Or.inr (Or.inl ⟨rfl, s77 _ _, u_at _ _ _ _, r1, r2⟩))))))
  · rw [if_neg (by decide), if_neg (by decide), if_neg (by decide), if_neg (by decide), if_neg (by decide), if_neg (by decide), if_neg (by decide)]
    unfold f_X4_readRest
    rw [if_neg (by decide), if_neg (by decide), if_neg (by decide), if_neg (by decide), if_neg (by decide), if_pos (show nI 6 = 6 from rfl)]
    exact nothing (Or.inr ⟨rfl, rfl⟩)
/-- between two steps -/
def NS (n : Nat) (B : Nat → Nat) (v : Nat → Nat) (C0 S0 : Mem) (lo d x z : Nat) (C S : Mem) : Prop := St n B lo C S C S ∧ C.1 76 1 = nI z ∧ C.1 76 2 = nI x ∧ C.1 87 3 = nI d ∧ S.1 200 26 = nI x ∧ (x ≤ 30 ∧ z + d ≤ 2 * x ∧ d ≤ 3 ∧ C.1 76 0 = 1) ∧ NPt v C S ∧ XN C0 C ∧ XS S0 S
/-- what stood before stands -/
def Fz (z d x : Nat) (C C' S S' : Mem) : Prop := (∀ c k, 77 ≤ c → c < 82 → k < z → C'.1 c k = C.1 c k) ∧ (∀ j, j < d → C'.1 88 j = C.1 88 j) ∧ (∀ k, k < 1905 + 9 * x → S'.1 205 k = S.1 205 k)
theorem NPt.fk (h : NPt v A Z) (f : FkC A C) (g : FkS Z S) : NPt v C S := by
  obtain ⟨a, b, c, d, e, i, j, k, l, m⟩ := h
  exact ⟨a, b, c, by rw [f.2.1 10 (by decide)]; exact d, by rw [f.2.1 10 (by decide)]; exact e, by rw [f.2.1 10 (by decide)]; exact i, by rw [(g.1 205 (by decide)).1]; exact j, by rw [(g.1 205 (by decide)).1]; exact k, by rw [(g.1 205 (by decide)).1]; exact l, fun q hq => by rw [f.1, (g.1 208 (by decide)).2]; exact m q hq⟩
/-- the head of a step -/
theorem n_head {κ σ bl : Nat} {rc : Int32 → Mem → Option Mem} (hN : 1000 < N) (ks : KS2 κ σ) (ns : NS n B v C0 S0 lo d x z C S) (hq : C.1 82 2 = nI 1) (hx : x < 30) (hb : (bl = 1 ∧ (κ = 5 ∨ κ = 6) ∧ d < 3) ∨ (bl = 0 ∧ κ ≠ 5 ∧ κ ≠ 6)) : ∃ b C' S', f_X4_readStep_b87 N 76 10 (nI σ) (nI bl) C = some (b, C') ∧ f_X12_readStep_b82 N rc (nI d) (nI κ) (nI bl) S = lp (fun k (a : Int32 × Int32 × Int32) m => f_X12_readStep_h141 N rc k a.1 a.2.1 a.2.2 m) N (nI d, nI bl, nI (1905 + 9 * x)) S' ∧ ((b = true ∧ NS n B v C0 S0 (lo + 1) (d + bl) (x + 1) (z + 1) C' S' ∧ (bl = 1 → C'.1 88 d = nI z) ∧ StOK C' 76 (U v S') x z ∧ U v S' (165 + 9 * x) = κ ∧ Fz z d x C C' S S') ∨ (b = false ∧ XFn n C0 S0 C' S')) := by
  obtain ⟨st, c1, c2, c3, s26, ⟨x30, zd, d3, c0⟩, np, xc, xs⟩ := ns
  have hz : z < 60 := by omega
  have hk : κ < 8 ∧ σ < 9 := by unfold KS2 at ks; omega
  unfold f_X4_readStep_b87 f_X12_readStep_b82
  rw [st.s12, if_pos (by decide), s26, bI_e, bM_e, show (9 : Int32) * nI x = nI (9 * x) from n_lmul .., show (1905 : Int32) + nI (9 * x) = nI (1905 + 9 * x) from n_ladd .., nw]
  have st1 := st.u200 (k := 26) (x := nI (x + 1)) (by decide)
  obtain ⟨C1, S1, e1, e2, st2⟩ := st1.go hN (by rw [hq]; decide)
  rw [e1, bv_s, e2, bv_s, show C1.1 76 1 = nI z by rw [st2.c (by decide)]; exact c1, ck_n (by omega), bM_e, t_n (by omega), ck_n (by omega), bM_e, t_n (by omega)]
  have st3 := (st2.uc (c := 76 + 1) (k := z) (x := nI σ) (by decide)).us (c := 205) (k := 1905 + 9 * x) (x := nI κ) (by decide)
  have xc3 : XN C0 (uI C (76 + 1) z (nI σ)) := xc.u (by omega)
  have xs3 : XS S0 (uI (uI S 200 26 (nI (x + 1))) 205 (1905 + 9 * x) (nI κ)) := (xs.u2 (by omega)).u (by omega)
  have np3 : NPt v (uI C (76 + 1) z (nI σ)) (uI (uI S 200 26 (nI (x + 1))) 205 (1905 + 9 * x) (nI κ)) := np.of (XN.rf.u (by omega)) ((XS.rf.u2 (by omega)).u (by omega))
  obtain ⟨b, C2, S2, e3, e4, hh⟩ := r_rest (v := v) (x := x) (z := z) hN ks st3 hz hx (by rw [u_ne (by decide)]; exact c1) np3 (u_at _ _ _ _) (u_at _ _ _ _)
  have cls : (if nI σ = 8 then (bi (f_X4_readTest N 76 10 (uI C1 (76 + 1) z (nI σ))) fun r_27 M_25 => f_X4_readStep_b126 N 76 10 (nI bl) (b2i r_27) M_25) else (bi (f_X4_readRest N 76 10 (nI σ) (uI C1 (76 + 1) z (nI σ))) fun r_16 M_14 => f_X4_readStep_b126 N 76 10 (nI bl) (b2i r_16) M_14)) = f_X4_readStep_b126 N 76 10 (nI bl) (b2i b) C2 := by
    by_cases g : nI σ = 8
    · rw [if_pos g] at e3 ⊢
      rw [e3, bi_s]
    · rw [if_neg g] at e3 ⊢
      rw [e3, bi_s]
  rw [cls, e4, bv_s]
  have sg : ∀ (S : Mem) (K : Mem → Option Mem), (bi (f_X12_isSign 59 S) fun r M => bv (f_X12_must N (b2i r) M) K) = bv (mS N S) K := fun S K => by
    unfold mS
    rw [sgn_e, bi_s, bi_s]
  rw [sg]
  unfold f_X4_readStep_b126
  rcases hh with ⟨rfl, A2, Z2, st4, fa, fz, so⟩ | ⟨rfl, xf⟩
  rotate_left
  · have xf := xf C0 S0 xc3 xs3
    rw [if_pos b2i_f, b_semi xf.bd, bv_s]
    exact ⟨_, _, _, rfl, rfl, Or.inr ⟨rfl, xf⟩⟩
  rw [if_neg (by decide)]
  have a76 : C2.1 76 1 = nI z ∧ C2.1 76 2 = nI x ∧ C2.1 87 3 = nI d := by
    rw [st4.c (by decide), st4.c (by decide), fa.2.1 76 (by decide) (by decide) (by decide) (by decide) (by decide), fa.2.1 87 (by decide) (by decide) (by decide) (by decide) (by decide), u_ne (by decide), u_ne (by decide)]
    exact ⟨c1, c2, c3⟩
  have tail : ∀ A3 C3, St n B (lo + 1) A3 Z2 C3 S2 → C3.1 76 1 = nI z → C3.1 76 2 = nI x → (∀ c, c ≠ 87 → c ≠ 88 → A3.1 c = A2.1 c) → A3.2 = A2.2 → A3.1 87 3 = nI (d + bl) → (∀ j, j < d → A3.1 88 j = A2.1 88 j) → (bl = 1 → A3.1 88 d = nI z) → ∃ b C' S', f_X4_readStep_b163 N 76 10 C3 = some (b, C') ∧ mS N S2 = some S' ∧ ((b = true ∧ NS n B v C0 S0 (lo + 1) (d + bl) (x + 1) (z + 1) C' S' ∧ (bl = 1 → C'.1 88 d = nI z) ∧ StOK C' 76 (U v S') x z ∧ U v S' (165 + 9 * x) = κ ∧ Fz z d x C C' S S') ∨ (b = false ∧ XFn n C0 S0 C' S')) := fun A3 C3 st5 g1 g2 g3 g4 g5 g6 g7 => by
    unfold f_X4_readStep_b163
    rw [g1, nw, bM_e, show (uI C3 76 1 (nI (z + 1))).1 76 2 = nI x by rw [us_same, g_upd, if_neg (by decide)]; exact g2, nw, bM_e, bis_id]
    have st6 := (st5.uc (c := 76) (k := 1) (x := nI (z + 1)) (by decide)).uc (c := 76) (k := 2) (x := nI (x + 1)) (by decide)
    obtain ⟨b, C4, S4, e5, e6, hh⟩ := st6.semi2 hN
    have xcA : XN C0 A3 := fun c h1 h2 => by
      rw [g4, fa.1]
      refine ⟨?_, (xc3 c h1 h2).2⟩
      rw [g3 c (by omega) (by omega), fa.2.1 c (by omega) (by omega) (by omega) (by omega) (by omega)]
      exact (xc3 c h1 h2).1
    have xsZ : XS S0 Z2 := by
      obtain ⟨q1, q2, q3, q4, q5⟩ := xs3
      obtain ⟨f1, f2, f3⟩ := fz
      exact ⟨fun c h1 h2 h3 => ⟨by rw [f2 c h2]; exact (q1 c h1 h2 h3).1, by rw [f1]; exact (q1 c h1 h2 h3).2⟩, fun k hk => by rw [f3 k (by omega)]; exact q2 k hk, fun k hk => by rw [f1]; exact q3 k hk, fun j hj => by rw [f2 200 (by decide)]; exact q4 j hj, fun j hj => by rw [f1]; exact q5 j hj⟩
    refine ⟨b, C4, S4, e5, e6, ?_⟩
    rcases hh with ⟨rfl, st7⟩ | ⟨rfl, fl⟩
    rotate_left
    · exact Or.inr ⟨rfl, fl.xn ((xcA.u (by omega)).u (by omega)) xsZ⟩
    have hb2 : d + bl ≤ 3 ∧ z + 1 + (d + bl) ≤ 2 * (x + 1) := by omega
    have oC : ∀ c, c ≠ 82 → c ≠ 76 → C4.1 c = A3.1 c := fun c h1 h2 => by rw [st7.c h1, u_ne h2, u_ne h2]
    have oS : S4.1 205 = Z2.1 205 := st7.s (by decide)
    have z26 : S4.1 200 26 = nI (x + 1) := by rw [st7.s200 (by omega), fz.2.1 200 (by decide), u_ne (by decide), u_at]
    have xcC : XN C0 C4 := ((xcA.u (c := 76) (k := 1) (y := nI (z + 1)) (by omega)).u (c := 76) (k := 2) (y := nI (x + 1)) (by omega)).fk st7.1
    have xsS : XS S0 S4 := xsZ.fk st7.2.1
    refine Or.inl ⟨rfl, ⟨(st7.low (by omega)).here, ?_, ?_, ?_, z26, ⟨by omega, by omega, by omega, by rw [st7.c (by decide), us_same, g_upd, if_neg (by decide), us_same, g_upd, if_neg (by decide), g3 76 (by decide) (by decide), fa.2.1 76 (by decide) (by decide) (by decide) (by decide) (by decide), u_ne (by decide)]; exact c0⟩, ?_, xcC, xsS⟩, fun h => ?_, ?_, ?_, ⟨fun c k h1 h2 h3 => ?_, fun j hj => ?_, fun k hk => ?_⟩⟩
    · rw [st7.c (by decide), us_same, g_upd, if_neg (by decide), u_at]
    · rw [st7.c (by decide), u_at]
    · rw [oC 87 (by decide) (by decide)]; exact g5
    · exact np.of (fun c h1 h2 => ⟨(xcC c h1 h2).1.trans (xc c h1 h2).1.symm, (xcC c h1 h2).2.trans (xc c h1 h2).2.symm⟩) ⟨fun c h1 h2 h3 => ⟨(xsS.1 c h1 h2 h3).1.trans (xs.1 c h1 h2 h3).1.symm, (xsS.1 c h1 h2 h3).2.trans (xs.1 c h1 h2 h3).2.symm⟩, fun k hk => (xsS.2.1 k hk).trans (xs.2.1 k hk).symm, fun k hk => (xsS.2.2.1 k hk).trans (xs.2.2.1 k hk).symm, fun j hj => (xsS.2.2.2.1 j hj).trans (xs.2.2.2.1 j hj).symm, fun j hj => (xsS.2.2.2.2 j hj).trans (xs.2.2.2.2 j hj).symm⟩
    · rw [oC 88 (by decide) (by decide)]; exact g7 h
    · exact StOK.loc (C := A2) (v := U v Z2) ⟨rfl, rfl, rfl⟩ (fun j h1 h2 => by rw [oC _ (by omega) (by omega), g3 _ (by omega) (by omega)]) (fun k h1 h2 => U_same (by rw [oS])) so
    · refine U_hi (by omega) (by omega) ?_
      rw [oS, fz.2.2 _ (by omega), show 1740 + (165 + 9 * x) = 1905 + 9 * x by omega, u_at]
    · rw [oC c (by omega) (by omega), g3 c (by omega) (by omega), fa.2.2 c k (by omega) (by omega)]
      by_cases q : c = 77
      · subst q
        show (uI C 77 z (nI σ)).1 77 k = _
        rw [us_same, g_upd, if_neg (by omega)]
      · rw [u_ne (by omega)]
    · rw [oC 88 (by decide) (by decide), g6 j hj, fa.2.1 88 (by decide) (by decide) (by decide) (by decide) (by decide), u_ne (by decide)]
    · rw [oS, fz.2.2 k (by omega), us_same, g_upd, if_neg (by omega), u_ne (by decide)]
  rcases hb with ⟨rfl, -, hd⟩ | ⟨rfl, -⟩
  · rw [if_neg (show ¬ nI 1 = 0 by decide), a76.2.2, ck_n (by omega), bM_e, t_n (by omega), show (uI C2 88 d (C2.1 76 1)).1 87 3 = nI d by rw [u_ne (by decide)]; exact a76.2.2, nw, bM_e, a76.1]
    obtain ⟨b, C', S', q1, q2, q3⟩ := tail (uI (uI A2 88 d (nI z)) 87 3 (nI (d + 1))) (uI (uI C2 88 d (nI z)) 87 3 (nI (d + 1))) (((st4.uc (by decide)).uc (by decide)).low (by omega)) (by rw [u_ne (by decide), u_ne (by decide)]; exact a76.1) (by rw [u_ne (by decide), u_ne (by decide)]; exact a76.2.1) (fun c h1 h2 => by rw [u_ne h1, u_ne h2]) rfl (u_at _ _ _ _) (fun j hj => by rw [u_ne (by decide), us_same, g_upd, if_neg (by omega)]) (fun _ => by rw [u_ne (by decide), u_at])
    rw [q1, q2, bv_s]
    exact ⟨b, C', S', rfl, rfl, q3⟩
  · rw [if_pos (show nI 0 = 0 from rfl)]
    obtain ⟨b, C', S', q1, q2, q3⟩ := tail A2 C2 (st4.low (by omega)) a76.1 a76.2.1 (fun _ _ _ => rfl) rfl (by rw [← st4.c (by decide)]; exact a76.2.2) (fun _ _ => rfl) (fun h => by omega)
    rw [q1, q2, bv_s]
    exact ⟨b, C', S', rfl, rfl, q3⟩
end Q17
