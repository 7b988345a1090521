section Q20
variable {N n lo x z i : Nat} {C S C0 S0 : Mem} {B : Nat → Nat} {v v' : Nat → Nat}
/-- all steps -/
theorem n_loop (hN : 1000 < N) (hn : n ≤ 300) : ∀ m lo x z C S i G, n + 1 - lo ≤ m → m < G → NS n B v C0 S0 lo 0 x z C S → i ≤ lo → SqL C 76 (U v S) (BB C 76 (U v S) 3) x 0 x 0 z →
    (∃ lo' x' z' C' S', Lp N i C = some (true, C') ∧ lp (fun k (_ : Unit) m => f_X12_nights_h28 N k m) G () S = f_X12_nights_b50 N S' ∧ NS n B v C0 S0 lo' 0 x' z' C' S' ∧ SqL C' 76 (U v S') (BB C' 76 (U v S') 3) 60 0 x' 0 z') ∨
    (∃ C' S', Lp N i C = some (false, C') ∧ lp (fun k (_ : Unit) m => f_X12_nights_h28 N k m) G () S = f_X12_nights_b50 N S' ∧ XFn n C0 S0 C' S') := by
  intro m
  induction m with
  | zero =>
    intro lo x z C S i G h1 _ ns
    have := ns.lo_n
    omega
  | succ m im =>
    intro lo x z C S i G h1 hG ns hi sq
    have ln := ns.lo_n
    obtain ⟨st, c1, c2, c3, s26, ⟨x30, zd, d3, c0⟩, np, xc, xs⟩ := id ns
    obtain ⟨k, k1, k2, k3, -⟩ := st.kind
    obtain ⟨G, rfl⟩ : ∃ F, G = F + 1 := ⟨G - 1, by omega⟩
    have eL : lp (fun k (_ : Unit) m => f_X12_nights_h28 N k m) (G + 1) () S = if S.1 200 14 = 0 then f_X12_nights_b50 N S else (bv (f_X12_readStep N 6 0 S) fun M => lp (fun k (_ : Unit) m => f_X12_nights_h28 N k m) G () M) := by
      show f_X12_nights_h28 N _ S = _
      unfold f_X12_nights_h28
      rw [st.s12, if_pos rfl]
    rw [eL]
    by_cases k0 : k = 0
    · rw [k3, k0, if_pos (show nI 0 = 0 from rfl)]
      refine Or.inl ⟨lo, x, z, C, S, ?_, rfl, ns, sq.mono (by omega)⟩
      rw [Lp_stop hN (by omega) (Or.inr (by rw [k2, k0]; rfl))]
      unfold f_X4_fill_b77 f_X4_fill_b93
      rw [c3, if_pos (by decide), st.c6, if_pos rfl]
    · rw [k3, if_neg (nz0 (by omega) k0)]
      rcases n_step hN hn 6 0 (by omega) (by omega) lo x z C S i ns hi (fun q => by rw [k2] at q; exact absurd q (nz0 (by omega) k0)) (fun q => by omega) with ⟨i1, lo1, x1, z1, C1, S1, e1, e2, ns1, g1, g2, it, fz⟩ | ⟨C1, S1, e1, e2, xf⟩
      · have e2 : f_X12_readStep N 6 0 S = some S1 := e2
        rw [e1, e2, bv_s]
        have hx1 := it.1
        have hz1 := it.2.1
        have sq1 := SqU (C1 := C1) (S1 := S1) (fun j k j1 j2 _ k2 => fz.1 _ k (by omega) (by omega) k2) (fun k _ h => fz.2.2 _ (by omega)) sq
        exact im lo1 x1 z1 C1 S1 i1 G (by omega) (by omega) ns1 g1 ((SqL.snoc _ _ _ _ _ sq1 it).mono (by omega))
      · have e2 : f_X12_readStep N 6 0 S = some S1 := e2
        rw [e1, e2, bv_s]
        refine Or.inr ⟨C1, S1, rfl, ?_, xf⟩
        obtain ⟨G, rfl⟩ : ∃ F, G = F + 1 := ⟨G - 1, by omega⟩
        show f_X12_nights_h28 N _ S1 = _
        unfold f_X12_nights_h28
        rw [if_neg xf.bd.2.2]
/-- the model copies the steps -/
theorem m_cp (hN : 1000 < N) (hx : x ≤ 30) (h26 : S.1 200 26 = nI x) : Ho (lp (fun k (a : Int32) m => f_X12_nights_h82 N k a m) N 0 S) (fun q => q.1 = nI x ∧ q.2.2 = S.2 ∧ (∀ c, c ≠ 205 → q.2.1 c = S.1 c) ∧ (∀ k, k < 9 * x → q.2.1 205 (165 + k) = S.1 205 (1905 + k)) ∧ ∀ k, k < 165 ∨ 165 + 9 * x ≤ k → q.2.1 205 k = S.1 205 k) := by
  refine Ho_lp (fun i a M => a = nI i ∧ i ≤ 9 * x ∧ M.2 = S.2 ∧ (∀ c, c ≠ 205 → M.1 c = S.1 c) ∧ (∀ k, k < i → M.1 205 (165 + k) = S.1 205 (1905 + k)) ∧ ∀ k, k < 165 ∨ 165 + i ≤ k → M.1 205 k = S.1 205 k) (9 * x) (by omega) ⟨rfl, by omega, rfl, fun _ _ => rfl, fun k hk => absurd hk (Nat.not_lt_zero k), fun _ _ => rfl⟩ ?_
  rintro i hi k hk _ M ⟨rfl, g1, g2, g3, g4, g5⟩
  unfold f_X12_nights_h82
  rw [show M.1 200 26 = nI x by rw [g3 200 (by decide)]; exact h26, show (9 : Int32) * nI x = nI (9 * x) from n_lmul ..]
  by_cases g : 9 * x ≤ i
  · rw [if_pos (by rw [n_le (by omega)]; exact g), Ho_some]
    have : i = 9 * x := by omega
    subst this
    exact ⟨rfl, g2, g3, g4, g5⟩
  · rw [if_neg (by rw [n_le (by omega)]; exact g), show (1905 : Int32) + nI i = nI (1905 + i) from n_ladd .., show (165 : Int32) + nI i = nI (165 + i) from n_ladd .., ck_n (by omega), ck_n (by omega), bM_e, t_n (by omega), t_n (by omega), nw]
    refine hk (by omega) _ _ ⟨rfl, by omega, g2, fun c hc => by rw [u_ne hc]; exact g3 c hc, fun j hj => ?_, fun j hj => ?_⟩
    · rw [us_same, g_upd]
      by_cases e : j = i
      · rw [if_pos (by omega), g5 _ (by omega), e]
      · rw [if_neg (by omega)]; exact g4 j (by omega)
    · rw [us_same, g_upd, if_neg (by omega)]; exact g5 j (by omega)
theorem VV.cong (hv : VV v) (h : ∀ k, k < 163 → v' k = v k) : VV v' := by
  obtain ⟨⟨b0, b1, b2, b6, b7, bg⟩, b3, b4, b5, b8, b10, bq, bh, bt, bs, bf, bb⟩ := hv
  have e0 := h 0 (by omega)
  have e1 := h 1 (by omega)
  have e2 := h 2 (by omega)
  have e3 := h 3 (by omega)
  have e4 := h 4 (by omega)
  have e5 := h 5 (by omega)
  have e6 := h 6 (by omega)
  have e7 := h 7 (by omega)
  have e8 := h 8 (by omega)
  have e10 := h 10 (by omega)
  refine ⟨⟨by omega, by omega, by omega, by omega, by omega, fun g hg => ?_⟩, by omega, by omega, by omega, by omega, by rw [e10, e2]; exact b10, fun g hg => ?_, fun g hg => ?_, fun g hg => ?_, fun g hg => ?_, fun k hk => ?_, fun b hb1 hb2 => ?_⟩
  · rw [h _ (by omega), h _ (by omega), h _ (by omega), h _ (by omega), h _ (by omega), h _ (by omega)]; exact bg g (by omega)
  · rw [h _ (by omega)]; exact bq g (by omega)
  · rw [h _ (by omega)]; exact bh g (by omega)
  · rw [h _ (by omega), h _ (by omega), h _ (by omega), h _ (by omega), h _ (by omega), h _ (by omega), h _ (by omega), h _ (by omega)]; exact bt g (by omega)
  · rw [h _ (by omega), h _ (by omega), h _ (by omega), h _ (by omega), h _ (by omega), h _ (by omega), h _ (by omega)]; exact bs g (by omega)
  · rw [h _ (by omega)]; exact bf k hk
  · rw [e0, e1] at hb1
    rw [h _ (by omega), h _ (by omega)]; exact bb b hb1 hb2
theorem PC.nn {C' : Mem} {p : Nat} (hv : VV v) (hp : PC C p v) (h : ∀ k, k < 163 → v' k = v k) (hc : ∀ j, j < 7 → C'.1 (p + j) = C.1 (p + j)) (pn : PN C' (p + 7) v') : PC C' p v' := by
  obtain ⟨⟨c0, c1, c2, c3, c7, cg⟩, c4, c5, c6, c8, c9, c10, cq, ch, ct, cs, cf, -⟩ := hp
  have v2 := hv.1.2.2.1
  have v3 := hv.2.1
  have v4 := hv.2.2.1
  have v5 := hv.2.2.2.1
  have h0 : C'.1 p = C.1 p := hc 0 (by omega)
  have e2 := h 2 (by omega)
  have e3 := h 3 (by omega)
  have e4 := h 4 (by omega)
  have e5 := h 5 (by omega)
  refine ⟨⟨?_, ?_, ?_, ?_, ?_, fun g hg => ?_⟩, ?_, ?_, ?_, ?_, ?_, ?_, fun g hg => ?_, fun g hg => ?_, fun g hg => ?_, fun g hg => ?_, fun k hk => ?_, pn⟩
  · rw [h0, h 0 (by omega)]; exact c0
  · rw [h0, h 1 (by omega)]; exact c1
  · rw [h0, h 6 (by omega)]; exact c2
  · rw [h0, h 7 (by omega)]; exact c3
  · rw [h0, e2]; exact c7
  · rw [hc 1 (by omega), h _ (by omega), h _ (by omega), h _ (by omega), h _ (by omega)]; exact cg g (by omega)
  · rw [h0, h 8 (by omega)]; exact c4
  · rw [h0, h 9 (by omega)]; exact c5
  · rw [h0, h 10 (by omega)]; exact c6
  · rw [h0, e3]; exact c8
  · rw [h0, e4]; exact c9
  · rw [h0, e5]; exact c10
  · rw [hc 1 (by omega), h _ (by omega)]; exact cq g (by omega)
  · rw [hc 3 (by omega), h _ (by omega)]; exact ch g (by omega)
  · rw [hc 4 (by omega), h _ (by omega), h _ (by omega), h _ (by omega), h _ (by omega), h _ (by omega), h _ (by omega)]; exact ct g (by omega)
  · rw [hc 5 (by omega), h _ (by omega), h _ (by omega), h _ (by omega), h _ (by omega), h _ (by omega)]; exact cs g (by omega)
  · rw [hc 6 (by omega)]
    show _ = nI (v' (103 + k))
    rw [h _ (by omega)]; exact cf k hk
theorem e_nights (hN : 1000 < N) (h : Rel C S) (y : Int32) : Same (f_X11_nights N y C) (f_X12_nights N y S) := by
  have hR := Re.go h
  have hs := S0_st S 0 0
  unfold f_X11_nights f_X12_nights f_X12_starts f_X12_no f_X11_refused f_X11_answered
  simp only [bM_e]
  generalize uI (uI S 200 1 0) 200 0 0 = S at *
  obtain ⟨m, hm, t1, t2, t3⟩ := hR.2.1
  rw [t1, t2]
  rcases i32c y with hy | ⟨n, hn, rfl⟩
  · rw [if_pos hy, if_pos hy, bi_s, bi_s, bi_s, if_pos b2i_f]
    exact Same.mk (cl_ref hR _)
  rw [if_neg (nI_pos hn), if_neg (nI_pos hn)]
  by_cases g : m < n
  · rw [if_pos (by rw [n_lt (by omega)]; exact g), if_pos (by rw [n_lt (by omega)]; exact g), bi_s, bi_s, bi_s, if_pos b2i_f]
    exact Same.mk (cl_ref hR _)
  have hg : ¬ nI m < nI n := by rw [n_lt (by omega)]; exact g
  rw [if_neg hg, if_neg hg]
  by_cases g3 : n ≤ 300
  rotate_left
  · have h3 : ¬ nI n ≤ 300 := by rw [n_lel (by omega)]; exact g3
    rw [if_neg h3, if_neg h3, bi_s, bi_s, bi_s, if_pos b2i_f]
    exact Same.mk (cl_ref hR _)
  have h3 : nI n ≤ 300 := by rw [n_lel (by omega)]; exact g3
  rw [if_pos h3, if_pos h3]
  obtain ⟨v, hv, h9, hC, hA, hnm⟩ := hR.get
  have oA : ∀ c, c ≠ 76 → c ≠ 87 → (uI (uI (uI (uI (uI C 76 0 0) 76 1 0) 76 2 0) 76 0 1) 87 3 0).1 c = C.1 c := fun c h1 h2 => by rw [u_ne h2, u_ne h1, u_ne h1, u_ne h1, u_ne h1]
  have k0 : (uI (uI (uI (uI (uI C 76 0 0) 76 1 0) 76 2 0) 76 0 1) 87 3 0).1 76 0 = 1 := by rw [u_ne (by decide), u_at]
  have k1 : (uI (uI (uI (uI (uI C 76 0 0) 76 1 0) 76 2 0) 76 0 1) 87 3 0).1 76 1 = 0 := by rw [u_ne (by decide), us_same, g_upd, if_neg (by decide), us_same, g_upd, if_neg (by decide), u_at]
  have k2 : (uI (uI (uI (uI (uI C 76 0 0) 76 1 0) 76 2 0) 76 0 1) 87 3 0).1 76 2 = 0 := by rw [u_ne (by decide), us_same, g_upd, if_neg (by decide), u_at]
  have k3 : (uI (uI (uI (uI (uI C 76 0 0) 76 1 0) 76 2 0) 76 0 1) 87 3 0).1 87 3 = 0 := u_at _ _ _ _
  have o2 : (uI (uI (uI (uI (uI C 76 0 0) 76 1 0) 76 2 0) 76 0 1) 87 3 0).2 = C.2 := rfl
  have eF : f_X4_fill N 76 10 (nI n) C = bv (f_X8_begin N (nI n) (uI (uI (uI (uI (uI C 76 0 0) 76 1 0) 76 2 0) 76 0 1) 87 3 0)) fun M => lp (fun k (a : Int32) m => f_X4_fill_h25 N 76 10 k a m) N 0 M := by
    unfold f_X4_fill
    rw [c_nclear, bv_s]
    simp only [bM_e]
  rw [eF]
  generalize uI (uI (uI (uI (uI C 76 0 0) 76 1 0) 76 2 0) 76 0 1) 87 3 0 = C1 at *
  obtain ⟨B, C3, S3, e3, e4, st, r1, r2, r3, r4, r5, r6⟩ := rd_begin (N := N) (n := n) (A := C1) (Z := S) hN (by omega) (fun k hk => by rw [oA 1 (by decide) (by decide)]; exact t3 k (by omega))
  rw [e3, bv_s, e4, bv_s, bi_s, if_neg (by decide)]
  have st4 := st.u200 (k := 26) (x := 0) (by decide)
  have C3o : ∀ c, ¬ (76 ≤ c ∧ c < 83) → ¬ (87 ≤ c ∧ c < 90) → C3.1 c = C.1 c ∧ C3.2 c = C.2 c := fun c h1 h2 => ⟨by rw [r2 c (by omega), oA c (by omega) (by omega)], by rw [r1, o2]⟩
  have S4o : ∀ c, c ≠ 200 → (uI S3 200 26 0).1 c = S.1 c ∧ (uI S3 200 26 0).2 c = S.2 c := fun c h1 => ⟨by rw [u_ne h1]; exact (r3 c h1).1, (r3 c h1).2⟩
  have S40 : ∀ j, j < 8 ∨ (9 < j ∧ j < 12) ∨ (18 < j ∧ j ≠ 26) → (uI S3 200 26 0).1 200 j = S.1 200 j := fun j hj => by rw [us_same, g_upd, if_neg (by omega), r4 j (by omega)]
  have S4L : ∀ j, j ≠ 19 → (uI S3 200 26 0).2 200 j = S.2 200 j := fun j hj => r6 j hj
  have S4z : (uI S3 200 26 0).1 200 8 = 0 := by rw [us_same, g_upd, if_neg (by decide), r5]
  have S426 : (uI S3 200 26 0).1 200 26 = nI 0 := by rw [u_at]; rfl
  generalize uI S3 200 26 0 = S4 at *
  have np : NPt v C3 S4 := by
    have x10 := (C3o 10 (by omega) (by omega)).1
    have x5 := (S4o 205 (by decide)).1
    exact ⟨hv.1.1, hv.1.2.1, hv.1.2.2.1, by rw [x10]; exact hC.1.1, by rw [x10]; exact hC.1.2.1, by rw [x10]; exact hC.1.2.2.2.2.1, by rw [x5]; exact hA 0 (by omega), by rw [x5]; exact hA 1 (by omega), by rw [x5]; exact hA 2 (by omega), fun g hg => by rw [(C3o 12 (by omega) (by omega)).2, (S4o 208 (by decide)).2]; exact hnm g hg⟩
  have ns : NS n B v C3 S4 0 0 0 0 C3 S4 := ⟨st4, by rw [r2 76 (by decide)]; exact k1, by rw [r2 76 (by decide)]; exact k2, by rw [r2 87 (by decide)]; exact k3, S426, ⟨by omega, by omega, by omega, by rw [r2 76 (by decide)]; exact k0⟩, np, XN.rf, XS.rf⟩
  have hl := n_loop hN g3 (n + 1) 0 0 0 C3 S4 0 N (by omega) (by omega) ns (by omega) ⟨rfl, rfl⟩
  have eLp : Lp N 0 C3 = lp (fun k (a : Int32) m => f_X4_fill_h25 N 76 10 k a m) N 0 C3 := rfl
  rw [eLp] at hl
  rcases hl with ⟨lo, x, z, C', S', f1, f2, ns', sq⟩ | ⟨C', S', f1, f2, xf⟩
  · obtain ⟨st', c1, c2, c3, s26, ⟨x30, zd, d3, c0⟩, np', xc, ⟨x1, x2, x3, x4, x5⟩⟩ := ns'
    rw [f1, f2, bi_s, if_neg (by decide)]
    unfold f_X12_nights_b50
    rw [well_ok st'.s12, bi_s, if_neg (by decide), show (163 : Int32) = nI 163 from rfl, show (164 : Int32) = nI 164 from rfl, ck_n (by omega), bM_e, ck_n (by omega), bM_e, t_n (by omega), t_n (by omega)]
    have w26 : (uI (uI (uI S' 200 10 0) 200 11 (-1)) 205 163 1).1 200 26 = nI x := by rw [u_ne (by decide), us_same, g_upd, if_neg (by decide), us_same, g_upd, if_neg (by decide)]; exact s26
    rw [w26]
    refine Same.two (P := fun q => q.1 = nI x ∧ ∃ C1, Out 17 23 (uI C' 0 3 0) C1 ∧ C1.2 = C'.2 ∧ NEq (uI C' 0 3 0) 76 C1 17 ∧ q.2 = uI C1 0 0 0) (P' := fun q => q.1 = nI x ∧ q.2.2 = S'.2 ∧ (∀ c, c ≠ 205 → q.2.1 c = (uI (uI S' 200 10 0) 200 11 (-1)).1 c) ∧ (∀ k, k < 9 * x → q.2.1 205 (165 + k) = S'.1 205 (1905 + k)) ∧ q.2.1 205 163 = nI 1 ∧ q.2.1 205 164 = nI x ∧ ∀ k, (k < 163 ∨ 165 + 9 * x ≤ k) → q.2.1 205 k = S'.1 205 k) ?_ ?_ ?_
    · rw [Ho_bv]
      refine Ho_mono (c_ncopy (p0 := 17) (p1 := 76) (b := true) (by omega) (by rw [u_ne (by decide)]; exact c0)) ?_
      rintro C1 ⟨o, p2, ne⟩
      rw [bi_s, Ho_some]
      refine ⟨?_, C1, o, p2, ne, rfl⟩
      rw [(o 76 (by omega)).1, u_ne (by decide)]
      exact c2
    · refine Ho_mono (m_cp (x := x) (S := uI (uI (uI (uI S' 200 10 0) 200 11 (-1)) 205 163 1) 205 164 (nI x)) hN x30 (by rw [u_ne (by decide)]; exact w26)) ?_
      rintro ⟨r, S1⟩ ⟨u1, u2, u3, u4, u5⟩
      dsimp only at u1 u2 u3 u4 u5 ⊢
      have bs : ∀ k, k ≠ 163 → k ≠ 164 → (uI (uI (uI (uI S' 200 10 0) 200 11 (-1)) 205 163 1) 205 164 (nI x)).1 205 k = S'.1 205 k := fun k h1 h2 => by rw [us_same, g_upd, if_neg h2, us_same, g_upd, if_neg h1, u_ne (by decide), u_ne (by decide)]
      refine ⟨u1, u2, fun c hc => ?_, fun k hk => ?_, ?_, ?_, fun k hk => ?_⟩
      · rw [u3 c hc, u_ne hc, u_ne hc]
      · rw [u4 k hk, bs _ (by omega) (by omega)]
      · rw [u5 163 (by omega), us_same, g_upd, if_neg (by decide), u_at]; rfl
      · rw [u5 164 (by omega), u_at]
      · rw [u5 k (by omega), bs k (by omega) (by omega)]
    · rintro r Cx r' Sx ⟨a, C1', o, p2, ne, rfl⟩ ⟨a', q2, q3, q4, q5, q6, q7⟩
      dsimp only at a a' q2 q3 q4 q5 q6 q7
      refine ⟨by rw [a, a'], ?_⟩
      have oC : ∀ c, c ≠ 0 → ¬ (17 ≤ c ∧ c < 23) → (uI C1' 0 0 0).1 c = C'.1 c := fun c h1 h2 => by rw [u_ne h1, (o c (by omega)).1, u_ne h1]
      have o0 : ∀ k, k ≠ 0 → k ≠ 3 → (uI C1' 0 0 0).1 0 k = C'.1 0 k := fun k h1 h2 => by rw [us_same, g_upd, if_neg h1, (o 0 (by omega)).1, us_same, g_upd, if_neg h2]
      have tS : ∀ k, k ≠ 10 → k ≠ 11 → Sx.1 200 k = S'.1 200 k := fun k h1 h2 => by rw [q3 200 (by decide), us_same, g_upd, if_neg h2, us_same, g_upd, if_neg h1]
      have hlo : ∀ k, k < 163 → (fun k => if k = 163 then 1 else if k = 164 then x else if 165 ≤ k ∧ k < 165 + 9 * x then U v S' k else v k) k = v k := fun k hk => by
        dsimp only
        rw [if_neg (by omega), if_neg (by omega), if_neg (by omega)]
      have h163 : (fun k => if k = 163 then 1 else if k = 164 then x else if 165 ≤ k ∧ k < 165 + 9 * x then U v S' k else v k) 163 = 1 := if_pos rfl
      have h164 : (fun k => if k = 163 then 1 else if k = 164 then x else if 165 ≤ k ∧ k < 165 + 9 * x then U v S' k else v k) 164 = x := by
        dsimp only
        rw [if_neg (by omega), if_pos rfl]
      have hin : ∀ k, 165 ≤ k → k < 165 + 9 * x → (fun k => if k = 163 then 1 else if k = 164 then x else if 165 ≤ k ∧ k < 165 + 9 * x then U v S' k else v k) k = U v S' k := fun k h1 h2 => by
        dsimp only
        rw [if_neg (by omega), if_neg (by omega), if_pos ⟨h1, h2⟩]
      have hout : ∀ k, 165 + 9 * x ≤ k → (fun k => if k = 163 then 1 else if k = 164 then x else if 165 ≤ k ∧ k < 165 + 9 * x then U v S' k else v k) k = v k := fun k h1 => by
        dsimp only
        rw [if_neg (by omega), if_neg (by omega), if_neg (by omega)]
      generalize (fun k => if k = 163 then 1 else if k = 164 then x else if 165 ≤ k ∧ k < 165 + 9 * x then U v S' k else v k) = v' at *
      have s1 : Sq C' 76 (U v S') 3 0 x 0 z := by rw [Sq_BB]; exact sq
      have s2 : Sq C' 76 v' 3 0 x 0 z := Sq.loc (C := C') (C' := C') (v := U v S') (v' := v') (X := 0) (Y := x) (p := 0) (r := z) ⟨by rw [hlo 0 (by omega), U_lo (by omega)], by rw [hlo 1 (by omega), U_lo (by omega)], by rw [hlo 2 (by omega), U_lo (by omega)]⟩ (fun _ _ _ _ _ _ => rfl) (fun k h1 h2 => hin k (by omega) (by omega)) 3 0 x 0 z (by omega) (by omega) (by omega) (by omega) s1
      have s3 : Sq (uI C1' 0 0 0) 17 v' 3 0 x 0 z := Sq.ptw (C := C') (C' := uI C1' 0 0 0) (q := 76) (q' := 17) (fun j k h1 h2 h3 => by rw [u_ne (by omega), ne.2 j k h1 h2 h3, u_ne (by omega)]) 3 0 x 0 z (by omega) s2
      refine hR.fin (fun c h1 h2 h3 => ⟨?_, ?_⟩) (fun k h1 h2 => ?_) ?_ ?_ (fun c h1 h2 h3 => ⟨?_, ?_⟩) (fun k h1 h2 => ?_) (fun k h1 h2 => ?_) ?_ ?_ (fun j hj => ?_) ?_ ?_ ⟨v', VV.cong hv hlo, by rw [hlo 9 (by omega)]; exact h9, PC.nn hv hC hlo (fun j hj => ?_) ⟨by omega, ?_, fun _ => ⟨by omega, z, by omega, ?_, by rw [h164]; exact s3⟩⟩, fun k hk => ?_, fun g hg' => ?_⟩ ⟨?_, ?_⟩
      · rw [oC c h1 (by omega), (xc c (by omega) (by omega)).1]; exact (C3o c (by omega) (by omega)).1
      · show C1'.2 c = _
        rw [p2, (xc c (by omega) (by omega)).2]; exact (C3o c (by omega) (by omega)).2
      · rw [o0 k h1 h2, (xc 0 (by omega) (by omega)).1, (C3o 0 (by omega) (by omega)).1]
      · show C1'.2 0 = _
        rw [p2, (xc 0 (by omega) (by omega)).2]; exact (C3o 0 (by omega) (by omega)).2
      · rw [us_same, g_upd, if_neg (by decide), (o 0 (by omega)).1, u_at]
      · rw [q3 c h2, u_ne h1, u_ne h1, (x1 c h1 h2 h3).1]; exact (S4o c h1).1
      · rw [q2, (x1 c h1 h2 h3).2]; exact (S4o c h1).2
      · rw [q7 k (by omega), x2 k h2, (S4o 205 (by decide)).1]
      · rw [q2, x3 k h2, (S4o 208 (by decide)).2]
      · rw [tS 24 (by decide) (by decide), x4 24 (by omega), S40 24 (by omega)]
      · rw [tS 42 (by decide) (by decide), x4 42 (by omega), S40 42 (by omega)]
      · rw [q2, x5 j hj, S4L j hj]
      · rw [tS 8 (by decide) (by decide), x4 8 (by omega), S4z]
      · rw [u_at, tS 0 (by decide) (by decide), x4 0 (by omega), S40 0 (by omega)]; exact hs.symm
      · rw [oC (10 + j) (by omega) (by omega), (xc _ (by omega) (by omega)).1]; exact (C3o _ (by omega) (by omega)).1
      · show (uI C1' 0 0 0).1 17 0 = _
        rw [u_ne (by decide), ne.1 0 (by omega), u_ne (by decide), c0, h163]
        rfl
      · show (uI C1' 0 0 0).1 17 1 = _
        rw [u_ne (by decide), ne.1 1 (by omega), u_ne (by decide), c1]
      · rw [Nat.mul_zero, Nat.zero_add]
        by_cases a1 : k < 163
        · rw [q7 k (by omega), x2 k (by omega), (S4o 205 (by decide)).1, hlo k a1]; exact hA k hk
        · by_cases a2 : k = 163
          · rw [a2, q5, h163]
          · by_cases a3 : k = 164
            · rw [a3, q6, h164]
            · by_cases a4 : k < 165 + 9 * x
              · have := q4 (k - 165) (by omega)
                rw [show 165 + (k - 165) = k by omega, show 1905 + (k - 165) = 1740 + k by omega] at this
                rw [this, hin k (by omega) a4]
                unfold U
                rw [if_pos (by omega), nI_wU]
              · rw [q7 k (by omega), x2 k (by omega), (S4o 205 (by decide)).1, hout k (by omega)]; exact hA k hk
      · rw [hlo 2 (by omega)] at hg'
        have := hv.1.2.2.1
        rw [Nat.mul_zero, Nat.zero_add, q2, x3 g (by omega), (S4o 208 (by decide)).2]
        show C1'.2 12 g = _
        rw [p2, (xc 12 (by omega) (by omega)).2, (C3o 12 (by omega) (by omega)).2]
        exact hnm g hg'
      · rw [oC 82 (by decide) (by omega), st'.c6, q3 200 (by decide), us_same, g_upd, if_neg (by decide), u_at]
      · rw [oC 82 (by decide) (by omega), st'.2.2.2.2.2.2.2.1, q3 200 (by decide), u_at]
  · obtain ⟨⟨f, a, g1, g2, g3', g4, g5, g6, g7⟩, xc, ⟨x1, x2, x3, x4, x5⟩⟩ := xf
    rw [f1, f2, bi_s, if_pos b2i_f, bi_s]
    unfold f_X12_nights_b50
    rw [well_no ⟨g1, g2⟩ g6 g7, bi_s, if_pos b2i_f]
    refine Same.mk (hR.refuse ⟨g1, g2⟩ (fun c h1 h2 => ⟨?_, ?_⟩) (fun c h1 h2 h3 => ⟨?_, ?_⟩) (fun k hk => ?_) (fun k hk => ?_) ?_ ?_ (fun j hj => ?_) ?_ g4 g5)
    · rw [(xc c (by omega) (by omega)).1]; exact (C3o c (by omega) (by omega)).1
    · rw [(xc c (by omega) (by omega)).2]; exact (C3o c (by omega) (by omega)).2
    · rw [(x1 c h1 h2 h3).1]; exact (S4o c h1).1
    · rw [(x1 c h1 h2 h3).2]; exact (S4o c h1).2
    · rw [x2 k hk]; rw [(S4o 205 (by decide)).1]
    · rw [x3 k hk]; rw [(S4o 208 (by decide)).2]
    · rw [x4 24 (by omega), S40 24 (by omega)]
    · rw [x4 42 (by omega), S40 42 (by omega)]
    · rw [x5 j hj, S4L j hj]
    · rw [x4 8 (by omega), S4z]
end Q20
