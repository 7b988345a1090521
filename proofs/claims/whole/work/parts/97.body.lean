section Q18
variable {N n lo x z d i : Nat} {A Z A' Z' C S C0 S0 : Mem} {B : Nat → Nat} {v : Nat → Nat} {rc : Int32 → Mem → Option Mem}
/-- the class's loop over the text, in its i-th round -/
def Lp (N i : Nat) (C : Mem) : Option (Bool × Mem) := lp (fun k (a : Int32) m => f_X4_fill_h25 N 76 10 k a m) (N - i) (nI i) C
theorem Lp_eq (hi : i < N) : Lp N i C = f_X4_fill_h25 N 76 10 (fun (a : Int32) m => lp (fun k (a : Int32) m => f_X4_fill_h25 N 76 10 k a m) (N - (i + 1)) a m) (nI i) C := by
  unfold Lp
  rw [show N - i = (N - (i + 1)) + 1 by omega]
  rfl
theorem nz0 {k : Nat} (h : k < 2147483648) (h0 : k ≠ 0) : ¬ nI k = 0 := by
  rw [show (0 : Int32) = nI 0 from rfl, n_eq (by omega)]
  exact h0
theorem Lp_go {q : Bool} (hN : 1000 < N) (hi : i < 300) (h6 : C.1 82 6 = 0) (h2 : ¬ C.1 82 2 = 0) (hq : f_X8_isWord N 21 C = some (q, C)) : Lp N i C = if q = true then bi (f_X4_readEnd N 76 C) (fun _ M => Lp N (i + 1) M) else bi (f_X4_readStep N 76 10 C) (fun _ M => Lp N (i + 1) M) := by
  rw [Lp_eq (by omega)]
  unfold f_X4_fill_h25 f_X8_isGoingOn
  rw [if_neg (by rw [n_lle (by omega)]; show ¬ 300 ≤ i; omega), h6, if_pos rfl, if_neg h2, bi_s, if_neg (by decide), hq, bi_s]
  unfold f_X4_fill_b71
  rw [nw]
  cases q with
  | true => rw [if_neg (by decide), if_pos rfl]; rfl
  | false => rw [if_pos b2i_f, if_neg (by decide)]; rfl
theorem Lp_stop (hN : 1000 < N) (hi : i ≤ 301) (h : ¬ C.1 82 6 = 0 ∨ C.1 82 2 = 0) : Lp N i C = f_X4_fill_b77 N 76 10 C := by
  rw [Lp_eq (by omega)]
  unfold f_X4_fill_h25 f_X8_isGoingOn
  by_cases g : 300 ≤ nI i
  · rw [if_pos g]
  · rw [if_neg g]
    by_cases g6 : C.1 82 6 = 0
    · rcases h with h | h
      · exact absurd g6 h
      · rw [if_pos g6, if_pos h, bi_s, if_pos b2i_f]
    · rw [if_neg g6, bi_s, if_pos b2i_f]
theorem Lp_bad (hN : 1000 < N) (hi : i ≤ 301) (h : XFn n C0 S0 C S) : Lp N i C = some (false, C) := by
  obtain ⟨⟨f, a, f1, f2, f3, f4, -⟩, -⟩ := h
  have f0 : ¬ C.1 82 6 = 0 := by rw [f4]; exact nz0 (by omega) (by omega)
  rw [Lp_stop hN hi (Or.inl f0)]
  unfold f_X4_fill_b77 f_X4_fill_b93 f_X8_refuse
  by_cases g : C.1 87 3 ≤ 0
  · rw [if_pos g, if_neg f0]
  · rw [if_neg g, if_neg f0, bi_s, if_neg f0]
theorem SqU {C1 S1 : Mem} {X Y p r e m : Nat} (hc : ∀ j k, 1 ≤ j → j < 6 → p ≤ k → k < r → C1.1 (76 + j) k = C.1 (76 + j) k) (hs : ∀ k, 1905 + 9 * X ≤ k → k < 1905 + 9 * Y → S1.1 205 k = S.1 205 k) (h : SqL C 76 (U v S) (BB C 76 (U v S) e) m X Y p r) : SqL C1 76 (U v S1) (BB C1 76 (U v S1) e) m X Y p r := by
  have hv : ∀ k, 165 + 9 * X ≤ k → k < 165 + 9 * Y → U v S1 k = U v S k := fun k h1 h2 => U_same (hs _ (by omega) (by omega))
  exact SqL.loc (C := C) (C' := C1) (v := U v S) (v' := U v S1) (X := X) (Y := Y) (p := p) (r := r) ⟨rfl, rfl, rfl⟩ hc hv (fun x y a b h1 h2 h3 h4 h => BB.loc (C := C) (C' := C1) (v := U v S) (v' := U v S1) (X := X) (Y := Y) (p := p) (r := r) ⟨rfl, rfl, rfl⟩ hc hv e x y a b h1 h2 h3 h4 h) m X Y p r (Nat.le_refl _) (Nat.le_refl _) (Nat.le_refl _) (Nat.le_refl _) h
/-- the model's words behind a fault -/
theorem b191_e {x0 : Nat} (hx : x0 < 30) : f_X12_readStep_b191 N rc (nI (1905 + 9 * x0)) S = some (uI S 205 (1905 + 9 * x0 + 8) (S.1 200 26)) := by
  unfold f_X12_readStep_b191
  rw [na_8, ck_n (by omega), bM_e, t_n (by omega)]
theorem b169_bad {bl x0 : Nat} (hx : x0 < 30) (hb : Bd S) : f_X12_readStep_b169 N rc (nI bl) (nI (1905 + 9 * x0)) S = some (uI S 205 (1905 + 9 * x0 + 8) (S.1 200 26)) := by
  unfold f_X12_readStep_b169
  rw [m_21, bi_s, b_must hb, bv_s, sgn_e, bi_s, b_must hb, bv_s, b191_e hx]
  by_cases g : nI bl = 0
  · rw [if_pos g]
  · rw [if_neg g]
theorem h141_bad {bl x0 G : Nat} (hx : x0 < 30) (hb : Bd S) (hG : 0 < G) : lp (fun k (a : Int32 × Int32 × Int32) m => f_X12_readStep_h141 N rc k a.1 a.2.1 a.2.2 m) G (nI d, nI bl, nI (1905 + 9 * x0)) S = some (uI S 205 (1905 + 9 * x0 + 8) (S.1 200 26)) := by
  obtain ⟨G, rfl⟩ : ∃ F, G = F + 1 := ⟨G - 1, by omega⟩
  show f_X12_readStep_h141 N rc _ (nI d) (nI bl) (nI (1905 + 9 * x0)) S = _
  unfold f_X12_readStep_h141
  rw [if_neg hb.2.2, b169_bad hx hb]
  by_cases g : nI bl = 0
  · rw [if_pos g]
  · rw [if_neg g]
theorem b30_bad {x1 x2 x3 : Int32} (hb : Bd S) : f_X12_readStep_b30 N rc x1 x2 x3 S = some S := by
  unfold f_X12_readStep_b30 f_X12_readStep_b56 f_X12_readStep_b82
  rw [if_neg hb.2.2, if_neg hb.2.2, if_neg hb.2.1]
theorem NS.us (h : NS n B v C0 S0 lo d x z C S) {k : Nat} {y : Int32} (hk : 1740 ≤ k) : NS n B v C0 S0 lo d x z C (uI S 205 k y) := by
  obtain ⟨a, b, c, e, f, g, i, j, l⟩ := h
  exact ⟨a.us (by decide), b, c, e, by rw [u_ne (by decide)]; exact f, g, i.of XN.rf (XS.rf.u hk), j, l.u hk⟩
/-- an end -/
theorem n_end {x0 a0 : Nat} (hN : 1000 < N) (ns : NS n B v C0 S0 lo (d + 1) x z C S) (hq : qW 21 S = true) (h88 : C.1 88 d = nI a0) (ha : a0 < z) (hx0 : x0 < 30) : ∃ b C' S', f_X4_readEnd N 76 C = some (b, C') ∧ f_X12_readStep_b169 N rc (nI 1) (nI (1905 + 9 * x0)) S = f_X12_readStep_b191 N rc (nI (1905 + 9 * x0)) S' ∧ ((b = true ∧ NS n B v C0 S0 (lo + 1) d x (z + 1) C' S' ∧ C'.1 77 z = nI 11 ∧ C'.1 81 z = nI a0 ∧ C'.1 81 a0 = nI z ∧ (∀ c k, 77 ≤ c → c < 82 → k < z → ¬ (c = 81 ∧ k = a0) → C'.1 c k = C.1 c k) ∧ C'.1 88 = C.1 88 ∧ S'.1 205 = S.1 205) ∨ (b = false ∧ XFn n C0 S0 C' S')) := by
  obtain ⟨st, c1, c2, c3, s26, ⟨x30, zd, d3, c0⟩, np, xc, xs⟩ := ns
  have hz : z < 60 := by omega
  unfold f_X4_readEnd f_X12_readStep_b169 f_X3_isFull
  rw [c3, if_neg (show ¬ nI (d + 1) ≤ 0 by rw [show (0 : Int32) = nI 0 from rfl, n_le (by omega)]; omega), c1, if_pos (by rw [n_ltl (by omega)]; show z < 60; exact hz), bi_s, if_pos b2i_f, if_neg (by decide), m_21, bi_s, hq]
  obtain ⟨C1, S1, e1, e2, st1⟩ := (st.must (b := true) hN fun _ => by rw [st.q1 hq]; decide).1 rfl
  have a1 : C1.1 76 1 = nI z := by rw [st1.c (by decide)]; exact c1
  have a3 : C1.1 87 3 = nI (d + 1) := by rw [st1.c (by decide)]; exact c3
  have a8 : C1.1 88 d = nI a0 := by rw [st1.c (by decide)]; exact h88
  have s1 : nI (d + 1) - 1 = nI d := n_subl (b := 1) (by show 1 ≤ d + 1; omega)
  rw [e1, bv_s, e2, bv_s, a3, s1, bM_e, show (uI C1 87 3 (nI d)).1 76 1 = nI z by rw [u_ne (by decide)]; exact a1, ck_n (by omega), bM_e, t_n (by omega)]
  have k87 : (uI (uI C1 87 3 (nI d)) (76 + 1) z 11).1 87 3 = nI d := by rw [u_ne (by decide), u_at]
  have k88 : (uI (uI C1 87 3 (nI d)) (76 + 1) z 11).1 88 d = nI a0 := by rw [u_ne (by decide), u_ne (by decide)]; exact a8
  have l87 : (uI (uI (uI C1 87 3 (nI d)) (76 + 1) z 11) (76 + 5) z (nI a0)).1 87 3 = nI d := by rw [u_ne (by decide)]; exact k87
  have l88 : (uI (uI (uI C1 87 3 (nI d)) (76 + 1) z 11) (76 + 5) z (nI a0)).1 88 d = nI a0 := by rw [u_ne (by decide)]; exact k88
  rw [k87, ck_n (by omega), ck_n (by omega), t_n (by omega), k88, bM_e, l87, ck_n (by omega), t_n (by omega), l88, ck_n (by omega), bM_e, t_n (by omega), bM_e]
  have m76 : (uI (uI (uI (uI C1 87 3 (nI d)) (76 + 1) z 11) (76 + 5) z (nI a0)) (76 + 5) a0 (nI z)).1 76 1 = nI z := by rw [u_ne (by decide), u_ne (by decide), u_ne (by decide), u_ne (by decide)]; exact a1
  rw [m76, nw, bis_id]
  have st2 := ((((st1.uc (c := 87) (k := 3) (x := nI d) (by decide)).uc (c := 76 + 1) (k := z) (x := 11) (by decide)).uc (c := 76 + 5) (k := z) (x := nI a0) (by decide)).uc (c := 76 + 5) (k := a0) (x := nI z) (by decide)).uc (c := 76) (k := 1) (x := nI (z + 1)) (by decide)
  obtain ⟨b, C2, S2, e3, e4, hh⟩ := st2.semi2 hN
  have em : (bi (f_X12_isSign 59 S1) fun r_26 M_24 => bv (f_X12_must N (b2i r_26) M_24) fun M_27 => f_X12_readStep_b191 N rc (nI (1905 + 9 * x0)) M_27) = f_X12_readStep_b191 N rc (nI (1905 + 9 * x0)) S2 := by
    unfold mS at e4
    rw [sgn_e, bi_s] at e4 ⊢
    rw [e4, bv_s]
  rw [em]
  refine ⟨b, C2, S2, e3, rfl, ?_⟩
  have xcA : XN C0 (uI (uI (uI (uI (uI C 87 3 (nI d)) (76 + 1) z 11) (76 + 5) z (nI a0)) (76 + 5) a0 (nI z)) 76 1 (nI (z + 1))) := (by repeat' first | exact xc | refine XN.u ?_ (by omega))
  rcases hh with ⟨rfl, st3⟩ | ⟨rfl, fl⟩
  rotate_left
  · exact Or.inr ⟨rfl, fl.xn xcA xs⟩
  have oS : S2.1 205 = S.1 205 := st3.s (by decide)
  have xcC := xcA.fk st3.1
  have xsS := xs.fk st3.2.1
  refine Or.inl ⟨rfl, ⟨(st3.low (by omega)).here, ?_, ?_, ?_, ?_, ⟨x30, by omega, by omega, by rw [st3.c (by decide), us_same, g_upd, if_neg (by decide), u_ne (by decide), u_ne (by decide), u_ne (by decide), u_ne (by decide)]; exact c0⟩, (np.of (A := uI (uI (uI (uI (uI C 87 3 (nI d)) (76 + 1) z 11) (76 + 5) z (nI a0)) (76 + 5) a0 (nI z)) 76 1 (nI (z + 1))) (by
    have xc : XN C C := XN.rf
    exact (by repeat' first | exact xc | refine XN.u ?_ (by omega))) XS.rf).fk st3.1 st3.2.1, xcC, xsS⟩, ?_, ?_, ?_, fun c k h1 h2 h3 h4 => ?_, ?_, oS⟩
  · rw [st3.c (by decide), u_at]
  · rw [st3.c (by decide), us_same, g_upd, if_neg (by decide), u_ne (by decide), u_ne (by decide), u_ne (by decide), u_ne (by decide)]; exact c2
  · rw [st3.c (by decide), u_ne (by decide), u_ne (by decide), u_ne (by decide), u_ne (by decide), u_at]
  · rw [st3.s200 (by omega)]; exact s26
  · rw [st3.c (by decide), u_ne (by decide), u_ne (by decide), u_ne (by decide)]
    exact u_at _ _ _ _
  · rw [st3.c (by decide), u_ne (by decide)]
    show (uI (uI (uI (uI C 87 3 (nI d)) (76 + 1) z 11) (76 + 5) z (nI a0)) (76 + 5) a0 (nI z)).1 (76 + 5) z = _
    rw [us_same, g_upd, if_neg (by omega), u_at]
  · rw [st3.c (by decide), u_ne (by decide)]
    exact u_at _ _ _ _
  · rw [st3.c (by omega), u_ne (by omega)]
    by_cases q : c = 81
    · subst q
      show (uI (uI (uI (uI C 87 3 (nI d)) (76 + 1) z 11) (76 + 5) z (nI a0)) (76 + 5) a0 (nI z)).1 (76 + 5) k = _
      rw [us_same, g_upd, if_neg (by omega), us_same, g_upd, if_neg (by omega), u_ne (by decide), u_ne (by decide)]
    · rw [u_ne (by omega), u_ne (by omega)]
      by_cases q2 : c = 77
      · subst q2
        show (uI (uI C 87 3 (nI d)) (76 + 1) z 11).1 (76 + 1) k = _
        rw [us_same, g_upd, if_neg (by omega), u_ne (by decide)]
      · rw [u_ne (by omega), u_ne (by omega)]
  · rw [st3.c (by decide), u_ne (by decide), u_ne (by decide), u_ne (by decide), u_ne (by decide), u_ne (by decide)]
/-- what reading one step comes to -/
def StepAt (N n : Nat) (B : Nat → Nat) (v : Nat → Nat) (C0 S0 : Mem) (D d : Nat) : Prop := ∀ lo x z C S i, NS n B v C0 S0 lo d x z C S → i ≤ lo → (C.1 82 2 = 0 → 0 < d) → (0 < d → qW 21 S = false) →
  (∃ i' lo' x' z' C' S', Lp N i C = Lp N i' C' ∧ f_X12_readStep N D (nI d) S = some S' ∧ NS n B v C0 S0 lo' d x' z' C' S' ∧ i' ≤ lo' ∧ lo < lo' ∧ It C' 76 (U v S') (BB C' 76 (U v S') (3 - d)) x x' z z' ∧ Fz z d x C C' S S') ∨
  (∃ C' S', Lp N i C = some (false, C') ∧ f_X12_readStep N D (nI d) S = some S' ∧ XFn n C0 S0 C' S')
theorem NS.lo_n (h : NS n B v C0 S0 lo d x z C S) : lo ≤ n := by
  obtain ⟨a, h1, h2, -⟩ := h.1.2.2.2.2.2.2.2.2.1
  omega
theorem NS.lt_n (h : NS n B v C0 S0 lo d x z C S) (hk : ¬ C.1 82 2 = 0) : lo < n := by
  have n9 := h.1.n9
  obtain ⟨a, l1, l2, l3⟩ := h.1.2.2.2.2.2.2.2.2.1
  obtain ⟨a', z, k, t1, t2, t3, t4, t5, t6, t7, t8, t9, t10⟩ := h.1.tk
  have := t3 (fun y => hk (by rw [t8, y]; rfl))
  rw [t4, n_eq (by omega)] at l3
  omega
/-- what stands within a when, a loop, up to its end -/
theorem n_body {D x0 a0 : Nat} (hN : 1000 < N) (hn : n ≤ 300) (hd : d < 3) (ih : StepAt N n B v C0 S0 D (d + 1)) : ∀ m lo x z C S i G, n + 1 - lo ≤ m → m < G → NS n B v C0 S0 lo (d + 1) x z C S → i ≤ lo → x0 < x → a0 < z → C.1 88 d = nI a0 → SqL C 76 (U v S) (BB C 76 (U v S) (2 - d)) (x - (x0 + 1)) (x0 + 1) x (a0 + 1) z →
    (∃ i' lo' x' z' C' S', Lp N i C = Lp N i' C' ∧ lp (fun k (a : Int32 × Int32 × Int32) m => f_X12_readStep_h141 N (f_X12_readStep N D) k a.1 a.2.1 a.2.2 m) G (nI d, nI 1, nI (1905 + 9 * x0)) S = f_X12_readStep_b191 N (f_X12_readStep N D) (nI (1905 + 9 * x0)) S' ∧ NS n B v C0 S0 lo' d x' (z' + 1) C' S' ∧ i' ≤ lo' ∧ lo < lo' ∧ x0 < x' ∧ a0 < z' ∧ z ≤ z' ∧ SqL C' 76 (U v S') (BB C' 76 (U v S') (2 - d)) 60 (x0 + 1) x' (a0 + 1) z' ∧ C'.1 77 z' = nI 11 ∧ C'.1 81 z' = nI a0 ∧ C'.1 81 a0 = nI z' ∧ (∀ c k, 77 ≤ c → c < 82 → k < z → ¬ (c = 81 ∧ k = a0) → C'.1 c k = C.1 c k) ∧ (∀ j, j < d → C'.1 88 j = C.1 88 j) ∧ (∀ k, k < 1905 + 9 * x → S'.1 205 k = S.1 205 k)) ∨
    (∃ C' S', Lp N i C = some (false, C') ∧ lp (fun k (a : Int32 × Int32 × Int32) m => f_X12_readStep_h141 N (f_X12_readStep N D) k a.1 a.2.1 a.2.2 m) G (nI d, nI 1, nI (1905 + 9 * x0)) S = some S' ∧ XFn n C0 S0 C' S') := by
  intro m
  induction m with
  | zero =>
    intro lo x z C S i G h1 _ ns
    have := ns.lo_n
    omega
  | succ m im =>
    intro lo x z C S i G h1 hG ns hi hx ha h88 sq
    have x30 := ns.2.2.2.2.2.1.1
    have ln := ns.lo_n
    obtain ⟨G, rfl⟩ : ∃ F, G = F + 1 := ⟨G - 1, by omega⟩
    have eL : lp (fun k (a : Int32 × Int32 × Int32) m => f_X12_readStep_h141 N (f_X12_readStep N D) k a.1 a.2.1 a.2.2 m) (G + 1) (nI d, nI 1, nI (1905 + 9 * x0)) S = if b2i (qW 21 S) = 0 then (bv (f_X12_readStep N D (nI (d + 1)) S) fun M => lp (fun k (a : Int32 × Int32 × Int32) m => f_X12_readStep_h141 N (f_X12_readStep N D) k a.1 a.2.1 a.2.2 m) G (nI d, nI 1, nI (1905 + 9 * x0)) M) else f_X12_readStep_b169 N (f_X12_readStep N D) (nI 1) (nI (1905 + 9 * x0)) S := by
      show f_X12_readStep_h141 N (f_X12_readStep N D) _ (nI d) (nI 1) (nI (1905 + 9 * x0)) S = _
      unfold f_X12_readStep_h141
      rw [if_neg (by decide), ns.1.s12, if_pos rfl, m_21, bi_s, nw]
    rw [eL]
    cases q : qW 21 S with
    | true =>
      rw [if_neg (by decide)]
      have k1 : ¬ C.1 82 2 = 0 := by rw [ns.1.q1 q]; decide
      have ltn := ns.lt_n k1
      obtain ⟨b, C1, S1, e1, e2, hh⟩ := n_end (rc := f_X12_readStep N D) (x0 := x0) hN ns q h88 ha (by omega)
      rw [Lp_go hN (by omega) ns.1.c6 k1 (c_word hN (by decide) (wG_at (by decide) (by decide)) ns.1.tx ns.1.tk), q, if_pos rfl, e1, bi_s, e2]
      rcases hh with ⟨rfl, ns1, f1, f2, f3, f4, f5, f6⟩ | ⟨rfl, xf⟩
      · refine Or.inl ⟨i + 1, lo + 1, x, z, C1, S1, rfl, rfl, ns1, by omega, by omega, hx, ha, Nat.le_refl _, ?_, f1, f2, f3, f4, fun j _ => by rw [f5], fun k _ => by rw [f6]⟩
        have hc : ∀ j k, 1 ≤ j → j < 6 → a0 + 1 ≤ k → k < z → C1.1 (76 + j) k = C.1 (76 + j) k := fun j k j1 j2 k1 k2 => f4 _ k (by omega) (by omega) k2 (by omega)
        exact (SqU hc (fun k _ _ => by rw [f6]) sq).mono (by omega)
      · refine Or.inr ⟨C1, _, Lp_bad hN (by omega) xf, b191_e (by omega), xf.us (by omega)⟩
    | false =>
      rw [if_pos b2i_f]
      rcases ih lo x z C S i ns hi (fun _ => by omega) (fun _ => q) with ⟨i1, lo1, x1, z1, C1, S1, e1, e2, ns1, g1, g2, it, fz⟩ | ⟨C1, S1, e1, e2, xf⟩
      · rw [e1, e2, bv_s]
        have hx1 := it.1
        have hz1 := it.2.1
        have hc : ∀ j k, 1 ≤ j → j < 6 → a0 + 1 ≤ k → k < z → C1.1 (76 + j) k = C.1 (76 + j) k := fun j k j1 j2 k1 k2 => fz.1 _ k (by omega) (by omega) k2
        have sq1 := SqU (C1 := C1) (S1 := S1) hc (fun k _ h => fz.2.2 _ (by omega)) sq
        rw [show 3 - (d + 1) = 2 - d by omega] at it
        have sq2 := (SqL.snoc _ _ _ _ _ sq1 it).mono (m := x1 - (x0 + 1)) (by omega)
        have y88 : C1.1 88 d = nI a0 := by rw [fz.2.1 d (by omega)]; exact h88
        rcases im lo1 x1 z1 C1 S1 i1 G (by omega) (by omega) ns1 g1 (by omega) (by omega) y88 sq2 with ⟨i2, lo2, x2, z2, C2, S2, r1, r2, r3, r4, r5, r6, r7, r8, r9, r10, r11, r12, r13, r14, r15⟩ | r
        · refine Or.inl ⟨i2, lo2, x2, z2, C2, S2, r1, r2, r3, r4, by omega, r6, r7, by omega, r9, r10, r11, r12, fun c k h1 h2 h3 h4 => ?_, fun j hj => ?_, fun k hk => ?_⟩
          · rw [r13 c k h1 h2 (by omega) h4]; exact fz.1 c k h1 h2 h3
          · rw [r14 j hj]; exact fz.2.1 j (by omega)
          · rw [r15 k (by omega)]; exact fz.2.2 k hk
        · exact Or.inr r
      · rw [e1, e2, bv_s, h141_bad (by omega) xf.bd (by omega)]
        exact Or.inr ⟨C1, _, rfl, rfl, xf.us (by omega)⟩
end Q18
