section Q15
variable {N n lo x z : Nat} {A Z A' Z' C S C0 S0 : Mem} {B : Nat → Nat} {v : Nat → Nat}
/-- what reading nights leaves alone -/
def XN (C0 C : Mem) : Prop := ∀ c, ¬ (76 ≤ c ∧ c < 83) → ¬ (87 ≤ c ∧ c < 90) → C.1 c = C0.1 c ∧ C.2 c = C0.2 c
theorem XN.rf : XN C0 C0 := fun _ _ _ => ⟨rfl, rfl⟩
theorem XN.u (h : XN C0 C) {c k : Nat} {y : Int32} (hc : (76 ≤ c ∧ c < 83) ∨ (87 ≤ c ∧ c < 90)) : XN C0 (uI C c k y) := fun a a1 a2 => ⟨by rw [u_ne (by omega)]; exact (h a a1 a2).1, (h a a1 a2).2⟩
theorem XN.fk (h : XN C0 A) (f : FkC A C) : XN C0 C := fun c c1 c2 => ⟨by rw [f.2.1 c (by omega)]; exact (h c c1 c2).1, by rw [f.1]; exact (h c c1 c2).2⟩
def XFn (n : Nat) (C0 S0 C S : Mem) : Prop := (∃ f a, 1 ≤ f ∧ f ≤ 7 ∧ a ≤ n ∧ C.1 82 6 = nI f ∧ C.1 82 7 = nI a ∧ S.1 200 12 = nI f ∧ S.1 200 13 = nI a) ∧ XN C0 C ∧ XS S0 S
theorem Fl.xn (h : Fl n A Z C S) (hc : XN C0 A) (hs : XS S0 Z) : XFn n C0 S0 C S := by
  have hx := h.xf (C0 := A) (S0 := S0) XC.rf hs
  obtain ⟨f, a, f1, f2, f3, f4, f5, f6, f7, f8, f9, -⟩ := h
  exact ⟨⟨f, a, f1, f2, f3, f4, f5, f6, f7⟩, fun c c1 c2 => ⟨by rw [f9 c (by omega)]; exact (hc c c1 c2).1, by rw [f8]; exact (hc c c1 c2).2⟩, hx.2.2⟩
theorem XFn.us (h : XFn n C0 S0 C S) {k : Nat} {y : Int32} (hk : 1740 ≤ k) : XFn n C0 S0 C (uI S 205 k y) := by
  obtain ⟨a, b, c⟩ := h
  exact ⟨by rw [u_ne (by decide)]; exact a, b, c.u hk⟩
theorem XFn.bd (h : XFn n C0 S0 C S) : Bd S := by
  obtain ⟨⟨f, a, f1, f2, f3, f4, f5, f6, f7⟩, -⟩ := h
  unfold Bd
  rw [f6]
  refine ⟨?_, ?_, ?_⟩
  · rw [show (0 : Int32) = nI 0 from rfl, n_lt (by omega)]; omega
  · rw [show (0 : Int32) = nI 0 from rfl, n_le (by omega)]; omega
  · rw [show (0 : Int32) = nI 0 from rfl, n_eq (by omega)]; omega
/-- what one step writes -/
def FA (z : Nat) (A A' : Mem) : Prop := A'.2 = A.2 ∧ (∀ c, c ≠ 77 → c ≠ 78 → c ≠ 79 → c ≠ 80 → c ≠ 89 → A'.1 c = A.1 c) ∧ ∀ c k, k ≠ z → c ≠ 89 → A'.1 c k = A.1 c k
def FZ (x : Nat) (Z Z' : Mem) : Prop := Z'.2 = Z.2 ∧ (∀ c, c ≠ 205 → Z'.1 c = Z.1 c) ∧ ∀ k, k ≤ 1905 + 9 * x ∨ 1913 + 9 * x ≤ k → Z'.1 205 k = Z.1 205 k
theorem FA.rf : FA z A A := ⟨rfl, fun _ _ _ _ _ _ => rfl, fun _ _ _ _ => rfl⟩
theorem FZ.rf : FZ x Z Z := ⟨rfl, fun _ _ => rfl, fun _ _ => rfl⟩
theorem FA.u (h : FA z A A') {c : Nat} {y : Int32} (hc : 77 ≤ c ∧ c ≤ 80) : FA z A (uI A' c z y) := ⟨h.1, fun a h1 h2 h3 h4 h5 => by rw [u_ne (by omega)]; exact h.2.1 a h1 h2 h3 h4 h5, fun a k h1 h2 => by
  by_cases g : a = c
  · subst g
    rw [us_same, g_upd, if_neg h1]
    exact h.2.2 a k h1 h2
  · rw [u_ne g]
    exact h.2.2 a k h1 h2⟩
theorem FA.p (h : FA z A A') {k : Nat} {y : Int32} : FA z A (uI A' 89 k y) := ⟨h.1, fun a h1 h2 h3 h4 h5 => by rw [u_ne h5]; exact h.2.1 a h1 h2 h3 h4 h5, fun a j h1 h2 => by rw [u_ne h2]; exact h.2.2 a j h1 h2⟩
theorem FZ.u (h : FZ x Z Z') {k : Nat} {y : Int32} (hk : 1905 + 9 * x < k ∧ k < 1913 + 9 * x) : FZ x Z (uI Z' 205 k y) := ⟨h.1, fun c hc => by rw [u_ne hc]; exact h.2.1 c hc, fun j hj => by rw [us_same, g_upd, if_neg (by omega)]; exact h.2.2 j hj⟩
/-- the port whose nights are read -/
def NPt (v : Nat → Nat) (A Z : Mem) : Prop := v 0 ≤ 6 ∧ v 1 ≤ 5 ∧ v 2 ≤ 6 ∧ A.1 10 0 = nI (v 0) ∧ A.1 10 1 = nI (v 1) ∧ A.1 10 7 = nI (v 2) ∧ Z.1 205 0 = nI (v 0) ∧ Z.1 205 1 = nI (v 1) ∧ Z.1 205 2 = nI (v 2) ∧ ∀ g, g < v 2 → A.2 12 g = Z.2 208 g
theorem NPt.of (h : NPt v C0 S0) (hc : XN C0 A) (hs : XS S0 Z) : NPt v A Z := by
  obtain ⟨a, b, c, d, e, f, g, i, j, k⟩ := h
  have h10 := (hc 10 (by omega) (by omega)).1
  have h12 := (hc 12 (by omega) (by omega)).2
  exact ⟨a, b, c, by rw [h10]; exact d, by rw [h10]; exact e, by rw [h10]; exact f, by rw [hs.2.1 0 (by omega)]; exact g, by rw [hs.2.1 1 (by omega)]; exact i, by rw [hs.2.1 2 (by omega)]; exact j, fun q hq => by rw [h12, hs.2.2.1 q (by omega)]; exact k q hq⟩
/-- the rest of a step, of both -/
def Rst (n : Nat) (B : Nat → Nat) (lo : Nat) (v : Nat → Nat) (x z : Nat) (A Z : Mem) (o : Option (Bool × Mem)) (o' : Option Mem) : Prop := ∃ b C' S', o = some (b, C') ∧ o' = some S' ∧ ((b = true ∧ ∃ A' Z', St n B lo A' Z' C' S' ∧ FA z A A' ∧ FZ x Z Z' ∧ StOK A' 76 (U v Z') x z) ∨ (b = false ∧ ∀ C0 S0, XN C0 A → XS S0 Z → XFn n C0 S0 C' S'))
theorem nw (a : Nat) : nI a + 1 = nI (a + 1) := nI_add a 1
theorem bis_id (o : Option (Bool × Mem)) : (bi o fun r M => some (r, M)) = o := bi_id o
/-- a number behind the step's word -/
theorem r_num {L H : Nat} (hN : 1000 < N) (st : St n B lo A Z C S) (hz : z < 60) (hx : x < 30) (sz : A.1 76 1 = nI z) (hL : L < 2147483648 ∧ H < 2147483648) (ok : ∀ r, L ≤ r → r ≤ H → r ≤ 9999 → StOK (uI A 78 z (nI r)) 76 (U v (uI Z 205 (1905 + 9 * x + 1) (nI r))) x z) : Rst n B lo v x z A Z (f_X8_takeNumber N 78 (C.1 76 1) (nI L) (nI H) C) (bi (f_X12_count N (nI L) (nI H) S) fun r M => ck (nI (1905 + 9 * x) + 1) 2175 (bM (uI M 205 (tn (nI (1905 + 9 * x) + 1)) r) fun M => some M)) := by
  rw [show C.1 76 1 = nI z by rw [st.c (by decide)]; exact sz, nw]
  obtain ⟨b, r, C1, S1, e1, e2, hh⟩ := st.num (p1 := 78) (i := z) (L := L) (H := H) hN ⟨by rw [ln_78]; omega, by rw [ln_78]; omega⟩ (by decide) hL
  rw [e1, e2, bi_s, ck_n (by omega), bM_e, t_n (by omega)]
  rcases hh with ⟨rfl, ⟨r1, r2⟩, r3, st1⟩ | ⟨rfl, rfl, fl⟩
  · obtain ⟨a, b, c, d, e, f, g, h, ⟨y, i1, i2⟩, j⟩ := st1.us (c := 205) (k := 1905 + 9 * x + 1) (x := nI r) (by decide)
    exact ⟨_, _, _, rfl, rfl, Or.inl ⟨rfl, _, _, ⟨a, b, c, d, e, f, g, h, ⟨y, by omega, i2⟩, j⟩, FA.rf.u (by omega), FZ.rf.u (by omega), ok r r1 r2 r3⟩⟩
  · exact ⟨_, _, _, rfl, rfl, Or.inr ⟨rfl, fun C0 S0 xc xs => (fl.xn xc xs).us (by omega)⟩⟩
/-- the class's search for a gate -/
theorem gate_lp {V : Nat} {w : Int64} (hN : 1000 < N) (hV : V ≤ 6) (h7 : C.1 10 7 = nI V) (h1 : C.1 76 1 = nI z) (hz : z < 60) : lp (fun k (a : Int64 × Int32) M => f_X4_readGateName_h30 N 76 10 k a.1 a.2 M) N (w, 0) C = if (∃ g, g < V ∧ C.2 12 g = w) then (bv (f_X8_advance N (uI C 78 z (nI (fa_first (fun g => decide (C.2 12 g = w)) V)))) fun M => some (true, M)) else (bi (f_X8_refuse 3 C) fun r M => some (r, M)) := by
  have key : ∀ d i F, i + d = V → d < F → (∀ j, j < i → C.2 12 j ≠ w) → lp (fun k (a : Int64 × Int32) M => f_X4_readGateName_h30 N 76 10 k a.1 a.2 M) F (w, nI i) C = if (∃ g, g < V ∧ C.2 12 g = w) then (bv (f_X8_advance N (uI C 78 z (nI (fa_first (fun g => decide (C.2 12 g = w)) V)))) fun M => some (true, M)) else (bi (f_X8_refuse 3 C) fun r M => some (r, M)) := by
    intro d
    induction d with
    | zero =>
      intro i F hi hF hno
      obtain ⟨F, rfl⟩ : ∃ G, F = G + 1 := ⟨F - 1, by omega⟩
      show f_X4_readGateName_h30 N 76 10 _ w (nI i) C = _
      unfold f_X4_readGateName_h30
      rw [h7, if_pos (by rw [n_le (by omega)]; omega), if_neg]
      rintro ⟨j, j1, j2⟩
      exact hno j (by omega) j2
    | succ d ih =>
      intro i F hi hF hno
      obtain ⟨F, rfl⟩ : ∃ G, F = G + 1 := ⟨F - 1, by omega⟩
      show f_X4_readGateName_h30 N 76 10 (lp (fun k (a : Int64 × Int32) M => f_X4_readGateName_h30 N 76 10 k a.1 a.2 M) F) w (nI i) C = _
      unfold f_X4_readGateName_h30
      rw [h7, if_neg (by rw [n_le (by omega)]; omega), ck_n (by omega), t_n (by omega)]
      by_cases q : C.2 12 i = w
      · have ff : fa_first (fun g => decide (C.2 12 g = w)) V = i := by
          have a1 := fa_first_no (fun g => decide (C.2 12 g = w)) V
          have a2 := fa_first_yes (fun g => decide (C.2 12 g = w)) V
          have a3 := fa_first_le (fun g => decide (C.2 12 g = w)) V
          rcases Nat.lt_trichotomy (fa_first (fun g => decide (C.2 12 g = w)) V) i with l | l | l
          · have := a2 (by omega)
            rw [decide_eq_true_eq] at this
            exact absurd this (hno _ l)
          · exact l
          · have := a1 i l
            rw [decide_eq_false_iff_not] at this
            exact absurd q this
        rw [if_pos (by rw [lg_eq0]; exact q), if_pos ⟨i, by omega, q⟩, h1, ck_n (by omega), bM_e, t_n (by omega), ff]
      · rw [if_neg (by rw [lg_eq0]; exact q), n_addl]
        refine ih (i + 1) F (by omega) (by omega) fun j hj => ?_
        by_cases e : j = i
        · subst e; exact q
        · exact hno j (by omega)
  exact key V 0 N (by omega) (by omega) fun j hj => by omega
/-- a gate's name -/
theorem r_gate (hN : 1000 < N) (st : St n B lo A Z C S) (hz : z < 60) (hx : x < 30) (sz : A.1 76 1 = nI z) (np : NPt v A Z) (ok : ∀ r, r < v 2 → StOK (uI A 78 z (nI r)) 76 (U v (uI Z 205 (1905 + 9 * x + 1) (nI r))) x z) : Rst n B lo v x z A Z (f_X4_readGateName N 76 10 C) (bi (f_X12_readToldGate N S) fun r M => ck (nI (1905 + 9 * x) + 1) 2175 (bM (uI M 205 (tn (nI (1905 + 9 * x) + 1)) r) fun M => some M)) := by
  obtain ⟨v0, v1, v2, d0, d1, d7, z0, z1, z2, nms⟩ := np
  have n9 := st.n9
  rw [nw]
  unfold f_X4_readGateName f_X12_readToldGate
  rw [c_name hN st.tx st.tk, bi_s, m_name, st.s12, if_pos rfl, bi_s, show (decide (S.1 200 14 = 1 ∧ ¬ 8 < S.1 200 18) && !kp S) = nm S from rfl]
  cases q : nm S with
  | false =>
    obtain ⟨C1, S1, e1, e2, fl⟩ := st.no
    rw [if_pos b2i_f, if_pos b2i_f, e1, bi_s, e2, bv_s]
    unfold f_X12_readToldGate_b18
    rw [if_neg fl.bd.2.1, bi_s, ck_n (by omega), bM_e, t_n (by omega)]
    exact ⟨_, _, _, rfl, rfl, Or.inr ⟨rfl, fun C0 S0 xc xs => (fl.xn xc xs).us (by omega)⟩⟩
  | true =>
    obtain ⟨a, m, m1, m8, amn, f2, f3, f4, fl', f19⟩ := nm_is n9 st.tk q
    rw [if_neg (by decide), if_neg (by decide), c_code hN st.tx f3 f4 amn fl', bi_s, ← f19]
    unfold f_X12_readToldGate_b18
    have h7 : C.1 10 7 = nI (v 2) := by rw [st.c (by decide)]; exact d7
    have h1 : C.1 76 1 = nI z := by rw [st.c (by decide)]; exact sz
    have h2 : S.1 205 (435 * 0 + 2 + 0) = nI (v 2) := by rw [st.s (by decide)]; exact z2
    have nm2 : ∀ g, g < v 2 → C.2 12 g = S.2 208 g := fun g hg => by rw [st.c2, st.s2 (by decide)]; exact nms g hg
    rw [gate_lp hN v2 h7 h1 hz, st.s12, if_pos (show (0 : Int32) ≤ 0 by decide)]
    obtain ⟨r, er, hr⟩ := named_is (S := S) (bl := 0) (s := 0) (cnt := v 2) hN (by omega) (by omega) h2
    have er : f_X12_named N 0 0 S = some (r, S) := er
    rw [er, bi_s]
    rcases hr with ⟨rfl, hr⟩ | ⟨k, k1, rfl, k2, k3⟩
    · have no : ¬ ∃ g, g < v 2 ∧ C.2 12 g = S.2 200 19 := by
        rintro ⟨g, g1, g2⟩
        refine hr g g1 ?_
        rw [show 22 * 0 + 6 * 0 + g = g by omega, ← nm2 g g1]
        exact g2
      obtain ⟨C1, S1, e1, e2, fl⟩ := st.bad (x := 3) f2 (by omega) (by omega)
      have e1 : f_X8_refuse 3 C = some (false, C1) := e1
      have e2 : f_X12_fail 3 (S.1 200 15) S = some S1 := e2
      rw [if_neg no, e1, bi_s, if_neg (by decide), e2, bv_s, b_must fl.bd, bv_s, bi_s, ck_n (by omega), bM_e, t_n (by omega)]
      exact ⟨_, _, _, rfl, rfl, Or.inr ⟨rfl, fun C0 S0 xc xs => (fl.xn xc xs).us (by omega)⟩⟩
    · have k2' : C.2 12 k = S.2 200 19 := by
        have e : 22 * 0 + 6 * 0 + k = k := by omega
        rw [e] at k2
        rw [nm2 k k1]
        exact k2
      have ff : fa_first (fun g => decide (C.2 12 g = S.2 200 19)) (v 2) = k := by
        have a1 := fa_first_no (fun g => decide (C.2 12 g = S.2 200 19)) (v 2)
        have a2 := fa_first_yes (fun g => decide (C.2 12 g = S.2 200 19)) (v 2)
        have a3 := fa_first_le (fun g => decide (C.2 12 g = S.2 200 19)) (v 2)
        rcases Nat.lt_trichotomy (fa_first (fun g => decide (C.2 12 g = S.2 200 19)) (v 2)) k with l | l | l
        · have := a2 (by omega)
          rw [decide_eq_true_eq, nm2 _ (by omega)] at this
          refine absurd ?_ (k3 _ l)
          rw [show ∀ y, 22 * 0 + 6 * 0 + y = y from fun y => by omega]
          exact this
        · exact l
        · have := a1 k l
          rw [decide_eq_false_iff_not] at this
          exact absurd k2' this
      rw [if_pos ⟨k, k1, k2'⟩, ff, if_pos (show 0 ≤ nI k by rw [show (0 : Int32) = nI 0 from rfl, n_le (by omega)]; omega)]
      have st1 := st.uc (c := 78) (k := z) (x := nI k) (by decide)
      obtain ⟨C1, S1, e1, e2, st2⟩ := st1.go hN (by rw [u_ne (by decide), f2]; decide)
      have em : f_X12_must N 1 S = some S1 := by
        unfold f_X12_must
        rw [st.s12, if_pos (by decide), if_neg (by decide), e2, bv_s]
      have ei : imax 0 (nI k) = nI k := by
        rw [show (0 : Int32) = nI 0 from rfl, n_max (by omega)]
        congr 1
      rw [e1, bv_s, em, bv_s, ei, bi_s, ck_n (by omega), bM_e, t_n (by omega)]
      obtain ⟨a, b, c, d, e, f, g, h, ⟨y, i1, i2⟩, j⟩ := st2.us (c := 205) (k := 1905 + 9 * x + 1) (x := nI k) (by decide)
      exact ⟨_, _, _, rfl, rfl, Or.inl ⟨rfl, _, _, ⟨a, b, c, d, e, f, g, h, ⟨y, by omega, i2⟩, j⟩, FA.rf.u (by omega), FZ.rf.u (by omega), ok k k1⟩⟩
end Q15
