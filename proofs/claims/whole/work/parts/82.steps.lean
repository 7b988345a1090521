section Q3
variable {N n lo : Nat} {A Z C S : Mem} {B : Nat → Nat}
/-- both read on, no fault so far; A, Z: the memories, but for what the scanner touches -/
def St (n : Nat) (B : Nat → Nat) (lo : Nat) (A Z C S : Mem) : Prop := FkC A C ∧ FkS Z S ∧ TxR C S n B ∧ C.1 82 1 = nI n ∧ S.1 200 9 = nI n ∧ C.1 82 6 = 0 ∧ S.1 200 12 = 0 ∧ C.1 82 7 = -1 ∧ (∃ a, lo ≤ a ∧ a ≤ n ∧ C.1 82 3 = nI a) ∧ Tk C S n B
/-- a fault is told, of both alike -/
def Fl (n : Nat) (A Z C S : Mem) : Prop := ∃ f a, 1 ≤ f ∧ f ≤ 7 ∧ a ≤ n ∧ C.1 82 6 = nI f ∧ C.1 82 7 = nI a ∧ S.1 200 12 = nI f ∧ S.1 200 13 = nI a ∧ C.2 = A.2 ∧ (∀ c, c ≠ 82 → C.1 c = A.1 c) ∧ (∀ c, c ≠ 200 → S.1 c = Z.1 c ∧ S.2 c = Z.2 c) ∧ (∀ j, j < 12 ∨ 18 < j → S.1 200 j = Z.1 200 j) ∧ ∀ j, j ≠ 19 → S.2 200 j = Z.2 200 j
theorem St.n9 (st : St n B lo A Z C S) : n ≤ 900 := st.2.2.1.1
theorem St.tx (st : St n B lo A Z C S) : TxR C S n B := st.2.2.1
theorem St.tk (st : St n B lo A Z C S) : Tk C S n B := st.2.2.2.2.2.2.2.2.2
theorem St.s12 (st : St n B lo A Z C S) : S.1 200 12 = 0 := st.2.2.2.2.2.2.1
theorem St.c6 (st : St n B lo A Z C S) : C.1 82 6 = 0 := st.2.2.2.2.2.1
theorem St.c (st : St n B lo A Z C S) {c : Nat} (hc : c ≠ 82) : C.1 c = A.1 c := st.1.2.1 c hc
theorem St.c2 (st : St n B lo A Z C S) : C.2 = A.2 := st.1.1
theorem St.s (st : St n B lo A Z C S) {c : Nat} (hc : c ≠ 200) : S.1 c = Z.1 c := (st.2.1.1 c hc).1
theorem St.s2 (st : St n B lo A Z C S) {c : Nat} (hc : c ≠ 200) : S.2 c = Z.2 c := (st.2.1.1 c hc).2
theorem St.s200 (st : St n B lo A Z C S) {j : Nat} (hj : j < 14 ∨ 18 < j) : S.1 200 j = Z.1 200 j := st.2.1.2.1 j hj
/-- start anew from here -/
theorem St.here (st : St n B lo A Z C S) : St n B lo C S C S := ⟨FkC.rf, FkS.rf, st.2.2⟩
theorem St.uc (st : St n B lo A Z C S) {c k : Nat} {x : Int32} (hc : c ≠ 82 ∧ c ≠ 1) : St n B lo (uI A c k x) Z (uI C c k x) S := by
  obtain ⟨⟨a1, a2, a3⟩, b, ⟨d1, d2⟩, e1, e2, e3, e4, e5, e6, e7⟩ := st
  have h1 : (uI C c k x).1 1 = C.1 1 := u_ne (Ne.symm hc.2)
  have h82 : (uI C c k x).1 82 = C.1 82 := u_ne (Ne.symm hc.1)
  refine ⟨⟨a1, fun y hy => ?_, fun j hj => ?_⟩, b, ⟨d1, by rw [h1]; exact d2⟩, by rw [h82]; exact e1, e2, by rw [h82]; exact e3, e4, by rw [h82]; exact e5, by rw [h82]; exact e6, ?_⟩
  · rw [g_uI, g_uI, a2 y hy, a2 c hc.1]
  · rw [h82, u_ne (Ne.symm hc.1)]
    exact a3 j hj
  · unfold Tk
    rw [h82]
    exact e7
theorem St.uc2 (st : St n B lo A Z C S) {c k : Nat} {x : Int64} : St n B lo (uL A c k x) Z (uL C c k x) S := by
  obtain ⟨⟨a1, a2, a3⟩, b, d, e⟩ := st
  exact ⟨⟨by show (fun a => _) = (fun a => _); funext a; rw [show (uL C c k x).2 a = _ from g_uL .., a1]; rfl, a2, a3⟩, b, d, e⟩
theorem St.us (st : St n B lo A Z C S) {c k : Nat} {x : Int32} (hc : c ≠ 200 ∧ c ≠ 204) : St n B lo A (uI Z c k x) C (uI S c k x) := by
  obtain ⟨a, ⟨b1, b2, b3⟩, ⟨d1, d2⟩, e1, e2, e3, e4, e5, e6, e7⟩ := st
  have h4 : (uI S c k x).1 204 = S.1 204 := u_ne (Ne.symm hc.2)
  have h200 : (uI S c k x).1 200 = S.1 200 := u_ne (Ne.symm hc.1)
  refine ⟨a, ⟨fun y hy => ⟨?_, (b1 y hy).2⟩, fun j hj => ?_, b3⟩, ⟨d1, by rw [h4]; exact d2⟩, e1, by rw [h200]; exact e2, e3, by rw [h200]; exact e4, e5, e6, ?_⟩
  · rw [g_uI, g_uI, (b1 y hy).1, (b1 c hc.1).1]
  · rw [h200, u_ne (Ne.symm hc.1)]
    exact b2 j hj
  · unfold Tk
    rw [h200]
    exact e7
theorem St.us2 (st : St n B lo A Z C S) {c k : Nat} {x : Int64} (hc : c ≠ 200) : St n B lo A (uL Z c k x) C (uL S c k x) := by
  obtain ⟨a, ⟨b1, b2, b3⟩, d, e1, e2, e3, e4, e5, e6, e7⟩ := st
  have h200 : (uL S c k x).2 200 = S.2 200 := by rw [g_uL, if_neg (Ne.symm hc)]
  refine ⟨a, ⟨fun y hy => ⟨(b1 y hy).1, ?_⟩, b2, fun j hj => ?_⟩, d, e1, e2, e3, e4, e5, e6, ?_⟩
  · rw [g_uL, g_uL, (b1 y hy).2, (b1 c hc).2]
  · rw [h200, g_uL, if_neg (Ne.symm hc)]
    exact b3 j hj
  · unfold Tk
    rw [h200]
    exact e7
/-- a cell of the model's object that the scanner does not touch -/
theorem St.u200 (st : St n B lo A Z C S) {k : Nat} {x : Int32} (hk : 18 < k) : St n B lo A (uI Z 200 k x) C (uI S 200 k x) := by
  obtain ⟨a, ⟨b1, b2, b3⟩, ⟨d1, d2⟩, e1, e2, e3, e4, e5, e6, e7⟩ := st
  have h : ∀ j, j ≠ k → (uI S 200 k x).1 200 j = S.1 200 j := fun j hj => by rw [us_same, g_upd, if_neg hj]
  refine ⟨a, ⟨fun y hy => ⟨?_, (b1 y hy).2⟩, fun j hj => ?_, b3⟩, ⟨d1, by rw [u_ne (by decide)]; exact d2⟩, e1, by rw [h 9 (by omega)]; exact e2, e3, by rw [h 12 (by omega)]; exact e4, e5, e6, ?_⟩
  · rw [u_ne hy, u_ne hy]; exact (b1 y hy).1
  · rw [us_same, us_same, g_upd, g_upd]
    by_cases g : j = k
    · rw [if_pos g, if_pos g]
    · rw [if_neg g, if_neg g]; exact b2 j hj
  · unfold Tk
    rw [h 15 (by omega), h 16 (by omega), h 14 (by omega), h 18 (by omega), h 17 (by omega)]
    exact e7
/-- on to the next token -/
theorem St.go (hN : 1000 < N) (st : St n B lo A Z C S) (hk : C.1 82 2 ≠ 0) : ∃ C' S', f_X8_advance N C = some C' ∧ f_X12_advance N S = some S' ∧ St n B (lo + 1) A Z C' S' := by
  have n9 := st.n9
  obtain ⟨fa, fz, tx, e1, e2, e3, e4, e5, ⟨a0, l1, l2, l3⟩, tk⟩ := st
  have tk' := tk
  obtain ⟨a, z, k, t1, t2, t3, t4, t5, t6, t7, t8, t9, t10⟩ := tk
  have haz := t3 (fun y => hk (by rw [t8, y]; rfl))
  rw [t4, n_eq (by omega)] at l3
  obtain ⟨C', S', h1, h2, h3, h4, ⟨a1, m1, m2, m3⟩, h5⟩ := adv hN tx e1 e2 t6 t7 t2
  exact ⟨C', S', h1, h2, fa.tr h3, fz.tr h4, tx.fk h3 h4, by rw [h3.2.2 1 (by omega)]; exact e1, by rw [h4.2.1 9 (by omega)]; exact e2, by rw [h3.2.2 6 (by omega)]; exact e3, by rw [h4.2.1 12 (by omega)]; exact e4, by rw [h3.2.2 7 (by omega)]; exact e5, ⟨a1, by omega, m2, m3⟩, h5⟩
theorem Fl.mk {f a : Nat} (st : St n B lo A Z C S) (hf : 1 ≤ f ∧ f ≤ 7) (ha : a ≤ n) : Fl n A Z (flC C f a) (flS S f a) := by
  obtain ⟨⟨a1, a2, a3⟩, ⟨b1, b2, b3⟩, -⟩ := st
  refine ⟨f, a, hf.1, hf.2, ha, ?_, u_at _ _ _ _, ?_, u_at _ _ _ _, a1, fun c hc => ?_, fun c hc => ⟨?_, (b1 c hc).2⟩, fun j hj => ?_, b3⟩
  · unfold flC; rw [us_same, g_upd, if_neg (by decide), u_at]
  · unfold flS; rw [us_same, g_upd, if_neg (by decide), u_at]
  · unfold flC; rw [u_ne hc, u_ne hc]; exact a2 c hc
  · unfold flS; rw [u_ne hc, u_ne hc]; exact (b1 c hc).1
  · unfold flS
    by_cases g : j = 13
    · omega
    · rw [us_same, g_upd, if_neg g, us_same, g_upd, if_neg (by omega)]; exact b2 j (by omega)
/-- what should be there is not -/
theorem St.no (st : St n B lo A Z C S) : ∃ C' S', f_X8_refuse 2 C = some (false, C') ∧ f_X12_amiss S = some S' ∧ Fl n A Z C' S' := by
  obtain ⟨f, a, f1, f2, f3, f4, f5⟩ := fl_2 st.tk st.c6 st.s12
  exact ⟨_, _, f4, f5, Fl.mk st ⟨f1, by omega⟩ f3⟩
/-- it is there, but will not do -/
theorem St.bad (st : St n B lo A Z C S) {x k : Nat} (hk : C.1 82 2 = nI k) (hk4 : k < 4) (hx : 1 ≤ x ∧ x ≤ 7) : ∃ C' S', f_X8_refuse (nI x) C = some (false, C') ∧ f_X12_fail (nI x) (S.1 200 15) S = some S' ∧ Fl n A Z C' S' := by
  obtain ⟨a, f1, f2, f3, f4⟩ := fl_x (x := x) st.tk hk hk4 st.c6 st.s12
  exact ⟨_, _, f3, f4, Fl.mk st hx f1⟩
/-! with a fault told the model goes on, but no further -/
def Bd (S : Mem) : Prop := 0 < S.1 200 12 ∧ ¬ S.1 200 12 ≤ 0 ∧ ¬ S.1 200 12 = 0
theorem Fl.bd (h : Fl n A Z C S) : Bd S := by
  obtain ⟨f, a, f1, f2, f3, f4, f5, f6, f7⟩ := h
  unfold Bd
  rw [f6]
  refine ⟨?_, ?_, ?_⟩
  · rw [show (0 : Int32) = nI 0 from rfl, n_lt (by omega)]; omega
  · rw [show (0 : Int32) = nI 0 from rfl, n_le (by omega)]; omega
  · rw [show (0 : Int32) = nI 0 from rfl, n_eq (by omega)]; omega
theorem Bd.u (c k : Nat) (x : Int32) (hc : c ≠ 200) (S : Mem) : Bd (uI S c k x) = Bd S := by
  unfold Bd
  rw [u_ne (Ne.symm hc)]
theorem b_must (h : Bd S) (x : Int32) : f_X12_must N x S = some S := by unfold f_X12_must; rw [if_neg h.2.1]
theorem b_perh (h : Bd S) (x : Int32) : f_X12_perhaps N x S = some (false, S) := by unfold f_X12_perhaps; rw [if_pos h.1]
theorem b_cnt (h : Bd S) (x y : Int32) : f_X12_count N x y S = some (nI 0, S) := by
  unfold f_X12_count f_X12_count_b19 f_X12_count_b50
  rw [if_neg h.2.2, if_neg h.2.2, if_neg h.2.1]
  rfl
theorem b_beh (h : Bd S) (x y z : Int32) : f_X12_behindWord N x y z S = some (nI 0, S) := by
  unfold f_X12_behindWord
  rw [b_must h, bv_s, b_cnt h, bi_s]
theorem b_fail (h : Bd S) (x y : Int32) : f_X12_fail x y S = some S := by unfold f_X12_fail; rw [if_neg h.2.1]
theorem b_amiss (h : Bd S) : f_X12_amiss S = some S := by
  unfold f_X12_amiss
  rw [b_fail h, b_fail h]
  by_cases g : S.1 200 14 = 4
  · rw [if_pos g]; rfl
  · rw [if_neg g]; rfl
theorem b_new (h : Bd S) {s m : Int32} {x : Nat} (hs : 1742 + s = nI x) (hx : x < 2175) : f_X12_readNew N s m S = some (nI 0, S) := by
  unfold f_X12_readNew f_X12_readNew_b26
  rw [hs, ck_n (by omega), b_fail h, bv_s, if_neg h.2.1]
  by_cases g : S.1 205 (tn (nI x)) = m
  · rw [if_pos g]; rfl
  · rw [if_neg g]; rfl
/-! one thing read -/
theorem St.kind (st : St n B lo A Z C S) : ∃ k, k ≤ 4 ∧ C.1 82 2 = nI k ∧ S.1 200 14 = nI k ∧ (k = 0 → C.1 82 3 = nI n) ∧ (k = 1 ∨ qW 0 S = qW 0 S) := by
  obtain ⟨a, z, k, t1, t2, t3, t4, t5, t6, t7, t8, t9, t10⟩ := st.tk
  refine ⟨k, by omega, t8, t9, fun h => ?_, Or.inr rfl⟩
  rcases t10 with ⟨q, e⟩ | ⟨q, -⟩ | ⟨q, -⟩ | ⟨q, -⟩ | q
  · rw [t4, e]
  · omega
  · omega
  · omega
  · omega
theorem St.q1 (st : St n B lo A Z C S) {z : Nat} (h : qW z S = true) : C.1 82 2 = nI 1 := by
  obtain ⟨k, k1, k2, k3, -⟩ := st.kind
  unfold qW at h
  rw [decide_eq_true_eq, k3, n_eql (by omega)] at h
  rw [k2, h.1]
theorem St.must (hN : 1000 < N) (st : St n B lo A Z C S) {b : Bool} (hb : b = true → C.1 82 2 ≠ 0) : (b = true → ∃ C' S', f_X8_advance N C = some C' ∧ f_X12_must N (b2i b) S = some S' ∧ St n B (lo + 1) A Z C' S') ∧ (b = false → ∃ C' S', f_X8_refuse 2 C = some (false, C') ∧ f_X12_must N (b2i b) S = some S' ∧ Fl n A Z C' S') := by
  constructor
  · rintro rfl
    obtain ⟨C', S', h1, h2, h3⟩ := st.go hN (hb rfl)
    refine ⟨C', S', h1, ?_, h3⟩
    unfold f_X12_must
    rw [st.s12, if_pos (by decide), if_neg (by decide), h2, bv_s]
  · rintro rfl
    obtain ⟨C', S', h1, h2, h3⟩ := st.no
    refine ⟨C', S', h1, ?_, h3⟩
    unfold f_X12_must
    rw [st.s12, if_pos (by decide), if_pos (by decide), h2, bv_s]
/-- a word that must be there -/
theorem St.word (hN : 1000 < N) (st : St n B lo A Z C S) {z : Nat} (hz : z < 32) (h3 : z ≠ 3) : ∃ b C' S', f_X8_takeWord N z C = some (b, C') ∧ f_X12_must N (b2i (qW z S)) S = some S' ∧ ((b = true ∧ St n B (lo + 1) A Z C' S') ∨ (b = false ∧ Fl n A Z C' S')) := by
  have hm := st.must (b := qW z S) hN fun h => by rw [st.q1 h]; decide
  unfold f_X8_takeWord
  rw [c_word hN hz (wG_at hz h3) st.tx st.tk, bi_s]
  cases q : qW z S with
  | true =>
    rw [q] at hm
    obtain ⟨C', S', h1, h2, h3⟩ := hm.1 rfl
    exact ⟨true, C', S', by rw [if_neg (by decide), h1, bv_s], h2, Or.inl ⟨rfl, h3⟩⟩
  | false =>
    rw [q] at hm
    obtain ⟨C', S', h1, h2, h3⟩ := hm.2 rfl
    exact ⟨false, C', S', by rw [if_pos (by decide), h1, bi_s], h2, Or.inr ⟨rfl, h3⟩⟩
/-- a word that may be there -/
theorem St.may (hN : 1000 < N) (st : St n B lo A Z C S) {z : Nat} (hz : z < 32) (h3 : z ≠ 3) : ∃ b C' S', f_X8_tryWord N z C = some (b, C') ∧ f_X12_perhaps N (b2i (qW z S)) S = some (b, S') ∧ St n B lo A Z C' S' := by
  unfold f_X8_tryWord f_X12_perhaps
  rw [c_word hN hz (wG_at hz h3) st.tx st.tk, bi_s, st.s12, if_neg (show ¬ (0 : Int32) < 0 by decide)]
  cases q : qW z S with
  | true =>
    obtain ⟨C', S', h1, h2, h3⟩ := st.go hN (by rw [st.q1 q]; decide)
    obtain ⟨a, b, c, d, e, f, g, h, ⟨x, i1, i2⟩, j⟩ := h3
    exact ⟨true, C', S', by rw [if_neg (by decide), h1, bv_s], by rw [if_neg (by decide), h2, bv_s], a, b, c, d, e, f, g, h, ⟨x, by omega, i2⟩, j⟩
  | false => exact ⟨false, C, S, by rw [if_pos (by decide)], by rw [if_pos (by decide)], st⟩
/-- the semicolon -/
theorem St.semi (hN : 1000 < N) (st : St n B lo A Z C S) : ∃ b r C' S', f_X8_takeSemicolon N C = some (b, C') ∧ f_X12_isSign 59 S = some (r, S) ∧ f_X12_must N (b2i r) S = some S' ∧ ((b = true ∧ St n B (lo + 1) A Z C' S') ∨ (b = false ∧ Fl n A Z C' S')) := by
  have n9 := st.n9
  obtain ⟨a, z, k, t1, t2, t3, t4, t5, t6, t7, t8, t9, t10⟩ := st.tk
  have kb : k ≤ 4 := by omega
  have no : ∀ {o : Option (Bool × Mem)}, o = bi (f_X8_refuse 2 C) (fun r M => some (r, M)) → f_X12_isSign 59 S = some (false, S) → ∃ b r C' S', o = some (b, C') ∧ f_X12_isSign 59 S = some (r, S) ∧ f_X12_must N (b2i r) S = some S' ∧ ((b = true ∧ St n B (lo + 1) A Z C' S') ∨ (b = false ∧ Fl n A Z C' S')) := by
    intro o ho hs
    obtain ⟨C', S', h1, h2, h3⟩ := (st.must (b := false) hN fun h => by cases h).2 rfl
    exact ⟨false, false, C', S', by rw [ho, h1, bi_s], hs, h2, Or.inr ⟨rfl, h3⟩⟩
  unfold f_X8_takeSemicolon
  by_cases k3 : k = 3
  · subst k3
    rcases t10 with ⟨q, -⟩ | ⟨q, -⟩ | ⟨q, -⟩ | ⟨-, x, x1, x2, x3⟩ | q
    · omega
    · omega
    · omega
    · rw [t8, if_pos (show nI 3 = 3 from rfl), x2]
      by_cases g : x = 59
      · obtain ⟨C', S', h1, h2, h3⟩ := (st.must (b := true) hN fun _ => by rw [t8]; decide).1 rfl
        refine ⟨true, true, C', S', ?_, ?_, h2, Or.inl ⟨rfl, h3⟩⟩
        · rw [if_pos (show nI x = 59 by rw [g]; rfl), h1, bv_s]
        · unfold f_X12_isSign
          rw [t9, if_pos (show nI 3 = 3 from rfl), x3, if_pos (show nI x = 59 by rw [g]; rfl)]
      · refine no ?_ ?_
        · rw [if_neg (show ¬ nI x = 59 by rw [n_eql (by omega)]; exact g)]
        · unfold f_X12_isSign
          rw [t9, if_pos (show nI 3 = 3 from rfl), x3, if_neg (show ¬ nI x = 59 by rw [n_eql (by omega)]; exact g)]
    · omega
  · refine no ?_ ?_
    · rw [t8, if_neg (show ¬ nI k = 3 by rw [n_eql (by omega)]; exact k3)]
    · unfold f_X12_isSign
      rw [t9, if_neg (show ¬ nI k = 3 by rw [n_eql (by omega)]; exact k3)]
/-- a number -/
theorem St.numP (hN : 1000 < N) (st : St n B lo A Z C S) {p1 i : Nat} {L H : Int32} {P : Nat → Prop} [DecidablePred P] (hi : i < ln p1 ∧ ln p1 < 2147483648) (hp : p1 ≠ 82 ∧ p1 ≠ 1) (hc : ∀ x, x ≤ 9999 → ((¬ nI x < L ∧ nI x ≤ H) ↔ P x)) (hm : ∀ x M, x ≤ 9999 → f_X12_isIn (nI x).toInt64 L.toInt64 H.toInt64 M = some (decide (P x), M)) : ∃ b r C' S', f_X8_takeNumber N p1 (nI i) L H C = some (b, C') ∧ f_X12_count N L H S = some (nI r, S') ∧ ((b = true ∧ P r ∧ r ≤ 9999 ∧ St n B (lo + 1) (uI A p1 i (nI r)) Z C' S') ∨ (b = false ∧ r = 0 ∧ Fl n A Z C' S')) := by
  have n9 := st.n9
  obtain ⟨a, z, k, t1, t2, t3, t4, t5, t6, t7, t8, t9, t10⟩ := st.tk
  have kb : k ≤ 4 := by omega
  unfold f_X8_takeNumber f_X12_count
  rw [st.s12, if_pos rfl]
  by_cases k2 : k = 2
  · subst k2
    rcases t10 with ⟨q, -⟩ | ⟨q, -⟩ | ⟨-, x, x1, x2, x3⟩ | ⟨q, -⟩ | q
    · omega
    · omega
    · rw [t8, t9, if_pos (show nI 2 = 2 from rfl), if_pos (show nI 2 = 2 from rfl), x2]
      unfold f_X12_count_b19
      rw [st.s12, if_pos rfl, x3, hm x S x1, bi_s]
      have no : ¬ P x → ∃ C' S', (bi (f_X8_refuse 4 C) fun r M => some (r, M)) = some (false, C') ∧ (if b2i (decide (P x)) = 0 then (bv (f_X12_fail 4 (S.1 200 15) S) fun M_6 => f_X12_count_b50 N M_6) else (f_X12_count_b50 N S)) = some (nI 0, S') ∧ Fl n A Z C' S' := fun h => by
        obtain ⟨C', S', h1, h2, h3⟩ := st.bad (x := 4) t8 (by omega) (by omega)
        have h1 : f_X8_refuse 4 C = some (false, C') := h1
        have h2 : f_X12_fail 4 (S.1 200 15) S = some S' := h2
        refine ⟨C', S', by rw [h1, bi_s], ?_, h3⟩
        rw [decide_eq_false h, if_pos (by decide), h2, bv_s]
        unfold f_X12_count_b50
        rw [if_neg h3.bd.2.1]
        rfl
      by_cases g1 : nI x < L
      · obtain ⟨C', S', h1, h2, h3⟩ := no fun y => ((hc x x1).mpr y).1 g1
        exact ⟨false, 0, C', S', by rw [if_pos g1, h1], h2, Or.inr ⟨rfl, rfl, h3⟩⟩
      · by_cases g2 : nI x ≤ H
        · have g := (hc x x1).mp ⟨g1, g2⟩
          have st2 := st.uc (c := p1) (k := i) (x := nI x) hp
          obtain ⟨C', S', h1, h2, h3⟩ := st2.go hN (by rw [u_ne (Ne.symm hp.1), t8]; decide)
          refine ⟨true, x, C', S', ?_, ?_, Or.inl ⟨rfl, g, x1, h3⟩⟩
          · rw [if_neg g1, if_pos g2, ck_n hi, bM_e, t_n (by omega), h1, bv_s]
          · rw [decide_eq_true g, if_neg (by decide)]
            unfold f_X12_count_b50
            rw [st.s12, if_pos (by decide), x3, h2, bv_s]
        · obtain ⟨C', S', h1, h2, h3⟩ := no fun y => g2 ((hc x x1).mpr y).2
          exact ⟨false, 0, C', S', by rw [if_neg g1, if_neg g2, h1], h2, Or.inr ⟨rfl, rfl, h3⟩⟩
    · omega
    · omega
  · obtain ⟨C', S', h1, h2, h3⟩ := st.no
    refine ⟨false, 0, C', S', ?_, ?_, Or.inr ⟨rfl, rfl, h3⟩⟩
    · rw [t8, if_neg (show ¬ nI k = 2 by rw [n_eql (by omega)]; exact k2), h1, bi_s]
    · rw [t9, if_neg (show ¬ nI k = 2 by rw [n_eql (by omega)]; exact k2), h2, bv_s]
      unfold f_X12_count_b19 f_X12_count_b50
      rw [if_neg h3.bd.2.2, if_neg h3.bd.2.1]
      rfl
theorem St.num (hN : 1000 < N) (st : St n B lo A Z C S) {p1 i L H : Nat} (hi : i < ln p1 ∧ ln p1 < 2147483648) (hp : p1 ≠ 82 ∧ p1 ≠ 1) (hL : L < 2147483648 ∧ H < 2147483648) : ∃ b r C' S', f_X8_takeNumber N p1 (nI i) (nI L) (nI H) C = some (b, C') ∧ f_X12_count N (nI L) (nI H) S = some (nI r, S') ∧ ((b = true ∧ (L ≤ r ∧ r ≤ H) ∧ r ≤ 9999 ∧ St n B (lo + 1) (uI A p1 i (nI r)) Z C' S') ∨ (b = false ∧ r = 0 ∧ Fl n A Z C' S')) :=
  st.numP (P := fun x => L ≤ x ∧ x ≤ H) hN hi hp (fun x hx => by rw [n_lt (by omega), n_le (by omega)]; omega) fun x M hx => by
    rw [nI_l (show L < 2147483648 by omega), nI_l (show H < 2147483648 by omega)]
    exact m_inl ⟨by omega, hL⟩ M
/-- a column, a row: below W -/
theorem St.num0 (hN : 1000 < N) (st : St n B lo A Z C S) {p1 i W : Nat} (hi : i < ln p1 ∧ ln p1 < 2147483648) (hp : p1 ≠ 82 ∧ p1 ≠ 1) (hW : W < 100000) : ∃ b r C' S', f_X8_takeNumber N p1 (nI i) 0 (nI W - 1) C = some (b, C') ∧ f_X12_count N 0 (nI W - 1) S = some (nI r, S') ∧ ((b = true ∧ r < W ∧ r ≤ 9999 ∧ St n B (lo + 1) (uI A p1 i (nI r)) Z C' S') ∨ (b = false ∧ r = 0 ∧ Fl n A Z C' S')) :=
  st.numP (P := fun x => x < W) hN hi hp (fun x hx => by
    have h0 : ¬ nI x < 0 := nI_pos (by omega)
    by_cases g : W = 0
    · subst g
      rw [show nI 0 - 1 = -1 from rfl, n_m1le (by omega)]
      simp
    · rw [n_subl (show 1 ≤ W by omega), n_le (by omega)]
      constructor
      · intro h; have := h.2; omega
      · intro h; exact ⟨h0, by omega⟩) fun x M hx => by
    rw [show (0 : Int32).toInt64 = (0 : Int64) from by decide]
    exact m_in0 ⟨by omega, by omega⟩ M
end Q3
