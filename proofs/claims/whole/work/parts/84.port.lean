section Q5
variable {N n lo : Nat} {A Z C S C0 S0 : Mem} {B : Nat → Nat} {v v' : Nat → Nat}
/-- the model's semicolon -/
def mS (N : Nat) (S : Mem) : Option Mem := bi (f_X12_isSign 59 S) fun r M => f_X12_must N (b2i r) M
theorem sgn_e (x : Int32) (S : Mem) : f_X12_isSign x S = some (decide (S.1 200 14 = 3 ∧ S.1 200 17 = x), S) := by
  unfold f_X12_isSign
  by_cases g : S.1 200 14 = 3
  · by_cases h : S.1 200 17 = x
    · rw [if_pos g, if_pos h, decide_eq_true ⟨g, h⟩]
    · rw [if_pos g, if_neg h, decide_eq_false fun y => h y.2]
  · rw [if_neg g, decide_eq_false fun y => g y.1]
theorem b_semi (h : Bd S) : mS N S = some S := by
  unfold mS
  rw [sgn_e, bi_s, b_must h]
theorem St.semi2 (hN : 1000 < N) (st : St n B lo A Z C S) : ∃ b C' S', f_X8_takeSemicolon N C = some (b, C') ∧ mS N S = some S' ∧ ((b = true ∧ St n B (lo + 1) A Z C' S') ∨ (b = false ∧ Fl n A Z C' S')) := by
  obtain ⟨b, r, C', S', h1, h2, h3, h4⟩ := st.semi hN
  exact ⟨b, C', S', h1, by unfold mS; rw [h2, bi_s, h3], h4⟩
/-- while a port is read the class keeps wind, thins and foggy apart -/
def dfl (v : Nat → Nat) : Nat → Nat := fun i => if i = 6 then 0 else if i = 7 then 1 else if i = 8 then 10 else v i
theorem dfl_ne {i : Nat} (h : i ≠ 6 ∧ i ≠ 7 ∧ i ≠ 8) : dfl v i = v i := by unfold dfl; rw [if_neg h.1, if_neg h.2.1, if_neg h.2.2]
def Tld (A Z : Mem) (v : Nat → Nat) : Prop := ∃ t, t < 8 ∧ Z.1 200 25 = nI t ∧ ∀ w, w < 3 → (t.testBit w = true ∧ A.1 85 w = nI (v (6 + w))) ∨ (t.testBit w = false ∧ A.1 85 w = -1 ∧ v (6 + w) = [0, 1, 10].getD w 0)
/-- what reading a port leaves alone -/
def XC (C0 C : Mem) : Prop := ∀ c, ¬ (23 ≤ c ∧ c < 36) → ¬ (82 ≤ c ∧ c < 87) → C.1 c = C0.1 c ∧ C.2 c = C0.2 c
def XS (S0 S : Mem) : Prop := (∀ c, c ≠ 200 → c ≠ 205 → c ≠ 208 → S.1 c = S0.1 c ∧ S.2 c = S0.2 c) ∧ (∀ k, k < 1740 → S.1 205 k = S0.1 205 k) ∧ (∀ k, k < 88 → S.2 208 k = S0.2 208 k) ∧ (∀ j, j < 12 ∨ (18 < j ∧ j ≠ 25 ∧ j ≠ 26) → S.1 200 j = S0.1 200 j) ∧ ∀ j, j ≠ 19 → S.2 200 j = S0.2 200 j
theorem XC.rf : XC C0 C0 := fun _ _ _ => ⟨rfl, rfl⟩
theorem XS.rf : XS S0 S0 := ⟨fun _ _ _ _ => ⟨rfl, rfl⟩, fun _ _ => rfl, fun _ _ => rfl, fun _ _ => rfl, fun _ _ => rfl⟩
theorem XC.u (h : XC C0 C) {c k : Nat} {x : Int32} (hc : (23 ≤ c ∧ c < 36) ∨ (82 ≤ c ∧ c < 87)) : XC C0 (uI C c k x) := fun a a1 a2 => ⟨by rw [u_ne (by omega)]; exact (h a a1 a2).1, (h a a1 a2).2⟩
theorem XC.ul (h : XC C0 C) {c k : Nat} {x : Int64} (hc : (23 ≤ c ∧ c < 36) ∨ (82 ≤ c ∧ c < 87)) : XC C0 (uL C c k x) := fun a a1 a2 => ⟨(h a a1 a2).1, by rw [g_uL, if_neg (by omega)]; exact (h a a1 a2).2⟩
theorem XS.u (h : XS S0 S) {k : Nat} {x : Int32} (hk : 1740 ≤ k) : XS S0 (uI S 205 k x) := by
  obtain ⟨a, b, c, d, e⟩ := h
  refine ⟨fun z z1 z2 z3 => ⟨by rw [u_ne z2]; exact (a z z1 z2 z3).1, (a z z1 z2 z3).2⟩, fun j hj => ?_, c, fun j hj => ?_, e⟩
  · rw [us_same, g_upd, if_neg (by omega)]; exact b j hj
  · rw [u_ne (by decide)]; exact d j hj
theorem XS.ul (h : XS S0 S) {k : Nat} {x : Int64} (hk : 88 ≤ k) : XS S0 (uL S 208 k x) := by
  obtain ⟨a, b, c, d, e⟩ := h
  refine ⟨fun z z1 z2 z3 => ⟨(a z z1 z2 z3).1, by rw [g_uL, if_neg z3]; exact (a z z1 z2 z3).2⟩, b, fun j hj => ?_, d, fun j hj => ?_⟩
  · rw [g_uL, if_pos rfl, g_updL, if_neg (by omega)]; exact c j hj
  · rw [g_uL, if_neg (by decide)]; exact e j hj
theorem XS.u2 (h : XS S0 S) {k : Nat} {x : Int32} (hk : k = 25 ∨ k = 26) : XS S0 (uI S 200 k x) := by
  obtain ⟨a, b, c, d, e⟩ := h
  refine ⟨fun z z1 z2 z3 => ⟨by rw [u_ne z1]; exact (a z z1 z2 z3).1, (a z z1 z2 z3).2⟩, fun j hj => by rw [u_ne (by decide)]; exact b j hj, c, fun j hj => ?_, e⟩
  rw [us_same, g_upd, if_neg (by omega)]; exact d j hj
/-- a fault, and nothing else changed that counts -/
def XF (n : Nat) (C0 S0 C S : Mem) : Prop := (∃ f a, 1 ≤ f ∧ f ≤ 7 ∧ a ≤ n ∧ C.1 82 6 = nI f ∧ C.1 82 7 = nI a ∧ S.1 200 12 = nI f ∧ S.1 200 13 = nI a) ∧ XC C0 C ∧ XS S0 S
theorem Fl.xf (h : Fl n A Z C S) (hc : XC C0 A) (hs : XS S0 Z) : XF n C0 S0 C S := by
  obtain ⟨f, a, f1, f2, f3, f4, f5, f6, f7, f8, f9, f10, f11, f12⟩ := h
  obtain ⟨b1, b2, b3, b4, b5⟩ := hs
  refine ⟨⟨f, a, f1, f2, f3, f4, f5, f6, f7⟩, fun c c1 c2 => ⟨?_, ?_⟩, fun z z1 z2 z3 => ⟨?_, ?_⟩, fun k hk => ?_, fun k hk => ?_, fun j hj => ?_, fun j hj => ?_⟩
  · rw [f9 c (by omega)]; exact (hc c c1 c2).1
  · rw [f8]; exact (hc c c1 c2).2
  · rw [(f10 z z1).1]; exact (b1 z z1 z2 z3).1
  · rw [(f10 z z1).2]; exact (b1 z z1 z2 z3).2
  · rw [(f10 205 (by decide)).1]; exact b2 k hk
  · rw [(f10 208 (by decide)).2]; exact b3 k hk
  · rw [f11 j (by omega)]; exact b4 j hj
  · rw [f12 j hj]; exact b5 j hj
theorem XF.us (h : XF n C0 S0 C S) {k : Nat} {x : Int32} (hk : 1740 ≤ k) : XF n C0 S0 C (uI S 205 k x) := by
  obtain ⟨a, b, c⟩ := h
  exact ⟨by rw [u_ne (by decide)]; exact a, b, c.u hk⟩
/-- what both have of the port so far -/
def PI (C0 S0 A Z : Mem) (v : Nat → Nat) : Prop := (VV v ∧ v 9 = 0 ∧ v 163 = 0 ∧ ((v 0 = 0 ∧ v 1 = 0 ∧ v 2 = 0 ∧ v 3 = 0 ∧ v 4 = 0 ∧ v 5 = 0) ∨ (1 ≤ v 0 ∧ 1 ≤ v 1)) ∧ ∀ k, k < 60 → v (103 + k) = 0) ∧ PC A 23 (dfl v) ∧ (∀ k, k < 435 → Z.1 205 (1740 + k) = nI (v k)) ∧ (∀ g, g < v 2 → A.2 25 g = Z.2 208 (88 + g)) ∧ NmR A Z v ∧ Tld A Z v ∧ XC C0 A ∧ XS S0 Z
def PRt (n : Nat) (B : Nat → Nat) (lo : Nat) (C0 S0 C S : Mem) : Prop := ∃ v, PI C0 S0 C S v ∧ St n B lo C S C S
def PRes (n : Nat) (B : Nat → Nat) (lo : Nat) (C0 S0 : Mem) (o : Option (Bool × Mem)) (o' : Option Mem) : Prop := ∃ b C' S', o = some (b, C') ∧ o' = some S' ∧ (PRt n B lo C0 S0 C' S' ∨ XF n C0 S0 C' S')
theorem XC.fk (h : XC C0 A) (f : FkC A C) : XC C0 C := fun c c1 c2 => ⟨by rw [f.2.1 c (by omega)]; exact (h c c1 c2).1, by rw [f.1]; exact (h c c1 c2).2⟩
theorem XS.fk (h : XS S0 Z) (f : FkS Z S) : XS S0 S := by
  obtain ⟨a, b, c, d, e⟩ := h
  obtain ⟨f1, f2, f3⟩ := f
  exact ⟨fun z z1 z2 z3 => ⟨by rw [(f1 z z1).1]; exact (a z z1 z2 z3).1, by rw [(f1 z z1).2]; exact (a z z1 z2 z3).2⟩, fun k hk => by rw [(f1 205 (by decide)).1]; exact b k hk, fun k hk => by rw [(f1 208 (by decide)).2]; exact c k hk, fun j hj => by rw [f2 j (by omega)]; exact d j hj, fun j hj => by rw [f3 j hj]; exact e j hj⟩
theorem PI.fk (h : PI C0 S0 A Z v) (f : FkC A C) (g : FkS Z S) : PI C0 S0 C S v := by
  obtain ⟨a, b, c, d, ⟨e1, e2, e3⟩, ⟨t, t1, t2, t3⟩, x, y⟩ := h
  refine ⟨a, b.same fun j hj => f.2.1 _ (by omega), fun k hk => by rw [(g.1 205 (by decide)).1]; exact c k hk, fun k hk => by rw [f.1, (g.1 208 (by decide)).2]; exact d k hk, ⟨by rw [f.2.1 83 (by decide)]; exact e1, fun s hs => by rw [(g.1 205 (by decide)).1]; exact e2 s hs, fun x => by rw [f.1, (g.1 208 (by decide)).2]; exact e3 x⟩, ⟨t, t1, by rw [g.2.1 25 (by omega)]; exact t2, fun w hw => by rw [f.2.1 85 (by decide)]; exact t3 w hw⟩, x.fk f, y.fk g⟩
/-- a part read: the end, the semicolon -/
theorem PRes.end (hN : 1000 < N) (st : St n B lo A Z C S) (h : PI C0 S0 A Z v) : PRes n B (lo + 1) C0 S0 (f_X8_takeSemicolon N C) (mS N S) := by
  obtain ⟨b, C', S', h1, h2, ⟨rfl, h3⟩ | ⟨rfl, h3⟩⟩ := st.semi2 hN
  · exact ⟨_, _, _, h1, h2, Or.inl ⟨v, h.fk h3.1 h3.2.1, h3.here⟩⟩
  · exact ⟨_, _, _, h1, h2, Or.inr (h3.xf h.2.2.2.2.2.2.1 h.2.2.2.2.2.2.2)⟩
theorem PRes.no {o : Option (Bool × Mem)} {o' : Option Mem} {C' : Mem} (h1 : o = some (false, C')) (h2 : ∃ S', o' = some S' ∧ XF n C0 S0 C' S') : PRes n B lo C0 S0 o o' := by
  obtain ⟨S', e, x⟩ := h2
  exact ⟨_, _, _, h1, e, Or.inr x⟩
theorem PRt.mono {lo' : Nat} (h : PRt n B lo C0 S0 C S) (hl : lo' ≤ lo) : PRt n B lo' C0 S0 C S := by
  obtain ⟨v, a, b1, b2, b3, b4, b5, b6, b7, b8, ⟨x, x1, x2⟩, b9⟩ := h
  exact ⟨v, a, b1, b2, b3, b4, b5, b6, b7, b8, ⟨x, by omega, x2⟩, b9⟩
theorem PRes.mono {lo' : Nat} {o : Option (Bool × Mem)} {o' : Option Mem} (h : PRes n B lo C0 S0 o o') (hl : lo' ≤ lo) : PRes n B lo' C0 S0 o o' := by
  obtain ⟨b, C', S', h1, h2, h3 | h3⟩ := h
  · exact ⟨b, C', S', h1, h2, Or.inl (h3.mono hl)⟩
  · exact ⟨b, C', S', h1, h2, Or.inr h3⟩
theorem bk_u (h : ∀ k, k < 435 → Z.1 205 (1740 + k) = nI (v k)) {m j y : Nat} (hm : m = 1740 + j) : ∀ k, k < 435 → (uI Z 205 m (nI y)).1 205 (1740 + k) = nI (pt v j y k) := fun k hk => by
  rw [us_same, g_upd]
  by_cases g : k = j
  · rw [if_pos (by omega), g, pt_at]
  · rw [if_neg (by omega), pt_ne g, h k hk]
theorem bk_0 {Z' : Mem} (h : ∀ k, k < 435 → Z.1 205 (1740 + k) = nI (v k)) (h2 : Z'.1 205 = Z.1 205) : ∀ k, k < 435 → Z'.1 205 (1740 + k) = nI (v k) := fun k hk => by rw [h2]; exact h k hk
/-- one more name -/
theorem NmR.add {A' Z' : Mem} {s k nc : Nat} {x : Int64} (h : NmR A Z v) (hs : s < 4) (hk : v (2 + s) = k) (hn : v 2 + v 3 + v 4 + v 5 = nc) (h6 : v 2 ≤ 6 ∧ v 3 ≤ 6 ∧ v 4 ≤ 6 ∧ v 5 ≤ 6 ∧ k < 6) (e1 : v' (2 + s) = k + 1) (e2 : ∀ t, t < 4 → t ≠ s → v' (2 + t) = v (2 + t)) (a1 : A'.1 83 4 = nI (nc + 1)) (a2 : ∀ i, A'.2 84 i = if i = nc then x else A.2 84 i) (z1 : ∀ s, s < 4 → Z'.1 205 (1742 + s) = nI (v' (2 + s))) (z2 : ∀ j, Z'.2 208 j = if j = 88 + 6 * s + k then x else Z.2 208 j) : NmR A' Z' v' := by
  obtain ⟨n1, n2, n3⟩ := h
  have sum : v' 2 + v' 3 + v' 4 + v' 5 = nc + 1 := by
    have y0 : v' (2 + 0) = v' 2 := rfl
    have y1 : v' (2 + 1) = v' 3 := rfl
    have y2 : v' (2 + 2) = v' 4 := rfl
    have y3 : v' (2 + 3) = v' 5 := rfl
    have z0 : v (2 + 0) = v 2 := rfl
    have z1 : v (2 + 1) = v 3 := rfl
    have z2 : v (2 + 2) = v 4 := rfl
    have z3 : v (2 + 3) = v 5 := rfl
    obtain rfl | rfl | rfl | rfl : s = 0 ∨ s = 1 ∨ s = 2 ∨ s = 3 := by omega
    · have := e2 1 (by omega) (by omega); have := e2 2 (by omega) (by omega); have := e2 3 (by omega) (by omega); omega
    · have := e2 0 (by omega) (by omega); have := e2 2 (by omega) (by omega); have := e2 3 (by omega) (by omega); omega
    · have := e2 0 (by omega) (by omega); have := e2 1 (by omega) (by omega); have := e2 3 (by omega) (by omega); omega
    · have := e2 0 (by omega) (by omega); have := e2 1 (by omega) (by omega); have := e2 2 (by omega) (by omega); omega
  have b6 : ∀ t, t < 4 → v (2 + t) ≤ 6 := fun t ht => by
    obtain rfl | rfl | rfl | rfl : t = 0 ∨ t = 1 ∨ t = 2 ∨ t = 3 := by omega
    · exact h6.1
    · exact h6.2.1
    · exact h6.2.2.1
    · exact h6.2.2.2.1
  refine ⟨by rw [a1, sum], z1, fun y => ?_⟩
  rw [sum]
  constructor
  · rintro ⟨i, i1, i2⟩
    rw [a2] at i2
    by_cases g : i = nc
    · rw [if_pos g] at i2
      exact ⟨s, k, hs, by omega, by rw [z2, if_pos rfl]; exact i2⟩
    · rw [if_neg g] at i2
      obtain ⟨t, j, t1, t2, t3⟩ := (n3 y).mp ⟨i, by omega, i2⟩
      have := b6 t t1
      refine ⟨t, j, t1, ?_, ?_⟩
      · by_cases q : t = s
        · subst q; omega
        · rw [e2 t t1 q]; exact t2
      · rw [z2, if_neg, t3]
        intro q
        by_cases q2 : t = s
        · subst q2; omega
        · omega
  · rintro ⟨t, j, t1, t2, t3⟩
    rw [z2] at t3
    by_cases g : j = k ∧ t = s
    · obtain ⟨rfl, rfl⟩ := g
      rw [if_pos rfl] at t3
      exact ⟨nc, by omega, by rw [a2, if_pos rfl]; exact t3⟩
    · have hj : j < v (2 + t) := by
        by_cases q : t = s
        · subst q; omega
        · rw [e2 t t1 q] at t2; exact t2
      have := b6 t t1
      rw [if_neg (by omega)] at t3
      obtain ⟨i, i1, i2⟩ := (n3 y).mpr ⟨t, j, t1, hj, t3⟩
      exact ⟨i, by omega, by rw [a2, if_neg (by omega)]; exact i2⟩
end Q5
