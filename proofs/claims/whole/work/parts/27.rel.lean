/-! what class and model have in common -/
def VV (v : Nat → Nat) : Prop := VW v ∧ v 3 ≤ 6 ∧ v 4 ≤ 6 ∧ v 5 ≤ 4 ∧ v 8 ≤ 99 ∧ v 10 < 2 ^ v 2 ∧ (∀ g, g < v 2 → v (35 + g) ≤ 99) ∧ (∀ h, h < v 3 → v (41 + h) ≤ 20) ∧
  (∀ t, t < v 4 → v (47 + t) < v 0 ∧ v (53 + t) < v 1 ∧ v (59 + t) ≤ 24 ∧ v (65 + t) ≤ 24 ∧ v (71 + t) ≤ 99 ∧ v (77 + t) ≤ 1) ∧
  (∀ s, s < v 5 → v (83 + s) < v 0 ∧ v (87 + s) < v 1 ∧ v (91 + s) < v 0 ∧ v (95 + s) < v 1 ∧ v (99 + s) ≤ 1) ∧
  (∀ k, k < 60 → v (103 + k) ≤ 999) ∧ (∀ b, v 0 * v 1 ≤ b → b < 30 → v (103 + b) = 0 ∧ v (133 + b) = 0)
/-- step x of the model's nights is item a of the class's (cell q) -/
def StOK (C : Mem) (q : Nat) (v : Nat → Nat) (x a : Nat) : Prop :=
  (v (165 + 9 * x) = 0 ∧ C.1 (q + 1) a = nI 1 ∧ C.1 (q + 2) a = nI (v (166 + 9 * x)) ∧ 1 ≤ v (166 + 9 * x) ∧ v (166 + 9 * x) ≤ 24) ∨
  (v (165 + 9 * x) = 1 ∧ C.1 (q + 1) a = nI 2 ∧ C.1 (q + 2) a = nI (v (166 + 9 * x)) ∧ v (166 + 9 * x) < v 2) ∨
  (v (165 + 9 * x) = 2 ∧ C.1 (q + 1) a = nI 3 ∧ C.1 (q + 2) a = nI (v (166 + 9 * x)) ∧ v (166 + 9 * x) < v 2) ∨
  (v (165 + 9 * x) = 3 ∧ C.1 (q + 1) a = nI 4 ∧ C.1 (q + 2) a = nI (v (166 + 9 * x)) ∧ v (166 + 9 * x) ≤ 4) ∨
  (v (165 + 9 * x) = 4 ∧ C.1 (q + 1) a = nI 5) ∨
  (v (165 + 9 * x) = 7 ∧ C.1 (q + 1) a = nI 6) ∨
  (v (165 + 9 * x) = 6 ∧ C.1 (q + 1) a = nI 7 ∧ C.1 (q + 2) a = nI (v (166 + 9 * x)) ∧ 1 ≤ v (166 + 9 * x) ∧ v (166 + 9 * x) ≤ 99) ∨
  (v (165 + 9 * x) = 5 ∧ v (171 + 9 * x) = 0 ∧ C.1 (q + 1) a = nI 8 ∧ C.1 (q + 2) a = nI (v (167 + 9 * x) * v 0 + v (166 + 9 * x)) ∧ v (166 + 9 * x) < v 0 ∧ v (167 + 9 * x) < v 1) ∨
  (v (165 + 9 * x) = 5 ∧ v (171 + 9 * x) = 1 ∧ C.1 (q + 1) a = nI 9 ∧ C.1 (q + 2) a = nI (v (166 + 9 * x)) ∧ v (166 + 9 * x) < v 2) ∨
  (v (165 + 9 * x) = 5 ∧ v (171 + 9 * x) = 2 ∧ C.1 (q + 1) a = nI 10 ∧ C.1 (q + 2) a = nI (v (167 + 9 * x) * v 0 + v (166 + 9 * x)) ∧ v (166 + 9 * x) < v 0 ∧ v (167 + 9 * x) < v 1 ∧ C.1 (q + 3) a = nI (v (172 + 9 * x)) ∧ 60 ≤ v (172 + 9 * x) ∧ v (172 + 9 * x) ≤ 62 ∧ C.1 (q + 4) a = nI (v (168 + 9 * x)) ∧ v (168 + 9 * x) ≤ 999)
abbrev isBlk (v : Nat → Nat) (x : Nat) : Prop := v (165 + 9 * x) = 5 ∨ v (165 + 9 * x) = 6
/-- the steps x .. y - 1 of the model are the items a .. b - 1 of the class, with their ends; B: what stands within a when, a loop; n: fuel -/
def SqL (C : Mem) (q : Nat) (v : Nat → Nat) (B : Nat → Nat → Nat → Nat → Prop) : Nat → Nat → Nat → Nat → Nat → Prop
  | 0, x, y, a, b => x = y ∧ a = b
  | n + 1, x, y, a, b => (x = y ∧ a = b) ∨ (x < y ∧ a < b ∧ StOK C q v x a ∧
      ((¬ isBlk v x ∧ v (173 + 9 * x) = x + 1 ∧ SqL C q v B n (x + 1) y (a + 1) b) ∨
       (isBlk v x ∧ x < v (173 + 9 * x) ∧ v (173 + 9 * x) ≤ y ∧ ∃ m, a < m ∧ m < b ∧ B (x + 1) (v (173 + 9 * x)) (a + 1) m ∧ C.1 (q + 1) m = nI 11 ∧ C.1 (q + 5) m = nI a ∧ C.1 (q + 5) a = nI m ∧ SqL C q v B n (v (173 + 9 * x)) y (m + 1) b)))
/-- with at most d within each other -/
def Sq (C : Mem) (q : Nat) (v : Nat → Nat) : Nat → Nat → Nat → Nat → Nat → Prop
  | 0 => SqL C q v (fun _ _ _ _ => False) 60
  | d + 1 => SqL C q v (Sq C q v d) 60
/-- the nights of a port: cell q -/
def PN (C : Mem) (q : Nat) (v : Nat → Nat) : Prop := v 163 ≤ 1 ∧ C.1 q 0 = nI (v 163) ∧ (v 163 = 1 → v 164 ≤ 30 ∧ ∃ z, z ≤ 60 ∧ C.1 q 1 = nI z ∧ Sq C q v 3 0 (v 164) 0 z)
/-- the port p of the class holds v -/
def PC (C : Mem) (p : Nat) (v : Nat → Nat) : Prop := PW C p v ∧ C.1 p 4 = nI (v 8) ∧ C.1 p 5 = nI (v 9) ∧ C.1 p 6 = nI (v 10) ∧ C.1 p 8 = nI (v 3) ∧ C.1 p 9 = nI (v 4) ∧ C.1 p 10 = nI (v 5) ∧
  (∀ g, g < v 2 → C.1 (p + 1) (g * 5 + 4) = nI (v (35 + g))) ∧ (∀ h, h < v 3 → C.1 (p + 3) h = nI (v (41 + h))) ∧
  (∀ t, t < v 4 → C.1 (p + 4) (t * 6) = nI (v (47 + t)) ∧ C.1 (p + 4) (t * 6 + 1) = nI (v (53 + t)) ∧ C.1 (p + 4) (t * 6 + 2) = nI (v (59 + t)) ∧ C.1 (p + 4) (t * 6 + 3) = nI (v (65 + t)) ∧ C.1 (p + 4) (t * 6 + 4) = nI (v (71 + t)) ∧ C.1 (p + 4) (t * 6 + 5) = nI (v (77 + t))) ∧
  (∀ s, s < v 5 → C.1 (p + 5) (s * 5) = nI (v (83 + s)) ∧ C.1 (p + 5) (s * 5 + 1) = nI (v (87 + s)) ∧ C.1 (p + 5) (s * 5 + 2) = nI (v (91 + s)) ∧ C.1 (p + 5) (s * 5 + 3) = nI (v (95 + s)) ∧ C.1 (p + 5) (s * 5 + 4) = nI (v (99 + s))) ∧
  Ar C (p + 6) 60 (fun k => v (103 + k)) ∧ PN C (p + 7) v
/-- the port p of the class and the block bl of the model are one -/
def PB (C : Mem) (p : Nat) (S : Mem) (bl : Nat) : Prop := ∃ v, VV v ∧ v 9 ≤ 9999 ∧ PC C p v ∧ (∀ k, k < 435 → S.1 205 (435 * bl + k) = nI (v k)) ∧ (∀ g, g < v 2 → C.2 (p + 2) g = S.2 208 (22 * bl + g))
def RF (C S : Mem) : Prop := C.2 0 1 = S.2 200 2 ∧ C.2 0 2 = S.2 200 3
def RT (C S : Mem) : Prop := ∃ n, n ≤ 900 ∧ C.1 0 3 = nI n ∧ S.1 200 8 = nI n ∧ ∀ k, k < n → C.1 1 k = S.1 204 k ∧ ∃ y : Int32, C.1 1 k = i2b y
def RY (C S : Mem) : Prop := ∀ t, t < 4 → ∃ s, s ≤ 3 ∧ C.1 8 t = nI s ∧ S.1 201 t = nI s ∧ ((C.1 9 t = -1 ∧ S.1 202 t = -1) ∨ ∃ m, m ≤ 60 ∧ C.1 9 t = nI m ∧ S.1 202 t = nI m ∧ ∀ k, k < m → C.2 (4 + t) k = S.2 203 (60 * t + k))
def RM (C S : Mem) : Prop := ∃ n, n ≤ 3 ∧ C.1 0 4 = nI n ∧ S.1 200 24 = nI n ∧ ∀ j, j < n → PB C (37 + 13 * j) S (j + 1)
def RX (C S : Mem) : Prop := C.1 82 6 = S.1 200 10 ∧ C.1 82 7 = S.1 200 11
def RL (C S : Mem) : Prop := ∃ b : Bool, C.1 107 3 = b2i b ∧ S.1 200 42 = b2i b ∧ (b = true → ∃ c : Bool, C.1 107 5 = S.1 219 0 ∧ C.1 107 6 = S.1 219 1 ∧ C.1 107 7 = S.1 219 2 ∧ C.1 107 8 = S.1 219 3 ∧ C.1 107 9 = b2i c ∧ S.1 219 4 = b2i c)
def Rel (C S : Mem) : Prop := C.1 0 0 = S.1 200 0 ∧ RF C S ∧ RT C S ∧ RY C S ∧ PB C 10 S 0 ∧ RM C S ∧ RX C S ∧ RL C S
/-! each part speaks of its own cells -/
theorem SqL.same {C C' : Mem} {q : Nat} {v : Nat → Nat} {B B' : Nat → Nat → Nat → Nat → Prop} (hB : ∀ x y a b, B x y a b → B' x y a b) (h1 : C'.1 (q + 1) = C.1 (q + 1)) (h2 : C'.1 (q + 2) = C.1 (q + 2)) (h3 : C'.1 (q + 3) = C.1 (q + 3)) (h4 : C'.1 (q + 4) = C.1 (q + 4)) (h5 : C'.1 (q + 5) = C.1 (q + 5)) : ∀ n x y a b, SqL C q v B n x y a b → SqL C' q v B' n x y a b
  | 0, _, _, _, _, h => h
  | n + 1, x, y, a, b, h => by
    have ih := SqL.same (v := v) hB h1 h2 h3 h4 h5 n
    unfold SqL at h ⊢
    rcases h with h | ⟨a1, a2, a3, h⟩
    · exact Or.inl h
    · refine Or.inr ⟨a1, a2, ?_, ?_⟩
      · unfold StOK at a3 ⊢
        rw [h1, h2, h3, h4]
        exact a3
      · rcases h with ⟨b1, b2, b3⟩ | ⟨b1, b2, b3, m, b4, b5, b6, b7, b8, b9, b10⟩
        · exact Or.inl ⟨b1, b2, ih _ _ _ _ b3⟩
        · exact Or.inr ⟨b1, b2, b3, m, b4, b5, hB _ _ _ _ b6, by rw [h1]; exact b7, by rw [h5]; exact b8, by rw [h5]; exact b9, ih _ _ _ _ b10⟩
theorem Sq.same {C C' : Mem} {q : Nat} {v : Nat → Nat} (h1 : C'.1 (q + 1) = C.1 (q + 1)) (h2 : C'.1 (q + 2) = C.1 (q + 2)) (h3 : C'.1 (q + 3) = C.1 (q + 3)) (h4 : C'.1 (q + 4) = C.1 (q + 4)) (h5 : C'.1 (q + 5) = C.1 (q + 5)) : ∀ d x y a b, Sq C q v d x y a b → Sq C' q v d x y a b
  | 0 => SqL.same (fun _ _ _ _ h => h) h1 h2 h3 h4 h5 60
  | d + 1 => SqL.same (Sq.same h1 h2 h3 h4 h5 d) h1 h2 h3 h4 h5 60
theorem PN.same {C C' : Mem} {q : Nat} {v : Nat → Nat} (h : PN C q v) (he : ∀ j, j < 6 → C'.1 (q + j) = C.1 (q + j)) : PN C' q v := by
  obtain ⟨a, b, c⟩ := h
  have h0 : C'.1 q = C.1 q := he 0 (by omega)
  refine ⟨a, by rw [h0]; exact b, fun z => ?_⟩
  obtain ⟨d, w, e, f, g⟩ := c z
  exact ⟨d, w, e, by rw [h0]; exact f, Sq.same (he 1 (by omega)) (he 2 (by omega)) (he 3 (by omega)) (he 4 (by omega)) (he 5 (by omega)) _ _ _ _ _ g⟩
theorem PC.same {C C' : Mem} {p : Nat} {v : Nat → Nat} (h : PC C p v) (he : ∀ j, j < 13 → C'.1 (p + j) = C.1 (p + j)) : PC C' p v := by
  obtain ⟨h1, h2⟩ := h
  have h0 : C'.1 p = C.1 p := he 0 (by omega)
  refine ⟨h1.same h0 (he 1 (by omega)), ?_⟩
  rw [h0, he 1 (by omega), he 3 (by omega), he 4 (by omega), he 5 (by omega)]
  obtain ⟨a, b, c, d, e, f, g, i, j, k, l, m⟩ := h2
  exact ⟨a, b, c, d, e, f, g, i, j, k, l.same (he 6 (by omega)), m.same fun q hq => by rw [Nat.add_assoc]; exact he (7 + q) (by omega)⟩
theorem PB.same {C C' S S' : Mem} {p bl : Nat} (h : PB C p S bl) (he : ∀ j, j < 13 → C'.1 (p + j) = C.1 (p + j)) (h2 : C'.2 (p + 2) = C.2 (p + 2)) (hs : ∀ k, k < 435 → S'.1 205 (435 * bl + k) = S.1 205 (435 * bl + k)) (hs2 : ∀ g, g < 22 → S'.2 208 (22 * bl + g) = S.2 208 (22 * bl + g)) : PB C' p S' bl := by
  obtain ⟨v, a, b, c, d, e⟩ := h
  have v2 := a.1.2.2.1
  exact ⟨v, a, b, c.same he, fun k hk => (hs k hk).trans (d k hk), fun g hg => by rw [h2, hs2 g (by omega)]; exact e g hg⟩
theorem RF.same {C C' S S' : Mem} (h : RF C S) (h1 : C'.2 0 1 = C.2 0 1) (h2 : C'.2 0 2 = C.2 0 2) (h3 : S'.2 200 2 = S.2 200 2) (h4 : S'.2 200 3 = S.2 200 3) : RF C' S' := by
  unfold RF
  rw [h1, h2, h3, h4]
  exact h
theorem RT.same {C C' S S' : Mem} (h : RT C S) (h1 : C'.1 0 3 = C.1 0 3) (h2 : C'.1 1 = C.1 1) (h3 : S'.1 200 8 = S.1 200 8) (h4 : S'.1 204 = S.1 204) : RT C' S' := by
  unfold RT
  rw [h1, h2, h3, h4]
  exact h
theorem RY.same {C C' S S' : Mem} (h : RY C S) (h1 : C'.1 8 = C.1 8) (h2 : C'.1 9 = C.1 9) (h3 : ∀ t, t < 4 → C'.2 (4 + t) = C.2 (4 + t)) (h4 : S'.1 201 = S.1 201) (h5 : S'.1 202 = S.1 202) (h6 : S'.2 203 = S.2 203) : RY C' S' := by
  intro t ht
  rw [h1, h2, h3 t ht, h4, h5, h6]
  exact h t ht
theorem RM.same {C C' S S' : Mem} (h : RM C S) (h1 : C'.1 0 4 = C.1 0 4) (h2 : S'.1 200 24 = S.1 200 24) (h3 : ∀ c, 37 ≤ c → c < 76 → C'.1 c = C.1 c ∧ C'.2 c = C.2 c) (h4 : ∀ k, 435 ≤ k → k < 1740 → S'.1 205 k = S.1 205 k) (h5 : ∀ k, 22 ≤ k → k < 88 → S'.2 208 k = S.2 208 k) : RM C' S' := by
  obtain ⟨n, a, b, c, d⟩ := h
  refine ⟨n, a, h1.trans b, h2.trans c, fun j hj => (d j hj).same (fun q hq => (h3 _ (by omega) (by omega)).1) (h3 _ (by omega) (by omega)).2 (fun k hk => h4 _ (by omega) (by omega)) (fun g hg => h5 _ (by omega) (by omega))⟩
theorem RX.same {C C' S S' : Mem} (h : RX C S) (h1 : C'.1 82 6 = C.1 82 6) (h2 : C'.1 82 7 = C.1 82 7) (h3 : S'.1 200 10 = S.1 200 10) (h4 : S'.1 200 11 = S.1 200 11) : RX C' S' := by
  unfold RX
  rw [h1, h2, h3, h4]
  exact h
theorem RL.same {C C' S S' : Mem} (h : RL C S) (h1 : C'.1 107 = C.1 107) (h2 : S'.1 200 42 = S.1 200 42) (h3 : S'.1 219 = S.1 219) : RL C' S' := by
  unfold RL
  rw [h1, h2, h3]
  exact h
/-- class: all that Rel speaks of stays, the port and the status aside -/
def KC (C C' : Mem) : Prop := C'.2 = C.2 ∧ (∀ k, k ≠ 0 → C'.1 0 k = C.1 0 k) ∧ ∀ c, c = 1 ∨ c = 8 ∨ c = 9 ∨ (37 ≤ c ∧ c < 76) ∨ c = 82 ∨ c = 107 → C'.1 c = C.1 c
def okM (k : Nat) : Prop := k = 8 ∨ k = 10 ∨ k = 11 ∨ k = 24 ∨ k = 42
/-- model: likewise -/
def KS (S S' : Mem) : Prop := S'.2 = S.2 ∧ (∀ k, okM k → S'.1 200 k = S.1 200 k) ∧ (∀ c, c = 201 ∨ c = 202 ∨ c = 204 ∨ c = 219 → S'.1 c = S.1 c) ∧ ∀ k, 435 ≤ k → k < 1740 → S'.1 205 k = S.1 205 k
theorem KC.rf {C : Mem} : KC C C := ⟨rfl, fun _ _ => rfl, fun _ _ => rfl⟩
theorem KS.rf {S : Mem} : KS S S := ⟨rfl, fun _ _ => rfl, fun _ _ => rfl, fun _ _ _ => rfl⟩
theorem KC.tr {C C1 C2 : Mem} (h : KC C C1) (h2 : KC C1 C2) : KC C C2 := ⟨h2.1.trans h.1, fun k hk => (h2.2.1 k hk).trans (h.2.1 k hk), fun c hc => (h2.2.2 c hc).trans (h.2.2 c hc)⟩
theorem KS.tr {S S1 S2 : Mem} (h : KS S S1) (h2 : KS S1 S2) : KS S S2 := ⟨h2.1.trans h.1, fun k hk => (h2.2.1 k hk).trans (h.2.1 k hk), fun c hc => (h2.2.2.1 c hc).trans (h.2.2.1 c hc), fun k a b => (h2.2.2.2 k a b).trans (h.2.2.2 k a b)⟩
theorem KC.st {C C1 : Mem} (h : KC C C1) (x : Int32) : KC C (uI C1 0 0 x) := h.tr ⟨rfl, fun k hk => by rw [g_uI, if_pos rfl, g_upd, if_neg hk], fun c hc => by rw [g_uI, if_neg (by omega)]⟩
theorem KS.st {S S1 : Mem} (h : KS S S1) {j : Nat} (hj : ¬ okM j) (x : Int32) : KS S (uI S1 200 j x) := h.tr ⟨rfl, fun k hk => by rw [g_uI, if_pos rfl, g_upd, if_neg (fun e : k = j => hj (e ▸ hk))], fun c hc => by rw [g_uI, if_neg (by omega)], fun k _ _ => by rw [g_uI, if_neg (by decide)]⟩
def scrC (c : Nat) : Prop := (10 ≤ c ∧ c < 37) ∨ (76 ≤ c ∧ c < 82) ∨ (83 ≤ c ∧ c < 107) ∨ 108 ≤ c
theorem KC.sm {C C1 : Mem} {L : List Nat} (h : Sm L C C1) (hl : ∀ c, c ∈ L → scrC c) : KC C C1 := ⟨h.1, fun k _ => by rw [h.2 0 (fun z => by have := hl 0 z; unfold scrC at this; omega)], fun c hc => h.2 c (fun z => by have := hl c z; unfold scrC at this; omega)⟩
theorem KS.smH {S S1 : Mem} (h : SmH S S1) : KS S S1 := ⟨h.1.1, fun k _ => by rw [h.1.2 200 (by simp)], fun c hc => h.1.2 c (by simp; omega), fun k a _ => h.2 k a⟩
def scrS (c : Nat) : Prop := c = 206 ∨ c = 207 ∨ (209 ≤ c ∧ c < 219) ∨ 220 ≤ c
theorem KS.sm {S S1 : Mem} {L : List Nat} (h : Sm L S S1) (hl : ∀ c, c ∈ L → scrS c) : KS S S1 := ⟨h.1, fun k _ => by rw [h.2 200 (fun z => by have := hl 200 z; unfold scrS at this; omega)], fun c hc => h.2 c (fun z => by have := hl c z; unfold scrS at this; omega), fun k _ _ => by rw [h.2 205 (fun z => by have := hl 205 z; unfold scrS at this; omega)]⟩
/-- a call that changes at most the port and the status -/
theorem Rel.port {C C' S S' : Mem} (h : Rel C S) (hC : KC C C') (hS : KS S S') (hst : C'.1 0 0 = S'.1 200 0) (hp : PB C' 10 S' 0) : Rel C' S' := by
  obtain ⟨-, a, b, c, -, d, e, f⟩ := h
  obtain ⟨c1, c2, c3⟩ := hC
  obtain ⟨s1, s2, s3, s4⟩ := hS
  refine ⟨hst, a.same (by rw [c1]) (by rw [c1]) (by rw [s1]) (by rw [s1]), b.same (c2 3 (by decide)) (c3 1 (by simp)) (s2 8 (by simp [okM])) (s3 204 (by simp)), c.same (c3 8 (by simp)) (c3 9 (by simp)) (fun t _ => by rw [c1]) (s3 201 (by simp)) (s3 202 (by simp)) (by rw [s1]), hp, d.same (c2 4 (by decide)) (s2 24 (by simp [okM])) (fun c h1 h2 => ⟨c3 c (by omega), by rw [c1]⟩) s4 (fun k _ _ => by rw [s1]), e.same (by rw [c3 82 (by simp)]) (by rw [c3 82 (by simp)]) (s2 10 (by simp [okM])) (s2 11 (by simp [okM])), f.same (c3 107 (by simp)) (s2 42 (by simp [okM])) (s3 219 (by simp))⟩
/-- a call that changes at most the status -/
theorem Rel.st {C C' S S' : Mem} (h : Rel C S) (hC : KC C C') (hS : KS S S') (hst : C'.1 0 0 = S'.1 200 0) (hp : ∀ c, 10 ≤ c → c < 23 → C'.1 c = C.1 c) (hq : ∀ k, k < 435 → S'.1 205 k = S.1 205 k) : Rel C' S' :=
  h.port hC hS hst (h.2.2.2.2.1.same (fun j hj => hp _ (by omega) (by omega)) (by rw [hC.1]) (fun k hk => by rw [Nat.mul_zero, Nat.zero_add]; exact hq k hk) (fun g _ => by rw [hS.1]))
/-- the same, without the status -/
def Re (C S : Mem) : Prop := RF C S ∧ RT C S ∧ RY C S ∧ PB C 10 S 0 ∧ RM C S ∧ RX C S ∧ RL C S
theorem Re.port {C C' S S' : Mem} (h : Re C S) (hC : KC C C') (hS : KS S S') (hst : C'.1 0 0 = S'.1 200 0) (hp : PB C' 10 S' 0) : Rel C' S' := by
  obtain ⟨a, b, c, -, d, e, f⟩ := h
  obtain ⟨c1, c2, c3⟩ := hC
  obtain ⟨s1, s2, s3, s4⟩ := hS
  refine ⟨hst, a.same (by rw [c1]) (by rw [c1]) (by rw [s1]) (by rw [s1]), b.same (c2 3 (by decide)) (c3 1 (by simp)) (s2 8 (by simp [okM])) (s3 204 (by simp)), c.same (c3 8 (by simp)) (c3 9 (by simp)) (fun t _ => by rw [c1]) (s3 201 (by simp)) (s3 202 (by simp)) (by rw [s1]), hp, d.same (c2 4 (by decide)) (s2 24 (by simp [okM])) (fun c h1 h2 => ⟨c3 c (by omega), by rw [c1]⟩) s4 (fun k _ _ => by rw [s1]), e.same (by rw [c3 82 (by simp)]) (by rw [c3 82 (by simp)]) (s2 10 (by simp [okM])) (s2 11 (by simp [okM])), f.same (c3 107 (by simp)) (s2 42 (by simp [okM])) (s3 219 (by simp))⟩
theorem Re.st {C C' S S' : Mem} (h : Re C S) (hC : KC C C') (hS : KS S S') (hst : C'.1 0 0 = S'.1 200 0) (hp : ∀ c, 10 ≤ c → c < 23 → C'.1 c = C.1 c) (hq : ∀ k, k < 435 → S'.1 205 k = S.1 205 k) : Rel C' S' :=
  h.port hC hS hst (h.2.2.2.1.same (fun j hj => hp _ (by omega) (by omega)) (by rw [hC.1]) (fun k hk => by rw [Nat.mul_zero, Nat.zero_add]; exact hq k hk) (fun g _ => by rw [hS.1]))
theorem Rel.re {C S : Mem} (h : Rel C S) : Re C S := h.2
theorem n_okM : ¬ okM 0 ∧ ¬ okM 1 := ⟨by simp [okM], by simp [okM]⟩
theorem Re.s0 {C S : Mem} (h : Re C S) (j : Nat) (hj : ¬ okM j) (x : Int32) : Re C (uI S 200 j x) := by
  have hC : KC C (uI C 0 0 ((uI S 200 j x).1 200 0)) := KC.rf.st _
  have := (h.st hC (KS.rf.st hj x) rfl (fun c h1 h2 => by rw [g_uI, if_neg (by omega)]) (fun k hk => by rw [g_uI, if_neg (by decide)])).2
  obtain ⟨a, b, c, d, e, f, g⟩ := h
  obtain ⟨s1, s2, s3, s4⟩ := (KS.rf (S := S)).st hj x
  exact ⟨a.same rfl rfl (by rw [s1]) (by rw [s1]), b.same rfl rfl (s2 8 (by simp [okM])) (s3 204 (by simp)), c.same rfl rfl (fun t _ => rfl) (s3 201 (by simp)) (s3 202 (by simp)) (by rw [s1]), d.same (fun _ _ => rfl) rfl (fun k _ => by rw [g_uI, if_neg (by decide)]) (fun g _ => by rw [s1]), e.same rfl (s2 24 (by simp [okM])) (fun _ _ _ => ⟨rfl, rfl⟩) s4 (fun k _ _ => by rw [s1]), f.same rfl rfl (s2 10 (by simp [okM])) (s2 11 (by simp [okM])), g.same rfl (s2 42 (by simp [okM])) (s3 219 (by simp))⟩
/-- refused -/
theorem cl_ref {C S : Mem} (h : Re C S) (x : Int32) : Rel (uI C 0 0 x) (uI S 200 0 x) := h.st (KC.rf.st x) (KS.rf.st n_okM.1 x) (by rw [g_uI, if_pos rfl, g_upd, if_pos rfl, g_uI, if_pos rfl, g_upd, if_pos rfl]) (fun c h1 h2 => by rw [g_uI, if_neg (by omega)]) (fun k hk => by rw [g_uI, if_neg (by decide)])
/-- answered, nothing else changed -/
theorem cl_ok {C S : Mem} (h : Re C S) (hs : S.1 200 0 = 0) : Rel (uI C 0 0 0) S := h.st (KC.rf.st 0) KS.rf (by rw [g_uI, if_pos rfl, g_upd, if_pos rfl, hs]) (fun c h1 h2 => by rw [g_uI, if_neg (by omega)]) (fun _ _ => rfl)
/-- two calls answer alike and leave what Rel tells -/
def Same {β : Type} (o o' : Option (β × Mem)) : Prop := ∃ r C' S', o = some (r, C') ∧ o' = some (r, S') ∧ Rel C' S'
theorem Same.mk {β : Type} {r : β} {C S : Mem} (h : Rel C S) : Same (some (r, C)) (some (r, S)) := ⟨r, C, S, rfl, rfl, h⟩
theorem Re.get {C S : Mem} (h : Re C S) : ∃ v, VV v ∧ v 9 ≤ 9999 ∧ PC C 10 v ∧ Ar S 205 435 v ∧ (∀ g, g < v 2 → C.2 12 g = S.2 208 g) := by
  obtain ⟨v, a, b, c, d, e⟩ := h.2.2.2.1
  refine ⟨v, a, b, c, fun k hk => ?_, fun g hg => ?_⟩
  · have := d k hk
    rwa [Nat.mul_zero, Nat.zero_add] at this
  · have := e g hg
    rwa [Nat.mul_zero, Nat.zero_add] at this
theorem S0_st (S : Mem) (x y : Int32) : (uI (uI S 200 1 x) 200 0 y).1 200 0 = y := by rw [g_uI, if_pos rfl, g_upd, if_pos rfl]
/-- numbers of things -/
theorem gate_is {C S : Mem} {v : Nat → Nat} (hv : v 2 < 2147483648) (h1 : C.1 10 7 = nI (v 2)) (h2 : S.1 205 2 = nI (v 2)) (x : Int32) : ∃ b, f_X5_isGate 10 x C = some (b, C) ∧ f_X12_isGateAt x S = some (b, S) ∧ (b = true → ∃ g, g < v 2 ∧ x = nI g) := by
  unfold f_X5_isGate f_X12_isGateAt
  rcases i32c x with h | ⟨n, hn, rfl⟩
  · refine ⟨false, by rw [if_pos h], ?_, fun z => by cases z⟩
    rw [ck_l (by omega), show (0 : Int64) = lN 0 from rfl, m_inneg h (by omega), bi_s]
  · refine ⟨decide (n < v 2), ?_, ?_, fun z => ⟨n, of_decide_eq_true z, rfl⟩⟩
    · rw [if_neg (nI_pos hn), h1]
      by_cases g : n < v 2
      · rw [if_neg (by rw [n_le (by omega)]; omega)]; simp [g]
      · rw [if_pos (by rw [n_le (by omega)]; omega)]; simp [g]
    · rw [ck_l (by omega), show tn 2 = 2 from rfl, h2, m_in0 ⟨hn, hv⟩, bi_s]
theorem holder_is {C S : Mem} {v : Nat → Nat} (hv : v 3 < 2147483648) (h1 : C.1 10 8 = nI (v 3)) (h2 : S.1 205 3 = nI (v 3)) (x : Int32) : ∃ b, f_X5_isHolder 10 x C = some (b, C) ∧ f_X12_isHolderAt x S = some (b, S) ∧ (b = true → ∃ g, g < v 3 ∧ x = nI g) := by
  unfold f_X5_isHolder f_X12_isHolderAt
  rcases i32c x with h | ⟨n, hn, rfl⟩
  · refine ⟨false, by rw [if_pos h], ?_, fun z => by cases z⟩
    rw [ck_l (by omega), show (0 : Int64) = lN 0 from rfl, m_inneg h (by omega), bi_s]
  · refine ⟨decide (n < v 3), ?_, ?_, fun z => ⟨n, of_decide_eq_true z, rfl⟩⟩
    · rw [if_neg (nI_pos hn), h1]
      by_cases g : n < v 3
      · rw [if_neg (by rw [n_le (by omega)]; omega)]; simp [g]
      · rw [if_pos (by rw [n_le (by omega)]; omega)]; simp [g]
    · rw [ck_l (by omega), show tn 3 = 3 from rfl, h2, m_in0 ⟨hn, hv⟩, bi_s]
theorem ship_is {C S : Mem} {v : Nat → Nat} (hv : v 5 < 2147483648) (h1 : C.1 10 10 = nI (v 5)) (h2 : S.1 205 5 = nI (v 5)) (x : Int32) : ∃ b, f_X5_isShip 10 x C = some (b, C) ∧ f_X12_isShipAt x S = some (b, S) ∧ (b = true → ∃ g, g < v 5 ∧ x = nI g) := by
  unfold f_X5_isShip f_X12_isShipAt
  rcases i32c x with h | ⟨n, hn, rfl⟩
  · refine ⟨false, by rw [if_pos h], ?_, fun z => by cases z⟩
    rw [ck_l (by omega), show (0 : Int64) = lN 0 from rfl, m_inneg h (by omega), bi_s]
  · refine ⟨decide (n < v 5), ?_, ?_, fun z => ⟨n, of_decide_eq_true z, rfl⟩⟩
    · rw [if_neg (nI_pos hn), h1]
      by_cases g : n < v 5
      · rw [if_neg (by rw [n_le (by omega)]; omega)]; simp [g]
      · rw [if_pos (by rw [n_le (by omega)]; omega)]; simp [g]
    · rw [ck_l (by omega), show tn 5 = 5 from rfl, h2, m_in0 ⟨hn, hv⟩, bi_s]
theorem board_is {C S : Mem} {v : Nat → Nat} (hv : v 0 < 2147483648 ∧ v 1 < 2147483648) (h1 : C.1 10 0 = nI (v 0)) (h2 : C.1 10 1 = nI (v 1)) (h3 : S.1 205 0 = nI (v 0)) (h4 : S.1 205 1 = nI (v 1)) (x y : Int32) : ∃ b, f_X5_isBoard 10 x y C = some (b, C) ∧ f_X12_isBoard x y S = some (b, S) ∧ (b = true → ∃ c r, c < v 0 ∧ r < v 1 ∧ x = nI c ∧ y = nI r) := by
  rcases i32c x with h | ⟨n, hn, rfl⟩
  · exact ⟨false, f_isB0 h, m_isB0 h, fun z => by cases z⟩
  · rcases i32c y with h | ⟨m, hm, rfl⟩
    · exact ⟨false, f_isB1 h1 hn hv.1 h, m_isB1 h3 ⟨hn, hv.1⟩ h, fun z => by cases z⟩
    · exact ⟨decide (n < v 0 ∧ m < v 1), f_isB h1 h2 hn hm hv.1 hv.2, m_isB h3 h4 ⟨hn, hm, hv.1, hv.2⟩, fun z => ⟨n, m, (of_decide_eq_true z).1, (of_decide_eq_true z).2, rfl, rfl⟩⟩
/-- a number told, within bounds or not -/
theorem in_is (a b : Nat) (hb : a < 2147483648 ∧ b < 2147483648) (S : Mem) (x : Int32) : ∃ c, f_X12_isIn x.toInt64 (lN a) (lN b) S = some (c, S) ∧ ((c = true ∧ ∃ n, a ≤ n ∧ n ≤ b ∧ x = nI n) ∨ (c = false ∧ (x < 0 ∨ ∃ n, n < 2147483648 ∧ ¬ (a ≤ n ∧ n ≤ b) ∧ x = nI n))) := by
  rcases i32c x with h | ⟨n, hn, rfl⟩
  · refine ⟨false, ?_, Or.inr ⟨rfl, Or.inl h⟩⟩
    rw [← nI_l hb.2]
    exact m_inneg h hb.1 _ S
  · refine ⟨decide (a ≤ n ∧ n ≤ b), m_inl ⟨hn, hb.1, hb.2⟩ S, ?_⟩
    by_cases g : a ≤ n ∧ n ≤ b
    · exact Or.inl ⟨decide_eq_true g, n, g.1, g.2, rfl⟩
    · exact Or.inr ⟨decide_eq_false g, Or.inr ⟨n, hn, g, rfl⟩⟩
