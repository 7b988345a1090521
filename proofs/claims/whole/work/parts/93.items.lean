section Q14
variable {C C' : Mem} {q : Nat} {v v' : Nat → Nat}
/-- what stands within, one level down -/
def BB (C : Mem) (q : Nat) (v : Nat → Nat) : Nat → Nat → Nat → Nat → Nat → Prop
  | 0 => fun _ _ _ _ => False
  | e + 1 => Sq C q v e
theorem Sq_BB (e : Nat) : Sq C q v e = SqL C q v (BB C q v e) 60 := by cases e <;> rfl
theorem StOK.loc {x a : Nat} (h0 : v' 0 = v 0 ∧ v' 1 = v 1 ∧ v' 2 = v 2) (hc : ∀ j, 1 ≤ j → j < 5 → C'.1 (q + j) a = C.1 (q + j) a) (hv : ∀ k, 165 + 9 * x ≤ k → k < 173 + 9 * x → v' k = v k) (h : StOK C q v x a) : StOK C' q v' x a := by
  unfold StOK at h ⊢
  rw [h0.1, h0.2.1, h0.2.2, hc 1 (by omega) (by omega), hc 2 (by omega) (by omega), hc 3 (by omega) (by omega), hc 4 (by omega) (by omega), hv (165 + 9 * x) (by omega) (by omega), hv (166 + 9 * x) (by omega) (by omega), hv (167 + 9 * x) (by omega) (by omega), hv (168 + 9 * x) (by omega) (by omega), hv (171 + 9 * x) (by omega) (by omega), hv (172 + 9 * x) (by omega) (by omega)]
  exact h
theorem SqL.loc {X Y p r : Nat} {B B' : Nat → Nat → Nat → Nat → Prop} (h0 : v' 0 = v 0 ∧ v' 1 = v 1 ∧ v' 2 = v 2) (hc : ∀ j k, 1 ≤ j → j < 6 → p ≤ k → k < r → C'.1 (q + j) k = C.1 (q + j) k) (hv : ∀ k, 165 + 9 * X ≤ k → k < 165 + 9 * Y → v' k = v k) (hB : ∀ x y a b, X ≤ x → y ≤ Y → p ≤ a → b ≤ r → B x y a b → B' x y a b) : ∀ n x y a b, X ≤ x → y ≤ Y → p ≤ a → b ≤ r → SqL C q v B n x y a b → SqL C' q v' B' n x y a b
  | 0, _, _, _, _, _, _, _, _, h => h
  | n + 1, x, y, a, b, hx, hy, ha, hb, h => by
    have ih := SqL.loc h0 hc hv hB n
    unfold SqL at h ⊢
    rcases h with h | ⟨a1, a2, a3, h⟩
    · exact Or.inl h
    · have e165 := hv (165 + 9 * x) (by omega) (by omega)
      have e173 := hv (173 + 9 * x) (by omega) (by omega)
      refine Or.inr ⟨a1, a2, a3.loc h0 (fun j j1 j2 => hc j a j1 (by omega) (by omega) (by omega)) (fun k k1 k2 => hv k (by omega) (by omega)), ?_⟩
      unfold isBlk at h ⊢
      rw [e165, e173]
      rcases h with ⟨b1, b2, b3⟩ | ⟨b1, b2, b3, m, b4, b5, b6, b7, b8, b9, b10⟩
      · exact Or.inl ⟨b1, b2, ih _ _ _ _ (by omega) (by omega) (by omega) (by omega) b3⟩
      · exact Or.inr ⟨b1, b2, b3, m, b4, b5, hB _ _ _ _ (by omega) (by omega) (by omega) (by omega) b6, by rw [hc 1 m (by omega) (by omega) (by omega) (by omega)]; exact b7, by rw [hc 5 m (by omega) (by omega) (by omega) (by omega)]; exact b8, by rw [hc 5 a (by omega) (by omega) (by omega) (by omega)]; exact b9, ih _ _ _ _ (by omega) (by omega) (by omega) (by omega) b10⟩
theorem Sq.loc {X Y p r : Nat} (h0 : v' 0 = v 0 ∧ v' 1 = v 1 ∧ v' 2 = v 2) (hc : ∀ j k, 1 ≤ j → j < 6 → p ≤ k → k < r → C'.1 (q + j) k = C.1 (q + j) k) (hv : ∀ k, 165 + 9 * X ≤ k → k < 165 + 9 * Y → v' k = v k) : ∀ e x y a b, X ≤ x → y ≤ Y → p ≤ a → b ≤ r → Sq C q v e x y a b → Sq C' q v' e x y a b
  | 0 => SqL.loc h0 hc hv (fun _ _ _ _ _ _ _ _ h => h) 60
  | e + 1 => SqL.loc h0 hc hv (fun x y a b => Sq.loc h0 hc hv e x y a b) 60
theorem BB.loc {X Y p r : Nat} (h0 : v' 0 = v 0 ∧ v' 1 = v 1 ∧ v' 2 = v 2) (hc : ∀ j k, 1 ≤ j → j < 6 → p ≤ k → k < r → C'.1 (q + j) k = C.1 (q + j) k) (hv : ∀ k, 165 + 9 * X ≤ k → k < 165 + 9 * Y → v' k = v k) : ∀ e x y a b, X ≤ x → y ≤ Y → p ≤ a → b ≤ r → BB C q v e x y a b → BB C' q v' e x y a b
  | 0, _, _, _, _, _, _, _, _, h => h
  | e + 1, x, y, a, b, h1, h2, h3, h4, h => Sq.loc h0 hc hv e x y a b h1 h2 h3 h4 h
theorem SqL.up {B : Nat → Nat → Nat → Nat → Prop} : ∀ n x y a b, SqL C q v B n x y a b → SqL C q v B (n + 1) x y a b
  | 0, _, _, _, _, h => Or.inl h
  | n + 1, x, y, a, b, h => by
    have ih := SqL.up (B := B) n
    unfold SqL at h ⊢
    rcases h with h | ⟨a1, a2, a3, h⟩
    · exact Or.inl h
    · refine Or.inr ⟨a1, a2, a3, ?_⟩
      rcases h with ⟨b1, b2, b3⟩ | ⟨b1, b2, b3, m, b4, b5, b6, b7, b8, b9, b10⟩
      · exact Or.inl ⟨b1, b2, ih _ _ _ _ b3⟩
      · exact Or.inr ⟨b1, b2, b3, m, b4, b5, b6, b7, b8, b9, ih _ _ _ _ b10⟩
theorem SqL.mono {B : Nat → Nat → Nat → Nat → Prop} {n m x y a b : Nat} (h : n ≤ m) (hs : SqL C q v B n x y a b) : SqL C q v B m x y a b := by
  obtain ⟨d, rfl⟩ : ∃ d, m = n + d := ⟨m - n, by omega⟩
  induction d with
  | zero => exact hs
  | succ d ih => exact SqL.up _ _ _ _ _ (ih (by omega))
/-- one step, or a when, a loop, with all that stands within -/
def It (C : Mem) (q : Nat) (v : Nat → Nat) (B : Nat → Nat → Nat → Nat → Prop) (x y a b : Nat) : Prop := x < y ∧ a < b ∧ StOK C q v x a ∧ ((¬ isBlk v x ∧ v (173 + 9 * x) = x + 1 ∧ y = x + 1 ∧ b = a + 1) ∨ (isBlk v x ∧ v (173 + 9 * x) = y ∧ ∃ m, a < m ∧ b = m + 1 ∧ B (x + 1) y (a + 1) m ∧ C.1 (q + 1) m = nI 11 ∧ C.1 (q + 5) m = nI a ∧ C.1 (q + 5) a = nI m))
theorem It.one {B : Nat → Nat → Nat → Nat → Prop} {x y a b : Nat} (h : It C q v B x y a b) : SqL C q v B 1 x y a b := by
  obtain ⟨h1, h2, h3, h4⟩ := h
  refine Or.inr ⟨h1, h2, h3, ?_⟩
  rcases h4 with ⟨c1, c2, c3, c4⟩ | ⟨c1, c2, m, c3, c4, c5, c6, c7, c8⟩
  · exact Or.inl ⟨c1, c2, c3.symm, c4.symm⟩
  · exact Or.inr ⟨c1, by omega, by omega, m, c3, by omega, by rw [c2]; exact c5, c6, c7, c8, c2, c4.symm⟩
theorem SqL.snoc {B : Nat → Nat → Nat → Nat → Prop} {y' b' : Nat} : ∀ n x y a b, SqL C q v B n x y a b → It C q v B y y' b b' → SqL C q v B (n + 1) x y' a b'
  | 0, x, y, a, b, h, i => by
    obtain ⟨rfl, rfl⟩ := h
    exact i.one
  | n + 1, x, y, a, b, h, i => by
    unfold SqL at h
    rcases h with ⟨rfl, rfl⟩ | ⟨a1, a2, a3, h⟩
    · exact i.one.mono (by omega)
    · refine Or.inr ⟨by have := i.1; omega, by have := i.2.1; omega, a3, ?_⟩
      rcases h with ⟨b1, b2, b3⟩ | ⟨b1, b2, b3, m, b4, b5, b6, b7, b8, b9, b10⟩
      · exact Or.inl ⟨b1, b2, SqL.snoc n _ _ _ _ b3 i⟩
      · exact Or.inr ⟨b1, b2, by have := i.1; omega, m, b4, by have := i.2.1; omega, b6, b7, b8, b9, SqL.snoc n _ _ _ _ b10 i⟩
theorem It.loc {X Y p r : Nat} {B B' : Nat → Nat → Nat → Nat → Prop} (h0 : v' 0 = v 0 ∧ v' 1 = v 1 ∧ v' 2 = v 2) (hc : ∀ j k, 1 ≤ j → j < 6 → p ≤ k → k < r → C'.1 (q + j) k = C.1 (q + j) k) (hv : ∀ k, 165 + 9 * X ≤ k → k < 165 + 9 * Y → v' k = v k) (hB : ∀ x y a b, X ≤ x → y ≤ Y → p ≤ a → b ≤ r → B x y a b → B' x y a b) {x y a b : Nat} (hx : X ≤ x ∧ y ≤ Y ∧ p ≤ a ∧ b ≤ r) (h : It C q v B x y a b) : It C' q v' B' x y a b := by
  obtain ⟨h1, h2, h3, h4⟩ := h
  have e165 := hv (165 + 9 * x) (by omega) (by omega)
  have e173 := hv (173 + 9 * x) (by omega) (by omega)
  refine ⟨h1, h2, h3.loc h0 (fun j j1 j2 => hc j a j1 (by omega) (by omega) (by omega)) (fun k k1 k2 => hv k (by omega) (by omega)), ?_⟩
  unfold isBlk at h4 ⊢
  rw [e165, e173]
  rcases h4 with h4 | ⟨c1, c2, m, c3, c4, c5, c6, c7, c8⟩
  · exact Or.inl h4
  · exact Or.inr ⟨c1, c2, m, c3, c4, hB _ _ _ _ (by omega) (by omega) (by omega) (by omega) c5, by rw [hc 1 m (by omega) (by omega) (by omega) (by omega)]; exact c6, by rw [hc 5 m (by omega) (by omega) (by omega) (by omega)]; exact c7, by rw [hc 5 a (by omega) (by omega) (by omega) (by omega)]; exact c8⟩
/-- the model's block, read as numbers -/
def wU (x : Int32) : Nat := x.toBitVec.toNat
theorem wU_nI {n : Nat} (h : n < 2147483648) : wU (nI n) = n := by
  show (BitVec.ofNat 32 n).toNat = n
  rw [BitVec.toNat_ofNat]
  omega
theorem nI_wU (x : Int32) : nI (wU x) = x := by
  apply Int32.toBitVec_inj.mp
  show BitVec.ofNat 32 x.toBitVec.toNat = x.toBitVec
  rw [BitVec.ofNat_toNat, BitVec.setWidth_eq]
def U (v : Nat → Nat) (S : Mem) : Nat → Nat := fun k => if 165 ≤ k then wU (S.1 205 (1740 + k)) else v k
theorem U_lo {S : Mem} {k : Nat} (h : k < 165) : U v S k = v k := if_neg (by omega)
theorem U_hi {S : Mem} {k n : Nat} (h : 165 ≤ k) (hn : n < 2147483648) (e : S.1 205 (1740 + k) = nI n) : U v S k = n := by
  unfold U
  rw [if_pos h, e, wU_nI hn]
theorem U_same {S S' : Mem} {k : Nat} (h : S'.1 205 (1740 + k) = S.1 205 (1740 + k)) : U v S' k = U v S k := by
  unfold U
  rw [h]
end Q14
