/-! PURE LAYER: evaluation of the plain functions; numbers as nI of a natural number -/
section PE
variable {α β : Type}
/-- it comes to an answer, with Q -/
def Ho (o : Option β) (Q : β → Prop) : Prop := ∃ r, o = some r ∧ Q r
theorem Ho_some {r : β} {Q : β → Prop} : Ho (some r) Q ↔ Q r := ⟨fun ⟨_, e, h⟩ => by cases e; exact h, fun h => ⟨r, rfl, h⟩⟩
theorem Ho_bi {o : Option (α × Mem)} {k : α → Mem → Option β} {Q : β → Prop} : Ho (bi o k) Q ↔ Ho o (fun q => Ho (k q.1 q.2) Q) := by
  constructor
  · rintro ⟨r, e, h⟩
    obtain ⟨v, M1, h1, h2⟩ := bi_elim e
    exact ⟨(v, M1), h1, r, h2, h⟩
  · rintro ⟨q, e, r, e2, h⟩
    refine ⟨r, ?_, h⟩
    rw [e]
    exact e2
theorem Ho_bv {o : Option Mem} {k : Mem → Option β} {Q : β → Prop} : Ho (bv o k) Q ↔ Ho o (fun q => Ho (k q) Q) := by
  constructor
  · rintro ⟨r, e, h⟩
    obtain ⟨M1, h1, h2⟩ := bv_elim e
    exact ⟨M1, h1, r, h2, h⟩
  · rintro ⟨q, e, r, e2, h⟩
    refine ⟨r, ?_, h⟩
    rw [e]
    exact e2
theorem Ho_bM {x : Mem} {f : Mem → Option β} {Q : β → Prop} : Ho (bM x f) Q ↔ Ho (f x) Q := Iff.rfl
theorem Ho_bI {x : Int32} {f : Int32 → Option β} {Q : β → Prop} : Ho (bI x f) Q ↔ Ho (f x) Q := Iff.rfl
theorem Ho_bL {x : Int64} {f : Int64 → Option β} {Q : β → Prop} : Ho (bL x f) Q ↔ Ho (f x) Q := Iff.rfl
theorem Ho_ite {c : Prop} [Decidable c] {a b : Option β} {Q : β → Prop} : Ho (if c then a else b) Q ↔ (c → Ho a Q) ∧ (¬ c → Ho b Q) := by
  by_cases h : c
  · rw [if_pos h]
    exact ⟨fun q => ⟨fun _ => q, fun z => absurd h z⟩, fun q => q.1 h⟩
  · rw [if_neg h]
    exact ⟨fun q => ⟨fun z => absurd z h, fun _ => q⟩, fun q => q.2 h⟩
theorem Ho_T {c : Prop} [Decidable c] {a b : Option β} {Q : β → Prop} (h : c) (k : Ho a Q) : Ho (if c then a else b) Q := by rw [if_pos h]; exact k
theorem Ho_F {c : Prop} [Decidable c] {a b : Option β} {Q : β → Prop} (h : ¬ c) (k : Ho b Q) : Ho (if c then a else b) Q := by rw [if_neg h]; exact k
theorem Ho_ck {i : Int32} {n : Nat} {k : Option β} {Q : β → Prop} (h : vp_in i n) (hk : Ho k Q) : Ho (ck i n k) Q := by
  unfold ck
  rw [if_neg h]
  exact hk
theorem Ho_mono {o : Option β} {P Q : β → Prop} (h : Ho o P) (hq : ∀ r, P r → Q r) : Ho o Q := by
  obtain ⟨r, e, hr⟩ := h
  exact ⟨r, e, hq r hr⟩
theorem Ho_eq {o : Option β} {r : β} {Q : β → Prop} (e : o = some r) (h : Q r) : Ho o Q := ⟨r, e, h⟩
theorem Ho_lp {body : (α → Mem → Option β) → α → Mem → Option β} {Q : β → Prop} (P : Nat → α → Mem → Prop) (n : Nat) {F : Nat} {a : α} {M : Mem} (hF : n < F) (h0 : P 0 a M) (hb : ∀ i, i ≤ n → ∀ k, (i < n → ∀ a M, P (i + 1) a M → Ho (k a M) Q) → ∀ a M, P i a M → Ho (body k a M) Q) : Ho (lp body F a M) Q := by
  have key : ∀ m i, i + m = n → ∀ F, m < F → ∀ a M, P i a M → Ho (lp body F a M) Q := by
    intro m
    induction m with
    | zero =>
      intro i hi F hF a M hP
      obtain ⟨F, rfl⟩ : ∃ G, F = G + 1 := ⟨F - 1, by omega⟩
      exact hb i (by omega) _ (fun z => absurd z (by omega)) a M hP
    | succ m ih =>
      intro i hi F hF a M hP
      obtain ⟨F, rfl⟩ : ∃ G, F = G + 1 := ⟨F - 1, by omega⟩
      exact hb i (by omega) _ (fun _ a' M' h' => ih (i + 1) (by omega) F (by omega) a' M' h') a M hP
  exact key n 0 (by omega) F hF a M h0
theorem bi_s (v : α) (M : Mem) (k : α → Mem → Option β) : bi (some (v, M)) k = k v M := rfl
theorem bv_s (M : Mem) (k : Mem → Option β) : bv (some M) k = k M := rfl
theorem bM_e (x : Mem) (f : Mem → Option β) : bM x f = f x := rfl
theorem bI_e (x : Int32) (f : Int32 → Option β) : bI x f = f x := rfl
theorem bL_e (x : Int64) (f : Int64 → Option β) : bL x f = f x := rfl
theorem ck_e {i : Int32} {n : Nat} {k : Option β} (h : vp_in i n) : ck i n k = k := if_neg h
theorem ck_n {j n : Nat} {k : Option β} (h : j < n ∧ n < 2147483648) : ck (nI j) n k = k := ck_e (vp_in_nI h.1 h.2)
theorem ck_l {j n : Nat} {k : Option β} (h : OfNat.ofNat j < n ∧ n < 2147483648) : ck (no_index (OfNat.ofNat j)) n k = k := ck_e (vp_in_nI h.1 h.2)
theorem ck_0 {n : Nat} {k : Option β} (h : 0 < n ∧ n < 2147483648) : ck 0 n k = k := ck_e (vp_in_nI (n := 0) h.1 h.2)
theorem cz_e {y : Int32} {k : Option β} (h : ¬ y = 0) : cz y k = k := if_neg h
theorem czL_e {y : Int64} {k : Option β} (h : ¬ y = 0) : czL y k = k := if_neg h
theorem zb_b (b : Bool) (k : Bool → Option β) : zb (b2i b) k = k b := by cases b <;> rfl
theorem zb_0 (k : Bool → Option β) : zb 0 k = k false := rfl
theorem zb_1 (k : Bool → Option β) : zb 1 k = k true := rfl
end PE
theorem b2i_0 (b : Bool) : (b2i b = 0) = (b = false) := by cases b <;> simp [b2i]
theorem b2i_1 (b : Bool) : (b2i b = 1) = (b = true) := by cases b <;> simp [b2i]
theorem b2i_t : b2i true = 1 := rfl
theorem b2i_f : b2i false = 0 := rfl
/-! the memory -/
theorem g_rI (M : Mem) (c : Nat) (f : Nat → Int32) (a : Nat) : (rI M c f).1 a = if a = c then f else M.1 a := rfl
theorem g_rI2 (M : Mem) (c : Nat) (f : Nat → Int32) : (rI M c f).2 = M.2 := rfl
theorem g_rL (M : Mem) (c : Nat) (f : Nat → Int64) (a : Nat) : (rL M c f).2 a = if a = c then f else M.2 a := rfl
theorem g_rL2 (M : Mem) (c : Nat) (f : Nat → Int64) : (rL M c f).1 = M.1 := rfl
theorem g_uI (M : Mem) (c k : Nat) (v : Int32) (a : Nat) : (uI M c k v).1 a = if a = c then upd (M.1 c) k v else M.1 a := rfl
theorem g_uI2 (M : Mem) (c k : Nat) (v : Int32) : (uI M c k v).2 = M.2 := rfl
theorem g_uL (M : Mem) (c k : Nat) (v : Int64) (a : Nat) : (uL M c k v).2 a = if a = c then vp_updL (M.2 c) k v else M.2 a := rfl
theorem g_uL2 (M : Mem) (c k : Nat) (v : Int64) : (uL M c k v).1 = M.1 := rfl
theorem g_upd (f : Nat → Int32) (k : Nat) (x : Int32) (j : Nat) : upd f k x j = if j = k then x else f j := rfl
theorem g_updL (f : Nat → Int64) (k : Nat) (x : Int64) (j : Nat) : vp_updL f k x j = if j = k then x else f j := rfl
theorem g_cpy {α : Type} (f g : Nat → α) (sp dp n k : Nat) : va_cpy f g sp dp n k = if dp ≤ k ∧ k < dp + n then f (sp + (k - dp)) else g k := rfl
/-! numbers: nI beside nI, nI beside a literal -/
theorem n_tn {j : Nat} (h : j < 2147483648) : Int32.toNatClampNeg (nI j) = j := nI_clamp h
theorem n_tl (n : Nat) (h : OfNat.ofNat n < 2147483648) : Int32.toNatClampNeg (no_index (OfNat.ofNat n : Int32)) = OfNat.ofNat n := nI_clamp (n := n) h
theorem n_t0 : Int32.toNatClampNeg 0 = 0 := rfl
theorem n_lt {a b : Nat} (h : a < 2147483648 ∧ b < 2147483648) : (nI a < nI b) = (a < b) := propext (nI_ltI h.1 h.2)
theorem n_le {a b : Nat} (h : a < 2147483648 ∧ b < 2147483648) : (nI a ≤ nI b) = (a ≤ b) := propext (nI_leI h.1 h.2)
theorem n_eq {a b : Nat} (h : a < 2147483648 ∧ b < 2147483648) : (nI a = nI b) = (a = b) := propext (nI_eq h.1 h.2)
theorem n_ltl {a b : Nat} (h : a < 2147483648 ∧ (no_index (OfNat.ofNat b)) < 2147483648) : (nI a < (no_index (OfNat.ofNat b))) = (a < OfNat.ofNat b) := n_lt h
theorem n_lel {a b : Nat} (h : a < 2147483648 ∧ (no_index (OfNat.ofNat b)) < 2147483648) : (nI a ≤ (no_index (OfNat.ofNat b))) = (a ≤ OfNat.ofNat b) := n_le h
theorem n_eql {a b : Nat} (h : a < 2147483648 ∧ (no_index (OfNat.ofNat b)) < 2147483648) : (nI a = (no_index (OfNat.ofNat b))) = (a = OfNat.ofNat b) := n_eq h
theorem n_llt {a b : Nat} (h : a < 2147483648 ∧ (no_index (OfNat.ofNat b)) < 2147483648) : ((no_index (OfNat.ofNat b)) < nI a) = (OfNat.ofNat b < a) := n_lt h.symm
theorem n_lle {a b : Nat} (h : a < 2147483648 ∧ (no_index (OfNat.ofNat b)) < 2147483648) : ((no_index (OfNat.ofNat b)) ≤ nI a) = (OfNat.ofNat b ≤ a) := n_le h.symm
theorem n_leq {a b : Nat} (h : a < 2147483648 ∧ (no_index (OfNat.ofNat b)) < 2147483648) : ((no_index (OfNat.ofNat b)) = nI a) = (OfNat.ofNat b = a) := n_eq h.symm
theorem n_m1l {a : Nat} (h : a < 2147483648) : (nI a = -1) = False := eq_false fun e => by
  have := nI_pos h
  rw [e] at this
  exact this (by decide)
theorem n_m1r {a : Nat} (h : a < 2147483648) : (-1 = nI a) = False := eq_false fun e => by
  have := nI_pos h
  rw [← e] at this
  exact this (by decide)
theorem n_m1lt {a : Nat} (h : a < 2147483648) : (-1 < nI a) = True := eq_true (by
  rw [fa_lt, nI_toInt h]
  have : (-1 : Int32).toInt = -1 := by decide
  omega)
theorem n_m1le {a : Nat} (h : a < 2147483648) : (nI a ≤ -1) = False := eq_false (by
  rw [fa_le, nI_toInt h]
  have : (-1 : Int32).toInt = -1 := by decide
  omega)
theorem n_addl (a b : Nat) : nI a + (no_index (OfNat.ofNat b)) = nI (a + OfNat.ofNat b) := nI_add a b
theorem n_ladd (a b : Nat) : (no_index (OfNat.ofNat b)) + nI a = nI (OfNat.ofNat b + a) := nI_add b a
theorem n_mul (a b : Nat) : nI a * nI b = nI (a * b) := by
  unfold nI
  rw [← Int32.ofNat_mul]
theorem n_mull (a b : Nat) : nI a * (no_index (OfNat.ofNat b)) = nI (a * OfNat.ofNat b) := n_mul a b
theorem n_lmul (a b : Nat) : (no_index (OfNat.ofNat b)) * nI a = nI (OfNat.ofNat b * a) := n_mul b a
theorem n_sub {a b : Nat} (h : b ≤ a) : nI a - nI b = nI (a - b) := by
  unfold nI
  rw [Int32.ofNat_sub _ _ h]
theorem n_subl {a b : Nat} (h : (no_index (OfNat.ofNat b)) ≤ a) : nI a - (no_index (OfNat.ofNat b)) = nI (a - OfNat.ofNat b) := n_sub h
theorem n_div {a b : Nat} (h : a < 2147483648 ∧ b < 2147483648) : nI a / nI b = nI (a / b) := by
  rw [← Int32.toInt_inj, Int32.toInt_div_of_ne_left _ _ (by
    intro e
    have := nI_toInt h.1
    rw [e] at this
    have : Int32.minValue.toInt = -2147483648 := by decide
    omega), nI_toInt h.1, nI_toInt h.2, nI_toInt (Nat.lt_of_le_of_lt (Nat.div_le_self a b) h.1)]
  rfl
theorem n_divl {a b : Nat} (h : a < 2147483648 ∧ (no_index (OfNat.ofNat b)) < 2147483648) : nI a / (no_index (OfNat.ofNat b)) = nI (a / OfNat.ofNat b) := n_div h
theorem n_min {a b : Nat} (h : a < 2147483648 ∧ b < 2147483648) : imin (nI a) (nI b) = nI (min a b) := by
  unfold imin
  by_cases g : b < a
  · rw [if_pos (by rw [n_lt h.symm]; exact g), Nat.min_eq_right (by omega)]
  · rw [if_neg (by rw [n_lt h.symm]; exact g), Nat.min_eq_left (by omega)]
theorem n_lmin {a b : Nat} (h : a < 2147483648 ∧ (no_index (OfNat.ofNat b)) < 2147483648) : imin (no_index (OfNat.ofNat b)) (nI a) = nI (min (OfNat.ofNat b) a) := n_min h.symm
theorem n_max {a b : Nat} (h : a < 2147483648 ∧ b < 2147483648) : imax (nI a) (nI b) = nI (max a b) := by
  unfold imax
  by_cases g : a < b
  · rw [if_pos (by rw [n_lt h]; exact g), Nat.max_eq_right (by omega)]
  · rw [if_neg (by rw [n_lt h]; exact g), Nat.max_eq_left (by omega)]
theorem n_lmax {a b : Nat} (h : a < 2147483648 ∧ (no_index (OfNat.ofNat b)) < 2147483648) : imax (no_index (OfNat.ofNat b)) (nI a) = nI (max (OfNat.ofNat b) a) := n_max h.symm
theorem n_max0 {a b : Nat} (h : a < 2147483648 ∧ b < 2147483648) : imax 0 (nI a - nI b) = nI (a - b) := by
  unfold imax
  by_cases g : b ≤ a
  · rw [n_sub g, show (0 : Int32) = nI 0 from rfl]
    by_cases g2 : 0 < a - b
    · rw [if_pos (by rw [n_lt (by omega)]; exact g2)]
    · rw [if_neg (by rw [n_lt (by omega)]; exact g2), show a - b = 0 by omega]
  · have e : a - b = 0 := by omega
    rw [e, if_neg]
    · rfl
    · rw [fa_lt, fb_subI (by rw [nI_toInt h.1, nI_toInt h.2]; omega) (by rw [nI_toInt h.1, nI_toInt h.2]; omega), nI_toInt h.1, nI_toInt h.2]
      have : (0 : Int32).toInt = 0 := by decide
      omega
theorem i32c (x : Int32) : x < 0 ∨ ∃ n, n < 2147483648 ∧ x = nI n := by
  by_cases h : x < 0
  · exact Or.inl h
  · exact Or.inr (nI_of h)
theorem n_neg0 {x : Int32} (h : x < 0) (n : Nat) : (nI n ≤ x) = False ∨ 2147483648 ≤ n := by
  by_cases g : n < 2147483648
  · left
    apply eq_false
    rw [fa_le, nI_toInt g]
    rw [fa_lt] at h
    have : (0 : Int32).toInt = 0 := by decide
    omega
  · right; omega
/-! longs -/
theorem lgE (x y : Int64) : (lg_cmp x y < 0 ↔ x < y) ∧ (0 < lg_cmp x y ↔ y < x) ∧ (lg_cmp x y = 0 ↔ x = y) ∧ (lg_cmp x y ≤ 0 ↔ x ≤ y) ∧ (0 ≤ lg_cmp x y ↔ y ≤ x) := by
  have d1 : ¬ (1 : Int32) < 0 := by decide
  have d2 : (0 : Int32) < 1 := by decide
  have d3 : ¬ (1 : Int32) = 0 := by decide
  have d4 : ¬ (1 : Int32) ≤ 0 := by decide
  have d5 : (0 : Int32) ≤ 1 := by decide
  have e1 : ¬ (0 : Int32) < 0 := by decide
  have e2 : (0 : Int32) ≤ 0 := by decide
  have f1 : (-1 : Int32) < 0 := by decide
  have f2 : ¬ (0 : Int32) < -1 := by decide
  have f3 : ¬ (-1 : Int32) = 0 := by decide
  have f4 : (-1 : Int32) ≤ 0 := by decide
  have f5 : ¬ (0 : Int32) ≤ -1 := by decide
  unfold lg_cmp
  rw [fa_lt64 x y, fa_lt64 y x, fa_le64 x y, fa_le64 y x]
  by_cases h : y.toInt < x.toInt
  · rw [if_pos (show x > y from (fa_lt64 y x).mpr h)]
    refine ⟨⟨fun z => absurd z d1, fun z => by omega⟩, ⟨fun _ => h, fun _ => d2⟩, ⟨fun z => absurd z d3, fun z => by rw [z] at h; omega⟩, ⟨fun z => absurd z d4, fun z => by omega⟩, ⟨fun _ => by omega, fun _ => d5⟩⟩
  · rw [if_neg (show ¬ x > y from fun z => h ((fa_lt64 y x).mp z))]
    by_cases g : x = y
    · have g' : x.toInt = y.toInt := by rw [g]
      rw [if_pos g]
      refine ⟨⟨fun z => absurd z e1, fun z => by omega⟩, ⟨fun z => absurd z e1, fun z => by omega⟩, ⟨fun _ => g, fun _ => rfl⟩, ⟨fun _ => by omega, fun _ => e2⟩, ⟨fun _ => by omega, fun _ => e2⟩⟩
    · have g' : ¬ x.toInt = y.toInt := fun z => g ((fa_eq64 x y).mpr z)
      rw [if_neg g]
      refine ⟨⟨fun _ => by omega, fun _ => f1⟩, ⟨fun z => absurd z f2, fun z => by omega⟩, ⟨fun z => absurd z f3, fun z => absurd z g⟩, ⟨fun _ => by omega, fun _ => f4⟩, ⟨fun z => absurd z f5, fun z => by omega⟩⟩
theorem lg_lt0 (x y : Int64) : (lg_cmp x y < 0) = (x < y) := propext (lgE x y).1
theorem lg_gt0 (x y : Int64) : (0 < lg_cmp x y) = (y < x) := propext (lgE x y).2.1
theorem lg_eq0 (x y : Int64) : (lg_cmp x y = 0) = (x = y) := propext (lgE x y).2.2.1
theorem lg_le0 (x y : Int64) : (lg_cmp x y ≤ 0) = (x ≤ y) := propext (lgE x y).2.2.2.1
theorem lg_ge0 (x y : Int64) : (0 ≤ lg_cmp x y) = (y ≤ x) := propext (lgE x y).2.2.2.2
/-- all else stays: the cells outside L -/
def Sm (L : List Nat) (M M' : Mem) : Prop := M'.2 = M.2 ∧ ∀ c, c ∉ L → M'.1 c = M.1 c
theorem Sm.rf {L : List Nat} {M : Mem} : Sm L M M := ⟨rfl, fun _ _ => rfl⟩
theorem Sm.tr {L : List Nat} {M M1 M2 : Mem} (h : Sm L M M1) (h2 : Sm L M1 M2) : Sm L M M2 := ⟨h2.1.trans h.1, fun c hc => (h2.2 c hc).trans (h.2 c hc)⟩
theorem Sm.mono {L L' : List Nat} {M M1 : Mem} (h : Sm L M M1) (hl : ∀ c, c ∈ L → c ∈ L') : Sm L' M M1 := ⟨h.1, fun c hc => h.2 c fun z => hc (hl c z)⟩
theorem Sm.uI {L : List Nat} {M M1 : Mem} {c k : Nat} {x : Int32} (h : Sm L M M1) (hc : c ∈ L) : Sm L M (uI M1 c k x) := ⟨h.1, fun a ha => by
  rw [g_uI, if_neg (fun e : a = c => ha (e ▸ hc))]
  exact h.2 a ha⟩
theorem Sm.rI {L : List Nat} {M M1 : Mem} {c : Nat} {f : Nat → Int32} (h : Sm L M M1) (hc : c ∈ L) : Sm L M (rI M1 c f) := ⟨h.1, fun a ha => by
  rw [g_rI, if_neg (fun e : a = c => ha (e ▸ hc))]
  exact h.2 a ha⟩

theorem bt_nI (a : Nat) {i : Nat} (hi : i < 32) : bt (nI a) i = a.testBit i := by
  unfold bt nI
  show (BitVec.ofNat 32 a).getLsbD i = _
  rw [BitVec.getLsbD_ofNat]
  simp [hi]
theorem n_shr {a j : Nat} (h : a < 2147483648 ∧ j < 32) : nI a >>> (nI j &&& 31) = nI (a >>> j) := by
  apply b_ext
  intro i hi
  rw [b_sshr j h.2 _ hi, bt_nI _ hi, Nat.testBit_shiftRight]
  have big : ∀ q, 31 ≤ q → a.testBit q = false := fun q hq => Nat.testBit_lt_two_pow (Nat.lt_of_lt_of_le h.1 (show 2147483648 ≤ 2 ^ q from Nat.pow_le_pow_right (n := 2) (by decide) hq))
  by_cases g : j + i < 32
  · rw [if_pos g, bt_nI _ g]
  · rw [if_neg g, bt_nI _ (by decide), big 31 (by decide), big (j + i) (by omega)]
theorem n_and1 (a : Nat) : nI a &&& 1 = nI (a % 2) := by
  have := fa_mask a 1
  rwa [show nI (2 ^ 1 - 1) = 1 from rfl, show 2 ^ 1 = 2 from rfl] at this
theorem n_bit {a j : Nat} (h : a < 2147483648 ∧ j < 32) : ((nI a >>> (nI j &&& 31)) &&& 1 = 1) = (a.testBit j = true) := by
  rw [n_shr h, n_and1, show (1 : Int32) = nI 1 from rfl, n_eq (by omega)]
  rw [Nat.testBit_eq_decide_div_mod_eq, Nat.shiftRight_eq_div_pow]
  simp
theorem n_shl1 {j : Nat} (h : j < 31) : (1 : Int32) <<< (nI j &&& 31) = nI (2 ^ j) := by
  have := nf_sh j (by omega)
  apply Int32.toBitVec_inj.mp
  rw [this]
  show BitVec.twoPow 32 j = BitVec.ofNat 32 (2 ^ j)
  apply BitVec.eq_of_toNat_eq
  rw [BitVec.toNat_twoPow, BitVec.toNat_ofNat]
theorem n_modd (a b : Nat) : nI a - nI (a / b * b) = nI (a % b) := by
  have := Nat.div_add_mod a b
  rw [Nat.mul_comm] at this
  rw [n_sub (by omega)]
  congr 1
  omega
theorem n_mod {a b : Nat} (h : a < 2147483648 ∧ b < 2147483648) : nI a - nI a / nI b * nI b = nI (a % b) := by rw [n_div h, n_mul, n_modd]
