/-! the bytes of a text and its words, on both sides -/
theorem by_all : ((List.range 256).all fun n => decide ((Int8.ofBitVec (BitVec.ofNat 8 n)).toInt32 &&& 255 = nI n) && (if n < 128 then decide ((Int8.ofBitVec (BitVec.ofNat 8 n)).toInt32 = nI n) else decide ((Int8.ofBitVec (BitVec.ofNat 8 n)).toInt32 < 0))) = true := by decide +kernel
theorem byte_is (y : Int32) : ∃ n, n < 256 ∧ i2b y &&& 255 = nI n ∧ (n < 128 → i2b y = nI n) ∧ (128 ≤ n → i2b y < 0) := by
  have hz : y.toInt8 = Int8.ofBitVec (BitVec.ofNat 8 y.toInt8.toBitVec.toNat) := by rw [BitVec.ofNat_toNat, BitVec.setWidth_eq]; rfl
  have hl : y.toInt8.toBitVec.toNat < 256 := y.toInt8.toBitVec.isLt
  refine ⟨y.toInt8.toBitVec.toNat, hl, ?_⟩
  have h := List.all_eq_true.mp by_all _ (List.mem_range.mpr hl)
  rw [← hz, Bool.and_eq_true, decide_eq_true_eq] at h
  refine ⟨h.1, fun g => ?_, fun g => ?_⟩
  · have := h.2
    rw [if_pos g, decide_eq_true_eq] at this
    exact this
  · have := h.2
    rw [if_neg (by omega), decide_eq_true_eq] at this
    exact this
section P1
variable {N n : Nat} {C S : Mem} {B : Nat → Nat}
def TxR (C S : Mem) (n : Nat) (B : Nat → Nat) : Prop := n ≤ 900 ∧ ∀ k, k < n → B k < 256 ∧ S.1 204 k &&& 255 = nI (B k) ∧ (B k < 128 → C.1 1 k = nI (B k)) ∧ (128 ≤ B k → C.1 1 k < 0)
theorem TxR.of (hn : n ≤ 900) (h : ∀ k, k < n → C.1 1 k = S.1 204 k ∧ ∃ y : Int32, C.1 1 k = i2b y) : ∃ B, TxR C S n B := by
  have : ∀ k, ∃ b, k < n → b < 256 ∧ S.1 204 k &&& 255 = nI b ∧ (b < 128 → C.1 1 k = nI b) ∧ (128 ≤ b → C.1 1 k < 0) := fun k => by
    by_cases g : k < n
    · obtain ⟨e, y, hy⟩ := h k g
      obtain ⟨b, b1, b2, b3, b4⟩ := byte_is y
      exact ⟨b, fun _ => ⟨b1, by rw [← e, hy]; exact b2, fun q => by rw [hy]; exact b3 q, fun q => by rw [hy]; exact b4 q⟩⟩
    · exact ⟨0, fun q => absurd q g⟩
  exact ⟨fun k => (this k).choose, hn, fun k hk => (this k).choose_spec hk⟩
theorem TxR.lt (h : TxR C S n B) {k L : Nat} (hk : k < n) (hL : L ≤ 127) : C.1 1 k < nI L ↔ (B k < L ∨ 128 ≤ B k) := by
  obtain ⟨b1, b2, b3, b4⟩ := h.2 k hk
  by_cases g : B k < 128
  · rw [b3 g, n_lt (by omega)]; omega
  · have := b4 (by omega)
    constructor
    · intro _; omega
    · intro _
      rw [fa_lt] at this ⊢
      rw [nI_toInt (by omega)]
      have : (0 : Int32).toInt = 0 := rfl
      omega
theorem TxR.gt (h : TxR C S n B) {k L : Nat} (hk : k < n) (hL : L ≤ 127) : nI L < C.1 1 k ↔ (L < B k ∧ B k < 128) := by
  obtain ⟨b1, b2, b3, b4⟩ := h.2 k hk
  by_cases g : B k < 128
  · rw [b3 g, n_lt (by omega)]; omega
  · have q := b4 (by omega)
    constructor
    · intro z
      exfalso
      rw [fa_lt] at q z
      rw [nI_toInt (by omega)] at z
      have : (0 : Int32).toInt = 0 := rfl
      omega
    · intro z; omega
theorem TxR.eq (h : TxR C S n B) {k L : Nat} (hk : k < n) (hL : L ≤ 127) : C.1 1 k = nI L ↔ B k = L := by
  obtain ⟨b1, b2, b3, b4⟩ := h.2 k hk
  by_cases g : B k < 128
  · rw [b3 g, n_eq (by omega)]
  · have q := b4 (by omega)
    constructor
    · intro z
      rw [z] at q
      exact absurd q (nI_pos (by omega))
    · intro z; omega
theorem look_is {M : Mem} {a : Nat} (h : TxR C S n B) (h4 : M.1 204 = S.1 204) (h9 : M.1 200 9 = nI n) (ha : a ≤ n) : f_X12_look2 (nI a) M = some (nI (if a < n then B a else 0), M) := by
  have := h.1
  unfold f_X12_look2
  rw [h9]
  by_cases g : a < n
  · rw [if_neg (by rw [n_le (by omega)]; omega), ck_n (by omega), t_n (by omega), h4, (h.2 a g).2.1, if_pos g]
  · rw [if_pos (by rw [n_le (by omega)]; omega), if_neg g]
    rfl
theorem let_is (b : Nat) (hb : b < 256) (M : Mem) : f_X12_isLetter (nI b) M = some (decide (97 ≤ b ∧ b ≤ 122), M) := by
  unfold f_X12_isLetter
  by_cases g : b < 97
  · rw [if_pos (by rw [n_ltl (by omega)]; exact g), decide_eq_false (by omega)]
  · rw [if_neg (by rw [n_ltl (by omega)]; exact g)]
    by_cases g2 : 122 < b
    · rw [if_pos (by rw [n_llt (by omega)]; exact g2), decide_eq_false (by omega)]
    · rw [if_neg (by rw [n_llt (by omega)]; exact g2), decide_eq_true (by omega)]
theorem dig_is (b : Nat) (hb : b < 256) (M : Mem) : f_X12_isDigit (nI b) M = some (decide (48 ≤ b ∧ b ≤ 57), M) := by
  unfold f_X12_isDigit
  by_cases g : b < 48
  · rw [if_pos (by rw [n_ltl (by omega)]; exact g), decide_eq_false (by omega)]
  · rw [if_neg (by rw [n_ltl (by omega)]; exact g)]
    by_cases g2 : 57 < b
    · rw [if_pos (by rw [n_llt (by omega)]; exact g2), decide_eq_false (by omega)]
    · rw [if_neg (by rw [n_llt (by omega)]; exact g2), decide_eq_true (by omega)]
theorem sgn_is (b : Nat) (hb : b < 256) (M : Mem) : f_X12_isSignByte (nI b) M = some (decide (59 ≤ b ∧ b ≤ 62), M) := by
  unfold f_X12_isSignByte
  by_cases g1 : b = 59
  · subst g1; rfl
  · rw [if_neg (by rw [n_eql (by omega)]; exact g1)]
    by_cases g2 : b = 60
    · subst g2; rfl
    · rw [if_neg (by rw [n_eql (by omega)]; exact g2)]
      by_cases g3 : b = 62
      · subst g3; rfl
      · rw [if_neg (by rw [n_eql (by omega)]; exact g3)]
        by_cases g4 : b = 61
        · subst g4; rfl
        · rw [if_neg (by rw [n_eql (by omega)]; exact g4), decide_eq_false (by omega)]
/-- what a step of the scanner touches -/
def FkC (C C' : Mem) : Prop := C'.2 = C.2 ∧ (∀ c, c ≠ 82 → C'.1 c = C.1 c) ∧ ∀ j, j < 2 ∨ 5 < j → C'.1 82 j = C.1 82 j
def FkS (S S' : Mem) : Prop := (∀ c, c ≠ 200 → S'.1 c = S.1 c ∧ S'.2 c = S.2 c) ∧ (∀ j, j < 14 ∨ 18 < j → S'.1 200 j = S.1 200 j) ∧ ∀ j, j ≠ 19 → S'.2 200 j = S.2 200 j
theorem FkC.rf : FkC C C := ⟨rfl, fun _ _ => rfl, fun _ _ => rfl⟩
theorem FkS.rf : FkS S S := ⟨fun _ _ => ⟨rfl, rfl⟩, fun _ _ => rfl, fun _ _ => rfl⟩
theorem FkC.tr {C1 C2 : Mem} (h : FkC C C1) (h2 : FkC C1 C2) : FkC C C2 := ⟨h2.1.trans h.1, fun c hc => (h2.2.1 c hc).trans (h.2.1 c hc), fun j hj => (h2.2.2 j hj).trans (h.2.2 j hj)⟩
theorem FkS.tr {S1 S2 : Mem} (h : FkS S S1) (h2 : FkS S1 S2) : FkS S S2 := ⟨fun c hc => ⟨(h2.1 c hc).1.trans (h.1 c hc).1, (h2.1 c hc).2.trans (h.1 c hc).2⟩, fun j hj => (h2.2.1 j hj).trans (h.2.1 j hj), fun j hj => (h2.2.2 j hj).trans (h.2.2 j hj)⟩
theorem FkC.u {C1 : Mem} {j : Nat} {x : Int32} (h : FkC C C1) (hj : 2 ≤ j ∧ j ≤ 5) : FkC C (uI C1 82 j x) := h.tr ⟨rfl, fun c hc => u_ne hc, fun k hk => by rw [us_same, g_upd, if_neg (by omega)]⟩
theorem FkS.u {S1 : Mem} {j : Nat} {x : Int32} (h : FkS S S1) (hj : 14 ≤ j ∧ j ≤ 18) : FkS S (uI S1 200 j x) := h.tr ⟨fun c hc => ⟨u_ne hc, rfl⟩, fun k hk => by rw [us_same, g_upd, if_neg (by omega)], fun _ _ => rfl⟩
theorem FkS.l {S1 : Mem} {x : Int64} (h : FkS S S1) : FkS S (uL S1 200 19 x) := h.tr ⟨fun c hc => ⟨rfl, by rw [g_uL, if_neg hc]⟩, fun _ _ => rfl, fun k hk => by rw [g_uL, if_pos rfl, g_updL, if_neg hk]⟩
theorem TxR.fk {C1 S1 : Mem} (h : TxR C S n B) (c : FkC C C1) (s : FkS S S1) : TxR C1 S1 n B := ⟨h.1, fun k hk => by rw [c.2.1 1 (by decide), (s.1 204 (by decide)).1]; exact h.2 k hk⟩
/-- a word as a number -/
def wc (B : Nat → Nat) (a : Nat) : Nat → Nat
  | 0 => 0
  | i + 1 => wc B a i * 32 + (B (a + i) - 96)
/-- the token of both -/
def Tk (C S : Mem) (n : Nat) (B : Nat → Nat) : Prop := ∃ a z k, a ≤ z ∧ z ≤ n ∧ (k ≠ 0 → a < z) ∧ C.1 82 3 = nI a ∧ S.1 200 15 = nI a ∧ C.1 82 4 = nI z ∧ S.1 200 16 = nI z ∧ C.1 82 2 = nI k ∧ S.1 200 14 = nI k ∧ ((k = 0 ∧ a = n) ∨ (k = 1 ∧ (∀ j, a ≤ j → j < z → 97 ≤ B j ∧ B j ≤ 122) ∧ S.1 200 18 = nI (z - a) ∧ S.2 200 19 = if z - a ≤ 8 then lN (wc B a (z - a)) else -1) ∨ (k = 2 ∧ ∃ x, x ≤ 9999 ∧ C.1 82 5 = nI x ∧ S.1 200 17 = nI x) ∨ (k = 3 ∧ ∃ x, (59 ≤ x ∧ x ≤ 62) ∧ C.1 82 5 = nI x ∧ S.1 200 17 = nI x) ∨ k = 4)
def AdvR (C S : Mem) (n : Nat) (B : Nat → Nat) (lo : Nat) (o o' : Option Mem) : Prop := ∃ C' S', o = some C' ∧ o' = some S' ∧ FkC C C' ∧ FkS S S' ∧ (∃ a, lo ≤ a ∧ a ≤ n ∧ C'.1 82 3 = nI a) ∧ Tk C' S' n B
end P1
