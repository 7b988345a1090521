/-! keys: in how many ways they can fit -/
section KY
variable {G : Nat} {cn : Nat → Nat → Bool}
/-- the key behind those of the set can fit gate i -/
def cfK (G : Nat) (cn : Nat → Nat → Bool) (s i : Nat) : Bool := decide (pop s < G) && !s.testBit i && cn (pop s) i
def sEK (G : Nat) (cn : Nat → Nat → Bool) (s : Nat) (f : Nat → Nat) (i : Nat) : Nat := fb_sm (fun j => if cfK G cn s j then f j else 0) i
theorem sEK_s (s : Nat) (f : Nat → Nat) (i : Nat) : sEK G cn s f (i + 1) = sEK G cn s f i + (if cfK G cn s i then f i else 0) := rfl
def rwK (G : Nat) (cn : Nat → Nat → Bool) : Nat → Nat → Nat
  | 0, _ => 1
  | n + 1, s => sEK G cn s (fun j => rwK G cn n (s ||| 2 ^ j)) G
def rwS (G : Nat) (cn : Nat → Nat → Bool) (s : Nat) : Nat := rwK G cn (G - pop s) s
def cyK (G : Nat) (cn : Nat → Nat → Bool) (g : Nat) : Nat → Nat → Nat
  | 0, s => if cfK G cn s g then rwS G cn (s ||| 2 ^ g) else 0
  | n + 1, s => sEK G cn s (fun j => cyK G cn g n (s ||| 2 ^ j)) G
def cyS (G : Nat) (cn : Nat → Nat → Bool) (k g s : Nat) : Nat := cyK G cn g (k - pop s) s
theorem pop_or : ∀ s, s < 64 → ∀ i, i < 6 → (s.testBit i = false → pop (s ||| 2 ^ i) = pop s + 1) := by decide +kernel
theorem pop_all : ∀ w, w < 7 → ∀ s, s < 2 ^ w → (pop s = w → s = 2 ^ w - 1) ∧ pop s ≤ w ∧ pop (2 ^ w - 1) = w := by decide +kernel
theorem cf_lt {s i : Nat} (h : cfK G cn s i = true) : pop s < G ∧ s.testBit i = false ∧ cn (pop s) i = true := by
  unfold cfK at h
  simp at h
  exact ⟨h.1.1, h.1.2, h.2⟩
theorem rwS_s {s : Nat} (hG : G ≤ 6) (hs : s < 64) (h : pop s < G) : rwS G cn s = sEK G cn s (fun j => rwS G cn (s ||| 2 ^ j)) G := by
  unfold rwS
  obtain ⟨n, hn⟩ : ∃ n, G - pop s = n + 1 := ⟨G - pop s - 1, by omega⟩
  rw [hn, rwK]
  refine fb_sm_cong fun j hj => ?_
  by_cases c : cfK G cn s j = true
  · rw [if_pos c, if_pos c]
    dsimp only
    rw [pop_or s hs j (by omega) (cf_lt c).2.1, show G - (pop s + 1) = n by omega]
  · rw [if_neg c, if_neg c]
theorem cyS_s {s k g : Nat} (hG : G ≤ 6) (hs : s < 64) (h : pop s < k) : cyS G cn k g s = sEK G cn s (fun j => cyS G cn k g (s ||| 2 ^ j)) G := by
  unfold cyS
  obtain ⟨n, hn⟩ : ∃ n, k - pop s = n + 1 := ⟨k - pop s - 1, by omega⟩
  rw [hn, cyK]
  refine fb_sm_cong fun j hj => ?_
  by_cases c : cfK G cn s j = true
  · rw [if_pos c, if_pos c]
    dsimp only
    rw [pop_or s hs j (by omega) (cf_lt c).2.1, show k - (pop s + 1) = n by omega]
  · rw [if_neg c, if_neg c]
theorem cyS_0 {s k g : Nat} (h : pop s = k) : cyS G cn k g s = if cfK G cn s g then rwS G cn (s ||| 2 ^ g) else 0 := by
  unfold cyS
  rw [h, Nat.sub_self, cyK]
theorem sEK_le {s B : Nat} {f : Nat → Nat} (h : ∀ j, f j ≤ B) (i : Nat) : sEK G cn s f i ≤ i * B := fb_sm_bound fun k _ => by
  have := h k
  split <;> omega
theorem rwK_le (hG : G ≤ 6) : ∀ n s, rwK G cn n s ≤ 6 ^ n
  | 0, _ => Nat.le_refl _
  | n + 1, s => by
    have := sEK_le (G := G) (cn := cn) (s := s) (f := fun j => rwK G cn n (s ||| 2 ^ j)) (fun j => rwK_le hG n (s ||| 2 ^ j)) G
    have h2 : G * 6 ^ n ≤ 6 * 6 ^ n := Nat.mul_le_mul_right _ hG
    rw [rwK, Nat.pow_succ, Nat.mul_comm]
    omega
theorem rwS_le (hG : G ≤ 6) (s : Nat) : rwS G cn s ≤ 46656 := Nat.le_trans (rwK_le hG _ s) (Nat.le_trans (Nat.pow_le_pow_right (by decide) (show G - pop s ≤ 6 by omega)) (by decide : 6 ^ 6 ≤ 46656))
theorem cyK_le (hG : G ≤ 6) (g : Nat) : ∀ n s, cyK G cn g n s ≤ 46656 * 6 ^ n
  | 0, s => by
    rw [cyK]
    have := rwS_le (cn := cn) hG (s ||| 2 ^ g)
    split <;> omega
  | n + 1, s => by
    have := sEK_le (G := G) (cn := cn) (s := s) (f := fun j => cyK G cn g n (s ||| 2 ^ j)) (fun j => cyK_le hG g n (s ||| 2 ^ j)) G
    have h2 : G * (46656 * 6 ^ n) ≤ 6 * (46656 * 6 ^ n) := Nat.mul_le_mul_right _ hG
    rw [cyK, Nat.pow_succ]
    omega
theorem cyS_le (hG : G ≤ 6) {k : Nat} (hk : k < 6) (g s : Nat) : cyS G cn k g s ≤ 362797056 := by
  have h1 := cyK_le (cn := cn) hG g (k - pop s) s
  have h2 : 6 ^ (k - pop s) ≤ 6 ^ 5 := Nat.pow_le_pow_right (by decide) (by omega)
  have h3 := Nat.mul_le_mul_left 46656 h2
  have h4 : 46656 * 6 ^ 5 = 362797056 := by decide
  unfold cyS
  omega
/-! what the counts of first ways tell -/
def FwP (G : Nat) (cn : Nat → Nat → Bool) (F : Nat → Nat) (s : Nat) : Prop := ∀ (k : Nat) (V : Nat → Nat), (∀ t, t < 2 ^ G → pop t < k → V t = sEK G cn t (fun j => V (t ||| 2 ^ j)) G) → (∀ t, k < pop t → V t = 0) → fb_sm (fun t => if s ≤ t ∨ pop t = k then F t * V t else 0) (2 ^ G) = V 0
/-- edges below i of the set s are done -/
def FwQ (G : Nat) (cn : Nat → Nat → Bool) (F : Nat → Nat) (s i : Nat) : Prop := ∀ (k : Nat) (V : Nat → Nat), (∀ t, t < 2 ^ G → pop t < k → V t = sEK G cn t (fun j => V (t ||| 2 ^ j)) G) → (∀ t, k < pop t → V t = 0) → fb_sm (fun t => if s < t ∨ pop t = k then F t * V t else 0) (2 ^ G) + (if pop s < k then F s * V s else 0) = V 0 + (if pop s < k then F s * sEK G cn s (fun j => V (s ||| 2 ^ j)) i else 0)
theorem FwP_0 {F : Nat → Nat} (h0 : F 0 = 1) (h : ∀ t, t ≠ 0 → F t = 0) : FwP G cn F 0 := by
  intro k V _ _
  obtain ⟨n, hn⟩ : ∃ n, 2 ^ G = 1 + n := ⟨2 ^ G - 1, by have := pow_ge1 G; omega⟩
  rw [hn, fb_sm_split]
  have e1 : fb_sm (fun t => if 0 ≤ t ∨ pop t = k then F t * V t else 0) 1 = V 0 := by
    show 0 + (if 0 ≤ 0 ∨ pop 0 = k then F 0 * V 0 else 0) = V 0
    rw [if_pos (Or.inl (Nat.le_refl 0)), h0]
    omega
  have e2 : fb_sm (fun t => if 0 ≤ 1 + t ∨ pop (1 + t) = k then F (1 + t) * V (1 + t) else 0) n = fb_sm (fun _ => 0) n := fb_sm_cong fun t _ => by
    rw [if_pos (Or.inl (Nat.zero_le _)), h (1 + t) (by omega), Nat.zero_mul]
  rw [e1, e2, fb_sm_const]
  omega
theorem Fw_begin {F : Nat → Nat} {s : Nat} (hs : s < 2 ^ G) (h : FwP G cn F s) : FwQ G cn F s 0 := by
  intro k V h1 h2
  have := h k V h1 h2
  have u := fb_sm_upd (fun t => if s < t ∨ pop t = k then F t * V t else 0) (F s * V s) hs
  have c : fb_sm (fun t => if t = s then F s * V s else if s < t ∨ pop t = k then F t * V t else 0) (2 ^ G) = fb_sm (fun t => if s ≤ t ∨ pop t = k then F t * V t else 0) (2 ^ G) := fb_sm_cong fun t _ => by
    by_cases e : t = s
    · subst e
      rw [if_pos rfl, if_pos (Or.inl (Nat.le_refl t))]
    · rw [if_neg e]
      by_cases g : s < t ∨ pop t = k
      · rw [if_pos g, if_pos (by omega)]
      · rw [if_neg g, if_neg (by omega)]
  rw [c, this] at u
  rw [show sEK G cn s (fun j => V (s ||| 2 ^ j)) 0 = 0 from rfl, Nat.mul_zero]
  by_cases g : pop s < k
  · rw [if_pos g, if_pos g]
    rw [if_neg (show ¬ (s < s ∨ pop s = k) by omega)] at u
    omega
  · rw [if_neg g, if_neg g]
    by_cases g2 : pop s = k
    · rw [if_pos (show s < s ∨ pop s = k from Or.inr g2)] at u
      omega
    · rw [if_neg (show ¬ (s < s ∨ pop s = k) by omega), h2 s (by omega), Nat.mul_zero] at u
      omega
theorem Fw_end {F : Nat → Nat} {s : Nat} (hG : G ≤ 6) (hs : s < 2 ^ G) (h : FwQ G cn F s G) : FwP G cn F (s + 1) := by
  intro k V h1 h2
  have := h k V h1 h2
  have c : fb_sm (fun t => if s + 1 ≤ t ∨ pop t = k then F t * V t else 0) (2 ^ G) = fb_sm (fun t => if s < t ∨ pop t = k then F t * V t else 0) (2 ^ G) := rfl
  rw [c]
  by_cases g : pop s < k
  · rw [if_pos g, if_pos g, ← h1 s hs g] at this
    omega
  · rw [if_neg g, if_neg g] at this
    omega
theorem Fw_no {F : Nat → Nat} {s i : Nat} (h : FwQ G cn F s i) (hc : cfK G cn s i = false) : FwQ G cn F s (i + 1) := by
  intro k V h1 h2
  rw [sEK_s, hc]
  exact h k V h1 h2
theorem or_gt {s i : Nat} (h : s.testBit i = false) : s < s ||| 2 ^ i := by
  have h1 : s ≤ s ||| 2 ^ i := Nat.left_le_or
  rcases Nat.lt_or_ge s (s ||| 2 ^ i) with g | g
  · exact g
  · have e : s = s ||| 2 ^ i := Nat.le_antisymm h1 g
    have := fb_bit_set s i i
    rw [← e, h] at this
    simp at this
theorem or_ltG {s i : Nat} (hs : s < 2 ^ G) (hi : i < G) : s ||| 2 ^ i < 2 ^ G := Nat.or_lt_two_pow hs (Nat.pow_lt_pow_right (by decide) hi)
theorem Fw_yes {F : Nat → Nat} {s i : Nat} (hG : G ≤ 6) (hs : s < 2 ^ G) (hi : i < G) (h : FwQ G cn F s i) (hc : cfK G cn s i = true) : FwQ G cn (fun t => if t = s ||| 2 ^ i then F (s ||| 2 ^ i) + F s else F t) s (i + 1) := by
  have p64 := pow_le64 hG
  have hb := (cf_lt hc).2.1
  have hgt := or_gt hb
  have hlt := or_ltG hs hi
  have hpo := pop_or s (by omega) i (by omega) hb
  intro k V h1 h2
  have h0 := h k V h1 h2
  dsimp only
  rw [if_neg (show ¬ s = s ||| 2 ^ i by omega), sEK_s, if_pos hc]
  have u := fb_sm_upd (fun t => if s < t ∨ pop t = k then F t * V t else 0) ((F (s ||| 2 ^ i) + F s) * V (s ||| 2 ^ i)) hlt
  rw [if_pos (Or.inl hgt)] at u
  have c : fb_sm (fun t => if t = s ||| 2 ^ i then (F (s ||| 2 ^ i) + F s) * V (s ||| 2 ^ i) else if s < t ∨ pop t = k then F t * V t else 0) (2 ^ G) = fb_sm (fun t => if s < t ∨ pop t = k then (if t = s ||| 2 ^ i then F (s ||| 2 ^ i) + F s else F t) * V t else 0) (2 ^ G) := fb_sm_cong fun t _ => by
    by_cases e : t = s ||| 2 ^ i
    · rw [if_pos e, if_pos (by omega), if_pos e, e]
    · rw [if_neg e]
      by_cases g : s < t ∨ pop t = k
      · rw [if_pos g, if_pos g, if_neg e]
      · rw [if_neg g, if_neg g]
  rw [c, Nat.add_mul] at u
  by_cases g : pop s < k
  · rw [if_pos g, if_pos g] at h0 ⊢
    rw [Nat.mul_add]
    omega
  · rw [if_neg g, if_neg g] at h0 ⊢
    rw [h2 (s ||| 2 ^ i) (by omega), Nat.mul_zero, Nat.mul_zero] at u
    omega
/-- all ways -/
theorem Fw_all {F : Nat → Nat} (hG : G ≤ 6) (h : FwP G cn F (2 ^ G - 1)) : F (2 ^ G - 1) = rwS G cn 0 := by
  have p64 := pow_le64 hG
  have p1 := pow_ge1 G
  have pa := (pop_all G (by omega) (2 ^ G - 1) (by omega)).2.2
  have e := h G (fun t => if pop t ≤ G then rwS G cn t else 0) (fun t ht hp => by
    rw [if_pos (by omega), rwS_s hG (by omega) hp]
    refine fb_sm_cong fun j hj => ?_
    by_cases c : cfK G cn t j = true
    · rw [if_pos c, if_pos c]
      dsimp only
      rw [if_pos (by rw [pop_or t (by omega) j (by omega) (cf_lt c).2.1]; omega)]
    · rw [if_neg c, if_neg c]) (fun t ht => if_neg (by omega))
  rw [if_pos (show pop 0 ≤ G by rw [show pop 0 = 0 from rfl]; omega)] at e
  rw [← e]
  have u := fb_sm_upd (fun _ => 0) (F (2 ^ G - 1)) (show 2 ^ G - 1 < 2 ^ G by omega)
  rw [fb_sm_const] at u
  have c : fb_sm (fun t => if t = 2 ^ G - 1 then F (2 ^ G - 1) else 0) (2 ^ G) = fb_sm (fun t => if 2 ^ G - 1 ≤ t ∨ pop t = G then F t * (if pop t ≤ G then rwS G cn t else 0) else 0) (2 ^ G) := fb_sm_cong fun t ht => by
    by_cases e : t = 2 ^ G - 1
    · rw [if_pos e, if_pos (by omega), e, pa, if_pos (Nat.le_refl _)]
      unfold rwS
      rw [pa, Nat.sub_self, rwK, Nat.mul_one]
    · rw [if_neg e, if_neg]
      rintro (z | z)
      · omega
      · exact e ((pop_all G (by omega) t ht).1 z)
  rw [← c]
  omega
/-- ways with a key at a gate -/
theorem Fw_with {F : Nat → Nat} {k g : Nat} (hG : G ≤ 6) (hk : k < G) (hg : g < G) (h : FwP G cn F (2 ^ G - 1)) : fb_sm (fun t => if pop t = k ∧ cfK G cn t g = true then F t * rwS G cn (t ||| 2 ^ g) else 0) (2 ^ G) = cyS G cn k g 0 := by
  have p64 := pow_le64 hG
  have p1 := pow_ge1 G
  have pa := (pop_all G (by omega) (2 ^ G - 1) (by omega)).2.2
  have e := h k (fun t => if pop t ≤ k then cyS G cn k g t else 0) (fun t ht hp => by
    rw [if_pos (by omega), cyS_s hG (by omega) hp]
    refine fb_sm_cong fun j hj => ?_
    by_cases c : cfK G cn t j = true
    · rw [if_pos c, if_pos c]
      dsimp only
      rw [if_pos (by rw [pop_or t (by omega) j (by omega) (cf_lt c).2.1]; omega)]
    · rw [if_neg c, if_neg c]) (fun t ht => if_neg (by omega))
  rw [if_pos (show pop 0 ≤ k by rw [show pop 0 = 0 from rfl]; omega)] at e
  rw [← e]
  refine fb_sm_cong fun t ht => ?_
  by_cases c : pop t = k
  · rw [if_pos (Or.inr c), if_pos (show pop t ≤ k by omega), cyS_0 c]
    by_cases d : cfK G cn t g = true
    · rw [if_pos ⟨c, d⟩, if_pos d]
    · rw [if_neg (fun z => d z.2), if_neg d, Nat.mul_zero]
  · rw [if_neg (fun z => c z.1)]
    by_cases d : 2 ^ G - 1 ≤ t
    · have et : t = 2 ^ G - 1 := by omega
      rw [if_pos (Or.inl d), if_neg (by rw [et, pa]; omega), Nat.mul_zero]
    · rw [if_neg (by omega)]
end KY
