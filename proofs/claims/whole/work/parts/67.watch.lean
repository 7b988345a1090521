def nbI (W D b w : Nat) : Bool := (List.range 4).all fun u => (u == w) || (nbd W D b (w + 1) == none) || !(nbd W D b (u + 1) == nbd W D b (w + 1))
theorem nbI_all : ((List.range 7).all fun W => (List.range 6).all fun D => (List.range (W * D)).all fun b => (List.range 4).all fun w => nbI W D b w) = true := by decide +kernel
theorem nb_inj {W D b w u t : Nat} (hW : W ≤ 6 ∧ D ≤ 5) (hb : b < W * D) (hw : 1 ≤ w ∧ w ≤ 4) (hu : 1 ≤ u ∧ u ≤ 4) (h : nbd W D b w = some t) (h' : nbd W D b u = some t) : u = w := by
  obtain ⟨w, rfl⟩ : ∃ u, w = u + 1 := ⟨w - 1, by omega⟩
  obtain ⟨u, rfl⟩ : ∃ w, u = w + 1 := ⟨u - 1, by omega⟩
  have h1 := List.all_eq_true.mp nbI_all W (List.mem_range.mpr (by omega))
  have h2 := List.all_eq_true.mp h1 D (List.mem_range.mpr (by omega))
  have h3 := List.all_eq_true.mp h2 b (List.mem_range.mpr hb)
  have h4 := List.all_eq_true.mp h3 w (List.mem_range.mpr (by omega))
  have h5 := List.all_eq_true.mp h4 u (List.mem_range.mpr (by omega))
  rw [h, h'] at h5
  simp at h5
  omega
section W4
variable {N fr to : Nat} {M C : Mem} {v : Nat → Nat} {R : Nat → Nat → Nat} {e : Nat → Int}
/-- all the ways at the start -/
abbrev capF (v : Nat → Nat) (fr to : Nat) : Nat → Nat → Nat := capV v fr to (fun b => if b < v 0 * v 1 then 5 else 0)
abbrev vb (v : Nat → Nat) (fr to b : Nat) : Bool := vbB (fgy v (fogv v)) fr to b
abbrev vw (v : Nat → Nat) (fr to b : Nat) : Bool := vwB (fgy v (fogv v)) fr to b
theorem cF_io {b : Nat} (hb : b < v 0 * v 1) : capF v fr to (2 * b) (2 * b + 1) = if vb v fr to b then 1 else 0 := by
  unfold capF capV capL
  dsimp only
  rw [if_pos (by omega), show 2 * b / 2 = b by omega]
  simp only [if_pos hb, decide_true, Bool.true_and, decide_eq_true (show 0 < 5 by decide), Bool.and_true]
theorem cF_e {x y : Nat} (hx : x % 2 = 0) (h : capF v fr to x y ≠ 0) : y = x + 1 ∧ x / 2 < v 0 * v 1 ∧ vb v fr to (x / 2) = true := by
  unfold capF capV capL at h
  rw [if_pos hx] at h
  split at h
  · rename_i g
    simp only [Bool.and_eq_true, decide_eq_true_eq] at g
    refine ⟨g.1.1, ?_, g.1.2⟩
    by_cases q : x / 2 < v 0 * v 1
    · exact q
    · rw [if_neg q] at g; omega
  · exact absurd rfl h
theorem cF_o {x y : Nat} (hx : x % 2 = 1) (h : capF v fr to x y ≠ 0) : y % 2 = 0 ∧ x / 2 < v 0 * v 1 ∧ vb v fr to (x / 2) = true ∧ vw v fr to (y / 2) = true ∧ ∃ d, 1 ≤ d ∧ d ≤ 4 ∧ nbd (v 0) (v 1) (x / 2) d = some (y / 2) := by
  unfold capF capV capL at h
  rw [if_neg (by omega)] at h
  split at h
  · rename_i g
    simp only [Bool.and_eq_true, decide_eq_true_eq] at g
    obtain ⟨⟨⟨g1, g2⟩, g3⟩, g4⟩ := g
    by_cases q : x / 2 < v 0 * v 1
    · rw [if_pos q] at g4
      obtain ⟨k, k1, k2, k3⟩ := adN_in.mp g4
      exact ⟨g1, q, g2, g3, k, k1, by omega, k3⟩
    · rw [if_neg q] at g4
      cases g4
  · exact absurd rfl h
theorem cF_1 {b w d : Nat} (hb : b < v 0 * v 1) (h1 : vb v fr to b = true) (h2 : vw v fr to w = true) (hd : 1 ≤ d ∧ d ≤ 4) (hn : nbd (v 0) (v 1) b d = some w) : capF v fr to (2 * b + 1) (2 * w) = 1 := by
  unfold capF capV capL
  dsimp only
  rw [if_neg (by omega), show (2 * b + 1) / 2 = b by omega, show 2 * w / 2 = w by omega]
  simp only [if_pos hb, decide_eq_true (show 2 * w % 2 = 0 by omega)]
  have a : adN (v 0) (v 1) b w (5 - 1) = true := adN_in.mpr ⟨d, hd.1, by omega, hn⟩
  rw [if_pos (by rw [a]; simp only [Bool.and_true, Bool.true_and]; rw [Bool.and_eq_true]; exact ⟨h1, h2⟩)]
theorem cF_oo {b w : Nat} : capF v fr to (2 * b + 1) (2 * w + 1) = 0 := by
  rcases Nat.eq_zero_or_pos (capF v fr to (2 * b + 1) (2 * w + 1)) with h | h
  · exact h
  · have := (cF_o (x := 2 * b + 1) (by omega) (show capF v fr to (2 * b + 1) (2 * w + 1) ≠ 0 by omega)).1; omega
theorem cF_ii {b w : Nat} : capF v fr to (2 * b) (2 * w) = 0 := by
  rcases Nat.eq_zero_or_pos (capF v fr to (2 * b) (2 * w)) with h | h
  · exact h
  · have := (cF_e (x := 2 * b) (by omega) (show capF v fr to (2 * b) (2 * w) ≠ 0 by omega)).1; omega
theorem cF_ne {b w : Nat} (h : b ≠ w) : capF v fr to (2 * b) (2 * w + 1) = 0 := by
  rcases Nat.eq_zero_or_pos (capF v fr to (2 * b) (2 * w + 1)) with h1 | h1
  · exact h1
  · have := (cF_e (x := 2 * b) (by omega) (show capF v fr to (2 * b) (2 * w + 1) ≠ 0 by omega)).1; omega
theorem cF_self {b : Nat} (hW : v 0 ≤ 6 ∧ v 1 ≤ 5) : capF v fr to (2 * b + 1) (2 * b) = 0 := by
  rcases Nat.eq_zero_or_pos (capF v fr to (2 * b + 1) (2 * b)) with h1 | h1
  · exact h1
  · obtain ⟨_, g1, _, _, d, d1, d2, d3⟩ := cF_o (x := 2 * b + 1) (y := 2 * b) (by omega) (show capF v fr to (2 * b + 1) (2 * b) ≠ 0 by omega)
    rw [show (2 * b + 1) / 2 = b by omega] at g1 d3
    have := (nb_is hW g1 ⟨d1, d2⟩ d3).2.1
    omega
/-- what the class holds of it -/
def RpC (v : Nat → Nat) (M : Mem) (R : Nat → Nat → Nat) : Prop := (∀ b, b < v 0 * v 1 → M.1 99 b = nI (R (2 * b + 1) (2 * b))) ∧ ∀ b d w, b < v 0 * v 1 → 1 ≤ d → d ≤ 4 → nbd (v 0) (v 1) b d = some w → M.1 100 (5 * b + d) = nI (R (2 * w) (2 * b + 1))
/-- inside a board: both directions -/
theorem R_self {b : Nat} (hW : v 0 ≤ 6 ∧ v 1 ≤ 5) (hF : FL (capF v fr to) R e) (hb : b < v 0 * v 1) : R (2 * b) (2 * b + 1) + R (2 * b + 1) (2 * b) = if vb v fr to b then 1 else 0 := by
  have b30 := bd30 hW.1 hW.2
  rw [hF.1 (2 * b) (2 * b + 1) (by omega) (by omega), cF_io hb, cF_self hW]
  rfl
theorem R_way {b w d : Nat} (hW : v 0 ≤ 6 ∧ v 1 ≤ 5) (hF : FL (capF v fr to) R e) (hb : b < v 0 * v 1) (hd : 1 ≤ d ∧ d ≤ 4) (hn : nbd (v 0) (v 1) b d = some w) : w < v 0 * v 1 ∧ w ≠ b ∧ R (2 * b + 1) (2 * w) + R (2 * w) (2 * b + 1) = capF v fr to (2 * b + 1) (2 * w) ∧ capF v fr to (2 * b + 1) (2 * w) ≤ 1 := by
  have b30 := bd30 hW.1 hW.2
  obtain ⟨h1, h2, h3⟩ := nb_is hW hb hd hn
  refine ⟨h1, h2, ?_, capL_1 _ _⟩
  rw [hF.1 (2 * b + 1) (2 * w) (by omega) (by omega), cF_ne h2]
  rfl
/-- where something may flow from a board's inside or its outside -/
theorem R_in {b y : Nat} (hW : v 0 ≤ 6 ∧ v 1 ≤ 5) (hF : FL (capF v fr to) R e) (hb : b < v 0 * v 1) (hy : y < 60) (h : R (2 * b) y ≠ 0) : y = 2 * b + 1 ∨ ∃ w d, w < v 0 * v 1 ∧ 1 ≤ d ∧ d ≤ 4 ∧ y = 2 * w + 1 ∧ nbd (v 0) (v 1) w d = some b ∧ nbd (v 0) (v 1) b (opw d) = some w ∧ vb v fr to w = true := by
  have b30 := bd30 hW.1 hW.2
  have h1 := hF.1 (2 * b) y (by omega) hy
  by_cases g : capF v fr to (2 * b) y = 0
  · have g2 : capF v fr to y (2 * b) ≠ 0 := by omega
    have p : y % 2 = 1 := by
      rcases Nat.mod_two_eq_zero_or_one y with q | q
      · have := (cF_e q g2).1; omega
      · exact q
    obtain ⟨-, a2, a3, a4, d, d1, d2, d3⟩ := cF_o p g2
    rw [show 2 * b / 2 = b by omega] at d3
    exact Or.inr ⟨y / 2, d, a2, d1, d2, by omega, d3, (nb_is hW a2 ⟨d1, d2⟩ d3).2.2, a3⟩
  · exact Or.inl (cF_e (x := 2 * b) (by omega) g).1
theorem R_out {b y : Nat} (hW : v 0 ≤ 6 ∧ v 1 ≤ 5) (hF : FL (capF v fr to) R e) (hb : b < v 0 * v 1) (hy : y < 60) (h : R (2 * b + 1) y ≠ 0) : y = 2 * b ∨ ∃ w d, w < v 0 * v 1 ∧ 1 ≤ d ∧ d ≤ 4 ∧ y = 2 * w ∧ nbd (v 0) (v 1) b d = some w ∧ vw v fr to w = true := by
  have b30 := bd30 hW.1 hW.2
  have h1 := hF.1 (2 * b + 1) y (by omega) hy
  by_cases g : capF v fr to (2 * b + 1) y = 0
  · have g2 : capF v fr to y (2 * b + 1) ≠ 0 := by omega
    have p : y % 2 = 0 := by
      rcases Nat.mod_two_eq_zero_or_one y with q | q
      · exact q
      · have := (cF_o q g2).1; omega
    have := (cF_e p g2).1
    exact Or.inl (by omega)
  · obtain ⟨a1, a2, a3, a4, d, d1, d2, d3⟩ := cF_o (x := 2 * b + 1) (by omega) g
    rw [show (2 * b + 1) / 2 = b by omega] at d3
    exact Or.inr ⟨y / 2, d, (nb_is hW hb ⟨d1, d2⟩ d3).1, d1, d2, by omega, d3, a4⟩
end W4
