/-! both objects, fresh -/
def memOf (b : Nat) (L : List PE) : Mem := (fun c k => gI (L.getD (c - b) e0) k, fun c k => gL (L.getD (c - b) e0) k)
def C0 : Mem := memOf 0 (C_X11_init 0)
def S0 : Mem := memOf 200 (C_X12_init 111)
theorem ft_far {i k : Nat} (h : 60 ≤ k) : ft i k = 0 := by
  unfold ft
  by_cases hi : i < 13
  · have : ∀ i, i < 13 → (ftL.getD i []).length ≤ 60 := by decide +kernel
    rw [List.getD_eq_getElem?_getD, List.getElem?_eq_none (Nat.le_trans (this i hi) h)]; rfl
  · have e : ftL.getD i [] = [] := by rw [List.getD_eq_getElem?_getD, List.getElem?_eq_none (show ftL.length ≤ i by show 13 ≤ i; omega)]; rfl
    rw [e]; rfl
set_option maxRecDepth 40000 in
theorem rin_0 : ∀ c k, 0 ≤ c ∧ c < 0 + 111 → (ft (kd c) k = 2 ∧ kd c < 13 ∨ (kd c = 24 ∨ kd c = 25) ∧ k < ln c) → 0 ≤ rf c k ∧ rf c k < 0 + 111 := by
  intro c k hc h
  have h1 : ∀ c, c < 111 → ∀ k, k < 60 → ((ft (kd c) k == 2 && decide (kd c < 13)) || ((kd c == 24 || kd c == 25) && decide (k < ln c))) = true → rf c k < 111 := by decide +kernel
  have h2 : ∀ c, c < 111 → kd c = 24 ∨ kd c = 25 → ln c ≤ 60 := by decide +kernel
  have hk : k < 60 := by
    rcases h with ⟨h, -⟩ | ⟨h, hk⟩
    · by_cases g : k < 60
      · exact g
      · rw [ft_far (by omega)] at h; cases h
    · exact Nat.lt_of_lt_of_le hk (h2 c (by omega) h)
  refine ⟨Nat.zero_le _, ?_⟩
  have := h1 c (by omega) k hk (by simpa using h)
  omega
set_option maxRecDepth 40000 in
theorem rin_200 : ∀ c k, 200 ≤ c ∧ c < 200 + 21 → (ft (kd c) k = 2 ∧ kd c < 13 ∨ (kd c = 24 ∨ kd c = 25) ∧ k < ln c) → 200 ≤ rf c k ∧ rf c k < 200 + 21 := by
  intro c k hc h
  have h1 : ∀ j, j < 21 → ∀ k, k < 60 → (ft (kd (200 + j)) k == 2 && decide (kd (200 + j) < 13)) = true → 200 ≤ rf (200 + j) k ∧ rf (200 + j) k < 221 := by decide +kernel
  have h2 : ∀ j, j < 21 → kd (200 + j) ≠ 24 ∧ kd (200 + j) ≠ 25 := by decide +kernel
  obtain ⟨j, rfl⟩ : ∃ j, c = 200 + j := ⟨c - 200, by omega⟩
  have h3 := h2 j (by omega)
  rcases h with ⟨g1, g2⟩ | ⟨h, hk⟩
  · have hk : k < 60 := by
      by_cases g : k < 60
      · exact g
      · rw [ft_far (by omega)] at g1; cases g1
    exact h1 j (by omega) k hk (by simp [g1, g2])
  · rcases h with h | h
    · exact absurd h h3.1
    · exact absurd h h3.2
set_option maxRecDepth 40000 in
theorem ch_0 : ∀ j, j < 111 → kcE 0 0 (0 + j) ((C_X11_init 0).getD j e0) = true := by decide +kernel
set_option maxRecDepth 40000 in
theorem ch_200 : ∀ j, j < 21 → kcE 200 111 (200 + j) ((C_X12_init 111).getD j e0) = true := by decide +kernel
theorem memOf_is {b n : Nat} {L : List PE} : ∀ j, j < n → ∀ k, (memOf b L).1 (b + j) k = gI (L.getD j e0) k ∧ (memOf b L).2 (b + j) k = gL (L.getD j e0) k := fun j _ k => by
  show gI (L.getD (b + j - b) e0) k = _ ∧ gL (L.getD (b + j - b) e0) k = _
  rw [Nat.add_sub_cancel_left]
  exact ⟨rfl, rfl⟩
def v0 (k : Nat) : Nat := if k = 7 then 1 else if k = 8 then 10 else 0
set_option maxRecDepth 40000 in
theorem fresh_PB : PB C0 10 S0 0 := by
  have z : ∀ k, k ≠ 7 → k ≠ 8 → v0 k = 0 := fun k h1 h2 => by unfold v0; rw [if_neg h1, if_neg h2]
  refine ⟨v0, ?_, by decide, ?_, by decide +kernel, ?_⟩
  · refine ⟨⟨by decide, by decide, by decide, by decide, by decide, fun g hg => absurd hg (by rw [z 2 (by decide) (by decide)]; exact Nat.not_lt_zero g)⟩, by decide, by decide, by decide, by decide, by decide, fun g hg => absurd hg (by rw [z 2 (by decide) (by decide)]; exact Nat.not_lt_zero g), fun g hg => absurd hg (by rw [z 3 (by decide) (by decide)]; exact Nat.not_lt_zero g), fun g hg => absurd hg (by rw [z 4 (by decide) (by decide)]; exact Nat.not_lt_zero g), fun g hg => absurd hg (by rw [z 5 (by decide) (by decide)]; exact Nat.not_lt_zero g), fun k hk => ?_, fun b _ hb => ?_⟩
    · rw [z _ (by omega) (by omega)]; exact Nat.zero_le _
    · exact ⟨z _ (by omega) (by omega), z _ (by omega) (by omega)⟩
  · refine ⟨⟨by decide +kernel, by decide +kernel, by decide +kernel, by decide +kernel, by decide +kernel, fun g hg => absurd hg (by rw [z 2 (by decide) (by decide)]; exact Nat.not_lt_zero g)⟩, by decide +kernel, by decide +kernel, by decide +kernel, by decide +kernel, by decide +kernel, by decide +kernel, fun g hg => absurd hg (by rw [z 2 (by decide) (by decide)]; exact Nat.not_lt_zero g), fun g hg => absurd hg (by rw [z 3 (by decide) (by decide)]; exact Nat.not_lt_zero g), fun g hg => absurd hg (by rw [z 4 (by decide) (by decide)]; exact Nat.not_lt_zero g), fun g hg => absurd hg (by rw [z 5 (by decide) (by decide)]; exact Nat.not_lt_zero g), fun k hk => ?_, ?_⟩
    · have h : ∀ k, k < 60 → C0.1 16 k = nI 0 := by decide +kernel
      show C0.1 16 k = nI (v0 (103 + k))
      rw [z _ (by omega) (by omega)]
      exact h k hk
    · refine ⟨by decide, by decide +kernel, fun h => ?_⟩
      rw [z 163 (by decide) (by decide)] at h; cases h
  · intro g hg
    exact absurd hg (by rw [z 2 (by decide) (by decide)]; exact Nat.not_lt_zero g)
set_option maxRecDepth 40000 in
theorem fresh_Rel : Rel C0 S0 := by
  refine ⟨by decide +kernel, ⟨by decide +kernel, by decide +kernel⟩, ⟨0, by decide, by decide +kernel, by decide +kernel, fun k hk => absurd hk (Nat.not_lt_zero k)⟩, fun t ht => ?_, fresh_PB, ⟨0, by decide, by decide +kernel, by decide +kernel, fun k hk => absurd hk (Nat.not_lt_zero k)⟩, ⟨by decide +kernel, by decide +kernel⟩, ⟨false, by decide +kernel, by decide +kernel, fun h => by cases h⟩⟩
  have h : ∀ t, t < 4 → C0.1 8 t = nI 0 ∧ S0.1 201 t = nI 0 ∧ C0.1 9 t = -1 ∧ S0.1 202 t = -1 := by decide +kernel
  obtain ⟨a, b, c, d⟩ := h t ht
  exact ⟨0, by decide, a, b, Or.inl ⟨c, d⟩⟩
