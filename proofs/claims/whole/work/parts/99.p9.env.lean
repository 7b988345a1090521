/-! what surrounds our objects, out of what the Statement gives -/
abbrev sL (k : Nat) : String × Nat × String := strL.getD k ("", 0, "")
abbrev tmS (k : Nat) : Term := .string (sL k).1 (sL k).2.1
abbrev flG : List Cond := flatC (Jvm.Cond.and given_1 narrow_1)
abbrev vS (k : Nat) : Term := .field (tmS k) "java/lang/String" "value" "[B"
/-- where the characters of each string begin in that list -/
def posL : List Nat := [47, 55, 61, 69, 214, 220, 228, 239, 247, 256, 266, 275, 284, 292, 298, 306, 315, 323, 331, 339, 348, 357, 364, 372, 381, 389, 398, 407, 415, 423, 431, 441]
set_option maxRecDepth 40000 in
theorem g_ex : ∀ k, k < 32 → Cond.exactly (tmS k) "java/lang/String" ∈ flG := by decide +kernel
set_option maxRecDepth 40000 in
theorem g_co : ∀ k, k < 32 → Cond.eq (.field (tmS k) "java/lang/String" "coder" "B") (.int 0) ∈ flG := by decide +kernel
set_option maxRecDepth 40000 in
theorem g_ar : ∀ k, k < 32 → Cond.arrayOf (vS k) .byte ∈ flG := by decide +kernel
set_option maxRecDepth 40000 in
theorem g_le : ∀ k, k < 32 → (chL.getD k []).length < 1000 ∧ Cond.eq (.length (vS k)) (.int (Int32.ofNat (chL.getD k []).length)) ∈ flG := by decide +kernel
set_option maxRecDepth 40000 in
theorem g_el0 : ∀ k, k < 32 → (flG.drop (posL.getD k 0)).take (chL.getD k []).length = (List.range (chL.getD k []).length).map (fun j => Cond.eq (.elem (vS k) (.int (Int32.ofNat j))) (.int ((chL.getD k []).getD j 0))) := by decide +kernel
theorem g_el : ∀ k, k < 32 → ∀ j, j < (chL.getD k []).length → Cond.eq (.elem (vS k) (.int (Int32.ofNat j))) (.int ((chL.getD k []).getD j 0)) ∈ flG := fun k hk j hj => List.mem_of_mem_drop (List.mem_of_mem_take (by rw [g_el0 k hk]; exact List.mem_map.mpr ⟨j, List.mem_range.mpr hj, rfl⟩))
set_option maxRecDepth 40000 in
theorem g_sr : ∀ k, k < 32 → Cond.stringRef (sL k).1 (sL k).2.1 (sL k).2.2 ∈ lw_tbl := by decide +kernel
abbrev tmA (k : Nat) : Term := .static "FogKeys" (stN.getD k "") "[I"
set_option maxRecDepth 40000 in
theorem g_sa : ∀ k, k < 4 → Cond.arrayOf (tmA k) .int ∈ flG ∧ ((stA.getD k []).length < 1000 ∧ Cond.eq (.length (tmA k)) (.int (Int32.ofNat (stA.getD k []).length)) ∈ flG) ∧ (∀ j, j < (stA.getD k []).length → Cond.eq (.elem (tmA k) (.int (Int32.ofNat j))) (.int ((stA.getD k []).getD j 0)) ∈ flG) ∧ Cond.laysStatic "FogKeys" (stN.getD k "") "[I" ∈ lw_tbl := by decide +kernel
set_option maxRecDepth 40000 in
theorem g_in : Cond.initialized "FogKeys" ∈ lw_tbl ∧ Cond.initialized "java/lang/String" ∈ lw_tbl ∧ Cond.initialized "jdk/internal/util/Preconditions" ∈ lw_tbl ∧ Cond.laysStatic "java/lang/String" "COMPACT_STRINGS" "Z" ∈ lw_tbl ∧ Cond.laysStatic "jdk/internal/util/Preconditions" "SIOOBE_FORMATTER" "Ljava/util/function/BiFunction;" ∈ lw_tbl ∧ Cond.eq (.static "java/lang/String" "COMPACT_STRINGS" "Z") (.int 1) ∈ flG ∧ Cond.isRef (.static "jdk/internal/util/Preconditions" "SIOOBE_FORMATTER" "Ljava/util/function/BiFunction;") ∈ flG := by decide +kernel
set_option maxRecDepth 40000 in
theorem g_nw : (∀ w ∈ nestW, w ∈ lw_tbl ∧ w.onTables = true) ∧ (∀ w ∈ nestM, w ∈ lw_tbl ∧ w.onTables = true) ∧ (∀ w ∈ overW, w ∈ lw_tbl) := by decide +kernel
theorem env_of {b : Nat} {s : State} (hts : ∀ w ∈ lw_tbl, w.before #[Value.ref b] s = true) (hgv : (Jvm.Cond.and given_1 narrow_1).before #[Value.ref b] s = true) : ∃ ad : Nat → Nat, ad 700 = b ∧ EnvF ad (fun q => s.heap.size ≤ q) s s.heap ∧ EnvC s := by
  have hs : ∀ w ∈ flG, w.before #[Value.ref b] s = true := flat_of_before _ hgv
  have hA : ∀ a : Nat, a < s.heap.size → ¬ (fun q : Nat => s.heap.size ≤ q) a := fun a h1 h2 => absurd h1 (Nat.not_lt.mpr h2)
  have hS : ∀ k : Nat, ∃ q : Nat × Nat, k < 32 → vk_R (sL k).1 (sL k).2.1 (sL k).2.2 q.1 s ∧ va_O "java/lang/String" q.1 (fun q => s.heap.size ≤ q) s s.heap ∧ va_OF "java/lang/String" "coder" "B" (.int 0) q.1 (fun q => s.heap.size ≤ q) s s.heap ∧ va_OF "java/lang/String" "value" "[B" (.ref q.2) q.1 (fun q => s.heap.size ≤ q) s s.heap ∧ va_T .byte q.2 (chL.getD k []).length (fun j => .int ((chL.getD k []).getD j 0)) (fun q => s.heap.size ≤ q) s s.heap := by
    intro k
    by_cases hk : k < 32
    · obtain ⟨a, c, cA, kA, q1, q2, q3, q4, q5, q6, -⟩ := Cond.exactly_spec (hs _ (g_ex k hk))
      obtain ⟨t, ht, hT⟩ := va_Tof (f := fun j => .int ((chL.getD k []).getD j 0)) (A := fun q => s.heap.size ≤ q) (Nat.lt_trans (g_le k hk).1 (by decide)) (hs _ (g_ar k hk)) (va_eqt (hs _ (g_le k hk).2)) (fun j hj => va_eqt (hs _ (g_el k hk j hj))) hA
      exact ⟨(a, t), fun _ => ⟨vk_R.of (hts _ (g_sr k hk)) q1, ⟨cA, q3, q5, by rw [q6]; exact q2, hA a (Array.getElem?_eq_some_iff.mp q3).1⟩, vk_OFof q1 (va_eqt (hs _ (g_co k hk))) hA, vk_OFof q1 ht hA, hT⟩⟩
    · exact ⟨(0, 0), fun h => absurd h hk⟩
  have hB : ∀ k : Nat, ∃ q : Nat, k < 4 → va_Z "FogKeys" (stN.getD k "") "[I" (.ref q) (fun q => s.heap.size ≤ q) s s.heap ∧ va_T .int q (stA.getD k []).length (fun j => .int ((stA.getD k []).getD j 0)) (fun q => s.heap.size ≤ q) s s.heap := by
    intro k
    by_cases hk : k < 4
    · obtain ⟨g1, ⟨g2, g3⟩, g4, g5⟩ := g_sa k hk
      obtain ⟨t, ht, hT⟩ := va_Tof (f := fun j => .int ((stA.getD k []).getD j 0)) (A := fun q => s.heap.size ≤ q) (Nat.lt_trans g2 (by decide)) (hs _ g1) (va_eqt (hs _ g3)) (fun j hj => va_eqt (hs _ (g4 j hj))) hA
      exact ⟨t, fun _ => ⟨va_Zref (hts _ g5) (hts _ g_in.1) ht hA, hT⟩⟩
    · exact ⟨0, fun h => absurd h hk⟩
  obtain ⟨aS, hS⟩ := Classical.axiomOfChoice hS
  obtain ⟨aB, hB⟩ := Classical.axiomOfChoice hB
  have hF : va_Zq "jdk/internal/util/Preconditions" "SIOOBE_FORMATTER" "Ljava/util/function/BiFunction;" (fun q => s.heap.size ≤ q) s s.heap := va_Zqof (hts _ g_in.2.2.2.2.1) (hts _ g_in.2.2.1) (hs _ g_in.2.2.2.2.2.2) hA
  obtain ⟨aF, hF⟩ : ∃ t : Nat, va_Z "jdk/internal/util/Preconditions" "SIOOBE_FORMATTER" "Ljava/util/function/BiFunction;" .null (fun q => s.heap.size ≤ q) s s.heap ∨ va_Z "jdk/internal/util/Preconditions" "SIOOBE_FORMATTER" "Ljava/util/function/BiFunction;" (.ref t) (fun q => s.heap.size ≤ q) s s.heap := by
    rcases hF with h | ⟨t, h⟩
    · exact ⟨0, Or.inl h⟩
    · exact ⟨t, Or.inr h⟩
  let ad : Nat → Nat := fun i => if i = 700 then b else if i = 600 then aF else if 500 ≤ i then (aS (i - 500)).2 else if 400 ≤ i then (aS (i - 400)).1 else aB (i - 300)
  refine ⟨ad, if_pos rfl, ⟨fun k hk => ?_, fun w hw => va_Nw.of (g_nw.1 w hw).2 (hts _ (g_nw.1 w hw).1), fun k hk => ?_, va_Zof (hts _ g_in.2.2.2.1) (hts _ g_in.2.1) (va_eqt (hs _ g_in.2.2.2.2.2.1)) hA, hF⟩, fun w hw => va_Nw.of (g_nw.2.1 w hw).2 (hts _ (g_nw.2.1 w hw).1), fun w hw => ?_⟩
  · have e : ad (300 + k) = aB k := by
      show (if _ then _ else _) = _
      rw [if_neg (by omega), if_neg (by omega), if_neg (by omega), if_neg (by omega), Nat.add_sub_cancel_left]
    rw [e]
    exact hB k hk
  · have e1 : ad (400 + k) = (aS k).1 := by
      show (if _ then _ else _) = _
      rw [if_neg (by omega), if_neg (by omega), if_neg (by omega), if_pos (by omega), Nat.add_sub_cancel_left]
    have e2 : ad (500 + k) = (aS k).2 := by
      show (if _ then _ else _) = _
      rw [if_neg (by omega), if_neg (by omega), if_pos (by omega), Nat.add_sub_cancel_left]
    unfold EnvS
    rw [e1, e2]
    exact hS k hk
  · have h := hts _ (g_nw.2.2 w hw)
    simp only [overW, List.mem_cons, List.not_mem_nil, or_false] at hw
    rcases hw with rfl | rfl
    · exact h
    · exact h
