/-! the classes and array classes, as the tables have them -/
theorem is_11 : Cond.instantiable RX11 20 ∈ TG := tg_1 23 (by decide +kernel) (by decide +kernel)
theorem is_12 : Cond.instantiable RX12 51 ∈ TG := tg_6 217 (by decide +kernel) (by decide +kernel)
theorem kn_of {s : State} {b0 : Nat} (hts : ∀ w ∈ TG, w.before #[Value.ref b0] s = true) : ∀ k : Nat, ∃ q : ClassId × (Nat → Nat), ∀ r : vw_C, classes[k]? = some r → u_Kn s r.1 r.2.1 r.2.2 q.1 q.2 := by
  have go : ∀ {R : String} {T : u_T} {N : Nat}, (∀ w ∈ u_ws R T N, w ∈ TG) → Cond.instantiable R N ∈ TG → ∃ q : ClassId × (Nat → Nat), u_Kn s R T N q.1 q.2 := fun {R T N} hin hi => by
    obtain ⟨c, i, h⟩ := u_known (C := R) (T := T) (N := N) (n := N) hts hin (hts _ hi)
    exact ⟨(c, i), h⟩
  intro k
  match k with
  | 0 => obtain ⟨q, h⟩ := go in_0 is_0; exact ⟨q, fun r hr => by cases hr; exact h⟩
  | 1 => obtain ⟨q, h⟩ := go in_1 is_1; exact ⟨q, fun r hr => by cases hr; exact h⟩
  | 2 => obtain ⟨q, h⟩ := go in_2 is_2; exact ⟨q, fun r hr => by cases hr; exact h⟩
  | 3 => obtain ⟨q, h⟩ := go in_3 is_3; exact ⟨q, fun r hr => by cases hr; exact h⟩
  | 4 => obtain ⟨q, h⟩ := go in_4 is_4; exact ⟨q, fun r hr => by cases hr; exact h⟩
  | 5 => obtain ⟨q, h⟩ := go in_5 is_5; exact ⟨q, fun r hr => by cases hr; exact h⟩
  | 6 => obtain ⟨q, h⟩ := go in_6 is_6; exact ⟨q, fun r hr => by cases hr; exact h⟩
  | 7 => obtain ⟨q, h⟩ := go in_7 is_7; exact ⟨q, fun r hr => by cases hr; exact h⟩
  | 8 => obtain ⟨q, h⟩ := go in_8 is_8; exact ⟨q, fun r hr => by cases hr; exact h⟩
  | 9 => obtain ⟨q, h⟩ := go in_9 is_9; exact ⟨q, fun r hr => by cases hr; exact h⟩
  | 10 => obtain ⟨q, h⟩ := go in_10 is_10; exact ⟨q, fun r hr => by cases hr; exact h⟩
  | 11 => obtain ⟨q, h⟩ := go in_11 is_11; exact ⟨q, fun r hr => by cases hr; exact h⟩
  | 12 => obtain ⟨q, h⟩ := go in_12 is_12; exact ⟨q, fun r hr => by cases hr; exact h⟩
  | k + 13 => exact ⟨(0, fun _ => 0), fun r hr => by rw [List.getElem?_eq_none (by show 13 ≤ k + 13; omega)] at hr; cases hr⟩
/-- an array class of plain numbers -/
theorem ar_of {s : State} {b0 : Nat} {ty : FieldType} (hne : ∀ C, ty ≠ .object C) (h : (Cond.arrayClass ty).before #[Value.ref b0] s = true) : ∃ c : ClassId, ArrOfT s c ty ∧ va_RA s c ty := by
  obtain ⟨c, k, comp, h1, h2, h3⟩ := Cond.arrayClass_spec h
  refine ⟨c, fun n z => ⟨(fun j hj => by cases hj), k, h2, comp, h3⟩, ?_⟩
  cases ty with
  | object C => exact absurd rfl (hne C)
  | _ => exact h1
theorem env_K {s : State} {b0 : Nat} (hts : ∀ w ∈ TG, w.before #[Value.ref b0] s = true) (hE : EnvC s) : ∃ (dC : Nat → ClassId) (dI : Nat → Nat → Nat) (cA : Nat → ClassId), va_K (dC, dI) classes (tysA cA) s := by
  obtain ⟨f, hf⟩ := Classical.axiomOfChoice (kn_of hts)
  obtain ⟨c20, a20, r20⟩ := ar_of (ty := .int) (fun _ h => by cases h) (hts _ arr_I)
  obtain ⟨c21, a21, r21⟩ := ar_of (ty := .long) (fun _ h => by cases h) (hts _ arr_J)
  obtain ⟨c22, a22, r22⟩ := ar_of (ty := .byte) (fun _ h => by cases h) (hts _ arr_B)
  obtain ⟨c23, a23, r23⟩ := ar_of (ty := .boolean) (fun _ h => by cases h) (hts _ arr_Z)
  obtain ⟨p24, c24, k24, g1, g2, g3, g4, g5⟩ := Cond.arrayOver_spec (hE.2 (.arrayOver (.object "FogKeys$Port")) (by simp [overW]))
  obtain ⟨p25, c25, k25, h1, h2, h3, h4, h5⟩ := ao_spec (hE.2 (.arrayOver (.array .long)) (by simp [overW]))
  refine ⟨fun k => (f k).1, fun k => (f k).2, fun k => if k = 20 then c20 else if k = 21 then c21 else if k = 22 then c22 else if k = 23 then c23 else if k = 24 then c24 else c25, fun k r hr => hf k r hr, fun k q hq => ?_⟩
  match k, hq with
  | 0, hq => cases hq; exact ⟨a20, r20⟩
  | 1, hq => cases hq; exact ⟨a21, r21⟩
  | 2, hq => cases hq; exact ⟨a22, r22⟩
  | 3, hq => cases hq; exact ⟨a23, r23⟩
  | 4, hq => cases hq; exact ⟨fun n z => ⟨(fun j hj => by cases hj), k24, g3, p24, g4⟩, k24, p24, g3, g4, g1, g5⟩
  | 5, hq => cases hq; exact ⟨fun n z => ⟨(fun j hj => by cases hj), k25, h3, p25, h4⟩, h5⟩
  | k + 6, hq => rw [List.getElem?_eq_none (by show 6 ≤ k + 6; omega)] at hq; cases hq
