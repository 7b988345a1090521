theorem cell_oI {cA : Nat → ClassId} {ad : Nat → Nat} {M : Mem} {c c' : Nat} {f : Nat → Int32} (h : c' ≠ c) : cellE cA ad (rI M c f) c' = cellE cA ad M c' := by
  have e : (rI M c f).1 c' = M.1 c' := by simp [rI, h]
  have e2 : (rI M c f).2 = M.2 := rfl
  unfold cellE fvs
  rw [e, e2]
  have e3 : fv ad (rI M c f) c' = fv ad M c' := by
    funext k
    unfold fv
    rw [e, e2]
  rw [e3]
theorem cell_oL {cA : Nat → ClassId} {ad : Nat → Nat} {M : Mem} {c c' : Nat} {f : Nat → Int64} (h : c' ≠ c) : cellE cA ad (rL M c f) c' = cellE cA ad M c' := by
  have e : (rL M c f).2 c' = M.2 c' := by simp [rL, h]
  have e2 : (rL M c f).1 = M.1 := rfl
  unfold cellE fvs
  rw [e, e2]
  have e3 : fv ad (rL M c f) c' = fv ad M c' := by
    funext k
    unfold fv
    rw [e, e2]
  rw [e3]
theorem cell_obj {cA : Nat → ClassId} {ad : Nat → Nat} {M : Mem} {c : Nat} (h : kd c < 13) : cellE cA ad M c = .inr (kd c, fvs ad M c) := by unfold cellE; rw [if_pos h]
theorem cell_int {cA : Nat → ClassId} {ad : Nat → Nat} {M : Mem} {c : Nat} (h : kd c = 20 ∨ kd c = 22 ∨ kd c = 23) : cellE cA ad M c = .inl (cA (kd c), ln c, .inl (M.1 c)) := by
  unfold cellE
  rw [if_neg (by omega), if_neg (by omega), if_neg (by omega)]
theorem cell_long {cA : Nat → ClassId} {ad : Nat → Nat} {M : Mem} {c : Nat} (h : kd c = 21) : cellE cA ad M c = .inl (cA 21, ln c, .inr (.inl (M.2 c))) := by
  unfold cellE
  rw [if_neg (by omega), if_pos h]
theorem cell_ref {cA : Nat → ClassId} {ad : Nat → Nat} {M : Mem} {c : Nat} (h : kd c = 24 ∨ kd c = 25) : cellE cA ad M c = .inl (cA (kd c), ln c, .inr (.inr (.inr (.inr (fun j => if j < ln c then some (ad (rf c j)) else none))))) := by
  unfold cellE
  rw [if_neg (by omega), if_neg (by omega), if_pos h]
theorem fvs_get {ad : Nat → Nat} {M : Mem} {c k : Nat} (h : k < nf (kd c)) : (fvs ad M c)[k]? = some (fv ad M c k) := by
  unfold fvs
  rw [List.getElem?_map, List.getElem?_range h]
  rfl
theorem fvs_setI {ad : Nat → Nat} {M : Mem} {c k : Nat} {x : Int32} (ht : ft (kd c) k = 0 ∨ ft (kd c) k = 3) : (fvs ad M c).set k (.int x) = fvs ad (uI M c k x) c := by
  apply List.ext_getElem?
  intro j
  rw [List.getElem?_set]
  by_cases hj : j < nf (kd c)
  · rw [fvs_get hj, fvs_get hj]
    by_cases e : k = j
    · subst e
      rw [if_pos rfl, if_pos (by simp [fvs, hj])]
      unfold fv
      rw [if_neg (by omega), if_neg (by omega)]
      simp [uI, rI, upd]
    · rw [if_neg e]
      unfold fv
      simp [uI, rI, upd, Ne.symm e]
  · have h1 : (fvs ad M c).length = nf (kd c) := by simp [fvs]
    have h2 : (fvs ad (uI M c k x) c).length = nf (kd c) := by simp [fvs]
    rw [List.getElem?_eq_none (l := fvs ad M c) (by omega), List.getElem?_eq_none (l := fvs ad (uI M c k x) c) (by omega)]
    split <;> (try split) <;> first | rfl | omega
theorem fvs_setL {ad : Nat → Nat} {M : Mem} {c k : Nat} {x : Int64} (ht : ft (kd c) k = 1) : (fvs ad M c).set k (.long x) = fvs ad (uL M c k x) c := by
  apply List.ext_getElem?
  intro j
  rw [List.getElem?_set]
  by_cases hj : j < nf (kd c)
  · rw [fvs_get hj, fvs_get hj]
    by_cases e : k = j
    · subst e
      rw [if_pos rfl, if_pos (by simp [fvs, hj])]
      unfold fv
      rw [if_pos ht]
      simp [uL, rL, vp_updL]
    · rw [if_neg e]
      unfold fv
      simp [uL, rL, vp_updL, Ne.symm e]
  · have h1 : (fvs ad M c).length = nf (kd c) := by simp [fvs]
    have h2 : (fvs ad (uL M c k x) c).length = nf (kd c) := by simp [fvs]
    rw [List.getElem?_eq_none (l := fvs ad M c) (by omega), List.getElem?_eq_none (l := fvs ad (uL M c k x) c) (by omega)]
    split <;> (try split) <;> first | rfl | omega
def CalleeB (ν : MI) (k : Nat) : Prop := Cond.code ν.1 ν.2.1 ν.2.2.1 ν.2.2.2 ∈ TG ∧ Cond.initialized ν.1.cls ∈ TG ∧ (ν.1.cls ≠ "java/lang/invoke/MethodHandle" ∧ ν.1.cls ≠ "java/lang/invoke/VarHandle" ∧ (parseMethodDescriptor ν.1.desc).map (fun d => d.parameters.length) = some k) ∧ ν.2.2.1 ≤ 81
def CalleeV (ν : MI) (k : Nat) : Prop := CalleeB ν k ∧ Cond.instanceMethod ν.1 ∈ TG ∧ Cond.selects ν.1.cls ν.1 ν.1 ∈ TG
def CalleeS (ν : MI) (k : Nat) : Prop := CalleeB ν k ∧ Cond.static ν.1 ∈ TG
section FH
variable {b n d : Nat} {μ : MI} {pc : Nat} {lv : List (Nat × Value)} {st : List Value} {M : Mem} {Q : Option Value → Mem → Prop}
theorem Fr_get {c ci k idx N : Nat} {C : String} {T : u_T} (hd : decode μ.2.1 pc = .ok (.getfield idx, 3)) (ho : Ob b n c ci) (hc : classes[ci]? = some (C, T, N)) (h13 : ci < 13) (hN : nf ci = N) (hin : ∀ w ∈ u_ws C T N, w ∈ TG) (hk : k < N) (hlink : Cond.fieldLink μ.1.cls idx (T k).1 (T k).2.1 (T k).2.2.1 ∈ TG) {v : Value} (hv : ∀ ad, fv ad M c k = rv ad v) (kk : Fr b n d μ (pc + 3) lv (v :: st) M Q) : Fr b n d μ pc lv (.ref c :: st) M Q := by
  intro p l e s m args below meth c0 H locs dC dI cA ad A ls C0 hP hS hl
  obtain ⟨hx, hb, hml, hr, hlk, hown, hts, hK, hD, hA, hE, hAe⟩ := id C0
  obtain ⟨o1, o2, o3⟩ := ho
  subst o3
  refine va_get (D := (dC, dI)) (ci := kd c) (v := rv ad v) (C := C) (T := T) (N := N) hx hb hts hin hown hK hP (c - b) (fs := fvs ad M c) ?_ hc k hk (hts _ hlink) (fun _ h9 => h9) ?_ hd (kk p l e s m args below meth c0 H locs dC dI cA ad A ls C0 hP hS hl)
  · rw [ws_get ⟨o1, o2⟩, cell_obj h13]
  · rw [fvs_get (by omega), hv ad]
theorem Fr_putI {c ci k idx N : Nat} {C : String} {T : u_T} {ty0 : Nat → FieldType} {ty : FieldType} {x : Int32} (hd : decode μ.2.1 pc = .ok (.putfield idx, 3)) (ho : Ob b n c ci) (hc : classes[ci]? = some (C, T, N)) (h13 : ci < 13) (hN : nf ci = N) (hin : ∀ w ∈ u_ws C T N, w ∈ TG) (hty : ∀ k, k < N → parseFieldDescriptor (T k).2.2.1 = some (ty0 k)) (hnm : ∀ a, a < N → ∀ b, b < N → a ≠ b → (T a).2.1 ≠ (T b).2.1) (hk : k < N) (hlink : Cond.fieldLink μ.1.cls idx (T k).1 (T k).2.1 (T k).2.2.1 ∈ TG) (hfin : (T k).2.2.2 = false) (hft : ft ci k = 0 ∨ ft ci k = 3) (hpd : parseFieldDescriptor (T k).2.2.1 = some ty) (hn : narrow ty (.int x) = .int x) (hfit : fits ty (.int x) = true) (kk : Fr b n d μ (pc + 3) lv st (uI M c k x) Q) : Fr b n d μ pc lv (.int x :: .ref c :: st) M Q := by
  intro p l e s m args below meth c0 H locs dC dI cA ad A ls C0 hP hS hl
  obtain ⟨hx, hb, hml, hr, hlk, hown, hts, hK, hD, hA, hE, hAe⟩ := id C0
  obtain ⟨o1, o2, o3⟩ := ho
  subst o3
  refine va_put (D := (dC, dI)) (ci := kd c) (v := .int x) (ty := ty) (C := C) (T := T) (N := N) hx hb hts hin ty0 hty hnm hown hK hP (hD M) hS (c - b) (fs := fvs ad M c) ?_ hc k hk (hts _ hlink) (fun _ h9 => h9) hfin hpd hn hfit (by simp [fvs]; omega) hd (fun H1 locs1 hP1 hD1 hS1 => ?_)
  · rw [ws_get ⟨o1, o2⟩, cell_obj h13]
  · rw [ws_set (M' := uI M c k x) ⟨o1, o2⟩ (by rw [cell_obj h13, fvs_setI hft]) (fun c' h => cell_oI h)] at hP1
    exact kk p l e s m args below meth c0 H1 locs1 dC dI cA ad A ls C0 hP1 hS1 hl
theorem Fr_putL {c ci k idx N : Nat} {C : String} {T : u_T} {ty0 : Nat → FieldType} {x : Int64} (hd : decode μ.2.1 pc = .ok (.putfield idx, 3)) (ho : Ob b n c ci) (hc : classes[ci]? = some (C, T, N)) (h13 : ci < 13) (hN : nf ci = N) (hin : ∀ w ∈ u_ws C T N, w ∈ TG) (hty : ∀ k, k < N → parseFieldDescriptor (T k).2.2.1 = some (ty0 k)) (hnm : ∀ a, a < N → ∀ b, b < N → a ≠ b → (T a).2.1 ≠ (T b).2.1) (hk : k < N) (hlink : Cond.fieldLink μ.1.cls idx (T k).1 (T k).2.1 (T k).2.2.1 ∈ TG) (hfin : (T k).2.2.2 = false) (hft : ft ci k = 1) (hpd : parseFieldDescriptor (T k).2.2.1 = some .long) (kk : Fr b n d μ (pc + 3) lv st (uL M c k x) Q) : Fr b n d μ pc lv (.long x :: .ref c :: st) M Q := by
  intro p l e s m args below meth c0 H locs dC dI cA ad A ls C0 hP hS hl
  obtain ⟨hx, hb, hml, hr, hlk, hown, hts, hK, hD, hA, hE, hAe⟩ := id C0
  obtain ⟨o1, o2, o3⟩ := ho
  subst o3
  refine va_put (D := (dC, dI)) (ci := kd c) (v := .long x) (ty := .long) (C := C) (T := T) (N := N) hx hb hts hin ty0 hty hnm hown hK hP (hD M) hS (c - b) (fs := fvs ad M c) ?_ hc k hk (hts _ hlink) (fun _ h9 => h9) hfin hpd rfl rfl (by simp [fvs]; omega) hd (fun H1 locs1 hP1 hD1 hS1 => ?_)
  · rw [ws_get ⟨o1, o2⟩, cell_obj h13]
  · rw [ws_set (M' := uL M c k x) ⟨o1, o2⟩ (by rw [cell_obj h13, fvs_setL hft]) (fun c' h => cell_oL h)] at hP1
    exact kk p l e s m args below meth c0 H1 locs1 dC dI cA ad A ls C0 hP1 hS1 hl
theorem Fr_iald {c : Nat} {i : Int32} (hd : decode μ.2.1 pc = .ok (.iaload, 1)) (ho : Ob b n c 20) (hi : vp_in i (ln c)) (kk : Fr b n d μ (pc + 1) lv (.int (M.1 c i.toNatClampNeg) :: st) M Q) : Fr b n d μ pc lv (.int i :: .ref c :: st) M Q := by
  intro p l e s m args below meth c0 H locs dC dI cA ad A ls C0 hP hS hl
  obtain ⟨o1, o2, o3⟩ := ho
  refine va_iald (D := (dC, dI)) C0.1 C0.2.1 C0.2.2.2.2.2.2.2.1 hP (c - b) 0 (cA := cA 20) (n := ln c) (f := M.1 c) ?_ rfl hi hd (kk p l e s m args below meth c0 H locs dC dI cA ad A ls C0 hP hS hl)
  rw [ws_get ⟨o1, o2⟩, cell_int (Or.inl o3), o3]
theorem Fr_bald {c : Nat} {i : Int32} (hd : decode μ.2.1 pc = .ok (.baload, 1)) (ho : Ob b n c 22) (hi : vp_in i (ln c)) (kk : Fr b n d μ (pc + 1) lv (.int (M.1 c i.toNatClampNeg) :: st) M Q) : Fr b n d μ pc lv (.int i :: .ref c :: st) M Q := by
  intro p l e s m args below meth c0 H locs dC dI cA ad A ls C0 hP hS hl
  obtain ⟨o1, o2, o3⟩ := ho
  refine va_bald (D := (dC, dI)) C0.1 C0.2.1 C0.2.2.2.2.2.2.2.1 hP (c - b) 2 (cA := cA 22) (n := ln c) (f := M.1 c) ?_ rfl hi hd (kk p l e s m args below meth c0 H locs dC dI cA ad A ls C0 hP hS hl)
  rw [ws_get ⟨o1, o2⟩, cell_int (Or.inr (Or.inl o3)), o3]
theorem Fr_zald {c : Nat} {i : Int32} (hd : decode μ.2.1 pc = .ok (.baload, 1)) (ho : Ob b n c 23) (hi : vp_in i (ln c)) (kk : Fr b n d μ (pc + 1) lv (.int (M.1 c i.toNatClampNeg) :: st) M Q) : Fr b n d μ pc lv (.int i :: .ref c :: st) M Q := by
  intro p l e s m args below meth c0 H locs dC dI cA ad A ls C0 hP hS hl
  obtain ⟨o1, o2, o3⟩ := ho
  refine va_zald (D := (dC, dI)) C0.1 C0.2.1 C0.2.2.2.2.2.2.2.1 hP (c - b) 3 (cA := cA 23) (n := ln c) (f := M.1 c) ?_ rfl hi hd (kk p l e s m args below meth c0 H locs dC dI cA ad A ls C0 hP hS hl)
  rw [ws_get ⟨o1, o2⟩, cell_int (Or.inr (Or.inr o3)), o3]
theorem Fr_lald {c : Nat} {i : Int32} (hd : decode μ.2.1 pc = .ok (.laload, 1)) (ho : Ob b n c 21) (hi : vp_in i (ln c)) (kk : Fr b n d μ (pc + 1) lv (.long (M.2 c i.toNatClampNeg) :: st) M Q) : Fr b n d μ pc lv (.int i :: .ref c :: st) M Q := by
  intro p l e s m args below meth c0 H locs dC dI cA ad A ls C0 hP hS hl
  obtain ⟨o1, o2, o3⟩ := ho
  refine va_lald (D := (dC, dI)) C0.1 C0.2.1 C0.2.2.2.2.2.2.2.1 hP (c - b) 1 (cA := cA 21) (n := ln c) (f := M.2 c) ?_ rfl hi hd (kk p l e s m args below meth c0 H locs dC dI cA ad A ls C0 hP hS hl)
  rw [ws_get ⟨o1, o2⟩, cell_long o3]
theorem Fr_iast {c : Nat} {i x : Int32} (hd : decode μ.2.1 pc = .ok (.iastore, 1)) (ho : Ob b n c 20) (hi : vp_in i (ln c)) (kk : Fr b n d μ (pc + 1) lv st (uI M c i.toNatClampNeg x) Q) : Fr b n d μ pc lv (.int x :: .int i :: .ref c :: st) M Q := by
  intro p l e s m args below meth c0 H locs dC dI cA ad A ls C0 hP hS hl
  obtain ⟨o1, o2, o3⟩ := ho
  refine va_iast (D := (dC, dI)) C0.1 C0.2.1 C0.2.2.2.2.2.2.2.1 hP (C0.2.2.2.2.2.2.2.2.1 M) hS (c - b) 0 (cA := cA 20) (n := ln c) (f := M.1 c) ?_ rfl hi hd (fun H1 locs1 hP1 hD1 hS1 => ?_)
  · rw [ws_get ⟨o1, o2⟩, cell_int (Or.inl o3), o3]
  · rw [ws_set (M' := uI M c i.toNatClampNeg x) ⟨o1, o2⟩ (by rw [cell_int (Or.inl o3), o3]; simp [uI, rI]) (fun c' h => cell_oI h)] at hP1
    exact kk p l e s m args below meth c0 H1 locs1 dC dI cA ad A ls C0 hP1 hS1 hl
theorem Fr_bast {c : Nat} {i x : Int32} (hd : decode μ.2.1 pc = .ok (.bastore, 1)) (ho : Ob b n c 22) (hi : vp_in i (ln c)) (kk : Fr b n d μ (pc + 1) lv st (uI M c i.toNatClampNeg (vp_nar .byte x)) Q) : Fr b n d μ pc lv (.int x :: .int i :: .ref c :: st) M Q := by
  intro p l e s m args below meth c0 H locs dC dI cA ad A ls C0 hP hS hl
  obtain ⟨o1, o2, o3⟩ := ho
  refine va_bast (D := (dC, dI)) C0.1 C0.2.1 C0.2.2.2.2.2.2.2.1 hP (C0.2.2.2.2.2.2.2.2.1 M) hS (c - b) 2 (cA := cA 22) (n := ln c) (f := M.1 c) ?_ rfl hi hd (fun H1 locs1 hP1 hD1 hS1 => ?_)
  · rw [ws_get ⟨o1, o2⟩, cell_int (Or.inr (Or.inl o3)), o3]
  · rw [ws_set (M' := uI M c i.toNatClampNeg (vp_nar .byte x)) ⟨o1, o2⟩ (by rw [cell_int (Or.inr (Or.inl o3)), o3]; simp [uI, rI]) (fun c' h => cell_oI h)] at hP1
    exact kk p l e s m args below meth c0 H1 locs1 dC dI cA ad A ls C0 hP1 hS1 hl
theorem Fr_zast {c : Nat} {i x : Int32} (hd : decode μ.2.1 pc = .ok (.bastore, 1)) (ho : Ob b n c 23) (hi : vp_in i (ln c)) (kk : Fr b n d μ (pc + 1) lv st (uI M c i.toNatClampNeg (vp_nar .boolean x)) Q) : Fr b n d μ pc lv (.int x :: .int i :: .ref c :: st) M Q := by
  intro p l e s m args below meth c0 H locs dC dI cA ad A ls C0 hP hS hl
  obtain ⟨o1, o2, o3⟩ := ho
  refine va_zast (D := (dC, dI)) C0.1 C0.2.1 C0.2.2.2.2.2.2.2.1 hP (C0.2.2.2.2.2.2.2.2.1 M) hS (c - b) 3 (cA := cA 23) (n := ln c) (f := M.1 c) ?_ rfl hi hd (fun H1 locs1 hP1 hD1 hS1 => ?_)
  · rw [ws_get ⟨o1, o2⟩, cell_int (Or.inr (Or.inr o3)), o3]
  · rw [ws_set (M' := uI M c i.toNatClampNeg (vp_nar .boolean x)) ⟨o1, o2⟩ (by rw [cell_int (Or.inr (Or.inr o3)), o3]; simp [uI, rI]) (fun c' h => cell_oI h)] at hP1
    exact kk p l e s m args below meth c0 H1 locs1 dC dI cA ad A ls C0 hP1 hS1 hl
theorem Fr_last {c : Nat} {i : Int32} {x : Int64} (hd : decode μ.2.1 pc = .ok (.lastore, 1)) (ho : Ob b n c 21) (hi : vp_in i (ln c)) (kk : Fr b n d μ (pc + 1) lv st (uL M c i.toNatClampNeg x) Q) : Fr b n d μ pc lv (.long x :: .int i :: .ref c :: st) M Q := by
  intro p l e s m args below meth c0 H locs dC dI cA ad A ls C0 hP hS hl
  obtain ⟨o1, o2, o3⟩ := ho
  refine va_last (D := (dC, dI)) C0.1 C0.2.1 C0.2.2.2.2.2.2.2.1 hP (C0.2.2.2.2.2.2.2.2.1 M) hS (c - b) 1 (cA := cA 21) (n := ln c) (f := M.2 c) ?_ rfl hi hd (fun H1 locs1 hP1 hD1 hS1 => ?_)
  · rw [ws_get ⟨o1, o2⟩, cell_long o3]
  · rw [ws_set (M' := uL M c i.toNatClampNeg x) ⟨o1, o2⟩ (by rw [cell_long o3]; simp [uL, rL]) (fun c' h => cell_oL h)] at hP1
    exact kk p l e s m args below meth c0 H1 locs1 dC dI cA ad A ls C0 hP1 hS1 hl
theorem Fr_alen {c : Nat} {t : Nat} {v : Int32} (hd : decode μ.2.1 pc = .ok (.arraylength, 1)) (ho : Ob b n c t) (h20 : 20 ≤ t ∧ t ≤ 23) (hv : Int32.ofNat (ln c) = v) (kk : Fr b n d μ (pc + 1) lv (.int v :: st) M Q) : Fr b n d μ pc lv (.ref c :: st) M Q := by
  intro p l e s m args below meth c0 H locs dC dI cA ad A ls C0 hP hS hl
  obtain ⟨o1, o2, o3⟩ := ho
  have hcase : t = 20 ∨ t = 21 ∨ t = 22 ∨ t = 23 := by omega
  rcases hcase with rfl | rfl | rfl | rfl
  · exact va_alen (D := (dC, dI)) C0.1 C0.2.1 C0.2.2.2.2.2.2.2.1 hP (c - b) 0 (cA := cA 20) (x := (ln c, .inl (M.1 c))) (by rw [ws_get ⟨o1, o2⟩, cell_int (Or.inl o3), o3]) (ty := .int) rfl hv hd (kk p l e s m args below meth c0 H locs dC dI cA ad A ls C0 hP hS hl)
  · exact va_alen (D := (dC, dI)) C0.1 C0.2.1 C0.2.2.2.2.2.2.2.1 hP (c - b) 1 (cA := cA 21) (x := (ln c, .inr (.inl (M.2 c)))) (by rw [ws_get ⟨o1, o2⟩, cell_long o3]) (ty := .long) rfl hv hd (kk p l e s m args below meth c0 H locs dC dI cA ad A ls C0 hP hS hl)
  · exact va_alen (D := (dC, dI)) C0.1 C0.2.1 C0.2.2.2.2.2.2.2.1 hP (c - b) 2 (cA := cA 22) (x := (ln c, .inl (M.1 c))) (by rw [ws_get ⟨o1, o2⟩, cell_int (Or.inr (Or.inl o3)), o3]) (ty := .byte) rfl hv hd (kk p l e s m args below meth c0 H locs dC dI cA ad A ls C0 hP hS hl)
  · exact va_alen (D := (dC, dI)) C0.1 C0.2.1 C0.2.2.2.2.2.2.2.1 hP (c - b) 3 (cA := cA 23) (x := (ln c, .inl (M.1 c))) (by rw [ws_get ⟨o1, o2⟩, cell_int (Or.inr (Or.inr o3)), o3]) (ty := .boolean) rfl hv hd (kk p l e s m args below meth c0 H locs dC dI cA ad A ls C0 hP hS hl)
/-! calls -/
theorem AA_le {ad : Nat → Nat} {sz sz' : Nat} (h : sz ≤ sz') : ∀ q, AA b n ad sz' q → AA b n ad sz q := fun q hq => by
  rcases hq with h1 | h1
  · exact Or.inl h1
  · exact Or.inr (Nat.le_trans h h1)
theorem PG_in {ad : Nat → Nat} {dC : Nat → ClassId} {dI : Nat → Nat → Nat} {cA : Nat → ClassId} {p : Program} {s U : State} {m : MethodId} {args : Array Value} {meth : Method} {c : Code} {A : Nat → Prop} {H : Heap} {locs : List Loc} (C : CX b n μ p s m args meth c dC dI cA ad A) (hP : va_P (dC, dI) classes (wsM b n cA ad M) H) (hS : va_S A s.heap H locs) (hU : U.heap = H) (hW : s.WarmedH U.vm) : PG b n dC dI cA ad H.size M U := by
  obtain ⟨hx, hb, hml, hr, hlk, hown, hts, hK, hD, hA, hE, hAe⟩ := C
  refine ⟨by rw [hU], by rw [hU]; exact hP, va_K.moved hW.alike hK, (hD M).weaken (fun _ _ _ _ => trivial), ?_⟩
  rw [hU]
  exact EnvF.warm hW ((hE.kept hS.2.1).narrow (fun q hq => by rw [hAe]; exact AA_le hS.1 q hq))
theorem callGo {d' : Nat} {p : Program} {l : Launch} {e : Env} {s : State} {m : MethodId} {args a : Array Value} {below : List Frame} {meth : Method} {c : Code} {H : Heap} {locs : List Loc} {dC : Nat → ClassId} {dI : Nat → Nat → Nat} {cA : Nat → ClassId} {ad : Nat → Nat} {A : Nat → Prop} {ls : Array Slot} {g0 : List Value} {Q' : Option Value → Mem → Prop}
    (C : CX b n μ p s m args meth c dC dI cA ad A) (hS : va_S A s.heap H locs) (hl : lv_has ls μ.2.2.1 (lv.map (rq ad)))
    (hrun : va_Run p l e (roomD d) s m args below meth c H locs 0 0 0 0 (F0 m pc ls g0) (st.map (rv ad)) (QG b n dC dI cA ad (AA b n ad H.size) Q' a) (AA b n ad H.size))
    (k : ∀ (r1 : Option Value) (M1 : Mem), Q' r1 M1 → Fr b n d μ (pc + 3) lv (r1.toList ++ st) M1 Q) : W p l e (roomD d) s m args below meth c H locs 0 0 (MQ below (QG b n dC dI cA ad A Q) args s 0 0 A) (F0 m pc ls g0) := by
  intro T hT X
  obtain ⟨v, st₀, t, T', L, h0, X', hL, e1, e2, ⟨⟨r1, M1, hv, hQ, hP1⟩, hz, hk1⟩, stp⟩ := hrun T hT X
  rw [h0] at hz hk1
  have hAe : A = AA b n ad s.heap.size := C.2.2.2.2.2.2.2.2.2.2.2
  have hf : ∀ q, AA b n ad H.size q → A q := fun q hq => by rw [hAe]; exact AA_le hS.1 q hq
  have hv' : v = r1.map (rv ad) := by cases hv; rfl
  subst hv'
  have hS' : va_S A s.heap T'.heap (locs ++ L) := ⟨Nat.le_trans hS.1 (by rw [e1]; exact hz), fun q h1 h2 => by rw [e1, hk1 q (Nat.lt_of_lt_of_le h1 hS.1) (fun z => h2 (hf q z))]; exact hS.2.1 q h1 h2, fun q hq => by
      rcases List.mem_append.mp hq with h | h
      · exact hS.2.2 q h
      · exact hf _ (hL q h)⟩
  obtain ⟨t2, a1, b1⟩ := k r1 M1 hQ p l e s m args below meth c T'.heap (locs ++ L) dC dI cA ad A ls C (by rw [e1]; exact hP1) hS' hl T' rfl X'
  refine ⟨t2, stp t2 ?_, b1⟩
  have e3 : (r1.toList ++ st).map (rv ad) = (r1.map (rv ad)).toList ++ st.map (rv ad) := by cases r1 <;> simp
  rw [← e3]
  exact a1
theorem roomD_le {d' mL : Nat} (h : d' < d) (h2 : mL ≤ 81) : (roomD d').frames + 1 ≤ (roomD d).frames ∧ 8 + (mL + 11) + (roomD d').locals ≤ (roomD d).locals := by
  refine ⟨h, ?_⟩
  show 8 + (mL + 11) + 100 * d' ≤ 100 * d
  omega
theorem Fr_callV {ν : MI} {d' idx rc ci : Nat} {As stk : List Value} {q : vw_C} {Q' : Option Value → Mem → Prop} (hd : decode μ.2.1 pc = .ok (.invokevirtual idx, 3)) (hl : Cond.methodLink μ.1.cls idx ν.1 ∈ TG) (hν : CalleeV ν As.length) (hc : classes[ci]? = some q) (h13 : ci < 13) (hq : q.1 = ν.1.cls) (ho : Ob b n rc ci) (hstk : stk = As.reverse ++ .ref rc :: st) (hdd : d' < d) (hw : (st.map fun v => v.category).sum ≤ 8) (hEv : Ev b n d' ν (.ref rc :: As) M Q') (k : ∀ (r1 : Option Value) (M1 : Mem), Q' r1 M1 → Fr b n d μ (pc + 3) lv (r1.toList ++ st) M1 Q) : Fr b n d μ pc lv stk M Q := by
  subst hstk
  intro p l e s m args below meth c H locs dC dI cA ad A ls C hP hS hlv
  obtain ⟨hx, hb, hml, hr, hlk, hown, hts, hK, hD, hA, hE, hAe⟩ := id C
  obtain ⟨o1, o2, o3⟩ := ho
  subst o3
  have hM := hEv l dC dI cA ad H.size
  have hgood : GoodIn TG (wsV μ.1.cls idx ν.1.cls ν.1 (wsE ν)) := by
    intro w hw'
    have hin : w ∈ TG := by
      simp only [wsV, wsE, List.cons_append, List.nil_append, List.mem_cons] at hw'
      rcases hw' with rfl | rfl | rfl | rfl | rfl | h
      · exact hl
      · exact hν.2.1
      · exact hν.2.2
      · exact hν.1.2.1
      · exact hν.1.1
      · exact h
    exact tg_good w hin
  have cw : CallW (roomD d) s args μ.1.cls ν.1.cls idx ν.1 ν.2.1 ν.2.2.1 ν.2.2.2 (wsE ν) (roomD d') 0 0 As.length := cwV As.length hts hgood rfl rfl rfl ⟨rfl, hν.1.2.2.1⟩ (roomD_le hdd hν.1.2.2.2)
  have hrv := va_recv hK hP hc (ci := kd rc) (q0 := rc - b) (fs := fvs ad M rc) (a := ad rc) (by rw [ws_get ⟨o1, o2⟩, cell_obj h13])
  rw [hq] at hrv
  refine callGo (a := (Value.ref (ad rc) :: As.map (rv ad)).toArray) (Q' := Q') (d' := d') C hS hlv ?_ k
  exact va_runV (As := As.map (rv ad)) (b := ad rc) (rest := st.map (rv ad)) ⟨hx, hb, hml, hown, hts⟩ hM cw ⟨PG_blind, hrv, fun U hU hW => ⟨rfl, PG_in C hP hS hU hW⟩⟩ rfl (by simp) hlv.1 (by simp [rv]) (lv_room (by rw [rv_cats]; exact hw)) hd ⟨Nat.le_refl _, Nat.le_refl _⟩
theorem Fr_callS {ν : MI} {d' idx : Nat} {As stk : List Value} {Q' : Option Value → Mem → Prop} (hd : decode μ.2.1 pc = .ok (.invokestatic idx, 3)) (hl : Cond.methodLink μ.1.cls idx ν.1 ∈ TG) (hν : CalleeS ν As.length) (hstk : stk = As.reverse ++ st) (hdd : d' < d) (hw : (st.map fun v => v.category).sum ≤ 8) (hEv : Ev b n d' ν As M Q') (k : ∀ (r1 : Option Value) (M1 : Mem), Q' r1 M1 → Fr b n d μ (pc + 3) lv (r1.toList ++ st) M1 Q) : Fr b n d μ pc lv stk M Q := by
  subst hstk
  intro p l e s m args below meth c H locs dC dI cA ad A ls C hP hS hlv
  obtain ⟨hx, hb, hml, hr, hlk, hown, hts, hK, hD, hA, hE, hAe⟩ := id C
  have hM := hEv l dC dI cA ad H.size
  have hgood : GoodIn TG (va_wsS μ.1.cls idx ν.1 (wsE ν)) := by
    intro w hw'
    have hin : w ∈ TG := by
      simp only [va_wsS, wsE, List.cons_append, List.nil_append, List.mem_cons] at hw'
      rcases hw' with rfl | rfl | rfl | rfl | h
      · exact hl
      · exact hν.2
      · exact hν.1.2.1
      · exact hν.1.1
      · exact h
    exact tg_good w hin
  have cw := va_cwS (R := roomD d) (bytes := ν.2.1) (maxL := ν.2.2.1) (ret := ν.2.2.2) (rm := roomD d') (mc := 0) (ms := 0) As.length hts hgood rfl rfl rfl hν.1.2.2.1 (roomD_le hdd hν.1.2.2.2)
  refine callGo (a := (As.map (rv ad)).toArray) (Q' := Q') (d' := d') C hS hlv ?_ k
  exact va_runS (As := As.map (rv ad)) (rest := st.map (rv ad)) ⟨hx, hb, hml, hown, hts⟩ hM cw ⟨PG_blind, fun U hU hW => ⟨rfl, PG_in C hP hS hU hW⟩⟩ rfl (by simp) hlv.1 (by simp) (lv_room (by rw [rv_cats]; exact hw)) hd ⟨Nat.le_refl _, Nat.le_refl _⟩
end FH
