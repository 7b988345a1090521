/-! what a constructor left, as a block of numbers -/
def gI (e : PE) (k : Nat) : Int32 := match e with
  | .inl (_, _, .inl f) => f k
  | .inr (_, fs) => match fs[k]? with
    | some (.int v) => v
    | _ => 0
  | _ => 0
def gL (e : PE) (k : Nat) : Int64 := match e with
  | .inl (_, _, .inr (.inl f)) => f k
  | .inr (_, fs) => match fs[k]? with
    | some (.long v) => v
    | _ => 0
  | _ => 0
/-- one value: b what the block starts with, z where the cells do -/
def kcV (b z c k : Nat) : Value → Bool
  | .int _ => ft (kd c) k != 1 && ft (kd c) k != 2
  | .long _ => ft (kd c) k == 1
  | .ref i => ft (kd c) k == 2 && (i + b == z + rf c k)
  | _ => false
def kcE (b z c : Nat) : PE → Bool
  | .inl (t, n, .inl _) => t == kd c && n == ln c && (t == 20 || t == 22 || t == 23)
  | .inl (t, n, .inr (.inl _)) => t == kd c && n == ln c && t == 21
  | .inl (t, n, .inr (.inr (.inr (.inr f)))) => t == kd c && n == ln c && (t == 24 || t == 25) && (List.range n).all fun j => match f j with
    | some i => i + b == z + rf c j
    | none => false
  | .inr (ci, fs) => ci == kd c && decide (ci < 13) && fs.length == nf ci && (List.range fs.length).all fun k => match fs[k]? with
    | some v => kcV b z c k v
    | none => false
  | _ => false
theorem kcV_is {b z c k : Nat} {v : Value} {ad ad' : Nat → Nat} {M : Mem} {fs : List Value} (hr : ∀ j i, ft (kd c) k = 2 → i + b = z + j → j = rf c k → ad' j = ad i) (hv : fs[k]? = some v) (hI : M.1 c k = gI (.inr (kd c, fs)) k) (hL : M.2 c k = gL (.inr (kd c, fs)) k) (h : kcV b z c k v = true) : rv ad v = fv ad' M c k := by
  unfold fv
  cases v with
  | int x =>
    simp only [kcV, Bool.and_eq_true, bne_iff_ne, ne_eq] at h
    rw [if_neg h.1, if_neg h.2, hI]
    simp [gI, hv, rv]
  | long x =>
    simp only [kcV, beq_iff_eq] at h
    rw [if_pos h, hL]
    simp [gL, hv, rv]
  | ref i =>
    simp only [kcV, Bool.and_eq_true, beq_iff_eq] at h
    rw [if_neg (by rw [h.1]; decide), if_pos h.1, hr _ i h.1 h.2 rfl]
    rfl
  | _ => cases h
theorem bridge {b n z : Nat} {L cs : List PE} {ad ad' : Nat → Nat} {M : Mem} {dC : Nat → ClassId} {dI : Nat → Nat → Nat} {cA : Nat → ClassId} {H : Heap} (hb : b ≤ z ∨ z ≤ b) (hchk : ∀ j, j < n → kcE b z (b + j) (L.getD j e0) = true) (hrf : ∀ i j, i + b = z + j → b ≤ j ∧ j < b + n → ad' j = ad i) (hin : ∀ c k, b ≤ c ∧ c < b + n → (ft (kd c) k = 2 ∧ kd c < 13 ∨ (kd c = 24 ∨ kd c = 25) ∧ k < ln c) → b ≤ rf c k ∧ rf c k < b + n)
    (hM : ∀ j, j < n → ∀ k, M.1 (b + j) k = gI (L.getD j e0) k ∧ M.2 (b + j) k = gL (L.getD j e0) k) (hcs : ∀ j, j < n → cs[z + j]? = some (L.getD j e0)) (hP : va_P (dC, dI) classes (wsC cA ad cs) H) : va_P (dC, dI) classes (wsM b n cA ad' M) H := by
  intro k q hk
  obtain ⟨hj, rfl⟩ := ws_at hk
  have h1 := hP (z + k) _ (wsC_get (hcs k hj))
  have h2 := hchk k hj
  have h3 := hM k hj
  have h4 : ad' (b + k) = ad (z + k) := hrf (z + k) (b + k) (by omega) (by omega)
  have h5 := hin (b + k)
  generalize L.getD k e0 = e at h1 h2 h3
  have hc : b ≤ b + k ∧ b + k < b + n := by omega
  generalize b + k = c at *
  rw [h4]
  rcases e with ⟨t, m, f | f | f | f | f⟩ | ⟨ci, fs⟩
  · simp only [kcE, Bool.and_eq_true, Bool.or_eq_true, beq_iff_eq] at h2
    obtain ⟨⟨rfl, rfl⟩, g3⟩ := h2
    have e1 : cellE cA ad' M c = .inl (cA (kd c), ln c, .inl (M.1 c)) := cell_int (by omega)
    rw [e1, show M.1 c = f from funext fun k => (h3 k).1]
    exact h1
  · simp only [kcE, Bool.and_eq_true, beq_iff_eq] at h2
    obtain ⟨⟨rfl, rfl⟩, g3⟩ := h2
    have e1 : cellE cA ad' M c = .inl (cA 21, ln c, .inr (.inl (M.2 c))) := by
      unfold cellE
      rw [if_neg (by omega), if_pos g3]
    rw [e1, show M.2 c = f from funext fun k => (h3 k).2]
    rw [g3] at h1
    exact h1
  · cases h2
  · cases h2
  · simp only [kcE, Bool.and_eq_true, Bool.or_eq_true, beq_iff_eq, List.all_eq_true, List.mem_range] at h2
    obtain ⟨⟨⟨rfl, rfl⟩, g3⟩, g4⟩ := h2
    have e1 : cellE cA ad' M c = .inl (cA (kd c), ln c, .inr (.inr (.inr (.inr (fun j => if j < ln c then some (ad' (rf c j)) else none))))) := by
      unfold cellE
      rw [if_neg (by omega), if_neg (by omega), if_pos g3]
    rw [e1]
    have h6 : H[ad (z + k)]? = some (vp_cell (cA (kd c)) (ln c, .inr (.inr (.inr (.inr (fun j => (f j).map ad)))))) := h1
    show H[ad (z + k)]? = some (vp_cell (cA (kd c)) (ln c, .inr (.inr (.inr (.inr (fun j => if j < ln c then some (ad' (rf c j)) else none))))))
    rw [h6, vp_cell_q, vp_cell_q]
    congr 1
    unfold arrV
    congr 2
    funext j
    show va_rf ((f j.val).map ad) = va_rf (if j.val < ln c then some (ad' (rf c j.val)) else none)
    rw [if_pos j.isLt]
    have g5 := g4 j.val j.isLt
    cases hf : f j.val with
    | none => rw [hf] at g5; cases g5
    | some i =>
      rw [hf] at g5
      simp only [beq_iff_eq] at g5
      rw [Option.map_some, hrf i _ g5 (h5 _ hc (Or.inr ⟨g3, j.isLt⟩))]
  · simp only [kcE, Bool.and_eq_true, beq_iff_eq, decide_eq_true_eq, List.all_eq_true, List.mem_range] at h2
    obtain ⟨⟨⟨rfl, g2⟩, g3⟩, g4⟩ := h2
    have e1 : cellE cA ad' M c = .inr (kd c, fvs ad' M c) := cell_obj g2
    rw [e1]
    have e2 : fs.map (rv ad) = fvs ad' M c := by
      apply List.ext_getElem?
      intro j
      unfold fvs
      rw [List.getElem?_map, List.getElem?_map]
      by_cases hj2 : j < fs.length
      · have g5 := g4 j hj2
        rw [List.getElem?_range (by omega)]
        have hv : fs[j]? = some fs[j] := List.getElem?_eq_getElem hj2
        rw [hv] at g5 ⊢
        rw [Option.map_some, Option.map_some]
        congr 1
        exact kcV_is (b := b) (z := z) (fun w i h7 h8 h9 => hrf i w h8 (by subst h9; exact h5 _ hc (Or.inl ⟨h7, g2⟩))) hv (h3 j).1 (h3 j).2 g5
      · rw [List.getElem?_eq_none (by omega), List.getElem?_eq_none (by simp; omega)]
        rfl
    rw [← e2]
    exact h1
