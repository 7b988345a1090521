/-! the row of that instruction in a constructor -/
def G4 (n : Nat) : List PE := [.inl (25, 4, .inr (.inr (.inr (.inr (fun i => if i < 4 then some (n + 1 + i) else none))))), cJ 60, cJ 60, cJ 60, cJ 60]
theorem G4_get {n k : Nat} (hk : k < 4) : (G4 n)[k + 1]? = some (cJ 60) := by
  rcases k with _ | _ | _ | _ | k
  · rfl
  · rfl
  · rfl
  · rfl
  · omega
theorem G4_ok {n : Nat} : ∀ e ∈ G4 n, okE (n + 5) e := by
  intro e he
  simp only [G4, List.mem_cons, List.not_mem_nil, or_false] at he
  rcases he with rfl | rfl | rfl | rfl | rfl
  · intro j i hj
    change (if j < 4 then some (n + 1 + j) else none) = some i at hj
    split at hj
    · cases hj; omega
    · cases hj
  all_goals trivial
section FCM
variable {n0 d mc ms cells slots : Nat} {μ : MI} {pc : Nat} {lv : List (Nat × Value)} {st : List Value} {cs ys : List PE}
theorem Fc_multi {idx : Nat} (hd : decode μ.2.1 pc = .ok (.multianewarray idx 2, 4)) (hcl : Cond.classLink μ.1.cls idx "[[J" ∈ TG) (hc1 : cells + 5 ≤ mc) (hs1 : slots + 244 ≤ ms) (h300 : cs.length + 5 < 300) (k : Fc n0 d mc ms (cells + 5) (slots + 244) μ (pc + 4) lv (.ref cs.length :: st) (cs ++ G4 cs.length) ys) : Fc n0 d mc ms cells slots μ pc lv (.int 60 :: .int 4 :: st) cs ys := by
  intro p l e s m args below meth c H locs dC dI cA ad0 ad A ls C hag hn0 h3 hok hos hol hP hD hS hl
  obtain ⟨hx, hb', hml, hr, hlk, hown, hts, hK, hA, hEc, hE, hAe, hinn⟩ := id C
  have hos' : ∀ v ∈ st, okV cs.length v := fun v hv => hos v (List.mem_cons_of_mem _ (List.mem_cons_of_mem _ hv))
  refine W_multi hx hb' hown (hts _ hcl) (hEc.2 (.arrayOver (.array .long)) (by simp [overW])) (hts _ arr_J) hd hc1 hs1 (fun qA qJ H4 L f1 f2 f3 f4 f5 f6 f7 => ?_)
  have e25 : qA = cA 25 := Option.some.inj (f1.symm.trans (hK.2 5 (cA 25, .array .long) rfl).2)
  have e21 : qJ = cA 21 := Option.some.inj (f2.symm.trans (hK.2 1 (cA 21, .long) rfl).2)
  subst e25; subst e21
  let ad' : Nat → Nat := fun i => if cs.length ≤ i ∧ i < cs.length + 5 then H.size + (i - cs.length) else ad i
  have ha : ∀ i, i < cs.length → ad' i = ad i := fun i hi => if_neg (by omega)
  have hn : ∀ j, j < 5 → ad' (cs.length + j) = H.size + j := fun j hj => by
    show (if _ ∧ _ then _ else _) = _
    rw [if_pos (by omega)]; omega
  have hlen : (cs ++ G4 cs.length).length = cs.length + 5 := by rw [List.length_append]; rfl
  have hokC : okC (cs ++ G4 cs.length) := fun e he => by
    rw [hlen]
    rcases List.mem_append.mp he with h | h
    · exact (hok e h).mono (by omega)
    · exact G4_ok e h
  have hlt : ∀ i, i < cs.length → ad i < H.size := fun i hi => (hP i _ (wsC_get (List.getElem?_eq_getElem hi))).lt
  have hP' : va_P (dC, dI) classes (wsC cA ad' (cs ++ G4 cs.length)) H4 := by
    intro k q hk
    obtain ⟨x, hx2, rfl⟩ := wsC_at hk
    by_cases h1 : k < cs.length
    · rw [List.getElem?_append_left h1] at hx2
      rw [ha k h1, reE_agree ha (hok x (List.mem_of_getElem? hx2))]
      exact (hP k _ (wsC_get hx2)).kept (f6 _ (hlt k h1))
    · rw [List.getElem?_append_right (by omega)] at hx2
      obtain ⟨j, rfl⟩ : ∃ j, k = cs.length + j := ⟨k - cs.length, by omega⟩
      rw [Nat.add_sub_cancel_left] at hx2
      have hj : j < 5 := (List.getElem?_eq_some_iff.mp hx2).1
      rw [hn j hj]
      rcases j with _ | j
      · cases hx2
        show H4[H.size]? = some (vp_cell (cA 25) (4, .inr (.inr (.inr (.inr (fun i => (if i < 4 then some (cs.length + 1 + i) else none).map ad'))))))
        rw [vp_cell_q, f4]
        congr 1
        unfold arrV
        congr 2
        funext i
        have hi := i.isLt
        show Value.ref _ = va_rf (Option.map ad' (if i.val < 4 then some (cs.length + 1 + i.val) else none))
        rw [if_pos hi, show cs.length + 1 + i.val = cs.length + (1 + i.val) by omega, Option.map_some, hn _ (by omega)]
        exact congrArg Value.ref (Nat.add_assoc _ _ _)
      · rw [G4_get (by omega)] at hx2
        cases hx2
        show H4[H.size + (j + 1)]? = some (vp_cell (cA 21) (60, .inr (.inl (fun _ => 0))))
        rw [vp_cell_l, ← f5 j (by omega)]
        congr 1; omega
  have hinj : ∀ i j, i < cs.length + 5 → j < cs.length + 5 → ad' i = ad' j → i = j := fun i j hi hj hij => by
    by_cases h1 : i < cs.length
    · have b1 := hlt i h1
      by_cases h2 : j < cs.length
      · rw [ha i h1, ha j h2] at hij
        exact hD.1 i j _ _ (wsC_get (List.getElem?_eq_getElem h1)) (wsC_get (List.getElem?_eq_getElem h2)) hij
      · obtain ⟨j', rfl⟩ : ∃ j', j = cs.length + j' := ⟨j - cs.length, by omega⟩
        rw [ha i h1, hn j' (by omega)] at hij
        omega
    · obtain ⟨i', rfl⟩ : ∃ i', i = cs.length + i' := ⟨i - cs.length, by omega⟩
      rw [hn i' (by omega)] at hij
      by_cases h2 : j < cs.length
      · have b2 := hlt j h2
        rw [ha j h2] at hij
        omega
      · obtain ⟨j', rfl⟩ : ∃ j', j = cs.length + j' := ⟨j - cs.length, by omega⟩
        rw [hn j' (by omega)] at hij
        omega
  have hD' : va_D A (wsC cA ad' (cs ++ G4 cs.length)) := by
    refine ⟨fun i j p q hi hj hpq => ?_, fun k q hk => ?_⟩
    · obtain ⟨x, hx1, rfl⟩ := wsC_at hi
      obtain ⟨y, hy1, rfl⟩ := wsC_at hj
      have b1 := (List.getElem?_eq_some_iff.mp hx1).1
      have b2 := (List.getElem?_eq_some_iff.mp hy1).1
      rw [hlen] at b1 b2
      exact hinj i j b1 b2 hpq
    · obtain ⟨x, hx1, rfl⟩ := wsC_at hk
      have b1 := (List.getElem?_eq_some_iff.mp hx1).1
      rw [hlen] at b1
      by_cases h1 : k < cs.length
      · show A (ad' k)
        rw [ha k h1]
        exact hD.2 k _ (wsC_get (List.getElem?_eq_getElem h1))
      · obtain ⟨j, rfl⟩ : ∃ j, k = cs.length + j := ⟨k - cs.length, by omega⟩
        show A (ad' (cs.length + j))
        rw [hn j (by omega)]
        exact hA _ (Nat.le_trans hS.1 (Nat.le_add_right _ _))
  have hS' : va_S A s.heap H4 (locs ++ L) := ⟨Nat.le_trans hS.1 (by omega), fun q h1 h2 => (f6 q (Nat.lt_of_lt_of_le h1 hS.1)).trans (hS.2.1 q h1 h2), fun x hx => by
    rcases List.mem_append.mp hx with h | h
    · exact hS.2.2 x h
    · rw [f7 x h]; exact hA _ hS.1⟩
  have e3 : (.ref H.size :: st.map (rv ad)) = ((.ref cs.length :: st).map (rv ad')) := by
    rw [List.map_cons, st_agree ha hos']
    show _ = Value.ref (ad' (cs.length + 0)) :: _
    rw [hn 0 (by omega)]; rfl
  have e4 : List.map (rv ad) (.int 60 :: .int 4 :: st) = .int 60 :: .int 4 :: st.map (rv ad) := rfl
  rw [e3]
  refine k p l e s m args below meth c H4 _ dC dI cA ad0 ad' A ls C (fun i hi => ?_) (by rw [hlen]; omega) (by rw [hlen]; omega) hokC (fun v hv => ?_) (fun w hw => (hol w hw).mono (by rw [hlen]; omega)) hP' hD' hS' ?_
  · show (if _ ∧ _ then _ else _) = _
    rw [if_neg (by omega)]
    exact hag i hi
  · rw [hlen]
    rcases List.mem_cons.mp hv with rfl | h
    · show cs.length < cs.length + 5; omega
    · exact (hos' v h).mono (by omega)
  · rw [lv_agree ha hol]
    exact hl
end FCM
