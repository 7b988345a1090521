section LW
variable {b0 N0 : Nat} {xs : Nat → Int32} {pc : Nat} {lv : List (Nat × Value)} {st : List Value} {MC MS : Mem}
theorem Lw_callC {ν : MI} {d' idx : Nat} {As stk : List Value} {q : vw_C} {Q' : Option Value → Mem → Prop} (hd : decode code pc = .ok (.invokevirtual idx, 3)) (hl : Cond.methodLink R_law idx ν.1 ∈ TG) (hν : CalleeV ν As.length) (hc : classes[11]? = some q) (hq : q.1 = ν.1.cls) (hstk : stk = As.reverse ++ .ref 0 :: st) (hdd : d' ≤ 800) (hw : (st.map fun v => v.category).sum ≤ 8) (hEv : Ev 0 111 d' ν (.ref 0 :: As) MC Q') (k : ∀ (r1 : Option Value) (M1 : Mem), Q' r1 M1 → Lw b0 N0 xs (pc + 3) lv (r1.toList ++ st) M1 MS) : Lw b0 N0 xs pc lv stk MC MS := by
  subst hstk
  intro p l e s m below meth c H locs dC dI cA ad ls C hP hQ hS hlv
  obtain ⟨hx, hb, hml, hr, hlk, hown, hts, hK, hDC, hDS, hne, hE, hX, hbl, h700⟩ := id C
  have hM := hEv l dC dI cA ad H.size
  have hgood : GoodIn TG (wsV R_law idx ν.1.cls ν.1 (wsE ν)) := by
    intro w hw'
    have hin : w ∈ TG := by
      simp only [wsV, wsE, List.cons_append, List.nil_append, List.mem_cons] at hw'
      rcases hw' with rfl | rfl | rfl | rfl | rfl | h
      · exact hl
      · exact hν.2.1
      · exact hν.2.2
      · exact hν.1.2.1
      · exact hν.1.1
      · exact h
    exact tg_good w hin
  have hR : (roomD d').frames + 1 ≤ room_1.frames ∧ 8 + (ν.2.2.1 + 11) + (roomD d').locals ≤ room_1.locals := by
    have := hν.1.2.2.2
    constructor
    · show d' + 1 ≤ 2048; omega
    · show 8 + (ν.2.2.1 + 11) + 100 * d' ≤ 84000; omega
  have cw : CallW room_1 s #[Value.ref b0] R_law ν.1.cls idx ν.1 ν.2.1 ν.2.2.1 ν.2.2.2 (wsE ν) (roomD d') 0 0 As.length := cwV As.length hts hgood rfl rfl rfl ⟨rfl, hν.1.2.2.1⟩ hR
  have hrv := va_recv hK hP hc (ci := kd 0) (q0 := 0 - 0) (fs := fvs ad MC 0) (a := ad 0) (by rw [ws_get ⟨Nat.le_refl _, by decide⟩, cell_obj (by decide)])
  rw [hq] at hrv
  have hsub : ∀ q, AA 0 111 ad H.size q → s.heap.size ≤ q := fun q hq => by
    rcases hq with ⟨j, hj, rfl⟩ | h
    · exact (hDC MC).2 (0 + j - 0) _ (ws_get ⟨by omega, by omega⟩)
    · exact Nat.le_trans hS.1 h
  have hrun : va_Run p l e room_1 s m #[Value.ref b0] below meth c H locs 600000 7302250 0 0 (F0 m pc ls ((As.reverse ++ .ref 0 :: st).map (rv ad))) (st.map (rv ad)) (QG 0 111 dC dI cA ad (AA 0 111 ad H.size) Q' (Value.ref (ad 0) :: As.map (rv ad)).toArray) (AA 0 111 ad H.size) :=
    va_runV (As := As.map (rv ad)) (b := ad 0) (rest := st.map (rv ad)) ⟨hx, hb, hml, hown, hts⟩ hM cw ⟨PG_blind, hrv, fun U hU hW => ⟨rfl, by rw [hU], by rw [hU]; exact hP, va_K.moved hW.alike hK, (hDC MC).weaken (fun _ _ _ _ => trivial), by rw [hU]; exact EnvF.warm hW ((hE.kept hS.2.1).narrow hsub)⟩⟩ rfl (by simp) hlv.1 (by simp [rv]) (lv_room (by rw [rv_cats]; exact hw)) hd ⟨Nat.le_refl _, Nat.le_refl _⟩
  intro T hT X
  obtain ⟨v, st₀, t, T', L, h0, X', hL, e1, e2, ⟨⟨r1, M1, hv, hQ1, hP1⟩, hz, hk1⟩, stp⟩ := hrun T hT X
  rw [h0] at hz hk1
  have hv' : v = r1.map (rv ad) := by cases hv; rfl
  subst hv'
  have hS' : va_S (fun q => s.heap.size ≤ q) s.heap T'.heap (locs ++ L) := ⟨Nat.le_trans hS.1 (by rw [e1]; exact hz), fun q h1 h2 => by rw [e1, hk1 q (Nat.lt_of_lt_of_le h1 hS.1) (fun z => h2 (hsub q z))]; exact hS.2.1 q h1 h2, fun q hq => by
      rcases List.mem_append.mp hq with h | h
      · exact hS.2.2 q h
      · exact hsub _ (hL q h)⟩
  have hO : va_P (dC, dI) classes (wsM 200 21 cA ad MS) T'.heap := by
    rw [e1]
    refine hQ.kept (fun k y hk => ?_)
    have hlt := (hQ k y hk).lt
    obtain ⟨hj, rfl⟩ := ws_at hk
    refine hk1 _ hlt (fun hA => ?_)
    rcases hA with ⟨i, hi, e⟩ | h
    · exact hne (0 + i) _ (by omega) (by omega) (by omega) e.symm
    · exact absurd hlt (Nat.not_lt.mpr h)
  obtain ⟨t2, a1, b1⟩ := k r1 M1 hQ1 p l e s m below meth c T'.heap (locs ++ L) dC dI cA ad ls C (by rw [e1]; exact hP1) hO hS' hlv T' rfl X'
  refine ⟨t2, stp t2 ?_, b1⟩
  have e3 : (r1.toList ++ st).map (rv ad) = (r1.map (rv ad)).toList ++ st.map (rv ad) := by cases r1 <;> simp
  rw [← e3]
  exact a1
theorem Lw_callM {ν : MI} {d' idx : Nat} {As stk : List Value} {q : vw_C} {Q' : Option Value → Mem → Prop} (hd : decode code pc = .ok (.invokevirtual idx, 3)) (hl : Cond.methodLink R_law idx ν.1 ∈ TG) (hν : CalleeV ν As.length) (hc : classes[12]? = some q) (hq : q.1 = ν.1.cls) (hstk : stk = As.reverse ++ .ref 200 :: st) (hdd : d' ≤ 800) (hw : (st.map fun v => v.category).sum ≤ 8) (hEv : Ev 200 21 d' ν (.ref 200 :: As) MS Q') (k : ∀ (r1 : Option Value) (M1 : Mem), Q' r1 M1 → Lw b0 N0 xs (pc + 3) lv (r1.toList ++ st) MC M1) : Lw b0 N0 xs pc lv stk MC MS := by
  subst hstk
  intro p l e s m below meth c H locs dC dI cA ad ls C hP hQ hS hlv
  obtain ⟨hx, hb, hml, hr, hlk, hown, hts, hK, hDC, hDS, hne, hE, hX, hbl, h700⟩ := id C
  have hM := hEv l dC dI cA ad H.size
  have hgood : GoodIn TG (wsV R_law idx ν.1.cls ν.1 (wsE ν)) := by
    intro w hw'
    have hin : w ∈ TG := by
      simp only [wsV, wsE, List.cons_append, List.nil_append, List.mem_cons] at hw'
      rcases hw' with rfl | rfl | rfl | rfl | rfl | h
      · exact hl
      · exact hν.2.1
      · exact hν.2.2
      · exact hν.1.2.1
      · exact hν.1.1
      · exact h
    exact tg_good w hin
  have hR : (roomD d').frames + 1 ≤ room_1.frames ∧ 8 + (ν.2.2.1 + 11) + (roomD d').locals ≤ room_1.locals := by
    have := hν.1.2.2.2
    constructor
    · show d' + 1 ≤ 2048; omega
    · show 8 + (ν.2.2.1 + 11) + 100 * d' ≤ 84000; omega
  have cw : CallW room_1 s #[Value.ref b0] R_law ν.1.cls idx ν.1 ν.2.1 ν.2.2.1 ν.2.2.2 (wsE ν) (roomD d') 0 0 As.length := cwV As.length hts hgood rfl rfl rfl ⟨rfl, hν.1.2.2.1⟩ hR
  have hrv := va_recv hK hQ hc (ci := kd 200) (q0 := 200 - 200) (fs := fvs ad MS 200) (a := ad 200) (by rw [ws_get ⟨Nat.le_refl _, by decide⟩, cell_obj (by decide)])
  rw [hq] at hrv
  have hsub : ∀ q, AA 200 21 ad H.size q → s.heap.size ≤ q := fun q hq => by
    rcases hq with ⟨j, hj, rfl⟩ | h
    · exact (hDS MS).2 (200 + j - 200) _ (ws_get ⟨by omega, by omega⟩)
    · exact Nat.le_trans hS.1 h
  have hrun : va_Run p l e room_1 s m #[Value.ref b0] below meth c H locs 600000 7302250 0 0 (F0 m pc ls ((As.reverse ++ .ref 200 :: st).map (rv ad))) (st.map (rv ad)) (QG 200 21 dC dI cA ad (AA 200 21 ad H.size) Q' (Value.ref (ad 200) :: As.map (rv ad)).toArray) (AA 200 21 ad H.size) :=
    va_runV (As := As.map (rv ad)) (b := ad 200) (rest := st.map (rv ad)) ⟨hx, hb, hml, hown, hts⟩ hM cw ⟨PG_blind, hrv, fun U hU hW => ⟨rfl, by rw [hU], by rw [hU]; exact hQ, va_K.moved hW.alike hK, (hDS MS).weaken (fun _ _ _ _ => trivial), by rw [hU]; exact EnvF.warm hW ((hE.kept hS.2.1).narrow hsub)⟩⟩ rfl (by simp) hlv.1 (by simp [rv]) (lv_room (by rw [rv_cats]; exact hw)) hd ⟨Nat.le_refl _, Nat.le_refl _⟩
  intro T hT X
  obtain ⟨v, st₀, t, T', L, h0, X', hL, e1, e2, ⟨⟨r1, M1, hv, hQ1, hP1⟩, hz, hk1⟩, stp⟩ := hrun T hT X
  rw [h0] at hz hk1
  have hv' : v = r1.map (rv ad) := by cases hv; rfl
  subst hv'
  have hS' : va_S (fun q => s.heap.size ≤ q) s.heap T'.heap (locs ++ L) := ⟨Nat.le_trans hS.1 (by rw [e1]; exact hz), fun q h1 h2 => by rw [e1, hk1 q (Nat.lt_of_lt_of_le h1 hS.1) (fun z => h2 (hsub q z))]; exact hS.2.1 q h1 h2, fun q hq => by
      rcases List.mem_append.mp hq with h | h
      · exact hS.2.2 q h
      · exact hsub _ (hL q h)⟩
  have hO : va_P (dC, dI) classes (wsM 0 111 cA ad MC) T'.heap := by
    rw [e1]
    refine hP.kept (fun k y hk => ?_)
    have hlt := (hP k y hk).lt
    obtain ⟨hj, rfl⟩ := ws_at hk
    refine hk1 _ hlt (fun hA => ?_)
    rcases hA with ⟨i, hi, e⟩ | h
    · exact hne _ (200 + i) (by omega) (by omega) (by omega) e
    · exact absurd hlt (Nat.not_lt.mpr h)
  obtain ⟨t2, a1, b1⟩ := k r1 M1 hQ1 p l e s m below meth c T'.heap (locs ++ L) dC dI cA ad ls C hO (by rw [e1]; exact hP1) hS' hlv T' rfl X'
  refine ⟨t2, stp t2 ?_, b1⟩
  have e3 : (r1.toList ++ st).map (rv ad) = (r1.map (rv ad)).toList ++ st.map (rv ad) := by cases r1 <;> simp
  rw [← e3]
  exact a1
end LW
