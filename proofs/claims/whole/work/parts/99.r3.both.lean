/-! from the cells made to the two blocks of numbers -/
section LC
variable {b0 N0 : Nat} {xs : Nat → Int32} {cells slots pc : Nat} {lv : List (Nat × Value)} {st : List Value} {cs : List PE}
def ad2 (ad : Nat → Nat) : Nat → Nat := fun j => if 200 ≤ j ∧ j < 221 then ad (j - 89) else ad j
theorem ad2_lo {ad : Nat → Nat} {j : Nat} (h : j < 200) : ad2 ad j = ad j := if_neg (by omega)
theorem ad2_mid {ad : Nat → Nat} {j : Nat} (h : 200 ≤ j ∧ j < 221) : ad2 ad j = ad (j - 89) := if_pos h
theorem ad2_hi {ad : Nat → Nat} {j : Nat} (h : 221 ≤ j) : ad2 ad j = ad j := if_neg (by omega)
theorem LEN_X12_init (z : Nat) : (C_X12_init z).length = 21 := by
  unfold C_X12_init
  rfl
abbrev csB : List PE := C_X11_init 0 ++ C_X12_init 111
theorem csB_len : csB.length = 132 := by
  unfold csB
  rw [List.length_append, LEN_X11_init, LEN_X12_init]
theorem csB_0 : ∀ j, j < 111 → csB[0 + j]? = some ((C_X11_init 0).getD j e0) := fun j hj => by
  have h : j < (C_X11_init 0).length := by rw [LEN_X11_init]; exact hj
  rw [Nat.zero_add]
  unfold csB
  rw [List.getElem?_append_left h, List.getD_eq_getElem?_getD, List.getElem?_eq_getElem h]
  rfl
theorem csB_1 : ∀ j, j < 21 → csB[111 + j]? = some ((C_X12_init 111).getD j e0) := fun j hj => by
  have h : j < (C_X12_init 111).length := by rw [LEN_X12_init]; exact hj
  unfold csB
  rw [List.getElem?_append_right (by rw [LEN_X11_init]; omega), LEN_X11_init, Nat.add_sub_cancel_left, List.getD_eq_getElem?_getD, List.getElem?_eq_getElem h]
  rfl
theorem csB_apart {A : Nat → Prop} {cA : Nat → ClassId} {ad : Nat → Nat} (hD : va_D A (wsC cA ad csB)) {i j : Nat} (hi : i < 132) (hj : j < 132) (h : ad i = ad j) : i = j := by
  have hi' : i < csB.length := by rw [csB_len]; exact hi
  have hj' : j < csB.length := by rw [csB_len]; exact hj
  exact hD.1 i j _ _ (wsC_get (List.getElem?_eq_getElem hi')) (wsC_get (List.getElem?_eq_getElem hj')) h
theorem csB_in {A : Nat → Prop} {cA : Nat → ClassId} {ad : Nat → Nat} (hD : va_D A (wsC cA ad csB)) {i : Nat} (hi : i < 132) : A (ad i) := by
  have hi' : i < csB.length := by rw [csB_len]; exact hi
  exact hD.2 i _ (wsC_get (List.getElem?_eq_getElem hi'))
theorem two_D0 {A : Nat → Prop} {cA : Nat → ClassId} {ad : Nat → Nat} (hD : va_D A (wsC cA ad csB)) (M : Mem) : va_D A (wsM 0 111 cA (ad2 ad) M) := by
  refine ⟨fun i j p q hp hq h => ?_, fun k q hk => ?_⟩
  · obtain ⟨hi, rfl⟩ := ws_at hp
    obtain ⟨hj, rfl⟩ := ws_at hq
    have h : ad2 ad (0 + i) = ad2 ad (0 + j) := h
    rw [ad2_lo (by omega), ad2_lo (by omega)] at h
    have := csB_apart hD (by omega) (by omega) h
    omega
  · obtain ⟨hi, rfl⟩ := ws_at hk
    show A (ad2 ad (0 + k))
    rw [ad2_lo (by omega)]
    exact csB_in hD (by omega)
theorem two_D1 {A : Nat → Prop} {cA : Nat → ClassId} {ad : Nat → Nat} (hD : va_D A (wsC cA ad csB)) (M : Mem) : va_D A (wsM 200 21 cA (ad2 ad) M) := by
  refine ⟨fun i j p q hp hq h => ?_, fun k q hk => ?_⟩
  · obtain ⟨hi, rfl⟩ := ws_at hp
    obtain ⟨hj, rfl⟩ := ws_at hq
    have h : ad2 ad (200 + i) = ad2 ad (200 + j) := h
    rw [ad2_mid (by omega), ad2_mid (by omega)] at h
    have := csB_apart hD (by omega) (by omega) h
    omega
  · obtain ⟨hi, rfl⟩ := ws_at hk
    show A (ad2 ad (200 + k))
    rw [ad2_mid (by omega)]
    exact csB_in hD (by omega)
theorem Lc_Lw (k : Lw b0 N0 xs pc [(2, .ref 200), (1, .ref 0), (0, .ref 700)] [] C0 S0) (hc : cells ≤ 600000) (hs : slots ≤ 7302250) : Lc b0 N0 xs cells slots pc [(2, .ref 111), (1, .ref 0), (0, .ref 700)] [] csB := by
  intro p l e s m below meth c H locs dC dI cA ad0 ad ls C hag h3 hok hos hol hP hD hS hl
  obtain ⟨hx, hb, hml, hr, hlk, hown, hts, hK, hEc, hE, hX, hbl, h7⟩ := C
  refine W.widen (k := 600000) (n := 7302250) hc hs ?_
  refine k p l e s m below meth c H locs dC dI cA (ad2 ad) ls ⟨hx, hb, hml, hr, hlk, hown, hts, hK, two_D0 hD, two_D1 hD, fun i j hi h1 h2 h => ?_, EnvF.ad (fun i hi => (ad2_hi (by omega)).trans (hag i hi)) hE, hX, hbl, ?_⟩ ?_ ?_ hS ?_
  · rw [ad2_lo (by omega), ad2_mid ⟨h1, h2⟩] at h
    have := csB_apart hD (by omega) (by omega) h
    omega
  · rw [ad2_hi (by decide), hag 700 (by decide)]
    exact h7
  · exact bridge (b := 0) (n := 111) (z := 0) (L := C_X11_init 0) (cs := csB) (Or.inl (Nat.le_refl 0)) ch_0 (fun i j h g => by rw [ad2_lo (by omega)]; congr 1; omega) rin_0 memOf_is csB_0 hP
  · exact bridge (b := 200) (n := 21) (z := 111) (L := C_X12_init 111) (cs := csB) (Or.inr (by decide)) ch_200 (fun i j h g => by rw [ad2_mid (by omega)]; congr 1; omega) rin_200 memOf_is csB_1 hP
  · have e : ([(2, .ref 200), (1, .ref 0), (0, .ref 700)] : List (Nat × Value)).map (rq (ad2 ad)) = ([(2, .ref 111), (1, .ref 0), (0, .ref 700)] : List (Nat × Value)).map (rq ad) := by
      show [(2, Value.ref (ad2 ad 200)), (1, Value.ref (ad2 ad 0)), (0, Value.ref (ad2 ad 700))] = [(2, Value.ref (ad 111)), (1, Value.ref (ad 0)), (0, Value.ref (ad 700))]
      rw [ad2_mid (by decide), ad2_lo (by decide), ad2_hi (by decide)]
    rw [e]
    exact hl
end LC
