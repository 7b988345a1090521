section LW
variable {b0 N0 : Nat} {xs : Nat → Int32} {pc : Nat} {lv : List (Nat × Value)} {st : List Value} {MC MS : Mem}
theorem LX.out {p : Program} {s : State} {m : MethodId} {meth : Method} {c : Code} {dC : Nat → ClassId} {dI : Nat → Nat → Nat} {cA : Nat → ClassId} {ad : Nat → Nat} (C : LX b0 N0 xs p s m meth c dC dI cA ad) : va_X b0 N0 xs s s.heap ∧ b0 < s.heap.size ∧ ad 700 = b0 := C.2.2.2.2.2.2.2.2.2.2.2.2
/-- an int of the script -/
theorem Lw_sld {i : Int32} (hd : decode code pc = .ok (.iaload, 1)) (hin : vp_in i N0) (k : Lw b0 N0 xs (pc + 1) lv (.int (xs i.toNatClampNeg) :: st) MC MS) : Lw b0 N0 xs pc lv (.int i :: .ref 700 :: st) MC MS := by
  intro p l e s m below meth c H locs dC dI cA ad ls C hP hQ hS hl
  obtain ⟨hX, hbl, h7⟩ := C.out
  show W p l e room_1 s m #[Value.ref b0] below meth c H locs 600000 7302250 (lw_Z below #[Value.ref b0] s) (F0 m pc ls (.int i :: .ref (ad 700) :: st.map (rv ad)))
  rw [h7]
  exact va_sld C.1 C.2.1 hX hbl (Nat.not_le.mpr hbl) hS hin hd (k p l e s m below meth c H locs dC dI cA ad ls C hP hQ hS hl)
theorem Lw_slen (hd : decode code pc = .ok (.arraylength, 1)) (k : Lw b0 N0 xs (pc + 1) lv (.int (Int32.ofNat N0) :: st) MC MS) : Lw b0 N0 xs pc lv (.ref 700 :: st) MC MS := by
  intro p l e s m below meth c H locs dC dI cA ad ls C hP hQ hS hl
  obtain ⟨hX, hbl, h7⟩ := C.out
  show W p l e room_1 s m #[Value.ref b0] below meth c H locs 600000 7302250 (lw_Z below #[Value.ref b0] s) (F0 m pc ls (.ref (ad 700) :: st.map (rv ad)))
  rw [h7]
  exact va_slen C.1 C.2.1 hX hbl (Nat.not_le.mpr hbl) hS hd (k p l e s m below meth c H locs dC dI cA ad ls C hP hQ hS hl)
theorem Lw_end (hd : decode code pc = .ok (.ireturn, 1)) : Lw b0 N0 xs pc lv [.int 1] MC MS := by
  intro p l e s m below meth c H locs dC dI cA ad ls C hP hQ hS hl
  exact va_forget hS.2.2 (lw_ret C.1 C.2.1 C.2.2.2.1 C.2.2.2.2.1 hd)
/-- both answer alike: what each call gives -/
theorem Lw_mem {MC' MS' : Mem} (h1 : MC = MC') (h2 : MS = MS') (k : Lw b0 N0 xs pc lv st MC' MS') : Lw b0 N0 xs pc lv st MC MS := h1 ▸ h2 ▸ k
end LW
