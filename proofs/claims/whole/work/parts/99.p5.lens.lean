theorem Fc_pc {n0 d mc ms cells slots : Nat} {μ : MI} {pc : Nat} {lv : List (Nat × Value)} {st : List Value} {cs ys : List PE} (pc2 : Nat) (h : pc = pc2) (k : Fc n0 d mc ms cells slots μ pc2 lv st cs ys) : Fc n0 d mc ms cells slots μ pc lv st cs ys := h ▸ k
theorem gl {a b : List PE} {j : Nat} {e : PE} (h : a[j]? = some e) : (a ++ b)[j]? = some e := by rw [List.getElem?_append_left (List.getElem?_eq_some_iff.mp h).1]; exact h
abbrev cQ (f : Nat → Option Nat) : PE := .inl (24, 3, .inr (.inr (.inr (.inr f))))
theorem LEN_X3_init (z : Nat) : (C_X3_init z).length = 6 := by
  unfold C_X3_init
  simp only [List.length_cons, List.length_append, List.length_nil]
theorem LEN_X10_init (z : Nat) : (C_X10_init z).length = 3 := by
  unfold C_X10_init
  simp only [List.length_cons, List.length_append, List.length_nil]
theorem LEN_X1_init (z : Nat) : (C_X1_init z).length = 4 := by
  unfold C_X1_init
  simp only [List.length_cons, List.length_append, List.length_nil]
theorem LEN_X8_init (z : Nat) (t0 : Nat) : (C_X8_init z t0).length = 1 := by
  unfold C_X8_init
  simp only [List.length_cons, List.length_append, List.length_nil]
theorem LEN_X6_init (z : Nat) (t0 : Nat) : (C_X6_init z t0).length = 4 := by
  unfold C_X6_init
  simp only [List.length_cons, List.length_append, List.length_nil]
theorem LEN_X4_init (z : Nat) (t0 : Nat) : (C_X4_init z t0).length = 3 := by
  unfold C_X4_init
  simp only [List.length_cons, List.length_append, List.length_nil]
theorem LEN_X0_init (z : Nat) (t0 : Nat) : (C_X0_init z t0).length = 3 := by
  unfold C_X0_init
  simp only [List.length_cons, List.length_append, List.length_nil]
theorem LEN_X7_init (z : Nat) (t0 : Nat) : (C_X7_init z t0).length = 7 := by
  unfold C_X7_init
  simp only [List.length_cons, List.length_append, List.length_nil]
theorem LEN_X2_init (z : Nat) (t0 : Nat) : (C_X2_init z t0).length = 2 := by
  unfold C_X2_init
  simp only [List.length_cons, List.length_append, List.length_nil]
theorem LEN_X5_init (z : Nat) : (C_X5_init z).length = 13 := by
  unfold C_X5_init
  simp only [List.length_cons, List.length_append, List.length_nil, LEN_X3_init]
theorem LEN_X9_init (z : Nat) : (C_X9_init z).length = 8 := rfl
def C_X11_init (z : Nat) : List PE := .inr (11, [.int 0, .long 0, .long 1, .int 0, .int 0, .ref (z + 1), .ref (z + 2), .ref (z + 10), .ref (z + 23), .ref (z + 36), .ref (z + 76), .ref (z + 82), .ref (z + 83), .ref (z + 87), .ref (z + 90), .ref (z + 93), .ref (z + 96), .ref (z + 103), .ref (z + 107), .ref (z + 109)]) :: ([cB 900] ++ (C_X9_init (z + 2)) ++ (C_X5_init (z + 10)) ++ (C_X5_init (z + 23)) ++ [cQ (va_up ((va_up ((va_up (fun _ => none) (Int32.toNatClampNeg 0) (some (z + 37)))) (Int32.toNatClampNeg 1) (some (z + 50)))) (Int32.toNatClampNeg 2) (some (z + 63)))] ++ (C_X5_init (z + 37)) ++ (C_X5_init (z + 50)) ++ (C_X5_init (z + 63)) ++ (C_X3_init (z + 76)) ++ (C_X8_init (z + 82) (z + 1)) ++ (C_X6_init (z + 83) (z + 82)) ++ (C_X4_init (z + 87) (z + 82)) ++ (C_X10_init (z + 90)) ++ (C_X0_init (z + 93) (z + 90)) ++ (C_X7_init (z + 96) (z + 90)) ++ (C_X1_init (z + 103)) ++ (C_X2_init (z + 107) (z + 90)) ++ (C_X2_init (z + 109) (z + 90)))
theorem LEN_X11_init (z : Nat) : (C_X11_init z).length = 111 := by
  unfold C_X11_init
  simp only [List.length_cons, List.length_append, List.length_nil, LEN_X0_init, LEN_X10_init, LEN_X1_init, LEN_X2_init, LEN_X3_init, LEN_X4_init, LEN_X5_init, LEN_X6_init, LEN_X7_init, LEN_X8_init, LEN_X9_init]
set_option maxRecDepth 20000 in
theorem k_X11_init {z : Nat} : ∀ e ∈ C_X11_init z, okE (z + 111) e := by
  unfold C_X11_init
  exact ok_cons (by intro v hv; simp only [List.mem_cons, List.not_mem_nil, or_false] at hv; rcases hv with rfl | rfl | rfl | rfl | rfl | rfl | rfl | rfl | rfl | rfl | rfl | rfl | rfl | rfl | rfl | rfl | rfl | rfl | rfl | rfl <;> first | trivial | exact Nat.add_lt_add_left (by decide) _ | exact Nat.lt_of_lt_of_le (by assumption) (Nat.le_add_right _ _)) (ok_app (ok_app (ok_app (ok_app (ok_app (ok_app (ok_app (ok_app (ok_app (ok_app (ok_app (ok_app (ok_app (ok_app (ok_app (ok_app (ok_app (ok_1 trivial) (ok_m (k_X9_init) (by omega))) (ok_m (k_X5_init) (by omega))) (ok_m (k_X5_init) (by omega))) (ok_1 (by intro j i hj; change va_up _ _ _ j = some i at hj; simp only [va_up] at hj; (repeat' split at hj) <;> first | (cases hj; omega) | cases hj))) (ok_m (k_X5_init) (by omega))) (ok_m (k_X5_init) (by omega))) (ok_m (k_X5_init) (by omega))) (ok_m (k_X3_init) (by omega))) (ok_m (k_X8_init (by omega)) (by omega))) (ok_m (k_X6_init (by omega)) (by omega))) (ok_m (k_X4_init (by omega)) (by omega))) (ok_m (k_X10_init) (by omega))) (ok_m (k_X0_init (by omega)) (by omega))) (ok_m (k_X7_init (by omega)) (by omega))) (ok_m (k_X1_init) (by omega))) (ok_m (k_X2_init (by omega)) (by omega))) (ok_m (k_X2_init (by omega)) (by omega)))
