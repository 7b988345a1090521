theorem kl_X9_11 : Cond.classLink RX9 11 "[[J" ∈ TG := tg_1 36 (by decide +kernel) (by decide +kernel)
theorem mo_X9_3 : Cond.methodLink RX9 3 Lib.objectInit ∈ TG := tg_1 35 (by decide +kernel) (by decide +kernel)
theorem ml_X9_23 : Cond.methodLink RX9 23 m_J7_fill_53178.1 ∈ TG := tg_1 38 (by decide +kernel) (by decide +kernel)
def gF : Nat → Int32 := upd (upd (upd (upd (fun _ => 0) 0 (-1)) 1 (-1)) 2 (-1)) 3 (-1)
theorem gF_is : ∀ k, k < 4 → gF k = -1 := by decide
set_option maxRecDepth 20000 in
set_option maxHeartbeats 4000000 in
theorem c_X9_init {pre : List PE} {z : Nat} (hz : pre.length = z) (h3 : z + 8 < 300) (hok : okC pre) : EvC 2 7 252 m_X9_init [.ref z] (pre ++ [.inr (9, [.null, .null, .null])]) (pre ++ C_X9_init z) := by
  refine EvC_of_Fc (by decide +kernel) rfl rfl (Nat.le_of_ble_eq_true rfl) (by rw [lx (n := 1) hz rfl]; omega) (okp (n := 1) hz rfl hok (by simp [okE, okV])) (by intro q hq; simp only [lv_args, List.mem_cons, List.not_mem_nil, or_false] at hq; rw [lx (n := 1) hz rfl]; subst hq; show z < z + 1; omega) ?_
  show Fc (pre ++ ([.inr (9, [.null, .null, .null])] : List PE)).length 2 7 252 0 0 m_X9_init 0 [(0, .ref z)] [] (pre ++ [.inr (9, [.null, .null, .null])]) _
  refine Fc_aload_n (q := 0) (i := 0) 0 (by decide +kernel) rfl rfl ?_
  refine Fc_objInit (by decide +kernel) mo_X9_3 oi_1 oi_2 (by decide) (Nat.le_of_ble_eq_true rfl) ?_
  refine Fc_aload_n (q := 0) (i := 0) 0 (by decide +kernel) rfl rfl ?_
  refine Fc_iconst (i := 4) (v := 4) (by decide +kernel) (by decide) ?_
  refine Fc_bipush (i := 60) (v := 60) (by decide +kernel) (by decide) ?_
  refine Fc_multi (idx := 11) (by decide +kernel) kl_X9_11 (Nat.le_of_ble_eq_true rfl) (Nat.le_of_ble_eq_true rfl) (by rw [lx (n := 1) hz rfl]; omega) ?_
  refine Fc_ref (lx (n := 1) hz rfl) ?_
  refine Fc_cs (cs' := pre ++ (.inr (9, [.null, .null, .null]) :: G4 (z + 1))) (by rw [lx (n := 1) hz rfl, List.append_assoc]; rfl) ?_
  refine Fc_nums (c2 := 5) (s2 := 244) rfl rfl ?_
  refine Fc_putF (kf := 0) (ty0 := tyX9) (ty := tyX9 0) (by decide +kernel) (gx (k := 0) hz rfl) rfl in_9 tyX9_ok nmX9 (by decide) lf_X9_13 rfl rfl (by decide +kernel) (fun _ => rfl) (fun _ => rfl) (Nat.le_of_ble_eq_true rfl) ?_
  refine Fc_cs (sx (k := 0) (xs' := .inr (9, [.ref (z + 1), .null, .null]) :: G4 (z + 1)) hz rfl) ?_
  refine Fc_aload_n (q := 0) (i := 0) 0 (by decide +kernel) rfl rfl ?_
  refine Fc_iconst (i := 4) (v := 4) (by decide +kernel) (by decide) ?_
  refine Fc_newI (N := 4) (by decide +kernel) (by decide) (by decide) (by decide) (Nat.le_of_ble_eq_true rfl) (Nat.le_of_ble_eq_true rfl) (by rw [lx (n := 6) hz rfl]; omega) ?_
  refine Fc_cs (ax (xs' := .inr (9, [.ref (z + 1), .null, .null]) :: (G4 (z + 1) ++ [cI 4])) rfl) ?_
  refine Fc_ref (lx (n := 6) hz rfl) ?_
  refine Fc_nums (c2 := 6) (s2 := 248) rfl rfl ?_
  refine Fc_putF (kf := 1) (ty0 := tyX9) (ty := tyX9 1) (by decide +kernel) (gx (k := 0) hz rfl) rfl in_9 tyX9_ok nmX9 (by decide) lf_X9_16 rfl rfl (by decide +kernel) (fun _ => rfl) (fun _ => rfl) (Nat.le_of_ble_eq_true rfl) ?_
  refine Fc_cs (sx (k := 0) (xs' := .inr (9, [.ref (z + 1), .ref (z + 6), .null]) :: (G4 (z + 1) ++ [cI 4])) hz rfl) ?_
  refine Fc_aload_n (q := 0) (i := 0) 0 (by decide +kernel) rfl rfl ?_
  refine Fc_iconst (i := 4) (v := 4) (by decide +kernel) (by decide) ?_
  refine Fc_newI (N := 4) (by decide +kernel) (by decide) (by decide) (by decide) (Nat.le_of_ble_eq_true rfl) (Nat.le_of_ble_eq_true rfl) (by rw [lx (n := 7) hz rfl]; omega) ?_
  refine Fc_cs (ax (xs' := .inr (9, [.ref (z + 1), .ref (z + 6), .null]) :: (G4 (z + 1) ++ [cI 4] ++ [cI 4])) rfl) ?_
  refine Fc_ref (lx (n := 7) hz rfl) ?_
  refine Fc_nums (c2 := 7) (s2 := 252) rfl rfl ?_
  refine Fc_putF (kf := 2) (ty0 := tyX9) (ty := tyX9 2) (by decide +kernel) (gx (k := 0) hz rfl) rfl in_9 tyX9_ok nmX9 (by decide) lf_X9_20 rfl rfl (by decide +kernel) (fun _ => rfl) (fun _ => rfl) (Nat.le_of_ble_eq_true rfl) ?_
  refine Fc_cs (sx (k := 0) (xs' := .inr (9, [.ref (z + 1), .ref (z + 6), .ref (z + 7)]) :: (G4 (z + 1) ++ [cI 4] ++ [cI 4])) hz rfl) ?_
  refine Fc_aload_n (q := 0) (i := 0) 0 (by decide +kernel) rfl rfl ?_
  refine Fc_get (kf := 2) (v := .ref (z + 7)) (by decide +kernel) (gx (k := 0) hz rfl) rfl in_9 (by decide) lf_X9_20 rfl ?_
  refine Fc_iconst (i := (-1)) (v := (-1)) (by decide +kernel) (by decide) ?_
  refine Fc_fill (idx := 23) (f := fun _ => 0) (g := gF) (by decide +kernel) ml_X9_23 (by decide) (Nat.le_of_ble_eq_true rfl) (Nat.le_of_ble_eq_true rfl) (Nat.le_of_ble_eq_true rfl) (gx (k := 7) hz rfl) gF_is ?_
  refine Fc_cs (sx (k := 7) (xs' := .inr (9, [.ref (z + 1), .ref (z + 6), .ref (z + 7)]) :: (G4 (z + 1) ++ [cI 4] ++ [.inl (20, 4, .inl gF)])) hz rfl) ?_
  exact Fc_vret (by decide +kernel) (Nat.le_refl _) (Nat.le_refl _) rfl
