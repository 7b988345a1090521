abbrev cI (n : Nat) : PE := .inl (20, n, .inl (fun _ => 0))
abbrev cJ (n : Nat) : PE := .inl (21, n, .inr (.inl (fun _ => 0)))
abbrev cB (n : Nat) : PE := .inl (22, n, .inl (fun _ => 0))
abbrev cZ (n : Nat) : PE := .inl (23, n, .inl (fun _ => 0))
theorem gx {pre xs : List PE} {z k : Nat} {e : PE} (hz : pre.length = z) (h : xs[k]? = some e) : (pre ++ xs)[z + k]? = some e := by
  rw [List.getElem?_append_right (by omega), show z + k - pre.length = k by omega]
  exact h
theorem sx {pre xs xs' : List PE} {z k : Nat} {e : PE} (hz : pre.length = z) (h : xs.set k e = xs') : (pre ++ xs).set (z + k) e = pre ++ xs' := by
  rw [List.set_append_right _ _ (by omega), show z + k - pre.length = k by omega, h]
theorem ax {pre xs ys xs' : List PE} (h : xs ++ ys = xs') : (pre ++ xs) ++ ys = pre ++ xs' := by rw [List.append_assoc, h]
theorem lx {pre xs : List PE} {z n : Nat} (hz : pre.length = z) (h : xs.length = n) : (pre ++ xs).length = z + n := by rw [List.length_append, hz, h]
theorem okp {pre xs : List PE} {z n : Nat} (hz : pre.length = z) (hn : xs.length = n) (hp : okC pre) (hx : ∀ e ∈ xs, okE (z + n) e) : okC (pre ++ xs) := by
  intro e he
  rw [lx hz hn]
  rcases List.mem_append.mp he with h | h
  · exact (hp e h).mono (by omega)
  · exact hx e h
theorem ok_cons {n : Nat} {e : PE} {xs : List PE} (he : okE n e) (hx : ∀ x ∈ xs, okE n x) : ∀ x ∈ e :: xs, okE n x := fun x h => by
  rcases List.mem_cons.mp h with rfl | h
  · exact he
  · exact hx x h
theorem ok_app {n : Nat} {xs ys : List PE} (hx : ∀ x ∈ xs, okE n x) (hy : ∀ x ∈ ys, okE n x) : ∀ x ∈ xs ++ ys, okE n x := fun x h => by
  rcases List.mem_append.mp h with h | h
  · exact hx x h
  · exact hy x h
theorem ok_1 {n : Nat} {e : PE} (he : okE n e) : ∀ x ∈ [e], okE n x := fun x h => by rw [List.mem_singleton.mp h]; exact he
theorem ok_0 {n : Nat} : ∀ x ∈ ([] : List PE), okE n x := fun x h => by cases h
theorem ok_m {a b : Nat} {l : List PE} (h : ∀ e ∈ l, okE a e) (hab : a ≤ b) : ∀ e ∈ l, okE b e := fun e he => (h e he).mono hab
section FCX
variable {n0 d mc ms cells slots : Nat} {μ : MI} {pc : Nat} {lv : List (Nat × Value)} {st : List Value} {cs ys : List PE}
theorem Fc_cs {cs' : List PE} (h : cs = cs') (k : Fc n0 d mc ms cells slots μ pc lv st cs' ys) : Fc n0 d mc ms cells slots μ pc lv st cs ys := h ▸ k
theorem Fc_ref {i j : Nat} (h : i = j) (k : Fc n0 d mc ms cells slots μ pc lv (.ref j :: st) cs ys) : Fc n0 d mc ms cells slots μ pc lv (.ref i :: st) cs ys := h ▸ k
theorem Fc_nums {c2 s2 : Nat} (h : cells = c2) (h2 : slots = s2) (k : Fc n0 d mc ms c2 s2 μ pc lv st cs ys) : Fc n0 d mc ms cells slots μ pc lv st cs ys := h ▸ h2 ▸ k
end FCX
theorem oi_1 : Cond.instanceMethod Lib.objectInit ∈ TG := tg_1 28 (by decide +kernel) (by decide +kernel)
theorem oi_2 : Cond.code Lib.objectInit ⟨#[0xb1]⟩ 1 none ∈ TG := tg_1 29 rfl rfl
def m_X3_init : MI := (yX3_init, cX3_init, 1, none)
theorem cb_X3_init : CalleeB m_X3_init 0 := ⟨tg_1 65 rfl rfl, ini_X3, ⟨(by decide +kernel), (by decide +kernel), (by decide +kernel)⟩, by decide⟩
theorem im_X3_init : Cond.instanceMethod yX3_init ∈ TG := tg_1 64 (by decide +kernel) (by decide +kernel)
def m_X10_init : MI := (yX10_init, cX10_init, 1, none)
theorem cb_X10_init : CalleeB m_X10_init 0 := ⟨tg_2 59 rfl rfl, ini_X10, ⟨(by decide +kernel), (by decide +kernel), (by decide +kernel)⟩, by decide⟩
theorem im_X10_init : Cond.instanceMethod yX10_init ∈ TG := tg_2 58 (by decide +kernel) (by decide +kernel)
def m_X1_init : MI := (yX1_init, cX1_init, 1, none)
theorem cb_X1_init : CalleeB m_X1_init 0 := ⟨tg_2 141 rfl rfl, ini_X1, ⟨(by decide +kernel), (by decide +kernel), (by decide +kernel)⟩, by decide⟩
theorem im_X1_init : Cond.instanceMethod yX1_init ∈ TG := tg_2 140 (by decide +kernel) (by decide +kernel)
def m_X8_init : MI := (yX8_init, cX8_init, 2, none)
theorem cb_X8_init : CalleeB m_X8_init 1 := ⟨tg_1 221 rfl rfl, ini_X8, ⟨(by decide +kernel), (by decide +kernel), (by decide +kernel)⟩, by decide⟩
theorem im_X8_init : Cond.instanceMethod yX8_init ∈ TG := tg_1 220 (by decide +kernel) (by decide +kernel)
def m_X6_init : MI := (yX6_init, cX6_init, 2, none)
theorem cb_X6_init : CalleeB m_X6_init 1 := ⟨tg_2 18 rfl rfl, ini_X6, ⟨(by decide +kernel), (by decide +kernel), (by decide +kernel)⟩, by decide⟩
theorem im_X6_init : Cond.instanceMethod yX6_init ∈ TG := tg_2 17 (by decide +kernel) (by decide +kernel)
def m_X4_init : MI := (yX4_init, cX4_init, 2, none)
theorem cb_X4_init : CalleeB m_X4_init 1 := ⟨tg_2 40 rfl rfl, ini_X4, ⟨(by decide +kernel), (by decide +kernel), (by decide +kernel)⟩, by decide⟩
theorem im_X4_init : Cond.instanceMethod yX4_init ∈ TG := tg_2 39 (by decide +kernel) (by decide +kernel)
def m_X0_init : MI := (yX0_init, cX0_init, 2, none)
theorem cb_X0_init : CalleeB m_X0_init 1 := ⟨tg_2 72 rfl rfl, ini_X0, ⟨(by decide +kernel), (by decide +kernel), (by decide +kernel)⟩, by decide⟩
theorem im_X0_init : Cond.instanceMethod yX0_init ∈ TG := tg_2 71 (by decide +kernel) (by decide +kernel)
def m_X7_init : MI := (yX7_init, cX7_init, 2, none)
theorem cb_X7_init : CalleeB m_X7_init 1 := ⟨tg_2 110 rfl rfl, ini_X7, ⟨(by decide +kernel), (by decide +kernel), (by decide +kernel)⟩, by decide⟩
theorem im_X7_init : Cond.instanceMethod yX7_init ∈ TG := tg_2 109 (by decide +kernel) (by decide +kernel)
def m_X2_init : MI := (yX2_init, cX2_init, 2, none)
theorem cb_X2_init : CalleeB m_X2_init 1 := ⟨tg_2 164 rfl rfl, ini_X2, ⟨(by decide +kernel), (by decide +kernel), (by decide +kernel)⟩, by decide⟩
theorem im_X2_init : Cond.instanceMethod yX2_init ∈ TG := tg_2 163 (by decide +kernel) (by decide +kernel)
def m_X5_init : MI := (yX5_init, cX5_init, 1, none)
theorem cb_X5_init : CalleeB m_X5_init 0 := ⟨tg_1 59 rfl rfl, ini_X5, ⟨(by decide +kernel), (by decide +kernel), (by decide +kernel)⟩, by decide⟩
theorem im_X5_init : Cond.instanceMethod yX5_init ∈ TG := tg_1 58 (by decide +kernel) (by decide +kernel)
def m_X9_init : MI := (yX9_init, cX9_init, 1, none)
theorem cb_X9_init : CalleeB m_X9_init 0 := ⟨tg_1 34 rfl rfl, ini_X9, ⟨(by decide +kernel), (by decide +kernel), (by decide +kernel)⟩, by decide⟩
theorem im_X9_init : Cond.instanceMethod yX9_init ∈ TG := tg_1 33 (by decide +kernel) (by decide +kernel)
def m_X11_init : MI := (yX11_init, cX11_init, 2, none)
theorem cb_X11_init : CalleeB m_X11_init 0 := ⟨tg_1 26 rfl rfl, ini_X11, ⟨(by decide +kernel), (by decide +kernel), (by decide +kernel)⟩, by decide⟩
theorem im_X11_init : Cond.instanceMethod yX11_init ∈ TG := tg_1 25 (by decide +kernel) (by decide +kernel)
def m_X12_init : MI := (yX12_init, cX12_init, 2, none)
theorem cb_X12_init : CalleeB m_X12_init 0 := ⟨tg_6 220 rfl rfl, ini_X12, ⟨(by decide +kernel), (by decide +kernel), (by decide +kernel)⟩, by decide⟩
theorem im_X12_init : Cond.instanceMethod yX12_init ∈ TG := tg_6 219 (by decide +kernel) (by decide +kernel)
theorem mo_X3_1 : Cond.methodLink RX3 1 Lib.objectInit ∈ TG := tg_1 66 (by decide +kernel) (by decide +kernel)
theorem mo_X10_3 : Cond.methodLink RX10 3 Lib.objectInit ∈ TG := tg_2 60 (by decide +kernel) (by decide +kernel)
theorem mo_X1_3 : Cond.methodLink RX1 3 Lib.objectInit ∈ TG := tg_2 142 (by decide +kernel) (by decide +kernel)
theorem mo_X8_3 : Cond.methodLink RX8 3 Lib.objectInit ∈ TG := tg_1 222 (by decide +kernel) (by decide +kernel)
theorem mo_X6_3 : Cond.methodLink RX6 3 Lib.objectInit ∈ TG := tg_2 19 (by decide +kernel) (by decide +kernel)
theorem mo_X4_3 : Cond.methodLink RX4 3 Lib.objectInit ∈ TG := tg_2 41 (by decide +kernel) (by decide +kernel)
theorem mo_X0_3 : Cond.methodLink RX0 3 Lib.objectInit ∈ TG := tg_2 73 (by decide +kernel) (by decide +kernel)
theorem mo_X7_3 : Cond.methodLink RX7 3 Lib.objectInit ∈ TG := tg_2 111 (by decide +kernel) (by decide +kernel)
theorem mo_X2_3 : Cond.methodLink RX2 3 Lib.objectInit ∈ TG := tg_2 165 (by decide +kernel) (by decide +kernel)
theorem mo_X5_3 : Cond.methodLink RX5 3 Lib.objectInit ∈ TG := tg_1 60 (by decide +kernel) (by decide +kernel)
theorem kl_X5_31 : Cond.classLink RX5 31 "FogKeys$Nights" ∈ TG := tg_1 61 (by decide +kernel) (by decide +kernel)
theorem is_3 : Cond.instantiable "FogKeys$Nights" 8 ∈ TG := tg_1 62 (by decide +kernel) (by decide +kernel)
theorem fd_3 : ∀ j, j < 8 → defaultValue (tyX3 j) = vp_V [.int 0, .int 0, .int 0, .null, .null, .null, .null, .null] j := by decide
theorem mo_X11_1 : Cond.methodLink RX11 1 Lib.objectInit ∈ TG := tg_1 27 (by decide +kernel) (by decide +kernel)
theorem kl_X11_24 : Cond.classLink RX11 24 "FogKeys$Trays" ∈ TG := tg_1 30 (by decide +kernel) (by decide +kernel)
theorem is_9 : Cond.instantiable "FogKeys$Trays" 3 ∈ TG := tg_1 31 (by decide +kernel) (by decide +kernel)
theorem fd_9 : ∀ j, j < 3 → defaultValue (tyX9 j) = vp_V [.null, .null, .null] j := by decide
theorem ml_X11_26 : Cond.methodLink RX11 26 yX9_init ∈ TG := tg_1 32 (by decide +kernel) (by decide +kernel)
theorem kl_X11_31 : Cond.classLink RX11 31 "FogKeys$Port" ∈ TG := tg_1 55 (by decide +kernel) (by decide +kernel)
theorem is_5 : Cond.instantiable "FogKeys$Port" 18 ∈ TG := tg_1 56 (by decide +kernel) (by decide +kernel)
theorem fd_5 : ∀ j, j < 18 → defaultValue (tyX5 j) = vp_V [.int 0, .int 0, .int 0, .int 0, .int 0, .int 0, .int 0, .int 0, .int 0, .int 0, .int 0, .null, .null, .null, .null, .null, .null, .null] j := by decide
theorem ml_X11_33 : Cond.methodLink RX11 33 yX5_init ∈ TG := tg_1 57 (by decide +kernel) (by decide +kernel)
theorem kl_X11_45 : Cond.classLink RX11 45 "FogKeys$Nights" ∈ TG := tg_1 215 (by decide +kernel) (by decide +kernel)
theorem kl_X11_52 : Cond.classLink RX11 52 "FogKeys$Scanner" ∈ TG := tg_1 217 (by decide +kernel) (by decide +kernel)
theorem is_8 : Cond.instantiable "FogKeys$Scanner" 8 ∈ TG := tg_1 218 (by decide +kernel) (by decide +kernel)
theorem fd_8 : ∀ j, j < 8 → defaultValue (tyX8 j) = vp_V [.null, .int 0, .int 0, .int 0, .int 0, .int 0, .int 0, .int 0] j := by decide
theorem ml_X11_54 : Cond.methodLink RX11 54 yX8_init ∈ TG := tg_1 219 (by decide +kernel) (by decide +kernel)
theorem kl_X11_61 : Cond.classLink RX11 61 "FogKeys$PortReader" ∈ TG := tg_2 14 (by decide +kernel) (by decide +kernel)
theorem is_6 : Cond.instantiable "FogKeys$PortReader" 5 ∈ TG := tg_2 15 (by decide +kernel) (by decide +kernel)
theorem fd_6 : ∀ j, j < 5 → defaultValue (tyX6 j) = vp_V [.null, .null, .null, .null, .int 0] j := by decide
theorem ml_X11_63 : Cond.methodLink RX11 63 yX6_init ∈ TG := tg_2 16 (by decide +kernel) (by decide +kernel)
theorem kl_X11_70 : Cond.classLink RX11 70 "FogKeys$NightsReader" ∈ TG := tg_2 36 (by decide +kernel) (by decide +kernel)
theorem is_4 : Cond.instantiable "FogKeys$NightsReader" 4 ∈ TG := tg_2 37 (by decide +kernel) (by decide +kernel)
theorem fd_4 : ∀ j, j < 4 → defaultValue (tyX4 j) = vp_V [.null, .null, .null, .int 0] j := by decide
theorem ml_X11_72 : Cond.methodLink RX11 72 yX4_init ∈ TG := tg_2 38 (by decide +kernel) (by decide +kernel)
theorem kl_X11_77 : Cond.classLink RX11 77 "FogKeys$Weather" ∈ TG := tg_2 55 (by decide +kernel) (by decide +kernel)
theorem is_10 : Cond.instantiable "FogKeys$Weather" 2 ∈ TG := tg_2 56 (by decide +kernel) (by decide +kernel)
theorem fd_10 : ∀ j, j < 2 → defaultValue (tyX10 j) = vp_V [.null, .null] j := by decide
theorem kl_X11_84 : Cond.classLink RX11 84 "FogKeys$Forecast" ∈ TG := tg_2 68 (by decide +kernel) (by decide +kernel)
theorem is_0 : Cond.instantiable "FogKeys$Forecast" 9 ∈ TG := tg_2 69 (by decide +kernel) (by decide +kernel)
theorem fd_0 : ∀ j, j < 9 → defaultValue (tyX0 j) = vp_V [.null, .null, .null, .int 0, .int 0, .int 0, .int 0, .int 0, .int 0] j := by decide
theorem ml_X11_86 : Cond.methodLink RX11 86 yX0_init ∈ TG := tg_2 70 (by decide +kernel) (by decide +kernel)
theorem kl_X11_93 : Cond.classLink RX11 93 "FogKeys$Roads" ∈ TG := tg_2 106 (by decide +kernel) (by decide +kernel)
theorem is_7 : Cond.instantiable "FogKeys$Roads" 8 ∈ TG := tg_2 107 (by decide +kernel) (by decide +kernel)
theorem fd_7 : ∀ j, j < 8 → defaultValue (tyX7 j) = vp_V [.null, .null, .null, .null, .null, .null, .null, .int 0] j := by decide
theorem ml_X11_95 : Cond.methodLink RX11 95 yX7_init ∈ TG := tg_2 108 (by decide +kernel) (by decide +kernel)
theorem kl_X11_100 : Cond.classLink RX11 100 "FogKeys$Keyring" ∈ TG := tg_2 137 (by decide +kernel) (by decide +kernel)
theorem is_1 : Cond.instantiable "FogKeys$Keyring" 5 ∈ TG := tg_2 138 (by decide +kernel) (by decide +kernel)
theorem fd_1 : ∀ j, j < 5 → defaultValue (tyX1 j) = vp_V [.int 0, .int 0, .null, .null, .null] j := by decide
theorem kl_X11_107 : Cond.classLink RX11 107 "FogKeys$Life" ∈ TG := tg_2 160 (by decide +kernel) (by decide +kernel)
theorem is_2 : Cond.instantiable "FogKeys$Life" 10 ∈ TG := tg_2 161 (by decide +kernel) (by decide +kernel)
theorem fd_2 : ∀ j, j < 10 → defaultValue (tyX2 j) = vp_V [.null, .null, .int 0, .int 0, .int 0, .int 0, .int 0, .int 0, .int 0, .int 0] j := by decide
theorem ml_X11_109 : Cond.methodLink RX11 109 yX2_init ∈ TG := tg_2 162 (by decide +kernel) (by decide +kernel)
theorem mo_X12_1 : Cond.methodLink RX12 1 Lib.objectInit ∈ TG := tg_6 221 (by decide +kernel) (by decide +kernel)
def C_X3_init (z : Nat) : List PE := .inr (3, [.int 0, .int 0, .int 0, .ref (z + 1), .ref (z + 2), .ref (z + 3), .ref (z + 4), .ref (z + 5)]) :: ([cI 60] ++ [cI 60] ++ [cI 60] ++ [cI 60] ++ [cI 60])
set_option maxRecDepth 20000 in
theorem k_X3_init {z : Nat} : ∀ e ∈ C_X3_init z, okE (z + 6) e := by
  unfold C_X3_init
  exact ok_cons (by intro v hv; simp only [List.mem_cons, List.not_mem_nil, or_false] at hv; rcases hv with rfl | rfl | rfl | rfl | rfl | rfl | rfl | rfl <;> first | trivial | exact Nat.add_lt_add_left (by decide) _ | exact Nat.lt_of_lt_of_le (by assumption) (Nat.le_add_right _ _)) (ok_app (ok_app (ok_app (ok_app (ok_1 trivial) (ok_1 trivial)) (ok_1 trivial)) (ok_1 trivial)) (ok_1 trivial))
set_option maxRecDepth 20000 in
set_option maxHeartbeats 4000000 in
theorem c_X3_init {pre : List PE} {z : Nat} (hz : pre.length = z) (h3 : z + 6 < 300) (hok : okC pre) : EvC 1 5 300 m_X3_init [.ref z] (pre ++ [.inr (3, [.int 0, .int 0, .int 0, .null, .null, .null, .null, .null])]) (pre ++ C_X3_init z) := by
  refine EvC_of_Fc (by decide +kernel) rfl rfl (Nat.le_of_ble_eq_true rfl) (by rw [lx (n := 1) hz rfl]; omega) (okp (n := 1) hz rfl hok (by simp [okE, okV])) (by intro q hq; simp only [lv_args, List.mem_cons, List.not_mem_nil, or_false] at hq; rw [lx (n := 1) hz rfl]; subst hq; show z < z + 1; omega) ?_
  show Fc (pre ++ ([.inr (3, [.int 0, .int 0, .int 0, .null, .null, .null, .null, .null])] : List PE)).length 1 5 300 0 0 m_X3_init 0 [(0, .ref z)] [] (pre ++ [.inr (3, [.int 0, .int 0, .int 0, .null, .null, .null, .null, .null])]) _
  refine Fc_aload_n (q := 0) (i := 0) 0 (by decide +kernel) rfl rfl ?_
  refine Fc_objInit (by decide +kernel) mo_X3_1 oi_1 oi_2 (by decide) (Nat.le_of_ble_eq_true rfl) ?_
  refine Fc_aload_n (q := 0) (i := 0) 0 (by decide +kernel) rfl rfl ?_
  refine Fc_bipush (i := 60) (v := 60) (by decide +kernel) (by decide) ?_
  refine Fc_newI (N := 60) (by decide +kernel) (by decide) (by decide) (by decide) (Nat.le_of_ble_eq_true rfl) (Nat.le_of_ble_eq_true rfl) (by rw [lx (n := 1) hz rfl]; omega) ?_
  refine Fc_cs (ax (xs' := .inr (3, [.int 0, .int 0, .int 0, .null, .null, .null, .null, .null]) :: ([cI 60])) rfl) ?_
  refine Fc_ref (lx (n := 1) hz rfl) ?_
  refine Fc_nums (c2 := 1) (s2 := 60) rfl rfl ?_
  refine Fc_putF (kf := 3) (ty0 := tyX3) (ty := tyX3 3) (by decide +kernel) (gx (k := 0) hz rfl) rfl in_3 tyX3_ok nmX3 (by decide) lf_X3_9 rfl rfl (by decide +kernel) (fun _ => rfl) (fun _ => rfl) (Nat.le_of_ble_eq_true rfl) ?_
  refine Fc_cs (sx (k := 0) (xs' := .inr (3, [.int 0, .int 0, .int 0, .ref (z + 1), .null, .null, .null, .null]) :: ([cI 60])) hz rfl) ?_
  refine Fc_aload_n (q := 0) (i := 0) 0 (by decide +kernel) rfl rfl ?_
  refine Fc_bipush (i := 60) (v := 60) (by decide +kernel) (by decide) ?_
  refine Fc_newI (N := 60) (by decide +kernel) (by decide) (by decide) (by decide) (Nat.le_of_ble_eq_true rfl) (Nat.le_of_ble_eq_true rfl) (by rw [lx (n := 2) hz rfl]; omega) ?_
  refine Fc_cs (ax (xs' := .inr (3, [.int 0, .int 0, .int 0, .ref (z + 1), .null, .null, .null, .null]) :: ([cI 60] ++ [cI 60])) rfl) ?_
  refine Fc_ref (lx (n := 2) hz rfl) ?_
  refine Fc_nums (c2 := 2) (s2 := 120) rfl rfl ?_
  refine Fc_putF (kf := 4) (ty0 := tyX3) (ty := tyX3 4) (by decide +kernel) (gx (k := 0) hz rfl) rfl in_3 tyX3_ok nmX3 (by decide) lf_X3_13 rfl rfl (by decide +kernel) (fun _ => rfl) (fun _ => rfl) (Nat.le_of_ble_eq_true rfl) ?_
  refine Fc_cs (sx (k := 0) (xs' := .inr (3, [.int 0, .int 0, .int 0, .ref (z + 1), .ref (z + 2), .null, .null, .null]) :: ([cI 60] ++ [cI 60])) hz rfl) ?_
  refine Fc_aload_n (q := 0) (i := 0) 0 (by decide +kernel) rfl rfl ?_
  refine Fc_bipush (i := 60) (v := 60) (by decide +kernel) (by decide) ?_
  refine Fc_newI (N := 60) (by decide +kernel) (by decide) (by decide) (by decide) (Nat.le_of_ble_eq_true rfl) (Nat.le_of_ble_eq_true rfl) (by rw [lx (n := 3) hz rfl]; omega) ?_
  refine Fc_cs (ax (xs' := .inr (3, [.int 0, .int 0, .int 0, .ref (z + 1), .ref (z + 2), .null, .null, .null]) :: ([cI 60] ++ [cI 60] ++ [cI 60])) rfl) ?_
  refine Fc_ref (lx (n := 3) hz rfl) ?_
  refine Fc_nums (c2 := 3) (s2 := 180) rfl rfl ?_
  refine Fc_putF (kf := 5) (ty0 := tyX3) (ty := tyX3 5) (by decide +kernel) (gx (k := 0) hz rfl) rfl in_3 tyX3_ok nmX3 (by decide) lf_X3_16 rfl rfl (by decide +kernel) (fun _ => rfl) (fun _ => rfl) (Nat.le_of_ble_eq_true rfl) ?_
  refine Fc_cs (sx (k := 0) (xs' := .inr (3, [.int 0, .int 0, .int 0, .ref (z + 1), .ref (z + 2), .ref (z + 3), .null, .null]) :: ([cI 60] ++ [cI 60] ++ [cI 60])) hz rfl) ?_
  refine Fc_aload_n (q := 0) (i := 0) 0 (by decide +kernel) rfl rfl ?_
  refine Fc_bipush (i := 60) (v := 60) (by decide +kernel) (by decide) ?_
  refine Fc_newI (N := 60) (by decide +kernel) (by decide) (by decide) (by decide) (Nat.le_of_ble_eq_true rfl) (Nat.le_of_ble_eq_true rfl) (by rw [lx (n := 4) hz rfl]; omega) ?_
  refine Fc_cs (ax (xs' := .inr (3, [.int 0, .int 0, .int 0, .ref (z + 1), .ref (z + 2), .ref (z + 3), .null, .null]) :: ([cI 60] ++ [cI 60] ++ [cI 60] ++ [cI 60])) rfl) ?_
  refine Fc_ref (lx (n := 4) hz rfl) ?_
  refine Fc_nums (c2 := 4) (s2 := 240) rfl rfl ?_
  refine Fc_putF (kf := 6) (ty0 := tyX3) (ty := tyX3 6) (by decide +kernel) (gx (k := 0) hz rfl) rfl in_3 tyX3_ok nmX3 (by decide) lf_X3_19 rfl rfl (by decide +kernel) (fun _ => rfl) (fun _ => rfl) (Nat.le_of_ble_eq_true rfl) ?_
  refine Fc_cs (sx (k := 0) (xs' := .inr (3, [.int 0, .int 0, .int 0, .ref (z + 1), .ref (z + 2), .ref (z + 3), .ref (z + 4), .null]) :: ([cI 60] ++ [cI 60] ++ [cI 60] ++ [cI 60])) hz rfl) ?_
  refine Fc_aload_n (q := 0) (i := 0) 0 (by decide +kernel) rfl rfl ?_
  refine Fc_bipush (i := 60) (v := 60) (by decide +kernel) (by decide) ?_
  refine Fc_newI (N := 60) (by decide +kernel) (by decide) (by decide) (by decide) (Nat.le_of_ble_eq_true rfl) (Nat.le_of_ble_eq_true rfl) (by rw [lx (n := 5) hz rfl]; omega) ?_
  refine Fc_cs (ax (xs' := .inr (3, [.int 0, .int 0, .int 0, .ref (z + 1), .ref (z + 2), .ref (z + 3), .ref (z + 4), .null]) :: ([cI 60] ++ [cI 60] ++ [cI 60] ++ [cI 60] ++ [cI 60])) rfl) ?_
  refine Fc_ref (lx (n := 5) hz rfl) ?_
  refine Fc_nums (c2 := 5) (s2 := 300) rfl rfl ?_
  refine Fc_putF (kf := 7) (ty0 := tyX3) (ty := tyX3 7) (by decide +kernel) (gx (k := 0) hz rfl) rfl in_3 tyX3_ok nmX3 (by decide) lf_X3_22 rfl rfl (by decide +kernel) (fun _ => rfl) (fun _ => rfl) (Nat.le_of_ble_eq_true rfl) ?_
  refine Fc_cs (sx (k := 0) (xs' := .inr (3, [.int 0, .int 0, .int 0, .ref (z + 1), .ref (z + 2), .ref (z + 3), .ref (z + 4), .ref (z + 5)]) :: ([cI 60] ++ [cI 60] ++ [cI 60] ++ [cI 60] ++ [cI 60])) hz rfl) ?_
  exact Fc_vret (by decide +kernel) (Nat.le_refl _) (Nat.le_refl _) rfl
def C_X10_init (z : Nat) : List PE := .inr (10, [.ref (z + 1), .ref (z + 2)]) :: ([cI 60] ++ [cI 60])
set_option maxRecDepth 20000 in
theorem k_X10_init {z : Nat} : ∀ e ∈ C_X10_init z, okE (z + 3) e := by
  unfold C_X10_init
  exact ok_cons (by intro v hv; simp only [List.mem_cons, List.not_mem_nil, or_false] at hv; rcases hv with rfl | rfl <;> first | trivial | exact Nat.add_lt_add_left (by decide) _ | exact Nat.lt_of_lt_of_le (by assumption) (Nat.le_add_right _ _)) (ok_app (ok_1 trivial) (ok_1 trivial))
set_option maxRecDepth 20000 in
set_option maxHeartbeats 4000000 in
theorem c_X10_init {pre : List PE} {z : Nat} (hz : pre.length = z) (h3 : z + 3 < 300) (hok : okC pre) : EvC 1 2 120 m_X10_init [.ref z] (pre ++ [.inr (10, [.null, .null])]) (pre ++ C_X10_init z) := by
  refine EvC_of_Fc (by decide +kernel) rfl rfl (Nat.le_of_ble_eq_true rfl) (by rw [lx (n := 1) hz rfl]; omega) (okp (n := 1) hz rfl hok (by simp [okE, okV])) (by intro q hq; simp only [lv_args, List.mem_cons, List.not_mem_nil, or_false] at hq; rw [lx (n := 1) hz rfl]; subst hq; show z < z + 1; omega) ?_
  show Fc (pre ++ ([.inr (10, [.null, .null])] : List PE)).length 1 2 120 0 0 m_X10_init 0 [(0, .ref z)] [] (pre ++ [.inr (10, [.null, .null])]) _
  refine Fc_aload_n (q := 0) (i := 0) 0 (by decide +kernel) rfl rfl ?_
  refine Fc_objInit (by decide +kernel) mo_X10_3 oi_1 oi_2 (by decide) (Nat.le_of_ble_eq_true rfl) ?_
  refine Fc_aload_n (q := 0) (i := 0) 0 (by decide +kernel) rfl rfl ?_
  refine Fc_bipush (i := 60) (v := 60) (by decide +kernel) (by decide) ?_
  refine Fc_newI (N := 60) (by decide +kernel) (by decide) (by decide) (by decide) (Nat.le_of_ble_eq_true rfl) (Nat.le_of_ble_eq_true rfl) (by rw [lx (n := 1) hz rfl]; omega) ?_
  refine Fc_cs (ax (xs' := .inr (10, [.null, .null]) :: ([cI 60])) rfl) ?_
  refine Fc_ref (lx (n := 1) hz rfl) ?_
  refine Fc_nums (c2 := 1) (s2 := 60) rfl rfl ?_
  refine Fc_putF (kf := 0) (ty0 := tyX10) (ty := tyX10 0) (by decide +kernel) (gx (k := 0) hz rfl) rfl in_10 tyX10_ok nmX10 (by decide) lf_X10_9 rfl rfl (by decide +kernel) (fun _ => rfl) (fun _ => rfl) (Nat.le_of_ble_eq_true rfl) ?_
  refine Fc_cs (sx (k := 0) (xs' := .inr (10, [.ref (z + 1), .null]) :: ([cI 60])) hz rfl) ?_
  refine Fc_aload_n (q := 0) (i := 0) 0 (by decide +kernel) rfl rfl ?_
  refine Fc_bipush (i := 60) (v := 60) (by decide +kernel) (by decide) ?_
  refine Fc_newI (N := 60) (by decide +kernel) (by decide) (by decide) (by decide) (Nat.le_of_ble_eq_true rfl) (Nat.le_of_ble_eq_true rfl) (by rw [lx (n := 2) hz rfl]; omega) ?_
  refine Fc_cs (ax (xs' := .inr (10, [.ref (z + 1), .null]) :: ([cI 60] ++ [cI 60])) rfl) ?_
  refine Fc_ref (lx (n := 2) hz rfl) ?_
  refine Fc_nums (c2 := 2) (s2 := 120) rfl rfl ?_
  refine Fc_putF (kf := 1) (ty0 := tyX10) (ty := tyX10 1) (by decide +kernel) (gx (k := 0) hz rfl) rfl in_10 tyX10_ok nmX10 (by decide) lf_X10_15 rfl rfl (by decide +kernel) (fun _ => rfl) (fun _ => rfl) (Nat.le_of_ble_eq_true rfl) ?_
  refine Fc_cs (sx (k := 0) (xs' := .inr (10, [.ref (z + 1), .ref (z + 2)]) :: ([cI 60] ++ [cI 60])) hz rfl) ?_
  exact Fc_vret (by decide +kernel) (Nat.le_refl _) (Nat.le_refl _) rfl
def C_X1_init (z : Nat) : List PE := .inr (1, [.int 0, .int 0, .ref (z + 1), .ref (z + 2), .ref (z + 3)]) :: ([cI 36] ++ [cI 64] ++ [cI 64])
set_option maxRecDepth 20000 in
theorem k_X1_init {z : Nat} : ∀ e ∈ C_X1_init z, okE (z + 4) e := by
  unfold C_X1_init
  exact ok_cons (by intro v hv; simp only [List.mem_cons, List.not_mem_nil, or_false] at hv; rcases hv with rfl | rfl | rfl | rfl | rfl <;> first | trivial | exact Nat.add_lt_add_left (by decide) _ | exact Nat.lt_of_lt_of_le (by assumption) (Nat.le_add_right _ _)) (ok_app (ok_app (ok_1 trivial) (ok_1 trivial)) (ok_1 trivial))
set_option maxRecDepth 20000 in
set_option maxHeartbeats 4000000 in
theorem c_X1_init {pre : List PE} {z : Nat} (hz : pre.length = z) (h3 : z + 4 < 300) (hok : okC pre) : EvC 1 3 164 m_X1_init [.ref z] (pre ++ [.inr (1, [.int 0, .int 0, .null, .null, .null])]) (pre ++ C_X1_init z) := by
  refine EvC_of_Fc (by decide +kernel) rfl rfl (Nat.le_of_ble_eq_true rfl) (by rw [lx (n := 1) hz rfl]; omega) (okp (n := 1) hz rfl hok (by simp [okE, okV])) (by intro q hq; simp only [lv_args, List.mem_cons, List.not_mem_nil, or_false] at hq; rw [lx (n := 1) hz rfl]; subst hq; show z < z + 1; omega) ?_
  show Fc (pre ++ ([.inr (1, [.int 0, .int 0, .null, .null, .null])] : List PE)).length 1 3 164 0 0 m_X1_init 0 [(0, .ref z)] [] (pre ++ [.inr (1, [.int 0, .int 0, .null, .null, .null])]) _
  refine Fc_aload_n (q := 0) (i := 0) 0 (by decide +kernel) rfl rfl ?_
  refine Fc_objInit (by decide +kernel) mo_X1_3 oi_1 oi_2 (by decide) (Nat.le_of_ble_eq_true rfl) ?_
  refine Fc_aload_n (q := 0) (i := 0) 0 (by decide +kernel) rfl rfl ?_
  refine Fc_bipush (i := 36) (v := 36) (by decide +kernel) (by decide) ?_
  refine Fc_newI (N := 36) (by decide +kernel) (by decide) (by decide) (by decide) (Nat.le_of_ble_eq_true rfl) (Nat.le_of_ble_eq_true rfl) (by rw [lx (n := 1) hz rfl]; omega) ?_
  refine Fc_cs (ax (xs' := .inr (1, [.int 0, .int 0, .null, .null, .null]) :: ([cI 36])) rfl) ?_
  refine Fc_ref (lx (n := 1) hz rfl) ?_
  refine Fc_nums (c2 := 1) (s2 := 36) rfl rfl ?_
  refine Fc_putF (kf := 2) (ty0 := tyX1) (ty := tyX1 2) (by decide +kernel) (gx (k := 0) hz rfl) rfl in_1 tyX1_ok nmX1 (by decide) lf_X1_9 rfl rfl (by decide +kernel) (fun _ => rfl) (fun _ => rfl) (Nat.le_of_ble_eq_true rfl) ?_
  refine Fc_cs (sx (k := 0) (xs' := .inr (1, [.int 0, .int 0, .ref (z + 1), .null, .null]) :: ([cI 36])) hz rfl) ?_
  refine Fc_aload_n (q := 0) (i := 0) 0 (by decide +kernel) rfl rfl ?_
  refine Fc_bipush (i := 64) (v := 64) (by decide +kernel) (by decide) ?_
  refine Fc_newI (N := 64) (by decide +kernel) (by decide) (by decide) (by decide) (Nat.le_of_ble_eq_true rfl) (Nat.le_of_ble_eq_true rfl) (by rw [lx (n := 2) hz rfl]; omega) ?_
  refine Fc_cs (ax (xs' := .inr (1, [.int 0, .int 0, .ref (z + 1), .null, .null]) :: ([cI 36] ++ [cI 64])) rfl) ?_
  refine Fc_ref (lx (n := 2) hz rfl) ?_
  refine Fc_nums (c2 := 2) (s2 := 100) rfl rfl ?_
  refine Fc_putF (kf := 3) (ty0 := tyX1) (ty := tyX1 3) (by decide +kernel) (gx (k := 0) hz rfl) rfl in_1 tyX1_ok nmX1 (by decide) lf_X1_15 rfl rfl (by decide +kernel) (fun _ => rfl) (fun _ => rfl) (Nat.le_of_ble_eq_true rfl) ?_
  refine Fc_cs (sx (k := 0) (xs' := .inr (1, [.int 0, .int 0, .ref (z + 1), .ref (z + 2), .null]) :: ([cI 36] ++ [cI 64])) hz rfl) ?_
  refine Fc_aload_n (q := 0) (i := 0) 0 (by decide +kernel) rfl rfl ?_
  refine Fc_bipush (i := 64) (v := 64) (by decide +kernel) (by decide) ?_
  refine Fc_newI (N := 64) (by decide +kernel) (by decide) (by decide) (by decide) (Nat.le_of_ble_eq_true rfl) (Nat.le_of_ble_eq_true rfl) (by rw [lx (n := 3) hz rfl]; omega) ?_
  refine Fc_cs (ax (xs' := .inr (1, [.int 0, .int 0, .ref (z + 1), .ref (z + 2), .null]) :: ([cI 36] ++ [cI 64] ++ [cI 64])) rfl) ?_
  refine Fc_ref (lx (n := 3) hz rfl) ?_
  refine Fc_nums (c2 := 3) (s2 := 164) rfl rfl ?_
  refine Fc_putF (kf := 4) (ty0 := tyX1) (ty := tyX1 4) (by decide +kernel) (gx (k := 0) hz rfl) rfl in_1 tyX1_ok nmX1 (by decide) lf_X1_18 rfl rfl (by decide +kernel) (fun _ => rfl) (fun _ => rfl) (Nat.le_of_ble_eq_true rfl) ?_
  refine Fc_cs (sx (k := 0) (xs' := .inr (1, [.int 0, .int 0, .ref (z + 1), .ref (z + 2), .ref (z + 3)]) :: ([cI 36] ++ [cI 64] ++ [cI 64])) hz rfl) ?_
  exact Fc_vret (by decide +kernel) (Nat.le_refl _) (Nat.le_refl _) rfl
def C_X8_init (z : Nat) (t0 : Nat) : List PE := .inr (8, [.ref t0, .int 0, .int 0, .int 0, .int 0, .int 0, .int (-1), .int (-1)]) :: ([])
set_option maxRecDepth 20000 in
theorem k_X8_init {z : Nat} {t0 : Nat} (ht0 : t0 < z) : ∀ e ∈ C_X8_init z t0, okE (z + 1) e := by
  unfold C_X8_init
  exact ok_cons (by intro v hv; simp only [List.mem_cons, List.not_mem_nil, or_false] at hv; rcases hv with rfl | rfl | rfl | rfl | rfl | rfl | rfl | rfl <;> first | trivial | exact Nat.add_lt_add_left (by decide) _ | exact Nat.lt_of_lt_of_le (by assumption) (Nat.le_add_right _ _)) ok_0
set_option maxRecDepth 20000 in
set_option maxHeartbeats 4000000 in
theorem c_X8_init {pre : List PE} {z : Nat} {t0 : Nat} (hz : pre.length = z) (h3 : z + 1 < 300) (hok : okC pre) (ht0 : t0 < z) : EvC 1 0 0 m_X8_init [.ref z, .ref t0] (pre ++ [.inr (8, [.null, .int 0, .int 0, .int 0, .int 0, .int 0, .int 0, .int 0])]) (pre ++ C_X8_init z t0) := by
  refine EvC_of_Fc (by decide +kernel) rfl rfl (Nat.le_of_ble_eq_true rfl) (by rw [lx (n := 1) hz rfl]; omega) (okp (n := 1) hz rfl hok (by simp [okE, okV])) (by intro q hq; simp only [lv_args, List.mem_cons, List.not_mem_nil, or_false] at hq; rw [lx (n := 1) hz rfl]; rcases hq with rfl | rfl <;> (show _ < z + 1; omega)) ?_
  show Fc (pre ++ ([.inr (8, [.null, .int 0, .int 0, .int 0, .int 0, .int 0, .int 0, .int 0])] : List PE)).length 1 0 0 0 0 m_X8_init 0 [(0, .ref z), (1, .ref t0)] [] (pre ++ [.inr (8, [.null, .int 0, .int 0, .int 0, .int 0, .int 0, .int 0, .int 0])]) _
  refine Fc_aload_n (q := 0) (i := 0) 0 (by decide +kernel) rfl rfl ?_
  refine Fc_objInit (by decide +kernel) mo_X8_3 oi_1 oi_2 (by decide) (Nat.le_of_ble_eq_true rfl) ?_
  refine Fc_aload_n (q := 0) (i := 0) 0 (by decide +kernel) rfl rfl ?_
  refine Fc_aload_n (q := 1) (i := 1) 1 (by decide +kernel) rfl rfl ?_
  refine Fc_putF (kf := 0) (ty0 := tyX8) (ty := tyX8 0) (by decide +kernel) (gx (k := 0) hz rfl) rfl in_8 tyX8_ok nmX8 (by decide) lf_X8_9 rfl rfl (by decide +kernel) (fun _ => rfl) (fun _ => rfl) (Nat.le_of_ble_eq_true rfl) ?_
  refine Fc_cs (sx (k := 0) (xs' := .inr (8, [.ref t0, .int 0, .int 0, .int 0, .int 0, .int 0, .int 0, .int 0]) :: ([])) hz rfl) ?_
  refine Fc_aload_n (q := 0) (i := 0) 0 (by decide +kernel) rfl rfl ?_
  refine Fc_iconst (i := (-1)) (v := (-1)) (by decide +kernel) (by decide) ?_
  refine Fc_put (kf := 6) (ty0 := tyX8) (ty := tyX8 6) (by decide +kernel) (gx (k := 0) hz rfl) rfl in_8 tyX8_ok nmX8 (by decide) lf_X8_15 rfl (by decide +kernel) (fun _ => rfl) (fun _ => rfl) (Nat.le_of_ble_eq_true rfl) ?_
  refine Fc_cs (sx (k := 0) (xs' := .inr (8, [.ref t0, .int 0, .int 0, .int 0, .int 0, .int 0, .int (-1), .int 0]) :: ([])) hz rfl) ?_
  refine Fc_aload_n (q := 0) (i := 0) 0 (by decide +kernel) rfl rfl ?_
  refine Fc_iconst (i := (-1)) (v := (-1)) (by decide +kernel) (by decide) ?_
  refine Fc_put (kf := 7) (ty0 := tyX8) (ty := tyX8 7) (by decide +kernel) (gx (k := 0) hz rfl) rfl in_8 tyX8_ok nmX8 (by decide) lf_X8_19 rfl (by decide +kernel) (fun _ => rfl) (fun _ => rfl) (Nat.le_of_ble_eq_true rfl) ?_
  refine Fc_cs (sx (k := 0) (xs' := .inr (8, [.ref t0, .int 0, .int 0, .int 0, .int 0, .int 0, .int (-1), .int (-1)]) :: ([])) hz rfl) ?_
  exact Fc_vret (by decide +kernel) (Nat.le_refl _) (Nat.le_refl _) rfl
def C_X6_init (z : Nat) (t0 : Nat) : List PE := .inr (6, [.ref t0, .ref (z + 1), .ref (z + 2), .ref (z + 3), .int 0]) :: ([cJ 22] ++ [cI 3] ++ [cI 2])
set_option maxRecDepth 20000 in
theorem k_X6_init {z : Nat} {t0 : Nat} (ht0 : t0 < z) : ∀ e ∈ C_X6_init z t0, okE (z + 4) e := by
  unfold C_X6_init
  exact ok_cons (by intro v hv; simp only [List.mem_cons, List.not_mem_nil, or_false] at hv; rcases hv with rfl | rfl | rfl | rfl | rfl <;> first | trivial | exact Nat.add_lt_add_left (by decide) _ | exact Nat.lt_of_lt_of_le (by assumption) (Nat.le_add_right _ _)) (ok_app (ok_app (ok_1 trivial) (ok_1 trivial)) (ok_1 trivial))
set_option maxRecDepth 20000 in
set_option maxHeartbeats 4000000 in
theorem c_X6_init {pre : List PE} {z : Nat} {t0 : Nat} (hz : pre.length = z) (h3 : z + 4 < 300) (hok : okC pre) (ht0 : t0 < z) : EvC 1 3 27 m_X6_init [.ref z, .ref t0] (pre ++ [.inr (6, [.null, .null, .null, .null, .int 0])]) (pre ++ C_X6_init z t0) := by
  refine EvC_of_Fc (by decide +kernel) rfl rfl (Nat.le_of_ble_eq_true rfl) (by rw [lx (n := 1) hz rfl]; omega) (okp (n := 1) hz rfl hok (by simp [okE, okV])) (by intro q hq; simp only [lv_args, List.mem_cons, List.not_mem_nil, or_false] at hq; rw [lx (n := 1) hz rfl]; rcases hq with rfl | rfl <;> (show _ < z + 1; omega)) ?_
  show Fc (pre ++ ([.inr (6, [.null, .null, .null, .null, .int 0])] : List PE)).length 1 3 27 0 0 m_X6_init 0 [(0, .ref z), (1, .ref t0)] [] (pre ++ [.inr (6, [.null, .null, .null, .null, .int 0])]) _
  refine Fc_aload_n (q := 0) (i := 0) 0 (by decide +kernel) rfl rfl ?_
  refine Fc_objInit (by decide +kernel) mo_X6_3 oi_1 oi_2 (by decide) (Nat.le_of_ble_eq_true rfl) ?_
  refine Fc_aload_n (q := 0) (i := 0) 0 (by decide +kernel) rfl rfl ?_
  refine Fc_bipush (i := 22) (v := 22) (by decide +kernel) (by decide) ?_
  refine Fc_newL (N := 22) (by decide +kernel) (by decide) (by decide) (by decide) (Nat.le_of_ble_eq_true rfl) (Nat.le_of_ble_eq_true rfl) (by rw [lx (n := 1) hz rfl]; omega) ?_
  refine Fc_cs (ax (xs' := .inr (6, [.null, .null, .null, .null, .int 0]) :: ([cJ 22])) rfl) ?_
  refine Fc_ref (lx (n := 1) hz rfl) ?_
  refine Fc_nums (c2 := 1) (s2 := 22) rfl rfl ?_
  refine Fc_putF (kf := 1) (ty0 := tyX6) (ty := tyX6 1) (by decide +kernel) (gx (k := 0) hz rfl) rfl in_6 tyX6_ok nmX6 (by decide) lf_X6_9 rfl rfl (by decide +kernel) (fun _ => rfl) (fun _ => rfl) (Nat.le_of_ble_eq_true rfl) ?_
  refine Fc_cs (sx (k := 0) (xs' := .inr (6, [.null, .ref (z + 1), .null, .null, .int 0]) :: ([cJ 22])) hz rfl) ?_
  refine Fc_aload_n (q := 0) (i := 0) 0 (by decide +kernel) rfl rfl ?_
  refine Fc_iconst (i := 3) (v := 3) (by decide +kernel) (by decide) ?_
  refine Fc_newI (N := 3) (by decide +kernel) (by decide) (by decide) (by decide) (Nat.le_of_ble_eq_true rfl) (Nat.le_of_ble_eq_true rfl) (by rw [lx (n := 2) hz rfl]; omega) ?_
  refine Fc_cs (ax (xs' := .inr (6, [.null, .ref (z + 1), .null, .null, .int 0]) :: ([cJ 22] ++ [cI 3])) rfl) ?_
  refine Fc_ref (lx (n := 2) hz rfl) ?_
  refine Fc_nums (c2 := 2) (s2 := 25) rfl rfl ?_
  refine Fc_putF (kf := 2) (ty0 := tyX6) (ty := tyX6 2) (by decide +kernel) (gx (k := 0) hz rfl) rfl in_6 tyX6_ok nmX6 (by decide) lf_X6_15 rfl rfl (by decide +kernel) (fun _ => rfl) (fun _ => rfl) (Nat.le_of_ble_eq_true rfl) ?_
  refine Fc_cs (sx (k := 0) (xs' := .inr (6, [.null, .ref (z + 1), .ref (z + 2), .null, .int 0]) :: ([cJ 22] ++ [cI 3])) hz rfl) ?_
  refine Fc_aload_n (q := 0) (i := 0) 0 (by decide +kernel) rfl rfl ?_
  refine Fc_iconst (i := 2) (v := 2) (by decide +kernel) (by decide) ?_
  refine Fc_newI (N := 2) (by decide +kernel) (by decide) (by decide) (by decide) (Nat.le_of_ble_eq_true rfl) (Nat.le_of_ble_eq_true rfl) (by rw [lx (n := 3) hz rfl]; omega) ?_
  refine Fc_cs (ax (xs' := .inr (6, [.null, .ref (z + 1), .ref (z + 2), .null, .int 0]) :: ([cJ 22] ++ [cI 3] ++ [cI 2])) rfl) ?_
  refine Fc_ref (lx (n := 3) hz rfl) ?_
  refine Fc_nums (c2 := 3) (s2 := 27) rfl rfl ?_
  refine Fc_putF (kf := 3) (ty0 := tyX6) (ty := tyX6 3) (by decide +kernel) (gx (k := 0) hz rfl) rfl in_6 tyX6_ok nmX6 (by decide) lf_X6_19 rfl rfl (by decide +kernel) (fun _ => rfl) (fun _ => rfl) (Nat.le_of_ble_eq_true rfl) ?_
  refine Fc_cs (sx (k := 0) (xs' := .inr (6, [.null, .ref (z + 1), .ref (z + 2), .ref (z + 3), .int 0]) :: ([cJ 22] ++ [cI 3] ++ [cI 2])) hz rfl) ?_
  refine Fc_aload_n (q := 0) (i := 0) 0 (by decide +kernel) rfl rfl ?_
  refine Fc_aload_n (q := 1) (i := 1) 1 (by decide +kernel) rfl rfl ?_
  refine Fc_putF (kf := 0) (ty0 := tyX6) (ty := tyX6 0) (by decide +kernel) (gx (k := 0) hz rfl) rfl in_6 tyX6_ok nmX6 (by decide) lf_X6_22 rfl rfl (by decide +kernel) (fun _ => rfl) (fun _ => rfl) (Nat.le_of_ble_eq_true rfl) ?_
  refine Fc_cs (sx (k := 0) (xs' := .inr (6, [.ref t0, .ref (z + 1), .ref (z + 2), .ref (z + 3), .int 0]) :: ([cJ 22] ++ [cI 3] ++ [cI 2])) hz rfl) ?_
  exact Fc_vret (by decide +kernel) (Nat.le_refl _) (Nat.le_refl _) rfl
def C_X4_init (z : Nat) (t0 : Nat) : List PE := .inr (4, [.ref t0, .ref (z + 1), .ref (z + 2), .int 0]) :: ([cI 3] ++ [cI 2])
set_option maxRecDepth 20000 in
theorem k_X4_init {z : Nat} {t0 : Nat} (ht0 : t0 < z) : ∀ e ∈ C_X4_init z t0, okE (z + 3) e := by
  unfold C_X4_init
  exact ok_cons (by intro v hv; simp only [List.mem_cons, List.not_mem_nil, or_false] at hv; rcases hv with rfl | rfl | rfl | rfl <;> first | trivial | exact Nat.add_lt_add_left (by decide) _ | exact Nat.lt_of_lt_of_le (by assumption) (Nat.le_add_right _ _)) (ok_app (ok_1 trivial) (ok_1 trivial))
set_option maxRecDepth 20000 in
set_option maxHeartbeats 4000000 in
theorem c_X4_init {pre : List PE} {z : Nat} {t0 : Nat} (hz : pre.length = z) (h3 : z + 3 < 300) (hok : okC pre) (ht0 : t0 < z) : EvC 1 2 5 m_X4_init [.ref z, .ref t0] (pre ++ [.inr (4, [.null, .null, .null, .int 0])]) (pre ++ C_X4_init z t0) := by
  refine EvC_of_Fc (by decide +kernel) rfl rfl (Nat.le_of_ble_eq_true rfl) (by rw [lx (n := 1) hz rfl]; omega) (okp (n := 1) hz rfl hok (by simp [okE, okV])) (by intro q hq; simp only [lv_args, List.mem_cons, List.not_mem_nil, or_false] at hq; rw [lx (n := 1) hz rfl]; rcases hq with rfl | rfl <;> (show _ < z + 1; omega)) ?_
  show Fc (pre ++ ([.inr (4, [.null, .null, .null, .int 0])] : List PE)).length 1 2 5 0 0 m_X4_init 0 [(0, .ref z), (1, .ref t0)] [] (pre ++ [.inr (4, [.null, .null, .null, .int 0])]) _
  refine Fc_aload_n (q := 0) (i := 0) 0 (by decide +kernel) rfl rfl ?_
  refine Fc_objInit (by decide +kernel) mo_X4_3 oi_1 oi_2 (by decide) (Nat.le_of_ble_eq_true rfl) ?_
  refine Fc_aload_n (q := 0) (i := 0) 0 (by decide +kernel) rfl rfl ?_
  refine Fc_iconst (i := 3) (v := 3) (by decide +kernel) (by decide) ?_
  refine Fc_newI (N := 3) (by decide +kernel) (by decide) (by decide) (by decide) (Nat.le_of_ble_eq_true rfl) (Nat.le_of_ble_eq_true rfl) (by rw [lx (n := 1) hz rfl]; omega) ?_
  refine Fc_cs (ax (xs' := .inr (4, [.null, .null, .null, .int 0]) :: ([cI 3])) rfl) ?_
  refine Fc_ref (lx (n := 1) hz rfl) ?_
  refine Fc_nums (c2 := 1) (s2 := 3) rfl rfl ?_
  refine Fc_putF (kf := 1) (ty0 := tyX4) (ty := tyX4 1) (by decide +kernel) (gx (k := 0) hz rfl) rfl in_4 tyX4_ok nmX4 (by decide) lf_X4_11 rfl rfl (by decide +kernel) (fun _ => rfl) (fun _ => rfl) (Nat.le_of_ble_eq_true rfl) ?_
  refine Fc_cs (sx (k := 0) (xs' := .inr (4, [.null, .ref (z + 1), .null, .int 0]) :: ([cI 3])) hz rfl) ?_
  refine Fc_aload_n (q := 0) (i := 0) 0 (by decide +kernel) rfl rfl ?_
  refine Fc_iconst (i := 2) (v := 2) (by decide +kernel) (by decide) ?_
  refine Fc_newI (N := 2) (by decide +kernel) (by decide) (by decide) (by decide) (Nat.le_of_ble_eq_true rfl) (Nat.le_of_ble_eq_true rfl) (by rw [lx (n := 2) hz rfl]; omega) ?_
  refine Fc_cs (ax (xs' := .inr (4, [.null, .ref (z + 1), .null, .int 0]) :: ([cI 3] ++ [cI 2])) rfl) ?_
  refine Fc_ref (lx (n := 2) hz rfl) ?_
  refine Fc_nums (c2 := 2) (s2 := 5) rfl rfl ?_
  refine Fc_putF (kf := 2) (ty0 := tyX4) (ty := tyX4 2) (by decide +kernel) (gx (k := 0) hz rfl) rfl in_4 tyX4_ok nmX4 (by decide) lf_X4_15 rfl rfl (by decide +kernel) (fun _ => rfl) (fun _ => rfl) (Nat.le_of_ble_eq_true rfl) ?_
  refine Fc_cs (sx (k := 0) (xs' := .inr (4, [.null, .ref (z + 1), .ref (z + 2), .int 0]) :: ([cI 3] ++ [cI 2])) hz rfl) ?_
  refine Fc_aload_n (q := 0) (i := 0) 0 (by decide +kernel) rfl rfl ?_
  refine Fc_aload_n (q := 1) (i := 1) 1 (by decide +kernel) rfl rfl ?_
  refine Fc_putF (kf := 0) (ty0 := tyX4) (ty := tyX4 0) (by decide +kernel) (gx (k := 0) hz rfl) rfl in_4 tyX4_ok nmX4 (by decide) lf_X4_18 rfl rfl (by decide +kernel) (fun _ => rfl) (fun _ => rfl) (Nat.le_of_ble_eq_true rfl) ?_
  refine Fc_cs (sx (k := 0) (xs' := .inr (4, [.ref t0, .ref (z + 1), .ref (z + 2), .int 0]) :: ([cI 3] ++ [cI 2])) hz rfl) ?_
  exact Fc_vret (by decide +kernel) (Nat.le_refl _) (Nat.le_refl _) rfl
def C_X0_init (z : Nat) (t0 : Nat) : List PE := .inr (0, [.ref t0, .ref (z + 1), .ref (z + 2), .int 0, .int 0, .int 0, .int 0, .int 0, .int 0]) :: ([cI 60] ++ [cI 60])
set_option maxRecDepth 20000 in
theorem k_X0_init {z : Nat} {t0 : Nat} (ht0 : t0 < z) : ∀ e ∈ C_X0_init z t0, okE (z + 3) e := by
  unfold C_X0_init
  exact ok_cons (by intro v hv; simp only [List.mem_cons, List.not_mem_nil, or_false] at hv; rcases hv with rfl | rfl | rfl | rfl | rfl | rfl | rfl | rfl | rfl <;> first | trivial | exact Nat.add_lt_add_left (by decide) _ | exact Nat.lt_of_lt_of_le (by assumption) (Nat.le_add_right _ _)) (ok_app (ok_1 trivial) (ok_1 trivial))
set_option maxRecDepth 20000 in
set_option maxHeartbeats 4000000 in
theorem c_X0_init {pre : List PE} {z : Nat} {t0 : Nat} (hz : pre.length = z) (h3 : z + 3 < 300) (hok : okC pre) (ht0 : t0 < z) : EvC 1 2 120 m_X0_init [.ref z, .ref t0] (pre ++ [.inr (0, [.null, .null, .null, .int 0, .int 0, .int 0, .int 0, .int 0, .int 0])]) (pre ++ C_X0_init z t0) := by
  refine EvC_of_Fc (by decide +kernel) rfl rfl (Nat.le_of_ble_eq_true rfl) (by rw [lx (n := 1) hz rfl]; omega) (okp (n := 1) hz rfl hok (by simp [okE, okV])) (by intro q hq; simp only [lv_args, List.mem_cons, List.not_mem_nil, or_false] at hq; rw [lx (n := 1) hz rfl]; rcases hq with rfl | rfl <;> (show _ < z + 1; omega)) ?_
  show Fc (pre ++ ([.inr (0, [.null, .null, .null, .int 0, .int 0, .int 0, .int 0, .int 0, .int 0])] : List PE)).length 1 2 120 0 0 m_X0_init 0 [(0, .ref z), (1, .ref t0)] [] (pre ++ [.inr (0, [.null, .null, .null, .int 0, .int 0, .int 0, .int 0, .int 0, .int 0])]) _
  refine Fc_aload_n (q := 0) (i := 0) 0 (by decide +kernel) rfl rfl ?_
  refine Fc_objInit (by decide +kernel) mo_X0_3 oi_1 oi_2 (by decide) (Nat.le_of_ble_eq_true rfl) ?_
  refine Fc_aload_n (q := 0) (i := 0) 0 (by decide +kernel) rfl rfl ?_
  refine Fc_bipush (i := 60) (v := 60) (by decide +kernel) (by decide) ?_
  refine Fc_newI (N := 60) (by decide +kernel) (by decide) (by decide) (by decide) (Nat.le_of_ble_eq_true rfl) (Nat.le_of_ble_eq_true rfl) (by rw [lx (n := 1) hz rfl]; omega) ?_
  refine Fc_cs (ax (xs' := .inr (0, [.null, .null, .null, .int 0, .int 0, .int 0, .int 0, .int 0, .int 0]) :: ([cI 60])) rfl) ?_
  refine Fc_ref (lx (n := 1) hz rfl) ?_
  refine Fc_nums (c2 := 1) (s2 := 60) rfl rfl ?_
  refine Fc_putF (kf := 1) (ty0 := tyX0) (ty := tyX0 1) (by decide +kernel) (gx (k := 0) hz rfl) rfl in_0 tyX0_ok nmX0 (by decide) lf_X0_9 rfl rfl (by decide +kernel) (fun _ => rfl) (fun _ => rfl) (Nat.le_of_ble_eq_true rfl) ?_
  refine Fc_cs (sx (k := 0) (xs' := .inr (0, [.null, .ref (z + 1), .null, .int 0, .int 0, .int 0, .int 0, .int 0, .int 0]) :: ([cI 60])) hz rfl) ?_
  refine Fc_aload_n (q := 0) (i := 0) 0 (by decide +kernel) rfl rfl ?_
  refine Fc_bipush (i := 60) (v := 60) (by decide +kernel) (by decide) ?_
  refine Fc_newI (N := 60) (by decide +kernel) (by decide) (by decide) (by decide) (Nat.le_of_ble_eq_true rfl) (Nat.le_of_ble_eq_true rfl) (by rw [lx (n := 2) hz rfl]; omega) ?_
  refine Fc_cs (ax (xs' := .inr (0, [.null, .ref (z + 1), .null, .int 0, .int 0, .int 0, .int 0, .int 0, .int 0]) :: ([cI 60] ++ [cI 60])) rfl) ?_
  refine Fc_ref (lx (n := 2) hz rfl) ?_
  refine Fc_nums (c2 := 2) (s2 := 120) rfl rfl ?_
  refine Fc_putF (kf := 2) (ty0 := tyX0) (ty := tyX0 2) (by decide +kernel) (gx (k := 0) hz rfl) rfl in_0 tyX0_ok nmX0 (by decide) lf_X0_15 rfl rfl (by decide +kernel) (fun _ => rfl) (fun _ => rfl) (Nat.le_of_ble_eq_true rfl) ?_
  refine Fc_cs (sx (k := 0) (xs' := .inr (0, [.null, .ref (z + 1), .ref (z + 2), .int 0, .int 0, .int 0, .int 0, .int 0, .int 0]) :: ([cI 60] ++ [cI 60])) hz rfl) ?_
  refine Fc_aload_n (q := 0) (i := 0) 0 (by decide +kernel) rfl rfl ?_
  refine Fc_aload_n (q := 1) (i := 1) 1 (by decide +kernel) rfl rfl ?_
  refine Fc_putF (kf := 0) (ty0 := tyX0) (ty := tyX0 0) (by decide +kernel) (gx (k := 0) hz rfl) rfl in_0 tyX0_ok nmX0 (by decide) lf_X0_18 rfl rfl (by decide +kernel) (fun _ => rfl) (fun _ => rfl) (Nat.le_of_ble_eq_true rfl) ?_
  refine Fc_cs (sx (k := 0) (xs' := .inr (0, [.ref t0, .ref (z + 1), .ref (z + 2), .int 0, .int 0, .int 0, .int 0, .int 0, .int 0]) :: ([cI 60] ++ [cI 60])) hz rfl) ?_
  exact Fc_vret (by decide +kernel) (Nat.le_refl _) (Nat.le_refl _) rfl
def C_X7_init (z : Nat) (t0 : Nat) : List PE := .inr (7, [.ref t0, .ref (z + 1), .ref (z + 2), .ref (z + 3), .ref (z + 4), .ref (z + 5), .ref (z + 6), .int 0]) :: ([cI 30] ++ [cI 60] ++ [cI 30] ++ [cI 150] ++ [cI 60] ++ [cI 60])
set_option maxRecDepth 20000 in
theorem k_X7_init {z : Nat} {t0 : Nat} (ht0 : t0 < z) : ∀ e ∈ C_X7_init z t0, okE (z + 7) e := by
  unfold C_X7_init
  exact ok_cons (by intro v hv; simp only [List.mem_cons, List.not_mem_nil, or_false] at hv; rcases hv with rfl | rfl | rfl | rfl | rfl | rfl | rfl | rfl <;> first | trivial | exact Nat.add_lt_add_left (by decide) _ | exact Nat.lt_of_lt_of_le (by assumption) (Nat.le_add_right _ _)) (ok_app (ok_app (ok_app (ok_app (ok_app (ok_1 trivial) (ok_1 trivial)) (ok_1 trivial)) (ok_1 trivial)) (ok_1 trivial)) (ok_1 trivial))
set_option maxRecDepth 20000 in
set_option maxHeartbeats 4000000 in
theorem c_X7_init {pre : List PE} {z : Nat} {t0 : Nat} (hz : pre.length = z) (h3 : z + 7 < 300) (hok : okC pre) (ht0 : t0 < z) : EvC 1 6 390 m_X7_init [.ref z, .ref t0] (pre ++ [.inr (7, [.null, .null, .null, .null, .null, .null, .null, .int 0])]) (pre ++ C_X7_init z t0) := by
  refine EvC_of_Fc (by decide +kernel) rfl rfl (Nat.le_of_ble_eq_true rfl) (by rw [lx (n := 1) hz rfl]; omega) (okp (n := 1) hz rfl hok (by simp [okE, okV])) (by intro q hq; simp only [lv_args, List.mem_cons, List.not_mem_nil, or_false] at hq; rw [lx (n := 1) hz rfl]; rcases hq with rfl | rfl <;> (show _ < z + 1; omega)) ?_
  show Fc (pre ++ ([.inr (7, [.null, .null, .null, .null, .null, .null, .null, .int 0])] : List PE)).length 1 6 390 0 0 m_X7_init 0 [(0, .ref z), (1, .ref t0)] [] (pre ++ [.inr (7, [.null, .null, .null, .null, .null, .null, .null, .int 0])]) _
  refine Fc_aload_n (q := 0) (i := 0) 0 (by decide +kernel) rfl rfl ?_
  refine Fc_objInit (by decide +kernel) mo_X7_3 oi_1 oi_2 (by decide) (Nat.le_of_ble_eq_true rfl) ?_
  refine Fc_aload_n (q := 0) (i := 0) 0 (by decide +kernel) rfl rfl ?_
  refine Fc_bipush (i := 30) (v := 30) (by decide +kernel) (by decide) ?_
  refine Fc_newI (N := 30) (by decide +kernel) (by decide) (by decide) (by decide) (Nat.le_of_ble_eq_true rfl) (Nat.le_of_ble_eq_true rfl) (by rw [lx (n := 1) hz rfl]; omega) ?_
  refine Fc_cs (ax (xs' := .inr (7, [.null, .null, .null, .null, .null, .null, .null, .int 0]) :: ([cI 30])) rfl) ?_
  refine Fc_ref (lx (n := 1) hz rfl) ?_
  refine Fc_nums (c2 := 1) (s2 := 30) rfl rfl ?_
  refine Fc_putF (kf := 1) (ty0 := tyX7) (ty := tyX7 1) (by decide +kernel) (gx (k := 0) hz rfl) rfl in_7 tyX7_ok nmX7 (by decide) lf_X7_9 rfl rfl (by decide +kernel) (fun _ => rfl) (fun _ => rfl) (Nat.le_of_ble_eq_true rfl) ?_
  refine Fc_cs (sx (k := 0) (xs' := .inr (7, [.null, .ref (z + 1), .null, .null, .null, .null, .null, .int 0]) :: ([cI 30])) hz rfl) ?_
  refine Fc_aload_n (q := 0) (i := 0) 0 (by decide +kernel) rfl rfl ?_
  refine Fc_bipush (i := 60) (v := 60) (by decide +kernel) (by decide) ?_
  refine Fc_newI (N := 60) (by decide +kernel) (by decide) (by decide) (by decide) (Nat.le_of_ble_eq_true rfl) (Nat.le_of_ble_eq_true rfl) (by rw [lx (n := 2) hz rfl]; omega) ?_
  refine Fc_cs (ax (xs' := .inr (7, [.null, .ref (z + 1), .null, .null, .null, .null, .null, .int 0]) :: ([cI 30] ++ [cI 60])) rfl) ?_
  refine Fc_ref (lx (n := 2) hz rfl) ?_
  refine Fc_nums (c2 := 2) (s2 := 90) rfl rfl ?_
  refine Fc_putF (kf := 2) (ty0 := tyX7) (ty := tyX7 2) (by decide +kernel) (gx (k := 0) hz rfl) rfl in_7 tyX7_ok nmX7 (by decide) lf_X7_15 rfl rfl (by decide +kernel) (fun _ => rfl) (fun _ => rfl) (Nat.le_of_ble_eq_true rfl) ?_
  refine Fc_cs (sx (k := 0) (xs' := .inr (7, [.null, .ref (z + 1), .ref (z + 2), .null, .null, .null, .null, .int 0]) :: ([cI 30] ++ [cI 60])) hz rfl) ?_
  refine Fc_aload_n (q := 0) (i := 0) 0 (by decide +kernel) rfl rfl ?_
  refine Fc_bipush (i := 30) (v := 30) (by decide +kernel) (by decide) ?_
  refine Fc_newI (N := 30) (by decide +kernel) (by decide) (by decide) (by decide) (Nat.le_of_ble_eq_true rfl) (Nat.le_of_ble_eq_true rfl) (by rw [lx (n := 3) hz rfl]; omega) ?_
  refine Fc_cs (ax (xs' := .inr (7, [.null, .ref (z + 1), .ref (z + 2), .null, .null, .null, .null, .int 0]) :: ([cI 30] ++ [cI 60] ++ [cI 30])) rfl) ?_
  refine Fc_ref (lx (n := 3) hz rfl) ?_
  refine Fc_nums (c2 := 3) (s2 := 120) rfl rfl ?_
  refine Fc_putF (kf := 3) (ty0 := tyX7) (ty := tyX7 3) (by decide +kernel) (gx (k := 0) hz rfl) rfl in_7 tyX7_ok nmX7 (by decide) lf_X7_18 rfl rfl (by decide +kernel) (fun _ => rfl) (fun _ => rfl) (Nat.le_of_ble_eq_true rfl) ?_
  refine Fc_cs (sx (k := 0) (xs' := .inr (7, [.null, .ref (z + 1), .ref (z + 2), .ref (z + 3), .null, .null, .null, .int 0]) :: ([cI 30] ++ [cI 60] ++ [cI 30])) hz rfl) ?_
  refine Fc_aload_n (q := 0) (i := 0) 0 (by decide +kernel) rfl rfl ?_
  refine Fc_sipush (i := 150) (v := 150) (by decide +kernel) (by decide) ?_
  refine Fc_newI (N := 150) (by decide +kernel) (by decide) (by decide) (by decide) (Nat.le_of_ble_eq_true rfl) (Nat.le_of_ble_eq_true rfl) (by rw [lx (n := 4) hz rfl]; omega) ?_
  refine Fc_cs (ax (xs' := .inr (7, [.null, .ref (z + 1), .ref (z + 2), .ref (z + 3), .null, .null, .null, .int 0]) :: ([cI 30] ++ [cI 60] ++ [cI 30] ++ [cI 150])) rfl) ?_
  refine Fc_ref (lx (n := 4) hz rfl) ?_
  refine Fc_nums (c2 := 4) (s2 := 270) rfl rfl ?_
  refine Fc_putF (kf := 4) (ty0 := tyX7) (ty := tyX7 4) (by decide +kernel) (gx (k := 0) hz rfl) rfl in_7 tyX7_ok nmX7 (by decide) lf_X7_21 rfl rfl (by decide +kernel) (fun _ => rfl) (fun _ => rfl) (Nat.le_of_ble_eq_true rfl) ?_
  refine Fc_cs (sx (k := 0) (xs' := .inr (7, [.null, .ref (z + 1), .ref (z + 2), .ref (z + 3), .ref (z + 4), .null, .null, .int 0]) :: ([cI 30] ++ [cI 60] ++ [cI 30] ++ [cI 150])) hz rfl) ?_
  refine Fc_aload_n (q := 0) (i := 0) 0 (by decide +kernel) rfl rfl ?_
  refine Fc_bipush (i := 60) (v := 60) (by decide +kernel) (by decide) ?_
  refine Fc_newI (N := 60) (by decide +kernel) (by decide) (by decide) (by decide) (Nat.le_of_ble_eq_true rfl) (Nat.le_of_ble_eq_true rfl) (by rw [lx (n := 5) hz rfl]; omega) ?_
  refine Fc_cs (ax (xs' := .inr (7, [.null, .ref (z + 1), .ref (z + 2), .ref (z + 3), .ref (z + 4), .null, .null, .int 0]) :: ([cI 30] ++ [cI 60] ++ [cI 30] ++ [cI 150] ++ [cI 60])) rfl) ?_
  refine Fc_ref (lx (n := 5) hz rfl) ?_
  refine Fc_nums (c2 := 5) (s2 := 330) rfl rfl ?_
  refine Fc_putF (kf := 5) (ty0 := tyX7) (ty := tyX7 5) (by decide +kernel) (gx (k := 0) hz rfl) rfl in_7 tyX7_ok nmX7 (by decide) lf_X7_24 rfl rfl (by decide +kernel) (fun _ => rfl) (fun _ => rfl) (Nat.le_of_ble_eq_true rfl) ?_
  refine Fc_cs (sx (k := 0) (xs' := .inr (7, [.null, .ref (z + 1), .ref (z + 2), .ref (z + 3), .ref (z + 4), .ref (z + 5), .null, .int 0]) :: ([cI 30] ++ [cI 60] ++ [cI 30] ++ [cI 150] ++ [cI 60])) hz rfl) ?_
  refine Fc_aload_n (q := 0) (i := 0) 0 (by decide +kernel) rfl rfl ?_
  refine Fc_bipush (i := 60) (v := 60) (by decide +kernel) (by decide) ?_
  refine Fc_newI (N := 60) (by decide +kernel) (by decide) (by decide) (by decide) (Nat.le_of_ble_eq_true rfl) (Nat.le_of_ble_eq_true rfl) (by rw [lx (n := 6) hz rfl]; omega) ?_
  refine Fc_cs (ax (xs' := .inr (7, [.null, .ref (z + 1), .ref (z + 2), .ref (z + 3), .ref (z + 4), .ref (z + 5), .null, .int 0]) :: ([cI 30] ++ [cI 60] ++ [cI 30] ++ [cI 150] ++ [cI 60] ++ [cI 60])) rfl) ?_
  refine Fc_ref (lx (n := 6) hz rfl) ?_
  refine Fc_nums (c2 := 6) (s2 := 390) rfl rfl ?_
  refine Fc_putF (kf := 6) (ty0 := tyX7) (ty := tyX7 6) (by decide +kernel) (gx (k := 0) hz rfl) rfl in_7 tyX7_ok nmX7 (by decide) lf_X7_27 rfl rfl (by decide +kernel) (fun _ => rfl) (fun _ => rfl) (Nat.le_of_ble_eq_true rfl) ?_
  refine Fc_cs (sx (k := 0) (xs' := .inr (7, [.null, .ref (z + 1), .ref (z + 2), .ref (z + 3), .ref (z + 4), .ref (z + 5), .ref (z + 6), .int 0]) :: ([cI 30] ++ [cI 60] ++ [cI 30] ++ [cI 150] ++ [cI 60] ++ [cI 60])) hz rfl) ?_
  refine Fc_aload_n (q := 0) (i := 0) 0 (by decide +kernel) rfl rfl ?_
  refine Fc_aload_n (q := 1) (i := 1) 1 (by decide +kernel) rfl rfl ?_
  refine Fc_putF (kf := 0) (ty0 := tyX7) (ty := tyX7 0) (by decide +kernel) (gx (k := 0) hz rfl) rfl in_7 tyX7_ok nmX7 (by decide) lf_X7_30 rfl rfl (by decide +kernel) (fun _ => rfl) (fun _ => rfl) (Nat.le_of_ble_eq_true rfl) ?_
  refine Fc_cs (sx (k := 0) (xs' := .inr (7, [.ref t0, .ref (z + 1), .ref (z + 2), .ref (z + 3), .ref (z + 4), .ref (z + 5), .ref (z + 6), .int 0]) :: ([cI 30] ++ [cI 60] ++ [cI 30] ++ [cI 150] ++ [cI 60] ++ [cI 60])) hz rfl) ?_
  exact Fc_vret (by decide +kernel) (Nat.le_refl _) (Nat.le_refl _) rfl
def C_X2_init (z : Nat) (t0 : Nat) : List PE := .inr (2, [.ref t0, .ref (z + 1), .int 0, .int 0, .int 0, .int 0, .int 0, .int 0, .int 0, .int 0]) :: ([cI 60])
set_option maxRecDepth 20000 in
theorem k_X2_init {z : Nat} {t0 : Nat} (ht0 : t0 < z) : ∀ e ∈ C_X2_init z t0, okE (z + 2) e := by
  unfold C_X2_init
  exact ok_cons (by intro v hv; simp only [List.mem_cons, List.not_mem_nil, or_false] at hv; rcases hv with rfl | rfl | rfl | rfl | rfl | rfl | rfl | rfl | rfl | rfl <;> first | trivial | exact Nat.add_lt_add_left (by decide) _ | exact Nat.lt_of_lt_of_le (by assumption) (Nat.le_add_right _ _)) (ok_1 trivial)
set_option maxRecDepth 20000 in
set_option maxHeartbeats 4000000 in
theorem c_X2_init {pre : List PE} {z : Nat} {t0 : Nat} (hz : pre.length = z) (h3 : z + 2 < 300) (hok : okC pre) (ht0 : t0 < z) : EvC 1 1 60 m_X2_init [.ref z, .ref t0] (pre ++ [.inr (2, [.null, .null, .int 0, .int 0, .int 0, .int 0, .int 0, .int 0, .int 0, .int 0])]) (pre ++ C_X2_init z t0) := by
  refine EvC_of_Fc (by decide +kernel) rfl rfl (Nat.le_of_ble_eq_true rfl) (by rw [lx (n := 1) hz rfl]; omega) (okp (n := 1) hz rfl hok (by simp [okE, okV])) (by intro q hq; simp only [lv_args, List.mem_cons, List.not_mem_nil, or_false] at hq; rw [lx (n := 1) hz rfl]; rcases hq with rfl | rfl <;> (show _ < z + 1; omega)) ?_
  show Fc (pre ++ ([.inr (2, [.null, .null, .int 0, .int 0, .int 0, .int 0, .int 0, .int 0, .int 0, .int 0])] : List PE)).length 1 1 60 0 0 m_X2_init 0 [(0, .ref z), (1, .ref t0)] [] (pre ++ [.inr (2, [.null, .null, .int 0, .int 0, .int 0, .int 0, .int 0, .int 0, .int 0, .int 0])]) _
  refine Fc_aload_n (q := 0) (i := 0) 0 (by decide +kernel) rfl rfl ?_
  refine Fc_objInit (by decide +kernel) mo_X2_3 oi_1 oi_2 (by decide) (Nat.le_of_ble_eq_true rfl) ?_
  refine Fc_aload_n (q := 0) (i := 0) 0 (by decide +kernel) rfl rfl ?_
  refine Fc_bipush (i := 60) (v := 60) (by decide +kernel) (by decide) ?_
  refine Fc_newI (N := 60) (by decide +kernel) (by decide) (by decide) (by decide) (Nat.le_of_ble_eq_true rfl) (Nat.le_of_ble_eq_true rfl) (by rw [lx (n := 1) hz rfl]; omega) ?_
  refine Fc_cs (ax (xs' := .inr (2, [.null, .null, .int 0, .int 0, .int 0, .int 0, .int 0, .int 0, .int 0, .int 0]) :: ([cI 60])) rfl) ?_
  refine Fc_ref (lx (n := 1) hz rfl) ?_
  refine Fc_nums (c2 := 1) (s2 := 60) rfl rfl ?_
  refine Fc_putF (kf := 1) (ty0 := tyX2) (ty := tyX2 1) (by decide +kernel) (gx (k := 0) hz rfl) rfl in_2 tyX2_ok nmX2 (by decide) lf_X2_11 rfl rfl (by decide +kernel) (fun _ => rfl) (fun _ => rfl) (Nat.le_of_ble_eq_true rfl) ?_
  refine Fc_cs (sx (k := 0) (xs' := .inr (2, [.null, .ref (z + 1), .int 0, .int 0, .int 0, .int 0, .int 0, .int 0, .int 0, .int 0]) :: ([cI 60])) hz rfl) ?_
  refine Fc_aload_n (q := 0) (i := 0) 0 (by decide +kernel) rfl rfl ?_
  refine Fc_aload_n (q := 1) (i := 1) 1 (by decide +kernel) rfl rfl ?_
  refine Fc_putF (kf := 0) (ty0 := tyX2) (ty := tyX2 0) (by decide +kernel) (gx (k := 0) hz rfl) rfl in_2 tyX2_ok nmX2 (by decide) lf_X2_17 rfl rfl (by decide +kernel) (fun _ => rfl) (fun _ => rfl) (Nat.le_of_ble_eq_true rfl) ?_
  refine Fc_cs (sx (k := 0) (xs' := .inr (2, [.ref t0, .ref (z + 1), .int 0, .int 0, .int 0, .int 0, .int 0, .int 0, .int 0, .int 0]) :: ([cI 60])) hz rfl) ?_
  exact Fc_vret (by decide +kernel) (Nat.le_refl _) (Nat.le_refl _) rfl
def C_X5_init (z : Nat) : List PE := .inr (5, [.int 0, .int 0, .int 0, .int 1, .int 10, .int 0, .int 0, .int 0, .int 0, .int 0, .int 0, .ref (z + 1), .ref (z + 2), .ref (z + 3), .ref (z + 4), .ref (z + 5), .ref (z + 6), .ref (z + 7)]) :: ([cI 30] ++ [cJ 6] ++ [cI 6] ++ [cI 36] ++ [cI 20] ++ [cI 60] ++ (C_X3_init (z + 7)))
set_option maxRecDepth 20000 in
theorem k_X5_init {z : Nat} : ∀ e ∈ C_X5_init z, okE (z + 13) e := by
  unfold C_X5_init
  exact ok_cons (by intro v hv; simp only [List.mem_cons, List.not_mem_nil, or_false] at hv; rcases hv with rfl | rfl | rfl | rfl | rfl | rfl | rfl | rfl | rfl | rfl | rfl | rfl | rfl | rfl | rfl | rfl | rfl | rfl <;> first | trivial | exact Nat.add_lt_add_left (by decide) _ | exact Nat.lt_of_lt_of_le (by assumption) (Nat.le_add_right _ _)) (ok_app (ok_app (ok_app (ok_app (ok_app (ok_app (ok_1 trivial) (ok_1 trivial)) (ok_1 trivial)) (ok_1 trivial)) (ok_1 trivial)) (ok_1 trivial)) (ok_m (k_X3_init) (by omega)))
set_option maxRecDepth 20000 in
set_option maxHeartbeats 4000000 in
theorem c_X5_init {pre : List PE} {z : Nat} (hz : pre.length = z) (h3 : z + 13 < 300) (hok : okC pre) : EvC 2 12 466 m_X5_init [.ref z] (pre ++ [.inr (5, [.int 0, .int 0, .int 0, .int 0, .int 0, .int 0, .int 0, .int 0, .int 0, .int 0, .int 0, .null, .null, .null, .null, .null, .null, .null])]) (pre ++ C_X5_init z) := by
  refine EvC_of_Fc (by decide +kernel) rfl rfl (Nat.le_of_ble_eq_true rfl) (by rw [lx (n := 1) hz rfl]; omega) (okp (n := 1) hz rfl hok (by simp [okE, okV])) (by intro q hq; simp only [lv_args, List.mem_cons, List.not_mem_nil, or_false] at hq; rw [lx (n := 1) hz rfl]; subst hq; show z < z + 1; omega) ?_
  show Fc (pre ++ ([.inr (5, [.int 0, .int 0, .int 0, .int 0, .int 0, .int 0, .int 0, .int 0, .int 0, .int 0, .int 0, .null, .null, .null, .null, .null, .null, .null])] : List PE)).length 2 12 466 0 0 m_X5_init 0 [(0, .ref z)] [] (pre ++ [.inr (5, [.int 0, .int 0, .int 0, .int 0, .int 0, .int 0, .int 0, .int 0, .int 0, .int 0, .int 0, .null, .null, .null, .null, .null, .null, .null])]) _
  refine Fc_aload_n (q := 0) (i := 0) 0 (by decide +kernel) rfl rfl ?_
  refine Fc_objInit (by decide +kernel) mo_X5_3 oi_1 oi_2 (by decide) (Nat.le_of_ble_eq_true rfl) ?_
  refine Fc_aload_n (q := 0) (i := 0) 0 (by decide +kernel) rfl rfl ?_
  refine Fc_bipush (i := 30) (v := 30) (by decide +kernel) (by decide) ?_
  refine Fc_newI (N := 30) (by decide +kernel) (by decide) (by decide) (by decide) (Nat.le_of_ble_eq_true rfl) (Nat.le_of_ble_eq_true rfl) (by rw [lx (n := 1) hz rfl]; omega) ?_
  refine Fc_cs (ax (xs' := .inr (5, [.int 0, .int 0, .int 0, .int 0, .int 0, .int 0, .int 0, .int 0, .int 0, .int 0, .int 0, .null, .null, .null, .null, .null, .null, .null]) :: ([cI 30])) rfl) ?_
  refine Fc_ref (lx (n := 1) hz rfl) ?_
  refine Fc_nums (c2 := 1) (s2 := 30) rfl rfl ?_
  refine Fc_putF (kf := 11) (ty0 := tyX5) (ty := tyX5 11) (by decide +kernel) (gx (k := 0) hz rfl) rfl in_5 tyX5_ok nmX5 (by decide) lf_X5_9 rfl rfl (by decide +kernel) (fun _ => rfl) (fun _ => rfl) (Nat.le_of_ble_eq_true rfl) ?_
  refine Fc_cs (sx (k := 0) (xs' := .inr (5, [.int 0, .int 0, .int 0, .int 0, .int 0, .int 0, .int 0, .int 0, .int 0, .int 0, .int 0, .ref (z + 1), .null, .null, .null, .null, .null, .null]) :: ([cI 30])) hz rfl) ?_
  refine Fc_aload_n (q := 0) (i := 0) 0 (by decide +kernel) rfl rfl ?_
  refine Fc_bipush (i := 6) (v := 6) (by decide +kernel) (by decide) ?_
  refine Fc_newL (N := 6) (by decide +kernel) (by decide) (by decide) (by decide) (Nat.le_of_ble_eq_true rfl) (Nat.le_of_ble_eq_true rfl) (by rw [lx (n := 2) hz rfl]; omega) ?_
  refine Fc_cs (ax (xs' := .inr (5, [.int 0, .int 0, .int 0, .int 0, .int 0, .int 0, .int 0, .int 0, .int 0, .int 0, .int 0, .ref (z + 1), .null, .null, .null, .null, .null, .null]) :: ([cI 30] ++ [cJ 6])) rfl) ?_
  refine Fc_ref (lx (n := 2) hz rfl) ?_
  refine Fc_nums (c2 := 2) (s2 := 36) rfl rfl ?_
  refine Fc_putF (kf := 12) (ty0 := tyX5) (ty := tyX5 12) (by decide +kernel) (gx (k := 0) hz rfl) rfl in_5 tyX5_ok nmX5 (by decide) lf_X5_15 rfl rfl (by decide +kernel) (fun _ => rfl) (fun _ => rfl) (Nat.le_of_ble_eq_true rfl) ?_
  refine Fc_cs (sx (k := 0) (xs' := .inr (5, [.int 0, .int 0, .int 0, .int 0, .int 0, .int 0, .int 0, .int 0, .int 0, .int 0, .int 0, .ref (z + 1), .ref (z + 2), .null, .null, .null, .null, .null]) :: ([cI 30] ++ [cJ 6])) hz rfl) ?_
  refine Fc_aload_n (q := 0) (i := 0) 0 (by decide +kernel) rfl rfl ?_
  refine Fc_bipush (i := 6) (v := 6) (by decide +kernel) (by decide) ?_
  refine Fc_newI (N := 6) (by decide +kernel) (by decide) (by decide) (by decide) (Nat.le_of_ble_eq_true rfl) (Nat.le_of_ble_eq_true rfl) (by rw [lx (n := 3) hz rfl]; omega) ?_
  refine Fc_cs (ax (xs' := .inr (5, [.int 0, .int 0, .int 0, .int 0, .int 0, .int 0, .int 0, .int 0, .int 0, .int 0, .int 0, .ref (z + 1), .ref (z + 2), .null, .null, .null, .null, .null]) :: ([cI 30] ++ [cJ 6] ++ [cI 6])) rfl) ?_
  refine Fc_ref (lx (n := 3) hz rfl) ?_
  refine Fc_nums (c2 := 3) (s2 := 42) rfl rfl ?_
  refine Fc_putF (kf := 13) (ty0 := tyX5) (ty := tyX5 13) (by decide +kernel) (gx (k := 0) hz rfl) rfl in_5 tyX5_ok nmX5 (by decide) lf_X5_19 rfl rfl (by decide +kernel) (fun _ => rfl) (fun _ => rfl) (Nat.le_of_ble_eq_true rfl) ?_
  refine Fc_cs (sx (k := 0) (xs' := .inr (5, [.int 0, .int 0, .int 0, .int 0, .int 0, .int 0, .int 0, .int 0, .int 0, .int 0, .int 0, .ref (z + 1), .ref (z + 2), .ref (z + 3), .null, .null, .null, .null]) :: ([cI 30] ++ [cJ 6] ++ [cI 6])) hz rfl) ?_
  refine Fc_aload_n (q := 0) (i := 0) 0 (by decide +kernel) rfl rfl ?_
  refine Fc_bipush (i := 36) (v := 36) (by decide +kernel) (by decide) ?_
  refine Fc_newI (N := 36) (by decide +kernel) (by decide) (by decide) (by decide) (Nat.le_of_ble_eq_true rfl) (Nat.le_of_ble_eq_true rfl) (by rw [lx (n := 4) hz rfl]; omega) ?_
  refine Fc_cs (ax (xs' := .inr (5, [.int 0, .int 0, .int 0, .int 0, .int 0, .int 0, .int 0, .int 0, .int 0, .int 0, .int 0, .ref (z + 1), .ref (z + 2), .ref (z + 3), .null, .null, .null, .null]) :: ([cI 30] ++ [cJ 6] ++ [cI 6] ++ [cI 36])) rfl) ?_
  refine Fc_ref (lx (n := 4) hz rfl) ?_
  refine Fc_nums (c2 := 4) (s2 := 78) rfl rfl ?_
  refine Fc_putF (kf := 14) (ty0 := tyX5) (ty := tyX5 14) (by decide +kernel) (gx (k := 0) hz rfl) rfl in_5 tyX5_ok nmX5 (by decide) lf_X5_22 rfl rfl (by decide +kernel) (fun _ => rfl) (fun _ => rfl) (Nat.le_of_ble_eq_true rfl) ?_
  refine Fc_cs (sx (k := 0) (xs' := .inr (5, [.int 0, .int 0, .int 0, .int 0, .int 0, .int 0, .int 0, .int 0, .int 0, .int 0, .int 0, .ref (z + 1), .ref (z + 2), .ref (z + 3), .ref (z + 4), .null, .null, .null]) :: ([cI 30] ++ [cJ 6] ++ [cI 6] ++ [cI 36])) hz rfl) ?_
  refine Fc_aload_n (q := 0) (i := 0) 0 (by decide +kernel) rfl rfl ?_
  refine Fc_bipush (i := 20) (v := 20) (by decide +kernel) (by decide) ?_
  refine Fc_newI (N := 20) (by decide +kernel) (by decide) (by decide) (by decide) (Nat.le_of_ble_eq_true rfl) (Nat.le_of_ble_eq_true rfl) (by rw [lx (n := 5) hz rfl]; omega) ?_
  refine Fc_cs (ax (xs' := .inr (5, [.int 0, .int 0, .int 0, .int 0, .int 0, .int 0, .int 0, .int 0, .int 0, .int 0, .int 0, .ref (z + 1), .ref (z + 2), .ref (z + 3), .ref (z + 4), .null, .null, .null]) :: ([cI 30] ++ [cJ 6] ++ [cI 6] ++ [cI 36] ++ [cI 20])) rfl) ?_
  refine Fc_ref (lx (n := 5) hz rfl) ?_
  refine Fc_nums (c2 := 5) (s2 := 98) rfl rfl ?_
  refine Fc_putF (kf := 15) (ty0 := tyX5) (ty := tyX5 15) (by decide +kernel) (gx (k := 0) hz rfl) rfl in_5 tyX5_ok nmX5 (by decide) lf_X5_25 rfl rfl (by decide +kernel) (fun _ => rfl) (fun _ => rfl) (Nat.le_of_ble_eq_true rfl) ?_
  refine Fc_cs (sx (k := 0) (xs' := .inr (5, [.int 0, .int 0, .int 0, .int 0, .int 0, .int 0, .int 0, .int 0, .int 0, .int 0, .int 0, .ref (z + 1), .ref (z + 2), .ref (z + 3), .ref (z + 4), .ref (z + 5), .null, .null]) :: ([cI 30] ++ [cJ 6] ++ [cI 6] ++ [cI 36] ++ [cI 20])) hz rfl) ?_
  refine Fc_aload_n (q := 0) (i := 0) 0 (by decide +kernel) rfl rfl ?_
  refine Fc_bipush (i := 60) (v := 60) (by decide +kernel) (by decide) ?_
  refine Fc_newI (N := 60) (by decide +kernel) (by decide) (by decide) (by decide) (Nat.le_of_ble_eq_true rfl) (Nat.le_of_ble_eq_true rfl) (by rw [lx (n := 6) hz rfl]; omega) ?_
  refine Fc_cs (ax (xs' := .inr (5, [.int 0, .int 0, .int 0, .int 0, .int 0, .int 0, .int 0, .int 0, .int 0, .int 0, .int 0, .ref (z + 1), .ref (z + 2), .ref (z + 3), .ref (z + 4), .ref (z + 5), .null, .null]) :: ([cI 30] ++ [cJ 6] ++ [cI 6] ++ [cI 36] ++ [cI 20] ++ [cI 60])) rfl) ?_
  refine Fc_ref (lx (n := 6) hz rfl) ?_
  refine Fc_nums (c2 := 6) (s2 := 158) rfl rfl ?_
  refine Fc_putF (kf := 16) (ty0 := tyX5) (ty := tyX5 16) (by decide +kernel) (gx (k := 0) hz rfl) rfl in_5 tyX5_ok nmX5 (by decide) lf_X5_28 rfl rfl (by decide +kernel) (fun _ => rfl) (fun _ => rfl) (Nat.le_of_ble_eq_true rfl) ?_
  refine Fc_cs (sx (k := 0) (xs' := .inr (5, [.int 0, .int 0, .int 0, .int 0, .int 0, .int 0, .int 0, .int 0, .int 0, .int 0, .int 0, .ref (z + 1), .ref (z + 2), .ref (z + 3), .ref (z + 4), .ref (z + 5), .ref (z + 6), .null]) :: ([cI 30] ++ [cJ 6] ++ [cI 6] ++ [cI 36] ++ [cI 20] ++ [cI 60])) hz rfl) ?_
  refine Fc_aload_n (q := 0) (i := 0) 0 (by decide +kernel) rfl rfl ?_
  refine Fc_new (ci := 3) (fs := [.int 0, .int 0, .int 0, .null, .null, .null, .null, .null]) (by decide +kernel) rfl in_3 tyX3 tyX3_ok kl_X5_31 is_3 ini_X3 fd_3 (by simp [okV]) (Nat.le_of_ble_eq_true rfl) (Nat.le_of_ble_eq_true rfl) (by rw [lx (n := 7) hz rfl]; omega) ?_
  refine Fc_ref (lx (n := 7) hz rfl) ?_
  refine Fc_nums (c2 := 7) (s2 := 166) rfl rfl ?_
  refine Fc_dup (by decide +kernel) rfl ?_
  have hokc : okC (pre ++ (.inr (5, [.int 0, .int 0, .int 0, .int 0, .int 0, .int 0, .int 0, .int 0, .int 0, .int 0, .int 0, .ref (z + 1), .ref (z + 2), .ref (z + 3), .ref (z + 4), .ref (z + 5), .ref (z + 6), .null]) :: ([cI 30] ++ [cJ 6] ++ [cI 6] ++ [cI 36] ++ [cI 20] ++ [cI 60]))) := okp hz (n := 7) rfl hok (ok_cons (by intro v hv; simp only [List.mem_cons, List.not_mem_nil, or_false] at hv; rcases hv with rfl | rfl | rfl | rfl | rfl | rfl | rfl | rfl | rfl | rfl | rfl | rfl | rfl | rfl | rfl | rfl | rfl | rfl <;> first | trivial | exact Nat.add_lt_add_left (by decide) _ | exact Nat.lt_of_lt_of_le (by assumption) (Nat.le_add_right _ _)) (ok_app (ok_app (ok_app (ok_app (ok_app (ok_1 trivial) (ok_1 trivial)) (ok_1 trivial)) (ok_1 trivial)) (ok_1 trivial)) (ok_1 trivial)))
  refine Fc_ctorN (idx := 33) (ν := m_X3_init) (As := []) (st := [.ref (z + 7), .ref z]) (d' := 1) (mc' := 5) (ms' := 300) (zs := (pre ++ (.inr (5, [.int 0, .int 0, .int 0, .int 0, .int 0, .int 0, .int 0, .int 0, .int 0, .int 0, .int 0, .ref (z + 1), .ref (z + 2), .ref (z + 3), .ref (z + 4), .ref (z + 5), .ref (z + 6), .null]) :: ([cI 30] ++ [cJ 6] ++ [cI 6] ++ [cI 36] ++ [cI 20] ++ [cI 60]))) ++ (C_X3_init (z + 7))) (by decide +kernel) (by decide +kernel) cb_X3_init im_X3_init rfl rfl rfl (by decide) (Nat.le_of_ble_eq_true rfl) (Nat.le_of_ble_eq_true rfl) (Nat.le_of_ble_eq_true rfl) (c_X3_init (pre := pre ++ (.inr (5, [.int 0, .int 0, .int 0, .int 0, .int 0, .int 0, .int 0, .int 0, .int 0, .int 0, .int 0, .ref (z + 1), .ref (z + 2), .ref (z + 3), .ref (z + 4), .ref (z + 5), .ref (z + 6), .null]) :: ([cI 30] ++ [cJ 6] ++ [cI 6] ++ [cI 36] ++ [cI 20] ++ [cI 60]))) (lx (n := 7) hz rfl) (by omega) hokc) (by simp [C_X3_init]) (by rw [lx (n := 6) (lx (n := 7) hz rfl) rfl]; omega) (okp (lx (n := 7) hz rfl) (n := 6) rfl hokc (k_X3_init)) ?_
  refine Fc_cs (ax (xs' := .inr (5, [.int 0, .int 0, .int 0, .int 0, .int 0, .int 0, .int 0, .int 0, .int 0, .int 0, .int 0, .ref (z + 1), .ref (z + 2), .ref (z + 3), .ref (z + 4), .ref (z + 5), .ref (z + 6), .null]) :: ([cI 30] ++ [cJ 6] ++ [cI 6] ++ [cI 36] ++ [cI 20] ++ [cI 60] ++ (C_X3_init (z + 7)))) rfl) ?_
  refine Fc_nums (c2 := 12) (s2 := 466) rfl rfl ?_
  refine Fc_putF (kf := 17) (ty0 := tyX5) (ty := tyX5 17) (by decide +kernel) (gx (k := 0) hz rfl) rfl in_5 tyX5_ok nmX5 (by decide) lf_X5_34 rfl rfl (by decide +kernel) (fun _ => rfl) (fun _ => rfl) (Nat.le_of_ble_eq_true rfl) ?_
  refine Fc_cs (sx (k := 0) (xs' := .inr (5, [.int 0, .int 0, .int 0, .int 0, .int 0, .int 0, .int 0, .int 0, .int 0, .int 0, .int 0, .ref (z + 1), .ref (z + 2), .ref (z + 3), .ref (z + 4), .ref (z + 5), .ref (z + 6), .ref (z + 7)]) :: ([cI 30] ++ [cJ 6] ++ [cI 6] ++ [cI 36] ++ [cI 20] ++ [cI 60] ++ (C_X3_init (z + 7)))) hz rfl) ?_
  refine Fc_aload_n (q := 0) (i := 0) 0 (by decide +kernel) rfl rfl ?_
  refine Fc_iconst (i := 1) (v := 1) (by decide +kernel) (by decide) ?_
  refine Fc_put (kf := 3) (ty0 := tyX5) (ty := tyX5 3) (by decide +kernel) (gx (k := 0) hz rfl) rfl in_5 tyX5_ok nmX5 (by decide) lf_X5_38 rfl (by decide +kernel) (fun _ => rfl) (fun _ => rfl) (Nat.le_of_ble_eq_true rfl) ?_
  refine Fc_cs (sx (k := 0) (xs' := .inr (5, [.int 0, .int 0, .int 0, .int 1, .int 0, .int 0, .int 0, .int 0, .int 0, .int 0, .int 0, .ref (z + 1), .ref (z + 2), .ref (z + 3), .ref (z + 4), .ref (z + 5), .ref (z + 6), .ref (z + 7)]) :: ([cI 30] ++ [cJ 6] ++ [cI 6] ++ [cI 36] ++ [cI 20] ++ [cI 60] ++ (C_X3_init (z + 7)))) hz rfl) ?_
  refine Fc_aload_n (q := 0) (i := 0) 0 (by decide +kernel) rfl rfl ?_
  refine Fc_bipush (i := 10) (v := 10) (by decide +kernel) (by decide) ?_
  refine Fc_put (kf := 4) (ty0 := tyX5) (ty := tyX5 4) (by decide +kernel) (gx (k := 0) hz rfl) rfl in_5 tyX5_ok nmX5 (by decide) lf_X5_42 rfl (by decide +kernel) (fun _ => rfl) (fun _ => rfl) (Nat.le_of_ble_eq_true rfl) ?_
  refine Fc_cs (sx (k := 0) (xs' := .inr (5, [.int 0, .int 0, .int 0, .int 1, .int 10, .int 0, .int 0, .int 0, .int 0, .int 0, .int 0, .ref (z + 1), .ref (z + 2), .ref (z + 3), .ref (z + 4), .ref (z + 5), .ref (z + 6), .ref (z + 7)]) :: ([cI 30] ++ [cJ 6] ++ [cI 6] ++ [cI 36] ++ [cI 20] ++ [cI 60] ++ (C_X3_init (z + 7)))) hz rfl) ?_
  exact Fc_vret (by decide +kernel) (Nat.le_refl _) (Nat.le_refl _) rfl
