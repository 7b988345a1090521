/-! the walk from the entry to the loop's head -/
theorem ml_X11 : Cond.methodLink R_law 9 m_X11_init.1 ∈ TG := tg_1 24 (by decide +kernel) (by decide +kernel)
theorem ml_X12 : Cond.methodLink R_law 12 m_X12_init.1 ∈ TG := tg_6 218 (by decide +kernel) (by decide +kernel)
theorem cl_lX11 : Cond.classLink R_law 7 RX11 ∈ TG := tg_1 22 (by decide +kernel) (by decide +kernel)
theorem cl_lX12 : Cond.classLink R_law 10 RX12 ∈ TG := tg_6 216 (by decide +kernel) (by decide +kernel)
theorem okB1 : okC (C_X11_init 0) := fun e he => by rw [LEN_X11_init]; have := k_X11_init (z := 0) e he; exact this
theorem okB2 : okC csB := fun e he => by
  rw [csB_len]
  rcases List.mem_append.mp he with h | h
  · exact (k_X11_init (z := 0) e h).mono (by decide)
  · exact (k_X12_init (z := 111) e h).mono (by decide)
theorem d_law_0 : decode code 0 = .ok (.new 7, 3) := by decide +kernel
theorem d_law_3 : decode code 3 = .ok (.dup, 1) := by decide +kernel
theorem d_law_4 : decode code 4 = .ok (.invokespecial 9, 3) := by decide +kernel
theorem d_law_7 : decode code 7 = .ok (.astore_n 1, 1) := by decide +kernel
theorem d_law_8 : decode code 8 = .ok (.new 10, 3) := by decide +kernel
theorem d_law_11 : decode code 11 = .ok (.dup, 1) := by decide +kernel
theorem d_law_12 : decode code 12 = .ok (.invokespecial 12, 3) := by decide +kernel
theorem d_law_15 : decode code 15 = .ok (.astore_n 2, 1) := by decide +kernel
abbrev fs11 : List Value := [.int 0, .long 0, .long 0, .int 0, .int 0, .null, .null, .null, .null, .null, .null, .null, .null, .null, .null, .null, .null, .null, .null, .null]
abbrev fs12 : List Value := [.int 0, .int 0, .long 0, .long 0, .null, .null, .null, .null, .int 0, .int 0, .int 0, .int 0, .int 0, .int 0, .int 0, .int 0, .int 0, .int 0, .int 0, .long 0, .null, .null, .null, .null, .int 0, .int 0, .int 0, .null, .int 0, .int 0, .int 0, .null, .null, .null, .null, .null, .null, .null, .null, .null, .null, .null, .int 0, .int 0, .int 0, .int 0, .int 0, .int 0, .int 0, .int 0, .int 0]
theorem nr11 : ∀ v ∈ fs11, okV 0 v := by
  intro v hv
  simp only [fs11, List.mem_cons, List.not_mem_nil, or_false] at hv
  rcases hv with rfl | rfl | rfl | rfl | rfl | rfl | rfl | rfl | rfl | rfl | rfl | rfl | rfl | rfl | rfl | rfl | rfl | rfl | rfl | rfl <;> trivial
theorem nr12 : ∀ v ∈ fs12, okV 0 v := by
  have h : fs12.all (fun v => match v with | .ref _ => false | _ => true) = true := by decide +kernel
  intro v hv
  have := List.all_eq_true.mp h v hv
  cases v <;> first | trivial | cases this
theorem dv11 : ∀ j, j < 20 → defaultValue (tyX11 j) = vp_V fs11 j := by decide +kernel
theorem dv12 : ∀ j, j < 51 → defaultValue (tyX12 j) = vp_V fs12 j := by decide +kernel
section LS
variable {b0 N0 : Nat} {xs : Nat → Int32}
theorem law_open (k : Lw b0 N0 xs 16 [(2, .ref 200), (1, .ref 0), (0, .ref 700)] [] C0 S0) : Lc b0 N0 xs 0 0 0 [(0, .ref 700)] [] [] := by
  refine Lc_new (ci := 11) (fs := fs11) (N := 20) (C0 := RX11) (T := TX11) d_law_0 rfl in_11 tyX11 tyX11_ok cl_lX11 is_11 ini_X11 dv11 nr11 (by decide) (by decide) (by decide) ?_
  refine Lc_cs (cs' := [] ++ [.inr (11, fs11)]) rfl ?_
  refine Lc_pc 3 rfl (Lc_nums (c2 := 1) (s2 := 20) rfl rfl ?_)
  refine Lc_dup d_law_3 rfl ?_
  refine Lc_pc 4 rfl ?_
  refine Lc_ctor (ν := m_X11_init) (d' := 3) (mc' := 110) (ms' := 4893) (As := []) (st := [.ref 0]) (i := 0) (zs := [] ++ C_X11_init 0) d_law_4 ml_X11 cb_X11_init im_X11_init rfl rfl rfl (by decide) (Nat.le_of_ble_eq_true rfl) (by decide) (by decide) (c_X11_init (fun pre z h1 h2 h3 => c_X9_init h1 h2 h3) rfl (by decide) (fun e he => by cases he)) (by show 1 ≤ ([] ++ C_X11_init 0).length; rw [List.nil_append, LEN_X11_init]; decide) (by rw [List.nil_append, LEN_X11_init]; decide) (by rw [List.nil_append]; exact okB1) ?_
  refine Lc_cs (List.nil_append _) ?_
  refine Lc_pc 7 rfl (Lc_nums (c2 := 111) (s2 := 4913) rfl rfl ?_)
  refine Lc_astore_n (lv' := [(1, .ref 0), (0, .ref 700)]) d_law_7 rfl (by decide) rfl ?_
  refine Lc_pc 8 rfl ?_
  refine Lc_new (ci := 12) (fs := fs12) (N := 51) (C0 := RX12) (T := TX12) d_law_8 rfl in_12 tyX12 tyX12_ok cl_lX12 is_12 ini_X12 dv12 nr12 (by decide) (by decide) (by rw [LEN_X11_init]; decide) ?_
  rw [LEN_X11_init]
  refine Lc_pc 11 rfl (Lc_nums (c2 := 112) (s2 := 4964) rfl rfl ?_)
  refine Lc_dup d_law_11 rfl ?_
  refine Lc_pc 12 rfl ?_
  refine Lc_ctor (ν := m_X12_init) (d' := 1) (mc' := 20) (ms' := 7948) (As := []) (st := [.ref 111]) (i := 111) (zs := C_X11_init 0 ++ C_X12_init 111) d_law_12 ml_X12 cb_X12_init im_X12_init rfl rfl rfl (by decide) (Nat.le_of_ble_eq_true rfl) (by decide) (by decide) (c_X12_init (LEN_X11_init 0) (by decide) okB1) (by rw [List.length_append, LEN_X11_init, csB_len]; decide) (by rw [csB_len]; decide) okB2 ?_
  refine Lc_pc 15 rfl (Lc_nums (c2 := 132) (s2 := 12912) rfl rfl ?_)
  refine Lc_astore_n (lv' := [(2, .ref 111), (1, .ref 0), (0, .ref 700)]) d_law_15 rfl (by decide) rfl ?_
  refine Lc_pc 16 rfl ?_
  exact Lc_Lw k (by decide) (by decide)
end LS
/-- the entry -/
theorem law_entry {p : Program} {e : Env} {s : State} {m : MethodId} {below : List Frame} {meth : Method} {c : Code} (l : Launch) {b L : Nat} {xs : Nat → Int32} (h : Lc b L xs 0 0 0 [(0, .ref 700)] [] []) (K0 : lw_At p s m meth c b L xs) : W p l e room_1 s m #[Value.ref b] below meth c s.heap [] 0 0 (lw_Z below #[Value.ref b] s) (entryFrame m ([Value.ref b] : List Value).toArray 4) := by
  obtain ⟨hx, hb, hr, hml, hown, hts, hX, hbl, hlocks, hgv⟩ := id K0
  obtain ⟨ad, h7, hE, hEc⟩ := env_of hts hgv
  obtain ⟨dC, dI, cA, hK⟩ := env_K (tg_hts hts) hEc
  have hl := lv_entry ([.ref b]) (n := 4) (Nat.le_of_ble_eq_true rfl)
  rw [lg_entry_eq]
  generalize (lg_sl ([.ref b]) ++ List.replicate (4 - (lg_sl ([.ref b])).length) Slot.unset).toArray = ls at hl ⊢
  have hl : lv_has ls 4 [(0, .ref b)] := hl
  exact h p l e s m below meth c s.heap [] dC dI cA ad ad ls ⟨hx, hb, hml, hr, hlocks, hown, tg_hts hts, hK, hEc, hE, hX, hbl, h7⟩ (fun _ _ => rfl) (by decide) (fun e he => by cases he) (fun v hv => by cases hv) (fun q hq => Or.inr (by rw [List.mem_singleton.mp hq])) (fun k q h => by simp [wsC] at h) ⟨fun i j p q h => by simp [wsC] at h, fun k q h => by simp [wsC] at h⟩ va_S.rf (by rw [show ([(0, Value.ref 700)] : List (Nat × Value)).map (rq ad) = [(0, .ref (ad 700))] from rfl, h7]; exact hl)
