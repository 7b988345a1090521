/-! case 20: open, whose second argument is a truth -/
section LW
variable {b0 N0 : Nat} {xs : Nat → Int32} {MC MS : Mem}
theorem Lw_pc {pc : Nat} {lv : List (Nat × Value)} {st : List Value} (pc' : Nat) (h : pc = pc') (k : Lw b0 N0 xs pc' lv st MC MS) : Lw b0 N0 xs pc lv st MC MS := h ▸ k
theorem b2i_ne {x : Int32} (h : ¬ x = 0) : b2i (decide (¬ x = 0)) = 1 := by rw [decide_eq_true h]; rfl
theorem b2i_eq {x : Int32} (h : x = 0) : b2i (decide (¬ x = 0)) = 0 := by rw [decide_eq_false (fun g => g h)]; rfl
theorem open_a {x : Int32} {lv : List (Nat × Value)} {st : List Value} (k : Lw b0 N0 xs 944 lv (.int (b2i (decide (¬ x = 0))) :: st) MC MS) : Lw b0 N0 xs 936 lv (.int x :: st) MC MS := by
  refine Lw_if_eq (off := 7) 943 (by decide +kernel) (by decide) (fun h => ?_) (fun h => ?_)
  · refine Lw_iconst (i := 0) (v := 0) (by decide +kernel) (by decide) (Lw_pc 944 rfl ?_)
    rw [← b2i_eq h]; exact k
  · refine Lw_pc 939 rfl (Lw_iconst (i := 1) (v := 1) (by decide +kernel) (by decide) (Lw_pc 940 rfl (Lw_goto (off := 4) 944 (by decide +kernel) (by decide) ?_)))
    rw [← b2i_ne h]; exact k
theorem open_b {x : Int32} {lv : List (Nat × Value)} {st : List Value} (k : Lw b0 N0 xs 966 lv (.int (b2i (decide (¬ x = 0))) :: st) MC MS) : Lw b0 N0 xs 958 lv (.int x :: st) MC MS := by
  refine Lw_if_eq (off := 7) 965 (by decide +kernel) (by decide) (fun h => ?_) (fun h => ?_)
  · refine Lw_iconst (i := 0) (v := 0) (by decide +kernel) (by decide) (Lw_pc 966 rfl ?_)
    rw [← b2i_eq h]; exact k
  · refine Lw_pc 961 rfl (Lw_iconst (i := 1) (v := 1) (by decide +kernel) (by decide) (Lw_pc 962 rfl (Lw_goto (off := 4) 966 (by decide +kernel) (by decide) ?_)))
    rw [← b2i_ne h]; exact k
end LW
theorem ix0 {i N0 : Nat} (hi : i + 6 ≤ N0) (hN : N0 ≤ 3072) : vp_in (nI i) N0 := vp_in_nI (by omega) (by omega)
theorem ixk {i N0 : Nat} {c : Int32} (k : Nat) (hc : c = nI k) (hk : k < 6) (hi : i + 6 ≤ N0) (hN : N0 ≤ 3072) : vp_in (nI i + c) N0 := by
  subst hc
  rw [nI_add]
  exact vp_in_nI (by omega) (by omega)
theorem lcs (x : Int64) : lg_cmp x x = 0 := by simp [lg_cmp]
section LW
variable {b0 N0 : Nat} {xs : Nat → Int32} {MC MS : Mem}
set_option maxRecDepth 20000 in
theorem case_0 {i : Nat} (hi : i + 6 ≤ N0) (hN : N0 ≤ 3072) (h : Rel MC MS) (k : ∀ MC2 MS2, Rel MC2 MS2 → Lw b0 N0 xs 2009 [(0, .ref 700), (1, .ref 0), (2, .ref 200), (3, .int (nI i))] [] MC2 MS2) : Lw b0 N0 xs 272 [(0, .ref 700), (1, .ref 0), (2, .ref 200), (3, .int (nI i))] [] MC MS := by
  obtain ⟨r, C2, S2, e1, e2, hR⟩ := e_status h 
  refine Lw_aload_n (q := 1) (i := 1) 1 (by decide +kernel) rfl rfl ?_
  refine Lw_callC (d' := 0) (idx := 13) (ν := m_X11_status) (As := []) (by decide +kernel) (tg_3 20 (by decide +kernel) (by decide +kernel)) cv_X11_status rfl rfl rfl (by decide) (Nat.le_of_ble_eq_true rfl) (t_X11_status e1) (fun r1 M1 hr => ?_)
  obtain ⟨rfl, rfl⟩ := hr
  show Lw b0 N0 xs 276 _ [.int r] M1 MS
  refine Lw_aload_n (q := 2) (i := 2) 2 (by decide +kernel) rfl rfl ?_
  refine Lw_callM (d' := 0) (idx := 17) (ν := m_X12_status) (As := []) (by decide +kernel) (tg_7 137 (by decide +kernel) (by decide +kernel)) cv_X12_status rfl rfl rfl (by decide) (Nat.le_of_ble_eq_true rfl) (t_X12_status e2) (fun r1 M2 hr => ?_)
  obtain ⟨rfl, rfl⟩ := hr
  show Lw b0 N0 xs 280 _ [.int r, .int r] M1 M2
  exact Lw_icmp_eq (off := 1729) 2009 (by decide +kernel) (by decide) (fun _ => k _ _ hR) (fun hc => absurd rfl hc)
set_option maxRecDepth 20000 in
theorem case_1 {i : Nat} (hi : i + 6 ≤ N0) (hN : N0 ≤ 3072) (h : Rel MC MS) (k : ∀ MC2 MS2, Rel MC2 MS2 → Lw b0 N0 xs 2009 [(0, .ref 700), (1, .ref 0), (2, .ref 200), (3, .int (nI i))] [] MC2 MS2) : Lw b0 N0 xs 285 [(0, .ref 700), (1, .ref 0), (2, .ref 200), (3, .int (nI i))] [] MC MS := by
  obtain ⟨r, C2, S2, e1, e2, hR⟩ := e_top h 
  refine Lw_aload_n (q := 1) (i := 1) 1 (by decide +kernel) rfl rfl ?_
  refine Lw_callC (d' := 0) (idx := 18) (ν := m_X11_top) (As := []) (by decide +kernel) (tg_3 24 (by decide +kernel) (by decide +kernel)) cv_X11_top rfl rfl rfl (by decide) (Nat.le_of_ble_eq_true rfl) (t_X11_top e1) (fun r1 M1 hr => ?_)
  obtain ⟨rfl, rfl⟩ := hr
  show Lw b0 N0 xs 289 _ [.long r] M1 MS
  refine Lw_aload_n (q := 2) (i := 2) 2 (by decide +kernel) rfl rfl ?_
  refine Lw_callM (d' := 0) (idx := 22) (ν := m_X12_top) (As := []) (by decide +kernel) (tg_7 141 (by decide +kernel) (by decide +kernel)) cv_X12_top rfl rfl rfl (by decide) (Nat.le_of_ble_eq_true rfl) (t_X12_top e2) (fun r1 M2 hr => ?_)
  obtain ⟨rfl, rfl⟩ := hr
  show Lw b0 N0 xs 293 _ [.long r, .long r] M1 M2
  refine Lw_lcmp (by decide +kernel) ?_
  exact Lw_if_eq (off := 1715) 2009 (by decide +kernel) (by decide) (fun _ => k _ _ hR) (fun hc => absurd (lcs r) hc)
set_option maxRecDepth 20000 in
theorem case_2 {i : Nat} (hi : i + 6 ≤ N0) (hN : N0 ≤ 3072) (h : Rel MC MS) (k : ∀ MC2 MS2, Rel MC2 MS2 → Lw b0 N0 xs 2009 [(0, .ref 700), (1, .ref 0), (2, .ref 200), (3, .int (nI i))] [] MC2 MS2) : Lw b0 N0 xs 299 [(0, .ref 700), (1, .ref 0), (2, .ref 200), (3, .int (nI i))] [] MC MS := by
  obtain ⟨r, C2, S2, e1, e2, hR⟩ := e_bottom h 
  refine Lw_aload_n (q := 1) (i := 1) 1 (by decide +kernel) rfl rfl ?_
  refine Lw_callC (d' := 0) (idx := 23) (ν := m_X11_bottom) (As := []) (by decide +kernel) (tg_3 28 (by decide +kernel) (by decide +kernel)) cv_X11_bottom rfl rfl rfl (by decide) (Nat.le_of_ble_eq_true rfl) (t_X11_bottom e1) (fun r1 M1 hr => ?_)
  obtain ⟨rfl, rfl⟩ := hr
  show Lw b0 N0 xs 303 _ [.long r] M1 MS
  refine Lw_aload_n (q := 2) (i := 2) 2 (by decide +kernel) rfl rfl ?_
  refine Lw_callM (d' := 0) (idx := 26) (ν := m_X12_bottom) (As := []) (by decide +kernel) (tg_7 145 (by decide +kernel) (by decide +kernel)) cv_X12_bottom rfl rfl rfl (by decide) (Nat.le_of_ble_eq_true rfl) (t_X12_bottom e2) (fun r1 M2 hr => ?_)
  obtain ⟨rfl, rfl⟩ := hr
  show Lw b0 N0 xs 307 _ [.long r, .long r] M1 M2
  refine Lw_lcmp (by decide +kernel) ?_
  exact Lw_if_eq (off := 1701) 2009 (by decide +kernel) (by decide) (fun _ => k _ _ hR) (fun hc => absurd (lcs r) hc)
set_option maxRecDepth 20000 in
theorem case_3 {i : Nat} (hi : i + 6 ≤ N0) (hN : N0 ≤ 3072) (h : Rel MC MS) (k : ∀ MC2 MS2, Rel MC2 MS2 → Lw b0 N0 xs 2009 [(0, .ref 700), (1, .ref 0), (2, .ref 200), (3, .int (nI i))] [] MC2 MS2) : Lw b0 N0 xs 313 [(0, .ref 700), (1, .ref 0), (2, .ref 200), (3, .int (nI i))] [] MC MS := by
  obtain ⟨r, C2, S2, e1, e2, hR⟩ := e_tray (N := 50000) (by decide) h ((xs ((nI i + 1)).toNatClampNeg)) ((xs ((nI i + 2)).toNatClampNeg)) ((xs ((nI i + 3)).toNatClampNeg))
  refine Lw_aload_n (q := 1) (i := 1) 1 (by decide +kernel) rfl rfl ?_
  refine Lw_aload_n (q := 0) (i := 0) 0 (by decide +kernel) rfl rfl ?_
  refine Lw_iload_n (q := 3) (i := 3) 3 (by decide +kernel) rfl rfl ?_
  refine Lw_iconst (i := 1) (v := 1) (by decide +kernel) (by decide) ?_
  refine Lw_iadd (by decide +kernel) ?_
  refine Lw_sld (by decide +kernel) (ixk 1 (by decide) (by decide) hi hN) ?_
  refine Lw_aload_n (q := 0) (i := 0) 0 (by decide +kernel) rfl rfl ?_
  refine Lw_iload_n (q := 3) (i := 3) 3 (by decide +kernel) rfl rfl ?_
  refine Lw_iconst (i := 2) (v := 2) (by decide +kernel) (by decide) ?_
  refine Lw_iadd (by decide +kernel) ?_
  refine Lw_sld (by decide +kernel) (ixk 2 (by decide) (by decide) hi hN) ?_
  refine Lw_aload_n (q := 0) (i := 0) 0 (by decide +kernel) rfl rfl ?_
  refine Lw_iload_n (q := 3) (i := 3) 3 (by decide +kernel) rfl rfl ?_
  refine Lw_iconst (i := 3) (v := 3) (by decide +kernel) (by decide) ?_
  refine Lw_iadd (by decide +kernel) ?_
  refine Lw_sld (by decide +kernel) (ixk 3 (by decide) (by decide) hi hN) ?_
  refine Lw_callC (d' := 2) (idx := 27) (ν := m_X11_tray) (As := [.int ((xs ((nI i + 1)).toNatClampNeg)), .int ((xs ((nI i + 2)).toNatClampNeg)), .int ((xs ((nI i + 3)).toNatClampNeg))]) (by decide +kernel) (tg_3 32 (by decide +kernel) (by decide +kernel)) cv_X11_tray rfl rfl rfl (by decide) (Nat.le_of_ble_eq_true rfl) (t_X11_tray (N := 50000) e1) (fun r1 M1 hr => ?_)
  obtain ⟨rfl, rfl⟩ := hr
  show Lw b0 N0 xs 332 _ [.int (b2i r)] M1 MS
  refine Lw_aload_n (q := 2) (i := 2) 2 (by decide +kernel) rfl rfl ?_
  refine Lw_aload_n (q := 0) (i := 0) 0 (by decide +kernel) rfl rfl ?_
  refine Lw_iload_n (q := 3) (i := 3) 3 (by decide +kernel) rfl rfl ?_
  refine Lw_iconst (i := 1) (v := 1) (by decide +kernel) (by decide) ?_
  refine Lw_iadd (by decide +kernel) ?_
  refine Lw_sld (by decide +kernel) (ixk 1 (by decide) (by decide) hi hN) ?_
  refine Lw_aload_n (q := 0) (i := 0) 0 (by decide +kernel) rfl rfl ?_
  refine Lw_iload_n (q := 3) (i := 3) 3 (by decide +kernel) rfl rfl ?_
  refine Lw_iconst (i := 2) (v := 2) (by decide +kernel) (by decide) ?_
  refine Lw_iadd (by decide +kernel) ?_
  refine Lw_sld (by decide +kernel) (ixk 2 (by decide) (by decide) hi hN) ?_
  refine Lw_aload_n (q := 0) (i := 0) 0 (by decide +kernel) rfl rfl ?_
  refine Lw_iload_n (q := 3) (i := 3) 3 (by decide +kernel) rfl rfl ?_
  refine Lw_iconst (i := 3) (v := 3) (by decide +kernel) (by decide) ?_
  refine Lw_iadd (by decide +kernel) ?_
  refine Lw_sld (by decide +kernel) (ixk 3 (by decide) (by decide) hi hN) ?_
  refine Lw_callM (d' := 1) (idx := 31) (ν := m_X12_tray) (As := [.int ((xs ((nI i + 1)).toNatClampNeg)), .int ((xs ((nI i + 2)).toNatClampNeg)), .int ((xs ((nI i + 3)).toNatClampNeg))]) (by decide +kernel) (tg_7 149 (by decide +kernel) (by decide +kernel)) cv_X12_tray rfl rfl rfl (by decide) (Nat.le_of_ble_eq_true rfl) (t_X12_tray (N := 50000) e2) (fun r1 M2 hr => ?_)
  obtain ⟨rfl, rfl⟩ := hr
  show Lw b0 N0 xs 351 _ [.int (b2i r), .int (b2i r)] M1 M2
  exact Lw_icmp_eq (off := 1658) 2009 (by decide +kernel) (by decide) (fun _ => k _ _ hR) (fun hc => absurd rfl hc)
set_option maxRecDepth 20000 in
theorem case_4 {i : Nat} (hi : i + 6 ≤ N0) (hN : N0 ≤ 3072) (h : Rel MC MS) (k : ∀ MC2 MS2, Rel MC2 MS2 → Lw b0 N0 xs 2009 [(0, .ref 700), (1, .ref 0), (2, .ref 200), (3, .int (nI i))] [] MC2 MS2) : Lw b0 N0 xs 356 [(0, .ref 700), (1, .ref 0), (2, .ref 200), (3, .int (nI i))] [] MC MS := by
  obtain ⟨r, C2, S2, e1, e2, hR⟩ := e_write h ((xs ((nI i + 1)).toNatClampNeg)) ((xs ((nI i + 2)).toNatClampNeg)) (((((xs ((nI i + 3)).toNatClampNeg)).toInt64 <<< ((32 : Int32).toInt64 &&& 63)) ||| (((xs ((nI i + 4)).toNatClampNeg)).toInt64 &&& (4294967295 : Int64))))
  refine Lw_aload_n (q := 1) (i := 1) 1 (by decide +kernel) rfl rfl ?_
  refine Lw_aload_n (q := 0) (i := 0) 0 (by decide +kernel) rfl rfl ?_
  refine Lw_iload_n (q := 3) (i := 3) 3 (by decide +kernel) rfl rfl ?_
  refine Lw_iconst (i := 1) (v := 1) (by decide +kernel) (by decide) ?_
  refine Lw_iadd (by decide +kernel) ?_
  refine Lw_sld (by decide +kernel) (ixk 1 (by decide) (by decide) hi hN) ?_
  refine Lw_aload_n (q := 0) (i := 0) 0 (by decide +kernel) rfl rfl ?_
  refine Lw_iload_n (q := 3) (i := 3) 3 (by decide +kernel) rfl rfl ?_
  refine Lw_iconst (i := 2) (v := 2) (by decide +kernel) (by decide) ?_
  refine Lw_iadd (by decide +kernel) ?_
  refine Lw_sld (by decide +kernel) (ixk 2 (by decide) (by decide) hi hN) ?_
  refine Lw_aload_n (q := 0) (i := 0) 0 (by decide +kernel) rfl rfl ?_
  refine Lw_iload_n (q := 3) (i := 3) 3 (by decide +kernel) rfl rfl ?_
  refine Lw_iconst (i := 3) (v := 3) (by decide +kernel) (by decide) ?_
  refine Lw_iadd (by decide +kernel) ?_
  refine Lw_sld (by decide +kernel) (ixk 3 (by decide) (by decide) hi hN) ?_
  refine Lw_i2l (by decide +kernel) ?_
  refine Lw_bipush (i := 32) (v := 32) (by decide +kernel) (by decide) ?_
  refine Lw_lshl (by decide +kernel) ?_
  refine Lw_aload_n (q := 0) (i := 0) 0 (by decide +kernel) rfl rfl ?_
  refine Lw_iload_n (q := 3) (i := 3) 3 (by decide +kernel) rfl rfl ?_
  refine Lw_iconst (i := 4) (v := 4) (by decide +kernel) (by decide) ?_
  refine Lw_iadd (by decide +kernel) ?_
  refine Lw_sld (by decide +kernel) (ixk 4 (by decide) (by decide) hi hN) ?_
  refine Lw_i2l (by decide +kernel) ?_
  refine Lw_ldc2 (idx := 32) (v := 4294967295) (by decide +kernel) (tg_10 133 (by decide +kernel) (by decide +kernel)) ?_
  refine Lw_land (by decide +kernel) ?_
  refine Lw_lor (by decide +kernel) ?_
  refine Lw_callC (d' := 3) (idx := 34) (ν := m_X11_write) (As := [.int ((xs ((nI i + 1)).toNatClampNeg)), .int ((xs ((nI i + 2)).toNatClampNeg)), .long (((((xs ((nI i + 3)).toNatClampNeg)).toInt64 <<< ((32 : Int32).toInt64 &&& 63)) ||| (((xs ((nI i + 4)).toNatClampNeg)).toInt64 &&& (4294967295 : Int64))))]) (by decide +kernel) (tg_3 55 (by decide +kernel) (by decide +kernel)) cv_X11_write rfl rfl rfl (by decide) (Nat.le_of_ble_eq_true rfl) (t_X11_write e1) (fun r1 M1 hr => ?_)
  obtain ⟨rfl, rfl⟩ := hr
  show Lw b0 N0 xs 390 _ [.int (b2i r)] M1 MS
  refine Lw_aload_n (q := 2) (i := 2) 2 (by decide +kernel) rfl rfl ?_
  refine Lw_aload_n (q := 0) (i := 0) 0 (by decide +kernel) rfl rfl ?_
  refine Lw_iload_n (q := 3) (i := 3) 3 (by decide +kernel) rfl rfl ?_
  refine Lw_iconst (i := 1) (v := 1) (by decide +kernel) (by decide) ?_
  refine Lw_iadd (by decide +kernel) ?_
  refine Lw_sld (by decide +kernel) (ixk 1 (by decide) (by decide) hi hN) ?_
  refine Lw_aload_n (q := 0) (i := 0) 0 (by decide +kernel) rfl rfl ?_
  refine Lw_iload_n (q := 3) (i := 3) 3 (by decide +kernel) rfl rfl ?_
  refine Lw_iconst (i := 2) (v := 2) (by decide +kernel) (by decide) ?_
  refine Lw_iadd (by decide +kernel) ?_
  refine Lw_sld (by decide +kernel) (ixk 2 (by decide) (by decide) hi hN) ?_
  refine Lw_aload_n (q := 0) (i := 0) 0 (by decide +kernel) rfl rfl ?_
  refine Lw_iload_n (q := 3) (i := 3) 3 (by decide +kernel) rfl rfl ?_
  refine Lw_iconst (i := 3) (v := 3) (by decide +kernel) (by decide) ?_
  refine Lw_iadd (by decide +kernel) ?_
  refine Lw_sld (by decide +kernel) (ixk 3 (by decide) (by decide) hi hN) ?_
  refine Lw_i2l (by decide +kernel) ?_
  refine Lw_bipush (i := 32) (v := 32) (by decide +kernel) (by decide) ?_
  refine Lw_lshl (by decide +kernel) ?_
  refine Lw_aload_n (q := 0) (i := 0) 0 (by decide +kernel) rfl rfl ?_
  refine Lw_iload_n (q := 3) (i := 3) 3 (by decide +kernel) rfl rfl ?_
  refine Lw_iconst (i := 4) (v := 4) (by decide +kernel) (by decide) ?_
  refine Lw_iadd (by decide +kernel) ?_
  refine Lw_sld (by decide +kernel) (ixk 4 (by decide) (by decide) hi hN) ?_
  refine Lw_i2l (by decide +kernel) ?_
  refine Lw_ldc2 (idx := 32) (v := 4294967295) (by decide +kernel) (tg_10 133 (by decide +kernel) (by decide +kernel)) ?_
  refine Lw_land (by decide +kernel) ?_
  refine Lw_lor (by decide +kernel) ?_
  refine Lw_callM (d' := 2) (idx := 38) (ν := m_X12_write) (As := [.int ((xs ((nI i + 1)).toNatClampNeg)), .int ((xs ((nI i + 2)).toNatClampNeg)), .long (((((xs ((nI i + 3)).toNatClampNeg)).toInt64 <<< ((32 : Int32).toInt64 &&& 63)) ||| (((xs ((nI i + 4)).toNatClampNeg)).toInt64 &&& (4294967295 : Int64))))]) (by decide +kernel) (tg_7 157 (by decide +kernel) (by decide +kernel)) cv_X12_write rfl rfl rfl (by decide) (Nat.le_of_ble_eq_true rfl) (t_X12_write e2) (fun r1 M2 hr => ?_)
  obtain ⟨rfl, rfl⟩ := hr
  show Lw b0 N0 xs 424 _ [.int (b2i r), .int (b2i r)] M1 M2
  exact Lw_icmp_eq (off := 1585) 2009 (by decide +kernel) (by decide) (fun _ => k _ _ hR) (fun hc => absurd rfl hc)
set_option maxRecDepth 20000 in
theorem case_5 {i : Nat} (hi : i + 6 ≤ N0) (hN : N0 ≤ 3072) (h : Rel MC MS) (k : ∀ MC2 MS2, Rel MC2 MS2 → Lw b0 N0 xs 2009 [(0, .ref 700), (1, .ref 0), (2, .ref 200), (3, .int (nI i))] [] MC2 MS2) : Lw b0 N0 xs 429 [(0, .ref 700), (1, .ref 0), (2, .ref 200), (3, .int (nI i))] [] MC MS := by
  obtain ⟨r, C2, S2, e1, e2, hR⟩ := e_read h ((xs ((nI i + 1)).toNatClampNeg)) ((xs ((nI i + 2)).toNatClampNeg))
  refine Lw_aload_n (q := 1) (i := 1) 1 (by decide +kernel) rfl rfl ?_
  refine Lw_aload_n (q := 0) (i := 0) 0 (by decide +kernel) rfl rfl ?_
  refine Lw_iload_n (q := 3) (i := 3) 3 (by decide +kernel) rfl rfl ?_
  refine Lw_iconst (i := 1) (v := 1) (by decide +kernel) (by decide) ?_
  refine Lw_iadd (by decide +kernel) ?_
  refine Lw_sld (by decide +kernel) (ixk 1 (by decide) (by decide) hi hN) ?_
  refine Lw_aload_n (q := 0) (i := 0) 0 (by decide +kernel) rfl rfl ?_
  refine Lw_iload_n (q := 3) (i := 3) 3 (by decide +kernel) rfl rfl ?_
  refine Lw_iconst (i := 2) (v := 2) (by decide +kernel) (by decide) ?_
  refine Lw_iadd (by decide +kernel) ?_
  refine Lw_sld (by decide +kernel) (ixk 2 (by decide) (by decide) hi hN) ?_
  refine Lw_callC (d' := 3) (idx := 39) (ν := m_X11_read) (As := [.int ((xs ((nI i + 1)).toNatClampNeg)), .int ((xs ((nI i + 2)).toNatClampNeg))]) (by decide +kernel) (tg_3 75 (by decide +kernel) (by decide +kernel)) cv_X11_read rfl rfl rfl (by decide) (Nat.le_of_ble_eq_true rfl) (t_X11_read e1) (fun r1 M1 hr => ?_)
  obtain ⟨rfl, rfl⟩ := hr
  show Lw b0 N0 xs 443 _ [.long r] M1 MS
  refine Lw_aload_n (q := 2) (i := 2) 2 (by decide +kernel) rfl rfl ?_
  refine Lw_aload_n (q := 0) (i := 0) 0 (by decide +kernel) rfl rfl ?_
  refine Lw_iload_n (q := 3) (i := 3) 3 (by decide +kernel) rfl rfl ?_
  refine Lw_iconst (i := 1) (v := 1) (by decide +kernel) (by decide) ?_
  refine Lw_iadd (by decide +kernel) ?_
  refine Lw_sld (by decide +kernel) (ixk 1 (by decide) (by decide) hi hN) ?_
  refine Lw_aload_n (q := 0) (i := 0) 0 (by decide +kernel) rfl rfl ?_
  refine Lw_iload_n (q := 3) (i := 3) 3 (by decide +kernel) rfl rfl ?_
  refine Lw_iconst (i := 2) (v := 2) (by decide +kernel) (by decide) ?_
  refine Lw_iadd (by decide +kernel) ?_
  refine Lw_sld (by decide +kernel) (ixk 2 (by decide) (by decide) hi hN) ?_
  refine Lw_callM (d' := 2) (idx := 43) (ν := m_X12_read) (As := [.int ((xs ((nI i + 1)).toNatClampNeg)), .int ((xs ((nI i + 2)).toNatClampNeg))]) (by decide +kernel) (tg_7 172 (by decide +kernel) (by decide +kernel)) cv_X12_read rfl rfl rfl (by decide) (Nat.le_of_ble_eq_true rfl) (t_X12_read e2) (fun r1 M2 hr => ?_)
  obtain ⟨rfl, rfl⟩ := hr
  show Lw b0 N0 xs 457 _ [.long r, .long r] M1 M2
  refine Lw_lcmp (by decide +kernel) ?_
  exact Lw_if_eq (off := 1551) 2009 (by decide +kernel) (by decide) (fun _ => k _ _ hR) (fun hc => absurd (lcs r) hc)
set_option maxRecDepth 20000 in
theorem case_6 {i : Nat} (hi : i + 6 ≤ N0) (hN : N0 ≤ 3072) (h : Rel MC MS) (k : ∀ MC2 MS2, Rel MC2 MS2 → Lw b0 N0 xs 2009 [(0, .ref 700), (1, .ref 0), (2, .ref 200), (3, .int (nI i))] [] MC2 MS2) : Lw b0 N0 xs 463 [(0, .ref 700), (1, .ref 0), (2, .ref 200), (3, .int (nI i))] [] MC MS := by
  obtain ⟨r, C2, S2, e1, e2, hR⟩ := e_pour (N := 50000) (by decide) h ((xs ((nI i + 1)).toNatClampNeg)) ((xs ((nI i + 2)).toNatClampNeg)) ((xs ((nI i + 3)).toNatClampNeg)) ((xs ((nI i + 4)).toNatClampNeg)) ((xs ((nI i + 5)).toNatClampNeg))
  refine Lw_aload_n (q := 1) (i := 1) 1 (by decide +kernel) rfl rfl ?_
  refine Lw_aload_n (q := 0) (i := 0) 0 (by decide +kernel) rfl rfl ?_
  refine Lw_iload_n (q := 3) (i := 3) 3 (by decide +kernel) rfl rfl ?_
  refine Lw_iconst (i := 1) (v := 1) (by decide +kernel) (by decide) ?_
  refine Lw_iadd (by decide +kernel) ?_
  refine Lw_sld (by decide +kernel) (ixk 1 (by decide) (by decide) hi hN) ?_
  refine Lw_aload_n (q := 0) (i := 0) 0 (by decide +kernel) rfl rfl ?_
  refine Lw_iload_n (q := 3) (i := 3) 3 (by decide +kernel) rfl rfl ?_
  refine Lw_iconst (i := 2) (v := 2) (by decide +kernel) (by decide) ?_
  refine Lw_iadd (by decide +kernel) ?_
  refine Lw_sld (by decide +kernel) (ixk 2 (by decide) (by decide) hi hN) ?_
  refine Lw_aload_n (q := 0) (i := 0) 0 (by decide +kernel) rfl rfl ?_
  refine Lw_iload_n (q := 3) (i := 3) 3 (by decide +kernel) rfl rfl ?_
  refine Lw_iconst (i := 3) (v := 3) (by decide +kernel) (by decide) ?_
  refine Lw_iadd (by decide +kernel) ?_
  refine Lw_sld (by decide +kernel) (ixk 3 (by decide) (by decide) hi hN) ?_
  refine Lw_aload_n (q := 0) (i := 0) 0 (by decide +kernel) rfl rfl ?_
  refine Lw_iload_n (q := 3) (i := 3) 3 (by decide +kernel) rfl rfl ?_
  refine Lw_iconst (i := 4) (v := 4) (by decide +kernel) (by decide) ?_
  refine Lw_iadd (by decide +kernel) ?_
  refine Lw_sld (by decide +kernel) (ixk 4 (by decide) (by decide) hi hN) ?_
  refine Lw_aload_n (q := 0) (i := 0) 0 (by decide +kernel) rfl rfl ?_
  refine Lw_iload_n (q := 3) (i := 3) 3 (by decide +kernel) rfl rfl ?_
  refine Lw_iconst (i := 5) (v := 5) (by decide +kernel) (by decide) ?_
  refine Lw_iadd (by decide +kernel) ?_
  refine Lw_sld (by decide +kernel) (ixk 5 (by decide) (by decide) hi hN) ?_
  refine Lw_callC (d' := 2) (idx := 44) (ν := m_X11_pour) (As := [.int ((xs ((nI i + 1)).toNatClampNeg)), .int ((xs ((nI i + 2)).toNatClampNeg)), .int ((xs ((nI i + 3)).toNatClampNeg)), .int ((xs ((nI i + 4)).toNatClampNeg)), .int ((xs ((nI i + 5)).toNatClampNeg))]) (by decide +kernel) (tg_3 83 (by decide +kernel) (by decide +kernel)) cv_X11_pour rfl rfl rfl (by decide) (Nat.le_of_ble_eq_true rfl) (t_X11_pour e1) (fun r1 M1 hr => ?_)
  obtain ⟨rfl, rfl⟩ := hr
  show Lw b0 N0 xs 492 _ [.int (b2i r)] M1 MS
  refine Lw_aload_n (q := 2) (i := 2) 2 (by decide +kernel) rfl rfl ?_
  refine Lw_aload_n (q := 0) (i := 0) 0 (by decide +kernel) rfl rfl ?_
  refine Lw_iload_n (q := 3) (i := 3) 3 (by decide +kernel) rfl rfl ?_
  refine Lw_iconst (i := 1) (v := 1) (by decide +kernel) (by decide) ?_
  refine Lw_iadd (by decide +kernel) ?_
  refine Lw_sld (by decide +kernel) (ixk 1 (by decide) (by decide) hi hN) ?_
  refine Lw_aload_n (q := 0) (i := 0) 0 (by decide +kernel) rfl rfl ?_
  refine Lw_iload_n (q := 3) (i := 3) 3 (by decide +kernel) rfl rfl ?_
  refine Lw_iconst (i := 2) (v := 2) (by decide +kernel) (by decide) ?_
  refine Lw_iadd (by decide +kernel) ?_
  refine Lw_sld (by decide +kernel) (ixk 2 (by decide) (by decide) hi hN) ?_
  refine Lw_aload_n (q := 0) (i := 0) 0 (by decide +kernel) rfl rfl ?_
  refine Lw_iload_n (q := 3) (i := 3) 3 (by decide +kernel) rfl rfl ?_
  refine Lw_iconst (i := 3) (v := 3) (by decide +kernel) (by decide) ?_
  refine Lw_iadd (by decide +kernel) ?_
  refine Lw_sld (by decide +kernel) (ixk 3 (by decide) (by decide) hi hN) ?_
  refine Lw_aload_n (q := 0) (i := 0) 0 (by decide +kernel) rfl rfl ?_
  refine Lw_iload_n (q := 3) (i := 3) 3 (by decide +kernel) rfl rfl ?_
  refine Lw_iconst (i := 4) (v := 4) (by decide +kernel) (by decide) ?_
  refine Lw_iadd (by decide +kernel) ?_
  refine Lw_sld (by decide +kernel) (ixk 4 (by decide) (by decide) hi hN) ?_
  refine Lw_aload_n (q := 0) (i := 0) 0 (by decide +kernel) rfl rfl ?_
  refine Lw_iload_n (q := 3) (i := 3) 3 (by decide +kernel) rfl rfl ?_
  refine Lw_iconst (i := 5) (v := 5) (by decide +kernel) (by decide) ?_
  refine Lw_iadd (by decide +kernel) ?_
  refine Lw_sld (by decide +kernel) (ixk 5 (by decide) (by decide) hi hN) ?_
  refine Lw_callM (d' := 1) (idx := 48) (ν := m_X12_pour) (As := [.int ((xs ((nI i + 1)).toNatClampNeg)), .int ((xs ((nI i + 2)).toNatClampNeg)), .int ((xs ((nI i + 3)).toNatClampNeg)), .int ((xs ((nI i + 4)).toNatClampNeg)), .int ((xs ((nI i + 5)).toNatClampNeg))]) (by decide +kernel) (tg_7 177 (by decide +kernel) (by decide +kernel)) cv_X12_pour rfl rfl rfl (by decide) (Nat.le_of_ble_eq_true rfl) (t_X12_pour (N := 50000) e2) (fun r1 M2 hr => ?_)
  obtain ⟨rfl, rfl⟩ := hr
  show Lw b0 N0 xs 521 _ [.int (b2i r), .int (b2i r)] M1 M2
  exact Lw_icmp_eq (off := 1488) 2009 (by decide +kernel) (by decide) (fun _ => k _ _ hR) (fun hc => absurd rfl hc)
end LW
