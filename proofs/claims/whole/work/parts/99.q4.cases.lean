theorem ix0 {i N0 : Nat} (hi : i + 6 ≤ N0) (hN : N0 ≤ 3072) : vp_in (nI i) N0 := vp_in_nI (by omega) (by omega)
theorem ixk {i N0 : Nat} {c : Int32} (k : Nat) (hc : c = nI k) (hk : k < 6) (hi : i + 6 ≤ N0) (hN : N0 ≤ 3072) : vp_in (nI i + c) N0 := by
  subst hc
  rw [nI_add]
  exact vp_in_nI (by omega) (by omega)
theorem lcs (x : Int64) : lg_cmp x x = 0 := by simp [lg_cmp]
section LW
variable {b0 N0 : Nat} {xs : Nat → Int32} {MC MS : Mem}
set_option maxRecDepth 20000 in
theorem case_0 {i : Nat} (hi : i + 6 ≤ N0) (hN : N0 ≤ 3072) (h : Rel MC MS) (k : ∀ MC2 MS2, Rel MC2 MS2 → Lw b0 N0 xs 2009 [(0, .ref 700), (1, .ref 0), (2, .ref 200), (3, .int (nI i))] [] MC2 MS2) : Lw b0 N0 xs 272 [(0, .ref 700), (1, .ref 0), (2, .ref 200), (3, .int (nI i))] [] MC MS := by
  obtain ⟨r, C2, S2, e1, e2, hR⟩ := e_status h 
  refine Lw_aload_n (q := 1) (i := 1) 1 (by decide +kernel) rfl rfl ?_
  refine Lw_callC (d' := 0) (ν := m_X11_status) (As := []) (by decide +kernel) (tg_3 20 (by decide +kernel) (by decide +kernel)) cv_X11_status rfl rfl rfl (by decide) (Nat.le_of_ble_eq_true rfl) (t_X11_status e1) (fun r1 M1 hr => ?_)
  obtain ⟨rfl, rfl⟩ := hr
  show Lw b0 N0 xs 276 _ [.int r] C2 MS
  refine Lw_aload_n (q := 2) (i := 2) 2 (by decide +kernel) rfl rfl ?_
  refine Lw_callM (d' := 0) (ν := m_X12_status) (As := []) (by decide +kernel) (tg_7 137 (by decide +kernel) (by decide +kernel)) cv_X12_status rfl rfl rfl (by decide) (Nat.le_of_ble_eq_true rfl) (t_X12_status e2) (fun r1 M1 hr => ?_)
  obtain ⟨rfl, rfl⟩ := hr
  show Lw b0 N0 xs 280 _ [.int r, .int r] C2 S2
  exact Lw_icmp_eq (off := 1729) 2009 (by decide +kernel) (by decide) (fun _ => k _ _ hR) (fun hc => absurd rfl hc)
set_option maxRecDepth 20000 in
theorem case_1 {i : Nat} (hi : i + 6 ≤ N0) (hN : N0 ≤ 3072) (h : Rel MC MS) (k : ∀ MC2 MS2, Rel MC2 MS2 → Lw b0 N0 xs 2009 [(0, .ref 700), (1, .ref 0), (2, .ref 200), (3, .int (nI i))] [] MC2 MS2) : Lw b0 N0 xs 285 [(0, .ref 700), (1, .ref 0), (2, .ref 200), (3, .int (nI i))] [] MC MS := by
  obtain ⟨r, C2, S2, e1, e2, hR⟩ := e_top h 
  refine Lw_aload_n (q := 1) (i := 1) 1 (by decide +kernel) rfl rfl ?_
  refine Lw_callC (d' := 0) (ν := m_X11_top) (As := []) (by decide +kernel) (tg_3 24 (by decide +kernel) (by decide +kernel)) cv_X11_top rfl rfl rfl (by decide) (Nat.le_of_ble_eq_true rfl) (t_X11_top e1) (fun r1 M1 hr => ?_)
  obtain ⟨rfl, rfl⟩ := hr
  show Lw b0 N0 xs 289 _ [.long r] C2 MS
  refine Lw_aload_n (q := 2) (i := 2) 2 (by decide +kernel) rfl rfl ?_
  refine Lw_callM (d' := 0) (ν := m_X12_top) (As := []) (by decide +kernel) (tg_7 141 (by decide +kernel) (by decide +kernel)) cv_X12_top rfl rfl rfl (by decide) (Nat.le_of_ble_eq_true rfl) (t_X12_top e2) (fun r1 M1 hr => ?_)
  obtain ⟨rfl, rfl⟩ := hr
  show Lw b0 N0 xs 293 _ [.long r, .long r] C2 S2
  refine Lw_lcmp (by decide +kernel) ?_
  exact Lw_if_eq (off := 1715) 2009 (by decide +kernel) (by decide) (fun _ => k _ _ hR) (fun hc => absurd (lcs r) hc)
set_option maxRecDepth 20000 in
theorem case_2 {i : Nat} (hi : i + 6 ≤ N0) (hN : N0 ≤ 3072) (h : Rel MC MS) (k : ∀ MC2 MS2, Rel MC2 MS2 → Lw b0 N0 xs 2009 [(0, .ref 700), (1, .ref 0), (2, .ref 200), (3, .int (nI i))] [] MC2 MS2) : Lw b0 N0 xs 299 [(0, .ref 700), (1, .ref 0), (2, .ref 200), (3, .int (nI i))] [] MC MS := by
  obtain ⟨r, C2, S2, e1, e2, hR⟩ := e_bottom h 
  refine Lw_aload_n (q := 1) (i := 1) 1 (by decide +kernel) rfl rfl ?_
  refine Lw_callC (d' := 0) (ν := m_X11_bottom) (As := []) (by decide +kernel) (tg_3 28 (by decide +kernel) (by decide +kernel)) cv_X11_bottom rfl rfl rfl (by decide) (Nat.le_of_ble_eq_true rfl) (t_X11_bottom e1) (fun r1 M1 hr => ?_)
  obtain ⟨rfl, rfl⟩ := hr
  show Lw b0 N0 xs 303 _ [.long r] C2 MS
  refine Lw_aload_n (q := 2) (i := 2) 2 (by decide +kernel) rfl rfl ?_
  refine Lw_callM (d' := 0) (ν := m_X12_bottom) (As := []) (by decide +kernel) (tg_7 145 (by decide +kernel) (by decide +kernel)) cv_X12_bottom rfl rfl rfl (by decide) (Nat.le_of_ble_eq_true rfl) (t_X12_bottom e2) (fun r1 M1 hr => ?_)
  obtain ⟨rfl, rfl⟩ := hr
  show Lw b0 N0 xs 307 _ [.long r, .long r] C2 S2
  refine Lw_lcmp (by decide +kernel) ?_
  exact Lw_if_eq (off := 1701) 2009 (by decide +kernel) (by decide) (fun _ => k _ _ hR) (fun hc => absurd (lcs r) hc)
set_option maxRecDepth 20000 in
theorem case_3 {i : Nat} (hi : i + 6 ≤ N0) (hN : N0 ≤ 3072) (h : Rel MC MS) (k : ∀ MC2 MS2, Rel MC2 MS2 → Lw b0 N0 xs 2009 [(0, .ref 700), (1, .ref 0), (2, .ref 200), (3, .int (nI i))] [] MC2 MS2) : Lw b0 N0 xs 313 [(0, .ref 700), (1, .ref 0), (2, .ref 200), (3, .int (nI i))] [] MC MS := by
  obtain ⟨r, C2, S2, e1, e2, hR⟩ := e_tray (N := 50000) (by decide) h ((xs ((nI i + 1)).toNatClampNeg)) ((xs ((nI i + 2)).toNatClampNeg)) ((xs ((nI i + 3)).toNatClampNeg))
  refine Lw_aload_n (q := 1) (i := 1) 1 (by decide +kernel) rfl rfl ?_
  refine Lw_aload_n (q := 0) (i := 0) 0 (by decide +kernel) rfl rfl ?_
  refine Lw_iload_n (q := 3) (i := 3) 3 (by decide +kernel) rfl rfl ?_
  refine Lw_iconst (i := 1) (v := 1) (by decide +kernel) (by decide) ?_
  refine Lw_iadd (by decide +kernel) ?_
  refine Lw_sld (by decide +kernel) (ixk 1 (by decide) (by decide) hi hN) ?_
  refine Lw_aload_n (q := 0) (i := 0) 0 (by decide +kernel) rfl rfl ?_
  refine Lw_iload_n (q := 3) (i := 3) 3 (by decide +kernel) rfl rfl ?_
  refine Lw_iconst (i := 2) (v := 2) (by decide +kernel) (by decide) ?_
  refine Lw_iadd (by decide +kernel) ?_
  refine Lw_sld (by decide +kernel) (ixk 2 (by decide) (by decide) hi hN) ?_
  refine Lw_aload_n (q := 0) (i := 0) 0 (by decide +kernel) rfl rfl ?_
  refine Lw_iload_n (q := 3) (i := 3) 3 (by decide +kernel) rfl rfl ?_
  refine Lw_iconst (i := 3) (v := 3) (by decide +kernel) (by decide) ?_
  refine Lw_iadd (by decide +kernel) ?_
  refine Lw_sld (by decide +kernel) (ixk 3 (by decide) (by decide) hi hN) ?_
  refine Lw_callC (d' := 2) (ν := m_X11_tray) (As := [.int ((xs ((nI i + 1)).toNatClampNeg)), .int ((xs ((nI i + 2)).toNatClampNeg)), .int ((xs ((nI i + 3)).toNatClampNeg))]) (by decide +kernel) (tg_3 32 (by decide +kernel) (by decide +kernel)) cv_X11_tray rfl rfl rfl (by decide) (Nat.le_of_ble_eq_true rfl) (t_X11_tray (N := 50000) e1) (fun r1 M1 hr => ?_)
  obtain ⟨rfl, rfl⟩ := hr
  show Lw b0 N0 xs 332 _ [.int (b2i r)] C2 MS
  refine Lw_aload_n (q := 2) (i := 2) 2 (by decide +kernel) rfl rfl ?_
  refine Lw_aload_n (q := 0) (i := 0) 0 (by decide +kernel) rfl rfl ?_
  refine Lw_iload_n (q := 3) (i := 3) 3 (by decide +kernel) rfl rfl ?_
  refine Lw_iconst (i := 1) (v := 1) (by decide +kernel) (by decide) ?_
  refine Lw_iadd (by decide +kernel) ?_
  refine Lw_sld (by decide +kernel) (ixk 1 (by decide) (by decide) hi hN) ?_
  refine Lw_aload_n (q := 0) (i := 0) 0 (by decide +kernel) rfl rfl ?_
  refine Lw_iload_n (q := 3) (i := 3) 3 (by decide +kernel) rfl rfl ?_
  refine Lw_iconst (i := 2) (v := 2) (by decide +kernel) (by decide) ?_
  refine Lw_iadd (by decide +kernel) ?_
  refine Lw_sld (by decide +kernel) (ixk 2 (by decide) (by decide) hi hN) ?_
  refine Lw_aload_n (q := 0) (i := 0) 0 (by decide +kernel) rfl rfl ?_
  refine Lw_iload_n (q := 3) (i := 3) 3 (by decide +kernel) rfl rfl ?_
  refine Lw_iconst (i := 3) (v := 3) (by decide +kernel) (by decide) ?_
  refine Lw_iadd (by decide +kernel) ?_
  refine Lw_sld (by decide +kernel) (ixk 3 (by decide) (by decide) hi hN) ?_
  refine Lw_callM (d' := 1) (ν := m_X12_tray) (As := [.int ((xs ((nI i + 1)).toNatClampNeg)), .int ((xs ((nI i + 2)).toNatClampNeg)), .int ((xs ((nI i + 3)).toNatClampNeg))]) (by decide +kernel) (tg_7 149 (by decide +kernel) (by decide +kernel)) cv_X12_tray rfl rfl rfl (by decide) (Nat.le_of_ble_eq_true rfl) (t_X12_tray (N := 50000) e2) (fun r1 M1 hr => ?_)
  obtain ⟨rfl, rfl⟩ := hr
  show Lw b0 N0 xs 351 _ [.int (b2i r), .int (b2i r)] C2 S2
  exact Lw_icmp_eq (off := 1658) 2009 (by decide +kernel) (by decide) (fun _ => k _ _ hR) (fun hc => absurd rfl hc)
set_option maxRecDepth 20000 in
theorem case_4 {i : Nat} (hi : i + 6 ≤ N0) (hN : N0 ≤ 3072) (h : Rel MC MS) (k : ∀ MC2 MS2, Rel MC2 MS2 → Lw b0 N0 xs 2009 [(0, .ref 700), (1, .ref 0), (2, .ref 200), (3, .int (nI i))] [] MC2 MS2) : Lw b0 N0 xs 356 [(0, .ref 700), (1, .ref 0), (2, .ref 200), (3, .int (nI i))] [] MC MS := by
  obtain ⟨r, C2, S2, e1, e2, hR⟩ := e_write h ((xs ((nI i + 1)).toNatClampNeg)) ((xs ((nI i + 2)).toNatClampNeg)) (((((xs ((nI i + 3)).toNatClampNeg)).toInt64 <<< ((32 : Int32).toInt64 &&& 63)) ||| (((xs ((nI i + 4)).toNatClampNeg)).toInt64 &&& (4294967295 : Int64))))
  refine Lw_aload_n (q := 1) (i := 1) 1 (by decide +kernel) rfl rfl ?_
  refine Lw_aload_n (q := 0) (i := 0) 0 (by decide +kernel) rfl rfl ?_
  refine Lw_iload_n (q := 3) (i := 3) 3 (by decide +kernel) rfl rfl ?_
  refine Lw_iconst (i := 1) (v := 1) (by decide +kernel) (by decide) ?_
  refine Lw_iadd (by decide +kernel) ?_
  refine Lw_sld (by decide +kernel) (ixk 1 (by decide) (by decide) hi hN) ?_
  refine Lw_aload_n (q := 0) (i := 0) 0 (by decide +kernel) rfl rfl ?_
  refine Lw_iload_n (q := 3) (i := 3) 3 (by decide +kernel) rfl rfl ?_
  refine Lw_iconst (i := 2) (v := 2) (by decide +kernel) (by decide) ?_
  refine Lw_iadd (by decide +kernel) ?_
  refine Lw_sld (by decide +kernel) (ixk 2 (by decide) (by decide) hi hN) ?_
  refine Lw_aload_n (q := 0) (i := 0) 0 (by decide +kernel) rfl rfl ?_
  refine Lw_iload_n (q := 3) (i := 3) 3 (by decide +kernel) rfl rfl ?_
  refine Lw_iconst (i := 3) (v := 3) (by decide +kernel) (by decide) ?_
  refine Lw_iadd (by decide +kernel) ?_
  refine Lw_sld (by decide +kernel) (ixk 3 (by decide) (by decide) hi hN) ?_
  refine Lw_i2l (by decide +kernel) ?_
  refine Lw_bipush (i := 32) (v := 32) (by decide +kernel) (by decide) ?_
  refine Lw_lshl (by decide +kernel) ?_
  refine Lw_aload_n (q := 0) (i := 0) 0 (by decide +kernel) rfl rfl ?_
  refine Lw_iload_n (q := 3) (i := 3) 3 (by decide +kernel) rfl rfl ?_
  refine Lw_iconst (i := 4) (v := 4) (by decide +kernel) (by decide) ?_
  refine Lw_iadd (by decide +kernel) ?_
  refine Lw_sld (by decide +kernel) (ixk 4 (by decide) (by decide) hi hN) ?_
  refine Lw_i2l (by decide +kernel) ?_
  refine Lw_ldc2 (idx := 32) (v := 4294967295) (by decide +kernel) (tg_10 133 (by decide +kernel) (by decide +kernel)) ?_
  refine Lw_land (by decide +kernel) ?_
  refine Lw_lor (by decide +kernel) ?_
  refine Lw_callC (d' := 3) (ν := m_X11_write) (As := [.int ((xs ((nI i + 1)).toNatClampNeg)), .int ((xs ((nI i + 2)).toNatClampNeg)), .long (((((xs ((nI i + 3)).toNatClampNeg)).toInt64 <<< ((32 : Int32).toInt64 &&& 63)) ||| (((xs ((nI i + 4)).toNatClampNeg)).toInt64 &&& (4294967295 : Int64))))]) (by decide +kernel) (tg_3 55 (by decide +kernel) (by decide +kernel)) cv_X11_write rfl rfl rfl (by decide) (Nat.le_of_ble_eq_true rfl) (t_X11_write e1) (fun r1 M1 hr => ?_)
  obtain ⟨rfl, rfl⟩ := hr
  show Lw b0 N0 xs 390 _ [.int (b2i r)] C2 MS
  refine Lw_aload_n (q := 2) (i := 2) 2 (by decide +kernel) rfl rfl ?_
  refine Lw_aload_n (q := 0) (i := 0) 0 (by decide +kernel) rfl rfl ?_
  refine Lw_iload_n (q := 3) (i := 3) 3 (by decide +kernel) rfl rfl ?_
  refine Lw_iconst (i := 1) (v := 1) (by decide +kernel) (by decide) ?_
  refine Lw_iadd (by decide +kernel) ?_
  refine Lw_sld (by decide +kernel) (ixk 1 (by decide) (by decide) hi hN) ?_
  refine Lw_aload_n (q := 0) (i := 0) 0 (by decide +kernel) rfl rfl ?_
  refine Lw_iload_n (q := 3) (i := 3) 3 (by decide +kernel) rfl rfl ?_
  refine Lw_iconst (i := 2) (v := 2) (by decide +kernel) (by decide) ?_
  refine Lw_iadd (by decide +kernel) ?_
  refine Lw_sld (by decide +kernel) (ixk 2 (by decide) (by decide) hi hN) ?_
  refine Lw_aload_n (q := 0) (i := 0) 0 (by decide +kernel) rfl rfl ?_
  refine Lw_iload_n (q := 3) (i := 3) 3 (by decide +kernel) rfl rfl ?_
  refine Lw_iconst (i := 3) (v := 3) (by decide +kernel) (by decide) ?_
  refine Lw_iadd (by decide +kernel) ?_
  refine Lw_sld (by decide +kernel) (ixk 3 (by decide) (by decide) hi hN) ?_
  refine Lw_i2l (by decide +kernel) ?_
  refine Lw_bipush (i := 32) (v := 32) (by decide +kernel) (by decide) ?_
  refine Lw_lshl (by decide +kernel) ?_
  refine Lw_aload_n (q := 0) (i := 0) 0 (by decide +kernel) rfl rfl ?_
  refine Lw_iload_n (q := 3) (i := 3) 3 (by decide +kernel) rfl rfl ?_
  refine Lw_iconst (i := 4) (v := 4) (by decide +kernel) (by decide) ?_
  refine Lw_iadd (by decide +kernel) ?_
  refine Lw_sld (by decide +kernel) (ixk 4 (by decide) (by decide) hi hN) ?_
  refine Lw_i2l (by decide +kernel) ?_
  refine Lw_ldc2 (idx := 32) (v := 4294967295) (by decide +kernel) (tg_10 133 (by decide +kernel) (by decide +kernel)) ?_
  refine Lw_land (by decide +kernel) ?_
  refine Lw_lor (by decide +kernel) ?_
  refine Lw_callM (d' := 2) (ν := m_X12_write) (As := [.int ((xs ((nI i + 1)).toNatClampNeg)), .int ((xs ((nI i + 2)).toNatClampNeg)), .long (((((xs ((nI i + 3)).toNatClampNeg)).toInt64 <<< ((32 : Int32).toInt64 &&& 63)) ||| (((xs ((nI i + 4)).toNatClampNeg)).toInt64 &&& (4294967295 : Int64))))]) (by decide +kernel) (tg_7 157 (by decide +kernel) (by decide +kernel)) cv_X12_write rfl rfl rfl (by decide) (Nat.le_of_ble_eq_true rfl) (t_X12_write e2) (fun r1 M1 hr => ?_)
  obtain ⟨rfl, rfl⟩ := hr
  show Lw b0 N0 xs 424 _ [.int (b2i r), .int (b2i r)] C2 S2
  exact Lw_icmp_eq (off := 1585) 2009 (by decide +kernel) (by decide) (fun _ => k _ _ hR) (fun hc => absurd rfl hc)
set_option maxRecDepth 20000 in
theorem case_5 {i : Nat} (hi : i + 6 ≤ N0) (hN : N0 ≤ 3072) (h : Rel MC MS) (k : ∀ MC2 MS2, Rel MC2 MS2 → Lw b0 N0 xs 2009 [(0, .ref 700), (1, .ref 0), (2, .ref 200), (3, .int (nI i))] [] MC2 MS2) : Lw b0 N0 xs 429 [(0, .ref 700), (1, .ref 0), (2, .ref 200), (3, .int (nI i))] [] MC MS := by
  obtain ⟨r, C2, S2, e1, e2, hR⟩ := e_read h ((xs ((nI i + 1)).toNatClampNeg)) ((xs ((nI i + 2)).toNatClampNeg))
  refine Lw_aload_n (q := 1) (i := 1) 1 (by decide +kernel) rfl rfl ?_
  refine Lw_aload_n (q := 0) (i := 0) 0 (by decide +kernel) rfl rfl ?_
  refine Lw_iload_n (q := 3) (i := 3) 3 (by decide +kernel) rfl rfl ?_
  refine Lw_iconst (i := 1) (v := 1) (by decide +kernel) (by decide) ?_
  refine Lw_iadd (by decide +kernel) ?_
  refine Lw_sld (by decide +kernel) (ixk 1 (by decide) (by decide) hi hN) ?_
  refine Lw_aload_n (q := 0) (i := 0) 0 (by decide +kernel) rfl rfl ?_
  refine Lw_iload_n (q := 3) (i := 3) 3 (by decide +kernel) rfl rfl ?_
  refine Lw_iconst (i := 2) (v := 2) (by decide +kernel) (by decide) ?_
  refine Lw_iadd (by decide +kernel) ?_
  refine Lw_sld (by decide +kernel) (ixk 2 (by decide) (by decide) hi hN) ?_
  refine Lw_callC (d' := 3) (ν := m_X11_read) (As := [.int ((xs ((nI i + 1)).toNatClampNeg)), .int ((xs ((nI i + 2)).toNatClampNeg))]) (by decide +kernel) (tg_3 75 (by decide +kernel) (by decide +kernel)) cv_X11_read rfl rfl rfl (by decide) (Nat.le_of_ble_eq_true rfl) (t_X11_read e1) (fun r1 M1 hr => ?_)
  obtain ⟨rfl, rfl⟩ := hr
  show Lw b0 N0 xs 443 _ [.long r] C2 MS
  refine Lw_aload_n (q := 2) (i := 2) 2 (by decide +kernel) rfl rfl ?_
  refine Lw_aload_n (q := 0) (i := 0) 0 (by decide +kernel) rfl rfl ?_
  refine Lw_iload_n (q := 3) (i := 3) 3 (by decide +kernel) rfl rfl ?_
  refine Lw_iconst (i := 1) (v := 1) (by decide +kernel) (by decide) ?_
  refine Lw_iadd (by decide +kernel) ?_
  refine Lw_sld (by decide +kernel) (ixk 1 (by decide) (by decide) hi hN) ?_
  refine Lw_aload_n (q := 0) (i := 0) 0 (by decide +kernel) rfl rfl ?_
  refine Lw_iload_n (q := 3) (i := 3) 3 (by decide +kernel) rfl rfl ?_
  refine Lw_iconst (i := 2) (v := 2) (by decide +kernel) (by decide) ?_
  refine Lw_iadd (by decide +kernel) ?_
  refine Lw_sld (by decide +kernel) (ixk 2 (by decide) (by decide) hi hN) ?_
  refine Lw_callM (d' := 2) (ν := m_X12_read) (As := [.int ((xs ((nI i + 1)).toNatClampNeg)), .int ((xs ((nI i + 2)).toNatClampNeg))]) (by decide +kernel) (tg_7 172 (by decide +kernel) (by decide +kernel)) cv_X12_read rfl rfl rfl (by decide) (Nat.le_of_ble_eq_true rfl) (t_X12_read e2) (fun r1 M1 hr => ?_)
  obtain ⟨rfl, rfl⟩ := hr
  show Lw b0 N0 xs 457 _ [.long r, .long r] C2 S2
  refine Lw_lcmp (by decide +kernel) ?_
  exact Lw_if_eq (off := 1551) 2009 (by decide +kernel) (by decide) (fun _ => k _ _ hR) (fun hc => absurd (lcs r) hc)
set_option maxRecDepth 20000 in
theorem case_6 {i : Nat} (hi : i + 6 ≤ N0) (hN : N0 ≤ 3072) (h : Rel MC MS) (k : ∀ MC2 MS2, Rel MC2 MS2 → Lw b0 N0 xs 2009 [(0, .ref 700), (1, .ref 0), (2, .ref 200), (3, .int (nI i))] [] MC2 MS2) : Lw b0 N0 xs 463 [(0, .ref 700), (1, .ref 0), (2, .ref 200), (3, .int (nI i))] [] MC MS := by
  obtain ⟨r, C2, S2, e1, e2, hR⟩ := e_pour (N := 50000) (by decide) h ((xs ((nI i + 1)).toNatClampNeg)) ((xs ((nI i + 2)).toNatClampNeg)) ((xs ((nI i + 3)).toNatClampNeg)) ((xs ((nI i + 4)).toNatClampNeg)) ((xs ((nI i + 5)).toNatClampNeg))
  refine Lw_aload_n (q := 1) (i := 1) 1 (by decide +kernel) rfl rfl ?_
  refine Lw_aload_n (q := 0) (i := 0) 0 (by decide +kernel) rfl rfl ?_
  refine Lw_iload_n (q := 3) (i := 3) 3 (by decide +kernel) rfl rfl ?_
  refine Lw_iconst (i := 1) (v := 1) (by decide +kernel) (by decide) ?_
  refine Lw_iadd (by decide +kernel) ?_
  refine Lw_sld (by decide +kernel) (ixk 1 (by decide) (by decide) hi hN) ?_
  refine Lw_aload_n (q := 0) (i := 0) 0 (by decide +kernel) rfl rfl ?_
  refine Lw_iload_n (q := 3) (i := 3) 3 (by decide +kernel) rfl rfl ?_
  refine Lw_iconst (i := 2) (v := 2) (by decide +kernel) (by decide) ?_
  refine Lw_iadd (by decide +kernel) ?_
  refine Lw_sld (by decide +kernel) (ixk 2 (by decide) (by decide) hi hN) ?_
  refine Lw_aload_n (q := 0) (i := 0) 0 (by decide +kernel) rfl rfl ?_
  refine Lw_iload_n (q := 3) (i := 3) 3 (by decide +kernel) rfl rfl ?_
  refine Lw_iconst (i := 3) (v := 3) (by decide +kernel) (by decide) ?_
  refine Lw_iadd (by decide +kernel) ?_
  refine Lw_sld (by decide +kernel) (ixk 3 (by decide) (by decide) hi hN) ?_
  refine Lw_aload_n (q := 0) (i := 0) 0 (by decide +kernel) rfl rfl ?_
  refine Lw_iload_n (q := 3) (i := 3) 3 (by decide +kernel) rfl rfl ?_
  refine Lw_iconst (i := 4) (v := 4) (by decide +kernel) (by decide) ?_
  refine Lw_iadd (by decide +kernel) ?_
  refine Lw_sld (by decide +kernel) (ixk 4 (by decide) (by decide) hi hN) ?_
  refine Lw_aload_n (q := 0) (i := 0) 0 (by decide +kernel) rfl rfl ?_
  refine Lw_iload_n (q := 3) (i := 3) 3 (by decide +kernel) rfl rfl ?_
  refine Lw_iconst (i := 5) (v := 5) (by decide +kernel) (by decide) ?_
  refine Lw_iadd (by decide +kernel) ?_
  refine Lw_sld (by decide +kernel) (ixk 5 (by decide) (by decide) hi hN) ?_
  refine Lw_callC (d' := 2) (ν := m_X11_pour) (As := [.int ((xs ((nI i + 1)).toNatClampNeg)), .int ((xs ((nI i + 2)).toNatClampNeg)), .int ((xs ((nI i + 3)).toNatClampNeg)), .int ((xs ((nI i + 4)).toNatClampNeg)), .int ((xs ((nI i + 5)).toNatClampNeg))]) (by decide +kernel) (tg_3 83 (by decide +kernel) (by decide +kernel)) cv_X11_pour rfl rfl rfl (by decide) (Nat.le_of_ble_eq_true rfl) (t_X11_pour e1) (fun r1 M1 hr => ?_)
  obtain ⟨rfl, rfl⟩ := hr
  show Lw b0 N0 xs 492 _ [.int (b2i r)] C2 MS
  refine Lw_aload_n (q := 2) (i := 2) 2 (by decide +kernel) rfl rfl ?_
  refine Lw_aload_n (q := 0) (i := 0) 0 (by decide +kernel) rfl rfl ?_
  refine Lw_iload_n (q := 3) (i := 3) 3 (by decide +kernel) rfl rfl ?_
  refine Lw_iconst (i := 1) (v := 1) (by decide +kernel) (by decide) ?_
  refine Lw_iadd (by decide +kernel) ?_
  refine Lw_sld (by decide +kernel) (ixk 1 (by decide) (by decide) hi hN) ?_
  refine Lw_aload_n (q := 0) (i := 0) 0 (by decide +kernel) rfl rfl ?_
  refine Lw_iload_n (q := 3) (i := 3) 3 (by decide +kernel) rfl rfl ?_
  refine Lw_iconst (i := 2) (v := 2) (by decide +kernel) (by decide) ?_
  refine Lw_iadd (by decide +kernel) ?_
  refine Lw_sld (by decide +kernel) (ixk 2 (by decide) (by decide) hi hN) ?_
  refine Lw_aload_n (q := 0) (i := 0) 0 (by decide +kernel) rfl rfl ?_
  refine Lw_iload_n (q := 3) (i := 3) 3 (by decide +kernel) rfl rfl ?_
  refine Lw_iconst (i := 3) (v := 3) (by decide +kernel) (by decide) ?_
  refine Lw_iadd (by decide +kernel) ?_
  refine Lw_sld (by decide +kernel) (ixk 3 (by decide) (by decide) hi hN) ?_
  refine Lw_aload_n (q := 0) (i := 0) 0 (by decide +kernel) rfl rfl ?_
  refine Lw_iload_n (q := 3) (i := 3) 3 (by decide +kernel) rfl rfl ?_
  refine Lw_iconst (i := 4) (v := 4) (by decide +kernel) (by decide) ?_
  refine Lw_iadd (by decide +kernel) ?_
  refine Lw_sld (by decide +kernel) (ixk 4 (by decide) (by decide) hi hN) ?_
  refine Lw_aload_n (q := 0) (i := 0) 0 (by decide +kernel) rfl rfl ?_
  refine Lw_iload_n (q := 3) (i := 3) 3 (by decide +kernel) rfl rfl ?_
  refine Lw_iconst (i := 5) (v := 5) (by decide +kernel) (by decide) ?_
  refine Lw_iadd (by decide +kernel) ?_
  refine Lw_sld (by decide +kernel) (ixk 5 (by decide) (by decide) hi hN) ?_
  refine Lw_callM (d' := 1) (ν := m_X12_pour) (As := [.int ((xs ((nI i + 1)).toNatClampNeg)), .int ((xs ((nI i + 2)).toNatClampNeg)), .int ((xs ((nI i + 3)).toNatClampNeg)), .int ((xs ((nI i + 4)).toNatClampNeg)), .int ((xs ((nI i + 5)).toNatClampNeg))]) (by decide +kernel) (tg_7 177 (by decide +kernel) (by decide +kernel)) cv_X12_pour rfl rfl rfl (by decide) (Nat.le_of_ble_eq_true rfl) (t_X12_pour (N := 50000) e2) (fun r1 M1 hr => ?_)
  obtain ⟨rfl, rfl⟩ := hr
  show Lw b0 N0 xs 521 _ [.int (b2i r), .int (b2i r)] C2 S2
  exact Lw_icmp_eq (off := 1488) 2009 (by decide +kernel) (by decide) (fun _ => k _ _ hR) (fun hc => absurd rfl hc)
set_option maxRecDepth 20000 in
theorem case_7 {i : Nat} (hi : i + 6 ≤ N0) (hN : N0 ≤ 3072) (h : Rel MC MS) (k : ∀ MC2 MS2, Rel MC2 MS2 → Lw b0 N0 xs 2009 [(0, .ref 700), (1, .ref 0), (2, .ref 200), (3, .int (nI i))] [] MC2 MS2) : Lw b0 N0 xs 526 [(0, .ref 700), (1, .ref 0), (2, .ref 200), (3, .int (nI i))] [] MC MS := by
  obtain ⟨r, C2, S2, e1, e2, hR⟩ := e_feed (N := 50000) (by decide) h ((xs ((nI i + 1)).toNatClampNeg)) ((xs ((nI i + 2)).toNatClampNeg)) ((xs ((nI i + 3)).toNatClampNeg)) ((xs ((nI i + 4)).toNatClampNeg)) ((xs ((nI i + 5)).toNatClampNeg))
  refine Lw_aload_n (q := 1) (i := 1) 1 (by decide +kernel) rfl rfl ?_
  refine Lw_aload_n (q := 0) (i := 0) 0 (by decide +kernel) rfl rfl ?_
  refine Lw_iload_n (q := 3) (i := 3) 3 (by decide +kernel) rfl rfl ?_
  refine Lw_iconst (i := 1) (v := 1) (by decide +kernel) (by decide) ?_
  refine Lw_iadd (by decide +kernel) ?_
  refine Lw_sld (by decide +kernel) (ixk 1 (by decide) (by decide) hi hN) ?_
  refine Lw_aload_n (q := 0) (i := 0) 0 (by decide +kernel) rfl rfl ?_
  refine Lw_iload_n (q := 3) (i := 3) 3 (by decide +kernel) rfl rfl ?_
  refine Lw_iconst (i := 2) (v := 2) (by decide +kernel) (by decide) ?_
  refine Lw_iadd (by decide +kernel) ?_
  refine Lw_sld (by decide +kernel) (ixk 2 (by decide) (by decide) hi hN) ?_
  refine Lw_aload_n (q := 0) (i := 0) 0 (by decide +kernel) rfl rfl ?_
  refine Lw_iload_n (q := 3) (i := 3) 3 (by decide +kernel) rfl rfl ?_
  refine Lw_iconst (i := 3) (v := 3) (by decide +kernel) (by decide) ?_
  refine Lw_iadd (by decide +kernel) ?_
  refine Lw_sld (by decide +kernel) (ixk 3 (by decide) (by decide) hi hN) ?_
  refine Lw_aload_n (q := 0) (i := 0) 0 (by decide +kernel) rfl rfl ?_
  refine Lw_iload_n (q := 3) (i := 3) 3 (by decide +kernel) rfl rfl ?_
  refine Lw_iconst (i := 4) (v := 4) (by decide +kernel) (by decide) ?_
  refine Lw_iadd (by decide +kernel) ?_
  refine Lw_sld (by decide +kernel) (ixk 4 (by decide) (by decide) hi hN) ?_
  refine Lw_aload_n (q := 0) (i := 0) 0 (by decide +kernel) rfl rfl ?_
  refine Lw_iload_n (q := 3) (i := 3) 3 (by decide +kernel) rfl rfl ?_
  refine Lw_iconst (i := 5) (v := 5) (by decide +kernel) (by decide) ?_
  refine Lw_iadd (by decide +kernel) ?_
  refine Lw_sld (by decide +kernel) (ixk 5 (by decide) (by decide) hi hN) ?_
  refine Lw_callC (d' := 1) (ν := m_X11_feed) (As := [.int ((xs ((nI i + 1)).toNatClampNeg)), .int ((xs ((nI i + 2)).toNatClampNeg)), .int ((xs ((nI i + 3)).toNatClampNeg)), .int ((xs ((nI i + 4)).toNatClampNeg)), .int ((xs ((nI i + 5)).toNatClampNeg))]) (by decide +kernel) (tg_3 98 (by decide +kernel) (by decide +kernel)) cv_X11_feed rfl rfl rfl (by decide) (Nat.le_of_ble_eq_true rfl) (t_X11_feed (N := 50000) e1) (fun r1 M1 hr => ?_)
  obtain ⟨rfl, rfl⟩ := hr
  show Lw b0 N0 xs 555 _ [.int r] C2 MS
  refine Lw_aload_n (q := 2) (i := 2) 2 (by decide +kernel) rfl rfl ?_
  refine Lw_aload_n (q := 0) (i := 0) 0 (by decide +kernel) rfl rfl ?_
  refine Lw_iload_n (q := 3) (i := 3) 3 (by decide +kernel) rfl rfl ?_
  refine Lw_iconst (i := 1) (v := 1) (by decide +kernel) (by decide) ?_
  refine Lw_iadd (by decide +kernel) ?_
  refine Lw_sld (by decide +kernel) (ixk 1 (by decide) (by decide) hi hN) ?_
  refine Lw_aload_n (q := 0) (i := 0) 0 (by decide +kernel) rfl rfl ?_
  refine Lw_iload_n (q := 3) (i := 3) 3 (by decide +kernel) rfl rfl ?_
  refine Lw_iconst (i := 2) (v := 2) (by decide +kernel) (by decide) ?_
  refine Lw_iadd (by decide +kernel) ?_
  refine Lw_sld (by decide +kernel) (ixk 2 (by decide) (by decide) hi hN) ?_
  refine Lw_aload_n (q := 0) (i := 0) 0 (by decide +kernel) rfl rfl ?_
  refine Lw_iload_n (q := 3) (i := 3) 3 (by decide +kernel) rfl rfl ?_
  refine Lw_iconst (i := 3) (v := 3) (by decide +kernel) (by decide) ?_
  refine Lw_iadd (by decide +kernel) ?_
  refine Lw_sld (by decide +kernel) (ixk 3 (by decide) (by decide) hi hN) ?_
  refine Lw_aload_n (q := 0) (i := 0) 0 (by decide +kernel) rfl rfl ?_
  refine Lw_iload_n (q := 3) (i := 3) 3 (by decide +kernel) rfl rfl ?_
  refine Lw_iconst (i := 4) (v := 4) (by decide +kernel) (by decide) ?_
  refine Lw_iadd (by decide +kernel) ?_
  refine Lw_sld (by decide +kernel) (ixk 4 (by decide) (by decide) hi hN) ?_
  refine Lw_aload_n (q := 0) (i := 0) 0 (by decide +kernel) rfl rfl ?_
  refine Lw_iload_n (q := 3) (i := 3) 3 (by decide +kernel) rfl rfl ?_
  refine Lw_iconst (i := 5) (v := 5) (by decide +kernel) (by decide) ?_
  refine Lw_iadd (by decide +kernel) ?_
  refine Lw_sld (by decide +kernel) (ixk 5 (by decide) (by decide) hi hN) ?_
  refine Lw_callM (d' := 1) (ν := m_X12_feed) (As := [.int ((xs ((nI i + 1)).toNatClampNeg)), .int ((xs ((nI i + 2)).toNatClampNeg)), .int ((xs ((nI i + 3)).toNatClampNeg)), .int ((xs ((nI i + 4)).toNatClampNeg)), .int ((xs ((nI i + 5)).toNatClampNeg))]) (by decide +kernel) (tg_7 181 (by decide +kernel) (by decide +kernel)) cv_X12_feed rfl rfl rfl (by decide) (Nat.le_of_ble_eq_true rfl) (t_X12_feed (N := 50000) e2) (fun r1 M1 hr => ?_)
  obtain ⟨rfl, rfl⟩ := hr
  show Lw b0 N0 xs 584 _ [.int r, .int r] C2 S2
  exact Lw_icmp_eq (off := 1425) 2009 (by decide +kernel) (by decide) (fun _ => k _ _ hR) (fun hc => absurd rfl hc)
set_option maxRecDepth 20000 in
theorem case_8 {i : Nat} (hi : i + 6 ≤ N0) (hN : N0 ≤ 3072) (h : Rel MC MS) (k : ∀ MC2 MS2, Rel MC2 MS2 → Lw b0 N0 xs 2009 [(0, .ref 700), (1, .ref 0), (2, .ref 200), (3, .int (nI i))] [] MC2 MS2) : Lw b0 N0 xs 589 [(0, .ref 700), (1, .ref 0), (2, .ref 200), (3, .int (nI i))] [] MC MS := by
  obtain ⟨r, C2, S2, e1, e2, hR⟩ := e_port (N := 50000) (by decide) h ((xs ((nI i + 1)).toNatClampNeg))
  refine Lw_aload_n (q := 1) (i := 1) 1 (by decide +kernel) rfl rfl ?_
  refine Lw_aload_n (q := 0) (i := 0) 0 (by decide +kernel) rfl rfl ?_
  refine Lw_iload_n (q := 3) (i := 3) 3 (by decide +kernel) rfl rfl ?_
  refine Lw_iconst (i := 1) (v := 1) (by decide +kernel) (by decide) ?_
  refine Lw_iadd (by decide +kernel) ?_
  refine Lw_sld (by decide +kernel) (ixk 1 (by decide) (by decide) hi hN) ?_
  refine Lw_callC (d' := 12) (ν := m_X11_port) (As := [.int ((xs ((nI i + 1)).toNatClampNeg))]) (by decide +kernel) (tg_3 106 (by decide +kernel) (by decide +kernel)) cv_X11_port rfl rfl rfl (by decide) (Nat.le_of_ble_eq_true rfl) (t_X11_port (N := 50000) e1) (fun r1 M1 hr => ?_)
  obtain ⟨rfl, rfl⟩ := hr
  show Lw b0 N0 xs 598 _ [.int r] C2 MS
  refine Lw_aload_n (q := 2) (i := 2) 2 (by decide +kernel) rfl rfl ?_
  refine Lw_aload_n (q := 0) (i := 0) 0 (by decide +kernel) rfl rfl ?_
  refine Lw_iload_n (q := 3) (i := 3) 3 (by decide +kernel) rfl rfl ?_
  refine Lw_iconst (i := 1) (v := 1) (by decide +kernel) (by decide) ?_
  refine Lw_iadd (by decide +kernel) ?_
  refine Lw_sld (by decide +kernel) (ixk 1 (by decide) (by decide) hi hN) ?_
  refine Lw_callM (d' := 8) (ν := m_X12_port) (As := [.int ((xs ((nI i + 1)).toNatClampNeg))]) (by decide +kernel) (tg_7 193 (by decide +kernel) (by decide +kernel)) cv_X12_port rfl rfl rfl (by decide) (Nat.le_of_ble_eq_true rfl) (t_X12_port (N := 50000) e2) (fun r1 M1 hr => ?_)
  obtain ⟨rfl, rfl⟩ := hr
  show Lw b0 N0 xs 607 _ [.int r, .int r] C2 S2
  exact Lw_icmp_eq (off := 1402) 2009 (by decide +kernel) (by decide) (fun _ => k _ _ hR) (fun hc => absurd rfl hc)
set_option maxRecDepth 20000 in
theorem case_9 {i : Nat} (hi : i + 6 ≤ N0) (hN : N0 ≤ 3072) (h : Rel MC MS) (k : ∀ MC2 MS2, Rel MC2 MS2 → Lw b0 N0 xs 2009 [(0, .ref 700), (1, .ref 0), (2, .ref 200), (3, .int (nI i))] [] MC2 MS2) : Lw b0 N0 xs 612 [(0, .ref 700), (1, .ref 0), (2, .ref 200), (3, .int (nI i))] [] MC MS := by
  obtain ⟨r, C2, S2, e1, e2, hR⟩ := e_nights (N := 50000) (by decide) h ((xs ((nI i + 1)).toNatClampNeg))
  refine Lw_aload_n (q := 1) (i := 1) 1 (by decide +kernel) rfl rfl ?_
  refine Lw_aload_n (q := 0) (i := 0) 0 (by decide +kernel) rfl rfl ?_
  refine Lw_iload_n (q := 3) (i := 3) 3 (by decide +kernel) rfl rfl ?_
  refine Lw_iconst (i := 1) (v := 1) (by decide +kernel) (by decide) ?_
  refine Lw_iadd (by decide +kernel) ?_
  refine Lw_sld (by decide +kernel) (ixk 1 (by decide) (by decide) hi hN) ?_
  refine Lw_callC (d' := 12) (ν := m_X11_nights) (As := [.int ((xs ((nI i + 1)).toNatClampNeg))]) (by decide +kernel) (tg_4 63 (by decide +kernel) (by decide +kernel)) cv_X11_nights rfl rfl rfl (by decide) (Nat.le_of_ble_eq_true rfl) (t_X11_nights (N := 50000) e1) (fun r1 M1 hr => ?_)
  obtain ⟨rfl, rfl⟩ := hr
  show Lw b0 N0 xs 621 _ [.int r] C2 MS
  refine Lw_aload_n (q := 2) (i := 2) 2 (by decide +kernel) rfl rfl ?_
  refine Lw_aload_n (q := 0) (i := 0) 0 (by decide +kernel) rfl rfl ?_
  refine Lw_iload_n (q := 3) (i := 3) 3 (by decide +kernel) rfl rfl ?_
  refine Lw_iconst (i := 1) (v := 1) (by decide +kernel) (by decide) ?_
  refine Lw_iadd (by decide +kernel) ?_
  refine Lw_sld (by decide +kernel) (ixk 1 (by decide) (by decide) hi hN) ?_
  refine Lw_callM (d' := 49) (ν := m_X12_nights) (As := [.int ((xs ((nI i + 1)).toNatClampNeg))]) (by decide +kernel) (tg_8 178 (by decide +kernel) (by decide +kernel)) cv_X12_nights rfl rfl rfl (by decide) (Nat.le_of_ble_eq_true rfl) (t_X12_nights (N := 50000) e2) (fun r1 M1 hr => ?_)
  obtain ⟨rfl, rfl⟩ := hr
  show Lw b0 N0 xs 630 _ [.int r, .int r] C2 S2
  exact Lw_icmp_eq (off := 1379) 2009 (by decide +kernel) (by decide) (fun _ => k _ _ hR) (fun hc => absurd rfl hc)
set_option maxRecDepth 20000 in
theorem case_10 {i : Nat} (hi : i + 6 ≤ N0) (hN : N0 ≤ 3072) (h : Rel MC MS) (k : ∀ MC2 MS2, Rel MC2 MS2 → Lw b0 N0 xs 2009 [(0, .ref 700), (1, .ref 0), (2, .ref 200), (3, .int (nI i))] [] MC2 MS2) : Lw b0 N0 xs 635 [(0, .ref 700), (1, .ref 0), (2, .ref 200), (3, .int (nI i))] [] MC MS := by
  obtain ⟨r, C2, S2, e1, e2, hR⟩ := e_fault h ((xs ((nI i + 1)).toNatClampNeg))
  refine Lw_aload_n (q := 1) (i := 1) 1 (by decide +kernel) rfl rfl ?_
  refine Lw_aload_n (q := 0) (i := 0) 0 (by decide +kernel) rfl rfl ?_
  refine Lw_iload_n (q := 3) (i := 3) 3 (by decide +kernel) rfl rfl ?_
  refine Lw_iconst (i := 1) (v := 1) (by decide +kernel) (by decide) ?_
  refine Lw_iadd (by decide +kernel) ?_
  refine Lw_sld (by decide +kernel) (ixk 1 (by decide) (by decide) hi hN) ?_
  refine Lw_callC (d' := 0) (ν := m_X11_fault) (As := [.int ((xs ((nI i + 1)).toNatClampNeg))]) (by decide +kernel) (tg_4 135 (by decide +kernel) (by decide +kernel)) cv_X11_fault rfl rfl rfl (by decide) (Nat.le_of_ble_eq_true rfl) (t_X11_fault e1) (fun r1 M1 hr => ?_)
  obtain ⟨rfl, rfl⟩ := hr
  show Lw b0 N0 xs 644 _ [.int r] C2 MS
  refine Lw_aload_n (q := 2) (i := 2) 2 (by decide +kernel) rfl rfl ?_
  refine Lw_aload_n (q := 0) (i := 0) 0 (by decide +kernel) rfl rfl ?_
  refine Lw_iload_n (q := 3) (i := 3) 3 (by decide +kernel) rfl rfl ?_
  refine Lw_iconst (i := 1) (v := 1) (by decide +kernel) (by decide) ?_
  refine Lw_iadd (by decide +kernel) ?_
  refine Lw_sld (by decide +kernel) (ixk 1 (by decide) (by decide) hi hN) ?_
  refine Lw_callM (d' := 0) (ν := m_X12_fault) (As := [.int ((xs ((nI i + 1)).toNatClampNeg))]) (by decide +kernel) (tg_7 189 (by decide +kernel) (by decide +kernel)) cv_X12_fault rfl rfl rfl (by decide) (Nat.le_of_ble_eq_true rfl) (t_X12_fault e2) (fun r1 M1 hr => ?_)
  obtain ⟨rfl, rfl⟩ := hr
  show Lw b0 N0 xs 653 _ [.int r, .int r] C2 S2
  exact Lw_icmp_eq (off := 1356) 2009 (by decide +kernel) (by decide) (fun _ => k _ _ hR) (fun hc => absurd rfl hc)
set_option maxRecDepth 20000 in
theorem case_11 {i : Nat} (hi : i + 6 ≤ N0) (hN : N0 ≤ 3072) (h : Rel MC MS) (k : ∀ MC2 MS2, Rel MC2 MS2 → Lw b0 N0 xs 2009 [(0, .ref 700), (1, .ref 0), (2, .ref 200), (3, .int (nI i))] [] MC2 MS2) : Lw b0 N0 xs 658 [(0, .ref 700), (1, .ref 0), (2, .ref 200), (3, .int (nI i))] [] MC MS := by
  obtain ⟨r, C2, S2, e1, e2, hR⟩ := e_many (N := 50000) (by decide) h ((xs ((nI i + 1)).toNatClampNeg))
  refine Lw_aload_n (q := 1) (i := 1) 1 (by decide +kernel) rfl rfl ?_
  refine Lw_aload_n (q := 0) (i := 0) 0 (by decide +kernel) rfl rfl ?_
  refine Lw_iload_n (q := 3) (i := 3) 3 (by decide +kernel) rfl rfl ?_
  refine Lw_iconst (i := 1) (v := 1) (by decide +kernel) (by decide) ?_
  refine Lw_iadd (by decide +kernel) ?_
  refine Lw_sld (by decide +kernel) (ixk 1 (by decide) (by decide) hi hN) ?_
  refine Lw_callC (d' := 3) (ν := m_X11_many) (As := [.int ((xs ((nI i + 1)).toNatClampNeg))]) (by decide +kernel) (tg_4 139 (by decide +kernel) (by decide +kernel)) cv_X11_many rfl rfl rfl (by decide) (Nat.le_of_ble_eq_true rfl) (t_X11_many (N := 50000) e1) (fun r1 M1 hr => ?_)
  obtain ⟨rfl, rfl⟩ := hr
  show Lw b0 N0 xs 667 _ [.int r] C2 MS
  refine Lw_aload_n (q := 2) (i := 2) 2 (by decide +kernel) rfl rfl ?_
  refine Lw_aload_n (q := 0) (i := 0) 0 (by decide +kernel) rfl rfl ?_
  refine Lw_iload_n (q := 3) (i := 3) 3 (by decide +kernel) rfl rfl ?_
  refine Lw_iconst (i := 1) (v := 1) (by decide +kernel) (by decide) ?_
  refine Lw_iadd (by decide +kernel) ?_
  refine Lw_sld (by decide +kernel) (ixk 1 (by decide) (by decide) hi hN) ?_
  refine Lw_callM (d' := 3) (ν := m_X12_many) (As := [.int ((xs ((nI i + 1)).toNatClampNeg))]) (by decide +kernel) (tg_8 199 (by decide +kernel) (by decide +kernel)) cv_X12_many rfl rfl rfl (by decide) (Nat.le_of_ble_eq_true rfl) (t_X12_many (N := 50000) e2) (fun r1 M1 hr => ?_)
  obtain ⟨rfl, rfl⟩ := hr
  show Lw b0 N0 xs 676 _ [.int r, .int r] C2 S2
  exact Lw_icmp_eq (off := 1333) 2009 (by decide +kernel) (by decide) (fun _ => k _ _ hR) (fun hc => absurd rfl hc)
set_option maxRecDepth 20000 in
theorem case_12 {i : Nat} (hi : i + 6 ≤ N0) (hN : N0 ≤ 3072) (h : Rel MC MS) (k : ∀ MC2 MS2, Rel MC2 MS2 → Lw b0 N0 xs 2009 [(0, .ref 700), (1, .ref 0), (2, .ref 200), (3, .int (nI i))] [] MC2 MS2) : Lw b0 N0 xs 681 [(0, .ref 700), (1, .ref 0), (2, .ref 200), (3, .int (nI i))] [] MC MS := by
  obtain ⟨r, C2, S2, e1, e2, hR⟩ := e_gate h ((xs ((nI i + 1)).toNatClampNeg)) ((xs ((nI i + 2)).toNatClampNeg))
  refine Lw_aload_n (q := 1) (i := 1) 1 (by decide +kernel) rfl rfl ?_
  refine Lw_aload_n (q := 0) (i := 0) 0 (by decide +kernel) rfl rfl ?_
  refine Lw_iload_n (q := 3) (i := 3) 3 (by decide +kernel) rfl rfl ?_
  refine Lw_iconst (i := 1) (v := 1) (by decide +kernel) (by decide) ?_
  refine Lw_iadd (by decide +kernel) ?_
  refine Lw_sld (by decide +kernel) (ixk 1 (by decide) (by decide) hi hN) ?_
  refine Lw_aload_n (q := 0) (i := 0) 0 (by decide +kernel) rfl rfl ?_
  refine Lw_iload_n (q := 3) (i := 3) 3 (by decide +kernel) rfl rfl ?_
  refine Lw_iconst (i := 2) (v := 2) (by decide +kernel) (by decide) ?_
  refine Lw_iadd (by decide +kernel) ?_
  refine Lw_sld (by decide +kernel) (ixk 2 (by decide) (by decide) hi hN) ?_
  refine Lw_callC (d' := 1) (ν := m_X11_gate) (As := [.int ((xs ((nI i + 1)).toNatClampNeg)), .int ((xs ((nI i + 2)).toNatClampNeg))]) (by decide +kernel) (tg_4 159 (by decide +kernel) (by decide +kernel)) cv_X11_gate rfl rfl rfl (by decide) (Nat.le_of_ble_eq_true rfl) (t_X11_gate e1) (fun r1 M1 hr => ?_)
  obtain ⟨rfl, rfl⟩ := hr
  show Lw b0 N0 xs 695 _ [.int r] C2 MS
  refine Lw_aload_n (q := 2) (i := 2) 2 (by decide +kernel) rfl rfl ?_
  refine Lw_aload_n (q := 0) (i := 0) 0 (by decide +kernel) rfl rfl ?_
  refine Lw_iload_n (q := 3) (i := 3) 3 (by decide +kernel) rfl rfl ?_
  refine Lw_iconst (i := 1) (v := 1) (by decide +kernel) (by decide) ?_
  refine Lw_iadd (by decide +kernel) ?_
  refine Lw_sld (by decide +kernel) (ixk 1 (by decide) (by decide) hi hN) ?_
  refine Lw_aload_n (q := 0) (i := 0) 0 (by decide +kernel) rfl rfl ?_
  refine Lw_iload_n (q := 3) (i := 3) 3 (by decide +kernel) rfl rfl ?_
  refine Lw_iconst (i := 2) (v := 2) (by decide +kernel) (by decide) ?_
  refine Lw_iadd (by decide +kernel) ?_
  refine Lw_sld (by decide +kernel) (ixk 2 (by decide) (by decide) hi hN) ?_
  refine Lw_callM (d' := 2) (ν := m_X12_gate) (As := [.int ((xs ((nI i + 1)).toNatClampNeg)), .int ((xs ((nI i + 2)).toNatClampNeg))]) (by decide +kernel) (tg_8 228 (by decide +kernel) (by decide +kernel)) cv_X12_gate rfl rfl rfl (by decide) (Nat.le_of_ble_eq_true rfl) (t_X12_gate e2) (fun r1 M1 hr => ?_)
  obtain ⟨rfl, rfl⟩ := hr
  show Lw b0 N0 xs 709 _ [.int r, .int r] C2 S2
  exact Lw_icmp_eq (off := 1300) 2009 (by decide +kernel) (by decide) (fun _ => k _ _ hR) (fun hc => absurd rfl hc)
set_option maxRecDepth 20000 in
theorem case_13 {i : Nat} (hi : i + 6 ≤ N0) (hN : N0 ≤ 3072) (h : Rel MC MS) (k : ∀ MC2 MS2, Rel MC2 MS2 → Lw b0 N0 xs 2009 [(0, .ref 700), (1, .ref 0), (2, .ref 200), (3, .int (nI i))] [] MC2 MS2) : Lw b0 N0 xs 714 [(0, .ref 700), (1, .ref 0), (2, .ref 200), (3, .int (nI i))] [] MC MS := by
  obtain ⟨r, C2, S2, e1, e2, hR⟩ := e_votes h ((xs ((nI i + 1)).toNatClampNeg))
  refine Lw_aload_n (q := 1) (i := 1) 1 (by decide +kernel) rfl rfl ?_
  refine Lw_aload_n (q := 0) (i := 0) 0 (by decide +kernel) rfl rfl ?_
  refine Lw_iload_n (q := 3) (i := 3) 3 (by decide +kernel) rfl rfl ?_
  refine Lw_iconst (i := 1) (v := 1) (by decide +kernel) (by decide) ?_
  refine Lw_iadd (by decide +kernel) ?_
  refine Lw_sld (by decide +kernel) (ixk 1 (by decide) (by decide) hi hN) ?_
  refine Lw_callC (d' := 1) (ν := m_X11_votes) (As := [.int ((xs ((nI i + 1)).toNatClampNeg))]) (by decide +kernel) (tg_4 167 (by decide +kernel) (by decide +kernel)) cv_X11_votes rfl rfl rfl (by decide) (Nat.le_of_ble_eq_true rfl) (t_X11_votes e1) (fun r1 M1 hr => ?_)
  obtain ⟨rfl, rfl⟩ := hr
  show Lw b0 N0 xs 723 _ [.int r] C2 MS
  refine Lw_aload_n (q := 2) (i := 2) 2 (by decide +kernel) rfl rfl ?_
  refine Lw_aload_n (q := 0) (i := 0) 0 (by decide +kernel) rfl rfl ?_
  refine Lw_iload_n (q := 3) (i := 3) 3 (by decide +kernel) rfl rfl ?_
  refine Lw_iconst (i := 1) (v := 1) (by decide +kernel) (by decide) ?_
  refine Lw_iadd (by decide +kernel) ?_
  refine Lw_sld (by decide +kernel) (ixk 1 (by decide) (by decide) hi hN) ?_
  refine Lw_callM (d' := 2) (ν := m_X12_votes) (As := [.int ((xs ((nI i + 1)).toNatClampNeg))]) (by decide +kernel) (tg_8 237 (by decide +kernel) (by decide +kernel)) cv_X12_votes rfl rfl rfl (by decide) (Nat.le_of_ble_eq_true rfl) (t_X12_votes e2) (fun r1 M1 hr => ?_)
  obtain ⟨rfl, rfl⟩ := hr
  show Lw b0 N0 xs 732 _ [.int r, .int r] C2 S2
  exact Lw_icmp_eq (off := 1277) 2009 (by decide +kernel) (by decide) (fun _ => k _ _ hR) (fun hc => absurd rfl hc)
set_option maxRecDepth 20000 in
theorem case_14 {i : Nat} (hi : i + 6 ≤ N0) (hN : N0 ≤ 3072) (h : Rel MC MS) (k : ∀ MC2 MS2, Rel MC2 MS2 → Lw b0 N0 xs 2009 [(0, .ref 700), (1, .ref 0), (2, .ref 200), (3, .int (nI i))] [] MC2 MS2) : Lw b0 N0 xs 737 [(0, .ref 700), (1, .ref 0), (2, .ref 200), (3, .int (nI i))] [] MC MS := by
  obtain ⟨r, C2, S2, e1, e2, hR⟩ := e_trade h ((xs ((nI i + 1)).toNatClampNeg)) ((xs ((nI i + 2)).toNatClampNeg))
  refine Lw_aload_n (q := 1) (i := 1) 1 (by decide +kernel) rfl rfl ?_
  refine Lw_aload_n (q := 0) (i := 0) 0 (by decide +kernel) rfl rfl ?_
  refine Lw_iload_n (q := 3) (i := 3) 3 (by decide +kernel) rfl rfl ?_
  refine Lw_iconst (i := 1) (v := 1) (by decide +kernel) (by decide) ?_
  refine Lw_iadd (by decide +kernel) ?_
  refine Lw_sld (by decide +kernel) (ixk 1 (by decide) (by decide) hi hN) ?_
  refine Lw_aload_n (q := 0) (i := 0) 0 (by decide +kernel) rfl rfl ?_
  refine Lw_iload_n (q := 3) (i := 3) 3 (by decide +kernel) rfl rfl ?_
  refine Lw_iconst (i := 2) (v := 2) (by decide +kernel) (by decide) ?_
  refine Lw_iadd (by decide +kernel) ?_
  refine Lw_sld (by decide +kernel) (ixk 2 (by decide) (by decide) hi hN) ?_
  refine Lw_callC (d' := 1) (ν := m_X11_trade) (As := [.int ((xs ((nI i + 1)).toNatClampNeg)), .int ((xs ((nI i + 2)).toNatClampNeg))]) (by decide +kernel) (tg_4 175 (by decide +kernel) (by decide +kernel)) cv_X11_trade rfl rfl rfl (by decide) (Nat.le_of_ble_eq_true rfl) (t_X11_trade e1) (fun r1 M1 hr => ?_)
  obtain ⟨rfl, rfl⟩ := hr
  show Lw b0 N0 xs 751 _ [.int r] C2 MS
  refine Lw_aload_n (q := 2) (i := 2) 2 (by decide +kernel) rfl rfl ?_
  refine Lw_aload_n (q := 0) (i := 0) 0 (by decide +kernel) rfl rfl ?_
  refine Lw_iload_n (q := 3) (i := 3) 3 (by decide +kernel) rfl rfl ?_
  refine Lw_iconst (i := 1) (v := 1) (by decide +kernel) (by decide) ?_
  refine Lw_iadd (by decide +kernel) ?_
  refine Lw_sld (by decide +kernel) (ixk 1 (by decide) (by decide) hi hN) ?_
  refine Lw_aload_n (q := 0) (i := 0) 0 (by decide +kernel) rfl rfl ?_
  refine Lw_iload_n (q := 3) (i := 3) 3 (by decide +kernel) rfl rfl ?_
  refine Lw_iconst (i := 2) (v := 2) (by decide +kernel) (by decide) ?_
  refine Lw_iadd (by decide +kernel) ?_
  refine Lw_sld (by decide +kernel) (ixk 2 (by decide) (by decide) hi hN) ?_
  refine Lw_callM (d' := 1) (ν := m_X12_trade) (As := [.int ((xs ((nI i + 1)).toNatClampNeg)), .int ((xs ((nI i + 2)).toNatClampNeg))]) (by decide +kernel) (tg_9 5 (by decide +kernel) (by decide +kernel)) cv_X12_trade rfl rfl rfl (by decide) (Nat.le_of_ble_eq_true rfl) (t_X12_trade e2) (fun r1 M1 hr => ?_)
  obtain ⟨rfl, rfl⟩ := hr
  show Lw b0 N0 xs 765 _ [.int r, .int r] C2 S2
  exact Lw_icmp_eq (off := 1244) 2009 (by decide +kernel) (by decide) (fun _ => k _ _ hR) (fun hc => absurd rfl hc)
set_option maxRecDepth 20000 in
theorem case_15 {i : Nat} (hi : i + 6 ≤ N0) (hN : N0 ≤ 3072) (h : Rel MC MS) (k : ∀ MC2 MS2, Rel MC2 MS2 → Lw b0 N0 xs 2009 [(0, .ref 700), (1, .ref 0), (2, .ref 200), (3, .int (nI i))] [] MC2 MS2) : Lw b0 N0 xs 770 [(0, .ref 700), (1, .ref 0), (2, .ref 200), (3, .int (nI i))] [] MC MS := by
  obtain ⟨r, C2, S2, e1, e2, hR⟩ := e_ship h ((xs ((nI i + 1)).toNatClampNeg)) ((xs ((nI i + 2)).toNatClampNeg))
  refine Lw_aload_n (q := 1) (i := 1) 1 (by decide +kernel) rfl rfl ?_
  refine Lw_aload_n (q := 0) (i := 0) 0 (by decide +kernel) rfl rfl ?_
  refine Lw_iload_n (q := 3) (i := 3) 3 (by decide +kernel) rfl rfl ?_
  refine Lw_iconst (i := 1) (v := 1) (by decide +kernel) (by decide) ?_
  refine Lw_iadd (by decide +kernel) ?_
  refine Lw_sld (by decide +kernel) (ixk 1 (by decide) (by decide) hi hN) ?_
  refine Lw_aload_n (q := 0) (i := 0) 0 (by decide +kernel) rfl rfl ?_
  refine Lw_iload_n (q := 3) (i := 3) 3 (by decide +kernel) rfl rfl ?_
  refine Lw_iconst (i := 2) (v := 2) (by decide +kernel) (by decide) ?_
  refine Lw_iadd (by decide +kernel) ?_
  refine Lw_sld (by decide +kernel) (ixk 2 (by decide) (by decide) hi hN) ?_
  refine Lw_callC (d' := 1) (ν := m_X11_ship) (As := [.int ((xs ((nI i + 1)).toNatClampNeg)), .int ((xs ((nI i + 2)).toNatClampNeg))]) (by decide +kernel) (tg_4 179 (by decide +kernel) (by decide +kernel)) cv_X11_ship rfl rfl rfl (by decide) (Nat.le_of_ble_eq_true rfl) (t_X11_ship e1) (fun r1 M1 hr => ?_)
  obtain ⟨rfl, rfl⟩ := hr
  show Lw b0 N0 xs 784 _ [.int r] C2 MS
  refine Lw_aload_n (q := 2) (i := 2) 2 (by decide +kernel) rfl rfl ?_
  refine Lw_aload_n (q := 0) (i := 0) 0 (by decide +kernel) rfl rfl ?_
  refine Lw_iload_n (q := 3) (i := 3) 3 (by decide +kernel) rfl rfl ?_
  refine Lw_iconst (i := 1) (v := 1) (by decide +kernel) (by decide) ?_
  refine Lw_iadd (by decide +kernel) ?_
  refine Lw_sld (by decide +kernel) (ixk 1 (by decide) (by decide) hi hN) ?_
  refine Lw_aload_n (q := 0) (i := 0) 0 (by decide +kernel) rfl rfl ?_
  refine Lw_iload_n (q := 3) (i := 3) 3 (by decide +kernel) rfl rfl ?_
  refine Lw_iconst (i := 2) (v := 2) (by decide +kernel) (by decide) ?_
  refine Lw_iadd (by decide +kernel) ?_
  refine Lw_sld (by decide +kernel) (ixk 2 (by decide) (by decide) hi hN) ?_
  refine Lw_callM (d' := 2) (ν := m_X12_ship) (As := [.int ((xs ((nI i + 1)).toNatClampNeg)), .int ((xs ((nI i + 2)).toNatClampNeg))]) (by decide +kernel) (tg_9 10 (by decide +kernel) (by decide +kernel)) cv_X12_ship rfl rfl rfl (by decide) (Nat.le_of_ble_eq_true rfl) (t_X12_ship e2) (fun r1 M1 hr => ?_)
  obtain ⟨rfl, rfl⟩ := hr
  show Lw b0 N0 xs 798 _ [.int r, .int r] C2 S2
  exact Lw_icmp_eq (off := 1211) 2009 (by decide +kernel) (by decide) (fun _ => k _ _ hR) (fun hc => absurd rfl hc)
set_option maxRecDepth 20000 in
theorem case_16 {i : Nat} (hi : i + 6 ≤ N0) (hN : N0 ≤ 3072) (h : Rel MC MS) (k : ∀ MC2 MS2, Rel MC2 MS2 → Lw b0 N0 xs 2009 [(0, .ref 700), (1, .ref 0), (2, .ref 200), (3, .int (nI i))] [] MC2 MS2) : Lw b0 N0 xs 803 [(0, .ref 700), (1, .ref 0), (2, .ref 200), (3, .int (nI i))] [] MC MS := by
  obtain ⟨r, C2, S2, e1, e2, hR⟩ := e_fog h ((xs ((nI i + 1)).toNatClampNeg)) ((xs ((nI i + 2)).toNatClampNeg)) ((xs ((nI i + 3)).toNatClampNeg))
  refine Lw_aload_n (q := 1) (i := 1) 1 (by decide +kernel) rfl rfl ?_
  refine Lw_aload_n (q := 0) (i := 0) 0 (by decide +kernel) rfl rfl ?_
  refine Lw_iload_n (q := 3) (i := 3) 3 (by decide +kernel) rfl rfl ?_
  refine Lw_iconst (i := 1) (v := 1) (by decide +kernel) (by decide) ?_
  refine Lw_iadd (by decide +kernel) ?_
  refine Lw_sld (by decide +kernel) (ixk 1 (by decide) (by decide) hi hN) ?_
  refine Lw_aload_n (q := 0) (i := 0) 0 (by decide +kernel) rfl rfl ?_
  refine Lw_iload_n (q := 3) (i := 3) 3 (by decide +kernel) rfl rfl ?_
  refine Lw_iconst (i := 2) (v := 2) (by decide +kernel) (by decide) ?_
  refine Lw_iadd (by decide +kernel) ?_
  refine Lw_sld (by decide +kernel) (ixk 2 (by decide) (by decide) hi hN) ?_
  refine Lw_aload_n (q := 0) (i := 0) 0 (by decide +kernel) rfl rfl ?_
  refine Lw_iload_n (q := 3) (i := 3) 3 (by decide +kernel) rfl rfl ?_
  refine Lw_iconst (i := 3) (v := 3) (by decide +kernel) (by decide) ?_
  refine Lw_iadd (by decide +kernel) ?_
  refine Lw_sld (by decide +kernel) (ixk 3 (by decide) (by decide) hi hN) ?_
  refine Lw_callC (d' := 1) (ν := m_X11_fog) (As := [.int ((xs ((nI i + 1)).toNatClampNeg)), .int ((xs ((nI i + 2)).toNatClampNeg)), .int ((xs ((nI i + 3)).toNatClampNeg))]) (by decide +kernel) (tg_4 187 (by decide +kernel) (by decide +kernel)) cv_X11_fog rfl rfl rfl (by decide) (Nat.le_of_ble_eq_true rfl) (t_X11_fog e1) (fun r1 M1 hr => ?_)
  obtain ⟨rfl, rfl⟩ := hr
  show Lw b0 N0 xs 822 _ [.int r] C2 MS
  refine Lw_aload_n (q := 2) (i := 2) 2 (by decide +kernel) rfl rfl ?_
  refine Lw_aload_n (q := 0) (i := 0) 0 (by decide +kernel) rfl rfl ?_
  refine Lw_iload_n (q := 3) (i := 3) 3 (by decide +kernel) rfl rfl ?_
  refine Lw_iconst (i := 1) (v := 1) (by decide +kernel) (by decide) ?_
  refine Lw_iadd (by decide +kernel) ?_
  refine Lw_sld (by decide +kernel) (ixk 1 (by decide) (by decide) hi hN) ?_
  refine Lw_aload_n (q := 0) (i := 0) 0 (by decide +kernel) rfl rfl ?_
  refine Lw_iload_n (q := 3) (i := 3) 3 (by decide +kernel) rfl rfl ?_
  refine Lw_iconst (i := 2) (v := 2) (by decide +kernel) (by decide) ?_
  refine Lw_iadd (by decide +kernel) ?_
  refine Lw_sld (by decide +kernel) (ixk 2 (by decide) (by decide) hi hN) ?_
  refine Lw_aload_n (q := 0) (i := 0) 0 (by decide +kernel) rfl rfl ?_
  refine Lw_iload_n (q := 3) (i := 3) 3 (by decide +kernel) rfl rfl ?_
  refine Lw_iconst (i := 3) (v := 3) (by decide +kernel) (by decide) ?_
  refine Lw_iadd (by decide +kernel) ?_
  refine Lw_sld (by decide +kernel) (ixk 3 (by decide) (by decide) hi hN) ?_
  refine Lw_callM (d' := 2) (ν := m_X12_fog) (As := [.int ((xs ((nI i + 1)).toNatClampNeg)), .int ((xs ((nI i + 2)).toNatClampNeg)), .int ((xs ((nI i + 3)).toNatClampNeg))]) (by decide +kernel) (tg_9 18 (by decide +kernel) (by decide +kernel)) cv_X12_fog rfl rfl rfl (by decide) (Nat.le_of_ble_eq_true rfl) (t_X12_fog e2) (fun r1 M1 hr => ?_)
  obtain ⟨rfl, rfl⟩ := hr
  show Lw b0 N0 xs 841 _ [.int r, .int r] C2 S2
  exact Lw_icmp_eq (off := 1168) 2009 (by decide +kernel) (by decide) (fun _ => k _ _ hR) (fun hc => absurd rfl hc)
set_option maxRecDepth 20000 in
theorem case_17 {i : Nat} (hi : i + 6 ≤ N0) (hN : N0 ≤ 3072) (h : Rel MC MS) (k : ∀ MC2 MS2, Rel MC2 MS2 → Lw b0 N0 xs 2009 [(0, .ref 700), (1, .ref 0), (2, .ref 200), (3, .int (nI i))] [] MC2 MS2) : Lw b0 N0 xs 846 [(0, .ref 700), (1, .ref 0), (2, .ref 200), (3, .int (nI i))] [] MC MS := by
  obtain ⟨r, C2, S2, e1, e2, hR⟩ := e_foggy h ((xs ((nI i + 1)).toNatClampNeg)) ((xs ((nI i + 2)).toNatClampNeg))
  refine Lw_aload_n (q := 1) (i := 1) 1 (by decide +kernel) rfl rfl ?_
  refine Lw_aload_n (q := 0) (i := 0) 0 (by decide +kernel) rfl rfl ?_
  refine Lw_iload_n (q := 3) (i := 3) 3 (by decide +kernel) rfl rfl ?_
  refine Lw_iconst (i := 1) (v := 1) (by decide +kernel) (by decide) ?_
  refine Lw_iadd (by decide +kernel) ?_
  refine Lw_sld (by decide +kernel) (ixk 1 (by decide) (by decide) hi hN) ?_
  refine Lw_aload_n (q := 0) (i := 0) 0 (by decide +kernel) rfl rfl ?_
  refine Lw_iload_n (q := 3) (i := 3) 3 (by decide +kernel) rfl rfl ?_
  refine Lw_iconst (i := 2) (v := 2) (by decide +kernel) (by decide) ?_
  refine Lw_iadd (by decide +kernel) ?_
  refine Lw_sld (by decide +kernel) (ixk 2 (by decide) (by decide) hi hN) ?_
  refine Lw_callC (d' := 2) (ν := m_X11_foggy) (As := [.int ((xs ((nI i + 1)).toNatClampNeg)), .int ((xs ((nI i + 2)).toNatClampNeg))]) (by decide +kernel) (tg_4 196 (by decide +kernel) (by decide +kernel)) cv_X11_foggy rfl rfl rfl (by decide) (Nat.le_of_ble_eq_true rfl) (t_X11_foggy e1) (fun r1 M1 hr => ?_)
  obtain ⟨rfl, rfl⟩ := hr
  show Lw b0 N0 xs 860 _ [.int r] C2 MS
  refine Lw_aload_n (q := 2) (i := 2) 2 (by decide +kernel) rfl rfl ?_
  refine Lw_aload_n (q := 0) (i := 0) 0 (by decide +kernel) rfl rfl ?_
  refine Lw_iload_n (q := 3) (i := 3) 3 (by decide +kernel) rfl rfl ?_
  refine Lw_iconst (i := 1) (v := 1) (by decide +kernel) (by decide) ?_
  refine Lw_iadd (by decide +kernel) ?_
  refine Lw_sld (by decide +kernel) (ixk 1 (by decide) (by decide) hi hN) ?_
  refine Lw_aload_n (q := 0) (i := 0) 0 (by decide +kernel) rfl rfl ?_
  refine Lw_iload_n (q := 3) (i := 3) 3 (by decide +kernel) rfl rfl ?_
  refine Lw_iconst (i := 2) (v := 2) (by decide +kernel) (by decide) ?_
  refine Lw_iadd (by decide +kernel) ?_
  refine Lw_sld (by decide +kernel) (ixk 2 (by decide) (by decide) hi hN) ?_
  refine Lw_callM (d' := 2) (ν := m_X12_foggy) (As := [.int ((xs ((nI i + 1)).toNatClampNeg)), .int ((xs ((nI i + 2)).toNatClampNeg))]) (by decide +kernel) (tg_9 30 (by decide +kernel) (by decide +kernel)) cv_X12_foggy rfl rfl rfl (by decide) (Nat.le_of_ble_eq_true rfl) (t_X12_foggy e2) (fun r1 M1 hr => ?_)
  obtain ⟨rfl, rfl⟩ := hr
  show Lw b0 N0 xs 874 _ [.int r, .int r] C2 S2
  exact Lw_icmp_eq (off := 1135) 2009 (by decide +kernel) (by decide) (fun _ => k _ _ hR) (fun hc => absurd rfl hc)
set_option maxRecDepth 20000 in
theorem case_18 {i : Nat} (hi : i + 6 ≤ N0) (hN : N0 ≤ 3072) (h : Rel MC MS) (k : ∀ MC2 MS2, Rel MC2 MS2 → Lw b0 N0 xs 2009 [(0, .ref 700), (1, .ref 0), (2, .ref 200), (3, .int (nI i))] [] MC2 MS2) : Lw b0 N0 xs 879 [(0, .ref 700), (1, .ref 0), (2, .ref 200), (3, .int (nI i))] [] MC MS := by
  obtain ⟨r, C2, S2, e1, e2, hR⟩ := e_copyFog (N := 50000) (by decide) h ((xs ((nI i + 1)).toNatClampNeg))
  refine Lw_aload_n (q := 1) (i := 1) 1 (by decide +kernel) rfl rfl ?_
  refine Lw_aload_n (q := 0) (i := 0) 0 (by decide +kernel) rfl rfl ?_
  refine Lw_iload_n (q := 3) (i := 3) 3 (by decide +kernel) rfl rfl ?_
  refine Lw_iconst (i := 1) (v := 1) (by decide +kernel) (by decide) ?_
  refine Lw_iadd (by decide +kernel) ?_
  refine Lw_sld (by decide +kernel) (ixk 1 (by decide) (by decide) hi hN) ?_
  refine Lw_callC (d' := 3) (ν := m_X11_copyFog) (As := [.int ((xs ((nI i + 1)).toNatClampNeg))]) (by decide +kernel) (tg_4 207 (by decide +kernel) (by decide +kernel)) cv_X11_copyFog rfl rfl rfl (by decide) (Nat.le_of_ble_eq_true rfl) (t_X11_copyFog (N := 50000) e1) (fun r1 M1 hr => ?_)
  obtain ⟨rfl, rfl⟩ := hr
  show Lw b0 N0 xs 888 _ [.int r] C2 MS
  refine Lw_aload_n (q := 2) (i := 2) 2 (by decide +kernel) rfl rfl ?_
  refine Lw_aload_n (q := 0) (i := 0) 0 (by decide +kernel) rfl rfl ?_
  refine Lw_iload_n (q := 3) (i := 3) 3 (by decide +kernel) rfl rfl ?_
  refine Lw_iconst (i := 1) (v := 1) (by decide +kernel) (by decide) ?_
  refine Lw_iadd (by decide +kernel) ?_
  refine Lw_sld (by decide +kernel) (ixk 1 (by decide) (by decide) hi hN) ?_
  refine Lw_callM (d' := 2) (ν := m_X12_copyFog) (As := [.int ((xs ((nI i + 1)).toNatClampNeg))]) (by decide +kernel) (tg_9 34 (by decide +kernel) (by decide +kernel)) cv_X12_copyFog rfl rfl rfl (by decide) (Nat.le_of_ble_eq_true rfl) (t_X12_copyFog (N := 50000) e2) (fun r1 M1 hr => ?_)
  obtain ⟨rfl, rfl⟩ := hr
  show Lw b0 N0 xs 897 _ [.int r, .int r] C2 S2
  exact Lw_icmp_eq (off := 1112) 2009 (by decide +kernel) (by decide) (fun _ => k _ _ hR) (fun hc => absurd rfl hc)
set_option maxRecDepth 20000 in
theorem case_19 {i : Nat} (hi : i + 6 ≤ N0) (hN : N0 ≤ 3072) (h : Rel MC MS) (k : ∀ MC2 MS2, Rel MC2 MS2 → Lw b0 N0 xs 2009 [(0, .ref 700), (1, .ref 0), (2, .ref 200), (3, .int (nI i))] [] MC2 MS2) : Lw b0 N0 xs 902 [(0, .ref 700), (1, .ref 0), (2, .ref 200), (3, .int (nI i))] [] MC MS := by
  obtain ⟨r, C2, S2, e1, e2, hR⟩ := e_hour (N := 50000) (by decide) h ((xs ((nI i + 1)).toNatClampNeg))
  refine Lw_aload_n (q := 1) (i := 1) 1 (by decide +kernel) rfl rfl ?_
  refine Lw_aload_n (q := 0) (i := 0) 0 (by decide +kernel) rfl rfl ?_
  refine Lw_iload_n (q := 3) (i := 3) 3 (by decide +kernel) rfl rfl ?_
  refine Lw_iconst (i := 1) (v := 1) (by decide +kernel) (by decide) ?_
  refine Lw_iadd (by decide +kernel) ?_
  refine Lw_sld (by decide +kernel) (ixk 1 (by decide) (by decide) hi hN) ?_
  refine Lw_callC (d' := 4) (ν := m_X11_hour) (As := [.int ((xs ((nI i + 1)).toNatClampNeg))]) (by decide +kernel) (tg_4 217 (by decide +kernel) (by decide +kernel)) cv_X11_hour rfl rfl rfl (by decide) (Nat.le_of_ble_eq_true rfl) (t_X11_hour (N := 50000) e1) (fun r1 M1 hr => ?_)
  obtain ⟨rfl, rfl⟩ := hr
  show Lw b0 N0 xs 911 _ [.int r] C2 MS
  refine Lw_aload_n (q := 2) (i := 2) 2 (by decide +kernel) rfl rfl ?_
  refine Lw_aload_n (q := 0) (i := 0) 0 (by decide +kernel) rfl rfl ?_
  refine Lw_iload_n (q := 3) (i := 3) 3 (by decide +kernel) rfl rfl ?_
  refine Lw_iconst (i := 1) (v := 1) (by decide +kernel) (by decide) ?_
  refine Lw_iadd (by decide +kernel) ?_
  refine Lw_sld (by decide +kernel) (ixk 1 (by decide) (by decide) hi hN) ?_
  refine Lw_callM (d' := 5) (ν := m_X12_hour) (As := [.int ((xs ((nI i + 1)).toNatClampNeg))]) (by decide +kernel) (tg_9 43 (by decide +kernel) (by decide +kernel)) cv_X12_hour rfl rfl rfl (by decide) (Nat.le_of_ble_eq_true rfl) (t_X12_hour (N := 50000) e2) (fun r1 M1 hr => ?_)
  obtain ⟨rfl, rfl⟩ := hr
  show Lw b0 N0 xs 920 _ [.int r, .int r] C2 S2
  exact Lw_icmp_eq (off := 1089) 2009 (by decide +kernel) (by decide) (fun _ => k _ _ hR) (fun hc => absurd rfl hc)
set_option maxRecDepth 20000 in
theorem case_21 {i : Nat} (hi : i + 6 ≤ N0) (hN : N0 ≤ 3072) (h : Rel MC MS) (k : ∀ MC2 MS2, Rel MC2 MS2 → Lw b0 N0 xs 2009 [(0, .ref 700), (1, .ref 0), (2, .ref 200), (3, .int (nI i))] [] MC2 MS2) : Lw b0 N0 xs 974 [(0, .ref 700), (1, .ref 0), (2, .ref 200), (3, .int (nI i))] [] MC MS := by
  obtain ⟨r, C2, S2, e1, e2, hR⟩ := e_openBy (N := 50000) (by decide) h ((xs ((nI i + 1)).toNatClampNeg)) ((xs ((nI i + 2)).toNatClampNeg))
  refine Lw_aload_n (q := 1) (i := 1) 1 (by decide +kernel) rfl rfl ?_
  refine Lw_aload_n (q := 0) (i := 0) 0 (by decide +kernel) rfl rfl ?_
  refine Lw_iload_n (q := 3) (i := 3) 3 (by decide +kernel) rfl rfl ?_
  refine Lw_iconst (i := 1) (v := 1) (by decide +kernel) (by decide) ?_
  refine Lw_iadd (by decide +kernel) ?_
  refine Lw_sld (by decide +kernel) (ixk 1 (by decide) (by decide) hi hN) ?_
  refine Lw_aload_n (q := 0) (i := 0) 0 (by decide +kernel) rfl rfl ?_
  refine Lw_iload_n (q := 3) (i := 3) 3 (by decide +kernel) rfl rfl ?_
  refine Lw_iconst (i := 2) (v := 2) (by decide +kernel) (by decide) ?_
  refine Lw_iadd (by decide +kernel) ?_
  refine Lw_sld (by decide +kernel) (ixk 2 (by decide) (by decide) hi hN) ?_
  refine Lw_callC (d' := 2) (ν := m_X11_openBy) (As := [.int ((xs ((nI i + 1)).toNatClampNeg)), .int ((xs ((nI i + 2)).toNatClampNeg))]) (by decide +kernel) (tg_5 35 (by decide +kernel) (by decide +kernel)) cv_X11_openBy rfl rfl rfl (by decide) (Nat.le_of_ble_eq_true rfl) (t_X11_openBy (N := 50000) e1) (fun r1 M1 hr => ?_)
  obtain ⟨rfl, rfl⟩ := hr
  show Lw b0 N0 xs 988 _ [.int (b2i r)] C2 MS
  refine Lw_aload_n (q := 2) (i := 2) 2 (by decide +kernel) rfl rfl ?_
  refine Lw_aload_n (q := 0) (i := 0) 0 (by decide +kernel) rfl rfl ?_
  refine Lw_iload_n (q := 3) (i := 3) 3 (by decide +kernel) rfl rfl ?_
  refine Lw_iconst (i := 1) (v := 1) (by decide +kernel) (by decide) ?_
  refine Lw_iadd (by decide +kernel) ?_
  refine Lw_sld (by decide +kernel) (ixk 1 (by decide) (by decide) hi hN) ?_
  refine Lw_aload_n (q := 0) (i := 0) 0 (by decide +kernel) rfl rfl ?_
  refine Lw_iload_n (q := 3) (i := 3) 3 (by decide +kernel) rfl rfl ?_
  refine Lw_iconst (i := 2) (v := 2) (by decide +kernel) (by decide) ?_
  refine Lw_iadd (by decide +kernel) ?_
  refine Lw_sld (by decide +kernel) (ixk 2 (by decide) (by decide) hi hN) ?_
  refine Lw_callM (d' := 3) (ν := m_X12_openBy) (As := [.int ((xs ((nI i + 1)).toNatClampNeg)), .int ((xs ((nI i + 2)).toNatClampNeg))]) (by decide +kernel) (tg_9 75 (by decide +kernel) (by decide +kernel)) cv_X12_openBy rfl rfl rfl (by decide) (Nat.le_of_ble_eq_true rfl) (t_X12_openBy (N := 50000) e2) (fun r1 M1 hr => ?_)
  obtain ⟨rfl, rfl⟩ := hr
  show Lw b0 N0 xs 1002 _ [.int (b2i r), .int (b2i r)] C2 S2
  exact Lw_icmp_eq (off := 1007) 2009 (by decide +kernel) (by decide) (fun _ => k _ _ hR) (fun hc => absurd rfl hc)
set_option maxRecDepth 20000 in
theorem case_22 {i : Nat} (hi : i + 6 ≤ N0) (hN : N0 ≤ 3072) (h : Rel MC MS) (k : ∀ MC2 MS2, Rel MC2 MS2 → Lw b0 N0 xs 2009 [(0, .ref 700), (1, .ref 0), (2, .ref 200), (3, .int (nI i))] [] MC2 MS2) : Lw b0 N0 xs 1007 [(0, .ref 700), (1, .ref 0), (2, .ref 200), (3, .int (nI i))] [] MC MS := by
  obtain ⟨r, C2, S2, e1, e2, hR⟩ := e_wind h ((xs ((nI i + 1)).toNatClampNeg))
  refine Lw_aload_n (q := 1) (i := 1) 1 (by decide +kernel) rfl rfl ?_
  refine Lw_aload_n (q := 0) (i := 0) 0 (by decide +kernel) rfl rfl ?_
  refine Lw_iload_n (q := 3) (i := 3) 3 (by decide +kernel) rfl rfl ?_
  refine Lw_iconst (i := 1) (v := 1) (by decide +kernel) (by decide) ?_
  refine Lw_iadd (by decide +kernel) ?_
  refine Lw_sld (by decide +kernel) (ixk 1 (by decide) (by decide) hi hN) ?_
  refine Lw_callC (d' := 1) (ν := m_X11_wind) (As := [.int ((xs ((nI i + 1)).toNatClampNeg))]) (by decide +kernel) (tg_5 59 (by decide +kernel) (by decide +kernel)) cv_X11_wind rfl rfl rfl (by decide) (Nat.le_of_ble_eq_true rfl) (t_X11_wind e1) (fun r1 M1 hr => ?_)
  obtain ⟨rfl, rfl⟩ := hr
  show Lw b0 N0 xs 1016 _ [.int (b2i r)] C2 MS
  refine Lw_aload_n (q := 2) (i := 2) 2 (by decide +kernel) rfl rfl ?_
  refine Lw_aload_n (q := 0) (i := 0) 0 (by decide +kernel) rfl rfl ?_
  refine Lw_iload_n (q := 3) (i := 3) 3 (by decide +kernel) rfl rfl ?_
  refine Lw_iconst (i := 1) (v := 1) (by decide +kernel) (by decide) ?_
  refine Lw_iadd (by decide +kernel) ?_
  refine Lw_sld (by decide +kernel) (ixk 1 (by decide) (by decide) hi hN) ?_
  refine Lw_callM (d' := 1) (ν := m_X12_wind) (As := [.int ((xs ((nI i + 1)).toNatClampNeg))]) (by decide +kernel) (tg_9 95 (by decide +kernel) (by decide +kernel)) cv_X12_wind rfl rfl rfl (by decide) (Nat.le_of_ble_eq_true rfl) (t_X12_wind e2) (fun r1 M1 hr => ?_)
  obtain ⟨rfl, rfl⟩ := hr
  show Lw b0 N0 xs 1025 _ [.int (b2i r), .int (b2i r)] C2 S2
  exact Lw_icmp_eq (off := 984) 2009 (by decide +kernel) (by decide) (fun _ => k _ _ hR) (fun hc => absurd rfl hc)
set_option maxRecDepth 20000 in
theorem case_23 {i : Nat} (hi : i + 6 ≤ N0) (hN : N0 ≤ 3072) (h : Rel MC MS) (k : ∀ MC2 MS2, Rel MC2 MS2 → Lw b0 N0 xs 2009 [(0, .ref 700), (1, .ref 0), (2, .ref 200), (3, .int (nI i))] [] MC2 MS2) : Lw b0 N0 xs 1030 [(0, .ref 700), (1, .ref 0), (2, .ref 200), (3, .int (nI i))] [] MC MS := by
  obtain ⟨r, C2, S2, e1, e2, hR⟩ := e_sweep h ((xs ((nI i + 1)).toNatClampNeg)) ((xs ((nI i + 2)).toNatClampNeg))
  refine Lw_aload_n (q := 1) (i := 1) 1 (by decide +kernel) rfl rfl ?_
  refine Lw_aload_n (q := 0) (i := 0) 0 (by decide +kernel) rfl rfl ?_
  refine Lw_iload_n (q := 3) (i := 3) 3 (by decide +kernel) rfl rfl ?_
  refine Lw_iconst (i := 1) (v := 1) (by decide +kernel) (by decide) ?_
  refine Lw_iadd (by decide +kernel) ?_
  refine Lw_sld (by decide +kernel) (ixk 1 (by decide) (by decide) hi hN) ?_
  refine Lw_aload_n (q := 0) (i := 0) 0 (by decide +kernel) rfl rfl ?_
  refine Lw_iload_n (q := 3) (i := 3) 3 (by decide +kernel) rfl rfl ?_
  refine Lw_iconst (i := 2) (v := 2) (by decide +kernel) (by decide) ?_
  refine Lw_iadd (by decide +kernel) ?_
  refine Lw_sld (by decide +kernel) (ixk 2 (by decide) (by decide) hi hN) ?_
  refine Lw_callC (d' := 1) (ν := m_X11_sweep) (As := [.int ((xs ((nI i + 1)).toNatClampNeg)), .int ((xs ((nI i + 2)).toNatClampNeg))]) (by decide +kernel) (tg_5 63 (by decide +kernel) (by decide +kernel)) cv_X11_sweep rfl rfl rfl (by decide) (Nat.le_of_ble_eq_true rfl) (t_X11_sweep e1) (fun r1 M1 hr => ?_)
  obtain ⟨rfl, rfl⟩ := hr
  show Lw b0 N0 xs 1044 _ [.int r] C2 MS
  refine Lw_aload_n (q := 2) (i := 2) 2 (by decide +kernel) rfl rfl ?_
  refine Lw_aload_n (q := 0) (i := 0) 0 (by decide +kernel) rfl rfl ?_
  refine Lw_iload_n (q := 3) (i := 3) 3 (by decide +kernel) rfl rfl ?_
  refine Lw_iconst (i := 1) (v := 1) (by decide +kernel) (by decide) ?_
  refine Lw_iadd (by decide +kernel) ?_
  refine Lw_sld (by decide +kernel) (ixk 1 (by decide) (by decide) hi hN) ?_
  refine Lw_aload_n (q := 0) (i := 0) 0 (by decide +kernel) rfl rfl ?_
  refine Lw_iload_n (q := 3) (i := 3) 3 (by decide +kernel) rfl rfl ?_
  refine Lw_iconst (i := 2) (v := 2) (by decide +kernel) (by decide) ?_
  refine Lw_iadd (by decide +kernel) ?_
  refine Lw_sld (by decide +kernel) (ixk 2 (by decide) (by decide) hi hN) ?_
  refine Lw_callM (d' := 2) (ν := m_X12_sweep) (As := [.int ((xs ((nI i + 1)).toNatClampNeg)), .int ((xs ((nI i + 2)).toNatClampNeg))]) (by decide +kernel) (tg_9 99 (by decide +kernel) (by decide +kernel)) cv_X12_sweep rfl rfl rfl (by decide) (Nat.le_of_ble_eq_true rfl) (t_X12_sweep e2) (fun r1 M1 hr => ?_)
  obtain ⟨rfl, rfl⟩ := hr
  show Lw b0 N0 xs 1058 _ [.int r, .int r] C2 S2
  exact Lw_icmp_eq (off := 951) 2009 (by decide +kernel) (by decide) (fun _ => k _ _ hR) (fun hc => absurd rfl hc)
set_option maxRecDepth 20000 in
theorem case_24 {i : Nat} (hi : i + 6 ≤ N0) (hN : N0 ≤ 3072) (h : Rel MC MS) (k : ∀ MC2 MS2, Rel MC2 MS2 → Lw b0 N0 xs 2009 [(0, .ref 700), (1, .ref 0), (2, .ref 200), (3, .int (nI i))] [] MC2 MS2) : Lw b0 N0 xs 1063 [(0, .ref 700), (1, .ref 0), (2, .ref 200), (3, .int (nI i))] [] MC MS := by
  obtain ⟨r, C2, S2, e1, e2, hR⟩ := e_breathe h ((xs ((nI i + 1)).toNatClampNeg)) ((xs ((nI i + 2)).toNatClampNeg)) ((xs ((nI i + 3)).toNatClampNeg)) ((xs ((nI i + 4)).toNatClampNeg))
  refine Lw_aload_n (q := 1) (i := 1) 1 (by decide +kernel) rfl rfl ?_
  refine Lw_aload_n (q := 0) (i := 0) 0 (by decide +kernel) rfl rfl ?_
  refine Lw_iload_n (q := 3) (i := 3) 3 (by decide +kernel) rfl rfl ?_
  refine Lw_iconst (i := 1) (v := 1) (by decide +kernel) (by decide) ?_
  refine Lw_iadd (by decide +kernel) ?_
  refine Lw_sld (by decide +kernel) (ixk 1 (by decide) (by decide) hi hN) ?_
  refine Lw_aload_n (q := 0) (i := 0) 0 (by decide +kernel) rfl rfl ?_
  refine Lw_iload_n (q := 3) (i := 3) 3 (by decide +kernel) rfl rfl ?_
  refine Lw_iconst (i := 2) (v := 2) (by decide +kernel) (by decide) ?_
  refine Lw_iadd (by decide +kernel) ?_
  refine Lw_sld (by decide +kernel) (ixk 2 (by decide) (by decide) hi hN) ?_
  refine Lw_aload_n (q := 0) (i := 0) 0 (by decide +kernel) rfl rfl ?_
  refine Lw_iload_n (q := 3) (i := 3) 3 (by decide +kernel) rfl rfl ?_
  refine Lw_iconst (i := 3) (v := 3) (by decide +kernel) (by decide) ?_
  refine Lw_iadd (by decide +kernel) ?_
  refine Lw_sld (by decide +kernel) (ixk 3 (by decide) (by decide) hi hN) ?_
  refine Lw_aload_n (q := 0) (i := 0) 0 (by decide +kernel) rfl rfl ?_
  refine Lw_iload_n (q := 3) (i := 3) 3 (by decide +kernel) rfl rfl ?_
  refine Lw_iconst (i := 4) (v := 4) (by decide +kernel) (by decide) ?_
  refine Lw_iadd (by decide +kernel) ?_
  refine Lw_sld (by decide +kernel) (ixk 4 (by decide) (by decide) hi hN) ?_
  refine Lw_callC (d' := 1) (ν := m_X11_breathe) (As := [.int ((xs ((nI i + 1)).toNatClampNeg)), .int ((xs ((nI i + 2)).toNatClampNeg)), .int ((xs ((nI i + 3)).toNatClampNeg)), .int ((xs ((nI i + 4)).toNatClampNeg))]) (by decide +kernel) (tg_5 67 (by decide +kernel) (by decide +kernel)) cv_X11_breathe rfl rfl rfl (by decide) (Nat.le_of_ble_eq_true rfl) (t_X11_breathe e1) (fun r1 M1 hr => ?_)
  obtain ⟨rfl, rfl⟩ := hr
  show Lw b0 N0 xs 1087 _ [.int r] C2 MS
  refine Lw_aload_n (q := 2) (i := 2) 2 (by decide +kernel) rfl rfl ?_
  refine Lw_aload_n (q := 0) (i := 0) 0 (by decide +kernel) rfl rfl ?_
  refine Lw_iload_n (q := 3) (i := 3) 3 (by decide +kernel) rfl rfl ?_
  refine Lw_iconst (i := 1) (v := 1) (by decide +kernel) (by decide) ?_
  refine Lw_iadd (by decide +kernel) ?_
  refine Lw_sld (by decide +kernel) (ixk 1 (by decide) (by decide) hi hN) ?_
  refine Lw_aload_n (q := 0) (i := 0) 0 (by decide +kernel) rfl rfl ?_
  refine Lw_iload_n (q := 3) (i := 3) 3 (by decide +kernel) rfl rfl ?_
  refine Lw_iconst (i := 2) (v := 2) (by decide +kernel) (by decide) ?_
  refine Lw_iadd (by decide +kernel) ?_
  refine Lw_sld (by decide +kernel) (ixk 2 (by decide) (by decide) hi hN) ?_
  refine Lw_aload_n (q := 0) (i := 0) 0 (by decide +kernel) rfl rfl ?_
  refine Lw_iload_n (q := 3) (i := 3) 3 (by decide +kernel) rfl rfl ?_
  refine Lw_iconst (i := 3) (v := 3) (by decide +kernel) (by decide) ?_
  refine Lw_iadd (by decide +kernel) ?_
  refine Lw_sld (by decide +kernel) (ixk 3 (by decide) (by decide) hi hN) ?_
  refine Lw_aload_n (q := 0) (i := 0) 0 (by decide +kernel) rfl rfl ?_
  refine Lw_iload_n (q := 3) (i := 3) 3 (by decide +kernel) rfl rfl ?_
  refine Lw_iconst (i := 4) (v := 4) (by decide +kernel) (by decide) ?_
  refine Lw_iadd (by decide +kernel) ?_
  refine Lw_sld (by decide +kernel) (ixk 4 (by decide) (by decide) hi hN) ?_
  refine Lw_callM (d' := 2) (ν := m_X12_breathe) (As := [.int ((xs ((nI i + 1)).toNatClampNeg)), .int ((xs ((nI i + 2)).toNatClampNeg)), .int ((xs ((nI i + 3)).toNatClampNeg)), .int ((xs ((nI i + 4)).toNatClampNeg))]) (by decide +kernel) (tg_9 103 (by decide +kernel) (by decide +kernel)) cv_X12_breathe rfl rfl rfl (by decide) (Nat.le_of_ble_eq_true rfl) (t_X12_breathe e2) (fun r1 M1 hr => ?_)
  obtain ⟨rfl, rfl⟩ := hr
  show Lw b0 N0 xs 1111 _ [.int r, .int r] C2 S2
  exact Lw_icmp_eq (off := 898) 2009 (by decide +kernel) (by decide) (fun _ => k _ _ hR) (fun hc => absurd rfl hc)
set_option maxRecDepth 20000 in
theorem case_25 {i : Nat} (hi : i + 6 ≤ N0) (hN : N0 ≤ 3072) (h : Rel MC MS) (k : ∀ MC2 MS2, Rel MC2 MS2 → Lw b0 N0 xs 2009 [(0, .ref 700), (1, .ref 0), (2, .ref 200), (3, .int (nI i))] [] MC2 MS2) : Lw b0 N0 xs 1116 [(0, .ref 700), (1, .ref 0), (2, .ref 200), (3, .int (nI i))] [] MC MS := by
  obtain ⟨r, C2, S2, e1, e2, hR⟩ := e_tow h ((xs ((nI i + 1)).toNatClampNeg)) ((xs ((nI i + 2)).toNatClampNeg)) ((xs ((nI i + 3)).toNatClampNeg))
  refine Lw_aload_n (q := 1) (i := 1) 1 (by decide +kernel) rfl rfl ?_
  refine Lw_aload_n (q := 0) (i := 0) 0 (by decide +kernel) rfl rfl ?_
  refine Lw_iload_n (q := 3) (i := 3) 3 (by decide +kernel) rfl rfl ?_
  refine Lw_iconst (i := 1) (v := 1) (by decide +kernel) (by decide) ?_
  refine Lw_iadd (by decide +kernel) ?_
  refine Lw_sld (by decide +kernel) (ixk 1 (by decide) (by decide) hi hN) ?_
  refine Lw_aload_n (q := 0) (i := 0) 0 (by decide +kernel) rfl rfl ?_
  refine Lw_iload_n (q := 3) (i := 3) 3 (by decide +kernel) rfl rfl ?_
  refine Lw_iconst (i := 2) (v := 2) (by decide +kernel) (by decide) ?_
  refine Lw_iadd (by decide +kernel) ?_
  refine Lw_sld (by decide +kernel) (ixk 2 (by decide) (by decide) hi hN) ?_
  refine Lw_aload_n (q := 0) (i := 0) 0 (by decide +kernel) rfl rfl ?_
  refine Lw_iload_n (q := 3) (i := 3) 3 (by decide +kernel) rfl rfl ?_
  refine Lw_iconst (i := 3) (v := 3) (by decide +kernel) (by decide) ?_
  refine Lw_iadd (by decide +kernel) ?_
  refine Lw_sld (by decide +kernel) (ixk 3 (by decide) (by decide) hi hN) ?_
  refine Lw_callC (d' := 1) (ν := m_X11_tow) (As := [.int ((xs ((nI i + 1)).toNatClampNeg)), .int ((xs ((nI i + 2)).toNatClampNeg)), .int ((xs ((nI i + 3)).toNatClampNeg))]) (by decide +kernel) (tg_5 72 (by decide +kernel) (by decide +kernel)) cv_X11_tow rfl rfl rfl (by decide) (Nat.le_of_ble_eq_true rfl) (t_X11_tow e1) (fun r1 M1 hr => ?_)
  obtain ⟨rfl, rfl⟩ := hr
  show Lw b0 N0 xs 1135 _ [.int (b2i r)] C2 MS
  refine Lw_aload_n (q := 2) (i := 2) 2 (by decide +kernel) rfl rfl ?_
  refine Lw_aload_n (q := 0) (i := 0) 0 (by decide +kernel) rfl rfl ?_
  refine Lw_iload_n (q := 3) (i := 3) 3 (by decide +kernel) rfl rfl ?_
  refine Lw_iconst (i := 1) (v := 1) (by decide +kernel) (by decide) ?_
  refine Lw_iadd (by decide +kernel) ?_
  refine Lw_sld (by decide +kernel) (ixk 1 (by decide) (by decide) hi hN) ?_
  refine Lw_aload_n (q := 0) (i := 0) 0 (by decide +kernel) rfl rfl ?_
  refine Lw_iload_n (q := 3) (i := 3) 3 (by decide +kernel) rfl rfl ?_
  refine Lw_iconst (i := 2) (v := 2) (by decide +kernel) (by decide) ?_
  refine Lw_iadd (by decide +kernel) ?_
  refine Lw_sld (by decide +kernel) (ixk 2 (by decide) (by decide) hi hN) ?_
  refine Lw_aload_n (q := 0) (i := 0) 0 (by decide +kernel) rfl rfl ?_
  refine Lw_iload_n (q := 3) (i := 3) 3 (by decide +kernel) rfl rfl ?_
  refine Lw_iconst (i := 3) (v := 3) (by decide +kernel) (by decide) ?_
  refine Lw_iadd (by decide +kernel) ?_
  refine Lw_sld (by decide +kernel) (ixk 3 (by decide) (by decide) hi hN) ?_
  refine Lw_callM (d' := 2) (ν := m_X12_tow) (As := [.int ((xs ((nI i + 1)).toNatClampNeg)), .int ((xs ((nI i + 2)).toNatClampNeg)), .int ((xs ((nI i + 3)).toNatClampNeg))]) (by decide +kernel) (tg_9 108 (by decide +kernel) (by decide +kernel)) cv_X12_tow rfl rfl rfl (by decide) (Nat.le_of_ble_eq_true rfl) (t_X12_tow e2) (fun r1 M1 hr => ?_)
  obtain ⟨rfl, rfl⟩ := hr
  show Lw b0 N0 xs 1154 _ [.int (b2i r), .int (b2i r)] C2 S2
  exact Lw_icmp_eq (off := 855) 2009 (by decide +kernel) (by decide) (fun _ => k _ _ hR) (fun hc => absurd rfl hc)
set_option maxRecDepth 20000 in
theorem case_26 {i : Nat} (hi : i + 6 ≤ N0) (hN : N0 ≤ 3072) (h : Rel MC MS) (k : ∀ MC2 MS2, Rel MC2 MS2 → Lw b0 N0 xs 2009 [(0, .ref 700), (1, .ref 0), (2, .ref 200), (3, .int (nI i))] [] MC2 MS2) : Lw b0 N0 xs 1159 [(0, .ref 700), (1, .ref 0), (2, .ref 200), (3, .int (nI i))] [] MC MS := by
  obtain ⟨r, C2, S2, e1, e2, hR⟩ := e_later (N := 50000) (by decide) h ((xs ((nI i + 1)).toNatClampNeg)) ((xs ((nI i + 2)).toNatClampNeg)) ((xs ((nI i + 3)).toNatClampNeg))
  refine Lw_aload_n (q := 1) (i := 1) 1 (by decide +kernel) rfl rfl ?_
  refine Lw_aload_n (q := 0) (i := 0) 0 (by decide +kernel) rfl rfl ?_
  refine Lw_iload_n (q := 3) (i := 3) 3 (by decide +kernel) rfl rfl ?_
  refine Lw_iconst (i := 1) (v := 1) (by decide +kernel) (by decide) ?_
  refine Lw_iadd (by decide +kernel) ?_
  refine Lw_sld (by decide +kernel) (ixk 1 (by decide) (by decide) hi hN) ?_
  refine Lw_aload_n (q := 0) (i := 0) 0 (by decide +kernel) rfl rfl ?_
  refine Lw_iload_n (q := 3) (i := 3) 3 (by decide +kernel) rfl rfl ?_
  refine Lw_iconst (i := 2) (v := 2) (by decide +kernel) (by decide) ?_
  refine Lw_iadd (by decide +kernel) ?_
  refine Lw_sld (by decide +kernel) (ixk 2 (by decide) (by decide) hi hN) ?_
  refine Lw_aload_n (q := 0) (i := 0) 0 (by decide +kernel) rfl rfl ?_
  refine Lw_iload_n (q := 3) (i := 3) 3 (by decide +kernel) rfl rfl ?_
  refine Lw_iconst (i := 3) (v := 3) (by decide +kernel) (by decide) ?_
  refine Lw_iadd (by decide +kernel) ?_
  refine Lw_sld (by decide +kernel) (ixk 3 (by decide) (by decide) hi hN) ?_
  refine Lw_callC (d' := 4) (ν := m_X11_later) (As := [.int ((xs ((nI i + 1)).toNatClampNeg)), .int ((xs ((nI i + 2)).toNatClampNeg)), .int ((xs ((nI i + 3)).toNatClampNeg))]) (by decide +kernel) (tg_5 76 (by decide +kernel) (by decide +kernel)) cv_X11_later rfl rfl rfl (by decide) (Nat.le_of_ble_eq_true rfl) (t_X11_later (N := 50000) e1) (fun r1 M1 hr => ?_)
  obtain ⟨rfl, rfl⟩ := hr
  show Lw b0 N0 xs 1178 _ [.int r] C2 MS
  refine Lw_aload_n (q := 2) (i := 2) 2 (by decide +kernel) rfl rfl ?_
  refine Lw_aload_n (q := 0) (i := 0) 0 (by decide +kernel) rfl rfl ?_
  refine Lw_iload_n (q := 3) (i := 3) 3 (by decide +kernel) rfl rfl ?_
  refine Lw_iconst (i := 1) (v := 1) (by decide +kernel) (by decide) ?_
  refine Lw_iadd (by decide +kernel) ?_
  refine Lw_sld (by decide +kernel) (ixk 1 (by decide) (by decide) hi hN) ?_
  refine Lw_aload_n (q := 0) (i := 0) 0 (by decide +kernel) rfl rfl ?_
  refine Lw_iload_n (q := 3) (i := 3) 3 (by decide +kernel) rfl rfl ?_
  refine Lw_iconst (i := 2) (v := 2) (by decide +kernel) (by decide) ?_
  refine Lw_iadd (by decide +kernel) ?_
  refine Lw_sld (by decide +kernel) (ixk 2 (by decide) (by decide) hi hN) ?_
  refine Lw_aload_n (q := 0) (i := 0) 0 (by decide +kernel) rfl rfl ?_
  refine Lw_iload_n (q := 3) (i := 3) 3 (by decide +kernel) rfl rfl ?_
  refine Lw_iconst (i := 3) (v := 3) (by decide +kernel) (by decide) ?_
  refine Lw_iadd (by decide +kernel) ?_
  refine Lw_sld (by decide +kernel) (ixk 3 (by decide) (by decide) hi hN) ?_
  refine Lw_callM (d' := 5) (ν := m_X12_later) (As := [.int ((xs ((nI i + 1)).toNatClampNeg)), .int ((xs ((nI i + 2)).toNatClampNeg)), .int ((xs ((nI i + 3)).toNatClampNeg))]) (by decide +kernel) (tg_9 112 (by decide +kernel) (by decide +kernel)) cv_X12_later rfl rfl rfl (by decide) (Nat.le_of_ble_eq_true rfl) (t_X12_later (N := 50000) e2) (fun r1 M1 hr => ?_)
  obtain ⟨rfl, rfl⟩ := hr
  show Lw b0 N0 xs 1197 _ [.int r, .int r] C2 S2
  exact Lw_icmp_eq (off := 812) 2009 (by decide +kernel) (by decide) (fun _ => k _ _ hR) (fun hc => absurd rfl hc)
set_option maxRecDepth 20000 in
theorem case_27 {i : Nat} (hi : i + 6 ≤ N0) (hN : N0 ≤ 3072) (h : Rel MC MS) (k : ∀ MC2 MS2, Rel MC2 MS2 → Lw b0 N0 xs 2009 [(0, .ref 700), (1, .ref 0), (2, .ref 200), (3, .int (nI i))] [] MC2 MS2) : Lw b0 N0 xs 1202 [(0, .ref 700), (1, .ref 0), (2, .ref 200), (3, .int (nI i))] [] MC MS := by
  obtain ⟨r, C2, S2, e1, e2, hR⟩ := e_lifts (N := 50000) (by decide) h ((xs ((nI i + 1)).toNatClampNeg)) ((xs ((nI i + 2)).toNatClampNeg))
  refine Lw_aload_n (q := 1) (i := 1) 1 (by decide +kernel) rfl rfl ?_
  refine Lw_aload_n (q := 0) (i := 0) 0 (by decide +kernel) rfl rfl ?_
  refine Lw_iload_n (q := 3) (i := 3) 3 (by decide +kernel) rfl rfl ?_
  refine Lw_iconst (i := 1) (v := 1) (by decide +kernel) (by decide) ?_
  refine Lw_iadd (by decide +kernel) ?_
  refine Lw_sld (by decide +kernel) (ixk 1 (by decide) (by decide) hi hN) ?_
  refine Lw_aload_n (q := 0) (i := 0) 0 (by decide +kernel) rfl rfl ?_
  refine Lw_iload_n (q := 3) (i := 3) 3 (by decide +kernel) rfl rfl ?_
  refine Lw_iconst (i := 2) (v := 2) (by decide +kernel) (by decide) ?_
  refine Lw_iadd (by decide +kernel) ?_
  refine Lw_sld (by decide +kernel) (ixk 2 (by decide) (by decide) hi hN) ?_
  refine Lw_callC (d' := 4) (ν := m_X11_lifts) (As := [.int ((xs ((nI i + 1)).toNatClampNeg)), .int ((xs ((nI i + 2)).toNatClampNeg))]) (by decide +kernel) (tg_5 86 (by decide +kernel) (by decide +kernel)) cv_X11_lifts rfl rfl rfl (by decide) (Nat.le_of_ble_eq_true rfl) (t_X11_lifts (N := 50000) e1) (fun r1 M1 hr => ?_)
  obtain ⟨rfl, rfl⟩ := hr
  show Lw b0 N0 xs 1216 _ [.int r] C2 MS
  refine Lw_aload_n (q := 2) (i := 2) 2 (by decide +kernel) rfl rfl ?_
  refine Lw_aload_n (q := 0) (i := 0) 0 (by decide +kernel) rfl rfl ?_
  refine Lw_iload_n (q := 3) (i := 3) 3 (by decide +kernel) rfl rfl ?_
  refine Lw_iconst (i := 1) (v := 1) (by decide +kernel) (by decide) ?_
  refine Lw_iadd (by decide +kernel) ?_
  refine Lw_sld (by decide +kernel) (ixk 1 (by decide) (by decide) hi hN) ?_
  refine Lw_aload_n (q := 0) (i := 0) 0 (by decide +kernel) rfl rfl ?_
  refine Lw_iload_n (q := 3) (i := 3) 3 (by decide +kernel) rfl rfl ?_
  refine Lw_iconst (i := 2) (v := 2) (by decide +kernel) (by decide) ?_
  refine Lw_iadd (by decide +kernel) ?_
  refine Lw_sld (by decide +kernel) (ixk 2 (by decide) (by decide) hi hN) ?_
  refine Lw_callM (d' := 6) (ν := m_X12_lifts) (As := [.int ((xs ((nI i + 1)).toNatClampNeg)), .int ((xs ((nI i + 2)).toNatClampNeg))]) (by decide +kernel) (tg_9 124 (by decide +kernel) (by decide +kernel)) cv_X12_lifts rfl rfl rfl (by decide) (Nat.le_of_ble_eq_true rfl) (t_X12_lifts (N := 50000) e2) (fun r1 M1 hr => ?_)
  obtain ⟨rfl, rfl⟩ := hr
  show Lw b0 N0 xs 1230 _ [.int r, .int r] C2 S2
  exact Lw_icmp_eq (off := 779) 2009 (by decide +kernel) (by decide) (fun _ => k _ _ hR) (fun hc => absurd rfl hc)
set_option maxRecDepth 20000 in
theorem case_28 {i : Nat} (hi : i + 6 ≤ N0) (hN : N0 ≤ 3072) (h : Rel MC MS) (k : ∀ MC2 MS2, Rel MC2 MS2 → Lw b0 N0 xs 2009 [(0, .ref 700), (1, .ref 0), (2, .ref 200), (3, .int (nI i))] [] MC2 MS2) : Lw b0 N0 xs 1235 [(0, .ref 700), (1, .ref 0), (2, .ref 200), (3, .int (nI i))] [] MC MS := by
  obtain ⟨r, C2, S2, e1, e2, hR⟩ := e_comes (N := 50000) (by decide) h ((xs ((nI i + 1)).toNatClampNeg)) ((xs ((nI i + 2)).toNatClampNeg))
  refine Lw_aload_n (q := 1) (i := 1) 1 (by decide +kernel) rfl rfl ?_
  refine Lw_aload_n (q := 0) (i := 0) 0 (by decide +kernel) rfl rfl ?_
  refine Lw_iload_n (q := 3) (i := 3) 3 (by decide +kernel) rfl rfl ?_
  refine Lw_iconst (i := 1) (v := 1) (by decide +kernel) (by decide) ?_
  refine Lw_iadd (by decide +kernel) ?_
  refine Lw_sld (by decide +kernel) (ixk 1 (by decide) (by decide) hi hN) ?_
  refine Lw_aload_n (q := 0) (i := 0) 0 (by decide +kernel) rfl rfl ?_
  refine Lw_iload_n (q := 3) (i := 3) 3 (by decide +kernel) rfl rfl ?_
  refine Lw_iconst (i := 2) (v := 2) (by decide +kernel) (by decide) ?_
  refine Lw_iadd (by decide +kernel) ?_
  refine Lw_sld (by decide +kernel) (ixk 2 (by decide) (by decide) hi hN) ?_
  refine Lw_callC (d' := 4) (ν := m_X11_comes) (As := [.int ((xs ((nI i + 1)).toNatClampNeg)), .int ((xs ((nI i + 2)).toNatClampNeg))]) (by decide +kernel) (tg_5 99 (by decide +kernel) (by decide +kernel)) cv_X11_comes rfl rfl rfl (by decide) (Nat.le_of_ble_eq_true rfl) (t_X11_comes (N := 50000) e1) (fun r1 M1 hr => ?_)
  obtain ⟨rfl, rfl⟩ := hr
  show Lw b0 N0 xs 1249 _ [.int r] C2 MS
  refine Lw_aload_n (q := 2) (i := 2) 2 (by decide +kernel) rfl rfl ?_
  refine Lw_aload_n (q := 0) (i := 0) 0 (by decide +kernel) rfl rfl ?_
  refine Lw_iload_n (q := 3) (i := 3) 3 (by decide +kernel) rfl rfl ?_
  refine Lw_iconst (i := 1) (v := 1) (by decide +kernel) (by decide) ?_
  refine Lw_iadd (by decide +kernel) ?_
  refine Lw_sld (by decide +kernel) (ixk 1 (by decide) (by decide) hi hN) ?_
  refine Lw_aload_n (q := 0) (i := 0) 0 (by decide +kernel) rfl rfl ?_
  refine Lw_iload_n (q := 3) (i := 3) 3 (by decide +kernel) rfl rfl ?_
  refine Lw_iconst (i := 2) (v := 2) (by decide +kernel) (by decide) ?_
  refine Lw_iadd (by decide +kernel) ?_
  refine Lw_sld (by decide +kernel) (ixk 2 (by decide) (by decide) hi hN) ?_
  refine Lw_callM (d' := 6) (ν := m_X12_comes) (As := [.int ((xs ((nI i + 1)).toNatClampNeg)), .int ((xs ((nI i + 2)).toNatClampNeg))]) (by decide +kernel) (tg_9 132 (by decide +kernel) (by decide +kernel)) cv_X12_comes rfl rfl rfl (by decide) (Nat.le_of_ble_eq_true rfl) (t_X12_comes (N := 50000) e2) (fun r1 M1 hr => ?_)
  obtain ⟨rfl, rfl⟩ := hr
  show Lw b0 N0 xs 1263 _ [.int r, .int r] C2 S2
  exact Lw_icmp_eq (off := 746) 2009 (by decide +kernel) (by decide) (fun _ => k _ _ hR) (fun hc => absurd rfl hc)
set_option maxRecDepth 20000 in
theorem case_29 {i : Nat} (hi : i + 6 ≤ N0) (hN : N0 ≤ 3072) (h : Rel MC MS) (k : ∀ MC2 MS2, Rel MC2 MS2 → Lw b0 N0 xs 2009 [(0, .ref 700), (1, .ref 0), (2, .ref 200), (3, .int (nI i))] [] MC2 MS2) : Lw b0 N0 xs 1268 [(0, .ref 700), (1, .ref 0), (2, .ref 200), (3, .int (nI i))] [] MC MS := by
  obtain ⟨r, C2, S2, e1, e2, hR⟩ := e_foggyIn (N := 50000) (by decide) h ((xs ((nI i + 1)).toNatClampNeg))
  refine Lw_aload_n (q := 1) (i := 1) 1 (by decide +kernel) rfl rfl ?_
  refine Lw_aload_n (q := 0) (i := 0) 0 (by decide +kernel) rfl rfl ?_
  refine Lw_iload_n (q := 3) (i := 3) 3 (by decide +kernel) rfl rfl ?_
  refine Lw_iconst (i := 1) (v := 1) (by decide +kernel) (by decide) ?_
  refine Lw_iadd (by decide +kernel) ?_
  refine Lw_sld (by decide +kernel) (ixk 1 (by decide) (by decide) hi hN) ?_
  refine Lw_callC (d' := 4) (ν := m_X11_foggyIn) (As := [.int ((xs ((nI i + 1)).toNatClampNeg))]) (by decide +kernel) (tg_5 103 (by decide +kernel) (by decide +kernel)) cv_X11_foggyIn rfl rfl rfl (by decide) (Nat.le_of_ble_eq_true rfl) (t_X11_foggyIn (N := 50000) e1) (fun r1 M1 hr => ?_)
  obtain ⟨rfl, rfl⟩ := hr
  show Lw b0 N0 xs 1277 _ [.int r] C2 MS
  refine Lw_aload_n (q := 2) (i := 2) 2 (by decide +kernel) rfl rfl ?_
  refine Lw_aload_n (q := 0) (i := 0) 0 (by decide +kernel) rfl rfl ?_
  refine Lw_iload_n (q := 3) (i := 3) 3 (by decide +kernel) rfl rfl ?_
  refine Lw_iconst (i := 1) (v := 1) (by decide +kernel) (by decide) ?_
  refine Lw_iadd (by decide +kernel) ?_
  refine Lw_sld (by decide +kernel) (ixk 1 (by decide) (by decide) hi hN) ?_
  refine Lw_callM (d' := 5) (ν := m_X12_foggyIn) (As := [.int ((xs ((nI i + 1)).toNatClampNeg))]) (by decide +kernel) (tg_9 136 (by decide +kernel) (by decide +kernel)) cv_X12_foggyIn rfl rfl rfl (by decide) (Nat.le_of_ble_eq_true rfl) (t_X12_foggyIn (N := 50000) e2) (fun r1 M1 hr => ?_)
  obtain ⟨rfl, rfl⟩ := hr
  show Lw b0 N0 xs 1286 _ [.int r, .int r] C2 S2
  exact Lw_icmp_eq (off := 723) 2009 (by decide +kernel) (by decide) (fun _ => k _ _ hR) (fun hc => absurd rfl hc)
set_option maxRecDepth 20000 in
theorem case_30 {i : Nat} (hi : i + 6 ≤ N0) (hN : N0 ≤ 3072) (h : Rel MC MS) (k : ∀ MC2 MS2, Rel MC2 MS2 → Lw b0 N0 xs 2009 [(0, .ref 700), (1, .ref 0), (2, .ref 200), (3, .int (nI i))] [] MC2 MS2) : Lw b0 N0 xs 1291 [(0, .ref 700), (1, .ref 0), (2, .ref 200), (3, .int (nI i))] [] MC MS := by
  obtain ⟨r, C2, S2, e1, e2, hR⟩ := e_thickest (N := 50000) (by decide) h ((xs ((nI i + 1)).toNatClampNeg))
  refine Lw_aload_n (q := 1) (i := 1) 1 (by decide +kernel) rfl rfl ?_
  refine Lw_aload_n (q := 0) (i := 0) 0 (by decide +kernel) rfl rfl ?_
  refine Lw_iload_n (q := 3) (i := 3) 3 (by decide +kernel) rfl rfl ?_
  refine Lw_iconst (i := 1) (v := 1) (by decide +kernel) (by decide) ?_
  refine Lw_iadd (by decide +kernel) ?_
  refine Lw_sld (by decide +kernel) (ixk 1 (by decide) (by decide) hi hN) ?_
  refine Lw_callC (d' := 4) (ν := m_X11_thickest) (As := [.int ((xs ((nI i + 1)).toNatClampNeg))]) (by decide +kernel) (tg_5 108 (by decide +kernel) (by decide +kernel)) cv_X11_thickest rfl rfl rfl (by decide) (Nat.le_of_ble_eq_true rfl) (t_X11_thickest (N := 50000) e1) (fun r1 M1 hr => ?_)
  obtain ⟨rfl, rfl⟩ := hr
  show Lw b0 N0 xs 1300 _ [.int r] C2 MS
  refine Lw_aload_n (q := 2) (i := 2) 2 (by decide +kernel) rfl rfl ?_
  refine Lw_aload_n (q := 0) (i := 0) 0 (by decide +kernel) rfl rfl ?_
  refine Lw_iload_n (q := 3) (i := 3) 3 (by decide +kernel) rfl rfl ?_
  refine Lw_iconst (i := 1) (v := 1) (by decide +kernel) (by decide) ?_
  refine Lw_iadd (by decide +kernel) ?_
  refine Lw_sld (by decide +kernel) (ixk 1 (by decide) (by decide) hi hN) ?_
  refine Lw_callM (d' := 5) (ν := m_X12_thickest) (As := [.int ((xs ((nI i + 1)).toNatClampNeg))]) (by decide +kernel) (tg_9 140 (by decide +kernel) (by decide +kernel)) cv_X12_thickest rfl rfl rfl (by decide) (Nat.le_of_ble_eq_true rfl) (t_X12_thickest (N := 50000) e2) (fun r1 M1 hr => ?_)
  obtain ⟨rfl, rfl⟩ := hr
  show Lw b0 N0 xs 1309 _ [.int r, .int r] C2 S2
  exact Lw_icmp_eq (off := 700) 2009 (by decide +kernel) (by decide) (fun _ => k _ _ hR) (fun hc => absurd rfl hc)
set_option maxRecDepth 20000 in
theorem case_31 {i : Nat} (hi : i + 6 ≤ N0) (hN : N0 ≤ 3072) (h : Rel MC MS) (k : ∀ MC2 MS2, Rel MC2 MS2 → Lw b0 N0 xs 2009 [(0, .ref 700), (1, .ref 0), (2, .ref 200), (3, .int (nI i))] [] MC2 MS2) : Lw b0 N0 xs 1314 [(0, .ref 700), (1, .ref 0), (2, .ref 200), (3, .int (nI i))] [] MC MS := by
  obtain ⟨r, C2, S2, e1, e2, hR⟩ := e_served (N := 50000) (by decide) h 
  refine Lw_aload_n (q := 1) (i := 1) 1 (by decide +kernel) rfl rfl ?_
  refine Lw_callC (d' := 5) (ν := m_X11_served) (As := []) (by decide +kernel) (tg_5 117 (by decide +kernel) (by decide +kernel)) cv_X11_served rfl rfl rfl (by decide) (Nat.le_of_ble_eq_true rfl) (t_X11_served (N := 50000) e1) (fun r1 M1 hr => ?_)
  obtain ⟨rfl, rfl⟩ := hr
  show Lw b0 N0 xs 1318 _ [.int r] C2 MS
  refine Lw_aload_n (q := 2) (i := 2) 2 (by decide +kernel) rfl rfl ?_
  refine Lw_callM (d' := 7) (ν := m_X12_served) (As := []) (by decide +kernel) (tg_9 144 (by decide +kernel) (by decide +kernel)) cv_X12_served rfl rfl rfl (by decide) (Nat.le_of_ble_eq_true rfl) (t_X12_served (N := 50000) e2) (fun r1 M1 hr => ?_)
  obtain ⟨rfl, rfl⟩ := hr
  show Lw b0 N0 xs 1322 _ [.int r, .int r] C2 S2
  exact Lw_icmp_eq (off := 687) 2009 (by decide +kernel) (by decide) (fun _ => k _ _ hR) (fun hc => absurd rfl hc)
set_option maxRecDepth 20000 in
theorem case_32 {i : Nat} (hi : i + 6 ≤ N0) (hN : N0 ≤ 3072) (h : Rel MC MS) (k : ∀ MC2 MS2, Rel MC2 MS2 → Lw b0 N0 xs 2009 [(0, .ref 700), (1, .ref 0), (2, .ref 200), (3, .int (nI i))] [] MC2 MS2) : Lw b0 N0 xs 1327 [(0, .ref 700), (1, .ref 0), (2, .ref 200), (3, .int (nI i))] [] MC MS := by
  obtain ⟨r, C2, S2, e1, e2, hR⟩ := e_paid (N := 50000) (by decide) h 
  refine Lw_aload_n (q := 1) (i := 1) 1 (by decide +kernel) rfl rfl ?_
  refine Lw_callC (d' := 5) (ν := m_X11_paid) (As := []) (by decide +kernel) (tg_5 143 (by decide +kernel) (by decide +kernel)) cv_X11_paid rfl rfl rfl (by decide) (Nat.le_of_ble_eq_true rfl) (t_X11_paid (N := 50000) e1) (fun r1 M1 hr => ?_)
  obtain ⟨rfl, rfl⟩ := hr
  show Lw b0 N0 xs 1331 _ [.int r] C2 MS
  refine Lw_aload_n (q := 2) (i := 2) 2 (by decide +kernel) rfl rfl ?_
  refine Lw_callM (d' := 7) (ν := m_X12_paid) (As := []) (by decide +kernel) (tg_9 160 (by decide +kernel) (by decide +kernel)) cv_X12_paid rfl rfl rfl (by decide) (Nat.le_of_ble_eq_true rfl) (t_X12_paid (N := 50000) e2) (fun r1 M1 hr => ?_)
  obtain ⟨rfl, rfl⟩ := hr
  show Lw b0 N0 xs 1335 _ [.int r, .int r] C2 S2
  exact Lw_icmp_eq (off := 674) 2009 (by decide +kernel) (by decide) (fun _ => k _ _ hR) (fun hc => absurd rfl hc)
set_option maxRecDepth 20000 in
theorem case_33 {i : Nat} (hi : i + 6 ≤ N0) (hN : N0 ≤ 3072) (h : Rel MC MS) (k : ∀ MC2 MS2, Rel MC2 MS2 → Lw b0 N0 xs 2009 [(0, .ref 700), (1, .ref 0), (2, .ref 200), (3, .int (nI i))] [] MC2 MS2) : Lw b0 N0 xs 1340 [(0, .ref 700), (1, .ref 0), (2, .ref 200), (3, .int (nI i))] [] MC MS := by
  obtain ⟨r, C2, S2, e1, e2, hR⟩ := e_plan (N := 50000) (by decide) h 
  refine Lw_aload_n (q := 1) (i := 1) 1 (by decide +kernel) rfl rfl ?_
  refine Lw_callC (d' := 6) (ν := m_X11_plan) (As := []) (by decide +kernel) (tg_5 148 (by decide +kernel) (by decide +kernel)) cv_X11_plan rfl rfl rfl (by decide) (Nat.le_of_ble_eq_true rfl) (t_X11_plan (N := 50000) e1) (fun r1 M1 hr => ?_)
  obtain ⟨rfl, rfl⟩ := hr
  show Lw b0 N0 xs 1344 _ [.int r] C2 MS
  refine Lw_aload_n (q := 2) (i := 2) 2 (by decide +kernel) rfl rfl ?_
  refine Lw_callM (d' := 8) (ν := m_X12_plan) (As := []) (by decide +kernel) (tg_9 168 (by decide +kernel) (by decide +kernel)) cv_X12_plan rfl rfl rfl (by decide) (Nat.le_of_ble_eq_true rfl) (t_X12_plan (N := 50000) e2) (fun r1 M1 hr => ?_)
  obtain ⟨rfl, rfl⟩ := hr
  show Lw b0 N0 xs 1348 _ [.int r, .int r] C2 S2
  exact Lw_icmp_eq (off := 661) 2009 (by decide +kernel) (by decide) (fun _ => k _ _ hR) (fun hc => absurd rfl hc)
set_option maxRecDepth 20000 in
theorem case_34 {i : Nat} (hi : i + 6 ≤ N0) (hN : N0 ≤ 3072) (h : Rel MC MS) (k : ∀ MC2 MS2, Rel MC2 MS2 → Lw b0 N0 xs 2009 [(0, .ref 700), (1, .ref 0), (2, .ref 200), (3, .int (nI i))] [] MC2 MS2) : Lw b0 N0 xs 1353 [(0, .ref 700), (1, .ref 0), (2, .ref 200), (3, .int (nI i))] [] MC MS := by
  obtain ⟨r, C2, S2, e1, e2, hR⟩ := e_planSet (N := 50000) (by decide) h 
  refine Lw_aload_n (q := 1) (i := 1) 1 (by decide +kernel) rfl rfl ?_
  refine Lw_callC (d' := 6) (ν := m_X11_planSet) (As := []) (by decide +kernel) (tg_5 166 (by decide +kernel) (by decide +kernel)) cv_X11_planSet rfl rfl rfl (by decide) (Nat.le_of_ble_eq_true rfl) (t_X11_planSet (N := 50000) e1) (fun r1 M1 hr => ?_)
  obtain ⟨rfl, rfl⟩ := hr
  show Lw b0 N0 xs 1357 _ [.int r] C2 MS
  refine Lw_aload_n (q := 2) (i := 2) 2 (by decide +kernel) rfl rfl ?_
  refine Lw_callM (d' := 8) (ν := m_X12_planSet) (As := []) (by decide +kernel) (tg_9 179 (by decide +kernel) (by decide +kernel)) cv_X12_planSet rfl rfl rfl (by decide) (Nat.le_of_ble_eq_true rfl) (t_X12_planSet (N := 50000) e2) (fun r1 M1 hr => ?_)
  obtain ⟨rfl, rfl⟩ := hr
  show Lw b0 N0 xs 1361 _ [.int r, .int r] C2 S2
  exact Lw_icmp_eq (off := 648) 2009 (by decide +kernel) (by decide) (fun _ => k _ _ hR) (fun hc => absurd rfl hc)
set_option maxRecDepth 20000 in
theorem case_35 {i : Nat} (hi : i + 6 ≤ N0) (hN : N0 ≤ 3072) (h : Rel MC MS) (k : ∀ MC2 MS2, Rel MC2 MS2 → Lw b0 N0 xs 2009 [(0, .ref 700), (1, .ref 0), (2, .ref 200), (3, .int (nI i))] [] MC2 MS2) : Lw b0 N0 xs 1366 [(0, .ref 700), (1, .ref 0), (2, .ref 200), (3, .int (nI i))] [] MC MS := by
  obtain ⟨r, C2, S2, e1, e2, hR⟩ := e_turn (N := 50000) (by decide) h ((xs ((nI i + 1)).toNatClampNeg))
  refine Lw_aload_n (q := 1) (i := 1) 1 (by decide +kernel) rfl rfl ?_
  refine Lw_aload_n (q := 0) (i := 0) 0 (by decide +kernel) rfl rfl ?_
  refine Lw_iload_n (q := 3) (i := 3) 3 (by decide +kernel) rfl rfl ?_
  refine Lw_iconst (i := 1) (v := 1) (by decide +kernel) (by decide) ?_
  refine Lw_iadd (by decide +kernel) ?_
  refine Lw_sld (by decide +kernel) (ixk 1 (by decide) (by decide) hi hN) ?_
  refine Lw_callC (d' := 6) (ν := m_X11_turn) (As := [.int ((xs ((nI i + 1)).toNatClampNeg))]) (by decide +kernel) (tg_5 170 (by decide +kernel) (by decide +kernel)) cv_X11_turn rfl rfl rfl (by decide) (Nat.le_of_ble_eq_true rfl) (t_X11_turn (N := 50000) e1) (fun r1 M1 hr => ?_)
  obtain ⟨rfl, rfl⟩ := hr
  show Lw b0 N0 xs 1375 _ [.int r] C2 MS
  refine Lw_aload_n (q := 2) (i := 2) 2 (by decide +kernel) rfl rfl ?_
  refine Lw_aload_n (q := 0) (i := 0) 0 (by decide +kernel) rfl rfl ?_
  refine Lw_iload_n (q := 3) (i := 3) 3 (by decide +kernel) rfl rfl ?_
  refine Lw_iconst (i := 1) (v := 1) (by decide +kernel) (by decide) ?_
  refine Lw_iadd (by decide +kernel) ?_
  refine Lw_sld (by decide +kernel) (ixk 1 (by decide) (by decide) hi hN) ?_
  refine Lw_callM (d' := 7) (ν := m_X12_turn) (As := [.int ((xs ((nI i + 1)).toNatClampNeg))]) (by decide +kernel) (tg_9 183 (by decide +kernel) (by decide +kernel)) cv_X12_turn rfl rfl rfl (by decide) (Nat.le_of_ble_eq_true rfl) (t_X12_turn (N := 50000) e2) (fun r1 M1 hr => ?_)
  obtain ⟨rfl, rfl⟩ := hr
  show Lw b0 N0 xs 1384 _ [.int r, .int r] C2 S2
  exact Lw_icmp_eq (off := 625) 2009 (by decide +kernel) (by decide) (fun _ => k _ _ hR) (fun hc => absurd rfl hc)
set_option maxRecDepth 20000 in
theorem case_36 {i : Nat} (hi : i + 6 ≤ N0) (hN : N0 ≤ 3072) (h : Rel MC MS) (k : ∀ MC2 MS2, Rel MC2 MS2 → Lw b0 N0 xs 2009 [(0, .ref 700), (1, .ref 0), (2, .ref 200), (3, .int (nI i))] [] MC2 MS2) : Lw b0 N0 xs 1389 [(0, .ref 700), (1, .ref 0), (2, .ref 200), (3, .int (nI i))] [] MC MS := by
  obtain ⟨r, C2, S2, e1, e2, hR⟩ := e_turnSet (N := 50000) (by decide) h ((xs ((nI i + 1)).toNatClampNeg)) ((xs ((nI i + 2)).toNatClampNeg))
  refine Lw_aload_n (q := 1) (i := 1) 1 (by decide +kernel) rfl rfl ?_
  refine Lw_aload_n (q := 0) (i := 0) 0 (by decide +kernel) rfl rfl ?_
  refine Lw_iload_n (q := 3) (i := 3) 3 (by decide +kernel) rfl rfl ?_
  refine Lw_iconst (i := 1) (v := 1) (by decide +kernel) (by decide) ?_
  refine Lw_iadd (by decide +kernel) ?_
  refine Lw_sld (by decide +kernel) (ixk 1 (by decide) (by decide) hi hN) ?_
  refine Lw_aload_n (q := 0) (i := 0) 0 (by decide +kernel) rfl rfl ?_
  refine Lw_iload_n (q := 3) (i := 3) 3 (by decide +kernel) rfl rfl ?_
  refine Lw_iconst (i := 2) (v := 2) (by decide +kernel) (by decide) ?_
  refine Lw_iadd (by decide +kernel) ?_
  refine Lw_sld (by decide +kernel) (ixk 2 (by decide) (by decide) hi hN) ?_
  refine Lw_callC (d' := 6) (ν := m_X11_turnSet) (As := [.int ((xs ((nI i + 1)).toNatClampNeg)), .int ((xs ((nI i + 2)).toNatClampNeg))]) (by decide +kernel) (tg_5 182 (by decide +kernel) (by decide +kernel)) cv_X11_turnSet rfl rfl rfl (by decide) (Nat.le_of_ble_eq_true rfl) (t_X11_turnSet (N := 50000) e1) (fun r1 M1 hr => ?_)
  obtain ⟨rfl, rfl⟩ := hr
  show Lw b0 N0 xs 1403 _ [.int r] C2 MS
  refine Lw_aload_n (q := 2) (i := 2) 2 (by decide +kernel) rfl rfl ?_
  refine Lw_aload_n (q := 0) (i := 0) 0 (by decide +kernel) rfl rfl ?_
  refine Lw_iload_n (q := 3) (i := 3) 3 (by decide +kernel) rfl rfl ?_
  refine Lw_iconst (i := 1) (v := 1) (by decide +kernel) (by decide) ?_
  refine Lw_iadd (by decide +kernel) ?_
  refine Lw_sld (by decide +kernel) (ixk 1 (by decide) (by decide) hi hN) ?_
  refine Lw_aload_n (q := 0) (i := 0) 0 (by decide +kernel) rfl rfl ?_
  refine Lw_iload_n (q := 3) (i := 3) 3 (by decide +kernel) rfl rfl ?_
  refine Lw_iconst (i := 2) (v := 2) (by decide +kernel) (by decide) ?_
  refine Lw_iadd (by decide +kernel) ?_
  refine Lw_sld (by decide +kernel) (ixk 2 (by decide) (by decide) hi hN) ?_
  refine Lw_callM (d' := 7) (ν := m_X12_turnSet) (As := [.int ((xs ((nI i + 1)).toNatClampNeg)), .int ((xs ((nI i + 2)).toNatClampNeg))]) (by decide +kernel) (tg_9 192 (by decide +kernel) (by decide +kernel)) cv_X12_turnSet rfl rfl rfl (by decide) (Nat.le_of_ble_eq_true rfl) (t_X12_turnSet (N := 50000) e2) (fun r1 M1 hr => ?_)
  obtain ⟨rfl, rfl⟩ := hr
  show Lw b0 N0 xs 1417 _ [.int r, .int r] C2 S2
  exact Lw_icmp_eq (off := 592) 2009 (by decide +kernel) (by decide) (fun _ => k _ _ hR) (fun hc => absurd rfl hc)
set_option maxRecDepth 20000 in
theorem case_37 {i : Nat} (hi : i + 6 ≤ N0) (hN : N0 ≤ 3072) (h : Rel MC MS) (k : ∀ MC2 MS2, Rel MC2 MS2 → Lw b0 N0 xs 2009 [(0, .ref 700), (1, .ref 0), (2, .ref 200), (3, .int (nI i))] [] MC2 MS2) : Lw b0 N0 xs 1422 [(0, .ref 700), (1, .ref 0), (2, .ref 200), (3, .int (nI i))] [] MC MS := by
  obtain ⟨r, C2, S2, e1, e2, hR⟩ := e_way (N := 50000) (by decide) h ((xs ((nI i + 1)).toNatClampNeg)) ((xs ((nI i + 2)).toNatClampNeg)) ((xs ((nI i + 3)).toNatClampNeg)) ((xs ((nI i + 4)).toNatClampNeg)) ((xs ((nI i + 5)).toNatClampNeg))
  refine Lw_aload_n (q := 1) (i := 1) 1 (by decide +kernel) rfl rfl ?_
  refine Lw_aload_n (q := 0) (i := 0) 0 (by decide +kernel) rfl rfl ?_
  refine Lw_iload_n (q := 3) (i := 3) 3 (by decide +kernel) rfl rfl ?_
  refine Lw_iconst (i := 1) (v := 1) (by decide +kernel) (by decide) ?_
  refine Lw_iadd (by decide +kernel) ?_
  refine Lw_sld (by decide +kernel) (ixk 1 (by decide) (by decide) hi hN) ?_
  refine Lw_aload_n (q := 0) (i := 0) 0 (by decide +kernel) rfl rfl ?_
  refine Lw_iload_n (q := 3) (i := 3) 3 (by decide +kernel) rfl rfl ?_
  refine Lw_iconst (i := 2) (v := 2) (by decide +kernel) (by decide) ?_
  refine Lw_iadd (by decide +kernel) ?_
  refine Lw_sld (by decide +kernel) (ixk 2 (by decide) (by decide) hi hN) ?_
  refine Lw_aload_n (q := 0) (i := 0) 0 (by decide +kernel) rfl rfl ?_
  refine Lw_iload_n (q := 3) (i := 3) 3 (by decide +kernel) rfl rfl ?_
  refine Lw_iconst (i := 3) (v := 3) (by decide +kernel) (by decide) ?_
  refine Lw_iadd (by decide +kernel) ?_
  refine Lw_sld (by decide +kernel) (ixk 3 (by decide) (by decide) hi hN) ?_
  refine Lw_aload_n (q := 0) (i := 0) 0 (by decide +kernel) rfl rfl ?_
  refine Lw_iload_n (q := 3) (i := 3) 3 (by decide +kernel) rfl rfl ?_
  refine Lw_iconst (i := 4) (v := 4) (by decide +kernel) (by decide) ?_
  refine Lw_iadd (by decide +kernel) ?_
  refine Lw_sld (by decide +kernel) (ixk 4 (by decide) (by decide) hi hN) ?_
  refine Lw_aload_n (q := 0) (i := 0) 0 (by decide +kernel) rfl rfl ?_
  refine Lw_iload_n (q := 3) (i := 3) 3 (by decide +kernel) rfl rfl ?_
  refine Lw_iconst (i := 5) (v := 5) (by decide +kernel) (by decide) ?_
  refine Lw_iadd (by decide +kernel) ?_
  refine Lw_sld (by decide +kernel) (ixk 5 (by decide) (by decide) hi hN) ?_
  refine Lw_callC (d' := 5) (ν := m_X11_way) (As := [.int ((xs ((nI i + 1)).toNatClampNeg)), .int ((xs ((nI i + 2)).toNatClampNeg)), .int ((xs ((nI i + 3)).toNatClampNeg)), .int ((xs ((nI i + 4)).toNatClampNeg)), .int ((xs ((nI i + 5)).toNatClampNeg))]) (by decide +kernel) (tg_5 186 (by decide +kernel) (by decide +kernel)) cv_X11_way rfl rfl rfl (by decide) (Nat.le_of_ble_eq_true rfl) (t_X11_way (N := 50000) e1) (fun r1 M1 hr => ?_)
  obtain ⟨rfl, rfl⟩ := hr
  show Lw b0 N0 xs 1451 _ [.int r] C2 MS
  refine Lw_aload_n (q := 2) (i := 2) 2 (by decide +kernel) rfl rfl ?_
  refine Lw_aload_n (q := 0) (i := 0) 0 (by decide +kernel) rfl rfl ?_
  refine Lw_iload_n (q := 3) (i := 3) 3 (by decide +kernel) rfl rfl ?_
  refine Lw_iconst (i := 1) (v := 1) (by decide +kernel) (by decide) ?_
  refine Lw_iadd (by decide +kernel) ?_
  refine Lw_sld (by decide +kernel) (ixk 1 (by decide) (by decide) hi hN) ?_
  refine Lw_aload_n (q := 0) (i := 0) 0 (by decide +kernel) rfl rfl ?_
  refine Lw_iload_n (q := 3) (i := 3) 3 (by decide +kernel) rfl rfl ?_
  refine Lw_iconst (i := 2) (v := 2) (by decide +kernel) (by decide) ?_
  refine Lw_iadd (by decide +kernel) ?_
  refine Lw_sld (by decide +kernel) (ixk 2 (by decide) (by decide) hi hN) ?_
  refine Lw_aload_n (q := 0) (i := 0) 0 (by decide +kernel) rfl rfl ?_
  refine Lw_iload_n (q := 3) (i := 3) 3 (by decide +kernel) rfl rfl ?_
  refine Lw_iconst (i := 3) (v := 3) (by decide +kernel) (by decide) ?_
  refine Lw_iadd (by decide +kernel) ?_
  refine Lw_sld (by decide +kernel) (ixk 3 (by decide) (by decide) hi hN) ?_
  refine Lw_aload_n (q := 0) (i := 0) 0 (by decide +kernel) rfl rfl ?_
  refine Lw_iload_n (q := 3) (i := 3) 3 (by decide +kernel) rfl rfl ?_
  refine Lw_iconst (i := 4) (v := 4) (by decide +kernel) (by decide) ?_
  refine Lw_iadd (by decide +kernel) ?_
  refine Lw_sld (by decide +kernel) (ixk 4 (by decide) (by decide) hi hN) ?_
  refine Lw_aload_n (q := 0) (i := 0) 0 (by decide +kernel) rfl rfl ?_
  refine Lw_iload_n (q := 3) (i := 3) 3 (by decide +kernel) rfl rfl ?_
  refine Lw_iconst (i := 5) (v := 5) (by decide +kernel) (by decide) ?_
  refine Lw_iadd (by decide +kernel) ?_
  refine Lw_sld (by decide +kernel) (ixk 5 (by decide) (by decide) hi hN) ?_
  refine Lw_callM (d' := 3) (ν := m_X12_way) (As := [.int ((xs ((nI i + 1)).toNatClampNeg)), .int ((xs ((nI i + 2)).toNatClampNeg)), .int ((xs ((nI i + 3)).toNatClampNeg)), .int ((xs ((nI i + 4)).toNatClampNeg)), .int ((xs ((nI i + 5)).toNatClampNeg))]) (by decide +kernel) (tg_9 196 (by decide +kernel) (by decide +kernel)) cv_X12_way rfl rfl rfl (by decide) (Nat.le_of_ble_eq_true rfl) (t_X12_way (N := 50000) e2) (fun r1 M1 hr => ?_)
  obtain ⟨rfl, rfl⟩ := hr
  show Lw b0 N0 xs 1480 _ [.int r, .int r] C2 S2
  exact Lw_icmp_eq (off := 529) 2009 (by decide +kernel) (by decide) (fun _ => k _ _ hR) (fun hc => absurd rfl hc)
set_option maxRecDepth 20000 in
theorem case_38 {i : Nat} (hi : i + 6 ≤ N0) (hN : N0 ≤ 3072) (h : Rel MC MS) (k : ∀ MC2 MS2, Rel MC2 MS2 → Lw b0 N0 xs 2009 [(0, .ref 700), (1, .ref 0), (2, .ref 200), (3, .int (nI i))] [] MC2 MS2) : Lw b0 N0 xs 1485 [(0, .ref 700), (1, .ref 0), (2, .ref 200), (3, .int (nI i))] [] MC MS := by
  obtain ⟨r, C2, S2, e1, e2, hR⟩ := e_sail (N := 50000) (by decide) h ((xs ((nI i + 1)).toNatClampNeg))
  refine Lw_aload_n (q := 1) (i := 1) 1 (by decide +kernel) rfl rfl ?_
  refine Lw_aload_n (q := 0) (i := 0) 0 (by decide +kernel) rfl rfl ?_
  refine Lw_iload_n (q := 3) (i := 3) 3 (by decide +kernel) rfl rfl ?_
  refine Lw_iconst (i := 1) (v := 1) (by decide +kernel) (by decide) ?_
  refine Lw_iadd (by decide +kernel) ?_
  refine Lw_sld (by decide +kernel) (ixk 1 (by decide) (by decide) hi hN) ?_
  refine Lw_callC (d' := 5) (ν := m_X11_sail) (As := [.int ((xs ((nI i + 1)).toNatClampNeg))]) (by decide +kernel) (tg_5 213 (by decide +kernel) (by decide +kernel)) cv_X11_sail rfl rfl rfl (by decide) (Nat.le_of_ble_eq_true rfl) (t_X11_sail (N := 50000) e1) (fun r1 M1 hr => ?_)
  obtain ⟨rfl, rfl⟩ := hr
  show Lw b0 N0 xs 1494 _ [.int r] C2 MS
  refine Lw_aload_n (q := 2) (i := 2) 2 (by decide +kernel) rfl rfl ?_
  refine Lw_aload_n (q := 0) (i := 0) 0 (by decide +kernel) rfl rfl ?_
  refine Lw_iload_n (q := 3) (i := 3) 3 (by decide +kernel) rfl rfl ?_
  refine Lw_iconst (i := 1) (v := 1) (by decide +kernel) (by decide) ?_
  refine Lw_iadd (by decide +kernel) ?_
  refine Lw_sld (by decide +kernel) (ixk 1 (by decide) (by decide) hi hN) ?_
  refine Lw_callM (d' := 5) (ν := m_X12_sail) (As := [.int ((xs ((nI i + 1)).toNatClampNeg))]) (by decide +kernel) (tg_9 205 (by decide +kernel) (by decide +kernel)) cv_X12_sail rfl rfl rfl (by decide) (Nat.le_of_ble_eq_true rfl) (t_X12_sail (N := 50000) e2) (fun r1 M1 hr => ?_)
  obtain ⟨rfl, rfl⟩ := hr
  show Lw b0 N0 xs 1503 _ [.int r, .int r] C2 S2
  exact Lw_icmp_eq (off := 506) 2009 (by decide +kernel) (by decide) (fun _ => k _ _ hR) (fun hc => absurd rfl hc)
set_option maxRecDepth 20000 in
theorem case_39 {i : Nat} (hi : i + 6 ≤ N0) (hN : N0 ≤ 3072) (h : Rel MC MS) (k : ∀ MC2 MS2, Rel MC2 MS2 → Lw b0 N0 xs 2009 [(0, .ref 700), (1, .ref 0), (2, .ref 200), (3, .int (nI i))] [] MC2 MS2) : Lw b0 N0 xs 1508 [(0, .ref 700), (1, .ref 0), (2, .ref 200), (3, .int (nI i))] [] MC MS := by
  obtain ⟨r, C2, S2, e1, e2, hR⟩ := e_watch (N := 50000) (by decide) h ((xs ((nI i + 1)).toNatClampNeg)) ((xs ((nI i + 2)).toNatClampNeg)) ((xs ((nI i + 3)).toNatClampNeg)) ((xs ((nI i + 4)).toNatClampNeg))
  refine Lw_aload_n (q := 1) (i := 1) 1 (by decide +kernel) rfl rfl ?_
  refine Lw_aload_n (q := 0) (i := 0) 0 (by decide +kernel) rfl rfl ?_
  refine Lw_iload_n (q := 3) (i := 3) 3 (by decide +kernel) rfl rfl ?_
  refine Lw_iconst (i := 1) (v := 1) (by decide +kernel) (by decide) ?_
  refine Lw_iadd (by decide +kernel) ?_
  refine Lw_sld (by decide +kernel) (ixk 1 (by decide) (by decide) hi hN) ?_
  refine Lw_aload_n (q := 0) (i := 0) 0 (by decide +kernel) rfl rfl ?_
  refine Lw_iload_n (q := 3) (i := 3) 3 (by decide +kernel) rfl rfl ?_
  refine Lw_iconst (i := 2) (v := 2) (by decide +kernel) (by decide) ?_
  refine Lw_iadd (by decide +kernel) ?_
  refine Lw_sld (by decide +kernel) (ixk 2 (by decide) (by decide) hi hN) ?_
  refine Lw_aload_n (q := 0) (i := 0) 0 (by decide +kernel) rfl rfl ?_
  refine Lw_iload_n (q := 3) (i := 3) 3 (by decide +kernel) rfl rfl ?_
  refine Lw_iconst (i := 3) (v := 3) (by decide +kernel) (by decide) ?_
  refine Lw_iadd (by decide +kernel) ?_
  refine Lw_sld (by decide +kernel) (ixk 3 (by decide) (by decide) hi hN) ?_
  refine Lw_aload_n (q := 0) (i := 0) 0 (by decide +kernel) rfl rfl ?_
  refine Lw_iload_n (q := 3) (i := 3) 3 (by decide +kernel) rfl rfl ?_
  refine Lw_iconst (i := 4) (v := 4) (by decide +kernel) (by decide) ?_
  refine Lw_iadd (by decide +kernel) ?_
  refine Lw_sld (by decide +kernel) (ixk 4 (by decide) (by decide) hi hN) ?_
  refine Lw_callC (d' := 5) (ν := m_X11_watch) (As := [.int ((xs ((nI i + 1)).toNatClampNeg)), .int ((xs ((nI i + 2)).toNatClampNeg)), .int ((xs ((nI i + 3)).toNatClampNeg)), .int ((xs ((nI i + 4)).toNatClampNeg))]) (by decide +kernel) (tg_5 232 (by decide +kernel) (by decide +kernel)) cv_X11_watch rfl rfl rfl (by decide) (Nat.le_of_ble_eq_true rfl) (t_X11_watch (N := 50000) e1) (fun r1 M1 hr => ?_)
  obtain ⟨rfl, rfl⟩ := hr
  show Lw b0 N0 xs 1532 _ [.int r] C2 MS
  refine Lw_aload_n (q := 2) (i := 2) 2 (by decide +kernel) rfl rfl ?_
  refine Lw_aload_n (q := 0) (i := 0) 0 (by decide +kernel) rfl rfl ?_
  refine Lw_iload_n (q := 3) (i := 3) 3 (by decide +kernel) rfl rfl ?_
  refine Lw_iconst (i := 1) (v := 1) (by decide +kernel) (by decide) ?_
  refine Lw_iadd (by decide +kernel) ?_
  refine Lw_sld (by decide +kernel) (ixk 1 (by decide) (by decide) hi hN) ?_
  refine Lw_aload_n (q := 0) (i := 0) 0 (by decide +kernel) rfl rfl ?_
  refine Lw_iload_n (q := 3) (i := 3) 3 (by decide +kernel) rfl rfl ?_
  refine Lw_iconst (i := 2) (v := 2) (by decide +kernel) (by decide) ?_
  refine Lw_iadd (by decide +kernel) ?_
  refine Lw_sld (by decide +kernel) (ixk 2 (by decide) (by decide) hi hN) ?_
  refine Lw_aload_n (q := 0) (i := 0) 0 (by decide +kernel) rfl rfl ?_
  refine Lw_iload_n (q := 3) (i := 3) 3 (by decide +kernel) rfl rfl ?_
  refine Lw_iconst (i := 3) (v := 3) (by decide +kernel) (by decide) ?_
  refine Lw_iadd (by decide +kernel) ?_
  refine Lw_sld (by decide +kernel) (ixk 3 (by decide) (by decide) hi hN) ?_
  refine Lw_aload_n (q := 0) (i := 0) 0 (by decide +kernel) rfl rfl ?_
  refine Lw_iload_n (q := 3) (i := 3) 3 (by decide +kernel) rfl rfl ?_
  refine Lw_iconst (i := 4) (v := 4) (by decide +kernel) (by decide) ?_
  refine Lw_iadd (by decide +kernel) ?_
  refine Lw_sld (by decide +kernel) (ixk 4 (by decide) (by decide) hi hN) ?_
  refine Lw_callM (d' := 66) (ν := m_X12_watch) (As := [.int ((xs ((nI i + 1)).toNatClampNeg)), .int ((xs ((nI i + 2)).toNatClampNeg)), .int ((xs ((nI i + 3)).toNatClampNeg)), .int ((xs ((nI i + 4)).toNatClampNeg))]) (by decide +kernel) (tg_9 209 (by decide +kernel) (by decide +kernel)) cv_X12_watch rfl rfl rfl (by decide) (Nat.le_of_ble_eq_true rfl) (t_X12_watch (N := 50000) e2) (fun r1 M1 hr => ?_)
  obtain ⟨rfl, rfl⟩ := hr
  show Lw b0 N0 xs 1556 _ [.int r, .int r] C2 S2
  exact Lw_icmp_eq (off := 453) 2009 (by decide +kernel) (by decide) (fun _ => k _ _ hR) (fun hc => absurd rfl hc)
set_option maxRecDepth 20000 in
theorem case_40 {i : Nat} (hi : i + 6 ≤ N0) (hN : N0 ≤ 3072) (h : Rel MC MS) (k : ∀ MC2 MS2, Rel MC2 MS2 → Lw b0 N0 xs 2009 [(0, .ref 700), (1, .ref 0), (2, .ref 200), (3, .int (nI i))] [] MC2 MS2) : Lw b0 N0 xs 1561 [(0, .ref 700), (1, .ref 0), (2, .ref 200), (3, .int (nI i))] [] MC MS := by
  obtain ⟨r, C2, S2, e1, e2, hR⟩ := e_together (N := 50000) (by decide) h ((xs ((nI i + 1)).toNatClampNeg)) ((xs ((nI i + 2)).toNatClampNeg))
  refine Lw_aload_n (q := 1) (i := 1) 1 (by decide +kernel) rfl rfl ?_
  refine Lw_aload_n (q := 0) (i := 0) 0 (by decide +kernel) rfl rfl ?_
  refine Lw_iload_n (q := 3) (i := 3) 3 (by decide +kernel) rfl rfl ?_
  refine Lw_iconst (i := 1) (v := 1) (by decide +kernel) (by decide) ?_
  refine Lw_iadd (by decide +kernel) ?_
  refine Lw_sld (by decide +kernel) (ixk 1 (by decide) (by decide) hi hN) ?_
  refine Lw_aload_n (q := 0) (i := 0) 0 (by decide +kernel) rfl rfl ?_
  refine Lw_iload_n (q := 3) (i := 3) 3 (by decide +kernel) rfl rfl ?_
  refine Lw_iconst (i := 2) (v := 2) (by decide +kernel) (by decide) ?_
  refine Lw_iadd (by decide +kernel) ?_
  refine Lw_sld (by decide +kernel) (ixk 2 (by decide) (by decide) hi hN) ?_
  refine Lw_callC (d' := 2) (ν := m_X11_together) (As := [.int ((xs ((nI i + 1)).toNatClampNeg)), .int ((xs ((nI i + 2)).toNatClampNeg))]) (by decide +kernel) (tg_6 32 (by decide +kernel) (by decide +kernel)) cv_X11_together rfl rfl rfl (by decide) (Nat.le_of_ble_eq_true rfl) (t_X11_together (N := 50000) e1) (fun r1 M1 hr => ?_)
  obtain ⟨rfl, rfl⟩ := hr
  show Lw b0 N0 xs 1575 _ [.int r] C2 MS
  refine Lw_aload_n (q := 2) (i := 2) 2 (by decide +kernel) rfl rfl ?_
  refine Lw_aload_n (q := 0) (i := 0) 0 (by decide +kernel) rfl rfl ?_
  refine Lw_iload_n (q := 3) (i := 3) 3 (by decide +kernel) rfl rfl ?_
  refine Lw_iconst (i := 1) (v := 1) (by decide +kernel) (by decide) ?_
  refine Lw_iadd (by decide +kernel) ?_
  refine Lw_sld (by decide +kernel) (ixk 1 (by decide) (by decide) hi hN) ?_
  refine Lw_aload_n (q := 0) (i := 0) 0 (by decide +kernel) rfl rfl ?_
  refine Lw_iload_n (q := 3) (i := 3) 3 (by decide +kernel) rfl rfl ?_
  refine Lw_iconst (i := 2) (v := 2) (by decide +kernel) (by decide) ?_
  refine Lw_iadd (by decide +kernel) ?_
  refine Lw_sld (by decide +kernel) (ixk 2 (by decide) (by decide) hi hN) ?_
  refine Lw_callM (d' := 3) (ν := m_X12_together) (As := [.int ((xs ((nI i + 1)).toNatClampNeg)), .int ((xs ((nI i + 2)).toNatClampNeg))]) (by decide +kernel) (tg_9 222 (by decide +kernel) (by decide +kernel)) cv_X12_together rfl rfl rfl (by decide) (Nat.le_of_ble_eq_true rfl) (t_X12_together (N := 50000) e2) (fun r1 M1 hr => ?_)
  obtain ⟨rfl, rfl⟩ := hr
  show Lw b0 N0 xs 1589 _ [.int r, .int r] C2 S2
  exact Lw_icmp_eq (off := 420) 2009 (by decide +kernel) (by decide) (fun _ => k _ _ hR) (fun hc => absurd rfl hc)
set_option maxRecDepth 20000 in
theorem case_41 {i : Nat} (hi : i + 6 ≤ N0) (hN : N0 ≤ 3072) (h : Rel MC MS) (k : ∀ MC2 MS2, Rel MC2 MS2 → Lw b0 N0 xs 2009 [(0, .ref 700), (1, .ref 0), (2, .ref 200), (3, .int (nI i))] [] MC2 MS2) : Lw b0 N0 xs 1594 [(0, .ref 700), (1, .ref 0), (2, .ref 200), (3, .int (nI i))] [] MC MS := by
  obtain ⟨r, C2, S2, e1, e2, hR⟩ := e_fewest (N := 50000) (by decide) h ((xs ((nI i + 1)).toNatClampNeg))
  refine Lw_aload_n (q := 1) (i := 1) 1 (by decide +kernel) rfl rfl ?_
  refine Lw_aload_n (q := 0) (i := 0) 0 (by decide +kernel) rfl rfl ?_
  refine Lw_iload_n (q := 3) (i := 3) 3 (by decide +kernel) rfl rfl ?_
  refine Lw_iconst (i := 1) (v := 1) (by decide +kernel) (by decide) ?_
  refine Lw_iadd (by decide +kernel) ?_
  refine Lw_sld (by decide +kernel) (ixk 1 (by decide) (by decide) hi hN) ?_
  refine Lw_callC (d' := 3) (ν := m_X11_fewest) (As := [.int ((xs ((nI i + 1)).toNatClampNeg))]) (by decide +kernel) (tg_6 36 (by decide +kernel) (by decide +kernel)) cv_X11_fewest rfl rfl rfl (by decide) (Nat.le_of_ble_eq_true rfl) (t_X11_fewest (N := 50000) e1) (fun r1 M1 hr => ?_)
  obtain ⟨rfl, rfl⟩ := hr
  show Lw b0 N0 xs 1603 _ [.int r] C2 MS
  refine Lw_aload_n (q := 2) (i := 2) 2 (by decide +kernel) rfl rfl ?_
  refine Lw_aload_n (q := 0) (i := 0) 0 (by decide +kernel) rfl rfl ?_
  refine Lw_iload_n (q := 3) (i := 3) 3 (by decide +kernel) rfl rfl ?_
  refine Lw_iconst (i := 1) (v := 1) (by decide +kernel) (by decide) ?_
  refine Lw_iadd (by decide +kernel) ?_
  refine Lw_sld (by decide +kernel) (ixk 1 (by decide) (by decide) hi hN) ?_
  refine Lw_callM (d' := 4) (ν := m_X12_fewest) (As := [.int ((xs ((nI i + 1)).toNatClampNeg))]) (by decide +kernel) (tg_9 226 (by decide +kernel) (by decide +kernel)) cv_X12_fewest rfl rfl rfl (by decide) (Nat.le_of_ble_eq_true rfl) (t_X12_fewest (N := 50000) e2) (fun r1 M1 hr => ?_)
  obtain ⟨rfl, rfl⟩ := hr
  show Lw b0 N0 xs 1612 _ [.int r, .int r] C2 S2
  exact Lw_icmp_eq (off := 397) 2009 (by decide +kernel) (by decide) (fun _ => k _ _ hR) (fun hc => absurd rfl hc)
set_option maxRecDepth 20000 in
theorem case_42 {i : Nat} (hi : i + 6 ≤ N0) (hN : N0 ≤ 3072) (h : Rel MC MS) (k : ∀ MC2 MS2, Rel MC2 MS2 → Lw b0 N0 xs 2009 [(0, .ref 700), (1, .ref 0), (2, .ref 200), (3, .int (nI i))] [] MC2 MS2) : Lw b0 N0 xs 1617 [(0, .ref 700), (1, .ref 0), (2, .ref 200), (3, .int (nI i))] [] MC MS := by
  obtain ⟨r, C2, S2, e1, e2, hR⟩ := e_fewestSet (N := 50000) (by decide) h ((xs ((nI i + 1)).toNatClampNeg))
  refine Lw_aload_n (q := 1) (i := 1) 1 (by decide +kernel) rfl rfl ?_
  refine Lw_aload_n (q := 0) (i := 0) 0 (by decide +kernel) rfl rfl ?_
  refine Lw_iload_n (q := 3) (i := 3) 3 (by decide +kernel) rfl rfl ?_
  refine Lw_iconst (i := 1) (v := 1) (by decide +kernel) (by decide) ?_
  refine Lw_iadd (by decide +kernel) ?_
  refine Lw_sld (by decide +kernel) (ixk 1 (by decide) (by decide) hi hN) ?_
  refine Lw_callC (d' := 3) (ν := m_X11_fewestSet) (As := [.int ((xs ((nI i + 1)).toNatClampNeg))]) (by decide +kernel) (tg_6 52 (by decide +kernel) (by decide +kernel)) cv_X11_fewestSet rfl rfl rfl (by decide) (Nat.le_of_ble_eq_true rfl) (t_X11_fewestSet (N := 50000) e1) (fun r1 M1 hr => ?_)
  obtain ⟨rfl, rfl⟩ := hr
  show Lw b0 N0 xs 1626 _ [.int r] C2 MS
  refine Lw_aload_n (q := 2) (i := 2) 2 (by decide +kernel) rfl rfl ?_
  refine Lw_aload_n (q := 0) (i := 0) 0 (by decide +kernel) rfl rfl ?_
  refine Lw_iload_n (q := 3) (i := 3) 3 (by decide +kernel) rfl rfl ?_
  refine Lw_iconst (i := 1) (v := 1) (by decide +kernel) (by decide) ?_
  refine Lw_iadd (by decide +kernel) ?_
  refine Lw_sld (by decide +kernel) (ixk 1 (by decide) (by decide) hi hN) ?_
  refine Lw_callM (d' := 4) (ν := m_X12_fewestSet) (As := [.int ((xs ((nI i + 1)).toNatClampNeg))]) (by decide +kernel) (tg_9 238 (by decide +kernel) (by decide +kernel)) cv_X12_fewestSet rfl rfl rfl (by decide) (Nat.le_of_ble_eq_true rfl) (t_X12_fewestSet (N := 50000) e2) (fun r1 M1 hr => ?_)
  obtain ⟨rfl, rfl⟩ := hr
  show Lw b0 N0 xs 1635 _ [.int r, .int r] C2 S2
  exact Lw_icmp_eq (off := 374) 2009 (by decide +kernel) (by decide) (fun _ => k _ _ hR) (fun hc => absurd rfl hc)
set_option maxRecDepth 20000 in
theorem case_43 {i : Nat} (hi : i + 6 ≤ N0) (hN : N0 ≤ 3072) (h : Rel MC MS) (k : ∀ MC2 MS2, Rel MC2 MS2 → Lw b0 N0 xs 2009 [(0, .ref 700), (1, .ref 0), (2, .ref 200), (3, .int (nI i))] [] MC2 MS2) : Lw b0 N0 xs 1640 [(0, .ref 700), (1, .ref 0), (2, .ref 200), (3, .int (nI i))] [] MC MS := by
  obtain ⟨r, C2, S2, e1, e2, hR⟩ := e_power (N := 50000) (by decide) h ((xs ((nI i + 1)).toNatClampNeg)) ((xs ((nI i + 2)).toNatClampNeg))
  refine Lw_aload_n (q := 1) (i := 1) 1 (by decide +kernel) rfl rfl ?_
  refine Lw_aload_n (q := 0) (i := 0) 0 (by decide +kernel) rfl rfl ?_
  refine Lw_iload_n (q := 3) (i := 3) 3 (by decide +kernel) rfl rfl ?_
  refine Lw_iconst (i := 1) (v := 1) (by decide +kernel) (by decide) ?_
  refine Lw_iadd (by decide +kernel) ?_
  refine Lw_sld (by decide +kernel) (ixk 1 (by decide) (by decide) hi hN) ?_
  refine Lw_aload_n (q := 0) (i := 0) 0 (by decide +kernel) rfl rfl ?_
  refine Lw_iload_n (q := 3) (i := 3) 3 (by decide +kernel) rfl rfl ?_
  refine Lw_iconst (i := 2) (v := 2) (by decide +kernel) (by decide) ?_
  refine Lw_iadd (by decide +kernel) ?_
  refine Lw_sld (by decide +kernel) (ixk 2 (by decide) (by decide) hi hN) ?_
  refine Lw_callC (d' := 3) (ν := m_X11_power) (As := [.int ((xs ((nI i + 1)).toNatClampNeg)), .int ((xs ((nI i + 2)).toNatClampNeg))]) (by decide +kernel) (tg_6 56 (by decide +kernel) (by decide +kernel)) cv_X11_power rfl rfl rfl (by decide) (Nat.le_of_ble_eq_true rfl) (t_X11_power (N := 50000) e1) (fun r1 M1 hr => ?_)
  obtain ⟨rfl, rfl⟩ := hr
  show Lw b0 N0 xs 1654 _ [.int (b2i r)] C2 MS
  refine Lw_aload_n (q := 2) (i := 2) 2 (by decide +kernel) rfl rfl ?_
  refine Lw_aload_n (q := 0) (i := 0) 0 (by decide +kernel) rfl rfl ?_
  refine Lw_iload_n (q := 3) (i := 3) 3 (by decide +kernel) rfl rfl ?_
  refine Lw_iconst (i := 1) (v := 1) (by decide +kernel) (by decide) ?_
  refine Lw_iadd (by decide +kernel) ?_
  refine Lw_sld (by decide +kernel) (ixk 1 (by decide) (by decide) hi hN) ?_
  refine Lw_aload_n (q := 0) (i := 0) 0 (by decide +kernel) rfl rfl ?_
  refine Lw_iload_n (q := 3) (i := 3) 3 (by decide +kernel) rfl rfl ?_
  refine Lw_iconst (i := 2) (v := 2) (by decide +kernel) (by decide) ?_
  refine Lw_iadd (by decide +kernel) ?_
  refine Lw_sld (by decide +kernel) (ixk 2 (by decide) (by decide) hi hN) ?_
  refine Lw_callM (d' := 4) (ν := m_X12_power) (As := [.int ((xs ((nI i + 1)).toNatClampNeg)), .int ((xs ((nI i + 2)).toNatClampNeg))]) (by decide +kernel) (tg_10 2 (by decide +kernel) (by decide +kernel)) cv_X12_power rfl rfl rfl (by decide) (Nat.le_of_ble_eq_true rfl) (t_X12_power (N := 50000) e2) (fun r1 M1 hr => ?_)
  obtain ⟨rfl, rfl⟩ := hr
  show Lw b0 N0 xs 1668 _ [.int (b2i r), .int (b2i r)] C2 S2
  exact Lw_icmp_eq (off := 341) 2009 (by decide +kernel) (by decide) (fun _ => k _ _ hR) (fun hc => absurd rfl hc)
set_option maxRecDepth 20000 in
theorem case_44 {i : Nat} (hi : i + 6 ≤ N0) (hN : N0 ≤ 3072) (h : Rel MC MS) (k : ∀ MC2 MS2, Rel MC2 MS2 → Lw b0 N0 xs 2009 [(0, .ref 700), (1, .ref 0), (2, .ref 200), (3, .int (nI i))] [] MC2 MS2) : Lw b0 N0 xs 1673 [(0, .ref 700), (1, .ref 0), (2, .ref 200), (3, .int (nI i))] [] MC MS := by
  obtain ⟨r, C2, S2, e1, e2, hR⟩ := e_veto (N := 50000) (by decide) h ((xs ((nI i + 1)).toNatClampNeg))
  refine Lw_aload_n (q := 1) (i := 1) 1 (by decide +kernel) rfl rfl ?_
  refine Lw_aload_n (q := 0) (i := 0) 0 (by decide +kernel) rfl rfl ?_
  refine Lw_iload_n (q := 3) (i := 3) 3 (by decide +kernel) rfl rfl ?_
  refine Lw_iconst (i := 1) (v := 1) (by decide +kernel) (by decide) ?_
  refine Lw_iadd (by decide +kernel) ?_
  refine Lw_sld (by decide +kernel) (ixk 1 (by decide) (by decide) hi hN) ?_
  refine Lw_callC (d' := 3) (ν := m_X11_veto) (As := [.int ((xs ((nI i + 1)).toNatClampNeg))]) (by decide +kernel) (tg_6 71 (by decide +kernel) (by decide +kernel)) cv_X11_veto rfl rfl rfl (by decide) (Nat.le_of_ble_eq_true rfl) (t_X11_veto (N := 50000) e1) (fun r1 M1 hr => ?_)
  obtain ⟨rfl, rfl⟩ := hr
  show Lw b0 N0 xs 1682 _ [.int r] C2 MS
  refine Lw_aload_n (q := 2) (i := 2) 2 (by decide +kernel) rfl rfl ?_
  refine Lw_aload_n (q := 0) (i := 0) 0 (by decide +kernel) rfl rfl ?_
  refine Lw_iload_n (q := 3) (i := 3) 3 (by decide +kernel) rfl rfl ?_
  refine Lw_iconst (i := 1) (v := 1) (by decide +kernel) (by decide) ?_
  refine Lw_iadd (by decide +kernel) ?_
  refine Lw_sld (by decide +kernel) (ixk 1 (by decide) (by decide) hi hN) ?_
  refine Lw_callM (d' := 4) (ν := m_X12_veto) (As := [.int ((xs ((nI i + 1)).toNatClampNeg))]) (by decide +kernel) (tg_10 20 (by decide +kernel) (by decide +kernel)) cv_X12_veto rfl rfl rfl (by decide) (Nat.le_of_ble_eq_true rfl) (t_X12_veto (N := 50000) e2) (fun r1 M1 hr => ?_)
  obtain ⟨rfl, rfl⟩ := hr
  show Lw b0 N0 xs 1691 _ [.int r, .int r] C2 S2
  exact Lw_icmp_eq (off := 318) 2009 (by decide +kernel) (by decide) (fun _ => k _ _ hR) (fun hc => absurd rfl hc)
set_option maxRecDepth 20000 in
theorem case_45 {i : Nat} (hi : i + 6 ≤ N0) (hN : N0 ≤ 3072) (h : Rel MC MS) (k : ∀ MC2 MS2, Rel MC2 MS2 → Lw b0 N0 xs 2009 [(0, .ref 700), (1, .ref 0), (2, .ref 200), (3, .int (nI i))] [] MC2 MS2) : Lw b0 N0 xs 1696 [(0, .ref 700), (1, .ref 0), (2, .ref 200), (3, .int (nI i))] [] MC MS := by
  obtain ⟨r, C2, S2, e1, e2, hR⟩ := e_idle (N := 50000) (by decide) h ((xs ((nI i + 1)).toNatClampNeg))
  refine Lw_aload_n (q := 1) (i := 1) 1 (by decide +kernel) rfl rfl ?_
  refine Lw_aload_n (q := 0) (i := 0) 0 (by decide +kernel) rfl rfl ?_
  refine Lw_iload_n (q := 3) (i := 3) 3 (by decide +kernel) rfl rfl ?_
  refine Lw_iconst (i := 1) (v := 1) (by decide +kernel) (by decide) ?_
  refine Lw_iadd (by decide +kernel) ?_
  refine Lw_sld (by decide +kernel) (ixk 1 (by decide) (by decide) hi hN) ?_
  refine Lw_callC (d' := 4) (ν := m_X11_idle) (As := [.int ((xs ((nI i + 1)).toNatClampNeg))]) (by decide +kernel) (tg_6 79 (by decide +kernel) (by decide +kernel)) cv_X11_idle rfl rfl rfl (by decide) (Nat.le_of_ble_eq_true rfl) (t_X11_idle (N := 50000) e1) (fun r1 M1 hr => ?_)
  obtain ⟨rfl, rfl⟩ := hr
  show Lw b0 N0 xs 1705 _ [.int r] C2 MS
  refine Lw_aload_n (q := 2) (i := 2) 2 (by decide +kernel) rfl rfl ?_
  refine Lw_aload_n (q := 0) (i := 0) 0 (by decide +kernel) rfl rfl ?_
  refine Lw_iload_n (q := 3) (i := 3) 3 (by decide +kernel) rfl rfl ?_
  refine Lw_iconst (i := 1) (v := 1) (by decide +kernel) (by decide) ?_
  refine Lw_iadd (by decide +kernel) ?_
  refine Lw_sld (by decide +kernel) (ixk 1 (by decide) (by decide) hi hN) ?_
  refine Lw_callM (d' := 4) (ν := m_X12_idle) (As := [.int ((xs ((nI i + 1)).toNatClampNeg))]) (by decide +kernel) (tg_10 24 (by decide +kernel) (by decide +kernel)) cv_X12_idle rfl rfl rfl (by decide) (Nat.le_of_ble_eq_true rfl) (t_X12_idle (N := 50000) e2) (fun r1 M1 hr => ?_)
  obtain ⟨rfl, rfl⟩ := hr
  show Lw b0 N0 xs 1714 _ [.int r, .int r] C2 S2
  exact Lw_icmp_eq (off := 295) 2009 (by decide +kernel) (by decide) (fun _ => k _ _ hR) (fun hc => absurd rfl hc)
set_option maxRecDepth 20000 in
theorem case_46 {i : Nat} (hi : i + 6 ≤ N0) (hN : N0 ≤ 3072) (h : Rel MC MS) (k : ∀ MC2 MS2, Rel MC2 MS2 → Lw b0 N0 xs 2009 [(0, .ref 700), (1, .ref 0), (2, .ref 200), (3, .int (nI i))] [] MC2 MS2) : Lw b0 N0 xs 1719 [(0, .ref 700), (1, .ref 0), (2, .ref 200), (3, .int (nI i))] [] MC MS := by
  obtain ⟨r, C2, S2, e1, e2, hR⟩ := e_reach (N := 50000) (by decide) h ((xs ((nI i + 1)).toNatClampNeg))
  refine Lw_aload_n (q := 1) (i := 1) 1 (by decide +kernel) rfl rfl ?_
  refine Lw_aload_n (q := 0) (i := 0) 0 (by decide +kernel) rfl rfl ?_
  refine Lw_iload_n (q := 3) (i := 3) 3 (by decide +kernel) rfl rfl ?_
  refine Lw_iconst (i := 1) (v := 1) (by decide +kernel) (by decide) ?_
  refine Lw_iadd (by decide +kernel) ?_
  refine Lw_sld (by decide +kernel) (ixk 1 (by decide) (by decide) hi hN) ?_
  refine Lw_callC (d' := 2) (ν := m_X11_reach) (As := [.int ((xs ((nI i + 1)).toNatClampNeg))]) (by decide +kernel) (tg_6 88 (by decide +kernel) (by decide +kernel)) cv_X11_reach rfl rfl rfl (by decide) (Nat.le_of_ble_eq_true rfl) (t_X11_reach (N := 50000) e1) (fun r1 M1 hr => ?_)
  obtain ⟨rfl, rfl⟩ := hr
  show Lw b0 N0 xs 1728 _ [.int r] C2 MS
  refine Lw_aload_n (q := 2) (i := 2) 2 (by decide +kernel) rfl rfl ?_
  refine Lw_aload_n (q := 0) (i := 0) 0 (by decide +kernel) rfl rfl ?_
  refine Lw_iload_n (q := 3) (i := 3) 3 (by decide +kernel) rfl rfl ?_
  refine Lw_iconst (i := 1) (v := 1) (by decide +kernel) (by decide) ?_
  refine Lw_iadd (by decide +kernel) ?_
  refine Lw_sld (by decide +kernel) (ixk 1 (by decide) (by decide) hi hN) ?_
  refine Lw_callM (d' := 3) (ν := m_X12_reach) (As := [.int ((xs ((nI i + 1)).toNatClampNeg))]) (by decide +kernel) (tg_10 28 (by decide +kernel) (by decide +kernel)) cv_X12_reach rfl rfl rfl (by decide) (Nat.le_of_ble_eq_true rfl) (t_X12_reach (N := 50000) e2) (fun r1 M1 hr => ?_)
  obtain ⟨rfl, rfl⟩ := hr
  show Lw b0 N0 xs 1737 _ [.int r, .int r] C2 S2
  exact Lw_icmp_eq (off := 272) 2009 (by decide +kernel) (by decide) (fun _ => k _ _ hR) (fun hc => absurd rfl hc)
set_option maxRecDepth 20000 in
theorem case_47 {i : Nat} (hi : i + 6 ≤ N0) (hN : N0 ≤ 3072) (h : Rel MC MS) (k : ∀ MC2 MS2, Rel MC2 MS2 → Lw b0 N0 xs 2009 [(0, .ref 700), (1, .ref 0), (2, .ref 200), (3, .int (nI i))] [] MC2 MS2) : Lw b0 N0 xs 1742 [(0, .ref 700), (1, .ref 0), (2, .ref 200), (3, .int (nI i))] [] MC MS := by
  obtain ⟨r, C2, S2, e1, e2, hR⟩ := e_fits (N := 50000) (by decide) h ((xs ((nI i + 1)).toNatClampNeg)) ((xs ((nI i + 2)).toNatClampNeg))
  refine Lw_aload_n (q := 1) (i := 1) 1 (by decide +kernel) rfl rfl ?_
  refine Lw_aload_n (q := 0) (i := 0) 0 (by decide +kernel) rfl rfl ?_
  refine Lw_iload_n (q := 3) (i := 3) 3 (by decide +kernel) rfl rfl ?_
  refine Lw_iconst (i := 1) (v := 1) (by decide +kernel) (by decide) ?_
  refine Lw_iadd (by decide +kernel) ?_
  refine Lw_sld (by decide +kernel) (ixk 1 (by decide) (by decide) hi hN) ?_
  refine Lw_aload_n (q := 0) (i := 0) 0 (by decide +kernel) rfl rfl ?_
  refine Lw_iload_n (q := 3) (i := 3) 3 (by decide +kernel) rfl rfl ?_
  refine Lw_iconst (i := 2) (v := 2) (by decide +kernel) (by decide) ?_
  refine Lw_iadd (by decide +kernel) ?_
  refine Lw_sld (by decide +kernel) (ixk 2 (by decide) (by decide) hi hN) ?_
  refine Lw_callC (d' := 5) (ν := m_X11_fits) (As := [.int ((xs ((nI i + 1)).toNatClampNeg)), .int ((xs ((nI i + 2)).toNatClampNeg))]) (by decide +kernel) (tg_6 92 (by decide +kernel) (by decide +kernel)) cv_X11_fits rfl rfl rfl (by decide) (Nat.le_of_ble_eq_true rfl) (t_X11_fits (N := 50000) e1) (fun r1 M1 hr => ?_)
  obtain ⟨rfl, rfl⟩ := hr
  show Lw b0 N0 xs 1756 _ [.int r] C2 MS
  refine Lw_aload_n (q := 2) (i := 2) 2 (by decide +kernel) rfl rfl ?_
  refine Lw_aload_n (q := 0) (i := 0) 0 (by decide +kernel) rfl rfl ?_
  refine Lw_iload_n (q := 3) (i := 3) 3 (by decide +kernel) rfl rfl ?_
  refine Lw_iconst (i := 1) (v := 1) (by decide +kernel) (by decide) ?_
  refine Lw_iadd (by decide +kernel) ?_
  refine Lw_sld (by decide +kernel) (ixk 1 (by decide) (by decide) hi hN) ?_
  refine Lw_aload_n (q := 0) (i := 0) 0 (by decide +kernel) rfl rfl ?_
  refine Lw_iload_n (q := 3) (i := 3) 3 (by decide +kernel) rfl rfl ?_
  refine Lw_iconst (i := 2) (v := 2) (by decide +kernel) (by decide) ?_
  refine Lw_iadd (by decide +kernel) ?_
  refine Lw_sld (by decide +kernel) (ixk 2 (by decide) (by decide) hi hN) ?_
  refine Lw_callM (d' := 10) (ν := m_X12_fits) (As := [.int ((xs ((nI i + 1)).toNatClampNeg)), .int ((xs ((nI i + 2)).toNatClampNeg))]) (by decide +kernel) (tg_10 32 (by decide +kernel) (by decide +kernel)) cv_X12_fits rfl rfl rfl (by decide) (Nat.le_of_ble_eq_true rfl) (t_X12_fits (N := 50000) e2) (fun r1 M1 hr => ?_)
  obtain ⟨rfl, rfl⟩ := hr
  show Lw b0 N0 xs 1770 _ [.int r, .int r] C2 S2
  exact Lw_icmp_eq (off := 239) 2009 (by decide +kernel) (by decide) (fun _ => k _ _ hR) (fun hc => absurd rfl hc)
set_option maxRecDepth 20000 in
theorem case_48 {i : Nat} (hi : i + 6 ≤ N0) (hN : N0 ≤ 3072) (h : Rel MC MS) (k : ∀ MC2 MS2, Rel MC2 MS2 → Lw b0 N0 xs 2009 [(0, .ref 700), (1, .ref 0), (2, .ref 200), (3, .int (nI i))] [] MC2 MS2) : Lw b0 N0 xs 1775 [(0, .ref 700), (1, .ref 0), (2, .ref 200), (3, .int (nI i))] [] MC MS := by
  obtain ⟨r, C2, S2, e1, e2, hR⟩ := e_known (N := 50000) (by decide) h ((xs ((nI i + 1)).toNatClampNeg)) ((xs ((nI i + 2)).toNatClampNeg)) ((xs ((nI i + 3)).toNatClampNeg))
  refine Lw_aload_n (q := 1) (i := 1) 1 (by decide +kernel) rfl rfl ?_
  refine Lw_aload_n (q := 0) (i := 0) 0 (by decide +kernel) rfl rfl ?_
  refine Lw_iload_n (q := 3) (i := 3) 3 (by decide +kernel) rfl rfl ?_
  refine Lw_iconst (i := 1) (v := 1) (by decide +kernel) (by decide) ?_
  refine Lw_iadd (by decide +kernel) ?_
  refine Lw_sld (by decide +kernel) (ixk 1 (by decide) (by decide) hi hN) ?_
  refine Lw_aload_n (q := 0) (i := 0) 0 (by decide +kernel) rfl rfl ?_
  refine Lw_iload_n (q := 3) (i := 3) 3 (by decide +kernel) rfl rfl ?_
  refine Lw_iconst (i := 2) (v := 2) (by decide +kernel) (by decide) ?_
  refine Lw_iadd (by decide +kernel) ?_
  refine Lw_sld (by decide +kernel) (ixk 2 (by decide) (by decide) hi hN) ?_
  refine Lw_aload_n (q := 0) (i := 0) 0 (by decide +kernel) rfl rfl ?_
  refine Lw_iload_n (q := 3) (i := 3) 3 (by decide +kernel) rfl rfl ?_
  refine Lw_iconst (i := 3) (v := 3) (by decide +kernel) (by decide) ?_
  refine Lw_iadd (by decide +kernel) ?_
  refine Lw_sld (by decide +kernel) (ixk 3 (by decide) (by decide) hi hN) ?_
  refine Lw_callC (d' := 6) (ν := m_X11_known) (As := [.int ((xs ((nI i + 1)).toNatClampNeg)), .int ((xs ((nI i + 2)).toNatClampNeg)), .int ((xs ((nI i + 3)).toNatClampNeg))]) (by decide +kernel) (tg_6 119 (by decide +kernel) (by decide +kernel)) cv_X11_known rfl rfl rfl (by decide) (Nat.le_of_ble_eq_true rfl) (t_X11_known (N := 50000) e1) (fun r1 M1 hr => ?_)
  obtain ⟨rfl, rfl⟩ := hr
  show Lw b0 N0 xs 1794 _ [.int r] C2 MS
  refine Lw_aload_n (q := 2) (i := 2) 2 (by decide +kernel) rfl rfl ?_
  refine Lw_aload_n (q := 0) (i := 0) 0 (by decide +kernel) rfl rfl ?_
  refine Lw_iload_n (q := 3) (i := 3) 3 (by decide +kernel) rfl rfl ?_
  refine Lw_iconst (i := 1) (v := 1) (by decide +kernel) (by decide) ?_
  refine Lw_iadd (by decide +kernel) ?_
  refine Lw_sld (by decide +kernel) (ixk 1 (by decide) (by decide) hi hN) ?_
  refine Lw_aload_n (q := 0) (i := 0) 0 (by decide +kernel) rfl rfl ?_
  refine Lw_iload_n (q := 3) (i := 3) 3 (by decide +kernel) rfl rfl ?_
  refine Lw_iconst (i := 2) (v := 2) (by decide +kernel) (by decide) ?_
  refine Lw_iadd (by decide +kernel) ?_
  refine Lw_sld (by decide +kernel) (ixk 2 (by decide) (by decide) hi hN) ?_
  refine Lw_aload_n (q := 0) (i := 0) 0 (by decide +kernel) rfl rfl ?_
  refine Lw_iload_n (q := 3) (i := 3) 3 (by decide +kernel) rfl rfl ?_
  refine Lw_iconst (i := 3) (v := 3) (by decide +kernel) (by decide) ?_
  refine Lw_iadd (by decide +kernel) ?_
  refine Lw_sld (by decide +kernel) (ixk 3 (by decide) (by decide) hi hN) ?_
  refine Lw_callM (d' := 10) (ν := m_X12_known) (As := [.int ((xs ((nI i + 1)).toNatClampNeg)), .int ((xs ((nI i + 2)).toNatClampNeg)), .int ((xs ((nI i + 3)).toNatClampNeg))]) (by decide +kernel) (tg_10 62 (by decide +kernel) (by decide +kernel)) cv_X12_known rfl rfl rfl (by decide) (Nat.le_of_ble_eq_true rfl) (t_X12_known (N := 50000) e2) (fun r1 M1 hr => ?_)
  obtain ⟨rfl, rfl⟩ := hr
  show Lw b0 N0 xs 1813 _ [.int r, .int r] C2 S2
  exact Lw_icmp_eq (off := 196) 2009 (by decide +kernel) (by decide) (fun _ => k _ _ hR) (fun hc => absurd rfl hc)
set_option maxRecDepth 20000 in
theorem case_49 {i : Nat} (hi : i + 6 ≤ N0) (hN : N0 ≤ 3072) (h : Rel MC MS) (k : ∀ MC2 MS2, Rel MC2 MS2 → Lw b0 N0 xs 2009 [(0, .ref 700), (1, .ref 0), (2, .ref 200), (3, .int (nI i))] [] MC2 MS2) : Lw b0 N0 xs 1818 [(0, .ref 700), (1, .ref 0), (2, .ref 200), (3, .int (nI i))] [] MC MS := by
  obtain ⟨r, C2, S2, e1, e2, hR⟩ := e_next (N := 50000) (by decide) h ((xs ((nI i + 1)).toNatClampNeg)) ((xs ((nI i + 2)).toNatClampNeg))
  refine Lw_aload_n (q := 1) (i := 1) 1 (by decide +kernel) rfl rfl ?_
  refine Lw_aload_n (q := 0) (i := 0) 0 (by decide +kernel) rfl rfl ?_
  refine Lw_iload_n (q := 3) (i := 3) 3 (by decide +kernel) rfl rfl ?_
  refine Lw_iconst (i := 1) (v := 1) (by decide +kernel) (by decide) ?_
  refine Lw_iadd (by decide +kernel) ?_
  refine Lw_sld (by decide +kernel) (ixk 1 (by decide) (by decide) hi hN) ?_
  refine Lw_aload_n (q := 0) (i := 0) 0 (by decide +kernel) rfl rfl ?_
  refine Lw_iload_n (q := 3) (i := 3) 3 (by decide +kernel) rfl rfl ?_
  refine Lw_iconst (i := 2) (v := 2) (by decide +kernel) (by decide) ?_
  refine Lw_iadd (by decide +kernel) ?_
  refine Lw_sld (by decide +kernel) (ixk 2 (by decide) (by decide) hi hN) ?_
  refine Lw_callC (d' := 5) (ν := m_X11_next) (As := [.int ((xs ((nI i + 1)).toNatClampNeg)), .int ((xs ((nI i + 2)).toNatClampNeg))]) (by decide +kernel) (tg_6 135 (by decide +kernel) (by decide +kernel)) cv_X11_next rfl rfl rfl (by decide) (Nat.le_of_ble_eq_true rfl) (t_X11_next (N := 50000) e1) (fun r1 M1 hr => ?_)
  obtain ⟨rfl, rfl⟩ := hr
  show Lw b0 N0 xs 1832 _ [.int r] C2 MS
  refine Lw_aload_n (q := 2) (i := 2) 2 (by decide +kernel) rfl rfl ?_
  refine Lw_aload_n (q := 0) (i := 0) 0 (by decide +kernel) rfl rfl ?_
  refine Lw_iload_n (q := 3) (i := 3) 3 (by decide +kernel) rfl rfl ?_
  refine Lw_iconst (i := 1) (v := 1) (by decide +kernel) (by decide) ?_
  refine Lw_iadd (by decide +kernel) ?_
  refine Lw_sld (by decide +kernel) (ixk 1 (by decide) (by decide) hi hN) ?_
  refine Lw_aload_n (q := 0) (i := 0) 0 (by decide +kernel) rfl rfl ?_
  refine Lw_iload_n (q := 3) (i := 3) 3 (by decide +kernel) rfl rfl ?_
  refine Lw_iconst (i := 2) (v := 2) (by decide +kernel) (by decide) ?_
  refine Lw_iadd (by decide +kernel) ?_
  refine Lw_sld (by decide +kernel) (ixk 2 (by decide) (by decide) hi hN) ?_
  refine Lw_callM (d' := 10) (ν := m_X12_next) (As := [.int ((xs ((nI i + 1)).toNatClampNeg)), .int ((xs ((nI i + 2)).toNatClampNeg))]) (by decide +kernel) (tg_10 70 (by decide +kernel) (by decide +kernel)) cv_X12_next rfl rfl rfl (by decide) (Nat.le_of_ble_eq_true rfl) (t_X12_next (N := 50000) e2) (fun r1 M1 hr => ?_)
  obtain ⟨rfl, rfl⟩ := hr
  show Lw b0 N0 xs 1846 _ [.int r, .int r] C2 S2
  exact Lw_icmp_eq (off := 163) 2009 (by decide +kernel) (by decide) (fun _ => k _ _ hR) (fun hc => absurd rfl hc)
set_option maxRecDepth 20000 in
theorem case_50 {i : Nat} (hi : i + 6 ≤ N0) (hN : N0 ≤ 3072) (h : Rel MC MS) (k : ∀ MC2 MS2, Rel MC2 MS2 → Lw b0 N0 xs 2009 [(0, .ref 700), (1, .ref 0), (2, .ref 200), (3, .int (nI i))] [] MC2 MS2) : Lw b0 N0 xs 1851 [(0, .ref 700), (1, .ref 0), (2, .ref 200), (3, .int (nI i))] [] MC MS := by
  obtain ⟨r, C2, S2, e1, e2, hR⟩ := e_chance (N := 50000) (by decide) h ((xs ((nI i + 1)).toNatClampNeg)) ((xs ((nI i + 2)).toNatClampNeg)) ((xs ((nI i + 3)).toNatClampNeg)) ((xs ((nI i + 4)).toNatClampNeg))
  refine Lw_aload_n (q := 1) (i := 1) 1 (by decide +kernel) rfl rfl ?_
  refine Lw_aload_n (q := 0) (i := 0) 0 (by decide +kernel) rfl rfl ?_
  refine Lw_iload_n (q := 3) (i := 3) 3 (by decide +kernel) rfl rfl ?_
  refine Lw_iconst (i := 1) (v := 1) (by decide +kernel) (by decide) ?_
  refine Lw_iadd (by decide +kernel) ?_
  refine Lw_sld (by decide +kernel) (ixk 1 (by decide) (by decide) hi hN) ?_
  refine Lw_aload_n (q := 0) (i := 0) 0 (by decide +kernel) rfl rfl ?_
  refine Lw_iload_n (q := 3) (i := 3) 3 (by decide +kernel) rfl rfl ?_
  refine Lw_iconst (i := 2) (v := 2) (by decide +kernel) (by decide) ?_
  refine Lw_iadd (by decide +kernel) ?_
  refine Lw_sld (by decide +kernel) (ixk 2 (by decide) (by decide) hi hN) ?_
  refine Lw_aload_n (q := 0) (i := 0) 0 (by decide +kernel) rfl rfl ?_
  refine Lw_iload_n (q := 3) (i := 3) 3 (by decide +kernel) rfl rfl ?_
  refine Lw_iconst (i := 3) (v := 3) (by decide +kernel) (by decide) ?_
  refine Lw_iadd (by decide +kernel) ?_
  refine Lw_sld (by decide +kernel) (ixk 3 (by decide) (by decide) hi hN) ?_
  refine Lw_aload_n (q := 0) (i := 0) 0 (by decide +kernel) rfl rfl ?_
  refine Lw_iload_n (q := 3) (i := 3) 3 (by decide +kernel) rfl rfl ?_
  refine Lw_iconst (i := 4) (v := 4) (by decide +kernel) (by decide) ?_
  refine Lw_iadd (by decide +kernel) ?_
  refine Lw_sld (by decide +kernel) (ixk 4 (by decide) (by decide) hi hN) ?_
  refine Lw_callC (d' := 6) (ν := m_X11_chance) (As := [.int ((xs ((nI i + 1)).toNatClampNeg)), .int ((xs ((nI i + 2)).toNatClampNeg)), .int ((xs ((nI i + 3)).toNatClampNeg)), .int ((xs ((nI i + 4)).toNatClampNeg))]) (by decide +kernel) (tg_6 144 (by decide +kernel) (by decide +kernel)) cv_X11_chance rfl rfl rfl (by decide) (Nat.le_of_ble_eq_true rfl) (t_X11_chance (N := 50000) e1) (fun r1 M1 hr => ?_)
  obtain ⟨rfl, rfl⟩ := hr
  show Lw b0 N0 xs 1875 _ [.int (b2i r)] C2 MS
  refine Lw_aload_n (q := 2) (i := 2) 2 (by decide +kernel) rfl rfl ?_
  refine Lw_aload_n (q := 0) (i := 0) 0 (by decide +kernel) rfl rfl ?_
  refine Lw_iload_n (q := 3) (i := 3) 3 (by decide +kernel) rfl rfl ?_
  refine Lw_iconst (i := 1) (v := 1) (by decide +kernel) (by decide) ?_
  refine Lw_iadd (by decide +kernel) ?_
  refine Lw_sld (by decide +kernel) (ixk 1 (by decide) (by decide) hi hN) ?_
  refine Lw_aload_n (q := 0) (i := 0) 0 (by decide +kernel) rfl rfl ?_
  refine Lw_iload_n (q := 3) (i := 3) 3 (by decide +kernel) rfl rfl ?_
  refine Lw_iconst (i := 2) (v := 2) (by decide +kernel) (by decide) ?_
  refine Lw_iadd (by decide +kernel) ?_
  refine Lw_sld (by decide +kernel) (ixk 2 (by decide) (by decide) hi hN) ?_
  refine Lw_aload_n (q := 0) (i := 0) 0 (by decide +kernel) rfl rfl ?_
  refine Lw_iload_n (q := 3) (i := 3) 3 (by decide +kernel) rfl rfl ?_
  refine Lw_iconst (i := 3) (v := 3) (by decide +kernel) (by decide) ?_
  refine Lw_iadd (by decide +kernel) ?_
  refine Lw_sld (by decide +kernel) (ixk 3 (by decide) (by decide) hi hN) ?_
  refine Lw_aload_n (q := 0) (i := 0) 0 (by decide +kernel) rfl rfl ?_
  refine Lw_iload_n (q := 3) (i := 3) 3 (by decide +kernel) rfl rfl ?_
  refine Lw_iconst (i := 4) (v := 4) (by decide +kernel) (by decide) ?_
  refine Lw_iadd (by decide +kernel) ?_
  refine Lw_sld (by decide +kernel) (ixk 4 (by decide) (by decide) hi hN) ?_
  refine Lw_callM (d' := 10) (ν := m_X12_chance) (As := [.int ((xs ((nI i + 1)).toNatClampNeg)), .int ((xs ((nI i + 2)).toNatClampNeg)), .int ((xs ((nI i + 3)).toNatClampNeg)), .int ((xs ((nI i + 4)).toNatClampNeg))]) (by decide +kernel) (tg_10 74 (by decide +kernel) (by decide +kernel)) cv_X12_chance rfl rfl rfl (by decide) (Nat.le_of_ble_eq_true rfl) (t_X12_chance (N := 50000) e2) (fun r1 M1 hr => ?_)
  obtain ⟨rfl, rfl⟩ := hr
  show Lw b0 N0 xs 1899 _ [.int (b2i r), .int (b2i r)] C2 S2
  exact Lw_icmp_eq (off := 110) 2009 (by decide +kernel) (by decide) (fun _ => k _ _ hR) (fun hc => absurd rfl hc)
set_option maxRecDepth 20000 in
theorem case_51 {i : Nat} (hi : i + 6 ≤ N0) (hN : N0 ≤ 3072) (h : Rel MC MS) (k : ∀ MC2 MS2, Rel MC2 MS2 → Lw b0 N0 xs 2009 [(0, .ref 700), (1, .ref 0), (2, .ref 200), (3, .int (nI i))] [] MC2 MS2) : Lw b0 N0 xs 1904 [(0, .ref 700), (1, .ref 0), (2, .ref 200), (3, .int (nI i))] [] MC MS := by
  obtain ⟨r, C2, S2, e1, e2, hR⟩ := e_live (N := 50000) (by decide) h ((xs ((nI i + 1)).toNatClampNeg))
  refine Lw_aload_n (q := 1) (i := 1) 1 (by decide +kernel) rfl rfl ?_
  refine Lw_aload_n (q := 0) (i := 0) 0 (by decide +kernel) rfl rfl ?_
  refine Lw_iload_n (q := 3) (i := 3) 3 (by decide +kernel) rfl rfl ?_
  refine Lw_iconst (i := 1) (v := 1) (by decide +kernel) (by decide) ?_
  refine Lw_iadd (by decide +kernel) ?_
  refine Lw_sld (by decide +kernel) (ixk 1 (by decide) (by decide) hi hN) ?_
  refine Lw_callC (d' := 7) (ν := m_X11_live) (As := [.int ((xs ((nI i + 1)).toNatClampNeg))]) (by decide +kernel) (tg_6 149 (by decide +kernel) (by decide +kernel)) cv_X11_live rfl rfl rfl (by decide) (Nat.le_of_ble_eq_true rfl) (t_X11_live (N := 50000) e1) (fun r1 M1 hr => ?_)
  obtain ⟨rfl, rfl⟩ := hr
  show Lw b0 N0 xs 1913 _ [.int r] C2 MS
  refine Lw_aload_n (q := 2) (i := 2) 2 (by decide +kernel) rfl rfl ?_
  refine Lw_aload_n (q := 0) (i := 0) 0 (by decide +kernel) rfl rfl ?_
  refine Lw_iload_n (q := 3) (i := 3) 3 (by decide +kernel) rfl rfl ?_
  refine Lw_iconst (i := 1) (v := 1) (by decide +kernel) (by decide) ?_
  refine Lw_iadd (by decide +kernel) ?_
  refine Lw_sld (by decide +kernel) (ixk 1 (by decide) (by decide) hi hN) ?_
  refine Lw_callM (d' := 50) (ν := m_X12_live) (As := [.int ((xs ((nI i + 1)).toNatClampNeg))]) (by decide +kernel) (tg_10 78 (by decide +kernel) (by decide +kernel)) cv_X12_live rfl rfl rfl (by decide) (Nat.le_of_ble_eq_true rfl) (t_X12_live (N := 50000) e2) (fun r1 M1 hr => ?_)
  obtain ⟨rfl, rfl⟩ := hr
  show Lw b0 N0 xs 1922 _ [.int r, .int r] C2 S2
  exact Lw_icmp_eq (off := 87) 2009 (by decide +kernel) (by decide) (fun _ => k _ _ hR) (fun hc => absurd rfl hc)
set_option maxRecDepth 20000 in
theorem case_52 {i : Nat} (hi : i + 6 ≤ N0) (hN : N0 ≤ 3072) (h : Rel MC MS) (k : ∀ MC2 MS2, Rel MC2 MS2 → Lw b0 N0 xs 2009 [(0, .ref 700), (1, .ref 0), (2, .ref 200), (3, .int (nI i))] [] MC2 MS2) : Lw b0 N0 xs 1927 [(0, .ref 700), (1, .ref 0), (2, .ref 200), (3, .int (nI i))] [] MC MS := by
  obtain ⟨r, C2, S2, e1, e2, hR⟩ := e_lived h ((xs ((nI i + 1)).toNatClampNeg))
  refine Lw_aload_n (q := 1) (i := 1) 1 (by decide +kernel) rfl rfl ?_
  refine Lw_aload_n (q := 0) (i := 0) 0 (by decide +kernel) rfl rfl ?_
  refine Lw_iload_n (q := 3) (i := 3) 3 (by decide +kernel) rfl rfl ?_
  refine Lw_iconst (i := 1) (v := 1) (by decide +kernel) (by decide) ?_
  refine Lw_iadd (by decide +kernel) ?_
  refine Lw_sld (by decide +kernel) (ixk 1 (by decide) (by decide) hi hN) ?_
  refine Lw_callC (d' := 1) (ν := m_X11_lived) (As := [.int ((xs ((nI i + 1)).toNatClampNeg))]) (by decide +kernel) (tg_6 196 (by decide +kernel) (by decide +kernel)) cv_X11_lived rfl rfl rfl (by decide) (Nat.le_of_ble_eq_true rfl) (t_X11_lived e1) (fun r1 M1 hr => ?_)
  obtain ⟨rfl, rfl⟩ := hr
  show Lw b0 N0 xs 1936 _ [.int r] C2 MS
  refine Lw_aload_n (q := 2) (i := 2) 2 (by decide +kernel) rfl rfl ?_
  refine Lw_aload_n (q := 0) (i := 0) 0 (by decide +kernel) rfl rfl ?_
  refine Lw_iload_n (q := 3) (i := 3) 3 (by decide +kernel) rfl rfl ?_
  refine Lw_iconst (i := 1) (v := 1) (by decide +kernel) (by decide) ?_
  refine Lw_iadd (by decide +kernel) ?_
  refine Lw_sld (by decide +kernel) (ixk 1 (by decide) (by decide) hi hN) ?_
  refine Lw_callM (d' := 1) (ν := m_X12_lived) (As := [.int ((xs ((nI i + 1)).toNatClampNeg))]) (by decide +kernel) (tg_10 116 (by decide +kernel) (by decide +kernel)) cv_X12_lived rfl rfl rfl (by decide) (Nat.le_of_ble_eq_true rfl) (t_X12_lived e2) (fun r1 M1 hr => ?_)
  obtain ⟨rfl, rfl⟩ := hr
  show Lw b0 N0 xs 1945 _ [.int r, .int r] C2 S2
  exact Lw_icmp_eq (off := 64) 2009 (by decide +kernel) (by decide) (fun _ => k _ _ hR) (fun hc => absurd rfl hc)
set_option maxRecDepth 20000 in
theorem case_53 {i : Nat} (hi : i + 6 ≤ N0) (hN : N0 ≤ 3072) (h : Rel MC MS) (k : ∀ MC2 MS2, Rel MC2 MS2 → Lw b0 N0 xs 2009 [(0, .ref 700), (1, .ref 0), (2, .ref 200), (3, .int (nI i))] [] MC2 MS2) : Lw b0 N0 xs 1950 [(0, .ref 700), (1, .ref 0), (2, .ref 200), (3, .int (nI i))] [] MC MS := by
  obtain ⟨r, C2, S2, e1, e2, hR⟩ := e_mean (N := 50000) (by decide) h ((xs ((nI i + 1)).toNatClampNeg)) ((xs ((nI i + 2)).toNatClampNeg))
  refine Lw_aload_n (q := 1) (i := 1) 1 (by decide +kernel) rfl rfl ?_
  refine Lw_aload_n (q := 0) (i := 0) 0 (by decide +kernel) rfl rfl ?_
  refine Lw_iload_n (q := 3) (i := 3) 3 (by decide +kernel) rfl rfl ?_
  refine Lw_iconst (i := 1) (v := 1) (by decide +kernel) (by decide) ?_
  refine Lw_iadd (by decide +kernel) ?_
  refine Lw_sld (by decide +kernel) (ixk 1 (by decide) (by decide) hi hN) ?_
  refine Lw_aload_n (q := 0) (i := 0) 0 (by decide +kernel) rfl rfl ?_
  refine Lw_iload_n (q := 3) (i := 3) 3 (by decide +kernel) rfl rfl ?_
  refine Lw_iconst (i := 2) (v := 2) (by decide +kernel) (by decide) ?_
  refine Lw_iadd (by decide +kernel) ?_
  refine Lw_sld (by decide +kernel) (ixk 2 (by decide) (by decide) hi hN) ?_
  refine Lw_callC (d' := 7) (ν := m_X11_mean) (As := [.int ((xs ((nI i + 1)).toNatClampNeg)), .int ((xs ((nI i + 2)).toNatClampNeg))]) (by decide +kernel) (tg_6 204 (by decide +kernel) (by decide +kernel)) cv_X11_mean rfl rfl rfl (by decide) (Nat.le_of_ble_eq_true rfl) (t_X11_mean (N := 50000) e1) (fun r1 M1 hr => ?_)
  obtain ⟨rfl, rfl⟩ := hr
  show Lw b0 N0 xs 1964 _ [.int (b2i r)] C2 MS
  refine Lw_aload_n (q := 2) (i := 2) 2 (by decide +kernel) rfl rfl ?_
  refine Lw_aload_n (q := 0) (i := 0) 0 (by decide +kernel) rfl rfl ?_
  refine Lw_iload_n (q := 3) (i := 3) 3 (by decide +kernel) rfl rfl ?_
  refine Lw_iconst (i := 1) (v := 1) (by decide +kernel) (by decide) ?_
  refine Lw_iadd (by decide +kernel) ?_
  refine Lw_sld (by decide +kernel) (ixk 1 (by decide) (by decide) hi hN) ?_
  refine Lw_aload_n (q := 0) (i := 0) 0 (by decide +kernel) rfl rfl ?_
  refine Lw_iload_n (q := 3) (i := 3) 3 (by decide +kernel) rfl rfl ?_
  refine Lw_iconst (i := 2) (v := 2) (by decide +kernel) (by decide) ?_
  refine Lw_iadd (by decide +kernel) ?_
  refine Lw_sld (by decide +kernel) (ixk 2 (by decide) (by decide) hi hN) ?_
  refine Lw_callM (d' := 50) (ν := m_X12_mean) (As := [.int ((xs ((nI i + 1)).toNatClampNeg)), .int ((xs ((nI i + 2)).toNatClampNeg))]) (by decide +kernel) (tg_10 120 (by decide +kernel) (by decide +kernel)) cv_X12_mean rfl rfl rfl (by decide) (Nat.le_of_ble_eq_true rfl) (t_X12_mean (N := 50000) e2) (fun r1 M1 hr => ?_)
  obtain ⟨rfl, rfl⟩ := hr
  show Lw b0 N0 xs 1978 _ [.int (b2i r), .int (b2i r)] C2 S2
  exact Lw_icmp_eq (off := 31) 2009 (by decide +kernel) (by decide) (fun _ => k _ _ hR) (fun hc => absurd rfl hc)
set_option maxRecDepth 20000 in
theorem case_54 {i : Nat} (hi : i + 6 ≤ N0) (hN : N0 ≤ 3072) (h : Rel MC MS) (k : ∀ MC2 MS2, Rel MC2 MS2 → Lw b0 N0 xs 2009 [(0, .ref 700), (1, .ref 0), (2, .ref 200), (3, .int (nI i))] [] MC2 MS2) : Lw b0 N0 xs 1983 [(0, .ref 700), (1, .ref 0), (2, .ref 200), (3, .int (nI i))] [] MC MS := by
  obtain ⟨r, C2, S2, e1, e2, hR⟩ := e_mark (N := 50000) (by decide) h 
  refine Lw_aload_n (q := 1) (i := 1) 1 (by decide +kernel) rfl rfl ?_
  refine Lw_callC (d' := 3) (ν := m_X11_mark) (As := []) (by decide +kernel) (tg_6 208 (by decide +kernel) (by decide +kernel)) cv_X11_mark rfl rfl rfl (by decide) (Nat.le_of_ble_eq_true rfl) (t_X11_mark e1) (fun r1 M1 hr => ?_)
  obtain ⟨rfl, rfl⟩ := hr
  show Lw b0 N0 xs 1987 _ [.int r] C2 MS
  refine Lw_aload_n (q := 2) (i := 2) 2 (by decide +kernel) rfl rfl ?_
  refine Lw_callM (d' := 1) (ν := m_X12_mark) (As := []) (by decide +kernel) (tg_10 125 (by decide +kernel) (by decide +kernel)) cv_X12_mark rfl rfl rfl (by decide) (Nat.le_of_ble_eq_true rfl) (t_X12_mark (N := 50000) e2) (fun r1 M1 hr => ?_)
  obtain ⟨rfl, rfl⟩ := hr
  show Lw b0 N0 xs 1991 _ [.int r, .int r] C2 S2
  exact Lw_icmp_eq (off := 18) 2009 (by decide +kernel) (by decide) (fun _ => k _ _ hR) (fun hc => absurd rfl hc)
set_option maxRecDepth 20000 in
theorem case_55 {i : Nat} (hi : i + 6 ≤ N0) (hN : N0 ≤ 3072) (h : Rel MC MS) (k : ∀ MC2 MS2, Rel MC2 MS2 → Lw b0 N0 xs 2009 [(0, .ref 700), (1, .ref 0), (2, .ref 200), (3, .int (nI i))] [] MC2 MS2) : Lw b0 N0 xs 1996 [(0, .ref 700), (1, .ref 0), (2, .ref 200), (3, .int (nI i))] [] MC MS := by
  obtain ⟨r, C2, S2, e1, e2, hR⟩ := e_back (N := 50000) (by decide) h 
  refine Lw_aload_n (q := 1) (i := 1) 1 (by decide +kernel) rfl rfl ?_
  refine Lw_callC (d' := 3) (ν := m_X11_back) (As := []) (by decide +kernel) (tg_6 212 (by decide +kernel) (by decide +kernel)) cv_X11_back rfl rfl rfl (by decide) (Nat.le_of_ble_eq_true rfl) (t_X11_back e1) (fun r1 M1 hr => ?_)
  obtain ⟨rfl, rfl⟩ := hr
  show Lw b0 N0 xs 2000 _ [.int r] C2 MS
  refine Lw_aload_n (q := 2) (i := 2) 2 (by decide +kernel) rfl rfl ?_
  refine Lw_callM (d' := 1) (ν := m_X12_back) (As := []) (by decide +kernel) (tg_10 129 (by decide +kernel) (by decide +kernel)) cv_X12_back rfl rfl rfl (by decide) (Nat.le_of_ble_eq_true rfl) (t_X12_back (N := 50000) e2) (fun r1 M1 hr => ?_)
  obtain ⟨rfl, rfl⟩ := hr
  show Lw b0 N0 xs 2004 _ [.int r, .int r] C2 S2
  exact Lw_icmp_eq (off := 5) 2009 (by decide +kernel) (by decide) (fun _ => k _ _ hR) (fun hc => absurd rfl hc)
end LW
