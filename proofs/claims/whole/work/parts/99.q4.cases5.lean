section LW
variable {b0 N0 : Nat} {xs : Nat → Int32} {MC MS : Mem}
set_option maxRecDepth 20000 in
theorem case_35 {i : Nat} (hi : i + 6 ≤ N0) (hN : N0 ≤ 3072) (h : Rel MC MS) (k : ∀ MC2 MS2, Rel MC2 MS2 → Lw b0 N0 xs 2009 [(0, .ref 700), (1, .ref 0), (2, .ref 200), (3, .int (nI i))] [] MC2 MS2) : Lw b0 N0 xs 1366 [(0, .ref 700), (1, .ref 0), (2, .ref 200), (3, .int (nI i))] [] MC MS := by
  obtain ⟨r, C2, S2, e1, e2, hR⟩ := e_turn (N := 50000) (by decide) h ((xs ((nI i + 1)).toNatClampNeg))
  refine Lw_aload_n (q := 1) (i := 1) 1 (by decide +kernel) rfl rfl ?_
  refine Lw_aload_n (q := 0) (i := 0) 0 (by decide +kernel) rfl rfl ?_
  refine Lw_iload_n (q := 3) (i := 3) 3 (by decide +kernel) rfl rfl ?_
  refine Lw_iconst (i := 1) (v := 1) (by decide +kernel) (by decide) ?_
  refine Lw_iadd (by decide +kernel) ?_
  refine Lw_sld (by decide +kernel) (ixk 1 (by decide) (by decide) hi hN) ?_
  refine Lw_callC (d' := 6) (idx := 169) (ν := m_X11_turn) (As := [.int ((xs ((nI i + 1)).toNatClampNeg))]) (by decide +kernel) (tg_5 170 (by decide +kernel) (by decide +kernel)) cv_X11_turn rfl rfl rfl (by decide) (Nat.le_of_ble_eq_true rfl) (t_X11_turn (N := 50000) e1) (fun r1 M1 hr => ?_)
  obtain ⟨rfl, rfl⟩ := hr
  show Lw b0 N0 xs 1375 _ [.int r] M1 MS
  refine Lw_aload_n (q := 2) (i := 2) 2 (by decide +kernel) rfl rfl ?_
  refine Lw_aload_n (q := 0) (i := 0) 0 (by decide +kernel) rfl rfl ?_
  refine Lw_iload_n (q := 3) (i := 3) 3 (by decide +kernel) rfl rfl ?_
  refine Lw_iconst (i := 1) (v := 1) (by decide +kernel) (by decide) ?_
  refine Lw_iadd (by decide +kernel) ?_
  refine Lw_sld (by decide +kernel) (ixk 1 (by decide) (by decide) hi hN) ?_
  refine Lw_callM (d' := 7) (idx := 172) (ν := m_X12_turn) (As := [.int ((xs ((nI i + 1)).toNatClampNeg))]) (by decide +kernel) (tg_9 183 (by decide +kernel) (by decide +kernel)) cv_X12_turn rfl rfl rfl (by decide) (Nat.le_of_ble_eq_true rfl) (t_X12_turn (N := 50000) e2) (fun r1 M2 hr => ?_)
  obtain ⟨rfl, rfl⟩ := hr
  show Lw b0 N0 xs 1384 _ [.int r, .int r] M1 M2
  exact Lw_icmp_eq (off := 625) 2009 (by decide +kernel) (by decide) (fun _ => k _ _ hR) (fun hc => absurd rfl hc)
set_option maxRecDepth 20000 in
theorem case_36 {i : Nat} (hi : i + 6 ≤ N0) (hN : N0 ≤ 3072) (h : Rel MC MS) (k : ∀ MC2 MS2, Rel MC2 MS2 → Lw b0 N0 xs 2009 [(0, .ref 700), (1, .ref 0), (2, .ref 200), (3, .int (nI i))] [] MC2 MS2) : Lw b0 N0 xs 1389 [(0, .ref 700), (1, .ref 0), (2, .ref 200), (3, .int (nI i))] [] MC MS := by
  obtain ⟨r, C2, S2, e1, e2, hR⟩ := e_turnSet (N := 50000) (by decide) h ((xs ((nI i + 1)).toNatClampNeg)) ((xs ((nI i + 2)).toNatClampNeg))
  refine Lw_aload_n (q := 1) (i := 1) 1 (by decide +kernel) rfl rfl ?_
  refine Lw_aload_n (q := 0) (i := 0) 0 (by decide +kernel) rfl rfl ?_
  refine Lw_iload_n (q := 3) (i := 3) 3 (by decide +kernel) rfl rfl ?_
  refine Lw_iconst (i := 1) (v := 1) (by decide +kernel) (by decide) ?_
  refine Lw_iadd (by decide +kernel) ?_
  refine Lw_sld (by decide +kernel) (ixk 1 (by decide) (by decide) hi hN) ?_
  refine Lw_aload_n (q := 0) (i := 0) 0 (by decide +kernel) rfl rfl ?_
  refine Lw_iload_n (q := 3) (i := 3) 3 (by decide +kernel) rfl rfl ?_
  refine Lw_iconst (i := 2) (v := 2) (by decide +kernel) (by decide) ?_
  refine Lw_iadd (by decide +kernel) ?_
  refine Lw_sld (by decide +kernel) (ixk 2 (by decide) (by decide) hi hN) ?_
  refine Lw_callC (d' := 6) (idx := 173) (ν := m_X11_turnSet) (As := [.int ((xs ((nI i + 1)).toNatClampNeg)), .int ((xs ((nI i + 2)).toNatClampNeg))]) (by decide +kernel) (tg_5 182 (by decide +kernel) (by decide +kernel)) cv_X11_turnSet rfl rfl rfl (by decide) (Nat.le_of_ble_eq_true rfl) (t_X11_turnSet (N := 50000) e1) (fun r1 M1 hr => ?_)
  obtain ⟨rfl, rfl⟩ := hr
  show Lw b0 N0 xs 1403 _ [.int r] M1 MS
  refine Lw_aload_n (q := 2) (i := 2) 2 (by decide +kernel) rfl rfl ?_
  refine Lw_aload_n (q := 0) (i := 0) 0 (by decide +kernel) rfl rfl ?_
  refine Lw_iload_n (q := 3) (i := 3) 3 (by decide +kernel) rfl rfl ?_
  refine Lw_iconst (i := 1) (v := 1) (by decide +kernel) (by decide) ?_
  refine Lw_iadd (by decide +kernel) ?_
  refine Lw_sld (by decide +kernel) (ixk 1 (by decide) (by decide) hi hN) ?_
  refine Lw_aload_n (q := 0) (i := 0) 0 (by decide +kernel) rfl rfl ?_
  refine Lw_iload_n (q := 3) (i := 3) 3 (by decide +kernel) rfl rfl ?_
  refine Lw_iconst (i := 2) (v := 2) (by decide +kernel) (by decide) ?_
  refine Lw_iadd (by decide +kernel) ?_
  refine Lw_sld (by decide +kernel) (ixk 2 (by decide) (by decide) hi hN) ?_
  refine Lw_callM (d' := 7) (idx := 176) (ν := m_X12_turnSet) (As := [.int ((xs ((nI i + 1)).toNatClampNeg)), .int ((xs ((nI i + 2)).toNatClampNeg))]) (by decide +kernel) (tg_9 192 (by decide +kernel) (by decide +kernel)) cv_X12_turnSet rfl rfl rfl (by decide) (Nat.le_of_ble_eq_true rfl) (t_X12_turnSet (N := 50000) e2) (fun r1 M2 hr => ?_)
  obtain ⟨rfl, rfl⟩ := hr
  show Lw b0 N0 xs 1417 _ [.int r, .int r] M1 M2
  exact Lw_icmp_eq (off := 592) 2009 (by decide +kernel) (by decide) (fun _ => k _ _ hR) (fun hc => absurd rfl hc)
set_option maxRecDepth 20000 in
theorem case_37 {i : Nat} (hi : i + 6 ≤ N0) (hN : N0 ≤ 3072) (h : Rel MC MS) (k : ∀ MC2 MS2, Rel MC2 MS2 → Lw b0 N0 xs 2009 [(0, .ref 700), (1, .ref 0), (2, .ref 200), (3, .int (nI i))] [] MC2 MS2) : Lw b0 N0 xs 1422 [(0, .ref 700), (1, .ref 0), (2, .ref 200), (3, .int (nI i))] [] MC MS := by
  obtain ⟨r, C2, S2, e1, e2, hR⟩ := e_way (N := 50000) (by decide) h ((xs ((nI i + 1)).toNatClampNeg)) ((xs ((nI i + 2)).toNatClampNeg)) ((xs ((nI i + 3)).toNatClampNeg)) ((xs ((nI i + 4)).toNatClampNeg)) ((xs ((nI i + 5)).toNatClampNeg))
  refine Lw_aload_n (q := 1) (i := 1) 1 (by decide +kernel) rfl rfl ?_
  refine Lw_aload_n (q := 0) (i := 0) 0 (by decide +kernel) rfl rfl ?_
  refine Lw_iload_n (q := 3) (i := 3) 3 (by decide +kernel) rfl rfl ?_
  refine Lw_iconst (i := 1) (v := 1) (by decide +kernel) (by decide) ?_
  refine Lw_iadd (by decide +kernel) ?_
  refine Lw_sld (by decide +kernel) (ixk 1 (by decide) (by decide) hi hN) ?_
  refine Lw_aload_n (q := 0) (i := 0) 0 (by decide +kernel) rfl rfl ?_
  refine Lw_iload_n (q := 3) (i := 3) 3 (by decide +kernel) rfl rfl ?_
  refine Lw_iconst (i := 2) (v := 2) (by decide +kernel) (by decide) ?_
  refine Lw_iadd (by decide +kernel) ?_
  refine Lw_sld (by decide +kernel) (ixk 2 (by decide) (by decide) hi hN) ?_
  refine Lw_aload_n (q := 0) (i := 0) 0 (by decide +kernel) rfl rfl ?_
  refine Lw_iload_n (q := 3) (i := 3) 3 (by decide +kernel) rfl rfl ?_
  refine Lw_iconst (i := 3) (v := 3) (by decide +kernel) (by decide) ?_
  refine Lw_iadd (by decide +kernel) ?_
  refine Lw_sld (by decide +kernel) (ixk 3 (by decide) (by decide) hi hN) ?_
  refine Lw_aload_n (q := 0) (i := 0) 0 (by decide +kernel) rfl rfl ?_
  refine Lw_iload_n (q := 3) (i := 3) 3 (by decide +kernel) rfl rfl ?_
  refine Lw_iconst (i := 4) (v := 4) (by decide +kernel) (by decide) ?_
  refine Lw_iadd (by decide +kernel) ?_
  refine Lw_sld (by decide +kernel) (ixk 4 (by decide) (by decide) hi hN) ?_
  refine Lw_aload_n (q := 0) (i := 0) 0 (by decide +kernel) rfl rfl ?_
  refine Lw_iload_n (q := 3) (i := 3) 3 (by decide +kernel) rfl rfl ?_
  refine Lw_iconst (i := 5) (v := 5) (by decide +kernel) (by decide) ?_
  refine Lw_iadd (by decide +kernel) ?_
  refine Lw_sld (by decide +kernel) (ixk 5 (by decide) (by decide) hi hN) ?_
  refine Lw_callC (d' := 5) (idx := 177) (ν := m_X11_way) (As := [.int ((xs ((nI i + 1)).toNatClampNeg)), .int ((xs ((nI i + 2)).toNatClampNeg)), .int ((xs ((nI i + 3)).toNatClampNeg)), .int ((xs ((nI i + 4)).toNatClampNeg)), .int ((xs ((nI i + 5)).toNatClampNeg))]) (by decide +kernel) (tg_5 186 (by decide +kernel) (by decide +kernel)) cv_X11_way rfl rfl rfl (by decide) (Nat.le_of_ble_eq_true rfl) (t_X11_way (N := 50000) e1) (fun r1 M1 hr => ?_)
  obtain ⟨rfl, rfl⟩ := hr
  show Lw b0 N0 xs 1451 _ [.int r] M1 MS
  refine Lw_aload_n (q := 2) (i := 2) 2 (by decide +kernel) rfl rfl ?_
  refine Lw_aload_n (q := 0) (i := 0) 0 (by decide +kernel) rfl rfl ?_
  refine Lw_iload_n (q := 3) (i := 3) 3 (by decide +kernel) rfl rfl ?_
  refine Lw_iconst (i := 1) (v := 1) (by decide +kernel) (by decide) ?_
  refine Lw_iadd (by decide +kernel) ?_
  refine Lw_sld (by decide +kernel) (ixk 1 (by decide) (by decide) hi hN) ?_
  refine Lw_aload_n (q := 0) (i := 0) 0 (by decide +kernel) rfl rfl ?_
  refine Lw_iload_n (q := 3) (i := 3) 3 (by decide +kernel) rfl rfl ?_
  refine Lw_iconst (i := 2) (v := 2) (by decide +kernel) (by decide) ?_
  refine Lw_iadd (by decide +kernel) ?_
  refine Lw_sld (by decide +kernel) (ixk 2 (by decide) (by decide) hi hN) ?_
  refine Lw_aload_n (q := 0) (i := 0) 0 (by decide +kernel) rfl rfl ?_
  refine Lw_iload_n (q := 3) (i := 3) 3 (by decide +kernel) rfl rfl ?_
  refine Lw_iconst (i := 3) (v := 3) (by decide +kernel) (by decide) ?_
  refine Lw_iadd (by decide +kernel) ?_
  refine Lw_sld (by decide +kernel) (ixk 3 (by decide) (by decide) hi hN) ?_
  refine Lw_aload_n (q := 0) (i := 0) 0 (by decide +kernel) rfl rfl ?_
  refine Lw_iload_n (q := 3) (i := 3) 3 (by decide +kernel) rfl rfl ?_
  refine Lw_iconst (i := 4) (v := 4) (by decide +kernel) (by decide) ?_
  refine Lw_iadd (by decide +kernel) ?_
  refine Lw_sld (by decide +kernel) (ixk 4 (by decide) (by decide) hi hN) ?_
  refine Lw_aload_n (q := 0) (i := 0) 0 (by decide +kernel) rfl rfl ?_
  refine Lw_iload_n (q := 3) (i := 3) 3 (by decide +kernel) rfl rfl ?_
  refine Lw_iconst (i := 5) (v := 5) (by decide +kernel) (by decide) ?_
  refine Lw_iadd (by decide +kernel) ?_
  refine Lw_sld (by decide +kernel) (ixk 5 (by decide) (by decide) hi hN) ?_
  refine Lw_callM (d' := 3) (idx := 180) (ν := m_X12_way) (As := [.int ((xs ((nI i + 1)).toNatClampNeg)), .int ((xs ((nI i + 2)).toNatClampNeg)), .int ((xs ((nI i + 3)).toNatClampNeg)), .int ((xs ((nI i + 4)).toNatClampNeg)), .int ((xs ((nI i + 5)).toNatClampNeg))]) (by decide +kernel) (tg_9 196 (by decide +kernel) (by decide +kernel)) cv_X12_way rfl rfl rfl (by decide) (Nat.le_of_ble_eq_true rfl) (t_X12_way (N := 50000) e2) (fun r1 M2 hr => ?_)
  obtain ⟨rfl, rfl⟩ := hr
  show Lw b0 N0 xs 1480 _ [.int r, .int r] M1 M2
  exact Lw_icmp_eq (off := 529) 2009 (by decide +kernel) (by decide) (fun _ => k _ _ hR) (fun hc => absurd rfl hc)
set_option maxRecDepth 20000 in
theorem case_38 {i : Nat} (hi : i + 6 ≤ N0) (hN : N0 ≤ 3072) (h : Rel MC MS) (k : ∀ MC2 MS2, Rel MC2 MS2 → Lw b0 N0 xs 2009 [(0, .ref 700), (1, .ref 0), (2, .ref 200), (3, .int (nI i))] [] MC2 MS2) : Lw b0 N0 xs 1485 [(0, .ref 700), (1, .ref 0), (2, .ref 200), (3, .int (nI i))] [] MC MS := by
  obtain ⟨r, C2, S2, e1, e2, hR⟩ := e_sail (N := 50000) (by decide) h ((xs ((nI i + 1)).toNatClampNeg))
  refine Lw_aload_n (q := 1) (i := 1) 1 (by decide +kernel) rfl rfl ?_
  refine Lw_aload_n (q := 0) (i := 0) 0 (by decide +kernel) rfl rfl ?_
  refine Lw_iload_n (q := 3) (i := 3) 3 (by decide +kernel) rfl rfl ?_
  refine Lw_iconst (i := 1) (v := 1) (by decide +kernel) (by decide) ?_
  refine Lw_iadd (by decide +kernel) ?_
  refine Lw_sld (by decide +kernel) (ixk 1 (by decide) (by decide) hi hN) ?_
  refine Lw_callC (d' := 5) (idx := 181) (ν := m_X11_sail) (As := [.int ((xs ((nI i + 1)).toNatClampNeg))]) (by decide +kernel) (tg_5 213 (by decide +kernel) (by decide +kernel)) cv_X11_sail rfl rfl rfl (by decide) (Nat.le_of_ble_eq_true rfl) (t_X11_sail (N := 50000) e1) (fun r1 M1 hr => ?_)
  obtain ⟨rfl, rfl⟩ := hr
  show Lw b0 N0 xs 1494 _ [.int r] M1 MS
  refine Lw_aload_n (q := 2) (i := 2) 2 (by decide +kernel) rfl rfl ?_
  refine Lw_aload_n (q := 0) (i := 0) 0 (by decide +kernel) rfl rfl ?_
  refine Lw_iload_n (q := 3) (i := 3) 3 (by decide +kernel) rfl rfl ?_
  refine Lw_iconst (i := 1) (v := 1) (by decide +kernel) (by decide) ?_
  refine Lw_iadd (by decide +kernel) ?_
  refine Lw_sld (by decide +kernel) (ixk 1 (by decide) (by decide) hi hN) ?_
  refine Lw_callM (d' := 5) (idx := 184) (ν := m_X12_sail) (As := [.int ((xs ((nI i + 1)).toNatClampNeg))]) (by decide +kernel) (tg_9 205 (by decide +kernel) (by decide +kernel)) cv_X12_sail rfl rfl rfl (by decide) (Nat.le_of_ble_eq_true rfl) (t_X12_sail (N := 50000) e2) (fun r1 M2 hr => ?_)
  obtain ⟨rfl, rfl⟩ := hr
  show Lw b0 N0 xs 1503 _ [.int r, .int r] M1 M2
  exact Lw_icmp_eq (off := 506) 2009 (by decide +kernel) (by decide) (fun _ => k _ _ hR) (fun hc => absurd rfl hc)
set_option maxRecDepth 20000 in
theorem case_39 {i : Nat} (hi : i + 6 ≤ N0) (hN : N0 ≤ 3072) (h : Rel MC MS) (k : ∀ MC2 MS2, Rel MC2 MS2 → Lw b0 N0 xs 2009 [(0, .ref 700), (1, .ref 0), (2, .ref 200), (3, .int (nI i))] [] MC2 MS2) : Lw b0 N0 xs 1508 [(0, .ref 700), (1, .ref 0), (2, .ref 200), (3, .int (nI i))] [] MC MS := by
  obtain ⟨r, C2, S2, e1, e2, hR⟩ := e_watch (N := 50000) (by decide) h ((xs ((nI i + 1)).toNatClampNeg)) ((xs ((nI i + 2)).toNatClampNeg)) ((xs ((nI i + 3)).toNatClampNeg)) ((xs ((nI i + 4)).toNatClampNeg))
  refine Lw_aload_n (q := 1) (i := 1) 1 (by decide +kernel) rfl rfl ?_
  refine Lw_aload_n (q := 0) (i := 0) 0 (by decide +kernel) rfl rfl ?_
  refine Lw_iload_n (q := 3) (i := 3) 3 (by decide +kernel) rfl rfl ?_
  refine Lw_iconst (i := 1) (v := 1) (by decide +kernel) (by decide) ?_
  refine Lw_iadd (by decide +kernel) ?_
  refine Lw_sld (by decide +kernel) (ixk 1 (by decide) (by decide) hi hN) ?_
  refine Lw_aload_n (q := 0) (i := 0) 0 (by decide +kernel) rfl rfl ?_
  refine Lw_iload_n (q := 3) (i := 3) 3 (by decide +kernel) rfl rfl ?_
  refine Lw_iconst (i := 2) (v := 2) (by decide +kernel) (by decide) ?_
  refine Lw_iadd (by decide +kernel) ?_
  refine Lw_sld (by decide +kernel) (ixk 2 (by decide) (by decide) hi hN) ?_
  refine Lw_aload_n (q := 0) (i := 0) 0 (by decide +kernel) rfl rfl ?_
  refine Lw_iload_n (q := 3) (i := 3) 3 (by decide +kernel) rfl rfl ?_
  refine Lw_iconst (i := 3) (v := 3) (by decide +kernel) (by decide) ?_
  refine Lw_iadd (by decide +kernel) ?_
  refine Lw_sld (by decide +kernel) (ixk 3 (by decide) (by decide) hi hN) ?_
  refine Lw_aload_n (q := 0) (i := 0) 0 (by decide +kernel) rfl rfl ?_
  refine Lw_iload_n (q := 3) (i := 3) 3 (by decide +kernel) rfl rfl ?_
  refine Lw_iconst (i := 4) (v := 4) (by decide +kernel) (by decide) ?_
  refine Lw_iadd (by decide +kernel) ?_
  refine Lw_sld (by decide +kernel) (ixk 4 (by decide) (by decide) hi hN) ?_
  refine Lw_callC (d' := 5) (idx := 185) (ν := m_X11_watch) (As := [.int ((xs ((nI i + 1)).toNatClampNeg)), .int ((xs ((nI i + 2)).toNatClampNeg)), .int ((xs ((nI i + 3)).toNatClampNeg)), .int ((xs ((nI i + 4)).toNatClampNeg))]) (by decide +kernel) (tg_5 232 (by decide +kernel) (by decide +kernel)) cv_X11_watch rfl rfl rfl (by decide) (Nat.le_of_ble_eq_true rfl) (t_X11_watch (N := 50000) e1) (fun r1 M1 hr => ?_)
  obtain ⟨rfl, rfl⟩ := hr
  show Lw b0 N0 xs 1532 _ [.int r] M1 MS
  refine Lw_aload_n (q := 2) (i := 2) 2 (by decide +kernel) rfl rfl ?_
  refine Lw_aload_n (q := 0) (i := 0) 0 (by decide +kernel) rfl rfl ?_
  refine Lw_iload_n (q := 3) (i := 3) 3 (by decide +kernel) rfl rfl ?_
  refine Lw_iconst (i := 1) (v := 1) (by decide +kernel) (by decide) ?_
  refine Lw_iadd (by decide +kernel) ?_
  refine Lw_sld (by decide +kernel) (ixk 1 (by decide) (by decide) hi hN) ?_
  refine Lw_aload_n (q := 0) (i := 0) 0 (by decide +kernel) rfl rfl ?_
  refine Lw_iload_n (q := 3) (i := 3) 3 (by decide +kernel) rfl rfl ?_
  refine Lw_iconst (i := 2) (v := 2) (by decide +kernel) (by decide) ?_
  refine Lw_iadd (by decide +kernel) ?_
  refine Lw_sld (by decide +kernel) (ixk 2 (by decide) (by decide) hi hN) ?_
  refine Lw_aload_n (q := 0) (i := 0) 0 (by decide +kernel) rfl rfl ?_
  refine Lw_iload_n (q := 3) (i := 3) 3 (by decide +kernel) rfl rfl ?_
  refine Lw_iconst (i := 3) (v := 3) (by decide +kernel) (by decide) ?_
  refine Lw_iadd (by decide +kernel) ?_
  refine Lw_sld (by decide +kernel) (ixk 3 (by decide) (by decide) hi hN) ?_
  refine Lw_aload_n (q := 0) (i := 0) 0 (by decide +kernel) rfl rfl ?_
  refine Lw_iload_n (q := 3) (i := 3) 3 (by decide +kernel) rfl rfl ?_
  refine Lw_iconst (i := 4) (v := 4) (by decide +kernel) (by decide) ?_
  refine Lw_iadd (by decide +kernel) ?_
  refine Lw_sld (by decide +kernel) (ixk 4 (by decide) (by decide) hi hN) ?_
  refine Lw_callM (d' := 66) (idx := 188) (ν := m_X12_watch) (As := [.int ((xs ((nI i + 1)).toNatClampNeg)), .int ((xs ((nI i + 2)).toNatClampNeg)), .int ((xs ((nI i + 3)).toNatClampNeg)), .int ((xs ((nI i + 4)).toNatClampNeg))]) (by decide +kernel) (tg_9 209 (by decide +kernel) (by decide +kernel)) cv_X12_watch rfl rfl rfl (by decide) (Nat.le_of_ble_eq_true rfl) (t_X12_watch (N := 50000) e2) (fun r1 M2 hr => ?_)
  obtain ⟨rfl, rfl⟩ := hr
  show Lw b0 N0 xs 1556 _ [.int r, .int r] M1 M2
  exact Lw_icmp_eq (off := 453) 2009 (by decide +kernel) (by decide) (fun _ => k _ _ hR) (fun hc => absurd rfl hc)
set_option maxRecDepth 20000 in
theorem case_40 {i : Nat} (hi : i + 6 ≤ N0) (hN : N0 ≤ 3072) (h : Rel MC MS) (k : ∀ MC2 MS2, Rel MC2 MS2 → Lw b0 N0 xs 2009 [(0, .ref 700), (1, .ref 0), (2, .ref 200), (3, .int (nI i))] [] MC2 MS2) : Lw b0 N0 xs 1561 [(0, .ref 700), (1, .ref 0), (2, .ref 200), (3, .int (nI i))] [] MC MS := by
  obtain ⟨r, C2, S2, e1, e2, hR⟩ := e_together (N := 50000) (by decide) h ((xs ((nI i + 1)).toNatClampNeg)) ((xs ((nI i + 2)).toNatClampNeg))
  refine Lw_aload_n (q := 1) (i := 1) 1 (by decide +kernel) rfl rfl ?_
  refine Lw_aload_n (q := 0) (i := 0) 0 (by decide +kernel) rfl rfl ?_
  refine Lw_iload_n (q := 3) (i := 3) 3 (by decide +kernel) rfl rfl ?_
  refine Lw_iconst (i := 1) (v := 1) (by decide +kernel) (by decide) ?_
  refine Lw_iadd (by decide +kernel) ?_
  refine Lw_sld (by decide +kernel) (ixk 1 (by decide) (by decide) hi hN) ?_
  refine Lw_aload_n (q := 0) (i := 0) 0 (by decide +kernel) rfl rfl ?_
  refine Lw_iload_n (q := 3) (i := 3) 3 (by decide +kernel) rfl rfl ?_
  refine Lw_iconst (i := 2) (v := 2) (by decide +kernel) (by decide) ?_
  refine Lw_iadd (by decide +kernel) ?_
  refine Lw_sld (by decide +kernel) (ixk 2 (by decide) (by decide) hi hN) ?_
  refine Lw_callC (d' := 2) (idx := 189) (ν := m_X11_together) (As := [.int ((xs ((nI i + 1)).toNatClampNeg)), .int ((xs ((nI i + 2)).toNatClampNeg))]) (by decide +kernel) (tg_6 32 (by decide +kernel) (by decide +kernel)) cv_X11_together rfl rfl rfl (by decide) (Nat.le_of_ble_eq_true rfl) (t_X11_together (N := 50000) e1) (fun r1 M1 hr => ?_)
  obtain ⟨rfl, rfl⟩ := hr
  show Lw b0 N0 xs 1575 _ [.int r] M1 MS
  refine Lw_aload_n (q := 2) (i := 2) 2 (by decide +kernel) rfl rfl ?_
  refine Lw_aload_n (q := 0) (i := 0) 0 (by decide +kernel) rfl rfl ?_
  refine Lw_iload_n (q := 3) (i := 3) 3 (by decide +kernel) rfl rfl ?_
  refine Lw_iconst (i := 1) (v := 1) (by decide +kernel) (by decide) ?_
  refine Lw_iadd (by decide +kernel) ?_
  refine Lw_sld (by decide +kernel) (ixk 1 (by decide) (by decide) hi hN) ?_
  refine Lw_aload_n (q := 0) (i := 0) 0 (by decide +kernel) rfl rfl ?_
  refine Lw_iload_n (q := 3) (i := 3) 3 (by decide +kernel) rfl rfl ?_
  refine Lw_iconst (i := 2) (v := 2) (by decide +kernel) (by decide) ?_
  refine Lw_iadd (by decide +kernel) ?_
  refine Lw_sld (by decide +kernel) (ixk 2 (by decide) (by decide) hi hN) ?_
  refine Lw_callM (d' := 3) (idx := 192) (ν := m_X12_together) (As := [.int ((xs ((nI i + 1)).toNatClampNeg)), .int ((xs ((nI i + 2)).toNatClampNeg))]) (by decide +kernel) (tg_9 222 (by decide +kernel) (by decide +kernel)) cv_X12_together rfl rfl rfl (by decide) (Nat.le_of_ble_eq_true rfl) (t_X12_together (N := 50000) e2) (fun r1 M2 hr => ?_)
  obtain ⟨rfl, rfl⟩ := hr
  show Lw b0 N0 xs 1589 _ [.int r, .int r] M1 M2
  exact Lw_icmp_eq (off := 420) 2009 (by decide +kernel) (by decide) (fun _ => k _ _ hR) (fun hc => absurd rfl hc)
set_option maxRecDepth 20000 in
theorem case_41 {i : Nat} (hi : i + 6 ≤ N0) (hN : N0 ≤ 3072) (h : Rel MC MS) (k : ∀ MC2 MS2, Rel MC2 MS2 → Lw b0 N0 xs 2009 [(0, .ref 700), (1, .ref 0), (2, .ref 200), (3, .int (nI i))] [] MC2 MS2) : Lw b0 N0 xs 1594 [(0, .ref 700), (1, .ref 0), (2, .ref 200), (3, .int (nI i))] [] MC MS := by
  obtain ⟨r, C2, S2, e1, e2, hR⟩ := e_fewest (N := 50000) (by decide) h ((xs ((nI i + 1)).toNatClampNeg))
  refine Lw_aload_n (q := 1) (i := 1) 1 (by decide +kernel) rfl rfl ?_
  refine Lw_aload_n (q := 0) (i := 0) 0 (by decide +kernel) rfl rfl ?_
  refine Lw_iload_n (q := 3) (i := 3) 3 (by decide +kernel) rfl rfl ?_
  refine Lw_iconst (i := 1) (v := 1) (by decide +kernel) (by decide) ?_
  refine Lw_iadd (by decide +kernel) ?_
  refine Lw_sld (by decide +kernel) (ixk 1 (by decide) (by decide) hi hN) ?_
  refine Lw_callC (d' := 3) (idx := 193) (ν := m_X11_fewest) (As := [.int ((xs ((nI i + 1)).toNatClampNeg))]) (by decide +kernel) (tg_6 36 (by decide +kernel) (by decide +kernel)) cv_X11_fewest rfl rfl rfl (by decide) (Nat.le_of_ble_eq_true rfl) (t_X11_fewest (N := 50000) e1) (fun r1 M1 hr => ?_)
  obtain ⟨rfl, rfl⟩ := hr
  show Lw b0 N0 xs 1603 _ [.int r] M1 MS
  refine Lw_aload_n (q := 2) (i := 2) 2 (by decide +kernel) rfl rfl ?_
  refine Lw_aload_n (q := 0) (i := 0) 0 (by decide +kernel) rfl rfl ?_
  refine Lw_iload_n (q := 3) (i := 3) 3 (by decide +kernel) rfl rfl ?_
  refine Lw_iconst (i := 1) (v := 1) (by decide +kernel) (by decide) ?_
  refine Lw_iadd (by decide +kernel) ?_
  refine Lw_sld (by decide +kernel) (ixk 1 (by decide) (by decide) hi hN) ?_
  refine Lw_callM (d' := 4) (idx := 196) (ν := m_X12_fewest) (As := [.int ((xs ((nI i + 1)).toNatClampNeg))]) (by decide +kernel) (tg_9 226 (by decide +kernel) (by decide +kernel)) cv_X12_fewest rfl rfl rfl (by decide) (Nat.le_of_ble_eq_true rfl) (t_X12_fewest (N := 50000) e2) (fun r1 M2 hr => ?_)
  obtain ⟨rfl, rfl⟩ := hr
  show Lw b0 N0 xs 1612 _ [.int r, .int r] M1 M2
  exact Lw_icmp_eq (off := 397) 2009 (by decide +kernel) (by decide) (fun _ => k _ _ hR) (fun hc => absurd rfl hc)
end LW
