section LW
variable {b0 N0 : Nat} {xs : Nat → Int32} {MC MS : Mem}
set_option maxRecDepth 20000 in
theorem case_42 {i : Nat} (hi : i + 6 ≤ N0) (hN : N0 ≤ 3072) (h : Rel MC MS) (k : ∀ MC2 MS2, Rel MC2 MS2 → Lw b0 N0 xs 2009 [(0, .ref 700), (1, .ref 0), (2, .ref 200), (3, .int (nI i))] [] MC2 MS2) : Lw b0 N0 xs 1617 [(0, .ref 700), (1, .ref 0), (2, .ref 200), (3, .int (nI i))] [] MC MS := by
  obtain ⟨r, C2, S2, e1, e2, hR⟩ := e_fewestSet (N := 50000) (by decide) h ((xs ((nI i + 1)).toNatClampNeg))
  refine Lw_aload_n (q := 1) (i := 1) 1 (by decide +kernel) rfl rfl ?_
  refine Lw_aload_n (q := 0) (i := 0) 0 (by decide +kernel) rfl rfl ?_
  refine Lw_iload_n (q := 3) (i := 3) 3 (by decide +kernel) rfl rfl ?_
  refine Lw_iconst (i := 1) (v := 1) (by decide +kernel) (by decide) ?_
  refine Lw_iadd (by decide +kernel) ?_
  refine Lw_sld (by decide +kernel) (ixk 1 (by decide) (by decide) hi hN) ?_
  refine Lw_callC (d' := 3) (idx := 197) (ν := m_X11_fewestSet) (As := [.int ((xs ((nI i + 1)).toNatClampNeg))]) (by decide +kernel) (tg_6 52 (by decide +kernel) (by decide +kernel)) cv_X11_fewestSet rfl rfl rfl (by decide) (Nat.le_of_ble_eq_true rfl) (t_X11_fewestSet (N := 50000) e1) (fun r1 M1 hr => ?_)
  obtain ⟨rfl, rfl⟩ := hr
  show Lw b0 N0 xs 1626 _ [.int r] M1 MS
  refine Lw_aload_n (q := 2) (i := 2) 2 (by decide +kernel) rfl rfl ?_
  refine Lw_aload_n (q := 0) (i := 0) 0 (by decide +kernel) rfl rfl ?_
  refine Lw_iload_n (q := 3) (i := 3) 3 (by decide +kernel) rfl rfl ?_
  refine Lw_iconst (i := 1) (v := 1) (by decide +kernel) (by decide) ?_
  refine Lw_iadd (by decide +kernel) ?_
  refine Lw_sld (by decide +kernel) (ixk 1 (by decide) (by decide) hi hN) ?_
  refine Lw_callM (d' := 4) (idx := 200) (ν := m_X12_fewestSet) (As := [.int ((xs ((nI i + 1)).toNatClampNeg))]) (by decide +kernel) (tg_9 238 (by decide +kernel) (by decide +kernel)) cv_X12_fewestSet rfl rfl rfl (by decide) (Nat.le_of_ble_eq_true rfl) (t_X12_fewestSet (N := 50000) e2) (fun r1 M2 hr => ?_)
  obtain ⟨rfl, rfl⟩ := hr
  show Lw b0 N0 xs 1635 _ [.int r, .int r] M1 M2
  exact Lw_icmp_eq (off := 374) 2009 (by decide +kernel) (by decide) (fun _ => k _ _ hR) (fun hc => absurd rfl hc)
set_option maxRecDepth 20000 in
theorem case_43 {i : Nat} (hi : i + 6 ≤ N0) (hN : N0 ≤ 3072) (h : Rel MC MS) (k : ∀ MC2 MS2, Rel MC2 MS2 → Lw b0 N0 xs 2009 [(0, .ref 700), (1, .ref 0), (2, .ref 200), (3, .int (nI i))] [] MC2 MS2) : Lw b0 N0 xs 1640 [(0, .ref 700), (1, .ref 0), (2, .ref 200), (3, .int (nI i))] [] MC MS := by
  obtain ⟨r, C2, S2, e1, e2, hR⟩ := e_power (N := 50000) (by decide) h ((xs ((nI i + 1)).toNatClampNeg)) ((xs ((nI i + 2)).toNatClampNeg))
  refine Lw_aload_n (q := 1) (i := 1) 1 (by decide +kernel) rfl rfl ?_
  refine Lw_aload_n (q := 0) (i := 0) 0 (by decide +kernel) rfl rfl ?_
  refine Lw_iload_n (q := 3) (i := 3) 3 (by decide +kernel) rfl rfl ?_
  refine Lw_iconst (i := 1) (v := 1) (by decide +kernel) (by decide) ?_
  refine Lw_iadd (by decide +kernel) ?_
  refine Lw_sld (by decide +kernel) (ixk 1 (by decide) (by decide) hi hN) ?_
  refine Lw_aload_n (q := 0) (i := 0) 0 (by decide +kernel) rfl rfl ?_
  refine Lw_iload_n (q := 3) (i := 3) 3 (by decide +kernel) rfl rfl ?_
  refine Lw_iconst (i := 2) (v := 2) (by decide +kernel) (by decide) ?_
  refine Lw_iadd (by decide +kernel) ?_
  refine Lw_sld (by decide +kernel) (ixk 2 (by decide) (by decide) hi hN) ?_
  refine Lw_callC (d' := 3) (idx := 201) (ν := m_X11_power) (As := [.int ((xs ((nI i + 1)).toNatClampNeg)), .int ((xs ((nI i + 2)).toNatClampNeg))]) (by decide +kernel) (tg_6 56 (by decide +kernel) (by decide +kernel)) cv_X11_power rfl rfl rfl (by decide) (Nat.le_of_ble_eq_true rfl) (t_X11_power (N := 50000) e1) (fun r1 M1 hr => ?_)
  obtain ⟨rfl, rfl⟩ := hr
  show Lw b0 N0 xs 1654 _ [.int (b2i r)] M1 MS
  refine Lw_aload_n (q := 2) (i := 2) 2 (by decide +kernel) rfl rfl ?_
  refine Lw_aload_n (q := 0) (i := 0) 0 (by decide +kernel) rfl rfl ?_
  refine Lw_iload_n (q := 3) (i := 3) 3 (by decide +kernel) rfl rfl ?_
  refine Lw_iconst (i := 1) (v := 1) (by decide +kernel) (by decide) ?_
  refine Lw_iadd (by decide +kernel) ?_
  refine Lw_sld (by decide +kernel) (ixk 1 (by decide) (by decide) hi hN) ?_
  refine Lw_aload_n (q := 0) (i := 0) 0 (by decide +kernel) rfl rfl ?_
  refine Lw_iload_n (q := 3) (i := 3) 3 (by decide +kernel) rfl rfl ?_
  refine Lw_iconst (i := 2) (v := 2) (by decide +kernel) (by decide) ?_
  refine Lw_iadd (by decide +kernel) ?_
  refine Lw_sld (by decide +kernel) (ixk 2 (by decide) (by decide) hi hN) ?_
  refine Lw_callM (d' := 4) (idx := 204) (ν := m_X12_power) (As := [.int ((xs ((nI i + 1)).toNatClampNeg)), .int ((xs ((nI i + 2)).toNatClampNeg))]) (by decide +kernel) (tg_10 2 (by decide +kernel) (by decide +kernel)) cv_X12_power rfl rfl rfl (by decide) (Nat.le_of_ble_eq_true rfl) (t_X12_power (N := 50000) e2) (fun r1 M2 hr => ?_)
  obtain ⟨rfl, rfl⟩ := hr
  show Lw b0 N0 xs 1668 _ [.int (b2i r), .int (b2i r)] M1 M2
  exact Lw_icmp_eq (off := 341) 2009 (by decide +kernel) (by decide) (fun _ => k _ _ hR) (fun hc => absurd rfl hc)
set_option maxRecDepth 20000 in
theorem case_44 {i : Nat} (hi : i + 6 ≤ N0) (hN : N0 ≤ 3072) (h : Rel MC MS) (k : ∀ MC2 MS2, Rel MC2 MS2 → Lw b0 N0 xs 2009 [(0, .ref 700), (1, .ref 0), (2, .ref 200), (3, .int (nI i))] [] MC2 MS2) : Lw b0 N0 xs 1673 [(0, .ref 700), (1, .ref 0), (2, .ref 200), (3, .int (nI i))] [] MC MS := by
  obtain ⟨r, C2, S2, e1, e2, hR⟩ := e_veto (N := 50000) (by decide) h ((xs ((nI i + 1)).toNatClampNeg))
  refine Lw_aload_n (q := 1) (i := 1) 1 (by decide +kernel) rfl rfl ?_
  refine Lw_aload_n (q := 0) (i := 0) 0 (by decide +kernel) rfl rfl ?_
  refine Lw_iload_n (q := 3) (i := 3) 3 (by decide +kernel) rfl rfl ?_
  refine Lw_iconst (i := 1) (v := 1) (by decide +kernel) (by decide) ?_
  refine Lw_iadd (by decide +kernel) ?_
  refine Lw_sld (by decide +kernel) (ixk 1 (by decide) (by decide) hi hN) ?_
  refine Lw_callC (d' := 3) (idx := 205) (ν := m_X11_veto) (As := [.int ((xs ((nI i + 1)).toNatClampNeg))]) (by decide +kernel) (tg_6 71 (by decide +kernel) (by decide +kernel)) cv_X11_veto rfl rfl rfl (by decide) (Nat.le_of_ble_eq_true rfl) (t_X11_veto (N := 50000) e1) (fun r1 M1 hr => ?_)
  obtain ⟨rfl, rfl⟩ := hr
  show Lw b0 N0 xs 1682 _ [.int r] M1 MS
  refine Lw_aload_n (q := 2) (i := 2) 2 (by decide +kernel) rfl rfl ?_
  refine Lw_aload_n (q := 0) (i := 0) 0 (by decide +kernel) rfl rfl ?_
  refine Lw_iload_n (q := 3) (i := 3) 3 (by decide +kernel) rfl rfl ?_
  refine Lw_iconst (i := 1) (v := 1) (by decide +kernel) (by decide) ?_
  refine Lw_iadd (by decide +kernel) ?_
  refine Lw_sld (by decide +kernel) (ixk 1 (by decide) (by decide) hi hN) ?_
  refine Lw_callM (d' := 4) (idx := 208) (ν := m_X12_veto) (As := [.int ((xs ((nI i + 1)).toNatClampNeg))]) (by decide +kernel) (tg_10 20 (by decide +kernel) (by decide +kernel)) cv_X12_veto rfl rfl rfl (by decide) (Nat.le_of_ble_eq_true rfl) (t_X12_veto (N := 50000) e2) (fun r1 M2 hr => ?_)
  obtain ⟨rfl, rfl⟩ := hr
  show Lw b0 N0 xs 1691 _ [.int r, .int r] M1 M2
  exact Lw_icmp_eq (off := 318) 2009 (by decide +kernel) (by decide) (fun _ => k _ _ hR) (fun hc => absurd rfl hc)
set_option maxRecDepth 20000 in
theorem case_45 {i : Nat} (hi : i + 6 ≤ N0) (hN : N0 ≤ 3072) (h : Rel MC MS) (k : ∀ MC2 MS2, Rel MC2 MS2 → Lw b0 N0 xs 2009 [(0, .ref 700), (1, .ref 0), (2, .ref 200), (3, .int (nI i))] [] MC2 MS2) : Lw b0 N0 xs 1696 [(0, .ref 700), (1, .ref 0), (2, .ref 200), (3, .int (nI i))] [] MC MS := by
  obtain ⟨r, C2, S2, e1, e2, hR⟩ := e_idle (N := 50000) (by decide) h ((xs ((nI i + 1)).toNatClampNeg))
  refine Lw_aload_n (q := 1) (i := 1) 1 (by decide +kernel) rfl rfl ?_
  refine Lw_aload_n (q := 0) (i := 0) 0 (by decide +kernel) rfl rfl ?_
  refine Lw_iload_n (q := 3) (i := 3) 3 (by decide +kernel) rfl rfl ?_
  refine Lw_iconst (i := 1) (v := 1) (by decide +kernel) (by decide) ?_
  refine Lw_iadd (by decide +kernel) ?_
  refine Lw_sld (by decide +kernel) (ixk 1 (by decide) (by decide) hi hN) ?_
  refine Lw_callC (d' := 4) (idx := 209) (ν := m_X11_idle) (As := [.int ((xs ((nI i + 1)).toNatClampNeg))]) (by decide +kernel) (tg_6 79 (by decide +kernel) (by decide +kernel)) cv_X11_idle rfl rfl rfl (by decide) (Nat.le_of_ble_eq_true rfl) (t_X11_idle (N := 50000) e1) (fun r1 M1 hr => ?_)
  obtain ⟨rfl, rfl⟩ := hr
  show Lw b0 N0 xs 1705 _ [.int r] M1 MS
  refine Lw_aload_n (q := 2) (i := 2) 2 (by decide +kernel) rfl rfl ?_
  refine Lw_aload_n (q := 0) (i := 0) 0 (by decide +kernel) rfl rfl ?_
  refine Lw_iload_n (q := 3) (i := 3) 3 (by decide +kernel) rfl rfl ?_
  refine Lw_iconst (i := 1) (v := 1) (by decide +kernel) (by decide) ?_
  refine Lw_iadd (by decide +kernel) ?_
  refine Lw_sld (by decide +kernel) (ixk 1 (by decide) (by decide) hi hN) ?_
  refine Lw_callM (d' := 4) (idx := 212) (ν := m_X12_idle) (As := [.int ((xs ((nI i + 1)).toNatClampNeg))]) (by decide +kernel) (tg_10 24 (by decide +kernel) (by decide +kernel)) cv_X12_idle rfl rfl rfl (by decide) (Nat.le_of_ble_eq_true rfl) (t_X12_idle (N := 50000) e2) (fun r1 M2 hr => ?_)
  obtain ⟨rfl, rfl⟩ := hr
  show Lw b0 N0 xs 1714 _ [.int r, .int r] M1 M2
  exact Lw_icmp_eq (off := 295) 2009 (by decide +kernel) (by decide) (fun _ => k _ _ hR) (fun hc => absurd rfl hc)
set_option maxRecDepth 20000 in
theorem case_46 {i : Nat} (hi : i + 6 ≤ N0) (hN : N0 ≤ 3072) (h : Rel MC MS) (k : ∀ MC2 MS2, Rel MC2 MS2 → Lw b0 N0 xs 2009 [(0, .ref 700), (1, .ref 0), (2, .ref 200), (3, .int (nI i))] [] MC2 MS2) : Lw b0 N0 xs 1719 [(0, .ref 700), (1, .ref 0), (2, .ref 200), (3, .int (nI i))] [] MC MS := by
  obtain ⟨r, C2, S2, e1, e2, hR⟩ := e_reach (N := 50000) (by decide) h ((xs ((nI i + 1)).toNatClampNeg))
  refine Lw_aload_n (q := 1) (i := 1) 1 (by decide +kernel) rfl rfl ?_
  refine Lw_aload_n (q := 0) (i := 0) 0 (by decide +kernel) rfl rfl ?_
  refine Lw_iload_n (q := 3) (i := 3) 3 (by decide +kernel) rfl rfl ?_
  refine Lw_iconst (i := 1) (v := 1) (by decide +kernel) (by decide) ?_
  refine Lw_iadd (by decide +kernel) ?_
  refine Lw_sld (by decide +kernel) (ixk 1 (by decide) (by decide) hi hN) ?_
  refine Lw_callC (d' := 2) (idx := 213) (ν := m_X11_reach) (As := [.int ((xs ((nI i + 1)).toNatClampNeg))]) (by decide +kernel) (tg_6 88 (by decide +kernel) (by decide +kernel)) cv_X11_reach rfl rfl rfl (by decide) (Nat.le_of_ble_eq_true rfl) (t_X11_reach (N := 50000) e1) (fun r1 M1 hr => ?_)
  obtain ⟨rfl, rfl⟩ := hr
  show Lw b0 N0 xs 1728 _ [.int r] M1 MS
  refine Lw_aload_n (q := 2) (i := 2) 2 (by decide +kernel) rfl rfl ?_
  refine Lw_aload_n (q := 0) (i := 0) 0 (by decide +kernel) rfl rfl ?_
  refine Lw_iload_n (q := 3) (i := 3) 3 (by decide +kernel) rfl rfl ?_
  refine Lw_iconst (i := 1) (v := 1) (by decide +kernel) (by decide) ?_
  refine Lw_iadd (by decide +kernel) ?_
  refine Lw_sld (by decide +kernel) (ixk 1 (by decide) (by decide) hi hN) ?_
  refine Lw_callM (d' := 3) (idx := 216) (ν := m_X12_reach) (As := [.int ((xs ((nI i + 1)).toNatClampNeg))]) (by decide +kernel) (tg_10 28 (by decide +kernel) (by decide +kernel)) cv_X12_reach rfl rfl rfl (by decide) (Nat.le_of_ble_eq_true rfl) (t_X12_reach (N := 50000) e2) (fun r1 M2 hr => ?_)
  obtain ⟨rfl, rfl⟩ := hr
  show Lw b0 N0 xs 1737 _ [.int r, .int r] M1 M2
  exact Lw_icmp_eq (off := 272) 2009 (by decide +kernel) (by decide) (fun _ => k _ _ hR) (fun hc => absurd rfl hc)
set_option maxRecDepth 20000 in
theorem case_47 {i : Nat} (hi : i + 6 ≤ N0) (hN : N0 ≤ 3072) (h : Rel MC MS) (k : ∀ MC2 MS2, Rel MC2 MS2 → Lw b0 N0 xs 2009 [(0, .ref 700), (1, .ref 0), (2, .ref 200), (3, .int (nI i))] [] MC2 MS2) : Lw b0 N0 xs 1742 [(0, .ref 700), (1, .ref 0), (2, .ref 200), (3, .int (nI i))] [] MC MS := by
  obtain ⟨r, C2, S2, e1, e2, hR⟩ := e_fits (N := 50000) (by decide) h ((xs ((nI i + 1)).toNatClampNeg)) ((xs ((nI i + 2)).toNatClampNeg))
  refine Lw_aload_n (q := 1) (i := 1) 1 (by decide +kernel) rfl rfl ?_
  refine Lw_aload_n (q := 0) (i := 0) 0 (by decide +kernel) rfl rfl ?_
  refine Lw_iload_n (q := 3) (i := 3) 3 (by decide +kernel) rfl rfl ?_
  refine Lw_iconst (i := 1) (v := 1) (by decide +kernel) (by decide) ?_
  refine Lw_iadd (by decide +kernel) ?_
  refine Lw_sld (by decide +kernel) (ixk 1 (by decide) (by decide) hi hN) ?_
  refine Lw_aload_n (q := 0) (i := 0) 0 (by decide +kernel) rfl rfl ?_
  refine Lw_iload_n (q := 3) (i := 3) 3 (by decide +kernel) rfl rfl ?_
  refine Lw_iconst (i := 2) (v := 2) (by decide +kernel) (by decide) ?_
  refine Lw_iadd (by decide +kernel) ?_
  refine Lw_sld (by decide +kernel) (ixk 2 (by decide) (by decide) hi hN) ?_
  refine Lw_callC (d' := 5) (idx := 217) (ν := m_X11_fits) (As := [.int ((xs ((nI i + 1)).toNatClampNeg)), .int ((xs ((nI i + 2)).toNatClampNeg))]) (by decide +kernel) (tg_6 92 (by decide +kernel) (by decide +kernel)) cv_X11_fits rfl rfl rfl (by decide) (Nat.le_of_ble_eq_true rfl) (t_X11_fits (N := 50000) e1) (fun r1 M1 hr => ?_)
  obtain ⟨rfl, rfl⟩ := hr
  show Lw b0 N0 xs 1756 _ [.int r] M1 MS
  refine Lw_aload_n (q := 2) (i := 2) 2 (by decide +kernel) rfl rfl ?_
  refine Lw_aload_n (q := 0) (i := 0) 0 (by decide +kernel) rfl rfl ?_
  refine Lw_iload_n (q := 3) (i := 3) 3 (by decide +kernel) rfl rfl ?_
  refine Lw_iconst (i := 1) (v := 1) (by decide +kernel) (by decide) ?_
  refine Lw_iadd (by decide +kernel) ?_
  refine Lw_sld (by decide +kernel) (ixk 1 (by decide) (by decide) hi hN) ?_
  refine Lw_aload_n (q := 0) (i := 0) 0 (by decide +kernel) rfl rfl ?_
  refine Lw_iload_n (q := 3) (i := 3) 3 (by decide +kernel) rfl rfl ?_
  refine Lw_iconst (i := 2) (v := 2) (by decide +kernel) (by decide) ?_
  refine Lw_iadd (by decide +kernel) ?_
  refine Lw_sld (by decide +kernel) (ixk 2 (by decide) (by decide) hi hN) ?_
  refine Lw_callM (d' := 10) (idx := 220) (ν := m_X12_fits) (As := [.int ((xs ((nI i + 1)).toNatClampNeg)), .int ((xs ((nI i + 2)).toNatClampNeg))]) (by decide +kernel) (tg_10 32 (by decide +kernel) (by decide +kernel)) cv_X12_fits rfl rfl rfl (by decide) (Nat.le_of_ble_eq_true rfl) (t_X12_fits (N := 50000) e2) (fun r1 M2 hr => ?_)
  obtain ⟨rfl, rfl⟩ := hr
  show Lw b0 N0 xs 1770 _ [.int r, .int r] M1 M2
  exact Lw_icmp_eq (off := 239) 2009 (by decide +kernel) (by decide) (fun _ => k _ _ hR) (fun hc => absurd rfl hc)
set_option maxRecDepth 20000 in
theorem case_48 {i : Nat} (hi : i + 6 ≤ N0) (hN : N0 ≤ 3072) (h : Rel MC MS) (k : ∀ MC2 MS2, Rel MC2 MS2 → Lw b0 N0 xs 2009 [(0, .ref 700), (1, .ref 0), (2, .ref 200), (3, .int (nI i))] [] MC2 MS2) : Lw b0 N0 xs 1775 [(0, .ref 700), (1, .ref 0), (2, .ref 200), (3, .int (nI i))] [] MC MS := by
  obtain ⟨r, C2, S2, e1, e2, hR⟩ := e_known (N := 50000) (by decide) h ((xs ((nI i + 1)).toNatClampNeg)) ((xs ((nI i + 2)).toNatClampNeg)) ((xs ((nI i + 3)).toNatClampNeg))
  refine Lw_aload_n (q := 1) (i := 1) 1 (by decide +kernel) rfl rfl ?_
  refine Lw_aload_n (q := 0) (i := 0) 0 (by decide +kernel) rfl rfl ?_
  refine Lw_iload_n (q := 3) (i := 3) 3 (by decide +kernel) rfl rfl ?_
  refine Lw_iconst (i := 1) (v := 1) (by decide +kernel) (by decide) ?_
  refine Lw_iadd (by decide +kernel) ?_
  refine Lw_sld (by decide +kernel) (ixk 1 (by decide) (by decide) hi hN) ?_
  refine Lw_aload_n (q := 0) (i := 0) 0 (by decide +kernel) rfl rfl ?_
  refine Lw_iload_n (q := 3) (i := 3) 3 (by decide +kernel) rfl rfl ?_
  refine Lw_iconst (i := 2) (v := 2) (by decide +kernel) (by decide) ?_
  refine Lw_iadd (by decide +kernel) ?_
  refine Lw_sld (by decide +kernel) (ixk 2 (by decide) (by decide) hi hN) ?_
  refine Lw_aload_n (q := 0) (i := 0) 0 (by decide +kernel) rfl rfl ?_
  refine Lw_iload_n (q := 3) (i := 3) 3 (by decide +kernel) rfl rfl ?_
  refine Lw_iconst (i := 3) (v := 3) (by decide +kernel) (by decide) ?_
  refine Lw_iadd (by decide +kernel) ?_
  refine Lw_sld (by decide +kernel) (ixk 3 (by decide) (by decide) hi hN) ?_
  refine Lw_callC (d' := 6) (idx := 221) (ν := m_X11_known) (As := [.int ((xs ((nI i + 1)).toNatClampNeg)), .int ((xs ((nI i + 2)).toNatClampNeg)), .int ((xs ((nI i + 3)).toNatClampNeg))]) (by decide +kernel) (tg_6 119 (by decide +kernel) (by decide +kernel)) cv_X11_known rfl rfl rfl (by decide) (Nat.le_of_ble_eq_true rfl) (t_X11_known (N := 50000) e1) (fun r1 M1 hr => ?_)
  obtain ⟨rfl, rfl⟩ := hr
  show Lw b0 N0 xs 1794 _ [.int r] M1 MS
  refine Lw_aload_n (q := 2) (i := 2) 2 (by decide +kernel) rfl rfl ?_
  refine Lw_aload_n (q := 0) (i := 0) 0 (by decide +kernel) rfl rfl ?_
  refine Lw_iload_n (q := 3) (i := 3) 3 (by decide +kernel) rfl rfl ?_
  refine Lw_iconst (i := 1) (v := 1) (by decide +kernel) (by decide) ?_
  refine Lw_iadd (by decide +kernel) ?_
  refine Lw_sld (by decide +kernel) (ixk 1 (by decide) (by decide) hi hN) ?_
  refine Lw_aload_n (q := 0) (i := 0) 0 (by decide +kernel) rfl rfl ?_
  refine Lw_iload_n (q := 3) (i := 3) 3 (by decide +kernel) rfl rfl ?_
  refine Lw_iconst (i := 2) (v := 2) (by decide +kernel) (by decide) ?_
  refine Lw_iadd (by decide +kernel) ?_
  refine Lw_sld (by decide +kernel) (ixk 2 (by decide) (by decide) hi hN) ?_
  refine Lw_aload_n (q := 0) (i := 0) 0 (by decide +kernel) rfl rfl ?_
  refine Lw_iload_n (q := 3) (i := 3) 3 (by decide +kernel) rfl rfl ?_
  refine Lw_iconst (i := 3) (v := 3) (by decide +kernel) (by decide) ?_
  refine Lw_iadd (by decide +kernel) ?_
  refine Lw_sld (by decide +kernel) (ixk 3 (by decide) (by decide) hi hN) ?_
  refine Lw_callM (d' := 10) (idx := 224) (ν := m_X12_known) (As := [.int ((xs ((nI i + 1)).toNatClampNeg)), .int ((xs ((nI i + 2)).toNatClampNeg)), .int ((xs ((nI i + 3)).toNatClampNeg))]) (by decide +kernel) (tg_10 62 (by decide +kernel) (by decide +kernel)) cv_X12_known rfl rfl rfl (by decide) (Nat.le_of_ble_eq_true rfl) (t_X12_known (N := 50000) e2) (fun r1 M2 hr => ?_)
  obtain ⟨rfl, rfl⟩ := hr
  show Lw b0 N0 xs 1813 _ [.int r, .int r] M1 M2
  exact Lw_icmp_eq (off := 196) 2009 (by decide +kernel) (by decide) (fun _ => k _ _ hR) (fun hc => absurd rfl hc)
end LW
