section LW
variable {b0 N0 : Nat} {xs : Nat → Int32} {MC MS : Mem}
set_option maxRecDepth 20000 in
theorem case_14 {i : Nat} (hi : i + 6 ≤ N0) (hN : N0 ≤ 3072) (h : Rel MC MS) (k : ∀ MC2 MS2, Rel MC2 MS2 → Lw b0 N0 xs 2009 [(0, .ref 700), (1, .ref 0), (2, .ref 200), (3, .int (nI i))] [] MC2 MS2) : Lw b0 N0 xs 737 [(0, .ref 700), (1, .ref 0), (2, .ref 200), (3, .int (nI i))] [] MC MS := by
  obtain ⟨r, C2, S2, e1, e2, hR⟩ := e_trade h ((xs ((nI i + 1)).toNatClampNeg)) ((xs ((nI i + 2)).toNatClampNeg))
  refine Lw_aload_n (q := 1) (i := 1) 1 (by decide +kernel) rfl rfl ?_
  refine Lw_aload_n (q := 0) (i := 0) 0 (by decide +kernel) rfl rfl ?_
  refine Lw_iload_n (q := 3) (i := 3) 3 (by decide +kernel) rfl rfl ?_
  refine Lw_iconst (i := 1) (v := 1) (by decide +kernel) (by decide) ?_
  refine Lw_iadd (by decide +kernel) ?_
  refine Lw_sld (by decide +kernel) (ixk 1 (by decide) (by decide) hi hN) ?_
  refine Lw_aload_n (q := 0) (i := 0) 0 (by decide +kernel) rfl rfl ?_
  refine Lw_iload_n (q := 3) (i := 3) 3 (by decide +kernel) rfl rfl ?_
  refine Lw_iconst (i := 2) (v := 2) (by decide +kernel) (by decide) ?_
  refine Lw_iadd (by decide +kernel) ?_
  refine Lw_sld (by decide +kernel) (ixk 2 (by decide) (by decide) hi hN) ?_
  refine Lw_callC (d' := 1) (idx := 80) (ν := m_X11_trade) (As := [.int ((xs ((nI i + 1)).toNatClampNeg)), .int ((xs ((nI i + 2)).toNatClampNeg))]) (by decide +kernel) (tg_4 175 (by decide +kernel) (by decide +kernel)) cv_X11_trade rfl rfl rfl (by decide) (Nat.le_of_ble_eq_true rfl) (t_X11_trade e1) (fun r1 M1 hr => ?_)
  obtain ⟨rfl, rfl⟩ := hr
  show Lw b0 N0 xs 751 _ [.int r] M1 MS
  refine Lw_aload_n (q := 2) (i := 2) 2 (by decide +kernel) rfl rfl ?_
  refine Lw_aload_n (q := 0) (i := 0) 0 (by decide +kernel) rfl rfl ?_
  refine Lw_iload_n (q := 3) (i := 3) 3 (by decide +kernel) rfl rfl ?_
  refine Lw_iconst (i := 1) (v := 1) (by decide +kernel) (by decide) ?_
  refine Lw_iadd (by decide +kernel) ?_
  refine Lw_sld (by decide +kernel) (ixk 1 (by decide) (by decide) hi hN) ?_
  refine Lw_aload_n (q := 0) (i := 0) 0 (by decide +kernel) rfl rfl ?_
  refine Lw_iload_n (q := 3) (i := 3) 3 (by decide +kernel) rfl rfl ?_
  refine Lw_iconst (i := 2) (v := 2) (by decide +kernel) (by decide) ?_
  refine Lw_iadd (by decide +kernel) ?_
  refine Lw_sld (by decide +kernel) (ixk 2 (by decide) (by decide) hi hN) ?_
  refine Lw_callM (d' := 1) (idx := 83) (ν := m_X12_trade) (As := [.int ((xs ((nI i + 1)).toNatClampNeg)), .int ((xs ((nI i + 2)).toNatClampNeg))]) (by decide +kernel) (tg_9 5 (by decide +kernel) (by decide +kernel)) cv_X12_trade rfl rfl rfl (by decide) (Nat.le_of_ble_eq_true rfl) (t_X12_trade e2) (fun r1 M2 hr => ?_)
  obtain ⟨rfl, rfl⟩ := hr
  show Lw b0 N0 xs 765 _ [.int r, .int r] M1 M2
  exact Lw_icmp_eq (off := 1244) 2009 (by decide +kernel) (by decide) (fun _ => k _ _ hR) (fun hc => absurd rfl hc)
set_option maxRecDepth 20000 in
theorem case_15 {i : Nat} (hi : i + 6 ≤ N0) (hN : N0 ≤ 3072) (h : Rel MC MS) (k : ∀ MC2 MS2, Rel MC2 MS2 → Lw b0 N0 xs 2009 [(0, .ref 700), (1, .ref 0), (2, .ref 200), (3, .int (nI i))] [] MC2 MS2) : Lw b0 N0 xs 770 [(0, .ref 700), (1, .ref 0), (2, .ref 200), (3, .int (nI i))] [] MC MS := by
  obtain ⟨r, C2, S2, e1, e2, hR⟩ := e_ship h ((xs ((nI i + 1)).toNatClampNeg)) ((xs ((nI i + 2)).toNatClampNeg))
  refine Lw_aload_n (q := 1) (i := 1) 1 (by decide +kernel) rfl rfl ?_
  refine Lw_aload_n (q := 0) (i := 0) 0 (by decide +kernel) rfl rfl ?_
  refine Lw_iload_n (q := 3) (i := 3) 3 (by decide +kernel) rfl rfl ?_
  refine Lw_iconst (i := 1) (v := 1) (by decide +kernel) (by decide) ?_
  refine Lw_iadd (by decide +kernel) ?_
  refine Lw_sld (by decide +kernel) (ixk 1 (by decide) (by decide) hi hN) ?_
  refine Lw_aload_n (q := 0) (i := 0) 0 (by decide +kernel) rfl rfl ?_
  refine Lw_iload_n (q := 3) (i := 3) 3 (by decide +kernel) rfl rfl ?_
  refine Lw_iconst (i := 2) (v := 2) (by decide +kernel) (by decide) ?_
  refine Lw_iadd (by decide +kernel) ?_
  refine Lw_sld (by decide +kernel) (ixk 2 (by decide) (by decide) hi hN) ?_
  refine Lw_callC (d' := 1) (idx := 84) (ν := m_X11_ship) (As := [.int ((xs ((nI i + 1)).toNatClampNeg)), .int ((xs ((nI i + 2)).toNatClampNeg))]) (by decide +kernel) (tg_4 179 (by decide +kernel) (by decide +kernel)) cv_X11_ship rfl rfl rfl (by decide) (Nat.le_of_ble_eq_true rfl) (t_X11_ship e1) (fun r1 M1 hr => ?_)
  obtain ⟨rfl, rfl⟩ := hr
  show Lw b0 N0 xs 784 _ [.int r] M1 MS
  refine Lw_aload_n (q := 2) (i := 2) 2 (by decide +kernel) rfl rfl ?_
  refine Lw_aload_n (q := 0) (i := 0) 0 (by decide +kernel) rfl rfl ?_
  refine Lw_iload_n (q := 3) (i := 3) 3 (by decide +kernel) rfl rfl ?_
  refine Lw_iconst (i := 1) (v := 1) (by decide +kernel) (by decide) ?_
  refine Lw_iadd (by decide +kernel) ?_
  refine Lw_sld (by decide +kernel) (ixk 1 (by decide) (by decide) hi hN) ?_
  refine Lw_aload_n (q := 0) (i := 0) 0 (by decide +kernel) rfl rfl ?_
  refine Lw_iload_n (q := 3) (i := 3) 3 (by decide +kernel) rfl rfl ?_
  refine Lw_iconst (i := 2) (v := 2) (by decide +kernel) (by decide) ?_
  refine Lw_iadd (by decide +kernel) ?_
  refine Lw_sld (by decide +kernel) (ixk 2 (by decide) (by decide) hi hN) ?_
  refine Lw_callM (d' := 2) (idx := 87) (ν := m_X12_ship) (As := [.int ((xs ((nI i + 1)).toNatClampNeg)), .int ((xs ((nI i + 2)).toNatClampNeg))]) (by decide +kernel) (tg_9 10 (by decide +kernel) (by decide +kernel)) cv_X12_ship rfl rfl rfl (by decide) (Nat.le_of_ble_eq_true rfl) (t_X12_ship e2) (fun r1 M2 hr => ?_)
  obtain ⟨rfl, rfl⟩ := hr
  show Lw b0 N0 xs 798 _ [.int r, .int r] M1 M2
  exact Lw_icmp_eq (off := 1211) 2009 (by decide +kernel) (by decide) (fun _ => k _ _ hR) (fun hc => absurd rfl hc)
set_option maxRecDepth 20000 in
theorem case_16 {i : Nat} (hi : i + 6 ≤ N0) (hN : N0 ≤ 3072) (h : Rel MC MS) (k : ∀ MC2 MS2, Rel MC2 MS2 → Lw b0 N0 xs 2009 [(0, .ref 700), (1, .ref 0), (2, .ref 200), (3, .int (nI i))] [] MC2 MS2) : Lw b0 N0 xs 803 [(0, .ref 700), (1, .ref 0), (2, .ref 200), (3, .int (nI i))] [] MC MS := by
  obtain ⟨r, C2, S2, e1, e2, hR⟩ := e_fog h ((xs ((nI i + 1)).toNatClampNeg)) ((xs ((nI i + 2)).toNatClampNeg)) ((xs ((nI i + 3)).toNatClampNeg))
  refine Lw_aload_n (q := 1) (i := 1) 1 (by decide +kernel) rfl rfl ?_
  refine Lw_aload_n (q := 0) (i := 0) 0 (by decide +kernel) rfl rfl ?_
  refine Lw_iload_n (q := 3) (i := 3) 3 (by decide +kernel) rfl rfl ?_
  refine Lw_iconst (i := 1) (v := 1) (by decide +kernel) (by decide) ?_
  refine Lw_iadd (by decide +kernel) ?_
  refine Lw_sld (by decide +kernel) (ixk 1 (by decide) (by decide) hi hN) ?_
  refine Lw_aload_n (q := 0) (i := 0) 0 (by decide +kernel) rfl rfl ?_
  refine Lw_iload_n (q := 3) (i := 3) 3 (by decide +kernel) rfl rfl ?_
  refine Lw_iconst (i := 2) (v := 2) (by decide +kernel) (by decide) ?_
  refine Lw_iadd (by decide +kernel) ?_
  refine Lw_sld (by decide +kernel) (ixk 2 (by decide) (by decide) hi hN) ?_
  refine Lw_aload_n (q := 0) (i := 0) 0 (by decide +kernel) rfl rfl ?_
  refine Lw_iload_n (q := 3) (i := 3) 3 (by decide +kernel) rfl rfl ?_
  refine Lw_iconst (i := 3) (v := 3) (by decide +kernel) (by decide) ?_
  refine Lw_iadd (by decide +kernel) ?_
  refine Lw_sld (by decide +kernel) (ixk 3 (by decide) (by decide) hi hN) ?_
  refine Lw_callC (d' := 1) (idx := 88) (ν := m_X11_fog) (As := [.int ((xs ((nI i + 1)).toNatClampNeg)), .int ((xs ((nI i + 2)).toNatClampNeg)), .int ((xs ((nI i + 3)).toNatClampNeg))]) (by decide +kernel) (tg_4 187 (by decide +kernel) (by decide +kernel)) cv_X11_fog rfl rfl rfl (by decide) (Nat.le_of_ble_eq_true rfl) (t_X11_fog e1) (fun r1 M1 hr => ?_)
  obtain ⟨rfl, rfl⟩ := hr
  show Lw b0 N0 xs 822 _ [.int r] M1 MS
  refine Lw_aload_n (q := 2) (i := 2) 2 (by decide +kernel) rfl rfl ?_
  refine Lw_aload_n (q := 0) (i := 0) 0 (by decide +kernel) rfl rfl ?_
  refine Lw_iload_n (q := 3) (i := 3) 3 (by decide +kernel) rfl rfl ?_
  refine Lw_iconst (i := 1) (v := 1) (by decide +kernel) (by decide) ?_
  refine Lw_iadd (by decide +kernel) ?_
  refine Lw_sld (by decide +kernel) (ixk 1 (by decide) (by decide) hi hN) ?_
  refine Lw_aload_n (q := 0) (i := 0) 0 (by decide +kernel) rfl rfl ?_
  refine Lw_iload_n (q := 3) (i := 3) 3 (by decide +kernel) rfl rfl ?_
  refine Lw_iconst (i := 2) (v := 2) (by decide +kernel) (by decide) ?_
  refine Lw_iadd (by decide +kernel) ?_
  refine Lw_sld (by decide +kernel) (ixk 2 (by decide) (by decide) hi hN) ?_
  refine Lw_aload_n (q := 0) (i := 0) 0 (by decide +kernel) rfl rfl ?_
  refine Lw_iload_n (q := 3) (i := 3) 3 (by decide +kernel) rfl rfl ?_
  refine Lw_iconst (i := 3) (v := 3) (by decide +kernel) (by decide) ?_
  refine Lw_iadd (by decide +kernel) ?_
  refine Lw_sld (by decide +kernel) (ixk 3 (by decide) (by decide) hi hN) ?_
  refine Lw_callM (d' := 2) (idx := 92) (ν := m_X12_fog) (As := [.int ((xs ((nI i + 1)).toNatClampNeg)), .int ((xs ((nI i + 2)).toNatClampNeg)), .int ((xs ((nI i + 3)).toNatClampNeg))]) (by decide +kernel) (tg_9 18 (by decide +kernel) (by decide +kernel)) cv_X12_fog rfl rfl rfl (by decide) (Nat.le_of_ble_eq_true rfl) (t_X12_fog e2) (fun r1 M2 hr => ?_)
  obtain ⟨rfl, rfl⟩ := hr
  show Lw b0 N0 xs 841 _ [.int r, .int r] M1 M2
  exact Lw_icmp_eq (off := 1168) 2009 (by decide +kernel) (by decide) (fun _ => k _ _ hR) (fun hc => absurd rfl hc)
set_option maxRecDepth 20000 in
theorem case_17 {i : Nat} (hi : i + 6 ≤ N0) (hN : N0 ≤ 3072) (h : Rel MC MS) (k : ∀ MC2 MS2, Rel MC2 MS2 → Lw b0 N0 xs 2009 [(0, .ref 700), (1, .ref 0), (2, .ref 200), (3, .int (nI i))] [] MC2 MS2) : Lw b0 N0 xs 846 [(0, .ref 700), (1, .ref 0), (2, .ref 200), (3, .int (nI i))] [] MC MS := by
  obtain ⟨r, C2, S2, e1, e2, hR⟩ := e_foggy h ((xs ((nI i + 1)).toNatClampNeg)) ((xs ((nI i + 2)).toNatClampNeg))
  refine Lw_aload_n (q := 1) (i := 1) 1 (by decide +kernel) rfl rfl ?_
  refine Lw_aload_n (q := 0) (i := 0) 0 (by decide +kernel) rfl rfl ?_
  refine Lw_iload_n (q := 3) (i := 3) 3 (by decide +kernel) rfl rfl ?_
  refine Lw_iconst (i := 1) (v := 1) (by decide +kernel) (by decide) ?_
  refine Lw_iadd (by decide +kernel) ?_
  refine Lw_sld (by decide +kernel) (ixk 1 (by decide) (by decide) hi hN) ?_
  refine Lw_aload_n (q := 0) (i := 0) 0 (by decide +kernel) rfl rfl ?_
  refine Lw_iload_n (q := 3) (i := 3) 3 (by decide +kernel) rfl rfl ?_
  refine Lw_iconst (i := 2) (v := 2) (by decide +kernel) (by decide) ?_
  refine Lw_iadd (by decide +kernel) ?_
  refine Lw_sld (by decide +kernel) (ixk 2 (by decide) (by decide) hi hN) ?_
  refine Lw_callC (d' := 2) (idx := 93) (ν := m_X11_foggy) (As := [.int ((xs ((nI i + 1)).toNatClampNeg)), .int ((xs ((nI i + 2)).toNatClampNeg))]) (by decide +kernel) (tg_4 196 (by decide +kernel) (by decide +kernel)) cv_X11_foggy rfl rfl rfl (by decide) (Nat.le_of_ble_eq_true rfl) (t_X11_foggy e1) (fun r1 M1 hr => ?_)
  obtain ⟨rfl, rfl⟩ := hr
  show Lw b0 N0 xs 860 _ [.int r] M1 MS
  refine Lw_aload_n (q := 2) (i := 2) 2 (by decide +kernel) rfl rfl ?_
  refine Lw_aload_n (q := 0) (i := 0) 0 (by decide +kernel) rfl rfl ?_
  refine Lw_iload_n (q := 3) (i := 3) 3 (by decide +kernel) rfl rfl ?_
  refine Lw_iconst (i := 1) (v := 1) (by decide +kernel) (by decide) ?_
  refine Lw_iadd (by decide +kernel) ?_
  refine Lw_sld (by decide +kernel) (ixk 1 (by decide) (by decide) hi hN) ?_
  refine Lw_aload_n (q := 0) (i := 0) 0 (by decide +kernel) rfl rfl ?_
  refine Lw_iload_n (q := 3) (i := 3) 3 (by decide +kernel) rfl rfl ?_
  refine Lw_iconst (i := 2) (v := 2) (by decide +kernel) (by decide) ?_
  refine Lw_iadd (by decide +kernel) ?_
  refine Lw_sld (by decide +kernel) (ixk 2 (by decide) (by decide) hi hN) ?_
  refine Lw_callM (d' := 2) (idx := 96) (ν := m_X12_foggy) (As := [.int ((xs ((nI i + 1)).toNatClampNeg)), .int ((xs ((nI i + 2)).toNatClampNeg))]) (by decide +kernel) (tg_9 30 (by decide +kernel) (by decide +kernel)) cv_X12_foggy rfl rfl rfl (by decide) (Nat.le_of_ble_eq_true rfl) (t_X12_foggy e2) (fun r1 M2 hr => ?_)
  obtain ⟨rfl, rfl⟩ := hr
  show Lw b0 N0 xs 874 _ [.int r, .int r] M1 M2
  exact Lw_icmp_eq (off := 1135) 2009 (by decide +kernel) (by decide) (fun _ => k _ _ hR) (fun hc => absurd rfl hc)
set_option maxRecDepth 20000 in
theorem case_18 {i : Nat} (hi : i + 6 ≤ N0) (hN : N0 ≤ 3072) (h : Rel MC MS) (k : ∀ MC2 MS2, Rel MC2 MS2 → Lw b0 N0 xs 2009 [(0, .ref 700), (1, .ref 0), (2, .ref 200), (3, .int (nI i))] [] MC2 MS2) : Lw b0 N0 xs 879 [(0, .ref 700), (1, .ref 0), (2, .ref 200), (3, .int (nI i))] [] MC MS := by
  obtain ⟨r, C2, S2, e1, e2, hR⟩ := e_copyFog (N := 50000) (by decide) h ((xs ((nI i + 1)).toNatClampNeg))
  refine Lw_aload_n (q := 1) (i := 1) 1 (by decide +kernel) rfl rfl ?_
  refine Lw_aload_n (q := 0) (i := 0) 0 (by decide +kernel) rfl rfl ?_
  refine Lw_iload_n (q := 3) (i := 3) 3 (by decide +kernel) rfl rfl ?_
  refine Lw_iconst (i := 1) (v := 1) (by decide +kernel) (by decide) ?_
  refine Lw_iadd (by decide +kernel) ?_
  refine Lw_sld (by decide +kernel) (ixk 1 (by decide) (by decide) hi hN) ?_
  refine Lw_callC (d' := 3) (idx := 97) (ν := m_X11_copyFog) (As := [.int ((xs ((nI i + 1)).toNatClampNeg))]) (by decide +kernel) (tg_4 207 (by decide +kernel) (by decide +kernel)) cv_X11_copyFog rfl rfl rfl (by decide) (Nat.le_of_ble_eq_true rfl) (t_X11_copyFog (N := 50000) e1) (fun r1 M1 hr => ?_)
  obtain ⟨rfl, rfl⟩ := hr
  show Lw b0 N0 xs 888 _ [.int r] M1 MS
  refine Lw_aload_n (q := 2) (i := 2) 2 (by decide +kernel) rfl rfl ?_
  refine Lw_aload_n (q := 0) (i := 0) 0 (by decide +kernel) rfl rfl ?_
  refine Lw_iload_n (q := 3) (i := 3) 3 (by decide +kernel) rfl rfl ?_
  refine Lw_iconst (i := 1) (v := 1) (by decide +kernel) (by decide) ?_
  refine Lw_iadd (by decide +kernel) ?_
  refine Lw_sld (by decide +kernel) (ixk 1 (by decide) (by decide) hi hN) ?_
  refine Lw_callM (d' := 2) (idx := 100) (ν := m_X12_copyFog) (As := [.int ((xs ((nI i + 1)).toNatClampNeg))]) (by decide +kernel) (tg_9 34 (by decide +kernel) (by decide +kernel)) cv_X12_copyFog rfl rfl rfl (by decide) (Nat.le_of_ble_eq_true rfl) (t_X12_copyFog (N := 50000) e2) (fun r1 M2 hr => ?_)
  obtain ⟨rfl, rfl⟩ := hr
  show Lw b0 N0 xs 897 _ [.int r, .int r] M1 M2
  exact Lw_icmp_eq (off := 1112) 2009 (by decide +kernel) (by decide) (fun _ => k _ _ hR) (fun hc => absurd rfl hc)
set_option maxRecDepth 20000 in
theorem case_19 {i : Nat} (hi : i + 6 ≤ N0) (hN : N0 ≤ 3072) (h : Rel MC MS) (k : ∀ MC2 MS2, Rel MC2 MS2 → Lw b0 N0 xs 2009 [(0, .ref 700), (1, .ref 0), (2, .ref 200), (3, .int (nI i))] [] MC2 MS2) : Lw b0 N0 xs 902 [(0, .ref 700), (1, .ref 0), (2, .ref 200), (3, .int (nI i))] [] MC MS := by
  obtain ⟨r, C2, S2, e1, e2, hR⟩ := e_hour (N := 50000) (by decide) h ((xs ((nI i + 1)).toNatClampNeg))
  refine Lw_aload_n (q := 1) (i := 1) 1 (by decide +kernel) rfl rfl ?_
  refine Lw_aload_n (q := 0) (i := 0) 0 (by decide +kernel) rfl rfl ?_
  refine Lw_iload_n (q := 3) (i := 3) 3 (by decide +kernel) rfl rfl ?_
  refine Lw_iconst (i := 1) (v := 1) (by decide +kernel) (by decide) ?_
  refine Lw_iadd (by decide +kernel) ?_
  refine Lw_sld (by decide +kernel) (ixk 1 (by decide) (by decide) hi hN) ?_
  refine Lw_callC (d' := 4) (idx := 101) (ν := m_X11_hour) (As := [.int ((xs ((nI i + 1)).toNatClampNeg))]) (by decide +kernel) (tg_4 217 (by decide +kernel) (by decide +kernel)) cv_X11_hour rfl rfl rfl (by decide) (Nat.le_of_ble_eq_true rfl) (t_X11_hour (N := 50000) e1) (fun r1 M1 hr => ?_)
  obtain ⟨rfl, rfl⟩ := hr
  show Lw b0 N0 xs 911 _ [.int r] M1 MS
  refine Lw_aload_n (q := 2) (i := 2) 2 (by decide +kernel) rfl rfl ?_
  refine Lw_aload_n (q := 0) (i := 0) 0 (by decide +kernel) rfl rfl ?_
  refine Lw_iload_n (q := 3) (i := 3) 3 (by decide +kernel) rfl rfl ?_
  refine Lw_iconst (i := 1) (v := 1) (by decide +kernel) (by decide) ?_
  refine Lw_iadd (by decide +kernel) ?_
  refine Lw_sld (by decide +kernel) (ixk 1 (by decide) (by decide) hi hN) ?_
  refine Lw_callM (d' := 5) (idx := 104) (ν := m_X12_hour) (As := [.int ((xs ((nI i + 1)).toNatClampNeg))]) (by decide +kernel) (tg_9 43 (by decide +kernel) (by decide +kernel)) cv_X12_hour rfl rfl rfl (by decide) (Nat.le_of_ble_eq_true rfl) (t_X12_hour (N := 50000) e2) (fun r1 M2 hr => ?_)
  obtain ⟨rfl, rfl⟩ := hr
  show Lw b0 N0 xs 920 _ [.int r, .int r] M1 M2
  exact Lw_icmp_eq (off := 1089) 2009 (by decide +kernel) (by decide) (fun _ => k _ _ hR) (fun hc => absurd rfl hc)
set_option maxRecDepth 20000 in
theorem case_20 {i : Nat} (hi : i + 6 ≤ N0) (hN : N0 ≤ 3072) (h : Rel MC MS) (k : ∀ MC2 MS2, Rel MC2 MS2 → Lw b0 N0 xs 2009 [(0, .ref 700), (1, .ref 0), (2, .ref 200), (3, .int (nI i))] [] MC2 MS2) : Lw b0 N0 xs 925 [(0, .ref 700), (1, .ref 0), (2, .ref 200), (3, .int (nI i))] [] MC MS := by
  obtain ⟨r, C2, S2, e1, e2, hR⟩ := e_open h ((xs ((nI i + 1)).toNatClampNeg)) ((decide (¬ (xs ((nI i + 2)).toNatClampNeg) = 0)))
  refine Lw_aload_n (q := 1) (i := 1) 1 (by decide +kernel) rfl rfl ?_
  refine Lw_aload_n (q := 0) (i := 0) 0 (by decide +kernel) rfl rfl ?_
  refine Lw_iload_n (q := 3) (i := 3) 3 (by decide +kernel) rfl rfl ?_
  refine Lw_iconst (i := 1) (v := 1) (by decide +kernel) (by decide) ?_
  refine Lw_iadd (by decide +kernel) ?_
  refine Lw_sld (by decide +kernel) (ixk 1 (by decide) (by decide) hi hN) ?_
  refine Lw_aload_n (q := 0) (i := 0) 0 (by decide +kernel) rfl rfl ?_
  refine Lw_iload_n (q := 3) (i := 3) 3 (by decide +kernel) rfl rfl ?_
  refine Lw_iconst (i := 2) (v := 2) (by decide +kernel) (by decide) ?_
  refine Lw_iadd (by decide +kernel) ?_
  refine Lw_sld (by decide +kernel) (ixk 2 (by decide) (by decide) hi hN) ?_
  refine open_a ?_
  refine Lw_callC (d' := 1) (idx := 105) (ν := m_X11_open) (As := [.int ((xs ((nI i + 1)).toNatClampNeg)), .int (b2i (decide (¬ (xs ((nI i + 2)).toNatClampNeg) = 0)))]) (by decide +kernel) (tg_5 26 (by decide +kernel) (by decide +kernel)) cv_X11_open rfl rfl rfl (by decide) (Nat.le_of_ble_eq_true rfl) (t_X11_open e1) (fun r1 M1 hr => ?_)
  obtain ⟨rfl, rfl⟩ := hr
  show Lw b0 N0 xs 947 _ [.int (b2i r)] M1 MS
  refine Lw_aload_n (q := 2) (i := 2) 2 (by decide +kernel) rfl rfl ?_
  refine Lw_aload_n (q := 0) (i := 0) 0 (by decide +kernel) rfl rfl ?_
  refine Lw_iload_n (q := 3) (i := 3) 3 (by decide +kernel) rfl rfl ?_
  refine Lw_iconst (i := 1) (v := 1) (by decide +kernel) (by decide) ?_
  refine Lw_iadd (by decide +kernel) ?_
  refine Lw_sld (by decide +kernel) (ixk 1 (by decide) (by decide) hi hN) ?_
  refine Lw_aload_n (q := 0) (i := 0) 0 (by decide +kernel) rfl rfl ?_
  refine Lw_iload_n (q := 3) (i := 3) 3 (by decide +kernel) rfl rfl ?_
  refine Lw_iconst (i := 2) (v := 2) (by decide +kernel) (by decide) ?_
  refine Lw_iadd (by decide +kernel) ?_
  refine Lw_sld (by decide +kernel) (ixk 2 (by decide) (by decide) hi hN) ?_
  refine open_b ?_
  refine Lw_callM (d' := 2) (idx := 109) (ν := m_X12_open) (As := [.int ((xs ((nI i + 1)).toNatClampNeg)), .int (b2i (decide (¬ (xs ((nI i + 2)).toNatClampNeg) = 0)))]) (by decide +kernel) (tg_9 71 (by decide +kernel) (by decide +kernel)) cv_X12_open rfl rfl rfl (by decide) (Nat.le_of_ble_eq_true rfl) (t_X12_open e2) (fun r1 M2 hr => ?_)
  obtain ⟨rfl, rfl⟩ := hr
  show Lw b0 N0 xs 969 _ [.int (b2i r), .int (b2i r)] M1 M2
  exact Lw_icmp_eq (off := 1040) 2009 (by decide +kernel) (by decide) (fun _ => k _ _ hR) (fun hc => absurd rfl hc)
end LW
