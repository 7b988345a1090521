set_option maxRecDepth 20000 in
theorem t_X12_fraction_h9 {N : Nat} {q : Bool × Mem} {k9 : Int64 × Int64 × Int64 × Int64 → Mem → Option (Bool × Mem)} (hk9 : ∀ (a : Int64 × Int64 × Int64 × Int64) (M : Mem), k9 a M = some q → Fr 200 21 1 m_X12_fraction 9 [(0, .ref 200), (1, .long a.1), (3, .long a.2.1), (5, .long a.2.2.1), (7, .long a.2.2.2)] [] M (QB q)) {v1 : Int64} {v3 : Int64} {v5 : Int64} {v7 : Int64} {M : Mem} (h : f_X12_fraction_h9 N k9 v1 v3 v5 v7 M = some q) : Fr 200 21 1 m_X12_fraction 9 [(0, .ref 200), (1, .long v1), (3, .long v3), (5, .long v5), (7, .long v7)] [] M (QB q) := by
  unfold f_X12_fraction_h9 at h
  refine Fr_lload (i := 7) 4 (by decide +kernel) rfl ?_
  refine Fr_lconst (i := 0) (v := 0) (by decide +kernel) (by decide) ?_
  refine Fr_lcmp (by decide +kernel) ?_
  refine Fr_if_eq (off := 21) 34 (by decide +kernel) (by decide) (fun hc => ?_) (fun hc => ?_)
  · have h := iT hc h
    refine Fr_aload_n (q := 0) (i := 0) 0 (by decide +kernel) rfl rfl ?_
    refine Fr_lload_n (q := 1) (i := 1) 1 (by decide +kernel) rfl rfl ?_
    refine Fr_lload (i := 5) 3 (by decide +kernel) rfl ?_
    obtain ⟨hz_1, h⟩ := czL_elim h
    refine Fr_ldiv (by decide +kernel) hz_1 ?_
    refine pf_X12_90 rfl (by decide +kernel) ob_200 ?_
    obtain ⟨M_2, eM_2, h⟩ := bM_elim h
    refine Fr_mem eM_2 ?_
    refine Fr_aload_n (q := 0) (i := 0) 0 (by decide +kernel) rfl rfl ?_
    refine Fr_lload_n (q := 3) (i := 3) 2 (by decide +kernel) rfl rfl ?_
    refine Fr_lload (i := 5) 3 (by decide +kernel) rfl ?_
    obtain ⟨hz_3, h⟩ := czL_elim h
    refine Fr_ldiv (by decide +kernel) hz_3 ?_
    refine pf_X12_7 rfl (by decide +kernel) ob_200 ?_
    obtain ⟨M_4, eM_4, h⟩ := bM_elim h
    refine Fr_mem eM_4 ?_
    refine Fr_iconst (i := 1) (v := 1) (by decide +kernel) (by decide) ?_
    obtain rfl := Option.some.inj h
    exact Fr_zret (by decide +kernel) rfl (by decide) ⟨rfl, rfl⟩
  · have h := iF hc h
    refine Fr_lload (i := 5) 3 (by decide +kernel) rfl ?_
    refine Fr_lload (i := 7) 4 (by decide +kernel) rfl ?_
    obtain ⟨hz_5, h⟩ := czL_elim h
    refine Fr_lrem (by decide +kernel) hz_5 ?_
    refine Fr_lstore (i := 9) (lv' := [(9, .long (v5 - v5 / v7 * v7)), (0, .ref 200), (1, .long v1), (3, .long v3), (5, .long v5), (7, .long v7)]) (by decide +kernel) (by decide) rfl ?_
    refine Fr_lload (i := 7) 5 (by decide +kernel) rfl ?_
    refine Fr_lstore (i := 5) (lv' := [(5, .long v7), (9, .long (v5 - v5 / v7 * v7)), (0, .ref 200), (1, .long v1), (3, .long v3), (7, .long v7)]) (by decide +kernel) (by decide) rfl ?_
    refine Fr_lload (i := 9) 1 (by decide +kernel) rfl ?_
    refine Fr_lstore (i := 7) (lv' := [(7, .long (v5 - v5 / v7 * v7)), (5, .long v7), (9, .long (v5 - v5 / v7 * v7)), (0, .ref 200), (1, .long v1), (3, .long v3)]) (by decide +kernel) (by decide) rfl ?_
    refine Fr_goto (off := (-22)) 9 (by decide +kernel) (by decide) ?_
    refine Fr_loc [3, 4, 5, 1, 0] rfl ?_
    exact hk9 (v1, v3, v7, (v5 - v5 / v7 * v7)) M h
set_option maxRecDepth 20000 in
theorem t_X12_fraction {N : Nat} {x1 : Int64} {x3 : Int64} {M : Mem} {q : Bool × Mem} (h : f_X12_fraction N x1 x3 M = some q) : Ev 200 21 1 m_X12_fraction [.ref 200, .long x1, .long x3] M (QB q) := by
  refine Ev_of_Fr (by decide +kernel) (Nat.le_of_ble_eq_true rfl) ?_
  show Fr 200 21 1 m_X12_fraction 0 [(0, .ref 200), (1, .long x1), (3, .long x3)] [] M (QB q)
  unfold f_X12_fraction at h
  refine Fr_lload_n (q := 1) (i := 1) 1 (by decide +kernel) rfl rfl ?_
  refine Fr_absL (by decide +kernel) ml_X12_93 (by decide) (Nat.le_of_ble_eq_true rfl) ?_
  refine Fr_lstore (i := 5) (lv' := [(5, .long (labs x1)), (0, .ref 200), (1, .long x1), (3, .long x3)]) (by decide +kernel) (by decide) rfl ?_
  refine Fr_lload_n (q := 3) (i := 3) 3 (by decide +kernel) rfl rfl ?_
  refine Fr_lstore (i := 7) (lv' := [(7, .long x3), (5, .long (labs x1)), (0, .ref 200), (1, .long x1), (3, .long x3)]) (by decide +kernel) (by decide) rfl ?_
  refine Fr_loc [2, 3, 4, 1, 0] rfl ?_
  exact lp_sound (body := fun k a m => f_X12_fraction_h9 N k a.1 a.2.1 a.2.2.1 a.2.2.2 m) (P := fun a M => Fr 200 21 1 m_X12_fraction 9 [(0, .ref 200), (1, .long a.1), (3, .long a.2.1), (5, .long a.2.2.1), (7, .long a.2.2.2)] [] M (QB q)) (fun k hk a m h => t_X12_fraction_h9 hk h) N (x1, x3, (labs x1), x3) M h
set_option maxRecDepth 20000 in
theorem t_X12_cut {x0 : Int32} {x1 : Int64} {M : Mem} {q : Int64 × Mem} (h : f_X12_cut x0 x1 M = some q) : Ev 200 21 0 m_X12_cut [.int x0, .long x1] M (QJ q) := by
  refine Ev_of_Fr (by decide +kernel) (Nat.le_of_ble_eq_true rfl) ?_
  show Fr 200 21 0 m_X12_cut 0 [(0, .int x0), (1, .long x1)] [] M (QJ q)
  unfold f_X12_cut at h
  refine Fr_iload_n (q := 0) (i := 0) 0 (by decide +kernel) rfl rfl ?_
  refine Fr_if_ne (off := 10) 11 (by decide +kernel) (by decide) (fun hc => ?_) (fun hc => ?_)
  · have h := iF hc h
    refine Fr_iload_n (q := 0) (i := 0) 0 (by decide +kernel) rfl rfl ?_
    refine Fr_iconst (i := 1) (v := 1) (by decide +kernel) (by decide) ?_
    refine Fr_icmp_ne (off := 10) 23 (by decide +kernel) (by decide) (fun hc => ?_) (fun hc => ?_)
    · have h := iF hc h
      refine Fr_iload_n (q := 0) (i := 0) 0 (by decide +kernel) rfl rfl ?_
      refine Fr_iconst (i := 2) (v := 2) (by decide +kernel) (by decide) ?_
      refine Fr_icmp_ne (off := 9) 34 (by decide +kernel) (by decide) (fun hc => ?_) (fun hc => ?_)
      · have h := iF hc h
        refine Fr_lload_n (q := 1) (i := 1) 1 (by decide +kernel) rfl rfl ?_
        obtain rfl := Option.some.inj h
        exact Fr_lret (by decide +kernel) rfl ⟨rfl, rfl⟩
      · have h := iT hc h
        refine Fr_lload_n (q := 1) (i := 1) 1 (by decide +kernel) rfl rfl ?_
        refine Fr_l2i (by decide +kernel) ?_
        refine Fr_i2l (by decide +kernel) ?_
        refine Fr_goto (off := 4) 35 (by decide +kernel) (by decide) ?_
        obtain rfl := Option.some.inj h
        exact Fr_lret (by decide +kernel) rfl ⟨rfl, rfl⟩
    · have h := iT hc h
      refine Fr_lload_n (q := 1) (i := 1) 1 (by decide +kernel) rfl rfl ?_
      refine Fr_l2i (by decide +kernel) ?_
      refine Fr_i2s (by decide +kernel) ?_
      refine Fr_i2l (by decide +kernel) ?_
      refine Fr_goto (off := 15) 35 (by decide +kernel) (by decide) ?_
      obtain rfl := Option.some.inj h
      exact Fr_lret (by decide +kernel) rfl ⟨rfl, rfl⟩
  · have h := iT hc h
    refine Fr_lload_n (q := 1) (i := 1) 1 (by decide +kernel) rfl rfl ?_
    refine Fr_l2i (by decide +kernel) ?_
    refine Fr_i2b (by decide +kernel) ?_
    refine Fr_i2l (by decide +kernel) ?_
    refine Fr_goto (off := 27) 35 (by decide +kernel) (by decide) ?_
    obtain rfl := Option.some.inj h
    exact Fr_lret (by decide +kernel) rfl ⟨rfl, rfl⟩
set_option maxRecDepth 20000 in
theorem t_X12_tray_h74 {N : Nat} {q : Bool × Mem} {k74 : Int32 × Int32 × Int32 → Mem → Option (Bool × Mem)} (hk74 : ∀ (a : Int32 × Int32 × Int32) (M : Mem), k74 a M = some q → Fr 200 21 1 m_X12_tray 74 [(0, .ref 200), (1, .int a.1), (3, .int a.2.1), (4, .int a.2.2)] [] M (QB q)) {v1 : Int32} {v3 : Int32} {v4 : Int32} {M : Mem} (h : f_X12_tray_h74 N k74 v1 v3 v4 M = some q) : Fr 200 21 1 m_X12_tray 74 [(0, .ref 200), (1, .int v1), (3, .int v3), (4, .int v4)] [] M (QB q) := by
  unfold f_X12_tray_h74 at h
  refine Fr_iload (i := 4) 3 (by decide +kernel) rfl ?_
  refine Fr_iload_n (q := 3) (i := 3) 2 (by decide +kernel) rfl rfl ?_
  refine Fr_icmp_ge (off := 22) 99 (by decide +kernel) (by decide) (fun hc => ?_) (fun hc => ?_)
  · have h := iT hc h
    refine Fr_iconst (i := 1) (v := 1) (by decide +kernel) (by decide) ?_
    obtain rfl := Option.some.inj h
    exact Fr_zret (by decide +kernel) rfl (by decide) ⟨rfl, rfl⟩
  · have h := iF hc h
    refine Fr_aload_n (q := 0) (i := 0) 0 (by decide +kernel) rfl rfl ?_
    refine gf_X12_20 rfl (by decide +kernel) ob_200 ?_
    refine Fr_bipush (i := 60) (v := 60) (by decide +kernel) (by decide) ?_
    refine Fr_iload_n (q := 1) (i := 1) 1 (by decide +kernel) rfl rfl ?_
    refine Fr_imul (by decide +kernel) ?_
    refine Fr_iload (i := 4) 3 (by decide +kernel) rfl ?_
    refine Fr_iadd (by decide +kernel) ?_
    refine Fr_lconst (i := 0) (v := 0) (by decide +kernel) (by decide) ?_
    obtain ⟨hi_16, h⟩ := ck_elim h
    refine Fr_last (by decide +kernel) ob_203 (vp_of ln_203 hi_16) ?_
    obtain ⟨M_17, eM_17, h⟩ := bM_elim h
    refine Fr_mem eM_17 ?_
    refine Fr_iinc (i := 4) (j := 1) (v := (v4 + 1)) (lv' := [(4, .int (v4 + 1)), (0, .ref 200), (1, .int v1), (3, .int v3)]) 3 (by decide +kernel) rfl rfl (by decide) rfl ?_
    refine Fr_goto (off := (-22)) 74 (by decide +kernel) (by decide) ?_
    refine Fr_loc [1, 2, 3, 0] rfl ?_
    exact hk74 (v1, v3, (v4 + 1)) M_17 h
set_option maxRecDepth 20000 in
theorem t_X12_tray {N : Nat} {x1 : Int32} {x2 : Int32} {x3 : Int32} {M : Mem} {q : Bool × Mem} (h : f_X12_tray N x1 x2 x3 M = some q) : Ev 200 21 1 m_X12_tray [.ref 200, .int x1, .int x2, .int x3] M (QB q) := by
  refine Ev_of_Fr (by decide +kernel) (Nat.le_of_ble_eq_true rfl) ?_
  show Fr 200 21 1 m_X12_tray 0 [(0, .ref 200), (1, .int x1), (2, .int x2), (3, .int x3)] [] M (QB q)
  unfold f_X12_tray at h
  refine Fr_aload_n (q := 0) (i := 0) 0 (by decide +kernel) rfl rfl ?_
  refine Fr_iconst (i := 0) (v := 0) (by decide +kernel) (by decide) ?_
  refine pf_X12_84 rfl (by decide +kernel) ob_200 ?_
  obtain ⟨M_1, eM_1, h⟩ := bM_elim h
  refine Fr_mem eM_1 ?_
  refine Fr_aload_n (q := 0) (i := 0) 0 (by decide +kernel) rfl rfl ?_
  refine Fr_iconst (i := 0) (v := 0) (by decide +kernel) (by decide) ?_
  refine pf_X12_87 rfl (by decide +kernel) ob_200 ?_
  obtain ⟨M_2, eM_2, h⟩ := bM_elim h
  refine Fr_mem eM_2 ?_
  refine Fr_iload_n (q := 1) (i := 1) 1 (by decide +kernel) rfl rfl ?_
  refine Fr_if_lt (off := 17) 28 (by decide +kernel) (by decide) (fun hc => ?_) (fun hc => ?_)
  · have h := iT hc h
    refine Fr_aload_n (q := 0) (i := 0) 0 (by decide +kernel) rfl rfl ?_
    refine Fr_iconst (i := 1) (v := 1) (by decide +kernel) (by decide) ?_
    obtain ⟨r_5, M_3, hc_4, h⟩ := bi_elim h
    refine Fr_cVb (ν := m_X12_no) (As := [.int 1]) (st := []) (rc := 200) (ci := 12) (d' := 0) (by decide +kernel) ml_X12_99 cv_X12_no rfl (by decide) rfl ob_200 rfl (by decide) (Nat.le_of_ble_eq_true rfl) (t_X12_no hc_4) ?_
    obtain rfl := Option.some.inj h
    exact Fr_zret (by decide +kernel) rfl (nz_b r_5) ⟨rfl, rfl⟩
  · have h := iF hc h
    refine Fr_iload_n (q := 1) (i := 1) 1 (by decide +kernel) rfl rfl ?_
    refine Fr_iconst (i := 4) (v := 4) (by decide +kernel) (by decide) ?_
    refine Fr_icmp_ge (off := 12) 28 (by decide +kernel) (by decide) (fun hc => ?_) (fun hc => ?_)
    · have h := iT hc h
      refine Fr_aload_n (q := 0) (i := 0) 0 (by decide +kernel) rfl rfl ?_
      refine Fr_iconst (i := 1) (v := 1) (by decide +kernel) (by decide) ?_
      obtain ⟨r_8, M_6, hc_7, h⟩ := bi_elim h
      refine Fr_cVb (ν := m_X12_no) (As := [.int 1]) (st := []) (rc := 200) (ci := 12) (d' := 0) (by decide +kernel) ml_X12_99 cv_X12_no rfl (by decide) rfl ob_200 rfl (by decide) (Nat.le_of_ble_eq_true rfl) (t_X12_no hc_7) ?_
      obtain rfl := Option.some.inj h
      exact Fr_zret (by decide +kernel) rfl (nz_b r_8) ⟨rfl, rfl⟩
    · have h := iF hc h
      refine Fr_iload_n (q := 2) (i := 2) 2 (by decide +kernel) rfl rfl ?_
      refine Fr_if_lt (off := 8) 28 (by decide +kernel) (by decide) (fun hc => ?_) (fun hc => ?_)
      · have h := iT hc h
        refine Fr_aload_n (q := 0) (i := 0) 0 (by decide +kernel) rfl rfl ?_
        refine Fr_iconst (i := 1) (v := 1) (by decide +kernel) (by decide) ?_
        obtain ⟨r_11, M_9, hc_10, h⟩ := bi_elim h
        refine Fr_cVb (ν := m_X12_no) (As := [.int 1]) (st := []) (rc := 200) (ci := 12) (d' := 0) (by decide +kernel) ml_X12_99 cv_X12_no rfl (by decide) rfl ob_200 rfl (by decide) (Nat.le_of_ble_eq_true rfl) (t_X12_no hc_10) ?_
        obtain rfl := Option.some.inj h
        exact Fr_zret (by decide +kernel) rfl (nz_b r_11) ⟨rfl, rfl⟩
      · have h := iF hc h
        refine Fr_iload_n (q := 2) (i := 2) 2 (by decide +kernel) rfl rfl ?_
        refine Fr_iconst (i := 3) (v := 3) (by decide +kernel) (by decide) ?_
        refine Fr_icmp_le (off := 9) 34 (by decide +kernel) (by decide) (fun hc => ?_) (fun hc => ?_)
        · have h := iT hc h
          refine Fr_iload_n (q := 3) (i := 3) 3 (by decide +kernel) rfl rfl ?_
          refine Fr_bipush (i := 60) (v := 60) (by decide +kernel) (by decide) ?_
          refine Fr_icmp_le (off := 9) 46 (by decide +kernel) (by decide) (fun hc => ?_) (fun hc => ?_)
          · have h := iT hc h
            refine Fr_iload_n (q := 3) (i := 3) 3 (by decide +kernel) rfl rfl ?_
            refine Fr_if_ge (off := 10) 57 (by decide +kernel) (by decide) (fun hc => ?_) (fun hc => ?_)
            · have h := iT hc h
              refine Fr_aload_n (q := 0) (i := 0) 0 (by decide +kernel) rfl rfl ?_
              refine gf_X12_13 rfl (by decide +kernel) ob_200 ?_
              refine Fr_iload_n (q := 1) (i := 1) 1 (by decide +kernel) rfl rfl ?_
              refine Fr_iload_n (q := 2) (i := 2) 2 (by decide +kernel) rfl rfl ?_
              obtain ⟨hi_12, h⟩ := ck_elim h
              refine Fr_iast (by decide +kernel) ob_201 (vp_of ln_201 hi_12) ?_
              obtain ⟨M_13, eM_13, h⟩ := bM_elim h
              refine Fr_mem eM_13 ?_
              refine Fr_aload_n (q := 0) (i := 0) 0 (by decide +kernel) rfl rfl ?_
              refine gf_X12_17 rfl (by decide +kernel) ob_200 ?_
              refine Fr_iload_n (q := 1) (i := 1) 1 (by decide +kernel) rfl rfl ?_
              refine Fr_iload_n (q := 3) (i := 3) 3 (by decide +kernel) rfl rfl ?_
              obtain ⟨hi_14, h⟩ := ck_elim h
              refine Fr_iast (by decide +kernel) ob_202 (vp_of ln_202 hi_14) ?_
              obtain ⟨M_15, eM_15, h⟩ := bM_elim h
              refine Fr_mem eM_15 ?_
              refine Fr_iconst (i := 0) (v := 0) (by decide +kernel) (by decide) ?_
              refine Fr_istore (i := 4) (lv' := [(4, .int 0), (0, .ref 200), (1, .int x1), (2, .int x2), (3, .int x3)]) (by decide +kernel) (by decide) rfl ?_
              refine Fr_loc [1, 2, 4, 0] rfl ?_
              exact lp_sound (body := fun k a m => f_X12_tray_h74 N k a.1 a.2.1 a.2.2 m) (P := fun a M => Fr 200 21 1 m_X12_tray 74 [(0, .ref 200), (1, .int a.1), (3, .int a.2.1), (4, .int a.2.2)] [] M (QB q)) (fun k hk a m h => t_X12_tray_h74 hk h) N (x1, x3, 0) M_15 h
            · have h := iF hc h
              refine Fr_aload_n (q := 0) (i := 0) 0 (by decide +kernel) rfl rfl ?_
              refine Fr_bipush (i := 6) (v := 6) (by decide +kernel) (by decide) ?_
              obtain ⟨r_20, M_18, hc_19, h⟩ := bi_elim h
              refine Fr_cVb (ν := m_X12_no) (As := [.int 6]) (st := []) (rc := 200) (ci := 12) (d' := 0) (by decide +kernel) ml_X12_99 cv_X12_no rfl (by decide) rfl ob_200 rfl (by decide) (Nat.le_of_ble_eq_true rfl) (t_X12_no hc_19) ?_
              obtain rfl := Option.some.inj h
              exact Fr_zret (by decide +kernel) rfl (nz_b r_20) ⟨rfl, rfl⟩
          · have h := iF hc h
            refine Fr_aload_n (q := 0) (i := 0) 0 (by decide +kernel) rfl rfl ?_
            refine Fr_iconst (i := 5) (v := 5) (by decide +kernel) (by decide) ?_
            obtain ⟨r_23, M_21, hc_22, h⟩ := bi_elim h
            refine Fr_cVb (ν := m_X12_no) (As := [.int 5]) (st := []) (rc := 200) (ci := 12) (d' := 0) (by decide +kernel) ml_X12_99 cv_X12_no rfl (by decide) rfl ob_200 rfl (by decide) (Nat.le_of_ble_eq_true rfl) (t_X12_no hc_22) ?_
            obtain rfl := Option.some.inj h
            exact Fr_zret (by decide +kernel) rfl (nz_b r_23) ⟨rfl, rfl⟩
        · have h := iF hc h
          refine Fr_aload_n (q := 0) (i := 0) 0 (by decide +kernel) rfl rfl ?_
          refine Fr_iconst (i := 1) (v := 1) (by decide +kernel) (by decide) ?_
          obtain ⟨r_26, M_24, hc_25, h⟩ := bi_elim h
          refine Fr_cVb (ν := m_X12_no) (As := [.int 1]) (st := []) (rc := 200) (ci := 12) (d' := 0) (by decide +kernel) ml_X12_99 cv_X12_no rfl (by decide) rfl ob_200 rfl (by decide) (Nat.le_of_ble_eq_true rfl) (t_X12_no hc_25) ?_
          obtain rfl := Option.some.inj h
          exact Fr_zret (by decide +kernel) rfl (nz_b r_26) ⟨rfl, rfl⟩
set_option maxRecDepth 20000 in
theorem t_X12_trayed {x1 : Int32} {M : Mem} {q : Int32 × Mem} (h : f_X12_trayed x1 M = some q) : Ev 200 21 0 m_X12_trayed [.ref 200, .int x1] M (QI q) := by
  refine Ev_of_Fr (by decide +kernel) (Nat.le_of_ble_eq_true rfl) ?_
  show Fr 200 21 0 m_X12_trayed 0 [(0, .ref 200), (1, .int x1)] [] M (QI q)
  unfold f_X12_trayed at h
  refine Fr_iload_n (q := 1) (i := 1) 1 (by decide +kernel) rfl rfl ?_
  refine Fr_if_lt (off := 8) 9 (by decide +kernel) (by decide) (fun hc => ?_) (fun hc => ?_)
  · have h := iT hc h
    refine Fr_iconst (i := 1) (v := 1) (by decide +kernel) (by decide) ?_
    refine Fr_goto (off := 17) 27 (by decide +kernel) (by decide) ?_
    obtain rfl := Option.some.inj h
    exact Fr_iret (by decide +kernel) rfl ⟨rfl, rfl⟩
  · have h := iF hc h
    refine Fr_iload_n (q := 1) (i := 1) 1 (by decide +kernel) rfl rfl ?_
    refine Fr_iconst (i := 4) (v := 4) (by decide +kernel) (by decide) ?_
    refine Fr_icmp_lt (off := 7) 13 (by decide +kernel) (by decide) (fun hc => ?_) (fun hc => ?_)
    · have h := iT hc h
      refine Fr_aload_n (q := 0) (i := 0) 0 (by decide +kernel) rfl rfl ?_
      refine gf_X12_17 rfl (by decide +kernel) ob_200 ?_
      refine Fr_iload_n (q := 1) (i := 1) 1 (by decide +kernel) rfl rfl ?_
      obtain ⟨hi_1, h⟩ := ck_elim h
      refine Fr_iald (by decide +kernel) ob_202 (vp_of ln_202 hi_1) ?_
      refine Fr_if_ge (off := 7) 26 (by decide +kernel) (by decide) (fun hc => ?_) (fun hc => ?_)
      · have h := iT hc h
        refine Fr_iconst (i := 0) (v := 0) (by decide +kernel) (by decide) ?_
        obtain rfl := Option.some.inj h
        exact Fr_iret (by decide +kernel) rfl ⟨rfl, rfl⟩
      · have h := iF hc h
        refine Fr_iconst (i := 3) (v := 3) (by decide +kernel) (by decide) ?_
        refine Fr_goto (off := 4) 27 (by decide +kernel) (by decide) ?_
        obtain rfl := Option.some.inj h
        exact Fr_iret (by decide +kernel) rfl ⟨rfl, rfl⟩
    · have h := iF hc h
      refine Fr_iconst (i := 1) (v := 1) (by decide +kernel) (by decide) ?_
      refine Fr_goto (off := 17) 27 (by decide +kernel) (by decide) ?_
      obtain rfl := Option.some.inj h
      exact Fr_iret (by decide +kernel) rfl ⟨rfl, rfl⟩
set_option maxRecDepth 20000 in
theorem t_X12_placed {x1 : Int32} {x2 : Int32} {M : Mem} {q : Int32 × Mem} (h : f_X12_placed x1 x2 M = some q) : Ev 200 21 1 m_X12_placed [.ref 200, .int x1, .int x2] M (QI q) := by
  refine Ev_of_Fr (by decide +kernel) (Nat.le_of_ble_eq_true rfl) ?_
  show Fr 200 21 1 m_X12_placed 0 [(0, .ref 200), (1, .int x1), (2, .int x2)] [] M (QI q)
  unfold f_X12_placed at h
  refine Fr_aload_n (q := 0) (i := 0) 0 (by decide +kernel) rfl rfl ?_
  refine Fr_iload_n (q := 1) (i := 1) 1 (by decide +kernel) rfl rfl ?_
  obtain ⟨r_3, M_1, hc_2, h⟩ := bi_elim h
  refine Fr_cVi (ν := m_X12_trayed) (As := [.int x1]) (st := []) (rc := 200) (ci := 12) (d' := 0) (by decide +kernel) ml_X12_103 cv_X12_trayed rfl (by decide) rfl ob_200 rfl (by decide) (Nat.le_of_ble_eq_true rfl) (t_X12_trayed hc_2) ?_
  refine Fr_istore_n (q := 3) (i := 3) (lv' := [(3, .int r_3), (0, .ref 200), (1, .int x1), (2, .int x2)]) (by decide +kernel) rfl (by decide) rfl ?_
  refine Fr_iload_n (q := 3) (i := 3) 0 (by decide +kernel) rfl rfl ?_
  refine Fr_if_le (off := 7) 14 (by decide +kernel) (by decide) (fun hc => ?_) (fun hc => ?_)
  · have h := iT hc h
    refine Fr_iload_n (q := 2) (i := 2) 3 (by decide +kernel) rfl rfl ?_
    refine Fr_if_lt (off := 13) 28 (by decide +kernel) (by decide) (fun hc => ?_) (fun hc => ?_)
    · have h := iT hc h
      refine Fr_iconst (i := 4) (v := 4) (by decide +kernel) (by decide) ?_
      refine Fr_goto (off := 4) 33 (by decide +kernel) (by decide) ?_
      obtain rfl := Option.some.inj h
      exact Fr_iret (by decide +kernel) rfl ⟨rfl, rfl⟩
    · have h := iF hc h
      refine Fr_iload_n (q := 2) (i := 2) 3 (by decide +kernel) rfl rfl ?_
      refine Fr_aload_n (q := 0) (i := 0) 1 (by decide +kernel) rfl rfl ?_
      refine gf_X12_17 rfl (by decide +kernel) ob_200 ?_
      refine Fr_iload_n (q := 1) (i := 1) 2 (by decide +kernel) rfl rfl ?_
      obtain ⟨hi_4, h⟩ := ck_elim h
      refine Fr_iald (by decide +kernel) ob_202 (vp_of ln_202 hi_4) ?_
      refine Fr_icmp_lt (off := 7) 32 (by decide +kernel) (by decide) (fun hc => ?_) (fun hc => ?_)
      · have h := iT hc h
        refine Fr_iconst (i := 0) (v := 0) (by decide +kernel) (by decide) ?_
        obtain rfl := Option.some.inj h
        exact Fr_iret (by decide +kernel) rfl ⟨rfl, rfl⟩
      · have h := iF hc h
        refine Fr_iconst (i := 4) (v := 4) (by decide +kernel) (by decide) ?_
        refine Fr_goto (off := 4) 33 (by decide +kernel) (by decide) ?_
        obtain rfl := Option.some.inj h
        exact Fr_iret (by decide +kernel) rfl ⟨rfl, rfl⟩
  · have h := iF hc h
    refine Fr_iload_n (q := 3) (i := 3) 0 (by decide +kernel) rfl rfl ?_
    refine Fr_goto (off := 22) 33 (by decide +kernel) (by decide) ?_
    obtain rfl := Option.some.inj h
    exact Fr_iret (by decide +kernel) rfl ⟨rfl, rfl⟩
set_option maxRecDepth 20000 in
theorem t_X12_write {x1 : Int32} {x2 : Int32} {x3 : Int64} {M : Mem} {q : Bool × Mem} (h : f_X12_write x1 x2 x3 M = some q) : Ev 200 21 2 m_X12_write [.ref 200, .int x1, .int x2, .long x3] M (QB q) := by
  refine Ev_of_Fr (by decide +kernel) (Nat.le_of_ble_eq_true rfl) ?_
  show Fr 200 21 2 m_X12_write 0 [(0, .ref 200), (1, .int x1), (2, .int x2), (3, .long x3)] [] M (QB q)
  unfold f_X12_write at h
  refine Fr_aload_n (q := 0) (i := 0) 0 (by decide +kernel) rfl rfl ?_
  refine Fr_iconst (i := 0) (v := 0) (by decide +kernel) (by decide) ?_
  refine pf_X12_84 rfl (by decide +kernel) ob_200 ?_
  obtain ⟨M_1, eM_1, h⟩ := bM_elim h
  refine Fr_mem eM_1 ?_
  refine Fr_aload_n (q := 0) (i := 0) 0 (by decide +kernel) rfl rfl ?_
  refine Fr_aload_n (q := 0) (i := 0) 0 (by decide +kernel) rfl rfl ?_
  refine Fr_iload_n (q := 1) (i := 1) 1 (by decide +kernel) rfl rfl ?_
  refine Fr_iload_n (q := 2) (i := 2) 2 (by decide +kernel) rfl rfl ?_
  obtain ⟨r_4, M_2, hc_3, h⟩ := bi_elim h
  refine Fr_cVi (ν := m_X12_placed) (As := [.int x1, .int x2]) (st := [.ref 200]) (rc := 200) (ci := 12) (d' := 1) (by decide +kernel) ml_X12_107 cv_X12_placed rfl (by decide) rfl ob_200 rfl (by decide) (Nat.le_of_ble_eq_true rfl) (t_X12_placed hc_3) ?_
  refine pf_X12_87 rfl (by decide +kernel) ob_200 ?_
  obtain ⟨M_5, eM_5, h⟩ := bM_elim h
  refine Fr_mem eM_5 ?_
  refine Fr_aload_n (q := 0) (i := 0) 0 (by decide +kernel) rfl rfl ?_
  refine gf_X12_87 rfl (by decide +kernel) ob_200 ?_
  refine Fr_if_le (off := 5) 24 (by decide +kernel) (by decide) (fun hc => ?_) (fun hc => ?_)
  · have h := iT hc h
    refine Fr_aload_n (q := 0) (i := 0) 0 (by decide +kernel) rfl rfl ?_
    refine gf_X12_20 rfl (by decide +kernel) ob_200 ?_
    refine Fr_bipush (i := 60) (v := 60) (by decide +kernel) (by decide) ?_
    refine Fr_iload_n (q := 1) (i := 1) 1 (by decide +kernel) rfl rfl ?_
    refine Fr_imul (by decide +kernel) ?_
    refine Fr_iload_n (q := 2) (i := 2) 2 (by decide +kernel) rfl rfl ?_
    refine Fr_iadd (by decide +kernel) ?_
    refine Fr_aload_n (q := 0) (i := 0) 0 (by decide +kernel) rfl rfl ?_
    refine gf_X12_13 rfl (by decide +kernel) ob_200 ?_
    refine Fr_iload_n (q := 1) (i := 1) 1 (by decide +kernel) rfl rfl ?_
    obtain ⟨hi_6, h⟩ := ck_elim h
    refine Fr_iald (by decide +kernel) ob_201 (vp_of ln_201 hi_6) ?_
    refine Fr_lload_n (q := 3) (i := 3) 3 (by decide +kernel) rfl rfl ?_
    obtain ⟨r_9, M_7, hc_8, h⟩ := bi_elim h
    refine Fr_cSj (ν := m_X12_cut) (As := [.int (M_5.1 201 (tn x1)), .long x3]) (st := [.int ((60 * x1) + x2), .ref 203]) (d' := 0) (by decide +kernel) ml_X12_111 cs_X12_cut rfl (by decide) (Nat.le_of_ble_eq_true rfl) (t_X12_cut hc_8) ?_
    obtain ⟨hi_10, h⟩ := ck_elim h
    refine Fr_last (by decide +kernel) ob_203 (vp_of ln_203 hi_10) ?_
    obtain ⟨M_11, eM_11, h⟩ := bM_elim h
    refine Fr_mem eM_11 ?_
    refine Fr_iconst (i := 1) (v := 1) (by decide +kernel) (by decide) ?_
    obtain rfl := Option.some.inj h
    exact Fr_zret (by decide +kernel) rfl (by decide) ⟨rfl, rfl⟩
  · have h := iF hc h
    refine Fr_iconst (i := 0) (v := 0) (by decide +kernel) (by decide) ?_
    obtain rfl := Option.some.inj h
    exact Fr_zret (by decide +kernel) rfl (by decide) ⟨rfl, rfl⟩
set_option maxRecDepth 20000 in
theorem t_X12_read {x1 : Int32} {x2 : Int32} {M : Mem} {q : Int64 × Mem} (h : f_X12_read x1 x2 M = some q) : Ev 200 21 2 m_X12_read [.ref 200, .int x1, .int x2] M (QJ q) := by
  refine Ev_of_Fr (by decide +kernel) (Nat.le_of_ble_eq_true rfl) ?_
  show Fr 200 21 2 m_X12_read 0 [(0, .ref 200), (1, .int x1), (2, .int x2)] [] M (QJ q)
  unfold f_X12_read at h
  refine Fr_aload_n (q := 0) (i := 0) 0 (by decide +kernel) rfl rfl ?_
  refine Fr_iconst (i := 0) (v := 0) (by decide +kernel) (by decide) ?_
  refine pf_X12_84 rfl (by decide +kernel) ob_200 ?_
  obtain ⟨M_1, eM_1, h⟩ := bM_elim h
  refine Fr_mem eM_1 ?_
  refine Fr_aload_n (q := 0) (i := 0) 0 (by decide +kernel) rfl rfl ?_
  refine Fr_aload_n (q := 0) (i := 0) 0 (by decide +kernel) rfl rfl ?_
  refine Fr_iload_n (q := 1) (i := 1) 1 (by decide +kernel) rfl rfl ?_
  refine Fr_iload_n (q := 2) (i := 2) 2 (by decide +kernel) rfl rfl ?_
  obtain ⟨r_4, M_2, hc_3, h⟩ := bi_elim h
  refine Fr_cVi (ν := m_X12_placed) (As := [.int x1, .int x2]) (st := [.ref 200]) (rc := 200) (ci := 12) (d' := 1) (by decide +kernel) ml_X12_107 cv_X12_placed rfl (by decide) rfl ob_200 rfl (by decide) (Nat.le_of_ble_eq_true rfl) (t_X12_placed hc_3) ?_
  refine pf_X12_87 rfl (by decide +kernel) ob_200 ?_
  obtain ⟨M_5, eM_5, h⟩ := bM_elim h
  refine Fr_mem eM_5 ?_
  refine Fr_aload_n (q := 0) (i := 0) 0 (by decide +kernel) rfl rfl ?_
  refine gf_X12_87 rfl (by decide +kernel) ob_200 ?_
  refine Fr_if_le (off := 9) 28 (by decide +kernel) (by decide) (fun hc => ?_) (fun hc => ?_)
  · have h := iT hc h
    refine Fr_aload_n (q := 0) (i := 0) 0 (by decide +kernel) rfl rfl ?_
    refine gf_X12_20 rfl (by decide +kernel) ob_200 ?_
    refine Fr_bipush (i := 60) (v := 60) (by decide +kernel) (by decide) ?_
    refine Fr_iload_n (q := 1) (i := 1) 1 (by decide +kernel) rfl rfl ?_
    refine Fr_imul (by decide +kernel) ?_
    refine Fr_iload_n (q := 2) (i := 2) 2 (by decide +kernel) rfl rfl ?_
    refine Fr_iadd (by decide +kernel) ?_
    obtain ⟨hi_6, h⟩ := ck_elim h
    refine Fr_lald (by decide +kernel) ob_203 (vp_of ln_203 hi_6) ?_
    obtain rfl := Option.some.inj h
    exact Fr_lret (by decide +kernel) rfl ⟨rfl, rfl⟩
  · have h := iF hc h
    refine Fr_ldc2 (idx := 115) (v := (-1)) (by decide +kernel) ll_X12_115 ?_
    refine Fr_goto (off := 14) 39 (by decide +kernel) (by decide) ?_
    obtain rfl := Option.some.inj h
    exact Fr_lret (by decide +kernel) rfl ⟨rfl, rfl⟩
set_option maxRecDepth 20000 in
theorem t_X12_pour_b182 {N : Nat} {q : Bool × Mem} {k158 : Int32 × Int32 × Int32 × Int32 × Int32 × Int32 × Int32 → Mem → Option (Bool × Mem)} (hk158 : ∀ (a : Int32 × Int32 × Int32 × Int32 × Int32 × Int32 × Int32) (M : Mem), k158 a M = some q → Fr 200 21 1 m_X12_pour 158 [(0, .ref 200), (1, .int a.1), (2, .int a.2.1), (3, .int a.2.2.1), (4, .int a.2.2.2.1), (5, .int a.2.2.2.2.1), (6, .int a.2.2.2.2.2.1), (7, .int a.2.2.2.2.2.2)] [] M (QB q)) {v1 : Int32} {v2 : Int32} {v3 : Int32} {v4 : Int32} {v5 : Int32} {v6 : Int32} {v7 : Int32} {s0 : Int32} {M : Mem} (h : f_X12_pour_b182 N k158 v1 v2 v3 v4 v5 v6 v7 s0 M = some q) : Fr 200 21 1 m_X12_pour 182 [(0, .ref 200), (1, .int v1), (2, .int v2), (3, .int v3), (4, .int v4), (5, .int v5), (6, .int v6), (7, .int v7)] [.int s0] M (QB q) := by
  unfold f_X12_pour_b182 at h
  refine Fr_istore (i := 8) (lv' := [(8, .int s0), (0, .ref 200), (1, .int v1), (2, .int v2), (3, .int v3), (4, .int v4), (5, .int v5), (6, .int v6), (7, .int v7)]) (by decide +kernel) (by decide) rfl ?_
  refine Fr_aload_n (q := 0) (i := 0) 1 (by decide +kernel) rfl rfl ?_
  refine gf_X12_20 rfl (by decide +kernel) ob_200 ?_
  refine Fr_bipush (i := 60) (v := 60) (by decide +kernel) (by decide) ?_
  refine Fr_iload_n (q := 3) (i := 3) 4 (by decide +kernel) rfl rfl ?_
  refine Fr_imul (by decide +kernel) ?_
  refine Fr_iload (i := 4) 5 (by decide +kernel) rfl ?_
  refine Fr_iadd (by decide +kernel) ?_
  refine Fr_iload (i := 8) 0 (by decide +kernel) rfl ?_
  refine Fr_iadd (by decide +kernel) ?_
  refine Fr_aload_n (q := 0) (i := 0) 1 (by decide +kernel) rfl rfl ?_
  refine gf_X12_20 rfl (by decide +kernel) ob_200 ?_
  refine Fr_bipush (i := 60) (v := 60) (by decide +kernel) (by decide) ?_
  refine Fr_iload_n (q := 1) (i := 1) 2 (by decide +kernel) rfl rfl ?_
  refine Fr_imul (by decide +kernel) ?_
  refine Fr_iload_n (q := 2) (i := 2) 3 (by decide +kernel) rfl rfl ?_
  refine Fr_iadd (by decide +kernel) ?_
  refine Fr_iload (i := 8) 0 (by decide +kernel) rfl ?_
  refine Fr_iadd (by decide +kernel) ?_
  obtain ⟨hi_30, h⟩ := ck_elim h
  refine Fr_lald (by decide +kernel) ob_203 (vp_of ln_203 hi_30) ?_
  obtain ⟨hi_31, h⟩ := ck_elim h
  refine Fr_last (by decide +kernel) ob_203 (vp_of ln_203 hi_31) ?_
  obtain ⟨M_32, eM_32, h⟩ := bM_elim h
  refine Fr_mem eM_32 ?_
  refine Fr_iinc (i := 7) (j := 1) (v := (v7 + 1)) (lv' := [(7, .int (v7 + 1)), (8, .int s0), (0, .ref 200), (1, .int v1), (2, .int v2), (3, .int v3), (4, .int v4), (5, .int v5), (6, .int v6)]) 8 (by decide +kernel) rfl rfl (by decide) rfl ?_
  refine Fr_goto (off := (-58)) 158 (by decide +kernel) (by decide) ?_
  refine Fr_loc [2, 3, 4, 5, 6, 7, 8, 0] rfl ?_
  exact hk158 (v1, v2, v3, v4, v5, v6, (v7 + 1)) M_32 h
set_option maxRecDepth 20000 in
theorem t_X12_pour_h158 {N : Nat} {q : Bool × Mem} {k158 : Int32 × Int32 × Int32 × Int32 × Int32 × Int32 × Int32 → Mem → Option (Bool × Mem)} (hk158 : ∀ (a : Int32 × Int32 × Int32 × Int32 × Int32 × Int32 × Int32) (M : Mem), k158 a M = some q → Fr 200 21 1 m_X12_pour 158 [(0, .ref 200), (1, .int a.1), (2, .int a.2.1), (3, .int a.2.2.1), (4, .int a.2.2.2.1), (5, .int a.2.2.2.2.1), (6, .int a.2.2.2.2.2.1), (7, .int a.2.2.2.2.2.2)] [] M (QB q)) {v1 : Int32} {v2 : Int32} {v3 : Int32} {v4 : Int32} {v5 : Int32} {v6 : Int32} {v7 : Int32} {M : Mem} (h : f_X12_pour_h158 N k158 v1 v2 v3 v4 v5 v6 v7 M = some q) : Fr 200 21 1 m_X12_pour 158 [(0, .ref 200), (1, .int v1), (2, .int v2), (3, .int v3), (4, .int v4), (5, .int v5), (6, .int v6), (7, .int v7)] [] M (QB q) := by
  unfold f_X12_pour_h158 at h
  refine Fr_iload (i := 7) 7 (by decide +kernel) rfl ?_
  refine Fr_iload (i := 5) 5 (by decide +kernel) rfl ?_
  refine Fr_icmp_ge (off := 57) 219 (by decide +kernel) (by decide) (fun hc => ?_) (fun hc => ?_)
  · have h := iT hc h
    refine Fr_iconst (i := 1) (v := 1) (by decide +kernel) (by decide) ?_
    obtain rfl := Option.some.inj h
    exact Fr_zret (by decide +kernel) rfl (by decide) ⟨rfl, rfl⟩
  · have h := iF hc h
    refine Fr_iload (i := 6) 6 (by decide +kernel) rfl ?_
    refine Fr_if_eq (off := 13) 180 (by decide +kernel) (by decide) (fun hc => ?_) (fun hc => ?_)
    · have h := iT hc h
      refine Fr_iload (i := 7) 7 (by decide +kernel) rfl ?_
      exact t_X12_pour_b182 hk158 h
    · have h := iF hc h
      refine Fr_iload (i := 5) 5 (by decide +kernel) rfl ?_
      refine Fr_iconst (i := 1) (v := 1) (by decide +kernel) (by decide) ?_
      refine Fr_isub (by decide +kernel) ?_
      refine Fr_iload (i := 7) 7 (by decide +kernel) rfl ?_
      refine Fr_isub (by decide +kernel) ?_
      refine Fr_goto (off := 5) 182 (by decide +kernel) (by decide) ?_
      exact t_X12_pour_b182 hk158 h
set_option maxRecDepth 20000 in
theorem t_X12_pour_b153 {N : Nat} {q : Bool × Mem} {v1 : Int32} {v2 : Int32} {v3 : Int32} {v4 : Int32} {v5 : Int32} {s0 : Int32} {M : Mem} (h : f_X12_pour_b153 N v1 v2 v3 v4 v5 s0 M = some q) : Fr 200 21 1 m_X12_pour 153 [(0, .ref 200), (1, .int v1), (2, .int v2), (3, .int v3), (4, .int v4), (5, .int v5)] [.int s0] M (QB q) := by
  unfold f_X12_pour_b153 at h
  refine Fr_istore (i := 6) (lv' := [(6, .int s0), (0, .ref 200), (1, .int v1), (2, .int v2), (3, .int v3), (4, .int v4), (5, .int v5)]) (by decide +kernel) (by decide) rfl ?_
  refine Fr_iconst (i := 0) (v := 0) (by decide +kernel) (by decide) ?_
  refine Fr_istore (i := 7) (lv' := [(7, .int 0), (6, .int s0), (0, .ref 200), (1, .int v1), (2, .int v2), (3, .int v3), (4, .int v4), (5, .int v5)]) (by decide +kernel) (by decide) rfl ?_
  refine Fr_loc [2, 3, 4, 5, 6, 7, 1, 0] rfl ?_
  exact lp_sound (body := fun k a m => f_X12_pour_h158 N k a.1 a.2.1 a.2.2.1 a.2.2.2.1 a.2.2.2.2.1 a.2.2.2.2.2.1 a.2.2.2.2.2.2 m) (P := fun a M => Fr 200 21 1 m_X12_pour 158 [(0, .ref 200), (1, .int a.1), (2, .int a.2.1), (3, .int a.2.2.1), (4, .int a.2.2.2.1), (5, .int a.2.2.2.2.1), (6, .int a.2.2.2.2.2.1), (7, .int a.2.2.2.2.2.2)] [] M (QB q)) (fun k hk a m h => t_X12_pour_h158 hk h) N (v1, v2, v3, v4, v5, s0, 0) M h
set_option maxRecDepth 20000 in
theorem t_X12_pour {N : Nat} {x1 : Int32} {x2 : Int32} {x3 : Int32} {x4 : Int32} {x5 : Int32} {M : Mem} {q : Bool × Mem} (h : f_X12_pour N x1 x2 x3 x4 x5 M = some q) : Ev 200 21 1 m_X12_pour [.ref 200, .int x1, .int x2, .int x3, .int x4, .int x5] M (QB q) := by
  refine Ev_of_Fr (by decide +kernel) (Nat.le_of_ble_eq_true rfl) ?_
  show Fr 200 21 1 m_X12_pour 0 [(0, .ref 200), (1, .int x1), (2, .int x2), (3, .int x3), (4, .int x4), (5, .int x5)] [] M (QB q)
  unfold f_X12_pour at h
  refine Fr_aload_n (q := 0) (i := 0) 0 (by decide +kernel) rfl rfl ?_
  refine Fr_iconst (i := 0) (v := 0) (by decide +kernel) (by decide) ?_
  refine pf_X12_84 rfl (by decide +kernel) ob_200 ?_
  obtain ⟨M_1, eM_1, h⟩ := bM_elim h
  refine Fr_mem eM_1 ?_
  refine Fr_aload_n (q := 0) (i := 0) 0 (by decide +kernel) rfl rfl ?_
  refine Fr_iconst (i := 0) (v := 0) (by decide +kernel) (by decide) ?_
  refine pf_X12_87 rfl (by decide +kernel) ob_200 ?_
  obtain ⟨M_2, eM_2, h⟩ := bM_elim h
  refine Fr_mem eM_2 ?_
  refine Fr_iload_n (q := 1) (i := 1) 1 (by decide +kernel) rfl rfl ?_
  refine Fr_if_lt (off := 17) 28 (by decide +kernel) (by decide) (fun hc => ?_) (fun hc => ?_)
  · have h := iT hc h
    refine Fr_aload_n (q := 0) (i := 0) 0 (by decide +kernel) rfl rfl ?_
    refine Fr_iconst (i := 1) (v := 1) (by decide +kernel) (by decide) ?_
    obtain ⟨r_5, M_3, hc_4, h⟩ := bi_elim h
    refine Fr_cVb (ν := m_X12_no) (As := [.int 1]) (st := []) (rc := 200) (ci := 12) (d' := 0) (by decide +kernel) ml_X12_99 cv_X12_no rfl (by decide) rfl ob_200 rfl (by decide) (Nat.le_of_ble_eq_true rfl) (t_X12_no hc_4) ?_
    obtain rfl := Option.some.inj h
    exact Fr_zret (by decide +kernel) rfl (nz_b r_5) ⟨rfl, rfl⟩
  · have h := iF hc h
    refine Fr_iload_n (q := 1) (i := 1) 1 (by decide +kernel) rfl rfl ?_
    refine Fr_iconst (i := 4) (v := 4) (by decide +kernel) (by decide) ?_
    refine Fr_icmp_ge (off := 12) 28 (by decide +kernel) (by decide) (fun hc => ?_) (fun hc => ?_)
    · have h := iT hc h
      refine Fr_aload_n (q := 0) (i := 0) 0 (by decide +kernel) rfl rfl ?_
      refine Fr_iconst (i := 1) (v := 1) (by decide +kernel) (by decide) ?_
      obtain ⟨r_8, M_6, hc_7, h⟩ := bi_elim h
      refine Fr_cVb (ν := m_X12_no) (As := [.int 1]) (st := []) (rc := 200) (ci := 12) (d' := 0) (by decide +kernel) ml_X12_99 cv_X12_no rfl (by decide) rfl ob_200 rfl (by decide) (Nat.le_of_ble_eq_true rfl) (t_X12_no hc_7) ?_
      obtain rfl := Option.some.inj h
      exact Fr_zret (by decide +kernel) rfl (nz_b r_8) ⟨rfl, rfl⟩
    · have h := iF hc h
      refine Fr_iload_n (q := 3) (i := 3) 3 (by decide +kernel) rfl rfl ?_
      refine Fr_if_lt (off := 8) 28 (by decide +kernel) (by decide) (fun hc => ?_) (fun hc => ?_)
      · have h := iT hc h
        refine Fr_aload_n (q := 0) (i := 0) 0 (by decide +kernel) rfl rfl ?_
        refine Fr_iconst (i := 1) (v := 1) (by decide +kernel) (by decide) ?_
        obtain ⟨r_11, M_9, hc_10, h⟩ := bi_elim h
        refine Fr_cVb (ν := m_X12_no) (As := [.int 1]) (st := []) (rc := 200) (ci := 12) (d' := 0) (by decide +kernel) ml_X12_99 cv_X12_no rfl (by decide) rfl ob_200 rfl (by decide) (Nat.le_of_ble_eq_true rfl) (t_X12_no hc_10) ?_
        obtain rfl := Option.some.inj h
        exact Fr_zret (by decide +kernel) rfl (nz_b r_11) ⟨rfl, rfl⟩
      · have h := iF hc h
        refine Fr_iload_n (q := 3) (i := 3) 3 (by decide +kernel) rfl rfl ?_
        refine Fr_iconst (i := 4) (v := 4) (by decide +kernel) (by decide) ?_
        refine Fr_icmp_lt (off := 9) 34 (by decide +kernel) (by decide) (fun hc => ?_) (fun hc => ?_)
        · have h := iT hc h
          refine Fr_aload_n (q := 0) (i := 0) 0 (by decide +kernel) rfl rfl ?_
          refine gf_X12_17 rfl (by decide +kernel) ob_200 ?_
          refine Fr_iload_n (q := 1) (i := 1) 1 (by decide +kernel) rfl rfl ?_
          obtain ⟨hi_12, h⟩ := ck_elim h
          refine Fr_iald (by decide +kernel) ob_202 (vp_of ln_202 hi_12) ?_
          refine Fr_if_lt (off := 12) 52 (by decide +kernel) (by decide) (fun hc => ?_) (fun hc => ?_)
          · have h := iT hc h
            refine Fr_aload_n (q := 0) (i := 0) 0 (by decide +kernel) rfl rfl ?_
            refine Fr_iconst (i := 3) (v := 3) (by decide +kernel) (by decide) ?_
            obtain ⟨r_15, M_13, hc_14, h⟩ := bi_elim h
            refine Fr_cVb (ν := m_X12_no) (As := [.int 3]) (st := []) (rc := 200) (ci := 12) (d' := 0) (by decide +kernel) ml_X12_99 cv_X12_no rfl (by decide) rfl ob_200 rfl (by decide) (Nat.le_of_ble_eq_true rfl) (t_X12_no hc_14) ?_
            obtain rfl := Option.some.inj h
            exact Fr_zret (by decide +kernel) rfl (nz_b r_15) ⟨rfl, rfl⟩
          · have h := iF hc h
            refine Fr_aload_n (q := 0) (i := 0) 0 (by decide +kernel) rfl rfl ?_
            refine gf_X12_17 rfl (by decide +kernel) ob_200 ?_
            refine Fr_iload_n (q := 3) (i := 3) 3 (by decide +kernel) rfl rfl ?_
            obtain ⟨hi_16, h⟩ := ck_elim h
            refine Fr_iald (by decide +kernel) ob_202 (vp_of ln_202 hi_16) ?_
            refine Fr_if_ge (off := 9) 58 (by decide +kernel) (by decide) (fun hc => ?_) (fun hc => ?_)
            · have h := iT hc h
              refine Fr_aload_n (q := 0) (i := 0) 0 (by decide +kernel) rfl rfl ?_
              refine gf_X12_13 rfl (by decide +kernel) ob_200 ?_
              refine Fr_iload_n (q := 1) (i := 1) 1 (by decide +kernel) rfl rfl ?_
              obtain ⟨hi_17, h⟩ := ck_elim h
              refine Fr_iald (by decide +kernel) ob_201 (vp_of ln_201 hi_17) ?_
              refine Fr_aload_n (q := 0) (i := 0) 0 (by decide +kernel) rfl rfl ?_
              refine gf_X12_13 rfl (by decide +kernel) ob_200 ?_
              refine Fr_iload_n (q := 3) (i := 3) 3 (by decide +kernel) rfl rfl ?_
              obtain ⟨hi_18, h⟩ := ck_elim h
              refine Fr_iald (by decide +kernel) ob_201 (vp_of ln_201 hi_18) ?_
              refine Fr_icmp_eq (off := 10) 80 (by decide +kernel) (by decide) (fun hc => ?_) (fun hc => ?_)
              · have h := iT hc h
                refine Fr_iload (i := 5) 5 (by decide +kernel) rfl ?_
                refine Fr_if_ge (off := 10) 92 (by decide +kernel) (by decide) (fun hc => ?_) (fun hc => ?_)
                · have h := iT hc h
                  refine Fr_iload_n (q := 2) (i := 2) 2 (by decide +kernel) rfl rfl ?_
                  refine Fr_if_lt (off := 43) 136 (by decide +kernel) (by decide) (fun hc => ?_) (fun hc => ?_)
                  · have h := iT hc h
                    refine Fr_aload_n (q := 0) (i := 0) 0 (by decide +kernel) rfl rfl ?_
                    refine Fr_iconst (i := 4) (v := 4) (by decide +kernel) (by decide) ?_
                    obtain ⟨r_21, M_19, hc_20, h⟩ := bi_elim h
                    refine Fr_cVb (ν := m_X12_no) (As := [.int 4]) (st := []) (rc := 200) (ci := 12) (d' := 0) (by decide +kernel) ml_X12_99 cv_X12_no rfl (by decide) rfl ob_200 rfl (by decide) (Nat.le_of_ble_eq_true rfl) (t_X12_no hc_20) ?_
                    obtain rfl := Option.some.inj h
                    exact Fr_zret (by decide +kernel) rfl (nz_b r_21) ⟨rfl, rfl⟩
                  · have h := iF hc h
                    refine Fr_iload (i := 4) 4 (by decide +kernel) rfl ?_
                    refine Fr_if_lt (off := 38) 136 (by decide +kernel) (by decide) (fun hc => ?_) (fun hc => ?_)
                    · have h := iT hc h
                      refine Fr_aload_n (q := 0) (i := 0) 0 (by decide +kernel) rfl rfl ?_
                      refine Fr_iconst (i := 4) (v := 4) (by decide +kernel) (by decide) ?_
                      obtain ⟨r_24, M_22, hc_23, h⟩ := bi_elim h
                      refine Fr_cVb (ν := m_X12_no) (As := [.int 4]) (st := []) (rc := 200) (ci := 12) (d' := 0) (by decide +kernel) ml_X12_99 cv_X12_no rfl (by decide) rfl ob_200 rfl (by decide) (Nat.le_of_ble_eq_true rfl) (t_X12_no hc_23) ?_
                      obtain rfl := Option.some.inj h
                      exact Fr_zret (by decide +kernel) rfl (nz_b r_24) ⟨rfl, rfl⟩
                    · have h := iF hc h
                      refine Fr_iload_n (q := 2) (i := 2) 2 (by decide +kernel) rfl rfl ?_
                      refine Fr_i2l (by decide +kernel) ?_
                      refine Fr_iload (i := 5) 5 (by decide +kernel) rfl ?_
                      refine Fr_i2l (by decide +kernel) ?_
                      refine Fr_ladd (by decide +kernel) ?_
                      refine Fr_aload_n (q := 0) (i := 0) 0 (by decide +kernel) rfl rfl ?_
                      refine gf_X12_17 rfl (by decide +kernel) ob_200 ?_
                      refine Fr_iload_n (q := 1) (i := 1) 1 (by decide +kernel) rfl rfl ?_
                      obtain ⟨hi_25, h⟩ := ck_elim h
                      refine Fr_iald (by decide +kernel) ob_202 (vp_of ln_202 hi_25) ?_
                      refine Fr_i2l (by decide +kernel) ?_
                      refine Fr_lcmp (by decide +kernel) ?_
                      refine Fr_if_gt (off := 21) 136 (by decide +kernel) (by decide) (fun hc => ?_) (fun hc => ?_)
                      · have h := iT hc h
                        refine Fr_aload_n (q := 0) (i := 0) 0 (by decide +kernel) rfl rfl ?_
                        refine Fr_iconst (i := 4) (v := 4) (by decide +kernel) (by decide) ?_
                        obtain ⟨r_28, M_26, hc_27, h⟩ := bi_elim h
                        refine Fr_cVb (ν := m_X12_no) (As := [.int 4]) (st := []) (rc := 200) (ci := 12) (d' := 0) (by decide +kernel) ml_X12_99 cv_X12_no rfl (by decide) rfl ob_200 rfl (by decide) (Nat.le_of_ble_eq_true rfl) (t_X12_no hc_27) ?_
                        obtain rfl := Option.some.inj h
                        exact Fr_zret (by decide +kernel) rfl (nz_b r_28) ⟨rfl, rfl⟩
                      · have h := iF hc h
                        refine Fr_iload (i := 4) 4 (by decide +kernel) rfl ?_
                        refine Fr_i2l (by decide +kernel) ?_
                        refine Fr_iload (i := 5) 5 (by decide +kernel) rfl ?_
                        refine Fr_i2l (by decide +kernel) ?_
                        refine Fr_ladd (by decide +kernel) ?_
                        refine Fr_aload_n (q := 0) (i := 0) 0 (by decide +kernel) rfl rfl ?_
                        refine gf_X12_17 rfl (by decide +kernel) ob_200 ?_
                        refine Fr_iload_n (q := 3) (i := 3) 3 (by decide +kernel) rfl rfl ?_
                        obtain ⟨hi_29, h⟩ := ck_elim h
                        refine Fr_iald (by decide +kernel) ob_202 (vp_of ln_202 hi_29) ?_
                        refine Fr_i2l (by decide +kernel) ?_
                        refine Fr_lcmp (by decide +kernel) ?_
                        refine Fr_if_le (off := 9) 142 (by decide +kernel) (by decide) (fun hc => ?_) (fun hc => ?_)
                        · have h := iT hc h
                          refine Fr_iload_n (q := 2) (i := 2) 2 (by decide +kernel) rfl rfl ?_
                          refine Fr_iload (i := 4) 4 (by decide +kernel) rfl ?_
                          refine Fr_icmp_ge (off := 7) 152 (by decide +kernel) (by decide) (fun hc => ?_) (fun hc => ?_)
                          · have h := iT hc h
                            refine Fr_iconst (i := 0) (v := 0) (by decide +kernel) (by decide) ?_
                            exact t_X12_pour_b153 h
                          · have h := iF hc h
                            refine Fr_iconst (i := 1) (v := 1) (by decide +kernel) (by decide) ?_
                            refine Fr_goto (off := 4) 153 (by decide +kernel) (by decide) ?_
                            exact t_X12_pour_b153 h
                        · have h := iF hc h
                          refine Fr_aload_n (q := 0) (i := 0) 0 (by decide +kernel) rfl rfl ?_
                          refine Fr_iconst (i := 4) (v := 4) (by decide +kernel) (by decide) ?_
                          obtain ⟨r_35, M_33, hc_34, h⟩ := bi_elim h
                          refine Fr_cVb (ν := m_X12_no) (As := [.int 4]) (st := []) (rc := 200) (ci := 12) (d' := 0) (by decide +kernel) ml_X12_99 cv_X12_no rfl (by decide) rfl ob_200 rfl (by decide) (Nat.le_of_ble_eq_true rfl) (t_X12_no hc_34) ?_
                          obtain rfl := Option.some.inj h
                          exact Fr_zret (by decide +kernel) rfl (nz_b r_35) ⟨rfl, rfl⟩
                · have h := iF hc h
                  refine Fr_aload_n (q := 0) (i := 0) 0 (by decide +kernel) rfl rfl ?_
                  refine Fr_bipush (i := 6) (v := 6) (by decide +kernel) (by decide) ?_
                  obtain ⟨r_38, M_36, hc_37, h⟩ := bi_elim h
                  refine Fr_cVb (ν := m_X12_no) (As := [.int 6]) (st := []) (rc := 200) (ci := 12) (d' := 0) (by decide +kernel) ml_X12_99 cv_X12_no rfl (by decide) rfl ob_200 rfl (by decide) (Nat.le_of_ble_eq_true rfl) (t_X12_no hc_37) ?_
                  obtain rfl := Option.some.inj h
                  exact Fr_zret (by decide +kernel) rfl (nz_b r_38) ⟨rfl, rfl⟩
              · have h := iF hc h
                refine Fr_aload_n (q := 0) (i := 0) 0 (by decide +kernel) rfl rfl ?_
                refine Fr_bipush (i := 11) (v := 11) (by decide +kernel) (by decide) ?_
                obtain ⟨r_41, M_39, hc_40, h⟩ := bi_elim h
                refine Fr_cVb (ν := m_X12_no) (As := [.int 11]) (st := []) (rc := 200) (ci := 12) (d' := 0) (by decide +kernel) ml_X12_99 cv_X12_no rfl (by decide) rfl ob_200 rfl (by decide) (Nat.le_of_ble_eq_true rfl) (t_X12_no hc_40) ?_
                obtain rfl := Option.some.inj h
                exact Fr_zret (by decide +kernel) rfl (nz_b r_41) ⟨rfl, rfl⟩
            · have h := iF hc h
              refine Fr_aload_n (q := 0) (i := 0) 0 (by decide +kernel) rfl rfl ?_
              refine Fr_iconst (i := 3) (v := 3) (by decide +kernel) (by decide) ?_
              obtain ⟨r_44, M_42, hc_43, h⟩ := bi_elim h
              refine Fr_cVb (ν := m_X12_no) (As := [.int 3]) (st := []) (rc := 200) (ci := 12) (d' := 0) (by decide +kernel) ml_X12_99 cv_X12_no rfl (by decide) rfl ob_200 rfl (by decide) (Nat.le_of_ble_eq_true rfl) (t_X12_no hc_43) ?_
              obtain rfl := Option.some.inj h
              exact Fr_zret (by decide +kernel) rfl (nz_b r_44) ⟨rfl, rfl⟩
        · have h := iF hc h
          refine Fr_aload_n (q := 0) (i := 0) 0 (by decide +kernel) rfl rfl ?_
          refine Fr_iconst (i := 1) (v := 1) (by decide +kernel) (by decide) ?_
          obtain ⟨r_47, M_45, hc_46, h⟩ := bi_elim h
          refine Fr_cVb (ν := m_X12_no) (As := [.int 1]) (st := []) (rc := 200) (ci := 12) (d' := 0) (by decide +kernel) ml_X12_99 cv_X12_no rfl (by decide) rfl ob_200 rfl (by decide) (Nat.le_of_ble_eq_true rfl) (t_X12_no hc_46) ?_
          obtain rfl := Option.some.inj h
          exact Fr_zret (by decide +kernel) rfl (nz_b r_47) ⟨rfl, rfl⟩
set_option maxRecDepth 20000 in
theorem t_X12_numberOf {x1 : Int32} {x2 : Int32} {M : Mem} {q : Int64 × Mem} (h : f_X12_numberOf x1 x2 M = some q) : Ev 200 21 0 m_X12_numberOf [.ref 200, .int x1, .int x2] M (QJ q) := by
  refine Ev_of_Fr (by decide +kernel) (Nat.le_of_ble_eq_true rfl) ?_
  show Fr 200 21 0 m_X12_numberOf 0 [(0, .ref 200), (1, .int x1), (2, .int x2)] [] M (QJ q)
  unfold f_X12_numberOf at h
  refine Fr_aload_n (q := 0) (i := 0) 0 (by decide +kernel) rfl rfl ?_
  refine gf_X12_20 rfl (by decide +kernel) ob_200 ?_
  refine Fr_bipush (i := 60) (v := 60) (by decide +kernel) (by decide) ?_
  refine Fr_iload_n (q := 1) (i := 1) 1 (by decide +kernel) rfl rfl ?_
  refine Fr_imul (by decide +kernel) ?_
  refine Fr_iload_n (q := 2) (i := 2) 2 (by decide +kernel) rfl rfl ?_
  refine Fr_iadd (by decide +kernel) ?_
  obtain ⟨hi_1, h⟩ := ck_elim h
  refine Fr_lald (by decide +kernel) ob_203 (vp_of ln_203 hi_1) ?_
  obtain rfl := Option.some.inj h
  exact Fr_lret (by decide +kernel) rfl ⟨rfl, rfl⟩
set_option maxRecDepth 20000 in
theorem t_X12_isTray {x1 : Int32} {M : Mem} {q : Bool × Mem} (h : f_X12_isTray x1 M = some q) : Ev 200 21 1 m_X12_isTray [.ref 200, .int x1] M (QB q) := by
  refine Ev_of_Fr (by decide +kernel) (Nat.le_of_ble_eq_true rfl) ?_
  show Fr 200 21 1 m_X12_isTray 0 [(0, .ref 200), (1, .int x1)] [] M (QB q)
  unfold f_X12_isTray at h
  refine Fr_iload_n (q := 1) (i := 1) 1 (by decide +kernel) rfl rfl ?_
  refine Fr_i2l (by decide +kernel) ?_
  refine Fr_lconst (i := 0) (v := 0) (by decide +kernel) (by decide) ?_
  refine Fr_ldc2 (idx := 117) (v := 3) (by decide +kernel) ll_X12_117 ?_
  obtain ⟨r_3, M_1, hc_2, h⟩ := bi_elim h
  refine Fr_cSb (ν := m_X12_isIn) (As := [.long (Int32.toInt64 x1), .long 0, .long 3]) (st := []) (d' := 0) (by decide +kernel) ml_X12_119 cs_X12_isIn rfl (by decide) (Nat.le_of_ble_eq_true rfl) (t_X12_isIn hc_2) ?_
  obtain rfl := Option.some.inj h
  exact Fr_zret (by decide +kernel) rfl (nz_b r_3) ⟨rfl, rfl⟩
set_option maxRecDepth 20000 in
theorem t_X12_has {x0 : Int32} {x1 : Int32} {M : Mem} {q : Bool × Mem} (h : f_X12_has x0 x1 M = some q) : Ev 200 21 0 m_X12_has [.int x0, .int x1] M (QB q) := by
  refine Ev_of_Fr (by decide +kernel) (Nat.le_of_ble_eq_true rfl) ?_
  show Fr 200 21 0 m_X12_has 0 [(0, .int x0), (1, .int x1)] [] M (QB q)
  unfold f_X12_has at h
  refine Fr_iload_n (q := 0) (i := 0) 0 (by decide +kernel) rfl rfl ?_
  refine Fr_iload_n (q := 1) (i := 1) 1 (by decide +kernel) rfl rfl ?_
  refine Fr_ishr (by decide +kernel) ?_
  refine Fr_iconst (i := 1) (v := 1) (by decide +kernel) (by decide) ?_
  refine Fr_iand (by decide +kernel) ?_
  refine Fr_iconst (i := 1) (v := 1) (by decide +kernel) (by decide) ?_
  refine Fr_icmp_ne (off := 7) 13 (by decide +kernel) (by decide) (fun hc => ?_) (fun hc => ?_)
  · have h := iF hc h
    refine Fr_iconst (i := 0) (v := 0) (by decide +kernel) (by decide) ?_
    obtain rfl := Option.some.inj h
    exact Fr_zret (by decide +kernel) rfl (by decide) ⟨rfl, rfl⟩
  · have h := iT hc h
    refine Fr_iconst (i := 1) (v := 1) (by decide +kernel) (by decide) ?_
    refine Fr_goto (off := 4) 14 (by decide +kernel) (by decide) ?_
    obtain rfl := Option.some.inj h
    exact Fr_zret (by decide +kernel) rfl (by decide) ⟨rfl, rfl⟩
set_option maxRecDepth 20000 in
theorem t_X12_sizeOf_b24 {N : Nat} {q : Int32 × Mem} {k4 : Int32 × Int32 × Int32 → Mem → Option (Int32 × Mem)} (hk4 : ∀ (a : Int32 × Int32 × Int32) (M : Mem), k4 a M = some q → Fr 200 21 1 m_X12_sizeOf 4 [(0, .int a.1), (1, .int a.2.1), (2, .int a.2.2)] [] M (QI q)) {v0 : Int32} {v2 : Int32} {s0 : Int32} {s1 : Int32} {M : Mem} (h : f_X12_sizeOf_b24 N k4 v0 v2 s0 s1 M = some q) : Fr 200 21 1 m_X12_sizeOf 24 [(0, .int v0), (2, .int v2)] [.int s0, .int s1] M (QI q) := by
  unfold f_X12_sizeOf_b24 at h
  refine Fr_iadd (by decide +kernel) ?_
  refine Fr_istore_n (q := 1) (i := 1) (lv' := [(1, .int (s1 + s0)), (0, .int v0), (2, .int v2)]) (by decide +kernel) rfl (by decide) rfl ?_
  refine Fr_iinc (i := 2) (j := 1) (v := (v2 + 1)) (lv' := [(2, .int (v2 + 1)), (1, .int (s1 + s0)), (0, .int v0)]) 2 (by decide +kernel) rfl rfl (by decide) rfl ?_
  refine Fr_goto (off := (-25)) 4 (by decide +kernel) (by decide) ?_
  refine Fr_loc [2, 1, 0] rfl ?_
  exact hk4 (v0, (s1 + s0), (v2 + 1)) M h
set_option maxRecDepth 20000 in
theorem t_X12_sizeOf_h4 {N : Nat} {q : Int32 × Mem} {k4 : Int32 × Int32 × Int32 → Mem → Option (Int32 × Mem)} (hk4 : ∀ (a : Int32 × Int32 × Int32) (M : Mem), k4 a M = some q → Fr 200 21 1 m_X12_sizeOf 4 [(0, .int a.1), (1, .int a.2.1), (2, .int a.2.2)] [] M (QI q)) {v0 : Int32} {v1 : Int32} {v2 : Int32} {M : Mem} (h : f_X12_sizeOf_h4 N k4 v0 v1 v2 M = some q) : Fr 200 21 1 m_X12_sizeOf 4 [(0, .int v0), (1, .int v1), (2, .int v2)] [] M (QI q) := by
  unfold f_X12_sizeOf_h4 at h
  refine Fr_iload_n (q := 2) (i := 2) 2 (by decide +kernel) rfl rfl ?_
  refine Fr_bipush (i := 6) (v := 6) (by decide +kernel) (by decide) ?_
  refine Fr_icmp_ge (off := 25) 32 (by decide +kernel) (by decide) (fun hc => ?_) (fun hc => ?_)
  · have h := iT hc h
    refine Fr_iload_n (q := 1) (i := 1) 1 (by decide +kernel) rfl rfl ?_
    obtain rfl := Option.some.inj h
    exact Fr_iret (by decide +kernel) rfl ⟨rfl, rfl⟩
  · have h := iF hc h
    refine Fr_iload_n (q := 1) (i := 1) 1 (by decide +kernel) rfl rfl ?_
    refine Fr_iload_n (q := 0) (i := 0) 0 (by decide +kernel) rfl rfl ?_
    refine Fr_iload_n (q := 2) (i := 2) 2 (by decide +kernel) rfl rfl ?_
    obtain ⟨r_3, M_1, hc_2, h⟩ := bi_elim h
    refine Fr_cSb (ν := m_X12_has) (As := [.int v0, .int v2]) (st := [.int v1]) (d' := 0) (by decide +kernel) ml_X12_123 cs_X12_has rfl (by decide) (Nat.le_of_ble_eq_true rfl) (t_X12_has hc_2) ?_
    refine Fr_if_eq (off := 7) 23 (by decide +kernel) (by decide) (fun hc => ?_) (fun hc => ?_)
    · have h := iT hc h
      refine Fr_iconst (i := 0) (v := 0) (by decide +kernel) (by decide) ?_
      refine Fr_loc [0, 2] rfl ?_
      exact t_X12_sizeOf_b24 hk4 h
    · have h := iF hc h
      refine Fr_iconst (i := 1) (v := 1) (by decide +kernel) (by decide) ?_
      refine Fr_goto (off := 4) 24 (by decide +kernel) (by decide) ?_
      refine Fr_loc [0, 2] rfl ?_
      exact t_X12_sizeOf_b24 hk4 h
set_option maxRecDepth 20000 in
theorem t_X12_sizeOf {N : Nat} {x0 : Int32} {M : Mem} {q : Int32 × Mem} (h : f_X12_sizeOf N x0 M = some q) : Ev 200 21 1 m_X12_sizeOf [.int x0] M (QI q) := by
  refine Ev_of_Fr (by decide +kernel) (Nat.le_of_ble_eq_true rfl) ?_
  show Fr 200 21 1 m_X12_sizeOf 0 [(0, .int x0)] [] M (QI q)
  unfold f_X12_sizeOf at h
  refine Fr_iconst (i := 0) (v := 0) (by decide +kernel) (by decide) ?_
  refine Fr_istore_n (q := 1) (i := 1) (lv' := [(1, .int 0), (0, .int x0)]) (by decide +kernel) rfl (by decide) rfl ?_
  refine Fr_iconst (i := 0) (v := 0) (by decide +kernel) (by decide) ?_
  refine Fr_istore_n (q := 2) (i := 2) (lv' := [(2, .int 0), (1, .int 0), (0, .int x0)]) (by decide +kernel) rfl (by decide) rfl ?_
  refine Fr_loc [2, 1, 0] rfl ?_
  exact lp_sound (body := fun k a m => f_X12_sizeOf_h4 N k a.1 a.2.1 a.2.2 m) (P := fun a M => Fr 200 21 1 m_X12_sizeOf 4 [(0, .int a.1), (1, .int a.2.1), (2, .int a.2.2)] [] M (QI q)) (fun k hk a m h => t_X12_sizeOf_h4 hk h) N (x0, 0, 0) M h
set_option maxRecDepth 20000 in
theorem t_X12_look2 {x1 : Int32} {M : Mem} {q : Int32 × Mem} (h : f_X12_look2 x1 M = some q) : Ev 200 21 0 m_X12_look2 [.ref 200, .int x1] M (QI q) := by
  refine Ev_of_Fr (by decide +kernel) (Nat.le_of_ble_eq_true rfl) ?_
  show Fr 200 21 0 m_X12_look2 0 [(0, .ref 200), (1, .int x1)] [] M (QI q)
  unfold f_X12_look2 at h
  refine Fr_iload_n (q := 1) (i := 1) 1 (by decide +kernel) rfl rfl ?_
  refine Fr_aload_n (q := 0) (i := 0) 0 (by decide +kernel) rfl rfl ?_
  refine gf_X12_127 rfl (by decide +kernel) ob_200 ?_
  refine Fr_icmp_ge (off := 16) 21 (by decide +kernel) (by decide) (fun hc => ?_) (fun hc => ?_)
  · have h := iT hc h
    refine Fr_iconst (i := 0) (v := 0) (by decide +kernel) (by decide) ?_
    obtain rfl := Option.some.inj h
    exact Fr_iret (by decide +kernel) rfl ⟨rfl, rfl⟩
  · have h := iF hc h
    refine Fr_aload_n (q := 0) (i := 0) 0 (by decide +kernel) rfl rfl ?_
    refine gf_X12_24 rfl (by decide +kernel) ob_200 ?_
    refine Fr_iload_n (q := 1) (i := 1) 1 (by decide +kernel) rfl rfl ?_
    obtain ⟨hi_1, h⟩ := ck_elim h
    refine Fr_bald (by decide +kernel) ob_204 (vp_of ln_204 hi_1) ?_
    refine Fr_sipush (i := 255) (v := 255) (by decide +kernel) (by decide) ?_
    refine Fr_iand (by decide +kernel) ?_
    refine Fr_goto (off := 4) 22 (by decide +kernel) (by decide) ?_
    obtain rfl := Option.some.inj h
    exact Fr_iret (by decide +kernel) rfl ⟨rfl, rfl⟩
set_option maxRecDepth 20000 in
theorem t_X12_isLetter {x0 : Int32} {M : Mem} {q : Bool × Mem} (h : f_X12_isLetter x0 M = some q) : Ev 200 21 0 m_X12_isLetter [.int x0] M (QB q) := by
  refine Ev_of_Fr (by decide +kernel) (Nat.le_of_ble_eq_true rfl) ?_
  show Fr 200 21 0 m_X12_isLetter 0 [(0, .int x0)] [] M (QB q)
  unfold f_X12_isLetter at h
  refine Fr_iload_n (q := 0) (i := 0) 0 (by decide +kernel) rfl rfl ?_
  refine Fr_bipush (i := 97) (v := 97) (by decide +kernel) (by decide) ?_
  refine Fr_icmp_lt (off := 13) 16 (by decide +kernel) (by decide) (fun hc => ?_) (fun hc => ?_)
  · have h := iT hc h
    refine Fr_iconst (i := 0) (v := 0) (by decide +kernel) (by decide) ?_
    obtain rfl := Option.some.inj h
    exact Fr_zret (by decide +kernel) rfl (by decide) ⟨rfl, rfl⟩
  · have h := iF hc h
    refine Fr_iload_n (q := 0) (i := 0) 0 (by decide +kernel) rfl rfl ?_
    refine Fr_bipush (i := 122) (v := 122) (by decide +kernel) (by decide) ?_
    refine Fr_icmp_gt (off := 7) 16 (by decide +kernel) (by decide) (fun hc => ?_) (fun hc => ?_)
    · have h := iT hc h
      refine Fr_iconst (i := 0) (v := 0) (by decide +kernel) (by decide) ?_
      obtain rfl := Option.some.inj h
      exact Fr_zret (by decide +kernel) rfl (by decide) ⟨rfl, rfl⟩
    · have h := iF hc h
      refine Fr_iconst (i := 1) (v := 1) (by decide +kernel) (by decide) ?_
      refine Fr_goto (off := 4) 17 (by decide +kernel) (by decide) ?_
      obtain rfl := Option.some.inj h
      exact Fr_zret (by decide +kernel) rfl (by decide) ⟨rfl, rfl⟩
set_option maxRecDepth 20000 in
theorem t_X12_isDigit {x0 : Int32} {M : Mem} {q : Bool × Mem} (h : f_X12_isDigit x0 M = some q) : Ev 200 21 0 m_X12_isDigit [.int x0] M (QB q) := by
  refine Ev_of_Fr (by decide +kernel) (Nat.le_of_ble_eq_true rfl) ?_
  show Fr 200 21 0 m_X12_isDigit 0 [(0, .int x0)] [] M (QB q)
  unfold f_X12_isDigit at h
  refine Fr_iload_n (q := 0) (i := 0) 0 (by decide +kernel) rfl rfl ?_
  refine Fr_bipush (i := 48) (v := 48) (by decide +kernel) (by decide) ?_
  refine Fr_icmp_lt (off := 13) 16 (by decide +kernel) (by decide) (fun hc => ?_) (fun hc => ?_)
  · have h := iT hc h
    refine Fr_iconst (i := 0) (v := 0) (by decide +kernel) (by decide) ?_
    obtain rfl := Option.some.inj h
    exact Fr_zret (by decide +kernel) rfl (by decide) ⟨rfl, rfl⟩
  · have h := iF hc h
    refine Fr_iload_n (q := 0) (i := 0) 0 (by decide +kernel) rfl rfl ?_
    refine Fr_bipush (i := 57) (v := 57) (by decide +kernel) (by decide) ?_
    refine Fr_icmp_gt (off := 7) 16 (by decide +kernel) (by decide) (fun hc => ?_) (fun hc => ?_)
    · have h := iT hc h
      refine Fr_iconst (i := 0) (v := 0) (by decide +kernel) (by decide) ?_
      obtain rfl := Option.some.inj h
      exact Fr_zret (by decide +kernel) rfl (by decide) ⟨rfl, rfl⟩
    · have h := iF hc h
      refine Fr_iconst (i := 1) (v := 1) (by decide +kernel) (by decide) ?_
      refine Fr_goto (off := 4) 17 (by decide +kernel) (by decide) ?_
      obtain rfl := Option.some.inj h
      exact Fr_zret (by decide +kernel) rfl (by decide) ⟨rfl, rfl⟩
