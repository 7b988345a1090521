set_option maxRecDepth 20000 in
theorem t_X12_wind {x1 : Int32} {M : Mem} {q : Bool × Mem} (h : f_X12_wind x1 M = some q) : Ev 200 21 1 m_X12_wind [.ref 200, .int x1] M (QB q) := by
  refine Ev_of_Fr (by decide +kernel) (Nat.le_of_ble_eq_true rfl) ?_
  show Fr 200 21 1 m_X12_wind 0 [(0, .ref 200), (1, .int x1)] [] M (QB q)
  unfold f_X12_wind at h
  refine Fr_aload_n (q := 0) (i := 0) 0 (by decide +kernel) rfl rfl ?_
  refine Fr_iconst (i := 0) (v := 0) (by decide +kernel) (by decide) ?_
  refine pf_X12_84 rfl (by decide +kernel) ob_200 ?_
  obtain ⟨M_1, eM_1, h⟩ := bM_elim h
  refine Fr_mem eM_1 ?_
  refine Fr_aload_n (q := 0) (i := 0) 0 (by decide +kernel) rfl rfl ?_
  refine Fr_iconst (i := 0) (v := 0) (by decide +kernel) (by decide) ?_
  refine pf_X12_87 rfl (by decide +kernel) ob_200 ?_
  obtain ⟨M_2, eM_2, h⟩ := bM_elim h
  refine Fr_mem eM_2 ?_
  refine Fr_iload_n (q := 1) (i := 1) 1 (by decide +kernel) rfl rfl ?_
  refine Fr_i2l (by decide +kernel) ?_
  refine Fr_lconst (i := 0) (v := 0) (by decide +kernel) (by decide) ?_
  refine Fr_ldc2 (idx := 383) (v := 4) (by decide +kernel) ll_X12_383 ?_
  obtain ⟨r_5, M_3, hc_4, h⟩ := bi_elim h
  refine Fr_cSb (ν := m_X12_isIn) (As := [.long (Int32.toInt64 x1), .long 0, .long 4]) (st := []) (d' := 0) (by decide +kernel) ml_X12_119 cs_X12_isIn rfl (by decide) (Nat.le_of_ble_eq_true rfl) (t_X12_isIn hc_4) ?_
  refine Fr_if_ne (off := 9) 28 (by decide +kernel) (by decide) (fun hc => ?_) (fun hc => ?_)
  · have h := iF hc h
    refine Fr_aload_n (q := 0) (i := 0) 0 (by decide +kernel) rfl rfl ?_
    refine gf_X12_35 rfl (by decide +kernel) ob_200 ?_
    refine Fr_bipush (i := 6) (v := 6) (by decide +kernel) (by decide) ?_
    obtain ⟨hi_6, h⟩ := ck_elim h
    refine Fr_iald (by decide +kernel) ob_205 (vp_of ln_205 hi_6) ?_
    refine Fr_iload_n (q := 1) (i := 1) 1 (by decide +kernel) rfl rfl ?_
    refine Fr_icmp_ne (off := 10) 46 (by decide +kernel) (by decide) (fun hc => ?_) (fun hc => ?_)
    · have h := iF hc h
      refine Fr_aload_n (q := 0) (i := 0) 0 (by decide +kernel) rfl rfl ?_
      refine gf_X12_35 rfl (by decide +kernel) ob_200 ?_
      refine Fr_bipush (i := 6) (v := 6) (by decide +kernel) (by decide) ?_
      refine Fr_iload_n (q := 1) (i := 1) 1 (by decide +kernel) rfl rfl ?_
      obtain ⟨hi_7, h⟩ := ck_elim h
      refine Fr_iast (by decide +kernel) ob_205 (vp_of ln_205 hi_7) ?_
      obtain ⟨M_8, eM_8, h⟩ := bM_elim h
      refine Fr_mem eM_8 ?_
      refine Fr_iconst (i := 1) (v := 1) (by decide +kernel) (by decide) ?_
      obtain rfl := Option.some.inj h
      exact Fr_zret (by decide +kernel) rfl (by decide) ⟨rfl, rfl⟩
    · have h := iT hc h
      refine Fr_aload_n (q := 0) (i := 0) 0 (by decide +kernel) rfl rfl ?_
      refine Fr_bipush (i := 9) (v := 9) (by decide +kernel) (by decide) ?_
      obtain ⟨r_11, M_9, hc_10, h⟩ := bi_elim h
      refine Fr_cVb (ν := m_X12_no) (As := [.int 9]) (st := []) (rc := 200) (ci := 12) (d' := 0) (by decide +kernel) ml_X12_99 cv_X12_no rfl (by decide) rfl ob_200 rfl (by decide) (Nat.le_of_ble_eq_true rfl) (t_X12_no hc_10) ?_
      obtain rfl := Option.some.inj h
      exact Fr_zret (by decide +kernel) rfl (nz_b r_11) ⟨rfl, rfl⟩
  · have h := iT hc h
    refine Fr_aload_n (q := 0) (i := 0) 0 (by decide +kernel) rfl rfl ?_
    refine Fr_iconst (i := 5) (v := 5) (by decide +kernel) (by decide) ?_
    obtain ⟨r_14, M_12, hc_13, h⟩ := bi_elim h
    refine Fr_cVb (ν := m_X12_no) (As := [.int 5]) (st := []) (rc := 200) (ci := 12) (d' := 0) (by decide +kernel) ml_X12_99 cv_X12_no rfl (by decide) rfl ob_200 rfl (by decide) (Nat.le_of_ble_eq_true rfl) (t_X12_no hc_13) ?_
    obtain rfl := Option.some.inj h
    exact Fr_zret (by decide +kernel) rfl (nz_b r_14) ⟨rfl, rfl⟩
set_option maxRecDepth 20000 in
theorem t_X12_sweep {x1 : Int32} {x2 : Int32} {M : Mem} {q : Int32 × Mem} (h : f_X12_sweep x1 x2 M = some q) : Ev 200 21 2 m_X12_sweep [.ref 200, .int x1, .int x2] M (QI q) := by
  refine Ev_of_Fr (by decide +kernel) (Nat.le_of_ble_eq_true rfl) ?_
  show Fr 200 21 2 m_X12_sweep 0 [(0, .ref 200), (1, .int x1), (2, .int x2)] [] M (QI q)
  unfold f_X12_sweep at h
  refine Fr_aload_n (q := 0) (i := 0) 0 (by decide +kernel) rfl rfl ?_
  refine Fr_iconst (i := 0) (v := 0) (by decide +kernel) (by decide) ?_
  refine pf_X12_84 rfl (by decide +kernel) ob_200 ?_
  obtain ⟨M_1, eM_1, h⟩ := bM_elim h
  refine Fr_mem eM_1 ?_
  refine Fr_aload_n (q := 0) (i := 0) 0 (by decide +kernel) rfl rfl ?_
  refine Fr_iconst (i := 0) (v := 0) (by decide +kernel) (by decide) ?_
  refine pf_X12_87 rfl (by decide +kernel) ob_200 ?_
  obtain ⟨M_2, eM_2, h⟩ := bM_elim h
  refine Fr_mem eM_2 ?_
  refine Fr_aload_n (q := 0) (i := 0) 0 (by decide +kernel) rfl rfl ?_
  refine Fr_iload_n (q := 1) (i := 1) 1 (by decide +kernel) rfl rfl ?_
  refine Fr_iload_n (q := 2) (i := 2) 2 (by decide +kernel) rfl rfl ?_
  obtain ⟨r_5, M_3, hc_4, h⟩ := bi_elim h
  refine Fr_cVb (ν := m_X12_isBoard) (As := [.int x1, .int x2]) (st := []) (rc := 200) (ci := 12) (d' := 1) (by decide +kernel) ml_X12_393 cv_X12_isBoard rfl (by decide) rfl ob_200 rfl (by decide) (Nat.le_of_ble_eq_true rfl) (t_X12_isBoard hc_4) ?_
  refine Fr_if_ne (off := 9) 25 (by decide +kernel) (by decide) (fun hc => ?_) (fun hc => ?_)
  · have h := iF hc h
    refine Fr_aload_n (q := 0) (i := 0) 0 (by decide +kernel) rfl rfl ?_
    refine Fr_iload_n (q := 1) (i := 1) 1 (by decide +kernel) rfl rfl ?_
    refine Fr_iload_n (q := 2) (i := 2) 2 (by decide +kernel) rfl rfl ?_
    obtain ⟨r_8, M_6, hc_7, h⟩ := bi_elim h
    refine Fr_cVi (ν := m_X12_board) (As := [.int x1, .int x2]) (st := []) (rc := 200) (ci := 12) (d' := 0) (by decide +kernel) ml_X12_396 cv_X12_board rfl (by decide) rfl ob_200 rfl (by decide) (Nat.le_of_ble_eq_true rfl) (t_X12_board hc_7) ?_
    refine Fr_istore_n (q := 3) (i := 3) (lv' := [(3, .int r_8), (0, .ref 200), (1, .int x1), (2, .int x2)]) (by decide +kernel) rfl (by decide) rfl ?_
    refine Fr_aload_n (q := 0) (i := 0) 1 (by decide +kernel) rfl rfl ?_
    refine Fr_iload_n (q := 3) (i := 3) 0 (by decide +kernel) rfl rfl ?_
    obtain ⟨r_11, M_9, hc_10, h⟩ := bi_elim h
    refine Fr_cVi (ν := m_X12_fogOf) (As := [.int r_8]) (st := []) (rc := 200) (ci := 12) (d' := 0) (by decide +kernel) ml_X12_360 cv_X12_fogOf rfl (by decide) rfl ob_200 rfl (by decide) (Nat.le_of_ble_eq_true rfl) (t_X12_fogOf hc_10) ?_
    refine Fr_istore (i := 4) (lv' := [(4, .int r_11), (3, .int r_8), (0, .ref 200), (1, .int x1), (2, .int x2)]) (by decide +kernel) (by decide) rfl ?_
    refine Fr_aload_n (q := 0) (i := 0) 2 (by decide +kernel) rfl rfl ?_
    refine gf_X12_35 rfl (by decide +kernel) ob_200 ?_
    refine Fr_bipush (i := 103) (v := 103) (by decide +kernel) (by decide) ?_
    refine Fr_iload_n (q := 3) (i := 3) 1 (by decide +kernel) rfl rfl ?_
    refine Fr_iadd (by decide +kernel) ?_
    refine Fr_iconst (i := 0) (v := 0) (by decide +kernel) (by decide) ?_
    obtain ⟨hi_12, h⟩ := ck_elim h
    refine Fr_iast (by decide +kernel) ob_205 (vp_of ln_205 hi_12) ?_
    obtain ⟨M_13, eM_13, h⟩ := bM_elim h
    refine Fr_mem eM_13 ?_
    refine Fr_aload_n (q := 0) (i := 0) 2 (by decide +kernel) rfl rfl ?_
    refine gf_X12_35 rfl (by decide +kernel) ob_200 ?_
    refine Fr_sipush (i := 133) (v := 133) (by decide +kernel) (by decide) ?_
    refine Fr_iload_n (q := 3) (i := 3) 1 (by decide +kernel) rfl rfl ?_
    refine Fr_iadd (by decide +kernel) ?_
    refine Fr_iconst (i := 0) (v := 0) (by decide +kernel) (by decide) ?_
    obtain ⟨hi_14, h⟩ := ck_elim h
    refine Fr_iast (by decide +kernel) ob_205 (vp_of ln_205 hi_14) ?_
    obtain ⟨M_15, eM_15, h⟩ := bM_elim h
    refine Fr_mem eM_15 ?_
    refine Fr_iload (i := 4) 0 (by decide +kernel) rfl ?_
    obtain rfl := Option.some.inj h
    exact Fr_iret (by decide +kernel) rfl ⟨rfl, rfl⟩
  · have h := iT hc h
    refine Fr_aload_n (q := 0) (i := 0) 0 (by decide +kernel) rfl rfl ?_
    refine Fr_iconst (i := 2) (v := 2) (by decide +kernel) (by decide) ?_
    obtain ⟨r_18, M_16, hc_17, h⟩ := bi_elim h
    refine Fr_cVi (ν := m_X12_refuse) (As := [.int 2]) (st := []) (rc := 200) (ci := 12) (d' := 0) (by decide +kernel) ml_X12_371 cv_X12_refuse rfl (by decide) rfl ob_200 rfl (by decide) (Nat.le_of_ble_eq_true rfl) (t_X12_refuse hc_17) ?_
    obtain rfl := Option.some.inj h
    exact Fr_iret (by decide +kernel) rfl ⟨rfl, rfl⟩
set_option maxRecDepth 20000 in
theorem t_X12_breathe {x1 : Int32} {x2 : Int32} {x3 : Int32} {x4 : Int32} {M : Mem} {q : Int32 × Mem} (h : f_X12_breathe x1 x2 x3 x4 M = some q) : Ev 200 21 2 m_X12_breathe [.ref 200, .int x1, .int x2, .int x3, .int x4] M (QI q) := by
  refine Ev_of_Fr (by decide +kernel) (Nat.le_of_ble_eq_true rfl) ?_
  show Fr 200 21 2 m_X12_breathe 0 [(0, .ref 200), (1, .int x1), (2, .int x2), (3, .int x3), (4, .int x4)] [] M (QI q)
  unfold f_X12_breathe at h
  refine Fr_aload_n (q := 0) (i := 0) 0 (by decide +kernel) rfl rfl ?_
  refine Fr_iconst (i := 0) (v := 0) (by decide +kernel) (by decide) ?_
  refine pf_X12_84 rfl (by decide +kernel) ob_200 ?_
  obtain ⟨M_1, eM_1, h⟩ := bM_elim h
  refine Fr_mem eM_1 ?_
  refine Fr_aload_n (q := 0) (i := 0) 0 (by decide +kernel) rfl rfl ?_
  refine Fr_iconst (i := 0) (v := 0) (by decide +kernel) (by decide) ?_
  refine pf_X12_87 rfl (by decide +kernel) ob_200 ?_
  obtain ⟨M_2, eM_2, h⟩ := bM_elim h
  refine Fr_mem eM_2 ?_
  refine Fr_aload_n (q := 0) (i := 0) 0 (by decide +kernel) rfl rfl ?_
  refine Fr_iload_n (q := 1) (i := 1) 1 (by decide +kernel) rfl rfl ?_
  refine Fr_iload_n (q := 2) (i := 2) 2 (by decide +kernel) rfl rfl ?_
  obtain ⟨r_5, M_3, hc_4, h⟩ := bi_elim h
  refine Fr_cVb (ν := m_X12_isBoard) (As := [.int x1, .int x2]) (st := []) (rc := 200) (ci := 12) (d' := 1) (by decide +kernel) ml_X12_393 cv_X12_isBoard rfl (by decide) rfl ob_200 rfl (by decide) (Nat.le_of_ble_eq_true rfl) (t_X12_isBoard hc_4) ?_
  refine Fr_if_ne (off := 9) 25 (by decide +kernel) (by decide) (fun hc => ?_) (fun hc => ?_)
  · have h := iF hc h
    refine Fr_iload_n (q := 3) (i := 3) 3 (by decide +kernel) rfl rfl ?_
    refine Fr_i2l (by decide +kernel) ?_
    refine Fr_lconst (i := 0) (v := 0) (by decide +kernel) (by decide) ?_
    refine Fr_lconst (i := 1) (v := 1) (by decide +kernel) (by decide) ?_
    obtain ⟨r_8, M_6, hc_7, h⟩ := bi_elim h
    refine Fr_cSb (ν := m_X12_isIn) (As := [.long (Int32.toInt64 x3), .long 0, .long 1]) (st := []) (d' := 0) (by decide +kernel) ml_X12_119 cs_X12_isIn rfl (by decide) (Nat.le_of_ble_eq_true rfl) (t_X12_isIn hc_7) ?_
    refine Fr_if_eq (off := 16) 48 (by decide +kernel) (by decide) (fun hc => ?_) (fun hc => ?_)
    · have h := iT hc h
      refine Fr_aload_n (q := 0) (i := 0) 0 (by decide +kernel) rfl rfl ?_
      refine Fr_iconst (i := 5) (v := 5) (by decide +kernel) (by decide) ?_
      obtain ⟨r_11, M_9, hc_10, h⟩ := bi_elim h
      refine Fr_cVi (ν := m_X12_refuse) (As := [.int 5]) (st := []) (rc := 200) (ci := 12) (d' := 0) (by decide +kernel) ml_X12_371 cv_X12_refuse rfl (by decide) rfl ob_200 rfl (by decide) (Nat.le_of_ble_eq_true rfl) (t_X12_refuse hc_10) ?_
      obtain rfl := Option.some.inj h
      exact Fr_iret (by decide +kernel) rfl ⟨rfl, rfl⟩
    · have h := iF hc h
      refine Fr_iload (i := 4) 4 (by decide +kernel) rfl ?_
      refine Fr_i2l (by decide +kernel) ?_
      refine Fr_lconst (i := 1) (v := 1) (by decide +kernel) (by decide) ?_
      refine Fr_ldc2 (idx := 437) (v := 999) (by decide +kernel) ll_X12_437 ?_
      obtain ⟨r_14, M_12, hc_13, h⟩ := bi_elim h
      refine Fr_cSb (ν := m_X12_isIn) (As := [.long (Int32.toInt64 x4), .long 1, .long 999]) (st := []) (d' := 0) (by decide +kernel) ml_X12_119 cs_X12_isIn rfl (by decide) (Nat.le_of_ble_eq_true rfl) (t_X12_isIn hc_13) ?_
      refine Fr_if_ne (off := 9) 54 (by decide +kernel) (by decide) (fun hc => ?_) (fun hc => ?_)
      · have h := iF hc h
        refine Fr_bipush (i := 103) (v := 103) (by decide +kernel) (by decide) ?_
        refine Fr_bipush (i := 30) (v := 30) (by decide +kernel) (by decide) ?_
        refine Fr_iload_n (q := 3) (i := 3) 3 (by decide +kernel) rfl rfl ?_
        refine Fr_imul (by decide +kernel) ?_
        refine Fr_iadd (by decide +kernel) ?_
        refine Fr_aload_n (q := 0) (i := 0) 0 (by decide +kernel) rfl rfl ?_
        refine Fr_iload_n (q := 1) (i := 1) 1 (by decide +kernel) rfl rfl ?_
        refine Fr_iload_n (q := 2) (i := 2) 2 (by decide +kernel) rfl rfl ?_
        obtain ⟨r_17, M_15, hc_16, h⟩ := bi_elim h
        refine Fr_cVi (ν := m_X12_board) (As := [.int x1, .int x2]) (st := [.int (103 + (30 * x3))]) (rc := 200) (ci := 12) (d' := 0) (by decide +kernel) ml_X12_396 cv_X12_board rfl (by decide) rfl ob_200 rfl (by decide) (Nat.le_of_ble_eq_true rfl) (t_X12_board hc_16) ?_
        refine Fr_iadd (by decide +kernel) ?_
        refine Fr_istore (i := 5) (lv' := [(5, .int ((103 + (30 * x3)) + r_17)), (0, .ref 200), (1, .int x1), (2, .int x2), (3, .int x3), (4, .int x4)]) (by decide +kernel) (by decide) rfl ?_
        refine Fr_aload_n (q := 0) (i := 0) 1 (by decide +kernel) rfl rfl ?_
        refine gf_X12_35 rfl (by decide +kernel) ob_200 ?_
        refine Fr_iload (i := 5) 0 (by decide +kernel) rfl ?_
        refine Fr_sipush (i := 999) (v := 999) (by decide +kernel) (by decide) ?_
        refine Fr_aload_n (q := 0) (i := 0) 1 (by decide +kernel) rfl rfl ?_
        refine gf_X12_35 rfl (by decide +kernel) ob_200 ?_
        refine Fr_iload (i := 5) 0 (by decide +kernel) rfl ?_
        obtain ⟨hi_18, h⟩ := ck_elim h
        refine Fr_iald (by decide +kernel) ob_205 (vp_of ln_205 hi_18) ?_
        refine Fr_iload (i := 4) 5 (by decide +kernel) rfl ?_
        refine Fr_iadd (by decide +kernel) ?_
        refine Fr_min (by decide +kernel) ml_X12_408 (by decide) (Nat.le_of_ble_eq_true rfl) ?_
        obtain ⟨hi_19, h⟩ := ck_elim h
        refine Fr_iast (by decide +kernel) ob_205 (vp_of ln_205 hi_19) ?_
        obtain ⟨M_20, eM_20, h⟩ := bM_elim h
        refine Fr_mem eM_20 ?_
        refine Fr_aload_n (q := 0) (i := 0) 1 (by decide +kernel) rfl rfl ?_
        refine gf_X12_35 rfl (by decide +kernel) ob_200 ?_
        refine Fr_iload (i := 5) 0 (by decide +kernel) rfl ?_
        obtain ⟨hi_21, h⟩ := ck_elim h
        refine Fr_iald (by decide +kernel) ob_205 (vp_of ln_205 hi_21) ?_
        obtain rfl := Option.some.inj h
        exact Fr_iret (by decide +kernel) rfl ⟨rfl, rfl⟩
      · have h := iT hc h
        refine Fr_aload_n (q := 0) (i := 0) 0 (by decide +kernel) rfl rfl ?_
        refine Fr_iconst (i := 5) (v := 5) (by decide +kernel) (by decide) ?_
        obtain ⟨r_24, M_22, hc_23, h⟩ := bi_elim h
        refine Fr_cVi (ν := m_X12_refuse) (As := [.int 5]) (st := []) (rc := 200) (ci := 12) (d' := 0) (by decide +kernel) ml_X12_371 cv_X12_refuse rfl (by decide) rfl ob_200 rfl (by decide) (Nat.le_of_ble_eq_true rfl) (t_X12_refuse hc_23) ?_
        obtain rfl := Option.some.inj h
        exact Fr_iret (by decide +kernel) rfl ⟨rfl, rfl⟩
  · have h := iT hc h
    refine Fr_aload_n (q := 0) (i := 0) 0 (by decide +kernel) rfl rfl ?_
    refine Fr_iconst (i := 2) (v := 2) (by decide +kernel) (by decide) ?_
    obtain ⟨r_27, M_25, hc_26, h⟩ := bi_elim h
    refine Fr_cVi (ν := m_X12_refuse) (As := [.int 2]) (st := []) (rc := 200) (ci := 12) (d' := 0) (by decide +kernel) ml_X12_371 cv_X12_refuse rfl (by decide) rfl ob_200 rfl (by decide) (Nat.le_of_ble_eq_true rfl) (t_X12_refuse hc_26) ?_
    obtain rfl := Option.some.inj h
    exact Fr_iret (by decide +kernel) rfl ⟨rfl, rfl⟩
set_option maxRecDepth 20000 in
theorem t_X12_tow_b66 {q : Bool × Mem} {v1 : Int32} {v2 : Int32} {v3 : Int32} {M : Mem} (h : f_X12_tow_b66 v1 v2 v3 M = some q) : Fr 200 21 2 m_X12_tow 66 [(0, .ref 200), (1, .int v1), (2, .int v2), (3, .int v3)] [] M (QB q) := by
  unfold f_X12_tow_b66 at h
  refine Fr_aload_n (q := 0) (i := 0) 0 (by decide +kernel) rfl rfl ?_
  refine gf_X12_35 rfl (by decide +kernel) ob_200 ?_
  refine Fr_bipush (i := 83) (v := 83) (by decide +kernel) (by decide) ?_
  refine Fr_iload_n (q := 1) (i := 1) 1 (by decide +kernel) rfl rfl ?_
  refine Fr_iadd (by decide +kernel) ?_
  refine Fr_iload_n (q := 2) (i := 2) 2 (by decide +kernel) rfl rfl ?_
  obtain ⟨hi_13, h⟩ := ck_elim h
  refine Fr_iast (by decide +kernel) ob_205 (vp_of ln_205 hi_13) ?_
  obtain ⟨M_14, eM_14, h⟩ := bM_elim h
  refine Fr_mem eM_14 ?_
  refine Fr_aload_n (q := 0) (i := 0) 0 (by decide +kernel) rfl rfl ?_
  refine gf_X12_35 rfl (by decide +kernel) ob_200 ?_
  refine Fr_bipush (i := 87) (v := 87) (by decide +kernel) (by decide) ?_
  refine Fr_iload_n (q := 1) (i := 1) 1 (by decide +kernel) rfl rfl ?_
  refine Fr_iadd (by decide +kernel) ?_
  refine Fr_iload_n (q := 3) (i := 3) 3 (by decide +kernel) rfl rfl ?_
  obtain ⟨hi_15, h⟩ := ck_elim h
  refine Fr_iast (by decide +kernel) ob_205 (vp_of ln_205 hi_15) ?_
  obtain ⟨M_16, eM_16, h⟩ := bM_elim h
  refine Fr_mem eM_16 ?_
  refine Fr_iconst (i := 1) (v := 1) (by decide +kernel) (by decide) ?_
  obtain rfl := Option.some.inj h
  exact Fr_zret (by decide +kernel) rfl (by decide) ⟨rfl, rfl⟩
set_option maxRecDepth 20000 in
theorem t_X12_tow {x1 : Int32} {x2 : Int32} {x3 : Int32} {M : Mem} {q : Bool × Mem} (h : f_X12_tow x1 x2 x3 M = some q) : Ev 200 21 2 m_X12_tow [.ref 200, .int x1, .int x2, .int x3] M (QB q) := by
  refine Ev_of_Fr (by decide +kernel) (Nat.le_of_ble_eq_true rfl) ?_
  show Fr 200 21 2 m_X12_tow 0 [(0, .ref 200), (1, .int x1), (2, .int x2), (3, .int x3)] [] M (QB q)
  unfold f_X12_tow at h
  refine Fr_aload_n (q := 0) (i := 0) 0 (by decide +kernel) rfl rfl ?_
  refine Fr_iconst (i := 0) (v := 0) (by decide +kernel) (by decide) ?_
  refine pf_X12_84 rfl (by decide +kernel) ob_200 ?_
  obtain ⟨M_1, eM_1, h⟩ := bM_elim h
  refine Fr_mem eM_1 ?_
  refine Fr_aload_n (q := 0) (i := 0) 0 (by decide +kernel) rfl rfl ?_
  refine Fr_iconst (i := 0) (v := 0) (by decide +kernel) (by decide) ?_
  refine pf_X12_87 rfl (by decide +kernel) ob_200 ?_
  obtain ⟨M_2, eM_2, h⟩ := bM_elim h
  refine Fr_mem eM_2 ?_
  refine Fr_aload_n (q := 0) (i := 0) 0 (by decide +kernel) rfl rfl ?_
  refine Fr_iload_n (q := 1) (i := 1) 1 (by decide +kernel) rfl rfl ?_
  obtain ⟨r_5, M_3, hc_4, h⟩ := bi_elim h
  refine Fr_cVb (ν := m_X12_isShipAt) (As := [.int x1]) (st := []) (rc := 200) (ci := 12) (d' := 1) (by decide +kernel) ml_X12_390 cv_X12_isShipAt rfl (by decide) rfl ob_200 rfl (by decide) (Nat.le_of_ble_eq_true rfl) (t_X12_isShipAt hc_4) ?_
  refine Fr_if_eq (off := 12) 27 (by decide +kernel) (by decide) (fun hc => ?_) (fun hc => ?_)
  · have h := iT hc h
    refine Fr_aload_n (q := 0) (i := 0) 0 (by decide +kernel) rfl rfl ?_
    refine Fr_iconst (i := 2) (v := 2) (by decide +kernel) (by decide) ?_
    obtain ⟨r_8, M_6, hc_7, h⟩ := bi_elim h
    refine Fr_cVb (ν := m_X12_no) (As := [.int 2]) (st := []) (rc := 200) (ci := 12) (d' := 0) (by decide +kernel) ml_X12_99 cv_X12_no rfl (by decide) rfl ob_200 rfl (by decide) (Nat.le_of_ble_eq_true rfl) (t_X12_no hc_7) ?_
    obtain rfl := Option.some.inj h
    exact Fr_zret (by decide +kernel) rfl (nz_b r_8) ⟨rfl, rfl⟩
  · have h := iF hc h
    refine Fr_aload_n (q := 0) (i := 0) 0 (by decide +kernel) rfl rfl ?_
    refine Fr_iload_n (q := 2) (i := 2) 2 (by decide +kernel) rfl rfl ?_
    refine Fr_iload_n (q := 3) (i := 3) 3 (by decide +kernel) rfl rfl ?_
    obtain ⟨r_11, M_9, hc_10, h⟩ := bi_elim h
    refine Fr_cVb (ν := m_X12_isBoard) (As := [.int x2, .int x3]) (st := []) (rc := 200) (ci := 12) (d' := 1) (by decide +kernel) ml_X12_393 cv_X12_isBoard rfl (by decide) rfl ob_200 rfl (by decide) (Nat.le_of_ble_eq_true rfl) (t_X12_isBoard hc_10) ?_
    refine Fr_if_ne (off := 9) 33 (by decide +kernel) (by decide) (fun hc => ?_) (fun hc => ?_)
    · have h := iF hc h
      refine Fr_aload_n (q := 0) (i := 0) 0 (by decide +kernel) rfl rfl ?_
      refine gf_X12_35 rfl (by decide +kernel) ob_200 ?_
      refine Fr_bipush (i := 83) (v := 83) (by decide +kernel) (by decide) ?_
      refine Fr_iload_n (q := 1) (i := 1) 1 (by decide +kernel) rfl rfl ?_
      refine Fr_iadd (by decide +kernel) ?_
      obtain ⟨hi_12, h⟩ := ck_elim h
      refine Fr_iald (by decide +kernel) ob_205 (vp_of ln_205 hi_12) ?_
      refine Fr_iload_n (q := 2) (i := 2) 2 (by decide +kernel) rfl rfl ?_
      refine Fr_icmp_ne (off := 23) 66 (by decide +kernel) (by decide) (fun hc => ?_) (fun hc => ?_)
      · have h := iF hc h
        exact t_X12_tow_b66 h
      · have h := iT hc h
        refine Fr_aload_n (q := 0) (i := 0) 0 (by decide +kernel) rfl rfl ?_
        refine gf_X12_35 rfl (by decide +kernel) ob_200 ?_
        refine Fr_bipush (i := 87) (v := 87) (by decide +kernel) (by decide) ?_
        refine Fr_iload_n (q := 1) (i := 1) 1 (by decide +kernel) rfl rfl ?_
        refine Fr_iadd (by decide +kernel) ?_
        obtain ⟨hi_17, h⟩ := ck_elim h
        refine Fr_iald (by decide +kernel) ob_205 (vp_of ln_205 hi_17) ?_
        refine Fr_iload_n (q := 3) (i := 3) 3 (by decide +kernel) rfl rfl ?_
        refine Fr_icmp_ne (off := 10) 66 (by decide +kernel) (by decide) (fun hc => ?_) (fun hc => ?_)
        · have h := iF hc h
          exact t_X12_tow_b66 h
        · have h := iT hc h
          refine Fr_aload_n (q := 0) (i := 0) 0 (by decide +kernel) rfl rfl ?_
          refine Fr_bipush (i := 9) (v := 9) (by decide +kernel) (by decide) ?_
          obtain ⟨r_20, M_18, hc_19, h⟩ := bi_elim h
          refine Fr_cVb (ν := m_X12_no) (As := [.int 9]) (st := []) (rc := 200) (ci := 12) (d' := 0) (by decide +kernel) ml_X12_99 cv_X12_no rfl (by decide) rfl ob_200 rfl (by decide) (Nat.le_of_ble_eq_true rfl) (t_X12_no hc_19) ?_
          obtain rfl := Option.some.inj h
          exact Fr_zret (by decide +kernel) rfl (nz_b r_20) ⟨rfl, rfl⟩
    · have h := iT hc h
      refine Fr_aload_n (q := 0) (i := 0) 0 (by decide +kernel) rfl rfl ?_
      refine Fr_iconst (i := 2) (v := 2) (by decide +kernel) (by decide) ?_
      obtain ⟨r_23, M_21, hc_22, h⟩ := bi_elim h
      refine Fr_cVb (ν := m_X12_no) (As := [.int 2]) (st := []) (rc := 200) (ci := 12) (d' := 0) (by decide +kernel) ml_X12_99 cv_X12_no rfl (by decide) rfl ob_200 rfl (by decide) (Nat.le_of_ble_eq_true rfl) (t_X12_no hc_22) ?_
      obtain rfl := Option.some.inj h
      exact Fr_zret (by decide +kernel) rfl (nz_b r_23) ⟨rfl, rfl⟩
set_option maxRecDepth 20000 in
theorem t_X12_keeps_h2 {N : Nat} {q : Mem} {k2 : Int32 → Mem → Option (Mem)} (hk2 : ∀ (a : Int32) (M : Mem), k2 a M = some q → Fr 200 21 0 m_X12_keeps 2 [(0, .ref 200), (1, .int a)] [] M (QV q)) {v1 : Int32} {M : Mem} (h : f_X12_keeps_h2 N k2 v1 M = some q) : Fr 200 21 0 m_X12_keeps 2 [(0, .ref 200), (1, .int v1)] [] M (QV q) := by
  unfold f_X12_keeps_h2 at h
  refine Fr_iload_n (q := 1) (i := 1) 1 (by decide +kernel) rfl rfl ?_
  refine Fr_sipush (i := 163) (v := 163) (by decide +kernel) (by decide) ?_
  refine Fr_icmp_ge (off := 21) 27 (by decide +kernel) (by decide) (fun hc => ?_) (fun hc => ?_)
  · have h := iT hc h
    obtain rfl := Option.some.inj h
    exact Fr_vret (by decide +kernel) rfl ⟨rfl, rfl⟩
  · have h := iF hc h
    refine Fr_aload_n (q := 0) (i := 0) 0 (by decide +kernel) rfl rfl ?_
    refine gf_X12_38 rfl (by decide +kernel) ob_200 ?_
    refine Fr_iload_n (q := 1) (i := 1) 1 (by decide +kernel) rfl rfl ?_
    refine Fr_aload_n (q := 0) (i := 0) 0 (by decide +kernel) rfl rfl ?_
    refine gf_X12_35 rfl (by decide +kernel) ob_200 ?_
    refine Fr_iload_n (q := 1) (i := 1) 1 (by decide +kernel) rfl rfl ?_
    obtain ⟨hi_1, h⟩ := ck_elim h
    refine Fr_iald (by decide +kernel) ob_205 (vp_of ln_205 hi_1) ?_
    obtain ⟨hi_2, h⟩ := ck_elim h
    refine Fr_iast (by decide +kernel) ob_206 (vp_of ln_206 hi_2) ?_
    obtain ⟨M_3, eM_3, h⟩ := bM_elim h
    refine Fr_mem eM_3 ?_
    refine Fr_iinc (i := 1) (j := 1) (v := (v1 + 1)) (lv' := [(1, .int (v1 + 1)), (0, .ref 200)]) 1 (by decide +kernel) rfl rfl (by decide) rfl ?_
    refine Fr_goto (off := (-22)) 2 (by decide +kernel) (by decide) ?_
    refine Fr_loc [1, 0] rfl ?_
    exact hk2 (v1 + 1) M_3 h
set_option maxRecDepth 20000 in
theorem t_X12_keeps {N : Nat} {M : Mem} {q : Mem} (h : f_X12_keeps N M = some q) : Ev 200 21 0 m_X12_keeps [.ref 200] M (QV q) := by
  refine Ev_of_Fr (by decide +kernel) (Nat.le_of_ble_eq_true rfl) ?_
  show Fr 200 21 0 m_X12_keeps 0 [(0, .ref 200)] [] M (QV q)
  unfold f_X12_keeps at h
  refine Fr_iconst (i := 0) (v := 0) (by decide +kernel) (by decide) ?_
  refine Fr_istore_n (q := 1) (i := 1) (lv' := [(1, .int 0), (0, .ref 200)]) (by decide +kernel) rfl (by decide) rfl ?_
  refine Fr_loc [1, 0] rfl ?_
  exact lp_sound (body := fun k a m => f_X12_keeps_h2 N k a m) (P := fun a M => Fr 200 21 0 m_X12_keeps 2 [(0, .ref 200), (1, .int a)] [] M (QV q)) (fun k hk a m h => t_X12_keeps_h2 hk h) N 0 M h
set_option maxRecDepth 20000 in
theorem t_X12_gives_h2 {N : Nat} {q : Mem} {k2 : Int32 → Mem → Option (Mem)} (hk2 : ∀ (a : Int32) (M : Mem), k2 a M = some q → Fr 200 21 0 m_X12_gives 2 [(0, .ref 200), (1, .int a)] [] M (QV q)) {v1 : Int32} {M : Mem} (h : f_X12_gives_h2 N k2 v1 M = some q) : Fr 200 21 0 m_X12_gives 2 [(0, .ref 200), (1, .int v1)] [] M (QV q) := by
  unfold f_X12_gives_h2 at h
  refine Fr_iload_n (q := 1) (i := 1) 1 (by decide +kernel) rfl rfl ?_
  refine Fr_sipush (i := 163) (v := 163) (by decide +kernel) (by decide) ?_
  refine Fr_icmp_ge (off := 21) 27 (by decide +kernel) (by decide) (fun hc => ?_) (fun hc => ?_)
  · have h := iT hc h
    obtain rfl := Option.some.inj h
    exact Fr_vret (by decide +kernel) rfl ⟨rfl, rfl⟩
  · have h := iF hc h
    refine Fr_aload_n (q := 0) (i := 0) 0 (by decide +kernel) rfl rfl ?_
    refine gf_X12_35 rfl (by decide +kernel) ob_200 ?_
    refine Fr_iload_n (q := 1) (i := 1) 1 (by decide +kernel) rfl rfl ?_
    refine Fr_aload_n (q := 0) (i := 0) 0 (by decide +kernel) rfl rfl ?_
    refine gf_X12_38 rfl (by decide +kernel) ob_200 ?_
    refine Fr_iload_n (q := 1) (i := 1) 1 (by decide +kernel) rfl rfl ?_
    obtain ⟨hi_1, h⟩ := ck_elim h
    refine Fr_iald (by decide +kernel) ob_206 (vp_of ln_206 hi_1) ?_
    obtain ⟨hi_2, h⟩ := ck_elim h
    refine Fr_iast (by decide +kernel) ob_205 (vp_of ln_205 hi_2) ?_
    obtain ⟨M_3, eM_3, h⟩ := bM_elim h
    refine Fr_mem eM_3 ?_
    refine Fr_iinc (i := 1) (j := 1) (v := (v1 + 1)) (lv' := [(1, .int (v1 + 1)), (0, .ref 200)]) 1 (by decide +kernel) rfl rfl (by decide) rfl ?_
    refine Fr_goto (off := (-22)) 2 (by decide +kernel) (by decide) ?_
    refine Fr_loc [1, 0] rfl ?_
    exact hk2 (v1 + 1) M_3 h
set_option maxRecDepth 20000 in
theorem t_X12_gives {N : Nat} {M : Mem} {q : Mem} (h : f_X12_gives N M = some q) : Ev 200 21 0 m_X12_gives [.ref 200] M (QV q) := by
  refine Ev_of_Fr (by decide +kernel) (Nat.le_of_ble_eq_true rfl) ?_
  show Fr 200 21 0 m_X12_gives 0 [(0, .ref 200)] [] M (QV q)
  unfold f_X12_gives at h
  refine Fr_iconst (i := 0) (v := 0) (by decide +kernel) (by decide) ?_
  refine Fr_istore_n (q := 1) (i := 1) (lv' := [(1, .int 0), (0, .ref 200)]) (by decide +kernel) rfl (by decide) rfl ?_
  refine Fr_loc [1, 0] rfl ?_
  exact lp_sound (body := fun k a m => f_X12_gives_h2 N k a m) (P := fun a M => Fr 200 21 0 m_X12_gives 2 [(0, .ref 200), (1, .int a)] [] M (QV q)) (fun k hk a m h => t_X12_gives_h2 hk h) N 0 M h
set_option maxRecDepth 20000 in
theorem t_X12_later_h50 {N : Nat} {q : Int32 × Mem} {k50 : Int32 × Int32 × Int32 × Int32 → Mem → Option (Int32 × Mem)} (hk50 : ∀ (a : Int32 × Int32 × Int32 × Int32) (M : Mem), k50 a M = some q → Fr 200 21 5 m_X12_later 50 [(0, .ref 200), (1, .int a.1), (2, .int a.2.1), (3, .int a.2.2.1), (4, .int a.2.2.2)] [] M (QI q)) {v1 : Int32} {v2 : Int32} {v3 : Int32} {v4 : Int32} {M : Mem} (h : f_X12_later_h50 N k50 v1 v2 v3 v4 M = some q) : Fr 200 21 5 m_X12_later 50 [(0, .ref 200), (1, .int v1), (2, .int v2), (3, .int v3), (4, .int v4)] [] M (QI q) := by
  unfold f_X12_later_h50 at h
  refine Fr_iload (i := 4) 4 (by decide +kernel) rfl ?_
  refine Fr_iload_n (q := 3) (i := 3) 3 (by decide +kernel) rfl rfl ?_
  refine Fr_icmp_ge (off := 13) 66 (by decide +kernel) (by decide) (fun hc => ?_) (fun hc => ?_)
  · have h := iT hc h
    refine Fr_aload_n (q := 0) (i := 0) 0 (by decide +kernel) rfl rfl ?_
    refine Fr_aload_n (q := 0) (i := 0) 0 (by decide +kernel) rfl rfl ?_
    refine Fr_iload_n (q := 1) (i := 1) 1 (by decide +kernel) rfl rfl ?_
    refine Fr_iload_n (q := 2) (i := 2) 2 (by decide +kernel) rfl rfl ?_
    obtain ⟨r_13, M_11, hc_12, h⟩ := bi_elim h
    refine Fr_cVi (ν := m_X12_board) (As := [.int v1, .int v2]) (st := [.ref 200]) (rc := 200) (ci := 12) (d' := 0) (by decide +kernel) ml_X12_396 cv_X12_board rfl (by decide) rfl ob_200 rfl (by decide) (Nat.le_of_ble_eq_true rfl) (t_X12_board hc_12) ?_
    obtain ⟨r_16, M_14, hc_15, h⟩ := bi_elim h
    refine Fr_cVi (ν := m_X12_fogOf) (As := [.int r_13]) (st := []) (rc := 200) (ci := 12) (d' := 0) (by decide +kernel) ml_X12_360 cv_X12_fogOf rfl (by decide) rfl ob_200 rfl (by decide) (Nat.le_of_ble_eq_true rfl) (t_X12_fogOf hc_15) ?_
    refine Fr_istore (i := 4) (lv' := [(4, .int r_16), (0, .ref 200), (1, .int v1), (2, .int v2), (3, .int v3)]) (by decide +kernel) (by decide) rfl ?_
    refine Fr_aload_n (q := 0) (i := 0) 1 (by decide +kernel) rfl rfl ?_
    obtain ⟨M_17, hc_18, h⟩ := bv_elim h
    refine Fr_cVv (ν := m_X12_gives) (As := []) (st := []) (rc := 200) (ci := 12) (d' := 0) (by decide +kernel) ml_X12_442 cv_X12_gives rfl (by decide) rfl ob_200 rfl (by decide) (Nat.le_of_ble_eq_true rfl) (t_X12_gives hc_18) ?_
    refine Fr_iload (i := 4) 0 (by decide +kernel) rfl ?_
    obtain rfl := Option.some.inj h
    exact Fr_iret (by decide +kernel) rfl ⟨rfl, rfl⟩
  · have h := iF hc h
    refine Fr_aload_n (q := 0) (i := 0) 0 (by decide +kernel) rfl rfl ?_
    obtain ⟨M_19, hc_20, h⟩ := bv_elim h
    refine Fr_cVv (ν := m_X12_goesHour) (As := []) (st := []) (rc := 200) (ci := 12) (d' := 4) (by decide +kernel) ml_X12_422 cv_X12_goesHour rfl (by decide) rfl ob_200 rfl (by decide) (Nat.le_of_ble_eq_true rfl) (t_X12_goesHour hc_20) ?_
    refine Fr_iinc (i := 4) (j := 1) (v := (v4 + 1)) (lv' := [(4, .int (v4 + 1)), (0, .ref 200), (1, .int v1), (2, .int v2), (3, .int v3)]) 4 (by decide +kernel) rfl rfl (by decide) rfl ?_
    refine Fr_goto (off := (-13)) 50 (by decide +kernel) (by decide) ?_
    refine Fr_loc [1, 2, 3, 4, 0] rfl ?_
    exact hk50 (v1, v2, v3, (v4 + 1)) M_19 h
set_option maxRecDepth 20000 in
theorem t_X12_later {N : Nat} {x1 : Int32} {x2 : Int32} {x3 : Int32} {M : Mem} {q : Int32 × Mem} (h : f_X12_later N x1 x2 x3 M = some q) : Ev 200 21 5 m_X12_later [.ref 200, .int x1, .int x2, .int x3] M (QI q) := by
  refine Ev_of_Fr (by decide +kernel) (Nat.le_of_ble_eq_true rfl) ?_
  show Fr 200 21 5 m_X12_later 0 [(0, .ref 200), (1, .int x1), (2, .int x2), (3, .int x3)] [] M (QI q)
  unfold f_X12_later at h
  refine Fr_aload_n (q := 0) (i := 0) 0 (by decide +kernel) rfl rfl ?_
  refine Fr_iconst (i := 0) (v := 0) (by decide +kernel) (by decide) ?_
  refine pf_X12_84 rfl (by decide +kernel) ob_200 ?_
  obtain ⟨M_1, eM_1, h⟩ := bM_elim h
  refine Fr_mem eM_1 ?_
  refine Fr_aload_n (q := 0) (i := 0) 0 (by decide +kernel) rfl rfl ?_
  refine Fr_iconst (i := 0) (v := 0) (by decide +kernel) (by decide) ?_
  refine pf_X12_87 rfl (by decide +kernel) ob_200 ?_
  obtain ⟨M_2, eM_2, h⟩ := bM_elim h
  refine Fr_mem eM_2 ?_
  refine Fr_aload_n (q := 0) (i := 0) 0 (by decide +kernel) rfl rfl ?_
  refine Fr_iload_n (q := 1) (i := 1) 1 (by decide +kernel) rfl rfl ?_
  refine Fr_iload_n (q := 2) (i := 2) 2 (by decide +kernel) rfl rfl ?_
  obtain ⟨r_5, M_3, hc_4, h⟩ := bi_elim h
  refine Fr_cVb (ν := m_X12_isBoard) (As := [.int x1, .int x2]) (st := []) (rc := 200) (ci := 12) (d' := 1) (by decide +kernel) ml_X12_393 cv_X12_isBoard rfl (by decide) rfl ob_200 rfl (by decide) (Nat.le_of_ble_eq_true rfl) (t_X12_isBoard hc_4) ?_
  refine Fr_if_ne (off := 9) 25 (by decide +kernel) (by decide) (fun hc => ?_) (fun hc => ?_)
  · have h := iF hc h
    refine Fr_iload_n (q := 3) (i := 3) 3 (by decide +kernel) rfl rfl ?_
    refine Fr_i2l (by decide +kernel) ?_
    refine Fr_lconst (i := 0) (v := 0) (by decide +kernel) (by decide) ?_
    refine Fr_ldc2 (idx := 420) (v := 48) (by decide +kernel) ll_X12_420 ?_
    obtain ⟨r_8, M_6, hc_7, h⟩ := bi_elim h
    refine Fr_cSb (ν := m_X12_isIn) (As := [.long (Int32.toInt64 x3), .long 0, .long 48]) (st := []) (d' := 0) (by decide +kernel) ml_X12_119 cs_X12_isIn rfl (by decide) (Nat.le_of_ble_eq_true rfl) (t_X12_isIn hc_7) ?_
    refine Fr_if_ne (off := 9) 43 (by decide +kernel) (by decide) (fun hc => ?_) (fun hc => ?_)
    · have h := iF hc h
      refine Fr_aload_n (q := 0) (i := 0) 0 (by decide +kernel) rfl rfl ?_
      obtain ⟨M_9, hc_10, h⟩ := bv_elim h
      refine Fr_cVv (ν := m_X12_keeps) (As := []) (st := []) (rc := 200) (ci := 12) (d' := 0) (by decide +kernel) ml_X12_439 cv_X12_keeps rfl (by decide) rfl ob_200 rfl (by decide) (Nat.le_of_ble_eq_true rfl) (t_X12_keeps hc_10) ?_
      refine Fr_iconst (i := 0) (v := 0) (by decide +kernel) (by decide) ?_
      refine Fr_istore (i := 4) (lv' := [(4, .int 0), (0, .ref 200), (1, .int x1), (2, .int x2), (3, .int x3)]) (by decide +kernel) (by decide) rfl ?_
      refine Fr_loc [1, 2, 3, 4, 0] rfl ?_
      exact lp_sound (body := fun k a m => f_X12_later_h50 N k a.1 a.2.1 a.2.2.1 a.2.2.2 m) (P := fun a M => Fr 200 21 5 m_X12_later 50 [(0, .ref 200), (1, .int a.1), (2, .int a.2.1), (3, .int a.2.2.1), (4, .int a.2.2.2)] [] M (QI q)) (fun k hk a m h => t_X12_later_h50 hk h) N (x1, x2, x3, 0) M_9 h
    · have h := iT hc h
      refine Fr_aload_n (q := 0) (i := 0) 0 (by decide +kernel) rfl rfl ?_
      refine Fr_iconst (i := 5) (v := 5) (by decide +kernel) (by decide) ?_
      obtain ⟨r_23, M_21, hc_22, h⟩ := bi_elim h
      refine Fr_cVi (ν := m_X12_refuse) (As := [.int 5]) (st := []) (rc := 200) (ci := 12) (d' := 0) (by decide +kernel) ml_X12_371 cv_X12_refuse rfl (by decide) rfl ob_200 rfl (by decide) (Nat.le_of_ble_eq_true rfl) (t_X12_refuse hc_22) ?_
      obtain rfl := Option.some.inj h
      exact Fr_iret (by decide +kernel) rfl ⟨rfl, rfl⟩
  · have h := iT hc h
    refine Fr_aload_n (q := 0) (i := 0) 0 (by decide +kernel) rfl rfl ?_
    refine Fr_iconst (i := 2) (v := 2) (by decide +kernel) (by decide) ?_
    obtain ⟨r_26, M_24, hc_25, h⟩ := bi_elim h
    refine Fr_cVi (ν := m_X12_refuse) (As := [.int 2]) (st := []) (rc := 200) (ci := 12) (d' := 0) (by decide +kernel) ml_X12_371 cv_X12_refuse rfl (by decide) rfl ob_200 rfl (by decide) (Nat.le_of_ble_eq_true rfl) (t_X12_refuse hc_25) ?_
    obtain rfl := Option.some.inj h
    exact Fr_iret (by decide +kernel) rfl ⟨rfl, rfl⟩
set_option maxRecDepth 20000 in
theorem t_X12_hourWith_b31 {N : Nat} {q : Int32 × Mem} {v3 : Int32} {M : Mem} (h : f_X12_hourWith_b31 N v3 M = some q) : Fr 200 21 5 m_X12_hourWith 31 [(0, .ref 200), (3, .int v3)] [] M (QI q) := by
  unfold f_X12_hourWith_b31 at h
  refine Fr_aload_n (q := 0) (i := 0) 0 (by decide +kernel) rfl rfl ?_
  obtain ⟨M_3, hc_4, h⟩ := bv_elim h
  refine Fr_cVv (ν := m_X12_gives) (As := []) (st := []) (rc := 200) (ci := 12) (d' := 0) (by decide +kernel) ml_X12_442 cv_X12_gives rfl (by decide) rfl ob_200 rfl (by decide) (Nat.le_of_ble_eq_true rfl) (t_X12_gives hc_4) ?_
  refine Fr_iload_n (q := 3) (i := 3) 1 (by decide +kernel) rfl rfl ?_
  refine Fr_bipush (i := 48) (v := 48) (by decide +kernel) (by decide) ?_
  refine Fr_icmp_le (off := 7) 45 (by decide +kernel) (by decide) (fun hc => ?_) (fun hc => ?_)
  · have h := iT hc h
    refine Fr_iload_n (q := 3) (i := 3) 1 (by decide +kernel) rfl rfl ?_
    obtain rfl := Option.some.inj h
    exact Fr_iret (by decide +kernel) rfl ⟨rfl, rfl⟩
  · have h := iF hc h
    refine Fr_iconst (i := (-1)) (v := (-1)) (by decide +kernel) (by decide) ?_
    refine Fr_goto (off := 4) 46 (by decide +kernel) (by decide) ?_
    obtain rfl := Option.some.inj h
    exact Fr_iret (by decide +kernel) rfl ⟨rfl, rfl⟩
set_option maxRecDepth 20000 in
theorem t_X12_hourWith_h6 {N : Nat} {q : Int32 × Mem} {k6 : Int32 × Int32 × Int32 → Mem → Option (Int32 × Mem)} (hk6 : ∀ (a : Int32 × Int32 × Int32) (M : Mem), k6 a M = some q → Fr 200 21 5 m_X12_hourWith 6 [(0, .ref 200), (1, .int a.1), (2, .int a.2.1), (3, .int a.2.2)] [] M (QI q)) {v1 : Int32} {v2 : Int32} {v3 : Int32} {M : Mem} (h : f_X12_hourWith_h6 N k6 v1 v2 v3 M = some q) : Fr 200 21 5 m_X12_hourWith 6 [(0, .ref 200), (1, .int v1), (2, .int v2), (3, .int v3)] [] M (QI q) := by
  unfold f_X12_hourWith_h6 at h
  refine Fr_iload_n (q := 3) (i := 3) 3 (by decide +kernel) rfl rfl ?_
  refine Fr_bipush (i := 48) (v := 48) (by decide +kernel) (by decide) ?_
  refine Fr_icmp_gt (off := 22) 31 (by decide +kernel) (by decide) (fun hc => ?_) (fun hc => ?_)
  · have h := iT hc h
    refine Fr_loc [0, 3] rfl ?_
    exact t_X12_hourWith_b31 h
  · have h := iF hc h
    refine Fr_aload_n (q := 0) (i := 0) 0 (by decide +kernel) rfl rfl ?_
    refine Fr_iload_n (q := 1) (i := 1) 1 (by decide +kernel) rfl rfl ?_
    obtain ⟨r_7, M_5, hc_6, h⟩ := bi_elim h
    refine Fr_cVb (ν := m_X12_isFoggy) (As := [.int v1]) (st := []) (rc := 200) (ci := 12) (d' := 1) (by decide +kernel) ml_X12_366 cv_X12_isFoggy rfl (by decide) rfl ob_200 rfl (by decide) (Nat.le_of_ble_eq_true rfl) (t_X12_isFoggy hc_6) ?_
    refine Fr_iload_n (q := 2) (i := 2) 2 (by decide +kernel) rfl rfl ?_
    refine Fr_icmp_eq (off := 13) 31 (by decide +kernel) (by decide) (fun hc => ?_) (fun hc => ?_)
    · have h := iT hc h
      refine Fr_loc [0, 3] rfl ?_
      exact t_X12_hourWith_b31 h
    · have h := iF hc h
      refine Fr_aload_n (q := 0) (i := 0) 0 (by decide +kernel) rfl rfl ?_
      obtain ⟨M_8, hc_9, h⟩ := bv_elim h
      refine Fr_cVv (ν := m_X12_goesHour) (As := []) (st := []) (rc := 200) (ci := 12) (d' := 4) (by decide +kernel) ml_X12_422 cv_X12_goesHour rfl (by decide) rfl ob_200 rfl (by decide) (Nat.le_of_ble_eq_true rfl) (t_X12_goesHour hc_9) ?_
      refine Fr_iinc (i := 3) (j := 1) (v := (v3 + 1)) (lv' := [(3, .int (v3 + 1)), (0, .ref 200), (1, .int v1), (2, .int v2)]) 3 (by decide +kernel) rfl rfl (by decide) rfl ?_
      refine Fr_goto (off := (-22)) 6 (by decide +kernel) (by decide) ?_
      refine Fr_loc [1, 2, 3, 0] rfl ?_
      exact hk6 (v1, v2, (v3 + 1)) M_8 h
set_option maxRecDepth 20000 in
theorem t_X12_hourWith {N : Nat} {x1 : Int32} {x2 : Int32} {M : Mem} {q : Int32 × Mem} (h : f_X12_hourWith N x1 x2 M = some q) : Ev 200 21 5 m_X12_hourWith [.ref 200, .int x1, .int x2] M (QI q) := by
  refine Ev_of_Fr (by decide +kernel) (Nat.le_of_ble_eq_true rfl) ?_
  show Fr 200 21 5 m_X12_hourWith 0 [(0, .ref 200), (1, .int x1), (2, .int x2)] [] M (QI q)
  unfold f_X12_hourWith at h
  refine Fr_aload_n (q := 0) (i := 0) 0 (by decide +kernel) rfl rfl ?_
  obtain ⟨M_1, hc_2, h⟩ := bv_elim h
  refine Fr_cVv (ν := m_X12_keeps) (As := []) (st := []) (rc := 200) (ci := 12) (d' := 0) (by decide +kernel) ml_X12_439 cv_X12_keeps rfl (by decide) rfl ob_200 rfl (by decide) (Nat.le_of_ble_eq_true rfl) (t_X12_keeps hc_2) ?_
  refine Fr_iconst (i := 0) (v := 0) (by decide +kernel) (by decide) ?_
  refine Fr_istore_n (q := 3) (i := 3) (lv' := [(3, .int 0), (0, .ref 200), (1, .int x1), (2, .int x2)]) (by decide +kernel) rfl (by decide) rfl ?_
  refine Fr_loc [1, 2, 3, 0] rfl ?_
  exact lp_sound (body := fun k a m => f_X12_hourWith_h6 N k a.1 a.2.1 a.2.2 m) (P := fun a M => Fr 200 21 5 m_X12_hourWith 6 [(0, .ref 200), (1, .int a.1), (2, .int a.2.1), (3, .int a.2.2)] [] M (QI q)) (fun k hk a m h => t_X12_hourWith_h6 hk h) N (x1, x2, 0) M_1 h
set_option maxRecDepth 20000 in
theorem t_X12_lifts {N : Nat} {x1 : Int32} {x2 : Int32} {M : Mem} {q : Int32 × Mem} (h : f_X12_lifts N x1 x2 M = some q) : Ev 200 21 6 m_X12_lifts [.ref 200, .int x1, .int x2] M (QI q) := by
  refine Ev_of_Fr (by decide +kernel) (Nat.le_of_ble_eq_true rfl) ?_
  show Fr 200 21 6 m_X12_lifts 0 [(0, .ref 200), (1, .int x1), (2, .int x2)] [] M (QI q)
  unfold f_X12_lifts at h
  refine Fr_aload_n (q := 0) (i := 0) 0 (by decide +kernel) rfl rfl ?_
  refine Fr_iconst (i := 0) (v := 0) (by decide +kernel) (by decide) ?_
  refine pf_X12_84 rfl (by decide +kernel) ob_200 ?_
  obtain ⟨M_1, eM_1, h⟩ := bM_elim h
  refine Fr_mem eM_1 ?_
  refine Fr_aload_n (q := 0) (i := 0) 0 (by decide +kernel) rfl rfl ?_
  refine Fr_iconst (i := 0) (v := 0) (by decide +kernel) (by decide) ?_
  refine pf_X12_87 rfl (by decide +kernel) ob_200 ?_
  obtain ⟨M_2, eM_2, h⟩ := bM_elim h
  refine Fr_mem eM_2 ?_
  refine Fr_aload_n (q := 0) (i := 0) 0 (by decide +kernel) rfl rfl ?_
  refine Fr_iload_n (q := 1) (i := 1) 1 (by decide +kernel) rfl rfl ?_
  refine Fr_iload_n (q := 2) (i := 2) 2 (by decide +kernel) rfl rfl ?_
  obtain ⟨r_5, M_3, hc_4, h⟩ := bi_elim h
  refine Fr_cVb (ν := m_X12_isBoard) (As := [.int x1, .int x2]) (st := []) (rc := 200) (ci := 12) (d' := 1) (by decide +kernel) ml_X12_393 cv_X12_isBoard rfl (by decide) rfl ob_200 rfl (by decide) (Nat.le_of_ble_eq_true rfl) (t_X12_isBoard hc_4) ?_
  refine Fr_if_ne (off := 9) 25 (by decide +kernel) (by decide) (fun hc => ?_) (fun hc => ?_)
  · have h := iF hc h
    refine Fr_aload_n (q := 0) (i := 0) 0 (by decide +kernel) rfl rfl ?_
    refine Fr_aload_n (q := 0) (i := 0) 0 (by decide +kernel) rfl rfl ?_
    refine Fr_iload_n (q := 1) (i := 1) 1 (by decide +kernel) rfl rfl ?_
    refine Fr_iload_n (q := 2) (i := 2) 2 (by decide +kernel) rfl rfl ?_
    obtain ⟨r_8, M_6, hc_7, h⟩ := bi_elim h
    refine Fr_cVi (ν := m_X12_board) (As := [.int x1, .int x2]) (st := [.ref 200]) (rc := 200) (ci := 12) (d' := 0) (by decide +kernel) ml_X12_396 cv_X12_board rfl (by decide) rfl ob_200 rfl (by decide) (Nat.le_of_ble_eq_true rfl) (t_X12_board hc_7) ?_
    refine Fr_iconst (i := 0) (v := 0) (by decide +kernel) (by decide) ?_
    obtain ⟨r_11, M_9, hc_10, h⟩ := bi_elim h
    refine Fr_cVi (ν := m_X12_hourWith) (As := [.int r_8, .int 0]) (st := []) (rc := 200) (ci := 12) (d' := 5) (by decide +kernel) ml_X12_445 cv_X12_hourWith rfl (by decide) rfl ob_200 rfl (by decide) (Nat.le_of_ble_eq_true rfl) (t_X12_hourWith hc_10) ?_
    refine Fr_istore_n (q := 3) (i := 3) (lv' := [(3, .int r_11), (0, .ref 200), (1, .int x1), (2, .int x2)]) (by decide +kernel) rfl (by decide) rfl ?_
    refine Fr_iload_n (q := 3) (i := 3) 0 (by decide +kernel) rfl rfl ?_
    refine Fr_if_ge (off := 12) 50 (by decide +kernel) (by decide) (fun hc => ?_) (fun hc => ?_)
    · have h := iT hc h
      refine Fr_iload_n (q := 3) (i := 3) 0 (by decide +kernel) rfl rfl ?_
      obtain rfl := Option.some.inj h
      exact Fr_iret (by decide +kernel) rfl ⟨rfl, rfl⟩
    · have h := iF hc h
      refine Fr_aload_n (q := 0) (i := 0) 1 (by decide +kernel) rfl rfl ?_
      refine Fr_bipush (i := 8) (v := 8) (by decide +kernel) (by decide) ?_
      obtain ⟨r_14, M_12, hc_13, h⟩ := bi_elim h
      refine Fr_cVi (ν := m_X12_refuse) (As := [.int 8]) (st := []) (rc := 200) (ci := 12) (d' := 0) (by decide +kernel) ml_X12_371 cv_X12_refuse rfl (by decide) rfl ob_200 rfl (by decide) (Nat.le_of_ble_eq_true rfl) (t_X12_refuse hc_13) ?_
      refine Fr_goto (off := 4) 51 (by decide +kernel) (by decide) ?_
      obtain rfl := Option.some.inj h
      exact Fr_iret (by decide +kernel) rfl ⟨rfl, rfl⟩
  · have h := iT hc h
    refine Fr_aload_n (q := 0) (i := 0) 0 (by decide +kernel) rfl rfl ?_
    refine Fr_iconst (i := 2) (v := 2) (by decide +kernel) (by decide) ?_
    obtain ⟨r_17, M_15, hc_16, h⟩ := bi_elim h
    refine Fr_cVi (ν := m_X12_refuse) (As := [.int 2]) (st := []) (rc := 200) (ci := 12) (d' := 0) (by decide +kernel) ml_X12_371 cv_X12_refuse rfl (by decide) rfl ob_200 rfl (by decide) (Nat.le_of_ble_eq_true rfl) (t_X12_refuse hc_16) ?_
    obtain rfl := Option.some.inj h
    exact Fr_iret (by decide +kernel) rfl ⟨rfl, rfl⟩
set_option maxRecDepth 20000 in
theorem t_X12_comes {N : Nat} {x1 : Int32} {x2 : Int32} {M : Mem} {q : Int32 × Mem} (h : f_X12_comes N x1 x2 M = some q) : Ev 200 21 6 m_X12_comes [.ref 200, .int x1, .int x2] M (QI q) := by
  refine Ev_of_Fr (by decide +kernel) (Nat.le_of_ble_eq_true rfl) ?_
  show Fr 200 21 6 m_X12_comes 0 [(0, .ref 200), (1, .int x1), (2, .int x2)] [] M (QI q)
  unfold f_X12_comes at h
  refine Fr_aload_n (q := 0) (i := 0) 0 (by decide +kernel) rfl rfl ?_
  refine Fr_iconst (i := 0) (v := 0) (by decide +kernel) (by decide) ?_
  refine pf_X12_84 rfl (by decide +kernel) ob_200 ?_
  obtain ⟨M_1, eM_1, h⟩ := bM_elim h
  refine Fr_mem eM_1 ?_
  refine Fr_aload_n (q := 0) (i := 0) 0 (by decide +kernel) rfl rfl ?_
  refine Fr_iconst (i := 0) (v := 0) (by decide +kernel) (by decide) ?_
  refine pf_X12_87 rfl (by decide +kernel) ob_200 ?_
  obtain ⟨M_2, eM_2, h⟩ := bM_elim h
  refine Fr_mem eM_2 ?_
  refine Fr_aload_n (q := 0) (i := 0) 0 (by decide +kernel) rfl rfl ?_
  refine Fr_iload_n (q := 1) (i := 1) 1 (by decide +kernel) rfl rfl ?_
  refine Fr_iload_n (q := 2) (i := 2) 2 (by decide +kernel) rfl rfl ?_
  obtain ⟨r_5, M_3, hc_4, h⟩ := bi_elim h
  refine Fr_cVb (ν := m_X12_isBoard) (As := [.int x1, .int x2]) (st := []) (rc := 200) (ci := 12) (d' := 1) (by decide +kernel) ml_X12_393 cv_X12_isBoard rfl (by decide) rfl ob_200 rfl (by decide) (Nat.le_of_ble_eq_true rfl) (t_X12_isBoard hc_4) ?_
  refine Fr_if_ne (off := 9) 25 (by decide +kernel) (by decide) (fun hc => ?_) (fun hc => ?_)
  · have h := iF hc h
    refine Fr_aload_n (q := 0) (i := 0) 0 (by decide +kernel) rfl rfl ?_
    refine Fr_aload_n (q := 0) (i := 0) 0 (by decide +kernel) rfl rfl ?_
    refine Fr_iload_n (q := 1) (i := 1) 1 (by decide +kernel) rfl rfl ?_
    refine Fr_iload_n (q := 2) (i := 2) 2 (by decide +kernel) rfl rfl ?_
    obtain ⟨r_8, M_6, hc_7, h⟩ := bi_elim h
    refine Fr_cVi (ν := m_X12_board) (As := [.int x1, .int x2]) (st := [.ref 200]) (rc := 200) (ci := 12) (d' := 0) (by decide +kernel) ml_X12_396 cv_X12_board rfl (by decide) rfl ob_200 rfl (by decide) (Nat.le_of_ble_eq_true rfl) (t_X12_board hc_7) ?_
    refine Fr_iconst (i := 1) (v := 1) (by decide +kernel) (by decide) ?_
    obtain ⟨r_11, M_9, hc_10, h⟩ := bi_elim h
    refine Fr_cVi (ν := m_X12_hourWith) (As := [.int r_8, .int 1]) (st := []) (rc := 200) (ci := 12) (d' := 5) (by decide +kernel) ml_X12_445 cv_X12_hourWith rfl (by decide) rfl ob_200 rfl (by decide) (Nat.le_of_ble_eq_true rfl) (t_X12_hourWith hc_10) ?_
    refine Fr_istore_n (q := 3) (i := 3) (lv' := [(3, .int r_11), (0, .ref 200), (1, .int x1), (2, .int x2)]) (by decide +kernel) rfl (by decide) rfl ?_
    refine Fr_iload_n (q := 3) (i := 3) 0 (by decide +kernel) rfl rfl ?_
    refine Fr_if_ge (off := 12) 50 (by decide +kernel) (by decide) (fun hc => ?_) (fun hc => ?_)
    · have h := iT hc h
      refine Fr_iload_n (q := 3) (i := 3) 0 (by decide +kernel) rfl rfl ?_
      obtain rfl := Option.some.inj h
      exact Fr_iret (by decide +kernel) rfl ⟨rfl, rfl⟩
    · have h := iF hc h
      refine Fr_aload_n (q := 0) (i := 0) 1 (by decide +kernel) rfl rfl ?_
      refine Fr_bipush (i := 8) (v := 8) (by decide +kernel) (by decide) ?_
      obtain ⟨r_14, M_12, hc_13, h⟩ := bi_elim h
      refine Fr_cVi (ν := m_X12_refuse) (As := [.int 8]) (st := []) (rc := 200) (ci := 12) (d' := 0) (by decide +kernel) ml_X12_371 cv_X12_refuse rfl (by decide) rfl ob_200 rfl (by decide) (Nat.le_of_ble_eq_true rfl) (t_X12_refuse hc_13) ?_
      refine Fr_goto (off := 4) 51 (by decide +kernel) (by decide) ?_
      obtain rfl := Option.some.inj h
      exact Fr_iret (by decide +kernel) rfl ⟨rfl, rfl⟩
  · have h := iT hc h
    refine Fr_aload_n (q := 0) (i := 0) 0 (by decide +kernel) rfl rfl ?_
    refine Fr_iconst (i := 2) (v := 2) (by decide +kernel) (by decide) ?_
    obtain ⟨r_17, M_15, hc_16, h⟩ := bi_elim h
    refine Fr_cVi (ν := m_X12_refuse) (As := [.int 2]) (st := []) (rc := 200) (ci := 12) (d' := 0) (by decide +kernel) ml_X12_371 cv_X12_refuse rfl (by decide) rfl ob_200 rfl (by decide) (Nat.le_of_ble_eq_true rfl) (t_X12_refuse hc_16) ?_
    obtain rfl := Option.some.inj h
    exact Fr_iret (by decide +kernel) rfl ⟨rfl, rfl⟩
set_option maxRecDepth 20000 in
theorem t_X12_foggyIn_h34 {N : Nat} {q : Int32 × Mem} {k34 : Int32 × Int32 → Mem → Option (Int32 × Mem)} (hk34 : ∀ (a : Int32 × Int32) (M : Mem), k34 a M = some q → Fr 200 21 5 m_X12_foggyIn 34 [(0, .ref 200), (1, .int a.1), (2, .int a.2)] [] M (QI q)) {v1 : Int32} {v2 : Int32} {M : Mem} (h : f_X12_foggyIn_h34 N k34 v1 v2 M = some q) : Fr 200 21 5 m_X12_foggyIn 34 [(0, .ref 200), (1, .int v1), (2, .int v2)] [] M (QI q) := by
  unfold f_X12_foggyIn_h34 at h
  refine Fr_iload_n (q := 2) (i := 2) 2 (by decide +kernel) rfl rfl ?_
  refine Fr_iload_n (q := 1) (i := 1) 1 (by decide +kernel) rfl rfl ?_
  refine Fr_icmp_ge (off := 13) 49 (by decide +kernel) (by decide) (fun hc => ?_) (fun hc => ?_)
  · have h := iT hc h
    refine Fr_aload_n (q := 0) (i := 0) 0 (by decide +kernel) rfl rfl ?_
    obtain ⟨r_10, M_8, hc_9, h⟩ := bi_elim h
    refine Fr_cVi (ν := m_X12_foggyMany) (As := []) (st := []) (rc := 200) (ci := 12) (d' := 2) (by decide +kernel) ml_X12_377 cv_X12_foggyMany rfl (by decide) rfl ob_200 rfl (by decide) (Nat.le_of_ble_eq_true rfl) (t_X12_foggyMany hc_9) ?_
    refine Fr_istore_n (q := 2) (i := 2) (lv' := [(2, .int r_10), (0, .ref 200), (1, .int v1)]) (by decide +kernel) rfl (by decide) rfl ?_
    refine Fr_aload_n (q := 0) (i := 0) 1 (by decide +kernel) rfl rfl ?_
    obtain ⟨M_11, hc_12, h⟩ := bv_elim h
    refine Fr_cVv (ν := m_X12_gives) (As := []) (st := []) (rc := 200) (ci := 12) (d' := 0) (by decide +kernel) ml_X12_442 cv_X12_gives rfl (by decide) rfl ob_200 rfl (by decide) (Nat.le_of_ble_eq_true rfl) (t_X12_gives hc_12) ?_
    refine Fr_iload_n (q := 2) (i := 2) 0 (by decide +kernel) rfl rfl ?_
    obtain rfl := Option.some.inj h
    exact Fr_iret (by decide +kernel) rfl ⟨rfl, rfl⟩
  · have h := iF hc h
    refine Fr_aload_n (q := 0) (i := 0) 0 (by decide +kernel) rfl rfl ?_
    obtain ⟨M_13, hc_14, h⟩ := bv_elim h
    refine Fr_cVv (ν := m_X12_goesHour) (As := []) (st := []) (rc := 200) (ci := 12) (d' := 4) (by decide +kernel) ml_X12_422 cv_X12_goesHour rfl (by decide) rfl ob_200 rfl (by decide) (Nat.le_of_ble_eq_true rfl) (t_X12_goesHour hc_14) ?_
    refine Fr_iinc (i := 2) (j := 1) (v := (v2 + 1)) (lv' := [(2, .int (v2 + 1)), (0, .ref 200), (1, .int v1)]) 2 (by decide +kernel) rfl rfl (by decide) rfl ?_
    refine Fr_goto (off := (-12)) 34 (by decide +kernel) (by decide) ?_
    refine Fr_loc [1, 2, 0] rfl ?_
    exact hk34 (v1, (v2 + 1)) M_13 h
set_option maxRecDepth 20000 in
theorem t_X12_foggyIn {N : Nat} {x1 : Int32} {M : Mem} {q : Int32 × Mem} (h : f_X12_foggyIn N x1 M = some q) : Ev 200 21 5 m_X12_foggyIn [.ref 200, .int x1] M (QI q) := by
  refine Ev_of_Fr (by decide +kernel) (Nat.le_of_ble_eq_true rfl) ?_
  show Fr 200 21 5 m_X12_foggyIn 0 [(0, .ref 200), (1, .int x1)] [] M (QI q)
  unfold f_X12_foggyIn at h
  refine Fr_aload_n (q := 0) (i := 0) 0 (by decide +kernel) rfl rfl ?_
  refine Fr_iconst (i := 0) (v := 0) (by decide +kernel) (by decide) ?_
  refine pf_X12_84 rfl (by decide +kernel) ob_200 ?_
  obtain ⟨M_1, eM_1, h⟩ := bM_elim h
  refine Fr_mem eM_1 ?_
  refine Fr_aload_n (q := 0) (i := 0) 0 (by decide +kernel) rfl rfl ?_
  refine Fr_iconst (i := 0) (v := 0) (by decide +kernel) (by decide) ?_
  refine pf_X12_87 rfl (by decide +kernel) ob_200 ?_
  obtain ⟨M_2, eM_2, h⟩ := bM_elim h
  refine Fr_mem eM_2 ?_
  refine Fr_iload_n (q := 1) (i := 1) 1 (by decide +kernel) rfl rfl ?_
  refine Fr_i2l (by decide +kernel) ?_
  refine Fr_lconst (i := 0) (v := 0) (by decide +kernel) (by decide) ?_
  refine Fr_ldc2 (idx := 420) (v := 48) (by decide +kernel) ll_X12_420 ?_
  obtain ⟨r_5, M_3, hc_4, h⟩ := bi_elim h
  refine Fr_cSb (ν := m_X12_isIn) (As := [.long (Int32.toInt64 x1), .long 0, .long 48]) (st := []) (d' := 0) (by decide +kernel) ml_X12_119 cs_X12_isIn rfl (by decide) (Nat.le_of_ble_eq_true rfl) (t_X12_isIn hc_4) ?_
  refine Fr_if_ne (off := 9) 28 (by decide +kernel) (by decide) (fun hc => ?_) (fun hc => ?_)
  · have h := iF hc h
    refine Fr_aload_n (q := 0) (i := 0) 0 (by decide +kernel) rfl rfl ?_
    obtain ⟨M_6, hc_7, h⟩ := bv_elim h
    refine Fr_cVv (ν := m_X12_keeps) (As := []) (st := []) (rc := 200) (ci := 12) (d' := 0) (by decide +kernel) ml_X12_439 cv_X12_keeps rfl (by decide) rfl ob_200 rfl (by decide) (Nat.le_of_ble_eq_true rfl) (t_X12_keeps hc_7) ?_
    refine Fr_iconst (i := 0) (v := 0) (by decide +kernel) (by decide) ?_
    refine Fr_istore_n (q := 2) (i := 2) (lv' := [(2, .int 0), (0, .ref 200), (1, .int x1)]) (by decide +kernel) rfl (by decide) rfl ?_
    refine Fr_loc [1, 2, 0] rfl ?_
    exact lp_sound (body := fun k a m => f_X12_foggyIn_h34 N k a.1 a.2 m) (P := fun a M => Fr 200 21 5 m_X12_foggyIn 34 [(0, .ref 200), (1, .int a.1), (2, .int a.2)] [] M (QI q)) (fun k hk a m h => t_X12_foggyIn_h34 hk h) N (x1, 0) M_6 h
  · have h := iT hc h
    refine Fr_aload_n (q := 0) (i := 0) 0 (by decide +kernel) rfl rfl ?_
    refine Fr_iconst (i := 5) (v := 5) (by decide +kernel) (by decide) ?_
    obtain ⟨r_17, M_15, hc_16, h⟩ := bi_elim h
    refine Fr_cVi (ν := m_X12_refuse) (As := [.int 5]) (st := []) (rc := 200) (ci := 12) (d' := 0) (by decide +kernel) ml_X12_371 cv_X12_refuse rfl (by decide) rfl ob_200 rfl (by decide) (Nat.le_of_ble_eq_true rfl) (t_X12_refuse hc_16) ?_
    obtain rfl := Option.some.inj h
    exact Fr_iret (by decide +kernel) rfl ⟨rfl, rfl⟩
