set_option maxRecDepth 20000 in
theorem t_X12_readTrade_b114 {N : Nat} {q : Mem} {s0 : Int32} {s1 : Int32} {M : Mem} (h : f_X12_readTrade_b114 N s0 s1 M = some q) : Fr 200 21 6 m_X12_readTrade 114 [(0, .ref 200)] [.int s0, .int s1, .ref 205] M (QV q) := by
  unfold f_X12_readTrade_b114 at h
  obtain ⟨hi_41, h⟩ := ck_elim h
  refine Fr_iast (by decide +kernel) ob_205 (vp_of ln_205 hi_41) ?_
  obtain ⟨M_42, eM_42, h⟩ := bM_elim h
  refine Fr_mem eM_42 ?_
  refine Fr_aload_n (q := 0) (i := 0) 0 (by decide +kernel) rfl rfl ?_
  refine gf_X12_248 rfl (by decide +kernel) ob_200 ?_
  refine Fr_if_ne (off := 15) 134 (by decide +kernel) (by decide) (fun hc => ?_) (fun hc => ?_)
  · have h := iF hc h
    obtain rfl := Option.some.inj h
    exact Fr_vret (by decide +kernel) rfl ⟨rfl, rfl⟩
  · have h := iT hc h
    refine Fr_aload_n (q := 0) (i := 0) 0 (by decide +kernel) rfl rfl ?_
    refine gf_X12_35 rfl (by decide +kernel) ob_200 ?_
    refine Fr_sipush (i := 1744) (v := 1744) (by decide +kernel) (by decide) ?_
    refine Fr_dup2 (by decide +kernel) rfl rfl ?_
    obtain ⟨hi_43, h⟩ := ck_elim h
    refine Fr_iald (by decide +kernel) ob_205 (vp_of ln_205 hi_43) ?_
    refine Fr_iconst (i := 1) (v := 1) (by decide +kernel) (by decide) ?_
    refine Fr_iadd (by decide +kernel) ?_
    obtain ⟨hi_44, h⟩ := ck_elim h
    refine Fr_iast (by decide +kernel) ob_205 (vp_of ln_205 hi_44) ?_
    obtain ⟨M_45, eM_45, h⟩ := bM_elim h
    refine Fr_mem eM_45 ?_
    obtain rfl := Option.some.inj h
    exact Fr_vret (by decide +kernel) rfl ⟨rfl, rfl⟩
set_option maxRecDepth 20000 in
theorem t_X12_readTrade {N : Nat} {M : Mem} {q : Mem} (h : f_X12_readTrade N M = some q) : Ev 200 21 6 m_X12_readTrade [.ref 200] M (QV q) := by
  refine Ev_of_Fr (by decide +kernel) (Nat.le_of_ble_eq_true rfl) ?_
  show Fr 200 21 6 m_X12_readTrade 0 [(0, .ref 200)] [] M (QV q)
  unfold f_X12_readTrade at h
  refine Fr_sipush (i := 1787) (v := 1787) (by decide +kernel) (by decide) ?_
  refine Fr_aload_n (q := 0) (i := 0) 0 (by decide +kernel) rfl rfl ?_
  refine Fr_iconst (i := 2) (v := 2) (by decide +kernel) (by decide) ?_
  refine Fr_bipush (i := 6) (v := 6) (by decide +kernel) (by decide) ?_
  obtain ⟨r_3, M_1, hc_2, h⟩ := bi_elim h
  refine Fr_cVi (ν := m_X12_readNew) (As := [.int 2, .int 6]) (st := [.int 1787]) (rc := 200) (ci := 12) (d' := 5) (by decide +kernel) ml_X12_290 cv_X12_readNew rfl (by decide) rfl ob_200 rfl (by decide) (Nat.le_of_ble_eq_true rfl) (t_X12_readNew hc_2) ?_
  refine Fr_iadd (by decide +kernel) ?_
  refine Fr_istore_n (q := 1) (i := 1) (lv' := [(1, .int (1787 + r_3)), (0, .ref 200)]) (by decide +kernel) rfl (by decide) rfl ?_
  refine Fr_aload_n (q := 0) (i := 0) 1 (by decide +kernel) rfl rfl ?_
  refine Fr_aload_n (q := 0) (i := 0) 1 (by decide +kernel) rfl rfl ?_
  obtain ⟨r_6, M_4, hc_5, h⟩ := bi_elim h
  refine Fr_cVb (ν := m_X12_isAt) (As := []) (st := [.ref 200]) (rc := 200) (ci := 12) (d' := 1) (by decide +kernel) ml_X12_196 cv_X12_isAt rfl (by decide) rfl ob_200 rfl (by decide) (Nat.le_of_ble_eq_true rfl) (t_X12_isAt hc_5) ?_
  obtain ⟨M_7, hc_8, h⟩ := bv_elim h
  refine Fr_cVv (ν := m_X12_must) (As := [.int (b2i r_6)]) (st := []) (rc := 200) (ci := 12) (d' := 2) (by decide +kernel) ml_X12_264 cv_X12_must rfl (by decide) rfl ob_200 rfl (by decide) (Nat.le_of_ble_eq_true rfl) (t_X12_must hc_8) ?_
  refine Fr_aload_n (q := 0) (i := 0) 1 (by decide +kernel) rfl rfl ?_
  refine Fr_iconst (i := 4) (v := 4) (by decide +kernel) (by decide) ?_
  refine Fr_iload_n (q := 1) (i := 1) 0 (by decide +kernel) rfl rfl ?_
  refine Fr_bipush (i := 6) (v := 6) (by decide +kernel) (by decide) ?_
  obtain ⟨M_9, hc_10, h⟩ := bv_elim h
  refine Fr_cVv (ν := m_X12_readBoard) (As := [.int 4, .int (1787 + r_3), .int 6]) (st := []) (rc := 200) (ci := 12) (d' := 3) (by decide +kernel) ml_X12_293 cv_X12_readBoard rfl (by decide) rfl ob_200 rfl (by decide) (Nat.le_of_ble_eq_true rfl) (t_X12_readBoard hc_10) ?_
  refine Fr_aload_n (q := 0) (i := 0) 1 (by decide +kernel) rfl rfl ?_
  refine Fr_aload_n (q := 0) (i := 0) 1 (by decide +kernel) rfl rfl ?_
  obtain ⟨r_13, M_11, hc_12, h⟩ := bi_elim h
  refine Fr_cVb (ν := m_X12_isFrom) (As := []) (st := [.ref 200]) (rc := 200) (ci := 12) (d' := 1) (by decide +kernel) ml_X12_214 cv_X12_isFrom rfl (by decide) rfl ob_200 rfl (by decide) (Nat.le_of_ble_eq_true rfl) (t_X12_isFrom hc_12) ?_
  refine Fr_iconst (i := 1) (v := 1) (by decide +kernel) (by decide) ?_
  refine Fr_bipush (i := 24) (v := 24) (by decide +kernel) (by decide) ?_
  obtain ⟨r_16, M_14, hc_15, h⟩ := bi_elim h
  refine Fr_cVi (ν := m_X12_behindWord) (As := [.int (b2i r_13), .int 1, .int 24]) (st := []) (rc := 200) (ci := 12) (d' := 3) (by decide +kernel) ml_X12_297 cv_X12_behindWord rfl (by decide) rfl ob_200 rfl (by decide) (Nat.le_of_ble_eq_true rfl) (t_X12_behindWord hc_15) ?_
  refine Fr_istore_n (q := 2) (i := 2) (lv' := [(2, .int r_16), (1, .int (1787 + r_3)), (0, .ref 200)]) (by decide +kernel) rfl (by decide) rfl ?_
  refine Fr_aload_n (q := 0) (i := 0) 2 (by decide +kernel) rfl rfl ?_
  refine gf_X12_35 rfl (by decide +kernel) ob_200 ?_
  refine Fr_iload_n (q := 1) (i := 1) 1 (by decide +kernel) rfl rfl ?_
  refine Fr_bipush (i := 12) (v := 12) (by decide +kernel) (by decide) ?_
  refine Fr_iadd (by decide +kernel) ?_
  refine Fr_iload_n (q := 2) (i := 2) 0 (by decide +kernel) rfl rfl ?_
  obtain ⟨hi_17, h⟩ := ck_elim h
  refine Fr_iast (by decide +kernel) ob_205 (vp_of ln_205 hi_17) ?_
  obtain ⟨M_18, eM_18, h⟩ := bM_elim h
  refine Fr_mem eM_18 ?_
  refine Fr_aload_n (q := 0) (i := 0) 2 (by decide +kernel) rfl rfl ?_
  refine gf_X12_35 rfl (by decide +kernel) ob_200 ?_
  refine Fr_iload_n (q := 1) (i := 1) 1 (by decide +kernel) rfl rfl ?_
  refine Fr_bipush (i := 18) (v := 18) (by decide +kernel) (by decide) ?_
  refine Fr_iadd (by decide +kernel) ?_
  refine Fr_aload_n (q := 0) (i := 0) 2 (by decide +kernel) rfl rfl ?_
  refine Fr_aload_n (q := 0) (i := 0) 2 (by decide +kernel) rfl rfl ?_
  obtain ⟨r_21, M_19, hc_20, h⟩ := bi_elim h
  refine Fr_cVb (ν := m_X12_isTo) (As := []) (st := [.ref 200, .int ((1787 + r_3) + 18), .ref 205]) (rc := 200) (ci := 12) (d' := 1) (by decide +kernel) ml_X12_217 cv_X12_isTo rfl (by decide) rfl ob_200 rfl (by decide) (Nat.le_of_ble_eq_true rfl) (t_X12_isTo hc_20) ?_
  refine Fr_iload_n (q := 2) (i := 2) 0 (by decide +kernel) rfl rfl ?_
  refine Fr_bipush (i := 24) (v := 24) (by decide +kernel) (by decide) ?_
  obtain ⟨r_24, M_22, hc_23, h⟩ := bi_elim h
  refine Fr_cVi (ν := m_X12_behindWord) (As := [.int (b2i r_21), .int r_16, .int 24]) (st := [.int ((1787 + r_3) + 18), .ref 205]) (rc := 200) (ci := 12) (d' := 3) (by decide +kernel) ml_X12_297 cv_X12_behindWord rfl (by decide) rfl ob_200 rfl (by decide) (Nat.le_of_ble_eq_true rfl) (t_X12_behindWord hc_23) ?_
  obtain ⟨hi_25, h⟩ := ck_elim h
  refine Fr_iast (by decide +kernel) ob_205 (vp_of ln_205 hi_25) ?_
  obtain ⟨M_26, eM_26, h⟩ := bM_elim h
  refine Fr_mem eM_26 ?_
  refine Fr_aload_n (q := 0) (i := 0) 2 (by decide +kernel) rfl rfl ?_
  refine gf_X12_35 rfl (by decide +kernel) ob_200 ?_
  refine Fr_iload_n (q := 1) (i := 1) 1 (by decide +kernel) rfl rfl ?_
  refine Fr_bipush (i := 24) (v := 24) (by decide +kernel) (by decide) ?_
  refine Fr_iadd (by decide +kernel) ?_
  refine Fr_aload_n (q := 0) (i := 0) 2 (by decide +kernel) rfl rfl ?_
  refine Fr_aload_n (q := 0) (i := 0) 2 (by decide +kernel) rfl rfl ?_
  obtain ⟨r_29, M_27, hc_28, h⟩ := bi_elim h
  refine Fr_cVb (ν := m_X12_isPays) (As := []) (st := [.ref 200, .int ((1787 + r_3) + 24), .ref 205]) (rc := 200) (ci := 12) (d' := 1) (by decide +kernel) ml_X12_220 cv_X12_isPays rfl (by decide) rfl ob_200 rfl (by decide) (Nat.le_of_ble_eq_true rfl) (t_X12_isPays hc_28) ?_
  refine Fr_iconst (i := 1) (v := 1) (by decide +kernel) (by decide) ?_
  refine Fr_bipush (i := 99) (v := 99) (by decide +kernel) (by decide) ?_
  obtain ⟨r_32, M_30, hc_31, h⟩ := bi_elim h
  refine Fr_cVi (ν := m_X12_behindWord) (As := [.int (b2i r_29), .int 1, .int 99]) (st := [.int ((1787 + r_3) + 24), .ref 205]) (rc := 200) (ci := 12) (d' := 3) (by decide +kernel) ml_X12_297 cv_X12_behindWord rfl (by decide) rfl ob_200 rfl (by decide) (Nat.le_of_ble_eq_true rfl) (t_X12_behindWord hc_31) ?_
  obtain ⟨hi_33, h⟩ := ck_elim h
  refine Fr_iast (by decide +kernel) ob_205 (vp_of ln_205 hi_33) ?_
  obtain ⟨M_34, eM_34, h⟩ := bM_elim h
  refine Fr_mem eM_34 ?_
  refine Fr_aload_n (q := 0) (i := 0) 2 (by decide +kernel) rfl rfl ?_
  refine gf_X12_35 rfl (by decide +kernel) ob_200 ?_
  refine Fr_iload_n (q := 1) (i := 1) 1 (by decide +kernel) rfl rfl ?_
  refine Fr_bipush (i := 30) (v := 30) (by decide +kernel) (by decide) ?_
  refine Fr_iadd (by decide +kernel) ?_
  refine Fr_aload_n (q := 0) (i := 0) 2 (by decide +kernel) rfl rfl ?_
  refine Fr_aload_n (q := 0) (i := 0) 2 (by decide +kernel) rfl rfl ?_
  obtain ⟨r_37, M_35, hc_36, h⟩ := bi_elim h
  refine Fr_cVb (ν := m_X12_isClear) (As := []) (st := [.ref 200, .int ((1787 + r_3) + 30), .ref 205]) (rc := 200) (ci := 12) (d' := 1) (by decide +kernel) ml_X12_223 cv_X12_isClear rfl (by decide) rfl ob_200 rfl (by decide) (Nat.le_of_ble_eq_true rfl) (t_X12_isClear hc_36) ?_
  obtain ⟨r_40, M_38, hc_39, h⟩ := bi_elim h
  refine Fr_cVb (ν := m_X12_perhaps) (As := [.int (b2i r_37)]) (st := [.int ((1787 + r_3) + 30), .ref 205]) (rc := 200) (ci := 12) (d' := 2) (by decide +kernel) ml_X12_301 cv_X12_perhaps rfl (by decide) rfl ob_200 rfl (by decide) (Nat.le_of_ble_eq_true rfl) (t_X12_perhaps hc_39) ?_
  refine Fr_if_eq (off := 7) 113 (by decide +kernel) (by decide) (fun hc => ?_) (fun hc => ?_)
  · have h := iT hc h
    refine Fr_iconst (i := 0) (v := 0) (by decide +kernel) (by decide) ?_
    refine Fr_loc [2] rfl ?_
    exact t_X12_readTrade_b114 h
  · have h := iF hc h
    refine Fr_iconst (i := 1) (v := 1) (by decide +kernel) (by decide) ?_
    refine Fr_goto (off := 4) 114 (by decide +kernel) (by decide) ?_
    refine Fr_loc [2] rfl ?_
    exact t_X12_readTrade_b114 h
set_option maxRecDepth 20000 in
theorem t_X12_readShip_b68 {N : Nat} {q : Mem} {s0 : Int32} {s1 : Int32} {M : Mem} (h : f_X12_readShip_b68 N s0 s1 M = some q) : Fr 200 21 6 m_X12_readShip 68 [(0, .ref 200)] [.int s0, .int s1, .ref 205] M (QV q) := by
  unfold f_X12_readShip_b68 at h
  obtain ⟨hi_24, h⟩ := ck_elim h
  refine Fr_iast (by decide +kernel) ob_205 (vp_of ln_205 hi_24) ?_
  obtain ⟨M_25, eM_25, h⟩ := bM_elim h
  refine Fr_mem eM_25 ?_
  refine Fr_aload_n (q := 0) (i := 0) 0 (by decide +kernel) rfl rfl ?_
  refine gf_X12_248 rfl (by decide +kernel) ob_200 ?_
  refine Fr_if_ne (off := 15) 88 (by decide +kernel) (by decide) (fun hc => ?_) (fun hc => ?_)
  · have h := iF hc h
    obtain rfl := Option.some.inj h
    exact Fr_vret (by decide +kernel) rfl ⟨rfl, rfl⟩
  · have h := iT hc h
    refine Fr_aload_n (q := 0) (i := 0) 0 (by decide +kernel) rfl rfl ?_
    refine gf_X12_35 rfl (by decide +kernel) ob_200 ?_
    refine Fr_sipush (i := 1745) (v := 1745) (by decide +kernel) (by decide) ?_
    refine Fr_dup2 (by decide +kernel) rfl rfl ?_
    obtain ⟨hi_26, h⟩ := ck_elim h
    refine Fr_iald (by decide +kernel) ob_205 (vp_of ln_205 hi_26) ?_
    refine Fr_iconst (i := 1) (v := 1) (by decide +kernel) (by decide) ?_
    refine Fr_iadd (by decide +kernel) ?_
    obtain ⟨hi_27, h⟩ := ck_elim h
    refine Fr_iast (by decide +kernel) ob_205 (vp_of ln_205 hi_27) ?_
    obtain ⟨M_28, eM_28, h⟩ := bM_elim h
    refine Fr_mem eM_28 ?_
    obtain rfl := Option.some.inj h
    exact Fr_vret (by decide +kernel) rfl ⟨rfl, rfl⟩
set_option maxRecDepth 20000 in
theorem t_X12_readShip {N : Nat} {M : Mem} {q : Mem} (h : f_X12_readShip N M = some q) : Ev 200 21 6 m_X12_readShip [.ref 200] M (QV q) := by
  refine Ev_of_Fr (by decide +kernel) (Nat.le_of_ble_eq_true rfl) ?_
  show Fr 200 21 6 m_X12_readShip 0 [(0, .ref 200)] [] M (QV q)
  unfold f_X12_readShip at h
  refine Fr_sipush (i := 1823) (v := 1823) (by decide +kernel) (by decide) ?_
  refine Fr_aload_n (q := 0) (i := 0) 0 (by decide +kernel) rfl rfl ?_
  refine Fr_iconst (i := 3) (v := 3) (by decide +kernel) (by decide) ?_
  refine Fr_iconst (i := 4) (v := 4) (by decide +kernel) (by decide) ?_
  obtain ⟨r_3, M_1, hc_2, h⟩ := bi_elim h
  refine Fr_cVi (ν := m_X12_readNew) (As := [.int 3, .int 4]) (st := [.int 1823]) (rc := 200) (ci := 12) (d' := 5) (by decide +kernel) ml_X12_290 cv_X12_readNew rfl (by decide) rfl ob_200 rfl (by decide) (Nat.le_of_ble_eq_true rfl) (t_X12_readNew hc_2) ?_
  refine Fr_iadd (by decide +kernel) ?_
  refine Fr_istore_n (q := 1) (i := 1) (lv' := [(1, .int (1823 + r_3)), (0, .ref 200)]) (by decide +kernel) rfl (by decide) rfl ?_
  refine Fr_aload_n (q := 0) (i := 0) 1 (by decide +kernel) rfl rfl ?_
  refine Fr_aload_n (q := 0) (i := 0) 1 (by decide +kernel) rfl rfl ?_
  obtain ⟨r_6, M_4, hc_5, h⟩ := bi_elim h
  refine Fr_cVb (ν := m_X12_isAt) (As := []) (st := [.ref 200]) (rc := 200) (ci := 12) (d' := 1) (by decide +kernel) ml_X12_196 cv_X12_isAt rfl (by decide) rfl ob_200 rfl (by decide) (Nat.le_of_ble_eq_true rfl) (t_X12_isAt hc_5) ?_
  obtain ⟨M_7, hc_8, h⟩ := bv_elim h
  refine Fr_cVv (ν := m_X12_must) (As := [.int (b2i r_6)]) (st := []) (rc := 200) (ci := 12) (d' := 2) (by decide +kernel) ml_X12_264 cv_X12_must rfl (by decide) rfl ob_200 rfl (by decide) (Nat.le_of_ble_eq_true rfl) (t_X12_must hc_8) ?_
  refine Fr_aload_n (q := 0) (i := 0) 1 (by decide +kernel) rfl rfl ?_
  refine Fr_iconst (i := 4) (v := 4) (by decide +kernel) (by decide) ?_
  refine Fr_iload_n (q := 1) (i := 1) 0 (by decide +kernel) rfl rfl ?_
  refine Fr_iconst (i := 4) (v := 4) (by decide +kernel) (by decide) ?_
  obtain ⟨M_9, hc_10, h⟩ := bv_elim h
  refine Fr_cVv (ν := m_X12_readBoard) (As := [.int 4, .int (1823 + r_3), .int 4]) (st := []) (rc := 200) (ci := 12) (d' := 3) (by decide +kernel) ml_X12_293 cv_X12_readBoard rfl (by decide) rfl ob_200 rfl (by decide) (Nat.le_of_ble_eq_true rfl) (t_X12_readBoard hc_10) ?_
  refine Fr_aload_n (q := 0) (i := 0) 1 (by decide +kernel) rfl rfl ?_
  refine Fr_aload_n (q := 0) (i := 0) 1 (by decide +kernel) rfl rfl ?_
  obtain ⟨r_13, M_11, hc_12, h⟩ := bi_elim h
  refine Fr_cVb (ν := m_X12_isTo) (As := []) (st := [.ref 200]) (rc := 200) (ci := 12) (d' := 1) (by decide +kernel) ml_X12_217 cv_X12_isTo rfl (by decide) rfl ob_200 rfl (by decide) (Nat.le_of_ble_eq_true rfl) (t_X12_isTo hc_12) ?_
  obtain ⟨M_14, hc_15, h⟩ := bv_elim h
  refine Fr_cVv (ν := m_X12_must) (As := [.int (b2i r_13)]) (st := []) (rc := 200) (ci := 12) (d' := 2) (by decide +kernel) ml_X12_264 cv_X12_must rfl (by decide) rfl ob_200 rfl (by decide) (Nat.le_of_ble_eq_true rfl) (t_X12_must hc_15) ?_
  refine Fr_aload_n (q := 0) (i := 0) 1 (by decide +kernel) rfl rfl ?_
  refine Fr_iconst (i := 4) (v := 4) (by decide +kernel) (by decide) ?_
  refine Fr_iload_n (q := 1) (i := 1) 0 (by decide +kernel) rfl rfl ?_
  refine Fr_bipush (i := 8) (v := 8) (by decide +kernel) (by decide) ?_
  refine Fr_iadd (by decide +kernel) ?_
  refine Fr_iconst (i := 4) (v := 4) (by decide +kernel) (by decide) ?_
  obtain ⟨M_16, hc_17, h⟩ := bv_elim h
  refine Fr_cVv (ν := m_X12_readBoard) (As := [.int 4, .int ((1823 + r_3) + 8), .int 4]) (st := []) (rc := 200) (ci := 12) (d' := 3) (by decide +kernel) ml_X12_293 cv_X12_readBoard rfl (by decide) rfl ob_200 rfl (by decide) (Nat.le_of_ble_eq_true rfl) (t_X12_readBoard hc_17) ?_
  refine Fr_aload_n (q := 0) (i := 0) 1 (by decide +kernel) rfl rfl ?_
  refine gf_X12_35 rfl (by decide +kernel) ob_200 ?_
  refine Fr_iload_n (q := 1) (i := 1) 0 (by decide +kernel) rfl rfl ?_
  refine Fr_bipush (i := 16) (v := 16) (by decide +kernel) (by decide) ?_
  refine Fr_iadd (by decide +kernel) ?_
  refine Fr_aload_n (q := 0) (i := 0) 1 (by decide +kernel) rfl rfl ?_
  refine Fr_aload_n (q := 0) (i := 0) 1 (by decide +kernel) rfl rfl ?_
  obtain ⟨r_20, M_18, hc_19, h⟩ := bi_elim h
  refine Fr_cVb (ν := m_X12_isDark) (As := []) (st := [.ref 200, .int ((1823 + r_3) + 16), .ref 205]) (rc := 200) (ci := 12) (d' := 1) (by decide +kernel) ml_X12_229 cv_X12_isDark rfl (by decide) rfl ob_200 rfl (by decide) (Nat.le_of_ble_eq_true rfl) (t_X12_isDark hc_19) ?_
  obtain ⟨r_23, M_21, hc_22, h⟩ := bi_elim h
  refine Fr_cVb (ν := m_X12_perhaps) (As := [.int (b2i r_20)]) (st := [.int ((1823 + r_3) + 16), .ref 205]) (rc := 200) (ci := 12) (d' := 2) (by decide +kernel) ml_X12_301 cv_X12_perhaps rfl (by decide) rfl ob_200 rfl (by decide) (Nat.le_of_ble_eq_true rfl) (t_X12_perhaps hc_22) ?_
  refine Fr_if_eq (off := 7) 67 (by decide +kernel) (by decide) (fun hc => ?_) (fun hc => ?_)
  · have h := iT hc h
    refine Fr_iconst (i := 0) (v := 0) (by decide +kernel) (by decide) ?_
    refine Fr_loc [1] rfl ?_
    exact t_X12_readShip_b68 h
  · have h := iF hc h
    refine Fr_iconst (i := 1) (v := 1) (by decide +kernel) (by decide) ?_
    refine Fr_goto (off := 4) 68 (by decide +kernel) (by decide) ?_
    refine Fr_loc [1] rfl ?_
    exact t_X12_readShip_b68 h
set_option maxRecDepth 20000 in
theorem t_X12_readOnce_b20 {N : Nat} {q : Mem} {v1 : Int32} {v2 : Int32} {v3 : Int32} {v4 : Int32} {M : Mem} (h : f_X12_readOnce_b20 N v1 v2 v3 v4 M = some q) : Fr 200 21 3 m_X12_readOnce 20 [(0, .ref 200), (1, .int v1), (2, .int v2), (3, .int v3), (4, .int v4)] [] M (QV q) := by
  unfold f_X12_readOnce_b20 at h
  refine Fr_aload_n (q := 0) (i := 0) 0 (by decide +kernel) rfl rfl ?_
  refine gf_X12_248 rfl (by decide +kernel) ob_200 ?_
  refine Fr_if_le (off := 4) 28 (by decide +kernel) (by decide) (fun hc => ?_) (fun hc => ?_)
  · have h := iT hc h
    refine Fr_aload_n (q := 0) (i := 0) 0 (by decide +kernel) rfl rfl ?_
    refine Fr_dup (by decide +kernel) rfl ?_
    refine gf_X12_305 rfl (by decide +kernel) ob_200 ?_
    refine Fr_iconst (i := 1) (v := 1) (by decide +kernel) (by decide) ?_
    refine Fr_iload_n (q := 1) (i := 1) 1 (by decide +kernel) rfl rfl ?_
    refine Fr_ishl (by decide +kernel) ?_
    refine Fr_ior (by decide +kernel) ?_
    refine pf_X12_305 rfl (by decide +kernel) ob_200 ?_
    obtain ⟨M_4, eM_4, h⟩ := bM_elim h
    refine Fr_mem eM_4 ?_
    refine Fr_aload_n (q := 0) (i := 0) 0 (by decide +kernel) rfl rfl ?_
    obtain ⟨M_5, hc_6, h⟩ := bv_elim h
    refine Fr_cVv (ν := m_X12_advance) (As := []) (st := []) (rc := 200) (ci := 12) (d' := 1) (by decide +kernel) ml_X12_258 cv_X12_advance rfl (by decide) rfl ob_200 rfl (by decide) (Nat.le_of_ble_eq_true rfl) (t_X12_advance hc_6) ?_
    refine Fr_aload_n (q := 0) (i := 0) 0 (by decide +kernel) rfl rfl ?_
    refine gf_X12_35 rfl (by decide +kernel) ob_200 ?_
    refine Fr_sipush (i := 1740) (v := 1740) (by decide +kernel) (by decide) ?_
    refine Fr_iload_n (q := 2) (i := 2) 2 (by decide +kernel) rfl rfl ?_
    refine Fr_iadd (by decide +kernel) ?_
    refine Fr_aload_n (q := 0) (i := 0) 0 (by decide +kernel) rfl rfl ?_
    refine Fr_iload_n (q := 3) (i := 3) 3 (by decide +kernel) rfl rfl ?_
    refine Fr_iload (i := 4) 4 (by decide +kernel) rfl ?_
    obtain ⟨r_9, M_7, hc_8, h⟩ := bi_elim h
    refine Fr_cVi (ν := m_X12_count) (As := [.int v3, .int v4]) (st := [.int (1740 + v2), .ref 205]) (rc := 200) (ci := 12) (d' := 2) (by decide +kernel) ml_X12_268 cv_X12_count rfl (by decide) rfl ob_200 rfl (by decide) (Nat.le_of_ble_eq_true rfl) (t_X12_count hc_8) ?_
    obtain ⟨hi_10, h⟩ := ck_elim h
    refine Fr_iast (by decide +kernel) ob_205 (vp_of ln_205 hi_10) ?_
    obtain ⟨M_11, eM_11, h⟩ := bM_elim h
    refine Fr_mem eM_11 ?_
    obtain rfl := Option.some.inj h
    exact Fr_vret (by decide +kernel) rfl ⟨rfl, rfl⟩
  · have h := iF hc h
    obtain rfl := Option.some.inj h
    exact Fr_vret (by decide +kernel) rfl ⟨rfl, rfl⟩
set_option maxRecDepth 20000 in
theorem t_X12_readOnce {N : Nat} {x1 : Int32} {x2 : Int32} {x3 : Int32} {x4 : Int32} {M : Mem} {q : Mem} (h : f_X12_readOnce N x1 x2 x3 x4 M = some q) : Ev 200 21 3 m_X12_readOnce [.ref 200, .int x1, .int x2, .int x3, .int x4] M (QV q) := by
  refine Ev_of_Fr (by decide +kernel) (Nat.le_of_ble_eq_true rfl) ?_
  show Fr 200 21 3 m_X12_readOnce 0 [(0, .ref 200), (1, .int x1), (2, .int x2), (3, .int x3), (4, .int x4)] [] M (QV q)
  unfold f_X12_readOnce at h
  refine Fr_aload_n (q := 0) (i := 0) 0 (by decide +kernel) rfl rfl ?_
  refine gf_X12_305 rfl (by decide +kernel) ob_200 ?_
  refine Fr_iload_n (q := 1) (i := 1) 1 (by decide +kernel) rfl rfl ?_
  obtain ⟨r_3, M_1, hc_2, h⟩ := bi_elim h
  refine Fr_cSb (ν := m_X12_has) (As := [.int (M.1 200 25), .int x1]) (st := []) (d' := 0) (by decide +kernel) ml_X12_123 cs_X12_has rfl (by decide) (Nat.le_of_ble_eq_true rfl) (t_X12_has hc_2) ?_
  refine Fr_if_eq (off := 12) 20 (by decide +kernel) (by decide) (fun hc => ?_) (fun hc => ?_)
  · have h := iT hc h
    exact t_X12_readOnce_b20 h
  · have h := iF hc h
    refine Fr_aload_n (q := 0) (i := 0) 0 (by decide +kernel) rfl rfl ?_
    refine Fr_iconst (i := 5) (v := 5) (by decide +kernel) (by decide) ?_
    refine Fr_aload_n (q := 0) (i := 0) 0 (by decide +kernel) rfl rfl ?_
    refine gf_X12_133 rfl (by decide +kernel) ob_200 ?_
    obtain ⟨M_12, hc_13, h⟩ := bv_elim h
    refine Fr_cVv (ν := m_X12_fail) (As := [.int 5, .int (M_1.1 200 15)]) (st := []) (rc := 200) (ci := 12) (d' := 0) (by decide +kernel) ml_X12_254 cv_X12_fail rfl (by decide) rfl ob_200 rfl (by decide) (Nat.le_of_ble_eq_true rfl) (t_X12_fail hc_13) ?_
    exact t_X12_readOnce_b20 h
set_option maxRecDepth 20000 in
theorem t_X12_readPart {N : Nat} {M : Mem} {q : Mem} (h : f_X12_readPart N M = some q) : Ev 200 21 7 m_X12_readPart [.ref 200] M (QV q) := by
  refine Ev_of_Fr (by decide +kernel) (Nat.le_of_ble_eq_true rfl) ?_
  show Fr 200 21 7 m_X12_readPart 0 [(0, .ref 200)] [] M (QV q)
  unfold f_X12_readPart at h
  refine Fr_aload_n (q := 0) (i := 0) 0 (by decide +kernel) rfl rfl ?_
  obtain ⟨r_3, M_1, hc_2, h⟩ := bi_elim h
  refine Fr_cVb (ν := m_X12_isPort) (As := []) (st := []) (rc := 200) (ci := 12) (d' := 1) (by decide +kernel) ml_X12_187 cv_X12_isPort rfl (by decide) rfl ob_200 rfl (by decide) (Nat.le_of_ble_eq_true rfl) (t_X12_isPort hc_2) ?_
  refine Fr_if_eq (off := 10) 14 (by decide +kernel) (by decide) (fun hc => ?_) (fun hc => ?_)
  · have h := iT hc h
    refine Fr_aload_n (q := 0) (i := 0) 0 (by decide +kernel) rfl rfl ?_
    refine gf_X12_35 rfl (by decide +kernel) ob_200 ?_
    refine Fr_sipush (i := 1740) (v := 1740) (by decide +kernel) (by decide) ?_
    obtain ⟨hi_4, h⟩ := ck_elim h
    refine Fr_iald (by decide +kernel) ob_205 (vp_of ln_205 hi_4) ?_
    refine Fr_if_ne (off := 10) 32 (by decide +kernel) (by decide) (fun hc => ?_) (fun hc => ?_)
    · have h := iF hc h
      refine Fr_aload_n (q := 0) (i := 0) 0 (by decide +kernel) rfl rfl ?_
      obtain ⟨r_7, M_5, hc_6, h⟩ := bi_elim h
      refine Fr_cVb (ν := m_X12_isGate) (As := []) (st := []) (rc := 200) (ci := 12) (d' := 1) (by decide +kernel) ml_X12_193 cv_X12_isGate rfl (by decide) rfl ob_200 rfl (by decide) (Nat.le_of_ble_eq_true rfl) (t_X12_isGate hc_6) ?_
      refine Fr_if_eq (off := 10) 46 (by decide +kernel) (by decide) (fun hc => ?_) (fun hc => ?_)
      · have h := iT hc h
        refine Fr_aload_n (q := 0) (i := 0) 0 (by decide +kernel) rfl rfl ?_
        obtain ⟨r_10, M_8, hc_9, h⟩ := bi_elim h
        refine Fr_cVb (ν := m_X12_isHolder) (As := []) (st := []) (rc := 200) (ci := 12) (d' := 1) (by decide +kernel) ml_X12_205 cv_X12_isHolder rfl (by decide) rfl ob_200 rfl (by decide) (Nat.le_of_ble_eq_true rfl) (t_X12_isHolder hc_9) ?_
        refine Fr_if_eq (off := 10) 60 (by decide +kernel) (by decide) (fun hc => ?_) (fun hc => ?_)
        · have h := iT hc h
          refine Fr_aload_n (q := 0) (i := 0) 0 (by decide +kernel) rfl rfl ?_
          obtain ⟨r_13, M_11, hc_12, h⟩ := bi_elim h
          refine Fr_cVb (ν := m_X12_isTrade) (As := []) (st := []) (rc := 200) (ci := 12) (d' := 1) (by decide +kernel) ml_X12_211 cv_X12_isTrade rfl (by decide) rfl ob_200 rfl (by decide) (Nat.le_of_ble_eq_true rfl) (t_X12_isTrade hc_12) ?_
          refine Fr_if_eq (off := 10) 74 (by decide +kernel) (by decide) (fun hc => ?_) (fun hc => ?_)
          · have h := iT hc h
            refine Fr_aload_n (q := 0) (i := 0) 0 (by decide +kernel) rfl rfl ?_
            obtain ⟨r_16, M_14, hc_15, h⟩ := bi_elim h
            refine Fr_cVb (ν := m_X12_isShip) (As := []) (st := []) (rc := 200) (ci := 12) (d' := 1) (by decide +kernel) ml_X12_226 cv_X12_isShip rfl (by decide) rfl ob_200 rfl (by decide) (Nat.le_of_ble_eq_true rfl) (t_X12_isShip hc_15) ?_
            refine Fr_if_eq (off := 10) 88 (by decide +kernel) (by decide) (fun hc => ?_) (fun hc => ?_)
            · have h := iT hc h
              refine Fr_aload_n (q := 0) (i := 0) 0 (by decide +kernel) rfl rfl ?_
              obtain ⟨r_19, M_17, hc_18, h⟩ := bi_elim h
              refine Fr_cVb (ν := m_X12_isWind) (As := []) (st := []) (rc := 200) (ci := 12) (d' := 1) (by decide +kernel) ml_X12_178 cv_X12_isWind rfl (by decide) rfl ob_200 rfl (by decide) (Nat.le_of_ble_eq_true rfl) (t_X12_isWind hc_18) ?_
              refine Fr_if_eq (off := 15) 107 (by decide +kernel) (by decide) (fun hc => ?_) (fun hc => ?_)
              · have h := iT hc h
                refine Fr_aload_n (q := 0) (i := 0) 0 (by decide +kernel) rfl rfl ?_
                obtain ⟨r_22, M_20, hc_21, h⟩ := bi_elim h
                refine Fr_cVb (ν := m_X12_isThins) (As := []) (st := []) (rc := 200) (ci := 12) (d' := 1) (by decide +kernel) ml_X12_232 cv_X12_isThins rfl (by decide) rfl ob_200 rfl (by decide) (Nat.le_of_ble_eq_true rfl) (t_X12_isThins hc_21) ?_
                refine Fr_if_eq (off := 16) 127 (by decide +kernel) (by decide) (fun hc => ?_) (fun hc => ?_)
                · have h := iT hc h
                  refine Fr_aload_n (q := 0) (i := 0) 0 (by decide +kernel) rfl rfl ?_
                  obtain ⟨r_25, M_23, hc_24, h⟩ := bi_elim h
                  refine Fr_cVb (ν := m_X12_isFoggyWord) (As := []) (st := []) (rc := 200) (ci := 12) (d' := 1) (by decide +kernel) ml_X12_181 cv_X12_isFoggyWord rfl (by decide) rfl ob_200 rfl (by decide) (Nat.le_of_ble_eq_true rfl) (t_X12_isFoggyWord hc_24) ?_
                  refine Fr_if_eq (off := 16) 147 (by decide +kernel) (by decide) (fun hc => ?_) (fun hc => ?_)
                  · have h := iT hc h
                    refine Fr_aload_n (q := 0) (i := 0) 0 (by decide +kernel) rfl rfl ?_
                    obtain ⟨M_26, hc_27, h⟩ := bv_elim h
                    refine Fr_cVv (ν := m_X12_amiss) (As := []) (st := []) (rc := 200) (ci := 12) (d' := 1) (by decide +kernel) ml_X12_261 cv_X12_amiss rfl (by decide) rfl ob_200 rfl (by decide) (Nat.le_of_ble_eq_true rfl) (t_X12_amiss hc_27) ?_
                    obtain rfl := Option.some.inj h
                    exact Fr_vret (by decide +kernel) rfl ⟨rfl, rfl⟩
                  · have h := iF hc h
                    refine Fr_aload_n (q := 0) (i := 0) 0 (by decide +kernel) rfl rfl ?_
                    refine Fr_iconst (i := 2) (v := 2) (by decide +kernel) (by decide) ?_
                    refine Fr_bipush (i := 8) (v := 8) (by decide +kernel) (by decide) ?_
                    refine Fr_iconst (i := 1) (v := 1) (by decide +kernel) (by decide) ?_
                    refine Fr_bipush (i := 99) (v := 99) (by decide +kernel) (by decide) ?_
                    obtain ⟨M_28, hc_29, h⟩ := bv_elim h
                    refine Fr_cVv (ν := m_X12_readOnce) (As := [.int 2, .int 8, .int 1, .int 99]) (st := []) (rc := 200) (ci := 12) (d' := 3) (by decide +kernel) ml_X12_323 cv_X12_readOnce rfl (by decide) rfl ob_200 rfl (by decide) (Nat.le_of_ble_eq_true rfl) (t_X12_readOnce hc_29) ?_
                    refine Fr_goto (off := 7) 151 (by decide +kernel) (by decide) ?_
                    obtain rfl := Option.some.inj h
                    exact Fr_vret (by decide +kernel) rfl ⟨rfl, rfl⟩
                · have h := iF hc h
                  refine Fr_aload_n (q := 0) (i := 0) 0 (by decide +kernel) rfl rfl ?_
                  refine Fr_iconst (i := 1) (v := 1) (by decide +kernel) (by decide) ?_
                  refine Fr_bipush (i := 7) (v := 7) (by decide +kernel) (by decide) ?_
                  refine Fr_iconst (i := 0) (v := 0) (by decide +kernel) (by decide) ?_
                  refine Fr_bipush (i := 9) (v := 9) (by decide +kernel) (by decide) ?_
                  obtain ⟨M_30, hc_31, h⟩ := bv_elim h
                  refine Fr_cVv (ν := m_X12_readOnce) (As := [.int 1, .int 7, .int 0, .int 9]) (st := []) (rc := 200) (ci := 12) (d' := 3) (by decide +kernel) ml_X12_323 cv_X12_readOnce rfl (by decide) rfl ob_200 rfl (by decide) (Nat.le_of_ble_eq_true rfl) (t_X12_readOnce hc_31) ?_
                  refine Fr_goto (off := 27) 151 (by decide +kernel) (by decide) ?_
                  obtain rfl := Option.some.inj h
                  exact Fr_vret (by decide +kernel) rfl ⟨rfl, rfl⟩
              · have h := iF hc h
                refine Fr_aload_n (q := 0) (i := 0) 0 (by decide +kernel) rfl rfl ?_
                refine Fr_iconst (i := 0) (v := 0) (by decide +kernel) (by decide) ?_
                refine Fr_bipush (i := 6) (v := 6) (by decide +kernel) (by decide) ?_
                refine Fr_iconst (i := 0) (v := 0) (by decide +kernel) (by decide) ?_
                refine Fr_iconst (i := 4) (v := 4) (by decide +kernel) (by decide) ?_
                obtain ⟨M_32, hc_33, h⟩ := bv_elim h
                refine Fr_cVv (ν := m_X12_readOnce) (As := [.int 0, .int 6, .int 0, .int 4]) (st := []) (rc := 200) (ci := 12) (d' := 3) (by decide +kernel) ml_X12_323 cv_X12_readOnce rfl (by decide) rfl ob_200 rfl (by decide) (Nat.le_of_ble_eq_true rfl) (t_X12_readOnce hc_33) ?_
                refine Fr_goto (off := 47) 151 (by decide +kernel) (by decide) ?_
                obtain rfl := Option.some.inj h
                exact Fr_vret (by decide +kernel) rfl ⟨rfl, rfl⟩
            · have h := iF hc h
              refine Fr_aload_n (q := 0) (i := 0) 0 (by decide +kernel) rfl rfl ?_
              obtain ⟨M_34, hc_35, h⟩ := bv_elim h
              refine Fr_cVv (ν := m_X12_readShip) (As := []) (st := []) (rc := 200) (ci := 12) (d' := 6) (by decide +kernel) ml_X12_320 cv_X12_readShip rfl (by decide) rfl ob_200 rfl (by decide) (Nat.le_of_ble_eq_true rfl) (t_X12_readShip hc_35) ?_
              refine Fr_goto (off := 66) 151 (by decide +kernel) (by decide) ?_
              obtain rfl := Option.some.inj h
              exact Fr_vret (by decide +kernel) rfl ⟨rfl, rfl⟩
          · have h := iF hc h
            refine Fr_aload_n (q := 0) (i := 0) 0 (by decide +kernel) rfl rfl ?_
            obtain ⟨M_36, hc_37, h⟩ := bv_elim h
            refine Fr_cVv (ν := m_X12_readTrade) (As := []) (st := []) (rc := 200) (ci := 12) (d' := 6) (by decide +kernel) ml_X12_317 cv_X12_readTrade rfl (by decide) rfl ob_200 rfl (by decide) (Nat.le_of_ble_eq_true rfl) (t_X12_readTrade hc_37) ?_
            refine Fr_goto (off := 80) 151 (by decide +kernel) (by decide) ?_
            obtain rfl := Option.some.inj h
            exact Fr_vret (by decide +kernel) rfl ⟨rfl, rfl⟩
        · have h := iF hc h
          refine Fr_aload_n (q := 0) (i := 0) 0 (by decide +kernel) rfl rfl ?_
          obtain ⟨M_38, hc_39, h⟩ := bv_elim h
          refine Fr_cVv (ν := m_X12_readHolder) (As := []) (st := []) (rc := 200) (ci := 12) (d' := 6) (by decide +kernel) ml_X12_314 cv_X12_readHolder rfl (by decide) rfl ob_200 rfl (by decide) (Nat.le_of_ble_eq_true rfl) (t_X12_readHolder hc_39) ?_
          refine Fr_goto (off := 94) 151 (by decide +kernel) (by decide) ?_
          obtain rfl := Option.some.inj h
          exact Fr_vret (by decide +kernel) rfl ⟨rfl, rfl⟩
      · have h := iF hc h
        refine Fr_aload_n (q := 0) (i := 0) 0 (by decide +kernel) rfl rfl ?_
        obtain ⟨M_40, hc_41, h⟩ := bv_elim h
        refine Fr_cVv (ν := m_X12_readGate) (As := []) (st := []) (rc := 200) (ci := 12) (d' := 6) (by decide +kernel) ml_X12_311 cv_X12_readGate rfl (by decide) rfl ob_200 rfl (by decide) (Nat.le_of_ble_eq_true rfl) (t_X12_readGate hc_41) ?_
        refine Fr_goto (off := 108) 151 (by decide +kernel) (by decide) ?_
        obtain rfl := Option.some.inj h
        exact Fr_vret (by decide +kernel) rfl ⟨rfl, rfl⟩
    · have h := iT hc h
      refine Fr_aload_n (q := 0) (i := 0) 0 (by decide +kernel) rfl rfl ?_
      obtain ⟨M_42, hc_43, h⟩ := bv_elim h
      refine Fr_cVv (ν := m_X12_amiss) (As := []) (st := []) (rc := 200) (ci := 12) (d' := 1) (by decide +kernel) ml_X12_261 cv_X12_amiss rfl (by decide) rfl ob_200 rfl (by decide) (Nat.le_of_ble_eq_true rfl) (t_X12_amiss hc_43) ?_
      refine Fr_goto (off := 122) 151 (by decide +kernel) (by decide) ?_
      obtain rfl := Option.some.inj h
      exact Fr_vret (by decide +kernel) rfl ⟨rfl, rfl⟩
  · have h := iF hc h
    refine Fr_aload_n (q := 0) (i := 0) 0 (by decide +kernel) rfl rfl ?_
    obtain ⟨M_44, hc_45, h⟩ := bv_elim h
    refine Fr_cVv (ν := m_X12_readPort) (As := []) (st := []) (rc := 200) (ci := 12) (d' := 3) (by decide +kernel) ml_X12_308 cv_X12_readPort rfl (by decide) rfl ob_200 rfl (by decide) (Nat.le_of_ble_eq_true rfl) (t_X12_readPort hc_45) ?_
    refine Fr_goto (off := 140) 151 (by decide +kernel) (by decide) ?_
    obtain rfl := Option.some.inj h
    exact Fr_vret (by decide +kernel) rfl ⟨rfl, rfl⟩
set_option maxRecDepth 20000 in
theorem t_X12_copy_h41 {N : Nat} {q : Mem} {k41 : Int32 × Int32 × Int32 → Mem → Option (Mem)} (hk41 : ∀ (a : Int32 × Int32 × Int32) (M : Mem), k41 a M = some q → Fr 200 21 0 m_X12_copy 41 [(0, .ref 200), (1, .int a.1), (2, .int a.2.1), (3, .int a.2.2)] [] M (QV q)) {v1 : Int32} {v2 : Int32} {v3 : Int32} {M : Mem} (h : f_X12_copy_h41 N k41 v1 v2 v3 M = some q) : Fr 200 21 0 m_X12_copy 41 [(0, .ref 200), (1, .int v1), (2, .int v2), (3, .int v3)] [] M (QV q) := by
  unfold f_X12_copy_h41 at h
  refine Fr_iload_n (q := 3) (i := 3) 3 (by decide +kernel) rfl rfl ?_
  refine Fr_bipush (i := 22) (v := 22) (by decide +kernel) (by decide) ?_
  refine Fr_icmp_ge (off := 31) 75 (by decide +kernel) (by decide) (fun hc => ?_) (fun hc => ?_)
  · have h := iT hc h
    obtain rfl := Option.some.inj h
    exact Fr_vret (by decide +kernel) rfl ⟨rfl, rfl⟩
  · have h := iF hc h
    refine Fr_aload_n (q := 0) (i := 0) 0 (by decide +kernel) rfl rfl ?_
    refine gf_X12_44 rfl (by decide +kernel) ob_200 ?_
    refine Fr_bipush (i := 22) (v := 22) (by decide +kernel) (by decide) ?_
    refine Fr_iload_n (q := 2) (i := 2) 2 (by decide +kernel) rfl rfl ?_
    refine Fr_imul (by decide +kernel) ?_
    refine Fr_iload_n (q := 3) (i := 3) 3 (by decide +kernel) rfl rfl ?_
    refine Fr_iadd (by decide +kernel) ?_
    refine Fr_aload_n (q := 0) (i := 0) 0 (by decide +kernel) rfl rfl ?_
    refine gf_X12_44 rfl (by decide +kernel) ob_200 ?_
    refine Fr_bipush (i := 22) (v := 22) (by decide +kernel) (by decide) ?_
    refine Fr_iload_n (q := 1) (i := 1) 1 (by decide +kernel) rfl rfl ?_
    refine Fr_imul (by decide +kernel) ?_
    refine Fr_iload_n (q := 3) (i := 3) 3 (by decide +kernel) rfl rfl ?_
    refine Fr_iadd (by decide +kernel) ?_
    obtain ⟨hi_1, h⟩ := ck_elim h
    refine Fr_lald (by decide +kernel) ob_208 (vp_of ln_208 hi_1) ?_
    obtain ⟨hi_2, h⟩ := ck_elim h
    refine Fr_last (by decide +kernel) ob_208 (vp_of ln_208 hi_2) ?_
    obtain ⟨M_3, eM_3, h⟩ := bM_elim h
    refine Fr_mem eM_3 ?_
    refine Fr_iinc (i := 3) (j := 1) (v := (v3 + 1)) (lv' := [(3, .int (v3 + 1)), (0, .ref 200), (1, .int v1), (2, .int v2)]) 3 (by decide +kernel) rfl rfl (by decide) rfl ?_
    refine Fr_goto (off := (-31)) 41 (by decide +kernel) (by decide) ?_
    refine Fr_loc [1, 2, 3, 0] rfl ?_
    exact hk41 (v1, v2, (v3 + 1)) M_3 h
set_option maxRecDepth 20000 in
theorem t_X12_copy_h2 {N : Nat} {q : Mem} {k2 : Int32 × Int32 × Int32 → Mem → Option (Mem)} (hk2 : ∀ (a : Int32 × Int32 × Int32) (M : Mem), k2 a M = some q → Fr 200 21 0 m_X12_copy 2 [(0, .ref 200), (1, .int a.1), (2, .int a.2.1), (3, .int a.2.2)] [] M (QV q)) {v1 : Int32} {v2 : Int32} {v3 : Int32} {M : Mem} (h : f_X12_copy_h2 N k2 v1 v2 v3 M = some q) : Fr 200 21 0 m_X12_copy 2 [(0, .ref 200), (1, .int v1), (2, .int v2), (3, .int v3)] [] M (QV q) := by
  unfold f_X12_copy_h2 at h
  refine Fr_iload_n (q := 3) (i := 3) 3 (by decide +kernel) rfl rfl ?_
  refine Fr_sipush (i := 435) (v := 435) (by decide +kernel) (by decide) ?_
  refine Fr_icmp_ge (off := 33) 39 (by decide +kernel) (by decide) (fun hc => ?_) (fun hc => ?_)
  · have h := iT hc h
    refine Fr_iconst (i := 0) (v := 0) (by decide +kernel) (by decide) ?_
    refine Fr_istore_n (q := 3) (i := 3) (lv' := [(3, .int 0), (0, .ref 200), (1, .int v1), (2, .int v2)]) (by decide +kernel) rfl (by decide) rfl ?_
    refine Fr_loc [1, 2, 3, 0] rfl ?_
    exact lp_sound (body := fun k a m => f_X12_copy_h41 N k a.1 a.2.1 a.2.2 m) (P := fun a M => Fr 200 21 0 m_X12_copy 41 [(0, .ref 200), (1, .int a.1), (2, .int a.2.1), (3, .int a.2.2)] [] M (QV q)) (fun k hk a m h => t_X12_copy_h41 hk h) N (v1, v2, 0) M h
  · have h := iF hc h
    refine Fr_aload_n (q := 0) (i := 0) 0 (by decide +kernel) rfl rfl ?_
    refine gf_X12_35 rfl (by decide +kernel) ob_200 ?_
    refine Fr_sipush (i := 435) (v := 435) (by decide +kernel) (by decide) ?_
    refine Fr_iload_n (q := 2) (i := 2) 2 (by decide +kernel) rfl rfl ?_
    refine Fr_imul (by decide +kernel) ?_
    refine Fr_iload_n (q := 3) (i := 3) 3 (by decide +kernel) rfl rfl ?_
    refine Fr_iadd (by decide +kernel) ?_
    refine Fr_aload_n (q := 0) (i := 0) 0 (by decide +kernel) rfl rfl ?_
    refine gf_X12_35 rfl (by decide +kernel) ob_200 ?_
    refine Fr_sipush (i := 435) (v := 435) (by decide +kernel) (by decide) ?_
    refine Fr_iload_n (q := 1) (i := 1) 1 (by decide +kernel) rfl rfl ?_
    refine Fr_imul (by decide +kernel) ?_
    refine Fr_iload_n (q := 3) (i := 3) 3 (by decide +kernel) rfl rfl ?_
    refine Fr_iadd (by decide +kernel) ?_
    obtain ⟨hi_4, h⟩ := ck_elim h
    refine Fr_iald (by decide +kernel) ob_205 (vp_of ln_205 hi_4) ?_
    obtain ⟨hi_5, h⟩ := ck_elim h
    refine Fr_iast (by decide +kernel) ob_205 (vp_of ln_205 hi_5) ?_
    obtain ⟨M_6, eM_6, h⟩ := bM_elim h
    refine Fr_mem eM_6 ?_
    refine Fr_iinc (i := 3) (j := 1) (v := (v3 + 1)) (lv' := [(3, .int (v3 + 1)), (0, .ref 200), (1, .int v1), (2, .int v2)]) 3 (by decide +kernel) rfl rfl (by decide) rfl ?_
    refine Fr_goto (off := (-34)) 2 (by decide +kernel) (by decide) ?_
    refine Fr_loc [1, 2, 3, 0] rfl ?_
    exact hk2 (v1, v2, (v3 + 1)) M_6 h
set_option maxRecDepth 20000 in
theorem t_X12_copy {N : Nat} {x1 : Int32} {x2 : Int32} {M : Mem} {q : Mem} (h : f_X12_copy N x1 x2 M = some q) : Ev 200 21 0 m_X12_copy [.ref 200, .int x1, .int x2] M (QV q) := by
  refine Ev_of_Fr (by decide +kernel) (Nat.le_of_ble_eq_true rfl) ?_
  show Fr 200 21 0 m_X12_copy 0 [(0, .ref 200), (1, .int x1), (2, .int x2)] [] M (QV q)
  unfold f_X12_copy at h
  refine Fr_iconst (i := 0) (v := 0) (by decide +kernel) (by decide) ?_
  refine Fr_istore_n (q := 3) (i := 3) (lv' := [(3, .int 0), (0, .ref 200), (1, .int x1), (2, .int x2)]) (by decide +kernel) rfl (by decide) rfl ?_
  refine Fr_loc [1, 2, 3, 0] rfl ?_
  exact lp_sound (body := fun k a m => f_X12_copy_h2 N k a.1 a.2.1 a.2.2 m) (P := fun a M => Fr 200 21 0 m_X12_copy 2 [(0, .ref 200), (1, .int a.1), (2, .int a.2.1), (3, .int a.2.2)] [] M (QV q)) (fun k hk a m h => t_X12_copy_h2 hk h) N (x1, x2, 0) M h
set_option maxRecDepth 20000 in
theorem t_X12_port_b104 {N : Nat} {q : Int32 × Mem} {M : Mem} (h : f_X12_port_b104 N M = some q) : Fr 200 21 8 m_X12_port 104 [(0, .ref 200)] [] M (QI q) := by
  unfold f_X12_port_b104 at h
  refine Fr_aload_n (q := 0) (i := 0) 0 (by decide +kernel) rfl rfl ?_
  obtain ⟨r_13, M_11, hc_12, h⟩ := bi_elim h
  refine Fr_cVb (ν := m_X12_isWell) (As := []) (st := []) (rc := 200) (ci := 12) (d' := 1) (by decide +kernel) ml_X12_336 cv_X12_isWell rfl (by decide) rfl ob_200 rfl (by decide) (Nat.le_of_ble_eq_true rfl) (t_X12_isWell hc_12) ?_
  refine Fr_if_ne (off := 5) 113 (by decide +kernel) (by decide) (fun hc => ?_) (fun hc => ?_)
  · have h := iF hc h
    refine Fr_aload_n (q := 0) (i := 0) 0 (by decide +kernel) rfl rfl ?_
    refine Fr_iconst (i := 4) (v := 4) (by decide +kernel) (by decide) ?_
    refine Fr_iconst (i := 0) (v := 0) (by decide +kernel) (by decide) ?_
    obtain ⟨M_14, hc_15, h⟩ := bv_elim h
    refine Fr_cVv (ν := m_X12_copy) (As := [.int 4, .int 0]) (st := []) (rc := 200) (ci := 12) (d' := 0) (by decide +kernel) ml_X12_339 cv_X12_copy rfl (by decide) rfl ob_200 rfl (by decide) (Nat.le_of_ble_eq_true rfl) (t_X12_copy hc_15) ?_
    refine Fr_aload_n (q := 0) (i := 0) 0 (by decide +kernel) rfl rfl ?_
    refine gf_X12_35 rfl (by decide +kernel) ob_200 ?_
    refine Fr_iconst (i := 2) (v := 2) (by decide +kernel) (by decide) ?_
    obtain ⟨hi_16, h⟩ := ck_elim h
    refine Fr_iald (by decide +kernel) ob_205 (vp_of ln_205 hi_16) ?_
    obtain rfl := Option.some.inj h
    exact Fr_iret (by decide +kernel) rfl ⟨rfl, rfl⟩
  · have h := iT hc h
    refine Fr_iconst (i := (-1)) (v := (-1)) (by decide +kernel) (by decide) ?_
    obtain rfl := Option.some.inj h
    exact Fr_iret (by decide +kernel) rfl ⟨rfl, rfl⟩
set_option maxRecDepth 20000 in
theorem t_X12_port_h73 {N : Nat} {q : Int32 × Mem} {k73 : Unit → Mem → Option (Int32 × Mem)} (hk73 : ∀ (a : Unit) (M : Mem), k73 a M = some q → Fr 200 21 8 m_X12_port 73 [(0, .ref 200)] [] M (QI q)) {M : Mem} (h : f_X12_port_h73 N k73 M = some q) : Fr 200 21 8 m_X12_port 73 [(0, .ref 200)] [] M (QI q) := by
  unfold f_X12_port_h73 at h
  refine Fr_aload_n (q := 0) (i := 0) 0 (by decide +kernel) rfl rfl ?_
  refine gf_X12_248 rfl (by decide +kernel) ob_200 ?_
  refine Fr_if_ne (off := 27) 104 (by decide +kernel) (by decide) (fun hc => ?_) (fun hc => ?_)
  · have h := iF hc h
    exact t_X12_port_b104 h
  · have h := iT hc h
    refine Fr_aload_n (q := 0) (i := 0) 0 (by decide +kernel) rfl rfl ?_
    refine gf_X12_139 rfl (by decide +kernel) ob_200 ?_
    refine Fr_if_eq (off := 20) 104 (by decide +kernel) (by decide) (fun hc => ?_) (fun hc => ?_)
    · have h := iT hc h
      exact t_X12_port_b104 h
    · have h := iF hc h
      refine Fr_aload_n (q := 0) (i := 0) 0 (by decide +kernel) rfl rfl ?_
      obtain ⟨M_17, hc_18, h⟩ := bv_elim h
      refine Fr_cVv (ν := m_X12_readPart) (As := []) (st := []) (rc := 200) (ci := 12) (d' := 7) (by decide +kernel) ml_X12_330 cv_X12_readPart rfl (by decide) rfl ob_200 rfl (by decide) (Nat.le_of_ble_eq_true rfl) (t_X12_readPart hc_18) ?_
      refine Fr_aload_n (q := 0) (i := 0) 0 (by decide +kernel) rfl rfl ?_
      refine Fr_aload_n (q := 0) (i := 0) 0 (by decide +kernel) rfl rfl ?_
      refine Fr_bipush (i := 59) (v := 59) (by decide +kernel) (by decide) ?_
      obtain ⟨r_21, M_19, hc_20, h⟩ := bi_elim h
      refine Fr_cVb (ν := m_X12_isSign) (As := [.int 59]) (st := [.ref 200]) (rc := 200) (ci := 12) (d' := 0) (by decide +kernel) ml_X12_333 cv_X12_isSign rfl (by decide) rfl ob_200 rfl (by decide) (Nat.le_of_ble_eq_true rfl) (t_X12_isSign hc_20) ?_
      obtain ⟨M_22, hc_23, h⟩ := bv_elim h
      refine Fr_cVv (ν := m_X12_must) (As := [.int (b2i r_21)]) (st := []) (rc := 200) (ci := 12) (d' := 2) (by decide +kernel) ml_X12_264 cv_X12_must rfl (by decide) rfl ob_200 rfl (by decide) (Nat.le_of_ble_eq_true rfl) (t_X12_must hc_23) ?_
      refine Fr_goto (off := (-28)) 73 (by decide +kernel) (by decide) ?_
      exact hk73 () M_22 h
set_option maxRecDepth 20000 in
theorem t_X12_port_h25 {N : Nat} {q : Int32 × Mem} {k25 : Int32 → Mem → Option (Int32 × Mem)} (hk25 : ∀ (a : Int32) (M : Mem), k25 a M = some q → Fr 200 21 8 m_X12_port 25 [(0, .ref 200), (2, .int a)] [] M (QI q)) {v2 : Int32} {M : Mem} (h : f_X12_port_h25 N k25 v2 M = some q) : Fr 200 21 8 m_X12_port 25 [(0, .ref 200), (2, .int v2)] [] M (QI q) := by
  unfold f_X12_port_h25 at h
  refine Fr_iload_n (q := 2) (i := 2) 1 (by decide +kernel) rfl rfl ?_
  refine Fr_sipush (i := 435) (v := 435) (by decide +kernel) (by decide) ?_
  refine Fr_icmp_ge (off := 20) 49 (by decide +kernel) (by decide) (fun hc => ?_) (fun hc => ?_)
  · have h := iT hc h
    refine Fr_aload_n (q := 0) (i := 0) 0 (by decide +kernel) rfl rfl ?_
    refine gf_X12_35 rfl (by decide +kernel) ob_200 ?_
    refine Fr_sipush (i := 1747) (v := 1747) (by decide +kernel) (by decide) ?_
    refine Fr_iconst (i := 1) (v := 1) (by decide +kernel) (by decide) ?_
    obtain ⟨hi_6, h⟩ := ck_elim h
    refine Fr_iast (by decide +kernel) ob_205 (vp_of ln_205 hi_6) ?_
    obtain ⟨M_7, eM_7, h⟩ := bM_elim h
    refine Fr_mem eM_7 ?_
    refine Fr_aload_n (q := 0) (i := 0) 0 (by decide +kernel) rfl rfl ?_
    refine gf_X12_35 rfl (by decide +kernel) ob_200 ?_
    refine Fr_sipush (i := 1748) (v := 1748) (by decide +kernel) (by decide) ?_
    refine Fr_bipush (i := 10) (v := 10) (by decide +kernel) (by decide) ?_
    obtain ⟨hi_8, h⟩ := ck_elim h
    refine Fr_iast (by decide +kernel) ob_205 (vp_of ln_205 hi_8) ?_
    obtain ⟨M_9, eM_9, h⟩ := bM_elim h
    refine Fr_mem eM_9 ?_
    refine Fr_aload_n (q := 0) (i := 0) 0 (by decide +kernel) rfl rfl ?_
    refine Fr_iconst (i := 0) (v := 0) (by decide +kernel) (by decide) ?_
    refine pf_X12_305 rfl (by decide +kernel) ob_200 ?_
    obtain ⟨M_10, eM_10, h⟩ := bM_elim h
    refine Fr_mem eM_10 ?_
    refine Fr_loc [0] rfl ?_
    exact lp_sound (body := fun k a m => f_X12_port_h73 N k m) (P := fun a M => Fr 200 21 8 m_X12_port 73 [(0, .ref 200)] [] M (QI q)) (fun k hk a m h => t_X12_port_h73 hk h) N () M_10 h
  · have h := iF hc h
    refine Fr_aload_n (q := 0) (i := 0) 0 (by decide +kernel) rfl rfl ?_
    refine gf_X12_35 rfl (by decide +kernel) ob_200 ?_
    refine Fr_sipush (i := 1740) (v := 1740) (by decide +kernel) (by decide) ?_
    refine Fr_iload_n (q := 2) (i := 2) 1 (by decide +kernel) rfl rfl ?_
    refine Fr_iadd (by decide +kernel) ?_
    refine Fr_iconst (i := 0) (v := 0) (by decide +kernel) (by decide) ?_
    obtain ⟨hi_24, h⟩ := ck_elim h
    refine Fr_iast (by decide +kernel) ob_205 (vp_of ln_205 hi_24) ?_
    obtain ⟨M_25, eM_25, h⟩ := bM_elim h
    refine Fr_mem eM_25 ?_
    refine Fr_iinc (i := 2) (j := 1) (v := (v2 + 1)) (lv' := [(2, .int (v2 + 1)), (0, .ref 200)]) 1 (by decide +kernel) rfl rfl (by decide) rfl ?_
    refine Fr_goto (off := (-21)) 25 (by decide +kernel) (by decide) ?_
    refine Fr_loc [1, 0] rfl ?_
    exact hk25 (v2 + 1) M_25 h
set_option maxRecDepth 20000 in
theorem t_X12_port {N : Nat} {x1 : Int32} {M : Mem} {q : Int32 × Mem} (h : f_X12_port N x1 M = some q) : Ev 200 21 8 m_X12_port [.ref 200, .int x1] M (QI q) := by
  refine Ev_of_Fr (by decide +kernel) (Nat.le_of_ble_eq_true rfl) ?_
  show Fr 200 21 8 m_X12_port 0 [(0, .ref 200), (1, .int x1)] [] M (QI q)
  unfold f_X12_port at h
  refine Fr_aload_n (q := 0) (i := 0) 0 (by decide +kernel) rfl rfl ?_
  refine Fr_iconst (i := 0) (v := 0) (by decide +kernel) (by decide) ?_
  refine pf_X12_84 rfl (by decide +kernel) ob_200 ?_
  obtain ⟨M_1, eM_1, h⟩ := bM_elim h
  refine Fr_mem eM_1 ?_
  refine Fr_aload_n (q := 0) (i := 0) 0 (by decide +kernel) rfl rfl ?_
  refine Fr_iconst (i := 0) (v := 0) (by decide +kernel) (by decide) ?_
  refine pf_X12_87 rfl (by decide +kernel) ob_200 ?_
  obtain ⟨M_2, eM_2, h⟩ := bM_elim h
  refine Fr_mem eM_2 ?_
  refine Fr_aload_n (q := 0) (i := 0) 0 (by decide +kernel) rfl rfl ?_
  refine Fr_iload_n (q := 1) (i := 1) 1 (by decide +kernel) rfl rfl ?_
  refine Fr_sipush (i := 900) (v := 900) (by decide +kernel) (by decide) ?_
  obtain ⟨r_5, M_3, hc_4, h⟩ := bi_elim h
  refine Fr_cVb (ν := m_X12_starts) (As := [.int x1, .int 900]) (st := []) (rc := 200) (ci := 12) (d' := 2) (by decide +kernel) ml_X12_327 cv_X12_starts rfl (by decide) rfl ob_200 rfl (by decide) (Nat.le_of_ble_eq_true rfl) (t_X12_starts hc_4) ?_
  refine Fr_if_ne (off := 5) 23 (by decide +kernel) (by decide) (fun hc => ?_) (fun hc => ?_)
  · have h := iF hc h
    refine Fr_iconst (i := 0) (v := 0) (by decide +kernel) (by decide) ?_
    refine Fr_istore_n (q := 2) (i := 2) (lv' := [(2, .int 0), (0, .ref 200), (1, .int x1)]) (by decide +kernel) rfl (by decide) rfl ?_
    refine Fr_loc [1, 0] rfl ?_
    exact lp_sound (body := fun k a m => f_X12_port_h25 N k a m) (P := fun a M => Fr 200 21 8 m_X12_port 25 [(0, .ref 200), (2, .int a)] [] M (QI q)) (fun k hk a m h => t_X12_port_h25 hk h) N 0 M_3 h
  · have h := iT hc h
    refine Fr_iconst (i := (-1)) (v := (-1)) (by decide +kernel) (by decide) ?_
    obtain rfl := Option.some.inj h
    exact Fr_iret (by decide +kernel) rfl ⟨rfl, rfl⟩
set_option maxRecDepth 20000 in
theorem t_X12_readToldGate_b18 {N : Nat} {q : Int32 × Mem} {M : Mem} (h : f_X12_readToldGate_b18 N M = some q) : Fr 200 21 5 m_X12_readToldGate 18 [(0, .ref 200)] [] M (QI q) := by
  unfold f_X12_readToldGate_b18 at h
  refine Fr_aload_n (q := 0) (i := 0) 0 (by decide +kernel) rfl rfl ?_
  refine gf_X12_248 rfl (by decide +kernel) ob_200 ?_
  refine Fr_if_le (off := 5) 27 (by decide +kernel) (by decide) (fun hc => ?_) (fun hc => ?_)
  · have h := iT hc h
    refine Fr_aload_n (q := 0) (i := 0) 0 (by decide +kernel) rfl rfl ?_
    refine Fr_iconst (i := 0) (v := 0) (by decide +kernel) (by decide) ?_
    refine Fr_iconst (i := 0) (v := 0) (by decide +kernel) (by decide) ?_
    obtain ⟨r_3, M_1, hc_2, h⟩ := bi_elim h
    refine Fr_cVi (ν := m_X12_named) (As := [.int 0, .int 0]) (st := []) (rc := 200) (ci := 12) (d' := 1) (by decide +kernel) ml_X12_281 cv_X12_named rfl (by decide) rfl ob_200 rfl (by decide) (Nat.le_of_ble_eq_true rfl) (t_X12_named hc_2) ?_
    refine Fr_istore_n (q := 1) (i := 1) (lv' := [(1, .int r_3), (0, .ref 200)]) (by decide +kernel) rfl (by decide) rfl ?_
    refine Fr_iload_n (q := 1) (i := 1) 0 (by decide +kernel) rfl rfl ?_
    refine Fr_if_ge (off := 12) 47 (by decide +kernel) (by decide) (fun hc => ?_) (fun hc => ?_)
    · have h := iT hc h
      refine Fr_aload_n (q := 0) (i := 0) 1 (by decide +kernel) rfl rfl ?_
      refine Fr_iconst (i := 1) (v := 1) (by decide +kernel) (by decide) ?_
      obtain ⟨M_4, hc_5, h⟩ := bv_elim h
      refine Fr_cVv (ν := m_X12_must) (As := [.int 1]) (st := []) (rc := 200) (ci := 12) (d' := 2) (by decide +kernel) ml_X12_264 cv_X12_must rfl (by decide) rfl ob_200 rfl (by decide) (Nat.le_of_ble_eq_true rfl) (t_X12_must hc_5) ?_
      refine Fr_iconst (i := 0) (v := 0) (by decide +kernel) (by decide) ?_
      refine Fr_iload_n (q := 1) (i := 1) 0 (by decide +kernel) rfl rfl ?_
      refine Fr_max (by decide +kernel) ml_X12_342 (by decide) (Nat.le_of_ble_eq_true rfl) ?_
      obtain rfl := Option.some.inj h
      exact Fr_iret (by decide +kernel) rfl ⟨rfl, rfl⟩
    · have h := iF hc h
      refine Fr_aload_n (q := 0) (i := 0) 1 (by decide +kernel) rfl rfl ?_
      refine Fr_iconst (i := 3) (v := 3) (by decide +kernel) (by decide) ?_
      refine Fr_aload_n (q := 0) (i := 0) 1 (by decide +kernel) rfl rfl ?_
      refine gf_X12_133 rfl (by decide +kernel) ob_200 ?_
      obtain ⟨M_6, hc_7, h⟩ := bv_elim h
      refine Fr_cVv (ν := m_X12_fail) (As := [.int 3, .int (M_1.1 200 15)]) (st := []) (rc := 200) (ci := 12) (d' := 0) (by decide +kernel) ml_X12_254 cv_X12_fail rfl (by decide) rfl ob_200 rfl (by decide) (Nat.le_of_ble_eq_true rfl) (t_X12_fail hc_7) ?_
      refine Fr_aload_n (q := 0) (i := 0) 1 (by decide +kernel) rfl rfl ?_
      refine Fr_iconst (i := 1) (v := 1) (by decide +kernel) (by decide) ?_
      obtain ⟨M_8, hc_9, h⟩ := bv_elim h
      refine Fr_cVv (ν := m_X12_must) (As := [.int 1]) (st := []) (rc := 200) (ci := 12) (d' := 2) (by decide +kernel) ml_X12_264 cv_X12_must rfl (by decide) rfl ob_200 rfl (by decide) (Nat.le_of_ble_eq_true rfl) (t_X12_must hc_9) ?_
      refine Fr_iconst (i := 0) (v := 0) (by decide +kernel) (by decide) ?_
      refine Fr_iload_n (q := 1) (i := 1) 0 (by decide +kernel) rfl rfl ?_
      refine Fr_max (by decide +kernel) ml_X12_342 (by decide) (Nat.le_of_ble_eq_true rfl) ?_
      obtain rfl := Option.some.inj h
      exact Fr_iret (by decide +kernel) rfl ⟨rfl, rfl⟩
  · have h := iF hc h
    refine Fr_iconst (i := 0) (v := 0) (by decide +kernel) (by decide) ?_
    obtain rfl := Option.some.inj h
    exact Fr_iret (by decide +kernel) rfl ⟨rfl, rfl⟩
set_option maxRecDepth 20000 in
theorem t_X12_readToldGate {N : Nat} {M : Mem} {q : Int32 × Mem} (h : f_X12_readToldGate N M = some q) : Ev 200 21 5 m_X12_readToldGate [.ref 200] M (QI q) := by
  refine Ev_of_Fr (by decide +kernel) (Nat.le_of_ble_eq_true rfl) ?_
  show Fr 200 21 5 m_X12_readToldGate 0 [(0, .ref 200)] [] M (QI q)
  unfold f_X12_readToldGate at h
  refine Fr_aload_n (q := 0) (i := 0) 0 (by decide +kernel) rfl rfl ?_
  refine gf_X12_248 rfl (by decide +kernel) ob_200 ?_
  refine Fr_if_ne (off := 14) 18 (by decide +kernel) (by decide) (fun hc => ?_) (fun hc => ?_)
  · have h := iF hc h
    exact t_X12_readToldGate_b18 h
  · have h := iT hc h
    refine Fr_aload_n (q := 0) (i := 0) 0 (by decide +kernel) rfl rfl ?_
    obtain ⟨r_12, M_10, hc_11, h⟩ := bi_elim h
    refine Fr_cVb (ν := m_X12_isName) (As := []) (st := []) (rc := 200) (ci := 12) (d' := 4) (by decide +kernel) ml_X12_284 cv_X12_isName rfl (by decide) rfl ob_200 rfl (by decide) (Nat.le_of_ble_eq_true rfl) (t_X12_isName hc_11) ?_
    refine Fr_if_ne (off := 7) 18 (by decide +kernel) (by decide) (fun hc => ?_) (fun hc => ?_)
    · have h := iF hc h
      exact t_X12_readToldGate_b18 h
    · have h := iT hc h
      refine Fr_aload_n (q := 0) (i := 0) 0 (by decide +kernel) rfl rfl ?_
      obtain ⟨M_13, hc_14, h⟩ := bv_elim h
      refine Fr_cVv (ν := m_X12_amiss) (As := []) (st := []) (rc := 200) (ci := 12) (d' := 1) (by decide +kernel) ml_X12_261 cv_X12_amiss rfl (by decide) rfl ob_200 rfl (by decide) (Nat.le_of_ble_eq_true rfl) (t_X12_amiss hc_14) ?_
      exact t_X12_readToldGate_b18 h
