set_option maxRecDepth 20000 in
theorem t_X12_readTest_b125 {N : Nat} {q : Mem} {v1 : Int32} {s0 : Int32} {M : Mem} (h : f_X12_readTest_b125 N v1 s0 M = some q) : Fr 200 21 6 m_X12_readTest 125 [(0, .ref 200), (1, .int v1)] [.int s0, .ref 200] M (QV q) := by
  unfold f_X12_readTest_b125 at h
  obtain ⟨M_15, hc_16, h⟩ := bv_elim h
  refine Fr_cVv (ν := m_X12_must) (As := [.int s0]) (st := []) (rc := 200) (ci := 12) (d' := 2) (by decide +kernel) ml_X12_264 cv_X12_must rfl (by decide) rfl ob_200 rfl (by decide) (Nat.le_of_ble_eq_true rfl) (t_X12_must hc_16) ?_
  refine Fr_aload_n (q := 0) (i := 0) 0 (by decide +kernel) rfl rfl ?_
  refine gf_X12_35 rfl (by decide +kernel) ob_200 ?_
  refine Fr_iload_n (q := 1) (i := 1) 1 (by decide +kernel) rfl rfl ?_
  refine Fr_iconst (i := 3) (v := 3) (by decide +kernel) (by decide) ?_
  refine Fr_iadd (by decide +kernel) ?_
  refine Fr_aload_n (q := 0) (i := 0) 0 (by decide +kernel) rfl rfl ?_
  refine Fr_iconst (i := 0) (v := 0) (by decide +kernel) (by decide) ?_
  refine Fr_sipush (i := 999) (v := 999) (by decide +kernel) (by decide) ?_
  obtain ⟨r_19, M_17, hc_18, h⟩ := bi_elim h
  refine Fr_cVi (ν := m_X12_count) (As := [.int 0, .int 999]) (st := [.int (v1 + 3), .ref 205]) (rc := 200) (ci := 12) (d' := 2) (by decide +kernel) ml_X12_268 cv_X12_count rfl (by decide) rfl ob_200 rfl (by decide) (Nat.le_of_ble_eq_true rfl) (t_X12_count hc_18) ?_
  obtain ⟨hi_20, h⟩ := ck_elim h
  refine Fr_iast (by decide +kernel) ob_205 (vp_of ln_205 hi_20) ?_
  obtain ⟨M_21, eM_21, h⟩ := bM_elim h
  refine Fr_mem eM_21 ?_
  obtain rfl := Option.some.inj h
  exact Fr_vret (by decide +kernel) rfl ⟨rfl, rfl⟩
set_option maxRecDepth 20000 in
theorem t_X12_readTest_b120 {N : Nat} {q : Mem} {v1 : Int32} {M : Mem} (h : f_X12_readTest_b120 N v1 M = some q) : Fr 200 21 6 m_X12_readTest 120 [(0, .ref 200), (1, .int v1)] [.ref 200] M (QV q) := by
  unfold f_X12_readTest_b120 at h
  refine Fr_iconst (i := 1) (v := 1) (by decide +kernel) (by decide) ?_
  refine Fr_goto (off := 4) 125 (by decide +kernel) (by decide) ?_
  exact t_X12_readTest_b125 h
set_option maxRecDepth 20000 in
theorem t_X12_readTest_b91 {N : Nat} {q : Mem} {v1 : Int32} {s0 : Int32} {s1 : Int32} {M : Mem} (h : f_X12_readTest_b91 N v1 s0 s1 M = some q) : Fr 200 21 6 m_X12_readTest 91 [(0, .ref 200), (1, .int v1)] [.int s0, .int s1, .ref 205] M (QV q) := by
  unfold f_X12_readTest_b91 at h
  obtain ⟨hi_10, h⟩ := ck_elim h
  refine Fr_iast (by decide +kernel) ob_205 (vp_of ln_205 hi_10) ?_
  obtain ⟨M_11, eM_11, h⟩ := bM_elim h
  refine Fr_mem eM_11 ?_
  refine Fr_aload_n (q := 0) (i := 0) 0 (by decide +kernel) rfl rfl ?_
  refine Fr_aload_n (q := 0) (i := 0) 0 (by decide +kernel) rfl rfl ?_
  refine Fr_bipush (i := 60) (v := 60) (by decide +kernel) (by decide) ?_
  obtain ⟨r_14, M_12, hc_13, h⟩ := bi_elim h
  refine Fr_cVb (ν := m_X12_isSign) (As := [.int 60]) (st := [.ref 200]) (rc := 200) (ci := 12) (d' := 0) (by decide +kernel) ml_X12_333 cv_X12_isSign rfl (by decide) rfl ob_200 rfl (by decide) (Nat.le_of_ble_eq_true rfl) (t_X12_isSign hc_13) ?_
  refine Fr_if_ne (off := 21) 120 (by decide +kernel) (by decide) (fun hc => ?_) (fun hc => ?_)
  · have h := iF hc h
    exact t_X12_readTest_b120 h
  · have h := iT hc h
    refine Fr_aload_n (q := 0) (i := 0) 0 (by decide +kernel) rfl rfl ?_
    refine Fr_bipush (i := 62) (v := 62) (by decide +kernel) (by decide) ?_
    obtain ⟨r_24, M_22, hc_23, h⟩ := bi_elim h
    refine Fr_cVb (ν := m_X12_isSign) (As := [.int 62]) (st := [.ref 200]) (rc := 200) (ci := 12) (d' := 0) (by decide +kernel) ml_X12_333 cv_X12_isSign rfl (by decide) rfl ob_200 rfl (by decide) (Nat.le_of_ble_eq_true rfl) (t_X12_isSign hc_23) ?_
    refine Fr_if_ne (off := 12) 120 (by decide +kernel) (by decide) (fun hc => ?_) (fun hc => ?_)
    · have h := iF hc h
      exact t_X12_readTest_b120 h
    · have h := iT hc h
      refine Fr_aload_n (q := 0) (i := 0) 0 (by decide +kernel) rfl rfl ?_
      refine Fr_bipush (i := 61) (v := 61) (by decide +kernel) (by decide) ?_
      obtain ⟨r_27, M_25, hc_26, h⟩ := bi_elim h
      refine Fr_cVb (ν := m_X12_isSign) (As := [.int 61]) (st := [.ref 200]) (rc := 200) (ci := 12) (d' := 0) (by decide +kernel) ml_X12_333 cv_X12_isSign rfl (by decide) rfl ob_200 rfl (by decide) (Nat.le_of_ble_eq_true rfl) (t_X12_isSign hc_26) ?_
      refine Fr_if_eq (off := 7) 124 (by decide +kernel) (by decide) (fun hc => ?_) (fun hc => ?_)
      · have h := iT hc h
        refine Fr_iconst (i := 0) (v := 0) (by decide +kernel) (by decide) ?_
        exact t_X12_readTest_b125 h
      · have h := iF hc h
        exact t_X12_readTest_b120 h
set_option maxRecDepth 20000 in
theorem t_X12_readTest_b15 {N : Nat} {q : Mem} {v1 : Int32} {v2 : Int32} {s0 : Int32} {M : Mem} (h : f_X12_readTest_b15 N v1 v2 s0 M = some q) : Fr 200 21 6 m_X12_readTest 15 [(0, .ref 200), (1, .int v1), (2, .int v2)] [.int s0, .ref 200] M (QV q) := by
  unfold f_X12_readTest_b15 at h
  obtain ⟨M_4, hc_5, h⟩ := bv_elim h
  refine Fr_cVv (ν := m_X12_must) (As := [.int s0]) (st := []) (rc := 200) (ci := 12) (d' := 2) (by decide +kernel) ml_X12_264 cv_X12_must rfl (by decide) rfl ob_200 rfl (by decide) (Nat.le_of_ble_eq_true rfl) (t_X12_must hc_5) ?_
  refine Fr_aload_n (q := 0) (i := 0) 0 (by decide +kernel) rfl rfl ?_
  refine gf_X12_35 rfl (by decide +kernel) ob_200 ?_
  refine Fr_iload_n (q := 1) (i := 1) 1 (by decide +kernel) rfl rfl ?_
  refine Fr_bipush (i := 6) (v := 6) (by decide +kernel) (by decide) ?_
  refine Fr_iadd (by decide +kernel) ?_
  refine Fr_iload_n (q := 2) (i := 2) 2 (by decide +kernel) rfl rfl ?_
  obtain ⟨hi_6, h⟩ := ck_elim h
  refine Fr_iast (by decide +kernel) ob_205 (vp_of ln_205 hi_6) ?_
  obtain ⟨M_7, eM_7, h⟩ := bM_elim h
  refine Fr_mem eM_7 ?_
  refine Fr_iload_n (q := 2) (i := 2) 2 (by decide +kernel) rfl rfl ?_
  refine Fr_iconst (i := 1) (v := 1) (by decide +kernel) (by decide) ?_
  refine Fr_icmp_ne (off := 16) 46 (by decide +kernel) (by decide) (fun hc => ?_) (fun hc => ?_)
  · have h := iF hc h
    refine Fr_aload_n (q := 0) (i := 0) 0 (by decide +kernel) rfl rfl ?_
    refine Fr_iconst (i := 0) (v := 0) (by decide +kernel) (by decide) ?_
    refine Fr_iload_n (q := 1) (i := 1) 1 (by decide +kernel) rfl rfl ?_
    refine Fr_iconst (i := 1) (v := 1) (by decide +kernel) (by decide) ?_
    refine Fr_iadd (by decide +kernel) ?_
    refine Fr_iconst (i := 1) (v := 1) (by decide +kernel) (by decide) ?_
    obtain ⟨M_8, hc_9, h⟩ := bv_elim h
    refine Fr_cVv (ν := m_X12_readBoard) (As := [.int 0, .int (v1 + 1), .int 1]) (st := []) (rc := 200) (ci := 12) (d' := 3) (by decide +kernel) ml_X12_293 cv_X12_readBoard rfl (by decide) rfl ob_200 rfl (by decide) (Nat.le_of_ble_eq_true rfl) (t_X12_readBoard hc_9) ?_
    refine Fr_aload_n (q := 0) (i := 0) 0 (by decide +kernel) rfl rfl ?_
    refine gf_X12_248 rfl (by decide +kernel) ob_200 ?_
    refine Fr_if_gt (off := 7) 66 (by decide +kernel) (by decide) (fun hc => ?_) (fun hc => ?_)
    · have h := iT hc h
      obtain rfl := Option.some.inj h
      exact Fr_vret (by decide +kernel) rfl ⟨rfl, rfl⟩
    · have h := iF hc h
      refine Fr_iload_n (q := 2) (i := 2) 2 (by decide +kernel) rfl rfl ?_
      refine Fr_if_ne (off := 4) 67 (by decide +kernel) (by decide) (fun hc => ?_) (fun hc => ?_)
      · have h := iF hc h
        refine Fr_aload_n (q := 0) (i := 0) 0 (by decide +kernel) rfl rfl ?_
        refine gf_X12_35 rfl (by decide +kernel) ob_200 ?_
        refine Fr_iload_n (q := 1) (i := 1) 1 (by decide +kernel) rfl rfl ?_
        refine Fr_bipush (i := 7) (v := 7) (by decide +kernel) (by decide) ?_
        refine Fr_iadd (by decide +kernel) ?_
        refine Fr_aload_n (q := 0) (i := 0) 0 (by decide +kernel) rfl rfl ?_
        refine gf_X12_139 rfl (by decide +kernel) ob_200 ?_
        refine Fr_iconst (i := 3) (v := 3) (by decide +kernel) (by decide) ?_
        refine Fr_icmp_ne (off := 10) 90 (by decide +kernel) (by decide) (fun hc => ?_) (fun hc => ?_)
        · have h := iF hc h
          refine Fr_iconst (i := 0) (v := 0) (by decide +kernel) (by decide) ?_
          refine Fr_loc [0, 1] rfl ?_
          exact t_X12_readTest_b91 h
        · have h := iT hc h
          refine Fr_aload_n (q := 0) (i := 0) 0 (by decide +kernel) rfl rfl ?_
          refine gf_X12_158 rfl (by decide +kernel) ob_200 ?_
          refine Fr_goto (off := 4) 91 (by decide +kernel) (by decide) ?_
          refine Fr_loc [0, 1] rfl ?_
          exact t_X12_readTest_b91 h
      · have h := iT hc h
        obtain rfl := Option.some.inj h
        exact Fr_vret (by decide +kernel) rfl ⟨rfl, rfl⟩
  · have h := iT hc h
    refine Fr_aload_n (q := 0) (i := 0) 0 (by decide +kernel) rfl rfl ?_
    refine gf_X12_35 rfl (by decide +kernel) ob_200 ?_
    refine Fr_iload_n (q := 1) (i := 1) 1 (by decide +kernel) rfl rfl ?_
    refine Fr_iconst (i := 1) (v := 1) (by decide +kernel) (by decide) ?_
    refine Fr_iadd (by decide +kernel) ?_
    refine Fr_aload_n (q := 0) (i := 0) 0 (by decide +kernel) rfl rfl ?_
    obtain ⟨r_30, M_28, hc_29, h⟩ := bi_elim h
    refine Fr_cVi (ν := m_X12_readToldGate) (As := []) (st := [.int (v1 + 1), .ref 205]) (rc := 200) (ci := 12) (d' := 5) (by decide +kernel) ml_X12_345 cv_X12_readToldGate rfl (by decide) rfl ob_200 rfl (by decide) (Nat.le_of_ble_eq_true rfl) (t_X12_readToldGate hc_29) ?_
    obtain ⟨hi_31, h⟩ := ck_elim h
    refine Fr_iast (by decide +kernel) ob_205 (vp_of ln_205 hi_31) ?_
    obtain ⟨M_32, eM_32, h⟩ := bM_elim h
    refine Fr_mem eM_32 ?_
    obtain rfl := Option.some.inj h
    exact Fr_vret (by decide +kernel) rfl ⟨rfl, rfl⟩
set_option maxRecDepth 20000 in
theorem t_X12_readTest {N : Nat} {x1 : Int32} {M : Mem} {q : Mem} (h : f_X12_readTest N x1 M = some q) : Ev 200 21 6 m_X12_readTest [.ref 200, .int x1] M (QV q) := by
  refine Ev_of_Fr (by decide +kernel) (Nat.le_of_ble_eq_true rfl) ?_
  show Fr 200 21 6 m_X12_readTest 0 [(0, .ref 200), (1, .int x1)] [] M (QV q)
  unfold f_X12_readTest at h
  refine Fr_aload_n (q := 0) (i := 0) 0 (by decide +kernel) rfl rfl ?_
  obtain ⟨r_3, M_1, hc_2, h⟩ := bi_elim h
  refine Fr_cVi (ν := m_X12_testWord) (As := []) (st := []) (rc := 200) (ci := 12) (d' := 2) (by decide +kernel) ml_X12_239 cv_X12_testWord rfl (by decide) rfl ob_200 rfl (by decide) (Nat.le_of_ble_eq_true rfl) (t_X12_testWord hc_2) ?_
  refine Fr_istore_n (q := 2) (i := 2) (lv' := [(2, .int r_3), (0, .ref 200), (1, .int x1)]) (by decide +kernel) rfl (by decide) rfl ?_
  refine Fr_aload_n (q := 0) (i := 0) 1 (by decide +kernel) rfl rfl ?_
  refine Fr_iload_n (q := 2) (i := 2) 0 (by decide +kernel) rfl rfl ?_
  refine Fr_if_lt (off := 7) 14 (by decide +kernel) (by decide) (fun hc => ?_) (fun hc => ?_)
  · have h := iT hc h
    refine Fr_iconst (i := 0) (v := 0) (by decide +kernel) (by decide) ?_
    refine Fr_loc [1, 2, 0] rfl ?_
    exact t_X12_readTest_b15 h
  · have h := iF hc h
    refine Fr_iconst (i := 1) (v := 1) (by decide +kernel) (by decide) ?_
    refine Fr_goto (off := 4) 15 (by decide +kernel) (by decide) ?_
    refine Fr_loc [1, 2, 0] rfl ?_
    exact t_X12_readTest_b15 h
set_option maxRecDepth 20000 in
theorem t_X12_readRest_b98 {N : Nat} {q : Mem} {v1 : Int32} {M : Mem} (h : f_X12_readRest_b98 N v1 M = some q) : Fr 200 21 7 m_X12_readRest 98 [(0, .ref 200), (1, .int v1)] [] M (QV q) := by
  unfold f_X12_readRest_b98 at h
  refine Fr_aload_n (q := 0) (i := 0) 0 (by decide +kernel) rfl rfl ?_
  refine gf_X12_35 rfl (by decide +kernel) ob_200 ?_
  refine Fr_iload_n (q := 1) (i := 1) 1 (by decide +kernel) rfl rfl ?_
  refine Fr_iconst (i := 1) (v := 1) (by decide +kernel) (by decide) ?_
  refine Fr_iadd (by decide +kernel) ?_
  refine Fr_aload_n (q := 0) (i := 0) 0 (by decide +kernel) rfl rfl ?_
  obtain ⟨r_4, M_2, hc_3, h⟩ := bi_elim h
  refine Fr_cVi (ν := m_X12_readToldGate) (As := []) (st := [.int (v1 + 1), .ref 205]) (rc := 200) (ci := 12) (d' := 5) (by decide +kernel) ml_X12_345 cv_X12_readToldGate rfl (by decide) rfl ob_200 rfl (by decide) (Nat.le_of_ble_eq_true rfl) (t_X12_readToldGate hc_3) ?_
  obtain ⟨hi_5, h⟩ := ck_elim h
  refine Fr_iast (by decide +kernel) ob_205 (vp_of ln_205 hi_5) ?_
  obtain ⟨M_6, eM_6, h⟩ := bM_elim h
  refine Fr_mem eM_6 ?_
  obtain rfl := Option.some.inj h
  exact Fr_vret (by decide +kernel) rfl ⟨rfl, rfl⟩
set_option maxRecDepth 20000 in
theorem t_X12_readRest {N : Nat} {x1 : Int32} {M : Mem} {q : Mem} (h : f_X12_readRest N x1 M = some q) : Ev 200 21 7 m_X12_readRest [.ref 200, .int x1] M (QV q) := by
  refine Ev_of_Fr (by decide +kernel) (Nat.le_of_ble_eq_true rfl) ?_
  show Fr 200 21 7 m_X12_readRest 0 [(0, .ref 200), (1, .int x1)] [] M (QV q)
  unfold f_X12_readRest at h
  refine Fr_aload_n (q := 0) (i := 0) 0 (by decide +kernel) rfl rfl ?_
  refine gf_X12_35 rfl (by decide +kernel) ob_200 ?_
  refine Fr_iload_n (q := 1) (i := 1) 1 (by decide +kernel) rfl rfl ?_
  obtain ⟨hi_1, h⟩ := ck_elim h
  refine Fr_iald (by decide +kernel) ob_205 (vp_of ln_205 hi_1) ?_
  refine Fr_istore_n (q := 2) (i := 2) (lv' := [(2, .int (M.1 205 (tn x1))), (0, .ref 200), (1, .int x1)]) (by decide +kernel) rfl (by decide) rfl ?_
  refine Fr_iload_n (q := 2) (i := 2) 0 (by decide +kernel) rfl rfl ?_
  refine Fr_if_ne (off := 21) 29 (by decide +kernel) (by decide) (fun hc => ?_) (fun hc => ?_)
  · have h := iF hc h
    refine Fr_iload_n (q := 2) (i := 2) 0 (by decide +kernel) rfl rfl ?_
    refine Fr_iconst (i := 3) (v := 3) (by decide +kernel) (by decide) ?_
    refine Fr_icmp_ne (off := 20) 51 (by decide +kernel) (by decide) (fun hc => ?_) (fun hc => ?_)
    · have h := iF hc h
      refine Fr_iload_n (q := 2) (i := 2) 0 (by decide +kernel) rfl rfl ?_
      refine Fr_bipush (i := 6) (v := 6) (by decide +kernel) (by decide) ?_
      refine Fr_icmp_ne (off := 21) 75 (by decide +kernel) (by decide) (fun hc => ?_) (fun hc => ?_)
      · have h := iF hc h
        refine Fr_iload_n (q := 2) (i := 2) 0 (by decide +kernel) rfl rfl ?_
        refine Fr_iconst (i := 5) (v := 5) (by decide +kernel) (by decide) ?_
        refine Fr_icmp_ne (off := 11) 88 (by decide +kernel) (by decide) (fun hc => ?_) (fun hc => ?_)
        · have h := iF hc h
          refine Fr_iload_n (q := 2) (i := 2) 0 (by decide +kernel) rfl rfl ?_
          refine Fr_iconst (i := 1) (v := 1) (by decide +kernel) (by decide) ?_
          refine Fr_icmp_eq (off := 8) 98 (by decide +kernel) (by decide) (fun hc => ?_) (fun hc => ?_)
          · have h := iT hc h
            refine Fr_loc [1, 2] rfl ?_
            exact t_X12_readRest_b98 h
          · have h := iF hc h
            refine Fr_iload_n (q := 2) (i := 2) 0 (by decide +kernel) rfl rfl ?_
            refine Fr_iconst (i := 2) (v := 2) (by decide +kernel) (by decide) ?_
            refine Fr_icmp_ne (off := 15) 110 (by decide +kernel) (by decide) (fun hc => ?_) (fun hc => ?_)
            · have h := iF hc h
              obtain rfl := Option.some.inj h
              exact Fr_vret (by decide +kernel) rfl ⟨rfl, rfl⟩
            · have h := iT hc h
              refine Fr_loc [1, 2] rfl ?_
              exact t_X12_readRest_b98 h
        · have h := iT hc h
          refine Fr_aload_n (q := 0) (i := 0) 1 (by decide +kernel) rfl rfl ?_
          refine Fr_iload_n (q := 1) (i := 1) 2 (by decide +kernel) rfl rfl ?_
          obtain ⟨M_7, hc_8, h⟩ := bv_elim h
          refine Fr_cVv (ν := m_X12_readTest) (As := [.int x1]) (st := []) (rc := 200) (ci := 12) (d' := 6) (by decide +kernel) ml_X12_348 cv_X12_readTest rfl (by decide) rfl ob_200 rfl (by decide) (Nat.le_of_ble_eq_true rfl) (t_X12_readTest hc_8) ?_
          refine Fr_goto (off := 25) 110 (by decide +kernel) (by decide) ?_
          obtain rfl := Option.some.inj h
          exact Fr_vret (by decide +kernel) rfl ⟨rfl, rfl⟩
      · have h := iT hc h
        refine Fr_aload_n (q := 0) (i := 0) 1 (by decide +kernel) rfl rfl ?_
        refine gf_X12_35 rfl (by decide +kernel) ob_200 ?_
        refine Fr_iload_n (q := 1) (i := 1) 2 (by decide +kernel) rfl rfl ?_
        refine Fr_iconst (i := 1) (v := 1) (by decide +kernel) (by decide) ?_
        refine Fr_iadd (by decide +kernel) ?_
        refine Fr_aload_n (q := 0) (i := 0) 1 (by decide +kernel) rfl rfl ?_
        refine Fr_iconst (i := 1) (v := 1) (by decide +kernel) (by decide) ?_
        refine Fr_bipush (i := 99) (v := 99) (by decide +kernel) (by decide) ?_
        obtain ⟨r_11, M_9, hc_10, h⟩ := bi_elim h
        refine Fr_cVi (ν := m_X12_count) (As := [.int 1, .int 99]) (st := [.int (x1 + 1), .ref 205]) (rc := 200) (ci := 12) (d' := 2) (by decide +kernel) ml_X12_268 cv_X12_count rfl (by decide) rfl ob_200 rfl (by decide) (Nat.le_of_ble_eq_true rfl) (t_X12_count hc_10) ?_
        obtain ⟨hi_12, h⟩ := ck_elim h
        refine Fr_iast (by decide +kernel) ob_205 (vp_of ln_205 hi_12) ?_
        obtain ⟨M_13, eM_13, h⟩ := bM_elim h
        refine Fr_mem eM_13 ?_
        refine Fr_goto (off := 38) 110 (by decide +kernel) (by decide) ?_
        obtain rfl := Option.some.inj h
        exact Fr_vret (by decide +kernel) rfl ⟨rfl, rfl⟩
    · have h := iT hc h
      refine Fr_aload_n (q := 0) (i := 0) 1 (by decide +kernel) rfl rfl ?_
      refine gf_X12_35 rfl (by decide +kernel) ob_200 ?_
      refine Fr_iload_n (q := 1) (i := 1) 2 (by decide +kernel) rfl rfl ?_
      refine Fr_iconst (i := 1) (v := 1) (by decide +kernel) (by decide) ?_
      refine Fr_iadd (by decide +kernel) ?_
      refine Fr_aload_n (q := 0) (i := 0) 1 (by decide +kernel) rfl rfl ?_
      refine Fr_iconst (i := 0) (v := 0) (by decide +kernel) (by decide) ?_
      refine Fr_iconst (i := 4) (v := 4) (by decide +kernel) (by decide) ?_
      obtain ⟨r_16, M_14, hc_15, h⟩ := bi_elim h
      refine Fr_cVi (ν := m_X12_count) (As := [.int 0, .int 4]) (st := [.int (x1 + 1), .ref 205]) (rc := 200) (ci := 12) (d' := 2) (by decide +kernel) ml_X12_268 cv_X12_count rfl (by decide) rfl ob_200 rfl (by decide) (Nat.le_of_ble_eq_true rfl) (t_X12_count hc_15) ?_
      obtain ⟨hi_17, h⟩ := ck_elim h
      refine Fr_iast (by decide +kernel) ob_205 (vp_of ln_205 hi_17) ?_
      obtain ⟨M_18, eM_18, h⟩ := bM_elim h
      refine Fr_mem eM_18 ?_
      refine Fr_goto (off := 62) 110 (by decide +kernel) (by decide) ?_
      obtain rfl := Option.some.inj h
      exact Fr_vret (by decide +kernel) rfl ⟨rfl, rfl⟩
  · have h := iT hc h
    refine Fr_aload_n (q := 0) (i := 0) 1 (by decide +kernel) rfl rfl ?_
    refine gf_X12_35 rfl (by decide +kernel) ob_200 ?_
    refine Fr_iload_n (q := 1) (i := 1) 2 (by decide +kernel) rfl rfl ?_
    refine Fr_iconst (i := 1) (v := 1) (by decide +kernel) (by decide) ?_
    refine Fr_iadd (by decide +kernel) ?_
    refine Fr_aload_n (q := 0) (i := 0) 1 (by decide +kernel) rfl rfl ?_
    refine Fr_iconst (i := 1) (v := 1) (by decide +kernel) (by decide) ?_
    refine Fr_bipush (i := 24) (v := 24) (by decide +kernel) (by decide) ?_
    obtain ⟨r_21, M_19, hc_20, h⟩ := bi_elim h
    refine Fr_cVi (ν := m_X12_count) (As := [.int 1, .int 24]) (st := [.int (x1 + 1), .ref 205]) (rc := 200) (ci := 12) (d' := 2) (by decide +kernel) ml_X12_268 cv_X12_count rfl (by decide) rfl ob_200 rfl (by decide) (Nat.le_of_ble_eq_true rfl) (t_X12_count hc_20) ?_
    obtain ⟨hi_22, h⟩ := ck_elim h
    refine Fr_iast (by decide +kernel) ob_205 (vp_of ln_205 hi_22) ?_
    obtain ⟨M_23, eM_23, h⟩ := bM_elim h
    refine Fr_mem eM_23 ?_
    refine Fr_goto (off := 84) 110 (by decide +kernel) (by decide) ?_
    obtain rfl := Option.some.inj h
    exact Fr_vret (by decide +kernel) rfl ⟨rfl, rfl⟩
set_option maxRecDepth 20000 in
theorem t_X12_readStep_b191 {N : Nat} {rc : Int32 → Mem → Option Mem} {e0 : Nat} (hrc : ∀ (x1 : Int32) (M : Mem) (q : Mem), rc x1 M = some q → Ev 200 21 e0 m_X12_readStep [.ref 200, .int x1] M (QV q)) {q : Mem} {v4 : Int32} {M : Mem} (h : f_X12_readStep_b191 N rc v4 M = some q) : Fr 200 21 (e0 + 8) m_X12_readStep 191 [(0, .ref 200), (4, .int v4)] [] M (QV q) := by
  unfold f_X12_readStep_b191 at h
  refine Fr_aload_n (q := 0) (i := 0) 0 (by decide +kernel) rfl rfl ?_
  refine gf_X12_35 rfl (by decide +kernel) ob_200 ?_
  refine Fr_iload (i := 4) 1 (by decide +kernel) rfl ?_
  refine Fr_bipush (i := 8) (v := 8) (by decide +kernel) (by decide) ?_
  refine Fr_iadd (by decide +kernel) ?_
  refine Fr_aload_n (q := 0) (i := 0) 0 (by decide +kernel) rfl rfl ?_
  refine gf_X12_351 rfl (by decide +kernel) ob_200 ?_
  obtain ⟨hi_17, h⟩ := ck_elim h
  refine Fr_iast (by decide +kernel) ob_205 (vp_of ln_205 hi_17) ?_
  obtain ⟨M_18, eM_18, h⟩ := bM_elim h
  refine Fr_mem eM_18 ?_
  obtain rfl := Option.some.inj h
  exact Fr_vret (by decide +kernel) rfl ⟨rfl, rfl⟩
set_option maxRecDepth 20000 in
theorem t_X12_readStep_b169 {N : Nat} {rc : Int32 → Mem → Option Mem} {e0 : Nat} (hrc : ∀ (x1 : Int32) (M : Mem) (q : Mem), rc x1 M = some q → Ev 200 21 e0 m_X12_readStep [.ref 200, .int x1] M (QV q)) {q : Mem} {v3 : Int32} {v4 : Int32} {M : Mem} (h : f_X12_readStep_b169 N rc v3 v4 M = some q) : Fr 200 21 (e0 + 8) m_X12_readStep 169 [(0, .ref 200), (3, .int v3), (4, .int v4)] [] M (QV q) := by
  unfold f_X12_readStep_b169 at h
  refine Fr_iload_n (q := 3) (i := 3) 1 (by decide +kernel) rfl rfl ?_
  refine Fr_if_eq (off := 21) 191 (by decide +kernel) (by decide) (fun hc => ?_) (fun hc => ?_)
  · have h := iT hc h
    refine Fr_loc [0, 2] rfl ?_
    exact t_X12_readStep_b191 hrc h
  · have h := iF hc h
    refine Fr_aload_n (q := 0) (i := 0) 0 (by decide +kernel) rfl rfl ?_
    refine Fr_aload_n (q := 0) (i := 0) 0 (by decide +kernel) rfl rfl ?_
    obtain ⟨r_21, M_19, hc_20, h⟩ := bi_elim h
    refine Fr_cVb (ν := m_X12_isEnd) (As := []) (st := [.ref 200]) (rc := 200) (ci := 12) (d' := 1) (by decide +kernel) ml_X12_242 cv_X12_isEnd rfl (by decide) rfl ob_200 rfl (by omega) (Nat.le_of_ble_eq_true rfl) (t_X12_isEnd hc_20) ?_
    obtain ⟨M_22, hc_23, h⟩ := bv_elim h
    refine Fr_cVv (ν := m_X12_must) (As := [.int (b2i r_21)]) (st := []) (rc := 200) (ci := 12) (d' := 2) (by decide +kernel) ml_X12_264 cv_X12_must rfl (by decide) rfl ob_200 rfl (by omega) (Nat.le_of_ble_eq_true rfl) (t_X12_must hc_23) ?_
    refine Fr_aload_n (q := 0) (i := 0) 0 (by decide +kernel) rfl rfl ?_
    refine Fr_aload_n (q := 0) (i := 0) 0 (by decide +kernel) rfl rfl ?_
    refine Fr_bipush (i := 59) (v := 59) (by decide +kernel) (by decide) ?_
    obtain ⟨r_26, M_24, hc_25, h⟩ := bi_elim h
    refine Fr_cVb (ν := m_X12_isSign) (As := [.int 59]) (st := [.ref 200]) (rc := 200) (ci := 12) (d' := 0) (by decide +kernel) ml_X12_333 cv_X12_isSign rfl (by decide) rfl ob_200 rfl (by omega) (Nat.le_of_ble_eq_true rfl) (t_X12_isSign hc_25) ?_
    obtain ⟨M_27, hc_28, h⟩ := bv_elim h
    refine Fr_cVv (ν := m_X12_must) (As := [.int (b2i r_26)]) (st := []) (rc := 200) (ci := 12) (d' := 2) (by decide +kernel) ml_X12_264 cv_X12_must rfl (by decide) rfl ob_200 rfl (by omega) (Nat.le_of_ble_eq_true rfl) (t_X12_must hc_28) ?_
    refine Fr_loc [0, 2] rfl ?_
    exact t_X12_readStep_b191 hrc h
set_option maxRecDepth 20000 in
theorem t_X12_readStep_h141 {N : Nat} {rc : Int32 → Mem → Option Mem} {e0 : Nat} (hrc : ∀ (x1 : Int32) (M : Mem) (q : Mem), rc x1 M = some q → Ev 200 21 e0 m_X12_readStep [.ref 200, .int x1] M (QV q)) {q : Mem} {k141 : Int32 × Int32 × Int32 → Mem → Option (Mem)} (hk141 : ∀ (a : Int32 × Int32 × Int32) (M : Mem), k141 a M = some q → Fr 200 21 (e0 + 8) m_X12_readStep 141 [(0, .ref 200), (1, .int a.1), (3, .int a.2.1), (4, .int a.2.2)] [] M (QV q)) {v1 : Int32} {v3 : Int32} {v4 : Int32} {M : Mem} (h : f_X12_readStep_h141 N rc k141 v1 v3 v4 M = some q) : Fr 200 21 (e0 + 8) m_X12_readStep 141 [(0, .ref 200), (1, .int v1), (3, .int v3), (4, .int v4)] [] M (QV q) := by
  unfold f_X12_readStep_h141 at h
  refine Fr_iload_n (q := 3) (i := 3) 2 (by decide +kernel) rfl rfl ?_
  refine Fr_if_eq (off := 27) 169 (by decide +kernel) (by decide) (fun hc => ?_) (fun hc => ?_)
  · have h := iT hc h
    refine Fr_loc [0, 2, 3] rfl ?_
    exact t_X12_readStep_b169 hrc h
  · have h := iF hc h
    refine Fr_aload_n (q := 0) (i := 0) 0 (by decide +kernel) rfl rfl ?_
    refine gf_X12_248 rfl (by decide +kernel) ob_200 ?_
    refine Fr_if_ne (off := 20) 169 (by decide +kernel) (by decide) (fun hc => ?_) (fun hc => ?_)
    · have h := iF hc h
      refine Fr_loc [0, 2, 3] rfl ?_
      exact t_X12_readStep_b169 hrc h
    · have h := iT hc h
      refine Fr_aload_n (q := 0) (i := 0) 0 (by decide +kernel) rfl rfl ?_
      obtain ⟨r_31, M_29, hc_30, h⟩ := bi_elim h
      refine Fr_cVb (ν := m_X12_isEnd) (As := []) (st := []) (rc := 200) (ci := 12) (d' := 1) (by decide +kernel) ml_X12_242 cv_X12_isEnd rfl (by decide) rfl ob_200 rfl (by omega) (Nat.le_of_ble_eq_true rfl) (t_X12_isEnd hc_30) ?_
      refine Fr_if_ne (off := 13) 169 (by decide +kernel) (by decide) (fun hc => ?_) (fun hc => ?_)
      · have h := iF hc h
        refine Fr_loc [0, 2, 3] rfl ?_
        exact t_X12_readStep_b169 hrc h
      · have h := iT hc h
        refine Fr_aload_n (q := 0) (i := 0) 0 (by decide +kernel) rfl rfl ?_
        refine Fr_iload_n (q := 1) (i := 1) 1 (by decide +kernel) rfl rfl ?_
        refine Fr_iconst (i := 1) (v := 1) (by decide +kernel) (by decide) ?_
        refine Fr_iadd (by decide +kernel) ?_
        obtain ⟨M_32, hc_33, h⟩ := bv_elim h
        refine Fr_cVv (ν := m_X12_readStep) (As := [.int (v1 + 1)]) (st := []) (rc := 200) (ci := 12) (d' := e0) (by decide +kernel) ml_X12_357 cv_X12_readStep rfl (by decide) rfl ob_200 rfl (by omega) (Nat.le_of_ble_eq_true rfl) (hrc _ _ _ hc_33) ?_
        refine Fr_goto (off := (-25)) 141 (by decide +kernel) (by decide) ?_
        exact hk141 (v1, v3, v4) M_32 h
set_option maxRecDepth 20000 in
theorem t_X12_readStep_b82 {N : Nat} {rc : Int32 → Mem → Option Mem} {e0 : Nat} (hrc : ∀ (x1 : Int32) (M : Mem) (q : Mem), rc x1 M = some q → Ev 200 21 e0 m_X12_readStep [.ref 200, .int x1] M (QV q)) {q : Mem} {v1 : Int32} {v2 : Int32} {v3 : Int32} {M : Mem} (h : f_X12_readStep_b82 N rc v1 v2 v3 M = some q) : Fr 200 21 (e0 + 8) m_X12_readStep 82 [(0, .ref 200), (1, .int v1), (2, .int v2), (3, .int v3)] [] M (QV q) := by
  unfold f_X12_readStep_b82 at h
  refine Fr_aload_n (q := 0) (i := 0) 0 (by decide +kernel) rfl rfl ?_
  refine gf_X12_248 rfl (by decide +kernel) ob_200 ?_
  refine Fr_if_le (off := 4) 90 (by decide +kernel) (by decide) (fun hc => ?_) (fun hc => ?_)
  · have h := iT hc h
    refine Fr_sipush (i := 1905) (v := 1905) (by decide +kernel) (by decide) ?_
    refine Fr_bipush (i := 9) (v := 9) (by decide +kernel) (by decide) ?_
    refine Fr_aload_n (q := 0) (i := 0) 0 (by decide +kernel) rfl rfl ?_
    refine gf_X12_351 rfl (by decide +kernel) ob_200 ?_
    refine Fr_imul (by decide +kernel) ?_
    refine Fr_iadd (by decide +kernel) ?_
    obtain ⟨y_4, ey_4, h⟩ := bI_elim h
    refine Fr_topI ey_4 ?_
    refine Fr_istore (i := 4) (lv' := [(4, .int y_4), (0, .ref 200), (1, .int v1), (2, .int v2), (3, .int v3)]) (by decide +kernel) (by decide) rfl ?_
    refine Fr_aload_n (q := 0) (i := 0) 1 (by decide +kernel) rfl rfl ?_
    refine Fr_dup (by decide +kernel) rfl ?_
    refine gf_X12_351 rfl (by decide +kernel) ob_200 ?_
    refine Fr_iconst (i := 1) (v := 1) (by decide +kernel) (by decide) ?_
    refine Fr_iadd (by decide +kernel) ?_
    refine pf_X12_351 rfl (by decide +kernel) ob_200 ?_
    obtain ⟨M_5, eM_5, h⟩ := bM_elim h
    refine Fr_mem eM_5 ?_
    refine Fr_aload_n (q := 0) (i := 0) 1 (by decide +kernel) rfl rfl ?_
    obtain ⟨M_6, hc_7, h⟩ := bv_elim h
    refine Fr_cVv (ν := m_X12_advance) (As := []) (st := []) (rc := 200) (ci := 12) (d' := 1) (by decide +kernel) ml_X12_258 cv_X12_advance rfl (by decide) rfl ob_200 rfl (by omega) (Nat.le_of_ble_eq_true rfl) (t_X12_advance hc_7) ?_
    refine Fr_aload_n (q := 0) (i := 0) 1 (by decide +kernel) rfl rfl ?_
    refine gf_X12_35 rfl (by decide +kernel) ob_200 ?_
    refine Fr_iload (i := 4) 0 (by decide +kernel) rfl ?_
    refine Fr_iload_n (q := 2) (i := 2) 3 (by decide +kernel) rfl rfl ?_
    obtain ⟨hi_8, h⟩ := ck_elim h
    refine Fr_iast (by decide +kernel) ob_205 (vp_of ln_205 hi_8) ?_
    obtain ⟨M_9, eM_9, h⟩ := bM_elim h
    refine Fr_mem eM_9 ?_
    refine Fr_aload_n (q := 0) (i := 0) 1 (by decide +kernel) rfl rfl ?_
    refine Fr_iload (i := 4) 0 (by decide +kernel) rfl ?_
    obtain ⟨M_10, hc_11, h⟩ := bv_elim h
    refine Fr_cVv (ν := m_X12_readRest) (As := [.int y_4]) (st := []) (rc := 200) (ci := 12) (d' := 7) (by decide +kernel) ml_X12_354 cv_X12_readRest rfl (by decide) rfl ob_200 rfl (by omega) (Nat.le_of_ble_eq_true rfl) (t_X12_readRest hc_11) ?_
    refine Fr_aload_n (q := 0) (i := 0) 1 (by decide +kernel) rfl rfl ?_
    refine Fr_aload_n (q := 0) (i := 0) 1 (by decide +kernel) rfl rfl ?_
    refine Fr_bipush (i := 59) (v := 59) (by decide +kernel) (by decide) ?_
    obtain ⟨r_14, M_12, hc_13, h⟩ := bi_elim h
    refine Fr_cVb (ν := m_X12_isSign) (As := [.int 59]) (st := [.ref 200]) (rc := 200) (ci := 12) (d' := 0) (by decide +kernel) ml_X12_333 cv_X12_isSign rfl (by decide) rfl ob_200 rfl (by omega) (Nat.le_of_ble_eq_true rfl) (t_X12_isSign hc_13) ?_
    obtain ⟨M_15, hc_16, h⟩ := bv_elim h
    refine Fr_cVv (ν := m_X12_must) (As := [.int (b2i r_14)]) (st := []) (rc := 200) (ci := 12) (d' := 2) (by decide +kernel) ml_X12_264 cv_X12_must rfl (by decide) rfl ob_200 rfl (by omega) (Nat.le_of_ble_eq_true rfl) (t_X12_must hc_16) ?_
    refine Fr_loc [1, 2, 4, 0] rfl ?_
    exact lp_sound (body := fun k a m => f_X12_readStep_h141 N rc k a.1 a.2.1 a.2.2 m) (P := fun a M => Fr 200 21 (e0 + 8) m_X12_readStep 141 [(0, .ref 200), (1, .int a.1), (3, .int a.2.1), (4, .int a.2.2)] [] M (QV q)) (fun k hk a m h => t_X12_readStep_h141 hrc hk h) N (v1, v3, y_4) M_15 h
  · have h := iF hc h
    obtain rfl := Option.some.inj h
    exact Fr_vret (by decide +kernel) rfl ⟨rfl, rfl⟩
set_option maxRecDepth 20000 in
theorem t_X12_readStep_b56 {N : Nat} {rc : Int32 → Mem → Option Mem} {e0 : Nat} (hrc : ∀ (x1 : Int32) (M : Mem) (q : Mem), rc x1 M = some q → Ev 200 21 e0 m_X12_readStep [.ref 200, .int x1] M (QV q)) {q : Mem} {v1 : Int32} {v2 : Int32} {v3 : Int32} {M : Mem} (h : f_X12_readStep_b56 N rc v1 v2 v3 M = some q) : Fr 200 21 (e0 + 8) m_X12_readStep 56 [(0, .ref 200), (1, .int v1), (2, .int v2), (3, .int v3)] [] M (QV q) := by
  unfold f_X12_readStep_b56 at h
  refine Fr_aload_n (q := 0) (i := 0) 0 (by decide +kernel) rfl rfl ?_
  refine gf_X12_248 rfl (by decide +kernel) ob_200 ?_
  refine Fr_if_ne (off := 22) 82 (by decide +kernel) (by decide) (fun hc => ?_) (fun hc => ?_)
  · have h := iF hc h
    exact t_X12_readStep_b82 hrc h
  · have h := iT hc h
    refine Fr_iload_n (q := 3) (i := 3) 3 (by decide +kernel) rfl rfl ?_
    refine Fr_if_eq (off := 18) 82 (by decide +kernel) (by decide) (fun hc => ?_) (fun hc => ?_)
    · have h := iT hc h
      exact t_X12_readStep_b82 hrc h
    · have h := iF hc h
      refine Fr_iload_n (q := 1) (i := 1) 1 (by decide +kernel) rfl rfl ?_
      refine Fr_iconst (i := 3) (v := 3) (by decide +kernel) (by decide) ?_
      refine Fr_icmp_ne (off := 13) 82 (by decide +kernel) (by decide) (fun hc => ?_) (fun hc => ?_)
      · have h := iF hc h
        exact t_X12_readStep_b82 hrc h
      · have h := iT hc h
        refine Fr_aload_n (q := 0) (i := 0) 0 (by decide +kernel) rfl rfl ?_
        refine Fr_bipush (i := 7) (v := 7) (by decide +kernel) (by decide) ?_
        refine Fr_aload_n (q := 0) (i := 0) 0 (by decide +kernel) rfl rfl ?_
        refine gf_X12_133 rfl (by decide +kernel) ob_200 ?_
        obtain ⟨M_34, hc_35, h⟩ := bv_elim h
        refine Fr_cVv (ν := m_X12_fail) (As := [.int 7, .int (M.1 200 15)]) (st := []) (rc := 200) (ci := 12) (d' := 0) (by decide +kernel) ml_X12_254 cv_X12_fail rfl (by decide) rfl ob_200 rfl (by omega) (Nat.le_of_ble_eq_true rfl) (t_X12_fail hc_35) ?_
        exact t_X12_readStep_b82 hrc h
set_option maxRecDepth 20000 in
theorem t_X12_readStep_b30 {N : Nat} {rc : Int32 → Mem → Option Mem} {e0 : Nat} (hrc : ∀ (x1 : Int32) (M : Mem) (q : Mem), rc x1 M = some q → Ev 200 21 e0 m_X12_readStep [.ref 200, .int x1] M (QV q)) {q : Mem} {v1 : Int32} {v2 : Int32} {v3 : Int32} {M : Mem} (h : f_X12_readStep_b30 N rc v1 v2 v3 M = some q) : Fr 200 21 (e0 + 8) m_X12_readStep 30 [(0, .ref 200), (1, .int v1), (2, .int v2), (3, .int v3)] [] M (QV q) := by
  unfold f_X12_readStep_b30 at h
  refine Fr_aload_n (q := 0) (i := 0) 0 (by decide +kernel) rfl rfl ?_
  refine gf_X12_248 rfl (by decide +kernel) ob_200 ?_
  refine Fr_if_ne (off := 22) 56 (by decide +kernel) (by decide) (fun hc => ?_) (fun hc => ?_)
  · have h := iF hc h
    exact t_X12_readStep_b56 hrc h
  · have h := iT hc h
    refine Fr_aload_n (q := 0) (i := 0) 0 (by decide +kernel) rfl rfl ?_
    refine gf_X12_351 rfl (by decide +kernel) ob_200 ?_
    refine Fr_bipush (i := 30) (v := 30) (by decide +kernel) (by decide) ?_
    refine Fr_icmp_ne (off := 13) 56 (by decide +kernel) (by decide) (fun hc => ?_) (fun hc => ?_)
    · have h := iF hc h
      exact t_X12_readStep_b56 hrc h
    · have h := iT hc h
      refine Fr_aload_n (q := 0) (i := 0) 0 (by decide +kernel) rfl rfl ?_
      refine Fr_bipush (i := 6) (v := 6) (by decide +kernel) (by decide) ?_
      refine Fr_aload_n (q := 0) (i := 0) 0 (by decide +kernel) rfl rfl ?_
      refine gf_X12_133 rfl (by decide +kernel) ob_200 ?_
      obtain ⟨M_36, hc_37, h⟩ := bv_elim h
      refine Fr_cVv (ν := m_X12_fail) (As := [.int 6, .int (M.1 200 15)]) (st := []) (rc := 200) (ci := 12) (d' := 0) (by decide +kernel) ml_X12_254 cv_X12_fail rfl (by decide) rfl ob_200 rfl (by omega) (Nat.le_of_ble_eq_true rfl) (t_X12_fail hc_37) ?_
      exact t_X12_readStep_b56 hrc h
set_option maxRecDepth 20000 in
theorem t_X12_readStep_b21 {N : Nat} {rc : Int32 → Mem → Option Mem} {e0 : Nat} (hrc : ∀ (x1 : Int32) (M : Mem) (q : Mem), rc x1 M = some q → Ev 200 21 e0 m_X12_readStep [.ref 200, .int x1] M (QV q)) {q : Mem} {v1 : Int32} {v2 : Int32} {s0 : Int32} {M : Mem} (h : f_X12_readStep_b21 N rc v1 v2 s0 M = some q) : Fr 200 21 (e0 + 8) m_X12_readStep 21 [(0, .ref 200), (1, .int v1), (2, .int v2)] [.int s0] M (QV q) := by
  unfold f_X12_readStep_b21 at h
  refine Fr_istore_n (q := 3) (i := 3) (lv' := [(3, .int s0), (0, .ref 200), (1, .int v1), (2, .int v2)]) (by decide +kernel) rfl (by decide) rfl ?_
  refine Fr_iload_n (q := 2) (i := 2) 3 (by decide +kernel) rfl rfl ?_
  refine Fr_if_ge (off := 7) 30 (by decide +kernel) (by decide) (fun hc => ?_) (fun hc => ?_)
  · have h := iT hc h
    refine Fr_loc [1, 2, 3, 0] rfl ?_
    exact t_X12_readStep_b30 hrc h
  · have h := iF hc h
    refine Fr_aload_n (q := 0) (i := 0) 1 (by decide +kernel) rfl rfl ?_
    obtain ⟨M_38, hc_39, h⟩ := bv_elim h
    refine Fr_cVv (ν := m_X12_amiss) (As := []) (st := []) (rc := 200) (ci := 12) (d' := 1) (by decide +kernel) ml_X12_261 cv_X12_amiss rfl (by decide) rfl ob_200 rfl (by omega) (Nat.le_of_ble_eq_true rfl) (t_X12_amiss hc_39) ?_
    refine Fr_loc [1, 2, 3, 0] rfl ?_
    exact t_X12_readStep_b30 hrc h
set_option maxRecDepth 20000 in
theorem t_X12_readStep_b16 {N : Nat} {rc : Int32 → Mem → Option Mem} {e0 : Nat} (hrc : ∀ (x1 : Int32) (M : Mem) (q : Mem), rc x1 M = some q → Ev 200 21 e0 m_X12_readStep [.ref 200, .int x1] M (QV q)) {q : Mem} {v1 : Int32} {v2 : Int32} {M : Mem} (h : f_X12_readStep_b16 N rc v1 v2 M = some q) : Fr 200 21 (e0 + 8) m_X12_readStep 16 [(0, .ref 200), (1, .int v1), (2, .int v2)] [] M (QV q) := by
  unfold f_X12_readStep_b16 at h
  refine Fr_iconst (i := 1) (v := 1) (by decide +kernel) (by decide) ?_
  refine Fr_goto (off := 4) 21 (by decide +kernel) (by decide) ?_
  exact t_X12_readStep_b21 hrc h
set_option maxRecDepth 20000 in
theorem u_X12_readStep {N : Nat} {rc : Int32 → Mem → Option Mem} {e0 : Nat} (hrc : ∀ (x1 : Int32) (M : Mem) (q : Mem), rc x1 M = some q → Ev 200 21 e0 m_X12_readStep [.ref 200, .int x1] M (QV q)) {x1 : Int32} {M : Mem} {q : Mem} (h : g_X12_readStep N rc x1 M = some q) : Ev 200 21 (e0 + 8) m_X12_readStep [.ref 200, .int x1] M (QV q) := by
  refine Ev_of_Fr (by decide +kernel) (Nat.le_of_ble_eq_true rfl) ?_
  show Fr 200 21 (e0 + 8) m_X12_readStep 0 [(0, .ref 200), (1, .int x1)] [] M (QV q)
  unfold g_X12_readStep at h
  refine Fr_aload_n (q := 0) (i := 0) 0 (by decide +kernel) rfl rfl ?_
  obtain ⟨r_3, M_1, hc_2, h⟩ := bi_elim h
  refine Fr_cVi (ν := m_X12_stepWord) (As := []) (st := []) (rc := 200) (ci := 12) (d' := 2) (by decide +kernel) ml_X12_235 cv_X12_stepWord rfl (by decide) rfl ob_200 rfl (by omega) (Nat.le_of_ble_eq_true rfl) (t_X12_stepWord hc_2) ?_
  refine Fr_istore_n (q := 2) (i := 2) (lv' := [(2, .int r_3), (0, .ref 200), (1, .int x1)]) (by decide +kernel) rfl (by decide) rfl ?_
  refine Fr_iload_n (q := 2) (i := 2) 0 (by decide +kernel) rfl rfl ?_
  refine Fr_iconst (i := 5) (v := 5) (by decide +kernel) (by decide) ?_
  refine Fr_icmp_eq (off := 9) 16 (by decide +kernel) (by decide) (fun hc => ?_) (fun hc => ?_)
  · have h := iT hc h
    refine Fr_loc [1, 2, 0] rfl ?_
    exact t_X12_readStep_b16 hrc h
  · have h := iF hc h
    refine Fr_iload_n (q := 2) (i := 2) 0 (by decide +kernel) rfl rfl ?_
    refine Fr_bipush (i := 6) (v := 6) (by decide +kernel) (by decide) ?_
    refine Fr_icmp_ne (off := 7) 20 (by decide +kernel) (by decide) (fun hc => ?_) (fun hc => ?_)
    · have h := iF hc h
      refine Fr_iconst (i := 0) (v := 0) (by decide +kernel) (by decide) ?_
      refine Fr_loc [1, 2, 0] rfl ?_
      exact t_X12_readStep_b21 hrc h
    · have h := iT hc h
      refine Fr_loc [1, 2, 0] rfl ?_
      exact t_X12_readStep_b16 hrc h
theorem t_X12_readStep {N : Nat} : ∀ (D : Nat) {x1 : Int32} {M : Mem} {q : Mem}, f_X12_readStep N D x1 M = some q → Ev 200 21 (8 * D) m_X12_readStep [.ref 200, .int x1] M (QV q)
  | 0, _, _, _, h => by cases h
  | D + 1, _, _, _, h => u_X12_readStep (e0 := 8 * D) (rc := f_X12_readStep N D) (fun _ _ _ h => t_X12_readStep D h) h
set_option maxRecDepth 20000 in
theorem t_X12_nights_h82 {N : Nat} {q : Int32 × Mem} {k82 : Int32 → Mem → Option (Int32 × Mem)} (hk82 : ∀ (a : Int32) (M : Mem), k82 a M = some q → Fr 200 21 49 m_X12_nights 82 [(0, .ref 200), (2, .int a)] [] M (QI q)) {v2 : Int32} {M : Mem} (h : f_X12_nights_h82 N k82 v2 M = some q) : Fr 200 21 49 m_X12_nights 82 [(0, .ref 200), (2, .int v2)] [] M (QI q) := by
  unfold f_X12_nights_h82 at h
  refine Fr_iload_n (q := 2) (i := 2) 1 (by decide +kernel) rfl rfl ?_
  refine Fr_bipush (i := 9) (v := 9) (by decide +kernel) (by decide) ?_
  refine Fr_aload_n (q := 0) (i := 0) 0 (by decide +kernel) rfl rfl ?_
  refine gf_X12_351 rfl (by decide +kernel) ob_200 ?_
  refine Fr_imul (by decide +kernel) ?_
  refine Fr_icmp_ge (off := 29) 119 (by decide +kernel) (by decide) (fun hc => ?_) (fun hc => ?_)
  · have h := iT hc h
    refine Fr_aload_n (q := 0) (i := 0) 0 (by decide +kernel) rfl rfl ?_
    refine gf_X12_351 rfl (by decide +kernel) ob_200 ?_
    obtain rfl := Option.some.inj h
    exact Fr_iret (by decide +kernel) rfl ⟨rfl, rfl⟩
  · have h := iF hc h
    refine Fr_aload_n (q := 0) (i := 0) 0 (by decide +kernel) rfl rfl ?_
    refine gf_X12_35 rfl (by decide +kernel) ob_200 ?_
    refine Fr_sipush (i := 165) (v := 165) (by decide +kernel) (by decide) ?_
    refine Fr_iload_n (q := 2) (i := 2) 1 (by decide +kernel) rfl rfl ?_
    refine Fr_iadd (by decide +kernel) ?_
    refine Fr_aload_n (q := 0) (i := 0) 0 (by decide +kernel) rfl rfl ?_
    refine gf_X12_35 rfl (by decide +kernel) ob_200 ?_
    refine Fr_sipush (i := 1905) (v := 1905) (by decide +kernel) (by decide) ?_
    refine Fr_iload_n (q := 2) (i := 2) 1 (by decide +kernel) rfl rfl ?_
    refine Fr_iadd (by decide +kernel) ?_
    obtain ⟨hi_14, h⟩ := ck_elim h
    refine Fr_iald (by decide +kernel) ob_205 (vp_of ln_205 hi_14) ?_
    obtain ⟨hi_15, h⟩ := ck_elim h
    refine Fr_iast (by decide +kernel) ob_205 (vp_of ln_205 hi_15) ?_
    obtain ⟨M_16, eM_16, h⟩ := bM_elim h
    refine Fr_mem eM_16 ?_
    refine Fr_iinc (i := 2) (j := 1) (v := (v2 + 1)) (lv' := [(2, .int (v2 + 1)), (0, .ref 200)]) 1 (by decide +kernel) rfl rfl (by decide) rfl ?_
    refine Fr_goto (off := (-34)) 82 (by decide +kernel) (by decide) ?_
    refine Fr_loc [1, 0] rfl ?_
    exact hk82 (v2 + 1) M_16 h
set_option maxRecDepth 20000 in
theorem t_X12_nights_b50 {N : Nat} {q : Int32 × Mem} {M : Mem} (h : f_X12_nights_b50 N M = some q) : Fr 200 21 49 m_X12_nights 50 [(0, .ref 200)] [] M (QI q) := by
  unfold f_X12_nights_b50 at h
  refine Fr_aload_n (q := 0) (i := 0) 0 (by decide +kernel) rfl rfl ?_
  obtain ⟨r_9, M_7, hc_8, h⟩ := bi_elim h
  refine Fr_cVb (ν := m_X12_isWell) (As := []) (st := []) (rc := 200) (ci := 12) (d' := 1) (by decide +kernel) ml_X12_336 cv_X12_isWell rfl (by decide) rfl ob_200 rfl (by decide) (Nat.le_of_ble_eq_true rfl) (t_X12_isWell hc_8) ?_
  refine Fr_if_ne (off := 5) 59 (by decide +kernel) (by decide) (fun hc => ?_) (fun hc => ?_)
  · have h := iF hc h
    refine Fr_aload_n (q := 0) (i := 0) 0 (by decide +kernel) rfl rfl ?_
    refine gf_X12_35 rfl (by decide +kernel) ob_200 ?_
    refine Fr_sipush (i := 163) (v := 163) (by decide +kernel) (by decide) ?_
    refine Fr_iconst (i := 1) (v := 1) (by decide +kernel) (by decide) ?_
    obtain ⟨hi_10, h⟩ := ck_elim h
    refine Fr_iast (by decide +kernel) ob_205 (vp_of ln_205 hi_10) ?_
    obtain ⟨M_11, eM_11, h⟩ := bM_elim h
    refine Fr_mem eM_11 ?_
    refine Fr_aload_n (q := 0) (i := 0) 0 (by decide +kernel) rfl rfl ?_
    refine gf_X12_35 rfl (by decide +kernel) ob_200 ?_
    refine Fr_sipush (i := 164) (v := 164) (by decide +kernel) (by decide) ?_
    refine Fr_aload_n (q := 0) (i := 0) 0 (by decide +kernel) rfl rfl ?_
    refine gf_X12_351 rfl (by decide +kernel) ob_200 ?_
    obtain ⟨hi_12, h⟩ := ck_elim h
    refine Fr_iast (by decide +kernel) ob_205 (vp_of ln_205 hi_12) ?_
    obtain ⟨M_13, eM_13, h⟩ := bM_elim h
    refine Fr_mem eM_13 ?_
    refine Fr_iconst (i := 0) (v := 0) (by decide +kernel) (by decide) ?_
    refine Fr_istore_n (q := 2) (i := 2) (lv' := [(2, .int 0), (0, .ref 200)]) (by decide +kernel) rfl (by decide) rfl ?_
    refine Fr_loc [1, 0] rfl ?_
    exact lp_sound (body := fun k a m => f_X12_nights_h82 N k a m) (P := fun a M => Fr 200 21 49 m_X12_nights 82 [(0, .ref 200), (2, .int a)] [] M (QI q)) (fun k hk a m h => t_X12_nights_h82 hk h) N 0 M_13 h
  · have h := iT hc h
    refine Fr_iconst (i := (-1)) (v := (-1)) (by decide +kernel) (by decide) ?_
    obtain rfl := Option.some.inj h
    exact Fr_iret (by decide +kernel) rfl ⟨rfl, rfl⟩
set_option maxRecDepth 20000 in
theorem t_X12_nights_h28 {N : Nat} {q : Int32 × Mem} {k28 : Unit → Mem → Option (Int32 × Mem)} (hk28 : ∀ (a : Unit) (M : Mem), k28 a M = some q → Fr 200 21 49 m_X12_nights 28 [(0, .ref 200)] [] M (QI q)) {M : Mem} (h : f_X12_nights_h28 N k28 M = some q) : Fr 200 21 49 m_X12_nights 28 [(0, .ref 200)] [] M (QI q) := by
  unfold f_X12_nights_h28 at h
  refine Fr_aload_n (q := 0) (i := 0) 0 (by decide +kernel) rfl rfl ?_
  refine gf_X12_248 rfl (by decide +kernel) ob_200 ?_
  refine Fr_if_ne (off := 18) 50 (by decide +kernel) (by decide) (fun hc => ?_) (fun hc => ?_)
  · have h := iF hc h
    exact t_X12_nights_b50 h
  · have h := iT hc h
    refine Fr_aload_n (q := 0) (i := 0) 0 (by decide +kernel) rfl rfl ?_
    refine gf_X12_139 rfl (by decide +kernel) ob_200 ?_
    refine Fr_if_eq (off := 11) 50 (by decide +kernel) (by decide) (fun hc => ?_) (fun hc => ?_)
    · have h := iT hc h
      exact t_X12_nights_b50 h
    · have h := iF hc h
      refine Fr_aload_n (q := 0) (i := 0) 0 (by decide +kernel) rfl rfl ?_
      refine Fr_iconst (i := 0) (v := 0) (by decide +kernel) (by decide) ?_
      obtain ⟨M_17, hc_18, h⟩ := bv_elim h
      refine Fr_cVv (ν := m_X12_readStep) (As := [.int 0]) (st := []) (rc := 200) (ci := 12) (d' := 48) (by decide +kernel) ml_X12_357 cv_X12_readStep rfl (by decide) rfl ob_200 rfl (by decide) (Nat.le_of_ble_eq_true rfl) (t_X12_readStep 6  hc_18) ?_
      refine Fr_goto (off := (-19)) 28 (by decide +kernel) (by decide) ?_
      exact hk28 () M_17 h
set_option maxRecDepth 20000 in
theorem t_X12_nights {N : Nat} {x1 : Int32} {M : Mem} {q : Int32 × Mem} (h : f_X12_nights N x1 M = some q) : Ev 200 21 49 m_X12_nights [.ref 200, .int x1] M (QI q) := by
  refine Ev_of_Fr (by decide +kernel) (Nat.le_of_ble_eq_true rfl) ?_
  show Fr 200 21 49 m_X12_nights 0 [(0, .ref 200), (1, .int x1)] [] M (QI q)
  unfold f_X12_nights at h
  refine Fr_aload_n (q := 0) (i := 0) 0 (by decide +kernel) rfl rfl ?_
  refine Fr_iconst (i := 0) (v := 0) (by decide +kernel) (by decide) ?_
  refine pf_X12_84 rfl (by decide +kernel) ob_200 ?_
  obtain ⟨M_1, eM_1, h⟩ := bM_elim h
  refine Fr_mem eM_1 ?_
  refine Fr_aload_n (q := 0) (i := 0) 0 (by decide +kernel) rfl rfl ?_
  refine Fr_iconst (i := 0) (v := 0) (by decide +kernel) (by decide) ?_
  refine pf_X12_87 rfl (by decide +kernel) ob_200 ?_
  obtain ⟨M_2, eM_2, h⟩ := bM_elim h
  refine Fr_mem eM_2 ?_
  refine Fr_aload_n (q := 0) (i := 0) 0 (by decide +kernel) rfl rfl ?_
  refine Fr_iload_n (q := 1) (i := 1) 1 (by decide +kernel) rfl rfl ?_
  refine Fr_sipush (i := 300) (v := 300) (by decide +kernel) (by decide) ?_
  obtain ⟨r_5, M_3, hc_4, h⟩ := bi_elim h
  refine Fr_cVb (ν := m_X12_starts) (As := [.int x1, .int 300]) (st := []) (rc := 200) (ci := 12) (d' := 2) (by decide +kernel) ml_X12_327 cv_X12_starts rfl (by decide) rfl ob_200 rfl (by decide) (Nat.le_of_ble_eq_true rfl) (t_X12_starts hc_4) ?_
  refine Fr_if_ne (off := 5) 23 (by decide +kernel) (by decide) (fun hc => ?_) (fun hc => ?_)
  · have h := iF hc h
    refine Fr_aload_n (q := 0) (i := 0) 0 (by decide +kernel) rfl rfl ?_
    refine Fr_iconst (i := 0) (v := 0) (by decide +kernel) (by decide) ?_
    refine pf_X12_351 rfl (by decide +kernel) ob_200 ?_
    obtain ⟨M_6, eM_6, h⟩ := bM_elim h
    refine Fr_mem eM_6 ?_
    refine Fr_loc [0] rfl ?_
    exact lp_sound (body := fun k a m => f_X12_nights_h28 N k m) (P := fun a M => Fr 200 21 49 m_X12_nights 28 [(0, .ref 200)] [] M (QI q)) (fun k hk a m h => t_X12_nights_h28 hk h) N () M_6 h
  · have h := iT hc h
    refine Fr_iconst (i := (-1)) (v := (-1)) (by decide +kernel) (by decide) ?_
    obtain rfl := Option.some.inj h
    exact Fr_iret (by decide +kernel) rfl ⟨rfl, rfl⟩
set_option maxRecDepth 20000 in
theorem t_X12_isBoard {x1 : Int32} {x2 : Int32} {M : Mem} {q : Bool × Mem} (h : f_X12_isBoard x1 x2 M = some q) : Ev 200 21 1 m_X12_isBoard [.ref 200, .int x1, .int x2] M (QB q) := by
  refine Ev_of_Fr (by decide +kernel) (Nat.le_of_ble_eq_true rfl) ?_
  show Fr 200 21 1 m_X12_isBoard 0 [(0, .ref 200), (1, .int x1), (2, .int x2)] [] M (QB q)
  unfold f_X12_isBoard at h
  refine Fr_iload_n (q := 1) (i := 1) 1 (by decide +kernel) rfl rfl ?_
  refine Fr_i2l (by decide +kernel) ?_
  refine Fr_lconst (i := 0) (v := 0) (by decide +kernel) (by decide) ?_
  refine Fr_aload_n (q := 0) (i := 0) 0 (by decide +kernel) rfl rfl ?_
  refine gf_X12_35 rfl (by decide +kernel) ob_200 ?_
  refine Fr_iconst (i := 0) (v := 0) (by decide +kernel) (by decide) ?_
  obtain ⟨hi_1, h⟩ := ck_elim h
  refine Fr_iald (by decide +kernel) ob_205 (vp_of ln_205 hi_1) ?_
  refine Fr_iconst (i := 1) (v := 1) (by decide +kernel) (by decide) ?_
  refine Fr_isub (by decide +kernel) ?_
  refine Fr_i2l (by decide +kernel) ?_
  obtain ⟨r_4, M_2, hc_3, h⟩ := bi_elim h
  refine Fr_cSb (ν := m_X12_isIn) (As := [.long (Int32.toInt64 x1), .long 0, .long (Int32.toInt64 ((M.1 205 (tn 0)) - 1))]) (st := []) (d' := 0) (by decide +kernel) ml_X12_119 cs_X12_isIn rfl (by decide) (Nat.le_of_ble_eq_true rfl) (t_X12_isIn hc_3) ?_
  refine Fr_if_eq (off := 25) 40 (by decide +kernel) (by decide) (fun hc => ?_) (fun hc => ?_)
  · have h := iT hc h
    refine Fr_iconst (i := 0) (v := 0) (by decide +kernel) (by decide) ?_
    obtain rfl := Option.some.inj h
    exact Fr_zret (by decide +kernel) rfl (by decide) ⟨rfl, rfl⟩
  · have h := iF hc h
    refine Fr_iload_n (q := 2) (i := 2) 2 (by decide +kernel) rfl rfl ?_
    refine Fr_i2l (by decide +kernel) ?_
    refine Fr_lconst (i := 0) (v := 0) (by decide +kernel) (by decide) ?_
    refine Fr_aload_n (q := 0) (i := 0) 0 (by decide +kernel) rfl rfl ?_
    refine gf_X12_35 rfl (by decide +kernel) ob_200 ?_
    refine Fr_iconst (i := 1) (v := 1) (by decide +kernel) (by decide) ?_
    obtain ⟨hi_5, h⟩ := ck_elim h
    refine Fr_iald (by decide +kernel) ob_205 (vp_of ln_205 hi_5) ?_
    refine Fr_iconst (i := 1) (v := 1) (by decide +kernel) (by decide) ?_
    refine Fr_isub (by decide +kernel) ?_
    refine Fr_i2l (by decide +kernel) ?_
    obtain ⟨r_8, M_6, hc_7, h⟩ := bi_elim h
    refine Fr_cSb (ν := m_X12_isIn) (As := [.long (Int32.toInt64 x2), .long 0, .long (Int32.toInt64 ((M_2.1 205 (tn 1)) - 1))]) (st := []) (d' := 0) (by decide +kernel) ml_X12_119 cs_X12_isIn rfl (by decide) (Nat.le_of_ble_eq_true rfl) (t_X12_isIn hc_7) ?_
    refine Fr_if_eq (off := 7) 40 (by decide +kernel) (by decide) (fun hc => ?_) (fun hc => ?_)
    · have h := iT hc h
      refine Fr_iconst (i := 0) (v := 0) (by decide +kernel) (by decide) ?_
      obtain rfl := Option.some.inj h
      exact Fr_zret (by decide +kernel) rfl (by decide) ⟨rfl, rfl⟩
    · have h := iF hc h
      refine Fr_iconst (i := 1) (v := 1) (by decide +kernel) (by decide) ?_
      refine Fr_goto (off := 4) 41 (by decide +kernel) (by decide) ?_
      obtain rfl := Option.some.inj h
      exact Fr_zret (by decide +kernel) rfl (by decide) ⟨rfl, rfl⟩
set_option maxRecDepth 20000 in
theorem t_X12_board {x1 : Int32} {x2 : Int32} {M : Mem} {q : Int32 × Mem} (h : f_X12_board x1 x2 M = some q) : Ev 200 21 0 m_X12_board [.ref 200, .int x1, .int x2] M (QI q) := by
  refine Ev_of_Fr (by decide +kernel) (Nat.le_of_ble_eq_true rfl) ?_
  show Fr 200 21 0 m_X12_board 0 [(0, .ref 200), (1, .int x1), (2, .int x2)] [] M (QI q)
  unfold f_X12_board at h
  refine Fr_aload_n (q := 0) (i := 0) 0 (by decide +kernel) rfl rfl ?_
  refine gf_X12_35 rfl (by decide +kernel) ob_200 ?_
  refine Fr_iconst (i := 0) (v := 0) (by decide +kernel) (by decide) ?_
  obtain ⟨hi_1, h⟩ := ck_elim h
  refine Fr_iald (by decide +kernel) ob_205 (vp_of ln_205 hi_1) ?_
  refine Fr_iload_n (q := 2) (i := 2) 2 (by decide +kernel) rfl rfl ?_
  refine Fr_imul (by decide +kernel) ?_
  refine Fr_iload_n (q := 1) (i := 1) 1 (by decide +kernel) rfl rfl ?_
  refine Fr_iadd (by decide +kernel) ?_
  obtain rfl := Option.some.inj h
  exact Fr_iret (by decide +kernel) rfl ⟨rfl, rfl⟩
set_option maxRecDepth 20000 in
theorem t_X12_boards {M : Mem} {q : Int32 × Mem} (h : f_X12_boards M = some q) : Ev 200 21 0 m_X12_boards [.ref 200] M (QI q) := by
  refine Ev_of_Fr (by decide +kernel) (Nat.le_of_ble_eq_true rfl) ?_
  show Fr 200 21 0 m_X12_boards 0 [(0, .ref 200)] [] M (QI q)
  unfold f_X12_boards at h
  refine Fr_aload_n (q := 0) (i := 0) 0 (by decide +kernel) rfl rfl ?_
  refine gf_X12_35 rfl (by decide +kernel) ob_200 ?_
  refine Fr_iconst (i := 0) (v := 0) (by decide +kernel) (by decide) ?_
  obtain ⟨hi_1, h⟩ := ck_elim h
  refine Fr_iald (by decide +kernel) ob_205 (vp_of ln_205 hi_1) ?_
  refine Fr_aload_n (q := 0) (i := 0) 0 (by decide +kernel) rfl rfl ?_
  refine gf_X12_35 rfl (by decide +kernel) ob_200 ?_
  refine Fr_iconst (i := 1) (v := 1) (by decide +kernel) (by decide) ?_
  obtain ⟨hi_2, h⟩ := ck_elim h
  refine Fr_iald (by decide +kernel) ob_205 (vp_of ln_205 hi_2) ?_
  refine Fr_imul (by decide +kernel) ?_
  obtain rfl := Option.some.inj h
  exact Fr_iret (by decide +kernel) rfl ⟨rfl, rfl⟩
set_option maxRecDepth 20000 in
theorem t_X12_isGateAt {x1 : Int32} {M : Mem} {q : Bool × Mem} (h : f_X12_isGateAt x1 M = some q) : Ev 200 21 1 m_X12_isGateAt [.ref 200, .int x1] M (QB q) := by
  refine Ev_of_Fr (by decide +kernel) (Nat.le_of_ble_eq_true rfl) ?_
  show Fr 200 21 1 m_X12_isGateAt 0 [(0, .ref 200), (1, .int x1)] [] M (QB q)
  unfold f_X12_isGateAt at h
  refine Fr_iload_n (q := 1) (i := 1) 1 (by decide +kernel) rfl rfl ?_
  refine Fr_i2l (by decide +kernel) ?_
  refine Fr_lconst (i := 0) (v := 0) (by decide +kernel) (by decide) ?_
  refine Fr_aload_n (q := 0) (i := 0) 0 (by decide +kernel) rfl rfl ?_
  refine gf_X12_35 rfl (by decide +kernel) ob_200 ?_
  refine Fr_iconst (i := 2) (v := 2) (by decide +kernel) (by decide) ?_
  obtain ⟨hi_1, h⟩ := ck_elim h
  refine Fr_iald (by decide +kernel) ob_205 (vp_of ln_205 hi_1) ?_
  refine Fr_iconst (i := 1) (v := 1) (by decide +kernel) (by decide) ?_
  refine Fr_isub (by decide +kernel) ?_
  refine Fr_i2l (by decide +kernel) ?_
  obtain ⟨r_4, M_2, hc_3, h⟩ := bi_elim h
  refine Fr_cSb (ν := m_X12_isIn) (As := [.long (Int32.toInt64 x1), .long 0, .long (Int32.toInt64 ((M.1 205 (tn 2)) - 1))]) (st := []) (d' := 0) (by decide +kernel) ml_X12_119 cs_X12_isIn rfl (by decide) (Nat.le_of_ble_eq_true rfl) (t_X12_isIn hc_3) ?_
  obtain rfl := Option.some.inj h
  exact Fr_zret (by decide +kernel) rfl (nz_b r_4) ⟨rfl, rfl⟩
set_option maxRecDepth 20000 in
theorem t_X12_isHolderAt {x1 : Int32} {M : Mem} {q : Bool × Mem} (h : f_X12_isHolderAt x1 M = some q) : Ev 200 21 1 m_X12_isHolderAt [.ref 200, .int x1] M (QB q) := by
  refine Ev_of_Fr (by decide +kernel) (Nat.le_of_ble_eq_true rfl) ?_
  show Fr 200 21 1 m_X12_isHolderAt 0 [(0, .ref 200), (1, .int x1)] [] M (QB q)
  unfold f_X12_isHolderAt at h
  refine Fr_iload_n (q := 1) (i := 1) 1 (by decide +kernel) rfl rfl ?_
  refine Fr_i2l (by decide +kernel) ?_
  refine Fr_lconst (i := 0) (v := 0) (by decide +kernel) (by decide) ?_
  refine Fr_aload_n (q := 0) (i := 0) 0 (by decide +kernel) rfl rfl ?_
  refine gf_X12_35 rfl (by decide +kernel) ob_200 ?_
  refine Fr_iconst (i := 3) (v := 3) (by decide +kernel) (by decide) ?_
  obtain ⟨hi_1, h⟩ := ck_elim h
  refine Fr_iald (by decide +kernel) ob_205 (vp_of ln_205 hi_1) ?_
  refine Fr_iconst (i := 1) (v := 1) (by decide +kernel) (by decide) ?_
  refine Fr_isub (by decide +kernel) ?_
  refine Fr_i2l (by decide +kernel) ?_
  obtain ⟨r_4, M_2, hc_3, h⟩ := bi_elim h
  refine Fr_cSb (ν := m_X12_isIn) (As := [.long (Int32.toInt64 x1), .long 0, .long (Int32.toInt64 ((M.1 205 (tn 3)) - 1))]) (st := []) (d' := 0) (by decide +kernel) ml_X12_119 cs_X12_isIn rfl (by decide) (Nat.le_of_ble_eq_true rfl) (t_X12_isIn hc_3) ?_
  obtain rfl := Option.some.inj h
  exact Fr_zret (by decide +kernel) rfl (nz_b r_4) ⟨rfl, rfl⟩
set_option maxRecDepth 20000 in
theorem t_X12_fogOf {x1 : Int32} {M : Mem} {q : Int32 × Mem} (h : f_X12_fogOf x1 M = some q) : Ev 200 21 0 m_X12_fogOf [.ref 200, .int x1] M (QI q) := by
  refine Ev_of_Fr (by decide +kernel) (Nat.le_of_ble_eq_true rfl) ?_
  show Fr 200 21 0 m_X12_fogOf 0 [(0, .ref 200), (1, .int x1)] [] M (QI q)
  unfold f_X12_fogOf at h
  refine Fr_aload_n (q := 0) (i := 0) 0 (by decide +kernel) rfl rfl ?_
  refine gf_X12_35 rfl (by decide +kernel) ob_200 ?_
  refine Fr_bipush (i := 103) (v := 103) (by decide +kernel) (by decide) ?_
  refine Fr_iload_n (q := 1) (i := 1) 1 (by decide +kernel) rfl rfl ?_
  refine Fr_iadd (by decide +kernel) ?_
  obtain ⟨hi_1, h⟩ := ck_elim h
  refine Fr_iald (by decide +kernel) ob_205 (vp_of ln_205 hi_1) ?_
  refine Fr_aload_n (q := 0) (i := 0) 0 (by decide +kernel) rfl rfl ?_
  refine gf_X12_35 rfl (by decide +kernel) ob_200 ?_
  refine Fr_sipush (i := 133) (v := 133) (by decide +kernel) (by decide) ?_
  refine Fr_iload_n (q := 1) (i := 1) 1 (by decide +kernel) rfl rfl ?_
  refine Fr_iadd (by decide +kernel) ?_
  obtain ⟨hi_2, h⟩ := ck_elim h
  refine Fr_iald (by decide +kernel) ob_205 (vp_of ln_205 hi_2) ?_
  refine Fr_iadd (by decide +kernel) ?_
  obtain rfl := Option.some.inj h
  exact Fr_iret (by decide +kernel) rfl ⟨rfl, rfl⟩
set_option maxRecDepth 20000 in
theorem t_X12_isFoggy {x1 : Int32} {M : Mem} {q : Bool × Mem} (h : f_X12_isFoggy x1 M = some q) : Ev 200 21 1 m_X12_isFoggy [.ref 200, .int x1] M (QB q) := by
  refine Ev_of_Fr (by decide +kernel) (Nat.le_of_ble_eq_true rfl) ?_
  show Fr 200 21 1 m_X12_isFoggy 0 [(0, .ref 200), (1, .int x1)] [] M (QB q)
  unfold f_X12_isFoggy at h
  refine Fr_aload_n (q := 0) (i := 0) 0 (by decide +kernel) rfl rfl ?_
  refine Fr_iload_n (q := 1) (i := 1) 1 (by decide +kernel) rfl rfl ?_
  obtain ⟨r_3, M_1, hc_2, h⟩ := bi_elim h
  refine Fr_cVi (ν := m_X12_fogOf) (As := [.int x1]) (st := []) (rc := 200) (ci := 12) (d' := 0) (by decide +kernel) ml_X12_360 cv_X12_fogOf rfl (by decide) rfl ob_200 rfl (by decide) (Nat.le_of_ble_eq_true rfl) (t_X12_fogOf hc_2) ?_
  refine Fr_aload_n (q := 0) (i := 0) 0 (by decide +kernel) rfl rfl ?_
  refine gf_X12_35 rfl (by decide +kernel) ob_200 ?_
  refine Fr_bipush (i := 8) (v := 8) (by decide +kernel) (by decide) ?_
  obtain ⟨hi_4, h⟩ := ck_elim h
  refine Fr_iald (by decide +kernel) ob_205 (vp_of ln_205 hi_4) ?_
  refine Fr_icmp_lt (off := 7) 19 (by decide +kernel) (by decide) (fun hc => ?_) (fun hc => ?_)
  · have h := iT hc h
    refine Fr_iconst (i := 0) (v := 0) (by decide +kernel) (by decide) ?_
    obtain rfl := Option.some.inj h
    exact Fr_zret (by decide +kernel) rfl (by decide) ⟨rfl, rfl⟩
  · have h := iF hc h
    refine Fr_iconst (i := 1) (v := 1) (by decide +kernel) (by decide) ?_
    refine Fr_goto (off := 4) 20 (by decide +kernel) (by decide) ?_
    obtain rfl := Option.some.inj h
    exact Fr_zret (by decide +kernel) rfl (by decide) ⟨rfl, rfl⟩
