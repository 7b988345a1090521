set_option maxRecDepth 20000 in
theorem t_X12_thickest_b68 {N : Nat} {q : Int32 × Mem} {k39 : Int32 × Int32 × Int32 × Int32 → Mem → Option (Int32 × Mem)} (hk39 : ∀ (a : Int32 × Int32 × Int32 × Int32) (M : Mem), k39 a M = some q → Fr 200 21 5 m_X12_thickest 39 [(0, .ref 200), (1, .int a.1), (2, .int a.2.1), (3, .int a.2.2.1), (4, .int a.2.2.2)] [] M (QI q)) {v1 : Int32} {v2 : Int32} {v3 : Int32} {v4 : Int32} {M : Mem} (h : f_X12_thickest_b68 N k39 v1 v2 v3 v4 M = some q) : Fr 200 21 5 m_X12_thickest 68 [(0, .ref 200), (1, .int v1), (2, .int v2), (3, .int v3), (4, .int v4)] [] M (QI q) := by
  unfold f_X12_thickest_b68 at h
  refine Fr_iinc (i := 4) (j := 1) (v := (v4 + 1)) (lv' := [(4, .int (v4 + 1)), (0, .ref 200), (1, .int v1), (2, .int v2), (3, .int v3)]) 4 (by decide +kernel) rfl rfl (by decide) rfl ?_
  refine Fr_goto (off := (-32)) 39 (by decide +kernel) (by decide) ?_
  refine Fr_loc [1, 2, 3, 4, 0] rfl ?_
  exact hk39 (v1, v2, v3, (v4 + 1)) M h
set_option maxRecDepth 20000 in
theorem t_X12_thickest_h39 {N : Nat} {q : Int32 × Mem} {k39 : Int32 × Int32 × Int32 × Int32 → Mem → Option (Int32 × Mem)} (hk39 : ∀ (a : Int32 × Int32 × Int32 × Int32) (M : Mem), k39 a M = some q → Fr 200 21 5 m_X12_thickest 39 [(0, .ref 200), (1, .int a.1), (2, .int a.2.1), (3, .int a.2.2.1), (4, .int a.2.2.2)] [] M (QI q)) {v1 : Int32} {v2 : Int32} {v3 : Int32} {v4 : Int32} {M : Mem} (h : f_X12_thickest_h39 N k39 v1 v2 v3 v4 M = some q) : Fr 200 21 5 m_X12_thickest 39 [(0, .ref 200), (1, .int v1), (2, .int v2), (3, .int v3), (4, .int v4)] [] M (QI q) := by
  unfold f_X12_thickest_h39 at h
  refine Fr_iload (i := 4) 4 (by decide +kernel) rfl ?_
  refine Fr_iload_n (q := 1) (i := 1) 1 (by decide +kernel) rfl rfl ?_
  refine Fr_icmp_gt (off := 32) 74 (by decide +kernel) (by decide) (fun hc => ?_) (fun hc => ?_)
  · have h := iT hc h
    refine Fr_aload_n (q := 0) (i := 0) 0 (by decide +kernel) rfl rfl ?_
    obtain ⟨M_8, hc_9, h⟩ := bv_elim h
    refine Fr_cVv (ν := m_X12_gives) (As := []) (st := []) (rc := 200) (ci := 12) (d' := 0) (by decide +kernel) ml_X12_442 cv_X12_gives rfl (by decide) rfl ob_200 rfl (by decide) (Nat.le_of_ble_eq_true rfl) (t_X12_gives hc_9) ?_
    refine Fr_iload_n (q := 2) (i := 2) 2 (by decide +kernel) rfl rfl ?_
    obtain rfl := Option.some.inj h
    exact Fr_iret (by decide +kernel) rfl ⟨rfl, rfl⟩
  · have h := iF hc h
    refine Fr_aload_n (q := 0) (i := 0) 0 (by decide +kernel) rfl rfl ?_
    obtain ⟨M_10, hc_11, h⟩ := bv_elim h
    refine Fr_cVv (ν := m_X12_goesHour) (As := []) (st := []) (rc := 200) (ci := 12) (d' := 4) (by decide +kernel) ml_X12_422 cv_X12_goesHour rfl (by decide) rfl ob_200 rfl (by decide) (Nat.le_of_ble_eq_true rfl) (t_X12_goesHour hc_11) ?_
    refine Fr_aload_n (q := 0) (i := 0) 0 (by decide +kernel) rfl rfl ?_
    obtain ⟨r_14, M_12, hc_13, h⟩ := bi_elim h
    refine Fr_cVi (ν := m_X12_foggyMany) (As := []) (st := []) (rc := 200) (ci := 12) (d' := 2) (by decide +kernel) ml_X12_377 cv_X12_foggyMany rfl (by decide) rfl ob_200 rfl (by decide) (Nat.le_of_ble_eq_true rfl) (t_X12_foggyMany hc_13) ?_
    refine Fr_iload_n (q := 3) (i := 3) 3 (by decide +kernel) rfl rfl ?_
    refine Fr_icmp_gt (off := 6) 60 (by decide +kernel) (by decide) (fun hc => ?_) (fun hc => ?_)
    · have h := iT hc h
      refine Fr_aload_n (q := 0) (i := 0) 0 (by decide +kernel) rfl rfl ?_
      obtain ⟨r_17, M_15, hc_16, h⟩ := bi_elim h
      refine Fr_cVi (ν := m_X12_foggyMany) (As := []) (st := []) (rc := 200) (ci := 12) (d' := 2) (by decide +kernel) ml_X12_377 cv_X12_foggyMany rfl (by decide) rfl ob_200 rfl (by decide) (Nat.le_of_ble_eq_true rfl) (t_X12_foggyMany hc_16) ?_
      refine Fr_istore_n (q := 3) (i := 3) (lv' := [(3, .int r_17), (0, .ref 200), (1, .int v1), (2, .int v2), (4, .int v4)]) (by decide +kernel) rfl (by decide) rfl ?_
      refine Fr_iload (i := 4) 4 (by decide +kernel) rfl ?_
      refine Fr_istore_n (q := 2) (i := 2) (lv' := [(2, .int v4), (3, .int r_17), (0, .ref 200), (1, .int v1), (4, .int v4)]) (by decide +kernel) rfl (by decide) rfl ?_
      refine Fr_loc [2, 3, 0, 1, 4] rfl ?_
      exact t_X12_thickest_b68 hk39 h
    · have h := iF hc h
      refine Fr_goto (off := 11) 68 (by decide +kernel) (by decide) ?_
      exact t_X12_thickest_b68 hk39 h
set_option maxRecDepth 20000 in
theorem t_X12_thickest {N : Nat} {x1 : Int32} {M : Mem} {q : Int32 × Mem} (h : f_X12_thickest N x1 M = some q) : Ev 200 21 5 m_X12_thickest [.ref 200, .int x1] M (QI q) := by
  refine Ev_of_Fr (by decide +kernel) (Nat.le_of_ble_eq_true rfl) ?_
  show Fr 200 21 5 m_X12_thickest 0 [(0, .ref 200), (1, .int x1)] [] M (QI q)
  unfold f_X12_thickest at h
  refine Fr_aload_n (q := 0) (i := 0) 0 (by decide +kernel) rfl rfl ?_
  refine Fr_iconst (i := 0) (v := 0) (by decide +kernel) (by decide) ?_
  refine pf_X12_84 rfl (by decide +kernel) ob_200 ?_
  obtain ⟨M_1, eM_1, h⟩ := bM_elim h
  refine Fr_mem eM_1 ?_
  refine Fr_aload_n (q := 0) (i := 0) 0 (by decide +kernel) rfl rfl ?_
  refine Fr_iconst (i := 0) (v := 0) (by decide +kernel) (by decide) ?_
  refine pf_X12_87 rfl (by decide +kernel) ob_200 ?_
  obtain ⟨M_2, eM_2, h⟩ := bM_elim h
  refine Fr_mem eM_2 ?_
  refine Fr_iload_n (q := 1) (i := 1) 1 (by decide +kernel) rfl rfl ?_
  refine Fr_i2l (by decide +kernel) ?_
  refine Fr_lconst (i := 1) (v := 1) (by decide +kernel) (by decide) ?_
  refine Fr_ldc2 (idx := 420) (v := 48) (by decide +kernel) ll_X12_420 ?_
  obtain ⟨r_5, M_3, hc_4, h⟩ := bi_elim h
  refine Fr_cSb (ν := m_X12_isIn) (As := [.long (Int32.toInt64 x1), .long 1, .long 48]) (st := []) (d' := 0) (by decide +kernel) ml_X12_119 cs_X12_isIn rfl (by decide) (Nat.le_of_ble_eq_true rfl) (t_X12_isIn hc_4) ?_
  refine Fr_if_ne (off := 9) 28 (by decide +kernel) (by decide) (fun hc => ?_) (fun hc => ?_)
  · have h := iF hc h
    refine Fr_iconst (i := 0) (v := 0) (by decide +kernel) (by decide) ?_
    refine Fr_istore_n (q := 2) (i := 2) (lv' := [(2, .int 0), (0, .ref 200), (1, .int x1)]) (by decide +kernel) rfl (by decide) rfl ?_
    refine Fr_iconst (i := (-1)) (v := (-1)) (by decide +kernel) (by decide) ?_
    refine Fr_istore_n (q := 3) (i := 3) (lv' := [(3, .int (-1)), (2, .int 0), (0, .ref 200), (1, .int x1)]) (by decide +kernel) rfl (by decide) rfl ?_
    refine Fr_aload_n (q := 0) (i := 0) 2 (by decide +kernel) rfl rfl ?_
    obtain ⟨M_6, hc_7, h⟩ := bv_elim h
    refine Fr_cVv (ν := m_X12_keeps) (As := []) (st := []) (rc := 200) (ci := 12) (d' := 0) (by decide +kernel) ml_X12_439 cv_X12_keeps rfl (by decide) rfl ob_200 rfl (by decide) (Nat.le_of_ble_eq_true rfl) (t_X12_keeps hc_7) ?_
    refine Fr_iconst (i := 1) (v := 1) (by decide +kernel) (by decide) ?_
    refine Fr_istore (i := 4) (lv' := [(4, .int 1), (3, .int (-1)), (2, .int 0), (0, .ref 200), (1, .int x1)]) (by decide +kernel) (by decide) rfl ?_
    refine Fr_loc [3, 4, 2, 1, 0] rfl ?_
    exact lp_sound (body := fun k a m => f_X12_thickest_h39 N k a.1 a.2.1 a.2.2.1 a.2.2.2 m) (P := fun a M => Fr 200 21 5 m_X12_thickest 39 [(0, .ref 200), (1, .int a.1), (2, .int a.2.1), (3, .int a.2.2.1), (4, .int a.2.2.2)] [] M (QI q)) (fun k hk a m h => t_X12_thickest_h39 hk h) N (x1, 0, (-1), 1) M_6 h
  · have h := iT hc h
    refine Fr_aload_n (q := 0) (i := 0) 0 (by decide +kernel) rfl rfl ?_
    refine Fr_iconst (i := 5) (v := 5) (by decide +kernel) (by decide) ?_
    obtain ⟨r_20, M_18, hc_19, h⟩ := bi_elim h
    refine Fr_cVi (ν := m_X12_refuse) (As := [.int 5]) (st := []) (rc := 200) (ci := 12) (d' := 0) (by decide +kernel) ml_X12_371 cv_X12_refuse rfl (by decide) rfl ob_200 rfl (by decide) (Nat.le_of_ble_eq_true rfl) (t_X12_refuse hc_19) ?_
    obtain rfl := Option.some.inj h
    exact Fr_iret (by decide +kernel) rfl ⟨rfl, rfl⟩
set_option maxRecDepth 20000 in
theorem t_X12_failing_b102 {N : Nat} {q : Int32 × Mem} {k4 : Int32 × Int32 × Int32 → Mem → Option (Int32 × Mem)} (hk4 : ∀ (a : Int32 × Int32 × Int32) (M : Mem), k4 a M = some q → Fr 200 21 2 m_X12_failing 4 [(0, .ref 200), (1, .int a.1), (2, .int a.2.1), (3, .int a.2.2)] [] M (QI q)) {v1 : Int32} {v2 : Int32} {v3 : Int32} {M : Mem} (h : f_X12_failing_b102 N k4 v1 v2 v3 M = some q) : Fr 200 21 2 m_X12_failing 102 [(0, .ref 200), (1, .int v1), (2, .int v2), (3, .int v3)] [] M (QI q) := by
  unfold f_X12_failing_b102 at h
  refine Fr_iinc (i := 3) (j := 1) (v := (v3 + 1)) (lv' := [(3, .int (v3 + 1)), (0, .ref 200), (1, .int v1), (2, .int v2)]) 3 (by decide +kernel) rfl rfl (by decide) rfl ?_
  refine Fr_goto (off := (-101)) 4 (by decide +kernel) (by decide) ?_
  refine Fr_loc [1, 2, 3, 0] rfl ?_
  exact hk4 (v1, v2, (v3 + 1)) M h
set_option maxRecDepth 20000 in
theorem t_X12_failing_b63 {N : Nat} {q : Int32 × Mem} {k4 : Int32 × Int32 × Int32 → Mem → Option (Int32 × Mem)} (hk4 : ∀ (a : Int32 × Int32 × Int32) (M : Mem), k4 a M = some q → Fr 200 21 2 m_X12_failing 4 [(0, .ref 200), (1, .int a.1), (2, .int a.2.1), (3, .int a.2.2)] [] M (QI q)) {v1 : Int32} {v2 : Int32} {v3 : Int32} {s0 : Int32} {M : Mem} (h : f_X12_failing_b63 N k4 v1 v2 v3 s0 M = some q) : Fr 200 21 2 m_X12_failing 63 [(0, .ref 200), (1, .int v1), (2, .int v2), (3, .int v3)] [.int s0] M (QI q) := by
  unfold f_X12_failing_b63 at h
  refine Fr_istore (i := 4) (lv' := [(4, .int s0), (0, .ref 200), (1, .int v1), (2, .int v2), (3, .int v3)]) (by decide +kernel) (by decide) rfl ?_
  refine Fr_aload_n (q := 0) (i := 0) 1 (by decide +kernel) rfl rfl ?_
  refine Fr_aload_n (q := 0) (i := 0) 1 (by decide +kernel) rfl rfl ?_
  refine Fr_aload_n (q := 0) (i := 0) 1 (by decide +kernel) rfl rfl ?_
  refine gf_X12_35 rfl (by decide +kernel) ob_200 ?_
  refine Fr_bipush (i := 47) (v := 47) (by decide +kernel) (by decide) ?_
  refine Fr_iload_n (q := 3) (i := 3) 4 (by decide +kernel) rfl rfl ?_
  refine Fr_iadd (by decide +kernel) ?_
  obtain ⟨hi_8, h⟩ := ck_elim h
  refine Fr_iald (by decide +kernel) ob_205 (vp_of ln_205 hi_8) ?_
  refine Fr_aload_n (q := 0) (i := 0) 1 (by decide +kernel) rfl rfl ?_
  refine gf_X12_35 rfl (by decide +kernel) ob_200 ?_
  refine Fr_bipush (i := 53) (v := 53) (by decide +kernel) (by decide) ?_
  refine Fr_iload_n (q := 3) (i := 3) 4 (by decide +kernel) rfl rfl ?_
  refine Fr_iadd (by decide +kernel) ?_
  obtain ⟨hi_9, h⟩ := ck_elim h
  refine Fr_iald (by decide +kernel) ob_205 (vp_of ln_205 hi_9) ?_
  obtain ⟨r_12, M_10, hc_11, h⟩ := bi_elim h
  refine Fr_cVi (ν := m_X12_board) (As := [.int (M.1 205 (tn (47 + v3))), .int (M.1 205 (tn (53 + v3)))]) (st := [.ref 200]) (rc := 200) (ci := 12) (d' := 0) (by decide +kernel) ml_X12_396 cv_X12_board rfl (by decide) rfl ob_200 rfl (by decide) (Nat.le_of_ble_eq_true rfl) (t_X12_board hc_11) ?_
  obtain ⟨r_15, M_13, hc_14, h⟩ := bi_elim h
  refine Fr_cVb (ν := m_X12_isFoggy) (As := [.int r_12]) (st := []) (rc := 200) (ci := 12) (d' := 1) (by decide +kernel) ml_X12_366 cv_X12_isFoggy rfl (by decide) rfl ob_200 rfl (by decide) (Nat.le_of_ble_eq_true rfl) (t_X12_isFoggy hc_14) ?_
  refine Fr_iload (i := 4) 0 (by decide +kernel) rfl ?_
  refine Fr_icmp_ne (off := 9) 102 (by decide +kernel) (by decide) (fun hc => ?_) (fun hc => ?_)
  · have h := iF hc h
    refine Fr_loc [1, 2, 3, 4] rfl ?_
    exact t_X12_failing_b102 hk4 h
  · have h := iT hc h
    refine Fr_iload_n (q := 2) (i := 2) 3 (by decide +kernel) rfl rfl ?_
    refine Fr_iconst (i := 1) (v := 1) (by decide +kernel) (by decide) ?_
    refine Fr_iload_n (q := 3) (i := 3) 4 (by decide +kernel) rfl rfl ?_
    refine Fr_ishl (by decide +kernel) ?_
    refine Fr_ior (by decide +kernel) ?_
    obtain ⟨y_16, ey_16, h⟩ := bI_elim h
    refine Fr_topI ey_16 ?_
    refine Fr_istore_n (q := 2) (i := 2) (lv' := [(2, .int y_16), (4, .int s0), (0, .ref 200), (1, .int v1), (3, .int v3)]) (by decide +kernel) rfl (by decide) rfl ?_
    refine Fr_loc [2, 3, 0, 4] rfl ?_
    exact t_X12_failing_b102 hk4 h
set_option maxRecDepth 20000 in
theorem t_X12_failing_h4 {N : Nat} {q : Int32 × Mem} {k4 : Int32 × Int32 × Int32 → Mem → Option (Int32 × Mem)} (hk4 : ∀ (a : Int32 × Int32 × Int32) (M : Mem), k4 a M = some q → Fr 200 21 2 m_X12_failing 4 [(0, .ref 200), (1, .int a.1), (2, .int a.2.1), (3, .int a.2.2)] [] M (QI q)) {v1 : Int32} {v2 : Int32} {v3 : Int32} {M : Mem} (h : f_X12_failing_h4 N k4 v1 v2 v3 M = some q) : Fr 200 21 2 m_X12_failing 4 [(0, .ref 200), (1, .int v1), (2, .int v2), (3, .int v3)] [] M (QI q) := by
  unfold f_X12_failing_h4 at h
  refine Fr_iload_n (q := 3) (i := 3) 3 (by decide +kernel) rfl rfl ?_
  refine Fr_aload_n (q := 0) (i := 0) 0 (by decide +kernel) rfl rfl ?_
  refine gf_X12_35 rfl (by decide +kernel) ob_200 ?_
  refine Fr_iconst (i := 4) (v := 4) (by decide +kernel) (by decide) ?_
  obtain ⟨hi_1, h⟩ := ck_elim h
  refine Fr_iald (by decide +kernel) ob_205 (vp_of ln_205 hi_1) ?_
  refine Fr_icmp_ge (off := 97) 108 (by decide +kernel) (by decide) (fun hc => ?_) (fun hc => ?_)
  · have h := iT hc h
    refine Fr_iload_n (q := 2) (i := 2) 2 (by decide +kernel) rfl rfl ?_
    obtain rfl := Option.some.inj h
    exact Fr_iret (by decide +kernel) rfl ⟨rfl, rfl⟩
  · have h := iF hc h
    refine Fr_iload_n (q := 1) (i := 1) 1 (by decide +kernel) rfl rfl ?_
    refine Fr_i2l (by decide +kernel) ?_
    refine Fr_aload_n (q := 0) (i := 0) 0 (by decide +kernel) rfl rfl ?_
    refine gf_X12_35 rfl (by decide +kernel) ob_200 ?_
    refine Fr_bipush (i := 59) (v := 59) (by decide +kernel) (by decide) ?_
    refine Fr_iload_n (q := 3) (i := 3) 3 (by decide +kernel) rfl rfl ?_
    refine Fr_iadd (by decide +kernel) ?_
    obtain ⟨hi_2, h⟩ := ck_elim h
    refine Fr_iald (by decide +kernel) ob_205 (vp_of ln_205 hi_2) ?_
    refine Fr_i2l (by decide +kernel) ?_
    refine Fr_aload_n (q := 0) (i := 0) 0 (by decide +kernel) rfl rfl ?_
    refine gf_X12_35 rfl (by decide +kernel) ob_200 ?_
    refine Fr_bipush (i := 65) (v := 65) (by decide +kernel) (by decide) ?_
    refine Fr_iload_n (q := 3) (i := 3) 3 (by decide +kernel) rfl rfl ?_
    refine Fr_iadd (by decide +kernel) ?_
    obtain ⟨hi_3, h⟩ := ck_elim h
    refine Fr_iald (by decide +kernel) ob_205 (vp_of ln_205 hi_3) ?_
    refine Fr_i2l (by decide +kernel) ?_
    obtain ⟨r_6, M_4, hc_5, h⟩ := bi_elim h
    refine Fr_cSb (ν := m_X12_isIn) (As := [.long (Int32.toInt64 v1), .long (Int32.toInt64 (M.1 205 (tn (59 + v3)))), .long (Int32.toInt64 (M.1 205 (tn (65 + v3))))]) (st := []) (d' := 0) (by decide +kernel) ml_X12_119 cs_X12_isIn rfl (by decide) (Nat.le_of_ble_eq_true rfl) (t_X12_isIn hc_5) ?_
    refine Fr_if_ne (off := 6) 45 (by decide +kernel) (by decide) (fun hc => ?_) (fun hc => ?_)
    · have h := iF hc h
      refine Fr_aload_n (q := 0) (i := 0) 0 (by decide +kernel) rfl rfl ?_
      refine gf_X12_35 rfl (by decide +kernel) ob_200 ?_
      refine Fr_bipush (i := 77) (v := 77) (by decide +kernel) (by decide) ?_
      refine Fr_iload_n (q := 3) (i := 3) 3 (by decide +kernel) rfl rfl ?_
      refine Fr_iadd (by decide +kernel) ?_
      obtain ⟨hi_7, h⟩ := ck_elim h
      refine Fr_iald (by decide +kernel) ob_205 (vp_of ln_205 hi_7) ?_
      refine Fr_iconst (i := 1) (v := 1) (by decide +kernel) (by decide) ?_
      refine Fr_icmp_ne (off := 7) 62 (by decide +kernel) (by decide) (fun hc => ?_) (fun hc => ?_)
      · have h := iF hc h
        refine Fr_iconst (i := 0) (v := 0) (by decide +kernel) (by decide) ?_
        exact t_X12_failing_b63 hk4 h
      · have h := iT hc h
        refine Fr_iconst (i := 1) (v := 1) (by decide +kernel) (by decide) ?_
        refine Fr_goto (off := 4) 63 (by decide +kernel) (by decide) ?_
        exact t_X12_failing_b63 hk4 h
    · have h := iT hc h
      refine Fr_goto (off := 60) 102 (by decide +kernel) (by decide) ?_
      exact t_X12_failing_b102 hk4 h
set_option maxRecDepth 20000 in
theorem t_X12_failing {N : Nat} {x1 : Int32} {M : Mem} {q : Int32 × Mem} (h : f_X12_failing N x1 M = some q) : Ev 200 21 2 m_X12_failing [.ref 200, .int x1] M (QI q) := by
  refine Ev_of_Fr (by decide +kernel) (Nat.le_of_ble_eq_true rfl) ?_
  show Fr 200 21 2 m_X12_failing 0 [(0, .ref 200), (1, .int x1)] [] M (QI q)
  unfold f_X12_failing at h
  refine Fr_iconst (i := 0) (v := 0) (by decide +kernel) (by decide) ?_
  refine Fr_istore_n (q := 2) (i := 2) (lv' := [(2, .int 0), (0, .ref 200), (1, .int x1)]) (by decide +kernel) rfl (by decide) rfl ?_
  refine Fr_iconst (i := 0) (v := 0) (by decide +kernel) (by decide) ?_
  refine Fr_istore_n (q := 3) (i := 3) (lv' := [(3, .int 0), (2, .int 0), (0, .ref 200), (1, .int x1)]) (by decide +kernel) rfl (by decide) rfl ?_
  refine Fr_loc [2, 3, 1, 0] rfl ?_
  exact lp_sound (body := fun k a m => f_X12_failing_h4 N k a.1 a.2.1 a.2.2 m) (P := fun a M => Fr 200 21 2 m_X12_failing 4 [(0, .ref 200), (1, .int a.1), (2, .int a.2.1), (3, .int a.2.2)] [] M (QI q)) (fun k hk a m h => t_X12_failing_h4 hk h) N (x1, 0, 0) M h
set_option maxRecDepth 20000 in
theorem t_X12_fails_h5 {N : Nat} {q : Int32 × Mem} {k5 : Int32 × Int32 × Int32 → Mem → Option (Int32 × Mem)} (hk5 : ∀ (a : Int32 × Int32 × Int32) (M : Mem), k5 a M = some q → Fr 200 21 5 m_X12_fails 5 [(0, .ref 200), (2, .int a.1), (3, .int a.2.1), (4, .int a.2.2)] [] M (QI q)) {v2 : Int32} {v3 : Int32} {v4 : Int32} {M : Mem} (h : f_X12_fails_h5 N k5 v2 v3 v4 M = some q) : Fr 200 21 5 m_X12_fails 5 [(0, .ref 200), (2, .int v2), (3, .int v3), (4, .int v4)] [] M (QI q) := by
  unfold f_X12_fails_h5 at h
  refine Fr_iload (i := 4) 3 (by decide +kernel) rfl ?_
  refine Fr_iload_n (q := 2) (i := 2) 1 (by decide +kernel) rfl rfl ?_
  refine Fr_icmp_gt (off := 22) 30 (by decide +kernel) (by decide) (fun hc => ?_) (fun hc => ?_)
  · have h := iT hc h
    refine Fr_iload_n (q := 3) (i := 3) 2 (by decide +kernel) rfl rfl ?_
    obtain rfl := Option.some.inj h
    exact Fr_iret (by decide +kernel) rfl ⟨rfl, rfl⟩
  · have h := iF hc h
    refine Fr_aload_n (q := 0) (i := 0) 0 (by decide +kernel) rfl rfl ?_
    obtain ⟨M_1, hc_2, h⟩ := bv_elim h
    refine Fr_cVv (ν := m_X12_goesHour) (As := []) (st := []) (rc := 200) (ci := 12) (d' := 4) (by decide +kernel) ml_X12_422 cv_X12_goesHour rfl (by decide) rfl ob_200 rfl (by decide) (Nat.le_of_ble_eq_true rfl) (t_X12_goesHour hc_2) ?_
    refine Fr_iload_n (q := 3) (i := 3) 2 (by decide +kernel) rfl rfl ?_
    refine Fr_aload_n (q := 0) (i := 0) 0 (by decide +kernel) rfl rfl ?_
    refine Fr_iload (i := 4) 3 (by decide +kernel) rfl ?_
    obtain ⟨r_5, M_3, hc_4, h⟩ := bi_elim h
    refine Fr_cVi (ν := m_X12_failing) (As := [.int v4]) (st := [.int v3]) (rc := 200) (ci := 12) (d' := 2) (by decide +kernel) ml_X12_449 cv_X12_failing rfl (by decide) rfl ob_200 rfl (by decide) (Nat.le_of_ble_eq_true rfl) (t_X12_failing hc_4) ?_
    refine Fr_ior (by decide +kernel) ?_
    refine Fr_istore_n (q := 3) (i := 3) (lv' := [(3, .int (v3 ||| r_5)), (0, .ref 200), (2, .int v2), (4, .int v4)]) (by decide +kernel) rfl (by decide) rfl ?_
    refine Fr_iinc (i := 4) (j := 1) (v := (v4 + 1)) (lv' := [(4, .int (v4 + 1)), (3, .int (v3 ||| r_5)), (0, .ref 200), (2, .int v2)]) 3 (by decide +kernel) rfl rfl (by decide) rfl ?_
    refine Fr_goto (off := (-22)) 5 (by decide +kernel) (by decide) ?_
    refine Fr_loc [2, 3, 1, 0] rfl ?_
    exact hk5 (v2, (v3 ||| r_5), (v4 + 1)) M_3 h
set_option maxRecDepth 20000 in
theorem t_X12_fails {N : Nat} {x1 : Int32} {x2 : Int32} {M : Mem} {q : Int32 × Mem} (h : f_X12_fails N x1 x2 M = some q) : Ev 200 21 5 m_X12_fails [.ref 200, .int x1, .int x2] M (QI q) := by
  refine Ev_of_Fr (by decide +kernel) (Nat.le_of_ble_eq_true rfl) ?_
  show Fr 200 21 5 m_X12_fails 0 [(0, .ref 200), (1, .int x1), (2, .int x2)] [] M (QI q)
  unfold f_X12_fails at h
  refine Fr_iconst (i := 0) (v := 0) (by decide +kernel) (by decide) ?_
  refine Fr_istore_n (q := 3) (i := 3) (lv' := [(3, .int 0), (0, .ref 200), (1, .int x1), (2, .int x2)]) (by decide +kernel) rfl (by decide) rfl ?_
  refine Fr_iload_n (q := 1) (i := 1) 2 (by decide +kernel) rfl rfl ?_
  refine Fr_istore (i := 4) (lv' := [(4, .int x1), (3, .int 0), (0, .ref 200), (1, .int x1), (2, .int x2)]) (by decide +kernel) (by decide) rfl ?_
  refine Fr_loc [2, 4, 1, 0] rfl ?_
  exact lp_sound (body := fun k a m => f_X12_fails_h5 N k a.1 a.2.1 a.2.2 m) (P := fun a M => Fr 200 21 5 m_X12_fails 5 [(0, .ref 200), (2, .int a.1), (3, .int a.2.1), (4, .int a.2.2)] [] M (QI q)) (fun k hk a m h => t_X12_fails_h5 hk h) N (x2, 0, x1) M h
set_option maxRecDepth 20000 in
theorem t_X12_servedNow {N : Nat} {M : Mem} {q : Int32 × Mem} (h : f_X12_servedNow N M = some q) : Ev 200 21 6 m_X12_servedNow [.ref 200] M (QI q) := by
  refine Ev_of_Fr (by decide +kernel) (Nat.le_of_ble_eq_true rfl) ?_
  show Fr 200 21 6 m_X12_servedNow 0 [(0, .ref 200)] [] M (QI q)
  unfold f_X12_servedNow at h
  refine Fr_aload_n (q := 0) (i := 0) 0 (by decide +kernel) rfl rfl ?_
  obtain ⟨M_1, hc_2, h⟩ := bv_elim h
  refine Fr_cVv (ν := m_X12_keeps) (As := []) (st := []) (rc := 200) (ci := 12) (d' := 0) (by decide +kernel) ml_X12_439 cv_X12_keeps rfl (by decide) rfl ob_200 rfl (by decide) (Nat.le_of_ble_eq_true rfl) (t_X12_keeps hc_2) ?_
  refine Fr_aload_n (q := 0) (i := 0) 0 (by decide +kernel) rfl rfl ?_
  refine Fr_iconst (i := 1) (v := 1) (by decide +kernel) (by decide) ?_
  refine Fr_bipush (i := 24) (v := 24) (by decide +kernel) (by decide) ?_
  obtain ⟨r_5, M_3, hc_4, h⟩ := bi_elim h
  refine Fr_cVi (ν := m_X12_fails) (As := [.int 1, .int 24]) (st := []) (rc := 200) (ci := 12) (d' := 5) (by decide +kernel) ml_X12_452 cv_X12_fails rfl (by decide) rfl ob_200 rfl (by decide) (Nat.le_of_ble_eq_true rfl) (t_X12_fails hc_4) ?_
  refine Fr_istore_n (q := 1) (i := 1) (lv' := [(1, .int r_5), (0, .ref 200)]) (by decide +kernel) rfl (by decide) rfl ?_
  refine Fr_aload_n (q := 0) (i := 0) 1 (by decide +kernel) rfl rfl ?_
  obtain ⟨M_6, hc_7, h⟩ := bv_elim h
  refine Fr_cVv (ν := m_X12_gives) (As := []) (st := []) (rc := 200) (ci := 12) (d' := 0) (by decide +kernel) ml_X12_442 cv_X12_gives rfl (by decide) rfl ob_200 rfl (by decide) (Nat.le_of_ble_eq_true rfl) (t_X12_gives hc_7) ?_
  refine Fr_iconst (i := 1) (v := 1) (by decide +kernel) (by decide) ?_
  refine Fr_aload_n (q := 0) (i := 0) 1 (by decide +kernel) rfl rfl ?_
  refine gf_X12_35 rfl (by decide +kernel) ob_200 ?_
  refine Fr_iconst (i := 4) (v := 4) (by decide +kernel) (by decide) ?_
  obtain ⟨hi_8, h⟩ := ck_elim h
  refine Fr_iald (by decide +kernel) ob_205 (vp_of ln_205 hi_8) ?_
  refine Fr_ishl (by decide +kernel) ?_
  refine Fr_iconst (i := 1) (v := 1) (by decide +kernel) (by decide) ?_
  refine Fr_isub (by decide +kernel) ?_
  refine Fr_iload_n (q := 1) (i := 1) 0 (by decide +kernel) rfl rfl ?_
  refine Fr_iconst (i := (-1)) (v := (-1)) (by decide +kernel) (by decide) ?_
  refine Fr_ixor (by decide +kernel) ?_
  refine Fr_iand (by decide +kernel) ?_
  obtain rfl := Option.some.inj h
  exact Fr_iret (by decide +kernel) rfl ⟨rfl, rfl⟩
set_option maxRecDepth 20000 in
theorem t_X12_paidFor_b36 {N : Nat} {q : Int32 × Mem} {k4 : Int32 × Int32 × Int32 → Mem → Option (Int32 × Mem)} (hk4 : ∀ (a : Int32 × Int32 × Int32) (M : Mem), k4 a M = some q → Fr 200 21 1 m_X12_paidFor 4 [(0, .ref 200), (1, .int a.1), (2, .int a.2.1), (3, .int a.2.2)] [] M (QI q)) {v1 : Int32} {v3 : Int32} {s0 : Int32} {s1 : Int32} {M : Mem} (h : f_X12_paidFor_b36 N k4 v1 v3 s0 s1 M = some q) : Fr 200 21 1 m_X12_paidFor 36 [(0, .ref 200), (1, .int v1), (3, .int v3)] [.int s0, .int s1] M (QI q) := by
  unfold f_X12_paidFor_b36 at h
  refine Fr_iadd (by decide +kernel) ?_
  refine Fr_istore_n (q := 2) (i := 2) (lv' := [(2, .int (s1 + s0)), (0, .ref 200), (1, .int v1), (3, .int v3)]) (by decide +kernel) rfl (by decide) rfl ?_
  refine Fr_iinc (i := 3) (j := 1) (v := (v3 + 1)) (lv' := [(3, .int (v3 + 1)), (2, .int (s1 + s0)), (0, .ref 200), (1, .int v1)]) 3 (by decide +kernel) rfl rfl (by decide) rfl ?_
  refine Fr_goto (off := (-37)) 4 (by decide +kernel) (by decide) ?_
  refine Fr_loc [2, 3, 1, 0] rfl ?_
  exact hk4 (v1, (s1 + s0), (v3 + 1)) M h
set_option maxRecDepth 20000 in
theorem t_X12_paidFor_h4 {N : Nat} {q : Int32 × Mem} {k4 : Int32 × Int32 × Int32 → Mem → Option (Int32 × Mem)} (hk4 : ∀ (a : Int32 × Int32 × Int32) (M : Mem), k4 a M = some q → Fr 200 21 1 m_X12_paidFor 4 [(0, .ref 200), (1, .int a.1), (2, .int a.2.1), (3, .int a.2.2)] [] M (QI q)) {v1 : Int32} {v2 : Int32} {v3 : Int32} {M : Mem} (h : f_X12_paidFor_h4 N k4 v1 v2 v3 M = some q) : Fr 200 21 1 m_X12_paidFor 4 [(0, .ref 200), (1, .int v1), (2, .int v2), (3, .int v3)] [] M (QI q) := by
  unfold f_X12_paidFor_h4 at h
  refine Fr_iload_n (q := 3) (i := 3) 3 (by decide +kernel) rfl rfl ?_
  refine Fr_aload_n (q := 0) (i := 0) 0 (by decide +kernel) rfl rfl ?_
  refine gf_X12_35 rfl (by decide +kernel) ob_200 ?_
  refine Fr_iconst (i := 4) (v := 4) (by decide +kernel) (by decide) ?_
  obtain ⟨hi_1, h⟩ := ck_elim h
  refine Fr_iald (by decide +kernel) ob_205 (vp_of ln_205 hi_1) ?_
  refine Fr_icmp_ge (off := 33) 44 (by decide +kernel) (by decide) (fun hc => ?_) (fun hc => ?_)
  · have h := iT hc h
    refine Fr_iload_n (q := 2) (i := 2) 2 (by decide +kernel) rfl rfl ?_
    obtain rfl := Option.some.inj h
    exact Fr_iret (by decide +kernel) rfl ⟨rfl, rfl⟩
  · have h := iF hc h
    refine Fr_iload_n (q := 2) (i := 2) 2 (by decide +kernel) rfl rfl ?_
    refine Fr_iload_n (q := 1) (i := 1) 1 (by decide +kernel) rfl rfl ?_
    refine Fr_iload_n (q := 3) (i := 3) 3 (by decide +kernel) rfl rfl ?_
    obtain ⟨r_4, M_2, hc_3, h⟩ := bi_elim h
    refine Fr_cSb (ν := m_X12_has) (As := [.int v1, .int v3]) (st := [.int v2]) (d' := 0) (by decide +kernel) ml_X12_123 cs_X12_has rfl (by decide) (Nat.le_of_ble_eq_true rfl) (t_X12_has hc_3) ?_
    refine Fr_if_eq (off := 15) 35 (by decide +kernel) (by decide) (fun hc => ?_) (fun hc => ?_)
    · have h := iT hc h
      refine Fr_iconst (i := 0) (v := 0) (by decide +kernel) (by decide) ?_
      refine Fr_loc [0, 1, 3] rfl ?_
      exact t_X12_paidFor_b36 hk4 h
    · have h := iF hc h
      refine Fr_aload_n (q := 0) (i := 0) 0 (by decide +kernel) rfl rfl ?_
      refine gf_X12_35 rfl (by decide +kernel) ob_200 ?_
      refine Fr_bipush (i := 71) (v := 71) (by decide +kernel) (by decide) ?_
      refine Fr_iload_n (q := 3) (i := 3) 3 (by decide +kernel) rfl rfl ?_
      refine Fr_iadd (by decide +kernel) ?_
      obtain ⟨hi_5, h⟩ := ck_elim h
      refine Fr_iald (by decide +kernel) ob_205 (vp_of ln_205 hi_5) ?_
      refine Fr_goto (off := 4) 36 (by decide +kernel) (by decide) ?_
      refine Fr_loc [0, 1, 3] rfl ?_
      exact t_X12_paidFor_b36 hk4 h
set_option maxRecDepth 20000 in
theorem t_X12_paidFor {N : Nat} {x1 : Int32} {M : Mem} {q : Int32 × Mem} (h : f_X12_paidFor N x1 M = some q) : Ev 200 21 1 m_X12_paidFor [.ref 200, .int x1] M (QI q) := by
  refine Ev_of_Fr (by decide +kernel) (Nat.le_of_ble_eq_true rfl) ?_
  show Fr 200 21 1 m_X12_paidFor 0 [(0, .ref 200), (1, .int x1)] [] M (QI q)
  unfold f_X12_paidFor at h
  refine Fr_iconst (i := 0) (v := 0) (by decide +kernel) (by decide) ?_
  refine Fr_istore_n (q := 2) (i := 2) (lv' := [(2, .int 0), (0, .ref 200), (1, .int x1)]) (by decide +kernel) rfl (by decide) rfl ?_
  refine Fr_iconst (i := 0) (v := 0) (by decide +kernel) (by decide) ?_
  refine Fr_istore_n (q := 3) (i := 3) (lv' := [(3, .int 0), (2, .int 0), (0, .ref 200), (1, .int x1)]) (by decide +kernel) rfl (by decide) rfl ?_
  refine Fr_loc [2, 3, 1, 0] rfl ?_
  exact lp_sound (body := fun k a m => f_X12_paidFor_h4 N k a.1 a.2.1 a.2.2 m) (P := fun a M => Fr 200 21 1 m_X12_paidFor 4 [(0, .ref 200), (1, .int a.1), (2, .int a.2.1), (3, .int a.2.2)] [] M (QI q)) (fun k hk a m h => t_X12_paidFor_h4 hk h) N (x1, 0, 0) M h
set_option maxRecDepth 20000 in
theorem t_X12_served {N : Nat} {M : Mem} {q : Int32 × Mem} (h : f_X12_served N M = some q) : Ev 200 21 7 m_X12_served [.ref 200] M (QI q) := by
  refine Ev_of_Fr (by decide +kernel) (Nat.le_of_ble_eq_true rfl) ?_
  show Fr 200 21 7 m_X12_served 0 [(0, .ref 200)] [] M (QI q)
  unfold f_X12_served at h
  refine Fr_aload_n (q := 0) (i := 0) 0 (by decide +kernel) rfl rfl ?_
  refine Fr_iconst (i := 0) (v := 0) (by decide +kernel) (by decide) ?_
  refine pf_X12_84 rfl (by decide +kernel) ob_200 ?_
  obtain ⟨M_1, eM_1, h⟩ := bM_elim h
  refine Fr_mem eM_1 ?_
  refine Fr_aload_n (q := 0) (i := 0) 0 (by decide +kernel) rfl rfl ?_
  refine Fr_iconst (i := 0) (v := 0) (by decide +kernel) (by decide) ?_
  refine pf_X12_87 rfl (by decide +kernel) ob_200 ?_
  obtain ⟨M_2, eM_2, h⟩ := bM_elim h
  refine Fr_mem eM_2 ?_
  refine Fr_aload_n (q := 0) (i := 0) 0 (by decide +kernel) rfl rfl ?_
  obtain ⟨r_5, M_3, hc_4, h⟩ := bi_elim h
  refine Fr_cVi (ν := m_X12_servedNow) (As := []) (st := []) (rc := 200) (ci := 12) (d' := 6) (by decide +kernel) ml_X12_455 cv_X12_servedNow rfl (by decide) rfl ob_200 rfl (by decide) (Nat.le_of_ble_eq_true rfl) (t_X12_servedNow hc_4) ?_
  obtain rfl := Option.some.inj h
  exact Fr_iret (by decide +kernel) rfl ⟨rfl, rfl⟩
set_option maxRecDepth 20000 in
theorem t_X12_paid {N : Nat} {M : Mem} {q : Int32 × Mem} (h : f_X12_paid N M = some q) : Ev 200 21 7 m_X12_paid [.ref 200] M (QI q) := by
  refine Ev_of_Fr (by decide +kernel) (Nat.le_of_ble_eq_true rfl) ?_
  show Fr 200 21 7 m_X12_paid 0 [(0, .ref 200)] [] M (QI q)
  unfold f_X12_paid at h
  refine Fr_aload_n (q := 0) (i := 0) 0 (by decide +kernel) rfl rfl ?_
  refine Fr_iconst (i := 0) (v := 0) (by decide +kernel) (by decide) ?_
  refine pf_X12_84 rfl (by decide +kernel) ob_200 ?_
  obtain ⟨M_1, eM_1, h⟩ := bM_elim h
  refine Fr_mem eM_1 ?_
  refine Fr_aload_n (q := 0) (i := 0) 0 (by decide +kernel) rfl rfl ?_
  refine Fr_iconst (i := 0) (v := 0) (by decide +kernel) (by decide) ?_
  refine pf_X12_87 rfl (by decide +kernel) ob_200 ?_
  obtain ⟨M_2, eM_2, h⟩ := bM_elim h
  refine Fr_mem eM_2 ?_
  refine Fr_aload_n (q := 0) (i := 0) 0 (by decide +kernel) rfl rfl ?_
  refine Fr_aload_n (q := 0) (i := 0) 0 (by decide +kernel) rfl rfl ?_
  obtain ⟨r_5, M_3, hc_4, h⟩ := bi_elim h
  refine Fr_cVi (ν := m_X12_servedNow) (As := []) (st := [.ref 200]) (rc := 200) (ci := 12) (d' := 6) (by decide +kernel) ml_X12_455 cv_X12_servedNow rfl (by decide) rfl ob_200 rfl (by decide) (Nat.le_of_ble_eq_true rfl) (t_X12_servedNow hc_4) ?_
  obtain ⟨r_8, M_6, hc_7, h⟩ := bi_elim h
  refine Fr_cVi (ν := m_X12_paidFor) (As := [.int r_5]) (st := []) (rc := 200) (ci := 12) (d' := 1) (by decide +kernel) ml_X12_458 cv_X12_paidFor rfl (by decide) rfl ob_200 rfl (by decide) (Nat.le_of_ble_eq_true rfl) (t_X12_paidFor hc_7) ?_
  obtain rfl := Option.some.inj h
  exact Fr_iret (by decide +kernel) rfl ⟨rfl, rfl⟩
set_option maxRecDepth 20000 in
theorem t_X12_plans_b87 {N : Nat} {q : Mem} {k15 : Int32 × Int32 → Mem → Option (Mem)} (hk15 : ∀ (a : Int32 × Int32) (M : Mem), k15 a M = some q → Fr 200 21 7 m_X12_plans 15 [(0, .ref 200), (1, .int a.1), (2, .int a.2)] [] M (QV q)) {v1 : Int32} {v2 : Int32} {M : Mem} (h : f_X12_plans_b87 N k15 v1 v2 M = some q) : Fr 200 21 7 m_X12_plans 87 [(0, .ref 200), (1, .int v1), (2, .int v2)] [] M (QV q) := by
  unfold f_X12_plans_b87 at h
  refine Fr_iinc (i := 2) (j := 1) (v := (v2 + 1)) (lv' := [(2, .int (v2 + 1)), (0, .ref 200), (1, .int v1)]) 2 (by decide +kernel) rfl rfl (by decide) rfl ?_
  refine Fr_goto (off := (-75)) 15 (by decide +kernel) (by decide) ?_
  refine Fr_loc [1, 2, 0] rfl ?_
  exact hk15 (v1, (v2 + 1)) M h
set_option maxRecDepth 20000 in
theorem t_X12_plans_b77 {N : Nat} {q : Mem} {k15 : Int32 × Int32 → Mem → Option (Mem)} (hk15 : ∀ (a : Int32 × Int32) (M : Mem), k15 a M = some q → Fr 200 21 7 m_X12_plans 15 [(0, .ref 200), (1, .int a.1), (2, .int a.2)] [] M (QV q)) {v1 : Int32} {v2 : Int32} {v3 : Int32} {M : Mem} (h : f_X12_plans_b77 N k15 v1 v2 v3 M = some q) : Fr 200 21 7 m_X12_plans 77 [(0, .ref 200), (1, .int v1), (2, .int v2), (3, .int v3)] [] M (QV q) := by
  unfold f_X12_plans_b77 at h
  refine Fr_aload_n (q := 0) (i := 0) 0 (by decide +kernel) rfl rfl ?_
  refine Fr_iload_n (q := 3) (i := 3) 3 (by decide +kernel) rfl rfl ?_
  refine pf_X12_461 rfl (by decide +kernel) ob_200 ?_
  obtain ⟨M_14, eM_14, h⟩ := bM_elim h
  refine Fr_mem eM_14 ?_
  refine Fr_aload_n (q := 0) (i := 0) 0 (by decide +kernel) rfl rfl ?_
  refine Fr_iload_n (q := 2) (i := 2) 2 (by decide +kernel) rfl rfl ?_
  refine pf_X12_467 rfl (by decide +kernel) ob_200 ?_
  obtain ⟨M_15, eM_15, h⟩ := bM_elim h
  refine Fr_mem eM_15 ?_
  refine Fr_loc [0, 1, 2] rfl ?_
  exact t_X12_plans_b87 hk15 h
set_option maxRecDepth 20000 in
theorem t_X12_plans_h15 {N : Nat} {q : Mem} {k15 : Int32 × Int32 → Mem → Option (Mem)} (hk15 : ∀ (a : Int32 × Int32) (M : Mem), k15 a M = some q → Fr 200 21 7 m_X12_plans 15 [(0, .ref 200), (1, .int a.1), (2, .int a.2)] [] M (QV q)) {v1 : Int32} {v2 : Int32} {M : Mem} (h : f_X12_plans_h15 N k15 v1 v2 M = some q) : Fr 200 21 7 m_X12_plans 15 [(0, .ref 200), (1, .int v1), (2, .int v2)] [] M (QV q) := by
  unfold f_X12_plans_h15 at h
  refine Fr_iload_n (q := 2) (i := 2) 2 (by decide +kernel) rfl rfl ?_
  refine Fr_iconst (i := 1) (v := 1) (by decide +kernel) (by decide) ?_
  refine Fr_aload_n (q := 0) (i := 0) 0 (by decide +kernel) rfl rfl ?_
  refine gf_X12_35 rfl (by decide +kernel) ob_200 ?_
  refine Fr_iconst (i := 2) (v := 2) (by decide +kernel) (by decide) ?_
  obtain ⟨hi_3, h⟩ := ck_elim h
  refine Fr_iald (by decide +kernel) ob_205 (vp_of ln_205 hi_3) ?_
  refine Fr_ishl (by decide +kernel) ?_
  refine Fr_icmp_ge (off := 69) 93 (by decide +kernel) (by decide) (fun hc => ?_) (fun hc => ?_)
  · have h := iT hc h
    refine Fr_aload_n (q := 0) (i := 0) 0 (by decide +kernel) rfl rfl ?_
    refine gf_X12_35 rfl (by decide +kernel) ob_200 ?_
    refine Fr_bipush (i := 10) (v := 10) (by decide +kernel) (by decide) ?_
    refine Fr_iload_n (q := 1) (i := 1) 1 (by decide +kernel) rfl rfl ?_
    obtain ⟨hi_4, h⟩ := ck_elim h
    refine Fr_iast (by decide +kernel) ob_205 (vp_of ln_205 hi_4) ?_
    obtain ⟨M_5, eM_5, h⟩ := bM_elim h
    refine Fr_mem eM_5 ?_
    obtain rfl := Option.some.inj h
    exact Fr_vret (by decide +kernel) rfl ⟨rfl, rfl⟩
  · have h := iF hc h
    refine Fr_aload_n (q := 0) (i := 0) 0 (by decide +kernel) rfl rfl ?_
    refine gf_X12_35 rfl (by decide +kernel) ob_200 ?_
    refine Fr_bipush (i := 10) (v := 10) (by decide +kernel) (by decide) ?_
    refine Fr_iload_n (q := 2) (i := 2) 2 (by decide +kernel) rfl rfl ?_
    obtain ⟨hi_6, h⟩ := ck_elim h
    refine Fr_iast (by decide +kernel) ob_205 (vp_of ln_205 hi_6) ?_
    obtain ⟨M_7, eM_7, h⟩ := bM_elim h
    refine Fr_mem eM_7 ?_
    refine Fr_aload_n (q := 0) (i := 0) 0 (by decide +kernel) rfl rfl ?_
    refine Fr_aload_n (q := 0) (i := 0) 0 (by decide +kernel) rfl rfl ?_
    obtain ⟨r_10, M_8, hc_9, h⟩ := bi_elim h
    refine Fr_cVi (ν := m_X12_servedNow) (As := []) (st := [.ref 200]) (rc := 200) (ci := 12) (d' := 6) (by decide +kernel) ml_X12_455 cv_X12_servedNow rfl (by decide) rfl ob_200 rfl (by decide) (Nat.le_of_ble_eq_true rfl) (t_X12_servedNow hc_9) ?_
    obtain ⟨r_13, M_11, hc_12, h⟩ := bi_elim h
    refine Fr_cVi (ν := m_X12_paidFor) (As := [.int r_10]) (st := []) (rc := 200) (ci := 12) (d' := 1) (by decide +kernel) ml_X12_458 cv_X12_paidFor rfl (by decide) rfl ob_200 rfl (by decide) (Nat.le_of_ble_eq_true rfl) (t_X12_paidFor hc_12) ?_
    refine Fr_istore_n (q := 3) (i := 3) (lv' := [(3, .int r_13), (0, .ref 200), (1, .int v1), (2, .int v2)]) (by decide +kernel) rfl (by decide) rfl ?_
    refine Fr_iload_n (q := 3) (i := 3) 0 (by decide +kernel) rfl rfl ?_
    refine Fr_aload_n (q := 0) (i := 0) 1 (by decide +kernel) rfl rfl ?_
    refine gf_X12_461 rfl (by decide +kernel) ob_200 ?_
    refine Fr_icmp_lt (off := 38) 87 (by decide +kernel) (by decide) (fun hc => ?_) (fun hc => ?_)
    · have h := iT hc h
      refine Fr_loc [1, 2, 3] rfl ?_
      exact t_X12_plans_b87 hk15 h
    · have h := iF hc h
      refine Fr_iload_n (q := 3) (i := 3) 0 (by decide +kernel) rfl rfl ?_
      refine Fr_aload_n (q := 0) (i := 0) 1 (by decide +kernel) rfl rfl ?_
      refine gf_X12_461 rfl (by decide +kernel) ob_200 ?_
      refine Fr_icmp_ne (off := 20) 77 (by decide +kernel) (by decide) (fun hc => ?_) (fun hc => ?_)
      · have h := iF hc h
        refine Fr_loc [1, 2, 3, 0] rfl ?_
        exact t_X12_plans_b77 hk15 h
      · have h := iT hc h
        refine Fr_iload_n (q := 2) (i := 2) 3 (by decide +kernel) rfl rfl ?_
        obtain ⟨r_18, M_16, hc_17, h⟩ := bi_elim h
        refine Fr_cSi (ν := m_X12_sizeOf) (As := [.int v2]) (st := []) (d' := 1) (by decide +kernel) ml_X12_464 cs_X12_sizeOf rfl (by decide) (Nat.le_of_ble_eq_true rfl) (t_X12_sizeOf hc_17) ?_
        refine Fr_aload_n (q := 0) (i := 0) 1 (by decide +kernel) rfl rfl ?_
        refine gf_X12_467 rfl (by decide +kernel) ob_200 ?_
        obtain ⟨r_21, M_19, hc_20, h⟩ := bi_elim h
        refine Fr_cSi (ν := m_X12_sizeOf) (As := [.int (M_16.1 200 29)]) (st := [.int r_18]) (d' := 1) (by decide +kernel) ml_X12_464 cs_X12_sizeOf rfl (by decide) (Nat.le_of_ble_eq_true rfl) (t_X12_sizeOf hc_20) ?_
        refine Fr_icmp_lt (off := 6) 77 (by decide +kernel) (by decide) (fun hc => ?_) (fun hc => ?_)
        · have h := iT hc h
          refine Fr_loc [1, 2, 3, 0] rfl ?_
          exact t_X12_plans_b77 hk15 h
        · have h := iF hc h
          refine Fr_goto (off := 13) 87 (by decide +kernel) (by decide) ?_
          refine Fr_loc [1, 2, 3] rfl ?_
          exact t_X12_plans_b87 hk15 h
set_option maxRecDepth 20000 in
theorem t_X12_plans {N : Nat} {M : Mem} {q : Mem} (h : f_X12_plans N M = some q) : Ev 200 21 7 m_X12_plans [.ref 200] M (QV q) := by
  refine Ev_of_Fr (by decide +kernel) (Nat.le_of_ble_eq_true rfl) ?_
  show Fr 200 21 7 m_X12_plans 0 [(0, .ref 200)] [] M (QV q)
  unfold f_X12_plans at h
  refine Fr_aload_n (q := 0) (i := 0) 0 (by decide +kernel) rfl rfl ?_
  refine gf_X12_35 rfl (by decide +kernel) ob_200 ?_
  refine Fr_bipush (i := 10) (v := 10) (by decide +kernel) (by decide) ?_
  obtain ⟨hi_1, h⟩ := ck_elim h
  refine Fr_iald (by decide +kernel) ob_205 (vp_of ln_205 hi_1) ?_
  refine Fr_istore_n (q := 1) (i := 1) (lv' := [(1, .int (M.1 205 (tn 10))), (0, .ref 200)]) (by decide +kernel) rfl (by decide) rfl ?_
  refine Fr_aload_n (q := 0) (i := 0) 1 (by decide +kernel) rfl rfl ?_
  refine Fr_iconst (i := (-1)) (v := (-1)) (by decide +kernel) (by decide) ?_
  refine pf_X12_461 rfl (by decide +kernel) ob_200 ?_
  obtain ⟨M_2, eM_2, h⟩ := bM_elim h
  refine Fr_mem eM_2 ?_
  refine Fr_iconst (i := 0) (v := 0) (by decide +kernel) (by decide) ?_
  refine Fr_istore_n (q := 2) (i := 2) (lv' := [(2, .int 0), (1, .int (M.1 205 (tn 10))), (0, .ref 200)]) (by decide +kernel) rfl (by decide) rfl ?_
  refine Fr_loc [2, 1, 0] rfl ?_
  exact lp_sound (body := fun k a m => f_X12_plans_h15 N k a.1 a.2 m) (P := fun a M => Fr 200 21 7 m_X12_plans 15 [(0, .ref 200), (1, .int a.1), (2, .int a.2)] [] M (QV q)) (fun k hk a m h => t_X12_plans_h15 hk h) N ((M.1 205 (tn 10)), 0) M_2 h
set_option maxRecDepth 20000 in
theorem t_X12_plan {N : Nat} {M : Mem} {q : Int32 × Mem} (h : f_X12_plan N M = some q) : Ev 200 21 8 m_X12_plan [.ref 200] M (QI q) := by
  refine Ev_of_Fr (by decide +kernel) (Nat.le_of_ble_eq_true rfl) ?_
  show Fr 200 21 8 m_X12_plan 0 [(0, .ref 200)] [] M (QI q)
  unfold f_X12_plan at h
  refine Fr_aload_n (q := 0) (i := 0) 0 (by decide +kernel) rfl rfl ?_
  refine Fr_iconst (i := 0) (v := 0) (by decide +kernel) (by decide) ?_
  refine pf_X12_84 rfl (by decide +kernel) ob_200 ?_
  obtain ⟨M_1, eM_1, h⟩ := bM_elim h
  refine Fr_mem eM_1 ?_
  refine Fr_aload_n (q := 0) (i := 0) 0 (by decide +kernel) rfl rfl ?_
  refine Fr_iconst (i := 0) (v := 0) (by decide +kernel) (by decide) ?_
  refine pf_X12_87 rfl (by decide +kernel) ob_200 ?_
  obtain ⟨M_2, eM_2, h⟩ := bM_elim h
  refine Fr_mem eM_2 ?_
  refine Fr_aload_n (q := 0) (i := 0) 0 (by decide +kernel) rfl rfl ?_
  obtain ⟨M_3, hc_4, h⟩ := bv_elim h
  refine Fr_cVv (ν := m_X12_plans) (As := []) (st := []) (rc := 200) (ci := 12) (d' := 7) (by decide +kernel) ml_X12_470 cv_X12_plans rfl (by decide) rfl ob_200 rfl (by decide) (Nat.le_of_ble_eq_true rfl) (t_X12_plans hc_4) ?_
  refine Fr_aload_n (q := 0) (i := 0) 0 (by decide +kernel) rfl rfl ?_
  refine gf_X12_461 rfl (by decide +kernel) ob_200 ?_
  obtain rfl := Option.some.inj h
  exact Fr_iret (by decide +kernel) rfl ⟨rfl, rfl⟩
set_option maxRecDepth 20000 in
theorem t_X12_planSet {N : Nat} {M : Mem} {q : Int32 × Mem} (h : f_X12_planSet N M = some q) : Ev 200 21 8 m_X12_planSet [.ref 200] M (QI q) := by
  refine Ev_of_Fr (by decide +kernel) (Nat.le_of_ble_eq_true rfl) ?_
  show Fr 200 21 8 m_X12_planSet 0 [(0, .ref 200)] [] M (QI q)
  unfold f_X12_planSet at h
  refine Fr_aload_n (q := 0) (i := 0) 0 (by decide +kernel) rfl rfl ?_
  refine Fr_iconst (i := 0) (v := 0) (by decide +kernel) (by decide) ?_
  refine pf_X12_84 rfl (by decide +kernel) ob_200 ?_
  obtain ⟨M_1, eM_1, h⟩ := bM_elim h
  refine Fr_mem eM_1 ?_
  refine Fr_aload_n (q := 0) (i := 0) 0 (by decide +kernel) rfl rfl ?_
  refine Fr_iconst (i := 0) (v := 0) (by decide +kernel) (by decide) ?_
  refine pf_X12_87 rfl (by decide +kernel) ob_200 ?_
  obtain ⟨M_2, eM_2, h⟩ := bM_elim h
  refine Fr_mem eM_2 ?_
  refine Fr_aload_n (q := 0) (i := 0) 0 (by decide +kernel) rfl rfl ?_
  obtain ⟨M_3, hc_4, h⟩ := bv_elim h
  refine Fr_cVv (ν := m_X12_plans) (As := []) (st := []) (rc := 200) (ci := 12) (d' := 7) (by decide +kernel) ml_X12_470 cv_X12_plans rfl (by decide) rfl ob_200 rfl (by decide) (Nat.le_of_ble_eq_true rfl) (t_X12_plans hc_4) ?_
  refine Fr_aload_n (q := 0) (i := 0) 0 (by decide +kernel) rfl rfl ?_
  refine gf_X12_467 rfl (by decide +kernel) ob_200 ?_
  obtain rfl := Option.some.inj h
  exact Fr_iret (by decide +kernel) rfl ⟨rfl, rfl⟩
