set_option maxRecDepth 20000 in
theorem t_X12_lets_b93 {N : Nat} {q : Mem} {k2 : Int32 → Mem → Option (Mem)} (hk2 : ∀ (a : Int32) (M : Mem), k2 a M = some q → Fr 200 21 1 m_X12_lets 2 [(0, .ref 200), (1, .int a)] [] M (QV q)) {v1 : Int32} {M : Mem} (h : f_X12_lets_b93 N k2 v1 M = some q) : Fr 200 21 1 m_X12_lets 93 [(0, .ref 200), (1, .int v1)] [] M (QV q) := by
  unfold f_X12_lets_b93 at h
  refine Fr_iinc (i := 1) (j := 1) (v := (v1 + 1)) (lv' := [(1, .int (v1 + 1)), (0, .ref 200)]) 1 (by decide +kernel) rfl rfl (by decide) rfl ?_
  refine Fr_goto (off := (-94)) 2 (by decide +kernel) (by decide) ?_
  refine Fr_loc [1, 0] rfl ?_
  exact hk2 (v1 + 1) M h
set_option maxRecDepth 20000 in
theorem t_X12_lets_h2 {N : Nat} {q : Mem} {k2 : Int32 → Mem → Option (Mem)} (hk2 : ∀ (a : Int32) (M : Mem), k2 a M = some q → Fr 200 21 1 m_X12_lets 2 [(0, .ref 200), (1, .int a)] [] M (QV q)) {v1 : Int32} {M : Mem} (h : f_X12_lets_h2 N k2 v1 M = some q) : Fr 200 21 1 m_X12_lets 2 [(0, .ref 200), (1, .int v1)] [] M (QV q) := by
  unfold f_X12_lets_h2 at h
  refine Fr_iload_n (q := 1) (i := 1) 1 (by decide +kernel) rfl rfl ?_
  refine Fr_aload_n (q := 0) (i := 0) 0 (by decide +kernel) rfl rfl ?_
  refine gf_X12_35 rfl (by decide +kernel) ob_200 ?_
  refine Fr_iconst (i := 2) (v := 2) (by decide +kernel) (by decide) ?_
  obtain ⟨hi_1, h⟩ := ck_elim h
  refine Fr_iald (by decide +kernel) ob_205 (vp_of ln_205 hi_1) ?_
  refine Fr_icmp_ge (off := 90) 99 (by decide +kernel) (by decide) (fun hc => ?_) (fun hc => ?_)
  · have h := iT hc h
    obtain rfl := Option.some.inj h
    exact Fr_vret (by decide +kernel) rfl ⟨rfl, rfl⟩
  · have h := iF hc h
    refine Fr_bipush (i := 103) (v := 103) (by decide +kernel) (by decide) ?_
    refine Fr_bipush (i := 30) (v := 30) (by decide +kernel) (by decide) ?_
    refine Fr_aload_n (q := 0) (i := 0) 0 (by decide +kernel) rfl rfl ?_
    refine gf_X12_35 rfl (by decide +kernel) ob_200 ?_
    refine Fr_bipush (i := 29) (v := 29) (by decide +kernel) (by decide) ?_
    refine Fr_iload_n (q := 1) (i := 1) 1 (by decide +kernel) rfl rfl ?_
    refine Fr_iadd (by decide +kernel) ?_
    obtain ⟨hi_2, h⟩ := ck_elim h
    refine Fr_iald (by decide +kernel) ob_205 (vp_of ln_205 hi_2) ?_
    refine Fr_imul (by decide +kernel) ?_
    refine Fr_iadd (by decide +kernel) ?_
    refine Fr_aload_n (q := 0) (i := 0) 0 (by decide +kernel) rfl rfl ?_
    refine Fr_aload_n (q := 0) (i := 0) 0 (by decide +kernel) rfl rfl ?_
    refine gf_X12_35 rfl (by decide +kernel) ob_200 ?_
    refine Fr_bipush (i := 11) (v := 11) (by decide +kernel) (by decide) ?_
    refine Fr_iload_n (q := 1) (i := 1) 1 (by decide +kernel) rfl rfl ?_
    refine Fr_iadd (by decide +kernel) ?_
    obtain ⟨hi_3, h⟩ := ck_elim h
    refine Fr_iald (by decide +kernel) ob_205 (vp_of ln_205 hi_3) ?_
    refine Fr_aload_n (q := 0) (i := 0) 0 (by decide +kernel) rfl rfl ?_
    refine gf_X12_35 rfl (by decide +kernel) ob_200 ?_
    refine Fr_bipush (i := 17) (v := 17) (by decide +kernel) (by decide) ?_
    refine Fr_iload_n (q := 1) (i := 1) 1 (by decide +kernel) rfl rfl ?_
    refine Fr_iadd (by decide +kernel) ?_
    obtain ⟨hi_4, h⟩ := ck_elim h
    refine Fr_iald (by decide +kernel) ob_205 (vp_of ln_205 hi_4) ?_
    obtain ⟨r_7, M_5, hc_6, h⟩ := bi_elim h
    refine Fr_cVi (ν := m_X12_board) (As := [.int (M.1 205 (tn (11 + v1))), .int (M.1 205 (tn (17 + v1)))]) (st := [.int (103 + (30 * (M.1 205 (tn (29 + v1)))))]) (rc := 200) (ci := 12) (d' := 0) (by decide +kernel) ml_X12_396 cv_X12_board rfl (by decide) rfl ob_200 rfl (by decide) (Nat.le_of_ble_eq_true rfl) (t_X12_board hc_6) ?_
    refine Fr_iadd (by decide +kernel) ?_
    obtain ⟨y_8, ey_8, h⟩ := bI_elim h
    refine Fr_topI ey_8 ?_
    refine Fr_istore_n (q := 2) (i := 2) (lv' := [(2, .int y_8), (0, .ref 200), (1, .int v1)]) (by decide +kernel) rfl (by decide) rfl ?_
    refine Fr_aload_n (q := 0) (i := 0) 1 (by decide +kernel) rfl rfl ?_
    refine gf_X12_35 rfl (by decide +kernel) ob_200 ?_
    refine Fr_bipush (i := 10) (v := 10) (by decide +kernel) (by decide) ?_
    obtain ⟨hi_9, h⟩ := ck_elim h
    refine Fr_iald (by decide +kernel) ob_205 (vp_of ln_205 hi_9) ?_
    refine Fr_iload_n (q := 1) (i := 1) 2 (by decide +kernel) rfl rfl ?_
    obtain ⟨r_12, M_10, hc_11, h⟩ := bi_elim h
    refine Fr_cSb (ν := m_X12_has) (As := [.int (M_5.1 205 (tn 10)), .int v1]) (st := []) (d' := 0) (by decide +kernel) ml_X12_123 cs_X12_has rfl (by decide) (Nat.le_of_ble_eq_true rfl) (t_X12_has hc_11) ?_
    refine Fr_if_eq (off := 31) 93 (by decide +kernel) (by decide) (fun hc => ?_) (fun hc => ?_)
    · have h := iT hc h
      refine Fr_loc [1, 2] rfl ?_
      exact t_X12_lets_b93 hk2 h
    · have h := iF hc h
      refine Fr_aload_n (q := 0) (i := 0) 1 (by decide +kernel) rfl rfl ?_
      refine gf_X12_35 rfl (by decide +kernel) ob_200 ?_
      refine Fr_iload_n (q := 2) (i := 2) 0 (by decide +kernel) rfl rfl ?_
      refine Fr_sipush (i := 999) (v := 999) (by decide +kernel) (by decide) ?_
      refine Fr_aload_n (q := 0) (i := 0) 1 (by decide +kernel) rfl rfl ?_
      refine gf_X12_35 rfl (by decide +kernel) ob_200 ?_
      refine Fr_iload_n (q := 2) (i := 2) 0 (by decide +kernel) rfl rfl ?_
      obtain ⟨hi_13, h⟩ := ck_elim h
      refine Fr_iald (by decide +kernel) ob_205 (vp_of ln_205 hi_13) ?_
      refine Fr_aload_n (q := 0) (i := 0) 1 (by decide +kernel) rfl rfl ?_
      refine gf_X12_35 rfl (by decide +kernel) ob_200 ?_
      refine Fr_bipush (i := 23) (v := 23) (by decide +kernel) (by decide) ?_
      refine Fr_iload_n (q := 1) (i := 1) 2 (by decide +kernel) rfl rfl ?_
      refine Fr_iadd (by decide +kernel) ?_
      obtain ⟨hi_14, h⟩ := ck_elim h
      refine Fr_iald (by decide +kernel) ob_205 (vp_of ln_205 hi_14) ?_
      refine Fr_iadd (by decide +kernel) ?_
      refine Fr_min (by decide +kernel) ml_X12_408 (by decide) (Nat.le_of_ble_eq_true rfl) ?_
      obtain ⟨hi_15, h⟩ := ck_elim h
      refine Fr_iast (by decide +kernel) ob_205 (vp_of ln_205 hi_15) ?_
      obtain ⟨M_16, eM_16, h⟩ := bM_elim h
      refine Fr_mem eM_16 ?_
      refine Fr_loc [1, 2] rfl ?_
      exact t_X12_lets_b93 hk2 h
set_option maxRecDepth 20000 in
theorem t_X12_lets {N : Nat} {M : Mem} {q : Mem} (h : f_X12_lets N M = some q) : Ev 200 21 1 m_X12_lets [.ref 200] M (QV q) := by
  refine Ev_of_Fr (by decide +kernel) (Nat.le_of_ble_eq_true rfl) ?_
  show Fr 200 21 1 m_X12_lets 0 [(0, .ref 200)] [] M (QV q)
  unfold f_X12_lets at h
  refine Fr_iconst (i := 0) (v := 0) (by decide +kernel) (by decide) ?_
  refine Fr_istore_n (q := 1) (i := 1) (lv' := [(1, .int 0), (0, .ref 200)]) (by decide +kernel) rfl (by decide) rfl ?_
  refine Fr_loc [1, 0] rfl ?_
  exact lp_sound (body := fun k a m => f_X12_lets_h2 N k a m) (P := fun a M => Fr 200 21 1 m_X12_lets 2 [(0, .ref 200), (1, .int a)] [] M (QV q)) (fun k hk a m h => t_X12_lets_h2 hk h) N 0 M h
set_option maxRecDepth 20000 in
theorem t_X12_drifts_h169 {N : Nat} {q : Mem} {k169 : Int32 × Int32 → Mem → Option (Mem)} (hk169 : ∀ (a : Int32 × Int32) (M : Mem), k169 a M = some q → Fr 200 21 3 m_X12_drifts 169 [(0, .ref 200), (2, .int a.1), (3, .int a.2)] [] M (QV q)) {v2 : Int32} {v3 : Int32} {M : Mem} (h : f_X12_drifts_h169 N k169 v2 v3 M = some q) : Fr 200 21 3 m_X12_drifts 169 [(0, .ref 200), (2, .int v2), (3, .int v3)] [] M (QV q) := by
  unfold f_X12_drifts_h169 at h
  refine Fr_iload_n (q := 3) (i := 3) 2 (by decide +kernel) rfl rfl ?_
  refine Fr_aload_n (q := 0) (i := 0) 0 (by decide +kernel) rfl rfl ?_
  obtain ⟨r_9, M_7, hc_8, h⟩ := bi_elim h
  refine Fr_cVi (ν := m_X12_boards) (As := []) (st := [.int v3]) (rc := 200) (ci := 12) (d' := 0) (by decide +kernel) ml_X12_363 cv_X12_boards rfl (by decide) rfl ob_200 rfl (by decide) (Nat.le_of_ble_eq_true rfl) (t_X12_boards hc_8) ?_
  refine Fr_icmp_ge (off := 31) 205 (by decide +kernel) (by decide) (fun hc => ?_) (fun hc => ?_)
  · have h := iT hc h
    obtain rfl := Option.some.inj h
    exact Fr_vret (by decide +kernel) rfl ⟨rfl, rfl⟩
  · have h := iF hc h
    refine Fr_aload_n (q := 0) (i := 0) 0 (by decide +kernel) rfl rfl ?_
    refine gf_X12_35 rfl (by decide +kernel) ob_200 ?_
    refine Fr_iload_n (q := 2) (i := 2) 1 (by decide +kernel) rfl rfl ?_
    refine Fr_iload_n (q := 3) (i := 3) 2 (by decide +kernel) rfl rfl ?_
    refine Fr_iadd (by decide +kernel) ?_
    refine Fr_sipush (i := 999) (v := 999) (by decide +kernel) (by decide) ?_
    refine Fr_aload_n (q := 0) (i := 0) 0 (by decide +kernel) rfl rfl ?_
    refine gf_X12_35 rfl (by decide +kernel) ob_200 ?_
    refine Fr_iload_n (q := 2) (i := 2) 1 (by decide +kernel) rfl rfl ?_
    refine Fr_iload_n (q := 3) (i := 3) 2 (by decide +kernel) rfl rfl ?_
    refine Fr_iadd (by decide +kernel) ?_
    obtain ⟨hi_10, h⟩ := ck_elim h
    refine Fr_iald (by decide +kernel) ob_205 (vp_of ln_205 hi_10) ?_
    refine Fr_min (by decide +kernel) ml_X12_408 (by decide) (Nat.le_of_ble_eq_true rfl) ?_
    obtain ⟨hi_11, h⟩ := ck_elim h
    refine Fr_iast (by decide +kernel) ob_205 (vp_of ln_205 hi_11) ?_
    obtain ⟨M_12, eM_12, h⟩ := bM_elim h
    refine Fr_mem eM_12 ?_
    refine Fr_iinc (i := 3) (j := 1) (v := (v3 + 1)) (lv' := [(3, .int (v3 + 1)), (0, .ref 200), (2, .int v2)]) 2 (by decide +kernel) rfl rfl (by decide) rfl ?_
    refine Fr_goto (off := (-33)) 169 (by decide +kernel) (by decide) ?_
    refine Fr_loc [1, 2, 0] rfl ?_
    exact hk169 (v2, (v3 + 1)) M_12 h
set_option maxRecDepth 20000 in
theorem t_X12_drifts_b155 {N : Nat} {q : Mem} {k40 : Int32 × Int32 → Mem → Option (Mem)} (hk40 : ∀ (a : Int32 × Int32) (M : Mem), k40 a M = some q → Fr 200 21 3 m_X12_drifts 40 [(0, .ref 200), (2, .int a.1), (3, .int a.2)] [] M (QV q)) {k51 : Int32 × Int32 × Int32 → Mem → Option (Mem)} (hk51 : ∀ (a : Int32 × Int32 × Int32) (M : Mem), k51 a M = some q → Fr 200 21 3 m_X12_drifts 51 [(0, .ref 200), (2, .int a.1), (3, .int a.2.1), (4, .int a.2.2)] [] M (QV q)) {v2 : Int32} {v3 : Int32} {v4 : Int32} {M : Mem} (h : f_X12_drifts_b155 N k40 k51 v2 v3 v4 M = some q) : Fr 200 21 3 m_X12_drifts 155 [(0, .ref 200), (2, .int v2), (3, .int v3), (4, .int v4)] [] M (QV q) := by
  unfold f_X12_drifts_b155 at h
  refine Fr_iinc (i := 4) (j := 1) (v := (v4 + 1)) (lv' := [(4, .int (v4 + 1)), (0, .ref 200), (2, .int v2), (3, .int v3)]) 3 (by decide +kernel) rfl rfl (by decide) rfl ?_
  refine Fr_goto (off := (-107)) 51 (by decide +kernel) (by decide) ?_
  refine Fr_loc [1, 2, 3, 0] rfl ?_
  exact hk51 (v2, v3, (v4 + 1)) M h
set_option maxRecDepth 20000 in
theorem t_X12_drifts_b121 {N : Nat} {q : Mem} {k40 : Int32 × Int32 → Mem → Option (Mem)} (hk40 : ∀ (a : Int32 × Int32) (M : Mem), k40 a M = some q → Fr 200 21 3 m_X12_drifts 40 [(0, .ref 200), (2, .int a.1), (3, .int a.2)] [] M (QV q)) {k51 : Int32 × Int32 × Int32 → Mem → Option (Mem)} (hk51 : ∀ (a : Int32 × Int32 × Int32) (M : Mem), k51 a M = some q → Fr 200 21 3 m_X12_drifts 51 [(0, .ref 200), (2, .int a.1), (3, .int a.2.1), (4, .int a.2.2)] [] M (QV q)) {v2 : Int32} {v3 : Int32} {v4 : Int32} {v5 : Int32} {s0 : Int32} {M : Mem} (h : f_X12_drifts_b121 N k40 k51 v2 v3 v4 v5 s0 M = some q) : Fr 200 21 3 m_X12_drifts 121 [(0, .ref 200), (2, .int v2), (3, .int v3), (4, .int v4), (5, .int v5)] [.int s0] M (QV q) := by
  unfold f_X12_drifts_b121 at h
  refine Fr_istore (i := 6) (lv' := [(6, .int s0), (0, .ref 200), (2, .int v2), (3, .int v3), (4, .int v4), (5, .int v5)]) (by decide +kernel) (by decide) rfl ?_
  refine Fr_aload_n (q := 0) (i := 0) 1 (by decide +kernel) rfl rfl ?_
  refine gf_X12_35 rfl (by decide +kernel) ob_200 ?_
  refine Fr_iload_n (q := 2) (i := 2) 2 (by decide +kernel) rfl rfl ?_
  refine Fr_iload_n (q := 3) (i := 3) 3 (by decide +kernel) rfl rfl ?_
  refine Fr_iadd (by decide +kernel) ?_
  refine Fr_dup2 (by decide +kernel) rfl rfl ?_
  obtain ⟨hi_18, h⟩ := ck_elim h
  refine Fr_iald (by decide +kernel) ob_205 (vp_of ln_205 hi_18) ?_
  refine Fr_iload (i := 6) 0 (by decide +kernel) rfl ?_
  refine Fr_isub (by decide +kernel) ?_
  obtain ⟨hi_19, h⟩ := ck_elim h
  refine Fr_iast (by decide +kernel) ob_205 (vp_of ln_205 hi_19) ?_
  obtain ⟨M_20, eM_20, h⟩ := bM_elim h
  refine Fr_mem eM_20 ?_
  refine Fr_iload (i := 5) 5 (by decide +kernel) rfl ?_
  refine Fr_if_lt (off := 17) 155 (by decide +kernel) (by decide) (fun hc => ?_) (fun hc => ?_)
  · have h := iT hc h
    refine Fr_loc [1, 2, 3, 4] rfl ?_
    exact t_X12_drifts_b155 hk40 hk51 h
  · have h := iF hc h
    refine Fr_aload_n (q := 0) (i := 0) 1 (by decide +kernel) rfl rfl ?_
    refine gf_X12_35 rfl (by decide +kernel) ob_200 ?_
    refine Fr_iload_n (q := 2) (i := 2) 2 (by decide +kernel) rfl rfl ?_
    refine Fr_iload (i := 5) 5 (by decide +kernel) rfl ?_
    refine Fr_iadd (by decide +kernel) ?_
    refine Fr_dup2 (by decide +kernel) rfl rfl ?_
    obtain ⟨hi_21, h⟩ := ck_elim h
    refine Fr_iald (by decide +kernel) ob_205 (vp_of ln_205 hi_21) ?_
    refine Fr_iload (i := 6) 0 (by decide +kernel) rfl ?_
    refine Fr_iadd (by decide +kernel) ?_
    obtain ⟨hi_22, h⟩ := ck_elim h
    refine Fr_iast (by decide +kernel) ob_205 (vp_of ln_205 hi_22) ?_
    obtain ⟨M_23, eM_23, h⟩ := bM_elim h
    refine Fr_mem eM_23 ?_
    refine Fr_loc [1, 2, 3, 4] rfl ?_
    exact t_X12_drifts_b155 hk40 hk51 h
set_option maxRecDepth 20000 in
theorem t_X12_drifts_h51 {N : Nat} {q : Mem} {k40 : Int32 × Int32 → Mem → Option (Mem)} (hk40 : ∀ (a : Int32 × Int32) (M : Mem), k40 a M = some q → Fr 200 21 3 m_X12_drifts 40 [(0, .ref 200), (2, .int a.1), (3, .int a.2)] [] M (QV q)) {k51 : Int32 × Int32 × Int32 → Mem → Option (Mem)} (hk51 : ∀ (a : Int32 × Int32 × Int32) (M : Mem), k51 a M = some q → Fr 200 21 3 m_X12_drifts 51 [(0, .ref 200), (2, .int a.1), (3, .int a.2.1), (4, .int a.2.2)] [] M (QV q)) {v2 : Int32} {v3 : Int32} {v4 : Int32} {M : Mem} (h : f_X12_drifts_h51 N k40 k51 v2 v3 v4 M = some q) : Fr 200 21 3 m_X12_drifts 51 [(0, .ref 200), (2, .int v2), (3, .int v3), (4, .int v4)] [] M (QV q) := by
  unfold f_X12_drifts_h51 at h
  refine Fr_iload (i := 4) 3 (by decide +kernel) rfl ?_
  refine Fr_iconst (i := 4) (v := 4) (by decide +kernel) (by decide) ?_
  refine Fr_icmp_gt (off := 107) 161 (by decide +kernel) (by decide) (fun hc => ?_) (fun hc => ?_)
  · have h := iT hc h
    refine Fr_iinc (i := 3) (j := 1) (v := (v3 + 1)) (lv' := [(3, .int (v3 + 1)), (0, .ref 200), (2, .int v2), (4, .int v4)]) 2 (by decide +kernel) rfl rfl (by decide) rfl ?_
    refine Fr_goto (off := (-124)) 40 (by decide +kernel) (by decide) ?_
    refine Fr_loc [1, 2, 0] rfl ?_
    exact hk40 (v2, (v3 + 1)) M h
  · have h := iF hc h
    refine Fr_aload_n (q := 0) (i := 0) 0 (by decide +kernel) rfl rfl ?_
    refine Fr_iload_n (q := 3) (i := 3) 2 (by decide +kernel) rfl rfl ?_
    refine Fr_iload (i := 4) 3 (by decide +kernel) rfl ?_
    obtain ⟨r_15, M_13, hc_14, h⟩ := bi_elim h
    refine Fr_cVi (ν := m_X12_beside) (As := [.int v3, .int v4]) (st := []) (rc := 200) (ci := 12) (d' := 2) (by decide +kernel) ml_X12_411 cv_X12_beside rfl (by decide) rfl ob_200 rfl (by decide) (Nat.le_of_ble_eq_true rfl) (t_X12_beside hc_14) ?_
    refine Fr_istore (i := 5) (lv' := [(5, .int r_15), (0, .ref 200), (2, .int v2), (3, .int v3), (4, .int v4)]) (by decide +kernel) (by decide) rfl ?_
    refine Fr_aload_n (q := 0) (i := 0) 1 (by decide +kernel) rfl rfl ?_
    refine gf_X12_35 rfl (by decide +kernel) ob_200 ?_
    refine Fr_bipush (i := 6) (v := 6) (by decide +kernel) (by decide) ?_
    obtain ⟨hi_16, h⟩ := ck_elim h
    refine Fr_iald (by decide +kernel) ob_205 (vp_of ln_205 hi_16) ?_
    refine Fr_if_ne (off := 24) 97 (by decide +kernel) (by decide) (fun hc => ?_) (fun hc => ?_)
    · have h := iF hc h
      refine Fr_iload (i := 4) 4 (by decide +kernel) rfl ?_
      refine Fr_aload_n (q := 0) (i := 0) 1 (by decide +kernel) rfl rfl ?_
      refine gf_X12_35 rfl (by decide +kernel) ob_200 ?_
      refine Fr_bipush (i := 6) (v := 6) (by decide +kernel) (by decide) ?_
      obtain ⟨hi_17, h⟩ := ck_elim h
      refine Fr_iald (by decide +kernel) ob_205 (vp_of ln_205 hi_17) ?_
      refine Fr_icmp_ne (off := 14) 120 (by decide +kernel) (by decide) (fun hc => ?_) (fun hc => ?_)
      · have h := iF hc h
        refine Fr_iconst (i := 0) (v := 0) (by decide +kernel) (by decide) ?_
        refine Fr_loc [1, 2, 3, 4, 0] rfl ?_
        exact t_X12_drifts_b121 hk40 hk51 h
      · have h := iT hc h
        refine Fr_aload_n (q := 0) (i := 0) 1 (by decide +kernel) rfl rfl ?_
        refine gf_X12_47 rfl (by decide +kernel) ob_200 ?_
        refine Fr_iload_n (q := 3) (i := 3) 3 (by decide +kernel) rfl rfl ?_
        obtain ⟨hi_24, h⟩ := ck_elim h
        refine Fr_iald (by decide +kernel) ob_209 (vp_of ln_209 hi_24) ?_
        refine Fr_iconst (i := 4) (v := 4) (by decide +kernel) (by decide) ?_
        refine Fr_idiv (by decide +kernel) (by decide) ?_
        refine Fr_goto (off := 4) 121 (by decide +kernel) (by decide) ?_
        refine Fr_loc [1, 2, 3, 4, 0] rfl ?_
        exact t_X12_drifts_b121 hk40 hk51 h
    · have h := iT hc h
      refine Fr_iload (i := 5) 0 (by decide +kernel) rfl ?_
      refine Fr_if_ge (off := 7) 85 (by decide +kernel) (by decide) (fun hc => ?_) (fun hc => ?_)
      · have h := iT hc h
        refine Fr_aload_n (q := 0) (i := 0) 1 (by decide +kernel) rfl rfl ?_
        refine gf_X12_47 rfl (by decide +kernel) ob_200 ?_
        refine Fr_iload_n (q := 3) (i := 3) 3 (by decide +kernel) rfl rfl ?_
        obtain ⟨hi_25, h⟩ := ck_elim h
        refine Fr_iald (by decide +kernel) ob_209 (vp_of ln_209 hi_25) ?_
        refine Fr_bipush (i := 8) (v := 8) (by decide +kernel) (by decide) ?_
        refine Fr_idiv (by decide +kernel) (by decide) ?_
        refine Fr_goto (off := 27) 121 (by decide +kernel) (by decide) ?_
        refine Fr_loc [1, 2, 3, 4, 0] rfl ?_
        exact t_X12_drifts_b121 hk40 hk51 h
      · have h := iF hc h
        refine Fr_iconst (i := 0) (v := 0) (by decide +kernel) (by decide) ?_
        refine Fr_goto (off := 39) 121 (by decide +kernel) (by decide) ?_
        refine Fr_loc [1, 2, 3, 4, 0] rfl ?_
        exact t_X12_drifts_b121 hk40 hk51 h
set_option maxRecDepth 20000 in
theorem t_X12_drifts_h40 {N : Nat} {q : Mem} {k40 : Int32 × Int32 → Mem → Option (Mem)} (hk40 : ∀ (a : Int32 × Int32) (M : Mem), k40 a M = some q → Fr 200 21 3 m_X12_drifts 40 [(0, .ref 200), (2, .int a.1), (3, .int a.2)] [] M (QV q)) {v2 : Int32} {v3 : Int32} {M : Mem} (h : f_X12_drifts_h40 N k40 v2 v3 M = some q) : Fr 200 21 3 m_X12_drifts 40 [(0, .ref 200), (2, .int v2), (3, .int v3)] [] M (QV q) := by
  unfold f_X12_drifts_h40 at h
  refine Fr_iload_n (q := 3) (i := 3) 2 (by decide +kernel) rfl rfl ?_
  refine Fr_aload_n (q := 0) (i := 0) 0 (by decide +kernel) rfl rfl ?_
  obtain ⟨r_6, M_4, hc_5, h⟩ := bi_elim h
  refine Fr_cVi (ν := m_X12_boards) (As := []) (st := [.int v3]) (rc := 200) (ci := 12) (d' := 0) (by decide +kernel) ml_X12_363 cv_X12_boards rfl (by decide) rfl ob_200 rfl (by decide) (Nat.le_of_ble_eq_true rfl) (t_X12_boards hc_5) ?_
  refine Fr_icmp_ge (off := 122) 167 (by decide +kernel) (by decide) (fun hc => ?_) (fun hc => ?_)
  · have h := iT hc h
    refine Fr_iconst (i := 0) (v := 0) (by decide +kernel) (by decide) ?_
    refine Fr_istore_n (q := 3) (i := 3) (lv' := [(3, .int 0), (0, .ref 200), (2, .int v2)]) (by decide +kernel) rfl (by decide) rfl ?_
    refine Fr_loc [1, 2, 0] rfl ?_
    exact lp_sound (body := fun k a m => f_X12_drifts_h169 N k a.1 a.2 m) (P := fun a M => Fr 200 21 3 m_X12_drifts 169 [(0, .ref 200), (2, .int a.1), (3, .int a.2)] [] M (QV q)) (fun k hk a m h => t_X12_drifts_h169 hk h) N (v2, 0) M_4 h
  · have h := iF hc h
    refine Fr_iconst (i := 1) (v := 1) (by decide +kernel) (by decide) ?_
    refine Fr_istore (i := 4) (lv' := [(4, .int 1), (0, .ref 200), (2, .int v2), (3, .int v3)]) (by decide +kernel) (by decide) rfl ?_
    refine Fr_loc [1, 2, 3, 0] rfl ?_
    exact lp_sound (body := fun k a m => f_X12_drifts_h51 N k40 k a.1 a.2.1 a.2.2 m) (P := fun a M => Fr 200 21 3 m_X12_drifts 51 [(0, .ref 200), (2, .int a.1), (3, .int a.2.1), (4, .int a.2.2)] [] M (QV q)) (fun k hk a m h => t_X12_drifts_h51 hk40 hk h) N (v2, v3, 1) M_4 h
set_option maxRecDepth 20000 in
theorem t_X12_drifts_h10 {N : Nat} {q : Mem} {k10 : Int32 × Int32 → Mem → Option (Mem)} (hk10 : ∀ (a : Int32 × Int32) (M : Mem), k10 a M = some q → Fr 200 21 3 m_X12_drifts 10 [(0, .ref 200), (2, .int a.1), (3, .int a.2)] [] M (QV q)) {v2 : Int32} {v3 : Int32} {M : Mem} (h : f_X12_drifts_h10 N k10 v2 v3 M = some q) : Fr 200 21 3 m_X12_drifts 10 [(0, .ref 200), (2, .int v2), (3, .int v3)] [] M (QV q) := by
  unfold f_X12_drifts_h10 at h
  refine Fr_iload_n (q := 3) (i := 3) 2 (by decide +kernel) rfl rfl ?_
  refine Fr_aload_n (q := 0) (i := 0) 0 (by decide +kernel) rfl rfl ?_
  obtain ⟨r_3, M_1, hc_2, h⟩ := bi_elim h
  refine Fr_cVi (ν := m_X12_boards) (As := []) (st := [.int v3]) (rc := 200) (ci := 12) (d' := 0) (by decide +kernel) ml_X12_363 cv_X12_boards rfl (by decide) rfl ob_200 rfl (by decide) (Nat.le_of_ble_eq_true rfl) (t_X12_boards hc_2) ?_
  refine Fr_icmp_ge (off := 23) 38 (by decide +kernel) (by decide) (fun hc => ?_) (fun hc => ?_)
  · have h := iT hc h
    refine Fr_iconst (i := 0) (v := 0) (by decide +kernel) (by decide) ?_
    refine Fr_istore_n (q := 3) (i := 3) (lv' := [(3, .int 0), (0, .ref 200), (2, .int v2)]) (by decide +kernel) rfl (by decide) rfl ?_
    refine Fr_loc [1, 2, 0] rfl ?_
    exact lp_sound (body := fun k a m => f_X12_drifts_h40 N k a.1 a.2 m) (P := fun a M => Fr 200 21 3 m_X12_drifts 40 [(0, .ref 200), (2, .int a.1), (3, .int a.2)] [] M (QV q)) (fun k hk a m h => t_X12_drifts_h40 hk h) N (v2, 0) M_1 h
  · have h := iF hc h
    refine Fr_aload_n (q := 0) (i := 0) 0 (by decide +kernel) rfl rfl ?_
    refine gf_X12_47 rfl (by decide +kernel) ob_200 ?_
    refine Fr_iload_n (q := 3) (i := 3) 2 (by decide +kernel) rfl rfl ?_
    refine Fr_aload_n (q := 0) (i := 0) 0 (by decide +kernel) rfl rfl ?_
    refine gf_X12_35 rfl (by decide +kernel) ob_200 ?_
    refine Fr_iload_n (q := 2) (i := 2) 1 (by decide +kernel) rfl rfl ?_
    refine Fr_iload_n (q := 3) (i := 3) 2 (by decide +kernel) rfl rfl ?_
    refine Fr_iadd (by decide +kernel) ?_
    obtain ⟨hi_26, h⟩ := ck_elim h
    refine Fr_iald (by decide +kernel) ob_205 (vp_of ln_205 hi_26) ?_
    obtain ⟨hi_27, h⟩ := ck_elim h
    refine Fr_iast (by decide +kernel) ob_209 (vp_of ln_209 hi_27) ?_
    obtain ⟨M_28, eM_28, h⟩ := bM_elim h
    refine Fr_mem eM_28 ?_
    refine Fr_iinc (i := 3) (j := 1) (v := (v3 + 1)) (lv' := [(3, .int (v3 + 1)), (0, .ref 200), (2, .int v2)]) 2 (by decide +kernel) rfl rfl (by decide) rfl ?_
    refine Fr_goto (off := (-25)) 10 (by decide +kernel) (by decide) ?_
    refine Fr_loc [1, 2, 0] rfl ?_
    exact hk10 (v2, (v3 + 1)) M_28 h
set_option maxRecDepth 20000 in
theorem t_X12_drifts {N : Nat} {x1 : Int32} {M : Mem} {q : Mem} (h : f_X12_drifts N x1 M = some q) : Ev 200 21 3 m_X12_drifts [.ref 200, .int x1] M (QV q) := by
  refine Ev_of_Fr (by decide +kernel) (Nat.le_of_ble_eq_true rfl) ?_
  show Fr 200 21 3 m_X12_drifts 0 [(0, .ref 200), (1, .int x1)] [] M (QV q)
  unfold f_X12_drifts at h
  refine Fr_bipush (i := 103) (v := 103) (by decide +kernel) (by decide) ?_
  refine Fr_bipush (i := 30) (v := 30) (by decide +kernel) (by decide) ?_
  refine Fr_iload_n (q := 1) (i := 1) 1 (by decide +kernel) rfl rfl ?_
  refine Fr_imul (by decide +kernel) ?_
  refine Fr_iadd (by decide +kernel) ?_
  refine Fr_istore_n (q := 2) (i := 2) (lv' := [(2, .int (103 + (30 * x1))), (0, .ref 200), (1, .int x1)]) (by decide +kernel) rfl (by decide) rfl ?_
  refine Fr_iconst (i := 0) (v := 0) (by decide +kernel) (by decide) ?_
  refine Fr_istore_n (q := 3) (i := 3) (lv' := [(3, .int 0), (2, .int (103 + (30 * x1))), (0, .ref 200), (1, .int x1)]) (by decide +kernel) rfl (by decide) rfl ?_
  refine Fr_loc [2, 1, 0] rfl ?_
  exact lp_sound (body := fun k a m => f_X12_drifts_h10 N k a.1 a.2 m) (P := fun a M => Fr 200 21 3 m_X12_drifts 10 [(0, .ref 200), (2, .int a.1), (3, .int a.2)] [] M (QV q)) (fun k hk a m h => t_X12_drifts_h10 hk h) N ((103 + (30 * x1)), 0) M h
set_option maxRecDepth 20000 in
theorem t_X12_goesHour_h16 {N : Nat} {q : Mem} {k16 : Int32 → Mem → Option (Mem)} (hk16 : ∀ (a : Int32) (M : Mem), k16 a M = some q → Fr 200 21 4 m_X12_goesHour 16 [(0, .ref 200), (1, .int a)] [] M (QV q)) {v1 : Int32} {M : Mem} (h : f_X12_goesHour_h16 N k16 v1 M = some q) : Fr 200 21 4 m_X12_goesHour 16 [(0, .ref 200), (1, .int v1)] [] M (QV q) := by
  unfold f_X12_goesHour_h16 at h
  refine Fr_iload_n (q := 1) (i := 1) 1 (by decide +kernel) rfl rfl ?_
  refine Fr_aload_n (q := 0) (i := 0) 0 (by decide +kernel) rfl rfl ?_
  obtain ⟨r_9, M_7, hc_8, h⟩ := bi_elim h
  refine Fr_cVi (ν := m_X12_boards) (As := []) (st := [.int v1]) (rc := 200) (ci := 12) (d' := 0) (by decide +kernel) ml_X12_363 cv_X12_boards rfl (by decide) rfl ob_200 rfl (by decide) (Nat.le_of_ble_eq_true rfl) (t_X12_boards hc_8) ?_
  refine Fr_icmp_ge (off := 90) 111 (by decide +kernel) (by decide) (fun hc => ?_) (fun hc => ?_)
  · have h := iT hc h
    refine Fr_aload_n (q := 0) (i := 0) 0 (by decide +kernel) rfl rfl ?_
    refine gf_X12_35 rfl (by decide +kernel) ob_200 ?_
    refine Fr_bipush (i := 9) (v := 9) (by decide +kernel) (by decide) ?_
    refine Fr_dup2 (by decide +kernel) rfl rfl ?_
    obtain ⟨hi_10, h⟩ := ck_elim h
    refine Fr_iald (by decide +kernel) ob_205 (vp_of ln_205 hi_10) ?_
    refine Fr_iconst (i := 1) (v := 1) (by decide +kernel) (by decide) ?_
    refine Fr_iadd (by decide +kernel) ?_
    obtain ⟨hi_11, h⟩ := ck_elim h
    refine Fr_iast (by decide +kernel) ob_205 (vp_of ln_205 hi_11) ?_
    obtain ⟨M_12, eM_12, h⟩ := bM_elim h
    refine Fr_mem eM_12 ?_
    obtain rfl := Option.some.inj h
    exact Fr_vret (by decide +kernel) rfl ⟨rfl, rfl⟩
  · have h := iF hc h
    refine Fr_aload_n (q := 0) (i := 0) 0 (by decide +kernel) rfl rfl ?_
    refine gf_X12_35 rfl (by decide +kernel) ob_200 ?_
    refine Fr_bipush (i := 103) (v := 103) (by decide +kernel) (by decide) ?_
    refine Fr_iload_n (q := 1) (i := 1) 1 (by decide +kernel) rfl rfl ?_
    refine Fr_iadd (by decide +kernel) ?_
    obtain ⟨hi_13, h⟩ := ck_elim h
    refine Fr_iald (by decide +kernel) ob_205 (vp_of ln_205 hi_13) ?_
    refine Fr_aload_n (q := 0) (i := 0) 0 (by decide +kernel) rfl rfl ?_
    refine gf_X12_35 rfl (by decide +kernel) ob_200 ?_
    refine Fr_sipush (i := 133) (v := 133) (by decide +kernel) (by decide) ?_
    refine Fr_iload_n (q := 1) (i := 1) 1 (by decide +kernel) rfl rfl ?_
    refine Fr_iadd (by decide +kernel) ?_
    obtain ⟨hi_14, h⟩ := ck_elim h
    refine Fr_iald (by decide +kernel) ob_205 (vp_of ln_205 hi_14) ?_
    refine Fr_min (by decide +kernel) ml_X12_408 (by decide) (Nat.le_of_ble_eq_true rfl) ?_
    refine Fr_aload_n (q := 0) (i := 0) 0 (by decide +kernel) rfl rfl ?_
    refine gf_X12_35 rfl (by decide +kernel) ob_200 ?_
    refine Fr_bipush (i := 7) (v := 7) (by decide +kernel) (by decide) ?_
    obtain ⟨hi_15, h⟩ := ck_elim h
    refine Fr_iald (by decide +kernel) ob_205 (vp_of ln_205 hi_15) ?_
    refine Fr_iadd (by decide +kernel) ?_
    obtain ⟨y_16, ey_16, h⟩ := bI_elim h
    refine Fr_topI ey_16 ?_
    refine Fr_istore_n (q := 2) (i := 2) (lv' := [(2, .int y_16), (0, .ref 200), (1, .int v1)]) (by decide +kernel) rfl (by decide) rfl ?_
    refine Fr_aload_n (q := 0) (i := 0) 1 (by decide +kernel) rfl rfl ?_
    refine gf_X12_35 rfl (by decide +kernel) ob_200 ?_
    refine Fr_bipush (i := 103) (v := 103) (by decide +kernel) (by decide) ?_
    refine Fr_iload_n (q := 1) (i := 1) 2 (by decide +kernel) rfl rfl ?_
    refine Fr_iadd (by decide +kernel) ?_
    refine Fr_iconst (i := 0) (v := 0) (by decide +kernel) (by decide) ?_
    refine Fr_aload_n (q := 0) (i := 0) 1 (by decide +kernel) rfl rfl ?_
    refine gf_X12_35 rfl (by decide +kernel) ob_200 ?_
    refine Fr_bipush (i := 103) (v := 103) (by decide +kernel) (by decide) ?_
    refine Fr_iload_n (q := 1) (i := 1) 2 (by decide +kernel) rfl rfl ?_
    refine Fr_iadd (by decide +kernel) ?_
    obtain ⟨hi_17, h⟩ := ck_elim h
    refine Fr_iald (by decide +kernel) ob_205 (vp_of ln_205 hi_17) ?_
    refine Fr_iload_n (q := 2) (i := 2) 0 (by decide +kernel) rfl rfl ?_
    refine Fr_isub (by decide +kernel) ?_
    refine Fr_max (by decide +kernel) ml_X12_342 (by decide) (Nat.le_of_ble_eq_true rfl) ?_
    obtain ⟨hi_18, h⟩ := ck_elim h
    refine Fr_iast (by decide +kernel) ob_205 (vp_of ln_205 hi_18) ?_
    obtain ⟨M_19, eM_19, h⟩ := bM_elim h
    refine Fr_mem eM_19 ?_
    refine Fr_aload_n (q := 0) (i := 0) 1 (by decide +kernel) rfl rfl ?_
    refine gf_X12_35 rfl (by decide +kernel) ob_200 ?_
    refine Fr_sipush (i := 133) (v := 133) (by decide +kernel) (by decide) ?_
    refine Fr_iload_n (q := 1) (i := 1) 2 (by decide +kernel) rfl rfl ?_
    refine Fr_iadd (by decide +kernel) ?_
    refine Fr_iconst (i := 0) (v := 0) (by decide +kernel) (by decide) ?_
    refine Fr_aload_n (q := 0) (i := 0) 1 (by decide +kernel) rfl rfl ?_
    refine gf_X12_35 rfl (by decide +kernel) ob_200 ?_
    refine Fr_sipush (i := 133) (v := 133) (by decide +kernel) (by decide) ?_
    refine Fr_iload_n (q := 1) (i := 1) 2 (by decide +kernel) rfl rfl ?_
    refine Fr_iadd (by decide +kernel) ?_
    obtain ⟨hi_20, h⟩ := ck_elim h
    refine Fr_iald (by decide +kernel) ob_205 (vp_of ln_205 hi_20) ?_
    refine Fr_iload_n (q := 2) (i := 2) 0 (by decide +kernel) rfl rfl ?_
    refine Fr_isub (by decide +kernel) ?_
    refine Fr_max (by decide +kernel) ml_X12_342 (by decide) (Nat.le_of_ble_eq_true rfl) ?_
    obtain ⟨hi_21, h⟩ := ck_elim h
    refine Fr_iast (by decide +kernel) ob_205 (vp_of ln_205 hi_21) ?_
    obtain ⟨M_22, eM_22, h⟩ := bM_elim h
    refine Fr_mem eM_22 ?_
    refine Fr_iinc (i := 1) (j := 1) (v := (v1 + 1)) (lv' := [(1, .int (v1 + 1)), (2, .int y_16), (0, .ref 200)]) 2 (by decide +kernel) rfl rfl (by decide) rfl ?_
    refine Fr_goto (off := (-92)) 16 (by decide +kernel) (by decide) ?_
    refine Fr_loc [2, 0] rfl ?_
    exact hk16 (v1 + 1) M_22 h
set_option maxRecDepth 20000 in
theorem t_X12_goesHour {N : Nat} {M : Mem} {q : Mem} (h : f_X12_goesHour N M = some q) : Ev 200 21 4 m_X12_goesHour [.ref 200] M (QV q) := by
  refine Ev_of_Fr (by decide +kernel) (Nat.le_of_ble_eq_true rfl) ?_
  show Fr 200 21 4 m_X12_goesHour 0 [(0, .ref 200)] [] M (QV q)
  unfold f_X12_goesHour at h
  refine Fr_aload_n (q := 0) (i := 0) 0 (by decide +kernel) rfl rfl ?_
  obtain ⟨M_1, hc_2, h⟩ := bv_elim h
  refine Fr_cVv (ν := m_X12_lets) (As := []) (st := []) (rc := 200) (ci := 12) (d' := 1) (by decide +kernel) ml_X12_414 cv_X12_lets rfl (by decide) rfl ob_200 rfl (by decide) (Nat.le_of_ble_eq_true rfl) (t_X12_lets hc_2) ?_
  refine Fr_aload_n (q := 0) (i := 0) 0 (by decide +kernel) rfl rfl ?_
  refine Fr_iconst (i := 0) (v := 0) (by decide +kernel) (by decide) ?_
  obtain ⟨M_3, hc_4, h⟩ := bv_elim h
  refine Fr_cVv (ν := m_X12_drifts) (As := [.int 0]) (st := []) (rc := 200) (ci := 12) (d' := 3) (by decide +kernel) ml_X12_417 cv_X12_drifts rfl (by decide) rfl ob_200 rfl (by decide) (Nat.le_of_ble_eq_true rfl) (t_X12_drifts hc_4) ?_
  refine Fr_aload_n (q := 0) (i := 0) 0 (by decide +kernel) rfl rfl ?_
  refine Fr_iconst (i := 1) (v := 1) (by decide +kernel) (by decide) ?_
  obtain ⟨M_5, hc_6, h⟩ := bv_elim h
  refine Fr_cVv (ν := m_X12_drifts) (As := [.int 1]) (st := []) (rc := 200) (ci := 12) (d' := 3) (by decide +kernel) ml_X12_417 cv_X12_drifts rfl (by decide) rfl ob_200 rfl (by decide) (Nat.le_of_ble_eq_true rfl) (t_X12_drifts hc_6) ?_
  refine Fr_iconst (i := 0) (v := 0) (by decide +kernel) (by decide) ?_
  refine Fr_istore_n (q := 1) (i := 1) (lv' := [(1, .int 0), (0, .ref 200)]) (by decide +kernel) rfl (by decide) rfl ?_
  refine Fr_loc [1, 0] rfl ?_
  exact lp_sound (body := fun k a m => f_X12_goesHour_h16 N k a m) (P := fun a M => Fr 200 21 4 m_X12_goesHour 16 [(0, .ref 200), (1, .int a)] [] M (QV q)) (fun k hk a m h => t_X12_goesHour_h16 hk h) N 0 M_5 h
set_option maxRecDepth 20000 in
theorem t_X12_hour_h52 {N : Nat} {q : Int32 × Mem} {k52 : Int32 × Int32 → Mem → Option (Int32 × Mem)} (hk52 : ∀ (a : Int32 × Int32) (M : Mem), k52 a M = some q → Fr 200 21 5 m_X12_hour 52 [(0, .ref 200), (1, .int a.1), (2, .int a.2)] [] M (QI q)) {v1 : Int32} {v2 : Int32} {M : Mem} (h : f_X12_hour_h52 N k52 v1 v2 M = some q) : Fr 200 21 5 m_X12_hour 52 [(0, .ref 200), (1, .int v1), (2, .int v2)] [] M (QI q) := by
  unfold f_X12_hour_h52 at h
  refine Fr_iload_n (q := 2) (i := 2) 2 (by decide +kernel) rfl rfl ?_
  refine Fr_iload_n (q := 1) (i := 1) 1 (by decide +kernel) rfl rfl ?_
  refine Fr_icmp_ge (off := 13) 67 (by decide +kernel) (by decide) (fun hc => ?_) (fun hc => ?_)
  · have h := iT hc h
    refine Fr_aload_n (q := 0) (i := 0) 0 (by decide +kernel) rfl rfl ?_
    refine gf_X12_35 rfl (by decide +kernel) ob_200 ?_
    refine Fr_bipush (i := 9) (v := 9) (by decide +kernel) (by decide) ?_
    obtain ⟨hi_7, h⟩ := ck_elim h
    refine Fr_iald (by decide +kernel) ob_205 (vp_of ln_205 hi_7) ?_
    obtain rfl := Option.some.inj h
    exact Fr_iret (by decide +kernel) rfl ⟨rfl, rfl⟩
  · have h := iF hc h
    refine Fr_aload_n (q := 0) (i := 0) 0 (by decide +kernel) rfl rfl ?_
    obtain ⟨M_8, hc_9, h⟩ := bv_elim h
    refine Fr_cVv (ν := m_X12_goesHour) (As := []) (st := []) (rc := 200) (ci := 12) (d' := 4) (by decide +kernel) ml_X12_422 cv_X12_goesHour rfl (by decide) rfl ob_200 rfl (by decide) (Nat.le_of_ble_eq_true rfl) (t_X12_goesHour hc_9) ?_
    refine Fr_iinc (i := 2) (j := 1) (v := (v2 + 1)) (lv' := [(2, .int (v2 + 1)), (0, .ref 200), (1, .int v1)]) 2 (by decide +kernel) rfl rfl (by decide) rfl ?_
    refine Fr_goto (off := (-12)) 52 (by decide +kernel) (by decide) ?_
    refine Fr_loc [1, 2, 0] rfl ?_
    exact hk52 (v1, (v2 + 1)) M_8 h
set_option maxRecDepth 20000 in
theorem t_X12_hour {N : Nat} {x1 : Int32} {M : Mem} {q : Int32 × Mem} (h : f_X12_hour N x1 M = some q) : Ev 200 21 5 m_X12_hour [.ref 200, .int x1] M (QI q) := by
  refine Ev_of_Fr (by decide +kernel) (Nat.le_of_ble_eq_true rfl) ?_
  show Fr 200 21 5 m_X12_hour 0 [(0, .ref 200), (1, .int x1)] [] M (QI q)
  unfold f_X12_hour at h
  refine Fr_aload_n (q := 0) (i := 0) 0 (by decide +kernel) rfl rfl ?_
  refine Fr_iconst (i := 0) (v := 0) (by decide +kernel) (by decide) ?_
  refine pf_X12_84 rfl (by decide +kernel) ob_200 ?_
  obtain ⟨M_1, eM_1, h⟩ := bM_elim h
  refine Fr_mem eM_1 ?_
  refine Fr_aload_n (q := 0) (i := 0) 0 (by decide +kernel) rfl rfl ?_
  refine Fr_iconst (i := 0) (v := 0) (by decide +kernel) (by decide) ?_
  refine pf_X12_87 rfl (by decide +kernel) ob_200 ?_
  obtain ⟨M_2, eM_2, h⟩ := bM_elim h
  refine Fr_mem eM_2 ?_
  refine Fr_iload_n (q := 1) (i := 1) 1 (by decide +kernel) rfl rfl ?_
  refine Fr_i2l (by decide +kernel) ?_
  refine Fr_lconst (i := 1) (v := 1) (by decide +kernel) (by decide) ?_
  refine Fr_ldc2 (idx := 420) (v := 48) (by decide +kernel) ll_X12_420 ?_
  obtain ⟨r_5, M_3, hc_4, h⟩ := bi_elim h
  refine Fr_cSb (ν := m_X12_isIn) (As := [.long (Int32.toInt64 x1), .long 1, .long 48]) (st := []) (d' := 0) (by decide +kernel) ml_X12_119 cs_X12_isIn rfl (by decide) (Nat.le_of_ble_eq_true rfl) (t_X12_isIn hc_4) ?_
  refine Fr_if_ne (off := 9) 28 (by decide +kernel) (by decide) (fun hc => ?_) (fun hc => ?_)
  · have h := iF hc h
    refine Fr_aload_n (q := 0) (i := 0) 0 (by decide +kernel) rfl rfl ?_
    refine gf_X12_35 rfl (by decide +kernel) ob_200 ?_
    refine Fr_bipush (i := 9) (v := 9) (by decide +kernel) (by decide) ?_
    obtain ⟨hi_6, h⟩ := ck_elim h
    refine Fr_iald (by decide +kernel) ob_205 (vp_of ln_205 hi_6) ?_
    refine Fr_iload_n (q := 1) (i := 1) 1 (by decide +kernel) rfl rfl ?_
    refine Fr_iadd (by decide +kernel) ?_
    refine Fr_sipush (i := 9999) (v := 9999) (by decide +kernel) (by decide) ?_
    refine Fr_icmp_le (off := 10) 50 (by decide +kernel) (by decide) (fun hc => ?_) (fun hc => ?_)
    · have h := iT hc h
      refine Fr_iconst (i := 0) (v := 0) (by decide +kernel) (by decide) ?_
      refine Fr_istore_n (q := 2) (i := 2) (lv' := [(2, .int 0), (0, .ref 200), (1, .int x1)]) (by decide +kernel) rfl (by decide) rfl ?_
      refine Fr_loc [1, 2, 0] rfl ?_
      exact lp_sound (body := fun k a m => f_X12_hour_h52 N k a.1 a.2 m) (P := fun a M => Fr 200 21 5 m_X12_hour 52 [(0, .ref 200), (1, .int a.1), (2, .int a.2)] [] M (QI q)) (fun k hk a m h => t_X12_hour_h52 hk h) N (x1, 0) M_3 h
    · have h := iF hc h
      refine Fr_aload_n (q := 0) (i := 0) 0 (by decide +kernel) rfl rfl ?_
      refine Fr_bipush (i := 7) (v := 7) (by decide +kernel) (by decide) ?_
      obtain ⟨r_12, M_10, hc_11, h⟩ := bi_elim h
      refine Fr_cVi (ν := m_X12_refuse) (As := [.int 7]) (st := []) (rc := 200) (ci := 12) (d' := 0) (by decide +kernel) ml_X12_371 cv_X12_refuse rfl (by decide) rfl ob_200 rfl (by decide) (Nat.le_of_ble_eq_true rfl) (t_X12_refuse hc_11) ?_
      obtain rfl := Option.some.inj h
      exact Fr_iret (by decide +kernel) rfl ⟨rfl, rfl⟩
  · have h := iT hc h
    refine Fr_aload_n (q := 0) (i := 0) 0 (by decide +kernel) rfl rfl ?_
    refine Fr_iconst (i := 5) (v := 5) (by decide +kernel) (by decide) ?_
    obtain ⟨r_15, M_13, hc_14, h⟩ := bi_elim h
    refine Fr_cVi (ν := m_X12_refuse) (As := [.int 5]) (st := []) (rc := 200) (ci := 12) (d' := 0) (by decide +kernel) ml_X12_371 cv_X12_refuse rfl (by decide) rfl ob_200 rfl (by decide) (Nat.le_of_ble_eq_true rfl) (t_X12_refuse hc_14) ?_
    obtain rfl := Option.some.inj h
    exact Fr_iret (by decide +kernel) rfl ⟨rfl, rfl⟩
set_option maxRecDepth 20000 in
theorem t_X12_open {x1 : Int32} {x2 : Int32} {M : Mem} {q : Bool × Mem} (h : f_X12_open x1 x2 M = some q) : Ev 200 21 2 m_X12_open [.ref 200, .int x1, .int x2] M (QB q) := by
  refine Ev_of_Fr (by decide +kernel) (Nat.le_of_ble_eq_true rfl) ?_
  show Fr 200 21 2 m_X12_open 0 [(0, .ref 200), (1, .int x1), (2, .int x2)] [] M (QB q)
  unfold f_X12_open at h
  refine Fr_aload_n (q := 0) (i := 0) 0 (by decide +kernel) rfl rfl ?_
  refine Fr_iconst (i := 0) (v := 0) (by decide +kernel) (by decide) ?_
  refine pf_X12_84 rfl (by decide +kernel) ob_200 ?_
  obtain ⟨M_1, eM_1, h⟩ := bM_elim h
  refine Fr_mem eM_1 ?_
  refine Fr_aload_n (q := 0) (i := 0) 0 (by decide +kernel) rfl rfl ?_
  refine Fr_iconst (i := 0) (v := 0) (by decide +kernel) (by decide) ?_
  refine pf_X12_87 rfl (by decide +kernel) ob_200 ?_
  obtain ⟨M_2, eM_2, h⟩ := bM_elim h
  refine Fr_mem eM_2 ?_
  refine Fr_aload_n (q := 0) (i := 0) 0 (by decide +kernel) rfl rfl ?_
  refine Fr_iload_n (q := 1) (i := 1) 1 (by decide +kernel) rfl rfl ?_
  obtain ⟨r_5, M_3, hc_4, h⟩ := bi_elim h
  refine Fr_cVb (ν := m_X12_isGateAt) (As := [.int x1]) (st := []) (rc := 200) (ci := 12) (d' := 1) (by decide +kernel) ml_X12_380 cv_X12_isGateAt rfl (by decide) rfl ob_200 rfl (by decide) (Nat.le_of_ble_eq_true rfl) (t_X12_isGateAt hc_4) ?_
  refine Fr_if_ne (off := 9) 24 (by decide +kernel) (by decide) (fun hc => ?_) (fun hc => ?_)
  · have h := iF hc h
    refine Fr_aload_n (q := 0) (i := 0) 0 (by decide +kernel) rfl rfl ?_
    refine gf_X12_35 rfl (by decide +kernel) ob_200 ?_
    refine Fr_bipush (i := 10) (v := 10) (by decide +kernel) (by decide) ?_
    obtain ⟨hi_6, h⟩ := ck_elim h
    refine Fr_iald (by decide +kernel) ob_205 (vp_of ln_205 hi_6) ?_
    refine Fr_iload_n (q := 1) (i := 1) 1 (by decide +kernel) rfl rfl ?_
    obtain ⟨r_9, M_7, hc_8, h⟩ := bi_elim h
    refine Fr_cSb (ν := m_X12_has) (As := [.int (M_3.1 205 (tn 10)), .int x1]) (st := []) (d' := 0) (by decide +kernel) ml_X12_123 cs_X12_has rfl (by decide) (Nat.le_of_ble_eq_true rfl) (t_X12_has hc_8) ?_
    refine Fr_iload_n (q := 2) (i := 2) 2 (by decide +kernel) rfl rfl ?_
    refine Fr_icmp_ne (off := 10) 46 (by decide +kernel) (by decide) (fun hc => ?_) (fun hc => ?_)
    · have h := iF hc h
      refine Fr_aload_n (q := 0) (i := 0) 0 (by decide +kernel) rfl rfl ?_
      refine gf_X12_35 rfl (by decide +kernel) ob_200 ?_
      refine Fr_bipush (i := 10) (v := 10) (by decide +kernel) (by decide) ?_
      refine Fr_dup2 (by decide +kernel) rfl rfl ?_
      obtain ⟨hi_10, h⟩ := ck_elim h
      refine Fr_iald (by decide +kernel) ob_205 (vp_of ln_205 hi_10) ?_
      refine Fr_iconst (i := 1) (v := 1) (by decide +kernel) (by decide) ?_
      refine Fr_iload_n (q := 1) (i := 1) 1 (by decide +kernel) rfl rfl ?_
      refine Fr_ishl (by decide +kernel) ?_
      refine Fr_ixor (by decide +kernel) ?_
      obtain ⟨hi_11, h⟩ := ck_elim h
      refine Fr_iast (by decide +kernel) ob_205 (vp_of ln_205 hi_11) ?_
      obtain ⟨M_12, eM_12, h⟩ := bM_elim h
      refine Fr_mem eM_12 ?_
      refine Fr_iconst (i := 1) (v := 1) (by decide +kernel) (by decide) ?_
      obtain rfl := Option.some.inj h
      exact Fr_zret (by decide +kernel) rfl (by decide) ⟨rfl, rfl⟩
    · have h := iT hc h
      refine Fr_aload_n (q := 0) (i := 0) 0 (by decide +kernel) rfl rfl ?_
      refine Fr_bipush (i := 9) (v := 9) (by decide +kernel) (by decide) ?_
      obtain ⟨r_15, M_13, hc_14, h⟩ := bi_elim h
      refine Fr_cVb (ν := m_X12_no) (As := [.int 9]) (st := []) (rc := 200) (ci := 12) (d' := 0) (by decide +kernel) ml_X12_99 cv_X12_no rfl (by decide) rfl ob_200 rfl (by decide) (Nat.le_of_ble_eq_true rfl) (t_X12_no hc_14) ?_
      obtain rfl := Option.some.inj h
      exact Fr_zret (by decide +kernel) rfl (nz_b r_15) ⟨rfl, rfl⟩
  · have h := iT hc h
    refine Fr_aload_n (q := 0) (i := 0) 0 (by decide +kernel) rfl rfl ?_
    refine Fr_iconst (i := 2) (v := 2) (by decide +kernel) (by decide) ?_
    obtain ⟨r_18, M_16, hc_17, h⟩ := bi_elim h
    refine Fr_cVb (ν := m_X12_no) (As := [.int 2]) (st := []) (rc := 200) (ci := 12) (d' := 0) (by decide +kernel) ml_X12_99 cv_X12_no rfl (by decide) rfl ob_200 rfl (by decide) (Nat.le_of_ble_eq_true rfl) (t_X12_no hc_17) ?_
    obtain rfl := Option.some.inj h
    exact Fr_zret (by decide +kernel) rfl (nz_b r_18) ⟨rfl, rfl⟩
set_option maxRecDepth 20000 in
theorem t_X12_votesOf_b36 {N : Nat} {q : Int32 × Mem} {k4 : Int32 × Int32 × Int32 → Mem → Option (Int32 × Mem)} (hk4 : ∀ (a : Int32 × Int32 × Int32) (M : Mem), k4 a M = some q → Fr 200 21 1 m_X12_votesOf 4 [(0, .ref 200), (1, .int a.1), (2, .int a.2.1), (3, .int a.2.2)] [] M (QI q)) {v1 : Int32} {v3 : Int32} {s0 : Int32} {s1 : Int32} {M : Mem} (h : f_X12_votesOf_b36 N k4 v1 v3 s0 s1 M = some q) : Fr 200 21 1 m_X12_votesOf 36 [(0, .ref 200), (1, .int v1), (3, .int v3)] [.int s0, .int s1] M (QI q) := by
  unfold f_X12_votesOf_b36 at h
  refine Fr_iadd (by decide +kernel) ?_
  refine Fr_istore_n (q := 2) (i := 2) (lv' := [(2, .int (s1 + s0)), (0, .ref 200), (1, .int v1), (3, .int v3)]) (by decide +kernel) rfl (by decide) rfl ?_
  refine Fr_iinc (i := 3) (j := 1) (v := (v3 + 1)) (lv' := [(3, .int (v3 + 1)), (2, .int (s1 + s0)), (0, .ref 200), (1, .int v1)]) 3 (by decide +kernel) rfl rfl (by decide) rfl ?_
  refine Fr_goto (off := (-37)) 4 (by decide +kernel) (by decide) ?_
  refine Fr_loc [2, 3, 1, 0] rfl ?_
  exact hk4 (v1, (s1 + s0), (v3 + 1)) M h
set_option maxRecDepth 20000 in
theorem t_X12_votesOf_h4 {N : Nat} {q : Int32 × Mem} {k4 : Int32 × Int32 × Int32 → Mem → Option (Int32 × Mem)} (hk4 : ∀ (a : Int32 × Int32 × Int32) (M : Mem), k4 a M = some q → Fr 200 21 1 m_X12_votesOf 4 [(0, .ref 200), (1, .int a.1), (2, .int a.2.1), (3, .int a.2.2)] [] M (QI q)) {v1 : Int32} {v2 : Int32} {v3 : Int32} {M : Mem} (h : f_X12_votesOf_h4 N k4 v1 v2 v3 M = some q) : Fr 200 21 1 m_X12_votesOf 4 [(0, .ref 200), (1, .int v1), (2, .int v2), (3, .int v3)] [] M (QI q) := by
  unfold f_X12_votesOf_h4 at h
  refine Fr_iload_n (q := 3) (i := 3) 3 (by decide +kernel) rfl rfl ?_
  refine Fr_aload_n (q := 0) (i := 0) 0 (by decide +kernel) rfl rfl ?_
  refine gf_X12_35 rfl (by decide +kernel) ob_200 ?_
  refine Fr_iconst (i := 3) (v := 3) (by decide +kernel) (by decide) ?_
  obtain ⟨hi_1, h⟩ := ck_elim h
  refine Fr_iald (by decide +kernel) ob_205 (vp_of ln_205 hi_1) ?_
  refine Fr_icmp_ge (off := 33) 44 (by decide +kernel) (by decide) (fun hc => ?_) (fun hc => ?_)
  · have h := iT hc h
    refine Fr_iload_n (q := 2) (i := 2) 2 (by decide +kernel) rfl rfl ?_
    obtain rfl := Option.some.inj h
    exact Fr_iret (by decide +kernel) rfl ⟨rfl, rfl⟩
  · have h := iF hc h
    refine Fr_iload_n (q := 2) (i := 2) 2 (by decide +kernel) rfl rfl ?_
    refine Fr_iload_n (q := 1) (i := 1) 1 (by decide +kernel) rfl rfl ?_
    refine Fr_iload_n (q := 3) (i := 3) 3 (by decide +kernel) rfl rfl ?_
    obtain ⟨r_4, M_2, hc_3, h⟩ := bi_elim h
    refine Fr_cSb (ν := m_X12_has) (As := [.int v1, .int v3]) (st := [.int v2]) (d' := 0) (by decide +kernel) ml_X12_123 cs_X12_has rfl (by decide) (Nat.le_of_ble_eq_true rfl) (t_X12_has hc_3) ?_
    refine Fr_if_eq (off := 15) 35 (by decide +kernel) (by decide) (fun hc => ?_) (fun hc => ?_)
    · have h := iT hc h
      refine Fr_iconst (i := 0) (v := 0) (by decide +kernel) (by decide) ?_
      refine Fr_loc [0, 1, 3] rfl ?_
      exact t_X12_votesOf_b36 hk4 h
    · have h := iF hc h
      refine Fr_aload_n (q := 0) (i := 0) 0 (by decide +kernel) rfl rfl ?_
      refine gf_X12_35 rfl (by decide +kernel) ob_200 ?_
      refine Fr_bipush (i := 41) (v := 41) (by decide +kernel) (by decide) ?_
      refine Fr_iload_n (q := 3) (i := 3) 3 (by decide +kernel) rfl rfl ?_
      refine Fr_iadd (by decide +kernel) ?_
      obtain ⟨hi_5, h⟩ := ck_elim h
      refine Fr_iald (by decide +kernel) ob_205 (vp_of ln_205 hi_5) ?_
      refine Fr_goto (off := 4) 36 (by decide +kernel) (by decide) ?_
      refine Fr_loc [0, 1, 3] rfl ?_
      exact t_X12_votesOf_b36 hk4 h
set_option maxRecDepth 20000 in
theorem t_X12_votesOf {N : Nat} {x1 : Int32} {M : Mem} {q : Int32 × Mem} (h : f_X12_votesOf N x1 M = some q) : Ev 200 21 1 m_X12_votesOf [.ref 200, .int x1] M (QI q) := by
  refine Ev_of_Fr (by decide +kernel) (Nat.le_of_ble_eq_true rfl) ?_
  show Fr 200 21 1 m_X12_votesOf 0 [(0, .ref 200), (1, .int x1)] [] M (QI q)
  unfold f_X12_votesOf at h
  refine Fr_iconst (i := 0) (v := 0) (by decide +kernel) (by decide) ?_
  refine Fr_istore_n (q := 2) (i := 2) (lv' := [(2, .int 0), (0, .ref 200), (1, .int x1)]) (by decide +kernel) rfl (by decide) rfl ?_
  refine Fr_iconst (i := 0) (v := 0) (by decide +kernel) (by decide) ?_
  refine Fr_istore_n (q := 3) (i := 3) (lv' := [(3, .int 0), (2, .int 0), (0, .ref 200), (1, .int x1)]) (by decide +kernel) rfl (by decide) rfl ?_
  refine Fr_loc [2, 3, 1, 0] rfl ?_
  exact lp_sound (body := fun k a m => f_X12_votesOf_h4 N k a.1 a.2.1 a.2.2 m) (P := fun a M => Fr 200 21 1 m_X12_votesOf 4 [(0, .ref 200), (1, .int a.1), (2, .int a.2.1), (3, .int a.2.2)] [] M (QI q)) (fun k hk a m h => t_X12_votesOf_h4 hk h) N (x1, 0, 0) M h
set_option maxRecDepth 20000 in
theorem t_X12_can {N : Nat} {x1 : Int32} {x2 : Int32} {M : Mem} {q : Bool × Mem} (h : f_X12_can N x1 x2 M = some q) : Ev 200 21 2 m_X12_can [.ref 200, .int x1, .int x2] M (QB q) := by
  refine Ev_of_Fr (by decide +kernel) (Nat.le_of_ble_eq_true rfl) ?_
  show Fr 200 21 2 m_X12_can 0 [(0, .ref 200), (1, .int x1), (2, .int x2)] [] M (QB q)
  unfold f_X12_can at h
  refine Fr_aload_n (q := 0) (i := 0) 0 (by decide +kernel) rfl rfl ?_
  refine Fr_iload_n (q := 2) (i := 2) 2 (by decide +kernel) rfl rfl ?_
  obtain ⟨r_3, M_1, hc_2, h⟩ := bi_elim h
  refine Fr_cVi (ν := m_X12_votesOf) (As := [.int x2]) (st := []) (rc := 200) (ci := 12) (d' := 1) (by decide +kernel) ml_X12_425 cv_X12_votesOf rfl (by decide) rfl ob_200 rfl (by decide) (Nat.le_of_ble_eq_true rfl) (t_X12_votesOf hc_2) ?_
  refine Fr_aload_n (q := 0) (i := 0) 0 (by decide +kernel) rfl rfl ?_
  refine gf_X12_35 rfl (by decide +kernel) ob_200 ?_
  refine Fr_bipush (i := 35) (v := 35) (by decide +kernel) (by decide) ?_
  refine Fr_iload_n (q := 1) (i := 1) 1 (by decide +kernel) rfl rfl ?_
  refine Fr_iadd (by decide +kernel) ?_
  obtain ⟨hi_4, h⟩ := ck_elim h
  refine Fr_iald (by decide +kernel) ob_205 (vp_of ln_205 hi_4) ?_
  refine Fr_icmp_lt (off := 7) 21 (by decide +kernel) (by decide) (fun hc => ?_) (fun hc => ?_)
  · have h := iT hc h
    refine Fr_iconst (i := 0) (v := 0) (by decide +kernel) (by decide) ?_
    obtain rfl := Option.some.inj h
    exact Fr_zret (by decide +kernel) rfl (by decide) ⟨rfl, rfl⟩
  · have h := iF hc h
    refine Fr_iconst (i := 1) (v := 1) (by decide +kernel) (by decide) ?_
    refine Fr_goto (off := 4) 22 (by decide +kernel) (by decide) ?_
    obtain rfl := Option.some.inj h
    exact Fr_zret (by decide +kernel) rfl (by decide) ⟨rfl, rfl⟩
set_option maxRecDepth 20000 in
theorem t_X12_allHolders {M : Mem} {q : Int32 × Mem} (h : f_X12_allHolders M = some q) : Ev 200 21 0 m_X12_allHolders [.ref 200] M (QI q) := by
  refine Ev_of_Fr (by decide +kernel) (Nat.le_of_ble_eq_true rfl) ?_
  show Fr 200 21 0 m_X12_allHolders 0 [(0, .ref 200)] [] M (QI q)
  unfold f_X12_allHolders at h
  refine Fr_iconst (i := 1) (v := 1) (by decide +kernel) (by decide) ?_
  refine Fr_aload_n (q := 0) (i := 0) 0 (by decide +kernel) rfl rfl ?_
  refine gf_X12_35 rfl (by decide +kernel) ob_200 ?_
  refine Fr_iconst (i := 3) (v := 3) (by decide +kernel) (by decide) ?_
  obtain ⟨hi_1, h⟩ := ck_elim h
  refine Fr_iald (by decide +kernel) ob_205 (vp_of ln_205 hi_1) ?_
  refine Fr_ishl (by decide +kernel) ?_
  refine Fr_iconst (i := 1) (v := 1) (by decide +kernel) (by decide) ?_
  refine Fr_isub (by decide +kernel) ?_
  obtain rfl := Option.some.inj h
  exact Fr_iret (by decide +kernel) rfl ⟨rfl, rfl⟩
set_option maxRecDepth 20000 in
theorem t_X12_isSet {x1 : Int32} {M : Mem} {q : Bool × Mem} (h : f_X12_isSet x1 M = some q) : Ev 200 21 1 m_X12_isSet [.ref 200, .int x1] M (QB q) := by
  refine Ev_of_Fr (by decide +kernel) (Nat.le_of_ble_eq_true rfl) ?_
  show Fr 200 21 1 m_X12_isSet 0 [(0, .ref 200), (1, .int x1)] [] M (QB q)
  unfold f_X12_isSet at h
  refine Fr_iload_n (q := 1) (i := 1) 1 (by decide +kernel) rfl rfl ?_
  refine Fr_i2l (by decide +kernel) ?_
  refine Fr_lconst (i := 0) (v := 0) (by decide +kernel) (by decide) ?_
  refine Fr_aload_n (q := 0) (i := 0) 0 (by decide +kernel) rfl rfl ?_
  obtain ⟨r_3, M_1, hc_2, h⟩ := bi_elim h
  refine Fr_cVi (ν := m_X12_allHolders) (As := []) (st := [.long 0, .long (Int32.toInt64 x1)]) (rc := 200) (ci := 12) (d' := 0) (by decide +kernel) ml_X12_428 cv_X12_allHolders rfl (by decide) rfl ob_200 rfl (by decide) (Nat.le_of_ble_eq_true rfl) (t_X12_allHolders hc_2) ?_
  refine Fr_i2l (by decide +kernel) ?_
  obtain ⟨r_6, M_4, hc_5, h⟩ := bi_elim h
  refine Fr_cSb (ν := m_X12_isIn) (As := [.long (Int32.toInt64 x1), .long 0, .long (Int32.toInt64 r_3)]) (st := []) (d' := 0) (by decide +kernel) ml_X12_119 cs_X12_isIn rfl (by decide) (Nat.le_of_ble_eq_true rfl) (t_X12_isIn hc_5) ?_
  obtain rfl := Option.some.inj h
  exact Fr_zret (by decide +kernel) rfl (nz_b r_6) ⟨rfl, rfl⟩
set_option maxRecDepth 20000 in
theorem t_X12_openBy {N : Nat} {x1 : Int32} {x2 : Int32} {M : Mem} {q : Bool × Mem} (h : f_X12_openBy N x1 x2 M = some q) : Ev 200 21 3 m_X12_openBy [.ref 200, .int x1, .int x2] M (QB q) := by
  refine Ev_of_Fr (by decide +kernel) (Nat.le_of_ble_eq_true rfl) ?_
  show Fr 200 21 3 m_X12_openBy 0 [(0, .ref 200), (1, .int x1), (2, .int x2)] [] M (QB q)
  unfold f_X12_openBy at h
  refine Fr_aload_n (q := 0) (i := 0) 0 (by decide +kernel) rfl rfl ?_
  refine Fr_iconst (i := 0) (v := 0) (by decide +kernel) (by decide) ?_
  refine pf_X12_84 rfl (by decide +kernel) ob_200 ?_
  obtain ⟨M_1, eM_1, h⟩ := bM_elim h
  refine Fr_mem eM_1 ?_
  refine Fr_aload_n (q := 0) (i := 0) 0 (by decide +kernel) rfl rfl ?_
  refine Fr_iconst (i := 0) (v := 0) (by decide +kernel) (by decide) ?_
  refine pf_X12_87 rfl (by decide +kernel) ob_200 ?_
  obtain ⟨M_2, eM_2, h⟩ := bM_elim h
  refine Fr_mem eM_2 ?_
  refine Fr_aload_n (q := 0) (i := 0) 0 (by decide +kernel) rfl rfl ?_
  refine Fr_iload_n (q := 1) (i := 1) 1 (by decide +kernel) rfl rfl ?_
  obtain ⟨r_5, M_3, hc_4, h⟩ := bi_elim h
  refine Fr_cVb (ν := m_X12_isGateAt) (As := [.int x1]) (st := []) (rc := 200) (ci := 12) (d' := 1) (by decide +kernel) ml_X12_380 cv_X12_isGateAt rfl (by decide) rfl ob_200 rfl (by decide) (Nat.le_of_ble_eq_true rfl) (t_X12_isGateAt hc_4) ?_
  refine Fr_if_ne (off := 9) 24 (by decide +kernel) (by decide) (fun hc => ?_) (fun hc => ?_)
  · have h := iF hc h
    refine Fr_aload_n (q := 0) (i := 0) 0 (by decide +kernel) rfl rfl ?_
    refine Fr_iload_n (q := 2) (i := 2) 2 (by decide +kernel) rfl rfl ?_
    obtain ⟨r_8, M_6, hc_7, h⟩ := bi_elim h
    refine Fr_cVb (ν := m_X12_isSet) (As := [.int x2]) (st := []) (rc := 200) (ci := 12) (d' := 1) (by decide +kernel) ml_X12_431 cv_X12_isSet rfl (by decide) rfl ob_200 rfl (by decide) (Nat.le_of_ble_eq_true rfl) (t_X12_isSet hc_7) ?_
    refine Fr_if_ne (off := 9) 38 (by decide +kernel) (by decide) (fun hc => ?_) (fun hc => ?_)
    · have h := iF hc h
      refine Fr_aload_n (q := 0) (i := 0) 0 (by decide +kernel) rfl rfl ?_
      refine gf_X12_35 rfl (by decide +kernel) ob_200 ?_
      refine Fr_bipush (i := 10) (v := 10) (by decide +kernel) (by decide) ?_
      obtain ⟨hi_9, h⟩ := ck_elim h
      refine Fr_iald (by decide +kernel) ob_205 (vp_of ln_205 hi_9) ?_
      refine Fr_iload_n (q := 1) (i := 1) 1 (by decide +kernel) rfl rfl ?_
      obtain ⟨r_12, M_10, hc_11, h⟩ := bi_elim h
      refine Fr_cSb (ν := m_X12_has) (As := [.int (M_6.1 205 (tn 10)), .int x1]) (st := []) (d' := 0) (by decide +kernel) ml_X12_123 cs_X12_has rfl (by decide) (Nat.le_of_ble_eq_true rfl) (t_X12_has hc_11) ?_
      refine Fr_if_ne (off := 12) 61 (by decide +kernel) (by decide) (fun hc => ?_) (fun hc => ?_)
      · have h := iF hc h
        refine Fr_aload_n (q := 0) (i := 0) 0 (by decide +kernel) rfl rfl ?_
        refine Fr_bipush (i := 9) (v := 9) (by decide +kernel) (by decide) ?_
        obtain ⟨r_15, M_13, hc_14, h⟩ := bi_elim h
        refine Fr_cVb (ν := m_X12_no) (As := [.int 9]) (st := []) (rc := 200) (ci := 12) (d' := 0) (by decide +kernel) ml_X12_99 cv_X12_no rfl (by decide) rfl ob_200 rfl (by decide) (Nat.le_of_ble_eq_true rfl) (t_X12_no hc_14) ?_
        obtain rfl := Option.some.inj h
        exact Fr_zret (by decide +kernel) rfl (nz_b r_15) ⟨rfl, rfl⟩
      · have h := iT hc h
        refine Fr_aload_n (q := 0) (i := 0) 0 (by decide +kernel) rfl rfl ?_
        refine Fr_iload_n (q := 1) (i := 1) 1 (by decide +kernel) rfl rfl ?_
        refine Fr_iload_n (q := 2) (i := 2) 2 (by decide +kernel) rfl rfl ?_
        obtain ⟨r_18, M_16, hc_17, h⟩ := bi_elim h
        refine Fr_cVb (ν := m_X12_can) (As := [.int x1, .int x2]) (st := []) (rc := 200) (ci := 12) (d' := 2) (by decide +kernel) ml_X12_434 cv_X12_can rfl (by decide) rfl ob_200 rfl (by decide) (Nat.le_of_ble_eq_true rfl) (t_X12_can hc_17) ?_
        refine Fr_if_ne (off := 10) 68 (by decide +kernel) (by decide) (fun hc => ?_) (fun hc => ?_)
        · have h := iF hc h
          refine Fr_aload_n (q := 0) (i := 0) 0 (by decide +kernel) rfl rfl ?_
          refine gf_X12_35 rfl (by decide +kernel) ob_200 ?_
          refine Fr_bipush (i := 10) (v := 10) (by decide +kernel) (by decide) ?_
          refine Fr_dup2 (by decide +kernel) rfl rfl ?_
          obtain ⟨hi_19, h⟩ := ck_elim h
          refine Fr_iald (by decide +kernel) ob_205 (vp_of ln_205 hi_19) ?_
          refine Fr_iconst (i := 1) (v := 1) (by decide +kernel) (by decide) ?_
          refine Fr_iload_n (q := 1) (i := 1) 1 (by decide +kernel) rfl rfl ?_
          refine Fr_ishl (by decide +kernel) ?_
          refine Fr_ior (by decide +kernel) ?_
          obtain ⟨hi_20, h⟩ := ck_elim h
          refine Fr_iast (by decide +kernel) ob_205 (vp_of ln_205 hi_20) ?_
          obtain ⟨M_21, eM_21, h⟩ := bM_elim h
          refine Fr_mem eM_21 ?_
          refine Fr_iconst (i := 1) (v := 1) (by decide +kernel) (by decide) ?_
          obtain rfl := Option.some.inj h
          exact Fr_zret (by decide +kernel) rfl (by decide) ⟨rfl, rfl⟩
        · have h := iT hc h
          refine Fr_aload_n (q := 0) (i := 0) 0 (by decide +kernel) rfl rfl ?_
          refine Fr_bipush (i := 9) (v := 9) (by decide +kernel) (by decide) ?_
          obtain ⟨r_24, M_22, hc_23, h⟩ := bi_elim h
          refine Fr_cVb (ν := m_X12_no) (As := [.int 9]) (st := []) (rc := 200) (ci := 12) (d' := 0) (by decide +kernel) ml_X12_99 cv_X12_no rfl (by decide) rfl ob_200 rfl (by decide) (Nat.le_of_ble_eq_true rfl) (t_X12_no hc_23) ?_
          obtain rfl := Option.some.inj h
          exact Fr_zret (by decide +kernel) rfl (nz_b r_24) ⟨rfl, rfl⟩
    · have h := iT hc h
      refine Fr_aload_n (q := 0) (i := 0) 0 (by decide +kernel) rfl rfl ?_
      refine Fr_iconst (i := 5) (v := 5) (by decide +kernel) (by decide) ?_
      obtain ⟨r_27, M_25, hc_26, h⟩ := bi_elim h
      refine Fr_cVb (ν := m_X12_no) (As := [.int 5]) (st := []) (rc := 200) (ci := 12) (d' := 0) (by decide +kernel) ml_X12_99 cv_X12_no rfl (by decide) rfl ob_200 rfl (by decide) (Nat.le_of_ble_eq_true rfl) (t_X12_no hc_26) ?_
      obtain rfl := Option.some.inj h
      exact Fr_zret (by decide +kernel) rfl (nz_b r_27) ⟨rfl, rfl⟩
  · have h := iT hc h
    refine Fr_aload_n (q := 0) (i := 0) 0 (by decide +kernel) rfl rfl ?_
    refine Fr_iconst (i := 2) (v := 2) (by decide +kernel) (by decide) ?_
    obtain ⟨r_30, M_28, hc_29, h⟩ := bi_elim h
    refine Fr_cVb (ν := m_X12_no) (As := [.int 2]) (st := []) (rc := 200) (ci := 12) (d' := 0) (by decide +kernel) ml_X12_99 cv_X12_no rfl (by decide) rfl ob_200 rfl (by decide) (Nat.le_of_ble_eq_true rfl) (t_X12_no hc_29) ?_
    obtain rfl := Option.some.inj h
    exact Fr_zret (by decide +kernel) rfl (nz_b r_30) ⟨rfl, rfl⟩
