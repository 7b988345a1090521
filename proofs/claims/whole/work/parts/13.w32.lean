set_option maxRecDepth 20000 in
theorem t_X12_waysBy_h8 {N : Nat} {q : Int32 × Mem} {k8 : Int32 → Mem → Option (Int32 × Mem)} (hk8 : ∀ (a : Int32) (M : Mem), k8 a M = some q → Fr 200 21 9 m_X12_waysBy 8 [(0, .ref 200), (3, .int a)] [] M (QI q)) {v3 : Int32} {M : Mem} (h : f_X12_waysBy_h8 N k8 v3 M = some q) : Fr 200 21 9 m_X12_waysBy 8 [(0, .ref 200), (3, .int v3)] [] M (QI q) := by
  unfold f_X12_waysBy_h8 at h
  refine Fr_iload_n (q := 3) (i := 3) 1 (by decide +kernel) rfl rfl ?_
  refine Fr_bipush (i := 36) (v := 36) (by decide +kernel) (by decide) ?_
  refine Fr_icmp_ge (off := 16) 27 (by decide +kernel) (by decide) (fun hc => ?_) (fun hc => ?_)
  · have h := iT hc h
    refine Fr_aload_n (q := 0) (i := 0) 0 (by decide +kernel) rfl rfl ?_
    refine Fr_iconst (i := 0) (v := 0) (by decide +kernel) (by decide) ?_
    refine Fr_iconst (i := 1) (v := 1) (by decide +kernel) (by decide) ?_
    refine Fr_aload_n (q := 0) (i := 0) 0 (by decide +kernel) rfl rfl ?_
    refine gf_X12_35 rfl (by decide +kernel) ob_200 ?_
    refine Fr_iconst (i := 2) (v := 2) (by decide +kernel) (by decide) ?_
    obtain ⟨hi_3, h⟩ := ck_elim h
    refine Fr_iald (by decide +kernel) ob_205 (vp_of ln_205 hi_3) ?_
    refine Fr_ishl (by decide +kernel) ?_
    refine Fr_iconst (i := 1) (v := 1) (by decide +kernel) (by decide) ?_
    refine Fr_isub (by decide +kernel) ?_
    obtain ⟨r_6, M_4, hc_5, h⟩ := bi_elim h
    refine Fr_cVi (ν := m_X12_waysFrom) (As := [.int 0, .int ((1 <<< ((M.1 205 (tn 2)) &&& 31)) - 1)]) (st := []) (rc := 200) (ci := 12) (d' := 8) (by decide +kernel) ml_X12_522 cv_X12_waysFrom rfl (by decide) rfl ob_200 rfl (by decide) (Nat.le_of_ble_eq_true rfl) (t_X12_waysFrom 8  hc_5) ?_
    obtain rfl := Option.some.inj h
    exact Fr_iret (by decide +kernel) rfl ⟨rfl, rfl⟩
  · have h := iF hc h
    refine Fr_aload_n (q := 0) (i := 0) 0 (by decide +kernel) rfl rfl ?_
    refine gf_X12_72 rfl (by decide +kernel) ob_200 ?_
    refine Fr_iload_n (q := 3) (i := 3) 1 (by decide +kernel) rfl rfl ?_
    refine Fr_iconst (i := 0) (v := 0) (by decide +kernel) (by decide) ?_
    obtain ⟨hi_7, h⟩ := ck_elim h
    refine Fr_iast (by decide +kernel) ob_217 (vp_of ln_217 hi_7) ?_
    obtain ⟨M_8, eM_8, h⟩ := bM_elim h
    refine Fr_mem eM_8 ?_
    refine Fr_iinc (i := 3) (j := 1) (v := (v3 + 1)) (lv' := [(3, .int (v3 + 1)), (0, .ref 200)]) 1 (by decide +kernel) rfl rfl (by decide) rfl ?_
    refine Fr_goto (off := (-16)) 8 (by decide +kernel) (by decide) ?_
    refine Fr_loc [1, 0] rfl ?_
    exact hk8 (v3 + 1) M_8 h
set_option maxRecDepth 20000 in
theorem t_X12_waysBy {N : Nat} {x1 : Int32} {x2 : Int32} {M : Mem} {q : Int32 × Mem} (h : f_X12_waysBy N x1 x2 M = some q) : Ev 200 21 9 m_X12_waysBy [.ref 200, .int x1, .int x2] M (QI q) := by
  refine Ev_of_Fr (by decide +kernel) (Nat.le_of_ble_eq_true rfl) ?_
  show Fr 200 21 9 m_X12_waysBy 0 [(0, .ref 200), (1, .int x1), (2, .int x2)] [] M (QI q)
  unfold f_X12_waysBy at h
  refine Fr_aload_n (q := 0) (i := 0) 0 (by decide +kernel) rfl rfl ?_
  refine Fr_iload_n (q := 1) (i := 1) 1 (by decide +kernel) rfl rfl ?_
  refine Fr_iload_n (q := 2) (i := 2) 2 (by decide +kernel) rfl rfl ?_
  obtain ⟨M_1, hc_2, h⟩ := bv_elim h
  refine Fr_cVv (ν := m_X12_laysTries) (As := [.int x1, .int x2]) (st := []) (rc := 200) (ci := 12) (d' := 1) (by decide +kernel) ml_X12_525 cv_X12_laysTries rfl (by decide) rfl ob_200 rfl (by decide) (Nat.le_of_ble_eq_true rfl) (t_X12_laysTries hc_2) ?_
  refine Fr_iconst (i := 0) (v := 0) (by decide +kernel) (by decide) ?_
  refine Fr_istore_n (q := 3) (i := 3) (lv' := [(3, .int 0), (0, .ref 200), (1, .int x1), (2, .int x2)]) (by decide +kernel) rfl (by decide) rfl ?_
  refine Fr_loc [1, 0] rfl ?_
  exact lp_sound (body := fun k a m => f_X12_waysBy_h8 N k a m) (P := fun a M => Fr 200 21 9 m_X12_waysBy 8 [(0, .ref 200), (3, .int a)] [] M (QI q)) (fun k hk a m h => t_X12_waysBy_h8 hk h) N 0 M_1 h
set_option maxRecDepth 20000 in
theorem t_X12_fits {N : Nat} {x1 : Int32} {x2 : Int32} {M : Mem} {q : Int32 × Mem} (h : f_X12_fits N x1 x2 M = some q) : Ev 200 21 10 m_X12_fits [.ref 200, .int x1, .int x2] M (QI q) := by
  refine Ev_of_Fr (by decide +kernel) (Nat.le_of_ble_eq_true rfl) ?_
  show Fr 200 21 10 m_X12_fits 0 [(0, .ref 200), (1, .int x1), (2, .int x2)] [] M (QI q)
  unfold f_X12_fits at h
  refine Fr_aload_n (q := 0) (i := 0) 0 (by decide +kernel) rfl rfl ?_
  refine Fr_iconst (i := 0) (v := 0) (by decide +kernel) (by decide) ?_
  refine pf_X12_84 rfl (by decide +kernel) ob_200 ?_
  obtain ⟨M_1, eM_1, h⟩ := bM_elim h
  refine Fr_mem eM_1 ?_
  refine Fr_aload_n (q := 0) (i := 0) 0 (by decide +kernel) rfl rfl ?_
  refine Fr_aload_n (q := 0) (i := 0) 0 (by decide +kernel) rfl rfl ?_
  refine Fr_iload_n (q := 1) (i := 1) 1 (by decide +kernel) rfl rfl ?_
  refine Fr_iload_n (q := 2) (i := 2) 2 (by decide +kernel) rfl rfl ?_
  obtain ⟨r_4, M_2, hc_3, h⟩ := bi_elim h
  refine Fr_cVi (ν := m_X12_whyNoTries) (As := [.int x1, .int x2]) (st := [.ref 200]) (rc := 200) (ci := 12) (d' := 2) (by decide +kernel) ml_X12_528 cv_X12_whyNoTries rfl (by decide) rfl ob_200 rfl (by decide) (Nat.le_of_ble_eq_true rfl) (t_X12_whyNoTries hc_3) ?_
  refine pf_X12_87 rfl (by decide +kernel) ob_200 ?_
  obtain ⟨M_5, eM_5, h⟩ := bM_elim h
  refine Fr_mem eM_5 ?_
  refine Fr_aload_n (q := 0) (i := 0) 0 (by decide +kernel) rfl rfl ?_
  refine gf_X12_87 rfl (by decide +kernel) ob_200 ?_
  refine Fr_if_le (off := 7) 26 (by decide +kernel) (by decide) (fun hc => ?_) (fun hc => ?_)
  · have h := iT hc h
    refine Fr_aload_n (q := 0) (i := 0) 0 (by decide +kernel) rfl rfl ?_
    refine Fr_iload_n (q := 1) (i := 1) 1 (by decide +kernel) rfl rfl ?_
    refine Fr_iload_n (q := 2) (i := 2) 2 (by decide +kernel) rfl rfl ?_
    obtain ⟨r_8, M_6, hc_7, h⟩ := bi_elim h
    refine Fr_cVi (ν := m_X12_waysBy) (As := [.int x1, .int x2]) (st := []) (rc := 200) (ci := 12) (d' := 9) (by decide +kernel) ml_X12_531 cv_X12_waysBy rfl (by decide) rfl ob_200 rfl (by decide) (Nat.le_of_ble_eq_true rfl) (t_X12_waysBy hc_7) ?_
    obtain rfl := Option.some.inj h
    exact Fr_iret (by decide +kernel) rfl ⟨rfl, rfl⟩
  · have h := iF hc h
    refine Fr_iconst (i := (-1)) (v := (-1)) (by decide +kernel) (by decide) ?_
    refine Fr_goto (off := 9) 32 (by decide +kernel) (by decide) ?_
    obtain rfl := Option.some.inj h
    exact Fr_iret (by decide +kernel) rfl ⟨rfl, rfl⟩
set_option maxRecDepth 20000 in
theorem t_X12_whyNoKey {N : Nat} {x1 : Int32} {x2 : Int32} {x3 : Int32} {M : Mem} {q : Int32 × Mem} (h : f_X12_whyNoKey N x1 x2 x3 M = some q) : Ev 200 21 3 m_X12_whyNoKey [.ref 200, .int x1, .int x2, .int x3] M (QI q) := by
  refine Ev_of_Fr (by decide +kernel) (Nat.le_of_ble_eq_true rfl) ?_
  show Fr 200 21 3 m_X12_whyNoKey 0 [(0, .ref 200), (1, .int x1), (2, .int x2), (3, .int x3)] [] M (QI q)
  unfold f_X12_whyNoKey at h
  refine Fr_aload_n (q := 0) (i := 0) 0 (by decide +kernel) rfl rfl ?_
  refine Fr_iload_n (q := 2) (i := 2) 2 (by decide +kernel) rfl rfl ?_
  refine Fr_iload_n (q := 3) (i := 3) 3 (by decide +kernel) rfl rfl ?_
  obtain ⟨r_3, M_1, hc_2, h⟩ := bi_elim h
  refine Fr_cVi (ν := m_X12_whyNoTries) (As := [.int x2, .int x3]) (st := []) (rc := 200) (ci := 12) (d' := 2) (by decide +kernel) ml_X12_528 cv_X12_whyNoTries rfl (by decide) rfl ob_200 rfl (by decide) (Nat.le_of_ble_eq_true rfl) (t_X12_whyNoTries hc_2) ?_
  refine Fr_istore (i := 4) (lv' := [(4, .int r_3), (0, .ref 200), (1, .int x1), (2, .int x2), (3, .int x3)]) (by decide +kernel) (by decide) rfl ?_
  refine Fr_iload (i := 4) 0 (by decide +kernel) rfl ?_
  refine Fr_iconst (i := 1) (v := 1) (by decide +kernel) (by decide) ?_
  refine Fr_icmp_ne (off := 7) 18 (by decide +kernel) (by decide) (fun hc => ?_) (fun hc => ?_)
  · have h := iF hc h
    refine Fr_aload_n (q := 0) (i := 0) 1 (by decide +kernel) rfl rfl ?_
    refine Fr_iload_n (q := 1) (i := 1) 2 (by decide +kernel) rfl rfl ?_
    obtain ⟨r_6, M_4, hc_5, h⟩ := bi_elim h
    refine Fr_cVb (ν := m_X12_isGateAt) (As := [.int x1]) (st := []) (rc := 200) (ci := 12) (d' := 1) (by decide +kernel) ml_X12_380 cv_X12_isGateAt rfl (by decide) rfl ob_200 rfl (by decide) (Nat.le_of_ble_eq_true rfl) (t_X12_isGateAt hc_5) ?_
    refine Fr_if_eq (off := 8) 31 (by decide +kernel) (by decide) (fun hc => ?_) (fun hc => ?_)
    · have h := iT hc h
      refine Fr_iconst (i := 2) (v := 2) (by decide +kernel) (by decide) ?_
      obtain rfl := Option.some.inj h
      exact Fr_iret (by decide +kernel) rfl ⟨rfl, rfl⟩
    · have h := iF hc h
      refine Fr_iload (i := 4) 0 (by decide +kernel) rfl ?_
      refine Fr_goto (off := 4) 32 (by decide +kernel) (by decide) ?_
      obtain rfl := Option.some.inj h
      exact Fr_iret (by decide +kernel) rfl ⟨rfl, rfl⟩
  · have h := iT hc h
    refine Fr_iconst (i := 1) (v := 1) (by decide +kernel) (by decide) ?_
    refine Fr_goto (off := 17) 32 (by decide +kernel) (by decide) ?_
    obtain rfl := Option.some.inj h
    exact Fr_iret (by decide +kernel) rfl ⟨rfl, rfl⟩
set_option maxRecDepth 20000 in
theorem t_X12_known_b72 {N : Nat} {q : Int32 × Mem} {k36 : Int32 × Int32 × Int32 → Mem → Option (Int32 × Mem)} (hk36 : ∀ (a : Int32 × Int32 × Int32) (M : Mem), k36 a M = some q → Fr 200 21 10 m_X12_known 36 [(0, .ref 200), (1, .int a.1), (4, .int a.2.1), (5, .int a.2.2)] [] M (QI q)) {v1 : Int32} {v4 : Int32} {v5 : Int32} {M : Mem} (h : f_X12_known_b72 N k36 v1 v4 v5 M = some q) : Fr 200 21 10 m_X12_known 72 [(0, .ref 200), (1, .int v1), (4, .int v4), (5, .int v5)] [] M (QI q) := by
  unfold f_X12_known_b72 at h
  refine Fr_iinc (i := 5) (j := 1) (v := (v5 + 1)) (lv' := [(5, .int (v5 + 1)), (0, .ref 200), (1, .int v1), (4, .int v4)]) 3 (by decide +kernel) rfl rfl (by decide) rfl ?_
  refine Fr_goto (off := (-39)) 36 (by decide +kernel) (by decide) ?_
  refine Fr_loc [1, 2, 3, 0] rfl ?_
  exact hk36 (v1, v4, (v5 + 1)) M h
set_option maxRecDepth 20000 in
theorem t_X12_known_h36 {N : Nat} {q : Int32 × Mem} {k36 : Int32 × Int32 × Int32 → Mem → Option (Int32 × Mem)} (hk36 : ∀ (a : Int32 × Int32 × Int32) (M : Mem), k36 a M = some q → Fr 200 21 10 m_X12_known 36 [(0, .ref 200), (1, .int a.1), (4, .int a.2.1), (5, .int a.2.2)] [] M (QI q)) {v1 : Int32} {v4 : Int32} {v5 : Int32} {M : Mem} (h : f_X12_known_h36 N k36 v1 v4 v5 M = some q) : Fr 200 21 10 m_X12_known 36 [(0, .ref 200), (1, .int v1), (4, .int v4), (5, .int v5)] [] M (QI q) := by
  unfold f_X12_known_h36 at h
  refine Fr_iload (i := 5) 3 (by decide +kernel) rfl ?_
  refine Fr_aload_n (q := 0) (i := 0) 0 (by decide +kernel) rfl rfl ?_
  refine gf_X12_35 rfl (by decide +kernel) ob_200 ?_
  refine Fr_iconst (i := 2) (v := 2) (by decide +kernel) (by decide) ?_
  obtain ⟨hi_9, h⟩ := ck_elim h
  refine Fr_iald (by decide +kernel) ob_205 (vp_of ln_205 hi_9) ?_
  refine Fr_icmp_ge (off := 34) 78 (by decide +kernel) (by decide) (fun hc => ?_) (fun hc => ?_)
  · have h := iT hc h
    refine Fr_aload_n (q := 0) (i := 0) 0 (by decide +kernel) rfl rfl ?_
    refine Fr_bipush (i := 8) (v := 8) (by decide +kernel) (by decide) ?_
    obtain ⟨r_12, M_10, hc_11, h⟩ := bi_elim h
    refine Fr_cVi (ν := m_X12_refuse) (As := [.int 8]) (st := []) (rc := 200) (ci := 12) (d' := 0) (by decide +kernel) ml_X12_371 cv_X12_refuse rfl (by decide) rfl ob_200 rfl (by decide) (Nat.le_of_ble_eq_true rfl) (t_X12_refuse hc_11) ?_
    obtain rfl := Option.some.inj h
    exact Fr_iret (by decide +kernel) rfl ⟨rfl, rfl⟩
  · have h := iF hc h
    refine Fr_iload (i := 4) 2 (by decide +kernel) rfl ?_
    refine Fr_if_le (off := 23) 72 (by decide +kernel) (by decide) (fun hc => ?_) (fun hc => ?_)
    · have h := iT hc h
      exact t_X12_known_b72 hk36 h
    · have h := iF hc h
      refine Fr_aload_n (q := 0) (i := 0) 0 (by decide +kernel) rfl rfl ?_
      refine gf_X12_72 rfl (by decide +kernel) ob_200 ?_
      refine Fr_bipush (i := 6) (v := 6) (by decide +kernel) (by decide) ?_
      refine Fr_iload_n (q := 1) (i := 1) 1 (by decide +kernel) rfl rfl ?_
      refine Fr_imul (by decide +kernel) ?_
      refine Fr_iload (i := 5) 3 (by decide +kernel) rfl ?_
      refine Fr_iadd (by decide +kernel) ?_
      obtain ⟨hi_13, h⟩ := ck_elim h
      refine Fr_iald (by decide +kernel) ob_217 (vp_of ln_217 hi_13) ?_
      refine Fr_iload (i := 4) 2 (by decide +kernel) rfl ?_
      refine Fr_icmp_ne (off := 6) 72 (by decide +kernel) (by decide) (fun hc => ?_) (fun hc => ?_)
      · have h := iF hc h
        exact t_X12_known_b72 hk36 h
      · have h := iT hc h
        refine Fr_iload (i := 5) 3 (by decide +kernel) rfl ?_
        obtain rfl := Option.some.inj h
        exact Fr_iret (by decide +kernel) rfl ⟨rfl, rfl⟩
set_option maxRecDepth 20000 in
theorem t_X12_known {N : Nat} {x1 : Int32} {x2 : Int32} {x3 : Int32} {M : Mem} {q : Int32 × Mem} (h : f_X12_known N x1 x2 x3 M = some q) : Ev 200 21 10 m_X12_known [.ref 200, .int x1, .int x2, .int x3] M (QI q) := by
  refine Ev_of_Fr (by decide +kernel) (Nat.le_of_ble_eq_true rfl) ?_
  show Fr 200 21 10 m_X12_known 0 [(0, .ref 200), (1, .int x1), (2, .int x2), (3, .int x3)] [] M (QI q)
  unfold f_X12_known at h
  refine Fr_aload_n (q := 0) (i := 0) 0 (by decide +kernel) rfl rfl ?_
  refine Fr_iconst (i := 0) (v := 0) (by decide +kernel) (by decide) ?_
  refine pf_X12_84 rfl (by decide +kernel) ob_200 ?_
  obtain ⟨M_1, eM_1, h⟩ := bM_elim h
  refine Fr_mem eM_1 ?_
  refine Fr_aload_n (q := 0) (i := 0) 0 (by decide +kernel) rfl rfl ?_
  refine Fr_aload_n (q := 0) (i := 0) 0 (by decide +kernel) rfl rfl ?_
  refine Fr_iload_n (q := 1) (i := 1) 1 (by decide +kernel) rfl rfl ?_
  refine Fr_iload_n (q := 2) (i := 2) 2 (by decide +kernel) rfl rfl ?_
  refine Fr_iload_n (q := 3) (i := 3) 3 (by decide +kernel) rfl rfl ?_
  obtain ⟨r_4, M_2, hc_3, h⟩ := bi_elim h
  refine Fr_cVi (ν := m_X12_whyNoKey) (As := [.int x1, .int x2, .int x3]) (st := [.ref 200]) (rc := 200) (ci := 12) (d' := 3) (by decide +kernel) ml_X12_534 cv_X12_whyNoKey rfl (by decide) rfl ob_200 rfl (by decide) (Nat.le_of_ble_eq_true rfl) (t_X12_whyNoKey hc_3) ?_
  refine pf_X12_87 rfl (by decide +kernel) ob_200 ?_
  obtain ⟨M_5, eM_5, h⟩ := bM_elim h
  refine Fr_mem eM_5 ?_
  refine Fr_aload_n (q := 0) (i := 0) 0 (by decide +kernel) rfl rfl ?_
  refine gf_X12_87 rfl (by decide +kernel) ob_200 ?_
  refine Fr_if_le (off := 5) 25 (by decide +kernel) (by decide) (fun hc => ?_) (fun hc => ?_)
  · have h := iT hc h
    refine Fr_aload_n (q := 0) (i := 0) 0 (by decide +kernel) rfl rfl ?_
    refine Fr_iload_n (q := 2) (i := 2) 2 (by decide +kernel) rfl rfl ?_
    refine Fr_iload_n (q := 3) (i := 3) 3 (by decide +kernel) rfl rfl ?_
    obtain ⟨r_8, M_6, hc_7, h⟩ := bi_elim h
    refine Fr_cVi (ν := m_X12_waysBy) (As := [.int x2, .int x3]) (st := []) (rc := 200) (ci := 12) (d' := 9) (by decide +kernel) ml_X12_531 cv_X12_waysBy rfl (by decide) rfl ob_200 rfl (by decide) (Nat.le_of_ble_eq_true rfl) (t_X12_waysBy hc_7) ?_
    refine Fr_istore (i := 4) (lv' := [(4, .int r_8), (0, .ref 200), (1, .int x1), (2, .int x2), (3, .int x3)]) (by decide +kernel) (by decide) rfl ?_
    refine Fr_iconst (i := 0) (v := 0) (by decide +kernel) (by decide) ?_
    refine Fr_istore (i := 5) (lv' := [(5, .int 0), (4, .int r_8), (0, .ref 200), (1, .int x1), (2, .int x2), (3, .int x3)]) (by decide +kernel) (by decide) rfl ?_
    refine Fr_loc [2, 3, 1, 0] rfl ?_
    exact lp_sound (body := fun k a m => f_X12_known_h36 N k a.1 a.2.1 a.2.2 m) (P := fun a M => Fr 200 21 10 m_X12_known 36 [(0, .ref 200), (1, .int a.1), (4, .int a.2.1), (5, .int a.2.2)] [] M (QI q)) (fun k hk a m h => t_X12_known_h36 hk h) N (x1, r_8, 0) M_6 h
  · have h := iF hc h
    refine Fr_iconst (i := (-1)) (v := (-1)) (by decide +kernel) (by decide) ?_
    obtain rfl := Option.some.inj h
    exact Fr_iret (by decide +kernel) rfl ⟨rfl, rfl⟩
set_option maxRecDepth 20000 in
theorem t_X12_next_b139 {N : Nat} {q : Int32 × Mem} {k52 : Int32 × Int32 × Int32 × Int32 → Mem → Option (Int32 × Mem)} (hk52 : ∀ (a : Int32 × Int32 × Int32 × Int32) (M : Mem), k52 a M = some q → Fr 200 21 10 m_X12_next 52 [(0, .ref 200), (3, .int a.1), (4, .int a.2.1), (5, .int a.2.2.1), (6, .int a.2.2.2)] [] M (QI q)) {k66 : Int32 × Int32 × Int32 × Int32 × Int32 → Mem → Option (Int32 × Mem)} (hk66 : ∀ (a : Int32 × Int32 × Int32 × Int32 × Int32) (M : Mem), k66 a M = some q → Fr 200 21 10 m_X12_next 66 [(0, .ref 200), (3, .int a.1), (4, .int a.2.1), (5, .int a.2.2.1), (6, .int a.2.2.2.1), (7, .int a.2.2.2.2)] [] M (QI q)) {v3 : Int32} {v4 : Int32} {v5 : Int32} {v6 : Int32} {v7 : Int32} {M : Mem} (h : f_X12_next_b139 N k52 k66 v3 v4 v5 v6 v7 M = some q) : Fr 200 21 10 m_X12_next 139 [(0, .ref 200), (3, .int v3), (4, .int v4), (5, .int v5), (6, .int v6), (7, .int v7)] [] M (QI q) := by
  unfold f_X12_next_b139 at h
  refine Fr_iinc (i := 7) (j := 1) (v := (v7 + 1)) (lv' := [(7, .int (v7 + 1)), (0, .ref 200), (3, .int v3), (4, .int v4), (5, .int v5), (6, .int v6)]) 5 (by decide +kernel) rfl rfl (by decide) rfl ?_
  refine Fr_goto (off := (-76)) 66 (by decide +kernel) (by decide) ?_
  refine Fr_loc [1, 2, 3, 4, 5, 0] rfl ?_
  exact hk66 (v3, v4, v5, v6, (v7 + 1)) M h
set_option maxRecDepth 20000 in
theorem t_X12_next_b125 {N : Nat} {q : Int32 × Mem} {k52 : Int32 × Int32 × Int32 × Int32 → Mem → Option (Int32 × Mem)} (hk52 : ∀ (a : Int32 × Int32 × Int32 × Int32) (M : Mem), k52 a M = some q → Fr 200 21 10 m_X12_next 52 [(0, .ref 200), (3, .int a.1), (4, .int a.2.1), (5, .int a.2.2.1), (6, .int a.2.2.2)] [] M (QI q)) {k66 : Int32 × Int32 × Int32 × Int32 × Int32 → Mem → Option (Int32 × Mem)} (hk66 : ∀ (a : Int32 × Int32 × Int32 × Int32 × Int32) (M : Mem), k66 a M = some q → Fr 200 21 10 m_X12_next 66 [(0, .ref 200), (3, .int a.1), (4, .int a.2.1), (5, .int a.2.2.1), (6, .int a.2.2.2.1), (7, .int a.2.2.2.2)] [] M (QI q)) {v3 : Int32} {v6 : Int32} {v7 : Int32} {v8 : Int32} {M : Mem} (h : f_X12_next_b125 N k52 k66 v3 v6 v7 v8 M = some q) : Fr 200 21 10 m_X12_next 125 [(0, .ref 200), (3, .int v3), (6, .int v6), (7, .int v7), (8, .int v8)] [] M (QI q) := by
  unfold f_X12_next_b125 at h
  refine Fr_bipush (i := 10) (v := 10) (by decide +kernel) (by decide) ?_
  refine Fr_iload (i := 6) 2 (by decide +kernel) rfl ?_
  refine Fr_imul (by decide +kernel) ?_
  refine Fr_iload (i := 7) 3 (by decide +kernel) rfl ?_
  refine Fr_iadd (by decide +kernel) ?_
  refine Fr_istore (i := 4) (lv' := [(4, .int ((10 * v6) + v7)), (0, .ref 200), (3, .int v3), (6, .int v6), (7, .int v7), (8, .int v8)]) (by decide +kernel) (by decide) rfl ?_
  refine Fr_iload (i := 8) 5 (by decide +kernel) rfl ?_
  refine Fr_istore (i := 5) (lv' := [(5, .int v8), (4, .int ((10 * v6) + v7)), (0, .ref 200), (3, .int v3), (6, .int v6), (7, .int v7), (8, .int v8)]) (by decide +kernel) (by decide) rfl ?_
  refine Fr_loc [2, 3, 1, 0, 4, 5] rfl ?_
  exact t_X12_next_b139 hk52 hk66 h
set_option maxRecDepth 20000 in
theorem t_X12_next_h66 {N : Nat} {q : Int32 × Mem} {k52 : Int32 × Int32 × Int32 × Int32 → Mem → Option (Int32 × Mem)} (hk52 : ∀ (a : Int32 × Int32 × Int32 × Int32) (M : Mem), k52 a M = some q → Fr 200 21 10 m_X12_next 52 [(0, .ref 200), (3, .int a.1), (4, .int a.2.1), (5, .int a.2.2.1), (6, .int a.2.2.2)] [] M (QI q)) {k66 : Int32 × Int32 × Int32 × Int32 × Int32 → Mem → Option (Int32 × Mem)} (hk66 : ∀ (a : Int32 × Int32 × Int32 × Int32 × Int32) (M : Mem), k66 a M = some q → Fr 200 21 10 m_X12_next 66 [(0, .ref 200), (3, .int a.1), (4, .int a.2.1), (5, .int a.2.2.1), (6, .int a.2.2.2.1), (7, .int a.2.2.2.2)] [] M (QI q)) {v3 : Int32} {v4 : Int32} {v5 : Int32} {v6 : Int32} {v7 : Int32} {M : Mem} (h : f_X12_next_h66 N k52 k66 v3 v4 v5 v6 v7 M = some q) : Fr 200 21 10 m_X12_next 66 [(0, .ref 200), (3, .int v3), (4, .int v4), (5, .int v5), (6, .int v6), (7, .int v7)] [] M (QI q) := by
  unfold f_X12_next_h66 at h
  refine Fr_iload (i := 7) 5 (by decide +kernel) rfl ?_
  refine Fr_aload_n (q := 0) (i := 0) 0 (by decide +kernel) rfl rfl ?_
  refine gf_X12_35 rfl (by decide +kernel) ob_200 ?_
  refine Fr_iconst (i := 2) (v := 2) (by decide +kernel) (by decide) ?_
  obtain ⟨hi_10, h⟩ := ck_elim h
  refine Fr_iald (by decide +kernel) ob_205 (vp_of ln_205 hi_10) ?_
  refine Fr_icmp_ge (off := 71) 145 (by decide +kernel) (by decide) (fun hc => ?_) (fun hc => ?_)
  · have h := iT hc h
    refine Fr_iinc (i := 6) (j := 1) (v := (v6 + 1)) (lv' := [(6, .int (v6 + 1)), (0, .ref 200), (3, .int v3), (4, .int v4), (5, .int v5), (7, .int v7)]) 4 (by decide +kernel) rfl rfl (by decide) rfl ?_
    refine Fr_goto (off := (-96)) 52 (by decide +kernel) (by decide) ?_
    refine Fr_loc [1, 2, 3, 4, 0] rfl ?_
    exact hk52 (v3, v4, v5, (v6 + 1)) M h
  · have h := iF hc h
    refine Fr_aload_n (q := 0) (i := 0) 0 (by decide +kernel) rfl rfl ?_
    refine gf_X12_72 rfl (by decide +kernel) ob_200 ?_
    refine Fr_bipush (i := 6) (v := 6) (by decide +kernel) (by decide) ?_
    refine Fr_iload (i := 6) 4 (by decide +kernel) rfl ?_
    refine Fr_imul (by decide +kernel) ?_
    refine Fr_iload (i := 7) 5 (by decide +kernel) rfl ?_
    refine Fr_iadd (by decide +kernel) ?_
    obtain ⟨hi_11, h⟩ := ck_elim h
    refine Fr_iald (by decide +kernel) ob_217 (vp_of ln_217 hi_11) ?_
    refine Fr_iload_n (q := 3) (i := 3) 1 (by decide +kernel) rfl rfl ?_
    refine Fr_aload_n (q := 0) (i := 0) 0 (by decide +kernel) rfl rfl ?_
    refine gf_X12_72 rfl (by decide +kernel) ob_200 ?_
    refine Fr_bipush (i := 6) (v := 6) (by decide +kernel) (by decide) ?_
    refine Fr_iload (i := 6) 4 (by decide +kernel) rfl ?_
    refine Fr_imul (by decide +kernel) ?_
    refine Fr_iload (i := 7) 5 (by decide +kernel) rfl ?_
    refine Fr_iadd (by decide +kernel) ?_
    obtain ⟨hi_12, h⟩ := ck_elim h
    refine Fr_iald (by decide +kernel) ob_217 (vp_of ln_217 hi_12) ?_
    refine Fr_isub (by decide +kernel) ?_
    refine Fr_max (by decide +kernel) ml_X12_342 (by decide) (Nat.le_of_ble_eq_true rfl) ?_
    obtain ⟨y_13, ey_13, h⟩ := bI_elim h
    refine Fr_topI ey_13 ?_
    refine Fr_istore (i := 8) (lv' := [(8, .int y_13), (0, .ref 200), (3, .int v3), (4, .int v4), (5, .int v5), (6, .int v6), (7, .int v7)]) (by decide +kernel) (by decide) rfl ?_
    refine Fr_iload (i := 4) 3 (by decide +kernel) rfl ?_
    refine Fr_if_lt (off := 13) 125 (by decide +kernel) (by decide) (fun hc => ?_) (fun hc => ?_)
    · have h := iT hc h
      refine Fr_loc [1, 2, 5, 6, 0] rfl ?_
      exact t_X12_next_b125 hk52 hk66 h
    · have h := iF hc h
      refine Fr_iload (i := 8) 0 (by decide +kernel) rfl ?_
      refine Fr_iload (i := 5) 4 (by decide +kernel) rfl ?_
      refine Fr_icmp_lt (off := 6) 125 (by decide +kernel) (by decide) (fun hc => ?_) (fun hc => ?_)
      · have h := iT hc h
        refine Fr_loc [1, 2, 5, 6, 0] rfl ?_
        exact t_X12_next_b125 hk52 hk66 h
      · have h := iF hc h
        refine Fr_goto (off := 17) 139 (by decide +kernel) (by decide) ?_
        refine Fr_loc [1, 2, 3, 4, 5, 6] rfl ?_
        exact t_X12_next_b139 hk52 hk66 h
set_option maxRecDepth 20000 in
theorem t_X12_next_h52 {N : Nat} {q : Int32 × Mem} {k52 : Int32 × Int32 × Int32 × Int32 → Mem → Option (Int32 × Mem)} (hk52 : ∀ (a : Int32 × Int32 × Int32 × Int32) (M : Mem), k52 a M = some q → Fr 200 21 10 m_X12_next 52 [(0, .ref 200), (3, .int a.1), (4, .int a.2.1), (5, .int a.2.2.1), (6, .int a.2.2.2)] [] M (QI q)) {v3 : Int32} {v4 : Int32} {v5 : Int32} {v6 : Int32} {M : Mem} (h : f_X12_next_h52 N k52 v3 v4 v5 v6 M = some q) : Fr 200 21 10 m_X12_next 52 [(0, .ref 200), (3, .int v3), (4, .int v4), (5, .int v5), (6, .int v6)] [] M (QI q) := by
  unfold f_X12_next_h52 at h
  refine Fr_iload (i := 6) 4 (by decide +kernel) rfl ?_
  refine Fr_aload_n (q := 0) (i := 0) 0 (by decide +kernel) rfl rfl ?_
  refine gf_X12_35 rfl (by decide +kernel) ob_200 ?_
  refine Fr_iconst (i := 2) (v := 2) (by decide +kernel) (by decide) ?_
  obtain ⟨hi_9, h⟩ := ck_elim h
  refine Fr_iald (by decide +kernel) ob_205 (vp_of ln_205 hi_9) ?_
  refine Fr_icmp_ge (off := 91) 151 (by decide +kernel) (by decide) (fun hc => ?_) (fun hc => ?_)
  · have h := iT hc h
    refine Fr_iload (i := 4) 2 (by decide +kernel) rfl ?_
    obtain rfl := Option.some.inj h
    exact Fr_iret (by decide +kernel) rfl ⟨rfl, rfl⟩
  · have h := iF hc h
    refine Fr_iconst (i := 0) (v := 0) (by decide +kernel) (by decide) ?_
    refine Fr_istore (i := 7) (lv' := [(7, .int 0), (0, .ref 200), (3, .int v3), (4, .int v4), (5, .int v5), (6, .int v6)]) (by decide +kernel) (by decide) rfl ?_
    refine Fr_loc [1, 2, 3, 4, 5, 0] rfl ?_
    exact lp_sound (body := fun k a m => f_X12_next_h66 N k52 k a.1 a.2.1 a.2.2.1 a.2.2.2.1 a.2.2.2.2 m) (P := fun a M => Fr 200 21 10 m_X12_next 66 [(0, .ref 200), (3, .int a.1), (4, .int a.2.1), (5, .int a.2.2.1), (6, .int a.2.2.2.1), (7, .int a.2.2.2.2)] [] M (QI q)) (fun k hk a m h => t_X12_next_h66 hk52 hk h) N (v3, v4, v5, v6, 0) M h
set_option maxRecDepth 20000 in
theorem t_X12_next {N : Nat} {x1 : Int32} {x2 : Int32} {M : Mem} {q : Int32 × Mem} (h : f_X12_next N x1 x2 M = some q) : Ev 200 21 10 m_X12_next [.ref 200, .int x1, .int x2] M (QI q) := by
  refine Ev_of_Fr (by decide +kernel) (Nat.le_of_ble_eq_true rfl) ?_
  show Fr 200 21 10 m_X12_next 0 [(0, .ref 200), (1, .int x1), (2, .int x2)] [] M (QI q)
  unfold f_X12_next at h
  refine Fr_aload_n (q := 0) (i := 0) 0 (by decide +kernel) rfl rfl ?_
  refine Fr_iconst (i := 0) (v := 0) (by decide +kernel) (by decide) ?_
  refine pf_X12_84 rfl (by decide +kernel) ob_200 ?_
  obtain ⟨M_1, eM_1, h⟩ := bM_elim h
  refine Fr_mem eM_1 ?_
  refine Fr_aload_n (q := 0) (i := 0) 0 (by decide +kernel) rfl rfl ?_
  refine Fr_aload_n (q := 0) (i := 0) 0 (by decide +kernel) rfl rfl ?_
  refine Fr_iload_n (q := 1) (i := 1) 1 (by decide +kernel) rfl rfl ?_
  refine Fr_iload_n (q := 2) (i := 2) 2 (by decide +kernel) rfl rfl ?_
  obtain ⟨r_4, M_2, hc_3, h⟩ := bi_elim h
  refine Fr_cVi (ν := m_X12_whyNoTries) (As := [.int x1, .int x2]) (st := [.ref 200]) (rc := 200) (ci := 12) (d' := 2) (by decide +kernel) ml_X12_528 cv_X12_whyNoTries rfl (by decide) rfl ob_200 rfl (by decide) (Nat.le_of_ble_eq_true rfl) (t_X12_whyNoTries hc_3) ?_
  refine pf_X12_87 rfl (by decide +kernel) ob_200 ?_
  obtain ⟨M_5, eM_5, h⟩ := bM_elim h
  refine Fr_mem eM_5 ?_
  refine Fr_aload_n (q := 0) (i := 0) 0 (by decide +kernel) rfl rfl ?_
  refine gf_X12_87 rfl (by decide +kernel) ob_200 ?_
  refine Fr_if_le (off := 5) 24 (by decide +kernel) (by decide) (fun hc => ?_) (fun hc => ?_)
  · have h := iT hc h
    refine Fr_aload_n (q := 0) (i := 0) 0 (by decide +kernel) rfl rfl ?_
    refine Fr_iload_n (q := 1) (i := 1) 1 (by decide +kernel) rfl rfl ?_
    refine Fr_iload_n (q := 2) (i := 2) 2 (by decide +kernel) rfl rfl ?_
    obtain ⟨r_8, M_6, hc_7, h⟩ := bi_elim h
    refine Fr_cVi (ν := m_X12_waysBy) (As := [.int x1, .int x2]) (st := []) (rc := 200) (ci := 12) (d' := 9) (by decide +kernel) ml_X12_531 cv_X12_waysBy rfl (by decide) rfl ob_200 rfl (by decide) (Nat.le_of_ble_eq_true rfl) (t_X12_waysBy hc_7) ?_
    refine Fr_istore_n (q := 3) (i := 3) (lv' := [(3, .int r_8), (0, .ref 200), (1, .int x1), (2, .int x2)]) (by decide +kernel) rfl (by decide) rfl ?_
    refine Fr_iload_n (q := 3) (i := 3) 0 (by decide +kernel) rfl rfl ?_
    refine Fr_iconst (i := 2) (v := 2) (by decide +kernel) (by decide) ?_
    refine Fr_icmp_ge (off := 10) 43 (by decide +kernel) (by decide) (fun hc => ?_) (fun hc => ?_)
    · have h := iT hc h
      refine Fr_iconst (i := (-1)) (v := (-1)) (by decide +kernel) (by decide) ?_
      refine Fr_istore (i := 4) (lv' := [(4, .int (-1)), (3, .int r_8), (0, .ref 200), (1, .int x1), (2, .int x2)]) (by decide +kernel) (by decide) rfl ?_
      refine Fr_iconst (i := 0) (v := 0) (by decide +kernel) (by decide) ?_
      refine Fr_istore (i := 5) (lv' := [(5, .int 0), (4, .int (-1)), (3, .int r_8), (0, .ref 200), (1, .int x1), (2, .int x2)]) (by decide +kernel) (by decide) rfl ?_
      refine Fr_iconst (i := 0) (v := 0) (by decide +kernel) (by decide) ?_
      refine Fr_istore (i := 6) (lv' := [(6, .int 0), (5, .int 0), (4, .int (-1)), (3, .int r_8), (0, .ref 200), (1, .int x1), (2, .int x2)]) (by decide +kernel) (by decide) rfl ?_
      refine Fr_loc [4, 3, 2, 1, 0] rfl ?_
      exact lp_sound (body := fun k a m => f_X12_next_h52 N k a.1 a.2.1 a.2.2.1 a.2.2.2 m) (P := fun a M => Fr 200 21 10 m_X12_next 52 [(0, .ref 200), (3, .int a.1), (4, .int a.2.1), (5, .int a.2.2.1), (6, .int a.2.2.2)] [] M (QI q)) (fun k hk a m h => t_X12_next_h52 hk h) N (r_8, (-1), 0, 0) M_6 h
    · have h := iF hc h
      refine Fr_aload_n (q := 0) (i := 0) 1 (by decide +kernel) rfl rfl ?_
      refine Fr_bipush (i := 8) (v := 8) (by decide +kernel) (by decide) ?_
      obtain ⟨r_16, M_14, hc_15, h⟩ := bi_elim h
      refine Fr_cVi (ν := m_X12_refuse) (As := [.int 8]) (st := []) (rc := 200) (ci := 12) (d' := 0) (by decide +kernel) ml_X12_371 cv_X12_refuse rfl (by decide) rfl ob_200 rfl (by decide) (Nat.le_of_ble_eq_true rfl) (t_X12_refuse hc_15) ?_
      obtain rfl := Option.some.inj h
      exact Fr_iret (by decide +kernel) rfl ⟨rfl, rfl⟩
  · have h := iF hc h
    refine Fr_iconst (i := (-1)) (v := (-1)) (by decide +kernel) (by decide) ?_
    obtain rfl := Option.some.inj h
    exact Fr_iret (by decide +kernel) rfl ⟨rfl, rfl⟩
set_option maxRecDepth 20000 in
theorem t_X12_chance_b38 {N : Nat} {q : Bool × Mem} {v1 : Int32} {v2 : Int32} {v3 : Int32} {v4 : Int32} {M : Mem} (h : f_X12_chance_b38 N v1 v2 v3 v4 M = some q) : Fr 200 21 10 m_X12_chance 38 [(0, .ref 200), (1, .int v1), (2, .int v2), (3, .int v3), (4, .int v4)] [] M (QB q) := by
  unfold f_X12_chance_b38 at h
  refine Fr_aload_n (q := 0) (i := 0) 0 (by decide +kernel) rfl rfl ?_
  refine gf_X12_87 rfl (by decide +kernel) ob_200 ?_
  refine Fr_if_le (off := 5) 47 (by decide +kernel) (by decide) (fun hc => ?_) (fun hc => ?_)
  · have h := iT hc h
    refine Fr_aload_n (q := 0) (i := 0) 0 (by decide +kernel) rfl rfl ?_
    refine Fr_iload_n (q := 3) (i := 3) 3 (by decide +kernel) rfl rfl ?_
    refine Fr_iload (i := 4) 4 (by decide +kernel) rfl ?_
    obtain ⟨r_8, M_6, hc_7, h⟩ := bi_elim h
    refine Fr_cVi (ν := m_X12_waysBy) (As := [.int v3, .int v4]) (st := []) (rc := 200) (ci := 12) (d' := 9) (by decide +kernel) ml_X12_531 cv_X12_waysBy rfl (by decide) rfl ob_200 rfl (by decide) (Nat.le_of_ble_eq_true rfl) (t_X12_waysBy hc_7) ?_
    refine Fr_istore (i := 5) (lv' := [(5, .int r_8), (0, .ref 200), (1, .int v1), (2, .int v2), (3, .int v3), (4, .int v4)]) (by decide +kernel) (by decide) rfl ?_
    refine Fr_iload (i := 5) 0 (by decide +kernel) rfl ?_
    refine Fr_if_ne (off := 12) 70 (by decide +kernel) (by decide) (fun hc => ?_) (fun hc => ?_)
    · have h := iF hc h
      refine Fr_aload_n (q := 0) (i := 0) 1 (by decide +kernel) rfl rfl ?_
      refine Fr_aload_n (q := 0) (i := 0) 1 (by decide +kernel) rfl rfl ?_
      refine gf_X12_72 rfl (by decide +kernel) ob_200 ?_
      refine Fr_bipush (i := 6) (v := 6) (by decide +kernel) (by decide) ?_
      refine Fr_iload_n (q := 1) (i := 1) 2 (by decide +kernel) rfl rfl ?_
      refine Fr_imul (by decide +kernel) ?_
      refine Fr_iload_n (q := 2) (i := 2) 3 (by decide +kernel) rfl rfl ?_
      refine Fr_iadd (by decide +kernel) ?_
      obtain ⟨hi_9, h⟩ := ck_elim h
      refine Fr_iald (by decide +kernel) ob_217 (vp_of ln_217 hi_9) ?_
      refine Fr_i2l (by decide +kernel) ?_
      refine Fr_iload (i := 5) 0 (by decide +kernel) rfl ?_
      refine Fr_i2l (by decide +kernel) ?_
      obtain ⟨r_12, M_10, hc_11, h⟩ := bi_elim h
      refine Fr_cVb (ν := m_X12_fraction) (As := [.long (Int32.toInt64 (M_6.1 217 (tn ((6 * v1) + v2)))), .long (Int32.toInt64 r_8)]) (st := []) (rc := 200) (ci := 12) (d' := 1) (by decide +kernel) ml_X12_508 cv_X12_fraction rfl (by decide) rfl ob_200 rfl (by decide) (Nat.le_of_ble_eq_true rfl) (t_X12_fraction hc_11) ?_
      obtain rfl := Option.some.inj h
      exact Fr_zret (by decide +kernel) rfl (nz_b r_12) ⟨rfl, rfl⟩
    · have h := iT hc h
      refine Fr_aload_n (q := 0) (i := 0) 1 (by decide +kernel) rfl rfl ?_
      refine Fr_bipush (i := 8) (v := 8) (by decide +kernel) (by decide) ?_
      obtain ⟨r_15, M_13, hc_14, h⟩ := bi_elim h
      refine Fr_cVb (ν := m_X12_no) (As := [.int 8]) (st := []) (rc := 200) (ci := 12) (d' := 0) (by decide +kernel) ml_X12_99 cv_X12_no rfl (by decide) rfl ob_200 rfl (by decide) (Nat.le_of_ble_eq_true rfl) (t_X12_no hc_14) ?_
      refine Fr_goto (off := 22) 89 (by decide +kernel) (by decide) ?_
      obtain rfl := Option.some.inj h
      exact Fr_zret (by decide +kernel) rfl (nz_b r_15) ⟨rfl, rfl⟩
  · have h := iF hc h
    refine Fr_iconst (i := 0) (v := 0) (by decide +kernel) (by decide) ?_
    obtain rfl := Option.some.inj h
    exact Fr_zret (by decide +kernel) rfl (by decide) ⟨rfl, rfl⟩
set_option maxRecDepth 20000 in
theorem t_X12_chance {N : Nat} {x1 : Int32} {x2 : Int32} {x3 : Int32} {x4 : Int32} {M : Mem} {q : Bool × Mem} (h : f_X12_chance N x1 x2 x3 x4 M = some q) : Ev 200 21 10 m_X12_chance [.ref 200, .int x1, .int x2, .int x3, .int x4] M (QB q) := by
  refine Ev_of_Fr (by decide +kernel) (Nat.le_of_ble_eq_true rfl) ?_
  show Fr 200 21 10 m_X12_chance 0 [(0, .ref 200), (1, .int x1), (2, .int x2), (3, .int x3), (4, .int x4)] [] M (QB q)
  unfold f_X12_chance at h
  refine Fr_aload_n (q := 0) (i := 0) 0 (by decide +kernel) rfl rfl ?_
  refine Fr_iconst (i := 0) (v := 0) (by decide +kernel) (by decide) ?_
  refine pf_X12_84 rfl (by decide +kernel) ob_200 ?_
  obtain ⟨M_1, eM_1, h⟩ := bM_elim h
  refine Fr_mem eM_1 ?_
  refine Fr_aload_n (q := 0) (i := 0) 0 (by decide +kernel) rfl rfl ?_
  refine Fr_aload_n (q := 0) (i := 0) 0 (by decide +kernel) rfl rfl ?_
  refine Fr_iload_n (q := 1) (i := 1) 1 (by decide +kernel) rfl rfl ?_
  refine Fr_iload_n (q := 3) (i := 3) 3 (by decide +kernel) rfl rfl ?_
  refine Fr_iload (i := 4) 4 (by decide +kernel) rfl ?_
  obtain ⟨r_4, M_2, hc_3, h⟩ := bi_elim h
  refine Fr_cVi (ν := m_X12_whyNoKey) (As := [.int x1, .int x3, .int x4]) (st := [.ref 200]) (rc := 200) (ci := 12) (d' := 3) (by decide +kernel) ml_X12_534 cv_X12_whyNoKey rfl (by decide) rfl ob_200 rfl (by decide) (Nat.le_of_ble_eq_true rfl) (t_X12_whyNoKey hc_3) ?_
  refine pf_X12_87 rfl (by decide +kernel) ob_200 ?_
  obtain ⟨M_5, eM_5, h⟩ := bM_elim h
  refine Fr_mem eM_5 ?_
  refine Fr_aload_n (q := 0) (i := 0) 0 (by decide +kernel) rfl rfl ?_
  refine gf_X12_87 rfl (by decide +kernel) ob_200 ?_
  refine Fr_iconst (i := 1) (v := 1) (by decide +kernel) (by decide) ?_
  refine Fr_icmp_eq (off := 16) 38 (by decide +kernel) (by decide) (fun hc => ?_) (fun hc => ?_)
  · have h := iT hc h
    exact t_X12_chance_b38 h
  · have h := iF hc h
    refine Fr_aload_n (q := 0) (i := 0) 0 (by decide +kernel) rfl rfl ?_
    refine Fr_iload_n (q := 2) (i := 2) 2 (by decide +kernel) rfl rfl ?_
    obtain ⟨r_18, M_16, hc_17, h⟩ := bi_elim h
    refine Fr_cVb (ν := m_X12_isGateAt) (As := [.int x2]) (st := []) (rc := 200) (ci := 12) (d' := 1) (by decide +kernel) ml_X12_380 cv_X12_isGateAt rfl (by decide) rfl ob_200 rfl (by decide) (Nat.le_of_ble_eq_true rfl) (t_X12_isGateAt hc_17) ?_
    refine Fr_if_ne (off := 8) 38 (by decide +kernel) (by decide) (fun hc => ?_) (fun hc => ?_)
    · have h := iF hc h
      exact t_X12_chance_b38 h
    · have h := iT hc h
      refine Fr_aload_n (q := 0) (i := 0) 0 (by decide +kernel) rfl rfl ?_
      refine Fr_iconst (i := 2) (v := 2) (by decide +kernel) (by decide) ?_
      refine pf_X12_87 rfl (by decide +kernel) ob_200 ?_
      obtain ⟨M_19, eM_19, h⟩ := bM_elim h
      refine Fr_mem eM_19 ?_
      exact t_X12_chance_b38 h
set_option maxRecDepth 20000 in
theorem t_X12_draw {x1 : Int32} {M : Mem} {q : Int32 × Mem} (h : f_X12_draw x1 M = some q) : Ev 200 21 0 m_X12_draw [.ref 200, .int x1] M (QI q) := by
  refine Ev_of_Fr (by decide +kernel) (Nat.le_of_ble_eq_true rfl) ?_
  show Fr 200 21 0 m_X12_draw 0 [(0, .ref 200), (1, .int x1)] [] M (QI q)
  unfold f_X12_draw at h
  refine Fr_aload_n (q := 0) (i := 0) 0 (by decide +kernel) rfl rfl ?_
  refine Fr_aload_n (q := 0) (i := 0) 0 (by decide +kernel) rfl rfl ?_
  refine gf_X12_538 rfl (by decide +kernel) ob_200 ?_
  refine Fr_sipush (i := 2971) (v := 2971) (by decide +kernel) (by decide) ?_
  refine Fr_imul (by decide +kernel) ?_
  refine Fr_sipush (i := 10667) (v := 10667) (by decide +kernel) (by decide) ?_
  refine Fr_iadd (by decide +kernel) ?_
  refine Fr_ldcw (idx := 541) (v := 65536) (by decide +kernel) lc_X12_541 ?_
  refine Fr_irem (by decide +kernel) (by decide) ?_
  refine pf_X12_538 rfl (by decide +kernel) ob_200 ?_
  obtain ⟨M_1, eM_1, h⟩ := bM_elim h
  refine Fr_mem eM_1 ?_
  refine Fr_aload_n (q := 0) (i := 0) 0 (by decide +kernel) rfl rfl ?_
  refine gf_X12_538 rfl (by decide +kernel) ob_200 ?_
  refine Fr_bipush (i := 8) (v := 8) (by decide +kernel) (by decide) ?_
  refine Fr_idiv (by decide +kernel) (by decide) ?_
  refine Fr_iload_n (q := 1) (i := 1) 1 (by decide +kernel) rfl rfl ?_
  obtain ⟨hz_2, h⟩ := cz_elim h
  refine Fr_irem (by decide +kernel) hz_2 ?_
  obtain rfl := Option.some.inj h
  exact Fr_iret (by decide +kernel) rfl ⟨rfl, rfl⟩
set_option maxRecDepth 20000 in
theorem t_X12_anyHours_h19 {N : Nat} {q : Bool × Mem} {k19 : Int32 × Int32 → Mem → Option (Bool × Mem)} (hk19 : ∀ (a : Int32 × Int32) (M : Mem), k19 a M = some q → Fr 200 21 5 m_X12_anyHours 19 [(0, .ref 200), (1, .int a.1), (2, .int a.2)] [] M (QB q)) {v1 : Int32} {v2 : Int32} {M : Mem} (h : f_X12_anyHours_h19 N k19 v1 v2 M = some q) : Fr 200 21 5 m_X12_anyHours 19 [(0, .ref 200), (1, .int v1), (2, .int v2)] [] M (QB q) := by
  unfold f_X12_anyHours_h19 at h
  refine Fr_iload_n (q := 2) (i := 2) 2 (by decide +kernel) rfl rfl ?_
  refine Fr_iload_n (q := 1) (i := 1) 1 (by decide +kernel) rfl rfl ?_
  refine Fr_icmp_ge (off := 26) 47 (by decide +kernel) (by decide) (fun hc => ?_) (fun hc => ?_)
  · have h := iT hc h
    refine Fr_aload_n (q := 0) (i := 0) 0 (by decide +kernel) rfl rfl ?_
    refine Fr_dup (by decide +kernel) rfl ?_
    refine gf_X12_545 rfl (by decide +kernel) ob_200 ?_
    refine Fr_iload_n (q := 1) (i := 1) 1 (by decide +kernel) rfl rfl ?_
    refine Fr_iadd (by decide +kernel) ?_
    refine pf_X12_545 rfl (by decide +kernel) ob_200 ?_
    obtain ⟨M_2, eM_2, h⟩ := bM_elim h
    refine Fr_mem eM_2 ?_
    refine Fr_iconst (i := 1) (v := 1) (by decide +kernel) (by decide) ?_
    obtain rfl := Option.some.inj h
    exact Fr_zret (by decide +kernel) rfl (by decide) ⟨rfl, rfl⟩
  · have h := iF hc h
    refine Fr_aload_n (q := 0) (i := 0) 0 (by decide +kernel) rfl rfl ?_
    obtain ⟨M_3, hc_4, h⟩ := bv_elim h
    refine Fr_cVv (ν := m_X12_goesHour) (As := []) (st := []) (rc := 200) (ci := 12) (d' := 4) (by decide +kernel) ml_X12_422 cv_X12_goesHour rfl (by decide) rfl ob_200 rfl (by decide) (Nat.le_of_ble_eq_true rfl) (t_X12_goesHour hc_4) ?_
    refine Fr_aload_n (q := 0) (i := 0) 0 (by decide +kernel) rfl rfl ?_
    refine Fr_dup (by decide +kernel) rfl ?_
    refine gf_X12_542 rfl (by decide +kernel) ob_200 ?_
    refine Fr_aload_n (q := 0) (i := 0) 0 (by decide +kernel) rfl rfl ?_
    obtain ⟨r_7, M_5, hc_6, h⟩ := bi_elim h
    refine Fr_cVi (ν := m_X12_foggyMany) (As := []) (st := [.int (M_3.1 200 48), .ref 200]) (rc := 200) (ci := 12) (d' := 2) (by decide +kernel) ml_X12_377 cv_X12_foggyMany rfl (by decide) rfl ob_200 rfl (by decide) (Nat.le_of_ble_eq_true rfl) (t_X12_foggyMany hc_6) ?_
    refine Fr_iadd (by decide +kernel) ?_
    refine pf_X12_542 rfl (by decide +kernel) ob_200 ?_
    obtain ⟨M_8, eM_8, h⟩ := bM_elim h
    refine Fr_mem eM_8 ?_
    refine Fr_iinc (i := 2) (j := 1) (v := (v2 + 1)) (lv' := [(2, .int (v2 + 1)), (0, .ref 200), (1, .int v1)]) 2 (by decide +kernel) rfl rfl (by decide) rfl ?_
    refine Fr_goto (off := (-25)) 19 (by decide +kernel) (by decide) ?_
    refine Fr_loc [1, 2, 0] rfl ?_
    exact hk19 (v1, (v2 + 1)) M_8 h
set_option maxRecDepth 20000 in
theorem t_X12_anyHours {N : Nat} {x1 : Int32} {M : Mem} {q : Bool × Mem} (h : f_X12_anyHours N x1 M = some q) : Ev 200 21 5 m_X12_anyHours [.ref 200, .int x1] M (QB q) := by
  refine Ev_of_Fr (by decide +kernel) (Nat.le_of_ble_eq_true rfl) ?_
  show Fr 200 21 5 m_X12_anyHours 0 [(0, .ref 200), (1, .int x1)] [] M (QB q)
  unfold f_X12_anyHours at h
  refine Fr_aload_n (q := 0) (i := 0) 0 (by decide +kernel) rfl rfl ?_
  refine gf_X12_35 rfl (by decide +kernel) ob_200 ?_
  refine Fr_bipush (i := 9) (v := 9) (by decide +kernel) (by decide) ?_
  obtain ⟨hi_1, h⟩ := ck_elim h
  refine Fr_iald (by decide +kernel) ob_205 (vp_of ln_205 hi_1) ?_
  refine Fr_iload_n (q := 1) (i := 1) 1 (by decide +kernel) rfl rfl ?_
  refine Fr_iadd (by decide +kernel) ?_
  refine Fr_sipush (i := 9999) (v := 9999) (by decide +kernel) (by decide) ?_
  refine Fr_icmp_le (off := 5) 17 (by decide +kernel) (by decide) (fun hc => ?_) (fun hc => ?_)
  · have h := iT hc h
    refine Fr_iconst (i := 0) (v := 0) (by decide +kernel) (by decide) ?_
    refine Fr_istore_n (q := 2) (i := 2) (lv' := [(2, .int 0), (0, .ref 200), (1, .int x1)]) (by decide +kernel) rfl (by decide) rfl ?_
    refine Fr_loc [1, 2, 0] rfl ?_
    exact lp_sound (body := fun k a m => f_X12_anyHours_h19 N k a.1 a.2 m) (P := fun a M => Fr 200 21 5 m_X12_anyHours 19 [(0, .ref 200), (1, .int a.1), (2, .int a.2)] [] M (QB q)) (fun k hk a m h => t_X12_anyHours_h19 hk h) N (x1, 0) M h
  · have h := iF hc h
    refine Fr_iconst (i := 0) (v := 0) (by decide +kernel) (by decide) ?_
    obtain rfl := Option.some.inj h
    exact Fr_zret (by decide +kernel) rfl (by decide) ⟨rfl, rfl⟩
set_option maxRecDepth 20000 in
theorem t_X12_isStorm_h16 {N : Nat} {q : Bool × Mem} {k16 : Int32 × Int32 → Mem → Option (Bool × Mem)} (hk16 : ∀ (a : Int32 × Int32) (M : Mem), k16 a M = some q → Fr 200 21 1 m_X12_isStorm 16 [(0, .ref 200), (1, .int a.1), (2, .int a.2)] [] M (QB q)) {v1 : Int32} {v2 : Int32} {M : Mem} (h : f_X12_isStorm_h16 N k16 v1 v2 M = some q) : Fr 200 21 1 m_X12_isStorm 16 [(0, .ref 200), (1, .int v1), (2, .int v2)] [] M (QB q) := by
  unfold f_X12_isStorm_h16 at h
  refine Fr_iload_n (q := 2) (i := 2) 2 (by decide +kernel) rfl rfl ?_
  refine Fr_aload_n (q := 0) (i := 0) 0 (by decide +kernel) rfl rfl ?_
  refine gf_X12_35 rfl (by decide +kernel) ob_200 ?_
  refine Fr_iconst (i := 2) (v := 2) (by decide +kernel) (by decide) ?_
  obtain ⟨hi_6, h⟩ := ck_elim h
  refine Fr_iald (by decide +kernel) ob_205 (vp_of ln_205 hi_6) ?_
  refine Fr_icmp_ge (off := 19) 42 (by decide +kernel) (by decide) (fun hc => ?_) (fun hc => ?_)
  · have h := iT hc h
    refine Fr_aload_n (q := 0) (i := 0) 0 (by decide +kernel) rfl rfl ?_
    refine gf_X12_35 rfl (by decide +kernel) ob_200 ?_
    refine Fr_bipush (i := 10) (v := 10) (by decide +kernel) (by decide) ?_
    refine Fr_iload_n (q := 1) (i := 1) 1 (by decide +kernel) rfl rfl ?_
    obtain ⟨hi_7, h⟩ := ck_elim h
    refine Fr_iast (by decide +kernel) ob_205 (vp_of ln_205 hi_7) ?_
    obtain ⟨M_8, eM_8, h⟩ := bM_elim h
    refine Fr_mem eM_8 ?_
    refine Fr_aload_n (q := 0) (i := 0) 0 (by decide +kernel) rfl rfl ?_
    refine Fr_dup (by decide +kernel) rfl ?_
    refine gf_X12_551 rfl (by decide +kernel) ob_200 ?_
    refine Fr_iconst (i := 1) (v := 1) (by decide +kernel) (by decide) ?_
    refine Fr_iadd (by decide +kernel) ?_
    refine pf_X12_551 rfl (by decide +kernel) ob_200 ?_
    obtain ⟨M_9, eM_9, h⟩ := bM_elim h
    refine Fr_mem eM_9 ?_
    refine Fr_iconst (i := 1) (v := 1) (by decide +kernel) (by decide) ?_
    obtain rfl := Option.some.inj h
    exact Fr_zret (by decide +kernel) rfl (by decide) ⟨rfl, rfl⟩
  · have h := iF hc h
    refine Fr_iload_n (q := 1) (i := 1) 1 (by decide +kernel) rfl rfl ?_
    refine Fr_aload_n (q := 0) (i := 0) 0 (by decide +kernel) rfl rfl ?_
    refine Fr_iconst (i := 2) (v := 2) (by decide +kernel) (by decide) ?_
    obtain ⟨r_12, M_10, hc_11, h⟩ := bi_elim h
    refine Fr_cVi (ν := m_X12_draw) (As := [.int 2]) (st := [.int v1]) (rc := 200) (ci := 12) (d' := 0) (by decide +kernel) ml_X12_548 cv_X12_draw rfl (by decide) rfl ob_200 rfl (by decide) (Nat.le_of_ble_eq_true rfl) (t_X12_draw hc_11) ?_
    refine Fr_iload_n (q := 2) (i := 2) 2 (by decide +kernel) rfl rfl ?_
    refine Fr_ishl (by decide +kernel) ?_
    refine Fr_ior (by decide +kernel) ?_
    obtain ⟨y_13, ey_13, h⟩ := bI_elim h
    refine Fr_topI ey_13 ?_
    refine Fr_istore_n (q := 1) (i := 1) (lv' := [(1, .int y_13), (0, .ref 200), (2, .int v2)]) (by decide +kernel) rfl (by decide) rfl ?_
    refine Fr_iinc (i := 2) (j := 1) (v := (v2 + 1)) (lv' := [(2, .int (v2 + 1)), (1, .int y_13), (0, .ref 200)]) 2 (by decide +kernel) rfl rfl (by decide) rfl ?_
    refine Fr_goto (off := (-23)) 16 (by decide +kernel) (by decide) ?_
    refine Fr_loc [2, 1, 0] rfl ?_
    exact hk16 (y_13, (v2 + 1)) M_10 h
set_option maxRecDepth 20000 in
theorem t_X12_isStorm {N : Nat} {M : Mem} {q : Bool × Mem} (h : f_X12_isStorm N M = some q) : Ev 200 21 1 m_X12_isStorm [.ref 200] M (QB q) := by
  refine Ev_of_Fr (by decide +kernel) (Nat.le_of_ble_eq_true rfl) ?_
  show Fr 200 21 1 m_X12_isStorm 0 [(0, .ref 200)] [] M (QB q)
  unfold f_X12_isStorm at h
  refine Fr_aload_n (q := 0) (i := 0) 0 (by decide +kernel) rfl rfl ?_
  refine gf_X12_35 rfl (by decide +kernel) ob_200 ?_
  refine Fr_bipush (i := 6) (v := 6) (by decide +kernel) (by decide) ?_
  refine Fr_aload_n (q := 0) (i := 0) 0 (by decide +kernel) rfl rfl ?_
  refine Fr_iconst (i := 5) (v := 5) (by decide +kernel) (by decide) ?_
  obtain ⟨r_3, M_1, hc_2, h⟩ := bi_elim h
  refine Fr_cVi (ν := m_X12_draw) (As := [.int 5]) (st := [.int 6, .ref 205]) (rc := 200) (ci := 12) (d' := 0) (by decide +kernel) ml_X12_548 cv_X12_draw rfl (by decide) rfl ob_200 rfl (by decide) (Nat.le_of_ble_eq_true rfl) (t_X12_draw hc_2) ?_
  obtain ⟨hi_4, h⟩ := ck_elim h
  refine Fr_iast (by decide +kernel) ob_205 (vp_of ln_205 hi_4) ?_
  obtain ⟨M_5, eM_5, h⟩ := bM_elim h
  refine Fr_mem eM_5 ?_
  refine Fr_iconst (i := 0) (v := 0) (by decide +kernel) (by decide) ?_
  refine Fr_istore_n (q := 1) (i := 1) (lv' := [(1, .int 0), (0, .ref 200)]) (by decide +kernel) rfl (by decide) rfl ?_
  refine Fr_iconst (i := 0) (v := 0) (by decide +kernel) (by decide) ?_
  refine Fr_istore_n (q := 2) (i := 2) (lv' := [(2, .int 0), (1, .int 0), (0, .ref 200)]) (by decide +kernel) rfl (by decide) rfl ?_
  refine Fr_loc [2, 1, 0] rfl ?_
  exact lp_sound (body := fun k a m => f_X12_isStorm_h16 N k a.1 a.2 m) (P := fun a M => Fr 200 21 1 m_X12_isStorm 16 [(0, .ref 200), (1, .int a.1), (2, .int a.2)] [] M (QB q)) (fun k hk a m h => t_X12_isStorm_h16 hk h) N (0, 0) M_5 h
set_option maxRecDepth 20000 in
theorem t_X12_does_b91 {N : Nat} {q : Bool × Mem} {v3 : Int32} {s0 : Int32} {s1 : Int32} {M : Mem} (h : f_X12_does_b91 N v3 s0 s1 M = some q) : Fr 200 21 6 m_X12_does 91 [(0, .ref 200), (3, .int v3)] [.int s0, .int s1] M (QB q) := by
  unfold f_X12_does_b91 at h
  refine Fr_icmp_ne (off := 5) 96 (by decide +kernel) (by decide) (fun hc => ?_) (fun hc => ?_)
  · have h := iF hc h
    refine Fr_aload_n (q := 0) (i := 0) 0 (by decide +kernel) rfl rfl ?_
    refine gf_X12_35 rfl (by decide +kernel) ob_200 ?_
    refine Fr_bipush (i := 10) (v := 10) (by decide +kernel) (by decide) ?_
    refine Fr_dup2 (by decide +kernel) rfl rfl ?_
    obtain ⟨hi_7, h⟩ := ck_elim h
    refine Fr_iald (by decide +kernel) ob_205 (vp_of ln_205 hi_7) ?_
    refine Fr_iconst (i := 1) (v := 1) (by decide +kernel) (by decide) ?_
    refine Fr_iload_n (q := 3) (i := 3) 1 (by decide +kernel) rfl rfl ?_
    refine Fr_ishl (by decide +kernel) ?_
    refine Fr_ixor (by decide +kernel) ?_
    obtain ⟨hi_8, h⟩ := ck_elim h
    refine Fr_iast (by decide +kernel) ob_205 (vp_of ln_205 hi_8) ?_
    obtain ⟨M_9, eM_9, h⟩ := bM_elim h
    refine Fr_mem eM_9 ?_
    refine Fr_iconst (i := 1) (v := 1) (by decide +kernel) (by decide) ?_
    obtain rfl := Option.some.inj h
    exact Fr_zret (by decide +kernel) rfl (by decide) ⟨rfl, rfl⟩
  · have h := iT hc h
    refine Fr_iconst (i := 0) (v := 0) (by decide +kernel) (by decide) ?_
    obtain rfl := Option.some.inj h
    exact Fr_zret (by decide +kernel) rfl (by decide) ⟨rfl, rfl⟩
set_option maxRecDepth 20000 in
theorem t_X12_does_b57 {N : Nat} {q : Bool × Mem} {v3 : Int32} {s0 : Int32} {M : Mem} (h : f_X12_does_b57 N v3 s0 M = some q) : Fr 200 21 6 m_X12_does 57 [(0, .ref 200), (3, .int v3)] [.int s0] M (QB q) := by
  unfold f_X12_does_b57 at h
  refine Fr_istore (i := 4) (lv' := [(4, .int s0), (0, .ref 200), (3, .int v3)]) (by decide +kernel) (by decide) rfl ?_
  refine Fr_aload_n (q := 0) (i := 0) 1 (by decide +kernel) rfl rfl ?_
  refine gf_X12_35 rfl (by decide +kernel) ob_200 ?_
  refine Fr_bipush (i := 6) (v := 6) (by decide +kernel) (by decide) ?_
  refine Fr_iload_n (q := 3) (i := 3) 2 (by decide +kernel) rfl rfl ?_
  obtain ⟨hi_11, h⟩ := ck_elim h
  refine Fr_iast (by decide +kernel) ob_205 (vp_of ln_205 hi_11) ?_
  obtain ⟨M_12, eM_12, h⟩ := bM_elim h
  refine Fr_mem eM_12 ?_
  refine Fr_iload (i := 4) 0 (by decide +kernel) rfl ?_
  obtain ⟨b_13, eb_13, h⟩ := zb_elim h
  refine Fr_topI eb_13.symm ?_
  obtain rfl := Option.some.inj h
  exact Fr_zret (by decide +kernel) rfl (nz_b b_13) ⟨rfl, rfl⟩
set_option maxRecDepth 20000 in
theorem t_X12_does {N : Nat} {x1 : Int32} {M : Mem} {q : Bool × Mem} (h : f_X12_does N x1 M = some q) : Ev 200 21 6 m_X12_does [.ref 200, .int x1] M (QB q) := by
  refine Ev_of_Fr (by decide +kernel) (Nat.le_of_ble_eq_true rfl) ?_
  show Fr 200 21 6 m_X12_does 0 [(0, .ref 200), (1, .int x1)] [] M (QB q)
  unfold f_X12_does at h
  refine Fr_aload_n (q := 0) (i := 0) 0 (by decide +kernel) rfl rfl ?_
  refine gf_X12_35 rfl (by decide +kernel) ob_200 ?_
  refine Fr_iload_n (q := 1) (i := 1) 1 (by decide +kernel) rfl rfl ?_
  obtain ⟨hi_1, h⟩ := ck_elim h
  refine Fr_iald (by decide +kernel) ob_205 (vp_of ln_205 hi_1) ?_
  refine Fr_istore_n (q := 2) (i := 2) (lv' := [(2, .int (M.1 205 (tn x1))), (0, .ref 200), (1, .int x1)]) (by decide +kernel) rfl (by decide) rfl ?_
  refine Fr_aload_n (q := 0) (i := 0) 1 (by decide +kernel) rfl rfl ?_
  refine gf_X12_35 rfl (by decide +kernel) ob_200 ?_
  refine Fr_iload_n (q := 1) (i := 1) 2 (by decide +kernel) rfl rfl ?_
  refine Fr_iconst (i := 1) (v := 1) (by decide +kernel) (by decide) ?_
  refine Fr_iadd (by decide +kernel) ?_
  obtain ⟨hi_2, h⟩ := ck_elim h
  refine Fr_iald (by decide +kernel) ob_205 (vp_of ln_205 hi_2) ?_
  refine Fr_istore_n (q := 3) (i := 3) (lv' := [(3, .int (M.1 205 (tn (x1 + 1)))), (2, .int (M.1 205 (tn x1))), (0, .ref 200), (1, .int x1)]) (by decide +kernel) rfl (by decide) rfl ?_
  refine Fr_iload_n (q := 2) (i := 2) 1 (by decide +kernel) rfl rfl ?_
  refine Fr_if_ne (off := 9) 26 (by decide +kernel) (by decide) (fun hc => ?_) (fun hc => ?_)
  · have h := iF hc h
    refine Fr_iload_n (q := 2) (i := 2) 1 (by decide +kernel) rfl rfl ?_
    refine Fr_iconst (i := 4) (v := 4) (by decide +kernel) (by decide) ?_
    refine Fr_icmp_ne (off := 8) 36 (by decide +kernel) (by decide) (fun hc => ?_) (fun hc => ?_)
    · have h := iF hc h
      refine Fr_iload_n (q := 2) (i := 2) 1 (by decide +kernel) rfl rfl ?_
      refine Fr_iconst (i := 3) (v := 3) (by decide +kernel) (by decide) ?_
      refine Fr_icmp_ne (off := 32) 70 (by decide +kernel) (by decide) (fun hc => ?_) (fun hc => ?_)
      · have h := iF hc h
        refine Fr_aload_n (q := 0) (i := 0) 2 (by decide +kernel) rfl rfl ?_
        refine gf_X12_35 rfl (by decide +kernel) ob_200 ?_
        refine Fr_bipush (i := 10) (v := 10) (by decide +kernel) (by decide) ?_
        obtain ⟨hi_3, h⟩ := ck_elim h
        refine Fr_iald (by decide +kernel) ob_205 (vp_of ln_205 hi_3) ?_
        refine Fr_iload_n (q := 3) (i := 3) 0 (by decide +kernel) rfl rfl ?_
        obtain ⟨r_6, M_4, hc_5, h⟩ := bi_elim h
        refine Fr_cSb (ν := m_X12_has) (As := [.int (M.1 205 (tn 10)), .int (M.1 205 (tn (x1 + 1)))]) (st := []) (d' := 0) (by decide +kernel) ml_X12_123 cs_X12_has rfl (by decide) (Nat.le_of_ble_eq_true rfl) (t_X12_has hc_5) ?_
        refine Fr_iload_n (q := 2) (i := 2) 1 (by decide +kernel) rfl rfl ?_
        refine Fr_iconst (i := 1) (v := 1) (by decide +kernel) (by decide) ?_
        refine Fr_icmp_ne (off := 7) 90 (by decide +kernel) (by decide) (fun hc => ?_) (fun hc => ?_)
        · have h := iF hc h
          refine Fr_iconst (i := 0) (v := 0) (by decide +kernel) (by decide) ?_
          refine Fr_loc [2, 0] rfl ?_
          exact t_X12_does_b91 h
        · have h := iT hc h
          refine Fr_iconst (i := 1) (v := 1) (by decide +kernel) (by decide) ?_
          refine Fr_goto (off := 4) 91 (by decide +kernel) (by decide) ?_
          refine Fr_loc [2, 0] rfl ?_
          exact t_X12_does_b91 h
      · have h := iT hc h
        refine Fr_aload_n (q := 0) (i := 0) 2 (by decide +kernel) rfl rfl ?_
        refine gf_X12_35 rfl (by decide +kernel) ob_200 ?_
        refine Fr_bipush (i := 6) (v := 6) (by decide +kernel) (by decide) ?_
        obtain ⟨hi_10, h⟩ := ck_elim h
        refine Fr_iald (by decide +kernel) ob_205 (vp_of ln_205 hi_10) ?_
        refine Fr_iload_n (q := 3) (i := 3) 0 (by decide +kernel) rfl rfl ?_
        refine Fr_icmp_eq (off := 7) 56 (by decide +kernel) (by decide) (fun hc => ?_) (fun hc => ?_)
        · have h := iT hc h
          refine Fr_iconst (i := 0) (v := 0) (by decide +kernel) (by decide) ?_
          refine Fr_loc [2, 0] rfl ?_
          exact t_X12_does_b57 h
        · have h := iF hc h
          refine Fr_iconst (i := 1) (v := 1) (by decide +kernel) (by decide) ?_
          refine Fr_goto (off := 4) 57 (by decide +kernel) (by decide) ?_
          refine Fr_loc [2, 0] rfl ?_
          exact t_X12_does_b57 h
    · have h := iT hc h
      refine Fr_aload_n (q := 0) (i := 0) 2 (by decide +kernel) rfl rfl ?_
      obtain ⟨r_16, M_14, hc_15, h⟩ := bi_elim h
      refine Fr_cVb (ν := m_X12_isStorm) (As := []) (st := []) (rc := 200) (ci := 12) (d' := 1) (by decide +kernel) ml_X12_557 cv_X12_isStorm rfl (by decide) rfl ob_200 rfl (by decide) (Nat.le_of_ble_eq_true rfl) (t_X12_isStorm hc_15) ?_
      obtain rfl := Option.some.inj h
      exact Fr_zret (by decide +kernel) rfl (nz_b r_16) ⟨rfl, rfl⟩
  · have h := iT hc h
    refine Fr_aload_n (q := 0) (i := 0) 2 (by decide +kernel) rfl rfl ?_
    refine Fr_iload_n (q := 3) (i := 3) 0 (by decide +kernel) rfl rfl ?_
    obtain ⟨r_19, M_17, hc_18, h⟩ := bi_elim h
    refine Fr_cVb (ν := m_X12_anyHours) (As := [.int (M.1 205 (tn (x1 + 1)))]) (st := []) (rc := 200) (ci := 12) (d' := 5) (by decide +kernel) ml_X12_554 cv_X12_anyHours rfl (by decide) rfl ob_200 rfl (by decide) (Nat.le_of_ble_eq_true rfl) (t_X12_anyHours hc_18) ?_
    obtain rfl := Option.some.inj h
    exact Fr_zret (by decide +kernel) rfl (nz_b r_19) ⟨rfl, rfl⟩
