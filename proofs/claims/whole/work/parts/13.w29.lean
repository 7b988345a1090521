set_option maxRecDepth 20000 in
theorem t_X12_sail_b314 {N : Nat} {q : Int32 × Mem} {v4 : Int32} {M : Mem} (h : f_X12_sail_b314 N v4 M = some q) : Fr 200 21 5 m_X12_sail 314 [(0, .ref 200), (4, .int v4)] [] M (QI q) := by
  unfold f_X12_sail_b314 at h
  refine Fr_aload_n (q := 0) (i := 0) 0 (by decide +kernel) rfl rfl ?_
  obtain ⟨M_14, hc_15, h⟩ := bv_elim h
  refine Fr_cVv (ν := m_X12_gives) (As := []) (st := []) (rc := 200) (ci := 12) (d' := 0) (by decide +kernel) ml_X12_442 cv_X12_gives rfl (by decide) rfl ob_200 rfl (by decide) (Nat.le_of_ble_eq_true rfl) (t_X12_gives hc_15) ?_
  refine Fr_iload (i := 4) 1 (by decide +kernel) rfl ?_
  refine Fr_bipush (i := 48) (v := 48) (by decide +kernel) (by decide) ?_
  refine Fr_icmp_le (off := 12) 334 (by decide +kernel) (by decide) (fun hc => ?_) (fun hc => ?_)
  · have h := iT hc h
    refine Fr_iload (i := 4) 1 (by decide +kernel) rfl ?_
    obtain rfl := Option.some.inj h
    exact Fr_iret (by decide +kernel) rfl ⟨rfl, rfl⟩
  · have h := iF hc h
    refine Fr_aload_n (q := 0) (i := 0) 0 (by decide +kernel) rfl rfl ?_
    refine Fr_bipush (i := 8) (v := 8) (by decide +kernel) (by decide) ?_
    obtain ⟨r_18, M_16, hc_17, h⟩ := bi_elim h
    refine Fr_cVi (ν := m_X12_refuse) (As := [.int 8]) (st := []) (rc := 200) (ci := 12) (d' := 0) (by decide +kernel) ml_X12_371 cv_X12_refuse rfl (by decide) rfl ob_200 rfl (by decide) (Nat.le_of_ble_eq_true rfl) (t_X12_refuse hc_17) ?_
    refine Fr_goto (off := 5) 336 (by decide +kernel) (by decide) ?_
    obtain rfl := Option.some.inj h
    exact Fr_iret (by decide +kernel) rfl ⟨rfl, rfl⟩
set_option maxRecDepth 20000 in
theorem t_X12_sail_h282 {N : Nat} {q : Int32 × Mem} {k128 : Int32 × Int32 × Int32 → Mem → Option (Int32 × Mem)} (hk128 : ∀ (a : Int32 × Int32 × Int32) (M : Mem), k128 a M = some q → Fr 200 21 5 m_X12_sail 128 [(0, .ref 200), (2, .int a.1), (3, .int a.2.1), (4, .int a.2.2)] [] M (QI q)) {k282 : Int32 × Int32 × Int32 × Int32 → Mem → Option (Int32 × Mem)} (hk282 : ∀ (a : Int32 × Int32 × Int32 × Int32) (M : Mem), k282 a M = some q → Fr 200 21 5 m_X12_sail 282 [(0, .ref 200), (2, .int a.1), (3, .int a.2.1), (4, .int a.2.2.1), (5, .int a.2.2.2)] [] M (QI q)) {v2 : Int32} {v3 : Int32} {v4 : Int32} {v5 : Int32} {M : Mem} (h : f_X12_sail_h282 N k128 k282 v2 v3 v4 v5 M = some q) : Fr 200 21 5 m_X12_sail 282 [(0, .ref 200), (2, .int v2), (3, .int v3), (4, .int v4), (5, .int v5)] [] M (QI q) := by
  unfold f_X12_sail_h282 at h
  refine Fr_iload (i := 5) 4 (by decide +kernel) rfl ?_
  refine Fr_aload_n (q := 0) (i := 0) 0 (by decide +kernel) rfl rfl ?_
  obtain ⟨r_27, M_25, hc_26, h⟩ := bi_elim h
  refine Fr_cVi (ν := m_X12_boards) (As := []) (st := [.int v5]) (rc := 200) (ci := 12) (d' := 0) (by decide +kernel) ml_X12_363 cv_X12_boards rfl (by decide) rfl ob_200 rfl (by decide) (Nat.le_of_ble_eq_true rfl) (t_X12_boards hc_26) ?_
  refine Fr_icmp_ge (off := 23) 311 (by decide +kernel) (by decide) (fun hc => ?_) (fun hc => ?_)
  · have h := iT hc h
    refine Fr_goto (off := (-183)) 128 (by decide +kernel) (by decide) ?_
    refine Fr_loc [0, 1, 2, 3] rfl ?_
    exact hk128 (v2, v3, v4) M_25 h
  · have h := iF hc h
    refine Fr_aload_n (q := 0) (i := 0) 0 (by decide +kernel) rfl rfl ?_
    refine gf_X12_56 rfl (by decide +kernel) ob_200 ?_
    refine Fr_iload (i := 5) 4 (by decide +kernel) rfl ?_
    refine Fr_aload_n (q := 0) (i := 0) 0 (by decide +kernel) rfl rfl ?_
    refine gf_X12_60 rfl (by decide +kernel) ob_200 ?_
    refine Fr_iload (i := 5) 4 (by decide +kernel) rfl ?_
    obtain ⟨hi_28, h⟩ := ck_elim h
    refine Fr_zald (by decide +kernel) ob_213 (vp_of ln_213 hi_28) ?_
    obtain ⟨hi_29, h⟩ := ck_elim h
    refine Fr_zast (by decide +kernel) ob_212 (vp_of ln_212 hi_29) ?_
    obtain ⟨M_30, eM_30, h⟩ := bM_elim h
    refine Fr_mem eM_30 ?_
    refine Fr_iinc (i := 5) (j := 1) (v := (v5 + 1)) (lv' := [(5, .int (v5 + 1)), (0, .ref 200), (2, .int v2), (3, .int v3), (4, .int v4)]) 4 (by decide +kernel) rfl rfl (by decide) rfl ?_
    refine Fr_goto (off := (-26)) 282 (by decide +kernel) (by decide) ?_
    refine Fr_loc [1, 2, 3, 4, 0] rfl ?_
    exact hk282 (v2, v3, v4, (v5 + 1)) M_30 h
set_option maxRecDepth 20000 in
theorem t_X12_sail_b272 {N : Nat} {q : Int32 × Mem} {k128 : Int32 × Int32 × Int32 → Mem → Option (Int32 × Mem)} (hk128 : ∀ (a : Int32 × Int32 × Int32) (M : Mem), k128 a M = some q → Fr 200 21 5 m_X12_sail 128 [(0, .ref 200), (2, .int a.1), (3, .int a.2.1), (4, .int a.2.2)] [] M (QI q)) {k154 : Int32 × Int32 × Int32 × Int32 → Mem → Option (Int32 × Mem)} (hk154 : ∀ (a : Int32 × Int32 × Int32 × Int32) (M : Mem), k154 a M = some q → Fr 200 21 5 m_X12_sail 154 [(0, .ref 200), (2, .int a.1), (3, .int a.2.1), (4, .int a.2.2.1), (5, .int a.2.2.2)] [] M (QI q)) {v2 : Int32} {v3 : Int32} {v4 : Int32} {v5 : Int32} {s0 : Int32} {s1 : Int32} {M : Mem} (h : f_X12_sail_b272 N k128 k154 v2 v3 v4 v5 s0 s1 M = some q) : Fr 200 21 5 m_X12_sail 272 [(0, .ref 200), (2, .int v2), (3, .int v3), (4, .int v4), (5, .int v5)] [.int s0, .int s1, .ref 213] M (QI q) := by
  unfold f_X12_sail_b272 at h
  obtain ⟨hi_35, h⟩ := ck_elim h
  refine Fr_zast (by decide +kernel) ob_213 (vp_of ln_213 hi_35) ?_
  obtain ⟨M_36, eM_36, h⟩ := bM_elim h
  refine Fr_mem eM_36 ?_
  refine Fr_iinc (i := 5) (j := 1) (v := (v5 + 1)) (lv' := [(5, .int (v5 + 1)), (0, .ref 200), (2, .int v2), (3, .int v3), (4, .int v4)]) 4 (by decide +kernel) rfl rfl (by decide) rfl ?_
  refine Fr_goto (off := (-122)) 154 (by decide +kernel) (by decide) ?_
  refine Fr_loc [1, 2, 3, 4, 0] rfl ?_
  exact hk154 (v2, v3, v4, (v5 + 1)) M_36 h
set_option maxRecDepth 20000 in
theorem t_X12_sail_b271 {N : Nat} {q : Int32 × Mem} {k128 : Int32 × Int32 × Int32 → Mem → Option (Int32 × Mem)} (hk128 : ∀ (a : Int32 × Int32 × Int32) (M : Mem), k128 a M = some q → Fr 200 21 5 m_X12_sail 128 [(0, .ref 200), (2, .int a.1), (3, .int a.2.1), (4, .int a.2.2)] [] M (QI q)) {k154 : Int32 × Int32 × Int32 × Int32 → Mem → Option (Int32 × Mem)} (hk154 : ∀ (a : Int32 × Int32 × Int32 × Int32) (M : Mem), k154 a M = some q → Fr 200 21 5 m_X12_sail 154 [(0, .ref 200), (2, .int a.1), (3, .int a.2.1), (4, .int a.2.2.1), (5, .int a.2.2.2)] [] M (QI q)) {v2 : Int32} {v3 : Int32} {v4 : Int32} {v5 : Int32} {s0 : Int32} {M : Mem} (h : f_X12_sail_b271 N k128 k154 v2 v3 v4 v5 s0 M = some q) : Fr 200 21 5 m_X12_sail 271 [(0, .ref 200), (2, .int v2), (3, .int v3), (4, .int v4), (5, .int v5)] [.int s0, .ref 213] M (QI q) := by
  unfold f_X12_sail_b271 at h
  refine Fr_iconst (i := 0) (v := 0) (by decide +kernel) (by decide) ?_
  exact t_X12_sail_b272 hk128 hk154 h
set_option maxRecDepth 20000 in
theorem t_X12_sail_b234 {N : Nat} {q : Int32 × Mem} {k128 : Int32 × Int32 × Int32 → Mem → Option (Int32 × Mem)} (hk128 : ∀ (a : Int32 × Int32 × Int32) (M : Mem), k128 a M = some q → Fr 200 21 5 m_X12_sail 128 [(0, .ref 200), (2, .int a.1), (3, .int a.2.1), (4, .int a.2.2)] [] M (QI q)) {k154 : Int32 × Int32 × Int32 × Int32 → Mem → Option (Int32 × Mem)} (hk154 : ∀ (a : Int32 × Int32 × Int32 × Int32) (M : Mem), k154 a M = some q → Fr 200 21 5 m_X12_sail 154 [(0, .ref 200), (2, .int a.1), (3, .int a.2.1), (4, .int a.2.2.1), (5, .int a.2.2.2)] [] M (QI q)) {k180 : Int32 × Int32 × Int32 × Int32 × Int32 → Mem → Option (Int32 × Mem)} (hk180 : ∀ (a : Int32 × Int32 × Int32 × Int32 × Int32) (M : Mem), k180 a M = some q → Fr 200 21 5 m_X12_sail 180 [(0, .ref 200), (2, .int a.1), (3, .int a.2.1), (4, .int a.2.2.1), (5, .int a.2.2.2.1), (6, .int a.2.2.2.2)] [] M (QI q)) {v2 : Int32} {v3 : Int32} {v4 : Int32} {v5 : Int32} {v6 : Int32} {s0 : Int32} {s1 : Int32} {M : Mem} (h : f_X12_sail_b234 N k128 k154 k180 v2 v3 v4 v5 v6 s0 s1 M = some q) : Fr 200 21 5 m_X12_sail 234 [(0, .ref 200), (2, .int v2), (3, .int v3), (4, .int v4), (5, .int v5), (6, .int v6)] [.int s0, .int s1, .ref 213] M (QI q) := by
  unfold f_X12_sail_b234 at h
  obtain ⟨hi_41, h⟩ := ck_elim h
  refine Fr_zast (by decide +kernel) ob_213 (vp_of ln_213 hi_41) ?_
  obtain ⟨M_42, eM_42, h⟩ := bM_elim h
  refine Fr_mem eM_42 ?_
  refine Fr_iinc (i := 6) (j := 1) (v := (v6 + 1)) (lv' := [(6, .int (v6 + 1)), (0, .ref 200), (2, .int v2), (3, .int v3), (4, .int v4), (5, .int v5)]) 5 (by decide +kernel) rfl rfl (by decide) rfl ?_
  refine Fr_goto (off := (-58)) 180 (by decide +kernel) (by decide) ?_
  refine Fr_loc [1, 2, 3, 4, 5, 0] rfl ?_
  exact hk180 (v2, v3, v4, v5, (v6 + 1)) M_42 h
set_option maxRecDepth 20000 in
theorem t_X12_sail_b229 {N : Nat} {q : Int32 × Mem} {k128 : Int32 × Int32 × Int32 → Mem → Option (Int32 × Mem)} (hk128 : ∀ (a : Int32 × Int32 × Int32) (M : Mem), k128 a M = some q → Fr 200 21 5 m_X12_sail 128 [(0, .ref 200), (2, .int a.1), (3, .int a.2.1), (4, .int a.2.2)] [] M (QI q)) {k154 : Int32 × Int32 × Int32 × Int32 → Mem → Option (Int32 × Mem)} (hk154 : ∀ (a : Int32 × Int32 × Int32 × Int32) (M : Mem), k154 a M = some q → Fr 200 21 5 m_X12_sail 154 [(0, .ref 200), (2, .int a.1), (3, .int a.2.1), (4, .int a.2.2.1), (5, .int a.2.2.2)] [] M (QI q)) {k180 : Int32 × Int32 × Int32 × Int32 × Int32 → Mem → Option (Int32 × Mem)} (hk180 : ∀ (a : Int32 × Int32 × Int32 × Int32 × Int32) (M : Mem), k180 a M = some q → Fr 200 21 5 m_X12_sail 180 [(0, .ref 200), (2, .int a.1), (3, .int a.2.1), (4, .int a.2.2.1), (5, .int a.2.2.2.1), (6, .int a.2.2.2.2)] [] M (QI q)) {v2 : Int32} {v3 : Int32} {v4 : Int32} {v5 : Int32} {v6 : Int32} {s0 : Int32} {M : Mem} (h : f_X12_sail_b229 N k128 k154 k180 v2 v3 v4 v5 v6 s0 M = some q) : Fr 200 21 5 m_X12_sail 229 [(0, .ref 200), (2, .int v2), (3, .int v3), (4, .int v4), (5, .int v5), (6, .int v6)] [.int s0, .ref 213] M (QI q) := by
  unfold f_X12_sail_b229 at h
  refine Fr_iconst (i := 1) (v := 1) (by decide +kernel) (by decide) ?_
  refine Fr_goto (off := 4) 234 (by decide +kernel) (by decide) ?_
  exact t_X12_sail_b234 hk128 hk154 hk180 h
set_option maxRecDepth 20000 in
theorem t_X12_sail_b233 {N : Nat} {q : Int32 × Mem} {k128 : Int32 × Int32 × Int32 → Mem → Option (Int32 × Mem)} (hk128 : ∀ (a : Int32 × Int32 × Int32) (M : Mem), k128 a M = some q → Fr 200 21 5 m_X12_sail 128 [(0, .ref 200), (2, .int a.1), (3, .int a.2.1), (4, .int a.2.2)] [] M (QI q)) {k154 : Int32 × Int32 × Int32 × Int32 → Mem → Option (Int32 × Mem)} (hk154 : ∀ (a : Int32 × Int32 × Int32 × Int32) (M : Mem), k154 a M = some q → Fr 200 21 5 m_X12_sail 154 [(0, .ref 200), (2, .int a.1), (3, .int a.2.1), (4, .int a.2.2.1), (5, .int a.2.2.2)] [] M (QI q)) {k180 : Int32 × Int32 × Int32 × Int32 × Int32 → Mem → Option (Int32 × Mem)} (hk180 : ∀ (a : Int32 × Int32 × Int32 × Int32 × Int32) (M : Mem), k180 a M = some q → Fr 200 21 5 m_X12_sail 180 [(0, .ref 200), (2, .int a.1), (3, .int a.2.1), (4, .int a.2.2.1), (5, .int a.2.2.2.1), (6, .int a.2.2.2.2)] [] M (QI q)) {v2 : Int32} {v3 : Int32} {v4 : Int32} {v5 : Int32} {v6 : Int32} {s0 : Int32} {M : Mem} (h : f_X12_sail_b233 N k128 k154 k180 v2 v3 v4 v5 v6 s0 M = some q) : Fr 200 21 5 m_X12_sail 233 [(0, .ref 200), (2, .int v2), (3, .int v3), (4, .int v4), (5, .int v5), (6, .int v6)] [.int s0, .ref 213] M (QI q) := by
  unfold f_X12_sail_b233 at h
  refine Fr_iconst (i := 0) (v := 0) (by decide +kernel) (by decide) ?_
  exact t_X12_sail_b234 hk128 hk154 hk180 h
set_option maxRecDepth 20000 in
theorem t_X12_sail_h180 {N : Nat} {q : Int32 × Mem} {k128 : Int32 × Int32 × Int32 → Mem → Option (Int32 × Mem)} (hk128 : ∀ (a : Int32 × Int32 × Int32) (M : Mem), k128 a M = some q → Fr 200 21 5 m_X12_sail 128 [(0, .ref 200), (2, .int a.1), (3, .int a.2.1), (4, .int a.2.2)] [] M (QI q)) {k154 : Int32 × Int32 × Int32 × Int32 → Mem → Option (Int32 × Mem)} (hk154 : ∀ (a : Int32 × Int32 × Int32 × Int32) (M : Mem), k154 a M = some q → Fr 200 21 5 m_X12_sail 154 [(0, .ref 200), (2, .int a.1), (3, .int a.2.1), (4, .int a.2.2.1), (5, .int a.2.2.2)] [] M (QI q)) {k180 : Int32 × Int32 × Int32 × Int32 × Int32 → Mem → Option (Int32 × Mem)} (hk180 : ∀ (a : Int32 × Int32 × Int32 × Int32 × Int32) (M : Mem), k180 a M = some q → Fr 200 21 5 m_X12_sail 180 [(0, .ref 200), (2, .int a.1), (3, .int a.2.1), (4, .int a.2.2.1), (5, .int a.2.2.2.1), (6, .int a.2.2.2.2)] [] M (QI q)) {v2 : Int32} {v3 : Int32} {v4 : Int32} {v5 : Int32} {v6 : Int32} {M : Mem} (h : f_X12_sail_h180 N k128 k154 k180 v2 v3 v4 v5 v6 M = some q) : Fr 200 21 5 m_X12_sail 180 [(0, .ref 200), (2, .int v2), (3, .int v3), (4, .int v4), (5, .int v5), (6, .int v6)] [] M (QI q) := by
  unfold f_X12_sail_h180 at h
  refine Fr_iload (i := 6) 5 (by decide +kernel) rfl ?_
  refine Fr_iconst (i := 4) (v := 4) (by decide +kernel) (by decide) ?_
  refine Fr_icmp_gt (off := 58) 241 (by decide +kernel) (by decide) (fun hc => ?_) (fun hc => ?_)
  · have h := iT hc h
    refine Fr_aload_n (q := 0) (i := 0) 0 (by decide +kernel) rfl rfl ?_
    refine gf_X12_60 rfl (by decide +kernel) ob_200 ?_
    refine Fr_iload (i := 5) 4 (by decide +kernel) rfl ?_
    refine Fr_aload_n (q := 0) (i := 0) 0 (by decide +kernel) rfl rfl ?_
    refine gf_X12_60 rfl (by decide +kernel) ob_200 ?_
    refine Fr_iload (i := 5) 4 (by decide +kernel) rfl ?_
    obtain ⟨hi_34, h⟩ := ck_elim h
    refine Fr_zald (by decide +kernel) ob_213 (vp_of ln_213 hi_34) ?_
    refine Fr_if_eq (off := 17) 271 (by decide +kernel) (by decide) (fun hc => ?_) (fun hc => ?_)
    · have h := iT hc h
      refine Fr_loc [0, 1, 2, 3, 4] rfl ?_
      exact t_X12_sail_b271 hk128 hk154 h
    · have h := iF hc h
      refine Fr_aload_n (q := 0) (i := 0) 0 (by decide +kernel) rfl rfl ?_
      refine Fr_iload (i := 5) 4 (by decide +kernel) rfl ?_
      obtain ⟨r_39, M_37, hc_38, h⟩ := bi_elim h
      refine Fr_cVb (ν := m_X12_isFoggy) (As := [.int v5]) (st := [.int v5, .ref 213]) (rc := 200) (ci := 12) (d' := 1) (by decide +kernel) ml_X12_366 cv_X12_isFoggy rfl (by decide) rfl ob_200 rfl (by decide) (Nat.le_of_ble_eq_true rfl) (t_X12_isFoggy hc_38) ?_
      refine Fr_iload_n (q := 2) (i := 2) 1 (by decide +kernel) rfl rfl ?_
      refine Fr_icmp_ne (off := 7) 271 (by decide +kernel) (by decide) (fun hc => ?_) (fun hc => ?_)
      · have h := iF hc h
        refine Fr_loc [0, 1, 2, 3, 4] rfl ?_
        exact t_X12_sail_b271 hk128 hk154 h
      · have h := iT hc h
        refine Fr_iconst (i := 1) (v := 1) (by decide +kernel) (by decide) ?_
        refine Fr_goto (off := 4) 272 (by decide +kernel) (by decide) ?_
        refine Fr_loc [0, 1, 2, 3, 4] rfl ?_
        exact t_X12_sail_b272 hk128 hk154 h
  · have h := iF hc h
    refine Fr_aload_n (q := 0) (i := 0) 0 (by decide +kernel) rfl rfl ?_
    refine gf_X12_60 rfl (by decide +kernel) ob_200 ?_
    refine Fr_iload (i := 5) 4 (by decide +kernel) rfl ?_
    refine Fr_aload_n (q := 0) (i := 0) 0 (by decide +kernel) rfl rfl ?_
    refine gf_X12_60 rfl (by decide +kernel) ob_200 ?_
    refine Fr_iload (i := 5) 4 (by decide +kernel) rfl ?_
    obtain ⟨hi_40, h⟩ := ck_elim h
    refine Fr_zald (by decide +kernel) ob_213 (vp_of ln_213 hi_40) ?_
    refine Fr_if_ne (off := 30) 229 (by decide +kernel) (by decide) (fun hc => ?_) (fun hc => ?_)
    · have h := iF hc h
      exact t_X12_sail_b229 hk128 hk154 hk180 h
    · have h := iT hc h
      refine Fr_aload_n (q := 0) (i := 0) 0 (by decide +kernel) rfl rfl ?_
      refine Fr_iload (i := 5) 4 (by decide +kernel) rfl ?_
      refine Fr_iload (i := 6) 5 (by decide +kernel) rfl ?_
      obtain ⟨r_45, M_43, hc_44, h⟩ := bi_elim h
      refine Fr_cVi (ν := m_X12_beside) (As := [.int v5, .int v6]) (st := [.int v5, .ref 213]) (rc := 200) (ci := 12) (d' := 2) (by decide +kernel) ml_X12_411 cv_X12_beside rfl (by decide) rfl ob_200 rfl (by decide) (Nat.le_of_ble_eq_true rfl) (t_X12_beside hc_44) ?_
      refine Fr_if_lt (off := 23) 233 (by decide +kernel) (by decide) (fun hc => ?_) (fun hc => ?_)
      · have h := iT hc h
        exact t_X12_sail_b233 hk128 hk154 hk180 h
      · have h := iF hc h
        refine Fr_aload_n (q := 0) (i := 0) 0 (by decide +kernel) rfl rfl ?_
        refine gf_X12_56 rfl (by decide +kernel) ob_200 ?_
        refine Fr_aload_n (q := 0) (i := 0) 0 (by decide +kernel) rfl rfl ?_
        refine Fr_iload (i := 5) 4 (by decide +kernel) rfl ?_
        refine Fr_iload (i := 6) 5 (by decide +kernel) rfl ?_
        obtain ⟨r_48, M_46, hc_47, h⟩ := bi_elim h
        refine Fr_cVi (ν := m_X12_beside) (As := [.int v5, .int v6]) (st := [.ref 212, .int v5, .ref 213]) (rc := 200) (ci := 12) (d' := 2) (by decide +kernel) ml_X12_411 cv_X12_beside rfl (by decide) rfl ob_200 rfl (by decide) (Nat.le_of_ble_eq_true rfl) (t_X12_beside hc_47) ?_
        obtain ⟨hi_49, h⟩ := ck_elim h
        refine Fr_zald (by decide +kernel) ob_212 (vp_of ln_212 hi_49) ?_
        refine Fr_if_eq (off := 7) 233 (by decide +kernel) (by decide) (fun hc => ?_) (fun hc => ?_)
        · have h := iT hc h
          exact t_X12_sail_b233 hk128 hk154 hk180 h
        · have h := iF hc h
          exact t_X12_sail_b229 hk128 hk154 hk180 h
set_option maxRecDepth 20000 in
theorem t_X12_sail_h154 {N : Nat} {q : Int32 × Mem} {k128 : Int32 × Int32 × Int32 → Mem → Option (Int32 × Mem)} (hk128 : ∀ (a : Int32 × Int32 × Int32) (M : Mem), k128 a M = some q → Fr 200 21 5 m_X12_sail 128 [(0, .ref 200), (2, .int a.1), (3, .int a.2.1), (4, .int a.2.2)] [] M (QI q)) {k154 : Int32 × Int32 × Int32 × Int32 → Mem → Option (Int32 × Mem)} (hk154 : ∀ (a : Int32 × Int32 × Int32 × Int32) (M : Mem), k154 a M = some q → Fr 200 21 5 m_X12_sail 154 [(0, .ref 200), (2, .int a.1), (3, .int a.2.1), (4, .int a.2.2.1), (5, .int a.2.2.2)] [] M (QI q)) {v2 : Int32} {v3 : Int32} {v4 : Int32} {v5 : Int32} {M : Mem} (h : f_X12_sail_h154 N k128 k154 v2 v3 v4 v5 M = some q) : Fr 200 21 5 m_X12_sail 154 [(0, .ref 200), (2, .int v2), (3, .int v3), (4, .int v4), (5, .int v5)] [] M (QI q) := by
  unfold f_X12_sail_h154 at h
  refine Fr_iload (i := 5) 4 (by decide +kernel) rfl ?_
  refine Fr_aload_n (q := 0) (i := 0) 0 (by decide +kernel) rfl rfl ?_
  obtain ⟨r_24, M_22, hc_23, h⟩ := bi_elim h
  refine Fr_cVi (ν := m_X12_boards) (As := []) (st := [.int v5]) (rc := 200) (ci := 12) (d' := 0) (by decide +kernel) ml_X12_363 cv_X12_boards rfl (by decide) rfl ob_200 rfl (by decide) (Nat.le_of_ble_eq_true rfl) (t_X12_boards hc_23) ?_
  refine Fr_icmp_ge (off := 119) 279 (by decide +kernel) (by decide) (fun hc => ?_) (fun hc => ?_)
  · have h := iT hc h
    refine Fr_iconst (i := 0) (v := 0) (by decide +kernel) (by decide) ?_
    refine Fr_istore (i := 5) (lv' := [(5, .int 0), (0, .ref 200), (2, .int v2), (3, .int v3), (4, .int v4)]) (by decide +kernel) (by decide) rfl ?_
    refine Fr_loc [1, 2, 3, 4, 0] rfl ?_
    exact lp_sound (body := fun k a m => f_X12_sail_h282 N k128 k a.1 a.2.1 a.2.2.1 a.2.2.2 m) (P := fun a M => Fr 200 21 5 m_X12_sail 282 [(0, .ref 200), (2, .int a.1), (3, .int a.2.1), (4, .int a.2.2.1), (5, .int a.2.2.2)] [] M (QI q)) (fun k hk a m h => t_X12_sail_h282 hk128 hk h) N (v2, v3, v4, 0) M_22 h
  · have h := iF hc h
    refine Fr_aload_n (q := 0) (i := 0) 0 (by decide +kernel) rfl rfl ?_
    refine gf_X12_60 rfl (by decide +kernel) ob_200 ?_
    refine Fr_iload (i := 5) 4 (by decide +kernel) rfl ?_
    refine Fr_aload_n (q := 0) (i := 0) 0 (by decide +kernel) rfl rfl ?_
    refine gf_X12_56 rfl (by decide +kernel) ob_200 ?_
    refine Fr_iload (i := 5) 4 (by decide +kernel) rfl ?_
    obtain ⟨hi_31, h⟩ := ck_elim h
    refine Fr_zald (by decide +kernel) ob_212 (vp_of ln_212 hi_31) ?_
    obtain ⟨hi_32, h⟩ := ck_elim h
    refine Fr_zast (by decide +kernel) ob_213 (vp_of ln_213 hi_32) ?_
    obtain ⟨M_33, eM_33, h⟩ := bM_elim h
    refine Fr_mem eM_33 ?_
    refine Fr_iconst (i := 1) (v := 1) (by decide +kernel) (by decide) ?_
    refine Fr_istore (i := 6) (lv' := [(6, .int 1), (0, .ref 200), (2, .int v2), (3, .int v3), (4, .int v4), (5, .int v5)]) (by decide +kernel) (by decide) rfl ?_
    refine Fr_loc [1, 2, 3, 4, 5, 0] rfl ?_
    exact lp_sound (body := fun k a m => f_X12_sail_h180 N k128 k154 k a.1 a.2.1 a.2.2.1 a.2.2.2.1 a.2.2.2.2 m) (P := fun a M => Fr 200 21 5 m_X12_sail 180 [(0, .ref 200), (2, .int a.1), (3, .int a.2.1), (4, .int a.2.2.1), (5, .int a.2.2.2.1), (6, .int a.2.2.2.2)] [] M (QI q)) (fun k hk a m h => t_X12_sail_h180 hk128 hk154 hk h) N (v2, v3, v4, v5, 1) M_33 h
set_option maxRecDepth 20000 in
theorem t_X12_sail_h128 {N : Nat} {q : Int32 × Mem} {k128 : Int32 × Int32 × Int32 → Mem → Option (Int32 × Mem)} (hk128 : ∀ (a : Int32 × Int32 × Int32) (M : Mem), k128 a M = some q → Fr 200 21 5 m_X12_sail 128 [(0, .ref 200), (2, .int a.1), (3, .int a.2.1), (4, .int a.2.2)] [] M (QI q)) {v2 : Int32} {v3 : Int32} {v4 : Int32} {M : Mem} (h : f_X12_sail_h128 N k128 v2 v3 v4 M = some q) : Fr 200 21 5 m_X12_sail 128 [(0, .ref 200), (2, .int v2), (3, .int v3), (4, .int v4)] [] M (QI q) := by
  unfold f_X12_sail_h128 at h
  refine Fr_iload (i := 4) 3 (by decide +kernel) rfl ?_
  refine Fr_bipush (i := 48) (v := 48) (by decide +kernel) (by decide) ?_
  refine Fr_icmp_gt (off := 182) 314 (by decide +kernel) (by decide) (fun hc => ?_) (fun hc => ?_)
  · have h := iT hc h
    refine Fr_loc [0, 3] rfl ?_
    exact t_X12_sail_b314 h
  · have h := iF hc h
    refine Fr_aload_n (q := 0) (i := 0) 0 (by decide +kernel) rfl rfl ?_
    refine gf_X12_56 rfl (by decide +kernel) ob_200 ?_
    refine Fr_iload_n (q := 3) (i := 3) 2 (by decide +kernel) rfl rfl ?_
    obtain ⟨hi_19, h⟩ := ck_elim h
    refine Fr_zald (by decide +kernel) ob_212 (vp_of ln_212 hi_19) ?_
    refine Fr_if_ne (off := 173) 314 (by decide +kernel) (by decide) (fun hc => ?_) (fun hc => ?_)
    · have h := iF hc h
      refine Fr_loc [0, 3] rfl ?_
      exact t_X12_sail_b314 h
    · have h := iT hc h
      refine Fr_aload_n (q := 0) (i := 0) 0 (by decide +kernel) rfl rfl ?_
      obtain ⟨M_20, hc_21, h⟩ := bv_elim h
      refine Fr_cVv (ν := m_X12_goesHour) (As := []) (st := []) (rc := 200) (ci := 12) (d' := 4) (by decide +kernel) ml_X12_422 cv_X12_goesHour rfl (by decide) rfl ob_200 rfl (by decide) (Nat.le_of_ble_eq_true rfl) (t_X12_goesHour hc_21) ?_
      refine Fr_iinc (i := 4) (j := 1) (v := (v4 + 1)) (lv' := [(4, .int (v4 + 1)), (0, .ref 200), (2, .int v2), (3, .int v3)]) 3 (by decide +kernel) rfl rfl (by decide) rfl ?_
      refine Fr_iconst (i := 0) (v := 0) (by decide +kernel) (by decide) ?_
      refine Fr_istore (i := 5) (lv' := [(5, .int 0), (4, .int (v4 + 1)), (0, .ref 200), (2, .int v2), (3, .int v3)]) (by decide +kernel) (by decide) rfl ?_
      refine Fr_loc [2, 3, 4, 1, 0] rfl ?_
      exact lp_sound (body := fun k a m => f_X12_sail_h154 N k128 k a.1 a.2.1 a.2.2.1 a.2.2.2 m) (P := fun a M => Fr 200 21 5 m_X12_sail 154 [(0, .ref 200), (2, .int a.1), (3, .int a.2.1), (4, .int a.2.2.1), (5, .int a.2.2.2)] [] M (QI q)) (fun k hk a m h => t_X12_sail_h154 hk128 hk h) N (v2, v3, (v4 + 1), 0) M_20 h
set_option maxRecDepth 20000 in
theorem t_X12_sail_b114 {N : Nat} {q : Int32 × Mem} {k69 : Int32 × Int32 × Int32 × Int32 → Mem → Option (Int32 × Mem)} (hk69 : ∀ (a : Int32 × Int32 × Int32 × Int32) (M : Mem), k69 a M = some q → Fr 200 21 5 m_X12_sail 69 [(0, .ref 200), (1, .int a.1), (2, .int a.2.1), (3, .int a.2.2.1), (4, .int a.2.2.2)] [] M (QI q)) {v1 : Int32} {v2 : Int32} {v3 : Int32} {v4 : Int32} {s0 : Int32} {s1 : Int32} {M : Mem} (h : f_X12_sail_b114 N k69 v1 v2 v3 v4 s0 s1 M = some q) : Fr 200 21 5 m_X12_sail 114 [(0, .ref 200), (1, .int v1), (2, .int v2), (3, .int v3), (4, .int v4)] [.int s0, .int s1, .ref 212] M (QI q) := by
  unfold f_X12_sail_b114 at h
  obtain ⟨hi_55, h⟩ := ck_elim h
  refine Fr_zast (by decide +kernel) ob_212 (vp_of ln_212 hi_55) ?_
  obtain ⟨M_56, eM_56, h⟩ := bM_elim h
  refine Fr_mem eM_56 ?_
  refine Fr_iinc (i := 4) (j := 1) (v := (v4 + 1)) (lv' := [(4, .int (v4 + 1)), (0, .ref 200), (1, .int v1), (2, .int v2), (3, .int v3)]) 4 (by decide +kernel) rfl rfl (by decide) rfl ?_
  refine Fr_goto (off := (-49)) 69 (by decide +kernel) (by decide) ?_
  refine Fr_loc [1, 2, 3, 4, 0] rfl ?_
  exact hk69 (v1, v2, v3, (v4 + 1)) M_56 h
set_option maxRecDepth 20000 in
theorem t_X12_sail_h69 {N : Nat} {q : Int32 × Mem} {k69 : Int32 × Int32 × Int32 × Int32 → Mem → Option (Int32 × Mem)} (hk69 : ∀ (a : Int32 × Int32 × Int32 × Int32) (M : Mem), k69 a M = some q → Fr 200 21 5 m_X12_sail 69 [(0, .ref 200), (1, .int a.1), (2, .int a.2.1), (3, .int a.2.2.1), (4, .int a.2.2.2)] [] M (QI q)) {v1 : Int32} {v2 : Int32} {v3 : Int32} {v4 : Int32} {M : Mem} (h : f_X12_sail_h69 N k69 v1 v2 v3 v4 M = some q) : Fr 200 21 5 m_X12_sail 69 [(0, .ref 200), (1, .int v1), (2, .int v2), (3, .int v3), (4, .int v4)] [] M (QI q) := by
  unfold f_X12_sail_h69 at h
  refine Fr_iload (i := 4) 4 (by decide +kernel) rfl ?_
  refine Fr_bipush (i := 30) (v := 30) (by decide +kernel) (by decide) ?_
  refine Fr_icmp_ge (off := 48) 121 (by decide +kernel) (by decide) (fun hc => ?_) (fun hc => ?_)
  · have h := iT hc h
    refine Fr_aload_n (q := 0) (i := 0) 0 (by decide +kernel) rfl rfl ?_
    obtain ⟨M_12, hc_13, h⟩ := bv_elim h
    refine Fr_cVv (ν := m_X12_keeps) (As := []) (st := []) (rc := 200) (ci := 12) (d' := 0) (by decide +kernel) ml_X12_439 cv_X12_keeps rfl (by decide) rfl ob_200 rfl (by decide) (Nat.le_of_ble_eq_true rfl) (t_X12_keeps hc_13) ?_
    refine Fr_iconst (i := 0) (v := 0) (by decide +kernel) (by decide) ?_
    refine Fr_istore (i := 4) (lv' := [(4, .int 0), (0, .ref 200), (1, .int v1), (2, .int v2), (3, .int v3)]) (by decide +kernel) (by decide) rfl ?_
    refine Fr_loc [1, 3, 4, 0] rfl ?_
    exact lp_sound (body := fun k a m => f_X12_sail_h128 N k a.1 a.2.1 a.2.2 m) (P := fun a M => Fr 200 21 5 m_X12_sail 128 [(0, .ref 200), (2, .int a.1), (3, .int a.2.1), (4, .int a.2.2)] [] M (QI q)) (fun k hk a m h => t_X12_sail_h128 hk h) N (v2, v3, 0) M_12 h
  · have h := iF hc h
    refine Fr_aload_n (q := 0) (i := 0) 0 (by decide +kernel) rfl rfl ?_
    refine gf_X12_56 rfl (by decide +kernel) ob_200 ?_
    refine Fr_iload (i := 4) 4 (by decide +kernel) rfl ?_
    refine Fr_iload (i := 4) 4 (by decide +kernel) rfl ?_
    refine Fr_aload_n (q := 0) (i := 0) 0 (by decide +kernel) rfl rfl ?_
    refine Fr_aload_n (q := 0) (i := 0) 0 (by decide +kernel) rfl rfl ?_
    refine gf_X12_35 rfl (by decide +kernel) ob_200 ?_
    refine Fr_bipush (i := 83) (v := 83) (by decide +kernel) (by decide) ?_
    refine Fr_iload_n (q := 1) (i := 1) 1 (by decide +kernel) rfl rfl ?_
    refine Fr_iadd (by decide +kernel) ?_
    obtain ⟨hi_50, h⟩ := ck_elim h
    refine Fr_iald (by decide +kernel) ob_205 (vp_of ln_205 hi_50) ?_
    refine Fr_aload_n (q := 0) (i := 0) 0 (by decide +kernel) rfl rfl ?_
    refine gf_X12_35 rfl (by decide +kernel) ob_200 ?_
    refine Fr_bipush (i := 87) (v := 87) (by decide +kernel) (by decide) ?_
    refine Fr_iload_n (q := 1) (i := 1) 1 (by decide +kernel) rfl rfl ?_
    refine Fr_iadd (by decide +kernel) ?_
    obtain ⟨hi_51, h⟩ := ck_elim h
    refine Fr_iald (by decide +kernel) ob_205 (vp_of ln_205 hi_51) ?_
    obtain ⟨r_54, M_52, hc_53, h⟩ := bi_elim h
    refine Fr_cVi (ν := m_X12_board) (As := [.int (M.1 205 (tn (83 + v1))), .int (M.1 205 (tn (87 + v1)))]) (st := [.int v4, .int v4, .ref 212]) (rc := 200) (ci := 12) (d' := 0) (by decide +kernel) ml_X12_396 cv_X12_board rfl (by decide) rfl ob_200 rfl (by decide) (Nat.le_of_ble_eq_true rfl) (t_X12_board hc_53) ?_
    refine Fr_icmp_ne (off := 7) 113 (by decide +kernel) (by decide) (fun hc => ?_) (fun hc => ?_)
    · have h := iF hc h
      refine Fr_iconst (i := 0) (v := 0) (by decide +kernel) (by decide) ?_
      exact t_X12_sail_b114 hk69 h
    · have h := iT hc h
      refine Fr_iconst (i := 1) (v := 1) (by decide +kernel) (by decide) ?_
      refine Fr_goto (off := 4) 114 (by decide +kernel) (by decide) ?_
      exact t_X12_sail_b114 hk69 h
set_option maxRecDepth 20000 in
theorem t_X12_sail_b42 {N : Nat} {q : Int32 × Mem} {v1 : Int32} {s0 : Int32} {M : Mem} (h : f_X12_sail_b42 N v1 s0 M = some q) : Fr 200 21 5 m_X12_sail 42 [(0, .ref 200), (1, .int v1)] [.int s0] M (QI q) := by
  unfold f_X12_sail_b42 at h
  refine Fr_istore_n (q := 2) (i := 2) (lv' := [(2, .int s0), (0, .ref 200), (1, .int v1)]) (by decide +kernel) rfl (by decide) rfl ?_
  refine Fr_aload_n (q := 0) (i := 0) 1 (by decide +kernel) rfl rfl ?_
  refine Fr_aload_n (q := 0) (i := 0) 1 (by decide +kernel) rfl rfl ?_
  refine gf_X12_35 rfl (by decide +kernel) ob_200 ?_
  refine Fr_bipush (i := 91) (v := 91) (by decide +kernel) (by decide) ?_
  refine Fr_iload_n (q := 1) (i := 1) 2 (by decide +kernel) rfl rfl ?_
  refine Fr_iadd (by decide +kernel) ?_
  obtain ⟨hi_7, h⟩ := ck_elim h
  refine Fr_iald (by decide +kernel) ob_205 (vp_of ln_205 hi_7) ?_
  refine Fr_aload_n (q := 0) (i := 0) 1 (by decide +kernel) rfl rfl ?_
  refine gf_X12_35 rfl (by decide +kernel) ob_200 ?_
  refine Fr_bipush (i := 95) (v := 95) (by decide +kernel) (by decide) ?_
  refine Fr_iload_n (q := 1) (i := 1) 2 (by decide +kernel) rfl rfl ?_
  refine Fr_iadd (by decide +kernel) ?_
  obtain ⟨hi_8, h⟩ := ck_elim h
  refine Fr_iald (by decide +kernel) ob_205 (vp_of ln_205 hi_8) ?_
  obtain ⟨r_11, M_9, hc_10, h⟩ := bi_elim h
  refine Fr_cVi (ν := m_X12_board) (As := [.int (M.1 205 (tn (91 + v1))), .int (M.1 205 (tn (95 + v1)))]) (st := []) (rc := 200) (ci := 12) (d' := 0) (by decide +kernel) ml_X12_396 cv_X12_board rfl (by decide) rfl ob_200 rfl (by decide) (Nat.le_of_ble_eq_true rfl) (t_X12_board hc_10) ?_
  refine Fr_istore_n (q := 3) (i := 3) (lv' := [(3, .int r_11), (2, .int s0), (0, .ref 200), (1, .int v1)]) (by decide +kernel) rfl (by decide) rfl ?_
  refine Fr_iconst (i := 0) (v := 0) (by decide +kernel) (by decide) ?_
  refine Fr_istore (i := 4) (lv' := [(4, .int 0), (3, .int r_11), (2, .int s0), (0, .ref 200), (1, .int v1)]) (by decide +kernel) (by decide) rfl ?_
  refine Fr_loc [3, 4, 2, 1, 0] rfl ?_
  exact lp_sound (body := fun k a m => f_X12_sail_h69 N k a.1 a.2.1 a.2.2.1 a.2.2.2 m) (P := fun a M => Fr 200 21 5 m_X12_sail 69 [(0, .ref 200), (1, .int a.1), (2, .int a.2.1), (3, .int a.2.2.1), (4, .int a.2.2.2)] [] M (QI q)) (fun k hk a m h => t_X12_sail_h69 hk h) N (v1, s0, r_11, 0) M_9 h
set_option maxRecDepth 20000 in
theorem t_X12_sail {N : Nat} {x1 : Int32} {M : Mem} {q : Int32 × Mem} (h : f_X12_sail N x1 M = some q) : Ev 200 21 5 m_X12_sail [.ref 200, .int x1] M (QI q) := by
  refine Ev_of_Fr (by decide +kernel) (Nat.le_of_ble_eq_true rfl) ?_
  show Fr 200 21 5 m_X12_sail 0 [(0, .ref 200), (1, .int x1)] [] M (QI q)
  unfold f_X12_sail at h
  refine Fr_aload_n (q := 0) (i := 0) 0 (by decide +kernel) rfl rfl ?_
  refine Fr_iconst (i := 0) (v := 0) (by decide +kernel) (by decide) ?_
  refine pf_X12_84 rfl (by decide +kernel) ob_200 ?_
  obtain ⟨M_1, eM_1, h⟩ := bM_elim h
  refine Fr_mem eM_1 ?_
  refine Fr_aload_n (q := 0) (i := 0) 0 (by decide +kernel) rfl rfl ?_
  refine Fr_iconst (i := 0) (v := 0) (by decide +kernel) (by decide) ?_
  refine pf_X12_87 rfl (by decide +kernel) ob_200 ?_
  obtain ⟨M_2, eM_2, h⟩ := bM_elim h
  refine Fr_mem eM_2 ?_
  refine Fr_aload_n (q := 0) (i := 0) 0 (by decide +kernel) rfl rfl ?_
  refine Fr_iload_n (q := 1) (i := 1) 1 (by decide +kernel) rfl rfl ?_
  obtain ⟨r_5, M_3, hc_4, h⟩ := bi_elim h
  refine Fr_cVb (ν := m_X12_isShipAt) (As := [.int x1]) (st := []) (rc := 200) (ci := 12) (d' := 1) (by decide +kernel) ml_X12_390 cv_X12_isShipAt rfl (by decide) rfl ob_200 rfl (by decide) (Nat.le_of_ble_eq_true rfl) (t_X12_isShipAt hc_4) ?_
  refine Fr_if_ne (off := 9) 24 (by decide +kernel) (by decide) (fun hc => ?_) (fun hc => ?_)
  · have h := iF hc h
    refine Fr_aload_n (q := 0) (i := 0) 0 (by decide +kernel) rfl rfl ?_
    refine gf_X12_35 rfl (by decide +kernel) ob_200 ?_
    refine Fr_bipush (i := 99) (v := 99) (by decide +kernel) (by decide) ?_
    refine Fr_iload_n (q := 1) (i := 1) 1 (by decide +kernel) rfl rfl ?_
    refine Fr_iadd (by decide +kernel) ?_
    obtain ⟨hi_6, h⟩ := ck_elim h
    refine Fr_iald (by decide +kernel) ob_205 (vp_of ln_205 hi_6) ?_
    refine Fr_iconst (i := 1) (v := 1) (by decide +kernel) (by decide) ?_
    refine Fr_icmp_ne (off := 7) 41 (by decide +kernel) (by decide) (fun hc => ?_) (fun hc => ?_)
    · have h := iF hc h
      refine Fr_iconst (i := 0) (v := 0) (by decide +kernel) (by decide) ?_
      exact t_X12_sail_b42 h
    · have h := iT hc h
      refine Fr_iconst (i := 1) (v := 1) (by decide +kernel) (by decide) ?_
      refine Fr_goto (off := 4) 42 (by decide +kernel) (by decide) ?_
      exact t_X12_sail_b42 h
  · have h := iT hc h
    refine Fr_aload_n (q := 0) (i := 0) 0 (by decide +kernel) rfl rfl ?_
    refine Fr_iconst (i := 2) (v := 2) (by decide +kernel) (by decide) ?_
    obtain ⟨r_59, M_57, hc_58, h⟩ := bi_elim h
    refine Fr_cVi (ν := m_X12_refuse) (As := [.int 2]) (st := []) (rc := 200) (ci := 12) (d' := 0) (by decide +kernel) ml_X12_371 cv_X12_refuse rfl (by decide) rfl ob_200 rfl (by decide) (Nat.le_of_ble_eq_true rfl) (t_X12_refuse hc_58) ?_
    obtain rfl := Option.some.inj h
    exact Fr_iret (by decide +kernel) rfl ⟨rfl, rfl⟩
set_option maxRecDepth 20000 in
theorem t_X12_goesOn_b90 {N : Nat} {rc : Int32 → Int32 → Mem → Option (Bool × Mem)} {e0 : Nat} (hrc : ∀ (x1 : Int32) (x2 : Int32) (M : Mem) (q : Bool × Mem), rc x1 x2 M = some q → Ev 200 21 e0 m_X12_goesOn [.ref 200, .int x1, .int x2] M (QB q)) {q : Bool × Mem} {k16 : Int32 × Int32 × Int32 → Mem → Option (Bool × Mem)} (hk16 : ∀ (a : Int32 × Int32 × Int32) (M : Mem), k16 a M = some q → Fr 200 21 (e0 + 1) m_X12_goesOn 16 [(0, .ref 200), (1, .int a.1), (2, .int a.2.1), (3, .int a.2.2)] [] M (QB q)) {v1 : Int32} {v2 : Int32} {v3 : Int32} {M : Mem} (h : f_X12_goesOn_b90 N rc k16 v1 v2 v3 M = some q) : Fr 200 21 (e0 + 1) m_X12_goesOn 90 [(0, .ref 200), (1, .int v1), (2, .int v2), (3, .int v3)] [] M (QB q) := by
  unfold f_X12_goesOn_b90 at h
  refine Fr_iinc (i := 3) (j := 1) (v := (v3 + 1)) (lv' := [(3, .int (v3 + 1)), (0, .ref 200), (1, .int v1), (2, .int v2)]) 3 (by decide +kernel) rfl rfl (by decide) rfl ?_
  refine Fr_goto (off := (-77)) 16 (by decide +kernel) (by decide) ?_
  refine Fr_loc [1, 2, 3, 0] rfl ?_
  exact hk16 (v1, v2, (v3 + 1)) M h
set_option maxRecDepth 20000 in
theorem t_X12_goesOn_h16 {N : Nat} {rc : Int32 → Int32 → Mem → Option (Bool × Mem)} {e0 : Nat} (hrc : ∀ (x1 : Int32) (x2 : Int32) (M : Mem) (q : Bool × Mem), rc x1 x2 M = some q → Ev 200 21 e0 m_X12_goesOn [.ref 200, .int x1, .int x2] M (QB q)) {q : Bool × Mem} {k16 : Int32 × Int32 × Int32 → Mem → Option (Bool × Mem)} (hk16 : ∀ (a : Int32 × Int32 × Int32) (M : Mem), k16 a M = some q → Fr 200 21 (e0 + 1) m_X12_goesOn 16 [(0, .ref 200), (1, .int a.1), (2, .int a.2.1), (3, .int a.2.2)] [] M (QB q)) {v1 : Int32} {v2 : Int32} {v3 : Int32} {M : Mem} (h : f_X12_goesOn_h16 N rc k16 v1 v2 v3 M = some q) : Fr 200 21 (e0 + 1) m_X12_goesOn 16 [(0, .ref 200), (1, .int v1), (2, .int v2), (3, .int v3)] [] M (QB q) := by
  unfold f_X12_goesOn_h16 at h
  refine Fr_iload_n (q := 3) (i := 3) 3 (by decide +kernel) rfl rfl ?_
  refine Fr_bipush (i := 60) (v := 60) (by decide +kernel) (by decide) ?_
  refine Fr_icmp_ge (off := 77) 96 (by decide +kernel) (by decide) (fun hc => ?_) (fun hc => ?_)
  · have h := iT hc h
    refine Fr_iconst (i := 0) (v := 0) (by decide +kernel) (by decide) ?_
    obtain rfl := Option.some.inj h
    exact Fr_zret (by decide +kernel) rfl (by decide) ⟨rfl, rfl⟩
  · have h := iF hc h
    refine Fr_aload_n (q := 0) (i := 0) 0 (by decide +kernel) rfl rfl ?_
    refine gf_X12_63 rfl (by decide +kernel) ob_200 ?_
    refine Fr_bipush (i := 60) (v := 60) (by decide +kernel) (by decide) ?_
    refine Fr_iload_n (q := 1) (i := 1) 1 (by decide +kernel) rfl rfl ?_
    refine Fr_imul (by decide +kernel) ?_
    refine Fr_iload_n (q := 3) (i := 3) 3 (by decide +kernel) rfl rfl ?_
    refine Fr_iadd (by decide +kernel) ?_
    obtain ⟨hi_3, h⟩ := ck_elim h
    refine Fr_iald (by decide +kernel) ob_214 (vp_of ln_214 hi_3) ?_
    refine Fr_if_eq (off := 57) 90 (by decide +kernel) (by decide) (fun hc => ?_) (fun hc => ?_)
    · have h := iT hc h
      exact t_X12_goesOn_b90 hrc hk16 h
    · have h := iF hc h
      refine Fr_aload_n (q := 0) (i := 0) 0 (by decide +kernel) rfl rfl ?_
      refine gf_X12_66 rfl (by decide +kernel) ob_200 ?_
      refine Fr_iload_n (q := 3) (i := 3) 3 (by decide +kernel) rfl rfl ?_
      obtain ⟨hi_4, h⟩ := ck_elim h
      refine Fr_iald (by decide +kernel) ob_215 (vp_of ln_215 hi_4) ?_
      refine Fr_iconst (i := 1) (v := 1) (by decide +kernel) (by decide) ?_
      refine Fr_icmp_eq (off := 47) 90 (by decide +kernel) (by decide) (fun hc => ?_) (fun hc => ?_)
      · have h := iT hc h
        exact t_X12_goesOn_b90 hrc hk16 h
      · have h := iF hc h
        refine Fr_aload_n (q := 0) (i := 0) 0 (by decide +kernel) rfl rfl ?_
        refine Fr_iload_n (q := 3) (i := 3) 3 (by decide +kernel) rfl rfl ?_
        refine Fr_iload_n (q := 2) (i := 2) 2 (by decide +kernel) rfl rfl ?_
        obtain ⟨r_7, M_5, hc_6, h⟩ := bi_elim h
        refine Fr_cVb (ν := m_X12_goesOn) (As := [.int v3, .int v2]) (st := []) (rc := 200) (ci := 12) (d' := e0) (by decide +kernel) ml_X12_486 cv_X12_goesOn rfl (by decide) rfl ob_200 rfl (by omega) (Nat.le_of_ble_eq_true rfl) (hrc _ _ _ _ hc_6) ?_
        refine Fr_if_ne (off := 6) 58 (by decide +kernel) (by decide) (fun hc => ?_) (fun hc => ?_)
        · have h := iF hc h
          refine Fr_aload_n (q := 0) (i := 0) 0 (by decide +kernel) rfl rfl ?_
          refine gf_X12_63 rfl (by decide +kernel) ob_200 ?_
          refine Fr_bipush (i := 60) (v := 60) (by decide +kernel) (by decide) ?_
          refine Fr_iload_n (q := 1) (i := 1) 1 (by decide +kernel) rfl rfl ?_
          refine Fr_imul (by decide +kernel) ?_
          refine Fr_iload_n (q := 3) (i := 3) 3 (by decide +kernel) rfl rfl ?_
          refine Fr_iadd (by decide +kernel) ?_
          refine Fr_dup2 (by decide +kernel) rfl rfl ?_
          obtain ⟨hi_8, h⟩ := ck_elim h
          refine Fr_iald (by decide +kernel) ob_214 (vp_of ln_214 hi_8) ?_
          refine Fr_iconst (i := 1) (v := 1) (by decide +kernel) (by decide) ?_
          refine Fr_isub (by decide +kernel) ?_
          obtain ⟨hi_9, h⟩ := ck_elim h
          refine Fr_iast (by decide +kernel) ob_214 (vp_of ln_214 hi_9) ?_
          obtain ⟨M_10, eM_10, h⟩ := bM_elim h
          refine Fr_mem eM_10 ?_
          refine Fr_aload_n (q := 0) (i := 0) 0 (by decide +kernel) rfl rfl ?_
          refine gf_X12_63 rfl (by decide +kernel) ob_200 ?_
          refine Fr_bipush (i := 60) (v := 60) (by decide +kernel) (by decide) ?_
          refine Fr_iload_n (q := 3) (i := 3) 3 (by decide +kernel) rfl rfl ?_
          refine Fr_imul (by decide +kernel) ?_
          refine Fr_iload_n (q := 1) (i := 1) 1 (by decide +kernel) rfl rfl ?_
          refine Fr_iadd (by decide +kernel) ?_
          refine Fr_dup2 (by decide +kernel) rfl rfl ?_
          obtain ⟨hi_11, h⟩ := ck_elim h
          refine Fr_iald (by decide +kernel) ob_214 (vp_of ln_214 hi_11) ?_
          refine Fr_iconst (i := 1) (v := 1) (by decide +kernel) (by decide) ?_
          refine Fr_iadd (by decide +kernel) ?_
          obtain ⟨hi_12, h⟩ := ck_elim h
          refine Fr_iast (by decide +kernel) ob_214 (vp_of ln_214 hi_12) ?_
          obtain ⟨M_13, eM_13, h⟩ := bM_elim h
          refine Fr_mem eM_13 ?_
          refine Fr_iconst (i := 1) (v := 1) (by decide +kernel) (by decide) ?_
          obtain rfl := Option.some.inj h
          exact Fr_zret (by decide +kernel) rfl (by decide) ⟨rfl, rfl⟩
        · have h := iT hc h
          refine Fr_goto (off := 35) 90 (by decide +kernel) (by decide) ?_
          exact t_X12_goesOn_b90 hrc hk16 h
set_option maxRecDepth 20000 in
theorem u_X12_goesOn {N : Nat} {rc : Int32 → Int32 → Mem → Option (Bool × Mem)} {e0 : Nat} (hrc : ∀ (x1 : Int32) (x2 : Int32) (M : Mem) (q : Bool × Mem), rc x1 x2 M = some q → Ev 200 21 e0 m_X12_goesOn [.ref 200, .int x1, .int x2] M (QB q)) {x1 : Int32} {x2 : Int32} {M : Mem} {q : Bool × Mem} (h : g_X12_goesOn N rc x1 x2 M = some q) : Ev 200 21 (e0 + 1) m_X12_goesOn [.ref 200, .int x1, .int x2] M (QB q) := by
  refine Ev_of_Fr (by decide +kernel) (Nat.le_of_ble_eq_true rfl) ?_
  show Fr 200 21 (e0 + 1) m_X12_goesOn 0 [(0, .ref 200), (1, .int x1), (2, .int x2)] [] M (QB q)
  unfold g_X12_goesOn at h
  refine Fr_iload_n (q := 1) (i := 1) 1 (by decide +kernel) rfl rfl ?_
  refine Fr_iload_n (q := 2) (i := 2) 2 (by decide +kernel) rfl rfl ?_
  refine Fr_icmp_ne (off := 5) 7 (by decide +kernel) (by decide) (fun hc => ?_) (fun hc => ?_)
  · have h := iF hc h
    refine Fr_aload_n (q := 0) (i := 0) 0 (by decide +kernel) rfl rfl ?_
    refine gf_X12_66 rfl (by decide +kernel) ob_200 ?_
    refine Fr_iload_n (q := 1) (i := 1) 1 (by decide +kernel) rfl rfl ?_
    refine Fr_iconst (i := 1) (v := 1) (by decide +kernel) (by decide) ?_
    obtain ⟨hi_1, h⟩ := ck_elim h
    refine Fr_iast (by decide +kernel) ob_215 (vp_of ln_215 hi_1) ?_
    obtain ⟨M_2, eM_2, h⟩ := bM_elim h
    refine Fr_mem eM_2 ?_
    refine Fr_iconst (i := 0) (v := 0) (by decide +kernel) (by decide) ?_
    refine Fr_istore_n (q := 3) (i := 3) (lv' := [(3, .int 0), (0, .ref 200), (1, .int x1), (2, .int x2)]) (by decide +kernel) rfl (by decide) rfl ?_
    refine Fr_loc [1, 2, 3, 0] rfl ?_
    exact lp_sound (body := fun k a m => f_X12_goesOn_h16 N rc k a.1 a.2.1 a.2.2 m) (P := fun a M => Fr 200 21 (e0 + 1) m_X12_goesOn 16 [(0, .ref 200), (1, .int a.1), (2, .int a.2.1), (3, .int a.2.2)] [] M (QB q)) (fun k hk a m h => t_X12_goesOn_h16 hrc hk h) N (x1, x2, 0) M_2 h
  · have h := iT hc h
    refine Fr_iconst (i := 1) (v := 1) (by decide +kernel) (by decide) ?_
    obtain rfl := Option.some.inj h
    exact Fr_zret (by decide +kernel) rfl (by decide) ⟨rfl, rfl⟩
theorem t_X12_goesOn {N : Nat} : ∀ (D : Nat) {x1 : Int32} {x2 : Int32} {M : Mem} {q : Bool × Mem}, f_X12_goesOn N D x1 x2 M = some q → Ev 200 21 (1 * D) m_X12_goesOn [.ref 200, .int x1, .int x2] M (QB q)
  | 0, _, _, _, _, h => by cases h
  | D + 1, _, _, _, _, h => u_X12_goesOn (e0 := 1 * D) (rc := f_X12_goesOn N D) (fun _ _ _ _ h => t_X12_goesOn D h) h
