set_option maxRecDepth 20000 in
theorem t_X12_way_b227 {N : Nat} {q : Int32 × Mem} {k95 : Int32 × Int32 × Int32 × Int32 → Mem → Option (Int32 × Mem)} (hk95 : ∀ (a : Int32 × Int32 × Int32 × Int32) (M : Mem), k95 a M = some q → Fr 200 21 3 m_X12_way 95 [(0, .ref 200), (3, .int a.1), (4, .int a.2.1), (5, .int a.2.2.1), (6, .int a.2.2.2)] [] M (QI q)) {k106 : Int32 × Int32 × Int32 × Int32 × Int32 → Mem → Option (Int32 × Mem)} (hk106 : ∀ (a : Int32 × Int32 × Int32 × Int32 × Int32) (M : Mem), k106 a M = some q → Fr 200 21 3 m_X12_way 106 [(0, .ref 200), (3, .int a.1), (4, .int a.2.1), (5, .int a.2.2.1), (6, .int a.2.2.2.1), (7, .int a.2.2.2.2)] [] M (QI q)) {v3 : Int32} {v4 : Int32} {v5 : Int32} {v6 : Int32} {v7 : Int32} {M : Mem} (h : f_X12_way_b227 N k95 k106 v3 v4 v5 v6 v7 M = some q) : Fr 200 21 3 m_X12_way 227 [(0, .ref 200), (3, .int v3), (4, .int v4), (5, .int v5), (6, .int v6), (7, .int v7)] [] M (QI q) := by
  unfold f_X12_way_b227 at h
  refine Fr_iinc (i := 7) (j := 1) (v := (v7 + 1)) (lv' := [(7, .int (v7 + 1)), (0, .ref 200), (3, .int v3), (4, .int v4), (5, .int v5), (6, .int v6)]) 5 (by decide +kernel) rfl rfl (by decide) rfl ?_
  refine Fr_goto (off := (-124)) 106 (by decide +kernel) (by decide) ?_
  refine Fr_loc [1, 2, 3, 4, 5, 0] rfl ?_
  exact hk106 (v3, v4, v5, v6, (v7 + 1)) M h
set_option maxRecDepth 20000 in
theorem t_X12_way_b221 {N : Nat} {q : Int32 × Mem} {k95 : Int32 × Int32 × Int32 × Int32 → Mem → Option (Int32 × Mem)} (hk95 : ∀ (a : Int32 × Int32 × Int32 × Int32) (M : Mem), k95 a M = some q → Fr 200 21 3 m_X12_way 95 [(0, .ref 200), (3, .int a.1), (4, .int a.2.1), (5, .int a.2.2.1), (6, .int a.2.2.2)] [] M (QI q)) {k106 : Int32 × Int32 × Int32 × Int32 × Int32 → Mem → Option (Int32 × Mem)} (hk106 : ∀ (a : Int32 × Int32 × Int32 × Int32 × Int32) (M : Mem), k106 a M = some q → Fr 200 21 3 m_X12_way 106 [(0, .ref 200), (3, .int a.1), (4, .int a.2.1), (5, .int a.2.2.1), (6, .int a.2.2.2.1), (7, .int a.2.2.2.2)] [] M (QI q)) {k118 : Int32 × Int32 × Int32 × Int32 × Int32 × Int32 → Mem → Option (Int32 × Mem)} (hk118 : ∀ (a : Int32 × Int32 × Int32 × Int32 × Int32 × Int32) (M : Mem), k118 a M = some q → Fr 200 21 3 m_X12_way 118 [(0, .ref 200), (3, .int a.1), (4, .int a.2.1), (5, .int a.2.2.1), (6, .int a.2.2.2.1), (7, .int a.2.2.2.2.1), (8, .int a.2.2.2.2.2)] [] M (QI q)) {v3 : Int32} {v4 : Int32} {v5 : Int32} {v6 : Int32} {v7 : Int32} {v8 : Int32} {M : Mem} (h : f_X12_way_b221 N k95 k106 k118 v3 v4 v5 v6 v7 v8 M = some q) : Fr 200 21 3 m_X12_way 221 [(0, .ref 200), (3, .int v3), (4, .int v4), (5, .int v5), (6, .int v6), (7, .int v7), (8, .int v8)] [] M (QI q) := by
  unfold f_X12_way_b221 at h
  refine Fr_iinc (i := 8) (j := 1) (v := (v8 + 1)) (lv' := [(8, .int (v8 + 1)), (0, .ref 200), (3, .int v3), (4, .int v4), (5, .int v5), (6, .int v6), (7, .int v7)]) 6 (by decide +kernel) rfl rfl (by decide) rfl ?_
  refine Fr_goto (off := (-106)) 118 (by decide +kernel) (by decide) ?_
  refine Fr_loc [1, 2, 3, 4, 5, 6, 0] rfl ?_
  exact hk118 (v3, v4, v5, v6, v7, (v8 + 1)) M h
set_option maxRecDepth 20000 in
theorem t_X12_way_b201 {N : Nat} {q : Int32 × Mem} {k95 : Int32 × Int32 × Int32 × Int32 → Mem → Option (Int32 × Mem)} (hk95 : ∀ (a : Int32 × Int32 × Int32 × Int32) (M : Mem), k95 a M = some q → Fr 200 21 3 m_X12_way 95 [(0, .ref 200), (3, .int a.1), (4, .int a.2.1), (5, .int a.2.2.1), (6, .int a.2.2.2)] [] M (QI q)) {k106 : Int32 × Int32 × Int32 × Int32 × Int32 → Mem → Option (Int32 × Mem)} (hk106 : ∀ (a : Int32 × Int32 × Int32 × Int32 × Int32) (M : Mem), k106 a M = some q → Fr 200 21 3 m_X12_way 106 [(0, .ref 200), (3, .int a.1), (4, .int a.2.1), (5, .int a.2.2.1), (6, .int a.2.2.2.1), (7, .int a.2.2.2.2)] [] M (QI q)) {k118 : Int32 × Int32 × Int32 × Int32 × Int32 × Int32 → Mem → Option (Int32 × Mem)} (hk118 : ∀ (a : Int32 × Int32 × Int32 × Int32 × Int32 × Int32) (M : Mem), k118 a M = some q → Fr 200 21 3 m_X12_way 118 [(0, .ref 200), (3, .int a.1), (4, .int a.2.1), (5, .int a.2.2.1), (6, .int a.2.2.2.1), (7, .int a.2.2.2.2.1), (8, .int a.2.2.2.2.2)] [] M (QI q)) {v3 : Int32} {v4 : Int32} {v5 : Int32} {v7 : Int32} {v8 : Int32} {v9 : Int32} {v10 : Int32} {M : Mem} (h : f_X12_way_b201 N k95 k106 k118 v3 v4 v5 v7 v8 v9 v10 M = some q) : Fr 200 21 3 m_X12_way 201 [(0, .ref 200), (3, .int v3), (4, .int v4), (5, .int v5), (7, .int v7), (8, .int v8), (9, .int v9), (10, .int v10)] [] M (QI q) := by
  unfold f_X12_way_b201 at h
  refine Fr_aload_n (q := 0) (i := 0) 0 (by decide +kernel) rfl rfl ?_
  refine gf_X12_53 rfl (by decide +kernel) ob_200 ?_
  refine Fr_iload (i := 9) 6 (by decide +kernel) rfl ?_
  refine Fr_aload_n (q := 0) (i := 0) 0 (by decide +kernel) rfl rfl ?_
  refine gf_X12_53 rfl (by decide +kernel) ob_200 ?_
  refine Fr_iload (i := 7) 4 (by decide +kernel) rfl ?_
  obtain ⟨hi_41, h⟩ := ck_elim h
  refine Fr_iald (by decide +kernel) ob_211 (vp_of ln_211 hi_41) ?_
  refine Fr_iload (i := 10) 7 (by decide +kernel) rfl ?_
  refine Fr_iadd (by decide +kernel) ?_
  obtain ⟨hi_42, h⟩ := ck_elim h
  refine Fr_iast (by decide +kernel) ob_211 (vp_of ln_211 hi_42) ?_
  obtain ⟨M_43, eM_43, h⟩ := bM_elim h
  refine Fr_mem eM_43 ?_
  refine Fr_iconst (i := 1) (v := 1) (by decide +kernel) (by decide) ?_
  refine Fr_istore (i := 6) (lv' := [(6, .int 1), (0, .ref 200), (3, .int v3), (4, .int v4), (5, .int v5), (7, .int v7), (8, .int v8), (9, .int v9), (10, .int v10)]) (by decide +kernel) (by decide) rfl ?_
  refine Fr_loc [1, 2, 3, 4, 0, 5, 6] rfl ?_
  exact t_X12_way_b221 hk95 hk106 hk118 h
set_option maxRecDepth 20000 in
theorem t_X12_way_b161 {N : Nat} {q : Int32 × Mem} {k95 : Int32 × Int32 × Int32 × Int32 → Mem → Option (Int32 × Mem)} (hk95 : ∀ (a : Int32 × Int32 × Int32 × Int32) (M : Mem), k95 a M = some q → Fr 200 21 3 m_X12_way 95 [(0, .ref 200), (3, .int a.1), (4, .int a.2.1), (5, .int a.2.2.1), (6, .int a.2.2.2)] [] M (QI q)) {k106 : Int32 × Int32 × Int32 × Int32 × Int32 → Mem → Option (Int32 × Mem)} (hk106 : ∀ (a : Int32 × Int32 × Int32 × Int32 × Int32) (M : Mem), k106 a M = some q → Fr 200 21 3 m_X12_way 106 [(0, .ref 200), (3, .int a.1), (4, .int a.2.1), (5, .int a.2.2.1), (6, .int a.2.2.2.1), (7, .int a.2.2.2.2)] [] M (QI q)) {k118 : Int32 × Int32 × Int32 × Int32 × Int32 × Int32 → Mem → Option (Int32 × Mem)} (hk118 : ∀ (a : Int32 × Int32 × Int32 × Int32 × Int32 × Int32) (M : Mem), k118 a M = some q → Fr 200 21 3 m_X12_way 118 [(0, .ref 200), (3, .int a.1), (4, .int a.2.1), (5, .int a.2.2.1), (6, .int a.2.2.2.1), (7, .int a.2.2.2.2.1), (8, .int a.2.2.2.2.2)] [] M (QI q)) {v3 : Int32} {v4 : Int32} {v5 : Int32} {v6 : Int32} {v7 : Int32} {v8 : Int32} {v9 : Int32} {s0 : Int32} {M : Mem} (h : f_X12_way_b161 N k95 k106 k118 v3 v4 v5 v6 v7 v8 v9 s0 M = some q) : Fr 200 21 3 m_X12_way 161 [(0, .ref 200), (3, .int v3), (4, .int v4), (5, .int v5), (6, .int v6), (7, .int v7), (8, .int v8), (9, .int v9)] [.int s0] M (QI q) := by
  unfold f_X12_way_b161 at h
  refine Fr_istore (i := 10) (lv' := [(10, .int s0), (0, .ref 200), (3, .int v3), (4, .int v4), (5, .int v5), (6, .int v6), (7, .int v7), (8, .int v8), (9, .int v9)]) (by decide +kernel) (by decide) rfl ?_
  refine Fr_iload (i := 10) 0 (by decide +kernel) rfl ?_
  refine Fr_if_lt (off := 56) 221 (by decide +kernel) (by decide) (fun hc => ?_) (fun hc => ?_)
  · have h := iT hc h
    refine Fr_loc [1, 2, 3, 4, 5, 6, 7] rfl ?_
    exact t_X12_way_b221 hk95 hk106 hk118 h
  · have h := iF hc h
    refine Fr_aload_n (q := 0) (i := 0) 1 (by decide +kernel) rfl rfl ?_
    refine gf_X12_53 rfl (by decide +kernel) ob_200 ?_
    refine Fr_iload (i := 9) 8 (by decide +kernel) rfl ?_
    obtain ⟨hi_40, h⟩ := ck_elim h
    refine Fr_iald (by decide +kernel) ob_211 (vp_of ln_211 hi_40) ?_
    refine Fr_if_lt (off := 26) 201 (by decide +kernel) (by decide) (fun hc => ?_) (fun hc => ?_)
    · have h := iT hc h
      refine Fr_loc [1, 2, 3, 4, 6, 7, 8, 0] rfl ?_
      exact t_X12_way_b201 hk95 hk106 hk118 h
    · have h := iF hc h
      refine Fr_aload_n (q := 0) (i := 0) 1 (by decide +kernel) rfl rfl ?_
      refine gf_X12_53 rfl (by decide +kernel) ob_200 ?_
      refine Fr_iload (i := 9) 8 (by decide +kernel) rfl ?_
      obtain ⟨hi_44, h⟩ := ck_elim h
      refine Fr_iald (by decide +kernel) ob_211 (vp_of ln_211 hi_44) ?_
      refine Fr_aload_n (q := 0) (i := 0) 1 (by decide +kernel) rfl rfl ?_
      refine gf_X12_53 rfl (by decide +kernel) ob_200 ?_
      refine Fr_iload (i := 7) 6 (by decide +kernel) rfl ?_
      obtain ⟨hi_45, h⟩ := ck_elim h
      refine Fr_iald (by decide +kernel) ob_211 (vp_of ln_211 hi_45) ?_
      refine Fr_iload (i := 10) 0 (by decide +kernel) rfl ?_
      refine Fr_iadd (by decide +kernel) ?_
      refine Fr_icmp_gt (off := 6) 201 (by decide +kernel) (by decide) (fun hc => ?_) (fun hc => ?_)
      · have h := iT hc h
        refine Fr_loc [1, 2, 3, 4, 6, 7, 8, 0] rfl ?_
        exact t_X12_way_b201 hk95 hk106 hk118 h
      · have h := iF hc h
        refine Fr_goto (off := 23) 221 (by decide +kernel) (by decide) ?_
        refine Fr_loc [1, 2, 3, 4, 5, 6, 7] rfl ?_
        exact t_X12_way_b221 hk95 hk106 hk118 h
set_option maxRecDepth 20000 in
theorem t_X12_way_h118 {N : Nat} {q : Int32 × Mem} {k95 : Int32 × Int32 × Int32 × Int32 → Mem → Option (Int32 × Mem)} (hk95 : ∀ (a : Int32 × Int32 × Int32 × Int32) (M : Mem), k95 a M = some q → Fr 200 21 3 m_X12_way 95 [(0, .ref 200), (3, .int a.1), (4, .int a.2.1), (5, .int a.2.2.1), (6, .int a.2.2.2)] [] M (QI q)) {k106 : Int32 × Int32 × Int32 × Int32 × Int32 → Mem → Option (Int32 × Mem)} (hk106 : ∀ (a : Int32 × Int32 × Int32 × Int32 × Int32) (M : Mem), k106 a M = some q → Fr 200 21 3 m_X12_way 106 [(0, .ref 200), (3, .int a.1), (4, .int a.2.1), (5, .int a.2.2.1), (6, .int a.2.2.2.1), (7, .int a.2.2.2.2)] [] M (QI q)) {k118 : Int32 × Int32 × Int32 × Int32 × Int32 × Int32 → Mem → Option (Int32 × Mem)} (hk118 : ∀ (a : Int32 × Int32 × Int32 × Int32 × Int32 × Int32) (M : Mem), k118 a M = some q → Fr 200 21 3 m_X12_way 118 [(0, .ref 200), (3, .int a.1), (4, .int a.2.1), (5, .int a.2.2.1), (6, .int a.2.2.2.1), (7, .int a.2.2.2.2.1), (8, .int a.2.2.2.2.2)] [] M (QI q)) {v3 : Int32} {v4 : Int32} {v5 : Int32} {v6 : Int32} {v7 : Int32} {v8 : Int32} {M : Mem} (h : f_X12_way_h118 N k95 k106 k118 v3 v4 v5 v6 v7 v8 M = some q) : Fr 200 21 3 m_X12_way 118 [(0, .ref 200), (3, .int v3), (4, .int v4), (5, .int v5), (6, .int v6), (7, .int v7), (8, .int v8)] [] M (QI q) := by
  unfold f_X12_way_h118 at h
  refine Fr_iload (i := 8) 6 (by decide +kernel) rfl ?_
  refine Fr_iconst (i := 4) (v := 4) (by decide +kernel) (by decide) ?_
  refine Fr_icmp_gt (off := 106) 227 (by decide +kernel) (by decide) (fun hc => ?_) (fun hc => ?_)
  · have h := iT hc h
    refine Fr_loc [0, 1, 2, 3, 4, 5] rfl ?_
    exact t_X12_way_b227 hk95 hk106 h
  · have h := iF hc h
    refine Fr_aload_n (q := 0) (i := 0) 0 (by decide +kernel) rfl rfl ?_
    refine gf_X12_53 rfl (by decide +kernel) ob_200 ?_
    refine Fr_iload (i := 7) 5 (by decide +kernel) rfl ?_
    obtain ⟨hi_33, h⟩ := ck_elim h
    refine Fr_iald (by decide +kernel) ob_211 (vp_of ln_211 hi_33) ?_
    refine Fr_if_lt (off := 96) 227 (by decide +kernel) (by decide) (fun hc => ?_) (fun hc => ?_)
    · have h := iT hc h
      refine Fr_loc [0, 1, 2, 3, 4, 5] rfl ?_
      exact t_X12_way_b227 hk95 hk106 h
    · have h := iF hc h
      refine Fr_aload_n (q := 0) (i := 0) 0 (by decide +kernel) rfl rfl ?_
      refine Fr_iload (i := 7) 5 (by decide +kernel) rfl ?_
      refine Fr_iload (i := 8) 6 (by decide +kernel) rfl ?_
      obtain ⟨r_36, M_34, hc_35, h⟩ := bi_elim h
      refine Fr_cVi (ν := m_X12_beside) (As := [.int v7, .int v8]) (st := []) (rc := 200) (ci := 12) (d' := 2) (by decide +kernel) ml_X12_411 cv_X12_beside rfl (by decide) rfl ob_200 rfl (by decide) (Nat.le_of_ble_eq_true rfl) (t_X12_beside hc_35) ?_
      refine Fr_istore (i := 9) (lv' := [(9, .int r_36), (0, .ref 200), (3, .int v3), (4, .int v4), (5, .int v5), (6, .int v6), (7, .int v7), (8, .int v8)]) (by decide +kernel) (by decide) rfl ?_
      refine Fr_iload (i := 9) 0 (by decide +kernel) rfl ?_
      refine Fr_if_ge (off := 7) 153 (by decide +kernel) (by decide) (fun hc => ?_) (fun hc => ?_)
      · have h := iT hc h
        refine Fr_aload_n (q := 0) (i := 0) 1 (by decide +kernel) rfl rfl ?_
        refine Fr_iload (i := 9) 0 (by decide +kernel) rfl ?_
        refine Fr_iload (i := 5) 4 (by decide +kernel) rfl ?_
        obtain ⟨r_39, M_37, hc_38, h⟩ := bi_elim h
        refine Fr_cVi (ν := m_X12_costOf) (As := [.int r_36, .int v5]) (st := []) (rc := 200) (ci := 12) (d' := 2) (by decide +kernel) ml_X12_483 cv_X12_costOf rfl (by decide) rfl ob_200 rfl (by decide) (Nat.le_of_ble_eq_true rfl) (t_X12_costOf hc_38) ?_
        refine Fr_loc [1, 2, 3, 4, 5, 6, 7, 0] rfl ?_
        exact t_X12_way_b161 hk95 hk106 hk118 h
      · have h := iF hc h
        refine Fr_iconst (i := (-1)) (v := (-1)) (by decide +kernel) (by decide) ?_
        refine Fr_goto (off := 11) 161 (by decide +kernel) (by decide) ?_
        refine Fr_loc [1, 2, 3, 4, 5, 6, 7, 0] rfl ?_
        exact t_X12_way_b161 hk95 hk106 hk118 h
set_option maxRecDepth 20000 in
theorem t_X12_way_h106 {N : Nat} {q : Int32 × Mem} {k95 : Int32 × Int32 × Int32 × Int32 → Mem → Option (Int32 × Mem)} (hk95 : ∀ (a : Int32 × Int32 × Int32 × Int32) (M : Mem), k95 a M = some q → Fr 200 21 3 m_X12_way 95 [(0, .ref 200), (3, .int a.1), (4, .int a.2.1), (5, .int a.2.2.1), (6, .int a.2.2.2)] [] M (QI q)) {k106 : Int32 × Int32 × Int32 × Int32 × Int32 → Mem → Option (Int32 × Mem)} (hk106 : ∀ (a : Int32 × Int32 × Int32 × Int32 × Int32) (M : Mem), k106 a M = some q → Fr 200 21 3 m_X12_way 106 [(0, .ref 200), (3, .int a.1), (4, .int a.2.1), (5, .int a.2.2.1), (6, .int a.2.2.2.1), (7, .int a.2.2.2.2)] [] M (QI q)) {v3 : Int32} {v4 : Int32} {v5 : Int32} {v6 : Int32} {v7 : Int32} {M : Mem} (h : f_X12_way_h106 N k95 k106 v3 v4 v5 v6 v7 M = some q) : Fr 200 21 3 m_X12_way 106 [(0, .ref 200), (3, .int v3), (4, .int v4), (5, .int v5), (6, .int v6), (7, .int v7)] [] M (QI q) := by
  unfold f_X12_way_h106 at h
  refine Fr_iload (i := 7) 5 (by decide +kernel) rfl ?_
  refine Fr_aload_n (q := 0) (i := 0) 0 (by decide +kernel) rfl rfl ?_
  obtain ⟨r_32, M_30, hc_31, h⟩ := bi_elim h
  refine Fr_cVi (ν := m_X12_boards) (As := []) (st := [.int v7]) (rc := 200) (ci := 12) (d' := 0) (by decide +kernel) ml_X12_363 cv_X12_boards rfl (by decide) rfl ob_200 rfl (by decide) (Nat.le_of_ble_eq_true rfl) (t_X12_boards hc_31) ?_
  refine Fr_icmp_ge (off := 121) 233 (by decide +kernel) (by decide) (fun hc => ?_) (fun hc => ?_)
  · have h := iT hc h
    refine Fr_goto (off := (-138)) 95 (by decide +kernel) (by decide) ?_
    refine Fr_loc [0, 1, 2, 3, 4] rfl ?_
    exact hk95 (v3, v4, v5, v6) M_30 h
  · have h := iF hc h
    refine Fr_iconst (i := 1) (v := 1) (by decide +kernel) (by decide) ?_
    refine Fr_istore (i := 8) (lv' := [(8, .int 1), (0, .ref 200), (3, .int v3), (4, .int v4), (5, .int v5), (6, .int v6), (7, .int v7)]) (by decide +kernel) (by decide) rfl ?_
    refine Fr_loc [1, 2, 3, 4, 5, 6, 0] rfl ?_
    exact lp_sound (body := fun k a m => f_X12_way_h118 N k95 k106 k a.1 a.2.1 a.2.2.1 a.2.2.2.1 a.2.2.2.2.1 a.2.2.2.2.2 m) (P := fun a M => Fr 200 21 3 m_X12_way 118 [(0, .ref 200), (3, .int a.1), (4, .int a.2.1), (5, .int a.2.2.1), (6, .int a.2.2.2.1), (7, .int a.2.2.2.2.1), (8, .int a.2.2.2.2.2)] [] M (QI q)) (fun k hk a m h => t_X12_way_h118 hk95 hk106 hk h) N (v3, v4, v5, v6, v7, 1) M_30 h
set_option maxRecDepth 20000 in
theorem t_X12_way_h95 {N : Nat} {q : Int32 × Mem} {k95 : Int32 × Int32 × Int32 × Int32 → Mem → Option (Int32 × Mem)} (hk95 : ∀ (a : Int32 × Int32 × Int32 × Int32) (M : Mem), k95 a M = some q → Fr 200 21 3 m_X12_way 95 [(0, .ref 200), (3, .int a.1), (4, .int a.2.1), (5, .int a.2.2.1), (6, .int a.2.2.2)] [] M (QI q)) {v3 : Int32} {v4 : Int32} {v5 : Int32} {v6 : Int32} {M : Mem} (h : f_X12_way_h95 N k95 v3 v4 v5 v6 M = some q) : Fr 200 21 3 m_X12_way 95 [(0, .ref 200), (3, .int v3), (4, .int v4), (5, .int v5), (6, .int v6)] [] M (QI q) := by
  unfold f_X12_way_h95 at h
  refine Fr_iload (i := 6) 4 (by decide +kernel) rfl ?_
  refine Fr_if_eq (off := 139) 236 (by decide +kernel) (by decide) (fun hc => ?_) (fun hc => ?_)
  · have h := iT hc h
    refine Fr_aload_n (q := 0) (i := 0) 0 (by decide +kernel) rfl rfl ?_
    refine gf_X12_53 rfl (by decide +kernel) ob_200 ?_
    refine Fr_aload_n (q := 0) (i := 0) 0 (by decide +kernel) rfl rfl ?_
    refine Fr_iload_n (q := 3) (i := 3) 1 (by decide +kernel) rfl rfl ?_
    refine Fr_iload (i := 4) 2 (by decide +kernel) rfl ?_
    obtain ⟨r_25, M_23, hc_24, h⟩ := bi_elim h
    refine Fr_cVi (ν := m_X12_board) (As := [.int v3, .int v4]) (st := [.ref 211]) (rc := 200) (ci := 12) (d' := 0) (by decide +kernel) ml_X12_396 cv_X12_board rfl (by decide) rfl ob_200 rfl (by decide) (Nat.le_of_ble_eq_true rfl) (t_X12_board hc_24) ?_
    obtain ⟨hi_26, h⟩ := ck_elim h
    refine Fr_iald (by decide +kernel) ob_211 (vp_of ln_211 hi_26) ?_
    refine Fr_istore (i := 7) (lv' := [(7, .int (M_23.1 211 (tn r_25))), (0, .ref 200), (3, .int v3), (4, .int v4), (5, .int v5), (6, .int v6)]) (by decide +kernel) (by decide) rfl ?_
    refine Fr_iload (i := 7) 0 (by decide +kernel) rfl ?_
    refine Fr_if_ge (off := 12) 264 (by decide +kernel) (by decide) (fun hc => ?_) (fun hc => ?_)
    · have h := iT hc h
      refine Fr_iload (i := 7) 0 (by decide +kernel) rfl ?_
      obtain rfl := Option.some.inj h
      exact Fr_iret (by decide +kernel) rfl ⟨rfl, rfl⟩
    · have h := iF hc h
      refine Fr_aload_n (q := 0) (i := 0) 1 (by decide +kernel) rfl rfl ?_
      refine Fr_bipush (i := 8) (v := 8) (by decide +kernel) (by decide) ?_
      obtain ⟨r_29, M_27, hc_28, h⟩ := bi_elim h
      refine Fr_cVi (ν := m_X12_refuse) (As := [.int 8]) (st := []) (rc := 200) (ci := 12) (d' := 0) (by decide +kernel) ml_X12_371 cv_X12_refuse rfl (by decide) rfl ob_200 rfl (by decide) (Nat.le_of_ble_eq_true rfl) (t_X12_refuse hc_28) ?_
      refine Fr_goto (off := 5) 266 (by decide +kernel) (by decide) ?_
      obtain rfl := Option.some.inj h
      exact Fr_iret (by decide +kernel) rfl ⟨rfl, rfl⟩
  · have h := iF hc h
    refine Fr_iconst (i := 0) (v := 0) (by decide +kernel) (by decide) ?_
    refine Fr_istore (i := 6) (lv' := [(6, .int 0), (0, .ref 200), (3, .int v3), (4, .int v4), (5, .int v5)]) (by decide +kernel) (by decide) rfl ?_
    refine Fr_iconst (i := 0) (v := 0) (by decide +kernel) (by decide) ?_
    refine Fr_istore (i := 7) (lv' := [(7, .int 0), (6, .int 0), (0, .ref 200), (3, .int v3), (4, .int v4), (5, .int v5)]) (by decide +kernel) (by decide) rfl ?_
    refine Fr_loc [2, 3, 4, 5, 1, 0] rfl ?_
    exact lp_sound (body := fun k a m => f_X12_way_h106 N k95 k a.1 a.2.1 a.2.2.1 a.2.2.2.1 a.2.2.2.2 m) (P := fun a M => Fr 200 21 3 m_X12_way 106 [(0, .ref 200), (3, .int a.1), (4, .int a.2.1), (5, .int a.2.2.1), (6, .int a.2.2.2.1), (7, .int a.2.2.2.2)] [] M (QI q)) (fun k hk a m h => t_X12_way_h106 hk95 hk h) N (v3, v4, v5, 0, 0) M h
set_option maxRecDepth 20000 in
theorem t_X12_way_h57 {N : Nat} {q : Int32 × Mem} {k57 : Int32 × Int32 × Int32 × Int32 × Int32 × Int32 → Mem → Option (Int32 × Mem)} (hk57 : ∀ (a : Int32 × Int32 × Int32 × Int32 × Int32 × Int32) (M : Mem), k57 a M = some q → Fr 200 21 3 m_X12_way 57 [(0, .ref 200), (1, .int a.1), (2, .int a.2.1), (3, .int a.2.2.1), (4, .int a.2.2.2.1), (5, .int a.2.2.2.2.1), (6, .int a.2.2.2.2.2)] [] M (QI q)) {v1 : Int32} {v2 : Int32} {v3 : Int32} {v4 : Int32} {v5 : Int32} {v6 : Int32} {M : Mem} (h : f_X12_way_h57 N k57 v1 v2 v3 v4 v5 v6 M = some q) : Fr 200 21 3 m_X12_way 57 [(0, .ref 200), (1, .int v1), (2, .int v2), (3, .int v3), (4, .int v4), (5, .int v5), (6, .int v6)] [] M (QI q) := by
  unfold f_X12_way_h57 at h
  refine Fr_iload (i := 6) 6 (by decide +kernel) rfl ?_
  refine Fr_aload_n (q := 0) (i := 0) 0 (by decide +kernel) rfl rfl ?_
  obtain ⟨r_17, M_15, hc_16, h⟩ := bi_elim h
  refine Fr_cVi (ν := m_X12_boards) (As := []) (st := [.int v6]) (rc := 200) (ci := 12) (d' := 0) (by decide +kernel) ml_X12_363 cv_X12_boards rfl (by decide) rfl ob_200 rfl (by decide) (Nat.le_of_ble_eq_true rfl) (t_X12_boards hc_16) ?_
  refine Fr_icmp_ge (off := 17) 80 (by decide +kernel) (by decide) (fun hc => ?_) (fun hc => ?_)
  · have h := iT hc h
    refine Fr_aload_n (q := 0) (i := 0) 0 (by decide +kernel) rfl rfl ?_
    refine gf_X12_53 rfl (by decide +kernel) ob_200 ?_
    refine Fr_aload_n (q := 0) (i := 0) 0 (by decide +kernel) rfl rfl ?_
    refine Fr_iload_n (q := 1) (i := 1) 1 (by decide +kernel) rfl rfl ?_
    refine Fr_iload_n (q := 2) (i := 2) 2 (by decide +kernel) rfl rfl ?_
    obtain ⟨r_20, M_18, hc_19, h⟩ := bi_elim h
    refine Fr_cVi (ν := m_X12_board) (As := [.int v1, .int v2]) (st := [.ref 211]) (rc := 200) (ci := 12) (d' := 0) (by decide +kernel) ml_X12_396 cv_X12_board rfl (by decide) rfl ob_200 rfl (by decide) (Nat.le_of_ble_eq_true rfl) (t_X12_board hc_19) ?_
    refine Fr_iconst (i := 0) (v := 0) (by decide +kernel) (by decide) ?_
    obtain ⟨hi_21, h⟩ := ck_elim h
    refine Fr_iast (by decide +kernel) ob_211 (vp_of ln_211 hi_21) ?_
    obtain ⟨M_22, eM_22, h⟩ := bM_elim h
    refine Fr_mem eM_22 ?_
    refine Fr_iconst (i := 1) (v := 1) (by decide +kernel) (by decide) ?_
    refine Fr_istore (i := 6) (lv' := [(6, .int 1), (0, .ref 200), (1, .int v1), (2, .int v2), (3, .int v3), (4, .int v4), (5, .int v5)]) (by decide +kernel) (by decide) rfl ?_
    refine Fr_loc [1, 4, 5, 6, 0] rfl ?_
    exact lp_sound (body := fun k a m => f_X12_way_h95 N k a.1 a.2.1 a.2.2.1 a.2.2.2 m) (P := fun a M => Fr 200 21 3 m_X12_way 95 [(0, .ref 200), (3, .int a.1), (4, .int a.2.1), (5, .int a.2.2.1), (6, .int a.2.2.2)] [] M (QI q)) (fun k hk a m h => t_X12_way_h95 hk h) N (v3, v4, v5, 1) M_22 h
  · have h := iF hc h
    refine Fr_aload_n (q := 0) (i := 0) 0 (by decide +kernel) rfl rfl ?_
    refine gf_X12_53 rfl (by decide +kernel) ob_200 ?_
    refine Fr_iload (i := 6) 6 (by decide +kernel) rfl ?_
    refine Fr_iconst (i := (-1)) (v := (-1)) (by decide +kernel) (by decide) ?_
    obtain ⟨hi_46, h⟩ := ck_elim h
    refine Fr_iast (by decide +kernel) ob_211 (vp_of ln_211 hi_46) ?_
    obtain ⟨M_47, eM_47, h⟩ := bM_elim h
    refine Fr_mem eM_47 ?_
    refine Fr_iinc (i := 6) (j := 1) (v := (v6 + 1)) (lv' := [(6, .int (v6 + 1)), (0, .ref 200), (1, .int v1), (2, .int v2), (3, .int v3), (4, .int v4), (5, .int v5)]) 6 (by decide +kernel) rfl rfl (by decide) rfl ?_
    refine Fr_goto (off := (-20)) 57 (by decide +kernel) (by decide) ?_
    refine Fr_loc [1, 2, 3, 4, 5, 6, 0] rfl ?_
    exact hk57 (v1, v2, v3, v4, v5, (v6 + 1)) M_47 h
set_option maxRecDepth 20000 in
theorem t_X12_way {N : Nat} {x1 : Int32} {x2 : Int32} {x3 : Int32} {x4 : Int32} {x5 : Int32} {M : Mem} {q : Int32 × Mem} (h : f_X12_way N x1 x2 x3 x4 x5 M = some q) : Ev 200 21 3 m_X12_way [.ref 200, .int x1, .int x2, .int x3, .int x4, .int x5] M (QI q) := by
  refine Ev_of_Fr (by decide +kernel) (Nat.le_of_ble_eq_true rfl) ?_
  show Fr 200 21 3 m_X12_way 0 [(0, .ref 200), (1, .int x1), (2, .int x2), (3, .int x3), (4, .int x4), (5, .int x5)] [] M (QI q)
  unfold f_X12_way at h
  refine Fr_aload_n (q := 0) (i := 0) 0 (by decide +kernel) rfl rfl ?_
  refine Fr_iconst (i := 0) (v := 0) (by decide +kernel) (by decide) ?_
  refine pf_X12_84 rfl (by decide +kernel) ob_200 ?_
  obtain ⟨M_1, eM_1, h⟩ := bM_elim h
  refine Fr_mem eM_1 ?_
  refine Fr_aload_n (q := 0) (i := 0) 0 (by decide +kernel) rfl rfl ?_
  refine Fr_iconst (i := 0) (v := 0) (by decide +kernel) (by decide) ?_
  refine pf_X12_87 rfl (by decide +kernel) ob_200 ?_
  obtain ⟨M_2, eM_2, h⟩ := bM_elim h
  refine Fr_mem eM_2 ?_
  refine Fr_aload_n (q := 0) (i := 0) 0 (by decide +kernel) rfl rfl ?_
  refine Fr_iload_n (q := 1) (i := 1) 1 (by decide +kernel) rfl rfl ?_
  refine Fr_iload_n (q := 2) (i := 2) 2 (by decide +kernel) rfl rfl ?_
  obtain ⟨r_5, M_3, hc_4, h⟩ := bi_elim h
  refine Fr_cVb (ν := m_X12_isBoard) (As := [.int x1, .int x2]) (st := []) (rc := 200) (ci := 12) (d' := 1) (by decide +kernel) ml_X12_393 cv_X12_isBoard rfl (by decide) rfl ob_200 rfl (by decide) (Nat.le_of_ble_eq_true rfl) (t_X12_isBoard hc_4) ?_
  refine Fr_if_eq (off := 13) 29 (by decide +kernel) (by decide) (fun hc => ?_) (fun hc => ?_)
  · have h := iT hc h
    refine Fr_aload_n (q := 0) (i := 0) 0 (by decide +kernel) rfl rfl ?_
    refine Fr_iconst (i := 2) (v := 2) (by decide +kernel) (by decide) ?_
    obtain ⟨r_8, M_6, hc_7, h⟩ := bi_elim h
    refine Fr_cVi (ν := m_X12_refuse) (As := [.int 2]) (st := []) (rc := 200) (ci := 12) (d' := 0) (by decide +kernel) ml_X12_371 cv_X12_refuse rfl (by decide) rfl ob_200 rfl (by decide) (Nat.le_of_ble_eq_true rfl) (t_X12_refuse hc_7) ?_
    obtain rfl := Option.some.inj h
    exact Fr_iret (by decide +kernel) rfl ⟨rfl, rfl⟩
  · have h := iF hc h
    refine Fr_aload_n (q := 0) (i := 0) 0 (by decide +kernel) rfl rfl ?_
    refine Fr_iload_n (q := 3) (i := 3) 3 (by decide +kernel) rfl rfl ?_
    refine Fr_iload (i := 4) 4 (by decide +kernel) rfl ?_
    obtain ⟨r_11, M_9, hc_10, h⟩ := bi_elim h
    refine Fr_cVb (ν := m_X12_isBoard) (As := [.int x3, .int x4]) (st := []) (rc := 200) (ci := 12) (d' := 1) (by decide +kernel) ml_X12_393 cv_X12_isBoard rfl (by decide) rfl ob_200 rfl (by decide) (Nat.le_of_ble_eq_true rfl) (t_X12_isBoard hc_10) ?_
    refine Fr_if_ne (off := 9) 35 (by decide +kernel) (by decide) (fun hc => ?_) (fun hc => ?_)
    · have h := iF hc h
      refine Fr_iload (i := 5) 5 (by decide +kernel) rfl ?_
      refine Fr_i2l (by decide +kernel) ?_
      refine Fr_lconst (i := 0) (v := 0) (by decide +kernel) (by decide) ?_
      refine Fr_ldc2 (idx := 481) (v := 2) (by decide +kernel) ll_X12_481 ?_
      obtain ⟨r_14, M_12, hc_13, h⟩ := bi_elim h
      refine Fr_cSb (ν := m_X12_isIn) (As := [.long (Int32.toInt64 x5), .long 0, .long 2]) (st := []) (d' := 0) (by decide +kernel) ml_X12_119 cs_X12_isIn rfl (by decide) (Nat.le_of_ble_eq_true rfl) (t_X12_isIn hc_13) ?_
      refine Fr_if_ne (off := 9) 54 (by decide +kernel) (by decide) (fun hc => ?_) (fun hc => ?_)
      · have h := iF hc h
        refine Fr_iconst (i := 0) (v := 0) (by decide +kernel) (by decide) ?_
        refine Fr_istore (i := 6) (lv' := [(6, .int 0), (0, .ref 200), (1, .int x1), (2, .int x2), (3, .int x3), (4, .int x4), (5, .int x5)]) (by decide +kernel) (by decide) rfl ?_
        refine Fr_loc [1, 2, 3, 4, 5, 6, 0] rfl ?_
        exact lp_sound (body := fun k a m => f_X12_way_h57 N k a.1 a.2.1 a.2.2.1 a.2.2.2.1 a.2.2.2.2.1 a.2.2.2.2.2 m) (P := fun a M => Fr 200 21 3 m_X12_way 57 [(0, .ref 200), (1, .int a.1), (2, .int a.2.1), (3, .int a.2.2.1), (4, .int a.2.2.2.1), (5, .int a.2.2.2.2.1), (6, .int a.2.2.2.2.2)] [] M (QI q)) (fun k hk a m h => t_X12_way_h57 hk h) N (x1, x2, x3, x4, x5, 0) M_12 h
      · have h := iT hc h
        refine Fr_aload_n (q := 0) (i := 0) 0 (by decide +kernel) rfl rfl ?_
        refine Fr_iconst (i := 5) (v := 5) (by decide +kernel) (by decide) ?_
        obtain ⟨r_50, M_48, hc_49, h⟩ := bi_elim h
        refine Fr_cVi (ν := m_X12_refuse) (As := [.int 5]) (st := []) (rc := 200) (ci := 12) (d' := 0) (by decide +kernel) ml_X12_371 cv_X12_refuse rfl (by decide) rfl ob_200 rfl (by decide) (Nat.le_of_ble_eq_true rfl) (t_X12_refuse hc_49) ?_
        obtain rfl := Option.some.inj h
        exact Fr_iret (by decide +kernel) rfl ⟨rfl, rfl⟩
    · have h := iT hc h
      refine Fr_aload_n (q := 0) (i := 0) 0 (by decide +kernel) rfl rfl ?_
      refine Fr_iconst (i := 2) (v := 2) (by decide +kernel) (by decide) ?_
      obtain ⟨r_53, M_51, hc_52, h⟩ := bi_elim h
      refine Fr_cVi (ν := m_X12_refuse) (As := [.int 2]) (st := []) (rc := 200) (ci := 12) (d' := 0) (by decide +kernel) ml_X12_371 cv_X12_refuse rfl (by decide) rfl ob_200 rfl (by decide) (Nat.le_of_ble_eq_true rfl) (t_X12_refuse hc_52) ?_
      obtain rfl := Option.some.inj h
      exact Fr_iret (by decide +kernel) rfl ⟨rfl, rfl⟩
