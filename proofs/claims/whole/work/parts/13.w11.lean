set_option maxRecDepth 20000 in
theorem t_X7_reachedThen_b53 {N : Nat} {p1 : Nat} (hp1 : Ob 0 111 p1 5) {q : Int32 × Mem} {k12 : Int32 × Int32 × Int32 × Int32 × Int32 → Mem → Option (Int32 × Mem)} (hk12 : ∀ (a : Int32 × Int32 × Int32 × Int32 × Int32) (M : Mem), k12 a M = some q → Fr 0 111 3 m_X7_reachedThen 12 [(0, .ref 96), (1, .ref p1), (2, .int a.1), (3, .int a.2.1), (4, .int a.2.2.1), (5, .int a.2.2.2.1), (6, .int a.2.2.2.2)] [] M (QI q)) {v2 : Int32} {v3 : Int32} {v4 : Int32} {v5 : Int32} {v6 : Int32} {M : Mem} (h : f_X7_reachedThen_b53 N p1 k12 v2 v3 v4 v5 v6 M = some q) : Fr 0 111 3 m_X7_reachedThen 53 [(0, .ref 96), (1, .ref p1), (2, .int v2), (3, .int v3), (4, .int v4), (5, .int v5), (6, .int v6)] [] M (QI q) := by
  unfold f_X7_reachedThen_b53 at h
  refine Fr_iinc (i := 6) (j := 1) (v := (v6 + 1)) (lv' := [(6, .int (v6 + 1)), (0, .ref 96), (1, .ref p1), (2, .int v2), (3, .int v3), (4, .int v4), (5, .int v5)]) 6 (by decide +kernel) rfl rfl (by decide) rfl ?_
  refine Fr_goto (off := (-44)) 12 (by decide +kernel) (by decide) ?_
  refine Fr_loc [1, 2, 3, 4, 5, 6, 0] rfl ?_
  exact hk12 (v2, v3, v4, v5, (v6 + 1)) M h
set_option maxRecDepth 20000 in
theorem t_X7_reachedThen_h12 {N : Nat} {p1 : Nat} (hp1 : Ob 0 111 p1 5) {q : Int32 × Mem} {k12 : Int32 × Int32 × Int32 × Int32 × Int32 → Mem → Option (Int32 × Mem)} (hk12 : ∀ (a : Int32 × Int32 × Int32 × Int32 × Int32) (M : Mem), k12 a M = some q → Fr 0 111 3 m_X7_reachedThen 12 [(0, .ref 96), (1, .ref p1), (2, .int a.1), (3, .int a.2.1), (4, .int a.2.2.1), (5, .int a.2.2.2.1), (6, .int a.2.2.2.2)] [] M (QI q)) {v2 : Int32} {v3 : Int32} {v4 : Int32} {v5 : Int32} {v6 : Int32} {M : Mem} (h : f_X7_reachedThen_h12 N p1 k12 v2 v3 v4 v5 v6 M = some q) : Fr 0 111 3 m_X7_reachedThen 12 [(0, .ref 96), (1, .ref p1), (2, .int v2), (3, .int v3), (4, .int v4), (5, .int v5), (6, .int v6)] [] M (QI q) := by
  unfold f_X7_reachedThen_h12 at h
  refine Fr_iload (i := 6) 6 (by decide +kernel) rfl ?_
  refine Fr_iload (i := 4) 4 (by decide +kernel) rfl ?_
  refine Fr_icmp_ge (off := 43) 59 (by decide +kernel) (by decide) (fun hc => ?_) (fun hc => ?_)
  · have h := iT hc h
    refine Fr_iload (i := 5) 5 (by decide +kernel) rfl ?_
    obtain rfl := Option.some.inj h
    exact Fr_iret (by decide +kernel) rfl ⟨rfl, rfl⟩
  · have h := iF hc h
    refine Fr_aload_n (q := 1) (i := 1) 1 (by decide +kernel) rfl rfl ?_
    refine Fr_aload_n (q := 0) (i := 0) 0 (by decide +kernel) rfl rfl ?_
    refine gf_X7_15 rfl (by decide +kernel) ob_96 ?_
    refine Fr_iload (i := 6) 6 (by decide +kernel) rfl ?_
    obtain ⟨r_6, M_4, hc_5, h⟩ := bi_elim h
    refine Fr_cVb (ν := m_X5_isFoggy) (As := [.ref 98, .int v6]) (st := []) (rc := p1) (ci := 5) (d' := 1) (by decide +kernel) ml_X7_61 cv_X5_isFoggy rfl (by decide) rfl hp1 rfl (by decide) (Nat.le_of_ble_eq_true rfl) (t_X5_isFoggy hp1 ob_98 hc_5) ?_
    refine Fr_iload_n (q := 3) (i := 3) 3 (by decide +kernel) rfl rfl ?_
    refine Fr_icmp_ne (off := 23) 53 (by decide +kernel) (by decide) (fun hc => ?_) (fun hc => ?_)
    · have h := iF hc h
      exact t_X7_reachedThen_b53 hp1 hk12 h
    · have h := iT hc h
      refine Fr_aload_n (q := 0) (i := 0) 0 (by decide +kernel) rfl rfl ?_
      refine Fr_aload_n (q := 1) (i := 1) 1 (by decide +kernel) rfl rfl ?_
      refine Fr_iload_n (q := 2) (i := 2) 2 (by decide +kernel) rfl rfl ?_
      refine Fr_iload (i := 6) 6 (by decide +kernel) rfl ?_
      obtain ⟨r_9, M_7, hc_8, h⟩ := bi_elim h
      refine Fr_cVb (ν := m_X7_isAtOrBeside) (As := [.ref p1, .int v2, .int v6]) (st := []) (rc := 96) (ci := 7) (d' := 2) (by decide +kernel) ml_X7_91 cv_X7_isAtOrBeside rfl (by decide) rfl ob_96 rfl (by decide) (Nat.le_of_ble_eq_true rfl) (t_X7_isAtOrBeside hp1 hc_8) ?_
      refine Fr_if_eq (off := 12) 53 (by decide +kernel) (by decide) (fun hc => ?_) (fun hc => ?_)
      · have h := iT hc h
        exact t_X7_reachedThen_b53 hp1 hk12 h
      · have h := iF hc h
        refine Fr_iload (i := 5) 5 (by decide +kernel) rfl ?_
        refine Fr_iconst (i := 1) (v := 1) (by decide +kernel) (by decide) ?_
        refine Fr_iload (i := 6) 6 (by decide +kernel) rfl ?_
        refine Fr_ishl (by decide +kernel) ?_
        refine Fr_ior (by decide +kernel) ?_
        obtain ⟨y_10, ey_10, h⟩ := bI_elim h
        refine Fr_topI ey_10 ?_
        refine Fr_istore (i := 5) (lv' := [(5, .int y_10), (0, .ref 96), (1, .ref p1), (2, .int v2), (3, .int v3), (4, .int v4), (6, .int v6)]) (by decide +kernel) (by decide) rfl ?_
        refine Fr_loc [1, 2, 3, 4, 5, 0, 6] rfl ?_
        exact t_X7_reachedThen_b53 hp1 hk12 h
set_option maxRecDepth 20000 in
theorem t_X7_reachedThen {N : Nat} {p1 : Nat} {x2 : Int32} {x3 : Int32} (hp1 : Ob 0 111 p1 5) {M : Mem} {q : Int32 × Mem} (h : f_X7_reachedThen N p1 x2 x3 M = some q) : Ev 0 111 3 m_X7_reachedThen [.ref 96, .ref p1, .int x2, .int x3] M (QI q) := by
  refine Ev_of_Fr (by decide +kernel) (Nat.le_of_ble_eq_true rfl) ?_
  show Fr 0 111 3 m_X7_reachedThen 0 [(0, .ref 96), (1, .ref p1), (2, .int x2), (3, .int x3)] [] M (QI q)
  unfold f_X7_reachedThen at h
  refine Fr_aload_n (q := 1) (i := 1) 1 (by decide +kernel) rfl rfl ?_
  obtain ⟨r_3, M_1, hc_2, h⟩ := bi_elim h
  refine Fr_cVi (ν := m_X5_boardCount) (As := []) (st := []) (rc := p1) (ci := 5) (d' := 0) (by decide +kernel) ml_X7_44 cv_X5_boardCount rfl (by decide) rfl hp1 rfl (by decide) (Nat.le_of_ble_eq_true rfl) (t_X5_boardCount hp1 hc_2) ?_
  refine Fr_istore (i := 4) (lv' := [(4, .int r_3), (0, .ref 96), (1, .ref p1), (2, .int x2), (3, .int x3)]) (by decide +kernel) (by decide) rfl ?_
  refine Fr_iconst (i := 0) (v := 0) (by decide +kernel) (by decide) ?_
  refine Fr_istore (i := 5) (lv' := [(5, .int 0), (4, .int r_3), (0, .ref 96), (1, .ref p1), (2, .int x2), (3, .int x3)]) (by decide +kernel) (by decide) rfl ?_
  refine Fr_iconst (i := 0) (v := 0) (by decide +kernel) (by decide) ?_
  refine Fr_istore (i := 6) (lv' := [(6, .int 0), (5, .int 0), (4, .int r_3), (0, .ref 96), (1, .ref p1), (2, .int x2), (3, .int x3)]) (by decide +kernel) (by decide) rfl ?_
  refine Fr_loc [3, 4, 5, 6, 2, 1, 0] rfl ?_
  exact lp_sound (body := fun k a m => f_X7_reachedThen_h12 N p1 k a.1 a.2.1 a.2.2.1 a.2.2.2.1 a.2.2.2.2 m) (P := fun a M => Fr 0 111 3 m_X7_reachedThen 12 [(0, .ref 96), (1, .ref p1), (2, .int a.1), (3, .int a.2.1), (4, .int a.2.2.1), (5, .int a.2.2.2.1), (6, .int a.2.2.2.2)] [] M (QI q)) (fun k hk a m h => t_X7_reachedThen_h12 hp1 hk h) N (x2, x3, r_3, 0, 0) M_1 h
set_option maxRecDepth 20000 in
theorem t_X7_leastHours_h89 {N : Nat} {p1 : Nat} (hp1 : Ob 0 111 p1 5) {q : Int32 × Mem} {k89 : Int32 × Int32 × Int32 × Int32 → Mem → Option (Int32 × Mem)} (hk89 : ∀ (a : Int32 × Int32 × Int32 × Int32) (M : Mem), k89 a M = some q → Fr 0 111 4 m_X7_leastHours 89 [(0, .ref 96), (1, .ref p1), (5, .int a.1), (6, .int a.2.1), (7, .int a.2.2.1), (8, .int a.2.2.2)] [] M (QI q)) {v5 : Int32} {v6 : Int32} {v7 : Int32} {v8 : Int32} {M : Mem} (h : f_X7_leastHours_h89 N p1 k89 v5 v6 v7 v8 M = some q) : Fr 0 111 4 m_X7_leastHours 89 [(0, .ref 96), (1, .ref p1), (5, .int v5), (6, .int v6), (7, .int v7), (8, .int v8)] [] M (QI q) := by
  unfold f_X7_leastHours_h89 at h
  refine Fr_iload (i := 8) 5 (by decide +kernel) rfl ?_
  refine Fr_bipush (i := 48) (v := 48) (by decide +kernel) (by decide) ?_
  refine Fr_icmp_gt (off := 55) 148 (by decide +kernel) (by decide) (fun hc => ?_) (fun hc => ?_)
  · have h := iT hc h
    refine Fr_iconst (i := (-1)) (v := (-1)) (by decide +kernel) (by decide) ?_
    obtain rfl := Option.some.inj h
    exact Fr_iret (by decide +kernel) rfl ⟨rfl, rfl⟩
  · have h := iF hc h
    refine Fr_iload (i := 7) 4 (by decide +kernel) rfl ?_
    refine Fr_if_eq (off := 50) 148 (by decide +kernel) (by decide) (fun hc => ?_) (fun hc => ?_)
    · have h := iT hc h
      refine Fr_iconst (i := (-1)) (v := (-1)) (by decide +kernel) (by decide) ?_
      obtain rfl := Option.some.inj h
      exact Fr_iret (by decide +kernel) rfl ⟨rfl, rfl⟩
    · have h := iF hc h
      refine Fr_iload (i := 7) 4 (by decide +kernel) rfl ?_
      refine Fr_iload (i := 5) 2 (by decide +kernel) rfl ?_
      refine Fr_ishr (by decide +kernel) ?_
      refine Fr_iconst (i := 1) (v := 1) (by decide +kernel) (by decide) ?_
      refine Fr_iand (by decide +kernel) ?_
      refine Fr_iconst (i := 1) (v := 1) (by decide +kernel) (by decide) ?_
      refine Fr_icmp_ne (off := 6) 115 (by decide +kernel) (by decide) (fun hc => ?_) (fun hc => ?_)
      · have h := iF hc h
        refine Fr_aload_n (q := 0) (i := 0) 0 (by decide +kernel) rfl rfl ?_
        refine gf_X7_30 rfl (by decide +kernel) ob_96 ?_
        refine Fr_aload_n (q := 1) (i := 1) 1 (by decide +kernel) rfl rfl ?_
        refine Fr_aload_n (q := 0) (i := 0) 0 (by decide +kernel) rfl rfl ?_
        refine gf_X7_15 rfl (by decide +kernel) ob_96 ?_
        refine Fr_aload_n (q := 1) (i := 1) 1 (by decide +kernel) rfl rfl ?_
        refine gf_X7_77 rfl (by decide +kernel) hp1 ?_
        obtain ⟨M_13, hc_14, h⟩ := bv_elim h
        refine Fr_cVv (ν := m_X10_passHour) (As := [.ref p1, .ref 98, .int (M.1 p1 6)]) (st := []) (rc := 90) (ci := 10) (d' := 2) (by decide +kernel) ml_X7_81 cv_X10_passHour rfl (by decide) rfl ob_90 rfl (by decide) (Nat.le_of_ble_eq_true rfl) (t_X10_passHour hp1 ob_98 hc_14) ?_
        refine Fr_aload_n (q := 0) (i := 0) 0 (by decide +kernel) rfl rfl ?_
        refine Fr_aload_n (q := 1) (i := 1) 1 (by decide +kernel) rfl rfl ?_
        refine Fr_iload (i := 7) 4 (by decide +kernel) rfl ?_
        refine Fr_iload (i := 6) 3 (by decide +kernel) rfl ?_
        obtain ⟨r_17, M_15, hc_16, h⟩ := bi_elim h
        refine Fr_cVi (ν := m_X7_reachedThen) (As := [.ref p1, .int v7, .int v6]) (st := []) (rc := 96) (ci := 7) (d' := 3) (by decide +kernel) ml_X7_87 cv_X7_reachedThen rfl (by decide) rfl ob_96 rfl (by decide) (Nat.le_of_ble_eq_true rfl) (t_X7_reachedThen hp1 hc_16) ?_
        refine Fr_istore (i := 7) (lv' := [(7, .int r_17), (0, .ref 96), (1, .ref p1), (5, .int v5), (6, .int v6), (8, .int v8)]) (by decide +kernel) (by decide) rfl ?_
        refine Fr_iinc (i := 8) (j := 1) (v := (v8 + 1)) (lv' := [(8, .int (v8 + 1)), (7, .int r_17), (0, .ref 96), (1, .ref p1), (5, .int v5), (6, .int v6)]) 5 (by decide +kernel) rfl rfl (by decide) rfl ?_
        refine Fr_goto (off := (-56)) 89 (by decide +kernel) (by decide) ?_
        refine Fr_loc [2, 3, 4, 5, 1, 0] rfl ?_
        exact hk89 (v5, v6, r_17, (v8 + 1)) M_15 h
      · have h := iT hc h
        refine Fr_iload (i := 8) 5 (by decide +kernel) rfl ?_
        obtain rfl := Option.some.inj h
        exact Fr_iret (by decide +kernel) rfl ⟨rfl, rfl⟩
set_option maxRecDepth 20000 in
theorem t_X7_leastHours_b63 {N : Nat} {p1 : Nat} (hp1 : Ob 0 111 p1 5) {q : Int32 × Mem} {v4 : Int32} {v5 : Int32} {s0 : Int32} {M : Mem} (h : f_X7_leastHours_b63 N p1 v4 v5 s0 M = some q) : Fr 0 111 4 m_X7_leastHours 63 [(0, .ref 96), (1, .ref p1), (4, .int v4), (5, .int v5)] [.int s0] M (QI q) := by
  unfold f_X7_leastHours_b63 at h
  refine Fr_istore (i := 6) (lv' := [(6, .int s0), (0, .ref 96), (1, .ref p1), (4, .int v4), (5, .int v5)]) (by decide +kernel) (by decide) rfl ?_
  refine Fr_iconst (i := 1) (v := 1) (by decide +kernel) (by decide) ?_
  refine Fr_iload (i := 4) 3 (by decide +kernel) rfl ?_
  refine Fr_ishl (by decide +kernel) ?_
  refine Fr_istore (i := 7) (lv' := [(7, .int (1 <<< (v4 &&& 31))), (6, .int s0), (0, .ref 96), (1, .ref p1), (4, .int v4), (5, .int v5)]) (by decide +kernel) (by decide) rfl ?_
  refine Fr_aload_n (q := 1) (i := 1) 3 (by decide +kernel) rfl rfl ?_
  refine gf_X7_58 rfl (by decide +kernel) hp1 ?_
  refine Fr_iconst (i := 0) (v := 0) (by decide +kernel) (by decide) ?_
  refine Fr_aload_n (q := 0) (i := 0) 2 (by decide +kernel) rfl rfl ?_
  refine gf_X7_15 rfl (by decide +kernel) ob_96 ?_
  refine Fr_iconst (i := 0) (v := 0) (by decide +kernel) (by decide) ?_
  refine Fr_bipush (i := 60) (v := 60) (by decide +kernel) (by decide) ?_
  refine Fr_acopyI (by decide +kernel) ml_X7_71 (o5_6 hp1) ob_98 (by decide) (by decide) (by decide) (le_len (n5_6 hp1) (by decide)) (le_len ln_98 (by decide)) (by decide) (Nat.le_of_ble_eq_true rfl) ?_
  obtain ⟨M_12, eM_12, h⟩ := bM_elim h
  refine Fr_mem eM_12 ?_
  refine Fr_iconst (i := 0) (v := 0) (by decide +kernel) (by decide) ?_
  refine Fr_istore (i := 8) (lv' := [(8, .int 0), (7, .int (1 <<< (v4 &&& 31))), (6, .int s0), (0, .ref 96), (1, .ref p1), (4, .int v4), (5, .int v5)]) (by decide +kernel) (by decide) rfl ?_
  refine Fr_loc [3, 4, 6, 2, 1, 0] rfl ?_
  exact lp_sound (body := fun k a m => f_X7_leastHours_h89 N p1 k a.1 a.2.1 a.2.2.1 a.2.2.2 m) (P := fun a M => Fr 0 111 4 m_X7_leastHours 89 [(0, .ref 96), (1, .ref p1), (5, .int a.1), (6, .int a.2.1), (7, .int a.2.2.1), (8, .int a.2.2.2)] [] M (QI q)) (fun k hk a m h => t_X7_leastHours_h89 hp1 hk h) N (v5, s0, (1 <<< (v4 &&& 31)), 0) M_12 h
set_option maxRecDepth 20000 in
theorem t_X7_leastHours {N : Nat} {p1 : Nat} {x2 : Int32} (hp1 : Ob 0 111 p1 5) {M : Mem} {q : Int32 × Mem} (h : f_X7_leastHours N p1 x2 M = some q) : Ev 0 111 4 m_X7_leastHours [.ref 96, .ref p1, .int x2] M (QI q) := by
  refine Ev_of_Fr (by decide +kernel) (Nat.le_of_ble_eq_true rfl) ?_
  show Fr 0 111 4 m_X7_leastHours 0 [(0, .ref 96), (1, .ref p1), (2, .int x2)] [] M (QI q)
  unfold f_X7_leastHours at h
  refine Fr_iload_n (q := 2) (i := 2) 2 (by decide +kernel) rfl rfl ?_
  refine Fr_iconst (i := 5) (v := 5) (by decide +kernel) (by decide) ?_
  refine Fr_imul (by decide +kernel) ?_
  refine Fr_istore_n (q := 3) (i := 3) (lv' := [(3, .int (x2 * 5)), (0, .ref 96), (1, .ref p1), (2, .int x2)]) (by decide +kernel) rfl (by decide) rfl ?_
  refine Fr_aload_n (q := 1) (i := 1) 2 (by decide +kernel) rfl rfl ?_
  refine Fr_aload_n (q := 1) (i := 1) 2 (by decide +kernel) rfl rfl ?_
  refine gf_X7_65 rfl (by decide +kernel) hp1 ?_
  refine Fr_iload_n (q := 3) (i := 3) 0 (by decide +kernel) rfl rfl ?_
  obtain ⟨hi_1, h⟩ := ck_elim h
  refine Fr_iald (by decide +kernel) (o5_5 hp1) (vp_of (n5_5 hp1) hi_1) ?_
  refine Fr_aload_n (q := 1) (i := 1) 2 (by decide +kernel) rfl rfl ?_
  refine gf_X7_65 rfl (by decide +kernel) hp1 ?_
  refine Fr_iload_n (q := 3) (i := 3) 0 (by decide +kernel) rfl rfl ?_
  refine Fr_iconst (i := 1) (v := 1) (by decide +kernel) (by decide) ?_
  refine Fr_iadd (by decide +kernel) ?_
  obtain ⟨hi_2, h⟩ := ck_elim h
  refine Fr_iald (by decide +kernel) (o5_5 hp1) (vp_of (n5_5 hp1) hi_2) ?_
  obtain ⟨r_5, M_3, hc_4, h⟩ := bi_elim h
  refine Fr_cVi (ν := m_X5_boardAt) (As := [.int (M.1 (p1 + 5) (tn (x2 * 5))), .int (M.1 (p1 + 5) (tn ((x2 * 5) + 1)))]) (st := []) (rc := p1) (ci := 5) (d' := 0) (by decide +kernel) ml_X7_68 cv_X5_boardAt rfl (by decide) rfl hp1 rfl (by decide) (Nat.le_of_ble_eq_true rfl) (t_X5_boardAt hp1 hc_4) ?_
  refine Fr_istore (i := 4) (lv' := [(4, .int r_5), (3, .int (x2 * 5)), (0, .ref 96), (1, .ref p1), (2, .int x2)]) (by decide +kernel) (by decide) rfl ?_
  refine Fr_aload_n (q := 1) (i := 1) 3 (by decide +kernel) rfl rfl ?_
  refine Fr_aload_n (q := 1) (i := 1) 3 (by decide +kernel) rfl rfl ?_
  refine gf_X7_65 rfl (by decide +kernel) hp1 ?_
  refine Fr_iload_n (q := 3) (i := 3) 1 (by decide +kernel) rfl rfl ?_
  refine Fr_iconst (i := 2) (v := 2) (by decide +kernel) (by decide) ?_
  refine Fr_iadd (by decide +kernel) ?_
  obtain ⟨hi_6, h⟩ := ck_elim h
  refine Fr_iald (by decide +kernel) (o5_5 hp1) (vp_of (n5_5 hp1) hi_6) ?_
  refine Fr_aload_n (q := 1) (i := 1) 3 (by decide +kernel) rfl rfl ?_
  refine gf_X7_65 rfl (by decide +kernel) hp1 ?_
  refine Fr_iload_n (q := 3) (i := 3) 1 (by decide +kernel) rfl rfl ?_
  refine Fr_iconst (i := 3) (v := 3) (by decide +kernel) (by decide) ?_
  refine Fr_iadd (by decide +kernel) ?_
  obtain ⟨hi_7, h⟩ := ck_elim h
  refine Fr_iald (by decide +kernel) (o5_5 hp1) (vp_of (n5_5 hp1) hi_7) ?_
  obtain ⟨r_10, M_8, hc_9, h⟩ := bi_elim h
  refine Fr_cVi (ν := m_X5_boardAt) (As := [.int (M_3.1 (p1 + 5) (tn ((x2 * 5) + 2))), .int (M_3.1 (p1 + 5) (tn ((x2 * 5) + 3)))]) (st := []) (rc := p1) (ci := 5) (d' := 0) (by decide +kernel) ml_X7_68 cv_X5_boardAt rfl (by decide) rfl hp1 rfl (by decide) (Nat.le_of_ble_eq_true rfl) (t_X5_boardAt hp1 hc_9) ?_
  refine Fr_istore (i := 5) (lv' := [(5, .int r_10), (4, .int r_5), (3, .int (x2 * 5)), (0, .ref 96), (1, .ref p1), (2, .int x2)]) (by decide +kernel) (by decide) rfl ?_
  refine Fr_aload_n (q := 1) (i := 1) 4 (by decide +kernel) rfl rfl ?_
  refine gf_X7_65 rfl (by decide +kernel) hp1 ?_
  refine Fr_iload_n (q := 3) (i := 3) 2 (by decide +kernel) rfl rfl ?_
  refine Fr_iconst (i := 4) (v := 4) (by decide +kernel) (by decide) ?_
  refine Fr_iadd (by decide +kernel) ?_
  obtain ⟨hi_11, h⟩ := ck_elim h
  refine Fr_iald (by decide +kernel) (o5_5 hp1) (vp_of (n5_5 hp1) hi_11) ?_
  refine Fr_iconst (i := 1) (v := 1) (by decide +kernel) (by decide) ?_
  refine Fr_icmp_ne (off := 7) 62 (by decide +kernel) (by decide) (fun hc => ?_) (fun hc => ?_)
  · have h := iF hc h
    refine Fr_iconst (i := 0) (v := 0) (by decide +kernel) (by decide) ?_
    refine Fr_loc [3, 4, 1, 0] rfl ?_
    exact t_X7_leastHours_b63 hp1 h
  · have h := iT hc h
    refine Fr_iconst (i := 1) (v := 1) (by decide +kernel) (by decide) ?_
    refine Fr_goto (off := 4) 63 (by decide +kernel) (by decide) ?_
    refine Fr_loc [3, 4, 1, 0] rfl ?_
    exact t_X7_leastHours_b63 hp1 h
set_option maxRecDepth 20000 in
theorem t_X7_enqueue {x1 : Int32} {x2 : Int32} {M : Mem} {q : Mem} (h : f_X7_enqueue x1 x2 M = some q) : Ev 0 111 0 m_X7_enqueue [.ref 96, .int x1, .int x2] M (QV q) := by
  refine Ev_of_Fr (by decide +kernel) (Nat.le_of_ble_eq_true rfl) ?_
  show Fr 0 111 0 m_X7_enqueue 0 [(0, .ref 96), (1, .int x1), (2, .int x2)] [] M (QV q)
  unfold f_X7_enqueue at h
  refine Fr_aload_n (q := 0) (i := 0) 0 (by decide +kernel) rfl rfl ?_
  refine gf_X7_24 rfl (by decide +kernel) ob_96 ?_
  refine Fr_iload_n (q := 1) (i := 1) 1 (by decide +kernel) rfl rfl ?_
  obtain ⟨hi_1, h⟩ := ck_elim h
  refine Fr_iald (by decide +kernel) ob_101 (vp_of ln_101 hi_1) ?_
  refine Fr_iconst (i := (-1)) (v := (-1)) (by decide +kernel) (by decide) ?_
  refine Fr_icmp_ne (off := 39) 46 (by decide +kernel) (by decide) (fun hc => ?_) (fun hc => ?_)
  · have h := iF hc h
    obtain rfl := Option.some.inj h
    exact Fr_vret (by decide +kernel) rfl ⟨rfl, rfl⟩
  · have h := iT hc h
    refine Fr_aload_n (q := 0) (i := 0) 0 (by decide +kernel) rfl rfl ?_
    refine gf_X7_102 rfl (by decide +kernel) ob_96 ?_
    refine Fr_bipush (i := 60) (v := 60) (by decide +kernel) (by decide) ?_
    refine Fr_icmp_ge (off := 30) 46 (by decide +kernel) (by decide) (fun hc => ?_) (fun hc => ?_)
    · have h := iT hc h
      obtain rfl := Option.some.inj h
      exact Fr_vret (by decide +kernel) rfl ⟨rfl, rfl⟩
    · have h := iF hc h
      refine Fr_aload_n (q := 0) (i := 0) 0 (by decide +kernel) rfl rfl ?_
      refine gf_X7_24 rfl (by decide +kernel) ob_96 ?_
      refine Fr_iload_n (q := 1) (i := 1) 1 (by decide +kernel) rfl rfl ?_
      refine Fr_iload_n (q := 2) (i := 2) 2 (by decide +kernel) rfl rfl ?_
      obtain ⟨hi_2, h⟩ := ck_elim h
      refine Fr_iast (by decide +kernel) ob_101 (vp_of ln_101 hi_2) ?_
      obtain ⟨M_3, eM_3, h⟩ := bM_elim h
      refine Fr_mem eM_3 ?_
      refine Fr_aload_n (q := 0) (i := 0) 0 (by decide +kernel) rfl rfl ?_
      refine gf_X7_27 rfl (by decide +kernel) ob_96 ?_
      refine Fr_aload_n (q := 0) (i := 0) 0 (by decide +kernel) rfl rfl ?_
      refine gf_X7_102 rfl (by decide +kernel) ob_96 ?_
      refine Fr_iload_n (q := 1) (i := 1) 1 (by decide +kernel) rfl rfl ?_
      obtain ⟨hi_4, h⟩ := ck_elim h
      refine Fr_iast (by decide +kernel) ob_102 (vp_of ln_102 hi_4) ?_
      obtain ⟨M_5, eM_5, h⟩ := bM_elim h
      refine Fr_mem eM_5 ?_
      refine Fr_aload_n (q := 0) (i := 0) 0 (by decide +kernel) rfl rfl ?_
      refine Fr_dup (by decide +kernel) rfl ?_
      refine gf_X7_102 rfl (by decide +kernel) ob_96 ?_
      refine Fr_iconst (i := 1) (v := 1) (by decide +kernel) (by decide) ?_
      refine Fr_iadd (by decide +kernel) ?_
      refine pf_X7_102 rfl (by decide +kernel) ob_96 ?_
      obtain ⟨M_6, eM_6, h⟩ := bM_elim h
      refine Fr_mem eM_6 ?_
      obtain rfl := Option.some.inj h
      exact Fr_vret (by decide +kernel) rfl ⟨rfl, rfl⟩
set_option maxRecDepth 20000 in
theorem t_X7_roadPlace {x0 : Int32} {x1 : Int32} {M : Mem} {q : Int32 × Mem} (h : f_X7_roadPlace x0 x1 M = some q) : Ev 0 111 0 m_X7_roadPlace [.int x0, .int x1] M (QI q) := by
  refine Ev_of_Fr (by decide +kernel) (Nat.le_of_ble_eq_true rfl) ?_
  show Fr 0 111 0 m_X7_roadPlace 0 [(0, .int x0), (1, .int x1)] [] M (QI q)
  unfold f_X7_roadPlace at h
  refine Fr_iload_n (q := 0) (i := 0) 0 (by decide +kernel) rfl rfl ?_
  refine Fr_iconst (i := 5) (v := 5) (by decide +kernel) (by decide) ?_
  refine Fr_imul (by decide +kernel) ?_
  refine Fr_iload_n (q := 1) (i := 1) 1 (by decide +kernel) rfl rfl ?_
  refine Fr_iadd (by decide +kernel) ?_
  obtain rfl := Option.some.inj h
  exact Fr_iret (by decide +kernel) rfl ⟨rfl, rfl⟩
set_option maxRecDepth 20000 in
theorem t_X7_goOut_b86 {N : Nat} {p1 : Nat} (hp1 : Ob 0 111 p1 5) {q : Mem} {k3 : Int32 × Int32 × Int32 × Int32 → Mem → Option (Mem)} (hk3 : ∀ (a : Int32 × Int32 × Int32 × Int32) (M : Mem), k3 a M = some q → Fr 0 111 2 m_X7_goOut 3 [(0, .ref 96), (1, .ref p1), (2, .int a.1), (3, .int a.2.1), (4, .int a.2.2.1), (5, .int a.2.2.2)] [] M (QV q)) {v2 : Int32} {v3 : Int32} {v4 : Int32} {v5 : Int32} {M : Mem} (h : f_X7_goOut_b86 N p1 k3 v2 v3 v4 v5 M = some q) : Fr 0 111 2 m_X7_goOut 86 [(0, .ref 96), (1, .ref p1), (2, .int v2), (3, .int v3), (4, .int v4), (5, .int v5)] [] M (QV q) := by
  unfold f_X7_goOut_b86 at h
  refine Fr_iinc (i := 5) (j := 1) (v := (v5 + 1)) (lv' := [(5, .int (v5 + 1)), (0, .ref 96), (1, .ref p1), (2, .int v2), (3, .int v3), (4, .int v4)]) 5 (by decide +kernel) rfl rfl (by decide) rfl ?_
  refine Fr_goto (off := (-86)) 3 (by decide +kernel) (by decide) ?_
  refine Fr_loc [1, 2, 3, 4, 5, 0] rfl ?_
  exact hk3 (v2, v3, v4, (v5 + 1)) M h
set_option maxRecDepth 20000 in
theorem t_X7_goOut_b55 {N : Nat} {p1 : Nat} (hp1 : Ob 0 111 p1 5) {q : Mem} {k3 : Int32 × Int32 × Int32 × Int32 → Mem → Option (Mem)} (hk3 : ∀ (a : Int32 × Int32 × Int32 × Int32) (M : Mem), k3 a M = some q → Fr 0 111 2 m_X7_goOut 3 [(0, .ref 96), (1, .ref p1), (2, .int a.1), (3, .int a.2.1), (4, .int a.2.2.1), (5, .int a.2.2.2)] [] M (QV q)) {v2 : Int32} {v3 : Int32} {v4 : Int32} {v5 : Int32} {v6 : Int32} {s0 : Int32} {M : Mem} (h : f_X7_goOut_b55 N p1 k3 v2 v3 v4 v5 v6 s0 M = some q) : Fr 0 111 2 m_X7_goOut 55 [(0, .ref 96), (1, .ref p1), (2, .int v2), (3, .int v3), (4, .int v4), (5, .int v5), (6, .int v6)] [.int s0] M (QV q) := by
  unfold f_X7_goOut_b55 at h
  refine Fr_istore (i := 7) (lv' := [(7, .int s0), (0, .ref 96), (1, .ref p1), (2, .int v2), (3, .int v3), (4, .int v4), (5, .int v5), (6, .int v6)]) (by decide +kernel) (by decide) rfl ?_
  refine Fr_iload (i := 7) 0 (by decide +kernel) rfl ?_
  refine Fr_if_eq (off := 27) 86 (by decide +kernel) (by decide) (fun hc => ?_) (fun hc => ?_)
  · have h := iT hc h
    refine Fr_loc [1, 2, 3, 4, 5, 6] rfl ?_
    exact t_X7_goOut_b86 hp1 hk3 h
  · have h := iF hc h
    refine Fr_aload_n (q := 0) (i := 0) 1 (by decide +kernel) rfl rfl ?_
    refine gf_X7_21 rfl (by decide +kernel) ob_96 ?_
    refine Fr_iload_n (q := 2) (i := 2) 3 (by decide +kernel) rfl rfl ?_
    refine Fr_iload (i := 5) 6 (by decide +kernel) rfl ?_
    obtain ⟨r_9, M_7, hc_8, h⟩ := bi_elim h
    refine Fr_cSi (ν := m_X7_roadPlace) (As := [.int v2, .int v5]) (st := [.ref 100]) (d' := 0) (by decide +kernel) ml_X7_116 cs_X7_roadPlace rfl (by decide) (Nat.le_of_ble_eq_true rfl) (t_X7_roadPlace hc_8) ?_
    obtain ⟨hi_10, h⟩ := ck_elim h
    refine Fr_iald (by decide +kernel) ob_100 (vp_of ln_100 hi_10) ?_
    refine Fr_if_ne (off := 13) 86 (by decide +kernel) (by decide) (fun hc => ?_) (fun hc => ?_)
    · have h := iF hc h
      refine Fr_loc [1, 2, 3, 4, 5, 6] rfl ?_
      exact t_X7_goOut_b86 hp1 hk3 h
    · have h := iT hc h
      refine Fr_aload_n (q := 0) (i := 0) 1 (by decide +kernel) rfl rfl ?_
      refine Fr_iload (i := 6) 7 (by decide +kernel) rfl ?_
      refine Fr_bipush (i := 30) (v := 30) (by decide +kernel) (by decide) ?_
      refine Fr_iload_n (q := 2) (i := 2) 3 (by decide +kernel) rfl rfl ?_
      refine Fr_iadd (by decide +kernel) ?_
      obtain ⟨M_11, hc_12, h⟩ := bv_elim h
      refine Fr_cVv (ν := m_X7_enqueue) (As := [.int v6, .int (30 + v2)]) (st := []) (rc := 96) (ci := 7) (d' := 0) (by decide +kernel) ml_X7_105 cv_X7_enqueue rfl (by decide) rfl ob_96 rfl (by decide) (Nat.le_of_ble_eq_true rfl) (t_X7_enqueue hc_12) ?_
      refine Fr_loc [1, 2, 3, 4, 5, 6] rfl ?_
      exact t_X7_goOut_b86 hp1 hk3 h
set_option maxRecDepth 20000 in
theorem t_X7_goOut_b54 {N : Nat} {p1 : Nat} (hp1 : Ob 0 111 p1 5) {q : Mem} {k3 : Int32 × Int32 × Int32 × Int32 → Mem → Option (Mem)} (hk3 : ∀ (a : Int32 × Int32 × Int32 × Int32) (M : Mem), k3 a M = some q → Fr 0 111 2 m_X7_goOut 3 [(0, .ref 96), (1, .ref p1), (2, .int a.1), (3, .int a.2.1), (4, .int a.2.2.1), (5, .int a.2.2.2)] [] M (QV q)) {v2 : Int32} {v3 : Int32} {v4 : Int32} {v5 : Int32} {v6 : Int32} {M : Mem} (h : f_X7_goOut_b54 N p1 k3 v2 v3 v4 v5 v6 M = some q) : Fr 0 111 2 m_X7_goOut 54 [(0, .ref 96), (1, .ref p1), (2, .int v2), (3, .int v3), (4, .int v4), (5, .int v5), (6, .int v6)] [] M (QV q) := by
  unfold f_X7_goOut_b54 at h
  refine Fr_iconst (i := 0) (v := 0) (by decide +kernel) (by decide) ?_
  exact t_X7_goOut_b55 hp1 hk3 h
set_option maxRecDepth 20000 in
theorem t_X7_goOut_b50 {N : Nat} {p1 : Nat} (hp1 : Ob 0 111 p1 5) {q : Mem} {k3 : Int32 × Int32 × Int32 × Int32 → Mem → Option (Mem)} (hk3 : ∀ (a : Int32 × Int32 × Int32 × Int32) (M : Mem), k3 a M = some q → Fr 0 111 2 m_X7_goOut 3 [(0, .ref 96), (1, .ref p1), (2, .int a.1), (3, .int a.2.1), (4, .int a.2.2.1), (5, .int a.2.2.2)] [] M (QV q)) {v2 : Int32} {v3 : Int32} {v4 : Int32} {v5 : Int32} {v6 : Int32} {M : Mem} (h : f_X7_goOut_b50 N p1 k3 v2 v3 v4 v5 v6 M = some q) : Fr 0 111 2 m_X7_goOut 50 [(0, .ref 96), (1, .ref p1), (2, .int v2), (3, .int v3), (4, .int v4), (5, .int v5), (6, .int v6)] [] M (QV q) := by
  unfold f_X7_goOut_b50 at h
  refine Fr_iconst (i := 1) (v := 1) (by decide +kernel) (by decide) ?_
  refine Fr_goto (off := 4) 55 (by decide +kernel) (by decide) ?_
  exact t_X7_goOut_b55 hp1 hk3 h
set_option maxRecDepth 20000 in
theorem t_X7_goOut_h3 {N : Nat} {p1 : Nat} (hp1 : Ob 0 111 p1 5) {q : Mem} {k3 : Int32 × Int32 × Int32 × Int32 → Mem → Option (Mem)} (hk3 : ∀ (a : Int32 × Int32 × Int32 × Int32) (M : Mem), k3 a M = some q → Fr 0 111 2 m_X7_goOut 3 [(0, .ref 96), (1, .ref p1), (2, .int a.1), (3, .int a.2.1), (4, .int a.2.2.1), (5, .int a.2.2.2)] [] M (QV q)) {v2 : Int32} {v3 : Int32} {v4 : Int32} {v5 : Int32} {M : Mem} (h : f_X7_goOut_h3 N p1 k3 v2 v3 v4 v5 M = some q) : Fr 0 111 2 m_X7_goOut 3 [(0, .ref 96), (1, .ref p1), (2, .int v2), (3, .int v3), (4, .int v4), (5, .int v5)] [] M (QV q) := by
  unfold f_X7_goOut_h3 at h
  refine Fr_iload (i := 5) 5 (by decide +kernel) rfl ?_
  refine Fr_iconst (i := 4) (v := 4) (by decide +kernel) (by decide) ?_
  refine Fr_icmp_gt (off := 86) 92 (by decide +kernel) (by decide) (fun hc => ?_) (fun hc => ?_)
  · have h := iT hc h
    refine Fr_aload_n (q := 0) (i := 0) 0 (by decide +kernel) rfl rfl ?_
    refine gf_X7_18 rfl (by decide +kernel) ob_96 ?_
    refine Fr_iload_n (q := 2) (i := 2) 2 (by decide +kernel) rfl rfl ?_
    obtain ⟨hi_1, h⟩ := ck_elim h
    refine Fr_iald (by decide +kernel) ob_99 (vp_of ln_99 hi_1) ?_
    refine Fr_iconst (i := 1) (v := 1) (by decide +kernel) (by decide) ?_
    refine Fr_icmp_ne (off := 12) 111 (by decide +kernel) (by decide) (fun hc => ?_) (fun hc => ?_)
    · have h := iF hc h
      obtain rfl := Option.some.inj h
      exact Fr_vret (by decide +kernel) rfl ⟨rfl, rfl⟩
    · have h := iT hc h
      refine Fr_aload_n (q := 0) (i := 0) 0 (by decide +kernel) rfl rfl ?_
      refine Fr_iload_n (q := 2) (i := 2) 2 (by decide +kernel) rfl rfl ?_
      refine Fr_bipush (i := 30) (v := 30) (by decide +kernel) (by decide) ?_
      refine Fr_iload_n (q := 2) (i := 2) 2 (by decide +kernel) rfl rfl ?_
      refine Fr_iadd (by decide +kernel) ?_
      obtain ⟨M_2, hc_3, h⟩ := bv_elim h
      refine Fr_cVv (ν := m_X7_enqueue) (As := [.int v2, .int (30 + v2)]) (st := []) (rc := 96) (ci := 7) (d' := 0) (by decide +kernel) ml_X7_105 cv_X7_enqueue rfl (by decide) rfl ob_96 rfl (by decide) (Nat.le_of_ble_eq_true rfl) (t_X7_enqueue hc_3) ?_
      obtain rfl := Option.some.inj h
      exact Fr_vret (by decide +kernel) rfl ⟨rfl, rfl⟩
  · have h := iF hc h
    refine Fr_aload_n (q := 1) (i := 1) 1 (by decide +kernel) rfl rfl ?_
    refine Fr_iload_n (q := 2) (i := 2) 2 (by decide +kernel) rfl rfl ?_
    refine Fr_iload (i := 5) 5 (by decide +kernel) rfl ?_
    obtain ⟨r_6, M_4, hc_5, h⟩ := bi_elim h
    refine Fr_cVi (ν := m_X5_beside) (As := [.int v2, .int v5]) (st := []) (rc := p1) (ci := 5) (d' := 1) (by decide +kernel) ml_X7_54 cv_X5_beside rfl (by decide) rfl hp1 rfl (by decide) (Nat.le_of_ble_eq_true rfl) (t_X5_beside hp1 hc_5) ?_
    refine Fr_istore (i := 6) (lv' := [(6, .int r_6), (0, .ref 96), (1, .ref p1), (2, .int v2), (3, .int v3), (4, .int v4), (5, .int v5)]) (by decide +kernel) (by decide) rfl ?_
    refine Fr_iload (i := 6) 0 (by decide +kernel) rfl ?_
    refine Fr_iconst (i := (-1)) (v := (-1)) (by decide +kernel) (by decide) ?_
    refine Fr_icmp_eq (off := 33) 54 (by decide +kernel) (by decide) (fun hc => ?_) (fun hc => ?_)
    · have h := iT hc h
      refine Fr_loc [1, 2, 3, 4, 5, 6, 0] rfl ?_
      exact t_X7_goOut_b54 hp1 hk3 h
    · have h := iF hc h
      refine Fr_iload (i := 6) 0 (by decide +kernel) rfl ?_
      refine Fr_iload_n (q := 3) (i := 3) 4 (by decide +kernel) rfl rfl ?_
      refine Fr_icmp_eq (off := 27) 54 (by decide +kernel) (by decide) (fun hc => ?_) (fun hc => ?_)
      · have h := iT hc h
        refine Fr_loc [1, 2, 3, 4, 5, 6, 0] rfl ?_
        exact t_X7_goOut_b54 hp1 hk3 h
      · have h := iF hc h
        refine Fr_iload (i := 6) 0 (by decide +kernel) rfl ?_
        refine Fr_iload (i := 4) 5 (by decide +kernel) rfl ?_
        refine Fr_icmp_eq (off := 16) 50 (by decide +kernel) (by decide) (fun hc => ?_) (fun hc => ?_)
        · have h := iT hc h
          refine Fr_loc [1, 2, 3, 4, 5, 6, 0] rfl ?_
          exact t_X7_goOut_b50 hp1 hk3 h
        · have h := iF hc h
          refine Fr_aload_n (q := 1) (i := 1) 2 (by decide +kernel) rfl rfl ?_
          refine Fr_aload_n (q := 1) (i := 1) 2 (by decide +kernel) rfl rfl ?_
          refine gf_X7_58 rfl (by decide +kernel) hp1 ?_
          refine Fr_iload (i := 6) 0 (by decide +kernel) rfl ?_
          obtain ⟨r_15, M_13, hc_14, h⟩ := bi_elim h
          refine Fr_cVb (ν := m_X5_isFoggy) (As := [.ref (p1 + 6), .int r_6]) (st := []) (rc := p1) (ci := 5) (d' := 1) (by decide +kernel) ml_X7_61 cv_X5_isFoggy rfl (by decide) rfl hp1 rfl (by decide) (Nat.le_of_ble_eq_true rfl) (t_X5_isFoggy hp1 (o5_6 hp1) hc_14) ?_
          refine Fr_if_eq (off := 7) 54 (by decide +kernel) (by decide) (fun hc => ?_) (fun hc => ?_)
          · have h := iT hc h
            refine Fr_loc [1, 2, 3, 4, 5, 6, 0] rfl ?_
            exact t_X7_goOut_b54 hp1 hk3 h
          · have h := iF hc h
            refine Fr_loc [1, 2, 3, 4, 5, 6, 0] rfl ?_
            exact t_X7_goOut_b50 hp1 hk3 h
set_option maxRecDepth 20000 in
theorem t_X7_goOut {N : Nat} {p1 : Nat} {x2 : Int32} {x3 : Int32} {x4 : Int32} (hp1 : Ob 0 111 p1 5) {M : Mem} {q : Mem} (h : f_X7_goOut N p1 x2 x3 x4 M = some q) : Ev 0 111 2 m_X7_goOut [.ref 96, .ref p1, .int x2, .int x3, .int x4] M (QV q) := by
  refine Ev_of_Fr (by decide +kernel) (Nat.le_of_ble_eq_true rfl) ?_
  show Fr 0 111 2 m_X7_goOut 0 [(0, .ref 96), (1, .ref p1), (2, .int x2), (3, .int x3), (4, .int x4)] [] M (QV q)
  unfold f_X7_goOut at h
  refine Fr_iconst (i := 1) (v := 1) (by decide +kernel) (by decide) ?_
  refine Fr_istore (i := 5) (lv' := [(5, .int 1), (0, .ref 96), (1, .ref p1), (2, .int x2), (3, .int x3), (4, .int x4)]) (by decide +kernel) (by decide) rfl ?_
  refine Fr_loc [1, 2, 3, 4, 5, 0] rfl ?_
  exact lp_sound (body := fun k a m => f_X7_goOut_h3 N p1 k a.1 a.2.1 a.2.2.1 a.2.2.2 m) (P := fun a M => Fr 0 111 2 m_X7_goOut 3 [(0, .ref 96), (1, .ref p1), (2, .int a.1), (3, .int a.2.1), (4, .int a.2.2.1), (5, .int a.2.2.2)] [] M (QV q)) (fun k hk a m h => t_X7_goOut_h3 hp1 hk h) N (x2, x3, x4, 1) M h
set_option maxRecDepth 20000 in
theorem t_X7_goIn_b78 {N : Nat} {p1 : Nat} (hp1 : Ob 0 111 p1 5) {q : Mem} {k21 : Int32 × Int32 × Int32 → Mem → Option (Mem)} (hk21 : ∀ (a : Int32 × Int32 × Int32) (M : Mem), k21 a M = some q → Fr 0 111 2 m_X7_goIn 21 [(0, .ref 96), (1, .ref p1), (2, .int a.1), (3, .int a.2.1), (4, .int a.2.2)] [] M (QV q)) {v2 : Int32} {v3 : Int32} {v4 : Int32} {M : Mem} (h : f_X7_goIn_b78 N p1 k21 v2 v3 v4 M = some q) : Fr 0 111 2 m_X7_goIn 78 [(0, .ref 96), (1, .ref p1), (2, .int v2), (3, .int v3), (4, .int v4)] [] M (QV q) := by
  unfold f_X7_goIn_b78 at h
  refine Fr_iinc (i := 4) (j := 1) (v := (v4 + 1)) (lv' := [(4, .int (v4 + 1)), (0, .ref 96), (1, .ref p1), (2, .int v2), (3, .int v3)]) 4 (by decide +kernel) rfl rfl (by decide) rfl ?_
  refine Fr_goto (off := (-60)) 21 (by decide +kernel) (by decide) ?_
  refine Fr_loc [1, 2, 3, 4, 0] rfl ?_
  exact hk21 (v2, v3, (v4 + 1)) M h
set_option maxRecDepth 20000 in
theorem t_X7_goIn_h21 {N : Nat} {p1 : Nat} (hp1 : Ob 0 111 p1 5) {q : Mem} {k21 : Int32 × Int32 × Int32 → Mem → Option (Mem)} (hk21 : ∀ (a : Int32 × Int32 × Int32) (M : Mem), k21 a M = some q → Fr 0 111 2 m_X7_goIn 21 [(0, .ref 96), (1, .ref p1), (2, .int a.1), (3, .int a.2.1), (4, .int a.2.2)] [] M (QV q)) {v2 : Int32} {v3 : Int32} {v4 : Int32} {M : Mem} (h : f_X7_goIn_h21 N p1 k21 v2 v3 v4 M = some q) : Fr 0 111 2 m_X7_goIn 21 [(0, .ref 96), (1, .ref p1), (2, .int v2), (3, .int v3), (4, .int v4)] [] M (QV q) := by
  unfold f_X7_goIn_h21 at h
  refine Fr_iload (i := 4) 4 (by decide +kernel) rfl ?_
  refine Fr_iconst (i := 4) (v := 4) (by decide +kernel) (by decide) ?_
  refine Fr_icmp_gt (off := 60) 84 (by decide +kernel) (by decide) (fun hc => ?_) (fun hc => ?_)
  · have h := iT hc h
    obtain rfl := Option.some.inj h
    exact Fr_vret (by decide +kernel) rfl ⟨rfl, rfl⟩
  · have h := iF hc h
    refine Fr_aload_n (q := 1) (i := 1) 1 (by decide +kernel) rfl rfl ?_
    refine Fr_iload_n (q := 2) (i := 2) 2 (by decide +kernel) rfl rfl ?_
    refine Fr_iload (i := 4) 4 (by decide +kernel) rfl ?_
    obtain ⟨r_4, M_2, hc_3, h⟩ := bi_elim h
    refine Fr_cVi (ν := m_X5_beside) (As := [.int v2, .int v4]) (st := []) (rc := p1) (ci := 5) (d' := 1) (by decide +kernel) ml_X7_54 cv_X5_beside rfl (by decide) rfl hp1 rfl (by decide) (Nat.le_of_ble_eq_true rfl) (t_X5_beside hp1 hc_3) ?_
    refine Fr_istore (i := 5) (lv' := [(5, .int r_4), (0, .ref 96), (1, .ref p1), (2, .int v2), (3, .int v3), (4, .int v4)]) (by decide +kernel) (by decide) rfl ?_
    refine Fr_iload (i := 5) 0 (by decide +kernel) rfl ?_
    refine Fr_iconst (i := (-1)) (v := (-1)) (by decide +kernel) (by decide) ?_
    refine Fr_icmp_eq (off := 39) 78 (by decide +kernel) (by decide) (fun hc => ?_) (fun hc => ?_)
    · have h := iT hc h
      refine Fr_loc [1, 2, 3, 4, 5] rfl ?_
      exact t_X7_goIn_b78 hp1 hk21 h
    · have h := iF hc h
      refine Fr_iload (i := 5) 0 (by decide +kernel) rfl ?_
      refine Fr_iload_n (q := 3) (i := 3) 4 (by decide +kernel) rfl rfl ?_
      refine Fr_icmp_eq (off := 33) 78 (by decide +kernel) (by decide) (fun hc => ?_) (fun hc => ?_)
      · have h := iT hc h
        refine Fr_loc [1, 2, 3, 4, 5] rfl ?_
        exact t_X7_goIn_b78 hp1 hk21 h
      · have h := iF hc h
        refine Fr_aload_n (q := 0) (i := 0) 1 (by decide +kernel) rfl rfl ?_
        refine gf_X7_21 rfl (by decide +kernel) ob_96 ?_
        refine Fr_iload (i := 5) 0 (by decide +kernel) rfl ?_
        refine Fr_getsN (idx := 119) 2 (by decide +kernel) (by decide) (by decide +kernel) ?_
        refine Fr_iload (i := 4) 5 (by decide +kernel) rfl ?_
        obtain ⟨hi_5, h⟩ := ck_elim h
        refine Fr_tald (i := 2) (by decide +kernel) (by decide) hi_5 ?_
        obtain ⟨r_8, M_6, hc_7, h⟩ := bi_elim h
        refine Fr_cSi (ν := m_X7_roadPlace) (As := [.int r_4, .int (sta 2 (tn v4))]) (st := [.ref 100]) (d' := 0) (by decide +kernel) ml_X7_116 cs_X7_roadPlace rfl (by decide) (Nat.le_of_ble_eq_true rfl) (t_X7_roadPlace hc_7) ?_
        obtain ⟨hi_9, h⟩ := ck_elim h
        refine Fr_iald (by decide +kernel) ob_100 (vp_of ln_100 hi_9) ?_
        refine Fr_iconst (i := 1) (v := 1) (by decide +kernel) (by decide) ?_
        refine Fr_icmp_ne (off := 13) 78 (by decide +kernel) (by decide) (fun hc => ?_) (fun hc => ?_)
        · have h := iF hc h
          refine Fr_loc [1, 2, 3, 4, 5] rfl ?_
          exact t_X7_goIn_b78 hp1 hk21 h
        · have h := iT hc h
          refine Fr_aload_n (q := 0) (i := 0) 1 (by decide +kernel) rfl rfl ?_
          refine Fr_bipush (i := 30) (v := 30) (by decide +kernel) (by decide) ?_
          refine Fr_iload (i := 5) 0 (by decide +kernel) rfl ?_
          refine Fr_iadd (by decide +kernel) ?_
          refine Fr_iload_n (q := 2) (i := 2) 3 (by decide +kernel) rfl rfl ?_
          obtain ⟨M_10, hc_11, h⟩ := bv_elim h
          refine Fr_cVv (ν := m_X7_enqueue) (As := [.int (30 + r_4), .int v2]) (st := []) (rc := 96) (ci := 7) (d' := 0) (by decide +kernel) ml_X7_105 cv_X7_enqueue rfl (by decide) rfl ob_96 rfl (by decide) (Nat.le_of_ble_eq_true rfl) (t_X7_enqueue hc_11) ?_
          refine Fr_loc [1, 2, 3, 4, 5] rfl ?_
          exact t_X7_goIn_b78 hp1 hk21 h
set_option maxRecDepth 20000 in
theorem t_X7_goIn_b18 {N : Nat} {p1 : Nat} (hp1 : Ob 0 111 p1 5) {q : Mem} {v2 : Int32} {v3 : Int32} {M : Mem} (h : f_X7_goIn_b18 N p1 v2 v3 M = some q) : Fr 0 111 2 m_X7_goIn 18 [(0, .ref 96), (1, .ref p1), (2, .int v2), (3, .int v3)] [] M (QV q) := by
  unfold f_X7_goIn_b18 at h
  refine Fr_iconst (i := 1) (v := 1) (by decide +kernel) (by decide) ?_
  refine Fr_istore (i := 4) (lv' := [(4, .int 1), (0, .ref 96), (1, .ref p1), (2, .int v2), (3, .int v3)]) (by decide +kernel) (by decide) rfl ?_
  refine Fr_loc [1, 2, 3, 4, 0] rfl ?_
  exact lp_sound (body := fun k a m => f_X7_goIn_h21 N p1 k a.1 a.2.1 a.2.2 m) (P := fun a M => Fr 0 111 2 m_X7_goIn 21 [(0, .ref 96), (1, .ref p1), (2, .int a.1), (3, .int a.2.1), (4, .int a.2.2)] [] M (QV q)) (fun k hk a m h => t_X7_goIn_h21 hp1 hk h) N (v2, v3, 1) M h
set_option maxRecDepth 20000 in
theorem t_X7_goIn {N : Nat} {p1 : Nat} {x2 : Int32} {x3 : Int32} (hp1 : Ob 0 111 p1 5) {M : Mem} {q : Mem} (h : f_X7_goIn N p1 x2 x3 M = some q) : Ev 0 111 2 m_X7_goIn [.ref 96, .ref p1, .int x2, .int x3] M (QV q) := by
  refine Ev_of_Fr (by decide +kernel) (Nat.le_of_ble_eq_true rfl) ?_
  show Fr 0 111 2 m_X7_goIn 0 [(0, .ref 96), (1, .ref p1), (2, .int x2), (3, .int x3)] [] M (QV q)
  unfold f_X7_goIn at h
  refine Fr_aload_n (q := 0) (i := 0) 0 (by decide +kernel) rfl rfl ?_
  refine gf_X7_18 rfl (by decide +kernel) ob_96 ?_
  refine Fr_iload_n (q := 2) (i := 2) 2 (by decide +kernel) rfl rfl ?_
  obtain ⟨hi_1, h⟩ := ck_elim h
  refine Fr_iald (by decide +kernel) ob_99 (vp_of ln_99 hi_1) ?_
  refine Fr_if_ne (off := 12) 18 (by decide +kernel) (by decide) (fun hc => ?_) (fun hc => ?_)
  · have h := iF hc h
    exact t_X7_goIn_b18 hp1 h
  · have h := iT hc h
    refine Fr_aload_n (q := 0) (i := 0) 0 (by decide +kernel) rfl rfl ?_
    refine Fr_bipush (i := 30) (v := 30) (by decide +kernel) (by decide) ?_
    refine Fr_iload_n (q := 2) (i := 2) 2 (by decide +kernel) rfl rfl ?_
    refine Fr_iadd (by decide +kernel) ?_
    refine Fr_iload_n (q := 2) (i := 2) 2 (by decide +kernel) rfl rfl ?_
    obtain ⟨M_12, hc_13, h⟩ := bv_elim h
    refine Fr_cVv (ν := m_X7_enqueue) (As := [.int (30 + x2), .int x2]) (st := []) (rc := 96) (ci := 7) (d' := 0) (by decide +kernel) ml_X7_105 cv_X7_enqueue rfl (by decide) rfl ob_96 rfl (by decide) (Nat.le_of_ble_eq_true rfl) (t_X7_enqueue hc_13) ?_
    exact t_X7_goIn_b18 hp1 h
set_option maxRecDepth 20000 in
theorem t_X7_findRoad_b92 {N : Nat} {p1 : Nat} (hp1 : Ob 0 111 p1 5) {q : Bool × Mem} {v3 : Int32} {M : Mem} (h : f_X7_findRoad_b92 N p1 v3 M = some q) : Fr 0 111 3 m_X7_findRoad 92 [(0, .ref 96), (3, .int v3)] [] M (QB q) := by
  unfold f_X7_findRoad_b92 at h
  refine Fr_aload_n (q := 0) (i := 0) 0 (by decide +kernel) rfl rfl ?_
  refine gf_X7_24 rfl (by decide +kernel) ob_96 ?_
  refine Fr_iload_n (q := 3) (i := 3) 1 (by decide +kernel) rfl rfl ?_
  obtain ⟨hi_6, h⟩ := ck_elim h
  refine Fr_iald (by decide +kernel) ob_101 (vp_of ln_101 hi_6) ?_
  refine Fr_iconst (i := (-1)) (v := (-1)) (by decide +kernel) (by decide) ?_
  refine Fr_icmp_eq (off := 7) 106 (by decide +kernel) (by decide) (fun hc => ?_) (fun hc => ?_)
  · have h := iT hc h
    refine Fr_iconst (i := 0) (v := 0) (by decide +kernel) (by decide) ?_
    obtain rfl := Option.some.inj h
    exact Fr_zret (by decide +kernel) rfl (by decide) ⟨rfl, rfl⟩
  · have h := iF hc h
    refine Fr_iconst (i := 1) (v := 1) (by decide +kernel) (by decide) ?_
    refine Fr_goto (off := 4) 107 (by decide +kernel) (by decide) ?_
    obtain rfl := Option.some.inj h
    exact Fr_zret (by decide +kernel) rfl (by decide) ⟨rfl, rfl⟩
set_option maxRecDepth 20000 in
theorem t_X7_findRoad_b86 {N : Nat} {p1 : Nat} (hp1 : Ob 0 111 p1 5) {q : Bool × Mem} {k28 : Int32 × Int32 × Int32 → Mem → Option (Bool × Mem)} (hk28 : ∀ (a : Int32 × Int32 × Int32) (M : Mem), k28 a M = some q → Fr 0 111 3 m_X7_findRoad 28 [(0, .ref 96), (1, .ref p1), (2, .int a.1), (3, .int a.2.1), (4, .int a.2.2)] [] M (QB q)) {v2 : Int32} {v3 : Int32} {v4 : Int32} {M : Mem} (h : f_X7_findRoad_b86 N p1 k28 v2 v3 v4 M = some q) : Fr 0 111 3 m_X7_findRoad 86 [(0, .ref 96), (1, .ref p1), (2, .int v2), (3, .int v3), (4, .int v4)] [] M (QB q) := by
  unfold f_X7_findRoad_b86 at h
  refine Fr_iinc (i := 4) (j := 1) (v := (v4 + 1)) (lv' := [(4, .int (v4 + 1)), (0, .ref 96), (1, .ref p1), (2, .int v2), (3, .int v3)]) 4 (by decide +kernel) rfl rfl (by decide) rfl ?_
  refine Fr_goto (off := (-61)) 28 (by decide +kernel) (by decide) ?_
  refine Fr_loc [1, 2, 3, 4, 0] rfl ?_
  exact hk28 (v2, v3, (v4 + 1)) M h
set_option maxRecDepth 20000 in
theorem t_X7_findRoad_h28 {N : Nat} {p1 : Nat} (hp1 : Ob 0 111 p1 5) {q : Bool × Mem} {k28 : Int32 × Int32 × Int32 → Mem → Option (Bool × Mem)} (hk28 : ∀ (a : Int32 × Int32 × Int32) (M : Mem), k28 a M = some q → Fr 0 111 3 m_X7_findRoad 28 [(0, .ref 96), (1, .ref p1), (2, .int a.1), (3, .int a.2.1), (4, .int a.2.2)] [] M (QB q)) {v2 : Int32} {v3 : Int32} {v4 : Int32} {M : Mem} (h : f_X7_findRoad_h28 N p1 k28 v2 v3 v4 M = some q) : Fr 0 111 3 m_X7_findRoad 28 [(0, .ref 96), (1, .ref p1), (2, .int v2), (3, .int v3), (4, .int v4)] [] M (QB q) := by
  unfold f_X7_findRoad_h28 at h
  refine Fr_iload (i := 4) 4 (by decide +kernel) rfl ?_
  refine Fr_aload_n (q := 0) (i := 0) 0 (by decide +kernel) rfl rfl ?_
  refine gf_X7_102 rfl (by decide +kernel) ob_96 ?_
  refine Fr_icmp_ge (off := 58) 92 (by decide +kernel) (by decide) (fun hc => ?_) (fun hc => ?_)
  · have h := iT hc h
    refine Fr_loc [0, 3] rfl ?_
    exact t_X7_findRoad_b92 hp1 h
  · have h := iF hc h
    refine Fr_aload_n (q := 0) (i := 0) 0 (by decide +kernel) rfl rfl ?_
    refine gf_X7_24 rfl (by decide +kernel) ob_96 ?_
    refine Fr_iload_n (q := 3) (i := 3) 3 (by decide +kernel) rfl rfl ?_
    obtain ⟨hi_7, h⟩ := ck_elim h
    refine Fr_iald (by decide +kernel) ob_101 (vp_of ln_101 hi_7) ?_
    refine Fr_iconst (i := (-1)) (v := (-1)) (by decide +kernel) (by decide) ?_
    refine Fr_icmp_ne (off := 48) 92 (by decide +kernel) (by decide) (fun hc => ?_) (fun hc => ?_)
    · have h := iF hc h
      refine Fr_loc [0, 3] rfl ?_
      exact t_X7_findRoad_b92 hp1 h
    · have h := iT hc h
      refine Fr_aload_n (q := 0) (i := 0) 0 (by decide +kernel) rfl rfl ?_
      refine gf_X7_27 rfl (by decide +kernel) ob_96 ?_
      refine Fr_iload (i := 4) 4 (by decide +kernel) rfl ?_
      obtain ⟨hi_8, h⟩ := ck_elim h
      refine Fr_iald (by decide +kernel) ob_102 (vp_of ln_102 hi_8) ?_
      refine Fr_istore (i := 5) (lv' := [(5, .int (M.1 102 (tn v4))), (0, .ref 96), (1, .ref p1), (2, .int v2), (3, .int v3), (4, .int v4)]) (by decide +kernel) (by decide) rfl ?_
      refine Fr_iload (i := 5) 0 (by decide +kernel) rfl ?_
      refine Fr_bipush (i := 30) (v := 30) (by decide +kernel) (by decide) ?_
      refine Fr_icmp_lt (off := 18) 78 (by decide +kernel) (by decide) (fun hc => ?_) (fun hc => ?_)
      · have h := iT hc h
        refine Fr_aload_n (q := 0) (i := 0) 1 (by decide +kernel) rfl rfl ?_
        refine Fr_aload_n (q := 1) (i := 1) 2 (by decide +kernel) rfl rfl ?_
        refine Fr_iload (i := 5) 0 (by decide +kernel) rfl ?_
        refine Fr_iload_n (q := 2) (i := 2) 3 (by decide +kernel) rfl rfl ?_
        obtain ⟨M_9, hc_10, h⟩ := bv_elim h
        refine Fr_cVv (ν := m_X7_goIn) (As := [.ref p1, .int (M.1 102 (tn v4)), .int v2]) (st := []) (rc := 96) (ci := 7) (d' := 2) (by decide +kernel) ml_X7_113 cv_X7_goIn rfl (by decide) rfl ob_96 rfl (by decide) (Nat.le_of_ble_eq_true rfl) (t_X7_goIn hp1 hc_10) ?_
        refine Fr_loc [1, 2, 3, 4, 5] rfl ?_
        exact t_X7_findRoad_b86 hp1 hk28 h
      · have h := iF hc h
        refine Fr_aload_n (q := 0) (i := 0) 1 (by decide +kernel) rfl rfl ?_
        refine Fr_aload_n (q := 1) (i := 1) 2 (by decide +kernel) rfl rfl ?_
        refine Fr_iload (i := 5) 0 (by decide +kernel) rfl ?_
        refine Fr_bipush (i := 30) (v := 30) (by decide +kernel) (by decide) ?_
        refine Fr_isub (by decide +kernel) ?_
        refine Fr_iload_n (q := 2) (i := 2) 3 (by decide +kernel) rfl rfl ?_
        refine Fr_iload_n (q := 3) (i := 3) 4 (by decide +kernel) rfl rfl ?_
        obtain ⟨M_11, hc_12, h⟩ := bv_elim h
        refine Fr_cVv (ν := m_X7_goOut) (As := [.ref p1, .int ((M.1 102 (tn v4)) - 30), .int v2, .int v3]) (st := []) (rc := 96) (ci := 7) (d' := 2) (by decide +kernel) ml_X7_109 cv_X7_goOut rfl (by decide) rfl ob_96 rfl (by decide) (Nat.le_of_ble_eq_true rfl) (t_X7_goOut hp1 hc_12) ?_
        refine Fr_goto (off := 11) 86 (by decide +kernel) (by decide) ?_
        refine Fr_loc [1, 2, 3, 4, 5] rfl ?_
        exact t_X7_findRoad_b86 hp1 hk28 h
set_option maxRecDepth 20000 in
theorem t_X7_findRoad {N : Nat} {p1 : Nat} {x2 : Int32} {x3 : Int32} (hp1 : Ob 0 111 p1 5) {M : Mem} {q : Bool × Mem} (h : f_X7_findRoad N p1 x2 x3 M = some q) : Ev 0 111 3 m_X7_findRoad [.ref 96, .ref p1, .int x2, .int x3] M (QB q) := by
  refine Ev_of_Fr (by decide +kernel) (Nat.le_of_ble_eq_true rfl) ?_
  show Fr 0 111 3 m_X7_findRoad 0 [(0, .ref 96), (1, .ref p1), (2, .int x2), (3, .int x3)] [] M (QB q)
  unfold f_X7_findRoad at h
  refine Fr_aload_n (q := 0) (i := 0) 0 (by decide +kernel) rfl rfl ?_
  refine gf_X7_24 rfl (by decide +kernel) ob_96 ?_
  refine Fr_iconst (i := (-1)) (v := (-1)) (by decide +kernel) (by decide) ?_
  obtain ⟨M_1, hc_2, h⟩ := bv_elim h
  refine Fr_cSv (ν := m_J7_fill_53178) (As := [.ref 101, .int (-1)]) (st := []) (d' := 0) (by decide +kernel) ml_X7_34 cs_J7_fill_53178 rfl (by decide) (Nat.le_of_ble_eq_true rfl) (t_J7_fill_53178 ob_101 hc_2) ?_
  refine Fr_aload_n (q := 0) (i := 0) 0 (by decide +kernel) rfl rfl ?_
  refine Fr_iconst (i := 0) (v := 0) (by decide +kernel) (by decide) ?_
  refine pf_X7_102 rfl (by decide +kernel) ob_96 ?_
  obtain ⟨M_3, eM_3, h⟩ := bM_elim h
  refine Fr_mem eM_3 ?_
  refine Fr_aload_n (q := 0) (i := 0) 0 (by decide +kernel) rfl rfl ?_
  refine Fr_bipush (i := 30) (v := 30) (by decide +kernel) (by decide) ?_
  refine Fr_iload_n (q := 2) (i := 2) 2 (by decide +kernel) rfl rfl ?_
  refine Fr_iadd (by decide +kernel) ?_
  refine Fr_bipush (i := 30) (v := 30) (by decide +kernel) (by decide) ?_
  refine Fr_iload_n (q := 2) (i := 2) 2 (by decide +kernel) rfl rfl ?_
  refine Fr_iadd (by decide +kernel) ?_
  obtain ⟨M_4, hc_5, h⟩ := bv_elim h
  refine Fr_cVv (ν := m_X7_enqueue) (As := [.int (30 + x2), .int (30 + x2)]) (st := []) (rc := 96) (ci := 7) (d' := 0) (by decide +kernel) ml_X7_105 cv_X7_enqueue rfl (by decide) rfl ob_96 rfl (by decide) (Nat.le_of_ble_eq_true rfl) (t_X7_enqueue hc_5) ?_
  refine Fr_iconst (i := 0) (v := 0) (by decide +kernel) (by decide) ?_
  refine Fr_istore (i := 4) (lv' := [(4, .int 0), (0, .ref 96), (1, .ref p1), (2, .int x2), (3, .int x3)]) (by decide +kernel) (by decide) rfl ?_
  refine Fr_loc [1, 2, 3, 4, 0] rfl ?_
  exact lp_sound (body := fun k a m => f_X7_findRoad_h28 N p1 k a.1 a.2.1 a.2.2 m) (P := fun a M => Fr 0 111 3 m_X7_findRoad 28 [(0, .ref 96), (1, .ref p1), (2, .int a.1), (3, .int a.2.1), (4, .int a.2.2)] [] M (QB q)) (fun k hk a m h => t_X7_findRoad_h28 hp1 hk h) N (x2, x3, 0) M_4 h
set_option maxRecDepth 20000 in
theorem t_X7_directionTo_h3 {N : Nat} {p1 : Nat} (hp1 : Ob 0 111 p1 5) {q : Int32 × Mem} {k3 : Int32 × Int32 × Int32 → Mem → Option (Int32 × Mem)} (hk3 : ∀ (a : Int32 × Int32 × Int32) (M : Mem), k3 a M = some q → Fr 0 111 2 m_X7_directionTo 3 [(1, .ref p1), (2, .int a.1), (3, .int a.2.1), (4, .int a.2.2)] [] M (QI q)) {v2 : Int32} {v3 : Int32} {v4 : Int32} {M : Mem} (h : f_X7_directionTo_h3 N p1 k3 v2 v3 v4 M = some q) : Fr 0 111 2 m_X7_directionTo 3 [(1, .ref p1), (2, .int v2), (3, .int v3), (4, .int v4)] [] M (QI q) := by
  unfold f_X7_directionTo_h3 at h
  refine Fr_iload (i := 4) 3 (by decide +kernel) rfl ?_
  refine Fr_iconst (i := 4) (v := 4) (by decide +kernel) (by decide) ?_
  refine Fr_icmp_gt (off := 23) 29 (by decide +kernel) (by decide) (fun hc => ?_) (fun hc => ?_)
  · have h := iT hc h
    refine Fr_iconst (i := 0) (v := 0) (by decide +kernel) (by decide) ?_
    obtain rfl := Option.some.inj h
    exact Fr_iret (by decide +kernel) rfl ⟨rfl, rfl⟩
  · have h := iF hc h
    refine Fr_aload_n (q := 1) (i := 1) 0 (by decide +kernel) rfl rfl ?_
    refine Fr_iload_n (q := 2) (i := 2) 1 (by decide +kernel) rfl rfl ?_
    refine Fr_iload (i := 4) 3 (by decide +kernel) rfl ?_
    obtain ⟨r_3, M_1, hc_2, h⟩ := bi_elim h
    refine Fr_cVi (ν := m_X5_beside) (As := [.int v2, .int v4]) (st := []) (rc := p1) (ci := 5) (d' := 1) (by decide +kernel) ml_X7_54 cv_X5_beside rfl (by decide) rfl hp1 rfl (by decide) (Nat.le_of_ble_eq_true rfl) (t_X5_beside hp1 hc_2) ?_
    refine Fr_iload_n (q := 3) (i := 3) 2 (by decide +kernel) rfl rfl ?_
    refine Fr_icmp_ne (off := 6) 23 (by decide +kernel) (by decide) (fun hc => ?_) (fun hc => ?_)
    · have h := iF hc h
      refine Fr_iinc (i := 4) (j := 1) (v := (v4 + 1)) (lv' := [(4, .int (v4 + 1)), (1, .ref p1), (2, .int v2), (3, .int v3)]) 3 (by decide +kernel) rfl rfl (by decide) rfl ?_
      refine Fr_goto (off := (-23)) 3 (by decide +kernel) (by decide) ?_
      refine Fr_loc [1, 2, 3, 0] rfl ?_
      exact hk3 (v2, v3, (v4 + 1)) M_1 h
    · have h := iT hc h
      refine Fr_iload (i := 4) 3 (by decide +kernel) rfl ?_
      obtain rfl := Option.some.inj h
      exact Fr_iret (by decide +kernel) rfl ⟨rfl, rfl⟩
set_option maxRecDepth 20000 in
theorem t_X7_directionTo {N : Nat} {p1 : Nat} {x2 : Int32} {x3 : Int32} (hp1 : Ob 0 111 p1 5) {M : Mem} {q : Int32 × Mem} (h : f_X7_directionTo N p1 x2 x3 M = some q) : Ev 0 111 2 m_X7_directionTo [.ref 96, .ref p1, .int x2, .int x3] M (QI q) := by
  refine Ev_of_Fr (by decide +kernel) (Nat.le_of_ble_eq_true rfl) ?_
  show Fr 0 111 2 m_X7_directionTo 0 [(0, .ref 96), (1, .ref p1), (2, .int x2), (3, .int x3)] [] M (QI q)
  unfold f_X7_directionTo at h
  refine Fr_iconst (i := 1) (v := 1) (by decide +kernel) (by decide) ?_
  refine Fr_istore (i := 4) (lv' := [(4, .int 1), (0, .ref 96), (1, .ref p1), (2, .int x2), (3, .int x3)]) (by decide +kernel) (by decide) rfl ?_
  refine Fr_loc [2, 3, 4, 0] rfl ?_
  exact lp_sound (body := fun k a m => f_X7_directionTo_h3 N p1 k a.1 a.2.1 a.2.2 m) (P := fun a M => Fr 0 111 2 m_X7_directionTo 3 [(1, .ref p1), (2, .int a.1), (3, .int a.2.1), (4, .int a.2.2)] [] M (QI q)) (fun k hk a m h => t_X7_directionTo_h3 hp1 hk h) N (x2, x3, 1) M h
