set_option maxRecDepth 20000 in
theorem t_X7_layRoad_b124 {N : Nat} {p1 : Nat} (hp1 : Ob 0 111 p1 5) {q : Mem} {k6 : Int32 × Int32 × Int32 → Mem → Option (Mem)} (hk6 : ∀ (a : Int32 × Int32 × Int32) (M : Mem), k6 a M = some q → Fr 0 111 3 m_X7_layRoad 6 [(0, .ref 96), (1, .ref p1), (2, .int a.1), (4, .int a.2.1), (5, .int a.2.2)] [] M (QV q)) {v2 : Int32} {v5 : Int32} {v6 : Int32} {M : Mem} (h : f_X7_layRoad_b124 N p1 k6 v2 v5 v6 M = some q) : Fr 0 111 3 m_X7_layRoad 124 [(0, .ref 96), (1, .ref p1), (2, .int v2), (5, .int v5), (6, .int v6)] [] M (QV q) := by
  unfold f_X7_layRoad_b124 at h
  refine Fr_iload (i := 6) 4 (by decide +kernel) rfl ?_
  refine Fr_istore (i := 4) (lv' := [(4, .int v6), (0, .ref 96), (1, .ref p1), (2, .int v2), (5, .int v5), (6, .int v6)]) (by decide +kernel) (by decide) rfl ?_
  refine Fr_iinc (i := 5) (j := 1) (v := (v5 + 1)) (lv' := [(5, .int (v5 + 1)), (4, .int v6), (0, .ref 96), (1, .ref p1), (2, .int v2), (6, .int v6)]) 4 (by decide +kernel) rfl rfl (by decide) rfl ?_
  refine Fr_goto (off := (-125)) 6 (by decide +kernel) (by decide) ?_
  refine Fr_loc [2, 3, 4, 1, 0] rfl ?_
  exact hk6 (v2, v6, (v5 + 1)) M h
set_option maxRecDepth 20000 in
theorem t_X7_layRoad_b70 {N : Nat} {p1 : Nat} (hp1 : Ob 0 111 p1 5) {q : Mem} {k6 : Int32 × Int32 × Int32 → Mem → Option (Mem)} (hk6 : ∀ (a : Int32 × Int32 × Int32) (M : Mem), k6 a M = some q → Fr 0 111 3 m_X7_layRoad 6 [(0, .ref 96), (1, .ref p1), (2, .int a.1), (4, .int a.2.1), (5, .int a.2.2)] [] M (QV q)) {v2 : Int32} {v5 : Int32} {v6 : Int32} {s0 : Int32} {s1 : Int32} {M : Mem} (h : f_X7_layRoad_b70 N p1 k6 v2 v5 v6 s0 s1 M = some q) : Fr 0 111 3 m_X7_layRoad 70 [(0, .ref 96), (1, .ref p1), (2, .int v2), (5, .int v5), (6, .int v6)] [.int s0, .int s1, .ref 99] M (QV q) := by
  unfold f_X7_layRoad_b70 at h
  obtain ⟨hi_19, h⟩ := ck_elim h
  refine Fr_iast (by decide +kernel) ob_99 (vp_of ln_99 hi_19) ?_
  obtain ⟨M_20, eM_20, h⟩ := bM_elim h
  refine Fr_mem eM_20 ?_
  refine Fr_goto (off := 53) 124 (by decide +kernel) (by decide) ?_
  exact t_X7_layRoad_b124 hp1 hk6 h
set_option maxRecDepth 20000 in
theorem t_X7_layRoad_h6 {N : Nat} {p1 : Nat} (hp1 : Ob 0 111 p1 5) {q : Mem} {k6 : Int32 × Int32 × Int32 → Mem → Option (Mem)} (hk6 : ∀ (a : Int32 × Int32 × Int32) (M : Mem), k6 a M = some q → Fr 0 111 3 m_X7_layRoad 6 [(0, .ref 96), (1, .ref p1), (2, .int a.1), (4, .int a.2.1), (5, .int a.2.2)] [] M (QV q)) {v2 : Int32} {v4 : Int32} {v5 : Int32} {M : Mem} (h : f_X7_layRoad_h6 N p1 k6 v2 v4 v5 M = some q) : Fr 0 111 3 m_X7_layRoad 6 [(0, .ref 96), (1, .ref p1), (2, .int v2), (4, .int v4), (5, .int v5)] [] M (QV q) := by
  unfold f_X7_layRoad_h6 at h
  refine Fr_iload (i := 5) 4 (by decide +kernel) rfl ?_
  refine Fr_bipush (i := 60) (v := 60) (by decide +kernel) (by decide) ?_
  refine Fr_icmp_ge (off := 124) 134 (by decide +kernel) (by decide) (fun hc => ?_) (fun hc => ?_)
  · have h := iT hc h
    obtain rfl := Option.some.inj h
    exact Fr_vret (by decide +kernel) rfl ⟨rfl, rfl⟩
  · have h := iF hc h
    refine Fr_iload (i := 4) 3 (by decide +kernel) rfl ?_
    refine Fr_bipush (i := 30) (v := 30) (by decide +kernel) (by decide) ?_
    refine Fr_iload_n (q := 2) (i := 2) 2 (by decide +kernel) rfl rfl ?_
    refine Fr_iadd (by decide +kernel) ?_
    refine Fr_icmp_eq (off := 115) 134 (by decide +kernel) (by decide) (fun hc => ?_) (fun hc => ?_)
    · have h := iT hc h
      obtain rfl := Option.some.inj h
      exact Fr_vret (by decide +kernel) rfl ⟨rfl, rfl⟩
    · have h := iF hc h
      refine Fr_aload_n (q := 0) (i := 0) 0 (by decide +kernel) rfl rfl ?_
      refine gf_X7_24 rfl (by decide +kernel) ob_96 ?_
      refine Fr_iload (i := 4) 3 (by decide +kernel) rfl ?_
      obtain ⟨hi_1, h⟩ := ck_elim h
      refine Fr_iald (by decide +kernel) ob_101 (vp_of ln_101 hi_1) ?_
      refine Fr_istore (i := 6) (lv' := [(6, .int (M.1 101 (tn v4))), (0, .ref 96), (1, .ref p1), (2, .int v2), (4, .int v4), (5, .int v5)]) (by decide +kernel) (by decide) rfl ?_
      refine Fr_iload (i := 4) 4 (by decide +kernel) rfl ?_
      refine Fr_bipush (i := 30) (v := 30) (by decide +kernel) (by decide) ?_
      refine Fr_irem (by decide +kernel) (by decide) ?_
      refine Fr_istore (i := 7) (lv' := [(7, .int (v4 - v4 / 30 * 30)), (6, .int (M.1 101 (tn v4))), (0, .ref 96), (1, .ref p1), (2, .int v2), (4, .int v4), (5, .int v5)]) (by decide +kernel) (by decide) rfl ?_
      refine Fr_iload (i := 6) 1 (by decide +kernel) rfl ?_
      refine Fr_bipush (i := 30) (v := 30) (by decide +kernel) (by decide) ?_
      refine Fr_irem (by decide +kernel) (by decide) ?_
      obtain ⟨y_2, ey_2, h⟩ := bI_elim h
      refine Fr_topI ey_2 ?_
      refine Fr_istore (i := 8) (lv' := [(8, .int y_2), (7, .int (v4 - v4 / 30 * 30)), (6, .int (M.1 101 (tn v4))), (0, .ref 96), (1, .ref p1), (2, .int v2), (4, .int v4), (5, .int v5)]) (by decide +kernel) (by decide) rfl ?_
      refine Fr_iload (i := 7) 1 (by decide +kernel) rfl ?_
      refine Fr_iload (i := 8) 0 (by decide +kernel) rfl ?_
      refine Fr_icmp_ne (off := 25) 74 (by decide +kernel) (by decide) (fun hc => ?_) (fun hc => ?_)
      · have h := iF hc h
        refine Fr_iload (i := 4) 6 (by decide +kernel) rfl ?_
        refine Fr_bipush (i := 30) (v := 30) (by decide +kernel) (by decide) ?_
        refine Fr_icmp_ge (off := 26) 104 (by decide +kernel) (by decide) (fun hc => ?_) (fun hc => ?_)
        · have h := iT hc h
          refine Fr_aload_n (q := 0) (i := 0) 3 (by decide +kernel) rfl rfl ?_
          refine gf_X7_21 rfl (by decide +kernel) ob_96 ?_
          refine Fr_iload (i := 7) 1 (by decide +kernel) rfl ?_
          refine Fr_aload_n (q := 0) (i := 0) 3 (by decide +kernel) rfl rfl ?_
          refine Fr_aload_n (q := 1) (i := 1) 4 (by decide +kernel) rfl rfl ?_
          refine Fr_iload (i := 7) 1 (by decide +kernel) rfl ?_
          refine Fr_iload (i := 8) 0 (by decide +kernel) rfl ?_
          obtain ⟨r_5, M_3, hc_4, h⟩ := bi_elim h
          refine Fr_cVi (ν := m_X7_directionTo) (As := [.ref p1, .int (v4 - v4 / 30 * 30), .int y_2]) (st := [.int (v4 - v4 / 30 * 30), .ref 100]) (rc := 96) (ci := 7) (d' := 2) (by decide +kernel) ml_X7_122 cv_X7_directionTo rfl (by decide) rfl ob_96 rfl (by decide) (Nat.le_of_ble_eq_true rfl) (t_X7_directionTo hp1 hc_4) ?_
          obtain ⟨r_8, M_6, hc_7, h⟩ := bi_elim h
          refine Fr_cSi (ν := m_X7_roadPlace) (As := [.int (v4 - v4 / 30 * 30), .int r_5]) (st := [.ref 100]) (d' := 0) (by decide +kernel) ml_X7_116 cs_X7_roadPlace rfl (by decide) (Nat.le_of_ble_eq_true rfl) (t_X7_roadPlace hc_7) ?_
          refine Fr_iconst (i := 0) (v := 0) (by decide +kernel) (by decide) ?_
          obtain ⟨hi_9, h⟩ := ck_elim h
          refine Fr_iast (by decide +kernel) ob_100 (vp_of ln_100 hi_9) ?_
          obtain ⟨M_10, eM_10, h⟩ := bM_elim h
          refine Fr_mem eM_10 ?_
          refine Fr_loc [3, 4, 5, 7, 2] rfl ?_
          exact t_X7_layRoad_b124 hp1 hk6 h
        · have h := iF hc h
          refine Fr_aload_n (q := 0) (i := 0) 3 (by decide +kernel) rfl rfl ?_
          refine gf_X7_21 rfl (by decide +kernel) ob_96 ?_
          refine Fr_iload (i := 8) 0 (by decide +kernel) rfl ?_
          refine Fr_aload_n (q := 0) (i := 0) 3 (by decide +kernel) rfl rfl ?_
          refine Fr_aload_n (q := 1) (i := 1) 4 (by decide +kernel) rfl rfl ?_
          refine Fr_iload (i := 8) 0 (by decide +kernel) rfl ?_
          refine Fr_iload (i := 7) 1 (by decide +kernel) rfl ?_
          obtain ⟨r_13, M_11, hc_12, h⟩ := bi_elim h
          refine Fr_cVi (ν := m_X7_directionTo) (As := [.ref p1, .int y_2, .int (v4 - v4 / 30 * 30)]) (st := [.int y_2, .ref 100]) (rc := 96) (ci := 7) (d' := 2) (by decide +kernel) ml_X7_122 cv_X7_directionTo rfl (by decide) rfl ob_96 rfl (by decide) (Nat.le_of_ble_eq_true rfl) (t_X7_directionTo hp1 hc_12) ?_
          obtain ⟨r_16, M_14, hc_15, h⟩ := bi_elim h
          refine Fr_cSi (ν := m_X7_roadPlace) (As := [.int y_2, .int r_13]) (st := [.ref 100]) (d' := 0) (by decide +kernel) ml_X7_116 cs_X7_roadPlace rfl (by decide) (Nat.le_of_ble_eq_true rfl) (t_X7_roadPlace hc_15) ?_
          refine Fr_iconst (i := 1) (v := 1) (by decide +kernel) (by decide) ?_
          obtain ⟨hi_17, h⟩ := ck_elim h
          refine Fr_iast (by decide +kernel) ob_100 (vp_of ln_100 hi_17) ?_
          obtain ⟨M_18, eM_18, h⟩ := bM_elim h
          refine Fr_mem eM_18 ?_
          refine Fr_goto (off := 23) 124 (by decide +kernel) (by decide) ?_
          refine Fr_loc [3, 4, 5, 7, 2] rfl ?_
          exact t_X7_layRoad_b124 hp1 hk6 h
      · have h := iT hc h
        refine Fr_aload_n (q := 0) (i := 0) 3 (by decide +kernel) rfl rfl ?_
        refine gf_X7_18 rfl (by decide +kernel) ob_96 ?_
        refine Fr_iload (i := 7) 1 (by decide +kernel) rfl ?_
        refine Fr_iload (i := 4) 6 (by decide +kernel) rfl ?_
        refine Fr_bipush (i := 30) (v := 30) (by decide +kernel) (by decide) ?_
        refine Fr_icmp_lt (off := 7) 69 (by decide +kernel) (by decide) (fun hc => ?_) (fun hc => ?_)
        · have h := iT hc h
          refine Fr_iconst (i := 0) (v := 0) (by decide +kernel) (by decide) ?_
          refine Fr_loc [3, 4, 5, 7, 2] rfl ?_
          exact t_X7_layRoad_b70 hp1 hk6 h
        · have h := iF hc h
          refine Fr_iconst (i := 1) (v := 1) (by decide +kernel) (by decide) ?_
          refine Fr_goto (off := 4) 70 (by decide +kernel) (by decide) ?_
          refine Fr_loc [3, 4, 5, 7, 2] rfl ?_
          exact t_X7_layRoad_b70 hp1 hk6 h
set_option maxRecDepth 20000 in
theorem t_X7_layRoad {N : Nat} {p1 : Nat} {x2 : Int32} {x3 : Int32} (hp1 : Ob 0 111 p1 5) {M : Mem} {q : Mem} (h : f_X7_layRoad N p1 x2 x3 M = some q) : Ev 0 111 3 m_X7_layRoad [.ref 96, .ref p1, .int x2, .int x3] M (QV q) := by
  refine Ev_of_Fr (by decide +kernel) (Nat.le_of_ble_eq_true rfl) ?_
  show Fr 0 111 3 m_X7_layRoad 0 [(0, .ref 96), (1, .ref p1), (2, .int x2), (3, .int x3)] [] M (QV q)
  unfold f_X7_layRoad at h
  refine Fr_iload_n (q := 3) (i := 3) 3 (by decide +kernel) rfl rfl ?_
  refine Fr_istore (i := 4) (lv' := [(4, .int x3), (0, .ref 96), (1, .ref p1), (2, .int x2), (3, .int x3)]) (by decide +kernel) (by decide) rfl ?_
  refine Fr_iconst (i := 0) (v := 0) (by decide +kernel) (by decide) ?_
  refine Fr_istore (i := 5) (lv' := [(5, .int 0), (4, .int x3), (0, .ref 96), (1, .ref p1), (2, .int x2), (3, .int x3)]) (by decide +kernel) (by decide) rfl ?_
  refine Fr_loc [2, 3, 4, 1, 0] rfl ?_
  exact lp_sound (body := fun k a m => f_X7_layRoad_h6 N p1 k a.1 a.2.1 a.2.2 m) (P := fun a M => Fr 0 111 3 m_X7_layRoad 6 [(0, .ref 96), (1, .ref p1), (2, .int a.1), (4, .int a.2.1), (5, .int a.2.2)] [] M (QV q)) (fun k hk a m h => t_X7_layRoad_h6 hp1 hk h) N (x2, x3, 0) M h
set_option maxRecDepth 20000 in
theorem t_X7_leastWatch_h22 {N : Nat} {p1 : Nat} (hp1 : Ob 0 111 p1 5) {q : Int32 × Mem} {k22 : Int32 × Int32 × Int32 × Int32 → Mem → Option (Int32 × Mem)} (hk22 : ∀ (a : Int32 × Int32 × Int32 × Int32) (M : Mem), k22 a M = some q → Fr 0 111 4 m_X7_leastWatch 22 [(0, .ref 96), (1, .ref p1), (2, .int a.1), (3, .int a.2.1), (4, .int a.2.2.1), (5, .int a.2.2.2)] [] M (QI q)) {v2 : Int32} {v3 : Int32} {v4 : Int32} {v5 : Int32} {M : Mem} (h : f_X7_leastWatch_h22 N p1 k22 v2 v3 v4 v5 M = some q) : Fr 0 111 4 m_X7_leastWatch 22 [(0, .ref 96), (1, .ref p1), (2, .int v2), (3, .int v3), (4, .int v4), (5, .int v5)] [] M (QI q) := by
  unfold f_X7_leastWatch_h22 at h
  refine Fr_iload (i := 5) 5 (by decide +kernel) rfl ?_
  refine Fr_iconst (i := 4) (v := 4) (by decide +kernel) (by decide) ?_
  refine Fr_icmp_ge (off := 32) 57 (by decide +kernel) (by decide) (fun hc => ?_) (fun hc => ?_)
  · have h := iT hc h
    refine Fr_iload (i := 4) 4 (by decide +kernel) rfl ?_
    obtain rfl := Option.some.inj h
    exact Fr_iret (by decide +kernel) rfl ⟨rfl, rfl⟩
  · have h := iF hc h
    refine Fr_aload_n (q := 0) (i := 0) 0 (by decide +kernel) rfl rfl ?_
    refine Fr_aload_n (q := 1) (i := 1) 1 (by decide +kernel) rfl rfl ?_
    refine Fr_iload_n (q := 2) (i := 2) 2 (by decide +kernel) rfl rfl ?_
    refine Fr_iload_n (q := 3) (i := 3) 3 (by decide +kernel) rfl rfl ?_
    obtain ⟨r_7, M_5, hc_6, h⟩ := bi_elim h
    refine Fr_cVb (ν := m_X7_findRoad) (As := [.ref p1, .int v2, .int v3]) (st := []) (rc := 96) (ci := 7) (d' := 3) (by decide +kernel) ml_X7_95 cv_X7_findRoad rfl (by decide) rfl ob_96 rfl (by decide) (Nat.le_of_ble_eq_true rfl) (t_X7_findRoad hp1 hc_6) ?_
    refine Fr_if_ne (off := 6) 41 (by decide +kernel) (by decide) (fun hc => ?_) (fun hc => ?_)
    · have h := iF hc h
      refine Fr_aload_n (q := 0) (i := 0) 0 (by decide +kernel) rfl rfl ?_
      refine Fr_aload_n (q := 1) (i := 1) 1 (by decide +kernel) rfl rfl ?_
      refine Fr_iload_n (q := 2) (i := 2) 2 (by decide +kernel) rfl rfl ?_
      refine Fr_iload_n (q := 3) (i := 3) 3 (by decide +kernel) rfl rfl ?_
      obtain ⟨M_8, hc_9, h⟩ := bv_elim h
      refine Fr_cVv (ν := m_X7_layRoad) (As := [.ref p1, .int v2, .int v3]) (st := []) (rc := 96) (ci := 7) (d' := 3) (by decide +kernel) ml_X7_98 cv_X7_layRoad rfl (by decide) rfl ob_96 rfl (by decide) (Nat.le_of_ble_eq_true rfl) (t_X7_layRoad hp1 hc_9) ?_
      refine Fr_iinc (i := 4) (j := 1) (v := (v4 + 1)) (lv' := [(4, .int (v4 + 1)), (0, .ref 96), (1, .ref p1), (2, .int v2), (3, .int v3), (5, .int v5)]) 4 (by decide +kernel) rfl rfl (by decide) rfl ?_
      refine Fr_iinc (i := 5) (j := 1) (v := (v5 + 1)) (lv' := [(5, .int (v5 + 1)), (4, .int (v4 + 1)), (0, .ref 96), (1, .ref p1), (2, .int v2), (3, .int v3)]) 5 (by decide +kernel) rfl rfl (by decide) rfl ?_
      refine Fr_goto (off := (-32)) 22 (by decide +kernel) (by decide) ?_
      refine Fr_loc [2, 3, 4, 5, 1, 0] rfl ?_
      exact hk22 (v2, v3, (v4 + 1), (v5 + 1)) M_8 h
    · have h := iT hc h
      refine Fr_goto (off := 19) 57 (by decide +kernel) (by decide) ?_
      refine Fr_iload (i := 4) 4 (by decide +kernel) rfl ?_
      obtain rfl := Option.some.inj h
      exact Fr_iret (by decide +kernel) rfl ⟨rfl, rfl⟩
set_option maxRecDepth 20000 in
theorem t_X7_leastWatch {N : Nat} {p1 : Nat} {x2 : Int32} {x3 : Int32} (hp1 : Ob 0 111 p1 5) {M : Mem} {q : Int32 × Mem} (h : f_X7_leastWatch N p1 x2 x3 M = some q) : Ev 0 111 4 m_X7_leastWatch [.ref 96, .ref p1, .int x2, .int x3] M (QI q) := by
  refine Ev_of_Fr (by decide +kernel) (Nat.le_of_ble_eq_true rfl) ?_
  show Fr 0 111 4 m_X7_leastWatch 0 [(0, .ref 96), (1, .ref p1), (2, .int x2), (3, .int x3)] [] M (QI q)
  unfold f_X7_leastWatch at h
  refine Fr_aload_n (q := 0) (i := 0) 0 (by decide +kernel) rfl rfl ?_
  refine gf_X7_18 rfl (by decide +kernel) ob_96 ?_
  refine Fr_iconst (i := 0) (v := 0) (by decide +kernel) (by decide) ?_
  obtain ⟨M_1, hc_2, h⟩ := bv_elim h
  refine Fr_cSv (ν := m_J7_fill_53178) (As := [.ref 99, .int 0]) (st := []) (d' := 0) (by decide +kernel) ml_X7_34 cs_J7_fill_53178 rfl (by decide) (Nat.le_of_ble_eq_true rfl) (t_J7_fill_53178 ob_99 hc_2) ?_
  refine Fr_aload_n (q := 0) (i := 0) 0 (by decide +kernel) rfl rfl ?_
  refine gf_X7_21 rfl (by decide +kernel) ob_96 ?_
  refine Fr_iconst (i := 0) (v := 0) (by decide +kernel) (by decide) ?_
  obtain ⟨M_3, hc_4, h⟩ := bv_elim h
  refine Fr_cSv (ν := m_J7_fill_53178) (As := [.ref 100, .int 0]) (st := []) (d' := 0) (by decide +kernel) ml_X7_34 cs_J7_fill_53178 rfl (by decide) (Nat.le_of_ble_eq_true rfl) (t_J7_fill_53178 ob_100 hc_4) ?_
  refine Fr_iconst (i := 0) (v := 0) (by decide +kernel) (by decide) ?_
  refine Fr_istore (i := 4) (lv' := [(4, .int 0), (0, .ref 96), (1, .ref p1), (2, .int x2), (3, .int x3)]) (by decide +kernel) (by decide) rfl ?_
  refine Fr_iconst (i := 0) (v := 0) (by decide +kernel) (by decide) ?_
  refine Fr_istore (i := 5) (lv' := [(5, .int 0), (4, .int 0), (0, .ref 96), (1, .ref p1), (2, .int x2), (3, .int x3)]) (by decide +kernel) (by decide) rfl ?_
  refine Fr_loc [2, 3, 4, 5, 1, 0] rfl ?_
  exact lp_sound (body := fun k a m => f_X7_leastWatch_h22 N p1 k a.1 a.2.1 a.2.2.1 a.2.2.2 m) (P := fun a M => Fr 0 111 4 m_X7_leastWatch 22 [(0, .ref 96), (1, .ref p1), (2, .int a.1), (3, .int a.2.1), (4, .int a.2.2.1), (5, .int a.2.2.2)] [] M (QI q)) (fun k hk a m h => t_X7_leastWatch_h22 hp1 hk h) N (x2, x3, 0, 0) M_3 h
set_option maxRecDepth 20000 in
theorem t_X9_isTray {x1 : Int32} {M : Mem} {q : Bool × Mem} (h : f_X9_isTray x1 M = some q) : Ev 0 111 0 m_X9_isTray [.ref 2, .int x1] M (QB q) := by
  refine Ev_of_Fr (by decide +kernel) (Nat.le_of_ble_eq_true rfl) ?_
  show Fr 0 111 0 m_X9_isTray 0 [(0, .ref 2), (1, .int x1)] [] M (QB q)
  unfold f_X9_isTray at h
  refine Fr_iload_n (q := 1) (i := 1) 1 (by decide +kernel) rfl rfl ?_
  refine Fr_if_lt (off := 12) 13 (by decide +kernel) (by decide) (fun hc => ?_) (fun hc => ?_)
  · have h := iT hc h
    refine Fr_iconst (i := 0) (v := 0) (by decide +kernel) (by decide) ?_
    obtain rfl := Option.some.inj h
    exact Fr_zret (by decide +kernel) rfl (by decide) ⟨rfl, rfl⟩
  · have h := iF hc h
    refine Fr_iload_n (q := 1) (i := 1) 1 (by decide +kernel) rfl rfl ?_
    refine Fr_iconst (i := 4) (v := 4) (by decide +kernel) (by decide) ?_
    refine Fr_icmp_ge (off := 7) 13 (by decide +kernel) (by decide) (fun hc => ?_) (fun hc => ?_)
    · have h := iT hc h
      refine Fr_iconst (i := 0) (v := 0) (by decide +kernel) (by decide) ?_
      obtain rfl := Option.some.inj h
      exact Fr_zret (by decide +kernel) rfl (by decide) ⟨rfl, rfl⟩
    · have h := iF hc h
      refine Fr_iconst (i := 1) (v := 1) (by decide +kernel) (by decide) ?_
      refine Fr_goto (off := 4) 14 (by decide +kernel) (by decide) ?_
      obtain rfl := Option.some.inj h
      exact Fr_zret (by decide +kernel) rfl (by decide) ⟨rfl, rfl⟩
set_option maxRecDepth 20000 in
theorem t_J7_fill_d0a16_h6 {N : Nat} {p0 : Nat} (hp0 : Ob 0 111 p0 21) {q : Mem} {k6 : Int64 × Int32 × Int32 → Mem → Option (Mem)} (hk6 : ∀ (a : Int64 × Int32 × Int32) (M : Mem), k6 a M = some q → Fr 0 111 0 m_J7_fill_d0a16 6 [(0, .ref p0), (1, .long a.1), (3, .int a.2.1), (4, .int a.2.2)] [] M (QV q)) {v1 : Int64} {v3 : Int32} {v4 : Int32} {M : Mem} (h : f_J7_fill_d0a16_h6 N p0 k6 v1 v3 v4 M = some q) : Fr 0 111 0 m_J7_fill_d0a16 6 [(0, .ref p0), (1, .long v1), (3, .int v3), (4, .int v4)] [] M (QV q) := by
  unfold f_J7_fill_d0a16_h6 at h
  refine Fr_iload_n (q := 3) (i := 3) 2 (by decide +kernel) rfl rfl ?_
  refine Fr_iload (i := 4) 3 (by decide +kernel) rfl ?_
  refine Fr_icmp_ge (off := 13) 22 (by decide +kernel) (by decide) (fun hc => ?_) (fun hc => ?_)
  · have h := iT hc h
    obtain rfl := Option.some.inj h
    exact Fr_vret (by decide +kernel) rfl ⟨rfl, rfl⟩
  · have h := iF hc h
    refine Fr_aload_n (q := 0) (i := 0) 0 (by decide +kernel) rfl rfl ?_
    refine Fr_iload_n (q := 3) (i := 3) 2 (by decide +kernel) rfl rfl ?_
    refine Fr_lload_n (q := 1) (i := 1) 1 (by decide +kernel) rfl rfl ?_
    obtain ⟨hi_1, h⟩ := ck_elim h
    refine Fr_last (by decide +kernel) hp0 (vp_of rfl hi_1) ?_
    obtain ⟨M_2, eM_2, h⟩ := bM_elim h
    refine Fr_mem eM_2 ?_
    refine Fr_iinc (i := 3) (j := 1) (v := (v3 + 1)) (lv' := [(3, .int (v3 + 1)), (0, .ref p0), (1, .long v1), (4, .int v4)]) 2 (by decide +kernel) rfl rfl (by decide) rfl ?_
    refine Fr_goto (off := (-13)) 6 (by decide +kernel) (by decide) ?_
    refine Fr_loc [1, 2, 0, 3] rfl ?_
    exact hk6 (v1, (v3 + 1), v4) M_2 h
set_option maxRecDepth 20000 in
theorem t_J7_fill_d0a16 {N : Nat} {p0 : Nat} {x1 : Int64} (hp0 : Ob 0 111 p0 21) {M : Mem} {q : Mem} (h : f_J7_fill_d0a16 N p0 x1 M = some q) : Ev 0 111 0 m_J7_fill_d0a16 [.ref p0, .long x1] M (QV q) := by
  refine Ev_of_Fr (by decide +kernel) (Nat.le_of_ble_eq_true rfl) ?_
  show Fr 0 111 0 m_J7_fill_d0a16 0 [(0, .ref p0), (1, .long x1)] [] M (QV q)
  unfold f_J7_fill_d0a16 at h
  refine Fr_iconst (i := 0) (v := 0) (by decide +kernel) (by decide) ?_
  refine Fr_istore_n (q := 3) (i := 3) (lv' := [(3, .int 0), (0, .ref p0), (1, .long x1)]) (by decide +kernel) rfl (by decide) rfl ?_
  refine Fr_aload_n (q := 0) (i := 0) 1 (by decide +kernel) rfl rfl ?_
  refine Fr_alen (by decide +kernel) hp0 (by decide) rfl ?_
  refine Fr_istore (i := 4) (lv' := [(4, .int (Int32.ofNat (ln p0))), (3, .int 0), (0, .ref p0), (1, .long x1)]) (by decide +kernel) (by decide) rfl ?_
  refine Fr_loc [2, 3, 1, 0] rfl ?_
  exact lp_sound (body := fun k a m => f_J7_fill_d0a16_h6 N p0 k a.1 a.2.1 a.2.2 m) (P := fun a M => Fr 0 111 0 m_J7_fill_d0a16 6 [(0, .ref p0), (1, .long a.1), (3, .int a.2.1), (4, .int a.2.2)] [] M (QV q)) (fun k hk a m h => t_J7_fill_d0a16_h6 hp0 hk h) N (x1, 0, (Int32.ofNat (ln p0))) M h
set_option maxRecDepth 20000 in
theorem t_X9_make {N : Nat} {x1 : Int32} {x2 : Int32} {x3 : Int32} {M : Mem} {q : Mem} (h : f_X9_make N x1 x2 x3 M = some q) : Ev 0 111 1 m_X9_make [.ref 2, .int x1, .int x2, .int x3] M (QV q) := by
  refine Ev_of_Fr (by decide +kernel) (Nat.le_of_ble_eq_true rfl) ?_
  show Fr 0 111 1 m_X9_make 0 [(0, .ref 2), (1, .int x1), (2, .int x2), (3, .int x3)] [] M (QV q)
  unfold f_X9_make at h
  refine Fr_aload_n (q := 0) (i := 0) 0 (by decide +kernel) rfl rfl ?_
  refine gf_X9_13 rfl (by decide +kernel) ob_2 ?_
  refine Fr_iload_n (q := 1) (i := 1) 1 (by decide +kernel) rfl rfl ?_
  obtain ⟨hi_1, h⟩ := ck_elim h
  refine Fr_aald (by decide +kernel) ob_3 (by decide) (vp_of ln_3 hi_1) (ra3 hi_1) ?_
  refine Fr_lconst (i := 0) (v := 0) (by decide +kernel) (by decide) ?_
  obtain ⟨M_2, hc_3, h⟩ := bv_elim h
  refine Fr_cSv (ν := m_J7_fill_d0a16) (As := [.ref (4 + tn x1), .long 0]) (st := []) (d' := 0) (by decide +kernel) ml_X9_29 cs_J7_fill_d0a16 rfl (by decide) (Nat.le_of_ble_eq_true rfl) (t_J7_fill_d0a16 (oa3 hi_1) hc_3) ?_
  refine Fr_aload_n (q := 0) (i := 0) 0 (by decide +kernel) rfl rfl ?_
  refine gf_X9_16 rfl (by decide +kernel) ob_2 ?_
  refine Fr_iload_n (q := 1) (i := 1) 1 (by decide +kernel) rfl rfl ?_
  refine Fr_iload_n (q := 2) (i := 2) 2 (by decide +kernel) rfl rfl ?_
  obtain ⟨hi_4, h⟩ := ck_elim h
  refine Fr_iast (by decide +kernel) ob_8 (vp_of ln_8 hi_4) ?_
  obtain ⟨M_5, eM_5, h⟩ := bM_elim h
  refine Fr_mem eM_5 ?_
  refine Fr_aload_n (q := 0) (i := 0) 0 (by decide +kernel) rfl rfl ?_
  refine gf_X9_20 rfl (by decide +kernel) ob_2 ?_
  refine Fr_iload_n (q := 1) (i := 1) 1 (by decide +kernel) rfl rfl ?_
  refine Fr_iload_n (q := 3) (i := 3) 3 (by decide +kernel) rfl rfl ?_
  obtain ⟨hi_6, h⟩ := ck_elim h
  refine Fr_iast (by decide +kernel) ob_9 (vp_of ln_9 hi_6) ?_
  obtain ⟨M_7, eM_7, h⟩ := bM_elim h
  refine Fr_mem eM_7 ?_
  obtain rfl := Option.some.inj h
  exact Fr_vret (by decide +kernel) rfl ⟨rfl, rfl⟩
set_option maxRecDepth 20000 in
theorem t_X9_cut {x0 : Int64} {x2 : Int32} {M : Mem} {q : Int64 × Mem} (h : f_X9_cut x0 x2 M = some q) : Ev 0 111 0 m_X9_cut [.long x0, .int x2] M (QJ q) := by
  refine Ev_of_Fr (by decide +kernel) (Nat.le_of_ble_eq_true rfl) ?_
  show Fr 0 111 0 m_X9_cut 0 [(0, .long x0), (2, .int x2)] [] M (QJ q)
  unfold f_X9_cut at h
  refine Fr_iload_n (q := 2) (i := 2) 1 (by decide +kernel) rfl rfl ?_
  by_cases hs_1 : x2 = 0
  · have h := iT hs_1 h
    refine Fr_tabIn (dflt := 41) (lo := 0) (hi := 2) (offs := #[27, 32, 37]) (len := 27) (off := 27) 28 (by decide +kernel) (by rw [hs_1]; decide) (by rw [hs_1]; decide) (by rw [hs_1]; rfl) (by decide) ?_
    refine Fr_lload_n (q := 0) (i := 0) 0 (by decide +kernel) rfl rfl ?_
    refine Fr_l2i (by decide +kernel) ?_
    refine Fr_i2b (by decide +kernel) ?_
    refine Fr_i2l (by decide +kernel) ?_
    obtain rfl := Option.some.inj h
    exact Fr_lret (by decide +kernel) rfl ⟨rfl, rfl⟩
  have h := iF hs_1 h
  by_cases hs_2 : x2 = 1
  · have h := iT hs_2 h
    refine Fr_tabIn (dflt := 41) (lo := 0) (hi := 2) (offs := #[27, 32, 37]) (len := 27) (off := 32) 33 (by decide +kernel) (by rw [hs_2]; decide) (by rw [hs_2]; decide) (by rw [hs_2]; rfl) (by decide) ?_
    refine Fr_lload_n (q := 0) (i := 0) 0 (by decide +kernel) rfl rfl ?_
    refine Fr_l2i (by decide +kernel) ?_
    refine Fr_i2s (by decide +kernel) ?_
    refine Fr_i2l (by decide +kernel) ?_
    obtain rfl := Option.some.inj h
    exact Fr_lret (by decide +kernel) rfl ⟨rfl, rfl⟩
  have h := iF hs_2 h
  by_cases hs_3 : x2 = 2
  · have h := iT hs_3 h
    refine Fr_tabIn (dflt := 41) (lo := 0) (hi := 2) (offs := #[27, 32, 37]) (len := 27) (off := 37) 38 (by decide +kernel) (by rw [hs_3]; decide) (by rw [hs_3]; decide) (by rw [hs_3]; rfl) (by decide) ?_
    refine Fr_lload_n (q := 0) (i := 0) 0 (by decide +kernel) rfl rfl ?_
    refine Fr_l2i (by decide +kernel) ?_
    refine Fr_i2l (by decide +kernel) ?_
    obtain rfl := Option.some.inj h
    exact Fr_lret (by decide +kernel) rfl ⟨rfl, rfl⟩
  have h := iF hs_3 h
  have hhs_1 := lv_neT (a := 0) hs_1 (by decide)
  have hhs_2 := lv_neT (a := 1) hs_2 (by decide)
  have hhs_3 := lv_neT (a := 2) hs_3 (by decide)
  refine Fr_tabOut (dflt := 41) (lo := 0) (hi := 2) (offs := #[27, 32, 37]) (len := 27) 42 (by decide +kernel) (by first | omega | (simp only [tn] at *; omega)) (by decide) ?_
  refine Fr_lload_n (q := 0) (i := 0) 0 (by decide +kernel) rfl rfl ?_
  obtain rfl := Option.some.inj h
  exact Fr_lret (by decide +kernel) rfl ⟨rfl, rfl⟩
set_option maxRecDepth 20000 in
theorem t_X9_put {x1 : Int32} {x2 : Int32} {x3 : Int64} {M : Mem} {q : Mem} (h : f_X9_put x1 x2 x3 M = some q) : Ev 0 111 1 m_X9_put [.ref 2, .int x1, .int x2, .long x3] M (QV q) := by
  refine Ev_of_Fr (by decide +kernel) (Nat.le_of_ble_eq_true rfl) ?_
  show Fr 0 111 1 m_X9_put 0 [(0, .ref 2), (1, .int x1), (2, .int x2), (3, .long x3)] [] M (QV q)
  unfold f_X9_put at h
  refine Fr_aload_n (q := 0) (i := 0) 0 (by decide +kernel) rfl rfl ?_
  refine gf_X9_13 rfl (by decide +kernel) ob_2 ?_
  refine Fr_iload_n (q := 1) (i := 1) 1 (by decide +kernel) rfl rfl ?_
  obtain ⟨hi_1, h⟩ := ck_elim h
  refine Fr_aald (by decide +kernel) ob_3 (by decide) (vp_of ln_3 hi_1) (ra3 hi_1) ?_
  refine Fr_iload_n (q := 2) (i := 2) 2 (by decide +kernel) rfl rfl ?_
  refine Fr_lload_n (q := 3) (i := 3) 3 (by decide +kernel) rfl rfl ?_
  refine Fr_aload_n (q := 0) (i := 0) 0 (by decide +kernel) rfl rfl ?_
  refine gf_X9_16 rfl (by decide +kernel) ob_2 ?_
  refine Fr_iload_n (q := 1) (i := 1) 1 (by decide +kernel) rfl rfl ?_
  obtain ⟨hi_2, h⟩ := ck_elim h
  refine Fr_iald (by decide +kernel) ob_8 (vp_of ln_8 hi_2) ?_
  obtain ⟨r_5, M_3, hc_4, h⟩ := bi_elim h
  refine Fr_cSj (ν := m_X9_cut) (As := [.long x3, .int (M.1 8 (tn x1))]) (st := [.int x2, .ref (4 + tn x1)]) (d' := 0) (by decide +kernel) ml_X9_32 cs_X9_cut rfl (by decide) (Nat.le_of_ble_eq_true rfl) (t_X9_cut hc_4) ?_
  obtain ⟨hi_6, h⟩ := ck_elim h
  refine Fr_last (by decide +kernel) (oa3 hi_1) (vp_of (na3 hi_1) hi_6) ?_
  obtain ⟨M_7, eM_7, h⟩ := bM_elim h
  refine Fr_mem eM_7 ?_
  obtain rfl := Option.some.inj h
  exact Fr_vret (by decide +kernel) rfl ⟨rfl, rfl⟩
set_option maxRecDepth 20000 in
theorem t_X9_codeOfTray {x1 : Int32} {M : Mem} {q : Int32 × Mem} (h : f_X9_codeOfTray x1 M = some q) : Ev 0 111 1 m_X9_codeOfTray [.ref 2, .int x1] M (QI q) := by
  refine Ev_of_Fr (by decide +kernel) (Nat.le_of_ble_eq_true rfl) ?_
  show Fr 0 111 1 m_X9_codeOfTray 0 [(0, .ref 2), (1, .int x1)] [] M (QI q)
  unfold f_X9_codeOfTray at h
  refine Fr_aload_n (q := 0) (i := 0) 0 (by decide +kernel) rfl rfl ?_
  refine Fr_iload_n (q := 1) (i := 1) 1 (by decide +kernel) rfl rfl ?_
  obtain ⟨r_3, M_1, hc_2, h⟩ := bi_elim h
  refine Fr_cVb (ν := m_X9_isTray) (As := [.int x1]) (st := []) (rc := 2) (ci := 9) (d' := 0) (by decide +kernel) ml_X9_36 cv_X9_isTray rfl (by decide) rfl ob_2 rfl (by decide) (Nat.le_of_ble_eq_true rfl) (t_X9_isTray hc_2) ?_
  refine Fr_if_ne (off := 5) 10 (by decide +kernel) (by decide) (fun hc => ?_) (fun hc => ?_)
  · have h := iF hc h
    refine Fr_aload_n (q := 0) (i := 0) 0 (by decide +kernel) rfl rfl ?_
    refine gf_X9_20 rfl (by decide +kernel) ob_2 ?_
    refine Fr_iload_n (q := 1) (i := 1) 1 (by decide +kernel) rfl rfl ?_
    obtain ⟨hi_4, h⟩ := ck_elim h
    refine Fr_iald (by decide +kernel) ob_9 (vp_of ln_9 hi_4) ?_
    refine Fr_if_ge (off := 7) 23 (by decide +kernel) (by decide) (fun hc => ?_) (fun hc => ?_)
    · have h := iT hc h
      refine Fr_iconst (i := 0) (v := 0) (by decide +kernel) (by decide) ?_
      obtain rfl := Option.some.inj h
      exact Fr_iret (by decide +kernel) rfl ⟨rfl, rfl⟩
    · have h := iF hc h
      refine Fr_iconst (i := 3) (v := 3) (by decide +kernel) (by decide) ?_
      refine Fr_goto (off := 4) 24 (by decide +kernel) (by decide) ?_
      obtain rfl := Option.some.inj h
      exact Fr_iret (by decide +kernel) rfl ⟨rfl, rfl⟩
  · have h := iT hc h
    refine Fr_iconst (i := 1) (v := 1) (by decide +kernel) (by decide) ?_
    obtain rfl := Option.some.inj h
    exact Fr_iret (by decide +kernel) rfl ⟨rfl, rfl⟩
set_option maxRecDepth 20000 in
theorem t_X9_codeOfPlace {x1 : Int32} {x2 : Int32} {M : Mem} {q : Int32 × Mem} (h : f_X9_codeOfPlace x1 x2 M = some q) : Ev 0 111 2 m_X9_codeOfPlace [.ref 2, .int x1, .int x2] M (QI q) := by
  refine Ev_of_Fr (by decide +kernel) (Nat.le_of_ble_eq_true rfl) ?_
  show Fr 0 111 2 m_X9_codeOfPlace 0 [(0, .ref 2), (1, .int x1), (2, .int x2)] [] M (QI q)
  unfold f_X9_codeOfPlace at h
  refine Fr_aload_n (q := 0) (i := 0) 0 (by decide +kernel) rfl rfl ?_
  refine Fr_iload_n (q := 1) (i := 1) 1 (by decide +kernel) rfl rfl ?_
  obtain ⟨r_3, M_1, hc_2, h⟩ := bi_elim h
  refine Fr_cVi (ν := m_X9_codeOfTray) (As := [.int x1]) (st := []) (rc := 2) (ci := 9) (d' := 1) (by decide +kernel) ml_X9_40 cv_X9_codeOfTray rfl (by decide) rfl ob_2 rfl (by decide) (Nat.le_of_ble_eq_true rfl) (t_X9_codeOfTray hc_2) ?_
  refine Fr_istore_n (q := 3) (i := 3) (lv' := [(3, .int r_3), (0, .ref 2), (1, .int x1), (2, .int x2)]) (by decide +kernel) rfl (by decide) rfl ?_
  refine Fr_iload_n (q := 3) (i := 3) 0 (by decide +kernel) rfl rfl ?_
  refine Fr_if_eq (off := 5) 12 (by decide +kernel) (by decide) (fun hc => ?_) (fun hc => ?_)
  · have h := iT hc h
    refine Fr_iload_n (q := 2) (i := 2) 3 (by decide +kernel) rfl rfl ?_
    refine Fr_if_lt (off := 13) 26 (by decide +kernel) (by decide) (fun hc => ?_) (fun hc => ?_)
    · have h := iT hc h
      refine Fr_iconst (i := 4) (v := 4) (by decide +kernel) (by decide) ?_
      refine Fr_goto (off := 4) 31 (by decide +kernel) (by decide) ?_
      obtain rfl := Option.some.inj h
      exact Fr_iret (by decide +kernel) rfl ⟨rfl, rfl⟩
    · have h := iF hc h
      refine Fr_iload_n (q := 2) (i := 2) 3 (by decide +kernel) rfl rfl ?_
      refine Fr_aload_n (q := 0) (i := 0) 1 (by decide +kernel) rfl rfl ?_
      refine gf_X9_20 rfl (by decide +kernel) ob_2 ?_
      refine Fr_iload_n (q := 1) (i := 1) 2 (by decide +kernel) rfl rfl ?_
      obtain ⟨hi_4, h⟩ := ck_elim h
      refine Fr_iald (by decide +kernel) ob_9 (vp_of ln_9 hi_4) ?_
      refine Fr_icmp_lt (off := 7) 30 (by decide +kernel) (by decide) (fun hc => ?_) (fun hc => ?_)
      · have h := iT hc h
        refine Fr_iconst (i := 0) (v := 0) (by decide +kernel) (by decide) ?_
        obtain rfl := Option.some.inj h
        exact Fr_iret (by decide +kernel) rfl ⟨rfl, rfl⟩
      · have h := iF hc h
        refine Fr_iconst (i := 4) (v := 4) (by decide +kernel) (by decide) ?_
        refine Fr_goto (off := 4) 31 (by decide +kernel) (by decide) ?_
        obtain rfl := Option.some.inj h
        exact Fr_iret (by decide +kernel) rfl ⟨rfl, rfl⟩
  · have h := iF hc h
    refine Fr_iload_n (q := 3) (i := 3) 0 (by decide +kernel) rfl rfl ?_
    obtain rfl := Option.some.inj h
    exact Fr_iret (by decide +kernel) rfl ⟨rfl, rfl⟩
set_option maxRecDepth 20000 in
theorem t_X9_codeOfLength {x1 : Int32} {x2 : Int32} {M : Mem} {q : Int32 × Mem} (h : f_X9_codeOfLength x1 x2 M = some q) : Ev 0 111 2 m_X9_codeOfLength [.ref 2, .int x1, .int x2] M (QI q) := by
  refine Ev_of_Fr (by decide +kernel) (Nat.le_of_ble_eq_true rfl) ?_
  show Fr 0 111 2 m_X9_codeOfLength 0 [(0, .ref 2), (1, .int x1), (2, .int x2)] [] M (QI q)
  unfold f_X9_codeOfLength at h
  refine Fr_aload_n (q := 0) (i := 0) 0 (by decide +kernel) rfl rfl ?_
  refine Fr_iload_n (q := 1) (i := 1) 1 (by decide +kernel) rfl rfl ?_
  obtain ⟨r_3, M_1, hc_2, h⟩ := bi_elim h
  refine Fr_cVi (ν := m_X9_codeOfTray) (As := [.int x1]) (st := []) (rc := 2) (ci := 9) (d' := 1) (by decide +kernel) ml_X9_40 cv_X9_codeOfTray rfl (by decide) rfl ob_2 rfl (by decide) (Nat.le_of_ble_eq_true rfl) (t_X9_codeOfTray hc_2) ?_
  refine Fr_istore_n (q := 3) (i := 3) (lv' := [(3, .int r_3), (0, .ref 2), (1, .int x1), (2, .int x2)]) (by decide +kernel) rfl (by decide) rfl ?_
  refine Fr_iload_n (q := 3) (i := 3) 0 (by decide +kernel) rfl rfl ?_
  refine Fr_if_eq (off := 5) 12 (by decide +kernel) (by decide) (fun hc => ?_) (fun hc => ?_)
  · have h := iT hc h
    refine Fr_iload_n (q := 2) (i := 2) 3 (by decide +kernel) rfl rfl ?_
    refine Fr_aload_n (q := 0) (i := 0) 1 (by decide +kernel) rfl rfl ?_
    refine gf_X9_20 rfl (by decide +kernel) ob_2 ?_
    refine Fr_iload_n (q := 1) (i := 1) 2 (by decide +kernel) rfl rfl ?_
    obtain ⟨hi_4, h⟩ := ck_elim h
    refine Fr_iald (by decide +kernel) ob_9 (vp_of ln_9 hi_4) ?_
    refine Fr_icmp_le (off := 7) 26 (by decide +kernel) (by decide) (fun hc => ?_) (fun hc => ?_)
    · have h := iT hc h
      refine Fr_iconst (i := 0) (v := 0) (by decide +kernel) (by decide) ?_
      obtain rfl := Option.some.inj h
      exact Fr_iret (by decide +kernel) rfl ⟨rfl, rfl⟩
    · have h := iF hc h
      refine Fr_iconst (i := 4) (v := 4) (by decide +kernel) (by decide) ?_
      refine Fr_goto (off := 4) 27 (by decide +kernel) (by decide) ?_
      obtain rfl := Option.some.inj h
      exact Fr_iret (by decide +kernel) rfl ⟨rfl, rfl⟩
  · have h := iF hc h
    refine Fr_iload_n (q := 3) (i := 3) 0 (by decide +kernel) rfl rfl ?_
    obtain rfl := Option.some.inj h
    exact Fr_iret (by decide +kernel) rfl ⟨rfl, rfl⟩
set_option maxRecDepth 20000 in
theorem t_X9_hasRange {x1 : Int32} {x2 : Int32} {x3 : Int32} {M : Mem} {q : Bool × Mem} (h : f_X9_hasRange x1 x2 x3 M = some q) : Ev 0 111 0 m_X9_hasRange [.ref 2, .int x1, .int x2, .int x3] M (QB q) := by
  refine Ev_of_Fr (by decide +kernel) (Nat.le_of_ble_eq_true rfl) ?_
  show Fr 0 111 0 m_X9_hasRange 0 [(0, .ref 2), (1, .int x1), (2, .int x2), (3, .int x3)] [] M (QB q)
  unfold f_X9_hasRange at h
  refine Fr_iload_n (q := 2) (i := 2) 2 (by decide +kernel) rfl rfl ?_
  refine Fr_if_lt (off := 29) 30 (by decide +kernel) (by decide) (fun hc => ?_) (fun hc => ?_)
  · have h := iT hc h
    refine Fr_iconst (i := 0) (v := 0) (by decide +kernel) (by decide) ?_
    obtain rfl := Option.some.inj h
    exact Fr_zret (by decide +kernel) rfl (by decide) ⟨rfl, rfl⟩
  · have h := iF hc h
    refine Fr_iload_n (q := 3) (i := 3) 3 (by decide +kernel) rfl rfl ?_
    refine Fr_aload_n (q := 0) (i := 0) 0 (by decide +kernel) rfl rfl ?_
    refine gf_X9_20 rfl (by decide +kernel) ob_2 ?_
    refine Fr_iload_n (q := 1) (i := 1) 1 (by decide +kernel) rfl rfl ?_
    obtain ⟨hi_1, h⟩ := ck_elim h
    refine Fr_iald (by decide +kernel) ob_9 (vp_of ln_9 hi_1) ?_
    refine Fr_icmp_gt (off := 19) 30 (by decide +kernel) (by decide) (fun hc => ?_) (fun hc => ?_)
    · have h := iT hc h
      refine Fr_iconst (i := 0) (v := 0) (by decide +kernel) (by decide) ?_
      obtain rfl := Option.some.inj h
      exact Fr_zret (by decide +kernel) rfl (by decide) ⟨rfl, rfl⟩
    · have h := iF hc h
      refine Fr_iload_n (q := 2) (i := 2) 2 (by decide +kernel) rfl rfl ?_
      refine Fr_aload_n (q := 0) (i := 0) 0 (by decide +kernel) rfl rfl ?_
      refine gf_X9_20 rfl (by decide +kernel) ob_2 ?_
      refine Fr_iload_n (q := 1) (i := 1) 1 (by decide +kernel) rfl rfl ?_
      obtain ⟨hi_2, h⟩ := ck_elim h
      refine Fr_iald (by decide +kernel) ob_9 (vp_of ln_9 hi_2) ?_
      refine Fr_iload_n (q := 3) (i := 3) 3 (by decide +kernel) rfl rfl ?_
      refine Fr_isub (by decide +kernel) ?_
      refine Fr_icmp_gt (off := 7) 30 (by decide +kernel) (by decide) (fun hc => ?_) (fun hc => ?_)
      · have h := iT hc h
        refine Fr_iconst (i := 0) (v := 0) (by decide +kernel) (by decide) ?_
        obtain rfl := Option.some.inj h
        exact Fr_zret (by decide +kernel) rfl (by decide) ⟨rfl, rfl⟩
      · have h := iF hc h
        refine Fr_iconst (i := 1) (v := 1) (by decide +kernel) (by decide) ?_
        refine Fr_goto (off := 4) 31 (by decide +kernel) (by decide) ?_
        obtain rfl := Option.some.inj h
        exact Fr_zret (by decide +kernel) rfl (by decide) ⟨rfl, rfl⟩
set_option maxRecDepth 20000 in
theorem t_X9_codeOfPour {x1 : Int32} {x2 : Int32} {x3 : Int32} {x4 : Int32} {x5 : Int32} {M : Mem} {q : Int32 × Mem} (h : f_X9_codeOfPour x1 x2 x3 x4 x5 M = some q) : Ev 0 111 1 m_X9_codeOfPour [.ref 2, .int x1, .int x2, .int x3, .int x4, .int x5] M (QI q) := by
  refine Ev_of_Fr (by decide +kernel) (Nat.le_of_ble_eq_true rfl) ?_
  show Fr 0 111 1 m_X9_codeOfPour 0 [(0, .ref 2), (1, .int x1), (2, .int x2), (3, .int x3), (4, .int x4), (5, .int x5)] [] M (QI q)
  unfold f_X9_codeOfPour at h
  refine Fr_aload_n (q := 0) (i := 0) 0 (by decide +kernel) rfl rfl ?_
  refine Fr_iload_n (q := 1) (i := 1) 1 (by decide +kernel) rfl rfl ?_
  obtain ⟨r_3, M_1, hc_2, h⟩ := bi_elim h
  refine Fr_cVb (ν := m_X9_isTray) (As := [.int x1]) (st := []) (rc := 2) (ci := 9) (d' := 0) (by decide +kernel) ml_X9_36 cv_X9_isTray rfl (by decide) rfl ob_2 rfl (by decide) (Nat.le_of_ble_eq_true rfl) (t_X9_isTray hc_2) ?_
  refine Fr_if_eq (off := 11) 16 (by decide +kernel) (by decide) (fun hc => ?_) (fun hc => ?_)
  · have h := iT hc h
    refine Fr_iconst (i := 1) (v := 1) (by decide +kernel) (by decide) ?_
    obtain rfl := Option.some.inj h
    exact Fr_iret (by decide +kernel) rfl ⟨rfl, rfl⟩
  · have h := iF hc h
    refine Fr_aload_n (q := 0) (i := 0) 0 (by decide +kernel) rfl rfl ?_
    refine Fr_iload_n (q := 3) (i := 3) 3 (by decide +kernel) rfl rfl ?_
    obtain ⟨r_6, M_4, hc_5, h⟩ := bi_elim h
    refine Fr_cVb (ν := m_X9_isTray) (As := [.int x3]) (st := []) (rc := 2) (ci := 9) (d' := 0) (by decide +kernel) ml_X9_36 cv_X9_isTray rfl (by decide) rfl ob_2 rfl (by decide) (Nat.le_of_ble_eq_true rfl) (t_X9_isTray hc_5) ?_
    refine Fr_if_ne (off := 5) 18 (by decide +kernel) (by decide) (fun hc => ?_) (fun hc => ?_)
    · have h := iF hc h
      refine Fr_aload_n (q := 0) (i := 0) 0 (by decide +kernel) rfl rfl ?_
      refine gf_X9_20 rfl (by decide +kernel) ob_2 ?_
      refine Fr_iload_n (q := 1) (i := 1) 1 (by decide +kernel) rfl rfl ?_
      obtain ⟨hi_7, h⟩ := ck_elim h
      refine Fr_iald (by decide +kernel) ob_9 (vp_of ln_9 hi_7) ?_
      refine Fr_if_lt (off := 12) 36 (by decide +kernel) (by decide) (fun hc => ?_) (fun hc => ?_)
      · have h := iT hc h
        refine Fr_iconst (i := 3) (v := 3) (by decide +kernel) (by decide) ?_
        obtain rfl := Option.some.inj h
        exact Fr_iret (by decide +kernel) rfl ⟨rfl, rfl⟩
      · have h := iF hc h
        refine Fr_aload_n (q := 0) (i := 0) 0 (by decide +kernel) rfl rfl ?_
        refine gf_X9_20 rfl (by decide +kernel) ob_2 ?_
        refine Fr_iload_n (q := 3) (i := 3) 3 (by decide +kernel) rfl rfl ?_
        obtain ⟨hi_8, h⟩ := ck_elim h
        refine Fr_iald (by decide +kernel) ob_9 (vp_of ln_9 hi_8) ?_
        refine Fr_if_ge (off := 5) 38 (by decide +kernel) (by decide) (fun hc => ?_) (fun hc => ?_)
        · have h := iT hc h
          refine Fr_aload_n (q := 0) (i := 0) 0 (by decide +kernel) rfl rfl ?_
          refine gf_X9_16 rfl (by decide +kernel) ob_2 ?_
          refine Fr_iload_n (q := 1) (i := 1) 1 (by decide +kernel) rfl rfl ?_
          obtain ⟨hi_9, h⟩ := ck_elim h
          refine Fr_iald (by decide +kernel) ob_8 (vp_of ln_8 hi_9) ?_
          refine Fr_aload_n (q := 0) (i := 0) 0 (by decide +kernel) rfl rfl ?_
          refine gf_X9_16 rfl (by decide +kernel) ob_2 ?_
          refine Fr_iload_n (q := 3) (i := 3) 3 (by decide +kernel) rfl rfl ?_
          obtain ⟨hi_10, h⟩ := ck_elim h
          refine Fr_iald (by decide +kernel) ob_8 (vp_of ln_8 hi_10) ?_
          refine Fr_icmp_eq (off := 6) 56 (by decide +kernel) (by decide) (fun hc => ?_) (fun hc => ?_)
          · have h := iT hc h
            refine Fr_iload (i := 5) 5 (by decide +kernel) rfl ?_
            refine Fr_if_ge (off := 6) 64 (by decide +kernel) (by decide) (fun hc => ?_) (fun hc => ?_)
            · have h := iT hc h
              refine Fr_aload_n (q := 0) (i := 0) 0 (by decide +kernel) rfl rfl ?_
              refine Fr_iload_n (q := 1) (i := 1) 1 (by decide +kernel) rfl rfl ?_
              refine Fr_iload_n (q := 2) (i := 2) 2 (by decide +kernel) rfl rfl ?_
              refine Fr_iload (i := 5) 5 (by decide +kernel) rfl ?_
              obtain ⟨r_13, M_11, hc_12, h⟩ := bi_elim h
              refine Fr_cVb (ν := m_X9_hasRange) (As := [.int x1, .int x2, .int x5]) (st := []) (rc := 2) (ci := 9) (d' := 0) (by decide +kernel) ml_X9_44 cv_X9_hasRange rfl (by decide) rfl ob_2 rfl (by decide) (Nat.le_of_ble_eq_true rfl) (t_X9_hasRange hc_12) ?_
              refine Fr_if_eq (off := 19) 91 (by decide +kernel) (by decide) (fun hc => ?_) (fun hc => ?_)
              · have h := iT hc h
                refine Fr_iconst (i := 4) (v := 4) (by decide +kernel) (by decide) ?_
                obtain rfl := Option.some.inj h
                exact Fr_iret (by decide +kernel) rfl ⟨rfl, rfl⟩
              · have h := iF hc h
                refine Fr_aload_n (q := 0) (i := 0) 0 (by decide +kernel) rfl rfl ?_
                refine Fr_iload_n (q := 3) (i := 3) 3 (by decide +kernel) rfl rfl ?_
                refine Fr_iload (i := 4) 4 (by decide +kernel) rfl ?_
                refine Fr_iload (i := 5) 5 (by decide +kernel) rfl ?_
                obtain ⟨r_16, M_14, hc_15, h⟩ := bi_elim h
                refine Fr_cVb (ν := m_X9_hasRange) (As := [.int x3, .int x4, .int x5]) (st := []) (rc := 2) (ci := 9) (d' := 0) (by decide +kernel) ml_X9_44 cv_X9_hasRange rfl (by decide) rfl ob_2 rfl (by decide) (Nat.le_of_ble_eq_true rfl) (t_X9_hasRange hc_15) ?_
                refine Fr_if_eq (off := 7) 91 (by decide +kernel) (by decide) (fun hc => ?_) (fun hc => ?_)
                · have h := iT hc h
                  refine Fr_iconst (i := 4) (v := 4) (by decide +kernel) (by decide) ?_
                  obtain rfl := Option.some.inj h
                  exact Fr_iret (by decide +kernel) rfl ⟨rfl, rfl⟩
                · have h := iF hc h
                  refine Fr_iconst (i := 0) (v := 0) (by decide +kernel) (by decide) ?_
                  refine Fr_goto (off := 4) 92 (by decide +kernel) (by decide) ?_
                  obtain rfl := Option.some.inj h
                  exact Fr_iret (by decide +kernel) rfl ⟨rfl, rfl⟩
            · have h := iF hc h
              refine Fr_bipush (i := 6) (v := 6) (by decide +kernel) (by decide) ?_
              obtain rfl := Option.some.inj h
              exact Fr_iret (by decide +kernel) rfl ⟨rfl, rfl⟩
          · have h := iF hc h
            refine Fr_bipush (i := 11) (v := 11) (by decide +kernel) (by decide) ?_
            obtain rfl := Option.some.inj h
            exact Fr_iret (by decide +kernel) rfl ⟨rfl, rfl⟩
        · have h := iF hc h
          refine Fr_iconst (i := 3) (v := 3) (by decide +kernel) (by decide) ?_
          obtain rfl := Option.some.inj h
          exact Fr_iret (by decide +kernel) rfl ⟨rfl, rfl⟩
    · have h := iT hc h
      refine Fr_iconst (i := 1) (v := 1) (by decide +kernel) (by decide) ?_
      obtain rfl := Option.some.inj h
      exact Fr_iret (by decide +kernel) rfl ⟨rfl, rfl⟩
set_option maxRecDepth 20000 in
theorem t_X11_status {M : Mem} {q : Int32 × Mem} (h : f_X11_status M = some q) : Ev 0 111 0 m_X11_status [.ref 0] M (QI q) := by
  refine Ev_of_Fr (by decide +kernel) (Nat.le_of_ble_eq_true rfl) ?_
  show Fr 0 111 0 m_X11_status 0 [(0, .ref 0)] [] M (QI q)
  unfold f_X11_status at h
  refine Fr_aload_n (q := 0) (i := 0) 0 (by decide +kernel) rfl rfl ?_
  refine gf_X11_7 rfl (by decide +kernel) ob_0 ?_
  obtain rfl := Option.some.inj h
  exact Fr_iret (by decide +kernel) rfl ⟨rfl, rfl⟩
set_option maxRecDepth 20000 in
theorem t_X11_top {M : Mem} {q : Int64 × Mem} (h : f_X11_top M = some q) : Ev 0 111 0 m_X11_top [.ref 0] M (QJ q) := by
  refine Ev_of_Fr (by decide +kernel) (Nat.le_of_ble_eq_true rfl) ?_
  show Fr 0 111 0 m_X11_top 0 [(0, .ref 0)] [] M (QJ q)
  unfold f_X11_top at h
  refine Fr_aload_n (q := 0) (i := 0) 0 (by decide +kernel) rfl rfl ?_
  refine gf_X11_13 rfl (by decide +kernel) ob_0 ?_
  obtain rfl := Option.some.inj h
  exact Fr_lret (by decide +kernel) rfl ⟨rfl, rfl⟩
set_option maxRecDepth 20000 in
theorem t_X11_bottom {M : Mem} {q : Int64 × Mem} (h : f_X11_bottom M = some q) : Ev 0 111 0 m_X11_bottom [.ref 0] M (QJ q) := by
  refine Ev_of_Fr (by decide +kernel) (Nat.le_of_ble_eq_true rfl) ?_
  show Fr 0 111 0 m_X11_bottom 0 [(0, .ref 0)] [] M (QJ q)
  unfold f_X11_bottom at h
  refine Fr_aload_n (q := 0) (i := 0) 0 (by decide +kernel) rfl rfl ?_
  refine gf_X11_17 rfl (by decide +kernel) ob_0 ?_
  obtain rfl := Option.some.inj h
  exact Fr_lret (by decide +kernel) rfl ⟨rfl, rfl⟩
set_option maxRecDepth 20000 in
theorem t_X11_refusedFlag {x1 : Int32} {M : Mem} {q : Bool × Mem} (h : f_X11_refusedFlag x1 M = some q) : Ev 0 111 0 m_X11_refusedFlag [.ref 0, .int x1] M (QB q) := by
  refine Ev_of_Fr (by decide +kernel) (Nat.le_of_ble_eq_true rfl) ?_
  show Fr 0 111 0 m_X11_refusedFlag 0 [(0, .ref 0), (1, .int x1)] [] M (QB q)
  unfold f_X11_refusedFlag at h
  refine Fr_aload_n (q := 0) (i := 0) 0 (by decide +kernel) rfl rfl ?_
  refine Fr_iload_n (q := 1) (i := 1) 1 (by decide +kernel) rfl rfl ?_
  refine pf_X11_7 rfl (by decide +kernel) ob_0 ?_
  obtain ⟨M_1, eM_1, h⟩ := bM_elim h
  refine Fr_mem eM_1 ?_
  refine Fr_iconst (i := 0) (v := 0) (by decide +kernel) (by decide) ?_
  obtain rfl := Option.some.inj h
  exact Fr_zret (by decide +kernel) rfl (by decide) ⟨rfl, rfl⟩
set_option maxRecDepth 20000 in
theorem t_X11_granted {M : Mem} {q : Bool × Mem} (h : f_X11_granted M = some q) : Ev 0 111 0 m_X11_granted [.ref 0] M (QB q) := by
  refine Ev_of_Fr (by decide +kernel) (Nat.le_of_ble_eq_true rfl) ?_
  show Fr 0 111 0 m_X11_granted 0 [(0, .ref 0)] [] M (QB q)
  unfold f_X11_granted at h
  refine Fr_aload_n (q := 0) (i := 0) 0 (by decide +kernel) rfl rfl ?_
  refine Fr_iconst (i := 0) (v := 0) (by decide +kernel) (by decide) ?_
  refine pf_X11_7 rfl (by decide +kernel) ob_0 ?_
  obtain ⟨M_1, eM_1, h⟩ := bM_elim h
  refine Fr_mem eM_1 ?_
  refine Fr_iconst (i := 1) (v := 1) (by decide +kernel) (by decide) ?_
  obtain rfl := Option.some.inj h
  exact Fr_zret (by decide +kernel) rfl (by decide) ⟨rfl, rfl⟩
set_option maxRecDepth 20000 in
theorem t_X11_tray {N : Nat} {x1 : Int32} {x2 : Int32} {x3 : Int32} {M : Mem} {q : Bool × Mem} (h : f_X11_tray N x1 x2 x3 M = some q) : Ev 0 111 2 m_X11_tray [.ref 0, .int x1, .int x2, .int x3] M (QB q) := by
  refine Ev_of_Fr (by decide +kernel) (Nat.le_of_ble_eq_true rfl) ?_
  show Fr 0 111 2 m_X11_tray 0 [(0, .ref 0), (1, .int x1), (2, .int x2), (3, .int x3)] [] M (QB q)
  unfold f_X11_tray at h
  refine Fr_aload_n (q := 0) (i := 0) 0 (by decide +kernel) rfl rfl ?_
  refine gf_X11_27 rfl (by decide +kernel) ob_0 ?_
  refine Fr_iload_n (q := 1) (i := 1) 1 (by decide +kernel) rfl rfl ?_
  obtain ⟨r_3, M_1, hc_2, h⟩ := bi_elim h
  refine Fr_cVb (ν := m_X9_isTray) (As := [.int x1]) (st := []) (rc := 2) (ci := 9) (d' := 0) (by decide +kernel) ml_X11_117 cv_X9_isTray rfl (by decide) rfl ob_2 rfl (by decide) (Nat.le_of_ble_eq_true rfl) (t_X9_isTray hc_2) ?_
  refine Fr_if_eq (off := 12) 20 (by decide +kernel) (by decide) (fun hc => ?_) (fun hc => ?_)
  · have h := iT hc h
    refine Fr_aload_n (q := 0) (i := 0) 0 (by decide +kernel) rfl rfl ?_
    refine Fr_iconst (i := 1) (v := 1) (by decide +kernel) (by decide) ?_
    obtain ⟨r_6, M_4, hc_5, h⟩ := bi_elim h
    refine Fr_cVb (ν := m_X11_refusedFlag) (As := [.int 1]) (st := []) (rc := 0) (ci := 11) (d' := 0) (by decide +kernel) ml_X11_121 cv_X11_refusedFlag rfl (by decide) rfl ob_0 rfl (by decide) (Nat.le_of_ble_eq_true rfl) (t_X11_refusedFlag hc_5) ?_
    obtain rfl := Option.some.inj h
    exact Fr_zret (by decide +kernel) rfl (nz_b r_6) ⟨rfl, rfl⟩
  · have h := iF hc h
    refine Fr_iload_n (q := 2) (i := 2) 2 (by decide +kernel) rfl rfl ?_
    refine Fr_if_lt (off := 8) 20 (by decide +kernel) (by decide) (fun hc => ?_) (fun hc => ?_)
    · have h := iT hc h
      refine Fr_aload_n (q := 0) (i := 0) 0 (by decide +kernel) rfl rfl ?_
      refine Fr_iconst (i := 1) (v := 1) (by decide +kernel) (by decide) ?_
      obtain ⟨r_9, M_7, hc_8, h⟩ := bi_elim h
      refine Fr_cVb (ν := m_X11_refusedFlag) (As := [.int 1]) (st := []) (rc := 0) (ci := 11) (d' := 0) (by decide +kernel) ml_X11_121 cv_X11_refusedFlag rfl (by decide) rfl ob_0 rfl (by decide) (Nat.le_of_ble_eq_true rfl) (t_X11_refusedFlag hc_8) ?_
      obtain rfl := Option.some.inj h
      exact Fr_zret (by decide +kernel) rfl (nz_b r_9) ⟨rfl, rfl⟩
    · have h := iF hc h
      refine Fr_iload_n (q := 2) (i := 2) 2 (by decide +kernel) rfl rfl ?_
      refine Fr_iconst (i := 3) (v := 3) (by decide +kernel) (by decide) ?_
      refine Fr_icmp_le (off := 9) 26 (by decide +kernel) (by decide) (fun hc => ?_) (fun hc => ?_)
      · have h := iT hc h
        refine Fr_iload_n (q := 3) (i := 3) 3 (by decide +kernel) rfl rfl ?_
        refine Fr_bipush (i := 60) (v := 60) (by decide +kernel) (by decide) ?_
        refine Fr_icmp_le (off := 9) 38 (by decide +kernel) (by decide) (fun hc => ?_) (fun hc => ?_)
        · have h := iT hc h
          refine Fr_iload_n (q := 3) (i := 3) 3 (by decide +kernel) rfl rfl ?_
          refine Fr_if_ge (off := 10) 49 (by decide +kernel) (by decide) (fun hc => ?_) (fun hc => ?_)
          · have h := iT hc h
            refine Fr_aload_n (q := 0) (i := 0) 0 (by decide +kernel) rfl rfl ?_
            refine gf_X11_27 rfl (by decide +kernel) ob_0 ?_
            refine Fr_iload_n (q := 1) (i := 1) 1 (by decide +kernel) rfl rfl ?_
            refine Fr_iload_n (q := 2) (i := 2) 2 (by decide +kernel) rfl rfl ?_
            refine Fr_iload_n (q := 3) (i := 3) 3 (by decide +kernel) rfl rfl ?_
            obtain ⟨M_10, hc_11, h⟩ := bv_elim h
            refine Fr_cVv (ν := m_X9_make) (As := [.int x1, .int x2, .int x3]) (st := []) (rc := 2) (ci := 9) (d' := 1) (by decide +kernel) ml_X11_124 cv_X9_make rfl (by decide) rfl ob_2 rfl (by decide) (Nat.le_of_ble_eq_true rfl) (t_X9_make hc_11) ?_
            refine Fr_aload_n (q := 0) (i := 0) 0 (by decide +kernel) rfl rfl ?_
            obtain ⟨r_14, M_12, hc_13, h⟩ := bi_elim h
            refine Fr_cVb (ν := m_X11_granted) (As := []) (st := []) (rc := 0) (ci := 11) (d' := 0) (by decide +kernel) ml_X11_128 cv_X11_granted rfl (by decide) rfl ob_0 rfl (by decide) (Nat.le_of_ble_eq_true rfl) (t_X11_granted hc_13) ?_
            obtain rfl := Option.some.inj h
            exact Fr_zret (by decide +kernel) rfl (nz_b r_14) ⟨rfl, rfl⟩
          · have h := iF hc h
            refine Fr_aload_n (q := 0) (i := 0) 0 (by decide +kernel) rfl rfl ?_
            refine Fr_bipush (i := 6) (v := 6) (by decide +kernel) (by decide) ?_
            obtain ⟨r_17, M_15, hc_16, h⟩ := bi_elim h
            refine Fr_cVb (ν := m_X11_refusedFlag) (As := [.int 6]) (st := []) (rc := 0) (ci := 11) (d' := 0) (by decide +kernel) ml_X11_121 cv_X11_refusedFlag rfl (by decide) rfl ob_0 rfl (by decide) (Nat.le_of_ble_eq_true rfl) (t_X11_refusedFlag hc_16) ?_
            obtain rfl := Option.some.inj h
            exact Fr_zret (by decide +kernel) rfl (nz_b r_17) ⟨rfl, rfl⟩
        · have h := iF hc h
          refine Fr_aload_n (q := 0) (i := 0) 0 (by decide +kernel) rfl rfl ?_
          refine Fr_iconst (i := 5) (v := 5) (by decide +kernel) (by decide) ?_
          obtain ⟨r_20, M_18, hc_19, h⟩ := bi_elim h
          refine Fr_cVb (ν := m_X11_refusedFlag) (As := [.int 5]) (st := []) (rc := 0) (ci := 11) (d' := 0) (by decide +kernel) ml_X11_121 cv_X11_refusedFlag rfl (by decide) rfl ob_0 rfl (by decide) (Nat.le_of_ble_eq_true rfl) (t_X11_refusedFlag hc_19) ?_
          obtain rfl := Option.some.inj h
          exact Fr_zret (by decide +kernel) rfl (nz_b r_20) ⟨rfl, rfl⟩
      · have h := iF hc h
        refine Fr_aload_n (q := 0) (i := 0) 0 (by decide +kernel) rfl rfl ?_
        refine Fr_iconst (i := 1) (v := 1) (by decide +kernel) (by decide) ?_
        obtain ⟨r_23, M_21, hc_22, h⟩ := bi_elim h
        refine Fr_cVb (ν := m_X11_refusedFlag) (As := [.int 1]) (st := []) (rc := 0) (ci := 11) (d' := 0) (by decide +kernel) ml_X11_121 cv_X11_refusedFlag rfl (by decide) rfl ob_0 rfl (by decide) (Nat.le_of_ble_eq_true rfl) (t_X11_refusedFlag hc_22) ?_
        obtain rfl := Option.some.inj h
        exact Fr_zret (by decide +kernel) rfl (nz_b r_23) ⟨rfl, rfl⟩
set_option maxRecDepth 20000 in
theorem t_X11_write {x1 : Int32} {x2 : Int32} {x3 : Int64} {M : Mem} {q : Bool × Mem} (h : f_X11_write x1 x2 x3 M = some q) : Ev 0 111 3 m_X11_write [.ref 0, .int x1, .int x2, .long x3] M (QB q) := by
  refine Ev_of_Fr (by decide +kernel) (Nat.le_of_ble_eq_true rfl) ?_
  show Fr 0 111 3 m_X11_write 0 [(0, .ref 0), (1, .int x1), (2, .int x2), (3, .long x3)] [] M (QB q)
  unfold f_X11_write at h
  refine Fr_aload_n (q := 0) (i := 0) 0 (by decide +kernel) rfl rfl ?_
  refine gf_X11_27 rfl (by decide +kernel) ob_0 ?_
  refine Fr_iload_n (q := 1) (i := 1) 1 (by decide +kernel) rfl rfl ?_
  refine Fr_iload_n (q := 2) (i := 2) 2 (by decide +kernel) rfl rfl ?_
  obtain ⟨r_3, M_1, hc_2, h⟩ := bi_elim h
  refine Fr_cVi (ν := m_X9_codeOfPlace) (As := [.int x1, .int x2]) (st := []) (rc := 2) (ci := 9) (d' := 2) (by decide +kernel) ml_X11_132 cv_X9_codeOfPlace rfl (by decide) rfl ob_2 rfl (by decide) (Nat.le_of_ble_eq_true rfl) (t_X9_codeOfPlace hc_2) ?_
  refine Fr_istore (i := 5) (lv' := [(5, .int r_3), (0, .ref 0), (1, .int x1), (2, .int x2), (3, .long x3)]) (by decide +kernel) (by decide) rfl ?_
  refine Fr_iload (i := 5) 0 (by decide +kernel) rfl ?_
  refine Fr_if_eq (off := 10) 23 (by decide +kernel) (by decide) (fun hc => ?_) (fun hc => ?_)
  · have h := iT hc h
    refine Fr_aload_n (q := 0) (i := 0) 1 (by decide +kernel) rfl rfl ?_
    refine gf_X11_27 rfl (by decide +kernel) ob_0 ?_
    refine Fr_iload_n (q := 1) (i := 1) 2 (by decide +kernel) rfl rfl ?_
    refine Fr_iload_n (q := 2) (i := 2) 3 (by decide +kernel) rfl rfl ?_
    refine Fr_lload_n (q := 3) (i := 3) 4 (by decide +kernel) rfl rfl ?_
    obtain ⟨M_4, hc_5, h⟩ := bv_elim h
    refine Fr_cVv (ν := m_X9_put) (As := [.int x1, .int x2, .long x3]) (st := []) (rc := 2) (ci := 9) (d' := 1) (by decide +kernel) ml_X11_136 cv_X9_put rfl (by decide) rfl ob_2 rfl (by decide) (Nat.le_of_ble_eq_true rfl) (t_X9_put hc_5) ?_
    refine Fr_aload_n (q := 0) (i := 0) 1 (by decide +kernel) rfl rfl ?_
    obtain ⟨r_8, M_6, hc_7, h⟩ := bi_elim h
    refine Fr_cVb (ν := m_X11_granted) (As := []) (st := []) (rc := 0) (ci := 11) (d' := 0) (by decide +kernel) ml_X11_128 cv_X11_granted rfl (by decide) rfl ob_0 rfl (by decide) (Nat.le_of_ble_eq_true rfl) (t_X11_granted hc_7) ?_
    obtain rfl := Option.some.inj h
    exact Fr_zret (by decide +kernel) rfl (nz_b r_8) ⟨rfl, rfl⟩
  · have h := iF hc h
    refine Fr_aload_n (q := 0) (i := 0) 1 (by decide +kernel) rfl rfl ?_
    refine Fr_iload (i := 5) 0 (by decide +kernel) rfl ?_
    obtain ⟨r_11, M_9, hc_10, h⟩ := bi_elim h
    refine Fr_cVb (ν := m_X11_refusedFlag) (As := [.int r_3]) (st := []) (rc := 0) (ci := 11) (d' := 0) (by decide +kernel) ml_X11_121 cv_X11_refusedFlag rfl (by decide) rfl ob_0 rfl (by decide) (Nat.le_of_ble_eq_true rfl) (t_X11_refusedFlag hc_10) ?_
    obtain rfl := Option.some.inj h
    exact Fr_zret (by decide +kernel) rfl (nz_b r_11) ⟨rfl, rfl⟩
set_option maxRecDepth 20000 in
theorem t_X11_refused {x1 : Int32} {M : Mem} {q : Int32 × Mem} (h : f_X11_refused x1 M = some q) : Ev 0 111 0 m_X11_refused [.ref 0, .int x1] M (QI q) := by
  refine Ev_of_Fr (by decide +kernel) (Nat.le_of_ble_eq_true rfl) ?_
  show Fr 0 111 0 m_X11_refused 0 [(0, .ref 0), (1, .int x1)] [] M (QI q)
  unfold f_X11_refused at h
  refine Fr_aload_n (q := 0) (i := 0) 0 (by decide +kernel) rfl rfl ?_
  refine Fr_iload_n (q := 1) (i := 1) 1 (by decide +kernel) rfl rfl ?_
  refine pf_X11_7 rfl (by decide +kernel) ob_0 ?_
  obtain ⟨M_1, eM_1, h⟩ := bM_elim h
  refine Fr_mem eM_1 ?_
  refine Fr_iconst (i := (-1)) (v := (-1)) (by decide +kernel) (by decide) ?_
  obtain rfl := Option.some.inj h
  exact Fr_iret (by decide +kernel) rfl ⟨rfl, rfl⟩
set_option maxRecDepth 20000 in
theorem t_X11_read {x1 : Int32} {x2 : Int32} {M : Mem} {q : Int64 × Mem} (h : f_X11_read x1 x2 M = some q) : Ev 0 111 3 m_X11_read [.ref 0, .int x1, .int x2] M (QJ q) := by
  refine Ev_of_Fr (by decide +kernel) (Nat.le_of_ble_eq_true rfl) ?_
  show Fr 0 111 3 m_X11_read 0 [(0, .ref 0), (1, .int x1), (2, .int x2)] [] M (QJ q)
  unfold f_X11_read at h
  refine Fr_aload_n (q := 0) (i := 0) 0 (by decide +kernel) rfl rfl ?_
  refine gf_X11_27 rfl (by decide +kernel) ob_0 ?_
  refine Fr_iload_n (q := 1) (i := 1) 1 (by decide +kernel) rfl rfl ?_
  refine Fr_iload_n (q := 2) (i := 2) 2 (by decide +kernel) rfl rfl ?_
  obtain ⟨r_3, M_1, hc_2, h⟩ := bi_elim h
  refine Fr_cVi (ν := m_X9_codeOfPlace) (As := [.int x1, .int x2]) (st := []) (rc := 2) (ci := 9) (d' := 2) (by decide +kernel) ml_X11_132 cv_X9_codeOfPlace rfl (by decide) rfl ob_2 rfl (by decide) (Nat.le_of_ble_eq_true rfl) (t_X9_codeOfPlace hc_2) ?_
  refine Fr_istore_n (q := 3) (i := 3) (lv' := [(3, .int r_3), (0, .ref 0), (1, .int x1), (2, .int x2)]) (by decide +kernel) rfl (by decide) rfl ?_
  refine Fr_iload_n (q := 3) (i := 3) 0 (by decide +kernel) rfl rfl ?_
  refine Fr_if_eq (off := 10) 21 (by decide +kernel) (by decide) (fun hc => ?_) (fun hc => ?_)
  · have h := iT hc h
    refine Fr_aload_n (q := 0) (i := 0) 1 (by decide +kernel) rfl rfl ?_
    refine Fr_iconst (i := 0) (v := 0) (by decide +kernel) (by decide) ?_
    refine pf_X11_7 rfl (by decide +kernel) ob_0 ?_
    obtain ⟨M_4, eM_4, h⟩ := bM_elim h
    refine Fr_mem eM_4 ?_
    refine Fr_aload_n (q := 0) (i := 0) 1 (by decide +kernel) rfl rfl ?_
    refine gf_X11_27 rfl (by decide +kernel) ob_0 ?_
    refine gf_X11_144 rfl (by decide +kernel) ob_2 ?_
    refine Fr_iload_n (q := 1) (i := 1) 2 (by decide +kernel) rfl rfl ?_
    obtain ⟨hi_5, h⟩ := ck_elim h
    refine Fr_aald (by decide +kernel) ob_3 (by decide) (vp_of ln_3 hi_5) (ra3 hi_5) ?_
    refine Fr_iload_n (q := 2) (i := 2) 3 (by decide +kernel) rfl rfl ?_
    obtain ⟨hi_6, h⟩ := ck_elim h
    refine Fr_lald (by decide +kernel) (oa3 hi_5) (vp_of (na3 hi_5) hi_6) ?_
    obtain rfl := Option.some.inj h
    exact Fr_lret (by decide +kernel) rfl ⟨rfl, rfl⟩
  · have h := iF hc h
    refine Fr_aload_n (q := 0) (i := 0) 1 (by decide +kernel) rfl rfl ?_
    refine Fr_iload_n (q := 3) (i := 3) 0 (by decide +kernel) rfl rfl ?_
    obtain ⟨r_9, M_7, hc_8, h⟩ := bi_elim h
    refine Fr_cVi (ν := m_X11_refused) (As := [.int r_3]) (st := []) (rc := 0) (ci := 11) (d' := 0) (by decide +kernel) ml_X11_140 cv_X11_refused rfl (by decide) rfl ob_0 rfl (by decide) (Nat.le_of_ble_eq_true rfl) (t_X11_refused hc_8) ?_
    refine Fr_i2l (by decide +kernel) ?_
    obtain rfl := Option.some.inj h
    exact Fr_lret (by decide +kernel) rfl ⟨rfl, rfl⟩
