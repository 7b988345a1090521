set_option maxRecDepth 20000 in
theorem t_X12_mean_h118 {N : Nat} {q : Bool × Mem} {k93 : Int32 × Int32 × Int64 × Int32 → Mem → Option (Bool × Mem)} (hk93 : ∀ (a : Int32 × Int32 × Int64 × Int32) (M : Mem), k93 a M = some q → Fr 200 21 50 m_X12_mean 93 [(0, .ref 200), (1, .int a.1), (2, .int a.2.1), (3, .long a.2.2.1), (5, .int a.2.2.2)] [] M (QB q)) {k118 : Int32 × Int32 × Int64 × Int32 × Int32 → Mem → Option (Bool × Mem)} (hk118 : ∀ (a : Int32 × Int32 × Int64 × Int32 × Int32) (M : Mem), k118 a M = some q → Fr 200 21 50 m_X12_mean 118 [(0, .ref 200), (1, .int a.1), (2, .int a.2.1), (3, .long a.2.2.1), (5, .int a.2.2.2.1), (6, .int a.2.2.2.2)] [] M (QB q)) {v1 : Int32} {v2 : Int32} {v3 : Int64} {v5 : Int32} {v6 : Int32} {M : Mem} (h : f_X12_mean_h118 N k93 k118 v1 v2 v3 v5 v6 M = some q) : Fr 200 21 50 m_X12_mean 118 [(0, .ref 200), (1, .int v1), (2, .int v2), (3, .long v3), (5, .int v5), (6, .int v6)] [] M (QB q) := by
  unfold f_X12_mean_h118 at h
  refine Fr_iload (i := 6) 5 (by decide +kernel) rfl ?_
  refine Fr_sipush (i := 163) (v := 163) (by decide +kernel) (by decide) ?_
  refine Fr_icmp_ge (off := 23) 146 (by decide +kernel) (by decide) (fun hc => ?_) (fun hc => ?_)
  · have h := iT hc h
    refine Fr_iinc (i := 5) (j := 1) (v := (v5 + 1)) (lv' := [(5, .int (v5 + 1)), (0, .ref 200), (1, .int v1), (2, .int v2), (3, .long v3), (6, .int v6)]) 4 (by decide +kernel) rfl rfl (by decide) rfl ?_
    refine Fr_goto (off := (-56)) 93 (by decide +kernel) (by decide) ?_
    refine Fr_loc [1, 2, 3, 4, 0] rfl ?_
    exact hk93 (v1, v2, v3, (v5 + 1)) M h
  · have h := iF hc h
    refine Fr_aload_n (q := 0) (i := 0) 0 (by decide +kernel) rfl rfl ?_
    refine gf_X12_35 rfl (by decide +kernel) ob_200 ?_
    refine Fr_iload (i := 6) 5 (by decide +kernel) rfl ?_
    refine Fr_aload_n (q := 0) (i := 0) 0 (by decide +kernel) rfl rfl ?_
    refine gf_X12_81 rfl (by decide +kernel) ob_200 ?_
    refine Fr_iload (i := 6) 5 (by decide +kernel) rfl ?_
    obtain ⟨hi_22, h⟩ := ck_elim h
    refine Fr_iald (by decide +kernel) ob_220 (vp_of ln_220 hi_22) ?_
    obtain ⟨hi_23, h⟩ := ck_elim h
    refine Fr_iast (by decide +kernel) ob_205 (vp_of ln_205 hi_23) ?_
    obtain ⟨M_24, eM_24, h⟩ := bM_elim h
    refine Fr_mem eM_24 ?_
    refine Fr_iinc (i := 6) (j := 1) (v := (v6 + 1)) (lv' := [(6, .int (v6 + 1)), (0, .ref 200), (1, .int v1), (2, .int v2), (3, .long v3), (5, .int v5)]) 5 (by decide +kernel) rfl rfl (by decide) rfl ?_
    refine Fr_goto (off := (-25)) 118 (by decide +kernel) (by decide) ?_
    refine Fr_loc [1, 2, 3, 4, 5, 0] rfl ?_
    exact hk118 (v1, v2, v3, v5, (v6 + 1)) M_24 h
set_option maxRecDepth 20000 in
theorem t_X12_mean_h93 {N : Nat} {q : Bool × Mem} {k93 : Int32 × Int32 × Int64 × Int32 → Mem → Option (Bool × Mem)} (hk93 : ∀ (a : Int32 × Int32 × Int64 × Int32) (M : Mem), k93 a M = some q → Fr 200 21 50 m_X12_mean 93 [(0, .ref 200), (1, .int a.1), (2, .int a.2.1), (3, .long a.2.2.1), (5, .int a.2.2.2)] [] M (QB q)) {v1 : Int32} {v2 : Int32} {v3 : Int64} {v5 : Int32} {M : Mem} (h : f_X12_mean_h93 N k93 v1 v2 v3 v5 M = some q) : Fr 200 21 50 m_X12_mean 93 [(0, .ref 200), (1, .int v1), (2, .int v2), (3, .long v3), (5, .int v5)] [] M (QB q) := by
  unfold f_X12_mean_h93 at h
  refine Fr_iload (i := 5) 4 (by decide +kernel) rfl ?_
  refine Fr_iload_n (q := 2) (i := 2) 2 (by decide +kernel) rfl rfl ?_
  refine Fr_icmp_ge (off := 56) 152 (by decide +kernel) (by decide) (fun hc => ?_) (fun hc => ?_)
  · have h := iT hc h
    refine Fr_aload_n (q := 0) (i := 0) 0 (by decide +kernel) rfl rfl ?_
    refine Fr_lload_n (q := 3) (i := 3) 3 (by decide +kernel) rfl rfl ?_
    refine Fr_iload_n (q := 2) (i := 2) 2 (by decide +kernel) rfl rfl ?_
    refine Fr_i2l (by decide +kernel) ?_
    obtain ⟨r_15, M_13, hc_14, h⟩ := bi_elim h
    refine Fr_cVb (ν := m_X12_fraction) (As := [.long v3, .long (Int32.toInt64 v2)]) (st := []) (rc := 200) (ci := 12) (d' := 1) (by decide +kernel) ml_X12_508 cv_X12_fraction rfl (by decide) rfl ob_200 rfl (by decide) (Nat.le_of_ble_eq_true rfl) (t_X12_fraction hc_14) ?_
    obtain rfl := Option.some.inj h
    exact Fr_zret (by decide +kernel) rfl (nz_b r_15) ⟨rfl, rfl⟩
  · have h := iF hc h
    refine Fr_aload_n (q := 0) (i := 0) 0 (by decide +kernel) rfl rfl ?_
    refine Fr_iload_n (q := 1) (i := 1) 1 (by decide +kernel) rfl rfl ?_
    refine Fr_iload (i := 5) 4 (by decide +kernel) rfl ?_
    refine Fr_iadd (by decide +kernel) ?_
    obtain ⟨M_16, hc_17, h⟩ := bv_elim h
    refine Fr_cVv (ν := m_X12_runsNights) (As := [.int (v1 + v5)]) (st := []) (rc := 200) (ci := 12) (d' := 49) (by decide +kernel) ml_X12_587 cv_X12_runsNights rfl (by decide) rfl ob_200 rfl (by decide) (Nat.le_of_ble_eq_true rfl) (t_X12_runsNights hc_17) ?_
    refine Fr_lload_n (q := 3) (i := 3) 3 (by decide +kernel) rfl rfl ?_
    refine Fr_aload_n (q := 0) (i := 0) 0 (by decide +kernel) rfl rfl ?_
    obtain ⟨r_20, M_18, hc_19, h⟩ := bi_elim h
    refine Fr_cVi (ν := m_X12_foggyMany) (As := []) (st := [.long v3]) (rc := 200) (ci := 12) (d' := 2) (by decide +kernel) ml_X12_377 cv_X12_foggyMany rfl (by decide) rfl ob_200 rfl (by decide) (Nat.le_of_ble_eq_true rfl) (t_X12_foggyMany hc_19) ?_
    refine Fr_i2l (by decide +kernel) ?_
    refine Fr_ladd (by decide +kernel) ?_
    obtain ⟨y_21, ey_21, h⟩ := bL_elim h
    refine Fr_topL ey_21 ?_
    refine Fr_lstore_n (q := 3) (i := 3) (lv' := [(3, .long y_21), (0, .ref 200), (1, .int v1), (2, .int v2), (5, .int v5)]) (by decide +kernel) rfl (by decide) rfl ?_
    refine Fr_iconst (i := 0) (v := 0) (by decide +kernel) (by decide) ?_
    refine Fr_istore (i := 6) (lv' := [(6, .int 0), (3, .long y_21), (0, .ref 200), (1, .int v1), (2, .int v2), (5, .int v5)]) (by decide +kernel) (by decide) rfl ?_
    refine Fr_loc [2, 3, 4, 1, 5, 0] rfl ?_
    exact lp_sound (P := fun a M => Fr 200 21 50 m_X12_mean 118 [(0, .ref 200), (1, .int a.1), (2, .int a.2.1), (3, .long a.2.2.1), (5, .int a.2.2.2.1), (6, .int a.2.2.2.2)] [] M (QB q)) (fun k hk a m h => t_X12_mean_h118 hk93 hk h) N (v1, v2, y_21, v5, 0) M_18 h
set_option maxRecDepth 20000 in
theorem t_X12_mean_h63 {N : Nat} {q : Bool × Mem} {k63 : Int32 × Int32 × Int32 → Mem → Option (Bool × Mem)} (hk63 : ∀ (a : Int32 × Int32 × Int32) (M : Mem), k63 a M = some q → Fr 200 21 50 m_X12_mean 63 [(0, .ref 200), (1, .int a.1), (2, .int a.2.1), (3, .int a.2.2)] [] M (QB q)) {v1 : Int32} {v2 : Int32} {v3 : Int32} {M : Mem} (h : f_X12_mean_h63 N k63 v1 v2 v3 M = some q) : Fr 200 21 50 m_X12_mean 63 [(0, .ref 200), (1, .int v1), (2, .int v2), (3, .int v3)] [] M (QB q) := by
  unfold f_X12_mean_h63 at h
  refine Fr_iload_n (q := 3) (i := 3) 3 (by decide +kernel) rfl rfl ?_
  refine Fr_sipush (i := 163) (v := 163) (by decide +kernel) (by decide) ?_
  refine Fr_icmp_ge (off := 21) 88 (by decide +kernel) (by decide) (fun hc => ?_) (fun hc => ?_)
  · have h := iT hc h
    refine Fr_lconst (i := 0) (v := 0) (by decide +kernel) (by decide) ?_
    refine Fr_lstore_n (q := 3) (i := 3) (lv' := [(3, .long 0), (0, .ref 200), (1, .int v1), (2, .int v2)]) (by decide +kernel) rfl (by decide) rfl ?_
    refine Fr_iconst (i := 0) (v := 0) (by decide +kernel) (by decide) ?_
    refine Fr_istore (i := 5) (lv' := [(5, .int 0), (3, .long 0), (0, .ref 200), (1, .int v1), (2, .int v2)]) (by decide +kernel) (by decide) rfl ?_
    refine Fr_loc [2, 3, 4, 1, 0] rfl ?_
    exact lp_sound (P := fun a M => Fr 200 21 50 m_X12_mean 93 [(0, .ref 200), (1, .int a.1), (2, .int a.2.1), (3, .long a.2.2.1), (5, .int a.2.2.2)] [] M (QB q)) (fun k hk a m h => t_X12_mean_h93 hk h) N (v1, v2, 0, 0) M h
  · have h := iF hc h
    refine Fr_aload_n (q := 0) (i := 0) 0 (by decide +kernel) rfl rfl ?_
    refine gf_X12_81 rfl (by decide +kernel) ob_200 ?_
    refine Fr_iload_n (q := 3) (i := 3) 3 (by decide +kernel) rfl rfl ?_
    refine Fr_aload_n (q := 0) (i := 0) 0 (by decide +kernel) rfl rfl ?_
    refine gf_X12_35 rfl (by decide +kernel) ob_200 ?_
    refine Fr_iload_n (q := 3) (i := 3) 3 (by decide +kernel) rfl rfl ?_
    obtain ⟨hi_25, h⟩ := ck_elim h
    refine Fr_iald (by decide +kernel) ob_205 (vp_of ln_205 hi_25) ?_
    obtain ⟨hi_26, h⟩ := ck_elim h
    refine Fr_iast (by decide +kernel) ob_220 (vp_of ln_220 hi_26) ?_
    obtain ⟨M_27, eM_27, h⟩ := bM_elim h
    refine Fr_mem eM_27 ?_
    refine Fr_iinc (i := 3) (j := 1) (v := (v3 + 1)) (lv' := [(3, .int (v3 + 1)), (0, .ref 200), (1, .int v1), (2, .int v2)]) 3 (by decide +kernel) rfl rfl (by decide) rfl ?_
    refine Fr_goto (off := (-22)) 63 (by decide +kernel) (by decide) ?_
    refine Fr_loc [1, 2, 3, 0] rfl ?_
    exact hk63 (v1, v2, (v3 + 1)) M_27 h
set_option maxRecDepth 20000 in
theorem t_X12_mean {N : Nat} {x1 : Int32} {x2 : Int32} {M : Mem} {q : Bool × Mem} (h : f_X12_mean N x1 x2 M = some q) : Ev 200 21 50 m_X12_mean [.ref 200, .int x1, .int x2] M (QB q) := by
  refine Ev_of_Fr (by decide +kernel) (Nat.le_of_ble_eq_true rfl) ?_
  show Fr 200 21 50 m_X12_mean 0 [(0, .ref 200), (1, .int x1), (2, .int x2)] [] M (QB q)
  unfold f_X12_mean at h
  refine Fr_aload_n (q := 0) (i := 0) 0 (by decide +kernel) rfl rfl ?_
  refine Fr_iconst (i := 0) (v := 0) (by decide +kernel) (by decide) ?_
  refine pf_X12_84 rfl (by decide +kernel) ob_200 ?_
  obtain ⟨M_1, eM_1, h⟩ := bM_elim h
  refine Fr_mem eM_1 ?_
  refine Fr_aload_n (q := 0) (i := 0) 0 (by decide +kernel) rfl rfl ?_
  refine Fr_iconst (i := 0) (v := 0) (by decide +kernel) (by decide) ?_
  refine pf_X12_87 rfl (by decide +kernel) ob_200 ?_
  obtain ⟨M_2, eM_2, h⟩ := bM_elim h
  refine Fr_mem eM_2 ?_
  refine Fr_iload_n (q := 2) (i := 2) 2 (by decide +kernel) rfl rfl ?_
  refine Fr_i2l (by decide +kernel) ?_
  refine Fr_lconst (i := 1) (v := 1) (by decide +kernel) (by decide) ?_
  refine Fr_ldc2 (idx := 593) (v := 20) (by decide +kernel) ll_X12_593 ?_
  obtain ⟨r_5, M_3, hc_4, h⟩ := bi_elim h
  refine Fr_cSb (ν := m_X12_isIn) (As := [.long (Int32.toInt64 x2), .long 1, .long 20]) (st := []) (d' := 0) (by decide +kernel) ml_X12_119 cs_X12_isIn rfl (by decide) (Nat.le_of_ble_eq_true rfl) (t_X12_isIn hc_4) ?_
  refine Fr_if_eq (off := 18) 37 (by decide +kernel) (by decide) (fun hc => ?_) (fun hc => ?_)
  · have h := iT hc h
    refine Fr_aload_n (q := 0) (i := 0) 0 (by decide +kernel) rfl rfl ?_
    refine Fr_iconst (i := 5) (v := 5) (by decide +kernel) (by decide) ?_
    obtain ⟨r_8, M_6, hc_7, h⟩ := bi_elim h
    refine Fr_cVb (ν := m_X12_no) (As := [.int 5]) (st := []) (rc := 200) (ci := 12) (d' := 0) (by decide +kernel) ml_X12_99 cv_X12_no rfl (by decide) rfl ob_200 rfl (by decide) (Nat.le_of_ble_eq_true rfl) (t_X12_no hc_7) ?_
    obtain rfl := Option.some.inj h
    exact Fr_zret (by decide +kernel) rfl (nz_b r_8) ⟨rfl, rfl⟩
  · have h := iF hc h
    refine Fr_iload_n (q := 1) (i := 1) 1 (by decide +kernel) rfl rfl ?_
    refine Fr_i2l (by decide +kernel) ?_
    refine Fr_lconst (i := 0) (v := 0) (by decide +kernel) (by decide) ?_
    refine Fr_sipush (i := 10000) (v := 10000) (by decide +kernel) (by decide) ?_
    refine Fr_iload_n (q := 2) (i := 2) 2 (by decide +kernel) rfl rfl ?_
    refine Fr_isub (by decide +kernel) ?_
    refine Fr_i2l (by decide +kernel) ?_
    obtain ⟨r_11, M_9, hc_10, h⟩ := bi_elim h
    refine Fr_cSb (ν := m_X12_isIn) (As := [.long (Int32.toInt64 x1), .long 0, .long (Int32.toInt64 (10000 - x2))]) (st := []) (d' := 0) (by decide +kernel) ml_X12_119 cs_X12_isIn rfl (by decide) (Nat.le_of_ble_eq_true rfl) (t_X12_isIn hc_10) ?_
    refine Fr_if_ne (off := 9) 43 (by decide +kernel) (by decide) (fun hc => ?_) (fun hc => ?_)
    · have h := iF hc h
      refine Fr_aload_n (q := 0) (i := 0) 0 (by decide +kernel) rfl rfl ?_
      refine gf_X12_35 rfl (by decide +kernel) ob_200 ?_
      refine Fr_sipush (i := 163) (v := 163) (by decide +kernel) (by decide) ?_
      obtain ⟨hi_12, h⟩ := ck_elim h
      refine Fr_iald (by decide +kernel) ob_205 (vp_of ln_205 hi_12) ?_
      refine Fr_if_ne (off := 10) 61 (by decide +kernel) (by decide) (fun hc => ?_) (fun hc => ?_)
      · have h := iF hc h
        refine Fr_iconst (i := 0) (v := 0) (by decide +kernel) (by decide) ?_
        refine Fr_istore_n (q := 3) (i := 3) (lv' := [(3, .int 0), (0, .ref 200), (1, .int x1), (2, .int x2)]) (by decide +kernel) rfl (by decide) rfl ?_
        refine Fr_loc [1, 2, 3, 0] rfl ?_
        exact lp_sound (P := fun a M => Fr 200 21 50 m_X12_mean 63 [(0, .ref 200), (1, .int a.1), (2, .int a.2.1), (3, .int a.2.2)] [] M (QB q)) (fun k hk a m h => t_X12_mean_h63 hk h) N (x1, x2, 0) M_9 h
      · have h := iT hc h
        refine Fr_aload_n (q := 0) (i := 0) 0 (by decide +kernel) rfl rfl ?_
        refine Fr_bipush (i := 8) (v := 8) (by decide +kernel) (by decide) ?_
        obtain ⟨r_30, M_28, hc_29, h⟩ := bi_elim h
        refine Fr_cVb (ν := m_X12_no) (As := [.int 8]) (st := []) (rc := 200) (ci := 12) (d' := 0) (by decide +kernel) ml_X12_99 cv_X12_no rfl (by decide) rfl ob_200 rfl (by decide) (Nat.le_of_ble_eq_true rfl) (t_X12_no hc_29) ?_
        obtain rfl := Option.some.inj h
        exact Fr_zret (by decide +kernel) rfl (nz_b r_30) ⟨rfl, rfl⟩
    · have h := iT hc h
      refine Fr_aload_n (q := 0) (i := 0) 0 (by decide +kernel) rfl rfl ?_
      refine Fr_iconst (i := 5) (v := 5) (by decide +kernel) (by decide) ?_
      obtain ⟨r_33, M_31, hc_32, h⟩ := bi_elim h
      refine Fr_cVb (ν := m_X12_no) (As := [.int 5]) (st := []) (rc := 200) (ci := 12) (d' := 0) (by decide +kernel) ml_X12_99 cv_X12_no rfl (by decide) rfl ob_200 rfl (by decide) (Nat.le_of_ble_eq_true rfl) (t_X12_no hc_32) ?_
      obtain rfl := Option.some.inj h
      exact Fr_zret (by decide +kernel) rfl (nz_b r_33) ⟨rfl, rfl⟩
set_option maxRecDepth 20000 in
theorem t_X12_mark {N : Nat} {M : Mem} {q : Int32 × Mem} (h : f_X12_mark N M = some q) : Ev 200 21 1 m_X12_mark [.ref 200] M (QI q) := by
  refine Ev_of_Fr (by decide +kernel) (Nat.le_of_ble_eq_true rfl) ?_
  show Fr 200 21 1 m_X12_mark 0 [(0, .ref 200)] [] M (QI q)
  unfold f_X12_mark at h
  refine Fr_aload_n (q := 0) (i := 0) 0 (by decide +kernel) rfl rfl ?_
  refine Fr_iconst (i := 0) (v := 0) (by decide +kernel) (by decide) ?_
  refine pf_X12_84 rfl (by decide +kernel) ob_200 ?_
  obtain ⟨M_1, eM_1, h⟩ := bM_elim h
  refine Fr_mem eM_1 ?_
  refine Fr_aload_n (q := 0) (i := 0) 0 (by decide +kernel) rfl rfl ?_
  refine Fr_iconst (i := 0) (v := 0) (by decide +kernel) (by decide) ?_
  refine pf_X12_87 rfl (by decide +kernel) ob_200 ?_
  obtain ⟨M_2, eM_2, h⟩ := bM_elim h
  refine Fr_mem eM_2 ?_
  refine Fr_aload_n (q := 0) (i := 0) 0 (by decide +kernel) rfl rfl ?_
  refine gf_X12_595 rfl (by decide +kernel) ob_200 ?_
  refine Fr_iconst (i := 3) (v := 3) (by decide +kernel) (by decide) ?_
  refine Fr_icmp_ne (off := 10) 25 (by decide +kernel) (by decide) (fun hc => ?_) (fun hc => ?_)
  · have h := iF hc h
    refine Fr_aload_n (q := 0) (i := 0) 0 (by decide +kernel) rfl rfl ?_
    refine Fr_dup (by decide +kernel) rfl ?_
    refine gf_X12_595 rfl (by decide +kernel) ob_200 ?_
    refine Fr_iconst (i := 1) (v := 1) (by decide +kernel) (by decide) ?_
    refine Fr_iadd (by decide +kernel) ?_
    refine pf_X12_595 rfl (by decide +kernel) ob_200 ?_
    obtain ⟨M_3, eM_3, h⟩ := bM_elim h
    refine Fr_mem eM_3 ?_
    refine Fr_aload_n (q := 0) (i := 0) 0 (by decide +kernel) rfl rfl ?_
    refine Fr_iconst (i := 0) (v := 0) (by decide +kernel) (by decide) ?_
    refine Fr_aload_n (q := 0) (i := 0) 0 (by decide +kernel) rfl rfl ?_
    refine gf_X12_595 rfl (by decide +kernel) ob_200 ?_
    obtain ⟨M_4, hc_5, h⟩ := bv_elim h
    refine Fr_cVv (ν := m_X12_copy) (As := [.int 0, .int (M_3.1 200 24)]) (st := []) (rc := 200) (ci := 12) (d' := 0) (by decide +kernel) ml_X12_339 cv_X12_copy rfl (by decide) rfl ob_200 rfl (by decide) (Nat.le_of_ble_eq_true rfl) (t_X12_copy hc_5) ?_
    refine Fr_aload_n (q := 0) (i := 0) 0 (by decide +kernel) rfl rfl ?_
    refine gf_X12_595 rfl (by decide +kernel) ob_200 ?_
    obtain rfl := Option.some.inj h
    exact Fr_iret (by decide +kernel) rfl ⟨rfl, rfl⟩
  · have h := iT hc h
    refine Fr_aload_n (q := 0) (i := 0) 0 (by decide +kernel) rfl rfl ?_
    refine Fr_bipush (i := 7) (v := 7) (by decide +kernel) (by decide) ?_
    obtain ⟨r_8, M_6, hc_7, h⟩ := bi_elim h
    refine Fr_cVi (ν := m_X12_refuse) (As := [.int 7]) (st := []) (rc := 200) (ci := 12) (d' := 0) (by decide +kernel) ml_X12_371 cv_X12_refuse rfl (by decide) rfl ob_200 rfl (by decide) (Nat.le_of_ble_eq_true rfl) (t_X12_refuse hc_7) ?_
    obtain rfl := Option.some.inj h
    exact Fr_iret (by decide +kernel) rfl ⟨rfl, rfl⟩
set_option maxRecDepth 20000 in
theorem t_X12_back {N : Nat} {M : Mem} {q : Int32 × Mem} (h : f_X12_back N M = some q) : Ev 200 21 1 m_X12_back [.ref 200] M (QI q) := by
  refine Ev_of_Fr (by decide +kernel) (Nat.le_of_ble_eq_true rfl) ?_
  show Fr 200 21 1 m_X12_back 0 [(0, .ref 200)] [] M (QI q)
  unfold f_X12_back at h
  refine Fr_aload_n (q := 0) (i := 0) 0 (by decide +kernel) rfl rfl ?_
  refine Fr_iconst (i := 0) (v := 0) (by decide +kernel) (by decide) ?_
  refine pf_X12_84 rfl (by decide +kernel) ob_200 ?_
  obtain ⟨M_1, eM_1, h⟩ := bM_elim h
  refine Fr_mem eM_1 ?_
  refine Fr_aload_n (q := 0) (i := 0) 0 (by decide +kernel) rfl rfl ?_
  refine Fr_iconst (i := 0) (v := 0) (by decide +kernel) (by decide) ?_
  refine pf_X12_87 rfl (by decide +kernel) ob_200 ?_
  obtain ⟨M_2, eM_2, h⟩ := bM_elim h
  refine Fr_mem eM_2 ?_
  refine Fr_aload_n (q := 0) (i := 0) 0 (by decide +kernel) rfl rfl ?_
  refine gf_X12_595 rfl (by decide +kernel) ob_200 ?_
  refine Fr_if_ne (off := 10) 24 (by decide +kernel) (by decide) (fun hc => ?_) (fun hc => ?_)
  · have h := iF hc h
    refine Fr_aload_n (q := 0) (i := 0) 0 (by decide +kernel) rfl rfl ?_
    refine Fr_aload_n (q := 0) (i := 0) 0 (by decide +kernel) rfl rfl ?_
    refine gf_X12_595 rfl (by decide +kernel) ob_200 ?_
    refine Fr_iconst (i := 0) (v := 0) (by decide +kernel) (by decide) ?_
    obtain ⟨M_3, hc_4, h⟩ := bv_elim h
    refine Fr_cVv (ν := m_X12_copy) (As := [.int (M_2.1 200 24), .int 0]) (st := []) (rc := 200) (ci := 12) (d' := 0) (by decide +kernel) ml_X12_339 cv_X12_copy rfl (by decide) rfl ob_200 rfl (by decide) (Nat.le_of_ble_eq_true rfl) (t_X12_copy hc_4) ?_
    refine Fr_aload_n (q := 0) (i := 0) 0 (by decide +kernel) rfl rfl ?_
    refine Fr_dup (by decide +kernel) rfl ?_
    refine gf_X12_595 rfl (by decide +kernel) ob_200 ?_
    refine Fr_iconst (i := 1) (v := 1) (by decide +kernel) (by decide) ?_
    refine Fr_isub (by decide +kernel) ?_
    refine pf_X12_595 rfl (by decide +kernel) ob_200 ?_
    obtain ⟨M_5, eM_5, h⟩ := bM_elim h
    refine Fr_mem eM_5 ?_
    refine Fr_aload_n (q := 0) (i := 0) 0 (by decide +kernel) rfl rfl ?_
    refine gf_X12_595 rfl (by decide +kernel) ob_200 ?_
    obtain rfl := Option.some.inj h
    exact Fr_iret (by decide +kernel) rfl ⟨rfl, rfl⟩
  · have h := iT hc h
    refine Fr_aload_n (q := 0) (i := 0) 0 (by decide +kernel) rfl rfl ?_
    refine Fr_bipush (i := 8) (v := 8) (by decide +kernel) (by decide) ?_
    obtain ⟨r_8, M_6, hc_7, h⟩ := bi_elim h
    refine Fr_cVi (ν := m_X12_refuse) (As := [.int 8]) (st := []) (rc := 200) (ci := 12) (d' := 0) (by decide +kernel) ml_X12_371 cv_X12_refuse rfl (by decide) rfl ob_200 rfl (by decide) (Nat.le_of_ble_eq_true rfl) (t_X12_refuse hc_7) ?_
    obtain rfl := Option.some.inj h
    exact Fr_iret (by decide +kernel) rfl ⟨rfl, rfl⟩
