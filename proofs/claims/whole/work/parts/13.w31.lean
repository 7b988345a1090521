set_option maxRecDepth 20000 in
theorem t_X12_power {N : Nat} {x1 : Int32} {x2 : Int32} {M : Mem} {q : Bool × Mem} (h : f_X12_power N x1 x2 M = some q) : Ev 200 21 4 m_X12_power [.ref 200, .int x1, .int x2] M (QB q) := by
  refine Ev_of_Fr (by decide +kernel) (Nat.le_of_ble_eq_true rfl) ?_
  show Fr 200 21 4 m_X12_power 0 [(0, .ref 200), (1, .int x1), (2, .int x2)] [] M (QB q)
  unfold f_X12_power at h
  refine Fr_aload_n (q := 0) (i := 0) 0 (by decide +kernel) rfl rfl ?_
  refine Fr_iconst (i := 0) (v := 0) (by decide +kernel) (by decide) ?_
  refine pf_X12_84 rfl (by decide +kernel) ob_200 ?_
  obtain ⟨M_1, eM_1, h⟩ := bM_elim h
  refine Fr_mem eM_1 ?_
  refine Fr_aload_n (q := 0) (i := 0) 0 (by decide +kernel) rfl rfl ?_
  refine Fr_iconst (i := 0) (v := 0) (by decide +kernel) (by decide) ?_
  refine pf_X12_87 rfl (by decide +kernel) ob_200 ?_
  obtain ⟨M_2, eM_2, h⟩ := bM_elim h
  refine Fr_mem eM_2 ?_
  refine Fr_aload_n (q := 0) (i := 0) 0 (by decide +kernel) rfl rfl ?_
  refine Fr_iload_n (q := 1) (i := 1) 1 (by decide +kernel) rfl rfl ?_
  obtain ⟨r_5, M_3, hc_4, h⟩ := bi_elim h
  refine Fr_cVb (ν := m_X12_isGateAt) (As := [.int x1]) (st := []) (rc := 200) (ci := 12) (d' := 1) (by decide +kernel) ml_X12_380 cv_X12_isGateAt rfl (by decide) rfl ob_200 rfl (by decide) (Nat.le_of_ble_eq_true rfl) (t_X12_isGateAt hc_4) ?_
  refine Fr_if_eq (off := 11) 26 (by decide +kernel) (by decide) (fun hc => ?_) (fun hc => ?_)
  · have h := iT hc h
    refine Fr_aload_n (q := 0) (i := 0) 0 (by decide +kernel) rfl rfl ?_
    refine Fr_iconst (i := 2) (v := 2) (by decide +kernel) (by decide) ?_
    obtain ⟨r_8, M_6, hc_7, h⟩ := bi_elim h
    refine Fr_cVb (ν := m_X12_no) (As := [.int 2]) (st := []) (rc := 200) (ci := 12) (d' := 0) (by decide +kernel) ml_X12_99 cv_X12_no rfl (by decide) rfl ob_200 rfl (by decide) (Nat.le_of_ble_eq_true rfl) (t_X12_no hc_7) ?_
    obtain rfl := Option.some.inj h
    exact Fr_zret (by decide +kernel) rfl (nz_b r_8) ⟨rfl, rfl⟩
  · have h := iF hc h
    refine Fr_aload_n (q := 0) (i := 0) 0 (by decide +kernel) rfl rfl ?_
    refine Fr_iload_n (q := 2) (i := 2) 2 (by decide +kernel) rfl rfl ?_
    obtain ⟨r_11, M_9, hc_10, h⟩ := bi_elim h
    refine Fr_cVb (ν := m_X12_isHolderAt) (As := [.int x2]) (st := []) (rc := 200) (ci := 12) (d' := 1) (by decide +kernel) ml_X12_385 cv_X12_isHolderAt rfl (by decide) rfl ob_200 rfl (by decide) (Nat.le_of_ble_eq_true rfl) (t_X12_isHolderAt hc_10) ?_
    refine Fr_if_ne (off := 9) 32 (by decide +kernel) (by decide) (fun hc => ?_) (fun hc => ?_)
    · have h := iF hc h
      refine Fr_aload_n (q := 0) (i := 0) 0 (by decide +kernel) rfl rfl ?_
      refine Fr_iload_n (q := 1) (i := 1) 1 (by decide +kernel) rfl rfl ?_
      refine Fr_aload_n (q := 0) (i := 0) 0 (by decide +kernel) rfl rfl ?_
      obtain ⟨r_14, M_12, hc_13, h⟩ := bi_elim h
      refine Fr_cVi (ν := m_X12_allHolders) (As := []) (st := [.int x1, .ref 200]) (rc := 200) (ci := 12) (d' := 0) (by decide +kernel) ml_X12_428 cv_X12_allHolders rfl (by decide) rfl ob_200 rfl (by decide) (Nat.le_of_ble_eq_true rfl) (t_X12_allHolders hc_13) ?_
      obtain ⟨r_17, M_15, hc_16, h⟩ := bi_elim h
      refine Fr_cVb (ν := m_X12_can) (As := [.int x1, .int r_14]) (st := []) (rc := 200) (ci := 12) (d' := 2) (by decide +kernel) ml_X12_434 cv_X12_can rfl (by decide) rfl ob_200 rfl (by decide) (Nat.le_of_ble_eq_true rfl) (t_X12_can hc_16) ?_
      refine Fr_if_ne (off := 10) 51 (by decide +kernel) (by decide) (fun hc => ?_) (fun hc => ?_)
      · have h := iF hc h
        refine Fr_aload_n (q := 0) (i := 0) 0 (by decide +kernel) rfl rfl ?_
        refine Fr_aload_n (q := 0) (i := 0) 0 (by decide +kernel) rfl rfl ?_
        refine Fr_iload_n (q := 1) (i := 1) 1 (by decide +kernel) rfl rfl ?_
        refine Fr_iload_n (q := 2) (i := 2) 2 (by decide +kernel) rfl rfl ?_
        obtain ⟨r_20, M_18, hc_19, h⟩ := bi_elim h
        refine Fr_cVj (ν := m_X12_swings) (As := [.int x1, .int x2]) (st := [.ref 200]) (rc := 200) (ci := 12) (d' := 3) (by decide +kernel) ml_X12_504 cv_X12_swings rfl (by decide) rfl ob_200 rfl (by decide) (Nat.le_of_ble_eq_true rfl) (t_X12_swings hc_19) ?_
        refine Fr_aload_n (q := 0) (i := 0) 0 (by decide +kernel) rfl rfl ?_
        refine gf_X12_35 rfl (by decide +kernel) ob_200 ?_
        refine Fr_iconst (i := 3) (v := 3) (by decide +kernel) (by decide) ?_
        obtain ⟨hi_21, h⟩ := ck_elim h
        refine Fr_iald (by decide +kernel) ob_205 (vp_of ln_205 hi_21) ?_
        obtain ⟨r_24, M_22, hc_23, h⟩ := bi_elim h
        refine Fr_cSj (ν := m_X12_factorial) (As := [.int (M_18.1 205 (tn 3))]) (st := [.long r_20, .ref 200]) (d' := 0) (by decide +kernel) ml_X12_500 cs_X12_factorial rfl (by decide) (Nat.le_of_ble_eq_true rfl) (t_X12_factorial hc_23) ?_
        obtain ⟨r_27, M_25, hc_26, h⟩ := bi_elim h
        refine Fr_cVb (ν := m_X12_fraction) (As := [.long r_20, .long r_24]) (st := []) (rc := 200) (ci := 12) (d' := 1) (by decide +kernel) ml_X12_508 cv_X12_fraction rfl (by decide) rfl ob_200 rfl (by decide) (Nat.le_of_ble_eq_true rfl) (t_X12_fraction hc_26) ?_
        obtain rfl := Option.some.inj h
        exact Fr_zret (by decide +kernel) rfl (nz_b r_27) ⟨rfl, rfl⟩
      · have h := iT hc h
        refine Fr_aload_n (q := 0) (i := 0) 0 (by decide +kernel) rfl rfl ?_
        refine Fr_bipush (i := 8) (v := 8) (by decide +kernel) (by decide) ?_
        obtain ⟨r_30, M_28, hc_29, h⟩ := bi_elim h
        refine Fr_cVb (ν := m_X12_no) (As := [.int 8]) (st := []) (rc := 200) (ci := 12) (d' := 0) (by decide +kernel) ml_X12_99 cv_X12_no rfl (by decide) rfl ob_200 rfl (by decide) (Nat.le_of_ble_eq_true rfl) (t_X12_no hc_29) ?_
        obtain rfl := Option.some.inj h
        exact Fr_zret (by decide +kernel) rfl (nz_b r_30) ⟨rfl, rfl⟩
    · have h := iT hc h
      refine Fr_aload_n (q := 0) (i := 0) 0 (by decide +kernel) rfl rfl ?_
      refine Fr_iconst (i := 2) (v := 2) (by decide +kernel) (by decide) ?_
      obtain ⟨r_33, M_31, hc_32, h⟩ := bi_elim h
      refine Fr_cVb (ν := m_X12_no) (As := [.int 2]) (st := []) (rc := 200) (ci := 12) (d' := 0) (by decide +kernel) ml_X12_99 cv_X12_no rfl (by decide) rfl ob_200 rfl (by decide) (Nat.le_of_ble_eq_true rfl) (t_X12_no hc_32) ?_
      obtain rfl := Option.some.inj h
      exact Fr_zret (by decide +kernel) rfl (nz_b r_33) ⟨rfl, rfl⟩
set_option maxRecDepth 20000 in
theorem t_X12_veto_b63 {N : Nat} {q : Int32 × Mem} {k27 : Int32 × Int32 × Int32 → Mem → Option (Int32 × Mem)} (hk27 : ∀ (a : Int32 × Int32 × Int32) (M : Mem), k27 a M = some q → Fr 200 21 4 m_X12_veto 27 [(0, .ref 200), (1, .int a.1), (2, .int a.2.1), (3, .int a.2.2)] [] M (QI q)) {v1 : Int32} {v3 : Int32} {s0 : Int32} {s1 : Int32} {M : Mem} (h : f_X12_veto_b63 N k27 v1 v3 s0 s1 M = some q) : Fr 200 21 4 m_X12_veto 63 [(0, .ref 200), (1, .int v1), (3, .int v3)] [.int s0, .int s1] M (QI q) := by
  unfold f_X12_veto_b63 at h
  refine Fr_ior (by decide +kernel) ?_
  refine Fr_istore_n (q := 2) (i := 2) (lv' := [(2, .int (s1 ||| s0)), (0, .ref 200), (1, .int v1), (3, .int v3)]) (by decide +kernel) rfl (by decide) rfl ?_
  refine Fr_iinc (i := 3) (j := 1) (v := (v3 + 1)) (lv' := [(3, .int (v3 + 1)), (2, .int (s1 ||| s0)), (0, .ref 200), (1, .int v1)]) 3 (by decide +kernel) rfl rfl (by decide) rfl ?_
  refine Fr_goto (off := (-41)) 27 (by decide +kernel) (by decide) ?_
  refine Fr_loc [2, 3, 1, 0] rfl ?_
  exact hk27 (v1, (s1 ||| s0), (v3 + 1)) M h
set_option maxRecDepth 20000 in
theorem t_X12_veto_h27 {N : Nat} {q : Int32 × Mem} {k27 : Int32 × Int32 × Int32 → Mem → Option (Int32 × Mem)} (hk27 : ∀ (a : Int32 × Int32 × Int32) (M : Mem), k27 a M = some q → Fr 200 21 4 m_X12_veto 27 [(0, .ref 200), (1, .int a.1), (2, .int a.2.1), (3, .int a.2.2)] [] M (QI q)) {v1 : Int32} {v2 : Int32} {v3 : Int32} {M : Mem} (h : f_X12_veto_h27 N k27 v1 v2 v3 M = some q) : Fr 200 21 4 m_X12_veto 27 [(0, .ref 200), (1, .int v1), (2, .int v2), (3, .int v3)] [] M (QI q) := by
  unfold f_X12_veto_h27 at h
  refine Fr_iload_n (q := 3) (i := 3) 3 (by decide +kernel) rfl rfl ?_
  refine Fr_aload_n (q := 0) (i := 0) 0 (by decide +kernel) rfl rfl ?_
  refine gf_X12_35 rfl (by decide +kernel) ob_200 ?_
  refine Fr_iconst (i := 3) (v := 3) (by decide +kernel) (by decide) ?_
  obtain ⟨hi_6, h⟩ := ck_elim h
  refine Fr_iald (by decide +kernel) ob_205 (vp_of ln_205 hi_6) ?_
  refine Fr_icmp_ge (off := 37) 71 (by decide +kernel) (by decide) (fun hc => ?_) (fun hc => ?_)
  · have h := iT hc h
    refine Fr_iload_n (q := 2) (i := 2) 2 (by decide +kernel) rfl rfl ?_
    obtain rfl := Option.some.inj h
    exact Fr_iret (by decide +kernel) rfl ⟨rfl, rfl⟩
  · have h := iF hc h
    refine Fr_iload_n (q := 2) (i := 2) 2 (by decide +kernel) rfl rfl ?_
    refine Fr_aload_n (q := 0) (i := 0) 0 (by decide +kernel) rfl rfl ?_
    refine Fr_iload_n (q := 1) (i := 1) 1 (by decide +kernel) rfl rfl ?_
    refine Fr_aload_n (q := 0) (i := 0) 0 (by decide +kernel) rfl rfl ?_
    obtain ⟨r_9, M_7, hc_8, h⟩ := bi_elim h
    refine Fr_cVi (ν := m_X12_allHolders) (As := []) (st := [.int v1, .ref 200, .int v2]) (rc := 200) (ci := 12) (d' := 0) (by decide +kernel) ml_X12_428 cv_X12_allHolders rfl (by decide) rfl ob_200 rfl (by decide) (Nat.le_of_ble_eq_true rfl) (t_X12_allHolders hc_8) ?_
    refine Fr_iconst (i := 1) (v := 1) (by decide +kernel) (by decide) ?_
    refine Fr_iload_n (q := 3) (i := 3) 3 (by decide +kernel) rfl rfl ?_
    refine Fr_ishl (by decide +kernel) ?_
    refine Fr_iconst (i := (-1)) (v := (-1)) (by decide +kernel) (by decide) ?_
    refine Fr_ixor (by decide +kernel) ?_
    refine Fr_iand (by decide +kernel) ?_
    obtain ⟨r_12, M_10, hc_11, h⟩ := bi_elim h
    refine Fr_cVb (ν := m_X12_can) (As := [.int v1, .int (r_9 &&& ((1 <<< (v3 &&& 31)) ^^^ (-1)))]) (st := [.int v2]) (rc := 200) (ci := 12) (d' := 2) (by decide +kernel) ml_X12_434 cv_X12_can rfl (by decide) rfl ob_200 rfl (by decide) (Nat.le_of_ble_eq_true rfl) (t_X12_can hc_11) ?_
    refine Fr_if_eq (off := 7) 60 (by decide +kernel) (by decide) (fun hc => ?_) (fun hc => ?_)
    · have h := iT hc h
      refine Fr_iconst (i := 1) (v := 1) (by decide +kernel) (by decide) ?_
      refine Fr_iload_n (q := 3) (i := 3) 3 (by decide +kernel) rfl rfl ?_
      refine Fr_ishl (by decide +kernel) ?_
      refine Fr_loc [0, 1, 3] rfl ?_
      exact t_X12_veto_b63 hk27 h
    · have h := iF hc h
      refine Fr_iconst (i := 0) (v := 0) (by decide +kernel) (by decide) ?_
      refine Fr_goto (off := 6) 63 (by decide +kernel) (by decide) ?_
      refine Fr_loc [0, 1, 3] rfl ?_
      exact t_X12_veto_b63 hk27 h
set_option maxRecDepth 20000 in
theorem t_X12_veto {N : Nat} {x1 : Int32} {M : Mem} {q : Int32 × Mem} (h : f_X12_veto N x1 M = some q) : Ev 200 21 4 m_X12_veto [.ref 200, .int x1] M (QI q) := by
  refine Ev_of_Fr (by decide +kernel) (Nat.le_of_ble_eq_true rfl) ?_
  show Fr 200 21 4 m_X12_veto 0 [(0, .ref 200), (1, .int x1)] [] M (QI q)
  unfold f_X12_veto at h
  refine Fr_aload_n (q := 0) (i := 0) 0 (by decide +kernel) rfl rfl ?_
  refine Fr_iconst (i := 0) (v := 0) (by decide +kernel) (by decide) ?_
  refine pf_X12_84 rfl (by decide +kernel) ob_200 ?_
  obtain ⟨M_1, eM_1, h⟩ := bM_elim h
  refine Fr_mem eM_1 ?_
  refine Fr_aload_n (q := 0) (i := 0) 0 (by decide +kernel) rfl rfl ?_
  refine Fr_aload_n (q := 0) (i := 0) 0 (by decide +kernel) rfl rfl ?_
  refine Fr_iload_n (q := 1) (i := 1) 1 (by decide +kernel) rfl rfl ?_
  obtain ⟨r_4, M_2, hc_3, h⟩ := bi_elim h
  refine Fr_cVi (ν := m_X12_whyNoGate) (As := [.int x1]) (st := [.ref 200]) (rc := 200) (ci := 12) (d' := 3) (by decide +kernel) ml_X12_494 cv_X12_whyNoGate rfl (by decide) rfl ob_200 rfl (by decide) (Nat.le_of_ble_eq_true rfl) (t_X12_whyNoGate hc_3) ?_
  refine pf_X12_87 rfl (by decide +kernel) ob_200 ?_
  obtain ⟨M_5, eM_5, h⟩ := bM_elim h
  refine Fr_mem eM_5 ?_
  refine Fr_aload_n (q := 0) (i := 0) 0 (by decide +kernel) rfl rfl ?_
  refine gf_X12_87 rfl (by decide +kernel) ob_200 ?_
  refine Fr_if_le (off := 5) 23 (by decide +kernel) (by decide) (fun hc => ?_) (fun hc => ?_)
  · have h := iT hc h
    refine Fr_iconst (i := 0) (v := 0) (by decide +kernel) (by decide) ?_
    refine Fr_istore_n (q := 2) (i := 2) (lv' := [(2, .int 0), (0, .ref 200), (1, .int x1)]) (by decide +kernel) rfl (by decide) rfl ?_
    refine Fr_iconst (i := 0) (v := 0) (by decide +kernel) (by decide) ?_
    refine Fr_istore_n (q := 3) (i := 3) (lv' := [(3, .int 0), (2, .int 0), (0, .ref 200), (1, .int x1)]) (by decide +kernel) rfl (by decide) rfl ?_
    refine Fr_loc [2, 3, 1, 0] rfl ?_
    exact lp_sound (body := fun k a m => f_X12_veto_h27 N k a.1 a.2.1 a.2.2 m) (P := fun a M => Fr 200 21 4 m_X12_veto 27 [(0, .ref 200), (1, .int a.1), (2, .int a.2.1), (3, .int a.2.2)] [] M (QI q)) (fun k hk a m h => t_X12_veto_h27 hk h) N (x1, 0, 0) M_5 h
  · have h := iF hc h
    refine Fr_iconst (i := (-1)) (v := (-1)) (by decide +kernel) (by decide) ?_
    obtain rfl := Option.some.inj h
    exact Fr_iret (by decide +kernel) rfl ⟨rfl, rfl⟩
set_option maxRecDepth 20000 in
theorem t_X12_idle_b56 {N : Nat} {q : Int32 × Mem} {k27 : Int32 × Int32 × Int32 → Mem → Option (Int32 × Mem)} (hk27 : ∀ (a : Int32 × Int32 × Int32) (M : Mem), k27 a M = some q → Fr 200 21 4 m_X12_idle 27 [(0, .ref 200), (1, .int a.1), (2, .int a.2.1), (3, .int a.2.2)] [] M (QI q)) {v1 : Int32} {v3 : Int32} {s0 : Int32} {s1 : Int32} {M : Mem} (h : f_X12_idle_b56 N k27 v1 v3 s0 s1 M = some q) : Fr 200 21 4 m_X12_idle 56 [(0, .ref 200), (1, .int v1), (3, .int v3)] [.int s0, .int s1] M (QI q) := by
  unfold f_X12_idle_b56 at h
  refine Fr_ior (by decide +kernel) ?_
  refine Fr_istore_n (q := 2) (i := 2) (lv' := [(2, .int (s1 ||| s0)), (0, .ref 200), (1, .int v1), (3, .int v3)]) (by decide +kernel) rfl (by decide) rfl ?_
  refine Fr_iinc (i := 3) (j := 1) (v := (v3 + 1)) (lv' := [(3, .int (v3 + 1)), (2, .int (s1 ||| s0)), (0, .ref 200), (1, .int v1)]) 3 (by decide +kernel) rfl rfl (by decide) rfl ?_
  refine Fr_goto (off := (-34)) 27 (by decide +kernel) (by decide) ?_
  refine Fr_loc [2, 3, 1, 0] rfl ?_
  exact hk27 (v1, (s1 ||| s0), (v3 + 1)) M h
set_option maxRecDepth 20000 in
theorem t_X12_idle_h27 {N : Nat} {q : Int32 × Mem} {k27 : Int32 × Int32 × Int32 → Mem → Option (Int32 × Mem)} (hk27 : ∀ (a : Int32 × Int32 × Int32) (M : Mem), k27 a M = some q → Fr 200 21 4 m_X12_idle 27 [(0, .ref 200), (1, .int a.1), (2, .int a.2.1), (3, .int a.2.2)] [] M (QI q)) {v1 : Int32} {v2 : Int32} {v3 : Int32} {M : Mem} (h : f_X12_idle_h27 N k27 v1 v2 v3 M = some q) : Fr 200 21 4 m_X12_idle 27 [(0, .ref 200), (1, .int v1), (2, .int v2), (3, .int v3)] [] M (QI q) := by
  unfold f_X12_idle_h27 at h
  refine Fr_iload_n (q := 3) (i := 3) 3 (by decide +kernel) rfl rfl ?_
  refine Fr_aload_n (q := 0) (i := 0) 0 (by decide +kernel) rfl rfl ?_
  refine gf_X12_35 rfl (by decide +kernel) ob_200 ?_
  refine Fr_iconst (i := 3) (v := 3) (by decide +kernel) (by decide) ?_
  obtain ⟨hi_6, h⟩ := ck_elim h
  refine Fr_iald (by decide +kernel) ob_205 (vp_of ln_205 hi_6) ?_
  refine Fr_icmp_ge (off := 30) 64 (by decide +kernel) (by decide) (fun hc => ?_) (fun hc => ?_)
  · have h := iT hc h
    refine Fr_iload_n (q := 2) (i := 2) 2 (by decide +kernel) rfl rfl ?_
    obtain rfl := Option.some.inj h
    exact Fr_iret (by decide +kernel) rfl ⟨rfl, rfl⟩
  · have h := iF hc h
    refine Fr_iload_n (q := 2) (i := 2) 2 (by decide +kernel) rfl rfl ?_
    refine Fr_aload_n (q := 0) (i := 0) 0 (by decide +kernel) rfl rfl ?_
    refine Fr_iload_n (q := 1) (i := 1) 1 (by decide +kernel) rfl rfl ?_
    refine Fr_iload_n (q := 3) (i := 3) 3 (by decide +kernel) rfl rfl ?_
    obtain ⟨r_9, M_7, hc_8, h⟩ := bi_elim h
    refine Fr_cVj (ν := m_X12_swings) (As := [.int v1, .int v3]) (st := [.int v2]) (rc := 200) (ci := 12) (d' := 3) (by decide +kernel) ml_X12_504 cv_X12_swings rfl (by decide) rfl ob_200 rfl (by decide) (Nat.le_of_ble_eq_true rfl) (t_X12_swings hc_8) ?_
    refine Fr_lconst (i := 0) (v := 0) (by decide +kernel) (by decide) ?_
    refine Fr_lcmp (by decide +kernel) ?_
    refine Fr_if_ne (off := 9) 55 (by decide +kernel) (by decide) (fun hc => ?_) (fun hc => ?_)
    · have h := iF hc h
      refine Fr_iconst (i := 0) (v := 0) (by decide +kernel) (by decide) ?_
      refine Fr_loc [0, 1, 3] rfl ?_
      exact t_X12_idle_b56 hk27 h
    · have h := iT hc h
      refine Fr_iconst (i := 1) (v := 1) (by decide +kernel) (by decide) ?_
      refine Fr_iload_n (q := 3) (i := 3) 3 (by decide +kernel) rfl rfl ?_
      refine Fr_ishl (by decide +kernel) ?_
      refine Fr_goto (off := 4) 56 (by decide +kernel) (by decide) ?_
      refine Fr_loc [0, 1, 3] rfl ?_
      exact t_X12_idle_b56 hk27 h
set_option maxRecDepth 20000 in
theorem t_X12_idle {N : Nat} {x1 : Int32} {M : Mem} {q : Int32 × Mem} (h : f_X12_idle N x1 M = some q) : Ev 200 21 4 m_X12_idle [.ref 200, .int x1] M (QI q) := by
  refine Ev_of_Fr (by decide +kernel) (Nat.le_of_ble_eq_true rfl) ?_
  show Fr 200 21 4 m_X12_idle 0 [(0, .ref 200), (1, .int x1)] [] M (QI q)
  unfold f_X12_idle at h
  refine Fr_aload_n (q := 0) (i := 0) 0 (by decide +kernel) rfl rfl ?_
  refine Fr_iconst (i := 0) (v := 0) (by decide +kernel) (by decide) ?_
  refine pf_X12_84 rfl (by decide +kernel) ob_200 ?_
  obtain ⟨M_1, eM_1, h⟩ := bM_elim h
  refine Fr_mem eM_1 ?_
  refine Fr_aload_n (q := 0) (i := 0) 0 (by decide +kernel) rfl rfl ?_
  refine Fr_aload_n (q := 0) (i := 0) 0 (by decide +kernel) rfl rfl ?_
  refine Fr_iload_n (q := 1) (i := 1) 1 (by decide +kernel) rfl rfl ?_
  obtain ⟨r_4, M_2, hc_3, h⟩ := bi_elim h
  refine Fr_cVi (ν := m_X12_whyNoGate) (As := [.int x1]) (st := [.ref 200]) (rc := 200) (ci := 12) (d' := 3) (by decide +kernel) ml_X12_494 cv_X12_whyNoGate rfl (by decide) rfl ob_200 rfl (by decide) (Nat.le_of_ble_eq_true rfl) (t_X12_whyNoGate hc_3) ?_
  refine pf_X12_87 rfl (by decide +kernel) ob_200 ?_
  obtain ⟨M_5, eM_5, h⟩ := bM_elim h
  refine Fr_mem eM_5 ?_
  refine Fr_aload_n (q := 0) (i := 0) 0 (by decide +kernel) rfl rfl ?_
  refine gf_X12_87 rfl (by decide +kernel) ob_200 ?_
  refine Fr_if_le (off := 5) 23 (by decide +kernel) (by decide) (fun hc => ?_) (fun hc => ?_)
  · have h := iT hc h
    refine Fr_iconst (i := 0) (v := 0) (by decide +kernel) (by decide) ?_
    refine Fr_istore_n (q := 2) (i := 2) (lv' := [(2, .int 0), (0, .ref 200), (1, .int x1)]) (by decide +kernel) rfl (by decide) rfl ?_
    refine Fr_iconst (i := 0) (v := 0) (by decide +kernel) (by decide) ?_
    refine Fr_istore_n (q := 3) (i := 3) (lv' := [(3, .int 0), (2, .int 0), (0, .ref 200), (1, .int x1)]) (by decide +kernel) rfl (by decide) rfl ?_
    refine Fr_loc [2, 3, 1, 0] rfl ?_
    exact lp_sound (body := fun k a m => f_X12_idle_h27 N k a.1 a.2.1 a.2.2 m) (P := fun a M => Fr 200 21 4 m_X12_idle 27 [(0, .ref 200), (1, .int a.1), (2, .int a.2.1), (3, .int a.2.2)] [] M (QI q)) (fun k hk a m h => t_X12_idle_h27 hk h) N (x1, 0, 0) M_5 h
  · have h := iF hc h
    refine Fr_iconst (i := (-1)) (v := (-1)) (by decide +kernel) (by decide) ?_
    obtain rfl := Option.some.inj h
    exact Fr_iret (by decide +kernel) rfl ⟨rfl, rfl⟩
set_option maxRecDepth 20000 in
theorem t_X12_reach_b55 {N : Nat} {q : Int32 × Mem} {k28 : Int32 × Int32 × Int32 → Mem → Option (Int32 × Mem)} (hk28 : ∀ (a : Int32 × Int32 × Int32) (M : Mem), k28 a M = some q → Fr 200 21 3 m_X12_reach 28 [(0, .ref 200), (1, .int a.1), (2, .int a.2.1), (3, .int a.2.2)] [] M (QI q)) {v1 : Int32} {v3 : Int32} {s0 : Int32} {s1 : Int32} {M : Mem} (h : f_X12_reach_b55 N k28 v1 v3 s0 s1 M = some q) : Fr 200 21 3 m_X12_reach 55 [(0, .ref 200), (1, .int v1), (3, .int v3)] [.int s0, .int s1] M (QI q) := by
  unfold f_X12_reach_b55 at h
  refine Fr_ior (by decide +kernel) ?_
  refine Fr_istore_n (q := 2) (i := 2) (lv' := [(2, .int (s1 ||| s0)), (0, .ref 200), (1, .int v1), (3, .int v3)]) (by decide +kernel) rfl (by decide) rfl ?_
  refine Fr_iinc (i := 3) (j := 1) (v := (v3 + 1)) (lv' := [(3, .int (v3 + 1)), (2, .int (s1 ||| s0)), (0, .ref 200), (1, .int v1)]) 3 (by decide +kernel) rfl rfl (by decide) rfl ?_
  refine Fr_goto (off := (-32)) 28 (by decide +kernel) (by decide) ?_
  refine Fr_loc [2, 3, 1, 0] rfl ?_
  exact hk28 (v1, (s1 ||| s0), (v3 + 1)) M h
set_option maxRecDepth 20000 in
theorem t_X12_reach_h28 {N : Nat} {q : Int32 × Mem} {k28 : Int32 × Int32 × Int32 → Mem → Option (Int32 × Mem)} (hk28 : ∀ (a : Int32 × Int32 × Int32) (M : Mem), k28 a M = some q → Fr 200 21 3 m_X12_reach 28 [(0, .ref 200), (1, .int a.1), (2, .int a.2.1), (3, .int a.2.2)] [] M (QI q)) {v1 : Int32} {v2 : Int32} {v3 : Int32} {M : Mem} (h : f_X12_reach_h28 N k28 v1 v2 v3 M = some q) : Fr 200 21 3 m_X12_reach 28 [(0, .ref 200), (1, .int v1), (2, .int v2), (3, .int v3)] [] M (QI q) := by
  unfold f_X12_reach_h28 at h
  refine Fr_iload_n (q := 3) (i := 3) 3 (by decide +kernel) rfl rfl ?_
  refine Fr_aload_n (q := 0) (i := 0) 0 (by decide +kernel) rfl rfl ?_
  refine gf_X12_35 rfl (by decide +kernel) ob_200 ?_
  refine Fr_iconst (i := 2) (v := 2) (by decide +kernel) (by decide) ?_
  obtain ⟨hi_6, h⟩ := ck_elim h
  refine Fr_iald (by decide +kernel) ob_205 (vp_of ln_205 hi_6) ?_
  refine Fr_icmp_ge (off := 28) 63 (by decide +kernel) (by decide) (fun hc => ?_) (fun hc => ?_)
  · have h := iT hc h
    refine Fr_iload_n (q := 2) (i := 2) 2 (by decide +kernel) rfl rfl ?_
    obtain rfl := Option.some.inj h
    exact Fr_iret (by decide +kernel) rfl ⟨rfl, rfl⟩
  · have h := iF hc h
    refine Fr_iload_n (q := 2) (i := 2) 2 (by decide +kernel) rfl rfl ?_
    refine Fr_aload_n (q := 0) (i := 0) 0 (by decide +kernel) rfl rfl ?_
    refine Fr_iload_n (q := 3) (i := 3) 3 (by decide +kernel) rfl rfl ?_
    refine Fr_iload_n (q := 1) (i := 1) 1 (by decide +kernel) rfl rfl ?_
    obtain ⟨r_9, M_7, hc_8, h⟩ := bi_elim h
    refine Fr_cVb (ν := m_X12_can) (As := [.int v3, .int v1]) (st := [.int v2]) (rc := 200) (ci := 12) (d' := 2) (by decide +kernel) ml_X12_434 cv_X12_can rfl (by decide) rfl ob_200 rfl (by decide) (Nat.le_of_ble_eq_true rfl) (t_X12_can hc_8) ?_
    refine Fr_if_eq (off := 9) 54 (by decide +kernel) (by decide) (fun hc => ?_) (fun hc => ?_)
    · have h := iT hc h
      refine Fr_iconst (i := 0) (v := 0) (by decide +kernel) (by decide) ?_
      refine Fr_loc [0, 1, 3] rfl ?_
      exact t_X12_reach_b55 hk28 h
    · have h := iF hc h
      refine Fr_iconst (i := 1) (v := 1) (by decide +kernel) (by decide) ?_
      refine Fr_iload_n (q := 3) (i := 3) 3 (by decide +kernel) rfl rfl ?_
      refine Fr_ishl (by decide +kernel) ?_
      refine Fr_goto (off := 4) 55 (by decide +kernel) (by decide) ?_
      refine Fr_loc [0, 1, 3] rfl ?_
      exact t_X12_reach_b55 hk28 h
set_option maxRecDepth 20000 in
theorem t_X12_reach {N : Nat} {x1 : Int32} {M : Mem} {q : Int32 × Mem} (h : f_X12_reach N x1 M = some q) : Ev 200 21 3 m_X12_reach [.ref 200, .int x1] M (QI q) := by
  refine Ev_of_Fr (by decide +kernel) (Nat.le_of_ble_eq_true rfl) ?_
  show Fr 200 21 3 m_X12_reach 0 [(0, .ref 200), (1, .int x1)] [] M (QI q)
  unfold f_X12_reach at h
  refine Fr_aload_n (q := 0) (i := 0) 0 (by decide +kernel) rfl rfl ?_
  refine Fr_iconst (i := 0) (v := 0) (by decide +kernel) (by decide) ?_
  refine pf_X12_84 rfl (by decide +kernel) ob_200 ?_
  obtain ⟨M_1, eM_1, h⟩ := bM_elim h
  refine Fr_mem eM_1 ?_
  refine Fr_aload_n (q := 0) (i := 0) 0 (by decide +kernel) rfl rfl ?_
  refine Fr_iconst (i := 0) (v := 0) (by decide +kernel) (by decide) ?_
  refine pf_X12_87 rfl (by decide +kernel) ob_200 ?_
  obtain ⟨M_2, eM_2, h⟩ := bM_elim h
  refine Fr_mem eM_2 ?_
  refine Fr_aload_n (q := 0) (i := 0) 0 (by decide +kernel) rfl rfl ?_
  refine Fr_iload_n (q := 1) (i := 1) 1 (by decide +kernel) rfl rfl ?_
  obtain ⟨r_5, M_3, hc_4, h⟩ := bi_elim h
  refine Fr_cVb (ν := m_X12_isSet) (As := [.int x1]) (st := []) (rc := 200) (ci := 12) (d' := 1) (by decide +kernel) ml_X12_431 cv_X12_isSet rfl (by decide) rfl ob_200 rfl (by decide) (Nat.le_of_ble_eq_true rfl) (t_X12_isSet hc_4) ?_
  refine Fr_if_ne (off := 9) 24 (by decide +kernel) (by decide) (fun hc => ?_) (fun hc => ?_)
  · have h := iF hc h
    refine Fr_iconst (i := 0) (v := 0) (by decide +kernel) (by decide) ?_
    refine Fr_istore_n (q := 2) (i := 2) (lv' := [(2, .int 0), (0, .ref 200), (1, .int x1)]) (by decide +kernel) rfl (by decide) rfl ?_
    refine Fr_iconst (i := 0) (v := 0) (by decide +kernel) (by decide) ?_
    refine Fr_istore_n (q := 3) (i := 3) (lv' := [(3, .int 0), (2, .int 0), (0, .ref 200), (1, .int x1)]) (by decide +kernel) rfl (by decide) rfl ?_
    refine Fr_loc [2, 3, 1, 0] rfl ?_
    exact lp_sound (body := fun k a m => f_X12_reach_h28 N k a.1 a.2.1 a.2.2 m) (P := fun a M => Fr 200 21 3 m_X12_reach 28 [(0, .ref 200), (1, .int a.1), (2, .int a.2.1), (3, .int a.2.2)] [] M (QI q)) (fun k hk a m h => t_X12_reach_h28 hk h) N (x1, 0, 0) M_3 h
  · have h := iT hc h
    refine Fr_aload_n (q := 0) (i := 0) 0 (by decide +kernel) rfl rfl ?_
    refine Fr_iconst (i := 5) (v := 5) (by decide +kernel) (by decide) ?_
    obtain ⟨r_12, M_10, hc_11, h⟩ := bi_elim h
    refine Fr_cVi (ν := m_X12_refuse) (As := [.int 5]) (st := []) (rc := 200) (ci := 12) (d' := 0) (by decide +kernel) ml_X12_371 cv_X12_refuse rfl (by decide) rfl ob_200 rfl (by decide) (Nat.le_of_ble_eq_true rfl) (t_X12_refuse hc_11) ?_
    obtain rfl := Option.some.inj h
    exact Fr_iret (by decide +kernel) rfl ⟨rfl, rfl⟩
set_option maxRecDepth 20000 in
theorem t_X12_whyNoTries_h49 {N : Nat} {q : Int32 × Mem} {k49 : Int32 × Int32 × Int32 → Mem → Option (Int32 × Mem)} (hk49 : ∀ (a : Int32 × Int32 × Int32) (M : Mem), k49 a M = some q → Fr 200 21 2 m_X12_whyNoTries 49 [(0, .ref 200), (1, .int a.1), (2, .int a.2.1), (3, .int a.2.2)] [] M (QI q)) {v1 : Int32} {v2 : Int32} {v3 : Int32} {M : Mem} (h : f_X12_whyNoTries_h49 N k49 v1 v2 v3 M = some q) : Fr 200 21 2 m_X12_whyNoTries 49 [(0, .ref 200), (1, .int v1), (2, .int v2), (3, .int v3)] [] M (QI q) := by
  unfold f_X12_whyNoTries_h49 at h
  refine Fr_iload_n (q := 3) (i := 3) 3 (by decide +kernel) rfl rfl ?_
  refine Fr_iload_n (q := 2) (i := 2) 2 (by decide +kernel) rfl rfl ?_
  refine Fr_icmp_ge (off := 71) 122 (by decide +kernel) (by decide) (fun hc => ?_) (fun hc => ?_)
  · have h := iT hc h
    refine Fr_iconst (i := 0) (v := 0) (by decide +kernel) (by decide) ?_
    obtain rfl := Option.some.inj h
    exact Fr_iret (by decide +kernel) rfl ⟨rfl, rfl⟩
  · have h := iF hc h
    refine Fr_aload_n (q := 0) (i := 0) 0 (by decide +kernel) rfl rfl ?_
    refine Fr_iload_n (q := 1) (i := 1) 1 (by decide +kernel) rfl rfl ?_
    refine Fr_iload_n (q := 3) (i := 3) 3 (by decide +kernel) rfl rfl ?_
    obtain ⟨r_11, M_9, hc_10, h⟩ := bi_elim h
    refine Fr_cVj (ν := m_X12_numberOf) (As := [.int v1, .int v3]) (st := []) (rc := 200) (ci := 12) (d' := 0) (by decide +kernel) ml_X12_514 cv_X12_numberOf rfl (by decide) rfl ob_200 rfl (by decide) (Nat.le_of_ble_eq_true rfl) (t_X12_numberOf hc_10) ?_
    refine Fr_lstore (i := 4) (lv' := [(4, .long r_11), (0, .ref 200), (1, .int v1), (2, .int v2), (3, .int v3)]) (by decide +kernel) (by decide) rfl ?_
    refine Fr_lload (i := 4) 0 (by decide +kernel) rfl ?_
    refine Fr_lconst (i := 0) (v := 0) (by decide +kernel) (by decide) ?_
    refine Fr_ldc2 (idx := 437) (v := 999) (by decide +kernel) ll_X12_437 ?_
    obtain ⟨r_14, M_12, hc_13, h⟩ := bi_elim h
    refine Fr_cSb (ν := m_X12_isIn) (As := [.long r_11, .long 0, .long 999]) (st := []) (d' := 0) (by decide +kernel) ml_X12_119 cs_X12_isIn rfl (by decide) (Nat.le_of_ble_eq_true rfl) (t_X12_isIn hc_13) ?_
    refine Fr_if_eq (off := 43) 114 (by decide +kernel) (by decide) (fun hc => ?_) (fun hc => ?_)
    · have h := iT hc h
      refine Fr_iconst (i := 5) (v := 5) (by decide +kernel) (by decide) ?_
      obtain rfl := Option.some.inj h
      exact Fr_iret (by decide +kernel) rfl ⟨rfl, rfl⟩
    · have h := iF hc h
      refine Fr_aload_n (q := 0) (i := 0) 1 (by decide +kernel) rfl rfl ?_
      refine Fr_lload (i := 4) 0 (by decide +kernel) rfl ?_
      refine Fr_l2i (by decide +kernel) ?_
      refine Fr_bipush (i := 100) (v := 100) (by decide +kernel) (by decide) ?_
      refine Fr_idiv (by decide +kernel) (by decide) ?_
      obtain ⟨r_17, M_15, hc_16, h⟩ := bi_elim h
      refine Fr_cVb (ν := m_X12_isGateAt) (As := [.int ((Int64.toInt32 r_11) / 100)]) (st := []) (rc := 200) (ci := 12) (d' := 1) (by decide +kernel) ml_X12_380 cv_X12_isGateAt rfl (by decide) rfl ob_200 rfl (by decide) (Nat.le_of_ble_eq_true rfl) (t_X12_isGateAt hc_16) ?_
      refine Fr_if_eq (off := 30) 114 (by decide +kernel) (by decide) (fun hc => ?_) (fun hc => ?_)
      · have h := iT hc h
        refine Fr_iconst (i := 5) (v := 5) (by decide +kernel) (by decide) ?_
        obtain rfl := Option.some.inj h
        exact Fr_iret (by decide +kernel) rfl ⟨rfl, rfl⟩
      · have h := iF hc h
        refine Fr_aload_n (q := 0) (i := 0) 1 (by decide +kernel) rfl rfl ?_
        refine Fr_lload (i := 4) 0 (by decide +kernel) rfl ?_
        refine Fr_l2i (by decide +kernel) ?_
        refine Fr_bipush (i := 10) (v := 10) (by decide +kernel) (by decide) ?_
        refine Fr_idiv (by decide +kernel) (by decide) ?_
        refine Fr_bipush (i := 10) (v := 10) (by decide +kernel) (by decide) ?_
        refine Fr_irem (by decide +kernel) (by decide) ?_
        obtain ⟨r_20, M_18, hc_19, h⟩ := bi_elim h
        refine Fr_cVb (ν := m_X12_isGateAt) (As := [.int (((Int64.toInt32 r_11) / 10) - ((Int64.toInt32 r_11) / 10) / 10 * 10)]) (st := []) (rc := 200) (ci := 12) (d' := 1) (by decide +kernel) ml_X12_380 cv_X12_isGateAt rfl (by decide) rfl ob_200 rfl (by decide) (Nat.le_of_ble_eq_true rfl) (t_X12_isGateAt hc_19) ?_
        refine Fr_if_eq (off := 14) 114 (by decide +kernel) (by decide) (fun hc => ?_) (fun hc => ?_)
        · have h := iT hc h
          refine Fr_iconst (i := 5) (v := 5) (by decide +kernel) (by decide) ?_
          obtain rfl := Option.some.inj h
          exact Fr_iret (by decide +kernel) rfl ⟨rfl, rfl⟩
        · have h := iF hc h
          refine Fr_lload (i := 4) 0 (by decide +kernel) rfl ?_
          refine Fr_ldc2 (idx := 517) (v := 10) (by decide +kernel) ll_X12_517 ?_
          refine Fr_lrem (by decide +kernel) (by decide) ?_
          refine Fr_lconst (i := 1) (v := 1) (by decide +kernel) (by decide) ?_
          refine Fr_lcmp (by decide +kernel) ?_
          refine Fr_if_le (off := 5) 116 (by decide +kernel) (by decide) (fun hc => ?_) (fun hc => ?_)
          · have h := iT hc h
            refine Fr_iinc (i := 3) (j := 1) (v := (v3 + 1)) (lv' := [(3, .int (v3 + 1)), (4, .long r_11), (0, .ref 200), (1, .int v1), (2, .int v2)]) 4 (by decide +kernel) rfl rfl (by decide) rfl ?_
            refine Fr_goto (off := (-70)) 49 (by decide +kernel) (by decide) ?_
            refine Fr_loc [2, 3, 4, 0] rfl ?_
            exact hk49 (v1, v2, (v3 + 1)) M_18 h
          · have h := iF hc h
            refine Fr_iconst (i := 5) (v := 5) (by decide +kernel) (by decide) ?_
            obtain rfl := Option.some.inj h
            exact Fr_iret (by decide +kernel) rfl ⟨rfl, rfl⟩
set_option maxRecDepth 20000 in
theorem t_X12_whyNoTries {N : Nat} {x1 : Int32} {x2 : Int32} {M : Mem} {q : Int32 × Mem} (h : f_X12_whyNoTries N x1 x2 M = some q) : Ev 200 21 2 m_X12_whyNoTries [.ref 200, .int x1, .int x2] M (QI q) := by
  refine Ev_of_Fr (by decide +kernel) (Nat.le_of_ble_eq_true rfl) ?_
  show Fr 200 21 2 m_X12_whyNoTries 0 [(0, .ref 200), (1, .int x1), (2, .int x2)] [] M (QI q)
  unfold f_X12_whyNoTries at h
  refine Fr_aload_n (q := 0) (i := 0) 0 (by decide +kernel) rfl rfl ?_
  refine Fr_iload_n (q := 1) (i := 1) 1 (by decide +kernel) rfl rfl ?_
  obtain ⟨r_3, M_1, hc_2, h⟩ := bi_elim h
  refine Fr_cVb (ν := m_X12_isTray) (As := [.int x1]) (st := []) (rc := 200) (ci := 12) (d' := 1) (by decide +kernel) ml_X12_399 cv_X12_isTray rfl (by decide) rfl ob_200 rfl (by decide) (Nat.le_of_ble_eq_true rfl) (t_X12_isTray hc_2) ?_
  refine Fr_if_ne (off := 5) 10 (by decide +kernel) (by decide) (fun hc => ?_) (fun hc => ?_)
  · have h := iF hc h
    refine Fr_aload_n (q := 0) (i := 0) 0 (by decide +kernel) rfl rfl ?_
    refine gf_X12_17 rfl (by decide +kernel) ob_200 ?_
    refine Fr_iload_n (q := 1) (i := 1) 1 (by decide +kernel) rfl rfl ?_
    obtain ⟨hi_4, h⟩ := ck_elim h
    refine Fr_iald (by decide +kernel) ob_202 (vp_of ln_202 hi_4) ?_
    refine Fr_if_ge (off := 5) 21 (by decide +kernel) (by decide) (fun hc => ?_) (fun hc => ?_)
    · have h := iT hc h
      refine Fr_aload_n (q := 0) (i := 0) 0 (by decide +kernel) rfl rfl ?_
      refine gf_X12_17 rfl (by decide +kernel) ob_200 ?_
      refine Fr_iload_n (q := 1) (i := 1) 1 (by decide +kernel) rfl rfl ?_
      obtain ⟨hi_5, h⟩ := ck_elim h
      refine Fr_iald (by decide +kernel) ob_202 (vp_of ln_202 hi_5) ?_
      refine Fr_iload_n (q := 2) (i := 2) 2 (by decide +kernel) rfl rfl ?_
      refine Fr_icmp_ge (off := 5) 33 (by decide +kernel) (by decide) (fun hc => ?_) (fun hc => ?_)
      · have h := iT hc h
        refine Fr_iload_n (q := 2) (i := 2) 2 (by decide +kernel) rfl rfl ?_
        refine Fr_i2l (by decide +kernel) ?_
        refine Fr_lconst (i := 0) (v := 0) (by decide +kernel) (by decide) ?_
        refine Fr_ldc2 (idx := 512) (v := 60) (by decide +kernel) ll_X12_512 ?_
        obtain ⟨r_8, M_6, hc_7, h⟩ := bi_elim h
        refine Fr_cSb (ν := m_X12_isIn) (As := [.long (Int32.toInt64 x2), .long 0, .long 60]) (st := []) (d' := 0) (by decide +kernel) ml_X12_119 cs_X12_isIn rfl (by decide) (Nat.le_of_ble_eq_true rfl) (t_X12_isIn hc_7) ?_
        refine Fr_if_ne (off := 5) 47 (by decide +kernel) (by decide) (fun hc => ?_) (fun hc => ?_)
        · have h := iF hc h
          refine Fr_iconst (i := 0) (v := 0) (by decide +kernel) (by decide) ?_
          refine Fr_istore_n (q := 3) (i := 3) (lv' := [(3, .int 0), (0, .ref 200), (1, .int x1), (2, .int x2)]) (by decide +kernel) rfl (by decide) rfl ?_
          refine Fr_loc [1, 2, 3, 0] rfl ?_
          exact lp_sound (body := fun k a m => f_X12_whyNoTries_h49 N k a.1 a.2.1 a.2.2 m) (P := fun a M => Fr 200 21 2 m_X12_whyNoTries 49 [(0, .ref 200), (1, .int a.1), (2, .int a.2.1), (3, .int a.2.2)] [] M (QI q)) (fun k hk a m h => t_X12_whyNoTries_h49 hk h) N (x1, x2, 0) M_6 h
        · have h := iT hc h
          refine Fr_iconst (i := 5) (v := 5) (by decide +kernel) (by decide) ?_
          obtain rfl := Option.some.inj h
          exact Fr_iret (by decide +kernel) rfl ⟨rfl, rfl⟩
      · have h := iF hc h
        refine Fr_iconst (i := 4) (v := 4) (by decide +kernel) (by decide) ?_
        obtain rfl := Option.some.inj h
        exact Fr_iret (by decide +kernel) rfl ⟨rfl, rfl⟩
    · have h := iF hc h
      refine Fr_iconst (i := 3) (v := 3) (by decide +kernel) (by decide) ?_
      obtain rfl := Option.some.inj h
      exact Fr_iret (by decide +kernel) rfl ⟨rfl, rfl⟩
  · have h := iT hc h
    refine Fr_iconst (i := 1) (v := 1) (by decide +kernel) (by decide) ?_
    obtain rfl := Option.some.inj h
    exact Fr_iret (by decide +kernel) rfl ⟨rfl, rfl⟩
set_option maxRecDepth 20000 in
theorem t_X12_laysTries_b74 {N : Nat} {q : Mem} {k23 : Int32 × Int32 × Int32 → Mem → Option (Mem)} (hk23 : ∀ (a : Int32 × Int32 × Int32) (M : Mem), k23 a M = some q → Fr 200 21 1 m_X12_laysTries 23 [(0, .ref 200), (1, .int a.1), (2, .int a.2.1), (3, .int a.2.2)] [] M (QV q)) {v1 : Int32} {v2 : Int32} {v3 : Int32} {s0 : Int32} {s1 : Int32} {s2 : Int32} {M : Mem} (h : f_X12_laysTries_b74 N k23 v1 v2 v3 s0 s1 s2 M = some q) : Fr 200 21 1 m_X12_laysTries 74 [(0, .ref 200), (1, .int v1), (2, .int v2), (3, .int v3)] [.int s0, .int s1, .int s2, .ref 216] M (QV q) := by
  unfold f_X12_laysTries_b74 at h
  refine Fr_ior (by decide +kernel) ?_
  obtain ⟨hi_5, h⟩ := ck_elim h
  refine Fr_iast (by decide +kernel) ob_216 (vp_of ln_216 hi_5) ?_
  obtain ⟨M_6, eM_6, h⟩ := bM_elim h
  refine Fr_mem eM_6 ?_
  refine Fr_iinc (i := 3) (j := 1) (v := (v3 + 1)) (lv' := [(3, .int (v3 + 1)), (0, .ref 200), (1, .int v1), (2, .int v2)]) 3 (by decide +kernel) rfl rfl (by decide) rfl ?_
  refine Fr_goto (off := (-56)) 23 (by decide +kernel) (by decide) ?_
  refine Fr_loc [1, 2, 3, 0] rfl ?_
  exact hk23 (v1, v2, (v3 + 1)) M_6 h
set_option maxRecDepth 20000 in
theorem t_X12_laysTries_h23 {N : Nat} {q : Mem} {k23 : Int32 × Int32 × Int32 → Mem → Option (Mem)} (hk23 : ∀ (a : Int32 × Int32 × Int32) (M : Mem), k23 a M = some q → Fr 200 21 1 m_X12_laysTries 23 [(0, .ref 200), (1, .int a.1), (2, .int a.2.1), (3, .int a.2.2)] [] M (QV q)) {v1 : Int32} {v2 : Int32} {v3 : Int32} {M : Mem} (h : f_X12_laysTries_h23 N k23 v1 v2 v3 M = some q) : Fr 200 21 1 m_X12_laysTries 23 [(0, .ref 200), (1, .int v1), (2, .int v2), (3, .int v3)] [] M (QV q) := by
  unfold f_X12_laysTries_h23 at h
  refine Fr_iload_n (q := 3) (i := 3) 3 (by decide +kernel) rfl rfl ?_
  refine Fr_iload_n (q := 2) (i := 2) 2 (by decide +kernel) rfl rfl ?_
  refine Fr_icmp_ge (off := 57) 82 (by decide +kernel) (by decide) (fun hc => ?_) (fun hc => ?_)
  · have h := iT hc h
    obtain rfl := Option.some.inj h
    exact Fr_vret (by decide +kernel) rfl ⟨rfl, rfl⟩
  · have h := iF hc h
    refine Fr_aload_n (q := 0) (i := 0) 0 (by decide +kernel) rfl rfl ?_
    refine Fr_iload_n (q := 1) (i := 1) 1 (by decide +kernel) rfl rfl ?_
    refine Fr_iload_n (q := 3) (i := 3) 3 (by decide +kernel) rfl rfl ?_
    obtain ⟨r_3, M_1, hc_2, h⟩ := bi_elim h
    refine Fr_cVj (ν := m_X12_numberOf) (As := [.int v1, .int v3]) (st := []) (rc := 200) (ci := 12) (d' := 0) (by decide +kernel) ml_X12_514 cv_X12_numberOf rfl (by decide) rfl ob_200 rfl (by decide) (Nat.le_of_ble_eq_true rfl) (t_X12_numberOf hc_2) ?_
    refine Fr_l2i (by decide +kernel) ?_
    refine Fr_istore (i := 4) (lv' := [(4, .int (Int64.toInt32 r_3)), (0, .ref 200), (1, .int v1), (2, .int v2), (3, .int v3)]) (by decide +kernel) (by decide) rfl ?_
    refine Fr_aload_n (q := 0) (i := 0) 1 (by decide +kernel) rfl rfl ?_
    refine gf_X12_69 rfl (by decide +kernel) ob_200 ?_
    refine Fr_bipush (i := 6) (v := 6) (by decide +kernel) (by decide) ?_
    refine Fr_iload (i := 4) 0 (by decide +kernel) rfl ?_
    refine Fr_bipush (i := 100) (v := 100) (by decide +kernel) (by decide) ?_
    refine Fr_idiv (by decide +kernel) (by decide) ?_
    refine Fr_imul (by decide +kernel) ?_
    refine Fr_iload (i := 4) 0 (by decide +kernel) rfl ?_
    refine Fr_bipush (i := 10) (v := 10) (by decide +kernel) (by decide) ?_
    refine Fr_idiv (by decide +kernel) (by decide) ?_
    refine Fr_bipush (i := 10) (v := 10) (by decide +kernel) (by decide) ?_
    refine Fr_irem (by decide +kernel) (by decide) ?_
    refine Fr_iadd (by decide +kernel) ?_
    refine Fr_dup2 (by decide +kernel) rfl rfl ?_
    obtain ⟨hi_4, h⟩ := ck_elim h
    refine Fr_iald (by decide +kernel) ob_216 (vp_of ln_216 hi_4) ?_
    refine Fr_iload (i := 4) 0 (by decide +kernel) rfl ?_
    refine Fr_bipush (i := 10) (v := 10) (by decide +kernel) (by decide) ?_
    refine Fr_irem (by decide +kernel) (by decide) ?_
    refine Fr_iconst (i := 1) (v := 1) (by decide +kernel) (by decide) ?_
    refine Fr_icmp_ne (off := 7) 73 (by decide +kernel) (by decide) (fun hc => ?_) (fun hc => ?_)
    · have h := iF hc h
      refine Fr_iconst (i := 1) (v := 1) (by decide +kernel) (by decide) ?_
      refine Fr_loc [1, 2, 3, 4] rfl ?_
      exact t_X12_laysTries_b74 hk23 h
    · have h := iT hc h
      refine Fr_iconst (i := 2) (v := 2) (by decide +kernel) (by decide) ?_
      refine Fr_goto (off := 4) 74 (by decide +kernel) (by decide) ?_
      refine Fr_loc [1, 2, 3, 4] rfl ?_
      exact t_X12_laysTries_b74 hk23 h
set_option maxRecDepth 20000 in
theorem t_X12_laysTries_h2 {N : Nat} {q : Mem} {k2 : Int32 × Int32 × Int32 → Mem → Option (Mem)} (hk2 : ∀ (a : Int32 × Int32 × Int32) (M : Mem), k2 a M = some q → Fr 200 21 1 m_X12_laysTries 2 [(0, .ref 200), (1, .int a.1), (2, .int a.2.1), (3, .int a.2.2)] [] M (QV q)) {v1 : Int32} {v2 : Int32} {v3 : Int32} {M : Mem} (h : f_X12_laysTries_h2 N k2 v1 v2 v3 M = some q) : Fr 200 21 1 m_X12_laysTries 2 [(0, .ref 200), (1, .int v1), (2, .int v2), (3, .int v3)] [] M (QV q) := by
  unfold f_X12_laysTries_h2 at h
  refine Fr_iload_n (q := 3) (i := 3) 3 (by decide +kernel) rfl rfl ?_
  refine Fr_bipush (i := 36) (v := 36) (by decide +kernel) (by decide) ?_
  refine Fr_icmp_ge (off := 16) 21 (by decide +kernel) (by decide) (fun hc => ?_) (fun hc => ?_)
  · have h := iT hc h
    refine Fr_iconst (i := 0) (v := 0) (by decide +kernel) (by decide) ?_
    refine Fr_istore_n (q := 3) (i := 3) (lv' := [(3, .int 0), (0, .ref 200), (1, .int v1), (2, .int v2)]) (by decide +kernel) rfl (by decide) rfl ?_
    refine Fr_loc [1, 2, 3, 0] rfl ?_
    exact lp_sound (body := fun k a m => f_X12_laysTries_h23 N k a.1 a.2.1 a.2.2 m) (P := fun a M => Fr 200 21 1 m_X12_laysTries 23 [(0, .ref 200), (1, .int a.1), (2, .int a.2.1), (3, .int a.2.2)] [] M (QV q)) (fun k hk a m h => t_X12_laysTries_h23 hk h) N (v1, v2, 0) M h
  · have h := iF hc h
    refine Fr_aload_n (q := 0) (i := 0) 0 (by decide +kernel) rfl rfl ?_
    refine gf_X12_69 rfl (by decide +kernel) ob_200 ?_
    refine Fr_iload_n (q := 3) (i := 3) 3 (by decide +kernel) rfl rfl ?_
    refine Fr_iconst (i := 0) (v := 0) (by decide +kernel) (by decide) ?_
    obtain ⟨hi_7, h⟩ := ck_elim h
    refine Fr_iast (by decide +kernel) ob_216 (vp_of ln_216 hi_7) ?_
    obtain ⟨M_8, eM_8, h⟩ := bM_elim h
    refine Fr_mem eM_8 ?_
    refine Fr_iinc (i := 3) (j := 1) (v := (v3 + 1)) (lv' := [(3, .int (v3 + 1)), (0, .ref 200), (1, .int v1), (2, .int v2)]) 3 (by decide +kernel) rfl rfl (by decide) rfl ?_
    refine Fr_goto (off := (-16)) 2 (by decide +kernel) (by decide) ?_
    refine Fr_loc [1, 2, 3, 0] rfl ?_
    exact hk2 (v1, v2, (v3 + 1)) M_8 h
set_option maxRecDepth 20000 in
theorem t_X12_laysTries {N : Nat} {x1 : Int32} {x2 : Int32} {M : Mem} {q : Mem} (h : f_X12_laysTries N x1 x2 M = some q) : Ev 200 21 1 m_X12_laysTries [.ref 200, .int x1, .int x2] M (QV q) := by
  refine Ev_of_Fr (by decide +kernel) (Nat.le_of_ble_eq_true rfl) ?_
  show Fr 200 21 1 m_X12_laysTries 0 [(0, .ref 200), (1, .int x1), (2, .int x2)] [] M (QV q)
  unfold f_X12_laysTries at h
  refine Fr_iconst (i := 0) (v := 0) (by decide +kernel) (by decide) ?_
  refine Fr_istore_n (q := 3) (i := 3) (lv' := [(3, .int 0), (0, .ref 200), (1, .int x1), (2, .int x2)]) (by decide +kernel) rfl (by decide) rfl ?_
  refine Fr_loc [1, 2, 3, 0] rfl ?_
  exact lp_sound (body := fun k a m => f_X12_laysTries_h2 N k a.1 a.2.1 a.2.2 m) (P := fun a M => Fr 200 21 1 m_X12_laysTries 2 [(0, .ref 200), (1, .int a.1), (2, .int a.2.1), (3, .int a.2.2)] [] M (QV q)) (fun k hk a m h => t_X12_laysTries_h2 hk h) N (x1, x2, 0) M h
set_option maxRecDepth 20000 in
theorem t_X12_canFit_b49 {N : Nat} {q : Bool × Mem} {k21 : Int32 × Int32 × Int32 → Mem → Option (Bool × Mem)} (hk21 : ∀ (a : Int32 × Int32 × Int32) (M : Mem), k21 a M = some q → Fr 200 21 0 m_X12_canFit 21 [(0, .ref 200), (1, .int a.1), (2, .int a.2.1), (3, .int a.2.2)] [] M (QB q)) {v1 : Int32} {v2 : Int32} {v3 : Int32} {M : Mem} (h : f_X12_canFit_b49 N k21 v1 v2 v3 M = some q) : Fr 200 21 0 m_X12_canFit 49 [(0, .ref 200), (1, .int v1), (2, .int v2), (3, .int v3)] [] M (QB q) := by
  unfold f_X12_canFit_b49 at h
  refine Fr_iinc (i := 3) (j := 1) (v := (v3 + 1)) (lv' := [(3, .int (v3 + 1)), (0, .ref 200), (1, .int v1), (2, .int v2)]) 3 (by decide +kernel) rfl rfl (by decide) rfl ?_
  refine Fr_goto (off := (-31)) 21 (by decide +kernel) (by decide) ?_
  refine Fr_loc [1, 2, 3, 0] rfl ?_
  exact hk21 (v1, v2, (v3 + 1)) M h
set_option maxRecDepth 20000 in
theorem t_X12_canFit_h21 {N : Nat} {q : Bool × Mem} {k21 : Int32 × Int32 × Int32 → Mem → Option (Bool × Mem)} (hk21 : ∀ (a : Int32 × Int32 × Int32) (M : Mem), k21 a M = some q → Fr 200 21 0 m_X12_canFit 21 [(0, .ref 200), (1, .int a.1), (2, .int a.2.1), (3, .int a.2.2)] [] M (QB q)) {v1 : Int32} {v2 : Int32} {v3 : Int32} {M : Mem} (h : f_X12_canFit_h21 N k21 v1 v2 v3 M = some q) : Fr 200 21 0 m_X12_canFit 21 [(0, .ref 200), (1, .int v1), (2, .int v2), (3, .int v3)] [] M (QB q) := by
  unfold f_X12_canFit_h21 at h
  refine Fr_iload_n (q := 3) (i := 3) 3 (by decide +kernel) rfl rfl ?_
  refine Fr_bipush (i := 6) (v := 6) (by decide +kernel) (by decide) ?_
  refine Fr_icmp_ge (off := 31) 55 (by decide +kernel) (by decide) (fun hc => ?_) (fun hc => ?_)
  · have h := iT hc h
    refine Fr_iconst (i := 1) (v := 1) (by decide +kernel) (by decide) ?_
    obtain rfl := Option.some.inj h
    exact Fr_zret (by decide +kernel) rfl (by decide) ⟨rfl, rfl⟩
  · have h := iF hc h
    refine Fr_iload_n (q := 3) (i := 3) 3 (by decide +kernel) rfl rfl ?_
    refine Fr_iload_n (q := 2) (i := 2) 2 (by decide +kernel) rfl rfl ?_
    refine Fr_icmp_eq (off := 20) 49 (by decide +kernel) (by decide) (fun hc => ?_) (fun hc => ?_)
    · have h := iT hc h
      exact t_X12_canFit_b49 hk21 h
    · have h := iF hc h
      refine Fr_aload_n (q := 0) (i := 0) 0 (by decide +kernel) rfl rfl ?_
      refine gf_X12_69 rfl (by decide +kernel) ob_200 ?_
      refine Fr_bipush (i := 6) (v := 6) (by decide +kernel) (by decide) ?_
      refine Fr_iload_n (q := 1) (i := 1) 1 (by decide +kernel) rfl rfl ?_
      refine Fr_imul (by decide +kernel) ?_
      refine Fr_iload_n (q := 3) (i := 3) 3 (by decide +kernel) rfl rfl ?_
      refine Fr_iadd (by decide +kernel) ?_
      obtain ⟨hi_2, h⟩ := ck_elim h
      refine Fr_iald (by decide +kernel) ob_216 (vp_of ln_216 hi_2) ?_
      refine Fr_iconst (i := 1) (v := 1) (by decide +kernel) (by decide) ?_
      refine Fr_icmp_le (off := 5) 49 (by decide +kernel) (by decide) (fun hc => ?_) (fun hc => ?_)
      · have h := iT hc h
        exact t_X12_canFit_b49 hk21 h
      · have h := iF hc h
        refine Fr_iconst (i := 0) (v := 0) (by decide +kernel) (by decide) ?_
        obtain rfl := Option.some.inj h
        exact Fr_zret (by decide +kernel) rfl (by decide) ⟨rfl, rfl⟩
set_option maxRecDepth 20000 in
theorem t_X12_canFit {N : Nat} {x1 : Int32} {x2 : Int32} {M : Mem} {q : Bool × Mem} (h : f_X12_canFit N x1 x2 M = some q) : Ev 200 21 0 m_X12_canFit [.ref 200, .int x1, .int x2] M (QB q) := by
  refine Ev_of_Fr (by decide +kernel) (Nat.le_of_ble_eq_true rfl) ?_
  show Fr 200 21 0 m_X12_canFit 0 [(0, .ref 200), (1, .int x1), (2, .int x2)] [] M (QB q)
  unfold f_X12_canFit at h
  refine Fr_aload_n (q := 0) (i := 0) 0 (by decide +kernel) rfl rfl ?_
  refine gf_X12_69 rfl (by decide +kernel) ob_200 ?_
  refine Fr_bipush (i := 6) (v := 6) (by decide +kernel) (by decide) ?_
  refine Fr_iload_n (q := 1) (i := 1) 1 (by decide +kernel) rfl rfl ?_
  refine Fr_imul (by decide +kernel) ?_
  refine Fr_iload_n (q := 2) (i := 2) 2 (by decide +kernel) rfl rfl ?_
  refine Fr_iadd (by decide +kernel) ?_
  obtain ⟨hi_1, h⟩ := ck_elim h
  refine Fr_iald (by decide +kernel) ob_216 (vp_of ln_216 hi_1) ?_
  refine Fr_iconst (i := 1) (v := 1) (by decide +kernel) (by decide) ?_
  refine Fr_iand (by decide +kernel) ?_
  refine Fr_iconst (i := 1) (v := 1) (by decide +kernel) (by decide) ?_
  refine Fr_icmp_ne (off := 5) 19 (by decide +kernel) (by decide) (fun hc => ?_) (fun hc => ?_)
  · have h := iF hc h
    refine Fr_iconst (i := 0) (v := 0) (by decide +kernel) (by decide) ?_
    refine Fr_istore_n (q := 3) (i := 3) (lv' := [(3, .int 0), (0, .ref 200), (1, .int x1), (2, .int x2)]) (by decide +kernel) rfl (by decide) rfl ?_
    refine Fr_loc [1, 2, 3, 0] rfl ?_
    exact lp_sound (body := fun k a m => f_X12_canFit_h21 N k a.1 a.2.1 a.2.2 m) (P := fun a M => Fr 200 21 0 m_X12_canFit 21 [(0, .ref 200), (1, .int a.1), (2, .int a.2.1), (3, .int a.2.2)] [] M (QB q)) (fun k hk a m h => t_X12_canFit_h21 hk h) N (x1, x2, 0) M h
  · have h := iT hc h
    refine Fr_iconst (i := 0) (v := 0) (by decide +kernel) (by decide) ?_
    obtain rfl := Option.some.inj h
    exact Fr_zret (by decide +kernel) rfl (by decide) ⟨rfl, rfl⟩
set_option maxRecDepth 20000 in
theorem t_X12_waysFrom_b109 {N : Nat} {rc : Int32 → Int32 → Mem → Option (Int32 × Mem)} {e0 : Nat} (hrc : ∀ (x1 : Int32) (x2 : Int32) (M : Mem) (q : Int32 × Mem), rc x1 x2 M = some q → Ev 200 21 e0 m_X12_waysFrom [.ref 200, .int x1, .int x2] M (QI q)) {q : Int32 × Mem} {k50 : Int32 × Int32 × Int32 × Int32 → Mem → Option (Int32 × Mem)} (hk50 : ∀ (a : Int32 × Int32 × Int32 × Int32) (M : Mem), k50 a M = some q → Fr 200 21 (e0 + 1) m_X12_waysFrom 50 [(0, .ref 200), (1, .int a.1), (2, .int a.2.1), (3, .int a.2.2.1), (4, .int a.2.2.2)] [] M (QI q)) {v1 : Int32} {v2 : Int32} {v3 : Int32} {v4 : Int32} {M : Mem} (h : f_X12_waysFrom_b109 N rc k50 v1 v2 v3 v4 M = some q) : Fr 200 21 (e0 + 1) m_X12_waysFrom 109 [(0, .ref 200), (1, .int v1), (2, .int v2), (3, .int v3), (4, .int v4)] [] M (QI q) := by
  unfold f_X12_waysFrom_b109 at h
  refine Fr_iinc (i := 4) (j := 1) (v := (v4 + 1)) (lv' := [(4, .int (v4 + 1)), (0, .ref 200), (1, .int v1), (2, .int v2), (3, .int v3)]) 4 (by decide +kernel) rfl rfl (by decide) rfl ?_
  refine Fr_goto (off := (-62)) 50 (by decide +kernel) (by decide) ?_
  refine Fr_loc [1, 2, 3, 4, 0] rfl ?_
  exact hk50 (v1, v2, v3, (v4 + 1)) M h
set_option maxRecDepth 20000 in
theorem t_X12_waysFrom_h50 {N : Nat} {rc : Int32 → Int32 → Mem → Option (Int32 × Mem)} {e0 : Nat} (hrc : ∀ (x1 : Int32) (x2 : Int32) (M : Mem) (q : Int32 × Mem), rc x1 x2 M = some q → Ev 200 21 e0 m_X12_waysFrom [.ref 200, .int x1, .int x2] M (QI q)) {q : Int32 × Mem} {k50 : Int32 × Int32 × Int32 × Int32 → Mem → Option (Int32 × Mem)} (hk50 : ∀ (a : Int32 × Int32 × Int32 × Int32) (M : Mem), k50 a M = some q → Fr 200 21 (e0 + 1) m_X12_waysFrom 50 [(0, .ref 200), (1, .int a.1), (2, .int a.2.1), (3, .int a.2.2.1), (4, .int a.2.2.2)] [] M (QI q)) {v1 : Int32} {v2 : Int32} {v3 : Int32} {v4 : Int32} {M : Mem} (h : f_X12_waysFrom_h50 N rc k50 v1 v2 v3 v4 M = some q) : Fr 200 21 (e0 + 1) m_X12_waysFrom 50 [(0, .ref 200), (1, .int v1), (2, .int v2), (3, .int v3), (4, .int v4)] [] M (QI q) := by
  unfold f_X12_waysFrom_h50 at h
  refine Fr_iload (i := 4) 4 (by decide +kernel) rfl ?_
  refine Fr_aload_n (q := 0) (i := 0) 0 (by decide +kernel) rfl rfl ?_
  refine gf_X12_35 rfl (by decide +kernel) ob_200 ?_
  refine Fr_iconst (i := 2) (v := 2) (by decide +kernel) (by decide) ?_
  obtain ⟨hi_2, h⟩ := ck_elim h
  refine Fr_iald (by decide +kernel) ob_205 (vp_of ln_205 hi_2) ?_
  refine Fr_icmp_ge (off := 57) 115 (by decide +kernel) (by decide) (fun hc => ?_) (fun hc => ?_)
  · have h := iT hc h
    refine Fr_iload_n (q := 3) (i := 3) 3 (by decide +kernel) rfl rfl ?_
    obtain rfl := Option.some.inj h
    exact Fr_iret (by decide +kernel) rfl ⟨rfl, rfl⟩
  · have h := iF hc h
    refine Fr_iload_n (q := 2) (i := 2) 2 (by decide +kernel) rfl rfl ?_
    refine Fr_iload (i := 4) 4 (by decide +kernel) rfl ?_
    obtain ⟨r_5, M_3, hc_4, h⟩ := bi_elim h
    refine Fr_cSb (ν := m_X12_has) (As := [.int v2, .int v4]) (st := []) (d' := 0) (by decide +kernel) ml_X12_123 cs_X12_has rfl (by omega) (Nat.le_of_ble_eq_true rfl) (t_X12_has hc_4) ?_
    refine Fr_if_eq (off := 42) 109 (by decide +kernel) (by decide) (fun hc => ?_) (fun hc => ?_)
    · have h := iT hc h
      exact t_X12_waysFrom_b109 hrc hk50 h
    · have h := iF hc h
      refine Fr_aload_n (q := 0) (i := 0) 0 (by decide +kernel) rfl rfl ?_
      refine Fr_iload_n (q := 1) (i := 1) 1 (by decide +kernel) rfl rfl ?_
      refine Fr_iload (i := 4) 4 (by decide +kernel) rfl ?_
      obtain ⟨r_8, M_6, hc_7, h⟩ := bi_elim h
      refine Fr_cVb (ν := m_X12_canFit) (As := [.int v1, .int v4]) (st := []) (rc := 200) (ci := 12) (d' := 0) (by decide +kernel) ml_X12_519 cv_X12_canFit rfl (by decide) rfl ob_200 rfl (by omega) (Nat.le_of_ble_eq_true rfl) (t_X12_canFit hc_7) ?_
      refine Fr_if_ne (off := 6) 83 (by decide +kernel) (by decide) (fun hc => ?_) (fun hc => ?_)
      · have h := iF hc h
        refine Fr_aload_n (q := 0) (i := 0) 0 (by decide +kernel) rfl rfl ?_
        refine gf_X12_75 rfl (by decide +kernel) ob_200 ?_
        refine Fr_iload_n (q := 1) (i := 1) 1 (by decide +kernel) rfl rfl ?_
        refine Fr_iload (i := 4) 4 (by decide +kernel) rfl ?_
        obtain ⟨hi_9, h⟩ := ck_elim h
        refine Fr_iast (by decide +kernel) ob_218 (vp_of ln_218 hi_9) ?_
        obtain ⟨M_10, eM_10, h⟩ := bM_elim h
        refine Fr_mem eM_10 ?_
        refine Fr_iload_n (q := 3) (i := 3) 3 (by decide +kernel) rfl rfl ?_
        refine Fr_aload_n (q := 0) (i := 0) 0 (by decide +kernel) rfl rfl ?_
        refine Fr_iload_n (q := 1) (i := 1) 1 (by decide +kernel) rfl rfl ?_
        refine Fr_iconst (i := 1) (v := 1) (by decide +kernel) (by decide) ?_
        refine Fr_iadd (by decide +kernel) ?_
        refine Fr_iload_n (q := 2) (i := 2) 2 (by decide +kernel) rfl rfl ?_
        refine Fr_iconst (i := 1) (v := 1) (by decide +kernel) (by decide) ?_
        refine Fr_iload (i := 4) 4 (by decide +kernel) rfl ?_
        refine Fr_ishl (by decide +kernel) ?_
        refine Fr_iconst (i := (-1)) (v := (-1)) (by decide +kernel) (by decide) ?_
        refine Fr_ixor (by decide +kernel) ?_
        refine Fr_iand (by decide +kernel) ?_
        obtain ⟨r_13, M_11, hc_12, h⟩ := bi_elim h
        refine Fr_cVi (ν := m_X12_waysFrom) (As := [.int (v1 + 1), .int (v2 &&& ((1 <<< (v4 &&& 31)) ^^^ (-1)))]) (st := [.int v3]) (rc := 200) (ci := 12) (d' := e0) (by decide +kernel) ml_X12_522 cv_X12_waysFrom rfl (by decide) rfl ob_200 rfl (by omega) (Nat.le_of_ble_eq_true rfl) (hrc _ _ _ _ hc_12) ?_
        refine Fr_iadd (by decide +kernel) ?_
        refine Fr_istore_n (q := 3) (i := 3) (lv' := [(3, .int (v3 + r_13)), (0, .ref 200), (1, .int v1), (2, .int v2), (4, .int v4)]) (by decide +kernel) rfl (by decide) rfl ?_
        refine Fr_loc [1, 2, 3, 0, 4] rfl ?_
        exact t_X12_waysFrom_b109 hrc hk50 h
      · have h := iT hc h
        refine Fr_goto (off := 29) 109 (by decide +kernel) (by decide) ?_
        exact t_X12_waysFrom_b109 hrc hk50 h
set_option maxRecDepth 20000 in
theorem t_X12_waysFrom_h12 {N : Nat} {rc : Int32 → Int32 → Mem → Option (Int32 × Mem)} {e0 : Nat} (hrc : ∀ (x1 : Int32) (x2 : Int32) (M : Mem) (q : Int32 × Mem), rc x1 x2 M = some q → Ev 200 21 e0 m_X12_waysFrom [.ref 200, .int x1, .int x2] M (QI q)) {q : Int32 × Mem} {k12 : Int32 × Int32 → Mem → Option (Int32 × Mem)} (hk12 : ∀ (a : Int32 × Int32) (M : Mem), k12 a M = some q → Fr 200 21 (e0 + 1) m_X12_waysFrom 12 [(0, .ref 200), (1, .int a.1), (3, .int a.2)] [] M (QI q)) {v1 : Int32} {v3 : Int32} {M : Mem} (h : f_X12_waysFrom_h12 N rc k12 v1 v3 M = some q) : Fr 200 21 (e0 + 1) m_X12_waysFrom 12 [(0, .ref 200), (1, .int v1), (3, .int v3)] [] M (QI q) := by
  unfold f_X12_waysFrom_h12 at h
  refine Fr_iload_n (q := 3) (i := 3) 2 (by decide +kernel) rfl rfl ?_
  refine Fr_iload_n (q := 1) (i := 1) 1 (by decide +kernel) rfl rfl ?_
  refine Fr_icmp_ge (off := 29) 43 (by decide +kernel) (by decide) (fun hc => ?_) (fun hc => ?_)
  · have h := iT hc h
    refine Fr_iconst (i := 1) (v := 1) (by decide +kernel) (by decide) ?_
    obtain rfl := Option.some.inj h
    exact Fr_iret (by decide +kernel) rfl ⟨rfl, rfl⟩
  · have h := iF hc h
    refine Fr_aload_n (q := 0) (i := 0) 0 (by decide +kernel) rfl rfl ?_
    refine gf_X12_72 rfl (by decide +kernel) ob_200 ?_
    refine Fr_bipush (i := 6) (v := 6) (by decide +kernel) (by decide) ?_
    refine Fr_iload_n (q := 3) (i := 3) 2 (by decide +kernel) rfl rfl ?_
    refine Fr_imul (by decide +kernel) ?_
    refine Fr_aload_n (q := 0) (i := 0) 0 (by decide +kernel) rfl rfl ?_
    refine gf_X12_75 rfl (by decide +kernel) ob_200 ?_
    refine Fr_iload_n (q := 3) (i := 3) 2 (by decide +kernel) rfl rfl ?_
    obtain ⟨hi_14, h⟩ := ck_elim h
    refine Fr_iald (by decide +kernel) ob_218 (vp_of ln_218 hi_14) ?_
    refine Fr_iadd (by decide +kernel) ?_
    refine Fr_dup2 (by decide +kernel) rfl rfl ?_
    obtain ⟨hi_15, h⟩ := ck_elim h
    refine Fr_iald (by decide +kernel) ob_217 (vp_of ln_217 hi_15) ?_
    refine Fr_iconst (i := 1) (v := 1) (by decide +kernel) (by decide) ?_
    refine Fr_iadd (by decide +kernel) ?_
    obtain ⟨hi_16, h⟩ := ck_elim h
    refine Fr_iast (by decide +kernel) ob_217 (vp_of ln_217 hi_16) ?_
    obtain ⟨M_17, eM_17, h⟩ := bM_elim h
    refine Fr_mem eM_17 ?_
    refine Fr_iinc (i := 3) (j := 1) (v := (v3 + 1)) (lv' := [(3, .int (v3 + 1)), (0, .ref 200), (1, .int v1)]) 2 (by decide +kernel) rfl rfl (by decide) rfl ?_
    refine Fr_goto (off := (-28)) 12 (by decide +kernel) (by decide) ?_
    refine Fr_loc [1, 2, 0] rfl ?_
    exact hk12 (v1, (v3 + 1)) M_17 h
set_option maxRecDepth 20000 in
theorem u_X12_waysFrom {N : Nat} {rc : Int32 → Int32 → Mem → Option (Int32 × Mem)} {e0 : Nat} (hrc : ∀ (x1 : Int32) (x2 : Int32) (M : Mem) (q : Int32 × Mem), rc x1 x2 M = some q → Ev 200 21 e0 m_X12_waysFrom [.ref 200, .int x1, .int x2] M (QI q)) {x1 : Int32} {x2 : Int32} {M : Mem} {q : Int32 × Mem} (h : g_X12_waysFrom N rc x1 x2 M = some q) : Ev 200 21 (e0 + 1) m_X12_waysFrom [.ref 200, .int x1, .int x2] M (QI q) := by
  refine Ev_of_Fr (by decide +kernel) (Nat.le_of_ble_eq_true rfl) ?_
  show Fr 200 21 (e0 + 1) m_X12_waysFrom 0 [(0, .ref 200), (1, .int x1), (2, .int x2)] [] M (QI q)
  unfold g_X12_waysFrom at h
  refine Fr_iload_n (q := 1) (i := 1) 1 (by decide +kernel) rfl rfl ?_
  refine Fr_aload_n (q := 0) (i := 0) 0 (by decide +kernel) rfl rfl ?_
  refine gf_X12_35 rfl (by decide +kernel) ob_200 ?_
  refine Fr_iconst (i := 2) (v := 2) (by decide +kernel) (by decide) ?_
  obtain ⟨hi_1, h⟩ := ck_elim h
  refine Fr_iald (by decide +kernel) ob_205 (vp_of ln_205 hi_1) ?_
  refine Fr_icmp_ne (off := 38) 45 (by decide +kernel) (by decide) (fun hc => ?_) (fun hc => ?_)
  · have h := iF hc h
    refine Fr_iconst (i := 0) (v := 0) (by decide +kernel) (by decide) ?_
    refine Fr_istore_n (q := 3) (i := 3) (lv' := [(3, .int 0), (0, .ref 200), (1, .int x1), (2, .int x2)]) (by decide +kernel) rfl (by decide) rfl ?_
    refine Fr_iconst (i := 0) (v := 0) (by decide +kernel) (by decide) ?_
    refine Fr_istore (i := 4) (lv' := [(4, .int 0), (3, .int 0), (0, .ref 200), (1, .int x1), (2, .int x2)]) (by decide +kernel) (by decide) rfl ?_
    refine Fr_loc [2, 3, 4, 1, 0] rfl ?_
    exact lp_sound (body := fun k a m => f_X12_waysFrom_h50 N rc k a.1 a.2.1 a.2.2.1 a.2.2.2 m) (P := fun a M => Fr 200 21 (e0 + 1) m_X12_waysFrom 50 [(0, .ref 200), (1, .int a.1), (2, .int a.2.1), (3, .int a.2.2.1), (4, .int a.2.2.2)] [] M (QI q)) (fun k hk a m h => t_X12_waysFrom_h50 hrc hk h) N (x1, x2, 0, 0) M h
  · have h := iT hc h
    refine Fr_iconst (i := 0) (v := 0) (by decide +kernel) (by decide) ?_
    refine Fr_istore_n (q := 3) (i := 3) (lv' := [(3, .int 0), (0, .ref 200), (1, .int x1), (2, .int x2)]) (by decide +kernel) rfl (by decide) rfl ?_
    refine Fr_loc [1, 2, 0] rfl ?_
    exact lp_sound (body := fun k a m => f_X12_waysFrom_h12 N rc k a.1 a.2 m) (P := fun a M => Fr 200 21 (e0 + 1) m_X12_waysFrom 12 [(0, .ref 200), (1, .int a.1), (3, .int a.2)] [] M (QI q)) (fun k hk a m h => t_X12_waysFrom_h12 hrc hk h) N (x1, 0) M h
theorem t_X12_waysFrom {N : Nat} : ∀ (D : Nat) {x1 : Int32} {x2 : Int32} {M : Mem} {q : Int32 × Mem}, f_X12_waysFrom N D x1 x2 M = some q → Ev 200 21 (1 * D) m_X12_waysFrom [.ref 200, .int x1, .int x2] M (QI q)
  | 0, _, _, _, _, h => by cases h
  | D + 1, _, _, _, _, h => u_X12_waysFrom (e0 := 1 * D) (rc := f_X12_waysFrom N D) (fun _ _ _ _ h => t_X12_waysFrom D h) h
