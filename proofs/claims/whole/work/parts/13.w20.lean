set_option maxRecDepth 20000 in
theorem t_X12_starts {N : Nat} {x1 : Int32} {x2 : Int32} {M : Mem} {q : Bool × Mem} (h : f_X12_starts N x1 x2 M = some q) : Ev 200 21 2 m_X12_starts [.ref 200, .int x1, .int x2] M (QB q) := by
  refine Ev_of_Fr (by decide +kernel) (Nat.le_of_ble_eq_true rfl) ?_
  show Fr 200 21 2 m_X12_starts 0 [(0, .ref 200), (1, .int x1), (2, .int x2)] [] M (QB q)
  unfold f_X12_starts at h
  refine Fr_iload_n (q := 1) (i := 1) 1 (by decide +kernel) rfl rfl ?_
  refine Fr_if_lt (off := 16) 17 (by decide +kernel) (by decide) (fun hc => ?_) (fun hc => ?_)
  · have h := iT hc h
    refine Fr_aload_n (q := 0) (i := 0) 0 (by decide +kernel) rfl rfl ?_
    refine Fr_iconst (i := 5) (v := 5) (by decide +kernel) (by decide) ?_
    obtain ⟨r_3, M_1, hc_2, h⟩ := bi_elim h
    refine Fr_cVb (ν := m_X12_no) (As := [.int 5]) (st := []) (rc := 200) (ci := 12) (d' := 0) (by decide +kernel) ml_X12_99 cv_X12_no rfl (by decide) rfl ob_200 rfl (by decide) (Nat.le_of_ble_eq_true rfl) (t_X12_no hc_2) ?_
    obtain rfl := Option.some.inj h
    exact Fr_zret (by decide +kernel) rfl (nz_b r_3) ⟨rfl, rfl⟩
  · have h := iF hc h
    refine Fr_iload_n (q := 1) (i := 1) 1 (by decide +kernel) rfl rfl ?_
    refine Fr_aload_n (q := 0) (i := 0) 0 (by decide +kernel) rfl rfl ?_
    refine gf_X12_271 rfl (by decide +kernel) ob_200 ?_
    refine Fr_icmp_gt (off := 8) 17 (by decide +kernel) (by decide) (fun hc => ?_) (fun hc => ?_)
    · have h := iT hc h
      refine Fr_aload_n (q := 0) (i := 0) 0 (by decide +kernel) rfl rfl ?_
      refine Fr_iconst (i := 5) (v := 5) (by decide +kernel) (by decide) ?_
      obtain ⟨r_6, M_4, hc_5, h⟩ := bi_elim h
      refine Fr_cVb (ν := m_X12_no) (As := [.int 5]) (st := []) (rc := 200) (ci := 12) (d' := 0) (by decide +kernel) ml_X12_99 cv_X12_no rfl (by decide) rfl ob_200 rfl (by decide) (Nat.le_of_ble_eq_true rfl) (t_X12_no hc_5) ?_
      obtain rfl := Option.some.inj h
      exact Fr_zret (by decide +kernel) rfl (nz_b r_6) ⟨rfl, rfl⟩
    · have h := iF hc h
      refine Fr_iload_n (q := 1) (i := 1) 1 (by decide +kernel) rfl rfl ?_
      refine Fr_iload_n (q := 2) (i := 2) 2 (by decide +kernel) rfl rfl ?_
      refine Fr_icmp_le (off := 9) 23 (by decide +kernel) (by decide) (fun hc => ?_) (fun hc => ?_)
      · have h := iT hc h
        refine Fr_aload_n (q := 0) (i := 0) 0 (by decide +kernel) rfl rfl ?_
        refine Fr_iload_n (q := 1) (i := 1) 1 (by decide +kernel) rfl rfl ?_
        refine pf_X12_127 rfl (by decide +kernel) ob_200 ?_
        obtain ⟨M_7, eM_7, h⟩ := bM_elim h
        refine Fr_mem eM_7 ?_
        refine Fr_aload_n (q := 0) (i := 0) 0 (by decide +kernel) rfl rfl ?_
        refine Fr_iconst (i := 0) (v := 0) (by decide +kernel) (by decide) ?_
        refine pf_X12_271 rfl (by decide +kernel) ob_200 ?_
        obtain ⟨M_8, eM_8, h⟩ := bM_elim h
        refine Fr_mem eM_8 ?_
        refine Fr_aload_n (q := 0) (i := 0) 0 (by decide +kernel) rfl rfl ?_
        refine Fr_iconst (i := 0) (v := 0) (by decide +kernel) (by decide) ?_
        refine pf_X12_130 rfl (by decide +kernel) ob_200 ?_
        obtain ⟨M_9, eM_9, h⟩ := bM_elim h
        refine Fr_mem eM_9 ?_
        refine Fr_aload_n (q := 0) (i := 0) 0 (by decide +kernel) rfl rfl ?_
        refine Fr_iconst (i := 0) (v := 0) (by decide +kernel) (by decide) ?_
        refine pf_X12_248 rfl (by decide +kernel) ob_200 ?_
        obtain ⟨M_10, eM_10, h⟩ := bM_elim h
        refine Fr_mem eM_10 ?_
        refine Fr_aload_n (q := 0) (i := 0) 0 (by decide +kernel) rfl rfl ?_
        obtain ⟨M_11, hc_12, h⟩ := bv_elim h
        refine Fr_cVv (ν := m_X12_advance) (As := []) (st := []) (rc := 200) (ci := 12) (d' := 1) (by decide +kernel) ml_X12_258 cv_X12_advance rfl (by decide) rfl ob_200 rfl (by decide) (Nat.le_of_ble_eq_true rfl) (t_X12_advance hc_12) ?_
        refine Fr_iconst (i := 1) (v := 1) (by decide +kernel) (by decide) ?_
        obtain rfl := Option.some.inj h
        exact Fr_zret (by decide +kernel) rfl (by decide) ⟨rfl, rfl⟩
      · have h := iF hc h
        refine Fr_aload_n (q := 0) (i := 0) 0 (by decide +kernel) rfl rfl ?_
        refine Fr_iconst (i := 5) (v := 5) (by decide +kernel) (by decide) ?_
        obtain ⟨r_15, M_13, hc_14, h⟩ := bi_elim h
        refine Fr_cVb (ν := m_X12_no) (As := [.int 5]) (st := []) (rc := 200) (ci := 12) (d' := 0) (by decide +kernel) ml_X12_99 cv_X12_no rfl (by decide) rfl ob_200 rfl (by decide) (Nat.le_of_ble_eq_true rfl) (t_X12_no hc_14) ?_
        obtain rfl := Option.some.inj h
        exact Fr_zret (by decide +kernel) rfl (nz_b r_15) ⟨rfl, rfl⟩
set_option maxRecDepth 20000 in
theorem t_X12_isWell_b24 {q : Bool × Mem} {s0 : Int32} {M : Mem} (h : f_X12_isWell_b24 s0 M = some q) : Fr 200 21 1 m_X12_isWell 24 [(0, .ref 200)] [.int s0, .ref 200] M (QB q) := by
  unfold f_X12_isWell_b24 at h
  refine pf_X12_32 rfl (by decide +kernel) ob_200 ?_
  obtain ⟨M_2, eM_2, h⟩ := bM_elim h
  refine Fr_mem eM_2 ?_
  refine Fr_aload_n (q := 0) (i := 0) 0 (by decide +kernel) rfl rfl ?_
  refine gf_X12_248 rfl (by decide +kernel) ob_200 ?_
  refine Fr_if_eq (off := 12) 43 (by decide +kernel) (by decide) (fun hc => ?_) (fun hc => ?_)
  · have h := iT hc h
    refine Fr_iconst (i := 1) (v := 1) (by decide +kernel) (by decide) ?_
    refine Fr_goto (off := 4) 48 (by decide +kernel) (by decide) ?_
    obtain rfl := Option.some.inj h
    exact Fr_zret (by decide +kernel) rfl (by decide) ⟨rfl, rfl⟩
  · have h := iF hc h
    refine Fr_aload_n (q := 0) (i := 0) 0 (by decide +kernel) rfl rfl ?_
    refine Fr_bipush (i := 10) (v := 10) (by decide +kernel) (by decide) ?_
    obtain ⟨r_5, M_3, hc_4, h⟩ := bi_elim h
    refine Fr_cVb (ν := m_X12_no) (As := [.int 10]) (st := []) (rc := 200) (ci := 12) (d' := 0) (by decide +kernel) ml_X12_99 cv_X12_no rfl (by decide) rfl ob_200 rfl (by decide) (Nat.le_of_ble_eq_true rfl) (t_X12_no hc_4) ?_
    refine Fr_if_eq (off := 7) 47 (by decide +kernel) (by decide) (fun hc => ?_) (fun hc => ?_)
    · have h := iT hc h
      refine Fr_iconst (i := 0) (v := 0) (by decide +kernel) (by decide) ?_
      obtain rfl := Option.some.inj h
      exact Fr_zret (by decide +kernel) rfl (by decide) ⟨rfl, rfl⟩
    · have h := iF hc h
      refine Fr_iconst (i := 1) (v := 1) (by decide +kernel) (by decide) ?_
      refine Fr_goto (off := 4) 48 (by decide +kernel) (by decide) ?_
      obtain rfl := Option.some.inj h
      exact Fr_zret (by decide +kernel) rfl (by decide) ⟨rfl, rfl⟩
set_option maxRecDepth 20000 in
theorem t_X12_isWell {M : Mem} {q : Bool × Mem} (h : f_X12_isWell M = some q) : Ev 200 21 1 m_X12_isWell [.ref 200] M (QB q) := by
  refine Ev_of_Fr (by decide +kernel) (Nat.le_of_ble_eq_true rfl) ?_
  show Fr 200 21 1 m_X12_isWell 0 [(0, .ref 200)] [] M (QB q)
  unfold f_X12_isWell at h
  refine Fr_aload_n (q := 0) (i := 0) 0 (by decide +kernel) rfl rfl ?_
  refine Fr_aload_n (q := 0) (i := 0) 0 (by decide +kernel) rfl rfl ?_
  refine gf_X12_248 rfl (by decide +kernel) ob_200 ?_
  refine pf_X12_28 rfl (by decide +kernel) ob_200 ?_
  obtain ⟨M_1, eM_1, h⟩ := bM_elim h
  refine Fr_mem eM_1 ?_
  refine Fr_aload_n (q := 0) (i := 0) 0 (by decide +kernel) rfl rfl ?_
  refine Fr_aload_n (q := 0) (i := 0) 0 (by decide +kernel) rfl rfl ?_
  refine gf_X12_248 rfl (by decide +kernel) ob_200 ?_
  refine Fr_if_ne (off := 7) 20 (by decide +kernel) (by decide) (fun hc => ?_) (fun hc => ?_)
  · have h := iF hc h
    refine Fr_aload_n (q := 0) (i := 0) 0 (by decide +kernel) rfl rfl ?_
    refine gf_X12_251 rfl (by decide +kernel) ob_200 ?_
    exact t_X12_isWell_b24 h
  · have h := iT hc h
    refine Fr_iconst (i := (-1)) (v := (-1)) (by decide +kernel) (by decide) ?_
    refine Fr_goto (off := 7) 24 (by decide +kernel) (by decide) ?_
    exact t_X12_isWell_b24 h
set_option maxRecDepth 20000 in
theorem t_X12_fault {x1 : Int32} {M : Mem} {q : Int32 × Mem} (h : f_X12_fault x1 M = some q) : Ev 200 21 0 m_X12_fault [.ref 200, .int x1] M (QI q) := by
  refine Ev_of_Fr (by decide +kernel) (Nat.le_of_ble_eq_true rfl) ?_
  show Fr 200 21 0 m_X12_fault 0 [(0, .ref 200), (1, .int x1)] [] M (QI q)
  unfold f_X12_fault at h
  refine Fr_aload_n (q := 0) (i := 0) 0 (by decide +kernel) rfl rfl ?_
  refine Fr_iconst (i := 0) (v := 0) (by decide +kernel) (by decide) ?_
  refine pf_X12_84 rfl (by decide +kernel) ob_200 ?_
  obtain ⟨M_1, eM_1, h⟩ := bM_elim h
  refine Fr_mem eM_1 ?_
  refine Fr_iload_n (q := 1) (i := 1) 1 (by decide +kernel) rfl rfl ?_
  refine Fr_if_ne (off := 10) 16 (by decide +kernel) (by decide) (fun hc => ?_) (fun hc => ?_)
  · have h := iF hc h
    refine Fr_iload_n (q := 1) (i := 1) 1 (by decide +kernel) rfl rfl ?_
    refine Fr_iconst (i := 1) (v := 1) (by decide +kernel) (by decide) ?_
    refine Fr_icmp_ne (off := 10) 28 (by decide +kernel) (by decide) (fun hc => ?_) (fun hc => ?_)
    · have h := iF hc h
      refine Fr_iconst (i := (-1)) (v := (-1)) (by decide +kernel) (by decide) ?_
      obtain rfl := Option.some.inj h
      exact Fr_iret (by decide +kernel) rfl ⟨rfl, rfl⟩
    · have h := iT hc h
      refine Fr_aload_n (q := 0) (i := 0) 0 (by decide +kernel) rfl rfl ?_
      refine gf_X12_32 rfl (by decide +kernel) ob_200 ?_
      refine Fr_goto (off := 4) 29 (by decide +kernel) (by decide) ?_
      obtain rfl := Option.some.inj h
      exact Fr_iret (by decide +kernel) rfl ⟨rfl, rfl⟩
  · have h := iT hc h
    refine Fr_aload_n (q := 0) (i := 0) 0 (by decide +kernel) rfl rfl ?_
    refine gf_X12_28 rfl (by decide +kernel) ob_200 ?_
    refine Fr_goto (off := 16) 29 (by decide +kernel) (by decide) ?_
    obtain rfl := Option.some.inj h
    exact Fr_iret (by decide +kernel) rfl ⟨rfl, rfl⟩
set_option maxRecDepth 20000 in
theorem t_X12_fromOf {x0 : Int32} {M : Mem} {q : Int32 × Mem} (h : f_X12_fromOf x0 M = some q) : Ev 200 21 0 m_X12_fromOf [.int x0] M (QI q) := by
  refine Ev_of_Fr (by decide +kernel) (Nat.le_of_ble_eq_true rfl) ?_
  show Fr 200 21 0 m_X12_fromOf 0 [(0, .int x0)] [] M (QI q)
  unfold f_X12_fromOf at h
  refine Fr_bipush (i := 6) (v := 6) (by decide +kernel) (by decide) ?_
  refine Fr_iload_n (q := 0) (i := 0) 0 (by decide +kernel) rfl rfl ?_
  refine Fr_imul (by decide +kernel) ?_
  obtain rfl := Option.some.inj h
  exact Fr_iret (by decide +kernel) rfl ⟨rfl, rfl⟩
set_option maxRecDepth 20000 in
theorem t_X12_named_h2 {N : Nat} {q : Int32 × Mem} {k2 : Int32 × Int32 × Int32 → Mem → Option (Int32 × Mem)} (hk2 : ∀ (a : Int32 × Int32 × Int32) (M : Mem), k2 a M = some q → Fr 200 21 1 m_X12_named 2 [(0, .ref 200), (1, .int a.1), (2, .int a.2.1), (3, .int a.2.2)] [] M (QI q)) {v1 : Int32} {v2 : Int32} {v3 : Int32} {M : Mem} (h : f_X12_named_h2 N k2 v1 v2 v3 M = some q) : Fr 200 21 1 m_X12_named 2 [(0, .ref 200), (1, .int v1), (2, .int v2), (3, .int v3)] [] M (QI q) := by
  unfold f_X12_named_h2 at h
  refine Fr_iload_n (q := 3) (i := 3) 3 (by decide +kernel) rfl rfl ?_
  refine Fr_aload_n (q := 0) (i := 0) 0 (by decide +kernel) rfl rfl ?_
  refine gf_X12_35 rfl (by decide +kernel) ob_200 ?_
  refine Fr_sipush (i := 435) (v := 435) (by decide +kernel) (by decide) ?_
  refine Fr_iload_n (q := 1) (i := 1) 1 (by decide +kernel) rfl rfl ?_
  refine Fr_imul (by decide +kernel) ?_
  refine Fr_iconst (i := 2) (v := 2) (by decide +kernel) (by decide) ?_
  refine Fr_iadd (by decide +kernel) ?_
  refine Fr_iload_n (q := 2) (i := 2) 2 (by decide +kernel) rfl rfl ?_
  refine Fr_iadd (by decide +kernel) ?_
  obtain ⟨hi_1, h⟩ := ck_elim h
  refine Fr_iald (by decide +kernel) ob_205 (vp_of ln_205 hi_1) ?_
  refine Fr_icmp_ge (off := 35) 52 (by decide +kernel) (by decide) (fun hc => ?_) (fun hc => ?_)
  · have h := iT hc h
    refine Fr_iconst (i := (-1)) (v := (-1)) (by decide +kernel) (by decide) ?_
    obtain rfl := Option.some.inj h
    exact Fr_iret (by decide +kernel) rfl ⟨rfl, rfl⟩
  · have h := iF hc h
    refine Fr_aload_n (q := 0) (i := 0) 0 (by decide +kernel) rfl rfl ?_
    refine gf_X12_44 rfl (by decide +kernel) ob_200 ?_
    refine Fr_bipush (i := 22) (v := 22) (by decide +kernel) (by decide) ?_
    refine Fr_iload_n (q := 1) (i := 1) 1 (by decide +kernel) rfl rfl ?_
    refine Fr_imul (by decide +kernel) ?_
    refine Fr_iload_n (q := 2) (i := 2) 2 (by decide +kernel) rfl rfl ?_
    obtain ⟨r_4, M_2, hc_3, h⟩ := bi_elim h
    refine Fr_cSi (ν := m_X12_fromOf) (As := [.int v2]) (st := [.int (22 * v1), .ref 208]) (d' := 0) (by decide +kernel) ml_X12_278 cs_X12_fromOf rfl (by decide) (Nat.le_of_ble_eq_true rfl) (t_X12_fromOf hc_3) ?_
    refine Fr_iadd (by decide +kernel) ?_
    refine Fr_iload_n (q := 3) (i := 3) 3 (by decide +kernel) rfl rfl ?_
    refine Fr_iadd (by decide +kernel) ?_
    obtain ⟨hi_5, h⟩ := ck_elim h
    refine Fr_lald (by decide +kernel) ob_208 (vp_of ln_208 hi_5) ?_
    refine Fr_aload_n (q := 0) (i := 0) 0 (by decide +kernel) rfl rfl ?_
    refine gf_X12_145 rfl (by decide +kernel) ob_200 ?_
    refine Fr_lcmp (by decide +kernel) ?_
    refine Fr_if_ne (off := 5) 46 (by decide +kernel) (by decide) (fun hc => ?_) (fun hc => ?_)
    · have h := iF hc h
      refine Fr_iinc (i := 3) (j := 1) (v := (v3 + 1)) (lv' := [(3, .int (v3 + 1)), (0, .ref 200), (1, .int v1), (2, .int v2)]) 3 (by decide +kernel) rfl rfl (by decide) rfl ?_
      refine Fr_goto (off := (-47)) 2 (by decide +kernel) (by decide) ?_
      refine Fr_loc [1, 2, 3, 0] rfl ?_
      exact hk2 (v1, v2, (v3 + 1)) M_2 h
    · have h := iT hc h
      refine Fr_iload_n (q := 3) (i := 3) 3 (by decide +kernel) rfl rfl ?_
      obtain rfl := Option.some.inj h
      exact Fr_iret (by decide +kernel) rfl ⟨rfl, rfl⟩
set_option maxRecDepth 20000 in
theorem t_X12_named {N : Nat} {x1 : Int32} {x2 : Int32} {M : Mem} {q : Int32 × Mem} (h : f_X12_named N x1 x2 M = some q) : Ev 200 21 1 m_X12_named [.ref 200, .int x1, .int x2] M (QI q) := by
  refine Ev_of_Fr (by decide +kernel) (Nat.le_of_ble_eq_true rfl) ?_
  show Fr 200 21 1 m_X12_named 0 [(0, .ref 200), (1, .int x1), (2, .int x2)] [] M (QI q)
  unfold f_X12_named at h
  refine Fr_iconst (i := 0) (v := 0) (by decide +kernel) (by decide) ?_
  refine Fr_istore_n (q := 3) (i := 3) (lv' := [(3, .int 0), (0, .ref 200), (1, .int x1), (2, .int x2)]) (by decide +kernel) rfl (by decide) rfl ?_
  refine Fr_loc [1, 2, 3, 0] rfl ?_
  exact lp_sound (body := fun k a m => f_X12_named_h2 N k a.1 a.2.1 a.2.2 m) (P := fun a M => Fr 200 21 1 m_X12_named 2 [(0, .ref 200), (1, .int a.1), (2, .int a.2.1), (3, .int a.2.2)] [] M (QI q)) (fun k hk a m h => t_X12_named_h2 hk h) N (x1, x2, 0) M h
set_option maxRecDepth 20000 in
theorem t_X12_isTaken {N : Nat} {M : Mem} {q : Bool × Mem} (h : f_X12_isTaken N M = some q) : Ev 200 21 2 m_X12_isTaken [.ref 200] M (QB q) := by
  refine Ev_of_Fr (by decide +kernel) (Nat.le_of_ble_eq_true rfl) ?_
  show Fr 200 21 2 m_X12_isTaken 0 [(0, .ref 200)] [] M (QB q)
  unfold f_X12_isTaken at h
  refine Fr_aload_n (q := 0) (i := 0) 0 (by decide +kernel) rfl rfl ?_
  refine Fr_iconst (i := 4) (v := 4) (by decide +kernel) (by decide) ?_
  refine Fr_iconst (i := 0) (v := 0) (by decide +kernel) (by decide) ?_
  obtain ⟨r_3, M_1, hc_2, h⟩ := bi_elim h
  refine Fr_cVi (ν := m_X12_named) (As := [.int 4, .int 0]) (st := []) (rc := 200) (ci := 12) (d' := 1) (by decide +kernel) ml_X12_281 cv_X12_named rfl (by decide) rfl ob_200 rfl (by decide) (Nat.le_of_ble_eq_true rfl) (t_X12_named hc_2) ?_
  refine Fr_if_ge (off := 30) 36 (by decide +kernel) (by decide) (fun hc => ?_) (fun hc => ?_)
  · have h := iT hc h
    refine Fr_iconst (i := 1) (v := 1) (by decide +kernel) (by decide) ?_
    refine Fr_goto (off := 4) 41 (by decide +kernel) (by decide) ?_
    obtain rfl := Option.some.inj h
    exact Fr_zret (by decide +kernel) rfl (by decide) ⟨rfl, rfl⟩
  · have h := iF hc h
    refine Fr_aload_n (q := 0) (i := 0) 0 (by decide +kernel) rfl rfl ?_
    refine Fr_iconst (i := 4) (v := 4) (by decide +kernel) (by decide) ?_
    refine Fr_iconst (i := 1) (v := 1) (by decide +kernel) (by decide) ?_
    obtain ⟨r_6, M_4, hc_5, h⟩ := bi_elim h
    refine Fr_cVi (ν := m_X12_named) (As := [.int 4, .int 1]) (st := []) (rc := 200) (ci := 12) (d' := 1) (by decide +kernel) ml_X12_281 cv_X12_named rfl (by decide) rfl ob_200 rfl (by decide) (Nat.le_of_ble_eq_true rfl) (t_X12_named hc_5) ?_
    refine Fr_if_ge (off := 21) 36 (by decide +kernel) (by decide) (fun hc => ?_) (fun hc => ?_)
    · have h := iT hc h
      refine Fr_iconst (i := 1) (v := 1) (by decide +kernel) (by decide) ?_
      refine Fr_goto (off := 4) 41 (by decide +kernel) (by decide) ?_
      obtain rfl := Option.some.inj h
      exact Fr_zret (by decide +kernel) rfl (by decide) ⟨rfl, rfl⟩
    · have h := iF hc h
      refine Fr_aload_n (q := 0) (i := 0) 0 (by decide +kernel) rfl rfl ?_
      refine Fr_iconst (i := 4) (v := 4) (by decide +kernel) (by decide) ?_
      refine Fr_iconst (i := 2) (v := 2) (by decide +kernel) (by decide) ?_
      obtain ⟨r_9, M_7, hc_8, h⟩ := bi_elim h
      refine Fr_cVi (ν := m_X12_named) (As := [.int 4, .int 2]) (st := []) (rc := 200) (ci := 12) (d' := 1) (by decide +kernel) ml_X12_281 cv_X12_named rfl (by decide) rfl ob_200 rfl (by decide) (Nat.le_of_ble_eq_true rfl) (t_X12_named hc_8) ?_
      refine Fr_if_ge (off := 12) 36 (by decide +kernel) (by decide) (fun hc => ?_) (fun hc => ?_)
      · have h := iT hc h
        refine Fr_iconst (i := 1) (v := 1) (by decide +kernel) (by decide) ?_
        refine Fr_goto (off := 4) 41 (by decide +kernel) (by decide) ?_
        obtain rfl := Option.some.inj h
        exact Fr_zret (by decide +kernel) rfl (by decide) ⟨rfl, rfl⟩
      · have h := iF hc h
        refine Fr_aload_n (q := 0) (i := 0) 0 (by decide +kernel) rfl rfl ?_
        refine Fr_iconst (i := 4) (v := 4) (by decide +kernel) (by decide) ?_
        refine Fr_iconst (i := 3) (v := 3) (by decide +kernel) (by decide) ?_
        obtain ⟨r_12, M_10, hc_11, h⟩ := bi_elim h
        refine Fr_cVi (ν := m_X12_named) (As := [.int 4, .int 3]) (st := []) (rc := 200) (ci := 12) (d' := 1) (by decide +kernel) ml_X12_281 cv_X12_named rfl (by decide) rfl ob_200 rfl (by decide) (Nat.le_of_ble_eq_true rfl) (t_X12_named hc_11) ?_
        refine Fr_if_lt (off := 7) 40 (by decide +kernel) (by decide) (fun hc => ?_) (fun hc => ?_)
        · have h := iT hc h
          refine Fr_iconst (i := 0) (v := 0) (by decide +kernel) (by decide) ?_
          obtain rfl := Option.some.inj h
          exact Fr_zret (by decide +kernel) rfl (by decide) ⟨rfl, rfl⟩
        · have h := iF hc h
          refine Fr_iconst (i := 1) (v := 1) (by decide +kernel) (by decide) ?_
          refine Fr_goto (off := 4) 41 (by decide +kernel) (by decide) ?_
          obtain rfl := Option.some.inj h
          exact Fr_zret (by decide +kernel) rfl (by decide) ⟨rfl, rfl⟩
set_option maxRecDepth 20000 in
theorem t_X12_readNew_b73 {N : Nat} {q : Int32 × Mem} {v1 : Int32} {v3 : Int32} {M : Mem} (h : f_X12_readNew_b73 N v1 v3 M = some q) : Fr 200 21 5 m_X12_readNew 73 [(0, .ref 200), (1, .int v1), (3, .int v3)] [] M (QI q) := by
  unfold f_X12_readNew_b73 at h
  refine Fr_aload_n (q := 0) (i := 0) 0 (by decide +kernel) rfl rfl ?_
  refine gf_X12_248 rfl (by decide +kernel) ob_200 ?_
  refine Fr_if_le (off := 5) 82 (by decide +kernel) (by decide) (fun hc => ?_) (fun hc => ?_)
  · have h := iT hc h
    refine Fr_aload_n (q := 0) (i := 0) 0 (by decide +kernel) rfl rfl ?_
    refine gf_X12_44 rfl (by decide +kernel) ob_200 ?_
    refine Fr_bipush (i := 88) (v := 88) (by decide +kernel) (by decide) ?_
    refine Fr_iload_n (q := 1) (i := 1) 1 (by decide +kernel) rfl rfl ?_
    obtain ⟨r_9, M_7, hc_8, h⟩ := bi_elim h
    refine Fr_cSi (ν := m_X12_fromOf) (As := [.int v1]) (st := [.int 88, .ref 208]) (d' := 0) (by decide +kernel) ml_X12_278 cs_X12_fromOf rfl (by decide) (Nat.le_of_ble_eq_true rfl) (t_X12_fromOf hc_8) ?_
    refine Fr_iadd (by decide +kernel) ?_
    refine Fr_iload_n (q := 3) (i := 3) 2 (by decide +kernel) rfl rfl ?_
    refine Fr_iadd (by decide +kernel) ?_
    refine Fr_aload_n (q := 0) (i := 0) 0 (by decide +kernel) rfl rfl ?_
    refine gf_X12_145 rfl (by decide +kernel) ob_200 ?_
    obtain ⟨hi_10, h⟩ := ck_elim h
    refine Fr_last (by decide +kernel) ob_208 (vp_of ln_208 hi_10) ?_
    obtain ⟨M_11, eM_11, h⟩ := bM_elim h
    refine Fr_mem eM_11 ?_
    refine Fr_aload_n (q := 0) (i := 0) 0 (by decide +kernel) rfl rfl ?_
    obtain ⟨M_12, hc_13, h⟩ := bv_elim h
    refine Fr_cVv (ν := m_X12_advance) (As := []) (st := []) (rc := 200) (ci := 12) (d' := 1) (by decide +kernel) ml_X12_258 cv_X12_advance rfl (by decide) rfl ob_200 rfl (by decide) (Nat.le_of_ble_eq_true rfl) (t_X12_advance hc_13) ?_
    refine Fr_iload_n (q := 3) (i := 3) 2 (by decide +kernel) rfl rfl ?_
    obtain rfl := Option.some.inj h
    exact Fr_iret (by decide +kernel) rfl ⟨rfl, rfl⟩
  · have h := iF hc h
    refine Fr_iconst (i := 0) (v := 0) (by decide +kernel) (by decide) ?_
    obtain rfl := Option.some.inj h
    exact Fr_iret (by decide +kernel) rfl ⟨rfl, rfl⟩
set_option maxRecDepth 20000 in
theorem t_X12_readNew_b50 {N : Nat} {q : Int32 × Mem} {v1 : Int32} {v3 : Int32} {M : Mem} (h : f_X12_readNew_b50 N v1 v3 M = some q) : Fr 200 21 5 m_X12_readNew 50 [(0, .ref 200), (1, .int v1), (3, .int v3)] [] M (QI q) := by
  unfold f_X12_readNew_b50 at h
  refine Fr_aload_n (q := 0) (i := 0) 0 (by decide +kernel) rfl rfl ?_
  refine gf_X12_248 rfl (by decide +kernel) ob_200 ?_
  refine Fr_if_ne (off := 19) 73 (by decide +kernel) (by decide) (fun hc => ?_) (fun hc => ?_)
  · have h := iF hc h
    exact t_X12_readNew_b73 h
  · have h := iT hc h
    refine Fr_aload_n (q := 0) (i := 0) 0 (by decide +kernel) rfl rfl ?_
    obtain ⟨r_16, M_14, hc_15, h⟩ := bi_elim h
    refine Fr_cVb (ν := m_X12_isTaken) (As := []) (st := []) (rc := 200) (ci := 12) (d' := 2) (by decide +kernel) ml_X12_287 cv_X12_isTaken rfl (by decide) rfl ob_200 rfl (by decide) (Nat.le_of_ble_eq_true rfl) (t_X12_isTaken hc_15) ?_
    refine Fr_if_eq (off := 12) 73 (by decide +kernel) (by decide) (fun hc => ?_) (fun hc => ?_)
    · have h := iT hc h
      exact t_X12_readNew_b73 h
    · have h := iF hc h
      refine Fr_aload_n (q := 0) (i := 0) 0 (by decide +kernel) rfl rfl ?_
      refine Fr_iconst (i := 3) (v := 3) (by decide +kernel) (by decide) ?_
      refine Fr_aload_n (q := 0) (i := 0) 0 (by decide +kernel) rfl rfl ?_
      refine gf_X12_133 rfl (by decide +kernel) ob_200 ?_
      obtain ⟨M_17, hc_18, h⟩ := bv_elim h
      refine Fr_cVv (ν := m_X12_fail) (As := [.int 3, .int (M_14.1 200 15)]) (st := []) (rc := 200) (ci := 12) (d' := 0) (by decide +kernel) ml_X12_254 cv_X12_fail rfl (by decide) rfl ob_200 rfl (by decide) (Nat.le_of_ble_eq_true rfl) (t_X12_fail hc_18) ?_
      exact t_X12_readNew_b73 h
set_option maxRecDepth 20000 in
theorem t_X12_readNew_b26 {N : Nat} {q : Int32 × Mem} {v1 : Int32} {v3 : Int32} {M : Mem} (h : f_X12_readNew_b26 N v1 v3 M = some q) : Fr 200 21 5 m_X12_readNew 26 [(0, .ref 200), (1, .int v1), (3, .int v3)] [] M (QI q) := by
  unfold f_X12_readNew_b26 at h
  refine Fr_aload_n (q := 0) (i := 0) 0 (by decide +kernel) rfl rfl ?_
  refine gf_X12_248 rfl (by decide +kernel) ob_200 ?_
  refine Fr_if_le (off := 5) 35 (by decide +kernel) (by decide) (fun hc => ?_) (fun hc => ?_)
  · have h := iT hc h
    refine Fr_aload_n (q := 0) (i := 0) 0 (by decide +kernel) rfl rfl ?_
    obtain ⟨M_2, hc_3, h⟩ := bv_elim h
    refine Fr_cVv (ν := m_X12_advance) (As := []) (st := []) (rc := 200) (ci := 12) (d' := 1) (by decide +kernel) ml_X12_258 cv_X12_advance rfl (by decide) rfl ob_200 rfl (by decide) (Nat.le_of_ble_eq_true rfl) (t_X12_advance hc_3) ?_
    refine Fr_aload_n (q := 0) (i := 0) 0 (by decide +kernel) rfl rfl ?_
    obtain ⟨r_6, M_4, hc_5, h⟩ := bi_elim h
    refine Fr_cVb (ν := m_X12_isName) (As := []) (st := []) (rc := 200) (ci := 12) (d' := 4) (by decide +kernel) ml_X12_284 cv_X12_isName rfl (by decide) rfl ob_200 rfl (by decide) (Nat.le_of_ble_eq_true rfl) (t_X12_isName hc_5) ?_
    refine Fr_if_ne (off := 7) 50 (by decide +kernel) (by decide) (fun hc => ?_) (fun hc => ?_)
    · have h := iF hc h
      exact t_X12_readNew_b50 h
    · have h := iT hc h
      refine Fr_aload_n (q := 0) (i := 0) 0 (by decide +kernel) rfl rfl ?_
      obtain ⟨M_19, hc_20, h⟩ := bv_elim h
      refine Fr_cVv (ν := m_X12_amiss) (As := []) (st := []) (rc := 200) (ci := 12) (d' := 1) (by decide +kernel) ml_X12_261 cv_X12_amiss rfl (by decide) rfl ob_200 rfl (by decide) (Nat.le_of_ble_eq_true rfl) (t_X12_amiss hc_20) ?_
      exact t_X12_readNew_b50 h
  · have h := iF hc h
    refine Fr_iconst (i := 0) (v := 0) (by decide +kernel) (by decide) ?_
    obtain rfl := Option.some.inj h
    exact Fr_iret (by decide +kernel) rfl ⟨rfl, rfl⟩
set_option maxRecDepth 20000 in
theorem t_X12_readNew {N : Nat} {x1 : Int32} {x2 : Int32} {M : Mem} {q : Int32 × Mem} (h : f_X12_readNew N x1 x2 M = some q) : Ev 200 21 5 m_X12_readNew [.ref 200, .int x1, .int x2] M (QI q) := by
  refine Ev_of_Fr (by decide +kernel) (Nat.le_of_ble_eq_true rfl) ?_
  show Fr 200 21 5 m_X12_readNew 0 [(0, .ref 200), (1, .int x1), (2, .int x2)] [] M (QI q)
  unfold f_X12_readNew at h
  refine Fr_aload_n (q := 0) (i := 0) 0 (by decide +kernel) rfl rfl ?_
  refine gf_X12_35 rfl (by decide +kernel) ob_200 ?_
  refine Fr_sipush (i := 1742) (v := 1742) (by decide +kernel) (by decide) ?_
  refine Fr_iload_n (q := 1) (i := 1) 1 (by decide +kernel) rfl rfl ?_
  refine Fr_iadd (by decide +kernel) ?_
  obtain ⟨hi_1, h⟩ := ck_elim h
  refine Fr_iald (by decide +kernel) ob_205 (vp_of ln_205 hi_1) ?_
  refine Fr_istore_n (q := 3) (i := 3) (lv' := [(3, .int (M.1 205 (tn (1742 + x1)))), (0, .ref 200), (1, .int x1), (2, .int x2)]) (by decide +kernel) rfl (by decide) rfl ?_
  refine Fr_iload_n (q := 3) (i := 3) 0 (by decide +kernel) rfl rfl ?_
  refine Fr_iload_n (q := 2) (i := 2) 3 (by decide +kernel) rfl rfl ?_
  refine Fr_icmp_ne (off := 13) 26 (by decide +kernel) (by decide) (fun hc => ?_) (fun hc => ?_)
  · have h := iF hc h
    refine Fr_loc [1, 2, 0] rfl ?_
    exact t_X12_readNew_b26 h
  · have h := iT hc h
    refine Fr_aload_n (q := 0) (i := 0) 1 (by decide +kernel) rfl rfl ?_
    refine Fr_bipush (i := 6) (v := 6) (by decide +kernel) (by decide) ?_
    refine Fr_aload_n (q := 0) (i := 0) 1 (by decide +kernel) rfl rfl ?_
    refine gf_X12_133 rfl (by decide +kernel) ob_200 ?_
    obtain ⟨M_21, hc_22, h⟩ := bv_elim h
    refine Fr_cVv (ν := m_X12_fail) (As := [.int 6, .int (M.1 200 15)]) (st := []) (rc := 200) (ci := 12) (d' := 0) (by decide +kernel) ml_X12_254 cv_X12_fail rfl (by decide) rfl ob_200 rfl (by decide) (Nat.le_of_ble_eq_true rfl) (t_X12_fail hc_22) ?_
    refine Fr_loc [1, 2, 0] rfl ?_
    exact t_X12_readNew_b26 h
set_option maxRecDepth 20000 in
theorem t_X12_readPort_b20 {N : Nat} {q : Mem} {M : Mem} (h : f_X12_readPort_b20 N M = some q) : Fr 200 21 3 m_X12_readPort 20 [(0, .ref 200)] [] M (QV q) := by
  unfold f_X12_readPort_b20 at h
  refine Fr_aload_n (q := 0) (i := 0) 0 (by decide +kernel) rfl rfl ?_
  refine gf_X12_248 rfl (by decide +kernel) ob_200 ?_
  refine Fr_if_le (off := 4) 28 (by decide +kernel) (by decide) (fun hc => ?_) (fun hc => ?_)
  · have h := iT hc h
    refine Fr_aload_n (q := 0) (i := 0) 0 (by decide +kernel) rfl rfl ?_
    obtain ⟨M_2, hc_3, h⟩ := bv_elim h
    refine Fr_cVv (ν := m_X12_advance) (As := []) (st := []) (rc := 200) (ci := 12) (d' := 1) (by decide +kernel) ml_X12_258 cv_X12_advance rfl (by decide) rfl ob_200 rfl (by decide) (Nat.le_of_ble_eq_true rfl) (t_X12_advance hc_3) ?_
    refine Fr_aload_n (q := 0) (i := 0) 0 (by decide +kernel) rfl rfl ?_
    refine Fr_iconst (i := 1) (v := 1) (by decide +kernel) (by decide) ?_
    refine Fr_bipush (i := 6) (v := 6) (by decide +kernel) (by decide) ?_
    obtain ⟨r_6, M_4, hc_5, h⟩ := bi_elim h
    refine Fr_cVi (ν := m_X12_count) (As := [.int 1, .int 6]) (st := []) (rc := 200) (ci := 12) (d' := 2) (by decide +kernel) ml_X12_268 cv_X12_count rfl (by decide) rfl ob_200 rfl (by decide) (Nat.le_of_ble_eq_true rfl) (t_X12_count hc_5) ?_
    refine Fr_istore_n (q := 1) (i := 1) (lv' := [(1, .int r_6), (0, .ref 200)]) (by decide +kernel) rfl (by decide) rfl ?_
    refine Fr_aload_n (q := 0) (i := 0) 1 (by decide +kernel) rfl rfl ?_
    refine Fr_aload_n (q := 0) (i := 0) 1 (by decide +kernel) rfl rfl ?_
    obtain ⟨r_9, M_7, hc_8, h⟩ := bi_elim h
    refine Fr_cVb (ν := m_X12_isBy) (As := []) (st := [.ref 200]) (rc := 200) (ci := 12) (d' := 1) (by decide +kernel) ml_X12_190 cv_X12_isBy rfl (by decide) rfl ob_200 rfl (by decide) (Nat.le_of_ble_eq_true rfl) (t_X12_isBy hc_8) ?_
    obtain ⟨M_10, hc_11, h⟩ := bv_elim h
    refine Fr_cVv (ν := m_X12_must) (As := [.int (b2i r_9)]) (st := []) (rc := 200) (ci := 12) (d' := 2) (by decide +kernel) ml_X12_264 cv_X12_must rfl (by decide) rfl ob_200 rfl (by decide) (Nat.le_of_ble_eq_true rfl) (t_X12_must hc_11) ?_
    refine Fr_aload_n (q := 0) (i := 0) 1 (by decide +kernel) rfl rfl ?_
    refine Fr_iconst (i := 1) (v := 1) (by decide +kernel) (by decide) ?_
    refine Fr_iconst (i := 5) (v := 5) (by decide +kernel) (by decide) ?_
    obtain ⟨r_14, M_12, hc_13, h⟩ := bi_elim h
    refine Fr_cVi (ν := m_X12_count) (As := [.int 1, .int 5]) (st := []) (rc := 200) (ci := 12) (d' := 2) (by decide +kernel) ml_X12_268 cv_X12_count rfl (by decide) rfl ob_200 rfl (by decide) (Nat.le_of_ble_eq_true rfl) (t_X12_count hc_13) ?_
    refine Fr_istore_n (q := 2) (i := 2) (lv' := [(2, .int r_14), (1, .int r_6), (0, .ref 200)]) (by decide +kernel) rfl (by decide) rfl ?_
    refine Fr_aload_n (q := 0) (i := 0) 2 (by decide +kernel) rfl rfl ?_
    refine gf_X12_248 rfl (by decide +kernel) ob_200 ?_
    refine Fr_if_le (off := 4) 63 (by decide +kernel) (by decide) (fun hc => ?_) (fun hc => ?_)
    · have h := iT hc h
      refine Fr_aload_n (q := 0) (i := 0) 2 (by decide +kernel) rfl rfl ?_
      refine gf_X12_35 rfl (by decide +kernel) ob_200 ?_
      refine Fr_sipush (i := 1740) (v := 1740) (by decide +kernel) (by decide) ?_
      refine Fr_iload_n (q := 1) (i := 1) 1 (by decide +kernel) rfl rfl ?_
      obtain ⟨hi_15, h⟩ := ck_elim h
      refine Fr_iast (by decide +kernel) ob_205 (vp_of ln_205 hi_15) ?_
      obtain ⟨M_16, eM_16, h⟩ := bM_elim h
      refine Fr_mem eM_16 ?_
      refine Fr_aload_n (q := 0) (i := 0) 2 (by decide +kernel) rfl rfl ?_
      refine gf_X12_35 rfl (by decide +kernel) ob_200 ?_
      refine Fr_sipush (i := 1741) (v := 1741) (by decide +kernel) (by decide) ?_
      refine Fr_iload_n (q := 2) (i := 2) 0 (by decide +kernel) rfl rfl ?_
      obtain ⟨hi_17, h⟩ := ck_elim h
      refine Fr_iast (by decide +kernel) ob_205 (vp_of ln_205 hi_17) ?_
      obtain ⟨M_18, eM_18, h⟩ := bM_elim h
      refine Fr_mem eM_18 ?_
      obtain rfl := Option.some.inj h
      exact Fr_vret (by decide +kernel) rfl ⟨rfl, rfl⟩
    · have h := iF hc h
      obtain rfl := Option.some.inj h
      exact Fr_vret (by decide +kernel) rfl ⟨rfl, rfl⟩
  · have h := iF hc h
    obtain rfl := Option.some.inj h
    exact Fr_vret (by decide +kernel) rfl ⟨rfl, rfl⟩
set_option maxRecDepth 20000 in
theorem t_X12_readPort {N : Nat} {M : Mem} {q : Mem} (h : f_X12_readPort N M = some q) : Ev 200 21 3 m_X12_readPort [.ref 200] M (QV q) := by
  refine Ev_of_Fr (by decide +kernel) (Nat.le_of_ble_eq_true rfl) ?_
  show Fr 200 21 3 m_X12_readPort 0 [(0, .ref 200)] [] M (QV q)
  unfold f_X12_readPort at h
  refine Fr_aload_n (q := 0) (i := 0) 0 (by decide +kernel) rfl rfl ?_
  refine gf_X12_35 rfl (by decide +kernel) ob_200 ?_
  refine Fr_sipush (i := 1740) (v := 1740) (by decide +kernel) (by decide) ?_
  obtain ⟨hi_1, h⟩ := ck_elim h
  refine Fr_iald (by decide +kernel) ob_205 (vp_of ln_205 hi_1) ?_
  refine Fr_if_le (off := 12) 20 (by decide +kernel) (by decide) (fun hc => ?_) (fun hc => ?_)
  · have h := iT hc h
    exact t_X12_readPort_b20 h
  · have h := iF hc h
    refine Fr_aload_n (q := 0) (i := 0) 0 (by decide +kernel) rfl rfl ?_
    refine Fr_iconst (i := 5) (v := 5) (by decide +kernel) (by decide) ?_
    refine Fr_aload_n (q := 0) (i := 0) 0 (by decide +kernel) rfl rfl ?_
    refine gf_X12_133 rfl (by decide +kernel) ob_200 ?_
    obtain ⟨M_19, hc_20, h⟩ := bv_elim h
    refine Fr_cVv (ν := m_X12_fail) (As := [.int 5, .int (M.1 200 15)]) (st := []) (rc := 200) (ci := 12) (d' := 0) (by decide +kernel) ml_X12_254 cv_X12_fail rfl (by decide) rfl ob_200 rfl (by decide) (Nat.le_of_ble_eq_true rfl) (t_X12_fail hc_20) ?_
    exact t_X12_readPort_b20 h
set_option maxRecDepth 20000 in
theorem t_X12_readBoard {N : Nat} {x1 : Int32} {x2 : Int32} {x3 : Int32} {M : Mem} {q : Mem} (h : f_X12_readBoard N x1 x2 x3 M = some q) : Ev 200 21 3 m_X12_readBoard [.ref 200, .int x1, .int x2, .int x3] M (QV q) := by
  refine Ev_of_Fr (by decide +kernel) (Nat.le_of_ble_eq_true rfl) ?_
  show Fr 200 21 3 m_X12_readBoard 0 [(0, .ref 200), (1, .int x1), (2, .int x2), (3, .int x3)] [] M (QV q)
  unfold f_X12_readBoard at h
  refine Fr_aload_n (q := 0) (i := 0) 0 (by decide +kernel) rfl rfl ?_
  refine Fr_iconst (i := 0) (v := 0) (by decide +kernel) (by decide) ?_
  refine Fr_aload_n (q := 0) (i := 0) 0 (by decide +kernel) rfl rfl ?_
  refine gf_X12_35 rfl (by decide +kernel) ob_200 ?_
  refine Fr_sipush (i := 435) (v := 435) (by decide +kernel) (by decide) ?_
  refine Fr_iload_n (q := 1) (i := 1) 1 (by decide +kernel) rfl rfl ?_
  refine Fr_imul (by decide +kernel) ?_
  obtain ⟨hi_1, h⟩ := ck_elim h
  refine Fr_iald (by decide +kernel) ob_205 (vp_of ln_205 hi_1) ?_
  refine Fr_iconst (i := 1) (v := 1) (by decide +kernel) (by decide) ?_
  refine Fr_isub (by decide +kernel) ?_
  obtain ⟨r_4, M_2, hc_3, h⟩ := bi_elim h
  refine Fr_cVi (ν := m_X12_count) (As := [.int 0, .int ((M.1 205 (tn (435 * x1))) - 1)]) (st := []) (rc := 200) (ci := 12) (d' := 2) (by decide +kernel) ml_X12_268 cv_X12_count rfl (by decide) rfl ob_200 rfl (by decide) (Nat.le_of_ble_eq_true rfl) (t_X12_count hc_3) ?_
  refine Fr_istore (i := 4) (lv' := [(4, .int r_4), (0, .ref 200), (1, .int x1), (2, .int x2), (3, .int x3)]) (by decide +kernel) (by decide) rfl ?_
  refine Fr_aload_n (q := 0) (i := 0) 1 (by decide +kernel) rfl rfl ?_
  refine Fr_iconst (i := 0) (v := 0) (by decide +kernel) (by decide) ?_
  refine Fr_aload_n (q := 0) (i := 0) 1 (by decide +kernel) rfl rfl ?_
  refine gf_X12_35 rfl (by decide +kernel) ob_200 ?_
  refine Fr_sipush (i := 435) (v := 435) (by decide +kernel) (by decide) ?_
  refine Fr_iload_n (q := 1) (i := 1) 2 (by decide +kernel) rfl rfl ?_
  refine Fr_imul (by decide +kernel) ?_
  refine Fr_iconst (i := 1) (v := 1) (by decide +kernel) (by decide) ?_
  refine Fr_iadd (by decide +kernel) ?_
  obtain ⟨hi_5, h⟩ := ck_elim h
  refine Fr_iald (by decide +kernel) ob_205 (vp_of ln_205 hi_5) ?_
  refine Fr_iconst (i := 1) (v := 1) (by decide +kernel) (by decide) ?_
  refine Fr_isub (by decide +kernel) ?_
  obtain ⟨r_8, M_6, hc_7, h⟩ := bi_elim h
  refine Fr_cVi (ν := m_X12_count) (As := [.int 0, .int ((M_2.1 205 (tn ((435 * x1) + 1))) - 1)]) (st := []) (rc := 200) (ci := 12) (d' := 2) (by decide +kernel) ml_X12_268 cv_X12_count rfl (by decide) rfl ob_200 rfl (by decide) (Nat.le_of_ble_eq_true rfl) (t_X12_count hc_7) ?_
  refine Fr_istore (i := 5) (lv' := [(5, .int r_8), (4, .int r_4), (0, .ref 200), (1, .int x1), (2, .int x2), (3, .int x3)]) (by decide +kernel) (by decide) rfl ?_
  refine Fr_aload_n (q := 0) (i := 0) 2 (by decide +kernel) rfl rfl ?_
  refine gf_X12_35 rfl (by decide +kernel) ob_200 ?_
  refine Fr_iload_n (q := 2) (i := 2) 4 (by decide +kernel) rfl rfl ?_
  refine Fr_iload (i := 4) 1 (by decide +kernel) rfl ?_
  obtain ⟨hi_9, h⟩ := ck_elim h
  refine Fr_iast (by decide +kernel) ob_205 (vp_of ln_205 hi_9) ?_
  obtain ⟨M_10, eM_10, h⟩ := bM_elim h
  refine Fr_mem eM_10 ?_
  refine Fr_aload_n (q := 0) (i := 0) 2 (by decide +kernel) rfl rfl ?_
  refine gf_X12_35 rfl (by decide +kernel) ob_200 ?_
  refine Fr_iload_n (q := 2) (i := 2) 4 (by decide +kernel) rfl rfl ?_
  refine Fr_iload_n (q := 3) (i := 3) 5 (by decide +kernel) rfl rfl ?_
  refine Fr_iadd (by decide +kernel) ?_
  refine Fr_iload (i := 5) 0 (by decide +kernel) rfl ?_
  obtain ⟨hi_11, h⟩ := ck_elim h
  refine Fr_iast (by decide +kernel) ob_205 (vp_of ln_205 hi_11) ?_
  obtain ⟨M_12, eM_12, h⟩ := bM_elim h
  refine Fr_mem eM_12 ?_
  obtain rfl := Option.some.inj h
  exact Fr_vret (by decide +kernel) rfl ⟨rfl, rfl⟩
set_option maxRecDepth 20000 in
theorem t_X12_readGate_b135 {N : Nat} {q : Mem} {s0 : Int32} {s1 : Int32} {M : Mem} (h : f_X12_readGate_b135 N s0 s1 M = some q) : Fr 200 21 6 m_X12_readGate 135 [(0, .ref 200)] [.int s0, .int s1, .ref 205] M (QV q) := by
  unfold f_X12_readGate_b135 at h
  obtain ⟨hi_39, h⟩ := ck_elim h
  refine Fr_iast (by decide +kernel) ob_205 (vp_of ln_205 hi_39) ?_
  obtain ⟨M_40, eM_40, h⟩ := bM_elim h
  refine Fr_mem eM_40 ?_
  refine Fr_aload_n (q := 0) (i := 0) 0 (by decide +kernel) rfl rfl ?_
  refine gf_X12_248 rfl (by decide +kernel) ob_200 ?_
  refine Fr_if_ne (off := 15) 155 (by decide +kernel) (by decide) (fun hc => ?_) (fun hc => ?_)
  · have h := iF hc h
    obtain rfl := Option.some.inj h
    exact Fr_vret (by decide +kernel) rfl ⟨rfl, rfl⟩
  · have h := iT hc h
    refine Fr_aload_n (q := 0) (i := 0) 0 (by decide +kernel) rfl rfl ?_
    refine gf_X12_35 rfl (by decide +kernel) ob_200 ?_
    refine Fr_sipush (i := 1742) (v := 1742) (by decide +kernel) (by decide) ?_
    refine Fr_dup2 (by decide +kernel) rfl rfl ?_
    obtain ⟨hi_41, h⟩ := ck_elim h
    refine Fr_iald (by decide +kernel) ob_205 (vp_of ln_205 hi_41) ?_
    refine Fr_iconst (i := 1) (v := 1) (by decide +kernel) (by decide) ?_
    refine Fr_iadd (by decide +kernel) ?_
    obtain ⟨hi_42, h⟩ := ck_elim h
    refine Fr_iast (by decide +kernel) ob_205 (vp_of ln_205 hi_42) ?_
    obtain ⟨M_43, eM_43, h⟩ := bM_elim h
    refine Fr_mem eM_43 ?_
    obtain rfl := Option.some.inj h
    exact Fr_vret (by decide +kernel) rfl ⟨rfl, rfl⟩
set_option maxRecDepth 20000 in
theorem t_X12_readGate_b105 {N : Nat} {q : Mem} {v1 : Int32} {M : Mem} (h : f_X12_readGate_b105 N v1 M = some q) : Fr 200 21 6 m_X12_readGate 105 [(0, .ref 200), (1, .int v1)] [] M (QV q) := by
  unfold f_X12_readGate_b105 at h
  refine Fr_aload_n (q := 0) (i := 0) 0 (by decide +kernel) rfl rfl ?_
  refine gf_X12_35 rfl (by decide +kernel) ob_200 ?_
  refine Fr_iload_n (q := 1) (i := 1) 1 (by decide +kernel) rfl rfl ?_
  refine Fr_bipush (i := 24) (v := 24) (by decide +kernel) (by decide) ?_
  refine Fr_iadd (by decide +kernel) ?_
  refine Fr_aload_n (q := 0) (i := 0) 0 (by decide +kernel) rfl rfl ?_
  refine Fr_aload_n (q := 0) (i := 0) 0 (by decide +kernel) rfl rfl ?_
  obtain ⟨r_35, M_33, hc_34, h⟩ := bi_elim h
  refine Fr_cVb (ν := m_X12_isQuota) (As := []) (st := [.ref 200, .int (v1 + 24), .ref 205]) (rc := 200) (ci := 12) (d' := 1) (by decide +kernel) ml_X12_202 cv_X12_isQuota rfl (by decide) rfl ob_200 rfl (by decide) (Nat.le_of_ble_eq_true rfl) (t_X12_isQuota hc_34) ?_
  obtain ⟨r_38, M_36, hc_37, h⟩ := bi_elim h
  refine Fr_cVb (ν := m_X12_perhaps) (As := [.int (b2i r_35)]) (st := [.int (v1 + 24), .ref 205]) (rc := 200) (ci := 12) (d' := 2) (by decide +kernel) ml_X12_301 cv_X12_perhaps rfl (by decide) rfl ob_200 rfl (by decide) (Nat.le_of_ble_eq_true rfl) (t_X12_perhaps hc_37) ?_
  refine Fr_if_eq (off := 13) 134 (by decide +kernel) (by decide) (fun hc => ?_) (fun hc => ?_)
  · have h := iT hc h
    refine Fr_iconst (i := 1) (v := 1) (by decide +kernel) (by decide) ?_
    refine Fr_loc [0] rfl ?_
    exact t_X12_readGate_b135 h
  · have h := iF hc h
    refine Fr_aload_n (q := 0) (i := 0) 0 (by decide +kernel) rfl rfl ?_
    refine Fr_iconst (i := 1) (v := 1) (by decide +kernel) (by decide) ?_
    refine Fr_bipush (i := 99) (v := 99) (by decide +kernel) (by decide) ?_
    obtain ⟨r_46, M_44, hc_45, h⟩ := bi_elim h
    refine Fr_cVi (ν := m_X12_count) (As := [.int 1, .int 99]) (st := [.int (v1 + 24), .ref 205]) (rc := 200) (ci := 12) (d' := 2) (by decide +kernel) ml_X12_268 cv_X12_count rfl (by decide) rfl ob_200 rfl (by decide) (Nat.le_of_ble_eq_true rfl) (t_X12_count hc_45) ?_
    refine Fr_goto (off := 4) 135 (by decide +kernel) (by decide) ?_
    refine Fr_loc [0] rfl ?_
    exact t_X12_readGate_b135 h
set_option maxRecDepth 20000 in
theorem t_X12_readGate_b72 {N : Nat} {q : Mem} {v1 : Int32} {s0 : Int32} {s1 : Int32} {M : Mem} (h : f_X12_readGate_b72 N v1 s0 s1 M = some q) : Fr 200 21 6 m_X12_readGate 72 [(0, .ref 200), (1, .int v1)] [.int s0, .int s1, .ref 205] M (QV q) := by
  unfold f_X12_readGate_b72 at h
  obtain ⟨hi_25, h⟩ := ck_elim h
  refine Fr_iast (by decide +kernel) ob_205 (vp_of ln_205 hi_25) ?_
  obtain ⟨M_26, eM_26, h⟩ := bM_elim h
  refine Fr_mem eM_26 ?_
  refine Fr_aload_n (q := 0) (i := 0) 0 (by decide +kernel) rfl rfl ?_
  refine Fr_aload_n (q := 0) (i := 0) 0 (by decide +kernel) rfl rfl ?_
  obtain ⟨r_29, M_27, hc_28, h⟩ := bi_elim h
  refine Fr_cVb (ν := m_X12_isOpen) (As := []) (st := [.ref 200]) (rc := 200) (ci := 12) (d' := 1) (by decide +kernel) ml_X12_174 cv_X12_isOpen rfl (by decide) rfl ob_200 rfl (by decide) (Nat.le_of_ble_eq_true rfl) (t_X12_isOpen hc_28) ?_
  obtain ⟨r_32, M_30, hc_31, h⟩ := bi_elim h
  refine Fr_cVb (ν := m_X12_perhaps) (As := [.int (b2i r_29)]) (st := []) (rc := 200) (ci := 12) (d' := 2) (by decide +kernel) ml_X12_301 cv_X12_perhaps rfl (by decide) rfl ob_200 rfl (by decide) (Nat.le_of_ble_eq_true rfl) (t_X12_perhaps hc_31) ?_
  refine Fr_if_eq (off := 24) 105 (by decide +kernel) (by decide) (fun hc => ?_) (fun hc => ?_)
  · have h := iT hc h
    exact t_X12_readGate_b105 h
  · have h := iF hc h
    refine Fr_aload_n (q := 0) (i := 0) 0 (by decide +kernel) rfl rfl ?_
    refine gf_X12_35 rfl (by decide +kernel) ob_200 ?_
    refine Fr_sipush (i := 1750) (v := 1750) (by decide +kernel) (by decide) ?_
    refine Fr_dup2 (by decide +kernel) rfl rfl ?_
    obtain ⟨hi_47, h⟩ := ck_elim h
    refine Fr_iald (by decide +kernel) ob_205 (vp_of ln_205 hi_47) ?_
    refine Fr_iconst (i := 1) (v := 1) (by decide +kernel) (by decide) ?_
    refine Fr_iload_n (q := 1) (i := 1) 1 (by decide +kernel) rfl rfl ?_
    refine Fr_sipush (i := 1740) (v := 1740) (by decide +kernel) (by decide) ?_
    refine Fr_isub (by decide +kernel) ?_
    refine Fr_bipush (i := 11) (v := 11) (by decide +kernel) (by decide) ?_
    refine Fr_isub (by decide +kernel) ?_
    refine Fr_ishl (by decide +kernel) ?_
    refine Fr_ior (by decide +kernel) ?_
    obtain ⟨hi_48, h⟩ := ck_elim h
    refine Fr_iast (by decide +kernel) ob_205 (vp_of ln_205 hi_48) ?_
    obtain ⟨M_49, eM_49, h⟩ := bM_elim h
    refine Fr_mem eM_49 ?_
    exact t_X12_readGate_b105 h
set_option maxRecDepth 20000 in
theorem t_X12_readGate {N : Nat} {M : Mem} {q : Mem} (h : f_X12_readGate N M = some q) : Ev 200 21 6 m_X12_readGate [.ref 200] M (QV q) := by
  refine Ev_of_Fr (by decide +kernel) (Nat.le_of_ble_eq_true rfl) ?_
  show Fr 200 21 6 m_X12_readGate 0 [(0, .ref 200)] [] M (QV q)
  unfold f_X12_readGate at h
  refine Fr_sipush (i := 1751) (v := 1751) (by decide +kernel) (by decide) ?_
  refine Fr_aload_n (q := 0) (i := 0) 0 (by decide +kernel) rfl rfl ?_
  refine Fr_iconst (i := 0) (v := 0) (by decide +kernel) (by decide) ?_
  refine Fr_bipush (i := 6) (v := 6) (by decide +kernel) (by decide) ?_
  obtain ⟨r_3, M_1, hc_2, h⟩ := bi_elim h
  refine Fr_cVi (ν := m_X12_readNew) (As := [.int 0, .int 6]) (st := [.int 1751]) (rc := 200) (ci := 12) (d' := 5) (by decide +kernel) ml_X12_290 cv_X12_readNew rfl (by decide) rfl ob_200 rfl (by decide) (Nat.le_of_ble_eq_true rfl) (t_X12_readNew hc_2) ?_
  refine Fr_iadd (by decide +kernel) ?_
  refine Fr_istore_n (q := 1) (i := 1) (lv' := [(1, .int (1751 + r_3)), (0, .ref 200)]) (by decide +kernel) rfl (by decide) rfl ?_
  refine Fr_aload_n (q := 0) (i := 0) 1 (by decide +kernel) rfl rfl ?_
  refine Fr_aload_n (q := 0) (i := 0) 1 (by decide +kernel) rfl rfl ?_
  obtain ⟨r_6, M_4, hc_5, h⟩ := bi_elim h
  refine Fr_cVb (ν := m_X12_isAt) (As := []) (st := [.ref 200]) (rc := 200) (ci := 12) (d' := 1) (by decide +kernel) ml_X12_196 cv_X12_isAt rfl (by decide) rfl ob_200 rfl (by decide) (Nat.le_of_ble_eq_true rfl) (t_X12_isAt hc_5) ?_
  obtain ⟨M_7, hc_8, h⟩ := bv_elim h
  refine Fr_cVv (ν := m_X12_must) (As := [.int (b2i r_6)]) (st := []) (rc := 200) (ci := 12) (d' := 2) (by decide +kernel) ml_X12_264 cv_X12_must rfl (by decide) rfl ob_200 rfl (by decide) (Nat.le_of_ble_eq_true rfl) (t_X12_must hc_8) ?_
  refine Fr_aload_n (q := 0) (i := 0) 1 (by decide +kernel) rfl rfl ?_
  refine Fr_iconst (i := 4) (v := 4) (by decide +kernel) (by decide) ?_
  refine Fr_iload_n (q := 1) (i := 1) 0 (by decide +kernel) rfl rfl ?_
  refine Fr_bipush (i := 6) (v := 6) (by decide +kernel) (by decide) ?_
  obtain ⟨M_9, hc_10, h⟩ := bv_elim h
  refine Fr_cVv (ν := m_X12_readBoard) (As := [.int 4, .int (1751 + r_3), .int 6]) (st := []) (rc := 200) (ci := 12) (d' := 3) (by decide +kernel) ml_X12_293 cv_X12_readBoard rfl (by decide) rfl ob_200 rfl (by decide) (Nat.le_of_ble_eq_true rfl) (t_X12_readBoard hc_10) ?_
  refine Fr_aload_n (q := 0) (i := 0) 1 (by decide +kernel) rfl rfl ?_
  refine gf_X12_35 rfl (by decide +kernel) ob_200 ?_
  refine Fr_iload_n (q := 1) (i := 1) 0 (by decide +kernel) rfl rfl ?_
  refine Fr_bipush (i := 12) (v := 12) (by decide +kernel) (by decide) ?_
  refine Fr_iadd (by decide +kernel) ?_
  refine Fr_aload_n (q := 0) (i := 0) 1 (by decide +kernel) rfl rfl ?_
  refine Fr_aload_n (q := 0) (i := 0) 1 (by decide +kernel) rfl rfl ?_
  obtain ⟨r_13, M_11, hc_12, h⟩ := bi_elim h
  refine Fr_cVb (ν := m_X12_isLets) (As := []) (st := [.ref 200, .int ((1751 + r_3) + 12), .ref 205]) (rc := 200) (ci := 12) (d' := 1) (by decide +kernel) ml_X12_184 cv_X12_isLets rfl (by decide) rfl ob_200 rfl (by decide) (Nat.le_of_ble_eq_true rfl) (t_X12_isLets hc_12) ?_
  refine Fr_iconst (i := 1) (v := 1) (by decide +kernel) (by decide) ?_
  refine Fr_bipush (i := 40) (v := 40) (by decide +kernel) (by decide) ?_
  obtain ⟨r_16, M_14, hc_15, h⟩ := bi_elim h
  refine Fr_cVi (ν := m_X12_behindWord) (As := [.int (b2i r_13), .int 1, .int 40]) (st := [.int ((1751 + r_3) + 12), .ref 205]) (rc := 200) (ci := 12) (d' := 3) (by decide +kernel) ml_X12_297 cv_X12_behindWord rfl (by decide) rfl ob_200 rfl (by decide) (Nat.le_of_ble_eq_true rfl) (t_X12_behindWord hc_15) ?_
  obtain ⟨hi_17, h⟩ := ck_elim h
  refine Fr_iast (by decide +kernel) ob_205 (vp_of ln_205 hi_17) ?_
  obtain ⟨M_18, eM_18, h⟩ := bM_elim h
  refine Fr_mem eM_18 ?_
  refine Fr_aload_n (q := 0) (i := 0) 1 (by decide +kernel) rfl rfl ?_
  refine gf_X12_35 rfl (by decide +kernel) ob_200 ?_
  refine Fr_iload_n (q := 1) (i := 1) 0 (by decide +kernel) rfl rfl ?_
  refine Fr_bipush (i := 18) (v := 18) (by decide +kernel) (by decide) ?_
  refine Fr_iadd (by decide +kernel) ?_
  refine Fr_aload_n (q := 0) (i := 0) 1 (by decide +kernel) rfl rfl ?_
  refine Fr_aload_n (q := 0) (i := 0) 1 (by decide +kernel) rfl rfl ?_
  obtain ⟨r_21, M_19, hc_20, h⟩ := bi_elim h
  refine Fr_cVb (ν := m_X12_isAnswers) (As := []) (st := [.ref 200, .int ((1751 + r_3) + 18), .ref 205]) (rc := 200) (ci := 12) (d' := 1) (by decide +kernel) ml_X12_199 cv_X12_isAnswers rfl (by decide) rfl ob_200 rfl (by decide) (Nat.le_of_ble_eq_true rfl) (t_X12_isAnswers hc_20) ?_
  obtain ⟨r_24, M_22, hc_23, h⟩ := bi_elim h
  refine Fr_cVb (ν := m_X12_perhaps) (As := [.int (b2i r_21)]) (st := [.int ((1751 + r_3) + 18), .ref 205]) (rc := 200) (ci := 12) (d' := 2) (by decide +kernel) ml_X12_301 cv_X12_perhaps rfl (by decide) rfl ob_200 rfl (by decide) (Nat.le_of_ble_eq_true rfl) (t_X12_perhaps hc_23) ?_
  refine Fr_if_eq (off := 7) 71 (by decide +kernel) (by decide) (fun hc => ?_) (fun hc => ?_)
  · have h := iT hc h
    refine Fr_iconst (i := 0) (v := 0) (by decide +kernel) (by decide) ?_
    refine Fr_loc [1, 0] rfl ?_
    exact t_X12_readGate_b72 h
  · have h := iF hc h
    refine Fr_iconst (i := 1) (v := 1) (by decide +kernel) (by decide) ?_
    refine Fr_goto (off := 4) 72 (by decide +kernel) (by decide) ?_
    refine Fr_loc [1, 0] rfl ?_
    exact t_X12_readGate_b72 h
set_option maxRecDepth 20000 in
theorem t_X12_readHolder {N : Nat} {M : Mem} {q : Mem} (h : f_X12_readHolder N M = some q) : Ev 200 21 6 m_X12_readHolder [.ref 200] M (QV q) := by
  refine Ev_of_Fr (by decide +kernel) (Nat.le_of_ble_eq_true rfl) ?_
  show Fr 200 21 6 m_X12_readHolder 0 [(0, .ref 200)] [] M (QV q)
  unfold f_X12_readHolder at h
  refine Fr_aload_n (q := 0) (i := 0) 0 (by decide +kernel) rfl rfl ?_
  refine Fr_iconst (i := 1) (v := 1) (by decide +kernel) (by decide) ?_
  refine Fr_bipush (i := 6) (v := 6) (by decide +kernel) (by decide) ?_
  obtain ⟨r_3, M_1, hc_2, h⟩ := bi_elim h
  refine Fr_cVi (ν := m_X12_readNew) (As := [.int 1, .int 6]) (st := []) (rc := 200) (ci := 12) (d' := 5) (by decide +kernel) ml_X12_290 cv_X12_readNew rfl (by decide) rfl ob_200 rfl (by decide) (Nat.le_of_ble_eq_true rfl) (t_X12_readNew hc_2) ?_
  refine Fr_istore_n (q := 1) (i := 1) (lv' := [(1, .int r_3), (0, .ref 200)]) (by decide +kernel) rfl (by decide) rfl ?_
  refine Fr_aload_n (q := 0) (i := 0) 1 (by decide +kernel) rfl rfl ?_
  refine gf_X12_35 rfl (by decide +kernel) ob_200 ?_
  refine Fr_sipush (i := 1781) (v := 1781) (by decide +kernel) (by decide) ?_
  refine Fr_iload_n (q := 1) (i := 1) 0 (by decide +kernel) rfl rfl ?_
  refine Fr_iadd (by decide +kernel) ?_
  refine Fr_aload_n (q := 0) (i := 0) 1 (by decide +kernel) rfl rfl ?_
  refine Fr_aload_n (q := 0) (i := 0) 1 (by decide +kernel) rfl rfl ?_
  obtain ⟨r_6, M_4, hc_5, h⟩ := bi_elim h
  refine Fr_cVb (ν := m_X12_isVotes) (As := []) (st := [.ref 200, .int (1781 + r_3), .ref 205]) (rc := 200) (ci := 12) (d' := 1) (by decide +kernel) ml_X12_208 cv_X12_isVotes rfl (by decide) rfl ob_200 rfl (by decide) (Nat.le_of_ble_eq_true rfl) (t_X12_isVotes hc_5) ?_
  refine Fr_iconst (i := 1) (v := 1) (by decide +kernel) (by decide) ?_
  refine Fr_bipush (i := 20) (v := 20) (by decide +kernel) (by decide) ?_
  obtain ⟨r_9, M_7, hc_8, h⟩ := bi_elim h
  refine Fr_cVi (ν := m_X12_behindWord) (As := [.int (b2i r_6), .int 1, .int 20]) (st := [.int (1781 + r_3), .ref 205]) (rc := 200) (ci := 12) (d' := 3) (by decide +kernel) ml_X12_297 cv_X12_behindWord rfl (by decide) rfl ob_200 rfl (by decide) (Nat.le_of_ble_eq_true rfl) (t_X12_behindWord hc_8) ?_
  obtain ⟨hi_10, h⟩ := ck_elim h
  refine Fr_iast (by decide +kernel) ob_205 (vp_of ln_205 hi_10) ?_
  obtain ⟨M_11, eM_11, h⟩ := bM_elim h
  refine Fr_mem eM_11 ?_
  refine Fr_aload_n (q := 0) (i := 0) 1 (by decide +kernel) rfl rfl ?_
  refine gf_X12_248 rfl (by decide +kernel) ob_200 ?_
  refine Fr_if_ne (off := 15) 48 (by decide +kernel) (by decide) (fun hc => ?_) (fun hc => ?_)
  · have h := iF hc h
    obtain rfl := Option.some.inj h
    exact Fr_vret (by decide +kernel) rfl ⟨rfl, rfl⟩
  · have h := iT hc h
    refine Fr_aload_n (q := 0) (i := 0) 1 (by decide +kernel) rfl rfl ?_
    refine gf_X12_35 rfl (by decide +kernel) ob_200 ?_
    refine Fr_sipush (i := 1743) (v := 1743) (by decide +kernel) (by decide) ?_
    refine Fr_dup2 (by decide +kernel) rfl rfl ?_
    obtain ⟨hi_12, h⟩ := ck_elim h
    refine Fr_iald (by decide +kernel) ob_205 (vp_of ln_205 hi_12) ?_
    refine Fr_iconst (i := 1) (v := 1) (by decide +kernel) (by decide) ?_
    refine Fr_iadd (by decide +kernel) ?_
    obtain ⟨hi_13, h⟩ := ck_elim h
    refine Fr_iast (by decide +kernel) ob_205 (vp_of ln_205 hi_13) ?_
    obtain ⟨M_14, eM_14, h⟩ := bM_elim h
    refine Fr_mem eM_14 ?_
    obtain rfl := Option.some.inj h
    exact Fr_vret (by decide +kernel) rfl ⟨rfl, rfl⟩
