set_option maxRecDepth 20000 in
theorem t_X11_pour {x1 : Int32} {x2 : Int32} {x3 : Int32} {x4 : Int32} {x5 : Int32} {M : Mem} {q : Bool × Mem} (h : f_X11_pour x1 x2 x3 x4 x5 M = some q) : Ev 0 111 2 m_X11_pour [.ref 0, .int x1, .int x2, .int x3, .int x4, .int x5] M (QB q) := by
  refine Ev_of_Fr (by decide +kernel) (Nat.le_of_ble_eq_true rfl) ?_
  show Fr 0 111 2 m_X11_pour 0 [(0, .ref 0), (1, .int x1), (2, .int x2), (3, .int x3), (4, .int x4), (5, .int x5)] [] M (QB q)
  unfold f_X11_pour at h
  refine Fr_aload_n (q := 0) (i := 0) 0 (by decide +kernel) rfl rfl ?_
  refine gf_X11_27 rfl (by decide +kernel) ob_0 ?_
  refine Fr_iload_n (q := 1) (i := 1) 1 (by decide +kernel) rfl rfl ?_
  refine Fr_iload_n (q := 2) (i := 2) 2 (by decide +kernel) rfl rfl ?_
  refine Fr_iload_n (q := 3) (i := 3) 3 (by decide +kernel) rfl rfl ?_
  refine Fr_iload (i := 4) 4 (by decide +kernel) rfl ?_
  refine Fr_iload (i := 5) 5 (by decide +kernel) rfl ?_
  obtain ⟨r_3, M_1, hc_2, h⟩ := bi_elim h
  refine Fr_cVi (ν := m_X9_codeOfPour) (As := [.int x1, .int x2, .int x3, .int x4, .int x5]) (st := []) (rc := 2) (ci := 9) (d' := 1) (by decide +kernel) ml_X11_148 cv_X9_codeOfPour rfl (by decide) rfl ob_2 rfl (by decide) (Nat.le_of_ble_eq_true rfl) (t_X9_codeOfPour hc_2) ?_
  refine Fr_istore (i := 6) (lv' := [(6, .int r_3), (0, .ref 0), (1, .int x1), (2, .int x2), (3, .int x3), (4, .int x4), (5, .int x5)]) (by decide +kernel) (by decide) rfl ?_
  refine Fr_iload (i := 6) 0 (by decide +kernel) rfl ?_
  refine Fr_if_eq (off := 10) 28 (by decide +kernel) (by decide) (fun hc => ?_) (fun hc => ?_)
  · have h := iT hc h
    refine Fr_aload_n (q := 0) (i := 0) 1 (by decide +kernel) rfl rfl ?_
    refine gf_X11_27 rfl (by decide +kernel) ob_0 ?_
    refine gf_X11_144 rfl (by decide +kernel) ob_2 ?_
    refine Fr_iload_n (q := 1) (i := 1) 2 (by decide +kernel) rfl rfl ?_
    obtain ⟨hi_4, h⟩ := ck_elim h
    refine Fr_aald (by decide +kernel) ob_3 (by decide) (vp_of ln_3 hi_4) (ra3 hi_4) ?_
    refine Fr_iload_n (q := 2) (i := 2) 3 (by decide +kernel) rfl rfl ?_
    refine Fr_aload_n (q := 0) (i := 0) 1 (by decide +kernel) rfl rfl ?_
    refine gf_X11_27 rfl (by decide +kernel) ob_0 ?_
    refine gf_X11_144 rfl (by decide +kernel) ob_2 ?_
    refine Fr_iload_n (q := 3) (i := 3) 4 (by decide +kernel) rfl rfl ?_
    obtain ⟨hi_5, h⟩ := ck_elim h
    refine Fr_aald (by decide +kernel) ob_3 (by decide) (vp_of ln_3 hi_5) (ra3 hi_5) ?_
    refine Fr_iload (i := 4) 5 (by decide +kernel) rfl ?_
    refine Fr_iload (i := 5) 6 (by decide +kernel) rfl ?_
    obtain ⟨ha_71, ha_72, ha_73, ha_74, ha_75, h⟩ := acp_elim h
    refine Fr_acopyL (by decide +kernel) ml_X11_152 (oa3 hi_4) (oa3 hi_5) ha_71 ha_72 ha_73 (le_len (na3 hi_4) ha_74) (le_len (na3 hi_5) ha_75) (by decide) (Nat.le_of_ble_eq_true rfl) ?_
    obtain ⟨M_6, eM_6, h⟩ := bM_elim h
    refine Fr_mem eM_6 ?_
    refine Fr_aload_n (q := 0) (i := 0) 1 (by decide +kernel) rfl rfl ?_
    obtain ⟨r_10, M_8, hc_9, h⟩ := bi_elim h
    refine Fr_cVb (ν := m_X11_granted) (As := []) (st := []) (rc := 0) (ci := 11) (d' := 0) (by decide +kernel) ml_X11_128 cv_X11_granted rfl (by decide) rfl ob_0 rfl (by decide) (Nat.le_of_ble_eq_true rfl) (t_X11_granted hc_9) ?_
    obtain rfl := Option.some.inj h
    exact Fr_zret (by decide +kernel) rfl (nz_b r_10) ⟨rfl, rfl⟩
  · have h := iF hc h
    refine Fr_aload_n (q := 0) (i := 0) 1 (by decide +kernel) rfl rfl ?_
    refine Fr_iload (i := 6) 0 (by decide +kernel) rfl ?_
    obtain ⟨r_13, M_11, hc_12, h⟩ := bi_elim h
    refine Fr_cVb (ν := m_X11_refusedFlag) (As := [.int r_3]) (st := []) (rc := 0) (ci := 11) (d' := 0) (by decide +kernel) ml_X11_121 cv_X11_refusedFlag rfl (by decide) rfl ob_0 rfl (by decide) (Nat.le_of_ble_eq_true rfl) (t_X11_refusedFlag hc_12) ?_
    obtain rfl := Option.some.inj h
    exact Fr_zret (by decide +kernel) rfl (nz_b r_13) ⟨rfl, rfl⟩
set_option maxRecDepth 20000 in
theorem t_X11_appendBytes_h3 {N : Nat} {q : Mem} {k3 : Int32 × Int32 → Mem → Option (Mem)} (hk3 : ∀ (a : Int32 × Int32) (M : Mem), k3 a M = some q → Fr 0 111 0 m_X11_appendBytes 3 [(0, .ref 0), (1, .int a.1), (2, .int a.2)] [] M (QV q)) {v1 : Int32} {v2 : Int32} {M : Mem} (h : f_X11_appendBytes_h3 N k3 v1 v2 M = some q) : Fr 0 111 0 m_X11_appendBytes 3 [(0, .ref 0), (1, .int v1), (2, .int v2)] [] M (QV q) := by
  unfold f_X11_appendBytes_h3 at h
  refine Fr_iload_n (q := 2) (i := 2) 2 (by decide +kernel) rfl rfl ?_
  refine Fr_if_lt (off := 42) 46 (by decide +kernel) (by decide) (fun hc => ?_) (fun hc => ?_)
  · have h := iT hc h
    obtain rfl := Option.some.inj h
    exact Fr_vret (by decide +kernel) rfl ⟨rfl, rfl⟩
  · have h := iF hc h
    refine Fr_aload_n (q := 0) (i := 0) 0 (by decide +kernel) rfl rfl ?_
    refine gf_X11_158 rfl (by decide +kernel) ob_0 ?_
    refine Fr_sipush (i := 900) (v := 900) (by decide +kernel) (by decide) ?_
    refine Fr_icmp_ge (off := 32) 46 (by decide +kernel) (by decide) (fun hc => ?_) (fun hc => ?_)
    · have h := iT hc h
      obtain rfl := Option.some.inj h
      exact Fr_vret (by decide +kernel) rfl ⟨rfl, rfl⟩
    · have h := iF hc h
      refine Fr_aload_n (q := 0) (i := 0) 0 (by decide +kernel) rfl rfl ?_
      refine gf_X11_20 rfl (by decide +kernel) ob_0 ?_
      refine Fr_aload_n (q := 0) (i := 0) 0 (by decide +kernel) rfl rfl ?_
      refine gf_X11_158 rfl (by decide +kernel) ob_0 ?_
      refine Fr_iload_n (q := 1) (i := 1) 1 (by decide +kernel) rfl rfl ?_
      refine Fr_iload_n (q := 2) (i := 2) 2 (by decide +kernel) rfl rfl ?_
      refine Fr_iushr (by decide +kernel) ?_
      refine Fr_i2b (by decide +kernel) ?_
      obtain ⟨hi_1, h⟩ := ck_elim h
      refine Fr_bast (by decide +kernel) ob_1 (vp_of ln_1 hi_1) ?_
      obtain ⟨M_2, eM_2, h⟩ := bM_elim h
      refine Fr_mem eM_2 ?_
      refine Fr_aload_n (q := 0) (i := 0) 0 (by decide +kernel) rfl rfl ?_
      refine Fr_dup (by decide +kernel) rfl ?_
      refine gf_X11_158 rfl (by decide +kernel) ob_0 ?_
      refine Fr_iconst (i := 1) (v := 1) (by decide +kernel) (by decide) ?_
      refine Fr_iadd (by decide +kernel) ?_
      refine pf_X11_158 rfl (by decide +kernel) ob_0 ?_
      obtain ⟨M_3, eM_3, h⟩ := bM_elim h
      refine Fr_mem eM_3 ?_
      refine Fr_iinc (i := 2) (j := (-8)) (v := (v2 + (-8))) (lv' := [(2, .int (v2 + (-8))), (0, .ref 0), (1, .int v1)]) 2 (by decide +kernel) rfl rfl (by decide) rfl ?_
      refine Fr_goto (off := (-40)) 3 (by decide +kernel) (by decide) ?_
      refine Fr_loc [1, 2, 0] rfl ?_
      exact hk3 (v1, (v2 + (-8))) M_3 h
set_option maxRecDepth 20000 in
theorem t_X11_appendBytes {N : Nat} {x1 : Int32} {M : Mem} {q : Mem} (h : f_X11_appendBytes N x1 M = some q) : Ev 0 111 0 m_X11_appendBytes [.ref 0, .int x1] M (QV q) := by
  refine Ev_of_Fr (by decide +kernel) (Nat.le_of_ble_eq_true rfl) ?_
  show Fr 0 111 0 m_X11_appendBytes 0 [(0, .ref 0), (1, .int x1)] [] M (QV q)
  unfold f_X11_appendBytes at h
  refine Fr_bipush (i := 24) (v := 24) (by decide +kernel) (by decide) ?_
  refine Fr_istore_n (q := 2) (i := 2) (lv' := [(2, .int 24), (0, .ref 0), (1, .int x1)]) (by decide +kernel) rfl (by decide) rfl ?_
  refine Fr_loc [1, 2, 0] rfl ?_
  exact lp_sound (body := fun k a m => f_X11_appendBytes_h3 N k a.1 a.2 m) (P := fun a M => Fr 0 111 0 m_X11_appendBytes 3 [(0, .ref 0), (1, .int a.1), (2, .int a.2)] [] M (QV q)) (fun k hk a m h => t_X11_appendBytes_h3 hk h) N (x1, 24) M h
set_option maxRecDepth 20000 in
theorem t_X11_feed {N : Nat} {x1 : Int32} {x2 : Int32} {x3 : Int32} {x4 : Int32} {x5 : Int32} {M : Mem} {q : Int32 × Mem} (h : f_X11_feed N x1 x2 x3 x4 x5 M = some q) : Ev 0 111 1 m_X11_feed [.ref 0, .int x1, .int x2, .int x3, .int x4, .int x5] M (QI q) := by
  refine Ev_of_Fr (by decide +kernel) (Nat.le_of_ble_eq_true rfl) ?_
  show Fr 0 111 1 m_X11_feed 0 [(0, .ref 0), (1, .int x1), (2, .int x2), (3, .int x3), (4, .int x4), (5, .int x5)] [] M (QI q)
  unfold f_X11_feed at h
  refine Fr_aload_n (q := 0) (i := 0) 0 (by decide +kernel) rfl rfl ?_
  refine gf_X11_158 rfl (by decide +kernel) ob_0 ?_
  refine Fr_bipush (i := 20) (v := 20) (by decide +kernel) (by decide) ?_
  refine Fr_iadd (by decide +kernel) ?_
  refine Fr_sipush (i := 900) (v := 900) (by decide +kernel) (by decide) ?_
  refine Fr_icmp_le (off := 5) 15 (by decide +kernel) (by decide) (fun hc => ?_) (fun hc => ?_)
  · have h := iT hc h
    refine Fr_aload_n (q := 0) (i := 0) 0 (by decide +kernel) rfl rfl ?_
    refine Fr_iload_n (q := 1) (i := 1) 1 (by decide +kernel) rfl rfl ?_
    obtain ⟨M_1, hc_2, h⟩ := bv_elim h
    refine Fr_cVv (ν := m_X11_appendBytes) (As := [.int x1]) (st := []) (rc := 0) (ci := 11) (d' := 0) (by decide +kernel) ml_X11_161 cv_X11_appendBytes rfl (by decide) rfl ob_0 rfl (by decide) (Nat.le_of_ble_eq_true rfl) (t_X11_appendBytes hc_2) ?_
    refine Fr_aload_n (q := 0) (i := 0) 0 (by decide +kernel) rfl rfl ?_
    refine Fr_iload_n (q := 2) (i := 2) 2 (by decide +kernel) rfl rfl ?_
    obtain ⟨M_3, hc_4, h⟩ := bv_elim h
    refine Fr_cVv (ν := m_X11_appendBytes) (As := [.int x2]) (st := []) (rc := 0) (ci := 11) (d' := 0) (by decide +kernel) ml_X11_161 cv_X11_appendBytes rfl (by decide) rfl ob_0 rfl (by decide) (Nat.le_of_ble_eq_true rfl) (t_X11_appendBytes hc_4) ?_
    refine Fr_aload_n (q := 0) (i := 0) 0 (by decide +kernel) rfl rfl ?_
    refine Fr_iload_n (q := 3) (i := 3) 3 (by decide +kernel) rfl rfl ?_
    obtain ⟨M_5, hc_6, h⟩ := bv_elim h
    refine Fr_cVv (ν := m_X11_appendBytes) (As := [.int x3]) (st := []) (rc := 0) (ci := 11) (d' := 0) (by decide +kernel) ml_X11_161 cv_X11_appendBytes rfl (by decide) rfl ob_0 rfl (by decide) (Nat.le_of_ble_eq_true rfl) (t_X11_appendBytes hc_6) ?_
    refine Fr_aload_n (q := 0) (i := 0) 0 (by decide +kernel) rfl rfl ?_
    refine Fr_iload (i := 4) 4 (by decide +kernel) rfl ?_
    obtain ⟨M_7, hc_8, h⟩ := bv_elim h
    refine Fr_cVv (ν := m_X11_appendBytes) (As := [.int x4]) (st := []) (rc := 0) (ci := 11) (d' := 0) (by decide +kernel) ml_X11_161 cv_X11_appendBytes rfl (by decide) rfl ob_0 rfl (by decide) (Nat.le_of_ble_eq_true rfl) (t_X11_appendBytes hc_8) ?_
    refine Fr_aload_n (q := 0) (i := 0) 0 (by decide +kernel) rfl rfl ?_
    refine Fr_iload (i := 5) 5 (by decide +kernel) rfl ?_
    obtain ⟨M_9, hc_10, h⟩ := bv_elim h
    refine Fr_cVv (ν := m_X11_appendBytes) (As := [.int x5]) (st := []) (rc := 0) (ci := 11) (d' := 0) (by decide +kernel) ml_X11_161 cv_X11_appendBytes rfl (by decide) rfl ob_0 rfl (by decide) (Nat.le_of_ble_eq_true rfl) (t_X11_appendBytes hc_10) ?_
    refine Fr_aload_n (q := 0) (i := 0) 0 (by decide +kernel) rfl rfl ?_
    refine gf_X11_158 rfl (by decide +kernel) ob_0 ?_
    obtain rfl := Option.some.inj h
    exact Fr_iret (by decide +kernel) rfl ⟨rfl, rfl⟩
  · have h := iF hc h
    refine Fr_iconst (i := (-1)) (v := (-1)) (by decide +kernel) (by decide) ?_
    obtain rfl := Option.some.inj h
    exact Fr_iret (by decide +kernel) rfl ⟨rfl, rfl⟩
set_option maxRecDepth 20000 in
theorem t_X11_answered {x1 : Int32} {M : Mem} {q : Int32 × Mem} (h : f_X11_answered x1 M = some q) : Ev 0 111 0 m_X11_answered [.ref 0, .int x1] M (QI q) := by
  refine Ev_of_Fr (by decide +kernel) (Nat.le_of_ble_eq_true rfl) ?_
  show Fr 0 111 0 m_X11_answered 0 [(0, .ref 0), (1, .int x1)] [] M (QI q)
  unfold f_X11_answered at h
  refine Fr_aload_n (q := 0) (i := 0) 0 (by decide +kernel) rfl rfl ?_
  refine Fr_iconst (i := 0) (v := 0) (by decide +kernel) (by decide) ?_
  refine pf_X11_7 rfl (by decide +kernel) ob_0 ?_
  obtain ⟨M_1, eM_1, h⟩ := bM_elim h
  refine Fr_mem eM_1 ?_
  refine Fr_iload_n (q := 1) (i := 1) 1 (by decide +kernel) rfl rfl ?_
  obtain rfl := Option.some.inj h
  exact Fr_iret (by decide +kernel) rfl ⟨rfl, rfl⟩
set_option maxRecDepth 20000 in
theorem t_X11_port {N : Nat} {x1 : Int32} {M : Mem} {q : Int32 × Mem} (h : f_X11_port N x1 M = some q) : Ev 0 111 12 m_X11_port [.ref 0, .int x1] M (QI q) := by
  refine Ev_of_Fr (by decide +kernel) (Nat.le_of_ble_eq_true rfl) ?_
  show Fr 0 111 12 m_X11_port 0 [(0, .ref 0), (1, .int x1)] [] M (QI q)
  unfold f_X11_port at h
  refine Fr_iload_n (q := 1) (i := 1) 1 (by decide +kernel) rfl rfl ?_
  refine Fr_if_lt (off := 11) 12 (by decide +kernel) (by decide) (fun hc => ?_) (fun hc => ?_)
  · have h := iT hc h
    refine Fr_aload_n (q := 0) (i := 0) 0 (by decide +kernel) rfl rfl ?_
    refine Fr_iconst (i := 5) (v := 5) (by decide +kernel) (by decide) ?_
    obtain ⟨r_3, M_1, hc_2, h⟩ := bi_elim h
    refine Fr_cVi (ν := m_X11_refused) (As := [.int 5]) (st := []) (rc := 0) (ci := 11) (d' := 0) (by decide +kernel) ml_X11_140 cv_X11_refused rfl (by decide) rfl ob_0 rfl (by decide) (Nat.le_of_ble_eq_true rfl) (t_X11_refused hc_2) ?_
    obtain rfl := Option.some.inj h
    exact Fr_iret (by decide +kernel) rfl ⟨rfl, rfl⟩
  · have h := iF hc h
    refine Fr_iload_n (q := 1) (i := 1) 1 (by decide +kernel) rfl rfl ?_
    refine Fr_aload_n (q := 0) (i := 0) 0 (by decide +kernel) rfl rfl ?_
    refine gf_X11_158 rfl (by decide +kernel) ob_0 ?_
    refine Fr_icmp_le (off := 9) 18 (by decide +kernel) (by decide) (fun hc => ?_) (fun hc => ?_)
    · have h := iT hc h
      refine Fr_aload_n (q := 0) (i := 0) 0 (by decide +kernel) rfl rfl ?_
      refine gf_X11_66 rfl (by decide +kernel) ob_0 ?_
      refine Fr_aload_n (q := 0) (i := 0) 0 (by decide +kernel) rfl rfl ?_
      refine gf_X11_38 rfl (by decide +kernel) ob_0 ?_
      refine Fr_iload_n (q := 1) (i := 1) 1 (by decide +kernel) rfl rfl ?_
      obtain ⟨r_6, M_4, hc_5, h⟩ := bi_elim h
      refine Fr_cVb (ν := m_X6_fill) (As := [.ref 23, .int x1]) (st := []) (rc := 83) (ci := 6) (d' := 11) (by decide +kernel) ml_X11_165 cv_X6_fill rfl (by decide) rfl ob_83 rfl (by decide) (Nat.le_of_ble_eq_true rfl) (t_X6_fill ob_23 hc_5) ?_
      refine Fr_istore_n (q := 2) (i := 2) (lv' := [(2, .int (b2i r_6)), (0, .ref 0), (1, .int x1)]) (by decide +kernel) rfl (by decide) rfl ?_
      refine Fr_aload_n (q := 0) (i := 0) 1 (by decide +kernel) rfl rfl ?_
      refine Fr_iconst (i := 0) (v := 0) (by decide +kernel) (by decide) ?_
      refine pf_X11_158 rfl (by decide +kernel) ob_0 ?_
      obtain ⟨M_7, eM_7, h⟩ := bM_elim h
      refine Fr_mem eM_7 ?_
      refine Fr_iload_n (q := 2) (i := 2) 0 (by decide +kernel) rfl rfl ?_
      refine Fr_if_ne (off := 10) 47 (by decide +kernel) (by decide) (fun hc => ?_) (fun hc => ?_)
      · have h := iF hc h
        refine Fr_aload_n (q := 0) (i := 0) 1 (by decide +kernel) rfl rfl ?_
        refine gf_X11_34 rfl (by decide +kernel) ob_0 ?_
        refine Fr_aload_n (q := 0) (i := 0) 1 (by decide +kernel) rfl rfl ?_
        refine gf_X11_38 rfl (by decide +kernel) ob_0 ?_
        obtain ⟨M_8, hc_9, h⟩ := bv_elim h
        refine Fr_cVv (ν := m_X5_copyFrom) (As := [.ref 23]) (st := []) (rc := 10) (ci := 5) (d' := 2) (by decide +kernel) ml_X11_169 cv_X5_copyFrom rfl (by decide) rfl ob_10 rfl (by decide) (Nat.le_of_ble_eq_true rfl) (t_X5_copyFrom ob_10 ob_23 hc_9) ?_
        refine Fr_aload_n (q := 0) (i := 0) 1 (by decide +kernel) rfl rfl ?_
        refine Fr_aload_n (q := 0) (i := 0) 1 (by decide +kernel) rfl rfl ?_
        refine gf_X11_34 rfl (by decide +kernel) ob_0 ?_
        refine gf_X11_173 rfl (by decide +kernel) ob_10 ?_
        obtain ⟨r_12, M_10, hc_11, h⟩ := bi_elim h
        refine Fr_cVi (ν := m_X11_answered) (As := [.int (M_8.1 10 7)]) (st := []) (rc := 0) (ci := 11) (d' := 0) (by decide +kernel) ml_X11_176 cv_X11_answered rfl (by decide) rfl ob_0 rfl (by decide) (Nat.le_of_ble_eq_true rfl) (t_X11_answered hc_11) ?_
        obtain rfl := Option.some.inj h
        exact Fr_iret (by decide +kernel) rfl ⟨rfl, rfl⟩
      · have h := iT hc h
        refine Fr_aload_n (q := 0) (i := 0) 1 (by decide +kernel) rfl rfl ?_
        refine Fr_bipush (i := 10) (v := 10) (by decide +kernel) (by decide) ?_
        obtain ⟨r_15, M_13, hc_14, h⟩ := bi_elim h
        refine Fr_cVi (ν := m_X11_refused) (As := [.int 10]) (st := []) (rc := 0) (ci := 11) (d' := 0) (by decide +kernel) ml_X11_140 cv_X11_refused rfl (by decide) rfl ob_0 rfl (by decide) (Nat.le_of_ble_eq_true rfl) (t_X11_refused hc_14) ?_
        obtain rfl := Option.some.inj h
        exact Fr_iret (by decide +kernel) rfl ⟨rfl, rfl⟩
    · have h := iF hc h
      refine Fr_aload_n (q := 0) (i := 0) 0 (by decide +kernel) rfl rfl ?_
      refine Fr_iconst (i := 5) (v := 5) (by decide +kernel) (by decide) ?_
      obtain ⟨r_18, M_16, hc_17, h⟩ := bi_elim h
      refine Fr_cVi (ν := m_X11_refused) (As := [.int 5]) (st := []) (rc := 0) (ci := 11) (d' := 0) (by decide +kernel) ml_X11_140 cv_X11_refused rfl (by decide) rfl ob_0 rfl (by decide) (Nat.le_of_ble_eq_true rfl) (t_X11_refused hc_17) ?_
      obtain rfl := Option.some.inj h
      exact Fr_iret (by decide +kernel) rfl ⟨rfl, rfl⟩
set_option maxRecDepth 20000 in
theorem t_X11_nights {N : Nat} {x1 : Int32} {M : Mem} {q : Int32 × Mem} (h : f_X11_nights N x1 M = some q) : Ev 0 111 12 m_X11_nights [.ref 0, .int x1] M (QI q) := by
  refine Ev_of_Fr (by decide +kernel) (Nat.le_of_ble_eq_true rfl) ?_
  show Fr 0 111 12 m_X11_nights 0 [(0, .ref 0), (1, .int x1)] [] M (QI q)
  unfold f_X11_nights at h
  refine Fr_iload_n (q := 1) (i := 1) 1 (by decide +kernel) rfl rfl ?_
  refine Fr_if_lt (off := 18) 19 (by decide +kernel) (by decide) (fun hc => ?_) (fun hc => ?_)
  · have h := iT hc h
    refine Fr_aload_n (q := 0) (i := 0) 0 (by decide +kernel) rfl rfl ?_
    refine Fr_iconst (i := 5) (v := 5) (by decide +kernel) (by decide) ?_
    obtain ⟨r_3, M_1, hc_2, h⟩ := bi_elim h
    refine Fr_cVi (ν := m_X11_refused) (As := [.int 5]) (st := []) (rc := 0) (ci := 11) (d' := 0) (by decide +kernel) ml_X11_140 cv_X11_refused rfl (by decide) rfl ob_0 rfl (by decide) (Nat.le_of_ble_eq_true rfl) (t_X11_refused hc_2) ?_
    obtain rfl := Option.some.inj h
    exact Fr_iret (by decide +kernel) rfl ⟨rfl, rfl⟩
  · have h := iF hc h
    refine Fr_iload_n (q := 1) (i := 1) 1 (by decide +kernel) rfl rfl ?_
    refine Fr_aload_n (q := 0) (i := 0) 0 (by decide +kernel) rfl rfl ?_
    refine gf_X11_158 rfl (by decide +kernel) ob_0 ?_
    refine Fr_icmp_gt (off := 10) 19 (by decide +kernel) (by decide) (fun hc => ?_) (fun hc => ?_)
    · have h := iT hc h
      refine Fr_aload_n (q := 0) (i := 0) 0 (by decide +kernel) rfl rfl ?_
      refine Fr_iconst (i := 5) (v := 5) (by decide +kernel) (by decide) ?_
      obtain ⟨r_6, M_4, hc_5, h⟩ := bi_elim h
      refine Fr_cVi (ν := m_X11_refused) (As := [.int 5]) (st := []) (rc := 0) (ci := 11) (d' := 0) (by decide +kernel) ml_X11_140 cv_X11_refused rfl (by decide) rfl ob_0 rfl (by decide) (Nat.le_of_ble_eq_true rfl) (t_X11_refused hc_5) ?_
      obtain rfl := Option.some.inj h
      exact Fr_iret (by decide +kernel) rfl ⟨rfl, rfl⟩
    · have h := iF hc h
      refine Fr_iload_n (q := 1) (i := 1) 1 (by decide +kernel) rfl rfl ?_
      refine Fr_sipush (i := 300) (v := 300) (by decide +kernel) (by decide) ?_
      refine Fr_icmp_le (off := 9) 25 (by decide +kernel) (by decide) (fun hc => ?_) (fun hc => ?_)
      · have h := iT hc h
        refine Fr_aload_n (q := 0) (i := 0) 0 (by decide +kernel) rfl rfl ?_
        refine gf_X11_73 rfl (by decide +kernel) ob_0 ?_
        refine Fr_aload_n (q := 0) (i := 0) 0 (by decide +kernel) rfl rfl ?_
        refine gf_X11_48 rfl (by decide +kernel) ob_0 ?_
        refine Fr_aload_n (q := 0) (i := 0) 0 (by decide +kernel) rfl rfl ?_
        refine gf_X11_34 rfl (by decide +kernel) ob_0 ?_
        refine Fr_iload_n (q := 1) (i := 1) 1 (by decide +kernel) rfl rfl ?_
        obtain ⟨r_9, M_7, hc_8, h⟩ := bi_elim h
        refine Fr_cVb (ν := m_X4_fill) (As := [.ref 76, .ref 10, .int x1]) (st := []) (rc := 87) (ci := 4) (d' := 11) (by decide +kernel) ml_X11_179 cv_X4_fill rfl (by decide) rfl ob_87 rfl (by decide) (Nat.le_of_ble_eq_true rfl) (t_X4_fill ob_76 ob_10 hc_8) ?_
        refine Fr_istore_n (q := 2) (i := 2) (lv' := [(2, .int (b2i r_9)), (0, .ref 0), (1, .int x1)]) (by decide +kernel) rfl (by decide) rfl ?_
        refine Fr_aload_n (q := 0) (i := 0) 1 (by decide +kernel) rfl rfl ?_
        refine Fr_iconst (i := 0) (v := 0) (by decide +kernel) (by decide) ?_
        refine pf_X11_158 rfl (by decide +kernel) ob_0 ?_
        obtain ⟨M_10, eM_10, h⟩ := bM_elim h
        refine Fr_mem eM_10 ?_
        refine Fr_iload_n (q := 2) (i := 2) 0 (by decide +kernel) rfl rfl ?_
        refine Fr_if_ne (off := 10) 58 (by decide +kernel) (by decide) (fun hc => ?_) (fun hc => ?_)
        · have h := iF hc h
          refine Fr_aload_n (q := 0) (i := 0) 1 (by decide +kernel) rfl rfl ?_
          refine gf_X11_34 rfl (by decide +kernel) ob_0 ?_
          refine gf_X11_182 rfl (by decide +kernel) ob_10 ?_
          refine Fr_aload_n (q := 0) (i := 0) 1 (by decide +kernel) rfl rfl ?_
          refine gf_X11_48 rfl (by decide +kernel) ob_0 ?_
          obtain ⟨M_11, hc_12, h⟩ := bv_elim h
          refine Fr_cVv (ν := m_X3_copyFrom) (As := [.ref 76]) (st := []) (rc := 17) (ci := 3) (d' := 1) (by decide +kernel) ml_X11_185 cv_X3_copyFrom rfl (by decide) rfl ob_17 rfl (by decide) (Nat.le_of_ble_eq_true rfl) (t_X3_copyFrom ob_17 ob_76 hc_12) ?_
          refine Fr_aload_n (q := 0) (i := 0) 1 (by decide +kernel) rfl rfl ?_
          refine Fr_aload_n (q := 0) (i := 0) 1 (by decide +kernel) rfl rfl ?_
          refine gf_X11_48 rfl (by decide +kernel) ob_0 ?_
          refine gf_X11_188 rfl (by decide +kernel) ob_76 ?_
          obtain ⟨r_15, M_13, hc_14, h⟩ := bi_elim h
          refine Fr_cVi (ν := m_X11_answered) (As := [.int (M_11.1 76 2)]) (st := []) (rc := 0) (ci := 11) (d' := 0) (by decide +kernel) ml_X11_176 cv_X11_answered rfl (by decide) rfl ob_0 rfl (by decide) (Nat.le_of_ble_eq_true rfl) (t_X11_answered hc_14) ?_
          obtain rfl := Option.some.inj h
          exact Fr_iret (by decide +kernel) rfl ⟨rfl, rfl⟩
        · have h := iT hc h
          refine Fr_aload_n (q := 0) (i := 0) 1 (by decide +kernel) rfl rfl ?_
          refine Fr_bipush (i := 10) (v := 10) (by decide +kernel) (by decide) ?_
          obtain ⟨r_18, M_16, hc_17, h⟩ := bi_elim h
          refine Fr_cVi (ν := m_X11_refused) (As := [.int 10]) (st := []) (rc := 0) (ci := 11) (d' := 0) (by decide +kernel) ml_X11_140 cv_X11_refused rfl (by decide) rfl ob_0 rfl (by decide) (Nat.le_of_ble_eq_true rfl) (t_X11_refused hc_17) ?_
          obtain rfl := Option.some.inj h
          exact Fr_iret (by decide +kernel) rfl ⟨rfl, rfl⟩
      · have h := iF hc h
        refine Fr_aload_n (q := 0) (i := 0) 0 (by decide +kernel) rfl rfl ?_
        refine Fr_iconst (i := 5) (v := 5) (by decide +kernel) (by decide) ?_
        obtain ⟨r_21, M_19, hc_20, h⟩ := bi_elim h
        refine Fr_cVi (ν := m_X11_refused) (As := [.int 5]) (st := []) (rc := 0) (ci := 11) (d' := 0) (by decide +kernel) ml_X11_140 cv_X11_refused rfl (by decide) rfl ob_0 rfl (by decide) (Nat.le_of_ble_eq_true rfl) (t_X11_refused hc_20) ?_
        obtain rfl := Option.some.inj h
        exact Fr_iret (by decide +kernel) rfl ⟨rfl, rfl⟩
set_option maxRecDepth 20000 in
theorem t_X11_fault {x1 : Int32} {M : Mem} {q : Int32 × Mem} (h : f_X11_fault x1 M = some q) : Ev 0 111 0 m_X11_fault [.ref 0, .int x1] M (QI q) := by
  refine Ev_of_Fr (by decide +kernel) (Nat.le_of_ble_eq_true rfl) ?_
  show Fr 0 111 0 m_X11_fault 0 [(0, .ref 0), (1, .int x1)] [] M (QI q)
  unfold f_X11_fault at h
  refine Fr_iload_n (q := 1) (i := 1) 1 (by decide +kernel) rfl rfl ?_
  refine Fr_if_ne (off := 11) 12 (by decide +kernel) (by decide) (fun hc => ?_) (fun hc => ?_)
  · have h := iF hc h
    refine Fr_iload_n (q := 1) (i := 1) 1 (by decide +kernel) rfl rfl ?_
    refine Fr_iconst (i := 1) (v := 1) (by decide +kernel) (by decide) ?_
    refine Fr_icmp_ne (off := 13) 27 (by decide +kernel) (by decide) (fun hc => ?_) (fun hc => ?_)
    · have h := iF hc h
      refine Fr_iconst (i := (-1)) (v := (-1)) (by decide +kernel) (by decide) ?_
      obtain rfl := Option.some.inj h
      exact Fr_iret (by decide +kernel) rfl ⟨rfl, rfl⟩
    · have h := iT hc h
      refine Fr_aload_n (q := 0) (i := 0) 0 (by decide +kernel) rfl rfl ?_
      refine gf_X11_57 rfl (by decide +kernel) ob_0 ?_
      refine gf_X11_194 rfl (by decide +kernel) ob_82 ?_
      refine Fr_goto (off := 4) 28 (by decide +kernel) (by decide) ?_
      obtain rfl := Option.some.inj h
      exact Fr_iret (by decide +kernel) rfl ⟨rfl, rfl⟩
  · have h := iT hc h
    refine Fr_aload_n (q := 0) (i := 0) 0 (by decide +kernel) rfl rfl ?_
    refine gf_X11_57 rfl (by decide +kernel) ob_0 ?_
    refine gf_X11_191 rfl (by decide +kernel) ob_82 ?_
    obtain rfl := Option.some.inj h
    exact Fr_iret (by decide +kernel) rfl ⟨rfl, rfl⟩
set_option maxRecDepth 20000 in
theorem t_X11_many {N : Nat} {x1 : Int32} {M : Mem} {q : Int32 × Mem} (h : f_X11_many N x1 M = some q) : Ev 0 111 3 m_X11_many [.ref 0, .int x1] M (QI q) := by
  refine Ev_of_Fr (by decide +kernel) (Nat.le_of_ble_eq_true rfl) ?_
  show Fr 0 111 3 m_X11_many 0 [(0, .ref 0), (1, .int x1)] [] M (QI q)
  unfold f_X11_many at h
  refine Fr_iload_n (q := 1) (i := 1) 1 (by decide +kernel) rfl rfl ?_
  refine Fr_if_lt (off := 9) 10 (by decide +kernel) (by decide) (fun hc => ?_) (fun hc => ?_)
  · have h := iT hc h
    refine Fr_aload_n (q := 0) (i := 0) 0 (by decide +kernel) rfl rfl ?_
    refine Fr_iconst (i := 5) (v := 5) (by decide +kernel) (by decide) ?_
    obtain ⟨r_3, M_1, hc_2, h⟩ := bi_elim h
    refine Fr_cVi (ν := m_X11_refused) (As := [.int 5]) (st := []) (rc := 0) (ci := 11) (d' := 0) (by decide +kernel) ml_X11_140 cv_X11_refused rfl (by decide) rfl ob_0 rfl (by decide) (Nat.le_of_ble_eq_true rfl) (t_X11_refused hc_2) ?_
    obtain rfl := Option.some.inj h
    exact Fr_iret (by decide +kernel) rfl ⟨rfl, rfl⟩
  · have h := iF hc h
    refine Fr_iload_n (q := 1) (i := 1) 1 (by decide +kernel) rfl rfl ?_
    refine Fr_bipush (i := 14) (v := 14) (by decide +kernel) (by decide) ?_
    refine Fr_icmp_lt (off := 9) 16 (by decide +kernel) (by decide) (fun hc => ?_) (fun hc => ?_)
    · have h := iT hc h
      refine Fr_aload_n (q := 0) (i := 0) 0 (by decide +kernel) rfl rfl ?_
      refine Fr_aload_n (q := 0) (i := 0) 0 (by decide +kernel) rfl rfl ?_
      refine gf_X11_34 rfl (by decide +kernel) ob_0 ?_
      refine Fr_iload_n (q := 1) (i := 1) 1 (by decide +kernel) rfl rfl ?_
      obtain ⟨r_6, M_4, hc_5, h⟩ := bi_elim h
      refine Fr_cVi (ν := m_X5_factOf) (As := [.int x1]) (st := [.ref 0]) (rc := 10) (ci := 5) (d' := 2) (by decide +kernel) ml_X11_197 cv_X5_factOf rfl (by decide) rfl ob_10 rfl (by decide) (Nat.le_of_ble_eq_true rfl) (t_X5_factOf ob_10 hc_5) ?_
      obtain ⟨r_9, M_7, hc_8, h⟩ := bi_elim h
      refine Fr_cVi (ν := m_X11_answered) (As := [.int r_6]) (st := []) (rc := 0) (ci := 11) (d' := 0) (by decide +kernel) ml_X11_176 cv_X11_answered rfl (by decide) rfl ob_0 rfl (by decide) (Nat.le_of_ble_eq_true rfl) (t_X11_answered hc_8) ?_
      obtain rfl := Option.some.inj h
      exact Fr_iret (by decide +kernel) rfl ⟨rfl, rfl⟩
    · have h := iF hc h
      refine Fr_aload_n (q := 0) (i := 0) 0 (by decide +kernel) rfl rfl ?_
      refine Fr_iconst (i := 5) (v := 5) (by decide +kernel) (by decide) ?_
      obtain ⟨r_12, M_10, hc_11, h⟩ := bi_elim h
      refine Fr_cVi (ν := m_X11_refused) (As := [.int 5]) (st := []) (rc := 0) (ci := 11) (d' := 0) (by decide +kernel) ml_X11_140 cv_X11_refused rfl (by decide) rfl ob_0 rfl (by decide) (Nat.le_of_ble_eq_true rfl) (t_X11_refused hc_11) ?_
      obtain rfl := Option.some.inj h
      exact Fr_iret (by decide +kernel) rfl ⟨rfl, rfl⟩
set_option maxRecDepth 20000 in
theorem t_X11_gate {x1 : Int32} {x2 : Int32} {M : Mem} {q : Int32 × Mem} (h : f_X11_gate x1 x2 M = some q) : Ev 0 111 1 m_X11_gate [.ref 0, .int x1, .int x2] M (QI q) := by
  refine Ev_of_Fr (by decide +kernel) (Nat.le_of_ble_eq_true rfl) ?_
  show Fr 0 111 1 m_X11_gate 0 [(0, .ref 0), (1, .int x1), (2, .int x2)] [] M (QI q)
  unfold f_X11_gate at h
  refine Fr_aload_n (q := 0) (i := 0) 0 (by decide +kernel) rfl rfl ?_
  refine gf_X11_34 rfl (by decide +kernel) ob_0 ?_
  refine Fr_iload_n (q := 1) (i := 1) 1 (by decide +kernel) rfl rfl ?_
  obtain ⟨r_3, M_1, hc_2, h⟩ := bi_elim h
  refine Fr_cVb (ν := m_X5_isGate) (As := [.int x1]) (st := []) (rc := 10) (ci := 5) (d' := 0) (by decide +kernel) ml_X11_200 cv_X5_isGate rfl (by decide) rfl ob_10 rfl (by decide) (Nat.le_of_ble_eq_true rfl) (t_X5_isGate ob_10 hc_2) ?_
  refine Fr_if_ne (off := 9) 17 (by decide +kernel) (by decide) (fun hc => ?_) (fun hc => ?_)
  · have h := iF hc h
    refine Fr_iload_n (q := 2) (i := 2) 2 (by decide +kernel) rfl rfl ?_
    refine Fr_if_lt (off := 8) 26 (by decide +kernel) (by decide) (fun hc => ?_) (fun hc => ?_)
    · have h := iT hc h
      refine Fr_aload_n (q := 0) (i := 0) 0 (by decide +kernel) rfl rfl ?_
      refine Fr_iconst (i := 5) (v := 5) (by decide +kernel) (by decide) ?_
      obtain ⟨r_6, M_4, hc_5, h⟩ := bi_elim h
      refine Fr_cVi (ν := m_X11_refused) (As := [.int 5]) (st := []) (rc := 0) (ci := 11) (d' := 0) (by decide +kernel) ml_X11_140 cv_X11_refused rfl (by decide) rfl ob_0 rfl (by decide) (Nat.le_of_ble_eq_true rfl) (t_X11_refused hc_5) ?_
      obtain rfl := Option.some.inj h
      exact Fr_iret (by decide +kernel) rfl ⟨rfl, rfl⟩
    · have h := iF hc h
      refine Fr_iload_n (q := 2) (i := 2) 2 (by decide +kernel) rfl rfl ?_
      refine Fr_iconst (i := 5) (v := 5) (by decide +kernel) (by decide) ?_
      refine Fr_icmp_lt (off := 9) 32 (by decide +kernel) (by decide) (fun hc => ?_) (fun hc => ?_)
      · have h := iT hc h
        refine Fr_aload_n (q := 0) (i := 0) 0 (by decide +kernel) rfl rfl ?_
        refine Fr_aload_n (q := 0) (i := 0) 0 (by decide +kernel) rfl rfl ?_
        refine gf_X11_34 rfl (by decide +kernel) ob_0 ?_
        refine gf_X11_203 rfl (by decide +kernel) ob_10 ?_
        refine Fr_iload_n (q := 1) (i := 1) 1 (by decide +kernel) rfl rfl ?_
        refine Fr_iconst (i := 5) (v := 5) (by decide +kernel) (by decide) ?_
        refine Fr_imul (by decide +kernel) ?_
        refine Fr_iload_n (q := 2) (i := 2) 2 (by decide +kernel) rfl rfl ?_
        refine Fr_iadd (by decide +kernel) ?_
        obtain ⟨hi_7, h⟩ := ck_elim h
        refine Fr_iald (by decide +kernel) ob_11 (vp_of ln_11 hi_7) ?_
        obtain ⟨r_10, M_8, hc_9, h⟩ := bi_elim h
        refine Fr_cVi (ν := m_X11_answered) (As := [.int (M_1.1 11 (tn ((x1 * 5) + x2)))]) (st := []) (rc := 0) (ci := 11) (d' := 0) (by decide +kernel) ml_X11_176 cv_X11_answered rfl (by decide) rfl ob_0 rfl (by decide) (Nat.le_of_ble_eq_true rfl) (t_X11_answered hc_9) ?_
        obtain rfl := Option.some.inj h
        exact Fr_iret (by decide +kernel) rfl ⟨rfl, rfl⟩
      · have h := iF hc h
        refine Fr_aload_n (q := 0) (i := 0) 0 (by decide +kernel) rfl rfl ?_
        refine Fr_iconst (i := 5) (v := 5) (by decide +kernel) (by decide) ?_
        obtain ⟨r_13, M_11, hc_12, h⟩ := bi_elim h
        refine Fr_cVi (ν := m_X11_refused) (As := [.int 5]) (st := []) (rc := 0) (ci := 11) (d' := 0) (by decide +kernel) ml_X11_140 cv_X11_refused rfl (by decide) rfl ob_0 rfl (by decide) (Nat.le_of_ble_eq_true rfl) (t_X11_refused hc_12) ?_
        obtain rfl := Option.some.inj h
        exact Fr_iret (by decide +kernel) rfl ⟨rfl, rfl⟩
  · have h := iT hc h
    refine Fr_aload_n (q := 0) (i := 0) 0 (by decide +kernel) rfl rfl ?_
    refine Fr_iconst (i := 2) (v := 2) (by decide +kernel) (by decide) ?_
    obtain ⟨r_16, M_14, hc_15, h⟩ := bi_elim h
    refine Fr_cVi (ν := m_X11_refused) (As := [.int 2]) (st := []) (rc := 0) (ci := 11) (d' := 0) (by decide +kernel) ml_X11_140 cv_X11_refused rfl (by decide) rfl ob_0 rfl (by decide) (Nat.le_of_ble_eq_true rfl) (t_X11_refused hc_15) ?_
    obtain rfl := Option.some.inj h
    exact Fr_iret (by decide +kernel) rfl ⟨rfl, rfl⟩
set_option maxRecDepth 20000 in
theorem t_X11_votes {x1 : Int32} {M : Mem} {q : Int32 × Mem} (h : f_X11_votes x1 M = some q) : Ev 0 111 1 m_X11_votes [.ref 0, .int x1] M (QI q) := by
  refine Ev_of_Fr (by decide +kernel) (Nat.le_of_ble_eq_true rfl) ?_
  show Fr 0 111 1 m_X11_votes 0 [(0, .ref 0), (1, .int x1)] [] M (QI q)
  unfold f_X11_votes at h
  refine Fr_aload_n (q := 0) (i := 0) 0 (by decide +kernel) rfl rfl ?_
  refine gf_X11_34 rfl (by decide +kernel) ob_0 ?_
  refine Fr_iload_n (q := 1) (i := 1) 1 (by decide +kernel) rfl rfl ?_
  obtain ⟨r_3, M_1, hc_2, h⟩ := bi_elim h
  refine Fr_cVb (ν := m_X5_isHolder) (As := [.int x1]) (st := []) (rc := 10) (ci := 5) (d' := 0) (by decide +kernel) ml_X11_207 cv_X5_isHolder rfl (by decide) rfl ob_10 rfl (by decide) (Nat.le_of_ble_eq_true rfl) (t_X5_isHolder ob_10 hc_2) ?_
  refine Fr_if_ne (off := 9) 17 (by decide +kernel) (by decide) (fun hc => ?_) (fun hc => ?_)
  · have h := iF hc h
    refine Fr_aload_n (q := 0) (i := 0) 0 (by decide +kernel) rfl rfl ?_
    refine Fr_aload_n (q := 0) (i := 0) 0 (by decide +kernel) rfl rfl ?_
    refine gf_X11_34 rfl (by decide +kernel) ob_0 ?_
    refine gf_X11_210 rfl (by decide +kernel) ob_10 ?_
    refine Fr_iload_n (q := 1) (i := 1) 1 (by decide +kernel) rfl rfl ?_
    obtain ⟨hi_4, h⟩ := ck_elim h
    refine Fr_iald (by decide +kernel) ob_13 (vp_of ln_13 hi_4) ?_
    obtain ⟨r_7, M_5, hc_6, h⟩ := bi_elim h
    refine Fr_cVi (ν := m_X11_answered) (As := [.int (M_1.1 13 (tn x1))]) (st := []) (rc := 0) (ci := 11) (d' := 0) (by decide +kernel) ml_X11_176 cv_X11_answered rfl (by decide) rfl ob_0 rfl (by decide) (Nat.le_of_ble_eq_true rfl) (t_X11_answered hc_6) ?_
    obtain rfl := Option.some.inj h
    exact Fr_iret (by decide +kernel) rfl ⟨rfl, rfl⟩
  · have h := iT hc h
    refine Fr_aload_n (q := 0) (i := 0) 0 (by decide +kernel) rfl rfl ?_
    refine Fr_iconst (i := 2) (v := 2) (by decide +kernel) (by decide) ?_
    obtain ⟨r_10, M_8, hc_9, h⟩ := bi_elim h
    refine Fr_cVi (ν := m_X11_refused) (As := [.int 2]) (st := []) (rc := 0) (ci := 11) (d' := 0) (by decide +kernel) ml_X11_140 cv_X11_refused rfl (by decide) rfl ob_0 rfl (by decide) (Nat.le_of_ble_eq_true rfl) (t_X11_refused hc_9) ?_
    obtain rfl := Option.some.inj h
    exact Fr_iret (by decide +kernel) rfl ⟨rfl, rfl⟩
set_option maxRecDepth 20000 in
theorem t_X11_trade {x1 : Int32} {x2 : Int32} {M : Mem} {q : Int32 × Mem} (h : f_X11_trade x1 x2 M = some q) : Ev 0 111 1 m_X11_trade [.ref 0, .int x1, .int x2] M (QI q) := by
  refine Ev_of_Fr (by decide +kernel) (Nat.le_of_ble_eq_true rfl) ?_
  show Fr 0 111 1 m_X11_trade 0 [(0, .ref 0), (1, .int x1), (2, .int x2)] [] M (QI q)
  unfold f_X11_trade at h
  refine Fr_iload_n (q := 1) (i := 1) 1 (by decide +kernel) rfl rfl ?_
  refine Fr_if_lt (off := 14) 15 (by decide +kernel) (by decide) (fun hc => ?_) (fun hc => ?_)
  · have h := iT hc h
    refine Fr_aload_n (q := 0) (i := 0) 0 (by decide +kernel) rfl rfl ?_
    refine Fr_iconst (i := 2) (v := 2) (by decide +kernel) (by decide) ?_
    obtain ⟨r_3, M_1, hc_2, h⟩ := bi_elim h
    refine Fr_cVi (ν := m_X11_refused) (As := [.int 2]) (st := []) (rc := 0) (ci := 11) (d' := 0) (by decide +kernel) ml_X11_140 cv_X11_refused rfl (by decide) rfl ob_0 rfl (by decide) (Nat.le_of_ble_eq_true rfl) (t_X11_refused hc_2) ?_
    obtain rfl := Option.some.inj h
    exact Fr_iret (by decide +kernel) rfl ⟨rfl, rfl⟩
  · have h := iF hc h
    refine Fr_iload_n (q := 1) (i := 1) 1 (by decide +kernel) rfl rfl ?_
    refine Fr_aload_n (q := 0) (i := 0) 0 (by decide +kernel) rfl rfl ?_
    refine gf_X11_34 rfl (by decide +kernel) ob_0 ?_
    refine gf_X11_213 rfl (by decide +kernel) ob_10 ?_
    refine Fr_icmp_lt (off := 9) 21 (by decide +kernel) (by decide) (fun hc => ?_) (fun hc => ?_)
    · have h := iT hc h
      refine Fr_iload_n (q := 2) (i := 2) 2 (by decide +kernel) rfl rfl ?_
      refine Fr_if_lt (off := 9) 31 (by decide +kernel) (by decide) (fun hc => ?_) (fun hc => ?_)
      · have h := iT hc h
        refine Fr_aload_n (q := 0) (i := 0) 0 (by decide +kernel) rfl rfl ?_
        refine Fr_iconst (i := 5) (v := 5) (by decide +kernel) (by decide) ?_
        obtain ⟨r_6, M_4, hc_5, h⟩ := bi_elim h
        refine Fr_cVi (ν := m_X11_refused) (As := [.int 5]) (st := []) (rc := 0) (ci := 11) (d' := 0) (by decide +kernel) ml_X11_140 cv_X11_refused rfl (by decide) rfl ob_0 rfl (by decide) (Nat.le_of_ble_eq_true rfl) (t_X11_refused hc_5) ?_
        obtain rfl := Option.some.inj h
        exact Fr_iret (by decide +kernel) rfl ⟨rfl, rfl⟩
      · have h := iF hc h
        refine Fr_iload_n (q := 2) (i := 2) 2 (by decide +kernel) rfl rfl ?_
        refine Fr_bipush (i := 6) (v := 6) (by decide +kernel) (by decide) ?_
        refine Fr_icmp_lt (off := 9) 37 (by decide +kernel) (by decide) (fun hc => ?_) (fun hc => ?_)
        · have h := iT hc h
          refine Fr_aload_n (q := 0) (i := 0) 0 (by decide +kernel) rfl rfl ?_
          refine Fr_aload_n (q := 0) (i := 0) 0 (by decide +kernel) rfl rfl ?_
          refine gf_X11_34 rfl (by decide +kernel) ob_0 ?_
          refine gf_X11_216 rfl (by decide +kernel) ob_10 ?_
          refine Fr_iload_n (q := 1) (i := 1) 1 (by decide +kernel) rfl rfl ?_
          refine Fr_bipush (i := 6) (v := 6) (by decide +kernel) (by decide) ?_
          refine Fr_imul (by decide +kernel) ?_
          refine Fr_iload_n (q := 2) (i := 2) 2 (by decide +kernel) rfl rfl ?_
          refine Fr_iadd (by decide +kernel) ?_
          obtain ⟨hi_7, h⟩ := ck_elim h
          refine Fr_iald (by decide +kernel) ob_14 (vp_of ln_14 hi_7) ?_
          obtain ⟨r_10, M_8, hc_9, h⟩ := bi_elim h
          refine Fr_cVi (ν := m_X11_answered) (As := [.int (M.1 14 (tn ((x1 * 6) + x2)))]) (st := []) (rc := 0) (ci := 11) (d' := 0) (by decide +kernel) ml_X11_176 cv_X11_answered rfl (by decide) rfl ob_0 rfl (by decide) (Nat.le_of_ble_eq_true rfl) (t_X11_answered hc_9) ?_
          obtain rfl := Option.some.inj h
          exact Fr_iret (by decide +kernel) rfl ⟨rfl, rfl⟩
        · have h := iF hc h
          refine Fr_aload_n (q := 0) (i := 0) 0 (by decide +kernel) rfl rfl ?_
          refine Fr_iconst (i := 5) (v := 5) (by decide +kernel) (by decide) ?_
          obtain ⟨r_13, M_11, hc_12, h⟩ := bi_elim h
          refine Fr_cVi (ν := m_X11_refused) (As := [.int 5]) (st := []) (rc := 0) (ci := 11) (d' := 0) (by decide +kernel) ml_X11_140 cv_X11_refused rfl (by decide) rfl ob_0 rfl (by decide) (Nat.le_of_ble_eq_true rfl) (t_X11_refused hc_12) ?_
          obtain rfl := Option.some.inj h
          exact Fr_iret (by decide +kernel) rfl ⟨rfl, rfl⟩
    · have h := iF hc h
      refine Fr_aload_n (q := 0) (i := 0) 0 (by decide +kernel) rfl rfl ?_
      refine Fr_iconst (i := 2) (v := 2) (by decide +kernel) (by decide) ?_
      obtain ⟨r_16, M_14, hc_15, h⟩ := bi_elim h
      refine Fr_cVi (ν := m_X11_refused) (As := [.int 2]) (st := []) (rc := 0) (ci := 11) (d' := 0) (by decide +kernel) ml_X11_140 cv_X11_refused rfl (by decide) rfl ob_0 rfl (by decide) (Nat.le_of_ble_eq_true rfl) (t_X11_refused hc_15) ?_
      obtain rfl := Option.some.inj h
      exact Fr_iret (by decide +kernel) rfl ⟨rfl, rfl⟩
set_option maxRecDepth 20000 in
theorem t_X11_ship {x1 : Int32} {x2 : Int32} {M : Mem} {q : Int32 × Mem} (h : f_X11_ship x1 x2 M = some q) : Ev 0 111 1 m_X11_ship [.ref 0, .int x1, .int x2] M (QI q) := by
  refine Ev_of_Fr (by decide +kernel) (Nat.le_of_ble_eq_true rfl) ?_
  show Fr 0 111 1 m_X11_ship 0 [(0, .ref 0), (1, .int x1), (2, .int x2)] [] M (QI q)
  unfold f_X11_ship at h
  refine Fr_aload_n (q := 0) (i := 0) 0 (by decide +kernel) rfl rfl ?_
  refine gf_X11_34 rfl (by decide +kernel) ob_0 ?_
  refine Fr_iload_n (q := 1) (i := 1) 1 (by decide +kernel) rfl rfl ?_
  obtain ⟨r_3, M_1, hc_2, h⟩ := bi_elim h
  refine Fr_cVb (ν := m_X5_isShip) (As := [.int x1]) (st := []) (rc := 10) (ci := 5) (d' := 0) (by decide +kernel) ml_X11_219 cv_X5_isShip rfl (by decide) rfl ob_10 rfl (by decide) (Nat.le_of_ble_eq_true rfl) (t_X5_isShip ob_10 hc_2) ?_
  refine Fr_if_ne (off := 9) 17 (by decide +kernel) (by decide) (fun hc => ?_) (fun hc => ?_)
  · have h := iF hc h
    refine Fr_iload_n (q := 2) (i := 2) 2 (by decide +kernel) rfl rfl ?_
    refine Fr_if_lt (off := 8) 26 (by decide +kernel) (by decide) (fun hc => ?_) (fun hc => ?_)
    · have h := iT hc h
      refine Fr_aload_n (q := 0) (i := 0) 0 (by decide +kernel) rfl rfl ?_
      refine Fr_iconst (i := 5) (v := 5) (by decide +kernel) (by decide) ?_
      obtain ⟨r_6, M_4, hc_5, h⟩ := bi_elim h
      refine Fr_cVi (ν := m_X11_refused) (As := [.int 5]) (st := []) (rc := 0) (ci := 11) (d' := 0) (by decide +kernel) ml_X11_140 cv_X11_refused rfl (by decide) rfl ob_0 rfl (by decide) (Nat.le_of_ble_eq_true rfl) (t_X11_refused hc_5) ?_
      obtain rfl := Option.some.inj h
      exact Fr_iret (by decide +kernel) rfl ⟨rfl, rfl⟩
    · have h := iF hc h
      refine Fr_iload_n (q := 2) (i := 2) 2 (by decide +kernel) rfl rfl ?_
      refine Fr_iconst (i := 5) (v := 5) (by decide +kernel) (by decide) ?_
      refine Fr_icmp_lt (off := 9) 32 (by decide +kernel) (by decide) (fun hc => ?_) (fun hc => ?_)
      · have h := iT hc h
        refine Fr_aload_n (q := 0) (i := 0) 0 (by decide +kernel) rfl rfl ?_
        refine Fr_aload_n (q := 0) (i := 0) 0 (by decide +kernel) rfl rfl ?_
        refine gf_X11_34 rfl (by decide +kernel) ob_0 ?_
        refine gf_X11_222 rfl (by decide +kernel) ob_10 ?_
        refine Fr_iload_n (q := 1) (i := 1) 1 (by decide +kernel) rfl rfl ?_
        refine Fr_iconst (i := 5) (v := 5) (by decide +kernel) (by decide) ?_
        refine Fr_imul (by decide +kernel) ?_
        refine Fr_iload_n (q := 2) (i := 2) 2 (by decide +kernel) rfl rfl ?_
        refine Fr_iadd (by decide +kernel) ?_
        obtain ⟨hi_7, h⟩ := ck_elim h
        refine Fr_iald (by decide +kernel) ob_15 (vp_of ln_15 hi_7) ?_
        obtain ⟨r_10, M_8, hc_9, h⟩ := bi_elim h
        refine Fr_cVi (ν := m_X11_answered) (As := [.int (M_1.1 15 (tn ((x1 * 5) + x2)))]) (st := []) (rc := 0) (ci := 11) (d' := 0) (by decide +kernel) ml_X11_176 cv_X11_answered rfl (by decide) rfl ob_0 rfl (by decide) (Nat.le_of_ble_eq_true rfl) (t_X11_answered hc_9) ?_
        obtain rfl := Option.some.inj h
        exact Fr_iret (by decide +kernel) rfl ⟨rfl, rfl⟩
      · have h := iF hc h
        refine Fr_aload_n (q := 0) (i := 0) 0 (by decide +kernel) rfl rfl ?_
        refine Fr_iconst (i := 5) (v := 5) (by decide +kernel) (by decide) ?_
        obtain ⟨r_13, M_11, hc_12, h⟩ := bi_elim h
        refine Fr_cVi (ν := m_X11_refused) (As := [.int 5]) (st := []) (rc := 0) (ci := 11) (d' := 0) (by decide +kernel) ml_X11_140 cv_X11_refused rfl (by decide) rfl ob_0 rfl (by decide) (Nat.le_of_ble_eq_true rfl) (t_X11_refused hc_12) ?_
        obtain rfl := Option.some.inj h
        exact Fr_iret (by decide +kernel) rfl ⟨rfl, rfl⟩
  · have h := iT hc h
    refine Fr_aload_n (q := 0) (i := 0) 0 (by decide +kernel) rfl rfl ?_
    refine Fr_iconst (i := 2) (v := 2) (by decide +kernel) (by decide) ?_
    obtain ⟨r_16, M_14, hc_15, h⟩ := bi_elim h
    refine Fr_cVi (ν := m_X11_refused) (As := [.int 2]) (st := []) (rc := 0) (ci := 11) (d' := 0) (by decide +kernel) ml_X11_140 cv_X11_refused rfl (by decide) rfl ob_0 rfl (by decide) (Nat.le_of_ble_eq_true rfl) (t_X11_refused hc_15) ?_
    obtain rfl := Option.some.inj h
    exact Fr_iret (by decide +kernel) rfl ⟨rfl, rfl⟩
set_option maxRecDepth 20000 in
theorem t_X11_fog {x1 : Int32} {x2 : Int32} {x3 : Int32} {M : Mem} {q : Int32 × Mem} (h : f_X11_fog x1 x2 x3 M = some q) : Ev 0 111 1 m_X11_fog [.ref 0, .int x1, .int x2, .int x3] M (QI q) := by
  refine Ev_of_Fr (by decide +kernel) (Nat.le_of_ble_eq_true rfl) ?_
  show Fr 0 111 1 m_X11_fog 0 [(0, .ref 0), (1, .int x1), (2, .int x2), (3, .int x3)] [] M (QI q)
  unfold f_X11_fog at h
  refine Fr_aload_n (q := 0) (i := 0) 0 (by decide +kernel) rfl rfl ?_
  refine gf_X11_34 rfl (by decide +kernel) ob_0 ?_
  refine Fr_iload_n (q := 1) (i := 1) 1 (by decide +kernel) rfl rfl ?_
  refine Fr_iload_n (q := 2) (i := 2) 2 (by decide +kernel) rfl rfl ?_
  obtain ⟨r_3, M_1, hc_2, h⟩ := bi_elim h
  refine Fr_cVb (ν := m_X5_isBoard) (As := [.int x1, .int x2]) (st := []) (rc := 10) (ci := 5) (d' := 0) (by decide +kernel) ml_X11_225 cv_X5_isBoard rfl (by decide) rfl ob_10 rfl (by decide) (Nat.le_of_ble_eq_true rfl) (t_X5_isBoard ob_10 hc_2) ?_
  refine Fr_if_ne (off := 9) 18 (by decide +kernel) (by decide) (fun hc => ?_) (fun hc => ?_)
  · have h := iF hc h
    refine Fr_iload_n (q := 3) (i := 3) 3 (by decide +kernel) rfl rfl ?_
    refine Fr_if_lt (off := 8) 27 (by decide +kernel) (by decide) (fun hc => ?_) (fun hc => ?_)
    · have h := iT hc h
      refine Fr_aload_n (q := 0) (i := 0) 0 (by decide +kernel) rfl rfl ?_
      refine Fr_iconst (i := 5) (v := 5) (by decide +kernel) (by decide) ?_
      obtain ⟨r_6, M_4, hc_5, h⟩ := bi_elim h
      refine Fr_cVi (ν := m_X11_refused) (As := [.int 5]) (st := []) (rc := 0) (ci := 11) (d' := 0) (by decide +kernel) ml_X11_140 cv_X11_refused rfl (by decide) rfl ob_0 rfl (by decide) (Nat.le_of_ble_eq_true rfl) (t_X11_refused hc_5) ?_
      obtain rfl := Option.some.inj h
      exact Fr_iret (by decide +kernel) rfl ⟨rfl, rfl⟩
    · have h := iF hc h
      refine Fr_iload_n (q := 3) (i := 3) 3 (by decide +kernel) rfl rfl ?_
      refine Fr_iconst (i := 1) (v := 1) (by decide +kernel) (by decide) ?_
      refine Fr_icmp_le (off := 9) 33 (by decide +kernel) (by decide) (fun hc => ?_) (fun hc => ?_)
      · have h := iT hc h
        refine Fr_aload_n (q := 0) (i := 0) 0 (by decide +kernel) rfl rfl ?_
        refine Fr_aload_n (q := 0) (i := 0) 0 (by decide +kernel) rfl rfl ?_
        refine gf_X11_34 rfl (by decide +kernel) ob_0 ?_
        refine gf_X11_229 rfl (by decide +kernel) ob_10 ?_
        refine Fr_iload_n (q := 3) (i := 3) 3 (by decide +kernel) rfl rfl ?_
        refine Fr_bipush (i := 30) (v := 30) (by decide +kernel) (by decide) ?_
        refine Fr_imul (by decide +kernel) ?_
        refine Fr_aload_n (q := 0) (i := 0) 0 (by decide +kernel) rfl rfl ?_
        refine gf_X11_34 rfl (by decide +kernel) ob_0 ?_
        refine Fr_iload_n (q := 1) (i := 1) 1 (by decide +kernel) rfl rfl ?_
        refine Fr_iload_n (q := 2) (i := 2) 2 (by decide +kernel) rfl rfl ?_
        obtain ⟨r_9, M_7, hc_8, h⟩ := bi_elim h
        refine Fr_cVi (ν := m_X5_boardAt) (As := [.int x1, .int x2]) (st := [.int (x3 * 30), .ref 16, .ref 0]) (rc := 10) (ci := 5) (d' := 0) (by decide +kernel) ml_X11_232 cv_X5_boardAt rfl (by decide) rfl ob_10 rfl (by decide) (Nat.le_of_ble_eq_true rfl) (t_X5_boardAt ob_10 hc_8) ?_
        refine Fr_iadd (by decide +kernel) ?_
        obtain ⟨hi_10, h⟩ := ck_elim h
        refine Fr_iald (by decide +kernel) ob_16 (vp_of ln_16 hi_10) ?_
        obtain ⟨r_13, M_11, hc_12, h⟩ := bi_elim h
        refine Fr_cVi (ν := m_X11_answered) (As := [.int (M_7.1 16 (tn ((x3 * 30) + r_9)))]) (st := []) (rc := 0) (ci := 11) (d' := 0) (by decide +kernel) ml_X11_176 cv_X11_answered rfl (by decide) rfl ob_0 rfl (by decide) (Nat.le_of_ble_eq_true rfl) (t_X11_answered hc_12) ?_
        obtain rfl := Option.some.inj h
        exact Fr_iret (by decide +kernel) rfl ⟨rfl, rfl⟩
      · have h := iF hc h
        refine Fr_aload_n (q := 0) (i := 0) 0 (by decide +kernel) rfl rfl ?_
        refine Fr_iconst (i := 5) (v := 5) (by decide +kernel) (by decide) ?_
        obtain ⟨r_16, M_14, hc_15, h⟩ := bi_elim h
        refine Fr_cVi (ν := m_X11_refused) (As := [.int 5]) (st := []) (rc := 0) (ci := 11) (d' := 0) (by decide +kernel) ml_X11_140 cv_X11_refused rfl (by decide) rfl ob_0 rfl (by decide) (Nat.le_of_ble_eq_true rfl) (t_X11_refused hc_15) ?_
        obtain rfl := Option.some.inj h
        exact Fr_iret (by decide +kernel) rfl ⟨rfl, rfl⟩
  · have h := iT hc h
    refine Fr_aload_n (q := 0) (i := 0) 0 (by decide +kernel) rfl rfl ?_
    refine Fr_iconst (i := 2) (v := 2) (by decide +kernel) (by decide) ?_
    obtain ⟨r_19, M_17, hc_18, h⟩ := bi_elim h
    refine Fr_cVi (ν := m_X11_refused) (As := [.int 2]) (st := []) (rc := 0) (ci := 11) (d' := 0) (by decide +kernel) ml_X11_140 cv_X11_refused rfl (by decide) rfl ob_0 rfl (by decide) (Nat.le_of_ble_eq_true rfl) (t_X11_refused hc_18) ?_
    obtain rfl := Option.some.inj h
    exact Fr_iret (by decide +kernel) rfl ⟨rfl, rfl⟩
set_option maxRecDepth 20000 in
theorem t_X11_foggy {x1 : Int32} {x2 : Int32} {M : Mem} {q : Int32 × Mem} (h : f_X11_foggy x1 x2 M = some q) : Ev 0 111 2 m_X11_foggy [.ref 0, .int x1, .int x2] M (QI q) := by
  refine Ev_of_Fr (by decide +kernel) (Nat.le_of_ble_eq_true rfl) ?_
  show Fr 0 111 2 m_X11_foggy 0 [(0, .ref 0), (1, .int x1), (2, .int x2)] [] M (QI q)
  unfold f_X11_foggy at h
  refine Fr_aload_n (q := 0) (i := 0) 0 (by decide +kernel) rfl rfl ?_
  refine gf_X11_34 rfl (by decide +kernel) ob_0 ?_
  refine Fr_iload_n (q := 1) (i := 1) 1 (by decide +kernel) rfl rfl ?_
  refine Fr_iload_n (q := 2) (i := 2) 2 (by decide +kernel) rfl rfl ?_
  obtain ⟨r_3, M_1, hc_2, h⟩ := bi_elim h
  refine Fr_cVb (ν := m_X5_isBoard) (As := [.int x1, .int x2]) (st := []) (rc := 10) (ci := 5) (d' := 0) (by decide +kernel) ml_X11_225 cv_X5_isBoard rfl (by decide) rfl ob_10 rfl (by decide) (Nat.le_of_ble_eq_true rfl) (t_X5_isBoard ob_10 hc_2) ?_
  refine Fr_if_ne (off := 9) 18 (by decide +kernel) (by decide) (fun hc => ?_) (fun hc => ?_)
  · have h := iF hc h
    refine Fr_aload_n (q := 0) (i := 0) 0 (by decide +kernel) rfl rfl ?_
    refine Fr_aload_n (q := 0) (i := 0) 0 (by decide +kernel) rfl rfl ?_
    refine gf_X11_34 rfl (by decide +kernel) ob_0 ?_
    refine Fr_aload_n (q := 0) (i := 0) 0 (by decide +kernel) rfl rfl ?_
    refine gf_X11_34 rfl (by decide +kernel) ob_0 ?_
    refine gf_X11_229 rfl (by decide +kernel) ob_10 ?_
    refine Fr_aload_n (q := 0) (i := 0) 0 (by decide +kernel) rfl rfl ?_
    refine gf_X11_34 rfl (by decide +kernel) ob_0 ?_
    refine Fr_iload_n (q := 1) (i := 1) 1 (by decide +kernel) rfl rfl ?_
    refine Fr_iload_n (q := 2) (i := 2) 2 (by decide +kernel) rfl rfl ?_
    obtain ⟨r_6, M_4, hc_5, h⟩ := bi_elim h
    refine Fr_cVi (ν := m_X5_boardAt) (As := [.int x1, .int x2]) (st := [.ref 16, .ref 10, .ref 0]) (rc := 10) (ci := 5) (d' := 0) (by decide +kernel) ml_X11_232 cv_X5_boardAt rfl (by decide) rfl ob_10 rfl (by decide) (Nat.le_of_ble_eq_true rfl) (t_X5_boardAt ob_10 hc_5) ?_
    obtain ⟨r_9, M_7, hc_8, h⟩ := bi_elim h
    refine Fr_cVb (ν := m_X5_isFoggy) (As := [.ref 16, .int r_6]) (st := [.ref 0]) (rc := 10) (ci := 5) (d' := 1) (by decide +kernel) ml_X11_235 cv_X5_isFoggy rfl (by decide) rfl ob_10 rfl (by decide) (Nat.le_of_ble_eq_true rfl) (t_X5_isFoggy ob_10 ob_16 hc_8) ?_
    refine Fr_if_eq (off := 7) 49 (by decide +kernel) (by decide) (fun hc => ?_) (fun hc => ?_)
    · have h := iT hc h
      refine Fr_iconst (i := 0) (v := 0) (by decide +kernel) (by decide) ?_
      obtain ⟨r_12, M_10, hc_11, h⟩ := bi_elim h
      refine Fr_cVi (ν := m_X11_answered) (As := [.int 0]) (st := []) (rc := 0) (ci := 11) (d' := 0) (by decide +kernel) ml_X11_176 cv_X11_answered rfl (by decide) rfl ob_0 rfl (by decide) (Nat.le_of_ble_eq_true rfl) (t_X11_answered hc_11) ?_
      obtain rfl := Option.some.inj h
      exact Fr_iret (by decide +kernel) rfl ⟨rfl, rfl⟩
    · have h := iF hc h
      refine Fr_iconst (i := 1) (v := 1) (by decide +kernel) (by decide) ?_
      refine Fr_goto (off := 4) 50 (by decide +kernel) (by decide) ?_
      obtain ⟨r_15, M_13, hc_14, h⟩ := bi_elim h
      refine Fr_cVi (ν := m_X11_answered) (As := [.int 1]) (st := []) (rc := 0) (ci := 11) (d' := 0) (by decide +kernel) ml_X11_176 cv_X11_answered rfl (by decide) rfl ob_0 rfl (by decide) (Nat.le_of_ble_eq_true rfl) (t_X11_answered hc_14) ?_
      obtain rfl := Option.some.inj h
      exact Fr_iret (by decide +kernel) rfl ⟨rfl, rfl⟩
  · have h := iT hc h
    refine Fr_aload_n (q := 0) (i := 0) 0 (by decide +kernel) rfl rfl ?_
    refine Fr_iconst (i := 2) (v := 2) (by decide +kernel) (by decide) ?_
    obtain ⟨r_18, M_16, hc_17, h⟩ := bi_elim h
    refine Fr_cVi (ν := m_X11_refused) (As := [.int 2]) (st := []) (rc := 0) (ci := 11) (d' := 0) (by decide +kernel) ml_X11_140 cv_X11_refused rfl (by decide) rfl ob_0 rfl (by decide) (Nat.le_of_ble_eq_true rfl) (t_X11_refused hc_17) ?_
    obtain rfl := Option.some.inj h
    exact Fr_iret (by decide +kernel) rfl ⟨rfl, rfl⟩
set_option maxRecDepth 20000 in
theorem t_X11_copyFog_h31 {N : Nat} {q : Int32 × Mem} {k31 : Int32 × Int32 × Int32 → Mem → Option (Int32 × Mem)} (hk31 : ∀ (a : Int32 × Int32 × Int32) (M : Mem), k31 a M = some q → Fr 0 111 3 m_X11_copyFog 31 [(0, .ref 0), (1, .int a.1), (2, .int a.2.1), (4, .int a.2.2)] [] M (QI q)) {v1 : Int32} {v2 : Int32} {v4 : Int32} {M : Mem} (h : f_X11_copyFog_h31 N k31 v1 v2 v4 M = some q) : Fr 0 111 3 m_X11_copyFog 31 [(0, .ref 0), (1, .int v1), (2, .int v2), (4, .int v4)] [] M (QI q) := by
  unfold f_X11_copyFog_h31 at h
  refine Fr_iload (i := 4) 3 (by decide +kernel) rfl ?_
  refine Fr_iload_n (q := 2) (i := 2) 2 (by decide +kernel) rfl rfl ?_
  refine Fr_icmp_ge (off := 32) 66 (by decide +kernel) (by decide) (fun hc => ?_) (fun hc => ?_)
  · have h := iT hc h
    refine Fr_aload_n (q := 0) (i := 0) 0 (by decide +kernel) rfl rfl ?_
    refine Fr_iload_n (q := 2) (i := 2) 2 (by decide +kernel) rfl rfl ?_
    obtain ⟨r_9, M_7, hc_8, h⟩ := bi_elim h
    refine Fr_cVi (ν := m_X11_answered) (As := [.int v2]) (st := []) (rc := 0) (ci := 11) (d' := 0) (by decide +kernel) ml_X11_176 cv_X11_answered rfl (by decide) rfl ob_0 rfl (by decide) (Nat.le_of_ble_eq_true rfl) (t_X11_answered hc_8) ?_
    obtain rfl := Option.some.inj h
    exact Fr_iret (by decide +kernel) rfl ⟨rfl, rfl⟩
  · have h := iF hc h
    refine Fr_aload_n (q := 0) (i := 0) 0 (by decide +kernel) rfl rfl ?_
    refine gf_X11_27 rfl (by decide +kernel) ob_0 ?_
    refine Fr_iload_n (q := 1) (i := 1) 1 (by decide +kernel) rfl rfl ?_
    refine Fr_iload (i := 4) 3 (by decide +kernel) rfl ?_
    refine Fr_aload_n (q := 0) (i := 0) 0 (by decide +kernel) rfl rfl ?_
    refine gf_X11_34 rfl (by decide +kernel) ob_0 ?_
    refine gf_X11_229 rfl (by decide +kernel) ob_10 ?_
    refine Fr_iload (i := 4) 3 (by decide +kernel) rfl ?_
    obtain ⟨r_12, M_10, hc_11, h⟩ := bi_elim h
    refine Fr_cSi (ν := m_X5_bothKinds) (As := [.ref 16, .int v4]) (st := [.int v4, .int v1, .ref 2]) (d' := 0) (by decide +kernel) ml_X11_246 cs_X5_bothKinds rfl (by decide) (Nat.le_of_ble_eq_true rfl) (t_X5_bothKinds ob_16 hc_11) ?_
    refine Fr_i2l (by decide +kernel) ?_
    obtain ⟨M_13, hc_14, h⟩ := bv_elim h
    refine Fr_cVv (ν := m_X9_put) (As := [.int v1, .int v4, .long (Int32.toInt64 r_12)]) (st := []) (rc := 2) (ci := 9) (d' := 1) (by decide +kernel) ml_X11_136 cv_X9_put rfl (by decide) rfl ob_2 rfl (by decide) (Nat.le_of_ble_eq_true rfl) (t_X9_put hc_14) ?_
    refine Fr_iinc (i := 4) (j := 1) (v := (v4 + 1)) (lv' := [(4, .int (v4 + 1)), (0, .ref 0), (1, .int v1), (2, .int v2)]) 3 (by decide +kernel) rfl rfl (by decide) rfl ?_
    refine Fr_goto (off := (-32)) 31 (by decide +kernel) (by decide) ?_
    refine Fr_loc [1, 2, 3, 0] rfl ?_
    exact hk31 (v1, v2, (v4 + 1)) M_13 h
set_option maxRecDepth 20000 in
theorem t_X11_copyFog {N : Nat} {x1 : Int32} {M : Mem} {q : Int32 × Mem} (h : f_X11_copyFog N x1 M = some q) : Ev 0 111 3 m_X11_copyFog [.ref 0, .int x1] M (QI q) := by
  refine Ev_of_Fr (by decide +kernel) (Nat.le_of_ble_eq_true rfl) ?_
  show Fr 0 111 3 m_X11_copyFog 0 [(0, .ref 0), (1, .int x1)] [] M (QI q)
  unfold f_X11_copyFog at h
  refine Fr_aload_n (q := 0) (i := 0) 0 (by decide +kernel) rfl rfl ?_
  refine gf_X11_34 rfl (by decide +kernel) ob_0 ?_
  obtain ⟨r_3, M_1, hc_2, h⟩ := bi_elim h
  refine Fr_cVi (ν := m_X5_boardCount) (As := []) (st := []) (rc := 10) (ci := 5) (d' := 0) (by decide +kernel) ml_X11_239 cv_X5_boardCount rfl (by decide) rfl ob_10 rfl (by decide) (Nat.le_of_ble_eq_true rfl) (t_X5_boardCount ob_10 hc_2) ?_
  refine Fr_istore_n (q := 2) (i := 2) (lv' := [(2, .int r_3), (0, .ref 0), (1, .int x1)]) (by decide +kernel) rfl (by decide) rfl ?_
  refine Fr_aload_n (q := 0) (i := 0) 1 (by decide +kernel) rfl rfl ?_
  refine gf_X11_27 rfl (by decide +kernel) ob_0 ?_
  refine Fr_iload_n (q := 1) (i := 1) 2 (by decide +kernel) rfl rfl ?_
  refine Fr_iload_n (q := 2) (i := 2) 0 (by decide +kernel) rfl rfl ?_
  obtain ⟨r_6, M_4, hc_5, h⟩ := bi_elim h
  refine Fr_cVi (ν := m_X9_codeOfLength) (As := [.int x1, .int r_3]) (st := []) (rc := 2) (ci := 9) (d' := 2) (by decide +kernel) ml_X11_243 cv_X9_codeOfLength rfl (by decide) rfl ob_2 rfl (by decide) (Nat.le_of_ble_eq_true rfl) (t_X9_codeOfLength hc_5) ?_
  refine Fr_istore_n (q := 3) (i := 3) (lv' := [(3, .int r_6), (2, .int r_3), (0, .ref 0), (1, .int x1)]) (by decide +kernel) rfl (by decide) rfl ?_
  refine Fr_iload_n (q := 3) (i := 3) 0 (by decide +kernel) rfl rfl ?_
  refine Fr_if_eq (off := 9) 28 (by decide +kernel) (by decide) (fun hc => ?_) (fun hc => ?_)
  · have h := iT hc h
    refine Fr_iconst (i := 0) (v := 0) (by decide +kernel) (by decide) ?_
    refine Fr_istore (i := 4) (lv' := [(4, .int 0), (3, .int r_6), (2, .int r_3), (0, .ref 0), (1, .int x1)]) (by decide +kernel) (by decide) rfl ?_
    refine Fr_loc [3, 4, 2, 0] rfl ?_
    exact lp_sound (body := fun k a m => f_X11_copyFog_h31 N k a.1 a.2.1 a.2.2 m) (P := fun a M => Fr 0 111 3 m_X11_copyFog 31 [(0, .ref 0), (1, .int a.1), (2, .int a.2.1), (4, .int a.2.2)] [] M (QI q)) (fun k hk a m h => t_X11_copyFog_h31 hk h) N (x1, r_3, 0) M_4 h
  · have h := iF hc h
    refine Fr_aload_n (q := 0) (i := 0) 2 (by decide +kernel) rfl rfl ?_
    refine Fr_iload_n (q := 3) (i := 3) 0 (by decide +kernel) rfl rfl ?_
    obtain ⟨r_17, M_15, hc_16, h⟩ := bi_elim h
    refine Fr_cVi (ν := m_X11_refused) (As := [.int r_6]) (st := []) (rc := 0) (ci := 11) (d' := 0) (by decide +kernel) ml_X11_140 cv_X11_refused rfl (by decide) rfl ob_0 rfl (by decide) (Nat.le_of_ble_eq_true rfl) (t_X11_refused hc_16) ?_
    obtain rfl := Option.some.inj h
    exact Fr_iret (by decide +kernel) rfl ⟨rfl, rfl⟩
