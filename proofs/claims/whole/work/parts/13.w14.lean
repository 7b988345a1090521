set_option maxRecDepth 20000 in
theorem t_X11_hour {N : Nat} {x1 : Int32} {M : Mem} {q : Int32 × Mem} (h : f_X11_hour N x1 M = some q) : Ev 0 111 4 m_X11_hour [.ref 0, .int x1] M (QI q) := by
  refine Ev_of_Fr (by decide +kernel) (Nat.le_of_ble_eq_true rfl) ?_
  show Fr 0 111 4 m_X11_hour 0 [(0, .ref 0), (1, .int x1)] [] M (QI q)
  unfold f_X11_hour at h
  refine Fr_iload_n (q := 1) (i := 1) 1 (by decide +kernel) rfl rfl ?_
  refine Fr_iconst (i := 1) (v := 1) (by decide +kernel) (by decide) ?_
  refine Fr_icmp_lt (off := 9) 11 (by decide +kernel) (by decide) (fun hc => ?_) (fun hc => ?_)
  · have h := iT hc h
    refine Fr_aload_n (q := 0) (i := 0) 0 (by decide +kernel) rfl rfl ?_
    refine Fr_iconst (i := 5) (v := 5) (by decide +kernel) (by decide) ?_
    obtain ⟨r_3, M_1, hc_2, h⟩ := bi_elim h
    refine Fr_cVi (ν := m_X11_refused) (As := [.int 5]) (st := []) (rc := 0) (ci := 11) (d' := 0) (by decide +kernel) ml_X11_140 cv_X11_refused rfl (by decide) rfl ob_0 rfl (by decide) (Nat.le_of_ble_eq_true rfl) (t_X11_refused hc_2) ?_
    obtain rfl := Option.some.inj h
    exact Fr_iret (by decide +kernel) rfl ⟨rfl, rfl⟩
  · have h := iF hc h
    refine Fr_iload_n (q := 1) (i := 1) 1 (by decide +kernel) rfl rfl ?_
    refine Fr_bipush (i := 48) (v := 48) (by decide +kernel) (by decide) ?_
    refine Fr_icmp_le (off := 9) 17 (by decide +kernel) (by decide) (fun hc => ?_) (fun hc => ?_)
    · have h := iT hc h
      refine Fr_aload_n (q := 0) (i := 0) 0 (by decide +kernel) rfl rfl ?_
      refine gf_X11_34 rfl (by decide +kernel) ob_0 ?_
      refine gf_X11_250 rfl (by decide +kernel) ob_10 ?_
      refine Fr_iload_n (q := 1) (i := 1) 1 (by decide +kernel) rfl rfl ?_
      refine Fr_iadd (by decide +kernel) ?_
      refine Fr_sipush (i := 9999) (v := 9999) (by decide +kernel) (by decide) ?_
      refine Fr_icmp_le (off := 10) 39 (by decide +kernel) (by decide) (fun hc => ?_) (fun hc => ?_)
      · have h := iT hc h
        refine Fr_aload_n (q := 0) (i := 0) 0 (by decide +kernel) rfl rfl ?_
        refine gf_X11_80 rfl (by decide +kernel) ob_0 ?_
        refine Fr_aload_n (q := 0) (i := 0) 0 (by decide +kernel) rfl rfl ?_
        refine gf_X11_34 rfl (by decide +kernel) ob_0 ?_
        refine Fr_iload_n (q := 1) (i := 1) 1 (by decide +kernel) rfl rfl ?_
        obtain ⟨r_6, M_4, hc_5, h⟩ := bi_elim h
        refine Fr_cVi (ν := m_X10_passHours) (As := [.ref 10, .int x1]) (st := []) (rc := 90) (ci := 10) (d' := 3) (by decide +kernel) ml_X11_253 cv_X10_passHours rfl (by decide) rfl ob_90 rfl (by decide) (Nat.le_of_ble_eq_true rfl) (t_X10_passHours ob_10 hc_5) ?_
        refine Fr_pop (by decide +kernel) rfl ?_
        refine Fr_aload_n (q := 0) (i := 0) 0 (by decide +kernel) rfl rfl ?_
        refine Fr_aload_n (q := 0) (i := 0) 0 (by decide +kernel) rfl rfl ?_
        refine gf_X11_34 rfl (by decide +kernel) ob_0 ?_
        refine gf_X11_250 rfl (by decide +kernel) ob_10 ?_
        obtain ⟨r_9, M_7, hc_8, h⟩ := bi_elim h
        refine Fr_cVi (ν := m_X11_answered) (As := [.int (M_4.1 10 5)]) (st := []) (rc := 0) (ci := 11) (d' := 0) (by decide +kernel) ml_X11_176 cv_X11_answered rfl (by decide) rfl ob_0 rfl (by decide) (Nat.le_of_ble_eq_true rfl) (t_X11_answered hc_8) ?_
        obtain rfl := Option.some.inj h
        exact Fr_iret (by decide +kernel) rfl ⟨rfl, rfl⟩
      · have h := iF hc h
        refine Fr_aload_n (q := 0) (i := 0) 0 (by decide +kernel) rfl rfl ?_
        refine Fr_bipush (i := 7) (v := 7) (by decide +kernel) (by decide) ?_
        obtain ⟨r_12, M_10, hc_11, h⟩ := bi_elim h
        refine Fr_cVi (ν := m_X11_refused) (As := [.int 7]) (st := []) (rc := 0) (ci := 11) (d' := 0) (by decide +kernel) ml_X11_140 cv_X11_refused rfl (by decide) rfl ob_0 rfl (by decide) (Nat.le_of_ble_eq_true rfl) (t_X11_refused hc_11) ?_
        obtain rfl := Option.some.inj h
        exact Fr_iret (by decide +kernel) rfl ⟨rfl, rfl⟩
    · have h := iF hc h
      refine Fr_aload_n (q := 0) (i := 0) 0 (by decide +kernel) rfl rfl ?_
      refine Fr_iconst (i := 5) (v := 5) (by decide +kernel) (by decide) ?_
      obtain ⟨r_15, M_13, hc_14, h⟩ := bi_elim h
      refine Fr_cVi (ν := m_X11_refused) (As := [.int 5]) (st := []) (rc := 0) (ci := 11) (d' := 0) (by decide +kernel) ml_X11_140 cv_X11_refused rfl (by decide) rfl ob_0 rfl (by decide) (Nat.le_of_ble_eq_true rfl) (t_X11_refused hc_14) ?_
      obtain rfl := Option.some.inj h
      exact Fr_iret (by decide +kernel) rfl ⟨rfl, rfl⟩
set_option maxRecDepth 20000 in
theorem t_X11_open {x1 : Int32} {x2 : Int32} {M : Mem} {q : Bool × Mem} (h : f_X11_open x1 x2 M = some q) : Ev 0 111 1 m_X11_open [.ref 0, .int x1, .int x2] M (QB q) := by
  refine Ev_of_Fr (by decide +kernel) (Nat.le_of_ble_eq_true rfl) ?_
  show Fr 0 111 1 m_X11_open 0 [(0, .ref 0), (1, .int x1), (2, .int x2)] [] M (QB q)
  unfold f_X11_open at h
  refine Fr_aload_n (q := 0) (i := 0) 0 (by decide +kernel) rfl rfl ?_
  refine gf_X11_34 rfl (by decide +kernel) ob_0 ?_
  refine Fr_iload_n (q := 1) (i := 1) 1 (by decide +kernel) rfl rfl ?_
  obtain ⟨r_3, M_1, hc_2, h⟩ := bi_elim h
  refine Fr_cVb (ν := m_X5_isGate) (As := [.int x1]) (st := []) (rc := 10) (ci := 5) (d' := 0) (by decide +kernel) ml_X11_200 cv_X5_isGate rfl (by decide) rfl ob_10 rfl (by decide) (Nat.le_of_ble_eq_true rfl) (t_X5_isGate ob_10 hc_2) ?_
  refine Fr_if_ne (off := 9) 17 (by decide +kernel) (by decide) (fun hc => ?_) (fun hc => ?_)
  · have h := iF hc h
    refine Fr_aload_n (q := 0) (i := 0) 0 (by decide +kernel) rfl rfl ?_
    refine gf_X11_34 rfl (by decide +kernel) ob_0 ?_
    refine Fr_iload_n (q := 1) (i := 1) 1 (by decide +kernel) rfl rfl ?_
    obtain ⟨r_6, M_4, hc_5, h⟩ := bi_elim h
    refine Fr_cVb (ν := m_X5_isOpen) (As := [.int x1]) (st := []) (rc := 10) (ci := 5) (d' := 0) (by decide +kernel) ml_X11_257 cv_X5_isOpen rfl (by decide) rfl ob_10 rfl (by decide) (Nat.le_of_ble_eq_true rfl) (t_X5_isOpen ob_10 hc_5) ?_
    refine Fr_iload_n (q := 2) (i := 2) 2 (by decide +kernel) rfl rfl ?_
    refine Fr_icmp_ne (off := 10) 36 (by decide +kernel) (by decide) (fun hc => ?_) (fun hc => ?_)
    · have h := iF hc h
      refine Fr_aload_n (q := 0) (i := 0) 0 (by decide +kernel) rfl rfl ?_
      refine gf_X11_34 rfl (by decide +kernel) ob_0 ?_
      refine Fr_iload_n (q := 1) (i := 1) 1 (by decide +kernel) rfl rfl ?_
      refine Fr_iload_n (q := 2) (i := 2) 2 (by decide +kernel) rfl rfl ?_
      obtain ⟨M_7, hc_8, h⟩ := bv_elim h
      refine Fr_cVv (ν := m_X5_setOpen) (As := [.int x1, .int x2]) (st := []) (rc := 10) (ci := 5) (d' := 0) (by decide +kernel) ml_X11_260 cv_X5_setOpen rfl (by decide) rfl ob_10 rfl (by decide) (Nat.le_of_ble_eq_true rfl) (t_X5_setOpen ob_10 hc_8) ?_
      refine Fr_aload_n (q := 0) (i := 0) 0 (by decide +kernel) rfl rfl ?_
      obtain ⟨r_11, M_9, hc_10, h⟩ := bi_elim h
      refine Fr_cVb (ν := m_X11_granted) (As := []) (st := []) (rc := 0) (ci := 11) (d' := 0) (by decide +kernel) ml_X11_128 cv_X11_granted rfl (by decide) rfl ob_0 rfl (by decide) (Nat.le_of_ble_eq_true rfl) (t_X11_granted hc_10) ?_
      obtain rfl := Option.some.inj h
      exact Fr_zret (by decide +kernel) rfl (nz_b r_11) ⟨rfl, rfl⟩
    · have h := iT hc h
      refine Fr_aload_n (q := 0) (i := 0) 0 (by decide +kernel) rfl rfl ?_
      refine Fr_bipush (i := 9) (v := 9) (by decide +kernel) (by decide) ?_
      obtain ⟨r_14, M_12, hc_13, h⟩ := bi_elim h
      refine Fr_cVb (ν := m_X11_refusedFlag) (As := [.int 9]) (st := []) (rc := 0) (ci := 11) (d' := 0) (by decide +kernel) ml_X11_121 cv_X11_refusedFlag rfl (by decide) rfl ob_0 rfl (by decide) (Nat.le_of_ble_eq_true rfl) (t_X11_refusedFlag hc_13) ?_
      obtain rfl := Option.some.inj h
      exact Fr_zret (by decide +kernel) rfl (nz_b r_14) ⟨rfl, rfl⟩
  · have h := iT hc h
    refine Fr_aload_n (q := 0) (i := 0) 0 (by decide +kernel) rfl rfl ?_
    refine Fr_iconst (i := 2) (v := 2) (by decide +kernel) (by decide) ?_
    obtain ⟨r_17, M_15, hc_16, h⟩ := bi_elim h
    refine Fr_cVb (ν := m_X11_refusedFlag) (As := [.int 2]) (st := []) (rc := 0) (ci := 11) (d' := 0) (by decide +kernel) ml_X11_121 cv_X11_refusedFlag rfl (by decide) rfl ob_0 rfl (by decide) (Nat.le_of_ble_eq_true rfl) (t_X11_refusedFlag hc_16) ?_
    obtain rfl := Option.some.inj h
    exact Fr_zret (by decide +kernel) rfl (nz_b r_17) ⟨rfl, rfl⟩
set_option maxRecDepth 20000 in
theorem t_X11_openBy {N : Nat} {x1 : Int32} {x2 : Int32} {M : Mem} {q : Bool × Mem} (h : f_X11_openBy N x1 x2 M = some q) : Ev 0 111 2 m_X11_openBy [.ref 0, .int x1, .int x2] M (QB q) := by
  refine Ev_of_Fr (by decide +kernel) (Nat.le_of_ble_eq_true rfl) ?_
  show Fr 0 111 2 m_X11_openBy 0 [(0, .ref 0), (1, .int x1), (2, .int x2)] [] M (QB q)
  unfold f_X11_openBy at h
  refine Fr_aload_n (q := 0) (i := 0) 0 (by decide +kernel) rfl rfl ?_
  refine gf_X11_34 rfl (by decide +kernel) ob_0 ?_
  refine Fr_iload_n (q := 1) (i := 1) 1 (by decide +kernel) rfl rfl ?_
  obtain ⟨r_3, M_1, hc_2, h⟩ := bi_elim h
  refine Fr_cVb (ν := m_X5_isGate) (As := [.int x1]) (st := []) (rc := 10) (ci := 5) (d' := 0) (by decide +kernel) ml_X11_200 cv_X5_isGate rfl (by decide) rfl ob_10 rfl (by decide) (Nat.le_of_ble_eq_true rfl) (t_X5_isGate ob_10 hc_2) ?_
  refine Fr_if_ne (off := 9) 17 (by decide +kernel) (by decide) (fun hc => ?_) (fun hc => ?_)
  · have h := iF hc h
    refine Fr_aload_n (q := 0) (i := 0) 0 (by decide +kernel) rfl rfl ?_
    refine gf_X11_34 rfl (by decide +kernel) ob_0 ?_
    refine Fr_iload_n (q := 2) (i := 2) 2 (by decide +kernel) rfl rfl ?_
    obtain ⟨r_6, M_4, hc_5, h⟩ := bi_elim h
    refine Fr_cVb (ν := m_X5_isHolderSet) (As := [.int x2]) (st := []) (rc := 10) (ci := 5) (d' := 1) (by decide +kernel) ml_X11_264 cv_X5_isHolderSet rfl (by decide) rfl ob_10 rfl (by decide) (Nat.le_of_ble_eq_true rfl) (t_X5_isHolderSet ob_10 hc_5) ?_
    refine Fr_if_ne (off := 9) 34 (by decide +kernel) (by decide) (fun hc => ?_) (fun hc => ?_)
    · have h := iF hc h
      refine Fr_aload_n (q := 0) (i := 0) 0 (by decide +kernel) rfl rfl ?_
      refine gf_X11_34 rfl (by decide +kernel) ob_0 ?_
      refine Fr_iload_n (q := 1) (i := 1) 1 (by decide +kernel) rfl rfl ?_
      obtain ⟨r_9, M_7, hc_8, h⟩ := bi_elim h
      refine Fr_cVb (ν := m_X5_isOpen) (As := [.int x1]) (st := []) (rc := 10) (ci := 5) (d' := 0) (by decide +kernel) ml_X11_257 cv_X5_isOpen rfl (by decide) rfl ob_10 rfl (by decide) (Nat.le_of_ble_eq_true rfl) (t_X5_isOpen ob_10 hc_8) ?_
      refine Fr_if_ne (off := 15) 57 (by decide +kernel) (by decide) (fun hc => ?_) (fun hc => ?_)
      · have h := iF hc h
        refine Fr_aload_n (q := 0) (i := 0) 0 (by decide +kernel) rfl rfl ?_
        refine Fr_bipush (i := 9) (v := 9) (by decide +kernel) (by decide) ?_
        obtain ⟨r_12, M_10, hc_11, h⟩ := bi_elim h
        refine Fr_cVb (ν := m_X11_refusedFlag) (As := [.int 9]) (st := []) (rc := 0) (ci := 11) (d' := 0) (by decide +kernel) ml_X11_121 cv_X11_refusedFlag rfl (by decide) rfl ob_0 rfl (by decide) (Nat.le_of_ble_eq_true rfl) (t_X11_refusedFlag hc_11) ?_
        obtain rfl := Option.some.inj h
        exact Fr_zret (by decide +kernel) rfl (nz_b r_12) ⟨rfl, rfl⟩
      · have h := iT hc h
        refine Fr_aload_n (q := 0) (i := 0) 0 (by decide +kernel) rfl rfl ?_
        refine gf_X11_34 rfl (by decide +kernel) ob_0 ?_
        refine Fr_iload_n (q := 1) (i := 1) 1 (by decide +kernel) rfl rfl ?_
        refine Fr_iload_n (q := 2) (i := 2) 2 (by decide +kernel) rfl rfl ?_
        obtain ⟨r_15, M_13, hc_14, h⟩ := bi_elim h
        refine Fr_cVb (ν := m_X5_canOpen) (As := [.int x1, .int x2]) (st := []) (rc := 10) (ci := 5) (d' := 1) (by decide +kernel) ml_X11_267 cv_X5_canOpen rfl (by decide) rfl ob_10 rfl (by decide) (Nat.le_of_ble_eq_true rfl) (t_X5_canOpen ob_10 hc_14) ?_
        refine Fr_if_ne (off := 10) 64 (by decide +kernel) (by decide) (fun hc => ?_) (fun hc => ?_)
        · have h := iF hc h
          refine Fr_aload_n (q := 0) (i := 0) 0 (by decide +kernel) rfl rfl ?_
          refine gf_X11_34 rfl (by decide +kernel) ob_0 ?_
          refine Fr_iload_n (q := 1) (i := 1) 1 (by decide +kernel) rfl rfl ?_
          refine Fr_iconst (i := 1) (v := 1) (by decide +kernel) (by decide) ?_
          obtain ⟨M_16, hc_17, h⟩ := bv_elim h
          refine Fr_cVv (ν := m_X5_setOpen) (As := [.int x1, .int 1]) (st := []) (rc := 10) (ci := 5) (d' := 0) (by decide +kernel) ml_X11_260 cv_X5_setOpen rfl (by decide) rfl ob_10 rfl (by decide) (Nat.le_of_ble_eq_true rfl) (t_X5_setOpen ob_10 hc_17) ?_
          refine Fr_aload_n (q := 0) (i := 0) 0 (by decide +kernel) rfl rfl ?_
          obtain ⟨r_20, M_18, hc_19, h⟩ := bi_elim h
          refine Fr_cVb (ν := m_X11_granted) (As := []) (st := []) (rc := 0) (ci := 11) (d' := 0) (by decide +kernel) ml_X11_128 cv_X11_granted rfl (by decide) rfl ob_0 rfl (by decide) (Nat.le_of_ble_eq_true rfl) (t_X11_granted hc_19) ?_
          obtain rfl := Option.some.inj h
          exact Fr_zret (by decide +kernel) rfl (nz_b r_20) ⟨rfl, rfl⟩
        · have h := iT hc h
          refine Fr_aload_n (q := 0) (i := 0) 0 (by decide +kernel) rfl rfl ?_
          refine Fr_bipush (i := 9) (v := 9) (by decide +kernel) (by decide) ?_
          obtain ⟨r_23, M_21, hc_22, h⟩ := bi_elim h
          refine Fr_cVb (ν := m_X11_refusedFlag) (As := [.int 9]) (st := []) (rc := 0) (ci := 11) (d' := 0) (by decide +kernel) ml_X11_121 cv_X11_refusedFlag rfl (by decide) rfl ob_0 rfl (by decide) (Nat.le_of_ble_eq_true rfl) (t_X11_refusedFlag hc_22) ?_
          obtain rfl := Option.some.inj h
          exact Fr_zret (by decide +kernel) rfl (nz_b r_23) ⟨rfl, rfl⟩
    · have h := iT hc h
      refine Fr_aload_n (q := 0) (i := 0) 0 (by decide +kernel) rfl rfl ?_
      refine Fr_iconst (i := 5) (v := 5) (by decide +kernel) (by decide) ?_
      obtain ⟨r_26, M_24, hc_25, h⟩ := bi_elim h
      refine Fr_cVb (ν := m_X11_refusedFlag) (As := [.int 5]) (st := []) (rc := 0) (ci := 11) (d' := 0) (by decide +kernel) ml_X11_121 cv_X11_refusedFlag rfl (by decide) rfl ob_0 rfl (by decide) (Nat.le_of_ble_eq_true rfl) (t_X11_refusedFlag hc_25) ?_
      obtain rfl := Option.some.inj h
      exact Fr_zret (by decide +kernel) rfl (nz_b r_26) ⟨rfl, rfl⟩
  · have h := iT hc h
    refine Fr_aload_n (q := 0) (i := 0) 0 (by decide +kernel) rfl rfl ?_
    refine Fr_iconst (i := 2) (v := 2) (by decide +kernel) (by decide) ?_
    obtain ⟨r_29, M_27, hc_28, h⟩ := bi_elim h
    refine Fr_cVb (ν := m_X11_refusedFlag) (As := [.int 2]) (st := []) (rc := 0) (ci := 11) (d' := 0) (by decide +kernel) ml_X11_121 cv_X11_refusedFlag rfl (by decide) rfl ob_0 rfl (by decide) (Nat.le_of_ble_eq_true rfl) (t_X11_refusedFlag hc_28) ?_
    obtain rfl := Option.some.inj h
    exact Fr_zret (by decide +kernel) rfl (nz_b r_29) ⟨rfl, rfl⟩
set_option maxRecDepth 20000 in
theorem t_X11_wind {x1 : Int32} {M : Mem} {q : Bool × Mem} (h : f_X11_wind x1 M = some q) : Ev 0 111 1 m_X11_wind [.ref 0, .int x1] M (QB q) := by
  refine Ev_of_Fr (by decide +kernel) (Nat.le_of_ble_eq_true rfl) ?_
  show Fr 0 111 1 m_X11_wind 0 [(0, .ref 0), (1, .int x1)] [] M (QB q)
  unfold f_X11_wind at h
  refine Fr_iload_n (q := 1) (i := 1) 1 (by decide +kernel) rfl rfl ?_
  refine Fr_if_lt (off := 8) 9 (by decide +kernel) (by decide) (fun hc => ?_) (fun hc => ?_)
  · have h := iT hc h
    refine Fr_aload_n (q := 0) (i := 0) 0 (by decide +kernel) rfl rfl ?_
    refine Fr_iconst (i := 5) (v := 5) (by decide +kernel) (by decide) ?_
    obtain ⟨r_3, M_1, hc_2, h⟩ := bi_elim h
    refine Fr_cVb (ν := m_X11_refusedFlag) (As := [.int 5]) (st := []) (rc := 0) (ci := 11) (d' := 0) (by decide +kernel) ml_X11_121 cv_X11_refusedFlag rfl (by decide) rfl ob_0 rfl (by decide) (Nat.le_of_ble_eq_true rfl) (t_X11_refusedFlag hc_2) ?_
    obtain rfl := Option.some.inj h
    exact Fr_zret (by decide +kernel) rfl (nz_b r_3) ⟨rfl, rfl⟩
  · have h := iF hc h
    refine Fr_iload_n (q := 1) (i := 1) 1 (by decide +kernel) rfl rfl ?_
    refine Fr_iconst (i := 4) (v := 4) (by decide +kernel) (by decide) ?_
    refine Fr_icmp_le (off := 9) 15 (by decide +kernel) (by decide) (fun hc => ?_) (fun hc => ?_)
    · have h := iT hc h
      refine Fr_iload_n (q := 1) (i := 1) 1 (by decide +kernel) rfl rfl ?_
      refine Fr_aload_n (q := 0) (i := 0) 0 (by decide +kernel) rfl rfl ?_
      refine gf_X11_34 rfl (by decide +kernel) ob_0 ?_
      refine gf_X11_270 rfl (by decide +kernel) ob_10 ?_
      refine Fr_icmp_ne (off := 10) 33 (by decide +kernel) (by decide) (fun hc => ?_) (fun hc => ?_)
      · have h := iF hc h
        refine Fr_aload_n (q := 0) (i := 0) 0 (by decide +kernel) rfl rfl ?_
        refine gf_X11_34 rfl (by decide +kernel) ob_0 ?_
        refine Fr_iload_n (q := 1) (i := 1) 1 (by decide +kernel) rfl rfl ?_
        refine pf_X11_270 rfl (by decide +kernel) ob_10 ?_
        obtain ⟨M_4, eM_4, h⟩ := bM_elim h
        refine Fr_mem eM_4 ?_
        refine Fr_aload_n (q := 0) (i := 0) 0 (by decide +kernel) rfl rfl ?_
        obtain ⟨r_7, M_5, hc_6, h⟩ := bi_elim h
        refine Fr_cVb (ν := m_X11_granted) (As := []) (st := []) (rc := 0) (ci := 11) (d' := 0) (by decide +kernel) ml_X11_128 cv_X11_granted rfl (by decide) rfl ob_0 rfl (by decide) (Nat.le_of_ble_eq_true rfl) (t_X11_granted hc_6) ?_
        obtain rfl := Option.some.inj h
        exact Fr_zret (by decide +kernel) rfl (nz_b r_7) ⟨rfl, rfl⟩
      · have h := iT hc h
        refine Fr_aload_n (q := 0) (i := 0) 0 (by decide +kernel) rfl rfl ?_
        refine Fr_bipush (i := 9) (v := 9) (by decide +kernel) (by decide) ?_
        obtain ⟨r_10, M_8, hc_9, h⟩ := bi_elim h
        refine Fr_cVb (ν := m_X11_refusedFlag) (As := [.int 9]) (st := []) (rc := 0) (ci := 11) (d' := 0) (by decide +kernel) ml_X11_121 cv_X11_refusedFlag rfl (by decide) rfl ob_0 rfl (by decide) (Nat.le_of_ble_eq_true rfl) (t_X11_refusedFlag hc_9) ?_
        obtain rfl := Option.some.inj h
        exact Fr_zret (by decide +kernel) rfl (nz_b r_10) ⟨rfl, rfl⟩
    · have h := iF hc h
      refine Fr_aload_n (q := 0) (i := 0) 0 (by decide +kernel) rfl rfl ?_
      refine Fr_iconst (i := 5) (v := 5) (by decide +kernel) (by decide) ?_
      obtain ⟨r_13, M_11, hc_12, h⟩ := bi_elim h
      refine Fr_cVb (ν := m_X11_refusedFlag) (As := [.int 5]) (st := []) (rc := 0) (ci := 11) (d' := 0) (by decide +kernel) ml_X11_121 cv_X11_refusedFlag rfl (by decide) rfl ob_0 rfl (by decide) (Nat.le_of_ble_eq_true rfl) (t_X11_refusedFlag hc_12) ?_
      obtain rfl := Option.some.inj h
      exact Fr_zret (by decide +kernel) rfl (nz_b r_13) ⟨rfl, rfl⟩
set_option maxRecDepth 20000 in
theorem t_X11_sweep {x1 : Int32} {x2 : Int32} {M : Mem} {q : Int32 × Mem} (h : f_X11_sweep x1 x2 M = some q) : Ev 0 111 1 m_X11_sweep [.ref 0, .int x1, .int x2] M (QI q) := by
  refine Ev_of_Fr (by decide +kernel) (Nat.le_of_ble_eq_true rfl) ?_
  show Fr 0 111 1 m_X11_sweep 0 [(0, .ref 0), (1, .int x1), (2, .int x2)] [] M (QI q)
  unfold f_X11_sweep at h
  refine Fr_aload_n (q := 0) (i := 0) 0 (by decide +kernel) rfl rfl ?_
  refine gf_X11_34 rfl (by decide +kernel) ob_0 ?_
  refine Fr_iload_n (q := 1) (i := 1) 1 (by decide +kernel) rfl rfl ?_
  refine Fr_iload_n (q := 2) (i := 2) 2 (by decide +kernel) rfl rfl ?_
  obtain ⟨r_3, M_1, hc_2, h⟩ := bi_elim h
  refine Fr_cVb (ν := m_X5_isBoard) (As := [.int x1, .int x2]) (st := []) (rc := 10) (ci := 5) (d' := 0) (by decide +kernel) ml_X11_225 cv_X5_isBoard rfl (by decide) rfl ob_10 rfl (by decide) (Nat.le_of_ble_eq_true rfl) (t_X5_isBoard ob_10 hc_2) ?_
  refine Fr_if_ne (off := 9) 18 (by decide +kernel) (by decide) (fun hc => ?_) (fun hc => ?_)
  · have h := iF hc h
    refine Fr_aload_n (q := 0) (i := 0) 0 (by decide +kernel) rfl rfl ?_
    refine gf_X11_34 rfl (by decide +kernel) ob_0 ?_
    refine Fr_iload_n (q := 1) (i := 1) 1 (by decide +kernel) rfl rfl ?_
    refine Fr_iload_n (q := 2) (i := 2) 2 (by decide +kernel) rfl rfl ?_
    obtain ⟨r_6, M_4, hc_5, h⟩ := bi_elim h
    refine Fr_cVi (ν := m_X5_boardAt) (As := [.int x1, .int x2]) (st := []) (rc := 10) (ci := 5) (d' := 0) (by decide +kernel) ml_X11_232 cv_X5_boardAt rfl (by decide) rfl ob_10 rfl (by decide) (Nat.le_of_ble_eq_true rfl) (t_X5_boardAt ob_10 hc_5) ?_
    refine Fr_istore_n (q := 3) (i := 3) (lv' := [(3, .int r_6), (0, .ref 0), (1, .int x1), (2, .int x2)]) (by decide +kernel) rfl (by decide) rfl ?_
    refine Fr_aload_n (q := 0) (i := 0) 1 (by decide +kernel) rfl rfl ?_
    refine gf_X11_34 rfl (by decide +kernel) ob_0 ?_
    refine gf_X11_229 rfl (by decide +kernel) ob_10 ?_
    refine Fr_iload_n (q := 3) (i := 3) 0 (by decide +kernel) rfl rfl ?_
    obtain ⟨r_9, M_7, hc_8, h⟩ := bi_elim h
    refine Fr_cSi (ν := m_X5_bothKinds) (As := [.ref 16, .int r_6]) (st := []) (d' := 0) (by decide +kernel) ml_X11_246 cs_X5_bothKinds rfl (by decide) (Nat.le_of_ble_eq_true rfl) (t_X5_bothKinds ob_16 hc_8) ?_
    refine Fr_istore (i := 4) (lv' := [(4, .int r_9), (3, .int r_6), (0, .ref 0), (1, .int x1), (2, .int x2)]) (by decide +kernel) (by decide) rfl ?_
    refine Fr_aload_n (q := 0) (i := 0) 2 (by decide +kernel) rfl rfl ?_
    refine gf_X11_34 rfl (by decide +kernel) ob_0 ?_
    refine gf_X11_229 rfl (by decide +kernel) ob_10 ?_
    refine Fr_iload_n (q := 3) (i := 3) 1 (by decide +kernel) rfl rfl ?_
    refine Fr_iconst (i := 0) (v := 0) (by decide +kernel) (by decide) ?_
    obtain ⟨hi_10, h⟩ := ck_elim h
    refine Fr_iast (by decide +kernel) ob_16 (vp_of ln_16 hi_10) ?_
    obtain ⟨M_11, eM_11, h⟩ := bM_elim h
    refine Fr_mem eM_11 ?_
    refine Fr_aload_n (q := 0) (i := 0) 2 (by decide +kernel) rfl rfl ?_
    refine gf_X11_34 rfl (by decide +kernel) ob_0 ?_
    refine gf_X11_229 rfl (by decide +kernel) ob_10 ?_
    refine Fr_bipush (i := 30) (v := 30) (by decide +kernel) (by decide) ?_
    refine Fr_iload_n (q := 3) (i := 3) 1 (by decide +kernel) rfl rfl ?_
    refine Fr_iadd (by decide +kernel) ?_
    refine Fr_iconst (i := 0) (v := 0) (by decide +kernel) (by decide) ?_
    obtain ⟨hi_12, h⟩ := ck_elim h
    refine Fr_iast (by decide +kernel) ob_16 (vp_of ln_16 hi_12) ?_
    obtain ⟨M_13, eM_13, h⟩ := bM_elim h
    refine Fr_mem eM_13 ?_
    refine Fr_aload_n (q := 0) (i := 0) 2 (by decide +kernel) rfl rfl ?_
    refine Fr_iload (i := 4) 0 (by decide +kernel) rfl ?_
    obtain ⟨r_16, M_14, hc_15, h⟩ := bi_elim h
    refine Fr_cVi (ν := m_X11_answered) (As := [.int r_9]) (st := []) (rc := 0) (ci := 11) (d' := 0) (by decide +kernel) ml_X11_176 cv_X11_answered rfl (by decide) rfl ob_0 rfl (by decide) (Nat.le_of_ble_eq_true rfl) (t_X11_answered hc_15) ?_
    obtain rfl := Option.some.inj h
    exact Fr_iret (by decide +kernel) rfl ⟨rfl, rfl⟩
  · have h := iT hc h
    refine Fr_aload_n (q := 0) (i := 0) 0 (by decide +kernel) rfl rfl ?_
    refine Fr_iconst (i := 2) (v := 2) (by decide +kernel) (by decide) ?_
    obtain ⟨r_19, M_17, hc_18, h⟩ := bi_elim h
    refine Fr_cVi (ν := m_X11_refused) (As := [.int 2]) (st := []) (rc := 0) (ci := 11) (d' := 0) (by decide +kernel) ml_X11_140 cv_X11_refused rfl (by decide) rfl ob_0 rfl (by decide) (Nat.le_of_ble_eq_true rfl) (t_X11_refused hc_18) ?_
    obtain rfl := Option.some.inj h
    exact Fr_iret (by decide +kernel) rfl ⟨rfl, rfl⟩
set_option maxRecDepth 20000 in
theorem t_X11_breathe {x1 : Int32} {x2 : Int32} {x3 : Int32} {x4 : Int32} {M : Mem} {q : Int32 × Mem} (h : f_X11_breathe x1 x2 x3 x4 M = some q) : Ev 0 111 1 m_X11_breathe [.ref 0, .int x1, .int x2, .int x3, .int x4] M (QI q) := by
  refine Ev_of_Fr (by decide +kernel) (Nat.le_of_ble_eq_true rfl) ?_
  show Fr 0 111 1 m_X11_breathe 0 [(0, .ref 0), (1, .int x1), (2, .int x2), (3, .int x3), (4, .int x4)] [] M (QI q)
  unfold f_X11_breathe at h
  refine Fr_aload_n (q := 0) (i := 0) 0 (by decide +kernel) rfl rfl ?_
  refine gf_X11_34 rfl (by decide +kernel) ob_0 ?_
  refine Fr_iload_n (q := 1) (i := 1) 1 (by decide +kernel) rfl rfl ?_
  refine Fr_iload_n (q := 2) (i := 2) 2 (by decide +kernel) rfl rfl ?_
  obtain ⟨r_3, M_1, hc_2, h⟩ := bi_elim h
  refine Fr_cVb (ν := m_X5_isBoard) (As := [.int x1, .int x2]) (st := []) (rc := 10) (ci := 5) (d' := 0) (by decide +kernel) ml_X11_225 cv_X5_isBoard rfl (by decide) rfl ob_10 rfl (by decide) (Nat.le_of_ble_eq_true rfl) (t_X5_isBoard ob_10 hc_2) ?_
  refine Fr_if_ne (off := 9) 18 (by decide +kernel) (by decide) (fun hc => ?_) (fun hc => ?_)
  · have h := iF hc h
    refine Fr_iload_n (q := 3) (i := 3) 3 (by decide +kernel) rfl rfl ?_
    refine Fr_if_lt (off := 22) 41 (by decide +kernel) (by decide) (fun hc => ?_) (fun hc => ?_)
    · have h := iT hc h
      refine Fr_aload_n (q := 0) (i := 0) 0 (by decide +kernel) rfl rfl ?_
      refine Fr_iconst (i := 5) (v := 5) (by decide +kernel) (by decide) ?_
      obtain ⟨r_6, M_4, hc_5, h⟩ := bi_elim h
      refine Fr_cVi (ν := m_X11_refused) (As := [.int 5]) (st := []) (rc := 0) (ci := 11) (d' := 0) (by decide +kernel) ml_X11_140 cv_X11_refused rfl (by decide) rfl ob_0 rfl (by decide) (Nat.le_of_ble_eq_true rfl) (t_X11_refused hc_5) ?_
      obtain rfl := Option.some.inj h
      exact Fr_iret (by decide +kernel) rfl ⟨rfl, rfl⟩
    · have h := iF hc h
      refine Fr_iload_n (q := 3) (i := 3) 3 (by decide +kernel) rfl rfl ?_
      refine Fr_iconst (i := 1) (v := 1) (by decide +kernel) (by decide) ?_
      refine Fr_icmp_gt (off := 17) 41 (by decide +kernel) (by decide) (fun hc => ?_) (fun hc => ?_)
      · have h := iT hc h
        refine Fr_aload_n (q := 0) (i := 0) 0 (by decide +kernel) rfl rfl ?_
        refine Fr_iconst (i := 5) (v := 5) (by decide +kernel) (by decide) ?_
        obtain ⟨r_9, M_7, hc_8, h⟩ := bi_elim h
        refine Fr_cVi (ν := m_X11_refused) (As := [.int 5]) (st := []) (rc := 0) (ci := 11) (d' := 0) (by decide +kernel) ml_X11_140 cv_X11_refused rfl (by decide) rfl ob_0 rfl (by decide) (Nat.le_of_ble_eq_true rfl) (t_X11_refused hc_8) ?_
        obtain rfl := Option.some.inj h
        exact Fr_iret (by decide +kernel) rfl ⟨rfl, rfl⟩
      · have h := iF hc h
        refine Fr_iload (i := 4) 4 (by decide +kernel) rfl ?_
        refine Fr_iconst (i := 1) (v := 1) (by decide +kernel) (by decide) ?_
        refine Fr_icmp_lt (off := 11) 41 (by decide +kernel) (by decide) (fun hc => ?_) (fun hc => ?_)
        · have h := iT hc h
          refine Fr_aload_n (q := 0) (i := 0) 0 (by decide +kernel) rfl rfl ?_
          refine Fr_iconst (i := 5) (v := 5) (by decide +kernel) (by decide) ?_
          obtain ⟨r_12, M_10, hc_11, h⟩ := bi_elim h
          refine Fr_cVi (ν := m_X11_refused) (As := [.int 5]) (st := []) (rc := 0) (ci := 11) (d' := 0) (by decide +kernel) ml_X11_140 cv_X11_refused rfl (by decide) rfl ob_0 rfl (by decide) (Nat.le_of_ble_eq_true rfl) (t_X11_refused hc_11) ?_
          obtain rfl := Option.some.inj h
          exact Fr_iret (by decide +kernel) rfl ⟨rfl, rfl⟩
        · have h := iF hc h
          refine Fr_iload (i := 4) 4 (by decide +kernel) rfl ?_
          refine Fr_sipush (i := 999) (v := 999) (by decide +kernel) (by decide) ?_
          refine Fr_icmp_le (off := 9) 47 (by decide +kernel) (by decide) (fun hc => ?_) (fun hc => ?_)
          · have h := iT hc h
            refine Fr_iload_n (q := 3) (i := 3) 3 (by decide +kernel) rfl rfl ?_
            refine Fr_bipush (i := 30) (v := 30) (by decide +kernel) (by decide) ?_
            refine Fr_imul (by decide +kernel) ?_
            refine Fr_aload_n (q := 0) (i := 0) 0 (by decide +kernel) rfl rfl ?_
            refine gf_X11_34 rfl (by decide +kernel) ob_0 ?_
            refine Fr_iload_n (q := 1) (i := 1) 1 (by decide +kernel) rfl rfl ?_
            refine Fr_iload_n (q := 2) (i := 2) 2 (by decide +kernel) rfl rfl ?_
            obtain ⟨r_15, M_13, hc_14, h⟩ := bi_elim h
            refine Fr_cVi (ν := m_X5_boardAt) (As := [.int x1, .int x2]) (st := [.int (x3 * 30)]) (rc := 10) (ci := 5) (d' := 0) (by decide +kernel) ml_X11_232 cv_X5_boardAt rfl (by decide) rfl ob_10 rfl (by decide) (Nat.le_of_ble_eq_true rfl) (t_X5_boardAt ob_10 hc_14) ?_
            refine Fr_iadd (by decide +kernel) ?_
            refine Fr_istore (i := 5) (lv' := [(5, .int ((x3 * 30) + r_15)), (0, .ref 0), (1, .int x1), (2, .int x2), (3, .int x3), (4, .int x4)]) (by decide +kernel) (by decide) rfl ?_
            refine Fr_aload_n (q := 0) (i := 0) 1 (by decide +kernel) rfl rfl ?_
            refine gf_X11_34 rfl (by decide +kernel) ob_0 ?_
            refine gf_X11_229 rfl (by decide +kernel) ob_10 ?_
            refine Fr_iload (i := 5) 0 (by decide +kernel) rfl ?_
            refine Fr_sipush (i := 999) (v := 999) (by decide +kernel) (by decide) ?_
            refine Fr_aload_n (q := 0) (i := 0) 1 (by decide +kernel) rfl rfl ?_
            refine gf_X11_34 rfl (by decide +kernel) ob_0 ?_
            refine gf_X11_229 rfl (by decide +kernel) ob_10 ?_
            refine Fr_iload (i := 5) 0 (by decide +kernel) rfl ?_
            obtain ⟨hi_16, h⟩ := ck_elim h
            refine Fr_iald (by decide +kernel) ob_16 (vp_of ln_16 hi_16) ?_
            refine Fr_iload (i := 4) 5 (by decide +kernel) rfl ?_
            refine Fr_iadd (by decide +kernel) ?_
            refine Fr_min (by decide +kernel) ml_X11_273 (by decide) (Nat.le_of_ble_eq_true rfl) ?_
            obtain ⟨hi_17, h⟩ := ck_elim h
            refine Fr_iast (by decide +kernel) ob_16 (vp_of ln_16 hi_17) ?_
            obtain ⟨M_18, eM_18, h⟩ := bM_elim h
            refine Fr_mem eM_18 ?_
            refine Fr_aload_n (q := 0) (i := 0) 1 (by decide +kernel) rfl rfl ?_
            refine Fr_aload_n (q := 0) (i := 0) 1 (by decide +kernel) rfl rfl ?_
            refine gf_X11_34 rfl (by decide +kernel) ob_0 ?_
            refine gf_X11_229 rfl (by decide +kernel) ob_10 ?_
            refine Fr_iload (i := 5) 0 (by decide +kernel) rfl ?_
            obtain ⟨hi_19, h⟩ := ck_elim h
            refine Fr_iald (by decide +kernel) ob_16 (vp_of ln_16 hi_19) ?_
            obtain ⟨r_22, M_20, hc_21, h⟩ := bi_elim h
            refine Fr_cVi (ν := m_X11_answered) (As := [.int (M_18.1 16 (tn ((x3 * 30) + r_15)))]) (st := []) (rc := 0) (ci := 11) (d' := 0) (by decide +kernel) ml_X11_176 cv_X11_answered rfl (by decide) rfl ob_0 rfl (by decide) (Nat.le_of_ble_eq_true rfl) (t_X11_answered hc_21) ?_
            obtain rfl := Option.some.inj h
            exact Fr_iret (by decide +kernel) rfl ⟨rfl, rfl⟩
          · have h := iF hc h
            refine Fr_aload_n (q := 0) (i := 0) 0 (by decide +kernel) rfl rfl ?_
            refine Fr_iconst (i := 5) (v := 5) (by decide +kernel) (by decide) ?_
            obtain ⟨r_25, M_23, hc_24, h⟩ := bi_elim h
            refine Fr_cVi (ν := m_X11_refused) (As := [.int 5]) (st := []) (rc := 0) (ci := 11) (d' := 0) (by decide +kernel) ml_X11_140 cv_X11_refused rfl (by decide) rfl ob_0 rfl (by decide) (Nat.le_of_ble_eq_true rfl) (t_X11_refused hc_24) ?_
            obtain rfl := Option.some.inj h
            exact Fr_iret (by decide +kernel) rfl ⟨rfl, rfl⟩
  · have h := iT hc h
    refine Fr_aload_n (q := 0) (i := 0) 0 (by decide +kernel) rfl rfl ?_
    refine Fr_iconst (i := 2) (v := 2) (by decide +kernel) (by decide) ?_
    obtain ⟨r_28, M_26, hc_27, h⟩ := bi_elim h
    refine Fr_cVi (ν := m_X11_refused) (As := [.int 2]) (st := []) (rc := 0) (ci := 11) (d' := 0) (by decide +kernel) ml_X11_140 cv_X11_refused rfl (by decide) rfl ob_0 rfl (by decide) (Nat.le_of_ble_eq_true rfl) (t_X11_refused hc_27) ?_
    obtain rfl := Option.some.inj h
    exact Fr_iret (by decide +kernel) rfl ⟨rfl, rfl⟩
set_option maxRecDepth 20000 in
theorem t_X11_tow_b71 {q : Bool × Mem} {v2 : Int32} {v3 : Int32} {v4 : Int32} {M : Mem} (h : f_X11_tow_b71 v2 v3 v4 M = some q) : Fr 0 111 1 m_X11_tow 71 [(0, .ref 0), (2, .int v2), (3, .int v3), (4, .int v4)] [] M (QB q) := by
  unfold f_X11_tow_b71 at h
  refine Fr_aload_n (q := 0) (i := 0) 0 (by decide +kernel) rfl rfl ?_
  refine gf_X11_34 rfl (by decide +kernel) ob_0 ?_
  refine gf_X11_222 rfl (by decide +kernel) ob_10 ?_
  refine Fr_iload (i := 4) 3 (by decide +kernel) rfl ?_
  refine Fr_iload_n (q := 2) (i := 2) 1 (by decide +kernel) rfl rfl ?_
  obtain ⟨hi_11, h⟩ := ck_elim h
  refine Fr_iast (by decide +kernel) ob_15 (vp_of ln_15 hi_11) ?_
  obtain ⟨M_12, eM_12, h⟩ := bM_elim h
  refine Fr_mem eM_12 ?_
  refine Fr_aload_n (q := 0) (i := 0) 0 (by decide +kernel) rfl rfl ?_
  refine gf_X11_34 rfl (by decide +kernel) ob_0 ?_
  refine gf_X11_222 rfl (by decide +kernel) ob_10 ?_
  refine Fr_iload (i := 4) 3 (by decide +kernel) rfl ?_
  refine Fr_iconst (i := 1) (v := 1) (by decide +kernel) (by decide) ?_
  refine Fr_iadd (by decide +kernel) ?_
  refine Fr_iload_n (q := 3) (i := 3) 2 (by decide +kernel) rfl rfl ?_
  obtain ⟨hi_13, h⟩ := ck_elim h
  refine Fr_iast (by decide +kernel) ob_15 (vp_of ln_15 hi_13) ?_
  obtain ⟨M_14, eM_14, h⟩ := bM_elim h
  refine Fr_mem eM_14 ?_
  refine Fr_aload_n (q := 0) (i := 0) 0 (by decide +kernel) rfl rfl ?_
  obtain ⟨r_17, M_15, hc_16, h⟩ := bi_elim h
  refine Fr_cVb (ν := m_X11_granted) (As := []) (st := []) (rc := 0) (ci := 11) (d' := 0) (by decide +kernel) ml_X11_128 cv_X11_granted rfl (by decide) rfl ob_0 rfl (by decide) (Nat.le_of_ble_eq_true rfl) (t_X11_granted hc_16) ?_
  obtain rfl := Option.some.inj h
  exact Fr_zret (by decide +kernel) rfl (nz_b r_17) ⟨rfl, rfl⟩
set_option maxRecDepth 20000 in
theorem t_X11_tow {x1 : Int32} {x2 : Int32} {x3 : Int32} {M : Mem} {q : Bool × Mem} (h : f_X11_tow x1 x2 x3 M = some q) : Ev 0 111 1 m_X11_tow [.ref 0, .int x1, .int x2, .int x3] M (QB q) := by
  refine Ev_of_Fr (by decide +kernel) (Nat.le_of_ble_eq_true rfl) ?_
  show Fr 0 111 1 m_X11_tow 0 [(0, .ref 0), (1, .int x1), (2, .int x2), (3, .int x3)] [] M (QB q)
  unfold f_X11_tow at h
  refine Fr_aload_n (q := 0) (i := 0) 0 (by decide +kernel) rfl rfl ?_
  refine gf_X11_34 rfl (by decide +kernel) ob_0 ?_
  refine Fr_iload_n (q := 1) (i := 1) 1 (by decide +kernel) rfl rfl ?_
  obtain ⟨r_3, M_1, hc_2, h⟩ := bi_elim h
  refine Fr_cVb (ν := m_X5_isShip) (As := [.int x1]) (st := []) (rc := 10) (ci := 5) (d' := 0) (by decide +kernel) ml_X11_219 cv_X5_isShip rfl (by decide) rfl ob_10 rfl (by decide) (Nat.le_of_ble_eq_true rfl) (t_X5_isShip ob_10 hc_2) ?_
  refine Fr_if_eq (off := 15) 23 (by decide +kernel) (by decide) (fun hc => ?_) (fun hc => ?_)
  · have h := iT hc h
    refine Fr_aload_n (q := 0) (i := 0) 0 (by decide +kernel) rfl rfl ?_
    refine Fr_iconst (i := 2) (v := 2) (by decide +kernel) (by decide) ?_
    obtain ⟨r_6, M_4, hc_5, h⟩ := bi_elim h
    refine Fr_cVb (ν := m_X11_refusedFlag) (As := [.int 2]) (st := []) (rc := 0) (ci := 11) (d' := 0) (by decide +kernel) ml_X11_121 cv_X11_refusedFlag rfl (by decide) rfl ob_0 rfl (by decide) (Nat.le_of_ble_eq_true rfl) (t_X11_refusedFlag hc_5) ?_
    obtain rfl := Option.some.inj h
    exact Fr_zret (by decide +kernel) rfl (nz_b r_6) ⟨rfl, rfl⟩
  · have h := iF hc h
    refine Fr_aload_n (q := 0) (i := 0) 0 (by decide +kernel) rfl rfl ?_
    refine gf_X11_34 rfl (by decide +kernel) ob_0 ?_
    refine Fr_iload_n (q := 2) (i := 2) 2 (by decide +kernel) rfl rfl ?_
    refine Fr_iload_n (q := 3) (i := 3) 3 (by decide +kernel) rfl rfl ?_
    obtain ⟨r_9, M_7, hc_8, h⟩ := bi_elim h
    refine Fr_cVb (ν := m_X5_isBoard) (As := [.int x2, .int x3]) (st := []) (rc := 10) (ci := 5) (d' := 0) (by decide +kernel) ml_X11_225 cv_X5_isBoard rfl (by decide) rfl ob_10 rfl (by decide) (Nat.le_of_ble_eq_true rfl) (t_X5_isBoard ob_10 hc_8) ?_
    refine Fr_if_ne (off := 9) 29 (by decide +kernel) (by decide) (fun hc => ?_) (fun hc => ?_)
    · have h := iF hc h
      refine Fr_iload_n (q := 1) (i := 1) 1 (by decide +kernel) rfl rfl ?_
      refine Fr_iconst (i := 5) (v := 5) (by decide +kernel) (by decide) ?_
      refine Fr_imul (by decide +kernel) ?_
      refine Fr_istore (i := 4) (lv' := [(4, .int (x1 * 5)), (0, .ref 0), (1, .int x1), (2, .int x2), (3, .int x3)]) (by decide +kernel) (by decide) rfl ?_
      refine Fr_aload_n (q := 0) (i := 0) 1 (by decide +kernel) rfl rfl ?_
      refine gf_X11_34 rfl (by decide +kernel) ob_0 ?_
      refine gf_X11_222 rfl (by decide +kernel) ob_10 ?_
      refine Fr_iload (i := 4) 0 (by decide +kernel) rfl ?_
      obtain ⟨hi_10, h⟩ := ck_elim h
      refine Fr_iald (by decide +kernel) ob_15 (vp_of ln_15 hi_10) ?_
      refine Fr_iload_n (q := 2) (i := 2) 3 (by decide +kernel) rfl rfl ?_
      refine Fr_icmp_ne (off := 26) 71 (by decide +kernel) (by decide) (fun hc => ?_) (fun hc => ?_)
      · have h := iF hc h
        refine Fr_loc [1, 3, 4, 0] rfl ?_
        exact t_X11_tow_b71 h
      · have h := iT hc h
        refine Fr_aload_n (q := 0) (i := 0) 1 (by decide +kernel) rfl rfl ?_
        refine gf_X11_34 rfl (by decide +kernel) ob_0 ?_
        refine gf_X11_222 rfl (by decide +kernel) ob_10 ?_
        refine Fr_iload (i := 4) 0 (by decide +kernel) rfl ?_
        refine Fr_iconst (i := 1) (v := 1) (by decide +kernel) (by decide) ?_
        refine Fr_iadd (by decide +kernel) ?_
        obtain ⟨hi_18, h⟩ := ck_elim h
        refine Fr_iald (by decide +kernel) ob_15 (vp_of ln_15 hi_18) ?_
        refine Fr_iload_n (q := 3) (i := 3) 4 (by decide +kernel) rfl rfl ?_
        refine Fr_icmp_ne (off := 10) 71 (by decide +kernel) (by decide) (fun hc => ?_) (fun hc => ?_)
        · have h := iF hc h
          refine Fr_loc [1, 3, 4, 0] rfl ?_
          exact t_X11_tow_b71 h
        · have h := iT hc h
          refine Fr_aload_n (q := 0) (i := 0) 1 (by decide +kernel) rfl rfl ?_
          refine Fr_bipush (i := 9) (v := 9) (by decide +kernel) (by decide) ?_
          obtain ⟨r_21, M_19, hc_20, h⟩ := bi_elim h
          refine Fr_cVb (ν := m_X11_refusedFlag) (As := [.int 9]) (st := []) (rc := 0) (ci := 11) (d' := 0) (by decide +kernel) ml_X11_121 cv_X11_refusedFlag rfl (by decide) rfl ob_0 rfl (by decide) (Nat.le_of_ble_eq_true rfl) (t_X11_refusedFlag hc_20) ?_
          obtain rfl := Option.some.inj h
          exact Fr_zret (by decide +kernel) rfl (nz_b r_21) ⟨rfl, rfl⟩
    · have h := iT hc h
      refine Fr_aload_n (q := 0) (i := 0) 0 (by decide +kernel) rfl rfl ?_
      refine Fr_iconst (i := 2) (v := 2) (by decide +kernel) (by decide) ?_
      obtain ⟨r_24, M_22, hc_23, h⟩ := bi_elim h
      refine Fr_cVb (ν := m_X11_refusedFlag) (As := [.int 2]) (st := []) (rc := 0) (ci := 11) (d' := 0) (by decide +kernel) ml_X11_121 cv_X11_refusedFlag rfl (by decide) rfl ob_0 rfl (by decide) (Nat.le_of_ble_eq_true rfl) (t_X11_refusedFlag hc_23) ?_
      obtain rfl := Option.some.inj h
      exact Fr_zret (by decide +kernel) rfl (nz_b r_24) ⟨rfl, rfl⟩
set_option maxRecDepth 20000 in
theorem t_X11_later {N : Nat} {x1 : Int32} {x2 : Int32} {x3 : Int32} {M : Mem} {q : Int32 × Mem} (h : f_X11_later N x1 x2 x3 M = some q) : Ev 0 111 4 m_X11_later [.ref 0, .int x1, .int x2, .int x3] M (QI q) := by
  refine Ev_of_Fr (by decide +kernel) (Nat.le_of_ble_eq_true rfl) ?_
  show Fr 0 111 4 m_X11_later 0 [(0, .ref 0), (1, .int x1), (2, .int x2), (3, .int x3)] [] M (QI q)
  unfold f_X11_later at h
  refine Fr_aload_n (q := 0) (i := 0) 0 (by decide +kernel) rfl rfl ?_
  refine gf_X11_34 rfl (by decide +kernel) ob_0 ?_
  refine Fr_iload_n (q := 1) (i := 1) 1 (by decide +kernel) rfl rfl ?_
  refine Fr_iload_n (q := 2) (i := 2) 2 (by decide +kernel) rfl rfl ?_
  obtain ⟨r_3, M_1, hc_2, h⟩ := bi_elim h
  refine Fr_cVb (ν := m_X5_isBoard) (As := [.int x1, .int x2]) (st := []) (rc := 10) (ci := 5) (d' := 0) (by decide +kernel) ml_X11_225 cv_X5_isBoard rfl (by decide) rfl ob_10 rfl (by decide) (Nat.le_of_ble_eq_true rfl) (t_X5_isBoard ob_10 hc_2) ?_
  refine Fr_if_ne (off := 9) 18 (by decide +kernel) (by decide) (fun hc => ?_) (fun hc => ?_)
  · have h := iF hc h
    refine Fr_iload_n (q := 3) (i := 3) 3 (by decide +kernel) rfl rfl ?_
    refine Fr_if_lt (off := 9) 28 (by decide +kernel) (by decide) (fun hc => ?_) (fun hc => ?_)
    · have h := iT hc h
      refine Fr_aload_n (q := 0) (i := 0) 0 (by decide +kernel) rfl rfl ?_
      refine Fr_iconst (i := 5) (v := 5) (by decide +kernel) (by decide) ?_
      obtain ⟨r_6, M_4, hc_5, h⟩ := bi_elim h
      refine Fr_cVi (ν := m_X11_refused) (As := [.int 5]) (st := []) (rc := 0) (ci := 11) (d' := 0) (by decide +kernel) ml_X11_140 cv_X11_refused rfl (by decide) rfl ob_0 rfl (by decide) (Nat.le_of_ble_eq_true rfl) (t_X11_refused hc_5) ?_
      obtain rfl := Option.some.inj h
      exact Fr_iret (by decide +kernel) rfl ⟨rfl, rfl⟩
    · have h := iF hc h
      refine Fr_iload_n (q := 3) (i := 3) 3 (by decide +kernel) rfl rfl ?_
      refine Fr_bipush (i := 48) (v := 48) (by decide +kernel) (by decide) ?_
      refine Fr_icmp_le (off := 9) 34 (by decide +kernel) (by decide) (fun hc => ?_) (fun hc => ?_)
      · have h := iT hc h
        refine Fr_aload_n (q := 0) (i := 0) 0 (by decide +kernel) rfl rfl ?_
        refine gf_X11_89 rfl (by decide +kernel) ob_0 ?_
        refine Fr_aload_n (q := 0) (i := 0) 0 (by decide +kernel) rfl rfl ?_
        refine gf_X11_34 rfl (by decide +kernel) ob_0 ?_
        refine Fr_iload_n (q := 3) (i := 3) 3 (by decide +kernel) rfl rfl ?_
        obtain ⟨M_7, hc_8, h⟩ := bv_elim h
        refine Fr_cVv (ν := m_X0_look) (As := [.ref 10, .int x3]) (st := []) (rc := 93) (ci := 0) (d' := 3) (by decide +kernel) ml_X11_278 cv_X0_look rfl (by decide) rfl ob_93 rfl (by decide) (Nat.le_of_ble_eq_true rfl) (t_X0_look ob_10 hc_8) ?_
        refine Fr_aload_n (q := 0) (i := 0) 0 (by decide +kernel) rfl rfl ?_
        refine Fr_aload_n (q := 0) (i := 0) 0 (by decide +kernel) rfl rfl ?_
        refine gf_X11_89 rfl (by decide +kernel) ob_0 ?_
        refine gf_X11_282 rfl (by decide +kernel) ob_93 ?_
        refine Fr_aload_n (q := 0) (i := 0) 0 (by decide +kernel) rfl rfl ?_
        refine gf_X11_34 rfl (by decide +kernel) ob_0 ?_
        refine Fr_iload_n (q := 1) (i := 1) 1 (by decide +kernel) rfl rfl ?_
        refine Fr_iload_n (q := 2) (i := 2) 2 (by decide +kernel) rfl rfl ?_
        obtain ⟨r_11, M_9, hc_10, h⟩ := bi_elim h
        refine Fr_cVi (ν := m_X5_boardAt) (As := [.int x1, .int x2]) (st := [.ref 94, .ref 0]) (rc := 10) (ci := 5) (d' := 0) (by decide +kernel) ml_X11_232 cv_X5_boardAt rfl (by decide) rfl ob_10 rfl (by decide) (Nat.le_of_ble_eq_true rfl) (t_X5_boardAt ob_10 hc_10) ?_
        obtain ⟨r_14, M_12, hc_13, h⟩ := bi_elim h
        refine Fr_cSi (ν := m_X5_bothKinds) (As := [.ref 94, .int r_11]) (st := [.ref 0]) (d' := 0) (by decide +kernel) ml_X11_246 cs_X5_bothKinds rfl (by decide) (Nat.le_of_ble_eq_true rfl) (t_X5_bothKinds ob_94 hc_13) ?_
        obtain ⟨r_17, M_15, hc_16, h⟩ := bi_elim h
        refine Fr_cVi (ν := m_X11_answered) (As := [.int r_14]) (st := []) (rc := 0) (ci := 11) (d' := 0) (by decide +kernel) ml_X11_176 cv_X11_answered rfl (by decide) rfl ob_0 rfl (by decide) (Nat.le_of_ble_eq_true rfl) (t_X11_answered hc_16) ?_
        obtain rfl := Option.some.inj h
        exact Fr_iret (by decide +kernel) rfl ⟨rfl, rfl⟩
      · have h := iF hc h
        refine Fr_aload_n (q := 0) (i := 0) 0 (by decide +kernel) rfl rfl ?_
        refine Fr_iconst (i := 5) (v := 5) (by decide +kernel) (by decide) ?_
        obtain ⟨r_20, M_18, hc_19, h⟩ := bi_elim h
        refine Fr_cVi (ν := m_X11_refused) (As := [.int 5]) (st := []) (rc := 0) (ci := 11) (d' := 0) (by decide +kernel) ml_X11_140 cv_X11_refused rfl (by decide) rfl ob_0 rfl (by decide) (Nat.le_of_ble_eq_true rfl) (t_X11_refused hc_19) ?_
        obtain rfl := Option.some.inj h
        exact Fr_iret (by decide +kernel) rfl ⟨rfl, rfl⟩
  · have h := iT hc h
    refine Fr_aload_n (q := 0) (i := 0) 0 (by decide +kernel) rfl rfl ?_
    refine Fr_iconst (i := 2) (v := 2) (by decide +kernel) (by decide) ?_
    obtain ⟨r_23, M_21, hc_22, h⟩ := bi_elim h
    refine Fr_cVi (ν := m_X11_refused) (As := [.int 2]) (st := []) (rc := 0) (ci := 11) (d' := 0) (by decide +kernel) ml_X11_140 cv_X11_refused rfl (by decide) rfl ob_0 rfl (by decide) (Nat.le_of_ble_eq_true rfl) (t_X11_refused hc_22) ?_
    obtain rfl := Option.some.inj h
    exact Fr_iret (by decide +kernel) rfl ⟨rfl, rfl⟩
set_option maxRecDepth 20000 in
theorem t_X11_answeredIfAny {x1 : Int32} {M : Mem} {q : Int32 × Mem} (h : f_X11_answeredIfAny x1 M = some q) : Ev 0 111 1 m_X11_answeredIfAny [.ref 0, .int x1] M (QI q) := by
  refine Ev_of_Fr (by decide +kernel) (Nat.le_of_ble_eq_true rfl) ?_
  show Fr 0 111 1 m_X11_answeredIfAny 0 [(0, .ref 0), (1, .int x1)] [] M (QI q)
  unfold f_X11_answeredIfAny at h
  refine Fr_iload_n (q := 1) (i := 1) 1 (by decide +kernel) rfl rfl ?_
  refine Fr_iconst (i := (-1)) (v := (-1)) (by decide +kernel) (by decide) ?_
  refine Fr_icmp_ne (off := 12) 14 (by decide +kernel) (by decide) (fun hc => ?_) (fun hc => ?_)
  · have h := iF hc h
    refine Fr_aload_n (q := 0) (i := 0) 0 (by decide +kernel) rfl rfl ?_
    refine Fr_iload_n (q := 1) (i := 1) 1 (by decide +kernel) rfl rfl ?_
    obtain ⟨r_3, M_1, hc_2, h⟩ := bi_elim h
    refine Fr_cVi (ν := m_X11_answered) (As := [.int x1]) (st := []) (rc := 0) (ci := 11) (d' := 0) (by decide +kernel) ml_X11_176 cv_X11_answered rfl (by decide) rfl ob_0 rfl (by decide) (Nat.le_of_ble_eq_true rfl) (t_X11_answered hc_2) ?_
    obtain rfl := Option.some.inj h
    exact Fr_iret (by decide +kernel) rfl ⟨rfl, rfl⟩
  · have h := iT hc h
    refine Fr_aload_n (q := 0) (i := 0) 0 (by decide +kernel) rfl rfl ?_
    refine Fr_bipush (i := 8) (v := 8) (by decide +kernel) (by decide) ?_
    obtain ⟨r_6, M_4, hc_5, h⟩ := bi_elim h
    refine Fr_cVi (ν := m_X11_refused) (As := [.int 8]) (st := []) (rc := 0) (ci := 11) (d' := 0) (by decide +kernel) ml_X11_140 cv_X11_refused rfl (by decide) rfl ob_0 rfl (by decide) (Nat.le_of_ble_eq_true rfl) (t_X11_refused hc_5) ?_
    refine Fr_goto (off := 8) 19 (by decide +kernel) (by decide) ?_
    obtain rfl := Option.some.inj h
    exact Fr_iret (by decide +kernel) rfl ⟨rfl, rfl⟩
set_option maxRecDepth 20000 in
theorem t_X11_lifts {N : Nat} {x1 : Int32} {x2 : Int32} {M : Mem} {q : Int32 × Mem} (h : f_X11_lifts N x1 x2 M = some q) : Ev 0 111 4 m_X11_lifts [.ref 0, .int x1, .int x2] M (QI q) := by
  refine Ev_of_Fr (by decide +kernel) (Nat.le_of_ble_eq_true rfl) ?_
  show Fr 0 111 4 m_X11_lifts 0 [(0, .ref 0), (1, .int x1), (2, .int x2)] [] M (QI q)
  unfold f_X11_lifts at h
  refine Fr_aload_n (q := 0) (i := 0) 0 (by decide +kernel) rfl rfl ?_
  refine gf_X11_34 rfl (by decide +kernel) ob_0 ?_
  refine Fr_iload_n (q := 1) (i := 1) 1 (by decide +kernel) rfl rfl ?_
  refine Fr_iload_n (q := 2) (i := 2) 2 (by decide +kernel) rfl rfl ?_
  obtain ⟨r_3, M_1, hc_2, h⟩ := bi_elim h
  refine Fr_cVb (ν := m_X5_isBoard) (As := [.int x1, .int x2]) (st := []) (rc := 10) (ci := 5) (d' := 0) (by decide +kernel) ml_X11_225 cv_X5_isBoard rfl (by decide) rfl ob_10 rfl (by decide) (Nat.le_of_ble_eq_true rfl) (t_X5_isBoard ob_10 hc_2) ?_
  refine Fr_if_ne (off := 9) 18 (by decide +kernel) (by decide) (fun hc => ?_) (fun hc => ?_)
  · have h := iF hc h
    refine Fr_aload_n (q := 0) (i := 0) 0 (by decide +kernel) rfl rfl ?_
    refine Fr_aload_n (q := 0) (i := 0) 0 (by decide +kernel) rfl rfl ?_
    refine gf_X11_89 rfl (by decide +kernel) ob_0 ?_
    refine Fr_aload_n (q := 0) (i := 0) 0 (by decide +kernel) rfl rfl ?_
    refine gf_X11_34 rfl (by decide +kernel) ob_0 ?_
    refine Fr_aload_n (q := 0) (i := 0) 0 (by decide +kernel) rfl rfl ?_
    refine gf_X11_34 rfl (by decide +kernel) ob_0 ?_
    refine Fr_iload_n (q := 1) (i := 1) 1 (by decide +kernel) rfl rfl ?_
    refine Fr_iload_n (q := 2) (i := 2) 2 (by decide +kernel) rfl rfl ?_
    obtain ⟨r_6, M_4, hc_5, h⟩ := bi_elim h
    refine Fr_cVi (ν := m_X5_boardAt) (As := [.int x1, .int x2]) (st := [.ref 10, .ref 93, .ref 0]) (rc := 10) (ci := 5) (d' := 0) (by decide +kernel) ml_X11_232 cv_X5_boardAt rfl (by decide) rfl ob_10 rfl (by decide) (Nat.le_of_ble_eq_true rfl) (t_X5_boardAt ob_10 hc_5) ?_
    refine Fr_iconst (i := 0) (v := 0) (by decide +kernel) (by decide) ?_
    obtain ⟨r_9, M_7, hc_8, h⟩ := bi_elim h
    refine Fr_cVi (ν := m_X0_firstHour) (As := [.ref 10, .int r_6, .int 0]) (st := [.ref 0]) (rc := 93) (ci := 0) (d' := 3) (by decide +kernel) ml_X11_285 cv_X0_firstHour rfl (by decide) rfl ob_93 rfl (by decide) (Nat.le_of_ble_eq_true rfl) (t_X0_firstHour ob_10 hc_8) ?_
    obtain ⟨r_12, M_10, hc_11, h⟩ := bi_elim h
    refine Fr_cVi (ν := m_X11_answeredIfAny) (As := [.int r_9]) (st := []) (rc := 0) (ci := 11) (d' := 1) (by decide +kernel) ml_X11_289 cv_X11_answeredIfAny rfl (by decide) rfl ob_0 rfl (by decide) (Nat.le_of_ble_eq_true rfl) (t_X11_answeredIfAny hc_11) ?_
    obtain rfl := Option.some.inj h
    exact Fr_iret (by decide +kernel) rfl ⟨rfl, rfl⟩
  · have h := iT hc h
    refine Fr_aload_n (q := 0) (i := 0) 0 (by decide +kernel) rfl rfl ?_
    refine Fr_iconst (i := 2) (v := 2) (by decide +kernel) (by decide) ?_
    obtain ⟨r_15, M_13, hc_14, h⟩ := bi_elim h
    refine Fr_cVi (ν := m_X11_refused) (As := [.int 2]) (st := []) (rc := 0) (ci := 11) (d' := 0) (by decide +kernel) ml_X11_140 cv_X11_refused rfl (by decide) rfl ob_0 rfl (by decide) (Nat.le_of_ble_eq_true rfl) (t_X11_refused hc_14) ?_
    obtain rfl := Option.some.inj h
    exact Fr_iret (by decide +kernel) rfl ⟨rfl, rfl⟩
set_option maxRecDepth 20000 in
theorem t_X11_comes {N : Nat} {x1 : Int32} {x2 : Int32} {M : Mem} {q : Int32 × Mem} (h : f_X11_comes N x1 x2 M = some q) : Ev 0 111 4 m_X11_comes [.ref 0, .int x1, .int x2] M (QI q) := by
  refine Ev_of_Fr (by decide +kernel) (Nat.le_of_ble_eq_true rfl) ?_
  show Fr 0 111 4 m_X11_comes 0 [(0, .ref 0), (1, .int x1), (2, .int x2)] [] M (QI q)
  unfold f_X11_comes at h
  refine Fr_aload_n (q := 0) (i := 0) 0 (by decide +kernel) rfl rfl ?_
  refine gf_X11_34 rfl (by decide +kernel) ob_0 ?_
  refine Fr_iload_n (q := 1) (i := 1) 1 (by decide +kernel) rfl rfl ?_
  refine Fr_iload_n (q := 2) (i := 2) 2 (by decide +kernel) rfl rfl ?_
  obtain ⟨r_3, M_1, hc_2, h⟩ := bi_elim h
  refine Fr_cVb (ν := m_X5_isBoard) (As := [.int x1, .int x2]) (st := []) (rc := 10) (ci := 5) (d' := 0) (by decide +kernel) ml_X11_225 cv_X5_isBoard rfl (by decide) rfl ob_10 rfl (by decide) (Nat.le_of_ble_eq_true rfl) (t_X5_isBoard ob_10 hc_2) ?_
  refine Fr_if_ne (off := 9) 18 (by decide +kernel) (by decide) (fun hc => ?_) (fun hc => ?_)
  · have h := iF hc h
    refine Fr_aload_n (q := 0) (i := 0) 0 (by decide +kernel) rfl rfl ?_
    refine Fr_aload_n (q := 0) (i := 0) 0 (by decide +kernel) rfl rfl ?_
    refine gf_X11_89 rfl (by decide +kernel) ob_0 ?_
    refine Fr_aload_n (q := 0) (i := 0) 0 (by decide +kernel) rfl rfl ?_
    refine gf_X11_34 rfl (by decide +kernel) ob_0 ?_
    refine Fr_aload_n (q := 0) (i := 0) 0 (by decide +kernel) rfl rfl ?_
    refine gf_X11_34 rfl (by decide +kernel) ob_0 ?_
    refine Fr_iload_n (q := 1) (i := 1) 1 (by decide +kernel) rfl rfl ?_
    refine Fr_iload_n (q := 2) (i := 2) 2 (by decide +kernel) rfl rfl ?_
    obtain ⟨r_6, M_4, hc_5, h⟩ := bi_elim h
    refine Fr_cVi (ν := m_X5_boardAt) (As := [.int x1, .int x2]) (st := [.ref 10, .ref 93, .ref 0]) (rc := 10) (ci := 5) (d' := 0) (by decide +kernel) ml_X11_232 cv_X5_boardAt rfl (by decide) rfl ob_10 rfl (by decide) (Nat.le_of_ble_eq_true rfl) (t_X5_boardAt ob_10 hc_5) ?_
    refine Fr_iconst (i := 1) (v := 1) (by decide +kernel) (by decide) ?_
    obtain ⟨r_9, M_7, hc_8, h⟩ := bi_elim h
    refine Fr_cVi (ν := m_X0_firstHour) (As := [.ref 10, .int r_6, .int 1]) (st := [.ref 0]) (rc := 93) (ci := 0) (d' := 3) (by decide +kernel) ml_X11_285 cv_X0_firstHour rfl (by decide) rfl ob_93 rfl (by decide) (Nat.le_of_ble_eq_true rfl) (t_X0_firstHour ob_10 hc_8) ?_
    obtain ⟨r_12, M_10, hc_11, h⟩ := bi_elim h
    refine Fr_cVi (ν := m_X11_answeredIfAny) (As := [.int r_9]) (st := []) (rc := 0) (ci := 11) (d' := 1) (by decide +kernel) ml_X11_289 cv_X11_answeredIfAny rfl (by decide) rfl ob_0 rfl (by decide) (Nat.le_of_ble_eq_true rfl) (t_X11_answeredIfAny hc_11) ?_
    obtain rfl := Option.some.inj h
    exact Fr_iret (by decide +kernel) rfl ⟨rfl, rfl⟩
  · have h := iT hc h
    refine Fr_aload_n (q := 0) (i := 0) 0 (by decide +kernel) rfl rfl ?_
    refine Fr_iconst (i := 2) (v := 2) (by decide +kernel) (by decide) ?_
    obtain ⟨r_15, M_13, hc_14, h⟩ := bi_elim h
    refine Fr_cVi (ν := m_X11_refused) (As := [.int 2]) (st := []) (rc := 0) (ci := 11) (d' := 0) (by decide +kernel) ml_X11_140 cv_X11_refused rfl (by decide) rfl ob_0 rfl (by decide) (Nat.le_of_ble_eq_true rfl) (t_X11_refused hc_14) ?_
    obtain rfl := Option.some.inj h
    exact Fr_iret (by decide +kernel) rfl ⟨rfl, rfl⟩
set_option maxRecDepth 20000 in
theorem t_X11_foggyIn {N : Nat} {x1 : Int32} {M : Mem} {q : Int32 × Mem} (h : f_X11_foggyIn N x1 M = some q) : Ev 0 111 4 m_X11_foggyIn [.ref 0, .int x1] M (QI q) := by
  refine Ev_of_Fr (by decide +kernel) (Nat.le_of_ble_eq_true rfl) ?_
  show Fr 0 111 4 m_X11_foggyIn 0 [(0, .ref 0), (1, .int x1)] [] M (QI q)
  unfold f_X11_foggyIn at h
  refine Fr_iload_n (q := 1) (i := 1) 1 (by decide +kernel) rfl rfl ?_
  refine Fr_if_lt (off := 9) 10 (by decide +kernel) (by decide) (fun hc => ?_) (fun hc => ?_)
  · have h := iT hc h
    refine Fr_aload_n (q := 0) (i := 0) 0 (by decide +kernel) rfl rfl ?_
    refine Fr_iconst (i := 5) (v := 5) (by decide +kernel) (by decide) ?_
    obtain ⟨r_3, M_1, hc_2, h⟩ := bi_elim h
    refine Fr_cVi (ν := m_X11_refused) (As := [.int 5]) (st := []) (rc := 0) (ci := 11) (d' := 0) (by decide +kernel) ml_X11_140 cv_X11_refused rfl (by decide) rfl ob_0 rfl (by decide) (Nat.le_of_ble_eq_true rfl) (t_X11_refused hc_2) ?_
    obtain rfl := Option.some.inj h
    exact Fr_iret (by decide +kernel) rfl ⟨rfl, rfl⟩
  · have h := iF hc h
    refine Fr_iload_n (q := 1) (i := 1) 1 (by decide +kernel) rfl rfl ?_
    refine Fr_bipush (i := 48) (v := 48) (by decide +kernel) (by decide) ?_
    refine Fr_icmp_le (off := 9) 16 (by decide +kernel) (by decide) (fun hc => ?_) (fun hc => ?_)
    · have h := iT hc h
      refine Fr_aload_n (q := 0) (i := 0) 0 (by decide +kernel) rfl rfl ?_
      refine gf_X11_89 rfl (by decide +kernel) ob_0 ?_
      refine Fr_aload_n (q := 0) (i := 0) 0 (by decide +kernel) rfl rfl ?_
      refine gf_X11_34 rfl (by decide +kernel) ob_0 ?_
      refine Fr_iload_n (q := 1) (i := 1) 1 (by decide +kernel) rfl rfl ?_
      obtain ⟨M_4, hc_5, h⟩ := bv_elim h
      refine Fr_cVv (ν := m_X0_look) (As := [.ref 10, .int x1]) (st := []) (rc := 93) (ci := 0) (d' := 3) (by decide +kernel) ml_X11_278 cv_X0_look rfl (by decide) rfl ob_93 rfl (by decide) (Nat.le_of_ble_eq_true rfl) (t_X0_look ob_10 hc_5) ?_
      refine Fr_aload_n (q := 0) (i := 0) 0 (by decide +kernel) rfl rfl ?_
      refine Fr_aload_n (q := 0) (i := 0) 0 (by decide +kernel) rfl rfl ?_
      refine gf_X11_34 rfl (by decide +kernel) ob_0 ?_
      refine Fr_aload_n (q := 0) (i := 0) 0 (by decide +kernel) rfl rfl ?_
      refine gf_X11_89 rfl (by decide +kernel) ob_0 ?_
      refine gf_X11_282 rfl (by decide +kernel) ob_93 ?_
      obtain ⟨r_8, M_6, hc_7, h⟩ := bi_elim h
      refine Fr_cVi (ν := m_X5_countFoggy) (As := [.ref 94]) (st := [.ref 0]) (rc := 10) (ci := 5) (d' := 1) (by decide +kernel) ml_X11_292 cv_X5_countFoggy rfl (by decide) rfl ob_10 rfl (by decide) (Nat.le_of_ble_eq_true rfl) (t_X5_countFoggy ob_10 ob_94 hc_7) ?_
      obtain ⟨r_11, M_9, hc_10, h⟩ := bi_elim h
      refine Fr_cVi (ν := m_X11_answered) (As := [.int r_8]) (st := []) (rc := 0) (ci := 11) (d' := 0) (by decide +kernel) ml_X11_176 cv_X11_answered rfl (by decide) rfl ob_0 rfl (by decide) (Nat.le_of_ble_eq_true rfl) (t_X11_answered hc_10) ?_
      obtain rfl := Option.some.inj h
      exact Fr_iret (by decide +kernel) rfl ⟨rfl, rfl⟩
    · have h := iF hc h
      refine Fr_aload_n (q := 0) (i := 0) 0 (by decide +kernel) rfl rfl ?_
      refine Fr_iconst (i := 5) (v := 5) (by decide +kernel) (by decide) ?_
      obtain ⟨r_14, M_12, hc_13, h⟩ := bi_elim h
      refine Fr_cVi (ν := m_X11_refused) (As := [.int 5]) (st := []) (rc := 0) (ci := 11) (d' := 0) (by decide +kernel) ml_X11_140 cv_X11_refused rfl (by decide) rfl ob_0 rfl (by decide) (Nat.le_of_ble_eq_true rfl) (t_X11_refused hc_13) ?_
      obtain rfl := Option.some.inj h
      exact Fr_iret (by decide +kernel) rfl ⟨rfl, rfl⟩
set_option maxRecDepth 20000 in
theorem t_X11_thickest {N : Nat} {x1 : Int32} {M : Mem} {q : Int32 × Mem} (h : f_X11_thickest N x1 M = some q) : Ev 0 111 4 m_X11_thickest [.ref 0, .int x1] M (QI q) := by
  refine Ev_of_Fr (by decide +kernel) (Nat.le_of_ble_eq_true rfl) ?_
  show Fr 0 111 4 m_X11_thickest 0 [(0, .ref 0), (1, .int x1)] [] M (QI q)
  unfold f_X11_thickest at h
  refine Fr_iload_n (q := 1) (i := 1) 1 (by decide +kernel) rfl rfl ?_
  refine Fr_iconst (i := 1) (v := 1) (by decide +kernel) (by decide) ?_
  refine Fr_icmp_lt (off := 9) 11 (by decide +kernel) (by decide) (fun hc => ?_) (fun hc => ?_)
  · have h := iT hc h
    refine Fr_aload_n (q := 0) (i := 0) 0 (by decide +kernel) rfl rfl ?_
    refine Fr_iconst (i := 5) (v := 5) (by decide +kernel) (by decide) ?_
    obtain ⟨r_3, M_1, hc_2, h⟩ := bi_elim h
    refine Fr_cVi (ν := m_X11_refused) (As := [.int 5]) (st := []) (rc := 0) (ci := 11) (d' := 0) (by decide +kernel) ml_X11_140 cv_X11_refused rfl (by decide) rfl ob_0 rfl (by decide) (Nat.le_of_ble_eq_true rfl) (t_X11_refused hc_2) ?_
    obtain rfl := Option.some.inj h
    exact Fr_iret (by decide +kernel) rfl ⟨rfl, rfl⟩
  · have h := iF hc h
    refine Fr_iload_n (q := 1) (i := 1) 1 (by decide +kernel) rfl rfl ?_
    refine Fr_bipush (i := 48) (v := 48) (by decide +kernel) (by decide) ?_
    refine Fr_icmp_le (off := 9) 17 (by decide +kernel) (by decide) (fun hc => ?_) (fun hc => ?_)
    · have h := iT hc h
      refine Fr_aload_n (q := 0) (i := 0) 0 (by decide +kernel) rfl rfl ?_
      refine Fr_aload_n (q := 0) (i := 0) 0 (by decide +kernel) rfl rfl ?_
      refine gf_X11_89 rfl (by decide +kernel) ob_0 ?_
      refine Fr_aload_n (q := 0) (i := 0) 0 (by decide +kernel) rfl rfl ?_
      refine gf_X11_34 rfl (by decide +kernel) ob_0 ?_
      refine Fr_iload_n (q := 1) (i := 1) 1 (by decide +kernel) rfl rfl ?_
      obtain ⟨r_6, M_4, hc_5, h⟩ := bi_elim h
      refine Fr_cVi (ν := m_X0_foggiestHour) (As := [.ref 10, .int x1]) (st := [.ref 0]) (rc := 93) (ci := 0) (d' := 3) (by decide +kernel) ml_X11_296 cv_X0_foggiestHour rfl (by decide) rfl ob_93 rfl (by decide) (Nat.le_of_ble_eq_true rfl) (t_X0_foggiestHour ob_10 hc_5) ?_
      obtain ⟨r_9, M_7, hc_8, h⟩ := bi_elim h
      refine Fr_cVi (ν := m_X11_answered) (As := [.int r_6]) (st := []) (rc := 0) (ci := 11) (d' := 0) (by decide +kernel) ml_X11_176 cv_X11_answered rfl (by decide) rfl ob_0 rfl (by decide) (Nat.le_of_ble_eq_true rfl) (t_X11_answered hc_8) ?_
      obtain rfl := Option.some.inj h
      exact Fr_iret (by decide +kernel) rfl ⟨rfl, rfl⟩
    · have h := iF hc h
      refine Fr_aload_n (q := 0) (i := 0) 0 (by decide +kernel) rfl rfl ?_
      refine Fr_iconst (i := 5) (v := 5) (by decide +kernel) (by decide) ?_
      obtain ⟨r_12, M_10, hc_11, h⟩ := bi_elim h
      refine Fr_cVi (ν := m_X11_refused) (As := [.int 5]) (st := []) (rc := 0) (ci := 11) (d' := 0) (by decide +kernel) ml_X11_140 cv_X11_refused rfl (by decide) rfl ob_0 rfl (by decide) (Nat.le_of_ble_eq_true rfl) (t_X11_refused hc_11) ?_
      obtain rfl := Option.some.inj h
      exact Fr_iret (by decide +kernel) rfl ⟨rfl, rfl⟩
