def f_X11_chance (N : Nat) (x1 : Int32) (x2 : Int32) (x3 : Int32) (x4 : Int32) (M : Mem) : Option (Bool × Mem) :=
  bi (f_X11_codeOfKey N x1 x2 x3 x4 M) fun r_3 M_1 =>
  if r_3 = 0 then (if (M_1.1 103 1) = 0 then (bi (f_X11_refusedFlag 8 M_1) fun r_14 M_12 =>
  some (r_14, M_12)) else (bi (f_X1_waysWith N x1 x2 M_1) fun r_6 M_4 =>
  bv (f_X11_tellFraction N (Int32.toInt64 r_6) (Int32.toInt64 (M_4.1 103 1)) M_4) fun M_7 =>
  bi (f_X11_granted M_7) fun r_11 M_9 =>
  some (r_11, M_9))) else (bi (f_X11_refusedFlag r_3 M_1) fun r_17 M_15 =>
  some (r_17, M_15))
set_option maxRecDepth 20000 in
theorem t_X11_chance {N : Nat} {x1 : Int32} {x2 : Int32} {x3 : Int32} {x4 : Int32} {M : Mem} {q : Bool × Mem} (h : f_X11_chance N x1 x2 x3 x4 M = some q) : Ev 0 111 6 m_X11_chance [.ref 0, .int x1, .int x2, .int x3, .int x4] M (QB q) := by
  refine Ev_of_Fr (by decide +kernel) (Nat.le_of_ble_eq_true rfl) ?_
  show Fr 0 111 6 m_X11_chance 0 [(0, .ref 0), (1, .int x1), (2, .int x2), (3, .int x3), (4, .int x4)] [] M (QB q)
  unfold f_X11_chance at h
  refine Fr_aload_n (q := 0) (i := 0) 0 (by decide +kernel) rfl rfl ?_
  refine Fr_iload_n (q := 1) (i := 1) 1 (by decide +kernel) rfl rfl ?_
  refine Fr_iload_n (q := 2) (i := 2) 2 (by decide +kernel) rfl rfl ?_
  refine Fr_iload_n (q := 3) (i := 3) 3 (by decide +kernel) rfl rfl ?_
  refine Fr_iload (i := 4) 4 (by decide +kernel) rfl ?_
  obtain ⟨r_3, M_1, hc_2, h⟩ := bi_elim h
  refine Fr_cVi (ν := m_X11_codeOfKey) (As := [.int x1, .int x2, .int x3, .int x4]) (st := []) (rc := 0) (ci := 11) (d' := 5) (by decide +kernel) ml_X11_371 cv_X11_codeOfKey rfl (by decide) rfl ob_0 rfl (by decide) (Nat.le_of_ble_eq_true rfl) (t_X11_codeOfKey hc_2) ?_
  refine Fr_istore (i := 5) (lv' := [(5, .int r_3), (0, .ref 0), (1, .int x1), (2, .int x2), (3, .int x3), (4, .int x4)]) (by decide +kernel) (by decide) rfl ?_
  refine Fr_iload (i := 5) 0 (by decide +kernel) rfl ?_
  refine Fr_if_eq (off := 10) 23 (by decide +kernel) (by decide) (fun hc => ?_) (fun hc => ?_)
  · have h := iT hc h
    refine Fr_aload_n (q := 0) (i := 0) 1 (by decide +kernel) rfl rfl ?_
    refine gf_X11_103 rfl (by decide +kernel) ob_0 ?_
    refine gf_X11_368 rfl (by decide +kernel) ob_103 ?_
    refine Fr_if_ne (off := 10) 40 (by decide +kernel) (by decide) (fun hc => ?_) (fun hc => ?_)
    · have h := iF hc h
      refine Fr_aload_n (q := 0) (i := 0) 1 (by decide +kernel) rfl rfl ?_
      refine Fr_aload_n (q := 0) (i := 0) 1 (by decide +kernel) rfl rfl ?_
      refine gf_X11_103 rfl (by decide +kernel) ob_0 ?_
      refine Fr_iload_n (q := 1) (i := 1) 2 (by decide +kernel) rfl rfl ?_
      refine Fr_iload_n (q := 2) (i := 2) 3 (by decide +kernel) rfl rfl ?_
      obtain ⟨r_6, M_4, hc_5, h⟩ := bi_elim h
      refine Fr_cVi (ν := m_X1_waysWith) (As := [.int x1, .int x2]) (st := [.ref 0]) (rc := 103) (ci := 1) (d' := 2) (by decide +kernel) ml_X11_381 cv_X1_waysWith rfl (by decide) rfl ob_103 rfl (by decide) (Nat.le_of_ble_eq_true rfl) (t_X1_waysWith hc_5) ?_
      refine Fr_i2l (by decide +kernel) ?_
      refine Fr_aload_n (q := 0) (i := 0) 1 (by decide +kernel) rfl rfl ?_
      refine gf_X11_103 rfl (by decide +kernel) ob_0 ?_
      refine gf_X11_368 rfl (by decide +kernel) ob_103 ?_
      refine Fr_i2l (by decide +kernel) ?_
      obtain ⟨M_7, hc_8, h⟩ := bv_elim h
      refine Fr_cVv (ν := m_X11_tellFraction) (As := [.long (Int32.toInt64 r_6), .long (Int32.toInt64 (M_4.1 103 1))]) (st := []) (rc := 0) (ci := 11) (d' := 0) (by decide +kernel) ml_X11_355 cv_X11_tellFraction rfl (by decide) rfl ob_0 rfl (by decide) (Nat.le_of_ble_eq_true rfl) (t_X11_tellFraction hc_8) ?_
      refine Fr_aload_n (q := 0) (i := 0) 1 (by decide +kernel) rfl rfl ?_
      obtain ⟨r_11, M_9, hc_10, h⟩ := bi_elim h
      refine Fr_cVb (ν := m_X11_granted) (As := []) (st := []) (rc := 0) (ci := 11) (d' := 0) (by decide +kernel) ml_X11_128 cv_X11_granted rfl (by decide) rfl ob_0 rfl (by decide) (Nat.le_of_ble_eq_true rfl) (t_X11_granted hc_10) ?_
      obtain rfl := Option.some.inj h
      exact Fr_zret (by decide +kernel) rfl (nz_b r_11) ⟨rfl, rfl⟩
    · have h := iT hc h
      refine Fr_aload_n (q := 0) (i := 0) 1 (by decide +kernel) rfl rfl ?_
      refine Fr_bipush (i := 8) (v := 8) (by decide +kernel) (by decide) ?_
      obtain ⟨r_14, M_12, hc_13, h⟩ := bi_elim h
      refine Fr_cVb (ν := m_X11_refusedFlag) (As := [.int 8]) (st := []) (rc := 0) (ci := 11) (d' := 0) (by decide +kernel) ml_X11_121 cv_X11_refusedFlag rfl (by decide) rfl ob_0 rfl (by decide) (Nat.le_of_ble_eq_true rfl) (t_X11_refusedFlag hc_13) ?_
      obtain rfl := Option.some.inj h
      exact Fr_zret (by decide +kernel) rfl (nz_b r_14) ⟨rfl, rfl⟩
  · have h := iF hc h
    refine Fr_aload_n (q := 0) (i := 0) 1 (by decide +kernel) rfl rfl ?_
    refine Fr_iload (i := 5) 0 (by decide +kernel) rfl ?_
    obtain ⟨r_17, M_15, hc_16, h⟩ := bi_elim h
    refine Fr_cVb (ν := m_X11_refusedFlag) (As := [.int r_3]) (st := []) (rc := 0) (ci := 11) (d' := 0) (by decide +kernel) ml_X11_121 cv_X11_refusedFlag rfl (by decide) rfl ob_0 rfl (by decide) (Nat.le_of_ble_eq_true rfl) (t_X11_refusedFlag hc_16) ?_
    obtain rfl := Option.some.inj h
    exact Fr_zret (by decide +kernel) rfl (nz_b r_17) ⟨rfl, rfl⟩
def f_X11_live (N : Nat) (x1 : Int32) (M : Mem) : Option (Int32 × Mem) :=
  if x1 < 0 then (bi (f_X11_refused 5 M) fun r_3 M_1 =>
  some (r_3, M_1)) else (if x1 ≤ 9999 then (if (M.1 17 0) = 0 then (bi (f_X11_refused 8 M) fun r_11 M_9 =>
  some (r_11, M_9)) else (bv (f_X2_run N 107 10 x1 M) fun M_4 =>
  bi (f_X11_answered (M_4.1 107 4) M_4) fun r_8 M_6 =>
  some (r_8, M_6))) else (bi (f_X11_refused 5 M) fun r_14 M_12 =>
  some (r_14, M_12)))
set_option maxRecDepth 20000 in
theorem t_X11_live {N : Nat} {x1 : Int32} {M : Mem} {q : Int32 × Mem} (h : f_X11_live N x1 M = some q) : Ev 0 111 7 m_X11_live [.ref 0, .int x1] M (QI q) := by
  refine Ev_of_Fr (by decide +kernel) (Nat.le_of_ble_eq_true rfl) ?_
  show Fr 0 111 7 m_X11_live 0 [(0, .ref 0), (1, .int x1)] [] M (QI q)
  unfold f_X11_live at h
  refine Fr_iload_n (q := 1) (i := 1) 1 (by decide +kernel) rfl rfl ?_
  refine Fr_if_lt (off := 10) 11 (by decide +kernel) (by decide) (fun hc => ?_) (fun hc => ?_)
  · have h := iT hc h
    refine Fr_aload_n (q := 0) (i := 0) 0 (by decide +kernel) rfl rfl ?_
    refine Fr_iconst (i := 5) (v := 5) (by decide +kernel) (by decide) ?_
    obtain ⟨r_3, M_1, hc_2, h⟩ := bi_elim h
    refine Fr_cVi (ν := m_X11_refused) (As := [.int 5]) (st := []) (rc := 0) (ci := 11) (d' := 0) (by decide +kernel) ml_X11_140 cv_X11_refused rfl (by decide) rfl ob_0 rfl (by decide) (Nat.le_of_ble_eq_true rfl) (t_X11_refused hc_2) ?_
    obtain rfl := Option.some.inj h
    exact Fr_iret (by decide +kernel) rfl ⟨rfl, rfl⟩
  · have h := iF hc h
    refine Fr_iload_n (q := 1) (i := 1) 1 (by decide +kernel) rfl rfl ?_
    refine Fr_sipush (i := 9999) (v := 9999) (by decide +kernel) (by decide) ?_
    refine Fr_icmp_le (off := 9) 17 (by decide +kernel) (by decide) (fun hc => ?_) (fun hc => ?_)
    · have h := iT hc h
      refine Fr_aload_n (q := 0) (i := 0) 0 (by decide +kernel) rfl rfl ?_
      refine gf_X11_34 rfl (by decide +kernel) ob_0 ?_
      refine gf_X11_182 rfl (by decide +kernel) ob_10 ?_
      refine gf_X11_384 rfl (by decide +kernel) ob_17 ?_
      refine Fr_if_ne (off := 10) 37 (by decide +kernel) (by decide) (fun hc => ?_) (fun hc => ?_)
      · have h := iF hc h
        refine Fr_aload_n (q := 0) (i := 0) 0 (by decide +kernel) rfl rfl ?_
        refine gf_X11_110 rfl (by decide +kernel) ob_0 ?_
        refine Fr_aload_n (q := 0) (i := 0) 0 (by decide +kernel) rfl rfl ?_
        refine gf_X11_34 rfl (by decide +kernel) ob_0 ?_
        refine Fr_iload_n (q := 1) (i := 1) 1 (by decide +kernel) rfl rfl ?_
        obtain ⟨M_4, hc_5, h⟩ := bv_elim h
        refine Fr_cVv (ν := m_X2_run) (As := [.ref 10, .int x1]) (st := []) (rc := 107) (ci := 2) (d' := 6) (by decide +kernel) ml_X11_388 cv_X2_run rfl (by decide) rfl ob_107 rfl (by decide) (Nat.le_of_ble_eq_true rfl) (t_X2_run ob_107 ob_10 hc_5) ?_
        refine Fr_aload_n (q := 0) (i := 0) 0 (by decide +kernel) rfl rfl ?_
        refine Fr_aload_n (q := 0) (i := 0) 0 (by decide +kernel) rfl rfl ?_
        refine gf_X11_110 rfl (by decide +kernel) ob_0 ?_
        refine gf_X11_391 rfl (by decide +kernel) ob_107 ?_
        obtain ⟨r_8, M_6, hc_7, h⟩ := bi_elim h
        refine Fr_cVi (ν := m_X11_answered) (As := [.int (M_4.1 107 4)]) (st := []) (rc := 0) (ci := 11) (d' := 0) (by decide +kernel) ml_X11_176 cv_X11_answered rfl (by decide) rfl ob_0 rfl (by decide) (Nat.le_of_ble_eq_true rfl) (t_X11_answered hc_7) ?_
        obtain rfl := Option.some.inj h
        exact Fr_iret (by decide +kernel) rfl ⟨rfl, rfl⟩
      · have h := iT hc h
        refine Fr_aload_n (q := 0) (i := 0) 0 (by decide +kernel) rfl rfl ?_
        refine Fr_bipush (i := 8) (v := 8) (by decide +kernel) (by decide) ?_
        obtain ⟨r_11, M_9, hc_10, h⟩ := bi_elim h
        refine Fr_cVi (ν := m_X11_refused) (As := [.int 8]) (st := []) (rc := 0) (ci := 11) (d' := 0) (by decide +kernel) ml_X11_140 cv_X11_refused rfl (by decide) rfl ob_0 rfl (by decide) (Nat.le_of_ble_eq_true rfl) (t_X11_refused hc_10) ?_
        obtain rfl := Option.some.inj h
        exact Fr_iret (by decide +kernel) rfl ⟨rfl, rfl⟩
    · have h := iF hc h
      refine Fr_aload_n (q := 0) (i := 0) 0 (by decide +kernel) rfl rfl ?_
      refine Fr_iconst (i := 5) (v := 5) (by decide +kernel) (by decide) ?_
      obtain ⟨r_14, M_12, hc_13, h⟩ := bi_elim h
      refine Fr_cVi (ν := m_X11_refused) (As := [.int 5]) (st := []) (rc := 0) (ci := 11) (d' := 0) (by decide +kernel) ml_X11_140 cv_X11_refused rfl (by decide) rfl ob_0 rfl (by decide) (Nat.le_of_ble_eq_true rfl) (t_X11_refused hc_13) ?_
      obtain rfl := Option.some.inj h
      exact Fr_iret (by decide +kernel) rfl ⟨rfl, rfl⟩
def f_X11_lived (x1 : Int32) (M : Mem) : Option (Int32 × Mem) :=
  if x1 < 0 then (bi (f_X11_refused 5 M) fun r_3 M_1 =>
  some (r_3, M_1)) else (if x1 < 5 then (if (M.1 107 3) = 0 then (bi (f_X11_refused 8 M) fun r_12 M_10 =>
  some (r_12, M_10)) else (bi (f_X2_factOf 107 x1 M) fun r_6 M_4 =>
  bi (f_X11_answered r_6 M_4) fun r_9 M_7 =>
  some (r_9, M_7))) else (bi (f_X11_refused 5 M) fun r_15 M_13 =>
  some (r_15, M_13)))
set_option maxRecDepth 20000 in
theorem t_X11_lived {x1 : Int32} {M : Mem} {q : Int32 × Mem} (h : f_X11_lived x1 M = some q) : Ev 0 111 1 m_X11_lived [.ref 0, .int x1] M (QI q) := by
  refine Ev_of_Fr (by decide +kernel) (Nat.le_of_ble_eq_true rfl) ?_
  show Fr 0 111 1 m_X11_lived 0 [(0, .ref 0), (1, .int x1)] [] M (QI q)
  unfold f_X11_lived at h
  refine Fr_iload_n (q := 1) (i := 1) 1 (by decide +kernel) rfl rfl ?_
  refine Fr_if_lt (off := 8) 9 (by decide +kernel) (by decide) (fun hc => ?_) (fun hc => ?_)
  · have h := iT hc h
    refine Fr_aload_n (q := 0) (i := 0) 0 (by decide +kernel) rfl rfl ?_
    refine Fr_iconst (i := 5) (v := 5) (by decide +kernel) (by decide) ?_
    obtain ⟨r_3, M_1, hc_2, h⟩ := bi_elim h
    refine Fr_cVi (ν := m_X11_refused) (As := [.int 5]) (st := []) (rc := 0) (ci := 11) (d' := 0) (by decide +kernel) ml_X11_140 cv_X11_refused rfl (by decide) rfl ob_0 rfl (by decide) (Nat.le_of_ble_eq_true rfl) (t_X11_refused hc_2) ?_
    obtain rfl := Option.some.inj h
    exact Fr_iret (by decide +kernel) rfl ⟨rfl, rfl⟩
  · have h := iF hc h
    refine Fr_iload_n (q := 1) (i := 1) 1 (by decide +kernel) rfl rfl ?_
    refine Fr_iconst (i := 5) (v := 5) (by decide +kernel) (by decide) ?_
    refine Fr_icmp_lt (off := 9) 15 (by decide +kernel) (by decide) (fun hc => ?_) (fun hc => ?_)
    · have h := iT hc h
      refine Fr_aload_n (q := 0) (i := 0) 0 (by decide +kernel) rfl rfl ?_
      refine gf_X11_110 rfl (by decide +kernel) ob_0 ?_
      refine gf_X11_394 rfl (by decide +kernel) ob_107 ?_
      refine Fr_if_ne (off := 10) 32 (by decide +kernel) (by decide) (fun hc => ?_) (fun hc => ?_)
      · have h := iF hc h
        refine Fr_aload_n (q := 0) (i := 0) 0 (by decide +kernel) rfl rfl ?_
        refine Fr_aload_n (q := 0) (i := 0) 0 (by decide +kernel) rfl rfl ?_
        refine gf_X11_110 rfl (by decide +kernel) ob_0 ?_
        refine Fr_iload_n (q := 1) (i := 1) 1 (by decide +kernel) rfl rfl ?_
        obtain ⟨r_6, M_4, hc_5, h⟩ := bi_elim h
        refine Fr_cVi (ν := m_X2_factOf) (As := [.int x1]) (st := [.ref 0]) (rc := 107) (ci := 2) (d' := 0) (by decide +kernel) ml_X11_395 cv_X2_factOf rfl (by decide) rfl ob_107 rfl (by decide) (Nat.le_of_ble_eq_true rfl) (t_X2_factOf ob_107 hc_5) ?_
        obtain ⟨r_9, M_7, hc_8, h⟩ := bi_elim h
        refine Fr_cVi (ν := m_X11_answered) (As := [.int r_6]) (st := []) (rc := 0) (ci := 11) (d' := 0) (by decide +kernel) ml_X11_176 cv_X11_answered rfl (by decide) rfl ob_0 rfl (by decide) (Nat.le_of_ble_eq_true rfl) (t_X11_answered hc_8) ?_
        obtain rfl := Option.some.inj h
        exact Fr_iret (by decide +kernel) rfl ⟨rfl, rfl⟩
      · have h := iT hc h
        refine Fr_aload_n (q := 0) (i := 0) 0 (by decide +kernel) rfl rfl ?_
        refine Fr_bipush (i := 8) (v := 8) (by decide +kernel) (by decide) ?_
        obtain ⟨r_12, M_10, hc_11, h⟩ := bi_elim h
        refine Fr_cVi (ν := m_X11_refused) (As := [.int 8]) (st := []) (rc := 0) (ci := 11) (d' := 0) (by decide +kernel) ml_X11_140 cv_X11_refused rfl (by decide) rfl ob_0 rfl (by decide) (Nat.le_of_ble_eq_true rfl) (t_X11_refused hc_11) ?_
        obtain rfl := Option.some.inj h
        exact Fr_iret (by decide +kernel) rfl ⟨rfl, rfl⟩
    · have h := iF hc h
      refine Fr_aload_n (q := 0) (i := 0) 0 (by decide +kernel) rfl rfl ?_
      refine Fr_iconst (i := 5) (v := 5) (by decide +kernel) (by decide) ?_
      obtain ⟨r_15, M_13, hc_14, h⟩ := bi_elim h
      refine Fr_cVi (ν := m_X11_refused) (As := [.int 5]) (st := []) (rc := 0) (ci := 11) (d' := 0) (by decide +kernel) ml_X11_140 cv_X11_refused rfl (by decide) rfl ob_0 rfl (by decide) (Nat.le_of_ble_eq_true rfl) (t_X11_refused hc_14) ?_
      obtain rfl := Option.some.inj h
      exact Fr_iret (by decide +kernel) rfl ⟨rfl, rfl⟩
def f_X11_mean_h64 (N : Nat) (k64 : Int32 × Int32 × Int32 × Int32 → Mem → Option (Bool × Mem)) (v1 : Int32) (v2 : Int32) (v3 : Int32) (v4 : Int32) (M : Mem) : Option (Bool × Mem) :=
  if v2 ≤ v4 then (bv (f_X11_tellFraction N (Int32.toInt64 v3) (Int32.toInt64 v2) M) fun M_13 =>
  bi (f_X11_granted M_13) fun r_17 M_15 =>
  some (r_17, M_15)) else (bv (f_X5_copyFrom 23 10 M) fun M_18 =>
  bv (f_X2_run N 109 23 (v1 + v4) M_18) fun M_20 =>
  bi (f_X5_countFoggy N 23 29 M_20) fun r_24 M_22 =>
  k64 (v1, v2, (v3 + r_24), (v4 + 1)) M_22)
set_option maxRecDepth 20000 in
theorem t_X11_mean_h64 {N : Nat} {q : Bool × Mem} {k64 : Int32 × Int32 × Int32 × Int32 → Mem → Option (Bool × Mem)} (hk64 : ∀ (a : Int32 × Int32 × Int32 × Int32) (M : Mem), k64 a M = some q → Fr 0 111 7 m_X11_mean 64 [(0, .ref 0), (1, .int a.1), (2, .int a.2.1), (3, .int a.2.2.1), (4, .int a.2.2.2)] [] M (QB q)) {v1 : Int32} {v2 : Int32} {v3 : Int32} {v4 : Int32} {M : Mem} (h : f_X11_mean_h64 N k64 v1 v2 v3 v4 M = some q) : Fr 0 111 7 m_X11_mean 64 [(0, .ref 0), (1, .int v1), (2, .int v2), (3, .int v3), (4, .int v4)] [] M (QB q) := by
  unfold f_X11_mean_h64 at h
  refine Fr_iload (i := 4) 4 (by decide +kernel) rfl ?_
  refine Fr_iload_n (q := 2) (i := 2) 2 (by decide +kernel) rfl rfl ?_
  refine Fr_icmp_ge (off := 52) 119 (by decide +kernel) (by decide) (fun hc => ?_) (fun hc => ?_)
  · have h := iT hc h
    refine Fr_aload_n (q := 0) (i := 0) 0 (by decide +kernel) rfl rfl ?_
    refine Fr_iload_n (q := 3) (i := 3) 3 (by decide +kernel) rfl rfl ?_
    refine Fr_i2l (by decide +kernel) ?_
    refine Fr_iload_n (q := 2) (i := 2) 2 (by decide +kernel) rfl rfl ?_
    refine Fr_i2l (by decide +kernel) ?_
    obtain ⟨M_13, hc_14, h⟩ := bv_elim h
    refine Fr_cVv (ν := m_X11_tellFraction) (As := [.long (Int32.toInt64 v3), .long (Int32.toInt64 v2)]) (st := []) (rc := 0) (ci := 11) (d' := 0) (by decide +kernel) ml_X11_355 cv_X11_tellFraction rfl (by decide) rfl ob_0 rfl (by decide) (Nat.le_of_ble_eq_true rfl) (t_X11_tellFraction hc_14) ?_
    refine Fr_aload_n (q := 0) (i := 0) 0 (by decide +kernel) rfl rfl ?_
    obtain ⟨r_17, M_15, hc_16, h⟩ := bi_elim h
    refine Fr_cVb (ν := m_X11_granted) (As := []) (st := []) (rc := 0) (ci := 11) (d' := 0) (by decide +kernel) ml_X11_128 cv_X11_granted rfl (by decide) rfl ob_0 rfl (by decide) (Nat.le_of_ble_eq_true rfl) (t_X11_granted hc_16) ?_
    obtain rfl := Option.some.inj h
    exact Fr_zret (by decide +kernel) rfl (nz_b r_17) ⟨rfl, rfl⟩
  · have h := iF hc h
    refine Fr_aload_n (q := 0) (i := 0) 0 (by decide +kernel) rfl rfl ?_
    refine gf_X11_38 rfl (by decide +kernel) ob_0 ?_
    refine Fr_aload_n (q := 0) (i := 0) 0 (by decide +kernel) rfl rfl ?_
    refine gf_X11_34 rfl (by decide +kernel) ob_0 ?_
    obtain ⟨M_18, hc_19, h⟩ := bv_elim h
    refine Fr_cVv (ν := m_X5_copyFrom) (As := [.ref 10]) (st := []) (rc := 23) (ci := 5) (d' := 2) (by decide +kernel) ml_X11_169 cv_X5_copyFrom rfl (by decide) rfl ob_23 rfl (by decide) (Nat.le_of_ble_eq_true rfl) (t_X5_copyFrom ob_23 ob_10 hc_19) ?_
    refine Fr_aload_n (q := 0) (i := 0) 0 (by decide +kernel) rfl rfl ?_
    refine gf_X11_114 rfl (by decide +kernel) ob_0 ?_
    refine Fr_aload_n (q := 0) (i := 0) 0 (by decide +kernel) rfl rfl ?_
    refine gf_X11_38 rfl (by decide +kernel) ob_0 ?_
    refine Fr_iload_n (q := 1) (i := 1) 1 (by decide +kernel) rfl rfl ?_
    refine Fr_iload (i := 4) 4 (by decide +kernel) rfl ?_
    refine Fr_iadd (by decide +kernel) ?_
    obtain ⟨M_20, hc_21, h⟩ := bv_elim h
    refine Fr_cVv (ν := m_X2_run) (As := [.ref 23, .int (v1 + v4)]) (st := []) (rc := 109) (ci := 2) (d' := 6) (by decide +kernel) ml_X11_388 cv_X2_run rfl (by decide) rfl ob_109 rfl (by decide) (Nat.le_of_ble_eq_true rfl) (t_X2_run ob_109 ob_23 hc_21) ?_
    refine Fr_iload_n (q := 3) (i := 3) 3 (by decide +kernel) rfl rfl ?_
    refine Fr_aload_n (q := 0) (i := 0) 0 (by decide +kernel) rfl rfl ?_
    refine gf_X11_38 rfl (by decide +kernel) ob_0 ?_
    refine Fr_aload_n (q := 0) (i := 0) 0 (by decide +kernel) rfl rfl ?_
    refine gf_X11_38 rfl (by decide +kernel) ob_0 ?_
    refine gf_X11_229 rfl (by decide +kernel) ob_23 ?_
    obtain ⟨r_24, M_22, hc_23, h⟩ := bi_elim h
    refine Fr_cVi (ν := m_X5_countFoggy) (As := [.ref 29]) (st := [.int v3]) (rc := 23) (ci := 5) (d' := 1) (by decide +kernel) ml_X11_292 cv_X5_countFoggy rfl (by decide) rfl ob_23 rfl (by decide) (Nat.le_of_ble_eq_true rfl) (t_X5_countFoggy ob_23 ob_29 hc_23) ?_
    refine Fr_iadd (by decide +kernel) ?_
    refine Fr_istore_n (q := 3) (i := 3) (lv' := [(3, .int (v3 + r_24)), (0, .ref 0), (1, .int v1), (2, .int v2), (4, .int v4)]) (by decide +kernel) rfl (by decide) rfl ?_
    refine Fr_iinc (i := 4) (j := 1) (v := (v4 + 1)) (lv' := [(4, .int (v4 + 1)), (3, .int (v3 + r_24)), (0, .ref 0), (1, .int v1), (2, .int v2)]) 4 (by decide +kernel) rfl rfl (by decide) rfl ?_
    refine Fr_goto (off := (-52)) 64 (by decide +kernel) (by decide) ?_
    refine Fr_loc [2, 3, 4, 1, 0] rfl ?_
    exact hk64 (v1, v2, (v3 + r_24), (v4 + 1)) M_22 h
def f_X11_mean (N : Nat) (x1 : Int32) (x2 : Int32) (M : Mem) : Option (Bool × Mem) :=
  if x1 < 0 then (bi (f_X11_refusedFlag 5 M) fun r_3 M_1 =>
  some (r_3, M_1)) else (if 9999 < x1 then (bi (f_X11_refusedFlag 5 M) fun r_6 M_4 =>
  some (r_6, M_4)) else (if x2 < 1 then (bi (f_X11_refusedFlag 5 M) fun r_9 M_7 =>
  some (r_9, M_7)) else (if 20 < x2 then (bi (f_X11_refusedFlag 5 M) fun r_12 M_10 =>
  some (r_12, M_10)) else (if ((x1 + x2) - 1) ≤ 9999 then (if (M.1 17 0) = 0 then (bi (f_X11_refusedFlag 8 M) fun r_27 M_25 =>
  some (r_27, M_25)) else (lp (fun k a m => f_X11_mean_h64 N k a.1 a.2.1 a.2.2.1 a.2.2.2 m) N (x1, x2, 0, 0) M)) else (bi (f_X11_refusedFlag 5 M) fun r_30 M_28 =>
  some (r_30, M_28))))))
set_option maxRecDepth 20000 in
theorem t_X11_mean {N : Nat} {x1 : Int32} {x2 : Int32} {M : Mem} {q : Bool × Mem} (h : f_X11_mean N x1 x2 M = some q) : Ev 0 111 7 m_X11_mean [.ref 0, .int x1, .int x2] M (QB q) := by
  refine Ev_of_Fr (by decide +kernel) (Nat.le_of_ble_eq_true rfl) ?_
  show Fr 0 111 7 m_X11_mean 0 [(0, .ref 0), (1, .int x1), (2, .int x2)] [] M (QB q)
  unfold f_X11_mean at h
  refine Fr_iload_n (q := 1) (i := 1) 1 (by decide +kernel) rfl rfl ?_
  refine Fr_if_lt (off := 32) 33 (by decide +kernel) (by decide) (fun hc => ?_) (fun hc => ?_)
  · have h := iT hc h
    refine Fr_aload_n (q := 0) (i := 0) 0 (by decide +kernel) rfl rfl ?_
    refine Fr_iconst (i := 5) (v := 5) (by decide +kernel) (by decide) ?_
    obtain ⟨r_3, M_1, hc_2, h⟩ := bi_elim h
    refine Fr_cVb (ν := m_X11_refusedFlag) (As := [.int 5]) (st := []) (rc := 0) (ci := 11) (d' := 0) (by decide +kernel) ml_X11_121 cv_X11_refusedFlag rfl (by decide) rfl ob_0 rfl (by decide) (Nat.le_of_ble_eq_true rfl) (t_X11_refusedFlag hc_2) ?_
    obtain rfl := Option.some.inj h
    exact Fr_zret (by decide +kernel) rfl (nz_b r_3) ⟨rfl, rfl⟩
  · have h := iF hc h
    refine Fr_iload_n (q := 1) (i := 1) 1 (by decide +kernel) rfl rfl ?_
    refine Fr_sipush (i := 9999) (v := 9999) (by decide +kernel) (by decide) ?_
    refine Fr_icmp_gt (off := 25) 33 (by decide +kernel) (by decide) (fun hc => ?_) (fun hc => ?_)
    · have h := iT hc h
      refine Fr_aload_n (q := 0) (i := 0) 0 (by decide +kernel) rfl rfl ?_
      refine Fr_iconst (i := 5) (v := 5) (by decide +kernel) (by decide) ?_
      obtain ⟨r_6, M_4, hc_5, h⟩ := bi_elim h
      refine Fr_cVb (ν := m_X11_refusedFlag) (As := [.int 5]) (st := []) (rc := 0) (ci := 11) (d' := 0) (by decide +kernel) ml_X11_121 cv_X11_refusedFlag rfl (by decide) rfl ob_0 rfl (by decide) (Nat.le_of_ble_eq_true rfl) (t_X11_refusedFlag hc_5) ?_
      obtain rfl := Option.some.inj h
      exact Fr_zret (by decide +kernel) rfl (nz_b r_6) ⟨rfl, rfl⟩
    · have h := iF hc h
      refine Fr_iload_n (q := 2) (i := 2) 2 (by decide +kernel) rfl rfl ?_
      refine Fr_iconst (i := 1) (v := 1) (by decide +kernel) (by decide) ?_
      refine Fr_icmp_lt (off := 20) 33 (by decide +kernel) (by decide) (fun hc => ?_) (fun hc => ?_)
      · have h := iT hc h
        refine Fr_aload_n (q := 0) (i := 0) 0 (by decide +kernel) rfl rfl ?_
        refine Fr_iconst (i := 5) (v := 5) (by decide +kernel) (by decide) ?_
        obtain ⟨r_9, M_7, hc_8, h⟩ := bi_elim h
        refine Fr_cVb (ν := m_X11_refusedFlag) (As := [.int 5]) (st := []) (rc := 0) (ci := 11) (d' := 0) (by decide +kernel) ml_X11_121 cv_X11_refusedFlag rfl (by decide) rfl ob_0 rfl (by decide) (Nat.le_of_ble_eq_true rfl) (t_X11_refusedFlag hc_8) ?_
        obtain rfl := Option.some.inj h
        exact Fr_zret (by decide +kernel) rfl (nz_b r_9) ⟨rfl, rfl⟩
      · have h := iF hc h
        refine Fr_iload_n (q := 2) (i := 2) 2 (by decide +kernel) rfl rfl ?_
        refine Fr_bipush (i := 20) (v := 20) (by decide +kernel) (by decide) ?_
        refine Fr_icmp_gt (off := 14) 33 (by decide +kernel) (by decide) (fun hc => ?_) (fun hc => ?_)
        · have h := iT hc h
          refine Fr_aload_n (q := 0) (i := 0) 0 (by decide +kernel) rfl rfl ?_
          refine Fr_iconst (i := 5) (v := 5) (by decide +kernel) (by decide) ?_
          obtain ⟨r_12, M_10, hc_11, h⟩ := bi_elim h
          refine Fr_cVb (ν := m_X11_refusedFlag) (As := [.int 5]) (st := []) (rc := 0) (ci := 11) (d' := 0) (by decide +kernel) ml_X11_121 cv_X11_refusedFlag rfl (by decide) rfl ob_0 rfl (by decide) (Nat.le_of_ble_eq_true rfl) (t_X11_refusedFlag hc_11) ?_
          obtain rfl := Option.some.inj h
          exact Fr_zret (by decide +kernel) rfl (nz_b r_12) ⟨rfl, rfl⟩
        · have h := iF hc h
          refine Fr_iload_n (q := 1) (i := 1) 1 (by decide +kernel) rfl rfl ?_
          refine Fr_iload_n (q := 2) (i := 2) 2 (by decide +kernel) rfl rfl ?_
          refine Fr_iadd (by decide +kernel) ?_
          refine Fr_iconst (i := 1) (v := 1) (by decide +kernel) (by decide) ?_
          refine Fr_isub (by decide +kernel) ?_
          refine Fr_sipush (i := 9999) (v := 9999) (by decide +kernel) (by decide) ?_
          refine Fr_icmp_le (off := 9) 39 (by decide +kernel) (by decide) (fun hc => ?_) (fun hc => ?_)
          · have h := iT hc h
            refine Fr_aload_n (q := 0) (i := 0) 0 (by decide +kernel) rfl rfl ?_
            refine gf_X11_34 rfl (by decide +kernel) ob_0 ?_
            refine gf_X11_182 rfl (by decide +kernel) ob_10 ?_
            refine gf_X11_384 rfl (by decide +kernel) ob_17 ?_
            refine Fr_if_ne (off := 10) 59 (by decide +kernel) (by decide) (fun hc => ?_) (fun hc => ?_)
            · have h := iF hc h
              refine Fr_iconst (i := 0) (v := 0) (by decide +kernel) (by decide) ?_
              refine Fr_istore_n (q := 3) (i := 3) (lv' := [(3, .int 0), (0, .ref 0), (1, .int x1), (2, .int x2)]) (by decide +kernel) rfl (by decide) rfl ?_
              refine Fr_iconst (i := 0) (v := 0) (by decide +kernel) (by decide) ?_
              refine Fr_istore (i := 4) (lv' := [(4, .int 0), (3, .int 0), (0, .ref 0), (1, .int x1), (2, .int x2)]) (by decide +kernel) (by decide) rfl ?_
              refine Fr_loc [2, 3, 4, 1, 0] rfl ?_
              exact lp_sound (P := fun a M => Fr 0 111 7 m_X11_mean 64 [(0, .ref 0), (1, .int a.1), (2, .int a.2.1), (3, .int a.2.2.1), (4, .int a.2.2.2)] [] M (QB q)) (fun k hk a m h => t_X11_mean_h64 hk h) N (x1, x2, 0, 0) M h
            · have h := iT hc h
              refine Fr_aload_n (q := 0) (i := 0) 0 (by decide +kernel) rfl rfl ?_
              refine Fr_bipush (i := 8) (v := 8) (by decide +kernel) (by decide) ?_
              obtain ⟨r_27, M_25, hc_26, h⟩ := bi_elim h
              refine Fr_cVb (ν := m_X11_refusedFlag) (As := [.int 8]) (st := []) (rc := 0) (ci := 11) (d' := 0) (by decide +kernel) ml_X11_121 cv_X11_refusedFlag rfl (by decide) rfl ob_0 rfl (by decide) (Nat.le_of_ble_eq_true rfl) (t_X11_refusedFlag hc_26) ?_
              obtain rfl := Option.some.inj h
              exact Fr_zret (by decide +kernel) rfl (nz_b r_27) ⟨rfl, rfl⟩
          · have h := iF hc h
            refine Fr_aload_n (q := 0) (i := 0) 0 (by decide +kernel) rfl rfl ?_
            refine Fr_iconst (i := 5) (v := 5) (by decide +kernel) (by decide) ?_
            obtain ⟨r_30, M_28, hc_29, h⟩ := bi_elim h
            refine Fr_cVb (ν := m_X11_refusedFlag) (As := [.int 5]) (st := []) (rc := 0) (ci := 11) (d' := 0) (by decide +kernel) ml_X11_121 cv_X11_refusedFlag rfl (by decide) rfl ob_0 rfl (by decide) (Nat.le_of_ble_eq_true rfl) (t_X11_refusedFlag hc_29) ?_
            obtain rfl := Option.some.inj h
            exact Fr_zret (by decide +kernel) rfl (nz_b r_30) ⟨rfl, rfl⟩
def f_X11_mark (M : Mem) : Option (Int32 × Mem) :=
  if (M.1 0 4) < 3 then (ck (M.1 0 4) 3 (
  bv (f_X5_copyFrom (37 + 13 * tn (M.1 0 4)) 10 M) fun M_2 =>
  bM (uI M_2 0 4 ((M_2.1 0 4) + 1)) fun M_4 =>
  bi (f_X11_answered (M_4.1 0 4) M_4) fun r_7 M_5 =>
  some (r_7, M_5))) else (bi (f_X11_refused 7 M) fun r_10 M_8 =>
  some (r_10, M_8))
set_option maxRecDepth 20000 in
theorem t_X11_mark {M : Mem} {q : Int32 × Mem} (h : f_X11_mark M = some q) : Ev 0 111 3 m_X11_mark [.ref 0] M (QI q) := by
  refine Ev_of_Fr (by decide +kernel) (Nat.le_of_ble_eq_true rfl) ?_
  show Fr 0 111 3 m_X11_mark 0 [(0, .ref 0)] [] M (QI q)
  unfold f_X11_mark at h
  refine Fr_aload_n (q := 0) (i := 0) 0 (by decide +kernel) rfl rfl ?_
  refine gf_X11_396 rfl (by decide +kernel) ob_0 ?_
  refine Fr_iconst (i := 3) (v := 3) (by decide +kernel) (by decide) ?_
  refine Fr_icmp_lt (off := 10) 15 (by decide +kernel) (by decide) (fun hc => ?_) (fun hc => ?_)
  · have h := iT hc h
    refine Fr_aload_n (q := 0) (i := 0) 0 (by decide +kernel) rfl rfl ?_
    refine gf_X11_41 rfl (by decide +kernel) ob_0 ?_
    refine Fr_aload_n (q := 0) (i := 0) 0 (by decide +kernel) rfl rfl ?_
    refine gf_X11_396 rfl (by decide +kernel) ob_0 ?_
    obtain ⟨hi_1, h⟩ := ck_elim h
    refine Fr_aald (by decide +kernel) ob_36 (by decide) (vp_of ln_36 hi_1) (ra36 hi_1) ?_
    refine Fr_aload_n (q := 0) (i := 0) 0 (by decide +kernel) rfl rfl ?_
    refine gf_X11_34 rfl (by decide +kernel) ob_0 ?_
    obtain ⟨M_2, hc_3, h⟩ := bv_elim h
    refine Fr_cVv (ν := m_X5_copyFrom) (As := [.ref 10]) (st := []) (rc := (37 + 13 * tn (M.1 0 4))) (ci := 5) (d' := 2) (by decide +kernel) ml_X11_169 cv_X5_copyFrom rfl (by decide) rfl (oa36 hi_1) rfl (by decide) (Nat.le_of_ble_eq_true rfl) (t_X5_copyFrom (oa36 hi_1) ob_10 hc_3) ?_
    refine Fr_aload_n (q := 0) (i := 0) 0 (by decide +kernel) rfl rfl ?_
    refine Fr_dup (by decide +kernel) rfl ?_
    refine gf_X11_396 rfl (by decide +kernel) ob_0 ?_
    refine Fr_iconst (i := 1) (v := 1) (by decide +kernel) (by decide) ?_
    refine Fr_iadd (by decide +kernel) ?_
    refine pf_X11_396 rfl (by decide +kernel) ob_0 ?_
    obtain ⟨M_4, eM_4, h⟩ := bM_elim h
    refine Fr_mem eM_4 ?_
    refine Fr_aload_n (q := 0) (i := 0) 0 (by decide +kernel) rfl rfl ?_
    refine Fr_aload_n (q := 0) (i := 0) 0 (by decide +kernel) rfl rfl ?_
    refine gf_X11_396 rfl (by decide +kernel) ob_0 ?_
    obtain ⟨r_7, M_5, hc_6, h⟩ := bi_elim h
    refine Fr_cVi (ν := m_X11_answered) (As := [.int (M_4.1 0 4)]) (st := []) (rc := 0) (ci := 11) (d' := 0) (by decide +kernel) ml_X11_176 cv_X11_answered rfl (by decide) rfl ob_0 rfl (by decide) (Nat.le_of_ble_eq_true rfl) (t_X11_answered hc_6) ?_
    obtain rfl := Option.some.inj h
    exact Fr_iret (by decide +kernel) rfl ⟨rfl, rfl⟩
  · have h := iF hc h
    refine Fr_aload_n (q := 0) (i := 0) 0 (by decide +kernel) rfl rfl ?_
    refine Fr_bipush (i := 7) (v := 7) (by decide +kernel) (by decide) ?_
    obtain ⟨r_10, M_8, hc_9, h⟩ := bi_elim h
    refine Fr_cVi (ν := m_X11_refused) (As := [.int 7]) (st := []) (rc := 0) (ci := 11) (d' := 0) (by decide +kernel) ml_X11_140 cv_X11_refused rfl (by decide) rfl ob_0 rfl (by decide) (Nat.le_of_ble_eq_true rfl) (t_X11_refused hc_9) ?_
    obtain rfl := Option.some.inj h
    exact Fr_iret (by decide +kernel) rfl ⟨rfl, rfl⟩
def f_X11_back (M : Mem) : Option (Int32 × Mem) :=
  if 0 < (M.1 0 4) then (bM (uI M 0 4 ((M.1 0 4) - 1)) fun M_1 =>
  ck (M_1.1 0 4) 3 (
  bv (f_X5_copyFrom 10 (37 + 13 * tn (M_1.1 0 4)) M_1) fun M_3 =>
  bi (f_X11_answered (M_3.1 0 4) M_3) fun r_7 M_5 =>
  some (r_7, M_5))) else (bi (f_X11_refused 8 M) fun r_10 M_8 =>
  some (r_10, M_8))
set_option maxRecDepth 20000 in
theorem t_X11_back {M : Mem} {q : Int32 × Mem} (h : f_X11_back M = some q) : Ev 0 111 3 m_X11_back [.ref 0] M (QI q) := by
  refine Ev_of_Fr (by decide +kernel) (Nat.le_of_ble_eq_true rfl) ?_
  show Fr 0 111 3 m_X11_back 0 [(0, .ref 0)] [] M (QI q)
  unfold f_X11_back at h
  refine Fr_aload_n (q := 0) (i := 0) 0 (by decide +kernel) rfl rfl ?_
  refine gf_X11_396 rfl (by decide +kernel) ob_0 ?_
  refine Fr_if_gt (off := 10) 14 (by decide +kernel) (by decide) (fun hc => ?_) (fun hc => ?_)
  · have h := iT hc h
    refine Fr_aload_n (q := 0) (i := 0) 0 (by decide +kernel) rfl rfl ?_
    refine Fr_dup (by decide +kernel) rfl ?_
    refine gf_X11_396 rfl (by decide +kernel) ob_0 ?_
    refine Fr_iconst (i := 1) (v := 1) (by decide +kernel) (by decide) ?_
    refine Fr_isub (by decide +kernel) ?_
    refine pf_X11_396 rfl (by decide +kernel) ob_0 ?_
    obtain ⟨M_1, eM_1, h⟩ := bM_elim h
    refine Fr_mem eM_1 ?_
    refine Fr_aload_n (q := 0) (i := 0) 0 (by decide +kernel) rfl rfl ?_
    refine gf_X11_34 rfl (by decide +kernel) ob_0 ?_
    refine Fr_aload_n (q := 0) (i := 0) 0 (by decide +kernel) rfl rfl ?_
    refine gf_X11_41 rfl (by decide +kernel) ob_0 ?_
    refine Fr_aload_n (q := 0) (i := 0) 0 (by decide +kernel) rfl rfl ?_
    refine gf_X11_396 rfl (by decide +kernel) ob_0 ?_
    obtain ⟨hi_2, h⟩ := ck_elim h
    refine Fr_aald (by decide +kernel) ob_36 (by decide) (vp_of ln_36 hi_2) (ra36 hi_2) ?_
    obtain ⟨M_3, hc_4, h⟩ := bv_elim h
    refine Fr_cVv (ν := m_X5_copyFrom) (As := [.ref (37 + 13 * tn (M_1.1 0 4))]) (st := []) (rc := 10) (ci := 5) (d' := 2) (by decide +kernel) ml_X11_169 cv_X5_copyFrom rfl (by decide) rfl ob_10 rfl (by decide) (Nat.le_of_ble_eq_true rfl) (t_X5_copyFrom ob_10 (oa36 hi_2) hc_4) ?_
    refine Fr_aload_n (q := 0) (i := 0) 0 (by decide +kernel) rfl rfl ?_
    refine Fr_aload_n (q := 0) (i := 0) 0 (by decide +kernel) rfl rfl ?_
    refine gf_X11_396 rfl (by decide +kernel) ob_0 ?_
    obtain ⟨r_7, M_5, hc_6, h⟩ := bi_elim h
    refine Fr_cVi (ν := m_X11_answered) (As := [.int (M_3.1 0 4)]) (st := []) (rc := 0) (ci := 11) (d' := 0) (by decide +kernel) ml_X11_176 cv_X11_answered rfl (by decide) rfl ob_0 rfl (by decide) (Nat.le_of_ble_eq_true rfl) (t_X11_answered hc_6) ?_
    obtain rfl := Option.some.inj h
    exact Fr_iret (by decide +kernel) rfl ⟨rfl, rfl⟩
  · have h := iF hc h
    refine Fr_aload_n (q := 0) (i := 0) 0 (by decide +kernel) rfl rfl ?_
    refine Fr_bipush (i := 8) (v := 8) (by decide +kernel) (by decide) ?_
    obtain ⟨r_10, M_8, hc_9, h⟩ := bi_elim h
    refine Fr_cVi (ν := m_X11_refused) (As := [.int 8]) (st := []) (rc := 0) (ci := 11) (d' := 0) (by decide +kernel) ml_X11_140 cv_X11_refused rfl (by decide) rfl ob_0 rfl (by decide) (Nat.le_of_ble_eq_true rfl) (t_X11_refused hc_9) ?_
    obtain rfl := Option.some.inj h
    exact Fr_iret (by decide +kernel) rfl ⟨rfl, rfl⟩
def f_X12_status (M : Mem) : Option (Int32 × Mem) :=
  bM (uI M 200 1 0) fun M_1 =>
  some ((M_1.1 200 0), M_1)
set_option maxRecDepth 20000 in
theorem t_X12_status {M : Mem} {q : Int32 × Mem} (h : f_X12_status M = some q) : Ev 200 21 0 m_X12_status [.ref 200] M (QI q) := by
  refine Ev_of_Fr (by decide +kernel) (Nat.le_of_ble_eq_true rfl) ?_
  show Fr 200 21 0 m_X12_status 0 [(0, .ref 200)] [] M (QI q)
  unfold f_X12_status at h
  refine Fr_aload_n (q := 0) (i := 0) 0 (by decide +kernel) rfl rfl ?_
  refine Fr_iconst (i := 0) (v := 0) (by decide +kernel) (by decide) ?_
  refine pf_X12_84 rfl (by decide +kernel) ob_200 ?_
  obtain ⟨M_1, eM_1, h⟩ := bM_elim h
  refine Fr_mem eM_1 ?_
  refine Fr_aload_n (q := 0) (i := 0) 0 (by decide +kernel) rfl rfl ?_
  refine gf_X12_87 rfl (by decide +kernel) ob_200 ?_
  obtain rfl := Option.some.inj h
  exact Fr_iret (by decide +kernel) rfl ⟨rfl, rfl⟩
def f_X12_top (M : Mem) : Option (Int64 × Mem) :=
  bM (uI M 200 1 0) fun M_1 =>
  some ((M_1.2 200 2), M_1)
set_option maxRecDepth 20000 in
theorem t_X12_top {M : Mem} {q : Int64 × Mem} (h : f_X12_top M = some q) : Ev 200 21 0 m_X12_top [.ref 200] M (QJ q) := by
  refine Ev_of_Fr (by decide +kernel) (Nat.le_of_ble_eq_true rfl) ?_
  show Fr 200 21 0 m_X12_top 0 [(0, .ref 200)] [] M (QJ q)
  unfold f_X12_top at h
  refine Fr_aload_n (q := 0) (i := 0) 0 (by decide +kernel) rfl rfl ?_
  refine Fr_iconst (i := 0) (v := 0) (by decide +kernel) (by decide) ?_
  refine pf_X12_84 rfl (by decide +kernel) ob_200 ?_
  obtain ⟨M_1, eM_1, h⟩ := bM_elim h
  refine Fr_mem eM_1 ?_
  refine Fr_aload_n (q := 0) (i := 0) 0 (by decide +kernel) rfl rfl ?_
  refine gf_X12_90 rfl (by decide +kernel) ob_200 ?_
  obtain rfl := Option.some.inj h
  exact Fr_lret (by decide +kernel) rfl ⟨rfl, rfl⟩
def f_X12_bottom (M : Mem) : Option (Int64 × Mem) :=
  bM (uI M 200 1 0) fun M_1 =>
  some ((M_1.2 200 3), M_1)
set_option maxRecDepth 20000 in
theorem t_X12_bottom {M : Mem} {q : Int64 × Mem} (h : f_X12_bottom M = some q) : Ev 200 21 0 m_X12_bottom [.ref 200] M (QJ q) := by
  refine Ev_of_Fr (by decide +kernel) (Nat.le_of_ble_eq_true rfl) ?_
  show Fr 200 21 0 m_X12_bottom 0 [(0, .ref 200)] [] M (QJ q)
  unfold f_X12_bottom at h
  refine Fr_aload_n (q := 0) (i := 0) 0 (by decide +kernel) rfl rfl ?_
  refine Fr_iconst (i := 0) (v := 0) (by decide +kernel) (by decide) ?_
  refine pf_X12_84 rfl (by decide +kernel) ob_200 ?_
  obtain ⟨M_1, eM_1, h⟩ := bM_elim h
  refine Fr_mem eM_1 ?_
  refine Fr_aload_n (q := 0) (i := 0) 0 (by decide +kernel) rfl rfl ?_
  refine gf_X12_7 rfl (by decide +kernel) ob_200 ?_
  obtain rfl := Option.some.inj h
  exact Fr_lret (by decide +kernel) rfl ⟨rfl, rfl⟩
def f_X12_refuse (x1 : Int32) (M : Mem) : Option (Int32 × Mem) :=
  bM (uI M 200 0 x1) fun M_1 =>
  some ((-1), M_1)
set_option maxRecDepth 20000 in
theorem t_X12_refuse {x1 : Int32} {M : Mem} {q : Int32 × Mem} (h : f_X12_refuse x1 M = some q) : Ev 200 21 0 m_X12_refuse [.ref 200, .int x1] M (QI q) := by
  refine Ev_of_Fr (by decide +kernel) (Nat.le_of_ble_eq_true rfl) ?_
  show Fr 200 21 0 m_X12_refuse 0 [(0, .ref 200), (1, .int x1)] [] M (QI q)
  unfold f_X12_refuse at h
  refine Fr_aload_n (q := 0) (i := 0) 0 (by decide +kernel) rfl rfl ?_
  refine Fr_iload_n (q := 1) (i := 1) 1 (by decide +kernel) rfl rfl ?_
  refine pf_X12_87 rfl (by decide +kernel) ob_200 ?_
  obtain ⟨M_1, eM_1, h⟩ := bM_elim h
  refine Fr_mem eM_1 ?_
  refine Fr_iconst (i := (-1)) (v := (-1)) (by decide +kernel) (by decide) ?_
  obtain rfl := Option.some.inj h
  exact Fr_iret (by decide +kernel) rfl ⟨rfl, rfl⟩
def f_X12_no (x1 : Int32) (M : Mem) : Option (Bool × Mem) :=
  bM (uI M 200 0 x1) fun M_1 =>
  some (false, M_1)
set_option maxRecDepth 20000 in
theorem t_X12_no {x1 : Int32} {M : Mem} {q : Bool × Mem} (h : f_X12_no x1 M = some q) : Ev 200 21 0 m_X12_no [.ref 200, .int x1] M (QB q) := by
  refine Ev_of_Fr (by decide +kernel) (Nat.le_of_ble_eq_true rfl) ?_
  show Fr 200 21 0 m_X12_no 0 [(0, .ref 200), (1, .int x1)] [] M (QB q)
  unfold f_X12_no at h
  refine Fr_aload_n (q := 0) (i := 0) 0 (by decide +kernel) rfl rfl ?_
  refine Fr_iload_n (q := 1) (i := 1) 1 (by decide +kernel) rfl rfl ?_
  refine pf_X12_87 rfl (by decide +kernel) ob_200 ?_
  obtain ⟨M_1, eM_1, h⟩ := bM_elim h
  refine Fr_mem eM_1 ?_
  refine Fr_iconst (i := 0) (v := 0) (by decide +kernel) (by decide) ?_
  obtain rfl := Option.some.inj h
  exact Fr_zret (by decide +kernel) rfl (by decide) ⟨rfl, rfl⟩
def f_X12_isIn (x0 : Int64) (x2 : Int64) (x4 : Int64) (M : Mem) : Option (Bool × Mem) :=
  if (lg_cmp x0 x2) < 0 then (some (false, M)) else (if 0 < (lg_cmp x0 x4) then (some (false, M)) else (some (true, M)))
set_option maxRecDepth 20000 in
theorem t_X12_isIn {x0 : Int64} {x2 : Int64} {x4 : Int64} {M : Mem} {q : Bool × Mem} (h : f_X12_isIn x0 x2 x4 M = some q) : Ev 200 21 0 m_X12_isIn [.long x0, .long x2, .long x4] M (QB q) := by
  refine Ev_of_Fr (by decide +kernel) (Nat.le_of_ble_eq_true rfl) ?_
  show Fr 200 21 0 m_X12_isIn 0 [(0, .long x0), (2, .long x2), (4, .long x4)] [] M (QB q)
  unfold f_X12_isIn at h
  refine Fr_lload_n (q := 0) (i := 0) 0 (by decide +kernel) rfl rfl ?_
  refine Fr_lload_n (q := 2) (i := 2) 1 (by decide +kernel) rfl rfl ?_
  refine Fr_lcmp (by decide +kernel) ?_
  refine Fr_if_lt (off := 14) 17 (by decide +kernel) (by decide) (fun hc => ?_) (fun hc => ?_)
  · have h := iT hc h
    refine Fr_iconst (i := 0) (v := 0) (by decide +kernel) (by decide) ?_
    obtain rfl := Option.some.inj h
    exact Fr_zret (by decide +kernel) rfl (by decide) ⟨rfl, rfl⟩
  · have h := iF hc h
    refine Fr_lload_n (q := 0) (i := 0) 0 (by decide +kernel) rfl rfl ?_
    refine Fr_lload (i := 4) 2 (by decide +kernel) rfl ?_
    refine Fr_lcmp (by decide +kernel) ?_
    refine Fr_if_gt (off := 7) 17 (by decide +kernel) (by decide) (fun hc => ?_) (fun hc => ?_)
    · have h := iT hc h
      refine Fr_iconst (i := 0) (v := 0) (by decide +kernel) (by decide) ?_
      obtain rfl := Option.some.inj h
      exact Fr_zret (by decide +kernel) rfl (by decide) ⟨rfl, rfl⟩
    · have h := iF hc h
      refine Fr_iconst (i := 1) (v := 1) (by decide +kernel) (by decide) ?_
      refine Fr_goto (off := 4) 18 (by decide +kernel) (by decide) ?_
      obtain rfl := Option.some.inj h
      exact Fr_zret (by decide +kernel) rfl (by decide) ⟨rfl, rfl⟩
def f_X12_fraction_h9 (N : Nat) (k9 : Int64 × Int64 × Int64 × Int64 → Mem → Option (Bool × Mem)) (v1 : Int64) (v3 : Int64) (v5 : Int64) (v7 : Int64) (M : Mem) : Option (Bool × Mem) :=
  if (lg_cmp v7 0) = 0 then (czL v5 (
  bM (uL M 200 2 (v1 / v5)) fun M_2 =>
  czL v5 (
  bM (uL M_2 200 3 (v3 / v5)) fun M_4 =>
  some (true, M_4)))) else (czL v7 (
  k9 (v1, v3, v7, (v5 - v5 / v7 * v7)) M))
set_option maxRecDepth 20000 in
theorem t_X12_fraction_h9 {N : Nat} {q : Bool × Mem} {k9 : Int64 × Int64 × Int64 × Int64 → Mem → Option (Bool × Mem)} (hk9 : ∀ (a : Int64 × Int64 × Int64 × Int64) (M : Mem), k9 a M = some q → Fr 200 21 1 m_X12_fraction 9 [(0, .ref 200), (1, .long a.1), (3, .long a.2.1), (5, .long a.2.2.1), (7, .long a.2.2.2)] [] M (QB q)) {v1 : Int64} {v3 : Int64} {v5 : Int64} {v7 : Int64} {M : Mem} (h : f_X12_fraction_h9 N k9 v1 v3 v5 v7 M = some q) : Fr 200 21 1 m_X12_fraction 9 [(0, .ref 200), (1, .long v1), (3, .long v3), (5, .long v5), (7, .long v7)] [] M (QB q) := by
  unfold f_X12_fraction_h9 at h
  refine Fr_lload (i := 7) 4 (by decide +kernel) rfl ?_
  refine Fr_lconst (i := 0) (v := 0) (by decide +kernel) (by decide) ?_
  refine Fr_lcmp (by decide +kernel) ?_
  refine Fr_if_eq (off := 21) 34 (by decide +kernel) (by decide) (fun hc => ?_) (fun hc => ?_)
  · have h := iT hc h
    refine Fr_aload_n (q := 0) (i := 0) 0 (by decide +kernel) rfl rfl ?_
    refine Fr_lload_n (q := 1) (i := 1) 1 (by decide +kernel) rfl rfl ?_
    refine Fr_lload (i := 5) 3 (by decide +kernel) rfl ?_
    obtain ⟨hz_1, h⟩ := czL_elim h
    refine Fr_ldiv (by decide +kernel) hz_1 ?_
    refine pf_X12_90 rfl (by decide +kernel) ob_200 ?_
    obtain ⟨M_2, eM_2, h⟩ := bM_elim h
    refine Fr_mem eM_2 ?_
    refine Fr_aload_n (q := 0) (i := 0) 0 (by decide +kernel) rfl rfl ?_
    refine Fr_lload_n (q := 3) (i := 3) 2 (by decide +kernel) rfl rfl ?_
    refine Fr_lload (i := 5) 3 (by decide +kernel) rfl ?_
    obtain ⟨hz_3, h⟩ := czL_elim h
    refine Fr_ldiv (by decide +kernel) hz_3 ?_
    refine pf_X12_7 rfl (by decide +kernel) ob_200 ?_
    obtain ⟨M_4, eM_4, h⟩ := bM_elim h
    refine Fr_mem eM_4 ?_
    refine Fr_iconst (i := 1) (v := 1) (by decide +kernel) (by decide) ?_
    obtain rfl := Option.some.inj h
    exact Fr_zret (by decide +kernel) rfl (by decide) ⟨rfl, rfl⟩
  · have h := iF hc h
    refine Fr_lload (i := 5) 3 (by decide +kernel) rfl ?_
    refine Fr_lload (i := 7) 4 (by decide +kernel) rfl ?_
    obtain ⟨hz_5, h⟩ := czL_elim h
    refine Fr_lrem (by decide +kernel) hz_5 ?_
    refine Fr_lstore (i := 9) (lv' := [(9, .long (v5 - v5 / v7 * v7)), (0, .ref 200), (1, .long v1), (3, .long v3), (5, .long v5), (7, .long v7)]) (by decide +kernel) (by decide) rfl ?_
    refine Fr_lload (i := 7) 5 (by decide +kernel) rfl ?_
    refine Fr_lstore (i := 5) (lv' := [(5, .long v7), (9, .long (v5 - v5 / v7 * v7)), (0, .ref 200), (1, .long v1), (3, .long v3), (7, .long v7)]) (by decide +kernel) (by decide) rfl ?_
    refine Fr_lload (i := 9) 1 (by decide +kernel) rfl ?_
    refine Fr_lstore (i := 7) (lv' := [(7, .long (v5 - v5 / v7 * v7)), (5, .long v7), (9, .long (v5 - v5 / v7 * v7)), (0, .ref 200), (1, .long v1), (3, .long v3)]) (by decide +kernel) (by decide) rfl ?_
    refine Fr_goto (off := (-22)) 9 (by decide +kernel) (by decide) ?_
    refine Fr_loc [3, 4, 5, 1, 0] rfl ?_
    exact hk9 (v1, v3, v7, (v5 - v5 / v7 * v7)) M h
def f_X12_fraction (N : Nat) (x1 : Int64) (x3 : Int64) (M : Mem) : Option (Bool × Mem) :=
  lp (fun k a m => f_X12_fraction_h9 N k a.1 a.2.1 a.2.2.1 a.2.2.2 m) N (x1, x3, (labs x1), x3) M
set_option maxRecDepth 20000 in
theorem t_X12_fraction {N : Nat} {x1 : Int64} {x3 : Int64} {M : Mem} {q : Bool × Mem} (h : f_X12_fraction N x1 x3 M = some q) : Ev 200 21 1 m_X12_fraction [.ref 200, .long x1, .long x3] M (QB q) := by
  refine Ev_of_Fr (by decide +kernel) (Nat.le_of_ble_eq_true rfl) ?_
  show Fr 200 21 1 m_X12_fraction 0 [(0, .ref 200), (1, .long x1), (3, .long x3)] [] M (QB q)
  unfold f_X12_fraction at h
  refine Fr_lload_n (q := 1) (i := 1) 1 (by decide +kernel) rfl rfl ?_
  refine Fr_absL (by decide +kernel) ml_X12_93 (by decide) (Nat.le_of_ble_eq_true rfl) ?_
  refine Fr_lstore (i := 5) (lv' := [(5, .long (labs x1)), (0, .ref 200), (1, .long x1), (3, .long x3)]) (by decide +kernel) (by decide) rfl ?_
  refine Fr_lload_n (q := 3) (i := 3) 3 (by decide +kernel) rfl rfl ?_
  refine Fr_lstore (i := 7) (lv' := [(7, .long x3), (5, .long (labs x1)), (0, .ref 200), (1, .long x1), (3, .long x3)]) (by decide +kernel) (by decide) rfl ?_
  refine Fr_loc [2, 3, 4, 1, 0] rfl ?_
  exact lp_sound (P := fun a M => Fr 200 21 1 m_X12_fraction 9 [(0, .ref 200), (1, .long a.1), (3, .long a.2.1), (5, .long a.2.2.1), (7, .long a.2.2.2)] [] M (QB q)) (fun k hk a m h => t_X12_fraction_h9 hk h) N (x1, x3, (labs x1), x3) M h
def f_X12_cut (x0 : Int32) (x1 : Int64) (M : Mem) : Option (Int64 × Mem) :=
  if x0 = 0 then (some ((Int32.toInt64 (i2b (Int64.toInt32 x1))), M)) else (if x0 = 1 then (some ((Int32.toInt64 (i2s (Int64.toInt32 x1))), M)) else (if x0 = 2 then (some ((Int32.toInt64 (Int64.toInt32 x1)), M)) else (some (x1, M))))
set_option maxRecDepth 20000 in
theorem t_X12_cut {x0 : Int32} {x1 : Int64} {M : Mem} {q : Int64 × Mem} (h : f_X12_cut x0 x1 M = some q) : Ev 200 21 0 m_X12_cut [.int x0, .long x1] M (QJ q) := by
  refine Ev_of_Fr (by decide +kernel) (Nat.le_of_ble_eq_true rfl) ?_
  show Fr 200 21 0 m_X12_cut 0 [(0, .int x0), (1, .long x1)] [] M (QJ q)
  unfold f_X12_cut at h
  refine Fr_iload_n (q := 0) (i := 0) 0 (by decide +kernel) rfl rfl ?_
  refine Fr_if_ne (off := 10) 11 (by decide +kernel) (by decide) (fun hc => ?_) (fun hc => ?_)
  · have h := iF hc h
    refine Fr_iload_n (q := 0) (i := 0) 0 (by decide +kernel) rfl rfl ?_
    refine Fr_iconst (i := 1) (v := 1) (by decide +kernel) (by decide) ?_
    refine Fr_icmp_ne (off := 10) 23 (by decide +kernel) (by decide) (fun hc => ?_) (fun hc => ?_)
    · have h := iF hc h
      refine Fr_iload_n (q := 0) (i := 0) 0 (by decide +kernel) rfl rfl ?_
      refine Fr_iconst (i := 2) (v := 2) (by decide +kernel) (by decide) ?_
      refine Fr_icmp_ne (off := 9) 34 (by decide +kernel) (by decide) (fun hc => ?_) (fun hc => ?_)
      · have h := iF hc h
        refine Fr_lload_n (q := 1) (i := 1) 1 (by decide +kernel) rfl rfl ?_
        obtain rfl := Option.some.inj h
        exact Fr_lret (by decide +kernel) rfl ⟨rfl, rfl⟩
      · have h := iT hc h
        refine Fr_lload_n (q := 1) (i := 1) 1 (by decide +kernel) rfl rfl ?_
        refine Fr_l2i (by decide +kernel) ?_
        refine Fr_i2l (by decide +kernel) ?_
        refine Fr_goto (off := 4) 35 (by decide +kernel) (by decide) ?_
        obtain rfl := Option.some.inj h
        exact Fr_lret (by decide +kernel) rfl ⟨rfl, rfl⟩
    · have h := iT hc h
      refine Fr_lload_n (q := 1) (i := 1) 1 (by decide +kernel) rfl rfl ?_
      refine Fr_l2i (by decide +kernel) ?_
      refine Fr_i2s (by decide +kernel) ?_
      refine Fr_i2l (by decide +kernel) ?_
      refine Fr_goto (off := 15) 35 (by decide +kernel) (by decide) ?_
      obtain rfl := Option.some.inj h
      exact Fr_lret (by decide +kernel) rfl ⟨rfl, rfl⟩
  · have h := iT hc h
    refine Fr_lload_n (q := 1) (i := 1) 1 (by decide +kernel) rfl rfl ?_
    refine Fr_l2i (by decide +kernel) ?_
    refine Fr_i2b (by decide +kernel) ?_
    refine Fr_i2l (by decide +kernel) ?_
    refine Fr_goto (off := 27) 35 (by decide +kernel) (by decide) ?_
    obtain rfl := Option.some.inj h
    exact Fr_lret (by decide +kernel) rfl ⟨rfl, rfl⟩
def f_X12_tray_h74 (N : Nat) (k74 : Int32 × Int32 × Int32 → Mem → Option (Bool × Mem)) (v1 : Int32) (v3 : Int32) (v4 : Int32) (M : Mem) : Option (Bool × Mem) :=
  if v3 ≤ v4 then (some (true, M)) else (ck ((60 * v1) + v4) 240 (
  bM (uL M 203 (tn ((60 * v1) + v4)) 0) fun M_17 =>
  k74 (v1, v3, (v4 + 1)) M_17))
set_option maxRecDepth 20000 in
theorem t_X12_tray_h74 {N : Nat} {q : Bool × Mem} {k74 : Int32 × Int32 × Int32 → Mem → Option (Bool × Mem)} (hk74 : ∀ (a : Int32 × Int32 × Int32) (M : Mem), k74 a M = some q → Fr 200 21 1 m_X12_tray 74 [(0, .ref 200), (1, .int a.1), (3, .int a.2.1), (4, .int a.2.2)] [] M (QB q)) {v1 : Int32} {v3 : Int32} {v4 : Int32} {M : Mem} (h : f_X12_tray_h74 N k74 v1 v3 v4 M = some q) : Fr 200 21 1 m_X12_tray 74 [(0, .ref 200), (1, .int v1), (3, .int v3), (4, .int v4)] [] M (QB q) := by
  unfold f_X12_tray_h74 at h
  refine Fr_iload (i := 4) 3 (by decide +kernel) rfl ?_
  refine Fr_iload_n (q := 3) (i := 3) 2 (by decide +kernel) rfl rfl ?_
  refine Fr_icmp_ge (off := 22) 99 (by decide +kernel) (by decide) (fun hc => ?_) (fun hc => ?_)
  · have h := iT hc h
    refine Fr_iconst (i := 1) (v := 1) (by decide +kernel) (by decide) ?_
    obtain rfl := Option.some.inj h
    exact Fr_zret (by decide +kernel) rfl (by decide) ⟨rfl, rfl⟩
  · have h := iF hc h
    refine Fr_aload_n (q := 0) (i := 0) 0 (by decide +kernel) rfl rfl ?_
    refine gf_X12_20 rfl (by decide +kernel) ob_200 ?_
    refine Fr_bipush (i := 60) (v := 60) (by decide +kernel) (by decide) ?_
    refine Fr_iload_n (q := 1) (i := 1) 1 (by decide +kernel) rfl rfl ?_
    refine Fr_imul (by decide +kernel) ?_
    refine Fr_iload (i := 4) 3 (by decide +kernel) rfl ?_
    refine Fr_iadd (by decide +kernel) ?_
    refine Fr_lconst (i := 0) (v := 0) (by decide +kernel) (by decide) ?_
    obtain ⟨hi_16, h⟩ := ck_elim h
    refine Fr_last (by decide +kernel) ob_203 (vp_of ln_203 hi_16) ?_
    obtain ⟨M_17, eM_17, h⟩ := bM_elim h
    refine Fr_mem eM_17 ?_
    refine Fr_iinc (i := 4) (j := 1) (v := (v4 + 1)) (lv' := [(4, .int (v4 + 1)), (0, .ref 200), (1, .int v1), (3, .int v3)]) 3 (by decide +kernel) rfl rfl (by decide) rfl ?_
    refine Fr_goto (off := (-22)) 74 (by decide +kernel) (by decide) ?_
    refine Fr_loc [1, 2, 3, 0] rfl ?_
    exact hk74 (v1, v3, (v4 + 1)) M_17 h
def f_X12_tray (N : Nat) (x1 : Int32) (x2 : Int32) (x3 : Int32) (M : Mem) : Option (Bool × Mem) :=
  bM (uI M 200 1 0) fun M_1 =>
  bM (uI M_1 200 0 0) fun M_2 =>
  if x1 < 0 then (bi (f_X12_no 1 M_2) fun r_5 M_3 =>
  some (r_5, M_3)) else (if 4 ≤ x1 then (bi (f_X12_no 1 M_2) fun r_8 M_6 =>
  some (r_8, M_6)) else (if x2 < 0 then (bi (f_X12_no 1 M_2) fun r_11 M_9 =>
  some (r_11, M_9)) else (if x2 ≤ 3 then (if x3 ≤ 60 then (if 0 ≤ x3 then (ck x1 4 (
  bM (uI M_2 201 (tn x1) x2) fun M_13 =>
  ck x1 4 (
  bM (uI M_13 202 (tn x1) x3) fun M_15 =>
  lp (fun k a m => f_X12_tray_h74 N k a.1 a.2.1 a.2.2 m) N (x1, x3, 0) M_15))) else (bi (f_X12_no 6 M_2) fun r_20 M_18 =>
  some (r_20, M_18))) else (bi (f_X12_no 5 M_2) fun r_23 M_21 =>
  some (r_23, M_21))) else (bi (f_X12_no 1 M_2) fun r_26 M_24 =>
  some (r_26, M_24)))))
set_option maxRecDepth 20000 in
theorem t_X12_tray {N : Nat} {x1 : Int32} {x2 : Int32} {x3 : Int32} {M : Mem} {q : Bool × Mem} (h : f_X12_tray N x1 x2 x3 M = some q) : Ev 200 21 1 m_X12_tray [.ref 200, .int x1, .int x2, .int x3] M (QB q) := by
  refine Ev_of_Fr (by decide +kernel) (Nat.le_of_ble_eq_true rfl) ?_
  show Fr 200 21 1 m_X12_tray 0 [(0, .ref 200), (1, .int x1), (2, .int x2), (3, .int x3)] [] M (QB q)
  unfold f_X12_tray at h
  refine Fr_aload_n (q := 0) (i := 0) 0 (by decide +kernel) rfl rfl ?_
  refine Fr_iconst (i := 0) (v := 0) (by decide +kernel) (by decide) ?_
  refine pf_X12_84 rfl (by decide +kernel) ob_200 ?_
  obtain ⟨M_1, eM_1, h⟩ := bM_elim h
  refine Fr_mem eM_1 ?_
  refine Fr_aload_n (q := 0) (i := 0) 0 (by decide +kernel) rfl rfl ?_
  refine Fr_iconst (i := 0) (v := 0) (by decide +kernel) (by decide) ?_
  refine pf_X12_87 rfl (by decide +kernel) ob_200 ?_
  obtain ⟨M_2, eM_2, h⟩ := bM_elim h
  refine Fr_mem eM_2 ?_
  refine Fr_iload_n (q := 1) (i := 1) 1 (by decide +kernel) rfl rfl ?_
  refine Fr_if_lt (off := 17) 28 (by decide +kernel) (by decide) (fun hc => ?_) (fun hc => ?_)
  · have h := iT hc h
    refine Fr_aload_n (q := 0) (i := 0) 0 (by decide +kernel) rfl rfl ?_
    refine Fr_iconst (i := 1) (v := 1) (by decide +kernel) (by decide) ?_
    obtain ⟨r_5, M_3, hc_4, h⟩ := bi_elim h
    refine Fr_cVb (ν := m_X12_no) (As := [.int 1]) (st := []) (rc := 200) (ci := 12) (d' := 0) (by decide +kernel) ml_X12_99 cv_X12_no rfl (by decide) rfl ob_200 rfl (by decide) (Nat.le_of_ble_eq_true rfl) (t_X12_no hc_4) ?_
    obtain rfl := Option.some.inj h
    exact Fr_zret (by decide +kernel) rfl (nz_b r_5) ⟨rfl, rfl⟩
  · have h := iF hc h
    refine Fr_iload_n (q := 1) (i := 1) 1 (by decide +kernel) rfl rfl ?_
    refine Fr_iconst (i := 4) (v := 4) (by decide +kernel) (by decide) ?_
    refine Fr_icmp_ge (off := 12) 28 (by decide +kernel) (by decide) (fun hc => ?_) (fun hc => ?_)
    · have h := iT hc h
      refine Fr_aload_n (q := 0) (i := 0) 0 (by decide +kernel) rfl rfl ?_
      refine Fr_iconst (i := 1) (v := 1) (by decide +kernel) (by decide) ?_
      obtain ⟨r_8, M_6, hc_7, h⟩ := bi_elim h
      refine Fr_cVb (ν := m_X12_no) (As := [.int 1]) (st := []) (rc := 200) (ci := 12) (d' := 0) (by decide +kernel) ml_X12_99 cv_X12_no rfl (by decide) rfl ob_200 rfl (by decide) (Nat.le_of_ble_eq_true rfl) (t_X12_no hc_7) ?_
      obtain rfl := Option.some.inj h
      exact Fr_zret (by decide +kernel) rfl (nz_b r_8) ⟨rfl, rfl⟩
    · have h := iF hc h
      refine Fr_iload_n (q := 2) (i := 2) 2 (by decide +kernel) rfl rfl ?_
      refine Fr_if_lt (off := 8) 28 (by decide +kernel) (by decide) (fun hc => ?_) (fun hc => ?_)
      · have h := iT hc h
        refine Fr_aload_n (q := 0) (i := 0) 0 (by decide +kernel) rfl rfl ?_
        refine Fr_iconst (i := 1) (v := 1) (by decide +kernel) (by decide) ?_
        obtain ⟨r_11, M_9, hc_10, h⟩ := bi_elim h
        refine Fr_cVb (ν := m_X12_no) (As := [.int 1]) (st := []) (rc := 200) (ci := 12) (d' := 0) (by decide +kernel) ml_X12_99 cv_X12_no rfl (by decide) rfl ob_200 rfl (by decide) (Nat.le_of_ble_eq_true rfl) (t_X12_no hc_10) ?_
        obtain rfl := Option.some.inj h
        exact Fr_zret (by decide +kernel) rfl (nz_b r_11) ⟨rfl, rfl⟩
      · have h := iF hc h
        refine Fr_iload_n (q := 2) (i := 2) 2 (by decide +kernel) rfl rfl ?_
        refine Fr_iconst (i := 3) (v := 3) (by decide +kernel) (by decide) ?_
        refine Fr_icmp_le (off := 9) 34 (by decide +kernel) (by decide) (fun hc => ?_) (fun hc => ?_)
        · have h := iT hc h
          refine Fr_iload_n (q := 3) (i := 3) 3 (by decide +kernel) rfl rfl ?_
          refine Fr_bipush (i := 60) (v := 60) (by decide +kernel) (by decide) ?_
          refine Fr_icmp_le (off := 9) 46 (by decide +kernel) (by decide) (fun hc => ?_) (fun hc => ?_)
          · have h := iT hc h
            refine Fr_iload_n (q := 3) (i := 3) 3 (by decide +kernel) rfl rfl ?_
            refine Fr_if_ge (off := 10) 57 (by decide +kernel) (by decide) (fun hc => ?_) (fun hc => ?_)
            · have h := iT hc h
              refine Fr_aload_n (q := 0) (i := 0) 0 (by decide +kernel) rfl rfl ?_
              refine gf_X12_13 rfl (by decide +kernel) ob_200 ?_
              refine Fr_iload_n (q := 1) (i := 1) 1 (by decide +kernel) rfl rfl ?_
              refine Fr_iload_n (q := 2) (i := 2) 2 (by decide +kernel) rfl rfl ?_
              obtain ⟨hi_12, h⟩ := ck_elim h
              refine Fr_iast (by decide +kernel) ob_201 (vp_of ln_201 hi_12) ?_
              obtain ⟨M_13, eM_13, h⟩ := bM_elim h
              refine Fr_mem eM_13 ?_
              refine Fr_aload_n (q := 0) (i := 0) 0 (by decide +kernel) rfl rfl ?_
              refine gf_X12_17 rfl (by decide +kernel) ob_200 ?_
              refine Fr_iload_n (q := 1) (i := 1) 1 (by decide +kernel) rfl rfl ?_
              refine Fr_iload_n (q := 3) (i := 3) 3 (by decide +kernel) rfl rfl ?_
              obtain ⟨hi_14, h⟩ := ck_elim h
              refine Fr_iast (by decide +kernel) ob_202 (vp_of ln_202 hi_14) ?_
              obtain ⟨M_15, eM_15, h⟩ := bM_elim h
              refine Fr_mem eM_15 ?_
              refine Fr_iconst (i := 0) (v := 0) (by decide +kernel) (by decide) ?_
              refine Fr_istore (i := 4) (lv' := [(4, .int 0), (0, .ref 200), (1, .int x1), (2, .int x2), (3, .int x3)]) (by decide +kernel) (by decide) rfl ?_
              refine Fr_loc [1, 2, 4, 0] rfl ?_
              exact lp_sound (P := fun a M => Fr 200 21 1 m_X12_tray 74 [(0, .ref 200), (1, .int a.1), (3, .int a.2.1), (4, .int a.2.2)] [] M (QB q)) (fun k hk a m h => t_X12_tray_h74 hk h) N (x1, x3, 0) M_15 h
            · have h := iF hc h
              refine Fr_aload_n (q := 0) (i := 0) 0 (by decide +kernel) rfl rfl ?_
              refine Fr_bipush (i := 6) (v := 6) (by decide +kernel) (by decide) ?_
              obtain ⟨r_20, M_18, hc_19, h⟩ := bi_elim h
              refine Fr_cVb (ν := m_X12_no) (As := [.int 6]) (st := []) (rc := 200) (ci := 12) (d' := 0) (by decide +kernel) ml_X12_99 cv_X12_no rfl (by decide) rfl ob_200 rfl (by decide) (Nat.le_of_ble_eq_true rfl) (t_X12_no hc_19) ?_
              obtain rfl := Option.some.inj h
              exact Fr_zret (by decide +kernel) rfl (nz_b r_20) ⟨rfl, rfl⟩
          · have h := iF hc h
            refine Fr_aload_n (q := 0) (i := 0) 0 (by decide +kernel) rfl rfl ?_
            refine Fr_iconst (i := 5) (v := 5) (by decide +kernel) (by decide) ?_
            obtain ⟨r_23, M_21, hc_22, h⟩ := bi_elim h
            refine Fr_cVb (ν := m_X12_no) (As := [.int 5]) (st := []) (rc := 200) (ci := 12) (d' := 0) (by decide +kernel) ml_X12_99 cv_X12_no rfl (by decide) rfl ob_200 rfl (by decide) (Nat.le_of_ble_eq_true rfl) (t_X12_no hc_22) ?_
            obtain rfl := Option.some.inj h
            exact Fr_zret (by decide +kernel) rfl (nz_b r_23) ⟨rfl, rfl⟩
        · have h := iF hc h
          refine Fr_aload_n (q := 0) (i := 0) 0 (by decide +kernel) rfl rfl ?_
          refine Fr_iconst (i := 1) (v := 1) (by decide +kernel) (by decide) ?_
          obtain ⟨r_26, M_24, hc_25, h⟩ := bi_elim h
          refine Fr_cVb (ν := m_X12_no) (As := [.int 1]) (st := []) (rc := 200) (ci := 12) (d' := 0) (by decide +kernel) ml_X12_99 cv_X12_no rfl (by decide) rfl ob_200 rfl (by decide) (Nat.le_of_ble_eq_true rfl) (t_X12_no hc_25) ?_
          obtain rfl := Option.some.inj h
          exact Fr_zret (by decide +kernel) rfl (nz_b r_26) ⟨rfl, rfl⟩
def f_X12_trayed (x1 : Int32) (M : Mem) : Option (Int32 × Mem) :=
  if x1 < 0 then (some (1, M)) else (if x1 < 4 then (ck x1 4 (
  if 0 ≤ (M.1 202 (tn x1)) then (some (0, M)) else (some (3, M)))) else (some (1, M)))
set_option maxRecDepth 20000 in
theorem t_X12_trayed {x1 : Int32} {M : Mem} {q : Int32 × Mem} (h : f_X12_trayed x1 M = some q) : Ev 200 21 0 m_X12_trayed [.ref 200, .int x1] M (QI q) := by
  refine Ev_of_Fr (by decide +kernel) (Nat.le_of_ble_eq_true rfl) ?_
  show Fr 200 21 0 m_X12_trayed 0 [(0, .ref 200), (1, .int x1)] [] M (QI q)
  unfold f_X12_trayed at h
  refine Fr_iload_n (q := 1) (i := 1) 1 (by decide +kernel) rfl rfl ?_
  refine Fr_if_lt (off := 8) 9 (by decide +kernel) (by decide) (fun hc => ?_) (fun hc => ?_)
  · have h := iT hc h
    refine Fr_iconst (i := 1) (v := 1) (by decide +kernel) (by decide) ?_
    refine Fr_goto (off := 17) 27 (by decide +kernel) (by decide) ?_
    obtain rfl := Option.some.inj h
    exact Fr_iret (by decide +kernel) rfl ⟨rfl, rfl⟩
  · have h := iF hc h
    refine Fr_iload_n (q := 1) (i := 1) 1 (by decide +kernel) rfl rfl ?_
    refine Fr_iconst (i := 4) (v := 4) (by decide +kernel) (by decide) ?_
    refine Fr_icmp_lt (off := 7) 13 (by decide +kernel) (by decide) (fun hc => ?_) (fun hc => ?_)
    · have h := iT hc h
      refine Fr_aload_n (q := 0) (i := 0) 0 (by decide +kernel) rfl rfl ?_
      refine gf_X12_17 rfl (by decide +kernel) ob_200 ?_
      refine Fr_iload_n (q := 1) (i := 1) 1 (by decide +kernel) rfl rfl ?_
      obtain ⟨hi_1, h⟩ := ck_elim h
      refine Fr_iald (by decide +kernel) ob_202 (vp_of ln_202 hi_1) ?_
      refine Fr_if_ge (off := 7) 26 (by decide +kernel) (by decide) (fun hc => ?_) (fun hc => ?_)
      · have h := iT hc h
        refine Fr_iconst (i := 0) (v := 0) (by decide +kernel) (by decide) ?_
        obtain rfl := Option.some.inj h
        exact Fr_iret (by decide +kernel) rfl ⟨rfl, rfl⟩
      · have h := iF hc h
        refine Fr_iconst (i := 3) (v := 3) (by decide +kernel) (by decide) ?_
        refine Fr_goto (off := 4) 27 (by decide +kernel) (by decide) ?_
        obtain rfl := Option.some.inj h
        exact Fr_iret (by decide +kernel) rfl ⟨rfl, rfl⟩
    · have h := iF hc h
      refine Fr_iconst (i := 1) (v := 1) (by decide +kernel) (by decide) ?_
      refine Fr_goto (off := 17) 27 (by decide +kernel) (by decide) ?_
      obtain rfl := Option.some.inj h
      exact Fr_iret (by decide +kernel) rfl ⟨rfl, rfl⟩
