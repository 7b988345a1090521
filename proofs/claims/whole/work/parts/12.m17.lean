def f_X11_later (N : Nat) (x1 : Int32) (x2 : Int32) (x3 : Int32) (M : Mem) : Option (Int32 × Mem) :=
  bi (f_X5_isBoard 10 x1 x2 M) fun r_3 M_1 =>
  if (b2i r_3) = 0 then (bi (f_X11_refused 2 M_1) fun r_23 M_21 =>
  some (r_23, M_21)) else (if x3 < 0 then (bi (f_X11_refused 5 M_1) fun r_6 M_4 =>
  some (r_6, M_4)) else (if x3 ≤ 48 then (bv (f_X0_look N 10 x3 M_1) fun M_7 =>
  bi (f_X5_boardAt 10 x1 x2 M_7) fun r_11 M_9 =>
  bi (f_X5_bothKinds 94 r_11 M_9) fun r_14 M_12 =>
  bi (f_X11_answered r_14 M_12) fun r_17 M_15 =>
  some (r_17, M_15)) else (bi (f_X11_refused 5 M_1) fun r_20 M_18 =>
  some (r_20, M_18))))
set_option maxRecDepth 20000 in
theorem t_X11_later {N : Nat} {x1 : Int32} {x2 : Int32} {x3 : Int32} {M : Mem} {q : Int32 × Mem} (h : f_X11_later N x1 x2 x3 M = some q) : Ev 0 111 4 m_X11_later [.ref 0, .int x1, .int x2, .int x3] M (QI q) := by
  refine Ev_of_Fr (by decide +kernel) (Nat.le_of_ble_eq_true rfl) ?_
  show Fr 0 111 4 m_X11_later 0 [(0, .ref 0), (1, .int x1), (2, .int x2), (3, .int x3)] [] M (QI q)
  unfold f_X11_later at h
  refine Fr_aload_n (q := 0) (i := 0) 0 (by decide +kernel) rfl rfl ?_
  refine gf_X11_34 rfl (by decide +kernel) ob_0 ?_
  refine Fr_iload_n (q := 1) (i := 1) 1 (by decide +kernel) rfl rfl ?_
  refine Fr_iload_n (q := 2) (i := 2) 2 (by decide +kernel) rfl rfl ?_
  obtain ⟨r_3, M_1, hc_2, h⟩ := bi_elim h
  refine Fr_cVb (ν := m_X5_isBoard) (As := [.int x1, .int x2]) (st := []) (rc := 10) (ci := 5) (d' := 0) (by decide +kernel) ml_X11_225 cv_X5_isBoard rfl (by decide) rfl ob_10 rfl (by decide) (Nat.le_of_ble_eq_true rfl) (t_X5_isBoard ob_10 hc_2) ?_
  refine Fr_if_ne (off := 9) 18 (by decide +kernel) (by decide) (fun hc => ?_) (fun hc => ?_)
  · have h := iF hc h
    refine Fr_iload_n (q := 3) (i := 3) 3 (by decide +kernel) rfl rfl ?_
    refine Fr_if_lt (off := 9) 28 (by decide +kernel) (by decide) (fun hc => ?_) (fun hc => ?_)
    · have h := iT hc h
      refine Fr_aload_n (q := 0) (i := 0) 0 (by decide +kernel) rfl rfl ?_
      refine Fr_iconst (i := 5) (v := 5) (by decide +kernel) (by decide) ?_
      obtain ⟨r_6, M_4, hc_5, h⟩ := bi_elim h
      refine Fr_cVi (ν := m_X11_refused) (As := [.int 5]) (st := []) (rc := 0) (ci := 11) (d' := 0) (by decide +kernel) ml_X11_140 cv_X11_refused rfl (by decide) rfl ob_0 rfl (by decide) (Nat.le_of_ble_eq_true rfl) (t_X11_refused hc_5) ?_
      obtain rfl := Option.some.inj h
      exact Fr_iret (by decide +kernel) rfl ⟨rfl, rfl⟩
    · have h := iF hc h
      refine Fr_iload_n (q := 3) (i := 3) 3 (by decide +kernel) rfl rfl ?_
      refine Fr_bipush (i := 48) (v := 48) (by decide +kernel) (by decide) ?_
      refine Fr_icmp_le (off := 9) 34 (by decide +kernel) (by decide) (fun hc => ?_) (fun hc => ?_)
      · have h := iT hc h
        refine Fr_aload_n (q := 0) (i := 0) 0 (by decide +kernel) rfl rfl ?_
        refine gf_X11_89 rfl (by decide +kernel) ob_0 ?_
        refine Fr_aload_n (q := 0) (i := 0) 0 (by decide +kernel) rfl rfl ?_
        refine gf_X11_34 rfl (by decide +kernel) ob_0 ?_
        refine Fr_iload_n (q := 3) (i := 3) 3 (by decide +kernel) rfl rfl ?_
        obtain ⟨M_7, hc_8, h⟩ := bv_elim h
        refine Fr_cVv (ν := m_X0_look) (As := [.ref 10, .int x3]) (st := []) (rc := 93) (ci := 0) (d' := 3) (by decide +kernel) ml_X11_278 cv_X0_look rfl (by decide) rfl ob_93 rfl (by decide) (Nat.le_of_ble_eq_true rfl) (t_X0_look ob_10 hc_8) ?_
        refine Fr_aload_n (q := 0) (i := 0) 0 (by decide +kernel) rfl rfl ?_
        refine Fr_aload_n (q := 0) (i := 0) 0 (by decide +kernel) rfl rfl ?_
        refine gf_X11_89 rfl (by decide +kernel) ob_0 ?_
        refine gf_X11_282 rfl (by decide +kernel) ob_93 ?_
        refine Fr_aload_n (q := 0) (i := 0) 0 (by decide +kernel) rfl rfl ?_
        refine gf_X11_34 rfl (by decide +kernel) ob_0 ?_
        refine Fr_iload_n (q := 1) (i := 1) 1 (by decide +kernel) rfl rfl ?_
        refine Fr_iload_n (q := 2) (i := 2) 2 (by decide +kernel) rfl rfl ?_
        obtain ⟨r_11, M_9, hc_10, h⟩ := bi_elim h
        refine Fr_cVi (ν := m_X5_boardAt) (As := [.int x1, .int x2]) (st := [.ref 94, .ref 0]) (rc := 10) (ci := 5) (d' := 0) (by decide +kernel) ml_X11_232 cv_X5_boardAt rfl (by decide) rfl ob_10 rfl (by decide) (Nat.le_of_ble_eq_true rfl) (t_X5_boardAt ob_10 hc_10) ?_
        obtain ⟨r_14, M_12, hc_13, h⟩ := bi_elim h
        refine Fr_cSi (ν := m_X5_bothKinds) (As := [.ref 94, .int r_11]) (st := [.ref 0]) (d' := 0) (by decide +kernel) ml_X11_246 cs_X5_bothKinds rfl (by decide) (Nat.le_of_ble_eq_true rfl) (t_X5_bothKinds ob_94 hc_13) ?_
        obtain ⟨r_17, M_15, hc_16, h⟩ := bi_elim h
        refine Fr_cVi (ν := m_X11_answered) (As := [.int r_14]) (st := []) (rc := 0) (ci := 11) (d' := 0) (by decide +kernel) ml_X11_176 cv_X11_answered rfl (by decide) rfl ob_0 rfl (by decide) (Nat.le_of_ble_eq_true rfl) (t_X11_answered hc_16) ?_
        obtain rfl := Option.some.inj h
        exact Fr_iret (by decide +kernel) rfl ⟨rfl, rfl⟩
      · have h := iF hc h
        refine Fr_aload_n (q := 0) (i := 0) 0 (by decide +kernel) rfl rfl ?_
        refine Fr_iconst (i := 5) (v := 5) (by decide +kernel) (by decide) ?_
        obtain ⟨r_20, M_18, hc_19, h⟩ := bi_elim h
        refine Fr_cVi (ν := m_X11_refused) (As := [.int 5]) (st := []) (rc := 0) (ci := 11) (d' := 0) (by decide +kernel) ml_X11_140 cv_X11_refused rfl (by decide) rfl ob_0 rfl (by decide) (Nat.le_of_ble_eq_true rfl) (t_X11_refused hc_19) ?_
        obtain rfl := Option.some.inj h
        exact Fr_iret (by decide +kernel) rfl ⟨rfl, rfl⟩
  · have h := iT hc h
    refine Fr_aload_n (q := 0) (i := 0) 0 (by decide +kernel) rfl rfl ?_
    refine Fr_iconst (i := 2) (v := 2) (by decide +kernel) (by decide) ?_
    obtain ⟨r_23, M_21, hc_22, h⟩ := bi_elim h
    refine Fr_cVi (ν := m_X11_refused) (As := [.int 2]) (st := []) (rc := 0) (ci := 11) (d' := 0) (by decide +kernel) ml_X11_140 cv_X11_refused rfl (by decide) rfl ob_0 rfl (by decide) (Nat.le_of_ble_eq_true rfl) (t_X11_refused hc_22) ?_
    obtain rfl := Option.some.inj h
    exact Fr_iret (by decide +kernel) rfl ⟨rfl, rfl⟩
def f_X11_answeredIfAny (x1 : Int32) (M : Mem) : Option (Int32 × Mem) :=
  if x1 = (-1) then (bi (f_X11_refused 8 M) fun r_6 M_4 =>
  some (r_6, M_4)) else (bi (f_X11_answered x1 M) fun r_3 M_1 =>
  some (r_3, M_1))
set_option maxRecDepth 20000 in
theorem t_X11_answeredIfAny {x1 : Int32} {M : Mem} {q : Int32 × Mem} (h : f_X11_answeredIfAny x1 M = some q) : Ev 0 111 1 m_X11_answeredIfAny [.ref 0, .int x1] M (QI q) := by
  refine Ev_of_Fr (by decide +kernel) (Nat.le_of_ble_eq_true rfl) ?_
  show Fr 0 111 1 m_X11_answeredIfAny 0 [(0, .ref 0), (1, .int x1)] [] M (QI q)
  unfold f_X11_answeredIfAny at h
  refine Fr_iload_n (q := 1) (i := 1) 1 (by decide +kernel) rfl rfl ?_
  refine Fr_iconst (i := (-1)) (v := (-1)) (by decide +kernel) (by decide) ?_
  refine Fr_icmp_ne (off := 12) 14 (by decide +kernel) (by decide) (fun hc => ?_) (fun hc => ?_)
  · have h := iF hc h
    refine Fr_aload_n (q := 0) (i := 0) 0 (by decide +kernel) rfl rfl ?_
    refine Fr_iload_n (q := 1) (i := 1) 1 (by decide +kernel) rfl rfl ?_
    obtain ⟨r_3, M_1, hc_2, h⟩ := bi_elim h
    refine Fr_cVi (ν := m_X11_answered) (As := [.int x1]) (st := []) (rc := 0) (ci := 11) (d' := 0) (by decide +kernel) ml_X11_176 cv_X11_answered rfl (by decide) rfl ob_0 rfl (by decide) (Nat.le_of_ble_eq_true rfl) (t_X11_answered hc_2) ?_
    obtain rfl := Option.some.inj h
    exact Fr_iret (by decide +kernel) rfl ⟨rfl, rfl⟩
  · have h := iT hc h
    refine Fr_aload_n (q := 0) (i := 0) 0 (by decide +kernel) rfl rfl ?_
    refine Fr_bipush (i := 8) (v := 8) (by decide +kernel) (by decide) ?_
    obtain ⟨r_6, M_4, hc_5, h⟩ := bi_elim h
    refine Fr_cVi (ν := m_X11_refused) (As := [.int 8]) (st := []) (rc := 0) (ci := 11) (d' := 0) (by decide +kernel) ml_X11_140 cv_X11_refused rfl (by decide) rfl ob_0 rfl (by decide) (Nat.le_of_ble_eq_true rfl) (t_X11_refused hc_5) ?_
    refine Fr_goto (off := 8) 19 (by decide +kernel) (by decide) ?_
    obtain rfl := Option.some.inj h
    exact Fr_iret (by decide +kernel) rfl ⟨rfl, rfl⟩
def f_X11_lifts (N : Nat) (x1 : Int32) (x2 : Int32) (M : Mem) : Option (Int32 × Mem) :=
  bi (f_X5_isBoard 10 x1 x2 M) fun r_3 M_1 =>
  if (b2i r_3) = 0 then (bi (f_X11_refused 2 M_1) fun r_15 M_13 =>
  some (r_15, M_13)) else (bi (f_X5_boardAt 10 x1 x2 M_1) fun r_6 M_4 =>
  bi (f_X0_firstHour N 10 r_6 0 M_4) fun r_9 M_7 =>
  bi (f_X11_answeredIfAny r_9 M_7) fun r_12 M_10 =>
  some (r_12, M_10))
set_option maxRecDepth 20000 in
theorem t_X11_lifts {N : Nat} {x1 : Int32} {x2 : Int32} {M : Mem} {q : Int32 × Mem} (h : f_X11_lifts N x1 x2 M = some q) : Ev 0 111 4 m_X11_lifts [.ref 0, .int x1, .int x2] M (QI q) := by
  refine Ev_of_Fr (by decide +kernel) (Nat.le_of_ble_eq_true rfl) ?_
  show Fr 0 111 4 m_X11_lifts 0 [(0, .ref 0), (1, .int x1), (2, .int x2)] [] M (QI q)
  unfold f_X11_lifts at h
  refine Fr_aload_n (q := 0) (i := 0) 0 (by decide +kernel) rfl rfl ?_
  refine gf_X11_34 rfl (by decide +kernel) ob_0 ?_
  refine Fr_iload_n (q := 1) (i := 1) 1 (by decide +kernel) rfl rfl ?_
  refine Fr_iload_n (q := 2) (i := 2) 2 (by decide +kernel) rfl rfl ?_
  obtain ⟨r_3, M_1, hc_2, h⟩ := bi_elim h
  refine Fr_cVb (ν := m_X5_isBoard) (As := [.int x1, .int x2]) (st := []) (rc := 10) (ci := 5) (d' := 0) (by decide +kernel) ml_X11_225 cv_X5_isBoard rfl (by decide) rfl ob_10 rfl (by decide) (Nat.le_of_ble_eq_true rfl) (t_X5_isBoard ob_10 hc_2) ?_
  refine Fr_if_ne (off := 9) 18 (by decide +kernel) (by decide) (fun hc => ?_) (fun hc => ?_)
  · have h := iF hc h
    refine Fr_aload_n (q := 0) (i := 0) 0 (by decide +kernel) rfl rfl ?_
    refine Fr_aload_n (q := 0) (i := 0) 0 (by decide +kernel) rfl rfl ?_
    refine gf_X11_89 rfl (by decide +kernel) ob_0 ?_
    refine Fr_aload_n (q := 0) (i := 0) 0 (by decide +kernel) rfl rfl ?_
    refine gf_X11_34 rfl (by decide +kernel) ob_0 ?_
    refine Fr_aload_n (q := 0) (i := 0) 0 (by decide +kernel) rfl rfl ?_
    refine gf_X11_34 rfl (by decide +kernel) ob_0 ?_
    refine Fr_iload_n (q := 1) (i := 1) 1 (by decide +kernel) rfl rfl ?_
    refine Fr_iload_n (q := 2) (i := 2) 2 (by decide +kernel) rfl rfl ?_
    obtain ⟨r_6, M_4, hc_5, h⟩ := bi_elim h
    refine Fr_cVi (ν := m_X5_boardAt) (As := [.int x1, .int x2]) (st := [.ref 10, .ref 93, .ref 0]) (rc := 10) (ci := 5) (d' := 0) (by decide +kernel) ml_X11_232 cv_X5_boardAt rfl (by decide) rfl ob_10 rfl (by decide) (Nat.le_of_ble_eq_true rfl) (t_X5_boardAt ob_10 hc_5) ?_
    refine Fr_iconst (i := 0) (v := 0) (by decide +kernel) (by decide) ?_
    obtain ⟨r_9, M_7, hc_8, h⟩ := bi_elim h
    refine Fr_cVi (ν := m_X0_firstHour) (As := [.ref 10, .int r_6, .int 0]) (st := [.ref 0]) (rc := 93) (ci := 0) (d' := 3) (by decide +kernel) ml_X11_285 cv_X0_firstHour rfl (by decide) rfl ob_93 rfl (by decide) (Nat.le_of_ble_eq_true rfl) (t_X0_firstHour ob_10 hc_8) ?_
    obtain ⟨r_12, M_10, hc_11, h⟩ := bi_elim h
    refine Fr_cVi (ν := m_X11_answeredIfAny) (As := [.int r_9]) (st := []) (rc := 0) (ci := 11) (d' := 1) (by decide +kernel) ml_X11_289 cv_X11_answeredIfAny rfl (by decide) rfl ob_0 rfl (by decide) (Nat.le_of_ble_eq_true rfl) (t_X11_answeredIfAny hc_11) ?_
    obtain rfl := Option.some.inj h
    exact Fr_iret (by decide +kernel) rfl ⟨rfl, rfl⟩
  · have h := iT hc h
    refine Fr_aload_n (q := 0) (i := 0) 0 (by decide +kernel) rfl rfl ?_
    refine Fr_iconst (i := 2) (v := 2) (by decide +kernel) (by decide) ?_
    obtain ⟨r_15, M_13, hc_14, h⟩ := bi_elim h
    refine Fr_cVi (ν := m_X11_refused) (As := [.int 2]) (st := []) (rc := 0) (ci := 11) (d' := 0) (by decide +kernel) ml_X11_140 cv_X11_refused rfl (by decide) rfl ob_0 rfl (by decide) (Nat.le_of_ble_eq_true rfl) (t_X11_refused hc_14) ?_
    obtain rfl := Option.some.inj h
    exact Fr_iret (by decide +kernel) rfl ⟨rfl, rfl⟩
def f_X11_comes (N : Nat) (x1 : Int32) (x2 : Int32) (M : Mem) : Option (Int32 × Mem) :=
  bi (f_X5_isBoard 10 x1 x2 M) fun r_3 M_1 =>
  if (b2i r_3) = 0 then (bi (f_X11_refused 2 M_1) fun r_15 M_13 =>
  some (r_15, M_13)) else (bi (f_X5_boardAt 10 x1 x2 M_1) fun r_6 M_4 =>
  bi (f_X0_firstHour N 10 r_6 1 M_4) fun r_9 M_7 =>
  bi (f_X11_answeredIfAny r_9 M_7) fun r_12 M_10 =>
  some (r_12, M_10))
set_option maxRecDepth 20000 in
theorem t_X11_comes {N : Nat} {x1 : Int32} {x2 : Int32} {M : Mem} {q : Int32 × Mem} (h : f_X11_comes N x1 x2 M = some q) : Ev 0 111 4 m_X11_comes [.ref 0, .int x1, .int x2] M (QI q) := by
  refine Ev_of_Fr (by decide +kernel) (Nat.le_of_ble_eq_true rfl) ?_
  show Fr 0 111 4 m_X11_comes 0 [(0, .ref 0), (1, .int x1), (2, .int x2)] [] M (QI q)
  unfold f_X11_comes at h
  refine Fr_aload_n (q := 0) (i := 0) 0 (by decide +kernel) rfl rfl ?_
  refine gf_X11_34 rfl (by decide +kernel) ob_0 ?_
  refine Fr_iload_n (q := 1) (i := 1) 1 (by decide +kernel) rfl rfl ?_
  refine Fr_iload_n (q := 2) (i := 2) 2 (by decide +kernel) rfl rfl ?_
  obtain ⟨r_3, M_1, hc_2, h⟩ := bi_elim h
  refine Fr_cVb (ν := m_X5_isBoard) (As := [.int x1, .int x2]) (st := []) (rc := 10) (ci := 5) (d' := 0) (by decide +kernel) ml_X11_225 cv_X5_isBoard rfl (by decide) rfl ob_10 rfl (by decide) (Nat.le_of_ble_eq_true rfl) (t_X5_isBoard ob_10 hc_2) ?_
  refine Fr_if_ne (off := 9) 18 (by decide +kernel) (by decide) (fun hc => ?_) (fun hc => ?_)
  · have h := iF hc h
    refine Fr_aload_n (q := 0) (i := 0) 0 (by decide +kernel) rfl rfl ?_
    refine Fr_aload_n (q := 0) (i := 0) 0 (by decide +kernel) rfl rfl ?_
    refine gf_X11_89 rfl (by decide +kernel) ob_0 ?_
    refine Fr_aload_n (q := 0) (i := 0) 0 (by decide +kernel) rfl rfl ?_
    refine gf_X11_34 rfl (by decide +kernel) ob_0 ?_
    refine Fr_aload_n (q := 0) (i := 0) 0 (by decide +kernel) rfl rfl ?_
    refine gf_X11_34 rfl (by decide +kernel) ob_0 ?_
    refine Fr_iload_n (q := 1) (i := 1) 1 (by decide +kernel) rfl rfl ?_
    refine Fr_iload_n (q := 2) (i := 2) 2 (by decide +kernel) rfl rfl ?_
    obtain ⟨r_6, M_4, hc_5, h⟩ := bi_elim h
    refine Fr_cVi (ν := m_X5_boardAt) (As := [.int x1, .int x2]) (st := [.ref 10, .ref 93, .ref 0]) (rc := 10) (ci := 5) (d' := 0) (by decide +kernel) ml_X11_232 cv_X5_boardAt rfl (by decide) rfl ob_10 rfl (by decide) (Nat.le_of_ble_eq_true rfl) (t_X5_boardAt ob_10 hc_5) ?_
    refine Fr_iconst (i := 1) (v := 1) (by decide +kernel) (by decide) ?_
    obtain ⟨r_9, M_7, hc_8, h⟩ := bi_elim h
    refine Fr_cVi (ν := m_X0_firstHour) (As := [.ref 10, .int r_6, .int 1]) (st := [.ref 0]) (rc := 93) (ci := 0) (d' := 3) (by decide +kernel) ml_X11_285 cv_X0_firstHour rfl (by decide) rfl ob_93 rfl (by decide) (Nat.le_of_ble_eq_true rfl) (t_X0_firstHour ob_10 hc_8) ?_
    obtain ⟨r_12, M_10, hc_11, h⟩ := bi_elim h
    refine Fr_cVi (ν := m_X11_answeredIfAny) (As := [.int r_9]) (st := []) (rc := 0) (ci := 11) (d' := 1) (by decide +kernel) ml_X11_289 cv_X11_answeredIfAny rfl (by decide) rfl ob_0 rfl (by decide) (Nat.le_of_ble_eq_true rfl) (t_X11_answeredIfAny hc_11) ?_
    obtain rfl := Option.some.inj h
    exact Fr_iret (by decide +kernel) rfl ⟨rfl, rfl⟩
  · have h := iT hc h
    refine Fr_aload_n (q := 0) (i := 0) 0 (by decide +kernel) rfl rfl ?_
    refine Fr_iconst (i := 2) (v := 2) (by decide +kernel) (by decide) ?_
    obtain ⟨r_15, M_13, hc_14, h⟩ := bi_elim h
    refine Fr_cVi (ν := m_X11_refused) (As := [.int 2]) (st := []) (rc := 0) (ci := 11) (d' := 0) (by decide +kernel) ml_X11_140 cv_X11_refused rfl (by decide) rfl ob_0 rfl (by decide) (Nat.le_of_ble_eq_true rfl) (t_X11_refused hc_14) ?_
    obtain rfl := Option.some.inj h
    exact Fr_iret (by decide +kernel) rfl ⟨rfl, rfl⟩
def f_X11_foggyIn (N : Nat) (x1 : Int32) (M : Mem) : Option (Int32 × Mem) :=
  if x1 < 0 then (bi (f_X11_refused 5 M) fun r_3 M_1 =>
  some (r_3, M_1)) else (if x1 ≤ 48 then (bv (f_X0_look N 10 x1 M) fun M_4 =>
  bi (f_X5_countFoggy N 10 94 M_4) fun r_8 M_6 =>
  bi (f_X11_answered r_8 M_6) fun r_11 M_9 =>
  some (r_11, M_9)) else (bi (f_X11_refused 5 M) fun r_14 M_12 =>
  some (r_14, M_12)))
set_option maxRecDepth 20000 in
theorem t_X11_foggyIn {N : Nat} {x1 : Int32} {M : Mem} {q : Int32 × Mem} (h : f_X11_foggyIn N x1 M = some q) : Ev 0 111 4 m_X11_foggyIn [.ref 0, .int x1] M (QI q) := by
  refine Ev_of_Fr (by decide +kernel) (Nat.le_of_ble_eq_true rfl) ?_
  show Fr 0 111 4 m_X11_foggyIn 0 [(0, .ref 0), (1, .int x1)] [] M (QI q)
  unfold f_X11_foggyIn at h
  refine Fr_iload_n (q := 1) (i := 1) 1 (by decide +kernel) rfl rfl ?_
  refine Fr_if_lt (off := 9) 10 (by decide +kernel) (by decide) (fun hc => ?_) (fun hc => ?_)
  · have h := iT hc h
    refine Fr_aload_n (q := 0) (i := 0) 0 (by decide +kernel) rfl rfl ?_
    refine Fr_iconst (i := 5) (v := 5) (by decide +kernel) (by decide) ?_
    obtain ⟨r_3, M_1, hc_2, h⟩ := bi_elim h
    refine Fr_cVi (ν := m_X11_refused) (As := [.int 5]) (st := []) (rc := 0) (ci := 11) (d' := 0) (by decide +kernel) ml_X11_140 cv_X11_refused rfl (by decide) rfl ob_0 rfl (by decide) (Nat.le_of_ble_eq_true rfl) (t_X11_refused hc_2) ?_
    obtain rfl := Option.some.inj h
    exact Fr_iret (by decide +kernel) rfl ⟨rfl, rfl⟩
  · have h := iF hc h
    refine Fr_iload_n (q := 1) (i := 1) 1 (by decide +kernel) rfl rfl ?_
    refine Fr_bipush (i := 48) (v := 48) (by decide +kernel) (by decide) ?_
    refine Fr_icmp_le (off := 9) 16 (by decide +kernel) (by decide) (fun hc => ?_) (fun hc => ?_)
    · have h := iT hc h
      refine Fr_aload_n (q := 0) (i := 0) 0 (by decide +kernel) rfl rfl ?_
      refine gf_X11_89 rfl (by decide +kernel) ob_0 ?_
      refine Fr_aload_n (q := 0) (i := 0) 0 (by decide +kernel) rfl rfl ?_
      refine gf_X11_34 rfl (by decide +kernel) ob_0 ?_
      refine Fr_iload_n (q := 1) (i := 1) 1 (by decide +kernel) rfl rfl ?_
      obtain ⟨M_4, hc_5, h⟩ := bv_elim h
      refine Fr_cVv (ν := m_X0_look) (As := [.ref 10, .int x1]) (st := []) (rc := 93) (ci := 0) (d' := 3) (by decide +kernel) ml_X11_278 cv_X0_look rfl (by decide) rfl ob_93 rfl (by decide) (Nat.le_of_ble_eq_true rfl) (t_X0_look ob_10 hc_5) ?_
      refine Fr_aload_n (q := 0) (i := 0) 0 (by decide +kernel) rfl rfl ?_
      refine Fr_aload_n (q := 0) (i := 0) 0 (by decide +kernel) rfl rfl ?_
      refine gf_X11_34 rfl (by decide +kernel) ob_0 ?_
      refine Fr_aload_n (q := 0) (i := 0) 0 (by decide +kernel) rfl rfl ?_
      refine gf_X11_89 rfl (by decide +kernel) ob_0 ?_
      refine gf_X11_282 rfl (by decide +kernel) ob_93 ?_
      obtain ⟨r_8, M_6, hc_7, h⟩ := bi_elim h
      refine Fr_cVi (ν := m_X5_countFoggy) (As := [.ref 94]) (st := [.ref 0]) (rc := 10) (ci := 5) (d' := 1) (by decide +kernel) ml_X11_292 cv_X5_countFoggy rfl (by decide) rfl ob_10 rfl (by decide) (Nat.le_of_ble_eq_true rfl) (t_X5_countFoggy ob_10 ob_94 hc_7) ?_
      obtain ⟨r_11, M_9, hc_10, h⟩ := bi_elim h
      refine Fr_cVi (ν := m_X11_answered) (As := [.int r_8]) (st := []) (rc := 0) (ci := 11) (d' := 0) (by decide +kernel) ml_X11_176 cv_X11_answered rfl (by decide) rfl ob_0 rfl (by decide) (Nat.le_of_ble_eq_true rfl) (t_X11_answered hc_10) ?_
      obtain rfl := Option.some.inj h
      exact Fr_iret (by decide +kernel) rfl ⟨rfl, rfl⟩
    · have h := iF hc h
      refine Fr_aload_n (q := 0) (i := 0) 0 (by decide +kernel) rfl rfl ?_
      refine Fr_iconst (i := 5) (v := 5) (by decide +kernel) (by decide) ?_
      obtain ⟨r_14, M_12, hc_13, h⟩ := bi_elim h
      refine Fr_cVi (ν := m_X11_refused) (As := [.int 5]) (st := []) (rc := 0) (ci := 11) (d' := 0) (by decide +kernel) ml_X11_140 cv_X11_refused rfl (by decide) rfl ob_0 rfl (by decide) (Nat.le_of_ble_eq_true rfl) (t_X11_refused hc_13) ?_
      obtain rfl := Option.some.inj h
      exact Fr_iret (by decide +kernel) rfl ⟨rfl, rfl⟩
def f_X11_thickest (N : Nat) (x1 : Int32) (M : Mem) : Option (Int32 × Mem) :=
  if x1 < 1 then (bi (f_X11_refused 5 M) fun r_3 M_1 =>
  some (r_3, M_1)) else (if x1 ≤ 48 then (bi (f_X0_foggiestHour N 10 x1 M) fun r_6 M_4 =>
  bi (f_X11_answered r_6 M_4) fun r_9 M_7 =>
  some (r_9, M_7)) else (bi (f_X11_refused 5 M) fun r_12 M_10 =>
  some (r_12, M_10)))
set_option maxRecDepth 20000 in
theorem t_X11_thickest {N : Nat} {x1 : Int32} {M : Mem} {q : Int32 × Mem} (h : f_X11_thickest N x1 M = some q) : Ev 0 111 4 m_X11_thickest [.ref 0, .int x1] M (QI q) := by
  refine Ev_of_Fr (by decide +kernel) (Nat.le_of_ble_eq_true rfl) ?_
  show Fr 0 111 4 m_X11_thickest 0 [(0, .ref 0), (1, .int x1)] [] M (QI q)
  unfold f_X11_thickest at h
  refine Fr_iload_n (q := 1) (i := 1) 1 (by decide +kernel) rfl rfl ?_
  refine Fr_iconst (i := 1) (v := 1) (by decide +kernel) (by decide) ?_
  refine Fr_icmp_lt (off := 9) 11 (by decide +kernel) (by decide) (fun hc => ?_) (fun hc => ?_)
  · have h := iT hc h
    refine Fr_aload_n (q := 0) (i := 0) 0 (by decide +kernel) rfl rfl ?_
    refine Fr_iconst (i := 5) (v := 5) (by decide +kernel) (by decide) ?_
    obtain ⟨r_3, M_1, hc_2, h⟩ := bi_elim h
    refine Fr_cVi (ν := m_X11_refused) (As := [.int 5]) (st := []) (rc := 0) (ci := 11) (d' := 0) (by decide +kernel) ml_X11_140 cv_X11_refused rfl (by decide) rfl ob_0 rfl (by decide) (Nat.le_of_ble_eq_true rfl) (t_X11_refused hc_2) ?_
    obtain rfl := Option.some.inj h
    exact Fr_iret (by decide +kernel) rfl ⟨rfl, rfl⟩
  · have h := iF hc h
    refine Fr_iload_n (q := 1) (i := 1) 1 (by decide +kernel) rfl rfl ?_
    refine Fr_bipush (i := 48) (v := 48) (by decide +kernel) (by decide) ?_
    refine Fr_icmp_le (off := 9) 17 (by decide +kernel) (by decide) (fun hc => ?_) (fun hc => ?_)
    · have h := iT hc h
      refine Fr_aload_n (q := 0) (i := 0) 0 (by decide +kernel) rfl rfl ?_
      refine Fr_aload_n (q := 0) (i := 0) 0 (by decide +kernel) rfl rfl ?_
      refine gf_X11_89 rfl (by decide +kernel) ob_0 ?_
      refine Fr_aload_n (q := 0) (i := 0) 0 (by decide +kernel) rfl rfl ?_
      refine gf_X11_34 rfl (by decide +kernel) ob_0 ?_
      refine Fr_iload_n (q := 1) (i := 1) 1 (by decide +kernel) rfl rfl ?_
      obtain ⟨r_6, M_4, hc_5, h⟩ := bi_elim h
      refine Fr_cVi (ν := m_X0_foggiestHour) (As := [.ref 10, .int x1]) (st := [.ref 0]) (rc := 93) (ci := 0) (d' := 3) (by decide +kernel) ml_X11_296 cv_X0_foggiestHour rfl (by decide) rfl ob_93 rfl (by decide) (Nat.le_of_ble_eq_true rfl) (t_X0_foggiestHour ob_10 hc_5) ?_
      obtain ⟨r_9, M_7, hc_8, h⟩ := bi_elim h
      refine Fr_cVi (ν := m_X11_answered) (As := [.int r_6]) (st := []) (rc := 0) (ci := 11) (d' := 0) (by decide +kernel) ml_X11_176 cv_X11_answered rfl (by decide) rfl ob_0 rfl (by decide) (Nat.le_of_ble_eq_true rfl) (t_X11_answered hc_8) ?_
      obtain rfl := Option.some.inj h
      exact Fr_iret (by decide +kernel) rfl ⟨rfl, rfl⟩
    · have h := iF hc h
      refine Fr_aload_n (q := 0) (i := 0) 0 (by decide +kernel) rfl rfl ?_
      refine Fr_iconst (i := 5) (v := 5) (by decide +kernel) (by decide) ?_
      obtain ⟨r_12, M_10, hc_11, h⟩ := bi_elim h
      refine Fr_cVi (ν := m_X11_refused) (As := [.int 5]) (st := []) (rc := 0) (ci := 11) (d' := 0) (by decide +kernel) ml_X11_140 cv_X11_refused rfl (by decide) rfl ob_0 rfl (by decide) (Nat.le_of_ble_eq_true rfl) (t_X11_refused hc_11) ?_
      obtain rfl := Option.some.inj h
      exact Fr_iret (by decide +kernel) rfl ⟨rfl, rfl⟩
def f_X11_served (N : Nat) (M : Mem) : Option (Int32 × Mem) :=
  bi (f_X0_servedSet N 10 M) fun r_3 M_1 =>
  bi (f_X11_answered r_3 M_1) fun r_6 M_4 =>
  some (r_6, M_4)
set_option maxRecDepth 20000 in
theorem t_X11_served {N : Nat} {M : Mem} {q : Int32 × Mem} (h : f_X11_served N M = some q) : Ev 0 111 5 m_X11_served [.ref 0] M (QI q) := by
  refine Ev_of_Fr (by decide +kernel) (Nat.le_of_ble_eq_true rfl) ?_
  show Fr 0 111 5 m_X11_served 0 [(0, .ref 0)] [] M (QI q)
  unfold f_X11_served at h
  refine Fr_aload_n (q := 0) (i := 0) 0 (by decide +kernel) rfl rfl ?_
  refine Fr_aload_n (q := 0) (i := 0) 0 (by decide +kernel) rfl rfl ?_
  refine gf_X11_89 rfl (by decide +kernel) ob_0 ?_
  refine Fr_aload_n (q := 0) (i := 0) 0 (by decide +kernel) rfl rfl ?_
  refine gf_X11_34 rfl (by decide +kernel) ob_0 ?_
  obtain ⟨r_3, M_1, hc_2, h⟩ := bi_elim h
  refine Fr_cVi (ν := m_X0_servedSet) (As := [.ref 10]) (st := [.ref 0]) (rc := 93) (ci := 0) (d' := 4) (by decide +kernel) ml_X11_299 cv_X0_servedSet rfl (by decide) rfl ob_93 rfl (by decide) (Nat.le_of_ble_eq_true rfl) (t_X0_servedSet ob_10 hc_2) ?_
  obtain ⟨r_6, M_4, hc_5, h⟩ := bi_elim h
  refine Fr_cVi (ν := m_X11_answered) (As := [.int r_3]) (st := []) (rc := 0) (ci := 11) (d' := 0) (by decide +kernel) ml_X11_176 cv_X11_answered rfl (by decide) rfl ob_0 rfl (by decide) (Nat.le_of_ble_eq_true rfl) (t_X11_answered hc_5) ?_
  obtain rfl := Option.some.inj h
  exact Fr_iret (by decide +kernel) rfl ⟨rfl, rfl⟩
def f_X11_paid (N : Nat) (M : Mem) : Option (Int32 × Mem) :=
  bi (f_X0_servedSet N 10 M) fun r_3 M_1 =>
  bi (f_X5_payOf N 10 r_3 M_1) fun r_6 M_4 =>
  bi (f_X11_answered r_6 M_4) fun r_9 M_7 =>
  some (r_9, M_7)
set_option maxRecDepth 20000 in
theorem t_X11_paid {N : Nat} {M : Mem} {q : Int32 × Mem} (h : f_X11_paid N M = some q) : Ev 0 111 5 m_X11_paid [.ref 0] M (QI q) := by
  refine Ev_of_Fr (by decide +kernel) (Nat.le_of_ble_eq_true rfl) ?_
  show Fr 0 111 5 m_X11_paid 0 [(0, .ref 0)] [] M (QI q)
  unfold f_X11_paid at h
  refine Fr_aload_n (q := 0) (i := 0) 0 (by decide +kernel) rfl rfl ?_
  refine Fr_aload_n (q := 0) (i := 0) 0 (by decide +kernel) rfl rfl ?_
  refine gf_X11_34 rfl (by decide +kernel) ob_0 ?_
  refine Fr_aload_n (q := 0) (i := 0) 0 (by decide +kernel) rfl rfl ?_
  refine gf_X11_89 rfl (by decide +kernel) ob_0 ?_
  refine Fr_aload_n (q := 0) (i := 0) 0 (by decide +kernel) rfl rfl ?_
  refine gf_X11_34 rfl (by decide +kernel) ob_0 ?_
  obtain ⟨r_3, M_1, hc_2, h⟩ := bi_elim h
  refine Fr_cVi (ν := m_X0_servedSet) (As := [.ref 10]) (st := [.ref 10, .ref 0]) (rc := 93) (ci := 0) (d' := 4) (by decide +kernel) ml_X11_299 cv_X0_servedSet rfl (by decide) rfl ob_93 rfl (by decide) (Nat.le_of_ble_eq_true rfl) (t_X0_servedSet ob_10 hc_2) ?_
  obtain ⟨r_6, M_4, hc_5, h⟩ := bi_elim h
  refine Fr_cVi (ν := m_X5_payOf) (As := [.int r_3]) (st := [.ref 0]) (rc := 10) (ci := 5) (d' := 0) (by decide +kernel) ml_X11_303 cv_X5_payOf rfl (by decide) rfl ob_10 rfl (by decide) (Nat.le_of_ble_eq_true rfl) (t_X5_payOf ob_10 hc_5) ?_
  obtain ⟨r_9, M_7, hc_8, h⟩ := bi_elim h
  refine Fr_cVi (ν := m_X11_answered) (As := [.int r_6]) (st := []) (rc := 0) (ci := 11) (d' := 0) (by decide +kernel) ml_X11_176 cv_X11_answered rfl (by decide) rfl ob_0 rfl (by decide) (Nat.le_of_ble_eq_true rfl) (t_X11_answered hc_8) ?_
  obtain rfl := Option.some.inj h
  exact Fr_iret (by decide +kernel) rfl ⟨rfl, rfl⟩
def f_X11_plan (N : Nat) (M : Mem) : Option (Int32 × Mem) :=
  bv (f_X0_findPlan N 10 M) fun M_1 =>
  bi (f_X11_answered (M_1.1 93 6) M_1) fun r_5 M_3 =>
  some (r_5, M_3)
set_option maxRecDepth 20000 in
theorem t_X11_plan {N : Nat} {M : Mem} {q : Int32 × Mem} (h : f_X11_plan N M = some q) : Ev 0 111 6 m_X11_plan [.ref 0] M (QI q) := by
  refine Ev_of_Fr (by decide +kernel) (Nat.le_of_ble_eq_true rfl) ?_
  show Fr 0 111 6 m_X11_plan 0 [(0, .ref 0)] [] M (QI q)
  unfold f_X11_plan at h
  refine Fr_aload_n (q := 0) (i := 0) 0 (by decide +kernel) rfl rfl ?_
  refine gf_X11_89 rfl (by decide +kernel) ob_0 ?_
  refine Fr_aload_n (q := 0) (i := 0) 0 (by decide +kernel) rfl rfl ?_
  refine gf_X11_34 rfl (by decide +kernel) ob_0 ?_
  obtain ⟨M_1, hc_2, h⟩ := bv_elim h
  refine Fr_cVv (ν := m_X0_findPlan) (As := [.ref 10]) (st := []) (rc := 93) (ci := 0) (d' := 5) (by decide +kernel) ml_X11_306 cv_X0_findPlan rfl (by decide) rfl ob_93 rfl (by decide) (Nat.le_of_ble_eq_true rfl) (t_X0_findPlan ob_10 hc_2) ?_
  refine Fr_aload_n (q := 0) (i := 0) 0 (by decide +kernel) rfl rfl ?_
  refine Fr_aload_n (q := 0) (i := 0) 0 (by decide +kernel) rfl rfl ?_
  refine gf_X11_89 rfl (by decide +kernel) ob_0 ?_
  refine gf_X11_309 rfl (by decide +kernel) ob_93 ?_
  obtain ⟨r_5, M_3, hc_4, h⟩ := bi_elim h
  refine Fr_cVi (ν := m_X11_answered) (As := [.int (M_1.1 93 6)]) (st := []) (rc := 0) (ci := 11) (d' := 0) (by decide +kernel) ml_X11_176 cv_X11_answered rfl (by decide) rfl ob_0 rfl (by decide) (Nat.le_of_ble_eq_true rfl) (t_X11_answered hc_4) ?_
  obtain rfl := Option.some.inj h
  exact Fr_iret (by decide +kernel) rfl ⟨rfl, rfl⟩
def f_X11_planSet (N : Nat) (M : Mem) : Option (Int32 × Mem) :=
  bv (f_X0_findPlan N 10 M) fun M_1 =>
  bi (f_X11_answered (M_1.1 93 7) M_1) fun r_5 M_3 =>
  some (r_5, M_3)
set_option maxRecDepth 20000 in
theorem t_X11_planSet {N : Nat} {M : Mem} {q : Int32 × Mem} (h : f_X11_planSet N M = some q) : Ev 0 111 6 m_X11_planSet [.ref 0] M (QI q) := by
  refine Ev_of_Fr (by decide +kernel) (Nat.le_of_ble_eq_true rfl) ?_
  show Fr 0 111 6 m_X11_planSet 0 [(0, .ref 0)] [] M (QI q)
  unfold f_X11_planSet at h
  refine Fr_aload_n (q := 0) (i := 0) 0 (by decide +kernel) rfl rfl ?_
  refine gf_X11_89 rfl (by decide +kernel) ob_0 ?_
  refine Fr_aload_n (q := 0) (i := 0) 0 (by decide +kernel) rfl rfl ?_
  refine gf_X11_34 rfl (by decide +kernel) ob_0 ?_
  obtain ⟨M_1, hc_2, h⟩ := bv_elim h
  refine Fr_cVv (ν := m_X0_findPlan) (As := [.ref 10]) (st := []) (rc := 93) (ci := 0) (d' := 5) (by decide +kernel) ml_X11_306 cv_X0_findPlan rfl (by decide) rfl ob_93 rfl (by decide) (Nat.le_of_ble_eq_true rfl) (t_X0_findPlan ob_10 hc_2) ?_
  refine Fr_aload_n (q := 0) (i := 0) 0 (by decide +kernel) rfl rfl ?_
  refine Fr_aload_n (q := 0) (i := 0) 0 (by decide +kernel) rfl rfl ?_
  refine gf_X11_89 rfl (by decide +kernel) ob_0 ?_
  refine gf_X11_312 rfl (by decide +kernel) ob_93 ?_
  obtain ⟨r_5, M_3, hc_4, h⟩ := bi_elim h
  refine Fr_cVi (ν := m_X11_answered) (As := [.int (M_1.1 93 7)]) (st := []) (rc := 0) (ci := 11) (d' := 0) (by decide +kernel) ml_X11_176 cv_X11_answered rfl (by decide) rfl ob_0 rfl (by decide) (Nat.le_of_ble_eq_true rfl) (t_X11_answered hc_4) ?_
  obtain rfl := Option.some.inj h
  exact Fr_iret (by decide +kernel) rfl ⟨rfl, rfl⟩
def f_X11_turn (N : Nat) (x1 : Int32) (M : Mem) : Option (Int32 × Mem) :=
  if x1 < 1 then (bi (f_X11_refused 5 M) fun r_3 M_1 =>
  some (r_3, M_1)) else (if x1 < 24 then (bv (f_X0_findTurn N 10 x1 M) fun M_4 =>
  bi (f_X11_answered (M_4.1 93 6) M_4) fun r_8 M_6 =>
  some (r_8, M_6)) else (bi (f_X11_refused 5 M) fun r_11 M_9 =>
  some (r_11, M_9)))
set_option maxRecDepth 20000 in
theorem t_X11_turn {N : Nat} {x1 : Int32} {M : Mem} {q : Int32 × Mem} (h : f_X11_turn N x1 M = some q) : Ev 0 111 6 m_X11_turn [.ref 0, .int x1] M (QI q) := by
  refine Ev_of_Fr (by decide +kernel) (Nat.le_of_ble_eq_true rfl) ?_
  show Fr 0 111 6 m_X11_turn 0 [(0, .ref 0), (1, .int x1)] [] M (QI q)
  unfold f_X11_turn at h
  refine Fr_iload_n (q := 1) (i := 1) 1 (by decide +kernel) rfl rfl ?_
  refine Fr_iconst (i := 1) (v := 1) (by decide +kernel) (by decide) ?_
  refine Fr_icmp_lt (off := 9) 11 (by decide +kernel) (by decide) (fun hc => ?_) (fun hc => ?_)
  · have h := iT hc h
    refine Fr_aload_n (q := 0) (i := 0) 0 (by decide +kernel) rfl rfl ?_
    refine Fr_iconst (i := 5) (v := 5) (by decide +kernel) (by decide) ?_
    obtain ⟨r_3, M_1, hc_2, h⟩ := bi_elim h
    refine Fr_cVi (ν := m_X11_refused) (As := [.int 5]) (st := []) (rc := 0) (ci := 11) (d' := 0) (by decide +kernel) ml_X11_140 cv_X11_refused rfl (by decide) rfl ob_0 rfl (by decide) (Nat.le_of_ble_eq_true rfl) (t_X11_refused hc_2) ?_
    obtain rfl := Option.some.inj h
    exact Fr_iret (by decide +kernel) rfl ⟨rfl, rfl⟩
  · have h := iF hc h
    refine Fr_iload_n (q := 1) (i := 1) 1 (by decide +kernel) rfl rfl ?_
    refine Fr_bipush (i := 24) (v := 24) (by decide +kernel) (by decide) ?_
    refine Fr_icmp_lt (off := 9) 17 (by decide +kernel) (by decide) (fun hc => ?_) (fun hc => ?_)
    · have h := iT hc h
      refine Fr_aload_n (q := 0) (i := 0) 0 (by decide +kernel) rfl rfl ?_
      refine gf_X11_89 rfl (by decide +kernel) ob_0 ?_
      refine Fr_aload_n (q := 0) (i := 0) 0 (by decide +kernel) rfl rfl ?_
      refine gf_X11_34 rfl (by decide +kernel) ob_0 ?_
      refine Fr_iload_n (q := 1) (i := 1) 1 (by decide +kernel) rfl rfl ?_
      obtain ⟨M_4, hc_5, h⟩ := bv_elim h
      refine Fr_cVv (ν := m_X0_findTurn) (As := [.ref 10, .int x1]) (st := []) (rc := 93) (ci := 0) (d' := 5) (by decide +kernel) ml_X11_315 cv_X0_findTurn rfl (by decide) rfl ob_93 rfl (by decide) (Nat.le_of_ble_eq_true rfl) (t_X0_findTurn ob_10 hc_5) ?_
      refine Fr_aload_n (q := 0) (i := 0) 0 (by decide +kernel) rfl rfl ?_
      refine Fr_aload_n (q := 0) (i := 0) 0 (by decide +kernel) rfl rfl ?_
      refine gf_X11_89 rfl (by decide +kernel) ob_0 ?_
      refine gf_X11_309 rfl (by decide +kernel) ob_93 ?_
      obtain ⟨r_8, M_6, hc_7, h⟩ := bi_elim h
      refine Fr_cVi (ν := m_X11_answered) (As := [.int (M_4.1 93 6)]) (st := []) (rc := 0) (ci := 11) (d' := 0) (by decide +kernel) ml_X11_176 cv_X11_answered rfl (by decide) rfl ob_0 rfl (by decide) (Nat.le_of_ble_eq_true rfl) (t_X11_answered hc_7) ?_
      obtain rfl := Option.some.inj h
      exact Fr_iret (by decide +kernel) rfl ⟨rfl, rfl⟩
    · have h := iF hc h
      refine Fr_aload_n (q := 0) (i := 0) 0 (by decide +kernel) rfl rfl ?_
      refine Fr_iconst (i := 5) (v := 5) (by decide +kernel) (by decide) ?_
      obtain ⟨r_11, M_9, hc_10, h⟩ := bi_elim h
      refine Fr_cVi (ν := m_X11_refused) (As := [.int 5]) (st := []) (rc := 0) (ci := 11) (d' := 0) (by decide +kernel) ml_X11_140 cv_X11_refused rfl (by decide) rfl ob_0 rfl (by decide) (Nat.le_of_ble_eq_true rfl) (t_X11_refused hc_10) ?_
      obtain rfl := Option.some.inj h
      exact Fr_iret (by decide +kernel) rfl ⟨rfl, rfl⟩
def f_X11_turnSet (N : Nat) (x1 : Int32) (x2 : Int32) (M : Mem) : Option (Int32 × Mem) :=
  if x1 < 1 then (bi (f_X11_refused 5 M) fun r_3 M_1 =>
  some (r_3, M_1)) else (if 24 ≤ x1 then (bi (f_X11_refused 5 M) fun r_6 M_4 =>
  some (r_6, M_4)) else (if x2 < 0 then (bi (f_X11_refused 5 M) fun r_9 M_7 =>
  some (r_9, M_7)) else (if x2 ≤ 1 then (bv (f_X0_findTurn N 10 x1 M) fun M_10 =>
  if x2 = 0 then (bi (f_X11_answered (M_10.1 93 7) M_10) fun r_17 M_15 =>
  some (r_17, M_15)) else (bi (f_X11_answered (M_10.1 93 8) M_10) fun r_14 M_12 =>
  some (r_14, M_12))) else (bi (f_X11_refused 5 M) fun r_20 M_18 =>
  some (r_20, M_18)))))
set_option maxRecDepth 20000 in
theorem t_X11_turnSet {N : Nat} {x1 : Int32} {x2 : Int32} {M : Mem} {q : Int32 × Mem} (h : f_X11_turnSet N x1 x2 M = some q) : Ev 0 111 6 m_X11_turnSet [.ref 0, .int x1, .int x2] M (QI q) := by
  refine Ev_of_Fr (by decide +kernel) (Nat.le_of_ble_eq_true rfl) ?_
  show Fr 0 111 6 m_X11_turnSet 0 [(0, .ref 0), (1, .int x1), (2, .int x2)] [] M (QI q)
  unfold f_X11_turnSet at h
  refine Fr_iload_n (q := 1) (i := 1) 1 (by decide +kernel) rfl rfl ?_
  refine Fr_iconst (i := 1) (v := 1) (by decide +kernel) (by decide) ?_
  refine Fr_icmp_lt (off := 18) 20 (by decide +kernel) (by decide) (fun hc => ?_) (fun hc => ?_)
  · have h := iT hc h
    refine Fr_aload_n (q := 0) (i := 0) 0 (by decide +kernel) rfl rfl ?_
    refine Fr_iconst (i := 5) (v := 5) (by decide +kernel) (by decide) ?_
    obtain ⟨r_3, M_1, hc_2, h⟩ := bi_elim h
    refine Fr_cVi (ν := m_X11_refused) (As := [.int 5]) (st := []) (rc := 0) (ci := 11) (d' := 0) (by decide +kernel) ml_X11_140 cv_X11_refused rfl (by decide) rfl ob_0 rfl (by decide) (Nat.le_of_ble_eq_true rfl) (t_X11_refused hc_2) ?_
    obtain rfl := Option.some.inj h
    exact Fr_iret (by decide +kernel) rfl ⟨rfl, rfl⟩
  · have h := iF hc h
    refine Fr_iload_n (q := 1) (i := 1) 1 (by decide +kernel) rfl rfl ?_
    refine Fr_bipush (i := 24) (v := 24) (by decide +kernel) (by decide) ?_
    refine Fr_icmp_ge (off := 12) 20 (by decide +kernel) (by decide) (fun hc => ?_) (fun hc => ?_)
    · have h := iT hc h
      refine Fr_aload_n (q := 0) (i := 0) 0 (by decide +kernel) rfl rfl ?_
      refine Fr_iconst (i := 5) (v := 5) (by decide +kernel) (by decide) ?_
      obtain ⟨r_6, M_4, hc_5, h⟩ := bi_elim h
      refine Fr_cVi (ν := m_X11_refused) (As := [.int 5]) (st := []) (rc := 0) (ci := 11) (d' := 0) (by decide +kernel) ml_X11_140 cv_X11_refused rfl (by decide) rfl ob_0 rfl (by decide) (Nat.le_of_ble_eq_true rfl) (t_X11_refused hc_5) ?_
      obtain rfl := Option.some.inj h
      exact Fr_iret (by decide +kernel) rfl ⟨rfl, rfl⟩
    · have h := iF hc h
      refine Fr_iload_n (q := 2) (i := 2) 2 (by decide +kernel) rfl rfl ?_
      refine Fr_if_lt (off := 8) 20 (by decide +kernel) (by decide) (fun hc => ?_) (fun hc => ?_)
      · have h := iT hc h
        refine Fr_aload_n (q := 0) (i := 0) 0 (by decide +kernel) rfl rfl ?_
        refine Fr_iconst (i := 5) (v := 5) (by decide +kernel) (by decide) ?_
        obtain ⟨r_9, M_7, hc_8, h⟩ := bi_elim h
        refine Fr_cVi (ν := m_X11_refused) (As := [.int 5]) (st := []) (rc := 0) (ci := 11) (d' := 0) (by decide +kernel) ml_X11_140 cv_X11_refused rfl (by decide) rfl ob_0 rfl (by decide) (Nat.le_of_ble_eq_true rfl) (t_X11_refused hc_8) ?_
        obtain rfl := Option.some.inj h
        exact Fr_iret (by decide +kernel) rfl ⟨rfl, rfl⟩
      · have h := iF hc h
        refine Fr_iload_n (q := 2) (i := 2) 2 (by decide +kernel) rfl rfl ?_
        refine Fr_iconst (i := 1) (v := 1) (by decide +kernel) (by decide) ?_
        refine Fr_icmp_le (off := 9) 26 (by decide +kernel) (by decide) (fun hc => ?_) (fun hc => ?_)
        · have h := iT hc h
          refine Fr_aload_n (q := 0) (i := 0) 0 (by decide +kernel) rfl rfl ?_
          refine gf_X11_89 rfl (by decide +kernel) ob_0 ?_
          refine Fr_aload_n (q := 0) (i := 0) 0 (by decide +kernel) rfl rfl ?_
          refine gf_X11_34 rfl (by decide +kernel) ob_0 ?_
          refine Fr_iload_n (q := 1) (i := 1) 1 (by decide +kernel) rfl rfl ?_
          obtain ⟨M_10, hc_11, h⟩ := bv_elim h
          refine Fr_cVv (ν := m_X0_findTurn) (As := [.ref 10, .int x1]) (st := []) (rc := 93) (ci := 0) (d' := 5) (by decide +kernel) ml_X11_315 cv_X0_findTurn rfl (by decide) rfl ob_93 rfl (by decide) (Nat.le_of_ble_eq_true rfl) (t_X0_findTurn ob_10 hc_11) ?_
          refine Fr_aload_n (q := 0) (i := 0) 0 (by decide +kernel) rfl rfl ?_
          refine Fr_iload_n (q := 2) (i := 2) 2 (by decide +kernel) rfl rfl ?_
          refine Fr_if_ne (off := 13) 53 (by decide +kernel) (by decide) (fun hc => ?_) (fun hc => ?_)
          · have h := iF hc h
            refine Fr_aload_n (q := 0) (i := 0) 0 (by decide +kernel) rfl rfl ?_
            refine gf_X11_89 rfl (by decide +kernel) ob_0 ?_
            refine gf_X11_318 rfl (by decide +kernel) ob_93 ?_
            obtain ⟨r_14, M_12, hc_13, h⟩ := bi_elim h
            refine Fr_cVi (ν := m_X11_answered) (As := [.int (M_10.1 93 8)]) (st := []) (rc := 0) (ci := 11) (d' := 0) (by decide +kernel) ml_X11_176 cv_X11_answered rfl (by decide) rfl ob_0 rfl (by decide) (Nat.le_of_ble_eq_true rfl) (t_X11_answered hc_13) ?_
            obtain rfl := Option.some.inj h
            exact Fr_iret (by decide +kernel) rfl ⟨rfl, rfl⟩
          · have h := iT hc h
            refine Fr_aload_n (q := 0) (i := 0) 0 (by decide +kernel) rfl rfl ?_
            refine gf_X11_89 rfl (by decide +kernel) ob_0 ?_
            refine gf_X11_312 rfl (by decide +kernel) ob_93 ?_
            refine Fr_goto (off := 10) 60 (by decide +kernel) (by decide) ?_
            obtain ⟨r_17, M_15, hc_16, h⟩ := bi_elim h
            refine Fr_cVi (ν := m_X11_answered) (As := [.int (M_10.1 93 7)]) (st := []) (rc := 0) (ci := 11) (d' := 0) (by decide +kernel) ml_X11_176 cv_X11_answered rfl (by decide) rfl ob_0 rfl (by decide) (Nat.le_of_ble_eq_true rfl) (t_X11_answered hc_16) ?_
            obtain rfl := Option.some.inj h
            exact Fr_iret (by decide +kernel) rfl ⟨rfl, rfl⟩
        · have h := iF hc h
          refine Fr_aload_n (q := 0) (i := 0) 0 (by decide +kernel) rfl rfl ?_
          refine Fr_iconst (i := 5) (v := 5) (by decide +kernel) (by decide) ?_
          obtain ⟨r_20, M_18, hc_19, h⟩ := bi_elim h
          refine Fr_cVi (ν := m_X11_refused) (As := [.int 5]) (st := []) (rc := 0) (ci := 11) (d' := 0) (by decide +kernel) ml_X11_140 cv_X11_refused rfl (by decide) rfl ob_0 rfl (by decide) (Nat.le_of_ble_eq_true rfl) (t_X11_refused hc_19) ?_
          obtain rfl := Option.some.inj h
          exact Fr_iret (by decide +kernel) rfl ⟨rfl, rfl⟩
def f_X11_way (N : Nat) (x1 : Int32) (x2 : Int32) (x3 : Int32) (x4 : Int32) (x5 : Int32) (M : Mem) : Option (Int32 × Mem) :=
  bi (f_X5_isBoard 10 x1 x2 M) fun r_3 M_1 =>
  if (b2i r_3) = 0 then (bi (f_X11_refused 2 M_1) fun r_6 M_4 =>
  some (r_6, M_4)) else (bi (f_X5_isBoard 10 x3 x4 M_1) fun r_9 M_7 =>
  if (b2i r_9) = 0 then (bi (f_X11_refused 2 M_7) fun r_30 M_28 =>
  some (r_30, M_28)) else (if x5 < 0 then (bi (f_X11_refused 5 M_7) fun r_12 M_10 =>
  some (r_12, M_10)) else (if x5 ≤ 2 then (bi (f_X5_boardAt 10 x1 x2 M_7) fun r_15 M_13 =>
  bi (f_X5_boardAt 10 x3 x4 M_13) fun r_18 M_16 =>
  bi (f_X7_leastCount N 10 r_15 r_18 x5 M_16) fun r_21 M_19 =>
  bi (f_X11_answeredIfAny r_21 M_19) fun r_24 M_22 =>
  some (r_24, M_22)) else (bi (f_X11_refused 5 M_7) fun r_27 M_25 =>
  some (r_27, M_25)))))
set_option maxRecDepth 20000 in
theorem t_X11_way {N : Nat} {x1 : Int32} {x2 : Int32} {x3 : Int32} {x4 : Int32} {x5 : Int32} {M : Mem} {q : Int32 × Mem} (h : f_X11_way N x1 x2 x3 x4 x5 M = some q) : Ev 0 111 5 m_X11_way [.ref 0, .int x1, .int x2, .int x3, .int x4, .int x5] M (QI q) := by
  refine Ev_of_Fr (by decide +kernel) (Nat.le_of_ble_eq_true rfl) ?_
  show Fr 0 111 5 m_X11_way 0 [(0, .ref 0), (1, .int x1), (2, .int x2), (3, .int x3), (4, .int x4), (5, .int x5)] [] M (QI q)
  unfold f_X11_way at h
  refine Fr_aload_n (q := 0) (i := 0) 0 (by decide +kernel) rfl rfl ?_
  refine gf_X11_34 rfl (by decide +kernel) ob_0 ?_
  refine Fr_iload_n (q := 1) (i := 1) 1 (by decide +kernel) rfl rfl ?_
  refine Fr_iload_n (q := 2) (i := 2) 2 (by decide +kernel) rfl rfl ?_
  obtain ⟨r_3, M_1, hc_2, h⟩ := bi_elim h
  refine Fr_cVb (ν := m_X5_isBoard) (As := [.int x1, .int x2]) (st := []) (rc := 10) (ci := 5) (d' := 0) (by decide +kernel) ml_X11_225 cv_X5_isBoard rfl (by decide) rfl ob_10 rfl (by decide) (Nat.le_of_ble_eq_true rfl) (t_X5_isBoard ob_10 hc_2) ?_
  refine Fr_if_eq (off := 16) 25 (by decide +kernel) (by decide) (fun hc => ?_) (fun hc => ?_)
  · have h := iT hc h
    refine Fr_aload_n (q := 0) (i := 0) 0 (by decide +kernel) rfl rfl ?_
    refine Fr_iconst (i := 2) (v := 2) (by decide +kernel) (by decide) ?_
    obtain ⟨r_6, M_4, hc_5, h⟩ := bi_elim h
    refine Fr_cVi (ν := m_X11_refused) (As := [.int 2]) (st := []) (rc := 0) (ci := 11) (d' := 0) (by decide +kernel) ml_X11_140 cv_X11_refused rfl (by decide) rfl ob_0 rfl (by decide) (Nat.le_of_ble_eq_true rfl) (t_X11_refused hc_5) ?_
    obtain rfl := Option.some.inj h
    exact Fr_iret (by decide +kernel) rfl ⟨rfl, rfl⟩
  · have h := iF hc h
    refine Fr_aload_n (q := 0) (i := 0) 0 (by decide +kernel) rfl rfl ?_
    refine gf_X11_34 rfl (by decide +kernel) ob_0 ?_
    refine Fr_iload_n (q := 3) (i := 3) 3 (by decide +kernel) rfl rfl ?_
    refine Fr_iload (i := 4) 4 (by decide +kernel) rfl ?_
    obtain ⟨r_9, M_7, hc_8, h⟩ := bi_elim h
    refine Fr_cVb (ν := m_X5_isBoard) (As := [.int x3, .int x4]) (st := []) (rc := 10) (ci := 5) (d' := 0) (by decide +kernel) ml_X11_225 cv_X5_isBoard rfl (by decide) rfl ob_10 rfl (by decide) (Nat.le_of_ble_eq_true rfl) (t_X5_isBoard ob_10 hc_8) ?_
    refine Fr_if_ne (off := 9) 31 (by decide +kernel) (by decide) (fun hc => ?_) (fun hc => ?_)
    · have h := iF hc h
      refine Fr_iload (i := 5) 5 (by decide +kernel) rfl ?_
      refine Fr_if_lt (off := 9) 42 (by decide +kernel) (by decide) (fun hc => ?_) (fun hc => ?_)
      · have h := iT hc h
        refine Fr_aload_n (q := 0) (i := 0) 0 (by decide +kernel) rfl rfl ?_
        refine Fr_iconst (i := 5) (v := 5) (by decide +kernel) (by decide) ?_
        obtain ⟨r_12, M_10, hc_11, h⟩ := bi_elim h
        refine Fr_cVi (ν := m_X11_refused) (As := [.int 5]) (st := []) (rc := 0) (ci := 11) (d' := 0) (by decide +kernel) ml_X11_140 cv_X11_refused rfl (by decide) rfl ob_0 rfl (by decide) (Nat.le_of_ble_eq_true rfl) (t_X11_refused hc_11) ?_
        obtain rfl := Option.some.inj h
        exact Fr_iret (by decide +kernel) rfl ⟨rfl, rfl⟩
      · have h := iF hc h
        refine Fr_iload (i := 5) 5 (by decide +kernel) rfl ?_
        refine Fr_iconst (i := 2) (v := 2) (by decide +kernel) (by decide) ?_
        refine Fr_icmp_le (off := 9) 48 (by decide +kernel) (by decide) (fun hc => ?_) (fun hc => ?_)
        · have h := iT hc h
          refine Fr_aload_n (q := 0) (i := 0) 0 (by decide +kernel) rfl rfl ?_
          refine gf_X11_34 rfl (by decide +kernel) ob_0 ?_
          refine Fr_iload_n (q := 1) (i := 1) 1 (by decide +kernel) rfl rfl ?_
          refine Fr_iload_n (q := 2) (i := 2) 2 (by decide +kernel) rfl rfl ?_
          obtain ⟨r_15, M_13, hc_14, h⟩ := bi_elim h
          refine Fr_cVi (ν := m_X5_boardAt) (As := [.int x1, .int x2]) (st := []) (rc := 10) (ci := 5) (d' := 0) (by decide +kernel) ml_X11_232 cv_X5_boardAt rfl (by decide) rfl ob_10 rfl (by decide) (Nat.le_of_ble_eq_true rfl) (t_X5_boardAt ob_10 hc_14) ?_
          refine Fr_istore (i := 6) (lv' := [(6, .int r_15), (0, .ref 0), (1, .int x1), (2, .int x2), (3, .int x3), (4, .int x4), (5, .int x5)]) (by decide +kernel) (by decide) rfl ?_
          refine Fr_aload_n (q := 0) (i := 0) 1 (by decide +kernel) rfl rfl ?_
          refine Fr_aload_n (q := 0) (i := 0) 1 (by decide +kernel) rfl rfl ?_
          refine gf_X11_96 rfl (by decide +kernel) ob_0 ?_
          refine Fr_aload_n (q := 0) (i := 0) 1 (by decide +kernel) rfl rfl ?_
          refine gf_X11_34 rfl (by decide +kernel) ob_0 ?_
          refine Fr_iload (i := 6) 0 (by decide +kernel) rfl ?_
          refine Fr_aload_n (q := 0) (i := 0) 1 (by decide +kernel) rfl rfl ?_
          refine gf_X11_34 rfl (by decide +kernel) ob_0 ?_
          refine Fr_iload_n (q := 3) (i := 3) 4 (by decide +kernel) rfl rfl ?_
          refine Fr_iload (i := 4) 5 (by decide +kernel) rfl ?_
          obtain ⟨r_18, M_16, hc_17, h⟩ := bi_elim h
          refine Fr_cVi (ν := m_X5_boardAt) (As := [.int x3, .int x4]) (st := [.int r_15, .ref 10, .ref 96, .ref 0]) (rc := 10) (ci := 5) (d' := 0) (by decide +kernel) ml_X11_232 cv_X5_boardAt rfl (by decide) rfl ob_10 rfl (by decide) (Nat.le_of_ble_eq_true rfl) (t_X5_boardAt ob_10 hc_17) ?_
          refine Fr_iload (i := 5) 6 (by decide +kernel) rfl ?_
          obtain ⟨r_21, M_19, hc_20, h⟩ := bi_elim h
          refine Fr_cVi (ν := m_X7_leastCount) (As := [.ref 10, .int r_15, .int r_18, .int x5]) (st := [.ref 0]) (rc := 96) (ci := 7) (d' := 4) (by decide +kernel) ml_X11_321 cv_X7_leastCount rfl (by decide) rfl ob_96 rfl (by decide) (Nat.le_of_ble_eq_true rfl) (t_X7_leastCount ob_10 hc_20) ?_
          obtain ⟨r_24, M_22, hc_23, h⟩ := bi_elim h
          refine Fr_cVi (ν := m_X11_answeredIfAny) (As := [.int r_21]) (st := []) (rc := 0) (ci := 11) (d' := 1) (by decide +kernel) ml_X11_289 cv_X11_answeredIfAny rfl (by decide) rfl ob_0 rfl (by decide) (Nat.le_of_ble_eq_true rfl) (t_X11_answeredIfAny hc_23) ?_
          obtain rfl := Option.some.inj h
          exact Fr_iret (by decide +kernel) rfl ⟨rfl, rfl⟩
        · have h := iF hc h
          refine Fr_aload_n (q := 0) (i := 0) 0 (by decide +kernel) rfl rfl ?_
          refine Fr_iconst (i := 5) (v := 5) (by decide +kernel) (by decide) ?_
          obtain ⟨r_27, M_25, hc_26, h⟩ := bi_elim h
          refine Fr_cVi (ν := m_X11_refused) (As := [.int 5]) (st := []) (rc := 0) (ci := 11) (d' := 0) (by decide +kernel) ml_X11_140 cv_X11_refused rfl (by decide) rfl ob_0 rfl (by decide) (Nat.le_of_ble_eq_true rfl) (t_X11_refused hc_26) ?_
          obtain rfl := Option.some.inj h
          exact Fr_iret (by decide +kernel) rfl ⟨rfl, rfl⟩
    · have h := iT hc h
      refine Fr_aload_n (q := 0) (i := 0) 0 (by decide +kernel) rfl rfl ?_
      refine Fr_iconst (i := 2) (v := 2) (by decide +kernel) (by decide) ?_
      obtain ⟨r_30, M_28, hc_29, h⟩ := bi_elim h
      refine Fr_cVi (ν := m_X11_refused) (As := [.int 2]) (st := []) (rc := 0) (ci := 11) (d' := 0) (by decide +kernel) ml_X11_140 cv_X11_refused rfl (by decide) rfl ob_0 rfl (by decide) (Nat.le_of_ble_eq_true rfl) (t_X11_refused hc_29) ?_
      obtain rfl := Option.some.inj h
      exact Fr_iret (by decide +kernel) rfl ⟨rfl, rfl⟩
def f_X11_sail (N : Nat) (x1 : Int32) (M : Mem) : Option (Int32 × Mem) :=
  bi (f_X5_isShip 10 x1 M) fun r_3 M_1 =>
  if (b2i r_3) = 0 then (bi (f_X11_refused 2 M_1) fun r_12 M_10 =>
  some (r_12, M_10)) else (bi (f_X7_leastHours N 10 x1 M_1) fun r_6 M_4 =>
  bi (f_X11_answeredIfAny r_6 M_4) fun r_9 M_7 =>
  some (r_9, M_7))
set_option maxRecDepth 20000 in
theorem t_X11_sail {N : Nat} {x1 : Int32} {M : Mem} {q : Int32 × Mem} (h : f_X11_sail N x1 M = some q) : Ev 0 111 5 m_X11_sail [.ref 0, .int x1] M (QI q) := by
  refine Ev_of_Fr (by decide +kernel) (Nat.le_of_ble_eq_true rfl) ?_
  show Fr 0 111 5 m_X11_sail 0 [(0, .ref 0), (1, .int x1)] [] M (QI q)
  unfold f_X11_sail at h
  refine Fr_aload_n (q := 0) (i := 0) 0 (by decide +kernel) rfl rfl ?_
  refine gf_X11_34 rfl (by decide +kernel) ob_0 ?_
  refine Fr_iload_n (q := 1) (i := 1) 1 (by decide +kernel) rfl rfl ?_
  obtain ⟨r_3, M_1, hc_2, h⟩ := bi_elim h
  refine Fr_cVb (ν := m_X5_isShip) (As := [.int x1]) (st := []) (rc := 10) (ci := 5) (d' := 0) (by decide +kernel) ml_X11_219 cv_X5_isShip rfl (by decide) rfl ob_10 rfl (by decide) (Nat.le_of_ble_eq_true rfl) (t_X5_isShip ob_10 hc_2) ?_
  refine Fr_if_ne (off := 9) 17 (by decide +kernel) (by decide) (fun hc => ?_) (fun hc => ?_)
  · have h := iF hc h
    refine Fr_aload_n (q := 0) (i := 0) 0 (by decide +kernel) rfl rfl ?_
    refine Fr_aload_n (q := 0) (i := 0) 0 (by decide +kernel) rfl rfl ?_
    refine gf_X11_96 rfl (by decide +kernel) ob_0 ?_
    refine Fr_aload_n (q := 0) (i := 0) 0 (by decide +kernel) rfl rfl ?_
    refine gf_X11_34 rfl (by decide +kernel) ob_0 ?_
    refine Fr_iload_n (q := 1) (i := 1) 1 (by decide +kernel) rfl rfl ?_
    obtain ⟨r_6, M_4, hc_5, h⟩ := bi_elim h
    refine Fr_cVi (ν := m_X7_leastHours) (As := [.ref 10, .int x1]) (st := [.ref 0]) (rc := 96) (ci := 7) (d' := 4) (by decide +kernel) ml_X11_325 cv_X7_leastHours rfl (by decide) rfl ob_96 rfl (by decide) (Nat.le_of_ble_eq_true rfl) (t_X7_leastHours ob_10 hc_5) ?_
    obtain ⟨r_9, M_7, hc_8, h⟩ := bi_elim h
    refine Fr_cVi (ν := m_X11_answeredIfAny) (As := [.int r_6]) (st := []) (rc := 0) (ci := 11) (d' := 1) (by decide +kernel) ml_X11_289 cv_X11_answeredIfAny rfl (by decide) rfl ob_0 rfl (by decide) (Nat.le_of_ble_eq_true rfl) (t_X11_answeredIfAny hc_8) ?_
    obtain rfl := Option.some.inj h
    exact Fr_iret (by decide +kernel) rfl ⟨rfl, rfl⟩
  · have h := iT hc h
    refine Fr_aload_n (q := 0) (i := 0) 0 (by decide +kernel) rfl rfl ?_
    refine Fr_iconst (i := 2) (v := 2) (by decide +kernel) (by decide) ?_
    obtain ⟨r_12, M_10, hc_11, h⟩ := bi_elim h
    refine Fr_cVi (ν := m_X11_refused) (As := [.int 2]) (st := []) (rc := 0) (ci := 11) (d' := 0) (by decide +kernel) ml_X11_140 cv_X11_refused rfl (by decide) rfl ob_0 rfl (by decide) (Nat.le_of_ble_eq_true rfl) (t_X11_refused hc_11) ?_
    obtain rfl := Option.some.inj h
    exact Fr_iret (by decide +kernel) rfl ⟨rfl, rfl⟩
def f_X11_watch (N : Nat) (x1 : Int32) (x2 : Int32) (x3 : Int32) (x4 : Int32) (M : Mem) : Option (Int32 × Mem) :=
  bi (f_X5_isBoard 10 x1 x2 M) fun r_3 M_1 =>
  if (b2i r_3) = 0 then (bi (f_X11_refused 2 M_1) fun r_6 M_4 =>
  some (r_6, M_4)) else (bi (f_X5_isBoard 10 x3 x4 M_1) fun r_9 M_7 =>
  if (b2i r_9) = 0 then (bi (f_X11_refused 2 M_7) fun r_27 M_25 =>
  some (r_27, M_25)) else (if 2 ≤ ((iabs (x1 - x3)) + (iabs (x2 - x4))) then (bi (f_X5_boardAt 10 x1 x2 M_7) fun r_12 M_10 =>
  bi (f_X5_boardAt 10 x3 x4 M_10) fun r_15 M_13 =>
  bi (f_X7_leastWatch N 10 r_12 r_15 M_13) fun r_18 M_16 =>
  bi (f_X11_answered r_18 M_16) fun r_21 M_19 =>
  some (r_21, M_19)) else (bi (f_X11_refused 9 M_7) fun r_24 M_22 =>
  some (r_24, M_22))))
set_option maxRecDepth 20000 in
theorem t_X11_watch {N : Nat} {x1 : Int32} {x2 : Int32} {x3 : Int32} {x4 : Int32} {M : Mem} {q : Int32 × Mem} (h : f_X11_watch N x1 x2 x3 x4 M = some q) : Ev 0 111 5 m_X11_watch [.ref 0, .int x1, .int x2, .int x3, .int x4] M (QI q) := by
  refine Ev_of_Fr (by decide +kernel) (Nat.le_of_ble_eq_true rfl) ?_
  show Fr 0 111 5 m_X11_watch 0 [(0, .ref 0), (1, .int x1), (2, .int x2), (3, .int x3), (4, .int x4)] [] M (QI q)
  unfold f_X11_watch at h
  refine Fr_aload_n (q := 0) (i := 0) 0 (by decide +kernel) rfl rfl ?_
  refine gf_X11_34 rfl (by decide +kernel) ob_0 ?_
  refine Fr_iload_n (q := 1) (i := 1) 1 (by decide +kernel) rfl rfl ?_
  refine Fr_iload_n (q := 2) (i := 2) 2 (by decide +kernel) rfl rfl ?_
  obtain ⟨r_3, M_1, hc_2, h⟩ := bi_elim h
  refine Fr_cVb (ν := m_X5_isBoard) (As := [.int x1, .int x2]) (st := []) (rc := 10) (ci := 5) (d' := 0) (by decide +kernel) ml_X11_225 cv_X5_isBoard rfl (by decide) rfl ob_10 rfl (by decide) (Nat.le_of_ble_eq_true rfl) (t_X5_isBoard ob_10 hc_2) ?_
  refine Fr_if_eq (off := 16) 25 (by decide +kernel) (by decide) (fun hc => ?_) (fun hc => ?_)
  · have h := iT hc h
    refine Fr_aload_n (q := 0) (i := 0) 0 (by decide +kernel) rfl rfl ?_
    refine Fr_iconst (i := 2) (v := 2) (by decide +kernel) (by decide) ?_
    obtain ⟨r_6, M_4, hc_5, h⟩ := bi_elim h
    refine Fr_cVi (ν := m_X11_refused) (As := [.int 2]) (st := []) (rc := 0) (ci := 11) (d' := 0) (by decide +kernel) ml_X11_140 cv_X11_refused rfl (by decide) rfl ob_0 rfl (by decide) (Nat.le_of_ble_eq_true rfl) (t_X11_refused hc_5) ?_
    obtain rfl := Option.some.inj h
    exact Fr_iret (by decide +kernel) rfl ⟨rfl, rfl⟩
  · have h := iF hc h
    refine Fr_aload_n (q := 0) (i := 0) 0 (by decide +kernel) rfl rfl ?_
    refine gf_X11_34 rfl (by decide +kernel) ob_0 ?_
    refine Fr_iload_n (q := 3) (i := 3) 3 (by decide +kernel) rfl rfl ?_
    refine Fr_iload (i := 4) 4 (by decide +kernel) rfl ?_
    obtain ⟨r_9, M_7, hc_8, h⟩ := bi_elim h
    refine Fr_cVb (ν := m_X5_isBoard) (As := [.int x3, .int x4]) (st := []) (rc := 10) (ci := 5) (d' := 0) (by decide +kernel) ml_X11_225 cv_X5_isBoard rfl (by decide) rfl ob_10 rfl (by decide) (Nat.le_of_ble_eq_true rfl) (t_X5_isBoard ob_10 hc_8) ?_
    refine Fr_if_ne (off := 9) 31 (by decide +kernel) (by decide) (fun hc => ?_) (fun hc => ?_)
    · have h := iF hc h
      refine Fr_iload_n (q := 1) (i := 1) 1 (by decide +kernel) rfl rfl ?_
      refine Fr_iload_n (q := 3) (i := 3) 3 (by decide +kernel) rfl rfl ?_
      refine Fr_isub (by decide +kernel) ?_
      refine Fr_abs (by decide +kernel) ml_X11_328 (by decide) (Nat.le_of_ble_eq_true rfl) ?_
      refine Fr_iload_n (q := 2) (i := 2) 2 (by decide +kernel) rfl rfl ?_
      refine Fr_iload (i := 4) 4 (by decide +kernel) rfl ?_
      refine Fr_isub (by decide +kernel) ?_
      refine Fr_abs (by decide +kernel) ml_X11_328 (by decide) (Nat.le_of_ble_eq_true rfl) ?_
      refine Fr_iadd (by decide +kernel) ?_
      refine Fr_iconst (i := 2) (v := 2) (by decide +kernel) (by decide) ?_
      refine Fr_icmp_ge (off := 10) 56 (by decide +kernel) (by decide) (fun hc => ?_) (fun hc => ?_)
      · have h := iT hc h
        refine Fr_aload_n (q := 0) (i := 0) 0 (by decide +kernel) rfl rfl ?_
        refine gf_X11_34 rfl (by decide +kernel) ob_0 ?_
        refine Fr_iload_n (q := 1) (i := 1) 1 (by decide +kernel) rfl rfl ?_
        refine Fr_iload_n (q := 2) (i := 2) 2 (by decide +kernel) rfl rfl ?_
        obtain ⟨r_12, M_10, hc_11, h⟩ := bi_elim h
        refine Fr_cVi (ν := m_X5_boardAt) (As := [.int x1, .int x2]) (st := []) (rc := 10) (ci := 5) (d' := 0) (by decide +kernel) ml_X11_232 cv_X5_boardAt rfl (by decide) rfl ob_10 rfl (by decide) (Nat.le_of_ble_eq_true rfl) (t_X5_boardAt ob_10 hc_11) ?_
        refine Fr_istore (i := 5) (lv' := [(5, .int r_12), (0, .ref 0), (1, .int x1), (2, .int x2), (3, .int x3), (4, .int x4)]) (by decide +kernel) (by decide) rfl ?_
        refine Fr_aload_n (q := 0) (i := 0) 1 (by decide +kernel) rfl rfl ?_
        refine Fr_aload_n (q := 0) (i := 0) 1 (by decide +kernel) rfl rfl ?_
        refine gf_X11_96 rfl (by decide +kernel) ob_0 ?_
        refine Fr_aload_n (q := 0) (i := 0) 1 (by decide +kernel) rfl rfl ?_
        refine gf_X11_34 rfl (by decide +kernel) ob_0 ?_
        refine Fr_iload (i := 5) 0 (by decide +kernel) rfl ?_
        refine Fr_aload_n (q := 0) (i := 0) 1 (by decide +kernel) rfl rfl ?_
        refine gf_X11_34 rfl (by decide +kernel) ob_0 ?_
        refine Fr_iload_n (q := 3) (i := 3) 4 (by decide +kernel) rfl rfl ?_
        refine Fr_iload (i := 4) 5 (by decide +kernel) rfl ?_
        obtain ⟨r_15, M_13, hc_14, h⟩ := bi_elim h
        refine Fr_cVi (ν := m_X5_boardAt) (As := [.int x3, .int x4]) (st := [.int r_12, .ref 10, .ref 96, .ref 0]) (rc := 10) (ci := 5) (d' := 0) (by decide +kernel) ml_X11_232 cv_X5_boardAt rfl (by decide) rfl ob_10 rfl (by decide) (Nat.le_of_ble_eq_true rfl) (t_X5_boardAt ob_10 hc_14) ?_
        obtain ⟨r_18, M_16, hc_17, h⟩ := bi_elim h
        refine Fr_cVi (ν := m_X7_leastWatch) (As := [.ref 10, .int r_12, .int r_15]) (st := [.ref 0]) (rc := 96) (ci := 7) (d' := 4) (by decide +kernel) ml_X11_331 cv_X7_leastWatch rfl (by decide) rfl ob_96 rfl (by decide) (Nat.le_of_ble_eq_true rfl) (t_X7_leastWatch ob_10 hc_17) ?_
        obtain ⟨r_21, M_19, hc_20, h⟩ := bi_elim h
        refine Fr_cVi (ν := m_X11_answered) (As := [.int r_18]) (st := []) (rc := 0) (ci := 11) (d' := 0) (by decide +kernel) ml_X11_176 cv_X11_answered rfl (by decide) rfl ob_0 rfl (by decide) (Nat.le_of_ble_eq_true rfl) (t_X11_answered hc_20) ?_
        obtain rfl := Option.some.inj h
        exact Fr_iret (by decide +kernel) rfl ⟨rfl, rfl⟩
      · have h := iF hc h
        refine Fr_aload_n (q := 0) (i := 0) 0 (by decide +kernel) rfl rfl ?_
        refine Fr_bipush (i := 9) (v := 9) (by decide +kernel) (by decide) ?_
        obtain ⟨r_24, M_22, hc_23, h⟩ := bi_elim h
        refine Fr_cVi (ν := m_X11_refused) (As := [.int 9]) (st := []) (rc := 0) (ci := 11) (d' := 0) (by decide +kernel) ml_X11_140 cv_X11_refused rfl (by decide) rfl ob_0 rfl (by decide) (Nat.le_of_ble_eq_true rfl) (t_X11_refused hc_23) ?_
        obtain rfl := Option.some.inj h
        exact Fr_iret (by decide +kernel) rfl ⟨rfl, rfl⟩
    · have h := iT hc h
      refine Fr_aload_n (q := 0) (i := 0) 0 (by decide +kernel) rfl rfl ?_
      refine Fr_iconst (i := 2) (v := 2) (by decide +kernel) (by decide) ?_
      obtain ⟨r_27, M_25, hc_26, h⟩ := bi_elim h
      refine Fr_cVi (ν := m_X11_refused) (As := [.int 2]) (st := []) (rc := 0) (ci := 11) (d' := 0) (by decide +kernel) ml_X11_140 cv_X11_refused rfl (by decide) rfl ob_0 rfl (by decide) (Nat.le_of_ble_eq_true rfl) (t_X11_refused hc_26) ?_
      obtain rfl := Option.some.inj h
      exact Fr_iret (by decide +kernel) rfl ⟨rfl, rfl⟩
