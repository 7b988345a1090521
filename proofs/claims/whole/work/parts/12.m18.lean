def f_X11_together (N : Nat) (x1 : Int32) (x2 : Int32) (M : Mem) : Option (Int32 × Mem) :=
  bi (f_X5_isGate 10 x1 M) fun r_3 M_1 =>
  if (b2i r_3) = 0 then (bi (f_X11_refused 2 M_1) fun r_21 M_19 =>
  some (r_21, M_19)) else (bi (f_X5_isHolderSet 10 x2 M_1) fun r_6 M_4 =>
  if (b2i r_6) = 0 then (bi (f_X11_refused 5 M_4) fun r_18 M_16 =>
  some (r_18, M_16)) else (bi (f_X5_canOpen N 10 x1 x2 M_4) fun r_9 M_7 =>
  if (b2i r_9) = 0 then (bi (f_X11_answered 0 M_7) fun r_12 M_10 =>
  some (r_12, M_10)) else (bi (f_X11_answered 1 M_7) fun r_15 M_13 =>
  some (r_15, M_13))))
set_option maxRecDepth 20000 in
theorem t_X11_together {N : Nat} {x1 : Int32} {x2 : Int32} {M : Mem} {q : Int32 × Mem} (h : f_X11_together N x1 x2 M = some q) : Ev 0 111 2 m_X11_together [.ref 0, .int x1, .int x2] M (QI q) := by
  refine Ev_of_Fr (by decide +kernel) (Nat.le_of_ble_eq_true rfl) ?_
  show Fr 0 111 2 m_X11_together 0 [(0, .ref 0), (1, .int x1), (2, .int x2)] [] M (QI q)
  unfold f_X11_together at h
  refine Fr_aload_n (q := 0) (i := 0) 0 (by decide +kernel) rfl rfl ?_
  refine gf_X11_34 rfl (by decide +kernel) ob_0 ?_
  refine Fr_iload_n (q := 1) (i := 1) 1 (by decide +kernel) rfl rfl ?_
  obtain ⟨r_3, M_1, hc_2, h⟩ := bi_elim h
  refine Fr_cVb (ν := m_X5_isGate) (As := [.int x1]) (st := []) (rc := 10) (ci := 5) (d' := 0) (by decide +kernel) ml_X11_200 cv_X5_isGate rfl (by decide) rfl ob_10 rfl (by decide) (Nat.le_of_ble_eq_true rfl) (t_X5_isGate ob_10 hc_2) ?_
  refine Fr_if_ne (off := 9) 17 (by decide +kernel) (by decide) (fun hc => ?_) (fun hc => ?_)
  · have h := iF hc h
    refine Fr_aload_n (q := 0) (i := 0) 0 (by decide +kernel) rfl rfl ?_
    refine gf_X11_34 rfl (by decide +kernel) ob_0 ?_
    refine Fr_iload_n (q := 2) (i := 2) 2 (by decide +kernel) rfl rfl ?_
    obtain ⟨r_6, M_4, hc_5, h⟩ := bi_elim h
    refine Fr_cVb (ν := m_X5_isHolderSet) (As := [.int x2]) (st := []) (rc := 10) (ci := 5) (d' := 1) (by decide +kernel) ml_X11_264 cv_X5_isHolderSet rfl (by decide) rfl ob_10 rfl (by decide) (Nat.le_of_ble_eq_true rfl) (t_X5_isHolderSet ob_10 hc_5) ?_
    refine Fr_if_ne (off := 9) 34 (by decide +kernel) (by decide) (fun hc => ?_) (fun hc => ?_)
    · have h := iF hc h
      refine Fr_aload_n (q := 0) (i := 0) 0 (by decide +kernel) rfl rfl ?_
      refine Fr_aload_n (q := 0) (i := 0) 0 (by decide +kernel) rfl rfl ?_
      refine gf_X11_34 rfl (by decide +kernel) ob_0 ?_
      refine Fr_iload_n (q := 1) (i := 1) 1 (by decide +kernel) rfl rfl ?_
      refine Fr_iload_n (q := 2) (i := 2) 2 (by decide +kernel) rfl rfl ?_
      obtain ⟨r_9, M_7, hc_8, h⟩ := bi_elim h
      refine Fr_cVb (ν := m_X5_canOpen) (As := [.int x1, .int x2]) (st := [.ref 0]) (rc := 10) (ci := 5) (d' := 1) (by decide +kernel) ml_X11_267 cv_X5_canOpen rfl (by decide) rfl ob_10 rfl (by decide) (Nat.le_of_ble_eq_true rfl) (t_X5_canOpen ob_10 hc_8) ?_
      refine Fr_if_eq (off := 7) 51 (by decide +kernel) (by decide) (fun hc => ?_) (fun hc => ?_)
      · have h := iT hc h
        refine Fr_iconst (i := 0) (v := 0) (by decide +kernel) (by decide) ?_
        obtain ⟨r_12, M_10, hc_11, h⟩ := bi_elim h
        refine Fr_cVi (ν := m_X11_answered) (As := [.int 0]) (st := []) (rc := 0) (ci := 11) (d' := 0) (by decide +kernel) ml_X11_176 cv_X11_answered rfl (by decide) rfl ob_0 rfl (by decide) (Nat.le_of_ble_eq_true rfl) (t_X11_answered hc_11) ?_
        obtain rfl := Option.some.inj h
        exact Fr_iret (by decide +kernel) rfl ⟨rfl, rfl⟩
      · have h := iF hc h
        refine Fr_iconst (i := 1) (v := 1) (by decide +kernel) (by decide) ?_
        refine Fr_goto (off := 4) 52 (by decide +kernel) (by decide) ?_
        obtain ⟨r_15, M_13, hc_14, h⟩ := bi_elim h
        refine Fr_cVi (ν := m_X11_answered) (As := [.int 1]) (st := []) (rc := 0) (ci := 11) (d' := 0) (by decide +kernel) ml_X11_176 cv_X11_answered rfl (by decide) rfl ob_0 rfl (by decide) (Nat.le_of_ble_eq_true rfl) (t_X11_answered hc_14) ?_
        obtain rfl := Option.some.inj h
        exact Fr_iret (by decide +kernel) rfl ⟨rfl, rfl⟩
    · have h := iT hc h
      refine Fr_aload_n (q := 0) (i := 0) 0 (by decide +kernel) rfl rfl ?_
      refine Fr_iconst (i := 5) (v := 5) (by decide +kernel) (by decide) ?_
      obtain ⟨r_18, M_16, hc_17, h⟩ := bi_elim h
      refine Fr_cVi (ν := m_X11_refused) (As := [.int 5]) (st := []) (rc := 0) (ci := 11) (d' := 0) (by decide +kernel) ml_X11_140 cv_X11_refused rfl (by decide) rfl ob_0 rfl (by decide) (Nat.le_of_ble_eq_true rfl) (t_X11_refused hc_17) ?_
      obtain rfl := Option.some.inj h
      exact Fr_iret (by decide +kernel) rfl ⟨rfl, rfl⟩
  · have h := iT hc h
    refine Fr_aload_n (q := 0) (i := 0) 0 (by decide +kernel) rfl rfl ?_
    refine Fr_iconst (i := 2) (v := 2) (by decide +kernel) (by decide) ?_
    obtain ⟨r_21, M_19, hc_20, h⟩ := bi_elim h
    refine Fr_cVi (ν := m_X11_refused) (As := [.int 2]) (st := []) (rc := 0) (ci := 11) (d' := 0) (by decide +kernel) ml_X11_140 cv_X11_refused rfl (by decide) rfl ob_0 rfl (by decide) (Nat.le_of_ble_eq_true rfl) (t_X11_refused hc_20) ?_
    obtain rfl := Option.some.inj h
    exact Fr_iret (by decide +kernel) rfl ⟨rfl, rfl⟩
def f_X11_codeOfVoting (N : Nat) (x1 : Int32) (M : Mem) : Option (Int32 × Mem) :=
  bi (f_X5_isGate 10 x1 M) fun r_3 M_1 =>
  if (b2i r_3) = 0 then (some (2, M_1)) else (bi (f_X5_allHolders 10 M_1) fun r_6 M_4 =>
  bi (f_X5_canOpen N 10 x1 r_6 M_4) fun r_9 M_7 =>
  if (b2i r_9) = 0 then (some (8, M_7)) else (some (0, M_7)))
set_option maxRecDepth 20000 in
theorem t_X11_codeOfVoting {N : Nat} {x1 : Int32} {M : Mem} {q : Int32 × Mem} (h : f_X11_codeOfVoting N x1 M = some q) : Ev 0 111 2 m_X11_codeOfVoting [.ref 0, .int x1] M (QI q) := by
  refine Ev_of_Fr (by decide +kernel) (Nat.le_of_ble_eq_true rfl) ?_
  show Fr 0 111 2 m_X11_codeOfVoting 0 [(0, .ref 0), (1, .int x1)] [] M (QI q)
  unfold f_X11_codeOfVoting at h
  refine Fr_aload_n (q := 0) (i := 0) 0 (by decide +kernel) rfl rfl ?_
  refine gf_X11_34 rfl (by decide +kernel) ob_0 ?_
  refine Fr_iload_n (q := 1) (i := 1) 1 (by decide +kernel) rfl rfl ?_
  obtain ⟨r_3, M_1, hc_2, h⟩ := bi_elim h
  refine Fr_cVb (ν := m_X5_isGate) (As := [.int x1]) (st := []) (rc := 10) (ci := 5) (d' := 0) (by decide +kernel) ml_X11_200 cv_X5_isGate rfl (by decide) rfl ob_10 rfl (by decide) (Nat.le_of_ble_eq_true rfl) (t_X5_isGate ob_10 hc_2) ?_
  refine Fr_if_ne (off := 5) 13 (by decide +kernel) (by decide) (fun hc => ?_) (fun hc => ?_)
  · have h := iF hc h
    refine Fr_aload_n (q := 0) (i := 0) 0 (by decide +kernel) rfl rfl ?_
    refine gf_X11_34 rfl (by decide +kernel) ob_0 ?_
    refine Fr_iload_n (q := 1) (i := 1) 1 (by decide +kernel) rfl rfl ?_
    refine Fr_aload_n (q := 0) (i := 0) 0 (by decide +kernel) rfl rfl ?_
    refine gf_X11_34 rfl (by decide +kernel) ob_0 ?_
    obtain ⟨r_6, M_4, hc_5, h⟩ := bi_elim h
    refine Fr_cVi (ν := m_X5_allHolders) (As := []) (st := [.int x1, .ref 10]) (rc := 10) (ci := 5) (d' := 0) (by decide +kernel) ml_X11_399 cv_X5_allHolders rfl (by decide) rfl ob_10 rfl (by decide) (Nat.le_of_ble_eq_true rfl) (t_X5_allHolders ob_10 hc_5) ?_
    obtain ⟨r_9, M_7, hc_8, h⟩ := bi_elim h
    refine Fr_cVb (ν := m_X5_canOpen) (As := [.int x1, .int r_6]) (st := []) (rc := 10) (ci := 5) (d' := 1) (by decide +kernel) ml_X11_267 cv_X5_canOpen rfl (by decide) rfl ob_10 rfl (by decide) (Nat.le_of_ble_eq_true rfl) (t_X5_canOpen ob_10 hc_8) ?_
    refine Fr_if_eq (off := 7) 35 (by decide +kernel) (by decide) (fun hc => ?_) (fun hc => ?_)
    · have h := iT hc h
      refine Fr_bipush (i := 8) (v := 8) (by decide +kernel) (by decide) ?_
      obtain rfl := Option.some.inj h
      exact Fr_iret (by decide +kernel) rfl ⟨rfl, rfl⟩
    · have h := iF hc h
      refine Fr_iconst (i := 0) (v := 0) (by decide +kernel) (by decide) ?_
      refine Fr_goto (off := 5) 37 (by decide +kernel) (by decide) ?_
      obtain rfl := Option.some.inj h
      exact Fr_iret (by decide +kernel) rfl ⟨rfl, rfl⟩
  · have h := iT hc h
    refine Fr_iconst (i := 2) (v := 2) (by decide +kernel) (by decide) ?_
    obtain rfl := Option.some.inj h
    exact Fr_iret (by decide +kernel) rfl ⟨rfl, rfl⟩
def f_X11_fewest (N : Nat) (x1 : Int32) (M : Mem) : Option (Int32 × Mem) :=
  bi (f_X11_codeOfVoting N x1 M) fun r_3 M_1 =>
  if r_3 = 0 then (bi (f_X5_smallestSet N 10 x1 M_1) fun r_6 M_4 =>
  bi (f_J6_bitCount_0f7a4 r_6 M_4) fun r_9 M_7 =>
  bi (f_X11_answered r_9 M_7) fun r_12 M_10 =>
  some (r_12, M_10)) else (bi (f_X11_refused r_3 M_1) fun r_15 M_13 =>
  some (r_15, M_13))
set_option maxRecDepth 20000 in
theorem t_X11_fewest {N : Nat} {x1 : Int32} {M : Mem} {q : Int32 × Mem} (h : f_X11_fewest N x1 M = some q) : Ev 0 111 3 m_X11_fewest [.ref 0, .int x1] M (QI q) := by
  refine Ev_of_Fr (by decide +kernel) (Nat.le_of_ble_eq_true rfl) ?_
  show Fr 0 111 3 m_X11_fewest 0 [(0, .ref 0), (1, .int x1)] [] M (QI q)
  unfold f_X11_fewest at h
  refine Fr_aload_n (q := 0) (i := 0) 0 (by decide +kernel) rfl rfl ?_
  refine Fr_iload_n (q := 1) (i := 1) 1 (by decide +kernel) rfl rfl ?_
  obtain ⟨r_3, M_1, hc_2, h⟩ := bi_elim h
  refine Fr_cVi (ν := m_X11_codeOfVoting) (As := [.int x1]) (st := []) (rc := 0) (ci := 11) (d' := 2) (by decide +kernel) ml_X11_335 cv_X11_codeOfVoting rfl (by decide) rfl ob_0 rfl (by decide) (Nat.le_of_ble_eq_true rfl) (t_X11_codeOfVoting hc_2) ?_
  refine Fr_istore_n (q := 2) (i := 2) (lv' := [(2, .int r_3), (0, .ref 0), (1, .int x1)]) (by decide +kernel) rfl (by decide) rfl ?_
  refine Fr_iload_n (q := 2) (i := 2) 0 (by decide +kernel) rfl rfl ?_
  refine Fr_if_eq (off := 9) 16 (by decide +kernel) (by decide) (fun hc => ?_) (fun hc => ?_)
  · have h := iT hc h
    refine Fr_aload_n (q := 0) (i := 0) 1 (by decide +kernel) rfl rfl ?_
    refine Fr_aload_n (q := 0) (i := 0) 1 (by decide +kernel) rfl rfl ?_
    refine gf_X11_34 rfl (by decide +kernel) ob_0 ?_
    refine Fr_iload_n (q := 1) (i := 1) 2 (by decide +kernel) rfl rfl ?_
    obtain ⟨r_6, M_4, hc_5, h⟩ := bi_elim h
    refine Fr_cVi (ν := m_X5_smallestSet) (As := [.int x1]) (st := [.ref 0]) (rc := 10) (ci := 5) (d' := 2) (by decide +kernel) ml_X11_338 cv_X5_smallestSet rfl (by decide) rfl ob_10 rfl (by decide) (Nat.le_of_ble_eq_true rfl) (t_X5_smallestSet ob_10 hc_5) ?_
    obtain ⟨r_9, M_7, hc_8, h⟩ := bi_elim h
    refine Fr_cSi (ν := m_J6_bitCount_0f7a4) (As := [.int r_6]) (st := [.ref 0]) (d' := 0) (by decide +kernel) ml_X11_341 cs_J6_bitCount_0f7a4 rfl (by decide) (Nat.le_of_ble_eq_true rfl) (t_J6_bitCount_0f7a4 hc_8) ?_
    obtain ⟨r_12, M_10, hc_11, h⟩ := bi_elim h
    refine Fr_cVi (ν := m_X11_answered) (As := [.int r_9]) (st := []) (rc := 0) (ci := 11) (d' := 0) (by decide +kernel) ml_X11_176 cv_X11_answered rfl (by decide) rfl ob_0 rfl (by decide) (Nat.le_of_ble_eq_true rfl) (t_X11_answered hc_11) ?_
    obtain rfl := Option.some.inj h
    exact Fr_iret (by decide +kernel) rfl ⟨rfl, rfl⟩
  · have h := iF hc h
    refine Fr_aload_n (q := 0) (i := 0) 1 (by decide +kernel) rfl rfl ?_
    refine Fr_iload_n (q := 2) (i := 2) 0 (by decide +kernel) rfl rfl ?_
    obtain ⟨r_15, M_13, hc_14, h⟩ := bi_elim h
    refine Fr_cVi (ν := m_X11_refused) (As := [.int r_3]) (st := []) (rc := 0) (ci := 11) (d' := 0) (by decide +kernel) ml_X11_140 cv_X11_refused rfl (by decide) rfl ob_0 rfl (by decide) (Nat.le_of_ble_eq_true rfl) (t_X11_refused hc_14) ?_
    obtain rfl := Option.some.inj h
    exact Fr_iret (by decide +kernel) rfl ⟨rfl, rfl⟩
def f_X11_fewestSet (N : Nat) (x1 : Int32) (M : Mem) : Option (Int32 × Mem) :=
  bi (f_X11_codeOfVoting N x1 M) fun r_3 M_1 =>
  if r_3 = 0 then (bi (f_X5_smallestSet N 10 x1 M_1) fun r_6 M_4 =>
  bi (f_X11_answered r_6 M_4) fun r_9 M_7 =>
  some (r_9, M_7)) else (bi (f_X11_refused r_3 M_1) fun r_12 M_10 =>
  some (r_12, M_10))
set_option maxRecDepth 20000 in
theorem t_X11_fewestSet {N : Nat} {x1 : Int32} {M : Mem} {q : Int32 × Mem} (h : f_X11_fewestSet N x1 M = some q) : Ev 0 111 3 m_X11_fewestSet [.ref 0, .int x1] M (QI q) := by
  refine Ev_of_Fr (by decide +kernel) (Nat.le_of_ble_eq_true rfl) ?_
  show Fr 0 111 3 m_X11_fewestSet 0 [(0, .ref 0), (1, .int x1)] [] M (QI q)
  unfold f_X11_fewestSet at h
  refine Fr_aload_n (q := 0) (i := 0) 0 (by decide +kernel) rfl rfl ?_
  refine Fr_iload_n (q := 1) (i := 1) 1 (by decide +kernel) rfl rfl ?_
  obtain ⟨r_3, M_1, hc_2, h⟩ := bi_elim h
  refine Fr_cVi (ν := m_X11_codeOfVoting) (As := [.int x1]) (st := []) (rc := 0) (ci := 11) (d' := 2) (by decide +kernel) ml_X11_335 cv_X11_codeOfVoting rfl (by decide) rfl ob_0 rfl (by decide) (Nat.le_of_ble_eq_true rfl) (t_X11_codeOfVoting hc_2) ?_
  refine Fr_istore_n (q := 2) (i := 2) (lv' := [(2, .int r_3), (0, .ref 0), (1, .int x1)]) (by decide +kernel) rfl (by decide) rfl ?_
  refine Fr_iload_n (q := 2) (i := 2) 0 (by decide +kernel) rfl rfl ?_
  refine Fr_if_eq (off := 9) 16 (by decide +kernel) (by decide) (fun hc => ?_) (fun hc => ?_)
  · have h := iT hc h
    refine Fr_aload_n (q := 0) (i := 0) 1 (by decide +kernel) rfl rfl ?_
    refine Fr_aload_n (q := 0) (i := 0) 1 (by decide +kernel) rfl rfl ?_
    refine gf_X11_34 rfl (by decide +kernel) ob_0 ?_
    refine Fr_iload_n (q := 1) (i := 1) 2 (by decide +kernel) rfl rfl ?_
    obtain ⟨r_6, M_4, hc_5, h⟩ := bi_elim h
    refine Fr_cVi (ν := m_X5_smallestSet) (As := [.int x1]) (st := [.ref 0]) (rc := 10) (ci := 5) (d' := 2) (by decide +kernel) ml_X11_338 cv_X5_smallestSet rfl (by decide) rfl ob_10 rfl (by decide) (Nat.le_of_ble_eq_true rfl) (t_X5_smallestSet ob_10 hc_5) ?_
    obtain ⟨r_9, M_7, hc_8, h⟩ := bi_elim h
    refine Fr_cVi (ν := m_X11_answered) (As := [.int r_6]) (st := []) (rc := 0) (ci := 11) (d' := 0) (by decide +kernel) ml_X11_176 cv_X11_answered rfl (by decide) rfl ob_0 rfl (by decide) (Nat.le_of_ble_eq_true rfl) (t_X11_answered hc_8) ?_
    obtain rfl := Option.some.inj h
    exact Fr_iret (by decide +kernel) rfl ⟨rfl, rfl⟩
  · have h := iF hc h
    refine Fr_aload_n (q := 0) (i := 0) 1 (by decide +kernel) rfl rfl ?_
    refine Fr_iload_n (q := 2) (i := 2) 0 (by decide +kernel) rfl rfl ?_
    obtain ⟨r_12, M_10, hc_11, h⟩ := bi_elim h
    refine Fr_cVi (ν := m_X11_refused) (As := [.int r_3]) (st := []) (rc := 0) (ci := 11) (d' := 0) (by decide +kernel) ml_X11_140 cv_X11_refused rfl (by decide) rfl ob_0 rfl (by decide) (Nat.le_of_ble_eq_true rfl) (t_X11_refused hc_11) ?_
    obtain rfl := Option.some.inj h
    exact Fr_iret (by decide +kernel) rfl ⟨rfl, rfl⟩
def f_X11_tellFraction_b44 (N : Nat) (v1 : Int64) (v3 : Int64) (v5 : Int64) (M : Mem) : Option (Mem) :=
  if 0 < (lg_cmp v5 0) then (czL v5 (
  bM (uL M 0 1 (v1 / v5)) fun M_2 =>
  czL v5 (
  bM (uL M_2 0 2 (v3 / v5)) fun M_4 =>
  some M_4))) else (some M)
set_option maxRecDepth 20000 in
theorem t_X11_tellFraction_b44 {N : Nat} {q : Mem} {v1 : Int64} {v3 : Int64} {v5 : Int64} {M : Mem} (h : f_X11_tellFraction_b44 N v1 v3 v5 M = some q) : Fr 0 111 0 m_X11_tellFraction 44 [(0, .ref 0), (1, .long v1), (3, .long v3), (5, .long v5)] [] M (QV q) := by
  unfold f_X11_tellFraction_b44 at h
  refine Fr_lload (i := 5) 3 (by decide +kernel) rfl ?_
  refine Fr_lconst (i := 0) (v := 0) (by decide +kernel) (by decide) ?_
  refine Fr_lcmp (by decide +kernel) ?_
  refine Fr_if_gt (off := 4) 52 (by decide +kernel) (by decide) (fun hc => ?_) (fun hc => ?_)
  · have h := iT hc h
    refine Fr_aload_n (q := 0) (i := 0) 0 (by decide +kernel) rfl rfl ?_
    refine Fr_lload_n (q := 1) (i := 1) 1 (by decide +kernel) rfl rfl ?_
    refine Fr_lload (i := 5) 3 (by decide +kernel) rfl ?_
    obtain ⟨hz_1, h⟩ := czL_elim h
    refine Fr_ldiv (by decide +kernel) hz_1 ?_
    refine pf_X11_13 rfl (by decide +kernel) ob_0 ?_
    obtain ⟨M_2, eM_2, h⟩ := bM_elim h
    refine Fr_mem eM_2 ?_
    refine Fr_aload_n (q := 0) (i := 0) 0 (by decide +kernel) rfl rfl ?_
    refine Fr_lload_n (q := 3) (i := 3) 2 (by decide +kernel) rfl rfl ?_
    refine Fr_lload (i := 5) 3 (by decide +kernel) rfl ?_
    obtain ⟨hz_3, h⟩ := czL_elim h
    refine Fr_ldiv (by decide +kernel) hz_3 ?_
    refine pf_X11_17 rfl (by decide +kernel) ob_0 ?_
    obtain ⟨M_4, eM_4, h⟩ := bM_elim h
    refine Fr_mem eM_4 ?_
    obtain rfl := Option.some.inj h
    exact Fr_vret (by decide +kernel) rfl ⟨rfl, rfl⟩
  · have h := iF hc h
    obtain rfl := Option.some.inj h
    exact Fr_vret (by decide +kernel) rfl ⟨rfl, rfl⟩
def f_X11_tellFraction_h9 (N : Nat) (k9 : Int64 × Int64 × Int64 × Int64 × Int32 → Mem → Option (Mem)) (v1 : Int64) (v3 : Int64) (v5 : Int64) (v7 : Int64) (v9 : Int32) (M : Mem) : Option (Mem) :=
  if 100 ≤ v9 then (f_X11_tellFraction_b44 N v1 v3 v5 M) else (if (lg_cmp v7 0) = 0 then (f_X11_tellFraction_b44 N v1 v3 v5 M) else (czL v7 (
  k9 (v1, v3, v7, (v5 - v5 / v7 * v7), (v9 + 1)) M)))
set_option maxRecDepth 20000 in
theorem t_X11_tellFraction_h9 {N : Nat} {q : Mem} {k9 : Int64 × Int64 × Int64 × Int64 × Int32 → Mem → Option (Mem)} (hk9 : ∀ (a : Int64 × Int64 × Int64 × Int64 × Int32) (M : Mem), k9 a M = some q → Fr 0 111 0 m_X11_tellFraction 9 [(0, .ref 0), (1, .long a.1), (3, .long a.2.1), (5, .long a.2.2.1), (7, .long a.2.2.2.1), (9, .int a.2.2.2.2)] [] M (QV q)) {v1 : Int64} {v3 : Int64} {v5 : Int64} {v7 : Int64} {v9 : Int32} {M : Mem} (h : f_X11_tellFraction_h9 N k9 v1 v3 v5 v7 v9 M = some q) : Fr 0 111 0 m_X11_tellFraction 9 [(0, .ref 0), (1, .long v1), (3, .long v3), (5, .long v5), (7, .long v7), (9, .int v9)] [] M (QV q) := by
  unfold f_X11_tellFraction_h9 at h
  refine Fr_iload (i := 9) 5 (by decide +kernel) rfl ?_
  refine Fr_bipush (i := 100) (v := 100) (by decide +kernel) (by decide) ?_
  refine Fr_icmp_ge (off := 31) 44 (by decide +kernel) (by decide) (fun hc => ?_) (fun hc => ?_)
  · have h := iT hc h
    refine Fr_loc [0, 1, 2, 3] rfl ?_
    exact t_X11_tellFraction_b44 h
  · have h := iF hc h
    refine Fr_lload (i := 7) 4 (by decide +kernel) rfl ?_
    refine Fr_lconst (i := 0) (v := 0) (by decide +kernel) (by decide) ?_
    refine Fr_lcmp (by decide +kernel) ?_
    refine Fr_if_eq (off := 24) 44 (by decide +kernel) (by decide) (fun hc => ?_) (fun hc => ?_)
    · have h := iT hc h
      refine Fr_loc [0, 1, 2, 3] rfl ?_
      exact t_X11_tellFraction_b44 h
    · have h := iF hc h
      refine Fr_lload (i := 5) 3 (by decide +kernel) rfl ?_
      refine Fr_lload (i := 7) 4 (by decide +kernel) rfl ?_
      obtain ⟨hz_5, h⟩ := czL_elim h
      refine Fr_lrem (by decide +kernel) hz_5 ?_
      refine Fr_lstore (i := 10) (lv' := [(10, .long (v5 - v5 / v7 * v7)), (0, .ref 0), (1, .long v1), (3, .long v3), (5, .long v5), (7, .long v7), (9, .int v9)]) (by decide +kernel) (by decide) rfl ?_
      refine Fr_lload (i := 7) 5 (by decide +kernel) rfl ?_
      refine Fr_lstore (i := 5) (lv' := [(5, .long v7), (10, .long (v5 - v5 / v7 * v7)), (0, .ref 0), (1, .long v1), (3, .long v3), (7, .long v7), (9, .int v9)]) (by decide +kernel) (by decide) rfl ?_
      refine Fr_lload (i := 10) 1 (by decide +kernel) rfl ?_
      refine Fr_lstore (i := 7) (lv' := [(7, .long (v5 - v5 / v7 * v7)), (5, .long v7), (10, .long (v5 - v5 / v7 * v7)), (0, .ref 0), (1, .long v1), (3, .long v3), (9, .int v9)]) (by decide +kernel) (by decide) rfl ?_
      refine Fr_iinc (i := 9) (j := 1) (v := (v9 + 1)) (lv' := [(9, .int (v9 + 1)), (7, .long (v5 - v5 / v7 * v7)), (5, .long v7), (10, .long (v5 - v5 / v7 * v7)), (0, .ref 0), (1, .long v1), (3, .long v3)]) 6 (by decide +kernel) rfl rfl (by decide) rfl ?_
      refine Fr_goto (off := (-32)) 9 (by decide +kernel) (by decide) ?_
      refine Fr_loc [4, 5, 6, 2, 1, 0] rfl ?_
      exact hk9 (v1, v3, v7, (v5 - v5 / v7 * v7), (v9 + 1)) M h
def f_X11_tellFraction (N : Nat) (x1 : Int64) (x3 : Int64) (M : Mem) : Option (Mem) :=
  lp (fun k a m => f_X11_tellFraction_h9 N k a.1 a.2.1 a.2.2.1 a.2.2.2.1 a.2.2.2.2 m) N (x1, x3, x1, x3, 0) M
set_option maxRecDepth 20000 in
theorem t_X11_tellFraction {N : Nat} {x1 : Int64} {x3 : Int64} {M : Mem} {q : Mem} (h : f_X11_tellFraction N x1 x3 M = some q) : Ev 0 111 0 m_X11_tellFraction [.ref 0, .long x1, .long x3] M (QV q) := by
  refine Ev_of_Fr (by decide +kernel) (Nat.le_of_ble_eq_true rfl) ?_
  show Fr 0 111 0 m_X11_tellFraction 0 [(0, .ref 0), (1, .long x1), (3, .long x3)] [] M (QV q)
  unfold f_X11_tellFraction at h
  refine Fr_lload_n (q := 1) (i := 1) 1 (by decide +kernel) rfl rfl ?_
  refine Fr_lstore (i := 5) (lv' := [(5, .long x1), (0, .ref 0), (1, .long x1), (3, .long x3)]) (by decide +kernel) (by decide) rfl ?_
  refine Fr_lload_n (q := 3) (i := 3) 3 (by decide +kernel) rfl rfl ?_
  refine Fr_lstore (i := 7) (lv' := [(7, .long x3), (5, .long x1), (0, .ref 0), (1, .long x1), (3, .long x3)]) (by decide +kernel) (by decide) rfl ?_
  refine Fr_iconst (i := 0) (v := 0) (by decide +kernel) (by decide) ?_
  refine Fr_istore (i := 9) (lv' := [(9, .int 0), (7, .long x3), (5, .long x1), (0, .ref 0), (1, .long x1), (3, .long x3)]) (by decide +kernel) (by decide) rfl ?_
  refine Fr_loc [3, 4, 5, 2, 1, 0] rfl ?_
  exact lp_sound (P := fun a M => Fr 0 111 0 m_X11_tellFraction 9 [(0, .ref 0), (1, .long a.1), (3, .long a.2.1), (5, .long a.2.2.1), (7, .long a.2.2.2.1), (9, .int a.2.2.2.2)] [] M (QV q)) (fun k hk a m h => t_X11_tellFraction_h9 hk h) N (x1, x3, x1, x3, 0) M h
def f_X11_power (N : Nat) (x1 : Int32) (x2 : Int32) (M : Mem) : Option (Bool × Mem) :=
  bi (f_X5_isHolder 10 x2 M) fun r_3 M_1 =>
  if (b2i r_3) = 0 then (bi (f_X11_refusedFlag 2 M_1) fun r_21 M_19 =>
  some (r_21, M_19)) else (bi (f_X11_codeOfVoting N x1 M_1) fun r_6 M_4 =>
  if r_6 = 0 then (bi (f_X5_decidingOrders N 10 x1 x2 M_4) fun r_9 M_7 =>
  ck (M_7.1 10 8) 7 (
  bv (f_X11_tellFraction N (Int32.toInt64 r_9) (Int32.toInt64 (sta 3 (tn (M_7.1 10 8)))) M_7) fun M_11 =>
  bi (f_X11_granted M_11) fun r_15 M_13 =>
  some (r_15, M_13))) else (bi (f_X11_refusedFlag r_6 M_4) fun r_18 M_16 =>
  some (r_18, M_16)))
set_option maxRecDepth 20000 in
theorem t_X11_power {N : Nat} {x1 : Int32} {x2 : Int32} {M : Mem} {q : Bool × Mem} (h : f_X11_power N x1 x2 M = some q) : Ev 0 111 3 m_X11_power [.ref 0, .int x1, .int x2] M (QB q) := by
  refine Ev_of_Fr (by decide +kernel) (Nat.le_of_ble_eq_true rfl) ?_
  show Fr 0 111 3 m_X11_power 0 [(0, .ref 0), (1, .int x1), (2, .int x2)] [] M (QB q)
  unfold f_X11_power at h
  refine Fr_aload_n (q := 0) (i := 0) 0 (by decide +kernel) rfl rfl ?_
  refine gf_X11_34 rfl (by decide +kernel) ob_0 ?_
  refine Fr_iload_n (q := 2) (i := 2) 2 (by decide +kernel) rfl rfl ?_
  obtain ⟨r_3, M_1, hc_2, h⟩ := bi_elim h
  refine Fr_cVb (ν := m_X5_isHolder) (As := [.int x2]) (st := []) (rc := 10) (ci := 5) (d' := 0) (by decide +kernel) ml_X11_207 cv_X5_isHolder rfl (by decide) rfl ob_10 rfl (by decide) (Nat.le_of_ble_eq_true rfl) (t_X5_isHolder ob_10 hc_2) ?_
  refine Fr_if_ne (off := 9) 17 (by decide +kernel) (by decide) (fun hc => ?_) (fun hc => ?_)
  · have h := iF hc h
    refine Fr_aload_n (q := 0) (i := 0) 0 (by decide +kernel) rfl rfl ?_
    refine Fr_iload_n (q := 1) (i := 1) 1 (by decide +kernel) rfl rfl ?_
    obtain ⟨r_6, M_4, hc_5, h⟩ := bi_elim h
    refine Fr_cVi (ν := m_X11_codeOfVoting) (As := [.int x1]) (st := []) (rc := 0) (ci := 11) (d' := 2) (by decide +kernel) ml_X11_335 cv_X11_codeOfVoting rfl (by decide) rfl ob_0 rfl (by decide) (Nat.le_of_ble_eq_true rfl) (t_X11_codeOfVoting hc_5) ?_
    refine Fr_istore_n (q := 3) (i := 3) (lv' := [(3, .int r_6), (0, .ref 0), (1, .int x1), (2, .int x2)]) (by decide +kernel) rfl (by decide) rfl ?_
    refine Fr_iload_n (q := 3) (i := 3) 0 (by decide +kernel) rfl rfl ?_
    refine Fr_if_eq (off := 9) 33 (by decide +kernel) (by decide) (fun hc => ?_) (fun hc => ?_)
    · have h := iT hc h
      refine Fr_aload_n (q := 0) (i := 0) 1 (by decide +kernel) rfl rfl ?_
      refine Fr_aload_n (q := 0) (i := 0) 1 (by decide +kernel) rfl rfl ?_
      refine gf_X11_34 rfl (by decide +kernel) ob_0 ?_
      refine Fr_iload_n (q := 1) (i := 1) 2 (by decide +kernel) rfl rfl ?_
      refine Fr_iload_n (q := 2) (i := 2) 3 (by decide +kernel) rfl rfl ?_
      obtain ⟨r_9, M_7, hc_8, h⟩ := bi_elim h
      refine Fr_cVi (ν := m_X5_decidingOrders) (As := [.int x1, .int x2]) (st := [.ref 0]) (rc := 10) (ci := 5) (d' := 2) (by decide +kernel) ml_X11_346 cv_X5_decidingOrders rfl (by decide) rfl ob_10 rfl (by decide) (Nat.le_of_ble_eq_true rfl) (t_X5_decidingOrders ob_10 hc_8) ?_
      refine Fr_i2l (by decide +kernel) ?_
      refine Fr_gets (idx := 349) 3 (by decide +kernel) (by decide) lg_X11_349 ?_
      refine Fr_aload_n (q := 0) (i := 0) 1 (by decide +kernel) rfl rfl ?_
      refine gf_X11_34 rfl (by decide +kernel) ob_0 ?_
      refine gf_X11_352 rfl (by decide +kernel) ob_10 ?_
      obtain ⟨hi_10, h⟩ := ck_elim h
      refine Fr_tald (i := 3) (by decide +kernel) (by decide) hi_10 ?_
      refine Fr_i2l (by decide +kernel) ?_
      obtain ⟨M_11, hc_12, h⟩ := bv_elim h
      refine Fr_cVv (ν := m_X11_tellFraction) (As := [.long (Int32.toInt64 r_9), .long (Int32.toInt64 (sta 3 (tn (M_7.1 10 8))))]) (st := []) (rc := 0) (ci := 11) (d' := 0) (by decide +kernel) ml_X11_355 cv_X11_tellFraction rfl (by decide) rfl ob_0 rfl (by decide) (Nat.le_of_ble_eq_true rfl) (t_X11_tellFraction hc_12) ?_
      refine Fr_aload_n (q := 0) (i := 0) 1 (by decide +kernel) rfl rfl ?_
      obtain ⟨r_15, M_13, hc_14, h⟩ := bi_elim h
      refine Fr_cVb (ν := m_X11_granted) (As := []) (st := []) (rc := 0) (ci := 11) (d' := 0) (by decide +kernel) ml_X11_128 cv_X11_granted rfl (by decide) rfl ob_0 rfl (by decide) (Nat.le_of_ble_eq_true rfl) (t_X11_granted hc_14) ?_
      obtain rfl := Option.some.inj h
      exact Fr_zret (by decide +kernel) rfl (nz_b r_15) ⟨rfl, rfl⟩
    · have h := iF hc h
      refine Fr_aload_n (q := 0) (i := 0) 1 (by decide +kernel) rfl rfl ?_
      refine Fr_iload_n (q := 3) (i := 3) 0 (by decide +kernel) rfl rfl ?_
      obtain ⟨r_18, M_16, hc_17, h⟩ := bi_elim h
      refine Fr_cVb (ν := m_X11_refusedFlag) (As := [.int r_6]) (st := []) (rc := 0) (ci := 11) (d' := 0) (by decide +kernel) ml_X11_121 cv_X11_refusedFlag rfl (by decide) rfl ob_0 rfl (by decide) (Nat.le_of_ble_eq_true rfl) (t_X11_refusedFlag hc_17) ?_
      obtain rfl := Option.some.inj h
      exact Fr_zret (by decide +kernel) rfl (nz_b r_18) ⟨rfl, rfl⟩
  · have h := iT hc h
    refine Fr_aload_n (q := 0) (i := 0) 0 (by decide +kernel) rfl rfl ?_
    refine Fr_iconst (i := 2) (v := 2) (by decide +kernel) (by decide) ?_
    obtain ⟨r_21, M_19, hc_20, h⟩ := bi_elim h
    refine Fr_cVb (ν := m_X11_refusedFlag) (As := [.int 2]) (st := []) (rc := 0) (ci := 11) (d' := 0) (by decide +kernel) ml_X11_121 cv_X11_refusedFlag rfl (by decide) rfl ob_0 rfl (by decide) (Nat.le_of_ble_eq_true rfl) (t_X11_refusedFlag hc_20) ?_
    obtain rfl := Option.some.inj h
    exact Fr_zret (by decide +kernel) rfl (nz_b r_21) ⟨rfl, rfl⟩
def f_X11_veto (N : Nat) (x1 : Int32) (M : Mem) : Option (Int32 × Mem) :=
  bi (f_X11_codeOfVoting N x1 M) fun r_3 M_1 =>
  if r_3 = 0 then (bi (f_X5_neededHolders N 10 x1 M_1) fun r_6 M_4 =>
  bi (f_X11_answered r_6 M_4) fun r_9 M_7 =>
  some (r_9, M_7)) else (bi (f_X11_refused r_3 M_1) fun r_12 M_10 =>
  some (r_12, M_10))
set_option maxRecDepth 20000 in
theorem t_X11_veto {N : Nat} {x1 : Int32} {M : Mem} {q : Int32 × Mem} (h : f_X11_veto N x1 M = some q) : Ev 0 111 3 m_X11_veto [.ref 0, .int x1] M (QI q) := by
  refine Ev_of_Fr (by decide +kernel) (Nat.le_of_ble_eq_true rfl) ?_
  show Fr 0 111 3 m_X11_veto 0 [(0, .ref 0), (1, .int x1)] [] M (QI q)
  unfold f_X11_veto at h
  refine Fr_aload_n (q := 0) (i := 0) 0 (by decide +kernel) rfl rfl ?_
  refine Fr_iload_n (q := 1) (i := 1) 1 (by decide +kernel) rfl rfl ?_
  obtain ⟨r_3, M_1, hc_2, h⟩ := bi_elim h
  refine Fr_cVi (ν := m_X11_codeOfVoting) (As := [.int x1]) (st := []) (rc := 0) (ci := 11) (d' := 2) (by decide +kernel) ml_X11_335 cv_X11_codeOfVoting rfl (by decide) rfl ob_0 rfl (by decide) (Nat.le_of_ble_eq_true rfl) (t_X11_codeOfVoting hc_2) ?_
  refine Fr_istore_n (q := 2) (i := 2) (lv' := [(2, .int r_3), (0, .ref 0), (1, .int x1)]) (by decide +kernel) rfl (by decide) rfl ?_
  refine Fr_iload_n (q := 2) (i := 2) 0 (by decide +kernel) rfl rfl ?_
  refine Fr_if_eq (off := 9) 16 (by decide +kernel) (by decide) (fun hc => ?_) (fun hc => ?_)
  · have h := iT hc h
    refine Fr_aload_n (q := 0) (i := 0) 1 (by decide +kernel) rfl rfl ?_
    refine Fr_aload_n (q := 0) (i := 0) 1 (by decide +kernel) rfl rfl ?_
    refine gf_X11_34 rfl (by decide +kernel) ob_0 ?_
    refine Fr_iload_n (q := 1) (i := 1) 2 (by decide +kernel) rfl rfl ?_
    obtain ⟨r_6, M_4, hc_5, h⟩ := bi_elim h
    refine Fr_cVi (ν := m_X5_neededHolders) (As := [.int x1]) (st := [.ref 0]) (rc := 10) (ci := 5) (d' := 2) (by decide +kernel) ml_X11_359 cv_X5_neededHolders rfl (by decide) rfl ob_10 rfl (by decide) (Nat.le_of_ble_eq_true rfl) (t_X5_neededHolders ob_10 hc_5) ?_
    obtain ⟨r_9, M_7, hc_8, h⟩ := bi_elim h
    refine Fr_cVi (ν := m_X11_answered) (As := [.int r_6]) (st := []) (rc := 0) (ci := 11) (d' := 0) (by decide +kernel) ml_X11_176 cv_X11_answered rfl (by decide) rfl ob_0 rfl (by decide) (Nat.le_of_ble_eq_true rfl) (t_X11_answered hc_8) ?_
    obtain rfl := Option.some.inj h
    exact Fr_iret (by decide +kernel) rfl ⟨rfl, rfl⟩
  · have h := iF hc h
    refine Fr_aload_n (q := 0) (i := 0) 1 (by decide +kernel) rfl rfl ?_
    refine Fr_iload_n (q := 2) (i := 2) 0 (by decide +kernel) rfl rfl ?_
    obtain ⟨r_12, M_10, hc_11, h⟩ := bi_elim h
    refine Fr_cVi (ν := m_X11_refused) (As := [.int r_3]) (st := []) (rc := 0) (ci := 11) (d' := 0) (by decide +kernel) ml_X11_140 cv_X11_refused rfl (by decide) rfl ob_0 rfl (by decide) (Nat.le_of_ble_eq_true rfl) (t_X11_refused hc_11) ?_
    obtain rfl := Option.some.inj h
    exact Fr_iret (by decide +kernel) rfl ⟨rfl, rfl⟩
def f_X11_idle (N : Nat) (x1 : Int32) (M : Mem) : Option (Int32 × Mem) :=
  bi (f_X11_codeOfVoting N x1 M) fun r_3 M_1 =>
  if r_3 = 0 then (bi (f_X5_powerlessHolders N 10 x1 M_1) fun r_6 M_4 =>
  bi (f_X11_answered r_6 M_4) fun r_9 M_7 =>
  some (r_9, M_7)) else (bi (f_X11_refused r_3 M_1) fun r_12 M_10 =>
  some (r_12, M_10))
set_option maxRecDepth 20000 in
theorem t_X11_idle {N : Nat} {x1 : Int32} {M : Mem} {q : Int32 × Mem} (h : f_X11_idle N x1 M = some q) : Ev 0 111 4 m_X11_idle [.ref 0, .int x1] M (QI q) := by
  refine Ev_of_Fr (by decide +kernel) (Nat.le_of_ble_eq_true rfl) ?_
  show Fr 0 111 4 m_X11_idle 0 [(0, .ref 0), (1, .int x1)] [] M (QI q)
  unfold f_X11_idle at h
  refine Fr_aload_n (q := 0) (i := 0) 0 (by decide +kernel) rfl rfl ?_
  refine Fr_iload_n (q := 1) (i := 1) 1 (by decide +kernel) rfl rfl ?_
  obtain ⟨r_3, M_1, hc_2, h⟩ := bi_elim h
  refine Fr_cVi (ν := m_X11_codeOfVoting) (As := [.int x1]) (st := []) (rc := 0) (ci := 11) (d' := 2) (by decide +kernel) ml_X11_335 cv_X11_codeOfVoting rfl (by decide) rfl ob_0 rfl (by decide) (Nat.le_of_ble_eq_true rfl) (t_X11_codeOfVoting hc_2) ?_
  refine Fr_istore_n (q := 2) (i := 2) (lv' := [(2, .int r_3), (0, .ref 0), (1, .int x1)]) (by decide +kernel) rfl (by decide) rfl ?_
  refine Fr_iload_n (q := 2) (i := 2) 0 (by decide +kernel) rfl rfl ?_
  refine Fr_if_eq (off := 9) 16 (by decide +kernel) (by decide) (fun hc => ?_) (fun hc => ?_)
  · have h := iT hc h
    refine Fr_aload_n (q := 0) (i := 0) 1 (by decide +kernel) rfl rfl ?_
    refine Fr_aload_n (q := 0) (i := 0) 1 (by decide +kernel) rfl rfl ?_
    refine gf_X11_34 rfl (by decide +kernel) ob_0 ?_
    refine Fr_iload_n (q := 1) (i := 1) 2 (by decide +kernel) rfl rfl ?_
    obtain ⟨r_6, M_4, hc_5, h⟩ := bi_elim h
    refine Fr_cVi (ν := m_X5_powerlessHolders) (As := [.int x1]) (st := [.ref 0]) (rc := 10) (ci := 5) (d' := 3) (by decide +kernel) ml_X11_362 cv_X5_powerlessHolders rfl (by decide) rfl ob_10 rfl (by decide) (Nat.le_of_ble_eq_true rfl) (t_X5_powerlessHolders ob_10 hc_5) ?_
    obtain ⟨r_9, M_7, hc_8, h⟩ := bi_elim h
    refine Fr_cVi (ν := m_X11_answered) (As := [.int r_6]) (st := []) (rc := 0) (ci := 11) (d' := 0) (by decide +kernel) ml_X11_176 cv_X11_answered rfl (by decide) rfl ob_0 rfl (by decide) (Nat.le_of_ble_eq_true rfl) (t_X11_answered hc_8) ?_
    obtain rfl := Option.some.inj h
    exact Fr_iret (by decide +kernel) rfl ⟨rfl, rfl⟩
  · have h := iF hc h
    refine Fr_aload_n (q := 0) (i := 0) 1 (by decide +kernel) rfl rfl ?_
    refine Fr_iload_n (q := 2) (i := 2) 0 (by decide +kernel) rfl rfl ?_
    obtain ⟨r_12, M_10, hc_11, h⟩ := bi_elim h
    refine Fr_cVi (ν := m_X11_refused) (As := [.int r_3]) (st := []) (rc := 0) (ci := 11) (d' := 0) (by decide +kernel) ml_X11_140 cv_X11_refused rfl (by decide) rfl ob_0 rfl (by decide) (Nat.le_of_ble_eq_true rfl) (t_X11_refused hc_11) ?_
    obtain rfl := Option.some.inj h
    exact Fr_iret (by decide +kernel) rfl ⟨rfl, rfl⟩
def f_X11_reach_b50 (N : Nat) (k21 : Int32 × Int32 × Int32 → Mem → Option (Int32 × Mem)) (v1 : Int32) (v2 : Int32) (v3 : Int32) (M : Mem) : Option (Int32 × Mem) :=
  k21 (v1, v2, (v3 + 1)) M
set_option maxRecDepth 20000 in
theorem t_X11_reach_b50 {N : Nat} {q : Int32 × Mem} {k21 : Int32 × Int32 × Int32 → Mem → Option (Int32 × Mem)} (hk21 : ∀ (a : Int32 × Int32 × Int32) (M : Mem), k21 a M = some q → Fr 0 111 2 m_X11_reach 21 [(0, .ref 0), (1, .int a.1), (2, .int a.2.1), (3, .int a.2.2)] [] M (QI q)) {v1 : Int32} {v2 : Int32} {v3 : Int32} {M : Mem} (h : f_X11_reach_b50 N k21 v1 v2 v3 M = some q) : Fr 0 111 2 m_X11_reach 50 [(0, .ref 0), (1, .int v1), (2, .int v2), (3, .int v3)] [] M (QI q) := by
  unfold f_X11_reach_b50 at h
  refine Fr_iinc (i := 3) (j := 1) (v := (v3 + 1)) (lv' := [(3, .int (v3 + 1)), (0, .ref 0), (1, .int v1), (2, .int v2)]) 3 (by decide +kernel) rfl rfl (by decide) rfl ?_
  refine Fr_goto (off := (-32)) 21 (by decide +kernel) (by decide) ?_
  refine Fr_loc [1, 2, 3, 0] rfl ?_
  exact hk21 (v1, v2, (v3 + 1)) M h
def f_X11_reach_h21 (N : Nat) (k21 : Int32 × Int32 × Int32 → Mem → Option (Int32 × Mem)) (v1 : Int32) (v2 : Int32) (v3 : Int32) (M : Mem) : Option (Int32 × Mem) :=
  if (M.1 10 7) ≤ v3 then (bi (f_X11_answered v2 M) fun r_6 M_4 =>
  some (r_6, M_4)) else (bi (f_X5_canOpen N 10 v3 v1 M) fun r_9 M_7 =>
  if (b2i r_9) = 0 then (f_X11_reach_b50 N k21 v1 v2 v3 M_7) else (bI (v2 ||| (1 <<< (v3 &&& 31))) fun y_10 =>
  f_X11_reach_b50 N k21 v1 y_10 v3 M_7))
set_option maxRecDepth 20000 in
theorem t_X11_reach_h21 {N : Nat} {q : Int32 × Mem} {k21 : Int32 × Int32 × Int32 → Mem → Option (Int32 × Mem)} (hk21 : ∀ (a : Int32 × Int32 × Int32) (M : Mem), k21 a M = some q → Fr 0 111 2 m_X11_reach 21 [(0, .ref 0), (1, .int a.1), (2, .int a.2.1), (3, .int a.2.2)] [] M (QI q)) {v1 : Int32} {v2 : Int32} {v3 : Int32} {M : Mem} (h : f_X11_reach_h21 N k21 v1 v2 v3 M = some q) : Fr 0 111 2 m_X11_reach 21 [(0, .ref 0), (1, .int v1), (2, .int v2), (3, .int v3)] [] M (QI q) := by
  unfold f_X11_reach_h21 at h
  refine Fr_iload_n (q := 3) (i := 3) 3 (by decide +kernel) rfl rfl ?_
  refine Fr_aload_n (q := 0) (i := 0) 0 (by decide +kernel) rfl rfl ?_
  refine gf_X11_34 rfl (by decide +kernel) ob_0 ?_
  refine gf_X11_173 rfl (by decide +kernel) ob_10 ?_
  refine Fr_icmp_ge (off := 27) 56 (by decide +kernel) (by decide) (fun hc => ?_) (fun hc => ?_)
  · have h := iT hc h
    refine Fr_aload_n (q := 0) (i := 0) 0 (by decide +kernel) rfl rfl ?_
    refine Fr_iload_n (q := 2) (i := 2) 2 (by decide +kernel) rfl rfl ?_
    obtain ⟨r_6, M_4, hc_5, h⟩ := bi_elim h
    refine Fr_cVi (ν := m_X11_answered) (As := [.int v2]) (st := []) (rc := 0) (ci := 11) (d' := 0) (by decide +kernel) ml_X11_176 cv_X11_answered rfl (by decide) rfl ob_0 rfl (by decide) (Nat.le_of_ble_eq_true rfl) (t_X11_answered hc_5) ?_
    obtain rfl := Option.some.inj h
    exact Fr_iret (by decide +kernel) rfl ⟨rfl, rfl⟩
  · have h := iF hc h
    refine Fr_aload_n (q := 0) (i := 0) 0 (by decide +kernel) rfl rfl ?_
    refine gf_X11_34 rfl (by decide +kernel) ob_0 ?_
    refine Fr_iload_n (q := 3) (i := 3) 3 (by decide +kernel) rfl rfl ?_
    refine Fr_iload_n (q := 1) (i := 1) 1 (by decide +kernel) rfl rfl ?_
    obtain ⟨r_9, M_7, hc_8, h⟩ := bi_elim h
    refine Fr_cVb (ν := m_X5_canOpen) (As := [.int v3, .int v1]) (st := []) (rc := 10) (ci := 5) (d' := 1) (by decide +kernel) ml_X11_267 cv_X5_canOpen rfl (by decide) rfl ob_10 rfl (by decide) (Nat.le_of_ble_eq_true rfl) (t_X5_canOpen ob_10 hc_8) ?_
    refine Fr_if_eq (off := 9) 50 (by decide +kernel) (by decide) (fun hc => ?_) (fun hc => ?_)
    · have h := iT hc h
      exact t_X11_reach_b50 hk21 h
    · have h := iF hc h
      refine Fr_iload_n (q := 2) (i := 2) 2 (by decide +kernel) rfl rfl ?_
      refine Fr_iconst (i := 1) (v := 1) (by decide +kernel) (by decide) ?_
      refine Fr_iload_n (q := 3) (i := 3) 3 (by decide +kernel) rfl rfl ?_
      refine Fr_ishl (by decide +kernel) ?_
      refine Fr_ior (by decide +kernel) ?_
      obtain ⟨y_10, ey_10, h⟩ := bI_elim h
      refine Fr_topI ey_10 ?_
      refine Fr_istore_n (q := 2) (i := 2) (lv' := [(2, .int y_10), (0, .ref 0), (1, .int v1), (3, .int v3)]) (by decide +kernel) rfl (by decide) rfl ?_
      refine Fr_loc [1, 2, 0, 3] rfl ?_
      exact t_X11_reach_b50 hk21 h
def f_X11_reach (N : Nat) (x1 : Int32) (M : Mem) : Option (Int32 × Mem) :=
  bi (f_X5_isHolderSet 10 x1 M) fun r_3 M_1 =>
  if (b2i r_3) = 0 then (bi (f_X11_refused 5 M_1) fun r_13 M_11 =>
  some (r_13, M_11)) else (lp (fun k a m => f_X11_reach_h21 N k a.1 a.2.1 a.2.2 m) N (x1, 0, 0) M_1)
set_option maxRecDepth 20000 in
theorem t_X11_reach {N : Nat} {x1 : Int32} {M : Mem} {q : Int32 × Mem} (h : f_X11_reach N x1 M = some q) : Ev 0 111 2 m_X11_reach [.ref 0, .int x1] M (QI q) := by
  refine Ev_of_Fr (by decide +kernel) (Nat.le_of_ble_eq_true rfl) ?_
  show Fr 0 111 2 m_X11_reach 0 [(0, .ref 0), (1, .int x1)] [] M (QI q)
  unfold f_X11_reach at h
  refine Fr_aload_n (q := 0) (i := 0) 0 (by decide +kernel) rfl rfl ?_
  refine gf_X11_34 rfl (by decide +kernel) ob_0 ?_
  refine Fr_iload_n (q := 1) (i := 1) 1 (by decide +kernel) rfl rfl ?_
  obtain ⟨r_3, M_1, hc_2, h⟩ := bi_elim h
  refine Fr_cVb (ν := m_X5_isHolderSet) (As := [.int x1]) (st := []) (rc := 10) (ci := 5) (d' := 1) (by decide +kernel) ml_X11_264 cv_X5_isHolderSet rfl (by decide) rfl ob_10 rfl (by decide) (Nat.le_of_ble_eq_true rfl) (t_X5_isHolderSet ob_10 hc_2) ?_
  refine Fr_if_ne (off := 9) 17 (by decide +kernel) (by decide) (fun hc => ?_) (fun hc => ?_)
  · have h := iF hc h
    refine Fr_iconst (i := 0) (v := 0) (by decide +kernel) (by decide) ?_
    refine Fr_istore_n (q := 2) (i := 2) (lv' := [(2, .int 0), (0, .ref 0), (1, .int x1)]) (by decide +kernel) rfl (by decide) rfl ?_
    refine Fr_iconst (i := 0) (v := 0) (by decide +kernel) (by decide) ?_
    refine Fr_istore_n (q := 3) (i := 3) (lv' := [(3, .int 0), (2, .int 0), (0, .ref 0), (1, .int x1)]) (by decide +kernel) rfl (by decide) rfl ?_
    refine Fr_loc [2, 3, 1, 0] rfl ?_
    exact lp_sound (P := fun a M => Fr 0 111 2 m_X11_reach 21 [(0, .ref 0), (1, .int a.1), (2, .int a.2.1), (3, .int a.2.2)] [] M (QI q)) (fun k hk a m h => t_X11_reach_h21 hk h) N (x1, 0, 0) M_1 h
  · have h := iT hc h
    refine Fr_aload_n (q := 0) (i := 0) 0 (by decide +kernel) rfl rfl ?_
    refine Fr_iconst (i := 5) (v := 5) (by decide +kernel) (by decide) ?_
    obtain ⟨r_13, M_11, hc_12, h⟩ := bi_elim h
    refine Fr_cVi (ν := m_X11_refused) (As := [.int 5]) (st := []) (rc := 0) (ci := 11) (d' := 0) (by decide +kernel) ml_X11_140 cv_X11_refused rfl (by decide) rfl ob_0 rfl (by decide) (Nat.le_of_ble_eq_true rfl) (t_X11_refused hc_12) ?_
    obtain rfl := Option.some.inj h
    exact Fr_iret (by decide +kernel) rfl ⟨rfl, rfl⟩
def f_X11_codeOfTries (N : Nat) (x1 : Int32) (x2 : Int32) (M : Mem) : Option (Int32 × Mem) :=
  bi (f_X9_codeOfLength x1 x2 M) fun r_3 M_1 =>
  if r_3 = 0 then (if x2 < 0 then (some (5, M_1)) else (ck x1 4 (
  bi (f_X1_take N (4 + tn x1) x2 (M_1.1 10 7) M_1) fun r_7 M_5 =>
  if (b2i r_7) = 0 then (some (5, M_5)) else (some (0, M_5))))) else (some (r_3, M_1))
set_option maxRecDepth 20000 in
theorem t_X11_codeOfTries {N : Nat} {x1 : Int32} {x2 : Int32} {M : Mem} {q : Int32 × Mem} (h : f_X11_codeOfTries N x1 x2 M = some q) : Ev 0 111 4 m_X11_codeOfTries [.ref 0, .int x1, .int x2] M (QI q) := by
  refine Ev_of_Fr (by decide +kernel) (Nat.le_of_ble_eq_true rfl) ?_
  show Fr 0 111 4 m_X11_codeOfTries 0 [(0, .ref 0), (1, .int x1), (2, .int x2)] [] M (QI q)
  unfold f_X11_codeOfTries at h
  refine Fr_aload_n (q := 0) (i := 0) 0 (by decide +kernel) rfl rfl ?_
  refine gf_X11_27 rfl (by decide +kernel) ob_0 ?_
  refine Fr_iload_n (q := 1) (i := 1) 1 (by decide +kernel) rfl rfl ?_
  refine Fr_iload_n (q := 2) (i := 2) 2 (by decide +kernel) rfl rfl ?_
  obtain ⟨r_3, M_1, hc_2, h⟩ := bi_elim h
  refine Fr_cVi (ν := m_X9_codeOfLength) (As := [.int x1, .int x2]) (st := []) (rc := 2) (ci := 9) (d' := 2) (by decide +kernel) ml_X11_243 cv_X9_codeOfLength rfl (by decide) rfl ob_2 rfl (by decide) (Nat.le_of_ble_eq_true rfl) (t_X9_codeOfLength hc_2) ?_
  refine Fr_istore_n (q := 3) (i := 3) (lv' := [(3, .int r_3), (0, .ref 0), (1, .int x1), (2, .int x2)]) (by decide +kernel) rfl (by decide) rfl ?_
  refine Fr_iload_n (q := 3) (i := 3) 0 (by decide +kernel) rfl rfl ?_
  refine Fr_if_eq (off := 5) 16 (by decide +kernel) (by decide) (fun hc => ?_) (fun hc => ?_)
  · have h := iT hc h
    refine Fr_iload_n (q := 2) (i := 2) 3 (by decide +kernel) rfl rfl ?_
    refine Fr_if_lt (off := 30) 47 (by decide +kernel) (by decide) (fun hc => ?_) (fun hc => ?_)
    · have h := iT hc h
      refine Fr_iconst (i := 5) (v := 5) (by decide +kernel) (by decide) ?_
      obtain rfl := Option.some.inj h
      exact Fr_iret (by decide +kernel) rfl ⟨rfl, rfl⟩
    · have h := iF hc h
      refine Fr_aload_n (q := 0) (i := 0) 1 (by decide +kernel) rfl rfl ?_
      refine gf_X11_103 rfl (by decide +kernel) ob_0 ?_
      refine Fr_aload_n (q := 0) (i := 0) 1 (by decide +kernel) rfl rfl ?_
      refine gf_X11_27 rfl (by decide +kernel) ob_0 ?_
      refine gf_X11_144 rfl (by decide +kernel) ob_2 ?_
      refine Fr_iload_n (q := 1) (i := 1) 2 (by decide +kernel) rfl rfl ?_
      obtain ⟨hi_4, h⟩ := ck_elim h
      refine Fr_aald (by decide +kernel) ob_3 (by decide) (vp_of ln_3 hi_4) (ra3 hi_4) ?_
      refine Fr_iload_n (q := 2) (i := 2) 3 (by decide +kernel) rfl rfl ?_
      refine Fr_aload_n (q := 0) (i := 0) 1 (by decide +kernel) rfl rfl ?_
      refine gf_X11_34 rfl (by decide +kernel) ob_0 ?_
      refine gf_X11_173 rfl (by decide +kernel) ob_10 ?_
      obtain ⟨r_7, M_5, hc_6, h⟩ := bi_elim h
      refine Fr_cVb (ν := m_X1_take) (As := [.ref (4 + tn x1), .int x2, .int (M_1.1 10 7)]) (st := []) (rc := 103) (ci := 1) (d' := 3) (by decide +kernel) ml_X11_402 cv_X1_take rfl (by decide) rfl ob_103 rfl (by decide) (Nat.le_of_ble_eq_true rfl) (t_X1_take (oa3 hi_4) hc_6) ?_
      refine Fr_if_ne (off := 5) 49 (by decide +kernel) (by decide) (fun hc => ?_) (fun hc => ?_)
      · have h := iF hc h
        refine Fr_iconst (i := 0) (v := 0) (by decide +kernel) (by decide) ?_
        obtain rfl := Option.some.inj h
        exact Fr_iret (by decide +kernel) rfl ⟨rfl, rfl⟩
      · have h := iT hc h
        refine Fr_iconst (i := 5) (v := 5) (by decide +kernel) (by decide) ?_
        obtain rfl := Option.some.inj h
        exact Fr_iret (by decide +kernel) rfl ⟨rfl, rfl⟩
  · have h := iF hc h
    refine Fr_iload_n (q := 3) (i := 3) 0 (by decide +kernel) rfl rfl ?_
    obtain rfl := Option.some.inj h
    exact Fr_iret (by decide +kernel) rfl ⟨rfl, rfl⟩
def f_X11_fits (N : Nat) (x1 : Int32) (x2 : Int32) (M : Mem) : Option (Int32 × Mem) :=
  bi (f_X11_codeOfTries N x1 x2 M) fun r_3 M_1 =>
  if r_3 = 0 then (bi (f_X11_answered (M_1.1 103 1) M_1) fun r_6 M_4 =>
  some (r_6, M_4)) else (bi (f_X11_refused r_3 M_1) fun r_9 M_7 =>
  some (r_9, M_7))
set_option maxRecDepth 20000 in
theorem t_X11_fits {N : Nat} {x1 : Int32} {x2 : Int32} {M : Mem} {q : Int32 × Mem} (h : f_X11_fits N x1 x2 M = some q) : Ev 0 111 5 m_X11_fits [.ref 0, .int x1, .int x2] M (QI q) := by
  refine Ev_of_Fr (by decide +kernel) (Nat.le_of_ble_eq_true rfl) ?_
  show Fr 0 111 5 m_X11_fits 0 [(0, .ref 0), (1, .int x1), (2, .int x2)] [] M (QI q)
  unfold f_X11_fits at h
  refine Fr_aload_n (q := 0) (i := 0) 0 (by decide +kernel) rfl rfl ?_
  refine Fr_iload_n (q := 1) (i := 1) 1 (by decide +kernel) rfl rfl ?_
  refine Fr_iload_n (q := 2) (i := 2) 2 (by decide +kernel) rfl rfl ?_
  obtain ⟨r_3, M_1, hc_2, h⟩ := bi_elim h
  refine Fr_cVi (ν := m_X11_codeOfTries) (As := [.int x1, .int x2]) (st := []) (rc := 0) (ci := 11) (d' := 4) (by decide +kernel) ml_X11_365 cv_X11_codeOfTries rfl (by decide) rfl ob_0 rfl (by decide) (Nat.le_of_ble_eq_true rfl) (t_X11_codeOfTries hc_2) ?_
  refine Fr_istore_n (q := 3) (i := 3) (lv' := [(3, .int r_3), (0, .ref 0), (1, .int x1), (2, .int x2)]) (by decide +kernel) rfl (by decide) rfl ?_
  refine Fr_iload_n (q := 3) (i := 3) 0 (by decide +kernel) rfl rfl ?_
  refine Fr_if_eq (off := 9) 17 (by decide +kernel) (by decide) (fun hc => ?_) (fun hc => ?_)
  · have h := iT hc h
    refine Fr_aload_n (q := 0) (i := 0) 1 (by decide +kernel) rfl rfl ?_
    refine Fr_aload_n (q := 0) (i := 0) 1 (by decide +kernel) rfl rfl ?_
    refine gf_X11_103 rfl (by decide +kernel) ob_0 ?_
    refine gf_X11_368 rfl (by decide +kernel) ob_103 ?_
    obtain ⟨r_6, M_4, hc_5, h⟩ := bi_elim h
    refine Fr_cVi (ν := m_X11_answered) (As := [.int (M_1.1 103 1)]) (st := []) (rc := 0) (ci := 11) (d' := 0) (by decide +kernel) ml_X11_176 cv_X11_answered rfl (by decide) rfl ob_0 rfl (by decide) (Nat.le_of_ble_eq_true rfl) (t_X11_answered hc_5) ?_
    obtain rfl := Option.some.inj h
    exact Fr_iret (by decide +kernel) rfl ⟨rfl, rfl⟩
  · have h := iF hc h
    refine Fr_aload_n (q := 0) (i := 0) 1 (by decide +kernel) rfl rfl ?_
    refine Fr_iload_n (q := 3) (i := 3) 0 (by decide +kernel) rfl rfl ?_
    obtain ⟨r_9, M_7, hc_8, h⟩ := bi_elim h
    refine Fr_cVi (ν := m_X11_refused) (As := [.int r_3]) (st := []) (rc := 0) (ci := 11) (d' := 0) (by decide +kernel) ml_X11_140 cv_X11_refused rfl (by decide) rfl ob_0 rfl (by decide) (Nat.le_of_ble_eq_true rfl) (t_X11_refused hc_8) ?_
    obtain rfl := Option.some.inj h
    exact Fr_iret (by decide +kernel) rfl ⟨rfl, rfl⟩
def f_X11_codeOfKey (N : Nat) (x1 : Int32) (x2 : Int32) (x3 : Int32) (x4 : Int32) (M : Mem) : Option (Int32 × Mem) :=
  bi (f_X9_isTray x3 M) fun r_3 M_1 =>
  if (b2i r_3) = 0 then (some (1, M_1)) else (bi (f_X5_isGate 10 x1 M_1) fun r_6 M_4 =>
  if (b2i r_6) = 0 then (some (2, M_4)) else (bi (f_X5_isGate 10 x2 M_4) fun r_9 M_7 =>
  if (b2i r_9) = 0 then (some (2, M_7)) else (bi (f_X11_codeOfTries N x3 x4 M_7) fun r_12 M_10 =>
  some (r_12, M_10))))
set_option maxRecDepth 20000 in
theorem t_X11_codeOfKey {N : Nat} {x1 : Int32} {x2 : Int32} {x3 : Int32} {x4 : Int32} {M : Mem} {q : Int32 × Mem} (h : f_X11_codeOfKey N x1 x2 x3 x4 M = some q) : Ev 0 111 5 m_X11_codeOfKey [.ref 0, .int x1, .int x2, .int x3, .int x4] M (QI q) := by
  refine Ev_of_Fr (by decide +kernel) (Nat.le_of_ble_eq_true rfl) ?_
  show Fr 0 111 5 m_X11_codeOfKey 0 [(0, .ref 0), (1, .int x1), (2, .int x2), (3, .int x3), (4, .int x4)] [] M (QI q)
  unfold f_X11_codeOfKey at h
  refine Fr_aload_n (q := 0) (i := 0) 0 (by decide +kernel) rfl rfl ?_
  refine gf_X11_27 rfl (by decide +kernel) ob_0 ?_
  refine Fr_iload_n (q := 3) (i := 3) 3 (by decide +kernel) rfl rfl ?_
  obtain ⟨r_3, M_1, hc_2, h⟩ := bi_elim h
  refine Fr_cVb (ν := m_X9_isTray) (As := [.int x3]) (st := []) (rc := 2) (ci := 9) (d' := 0) (by decide +kernel) ml_X11_117 cv_X9_isTray rfl (by decide) rfl ob_2 rfl (by decide) (Nat.le_of_ble_eq_true rfl) (t_X9_isTray hc_2) ?_
  refine Fr_if_ne (off := 5) 13 (by decide +kernel) (by decide) (fun hc => ?_) (fun hc => ?_)
  · have h := iF hc h
    refine Fr_aload_n (q := 0) (i := 0) 0 (by decide +kernel) rfl rfl ?_
    refine gf_X11_34 rfl (by decide +kernel) ob_0 ?_
    refine Fr_iload_n (q := 1) (i := 1) 1 (by decide +kernel) rfl rfl ?_
    obtain ⟨r_6, M_4, hc_5, h⟩ := bi_elim h
    refine Fr_cVb (ν := m_X5_isGate) (As := [.int x1]) (st := []) (rc := 10) (ci := 5) (d' := 0) (by decide +kernel) ml_X11_200 cv_X5_isGate rfl (by decide) rfl ob_10 rfl (by decide) (Nat.le_of_ble_eq_true rfl) (t_X5_isGate ob_10 hc_5) ?_
    refine Fr_if_eq (off := 14) 35 (by decide +kernel) (by decide) (fun hc => ?_) (fun hc => ?_)
    · have h := iT hc h
      refine Fr_iconst (i := 2) (v := 2) (by decide +kernel) (by decide) ?_
      obtain rfl := Option.some.inj h
      exact Fr_iret (by decide +kernel) rfl ⟨rfl, rfl⟩
    · have h := iF hc h
      refine Fr_aload_n (q := 0) (i := 0) 0 (by decide +kernel) rfl rfl ?_
      refine gf_X11_34 rfl (by decide +kernel) ob_0 ?_
      refine Fr_iload_n (q := 2) (i := 2) 2 (by decide +kernel) rfl rfl ?_
      obtain ⟨r_9, M_7, hc_8, h⟩ := bi_elim h
      refine Fr_cVb (ν := m_X5_isGate) (As := [.int x2]) (st := []) (rc := 10) (ci := 5) (d' := 0) (by decide +kernel) ml_X11_200 cv_X5_isGate rfl (by decide) rfl ob_10 rfl (by decide) (Nat.le_of_ble_eq_true rfl) (t_X5_isGate ob_10 hc_8) ?_
      refine Fr_if_ne (off := 5) 37 (by decide +kernel) (by decide) (fun hc => ?_) (fun hc => ?_)
      · have h := iF hc h
        refine Fr_aload_n (q := 0) (i := 0) 0 (by decide +kernel) rfl rfl ?_
        refine Fr_iload_n (q := 3) (i := 3) 3 (by decide +kernel) rfl rfl ?_
        refine Fr_iload (i := 4) 4 (by decide +kernel) rfl ?_
        obtain ⟨r_12, M_10, hc_11, h⟩ := bi_elim h
        refine Fr_cVi (ν := m_X11_codeOfTries) (As := [.int x3, .int x4]) (st := []) (rc := 0) (ci := 11) (d' := 4) (by decide +kernel) ml_X11_365 cv_X11_codeOfTries rfl (by decide) rfl ob_0 rfl (by decide) (Nat.le_of_ble_eq_true rfl) (t_X11_codeOfTries hc_11) ?_
        obtain rfl := Option.some.inj h
        exact Fr_iret (by decide +kernel) rfl ⟨rfl, rfl⟩
      · have h := iT hc h
        refine Fr_iconst (i := 2) (v := 2) (by decide +kernel) (by decide) ?_
        obtain rfl := Option.some.inj h
        exact Fr_iret (by decide +kernel) rfl ⟨rfl, rfl⟩
  · have h := iT hc h
    refine Fr_iconst (i := 1) (v := 1) (by decide +kernel) (by decide) ?_
    obtain rfl := Option.some.inj h
    exact Fr_iret (by decide +kernel) rfl ⟨rfl, rfl⟩
def f_X11_known (N : Nat) (x1 : Int32) (x2 : Int32) (x3 : Int32) (M : Mem) : Option (Int32 × Mem) :=
  bi (f_X11_codeOfKey N x1 x1 x2 x3 M) fun r_3 M_1 =>
  if r_3 = 0 then (bi (f_X1_onlyGate N x1 M_1) fun r_6 M_4 =>
  bi (f_X11_answeredIfAny r_6 M_4) fun r_9 M_7 =>
  some (r_9, M_7)) else (bi (f_X11_refused r_3 M_1) fun r_12 M_10 =>
  some (r_12, M_10))
set_option maxRecDepth 20000 in
theorem t_X11_known {N : Nat} {x1 : Int32} {x2 : Int32} {x3 : Int32} {M : Mem} {q : Int32 × Mem} (h : f_X11_known N x1 x2 x3 M = some q) : Ev 0 111 6 m_X11_known [.ref 0, .int x1, .int x2, .int x3] M (QI q) := by
  refine Ev_of_Fr (by decide +kernel) (Nat.le_of_ble_eq_true rfl) ?_
  show Fr 0 111 6 m_X11_known 0 [(0, .ref 0), (1, .int x1), (2, .int x2), (3, .int x3)] [] M (QI q)
  unfold f_X11_known at h
  refine Fr_aload_n (q := 0) (i := 0) 0 (by decide +kernel) rfl rfl ?_
  refine Fr_iload_n (q := 1) (i := 1) 1 (by decide +kernel) rfl rfl ?_
  refine Fr_iload_n (q := 1) (i := 1) 1 (by decide +kernel) rfl rfl ?_
  refine Fr_iload_n (q := 2) (i := 2) 2 (by decide +kernel) rfl rfl ?_
  refine Fr_iload_n (q := 3) (i := 3) 3 (by decide +kernel) rfl rfl ?_
  obtain ⟨r_3, M_1, hc_2, h⟩ := bi_elim h
  refine Fr_cVi (ν := m_X11_codeOfKey) (As := [.int x1, .int x1, .int x2, .int x3]) (st := []) (rc := 0) (ci := 11) (d' := 5) (by decide +kernel) ml_X11_371 cv_X11_codeOfKey rfl (by decide) rfl ob_0 rfl (by decide) (Nat.le_of_ble_eq_true rfl) (t_X11_codeOfKey hc_2) ?_
  refine Fr_istore (i := 4) (lv' := [(4, .int r_3), (0, .ref 0), (1, .int x1), (2, .int x2), (3, .int x3)]) (by decide +kernel) (by decide) rfl ?_
  refine Fr_iload (i := 4) 0 (by decide +kernel) rfl ?_
  refine Fr_if_eq (off := 10) 22 (by decide +kernel) (by decide) (fun hc => ?_) (fun hc => ?_)
  · have h := iT hc h
    refine Fr_aload_n (q := 0) (i := 0) 1 (by decide +kernel) rfl rfl ?_
    refine Fr_aload_n (q := 0) (i := 0) 1 (by decide +kernel) rfl rfl ?_
    refine gf_X11_103 rfl (by decide +kernel) ob_0 ?_
    refine Fr_iload_n (q := 1) (i := 1) 2 (by decide +kernel) rfl rfl ?_
    obtain ⟨r_6, M_4, hc_5, h⟩ := bi_elim h
    refine Fr_cVi (ν := m_X1_onlyGate) (As := [.int x1]) (st := [.ref 0]) (rc := 103) (ci := 1) (d' := 3) (by decide +kernel) ml_X11_375 cv_X1_onlyGate rfl (by decide) rfl ob_103 rfl (by decide) (Nat.le_of_ble_eq_true rfl) (t_X1_onlyGate hc_5) ?_
    obtain ⟨r_9, M_7, hc_8, h⟩ := bi_elim h
    refine Fr_cVi (ν := m_X11_answeredIfAny) (As := [.int r_6]) (st := []) (rc := 0) (ci := 11) (d' := 1) (by decide +kernel) ml_X11_289 cv_X11_answeredIfAny rfl (by decide) rfl ob_0 rfl (by decide) (Nat.le_of_ble_eq_true rfl) (t_X11_answeredIfAny hc_8) ?_
    obtain rfl := Option.some.inj h
    exact Fr_iret (by decide +kernel) rfl ⟨rfl, rfl⟩
  · have h := iF hc h
    refine Fr_aload_n (q := 0) (i := 0) 1 (by decide +kernel) rfl rfl ?_
    refine Fr_iload (i := 4) 0 (by decide +kernel) rfl ?_
    obtain ⟨r_12, M_10, hc_11, h⟩ := bi_elim h
    refine Fr_cVi (ν := m_X11_refused) (As := [.int r_3]) (st := []) (rc := 0) (ci := 11) (d' := 0) (by decide +kernel) ml_X11_140 cv_X11_refused rfl (by decide) rfl ob_0 rfl (by decide) (Nat.le_of_ble_eq_true rfl) (t_X11_refused hc_11) ?_
    obtain rfl := Option.some.inj h
    exact Fr_iret (by decide +kernel) rfl ⟨rfl, rfl⟩
def f_X11_next (N : Nat) (x1 : Int32) (x2 : Int32) (M : Mem) : Option (Int32 × Mem) :=
  bi (f_X11_codeOfTries N x1 x2 M) fun r_3 M_1 =>
  if r_3 = 0 then (bi (f_X1_bestTry N M_1) fun r_6 M_4 =>
  bi (f_X11_answeredIfAny r_6 M_4) fun r_9 M_7 =>
  some (r_9, M_7)) else (bi (f_X11_refused r_3 M_1) fun r_12 M_10 =>
  some (r_12, M_10))
set_option maxRecDepth 20000 in
theorem t_X11_next {N : Nat} {x1 : Int32} {x2 : Int32} {M : Mem} {q : Int32 × Mem} (h : f_X11_next N x1 x2 M = some q) : Ev 0 111 5 m_X11_next [.ref 0, .int x1, .int x2] M (QI q) := by
  refine Ev_of_Fr (by decide +kernel) (Nat.le_of_ble_eq_true rfl) ?_
  show Fr 0 111 5 m_X11_next 0 [(0, .ref 0), (1, .int x1), (2, .int x2)] [] M (QI q)
  unfold f_X11_next at h
  refine Fr_aload_n (q := 0) (i := 0) 0 (by decide +kernel) rfl rfl ?_
  refine Fr_iload_n (q := 1) (i := 1) 1 (by decide +kernel) rfl rfl ?_
  refine Fr_iload_n (q := 2) (i := 2) 2 (by decide +kernel) rfl rfl ?_
  obtain ⟨r_3, M_1, hc_2, h⟩ := bi_elim h
  refine Fr_cVi (ν := m_X11_codeOfTries) (As := [.int x1, .int x2]) (st := []) (rc := 0) (ci := 11) (d' := 4) (by decide +kernel) ml_X11_365 cv_X11_codeOfTries rfl (by decide) rfl ob_0 rfl (by decide) (Nat.le_of_ble_eq_true rfl) (t_X11_codeOfTries hc_2) ?_
  refine Fr_istore_n (q := 3) (i := 3) (lv' := [(3, .int r_3), (0, .ref 0), (1, .int x1), (2, .int x2)]) (by decide +kernel) rfl (by decide) rfl ?_
  refine Fr_iload_n (q := 3) (i := 3) 0 (by decide +kernel) rfl rfl ?_
  refine Fr_if_eq (off := 9) 17 (by decide +kernel) (by decide) (fun hc => ?_) (fun hc => ?_)
  · have h := iT hc h
    refine Fr_aload_n (q := 0) (i := 0) 1 (by decide +kernel) rfl rfl ?_
    refine Fr_aload_n (q := 0) (i := 0) 1 (by decide +kernel) rfl rfl ?_
    refine gf_X11_103 rfl (by decide +kernel) ob_0 ?_
    obtain ⟨r_6, M_4, hc_5, h⟩ := bi_elim h
    refine Fr_cVi (ν := m_X1_bestTry) (As := []) (st := [.ref 0]) (rc := 103) (ci := 1) (d' := 3) (by decide +kernel) ml_X11_378 cv_X1_bestTry rfl (by decide) rfl ob_103 rfl (by decide) (Nat.le_of_ble_eq_true rfl) (t_X1_bestTry hc_5) ?_
    obtain ⟨r_9, M_7, hc_8, h⟩ := bi_elim h
    refine Fr_cVi (ν := m_X11_answeredIfAny) (As := [.int r_6]) (st := []) (rc := 0) (ci := 11) (d' := 1) (by decide +kernel) ml_X11_289 cv_X11_answeredIfAny rfl (by decide) rfl ob_0 rfl (by decide) (Nat.le_of_ble_eq_true rfl) (t_X11_answeredIfAny hc_8) ?_
    obtain rfl := Option.some.inj h
    exact Fr_iret (by decide +kernel) rfl ⟨rfl, rfl⟩
  · have h := iF hc h
    refine Fr_aload_n (q := 0) (i := 0) 1 (by decide +kernel) rfl rfl ?_
    refine Fr_iload_n (q := 3) (i := 3) 0 (by decide +kernel) rfl rfl ?_
    obtain ⟨r_12, M_10, hc_11, h⟩ := bi_elim h
    refine Fr_cVi (ν := m_X11_refused) (As := [.int r_3]) (st := []) (rc := 0) (ci := 11) (d' := 0) (by decide +kernel) ml_X11_140 cv_X11_refused rfl (by decide) rfl ob_0 rfl (by decide) (Nat.le_of_ble_eq_true rfl) (t_X11_refused hc_11) ?_
    obtain rfl := Option.some.inj h
    exact Fr_iret (by decide +kernel) rfl ⟨rfl, rfl⟩
