def f_X11_fog (x1 : Int32) (x2 : Int32) (x3 : Int32) (M : Mem) : Option (Int32 × Mem) :=
  bi (f_X5_isBoard 10 x1 x2 M) fun r_3 M_1 =>
  if (b2i r_3) = 0 then (bi (f_X11_refused 2 M_1) fun r_19 M_17 =>
  some (r_19, M_17)) else (if x3 < 0 then (bi (f_X11_refused 5 M_1) fun r_6 M_4 =>
  some (r_6, M_4)) else (if x3 ≤ 1 then (bi (f_X5_boardAt 10 x1 x2 M_1) fun r_9 M_7 =>
  ck ((x3 * 30) + r_9) 60 (
  bi (f_X11_answered (M_7.1 16 (tn ((x3 * 30) + r_9))) M_7) fun r_13 M_11 =>
  some (r_13, M_11))) else (bi (f_X11_refused 5 M_1) fun r_16 M_14 =>
  some (r_16, M_14))))
set_option maxRecDepth 20000 in
theorem t_X11_fog {x1 : Int32} {x2 : Int32} {x3 : Int32} {M : Mem} {q : Int32 × Mem} (h : f_X11_fog x1 x2 x3 M = some q) : Ev 0 111 1 m_X11_fog [.ref 0, .int x1, .int x2, .int x3] M (QI q) := by
  refine Ev_of_Fr (by decide +kernel) (Nat.le_of_ble_eq_true rfl) ?_
  show Fr 0 111 1 m_X11_fog 0 [(0, .ref 0), (1, .int x1), (2, .int x2), (3, .int x3)] [] M (QI q)
  unfold f_X11_fog at h
  refine Fr_aload_n (q := 0) (i := 0) 0 (by decide +kernel) rfl rfl ?_
  refine gf_X11_34 rfl (by decide +kernel) ob_0 ?_
  refine Fr_iload_n (q := 1) (i := 1) 1 (by decide +kernel) rfl rfl ?_
  refine Fr_iload_n (q := 2) (i := 2) 2 (by decide +kernel) rfl rfl ?_
  obtain ⟨r_3, M_1, hc_2, h⟩ := bi_elim h
  refine Fr_cVb (ν := m_X5_isBoard) (As := [.int x1, .int x2]) (st := []) (rc := 10) (ci := 5) (d' := 0) (by decide +kernel) ml_X11_225 cv_X5_isBoard rfl (by decide) rfl ob_10 rfl (by decide) (Nat.le_of_ble_eq_true rfl) (t_X5_isBoard ob_10 hc_2) ?_
  refine Fr_if_ne (off := 9) 18 (by decide +kernel) (by decide) (fun hc => ?_) (fun hc => ?_)
  · have h := iF hc h
    refine Fr_iload_n (q := 3) (i := 3) 3 (by decide +kernel) rfl rfl ?_
    refine Fr_if_lt (off := 8) 27 (by decide +kernel) (by decide) (fun hc => ?_) (fun hc => ?_)
    · have h := iT hc h
      refine Fr_aload_n (q := 0) (i := 0) 0 (by decide +kernel) rfl rfl ?_
      refine Fr_iconst (i := 5) (v := 5) (by decide +kernel) (by decide) ?_
      obtain ⟨r_6, M_4, hc_5, h⟩ := bi_elim h
      refine Fr_cVi (ν := m_X11_refused) (As := [.int 5]) (st := []) (rc := 0) (ci := 11) (d' := 0) (by decide +kernel) ml_X11_140 cv_X11_refused rfl (by decide) rfl ob_0 rfl (by decide) (Nat.le_of_ble_eq_true rfl) (t_X11_refused hc_5) ?_
      obtain rfl := Option.some.inj h
      exact Fr_iret (by decide +kernel) rfl ⟨rfl, rfl⟩
    · have h := iF hc h
      refine Fr_iload_n (q := 3) (i := 3) 3 (by decide +kernel) rfl rfl ?_
      refine Fr_iconst (i := 1) (v := 1) (by decide +kernel) (by decide) ?_
      refine Fr_icmp_le (off := 9) 33 (by decide +kernel) (by decide) (fun hc => ?_) (fun hc => ?_)
      · have h := iT hc h
        refine Fr_aload_n (q := 0) (i := 0) 0 (by decide +kernel) rfl rfl ?_
        refine Fr_aload_n (q := 0) (i := 0) 0 (by decide +kernel) rfl rfl ?_
        refine gf_X11_34 rfl (by decide +kernel) ob_0 ?_
        refine gf_X11_229 rfl (by decide +kernel) ob_10 ?_
        refine Fr_iload_n (q := 3) (i := 3) 3 (by decide +kernel) rfl rfl ?_
        refine Fr_bipush (i := 30) (v := 30) (by decide +kernel) (by decide) ?_
        refine Fr_imul (by decide +kernel) ?_
        refine Fr_aload_n (q := 0) (i := 0) 0 (by decide +kernel) rfl rfl ?_
        refine gf_X11_34 rfl (by decide +kernel) ob_0 ?_
        refine Fr_iload_n (q := 1) (i := 1) 1 (by decide +kernel) rfl rfl ?_
        refine Fr_iload_n (q := 2) (i := 2) 2 (by decide +kernel) rfl rfl ?_
        obtain ⟨r_9, M_7, hc_8, h⟩ := bi_elim h
        refine Fr_cVi (ν := m_X5_boardAt) (As := [.int x1, .int x2]) (st := [.int (x3 * 30), .ref 16, .ref 0]) (rc := 10) (ci := 5) (d' := 0) (by decide +kernel) ml_X11_232 cv_X5_boardAt rfl (by decide) rfl ob_10 rfl (by decide) (Nat.le_of_ble_eq_true rfl) (t_X5_boardAt ob_10 hc_8) ?_
        refine Fr_iadd (by decide +kernel) ?_
        obtain ⟨hi_10, h⟩ := ck_elim h
        refine Fr_iald (by decide +kernel) ob_16 (vp_of ln_16 hi_10) ?_
        obtain ⟨r_13, M_11, hc_12, h⟩ := bi_elim h
        refine Fr_cVi (ν := m_X11_answered) (As := [.int (M_7.1 16 (tn ((x3 * 30) + r_9)))]) (st := []) (rc := 0) (ci := 11) (d' := 0) (by decide +kernel) ml_X11_176 cv_X11_answered rfl (by decide) rfl ob_0 rfl (by decide) (Nat.le_of_ble_eq_true rfl) (t_X11_answered hc_12) ?_
        obtain rfl := Option.some.inj h
        exact Fr_iret (by decide +kernel) rfl ⟨rfl, rfl⟩
      · have h := iF hc h
        refine Fr_aload_n (q := 0) (i := 0) 0 (by decide +kernel) rfl rfl ?_
        refine Fr_iconst (i := 5) (v := 5) (by decide +kernel) (by decide) ?_
        obtain ⟨r_16, M_14, hc_15, h⟩ := bi_elim h
        refine Fr_cVi (ν := m_X11_refused) (As := [.int 5]) (st := []) (rc := 0) (ci := 11) (d' := 0) (by decide +kernel) ml_X11_140 cv_X11_refused rfl (by decide) rfl ob_0 rfl (by decide) (Nat.le_of_ble_eq_true rfl) (t_X11_refused hc_15) ?_
        obtain rfl := Option.some.inj h
        exact Fr_iret (by decide +kernel) rfl ⟨rfl, rfl⟩
  · have h := iT hc h
    refine Fr_aload_n (q := 0) (i := 0) 0 (by decide +kernel) rfl rfl ?_
    refine Fr_iconst (i := 2) (v := 2) (by decide +kernel) (by decide) ?_
    obtain ⟨r_19, M_17, hc_18, h⟩ := bi_elim h
    refine Fr_cVi (ν := m_X11_refused) (As := [.int 2]) (st := []) (rc := 0) (ci := 11) (d' := 0) (by decide +kernel) ml_X11_140 cv_X11_refused rfl (by decide) rfl ob_0 rfl (by decide) (Nat.le_of_ble_eq_true rfl) (t_X11_refused hc_18) ?_
    obtain rfl := Option.some.inj h
    exact Fr_iret (by decide +kernel) rfl ⟨rfl, rfl⟩
def f_X11_foggy (x1 : Int32) (x2 : Int32) (M : Mem) : Option (Int32 × Mem) :=
  bi (f_X5_isBoard 10 x1 x2 M) fun r_3 M_1 =>
  if (b2i r_3) = 0 then (bi (f_X11_refused 2 M_1) fun r_18 M_16 =>
  some (r_18, M_16)) else (bi (f_X5_boardAt 10 x1 x2 M_1) fun r_6 M_4 =>
  bi (f_X5_isFoggy 10 16 r_6 M_4) fun r_9 M_7 =>
  if (b2i r_9) = 0 then (bi (f_X11_answered 0 M_7) fun r_12 M_10 =>
  some (r_12, M_10)) else (bi (f_X11_answered 1 M_7) fun r_15 M_13 =>
  some (r_15, M_13)))
set_option maxRecDepth 20000 in
theorem t_X11_foggy {x1 : Int32} {x2 : Int32} {M : Mem} {q : Int32 × Mem} (h : f_X11_foggy x1 x2 M = some q) : Ev 0 111 2 m_X11_foggy [.ref 0, .int x1, .int x2] M (QI q) := by
  refine Ev_of_Fr (by decide +kernel) (Nat.le_of_ble_eq_true rfl) ?_
  show Fr 0 111 2 m_X11_foggy 0 [(0, .ref 0), (1, .int x1), (2, .int x2)] [] M (QI q)
  unfold f_X11_foggy at h
  refine Fr_aload_n (q := 0) (i := 0) 0 (by decide +kernel) rfl rfl ?_
  refine gf_X11_34 rfl (by decide +kernel) ob_0 ?_
  refine Fr_iload_n (q := 1) (i := 1) 1 (by decide +kernel) rfl rfl ?_
  refine Fr_iload_n (q := 2) (i := 2) 2 (by decide +kernel) rfl rfl ?_
  obtain ⟨r_3, M_1, hc_2, h⟩ := bi_elim h
  refine Fr_cVb (ν := m_X5_isBoard) (As := [.int x1, .int x2]) (st := []) (rc := 10) (ci := 5) (d' := 0) (by decide +kernel) ml_X11_225 cv_X5_isBoard rfl (by decide) rfl ob_10 rfl (by decide) (Nat.le_of_ble_eq_true rfl) (t_X5_isBoard ob_10 hc_2) ?_
  refine Fr_if_ne (off := 9) 18 (by decide +kernel) (by decide) (fun hc => ?_) (fun hc => ?_)
  · have h := iF hc h
    refine Fr_aload_n (q := 0) (i := 0) 0 (by decide +kernel) rfl rfl ?_
    refine Fr_aload_n (q := 0) (i := 0) 0 (by decide +kernel) rfl rfl ?_
    refine gf_X11_34 rfl (by decide +kernel) ob_0 ?_
    refine Fr_aload_n (q := 0) (i := 0) 0 (by decide +kernel) rfl rfl ?_
    refine gf_X11_34 rfl (by decide +kernel) ob_0 ?_
    refine gf_X11_229 rfl (by decide +kernel) ob_10 ?_
    refine Fr_aload_n (q := 0) (i := 0) 0 (by decide +kernel) rfl rfl ?_
    refine gf_X11_34 rfl (by decide +kernel) ob_0 ?_
    refine Fr_iload_n (q := 1) (i := 1) 1 (by decide +kernel) rfl rfl ?_
    refine Fr_iload_n (q := 2) (i := 2) 2 (by decide +kernel) rfl rfl ?_
    obtain ⟨r_6, M_4, hc_5, h⟩ := bi_elim h
    refine Fr_cVi (ν := m_X5_boardAt) (As := [.int x1, .int x2]) (st := [.ref 16, .ref 10, .ref 0]) (rc := 10) (ci := 5) (d' := 0) (by decide +kernel) ml_X11_232 cv_X5_boardAt rfl (by decide) rfl ob_10 rfl (by decide) (Nat.le_of_ble_eq_true rfl) (t_X5_boardAt ob_10 hc_5) ?_
    obtain ⟨r_9, M_7, hc_8, h⟩ := bi_elim h
    refine Fr_cVb (ν := m_X5_isFoggy) (As := [.ref 16, .int r_6]) (st := [.ref 0]) (rc := 10) (ci := 5) (d' := 1) (by decide +kernel) ml_X11_235 cv_X5_isFoggy rfl (by decide) rfl ob_10 rfl (by decide) (Nat.le_of_ble_eq_true rfl) (t_X5_isFoggy ob_10 ob_16 hc_8) ?_
    refine Fr_if_eq (off := 7) 49 (by decide +kernel) (by decide) (fun hc => ?_) (fun hc => ?_)
    · have h := iT hc h
      refine Fr_iconst (i := 0) (v := 0) (by decide +kernel) (by decide) ?_
      obtain ⟨r_12, M_10, hc_11, h⟩ := bi_elim h
      refine Fr_cVi (ν := m_X11_answered) (As := [.int 0]) (st := []) (rc := 0) (ci := 11) (d' := 0) (by decide +kernel) ml_X11_176 cv_X11_answered rfl (by decide) rfl ob_0 rfl (by decide) (Nat.le_of_ble_eq_true rfl) (t_X11_answered hc_11) ?_
      obtain rfl := Option.some.inj h
      exact Fr_iret (by decide +kernel) rfl ⟨rfl, rfl⟩
    · have h := iF hc h
      refine Fr_iconst (i := 1) (v := 1) (by decide +kernel) (by decide) ?_
      refine Fr_goto (off := 4) 50 (by decide +kernel) (by decide) ?_
      obtain ⟨r_15, M_13, hc_14, h⟩ := bi_elim h
      refine Fr_cVi (ν := m_X11_answered) (As := [.int 1]) (st := []) (rc := 0) (ci := 11) (d' := 0) (by decide +kernel) ml_X11_176 cv_X11_answered rfl (by decide) rfl ob_0 rfl (by decide) (Nat.le_of_ble_eq_true rfl) (t_X11_answered hc_14) ?_
      obtain rfl := Option.some.inj h
      exact Fr_iret (by decide +kernel) rfl ⟨rfl, rfl⟩
  · have h := iT hc h
    refine Fr_aload_n (q := 0) (i := 0) 0 (by decide +kernel) rfl rfl ?_
    refine Fr_iconst (i := 2) (v := 2) (by decide +kernel) (by decide) ?_
    obtain ⟨r_18, M_16, hc_17, h⟩ := bi_elim h
    refine Fr_cVi (ν := m_X11_refused) (As := [.int 2]) (st := []) (rc := 0) (ci := 11) (d' := 0) (by decide +kernel) ml_X11_140 cv_X11_refused rfl (by decide) rfl ob_0 rfl (by decide) (Nat.le_of_ble_eq_true rfl) (t_X11_refused hc_17) ?_
    obtain rfl := Option.some.inj h
    exact Fr_iret (by decide +kernel) rfl ⟨rfl, rfl⟩
def f_X11_copyFog_h31 (N : Nat) (k31 : Int32 × Int32 × Int32 → Mem → Option (Int32 × Mem)) (v1 : Int32) (v2 : Int32) (v4 : Int32) (M : Mem) : Option (Int32 × Mem) :=
  if v2 ≤ v4 then (bi (f_X11_answered v2 M) fun r_9 M_7 =>
  some (r_9, M_7)) else (bi (f_X5_bothKinds 16 v4 M) fun r_12 M_10 =>
  bv (f_X9_put v1 v4 (Int32.toInt64 r_12) M_10) fun M_13 =>
  k31 (v1, v2, (v4 + 1)) M_13)
set_option maxRecDepth 20000 in
theorem t_X11_copyFog_h31 {N : Nat} {q : Int32 × Mem} {k31 : Int32 × Int32 × Int32 → Mem → Option (Int32 × Mem)} (hk31 : ∀ (a : Int32 × Int32 × Int32) (M : Mem), k31 a M = some q → Fr 0 111 3 m_X11_copyFog 31 [(0, .ref 0), (1, .int a.1), (2, .int a.2.1), (4, .int a.2.2)] [] M (QI q)) {v1 : Int32} {v2 : Int32} {v4 : Int32} {M : Mem} (h : f_X11_copyFog_h31 N k31 v1 v2 v4 M = some q) : Fr 0 111 3 m_X11_copyFog 31 [(0, .ref 0), (1, .int v1), (2, .int v2), (4, .int v4)] [] M (QI q) := by
  unfold f_X11_copyFog_h31 at h
  refine Fr_iload (i := 4) 3 (by decide +kernel) rfl ?_
  refine Fr_iload_n (q := 2) (i := 2) 2 (by decide +kernel) rfl rfl ?_
  refine Fr_icmp_ge (off := 32) 66 (by decide +kernel) (by decide) (fun hc => ?_) (fun hc => ?_)
  · have h := iT hc h
    refine Fr_aload_n (q := 0) (i := 0) 0 (by decide +kernel) rfl rfl ?_
    refine Fr_iload_n (q := 2) (i := 2) 2 (by decide +kernel) rfl rfl ?_
    obtain ⟨r_9, M_7, hc_8, h⟩ := bi_elim h
    refine Fr_cVi (ν := m_X11_answered) (As := [.int v2]) (st := []) (rc := 0) (ci := 11) (d' := 0) (by decide +kernel) ml_X11_176 cv_X11_answered rfl (by decide) rfl ob_0 rfl (by decide) (Nat.le_of_ble_eq_true rfl) (t_X11_answered hc_8) ?_
    obtain rfl := Option.some.inj h
    exact Fr_iret (by decide +kernel) rfl ⟨rfl, rfl⟩
  · have h := iF hc h
    refine Fr_aload_n (q := 0) (i := 0) 0 (by decide +kernel) rfl rfl ?_
    refine gf_X11_27 rfl (by decide +kernel) ob_0 ?_
    refine Fr_iload_n (q := 1) (i := 1) 1 (by decide +kernel) rfl rfl ?_
    refine Fr_iload (i := 4) 3 (by decide +kernel) rfl ?_
    refine Fr_aload_n (q := 0) (i := 0) 0 (by decide +kernel) rfl rfl ?_
    refine gf_X11_34 rfl (by decide +kernel) ob_0 ?_
    refine gf_X11_229 rfl (by decide +kernel) ob_10 ?_
    refine Fr_iload (i := 4) 3 (by decide +kernel) rfl ?_
    obtain ⟨r_12, M_10, hc_11, h⟩ := bi_elim h
    refine Fr_cSi (ν := m_X5_bothKinds) (As := [.ref 16, .int v4]) (st := [.int v4, .int v1, .ref 2]) (d' := 0) (by decide +kernel) ml_X11_246 cs_X5_bothKinds rfl (by decide) (Nat.le_of_ble_eq_true rfl) (t_X5_bothKinds ob_16 hc_11) ?_
    refine Fr_i2l (by decide +kernel) ?_
    obtain ⟨M_13, hc_14, h⟩ := bv_elim h
    refine Fr_cVv (ν := m_X9_put) (As := [.int v1, .int v4, .long (Int32.toInt64 r_12)]) (st := []) (rc := 2) (ci := 9) (d' := 1) (by decide +kernel) ml_X11_136 cv_X9_put rfl (by decide) rfl ob_2 rfl (by decide) (Nat.le_of_ble_eq_true rfl) (t_X9_put hc_14) ?_
    refine Fr_iinc (i := 4) (j := 1) (v := (v4 + 1)) (lv' := [(4, .int (v4 + 1)), (0, .ref 0), (1, .int v1), (2, .int v2)]) 3 (by decide +kernel) rfl rfl (by decide) rfl ?_
    refine Fr_goto (off := (-32)) 31 (by decide +kernel) (by decide) ?_
    refine Fr_loc [1, 2, 3, 0] rfl ?_
    exact hk31 (v1, v2, (v4 + 1)) M_13 h
def f_X11_copyFog (N : Nat) (x1 : Int32) (M : Mem) : Option (Int32 × Mem) :=
  bi (f_X5_boardCount 10 M) fun r_3 M_1 =>
  bi (f_X9_codeOfLength x1 r_3 M_1) fun r_6 M_4 =>
  if r_6 = 0 then (lp (fun k a m => f_X11_copyFog_h31 N k a.1 a.2.1 a.2.2 m) N (x1, r_3, 0) M_4) else (bi (f_X11_refused r_6 M_4) fun r_17 M_15 =>
  some (r_17, M_15))
set_option maxRecDepth 20000 in
theorem t_X11_copyFog {N : Nat} {x1 : Int32} {M : Mem} {q : Int32 × Mem} (h : f_X11_copyFog N x1 M = some q) : Ev 0 111 3 m_X11_copyFog [.ref 0, .int x1] M (QI q) := by
  refine Ev_of_Fr (by decide +kernel) (Nat.le_of_ble_eq_true rfl) ?_
  show Fr 0 111 3 m_X11_copyFog 0 [(0, .ref 0), (1, .int x1)] [] M (QI q)
  unfold f_X11_copyFog at h
  refine Fr_aload_n (q := 0) (i := 0) 0 (by decide +kernel) rfl rfl ?_
  refine gf_X11_34 rfl (by decide +kernel) ob_0 ?_
  obtain ⟨r_3, M_1, hc_2, h⟩ := bi_elim h
  refine Fr_cVi (ν := m_X5_boardCount) (As := []) (st := []) (rc := 10) (ci := 5) (d' := 0) (by decide +kernel) ml_X11_239 cv_X5_boardCount rfl (by decide) rfl ob_10 rfl (by decide) (Nat.le_of_ble_eq_true rfl) (t_X5_boardCount ob_10 hc_2) ?_
  refine Fr_istore_n (q := 2) (i := 2) (lv' := [(2, .int r_3), (0, .ref 0), (1, .int x1)]) (by decide +kernel) rfl (by decide) rfl ?_
  refine Fr_aload_n (q := 0) (i := 0) 1 (by decide +kernel) rfl rfl ?_
  refine gf_X11_27 rfl (by decide +kernel) ob_0 ?_
  refine Fr_iload_n (q := 1) (i := 1) 2 (by decide +kernel) rfl rfl ?_
  refine Fr_iload_n (q := 2) (i := 2) 0 (by decide +kernel) rfl rfl ?_
  obtain ⟨r_6, M_4, hc_5, h⟩ := bi_elim h
  refine Fr_cVi (ν := m_X9_codeOfLength) (As := [.int x1, .int r_3]) (st := []) (rc := 2) (ci := 9) (d' := 2) (by decide +kernel) ml_X11_243 cv_X9_codeOfLength rfl (by decide) rfl ob_2 rfl (by decide) (Nat.le_of_ble_eq_true rfl) (t_X9_codeOfLength hc_5) ?_
  refine Fr_istore_n (q := 3) (i := 3) (lv' := [(3, .int r_6), (2, .int r_3), (0, .ref 0), (1, .int x1)]) (by decide +kernel) rfl (by decide) rfl ?_
  refine Fr_iload_n (q := 3) (i := 3) 0 (by decide +kernel) rfl rfl ?_
  refine Fr_if_eq (off := 9) 28 (by decide +kernel) (by decide) (fun hc => ?_) (fun hc => ?_)
  · have h := iT hc h
    refine Fr_iconst (i := 0) (v := 0) (by decide +kernel) (by decide) ?_
    refine Fr_istore (i := 4) (lv' := [(4, .int 0), (3, .int r_6), (2, .int r_3), (0, .ref 0), (1, .int x1)]) (by decide +kernel) (by decide) rfl ?_
    refine Fr_loc [3, 4, 2, 0] rfl ?_
    exact lp_sound (P := fun a M => Fr 0 111 3 m_X11_copyFog 31 [(0, .ref 0), (1, .int a.1), (2, .int a.2.1), (4, .int a.2.2)] [] M (QI q)) (fun k hk a m h => t_X11_copyFog_h31 hk h) N (x1, r_3, 0) M_4 h
  · have h := iF hc h
    refine Fr_aload_n (q := 0) (i := 0) 2 (by decide +kernel) rfl rfl ?_
    refine Fr_iload_n (q := 3) (i := 3) 0 (by decide +kernel) rfl rfl ?_
    obtain ⟨r_17, M_15, hc_16, h⟩ := bi_elim h
    refine Fr_cVi (ν := m_X11_refused) (As := [.int r_6]) (st := []) (rc := 0) (ci := 11) (d' := 0) (by decide +kernel) ml_X11_140 cv_X11_refused rfl (by decide) rfl ob_0 rfl (by decide) (Nat.le_of_ble_eq_true rfl) (t_X11_refused hc_16) ?_
    obtain rfl := Option.some.inj h
    exact Fr_iret (by decide +kernel) rfl ⟨rfl, rfl⟩
def f_X11_hour (N : Nat) (x1 : Int32) (M : Mem) : Option (Int32 × Mem) :=
  if x1 < 1 then (bi (f_X11_refused 5 M) fun r_3 M_1 =>
  some (r_3, M_1)) else (if x1 ≤ 48 then (if ((M.1 10 5) + x1) ≤ 9999 then (bi (f_X10_passHours N 10 x1 M) fun r_6 M_4 =>
  bi (f_X11_answered (M_4.1 10 5) M_4) fun r_9 M_7 =>
  some (r_9, M_7)) else (bi (f_X11_refused 7 M) fun r_12 M_10 =>
  some (r_12, M_10))) else (bi (f_X11_refused 5 M) fun r_15 M_13 =>
  some (r_15, M_13)))
set_option maxRecDepth 20000 in
theorem t_X11_hour {N : Nat} {x1 : Int32} {M : Mem} {q : Int32 × Mem} (h : f_X11_hour N x1 M = some q) : Ev 0 111 4 m_X11_hour [.ref 0, .int x1] M (QI q) := by
  refine Ev_of_Fr (by decide +kernel) (Nat.le_of_ble_eq_true rfl) ?_
  show Fr 0 111 4 m_X11_hour 0 [(0, .ref 0), (1, .int x1)] [] M (QI q)
  unfold f_X11_hour at h
  refine Fr_iload_n (q := 1) (i := 1) 1 (by decide +kernel) rfl rfl ?_
  refine Fr_iconst (i := 1) (v := 1) (by decide +kernel) (by decide) ?_
  refine Fr_icmp_lt (off := 9) 11 (by decide +kernel) (by decide) (fun hc => ?_) (fun hc => ?_)
  · have h := iT hc h
    refine Fr_aload_n (q := 0) (i := 0) 0 (by decide +kernel) rfl rfl ?_
    refine Fr_iconst (i := 5) (v := 5) (by decide +kernel) (by decide) ?_
    obtain ⟨r_3, M_1, hc_2, h⟩ := bi_elim h
    refine Fr_cVi (ν := m_X11_refused) (As := [.int 5]) (st := []) (rc := 0) (ci := 11) (d' := 0) (by decide +kernel) ml_X11_140 cv_X11_refused rfl (by decide) rfl ob_0 rfl (by decide) (Nat.le_of_ble_eq_true rfl) (t_X11_refused hc_2) ?_
    obtain rfl := Option.some.inj h
    exact Fr_iret (by decide +kernel) rfl ⟨rfl, rfl⟩
  · have h := iF hc h
    refine Fr_iload_n (q := 1) (i := 1) 1 (by decide +kernel) rfl rfl ?_
    refine Fr_bipush (i := 48) (v := 48) (by decide +kernel) (by decide) ?_
    refine Fr_icmp_le (off := 9) 17 (by decide +kernel) (by decide) (fun hc => ?_) (fun hc => ?_)
    · have h := iT hc h
      refine Fr_aload_n (q := 0) (i := 0) 0 (by decide +kernel) rfl rfl ?_
      refine gf_X11_34 rfl (by decide +kernel) ob_0 ?_
      refine gf_X11_250 rfl (by decide +kernel) ob_10 ?_
      refine Fr_iload_n (q := 1) (i := 1) 1 (by decide +kernel) rfl rfl ?_
      refine Fr_iadd (by decide +kernel) ?_
      refine Fr_sipush (i := 9999) (v := 9999) (by decide +kernel) (by decide) ?_
      refine Fr_icmp_le (off := 10) 39 (by decide +kernel) (by decide) (fun hc => ?_) (fun hc => ?_)
      · have h := iT hc h
        refine Fr_aload_n (q := 0) (i := 0) 0 (by decide +kernel) rfl rfl ?_
        refine gf_X11_80 rfl (by decide +kernel) ob_0 ?_
        refine Fr_aload_n (q := 0) (i := 0) 0 (by decide +kernel) rfl rfl ?_
        refine gf_X11_34 rfl (by decide +kernel) ob_0 ?_
        refine Fr_iload_n (q := 1) (i := 1) 1 (by decide +kernel) rfl rfl ?_
        obtain ⟨r_6, M_4, hc_5, h⟩ := bi_elim h
        refine Fr_cVi (ν := m_X10_passHours) (As := [.ref 10, .int x1]) (st := []) (rc := 90) (ci := 10) (d' := 3) (by decide +kernel) ml_X11_253 cv_X10_passHours rfl (by decide) rfl ob_90 rfl (by decide) (Nat.le_of_ble_eq_true rfl) (t_X10_passHours ob_10 hc_5) ?_
        refine Fr_pop (by decide +kernel) rfl ?_
        refine Fr_aload_n (q := 0) (i := 0) 0 (by decide +kernel) rfl rfl ?_
        refine Fr_aload_n (q := 0) (i := 0) 0 (by decide +kernel) rfl rfl ?_
        refine gf_X11_34 rfl (by decide +kernel) ob_0 ?_
        refine gf_X11_250 rfl (by decide +kernel) ob_10 ?_
        obtain ⟨r_9, M_7, hc_8, h⟩ := bi_elim h
        refine Fr_cVi (ν := m_X11_answered) (As := [.int (M_4.1 10 5)]) (st := []) (rc := 0) (ci := 11) (d' := 0) (by decide +kernel) ml_X11_176 cv_X11_answered rfl (by decide) rfl ob_0 rfl (by decide) (Nat.le_of_ble_eq_true rfl) (t_X11_answered hc_8) ?_
        obtain rfl := Option.some.inj h
        exact Fr_iret (by decide +kernel) rfl ⟨rfl, rfl⟩
      · have h := iF hc h
        refine Fr_aload_n (q := 0) (i := 0) 0 (by decide +kernel) rfl rfl ?_
        refine Fr_bipush (i := 7) (v := 7) (by decide +kernel) (by decide) ?_
        obtain ⟨r_12, M_10, hc_11, h⟩ := bi_elim h
        refine Fr_cVi (ν := m_X11_refused) (As := [.int 7]) (st := []) (rc := 0) (ci := 11) (d' := 0) (by decide +kernel) ml_X11_140 cv_X11_refused rfl (by decide) rfl ob_0 rfl (by decide) (Nat.le_of_ble_eq_true rfl) (t_X11_refused hc_11) ?_
        obtain rfl := Option.some.inj h
        exact Fr_iret (by decide +kernel) rfl ⟨rfl, rfl⟩
    · have h := iF hc h
      refine Fr_aload_n (q := 0) (i := 0) 0 (by decide +kernel) rfl rfl ?_
      refine Fr_iconst (i := 5) (v := 5) (by decide +kernel) (by decide) ?_
      obtain ⟨r_15, M_13, hc_14, h⟩ := bi_elim h
      refine Fr_cVi (ν := m_X11_refused) (As := [.int 5]) (st := []) (rc := 0) (ci := 11) (d' := 0) (by decide +kernel) ml_X11_140 cv_X11_refused rfl (by decide) rfl ob_0 rfl (by decide) (Nat.le_of_ble_eq_true rfl) (t_X11_refused hc_14) ?_
      obtain rfl := Option.some.inj h
      exact Fr_iret (by decide +kernel) rfl ⟨rfl, rfl⟩
def f_X11_open (x1 : Int32) (x2 : Int32) (M : Mem) : Option (Bool × Mem) :=
  bi (f_X5_isGate 10 x1 M) fun r_3 M_1 =>
  if (b2i r_3) = 0 then (bi (f_X11_refusedFlag 2 M_1) fun r_17 M_15 =>
  some (r_17, M_15)) else (bi (f_X5_isOpen 10 x1 M_1) fun r_6 M_4 =>
  if (b2i r_6) = x2 then (bi (f_X11_refusedFlag 9 M_4) fun r_14 M_12 =>
  some (r_14, M_12)) else (bv (f_X5_setOpen 10 x1 x2 M_4) fun M_7 =>
  bi (f_X11_granted M_7) fun r_11 M_9 =>
  some (r_11, M_9)))
set_option maxRecDepth 20000 in
theorem t_X11_open {x1 : Int32} {x2 : Int32} {M : Mem} {q : Bool × Mem} (h : f_X11_open x1 x2 M = some q) : Ev 0 111 1 m_X11_open [.ref 0, .int x1, .int x2] M (QB q) := by
  refine Ev_of_Fr (by decide +kernel) (Nat.le_of_ble_eq_true rfl) ?_
  show Fr 0 111 1 m_X11_open 0 [(0, .ref 0), (1, .int x1), (2, .int x2)] [] M (QB q)
  unfold f_X11_open at h
  refine Fr_aload_n (q := 0) (i := 0) 0 (by decide +kernel) rfl rfl ?_
  refine gf_X11_34 rfl (by decide +kernel) ob_0 ?_
  refine Fr_iload_n (q := 1) (i := 1) 1 (by decide +kernel) rfl rfl ?_
  obtain ⟨r_3, M_1, hc_2, h⟩ := bi_elim h
  refine Fr_cVb (ν := m_X5_isGate) (As := [.int x1]) (st := []) (rc := 10) (ci := 5) (d' := 0) (by decide +kernel) ml_X11_200 cv_X5_isGate rfl (by decide) rfl ob_10 rfl (by decide) (Nat.le_of_ble_eq_true rfl) (t_X5_isGate ob_10 hc_2) ?_
  refine Fr_if_ne (off := 9) 17 (by decide +kernel) (by decide) (fun hc => ?_) (fun hc => ?_)
  · have h := iF hc h
    refine Fr_aload_n (q := 0) (i := 0) 0 (by decide +kernel) rfl rfl ?_
    refine gf_X11_34 rfl (by decide +kernel) ob_0 ?_
    refine Fr_iload_n (q := 1) (i := 1) 1 (by decide +kernel) rfl rfl ?_
    obtain ⟨r_6, M_4, hc_5, h⟩ := bi_elim h
    refine Fr_cVb (ν := m_X5_isOpen) (As := [.int x1]) (st := []) (rc := 10) (ci := 5) (d' := 0) (by decide +kernel) ml_X11_257 cv_X5_isOpen rfl (by decide) rfl ob_10 rfl (by decide) (Nat.le_of_ble_eq_true rfl) (t_X5_isOpen ob_10 hc_5) ?_
    refine Fr_iload_n (q := 2) (i := 2) 2 (by decide +kernel) rfl rfl ?_
    refine Fr_icmp_ne (off := 10) 36 (by decide +kernel) (by decide) (fun hc => ?_) (fun hc => ?_)
    · have h := iF hc h
      refine Fr_aload_n (q := 0) (i := 0) 0 (by decide +kernel) rfl rfl ?_
      refine gf_X11_34 rfl (by decide +kernel) ob_0 ?_
      refine Fr_iload_n (q := 1) (i := 1) 1 (by decide +kernel) rfl rfl ?_
      refine Fr_iload_n (q := 2) (i := 2) 2 (by decide +kernel) rfl rfl ?_
      obtain ⟨M_7, hc_8, h⟩ := bv_elim h
      refine Fr_cVv (ν := m_X5_setOpen) (As := [.int x1, .int x2]) (st := []) (rc := 10) (ci := 5) (d' := 0) (by decide +kernel) ml_X11_260 cv_X5_setOpen rfl (by decide) rfl ob_10 rfl (by decide) (Nat.le_of_ble_eq_true rfl) (t_X5_setOpen ob_10 hc_8) ?_
      refine Fr_aload_n (q := 0) (i := 0) 0 (by decide +kernel) rfl rfl ?_
      obtain ⟨r_11, M_9, hc_10, h⟩ := bi_elim h
      refine Fr_cVb (ν := m_X11_granted) (As := []) (st := []) (rc := 0) (ci := 11) (d' := 0) (by decide +kernel) ml_X11_128 cv_X11_granted rfl (by decide) rfl ob_0 rfl (by decide) (Nat.le_of_ble_eq_true rfl) (t_X11_granted hc_10) ?_
      obtain rfl := Option.some.inj h
      exact Fr_zret (by decide +kernel) rfl (nz_b r_11) ⟨rfl, rfl⟩
    · have h := iT hc h
      refine Fr_aload_n (q := 0) (i := 0) 0 (by decide +kernel) rfl rfl ?_
      refine Fr_bipush (i := 9) (v := 9) (by decide +kernel) (by decide) ?_
      obtain ⟨r_14, M_12, hc_13, h⟩ := bi_elim h
      refine Fr_cVb (ν := m_X11_refusedFlag) (As := [.int 9]) (st := []) (rc := 0) (ci := 11) (d' := 0) (by decide +kernel) ml_X11_121 cv_X11_refusedFlag rfl (by decide) rfl ob_0 rfl (by decide) (Nat.le_of_ble_eq_true rfl) (t_X11_refusedFlag hc_13) ?_
      obtain rfl := Option.some.inj h
      exact Fr_zret (by decide +kernel) rfl (nz_b r_14) ⟨rfl, rfl⟩
  · have h := iT hc h
    refine Fr_aload_n (q := 0) (i := 0) 0 (by decide +kernel) rfl rfl ?_
    refine Fr_iconst (i := 2) (v := 2) (by decide +kernel) (by decide) ?_
    obtain ⟨r_17, M_15, hc_16, h⟩ := bi_elim h
    refine Fr_cVb (ν := m_X11_refusedFlag) (As := [.int 2]) (st := []) (rc := 0) (ci := 11) (d' := 0) (by decide +kernel) ml_X11_121 cv_X11_refusedFlag rfl (by decide) rfl ob_0 rfl (by decide) (Nat.le_of_ble_eq_true rfl) (t_X11_refusedFlag hc_16) ?_
    obtain rfl := Option.some.inj h
    exact Fr_zret (by decide +kernel) rfl (nz_b r_17) ⟨rfl, rfl⟩
def f_X11_openBy (N : Nat) (x1 : Int32) (x2 : Int32) (M : Mem) : Option (Bool × Mem) :=
  bi (f_X5_isGate 10 x1 M) fun r_3 M_1 =>
  if (b2i r_3) = 0 then (bi (f_X11_refusedFlag 2 M_1) fun r_29 M_27 =>
  some (r_29, M_27)) else (bi (f_X5_isHolderSet 10 x2 M_1) fun r_6 M_4 =>
  if (b2i r_6) = 0 then (bi (f_X11_refusedFlag 5 M_4) fun r_26 M_24 =>
  some (r_26, M_24)) else (bi (f_X5_isOpen 10 x1 M_4) fun r_9 M_7 =>
  if (b2i r_9) = 0 then (bi (f_X5_canOpen N 10 x1 x2 M_7) fun r_15 M_13 =>
  if (b2i r_15) = 0 then (bi (f_X11_refusedFlag 9 M_13) fun r_23 M_21 =>
  some (r_23, M_21)) else (bv (f_X5_setOpen 10 x1 1 M_13) fun M_16 =>
  bi (f_X11_granted M_16) fun r_20 M_18 =>
  some (r_20, M_18))) else (bi (f_X11_refusedFlag 9 M_7) fun r_12 M_10 =>
  some (r_12, M_10))))
set_option maxRecDepth 20000 in
theorem t_X11_openBy {N : Nat} {x1 : Int32} {x2 : Int32} {M : Mem} {q : Bool × Mem} (h : f_X11_openBy N x1 x2 M = some q) : Ev 0 111 2 m_X11_openBy [.ref 0, .int x1, .int x2] M (QB q) := by
  refine Ev_of_Fr (by decide +kernel) (Nat.le_of_ble_eq_true rfl) ?_
  show Fr 0 111 2 m_X11_openBy 0 [(0, .ref 0), (1, .int x1), (2, .int x2)] [] M (QB q)
  unfold f_X11_openBy at h
  refine Fr_aload_n (q := 0) (i := 0) 0 (by decide +kernel) rfl rfl ?_
  refine gf_X11_34 rfl (by decide +kernel) ob_0 ?_
  refine Fr_iload_n (q := 1) (i := 1) 1 (by decide +kernel) rfl rfl ?_
  obtain ⟨r_3, M_1, hc_2, h⟩ := bi_elim h
  refine Fr_cVb (ν := m_X5_isGate) (As := [.int x1]) (st := []) (rc := 10) (ci := 5) (d' := 0) (by decide +kernel) ml_X11_200 cv_X5_isGate rfl (by decide) rfl ob_10 rfl (by decide) (Nat.le_of_ble_eq_true rfl) (t_X5_isGate ob_10 hc_2) ?_
  refine Fr_if_ne (off := 9) 17 (by decide +kernel) (by decide) (fun hc => ?_) (fun hc => ?_)
  · have h := iF hc h
    refine Fr_aload_n (q := 0) (i := 0) 0 (by decide +kernel) rfl rfl ?_
    refine gf_X11_34 rfl (by decide +kernel) ob_0 ?_
    refine Fr_iload_n (q := 2) (i := 2) 2 (by decide +kernel) rfl rfl ?_
    obtain ⟨r_6, M_4, hc_5, h⟩ := bi_elim h
    refine Fr_cVb (ν := m_X5_isHolderSet) (As := [.int x2]) (st := []) (rc := 10) (ci := 5) (d' := 1) (by decide +kernel) ml_X11_264 cv_X5_isHolderSet rfl (by decide) rfl ob_10 rfl (by decide) (Nat.le_of_ble_eq_true rfl) (t_X5_isHolderSet ob_10 hc_5) ?_
    refine Fr_if_ne (off := 9) 34 (by decide +kernel) (by decide) (fun hc => ?_) (fun hc => ?_)
    · have h := iF hc h
      refine Fr_aload_n (q := 0) (i := 0) 0 (by decide +kernel) rfl rfl ?_
      refine gf_X11_34 rfl (by decide +kernel) ob_0 ?_
      refine Fr_iload_n (q := 1) (i := 1) 1 (by decide +kernel) rfl rfl ?_
      obtain ⟨r_9, M_7, hc_8, h⟩ := bi_elim h
      refine Fr_cVb (ν := m_X5_isOpen) (As := [.int x1]) (st := []) (rc := 10) (ci := 5) (d' := 0) (by decide +kernel) ml_X11_257 cv_X5_isOpen rfl (by decide) rfl ob_10 rfl (by decide) (Nat.le_of_ble_eq_true rfl) (t_X5_isOpen ob_10 hc_8) ?_
      refine Fr_if_ne (off := 15) 57 (by decide +kernel) (by decide) (fun hc => ?_) (fun hc => ?_)
      · have h := iF hc h
        refine Fr_aload_n (q := 0) (i := 0) 0 (by decide +kernel) rfl rfl ?_
        refine Fr_bipush (i := 9) (v := 9) (by decide +kernel) (by decide) ?_
        obtain ⟨r_12, M_10, hc_11, h⟩ := bi_elim h
        refine Fr_cVb (ν := m_X11_refusedFlag) (As := [.int 9]) (st := []) (rc := 0) (ci := 11) (d' := 0) (by decide +kernel) ml_X11_121 cv_X11_refusedFlag rfl (by decide) rfl ob_0 rfl (by decide) (Nat.le_of_ble_eq_true rfl) (t_X11_refusedFlag hc_11) ?_
        obtain rfl := Option.some.inj h
        exact Fr_zret (by decide +kernel) rfl (nz_b r_12) ⟨rfl, rfl⟩
      · have h := iT hc h
        refine Fr_aload_n (q := 0) (i := 0) 0 (by decide +kernel) rfl rfl ?_
        refine gf_X11_34 rfl (by decide +kernel) ob_0 ?_
        refine Fr_iload_n (q := 1) (i := 1) 1 (by decide +kernel) rfl rfl ?_
        refine Fr_iload_n (q := 2) (i := 2) 2 (by decide +kernel) rfl rfl ?_
        obtain ⟨r_15, M_13, hc_14, h⟩ := bi_elim h
        refine Fr_cVb (ν := m_X5_canOpen) (As := [.int x1, .int x2]) (st := []) (rc := 10) (ci := 5) (d' := 1) (by decide +kernel) ml_X11_267 cv_X5_canOpen rfl (by decide) rfl ob_10 rfl (by decide) (Nat.le_of_ble_eq_true rfl) (t_X5_canOpen ob_10 hc_14) ?_
        refine Fr_if_ne (off := 10) 64 (by decide +kernel) (by decide) (fun hc => ?_) (fun hc => ?_)
        · have h := iF hc h
          refine Fr_aload_n (q := 0) (i := 0) 0 (by decide +kernel) rfl rfl ?_
          refine gf_X11_34 rfl (by decide +kernel) ob_0 ?_
          refine Fr_iload_n (q := 1) (i := 1) 1 (by decide +kernel) rfl rfl ?_
          refine Fr_iconst (i := 1) (v := 1) (by decide +kernel) (by decide) ?_
          obtain ⟨M_16, hc_17, h⟩ := bv_elim h
          refine Fr_cVv (ν := m_X5_setOpen) (As := [.int x1, .int 1]) (st := []) (rc := 10) (ci := 5) (d' := 0) (by decide +kernel) ml_X11_260 cv_X5_setOpen rfl (by decide) rfl ob_10 rfl (by decide) (Nat.le_of_ble_eq_true rfl) (t_X5_setOpen ob_10 hc_17) ?_
          refine Fr_aload_n (q := 0) (i := 0) 0 (by decide +kernel) rfl rfl ?_
          obtain ⟨r_20, M_18, hc_19, h⟩ := bi_elim h
          refine Fr_cVb (ν := m_X11_granted) (As := []) (st := []) (rc := 0) (ci := 11) (d' := 0) (by decide +kernel) ml_X11_128 cv_X11_granted rfl (by decide) rfl ob_0 rfl (by decide) (Nat.le_of_ble_eq_true rfl) (t_X11_granted hc_19) ?_
          obtain rfl := Option.some.inj h
          exact Fr_zret (by decide +kernel) rfl (nz_b r_20) ⟨rfl, rfl⟩
        · have h := iT hc h
          refine Fr_aload_n (q := 0) (i := 0) 0 (by decide +kernel) rfl rfl ?_
          refine Fr_bipush (i := 9) (v := 9) (by decide +kernel) (by decide) ?_
          obtain ⟨r_23, M_21, hc_22, h⟩ := bi_elim h
          refine Fr_cVb (ν := m_X11_refusedFlag) (As := [.int 9]) (st := []) (rc := 0) (ci := 11) (d' := 0) (by decide +kernel) ml_X11_121 cv_X11_refusedFlag rfl (by decide) rfl ob_0 rfl (by decide) (Nat.le_of_ble_eq_true rfl) (t_X11_refusedFlag hc_22) ?_
          obtain rfl := Option.some.inj h
          exact Fr_zret (by decide +kernel) rfl (nz_b r_23) ⟨rfl, rfl⟩
    · have h := iT hc h
      refine Fr_aload_n (q := 0) (i := 0) 0 (by decide +kernel) rfl rfl ?_
      refine Fr_iconst (i := 5) (v := 5) (by decide +kernel) (by decide) ?_
      obtain ⟨r_26, M_24, hc_25, h⟩ := bi_elim h
      refine Fr_cVb (ν := m_X11_refusedFlag) (As := [.int 5]) (st := []) (rc := 0) (ci := 11) (d' := 0) (by decide +kernel) ml_X11_121 cv_X11_refusedFlag rfl (by decide) rfl ob_0 rfl (by decide) (Nat.le_of_ble_eq_true rfl) (t_X11_refusedFlag hc_25) ?_
      obtain rfl := Option.some.inj h
      exact Fr_zret (by decide +kernel) rfl (nz_b r_26) ⟨rfl, rfl⟩
  · have h := iT hc h
    refine Fr_aload_n (q := 0) (i := 0) 0 (by decide +kernel) rfl rfl ?_
    refine Fr_iconst (i := 2) (v := 2) (by decide +kernel) (by decide) ?_
    obtain ⟨r_29, M_27, hc_28, h⟩ := bi_elim h
    refine Fr_cVb (ν := m_X11_refusedFlag) (As := [.int 2]) (st := []) (rc := 0) (ci := 11) (d' := 0) (by decide +kernel) ml_X11_121 cv_X11_refusedFlag rfl (by decide) rfl ob_0 rfl (by decide) (Nat.le_of_ble_eq_true rfl) (t_X11_refusedFlag hc_28) ?_
    obtain rfl := Option.some.inj h
    exact Fr_zret (by decide +kernel) rfl (nz_b r_29) ⟨rfl, rfl⟩
def f_X11_wind (x1 : Int32) (M : Mem) : Option (Bool × Mem) :=
  if x1 < 0 then (bi (f_X11_refusedFlag 5 M) fun r_3 M_1 =>
  some (r_3, M_1)) else (if x1 ≤ 4 then (if x1 = (M.1 10 2) then (bi (f_X11_refusedFlag 9 M) fun r_10 M_8 =>
  some (r_10, M_8)) else (bM (uI M 10 2 x1) fun M_4 =>
  bi (f_X11_granted M_4) fun r_7 M_5 =>
  some (r_7, M_5))) else (bi (f_X11_refusedFlag 5 M) fun r_13 M_11 =>
  some (r_13, M_11)))
set_option maxRecDepth 20000 in
theorem t_X11_wind {x1 : Int32} {M : Mem} {q : Bool × Mem} (h : f_X11_wind x1 M = some q) : Ev 0 111 1 m_X11_wind [.ref 0, .int x1] M (QB q) := by
  refine Ev_of_Fr (by decide +kernel) (Nat.le_of_ble_eq_true rfl) ?_
  show Fr 0 111 1 m_X11_wind 0 [(0, .ref 0), (1, .int x1)] [] M (QB q)
  unfold f_X11_wind at h
  refine Fr_iload_n (q := 1) (i := 1) 1 (by decide +kernel) rfl rfl ?_
  refine Fr_if_lt (off := 8) 9 (by decide +kernel) (by decide) (fun hc => ?_) (fun hc => ?_)
  · have h := iT hc h
    refine Fr_aload_n (q := 0) (i := 0) 0 (by decide +kernel) rfl rfl ?_
    refine Fr_iconst (i := 5) (v := 5) (by decide +kernel) (by decide) ?_
    obtain ⟨r_3, M_1, hc_2, h⟩ := bi_elim h
    refine Fr_cVb (ν := m_X11_refusedFlag) (As := [.int 5]) (st := []) (rc := 0) (ci := 11) (d' := 0) (by decide +kernel) ml_X11_121 cv_X11_refusedFlag rfl (by decide) rfl ob_0 rfl (by decide) (Nat.le_of_ble_eq_true rfl) (t_X11_refusedFlag hc_2) ?_
    obtain rfl := Option.some.inj h
    exact Fr_zret (by decide +kernel) rfl (nz_b r_3) ⟨rfl, rfl⟩
  · have h := iF hc h
    refine Fr_iload_n (q := 1) (i := 1) 1 (by decide +kernel) rfl rfl ?_
    refine Fr_iconst (i := 4) (v := 4) (by decide +kernel) (by decide) ?_
    refine Fr_icmp_le (off := 9) 15 (by decide +kernel) (by decide) (fun hc => ?_) (fun hc => ?_)
    · have h := iT hc h
      refine Fr_iload_n (q := 1) (i := 1) 1 (by decide +kernel) rfl rfl ?_
      refine Fr_aload_n (q := 0) (i := 0) 0 (by decide +kernel) rfl rfl ?_
      refine gf_X11_34 rfl (by decide +kernel) ob_0 ?_
      refine gf_X11_270 rfl (by decide +kernel) ob_10 ?_
      refine Fr_icmp_ne (off := 10) 33 (by decide +kernel) (by decide) (fun hc => ?_) (fun hc => ?_)
      · have h := iF hc h
        refine Fr_aload_n (q := 0) (i := 0) 0 (by decide +kernel) rfl rfl ?_
        refine gf_X11_34 rfl (by decide +kernel) ob_0 ?_
        refine Fr_iload_n (q := 1) (i := 1) 1 (by decide +kernel) rfl rfl ?_
        refine pf_X11_270 rfl (by decide +kernel) ob_10 ?_
        obtain ⟨M_4, eM_4, h⟩ := bM_elim h
        refine Fr_mem eM_4 ?_
        refine Fr_aload_n (q := 0) (i := 0) 0 (by decide +kernel) rfl rfl ?_
        obtain ⟨r_7, M_5, hc_6, h⟩ := bi_elim h
        refine Fr_cVb (ν := m_X11_granted) (As := []) (st := []) (rc := 0) (ci := 11) (d' := 0) (by decide +kernel) ml_X11_128 cv_X11_granted rfl (by decide) rfl ob_0 rfl (by decide) (Nat.le_of_ble_eq_true rfl) (t_X11_granted hc_6) ?_
        obtain rfl := Option.some.inj h
        exact Fr_zret (by decide +kernel) rfl (nz_b r_7) ⟨rfl, rfl⟩
      · have h := iT hc h
        refine Fr_aload_n (q := 0) (i := 0) 0 (by decide +kernel) rfl rfl ?_
        refine Fr_bipush (i := 9) (v := 9) (by decide +kernel) (by decide) ?_
        obtain ⟨r_10, M_8, hc_9, h⟩ := bi_elim h
        refine Fr_cVb (ν := m_X11_refusedFlag) (As := [.int 9]) (st := []) (rc := 0) (ci := 11) (d' := 0) (by decide +kernel) ml_X11_121 cv_X11_refusedFlag rfl (by decide) rfl ob_0 rfl (by decide) (Nat.le_of_ble_eq_true rfl) (t_X11_refusedFlag hc_9) ?_
        obtain rfl := Option.some.inj h
        exact Fr_zret (by decide +kernel) rfl (nz_b r_10) ⟨rfl, rfl⟩
    · have h := iF hc h
      refine Fr_aload_n (q := 0) (i := 0) 0 (by decide +kernel) rfl rfl ?_
      refine Fr_iconst (i := 5) (v := 5) (by decide +kernel) (by decide) ?_
      obtain ⟨r_13, M_11, hc_12, h⟩ := bi_elim h
      refine Fr_cVb (ν := m_X11_refusedFlag) (As := [.int 5]) (st := []) (rc := 0) (ci := 11) (d' := 0) (by decide +kernel) ml_X11_121 cv_X11_refusedFlag rfl (by decide) rfl ob_0 rfl (by decide) (Nat.le_of_ble_eq_true rfl) (t_X11_refusedFlag hc_12) ?_
      obtain rfl := Option.some.inj h
      exact Fr_zret (by decide +kernel) rfl (nz_b r_13) ⟨rfl, rfl⟩
def f_X11_sweep (x1 : Int32) (x2 : Int32) (M : Mem) : Option (Int32 × Mem) :=
  bi (f_X5_isBoard 10 x1 x2 M) fun r_3 M_1 =>
  if (b2i r_3) = 0 then (bi (f_X11_refused 2 M_1) fun r_19 M_17 =>
  some (r_19, M_17)) else (bi (f_X5_boardAt 10 x1 x2 M_1) fun r_6 M_4 =>
  bi (f_X5_bothKinds 16 r_6 M_4) fun r_9 M_7 =>
  ck r_6 60 (
  bM (uI M_7 16 (tn r_6) 0) fun M_11 =>
  ck (30 + r_6) 60 (
  bM (uI M_11 16 (tn (30 + r_6)) 0) fun M_13 =>
  bi (f_X11_answered r_9 M_13) fun r_16 M_14 =>
  some (r_16, M_14))))
set_option maxRecDepth 20000 in
theorem t_X11_sweep {x1 : Int32} {x2 : Int32} {M : Mem} {q : Int32 × Mem} (h : f_X11_sweep x1 x2 M = some q) : Ev 0 111 1 m_X11_sweep [.ref 0, .int x1, .int x2] M (QI q) := by
  refine Ev_of_Fr (by decide +kernel) (Nat.le_of_ble_eq_true rfl) ?_
  show Fr 0 111 1 m_X11_sweep 0 [(0, .ref 0), (1, .int x1), (2, .int x2)] [] M (QI q)
  unfold f_X11_sweep at h
  refine Fr_aload_n (q := 0) (i := 0) 0 (by decide +kernel) rfl rfl ?_
  refine gf_X11_34 rfl (by decide +kernel) ob_0 ?_
  refine Fr_iload_n (q := 1) (i := 1) 1 (by decide +kernel) rfl rfl ?_
  refine Fr_iload_n (q := 2) (i := 2) 2 (by decide +kernel) rfl rfl ?_
  obtain ⟨r_3, M_1, hc_2, h⟩ := bi_elim h
  refine Fr_cVb (ν := m_X5_isBoard) (As := [.int x1, .int x2]) (st := []) (rc := 10) (ci := 5) (d' := 0) (by decide +kernel) ml_X11_225 cv_X5_isBoard rfl (by decide) rfl ob_10 rfl (by decide) (Nat.le_of_ble_eq_true rfl) (t_X5_isBoard ob_10 hc_2) ?_
  refine Fr_if_ne (off := 9) 18 (by decide +kernel) (by decide) (fun hc => ?_) (fun hc => ?_)
  · have h := iF hc h
    refine Fr_aload_n (q := 0) (i := 0) 0 (by decide +kernel) rfl rfl ?_
    refine gf_X11_34 rfl (by decide +kernel) ob_0 ?_
    refine Fr_iload_n (q := 1) (i := 1) 1 (by decide +kernel) rfl rfl ?_
    refine Fr_iload_n (q := 2) (i := 2) 2 (by decide +kernel) rfl rfl ?_
    obtain ⟨r_6, M_4, hc_5, h⟩ := bi_elim h
    refine Fr_cVi (ν := m_X5_boardAt) (As := [.int x1, .int x2]) (st := []) (rc := 10) (ci := 5) (d' := 0) (by decide +kernel) ml_X11_232 cv_X5_boardAt rfl (by decide) rfl ob_10 rfl (by decide) (Nat.le_of_ble_eq_true rfl) (t_X5_boardAt ob_10 hc_5) ?_
    refine Fr_istore_n (q := 3) (i := 3) (lv' := [(3, .int r_6), (0, .ref 0), (1, .int x1), (2, .int x2)]) (by decide +kernel) rfl (by decide) rfl ?_
    refine Fr_aload_n (q := 0) (i := 0) 1 (by decide +kernel) rfl rfl ?_
    refine gf_X11_34 rfl (by decide +kernel) ob_0 ?_
    refine gf_X11_229 rfl (by decide +kernel) ob_10 ?_
    refine Fr_iload_n (q := 3) (i := 3) 0 (by decide +kernel) rfl rfl ?_
    obtain ⟨r_9, M_7, hc_8, h⟩ := bi_elim h
    refine Fr_cSi (ν := m_X5_bothKinds) (As := [.ref 16, .int r_6]) (st := []) (d' := 0) (by decide +kernel) ml_X11_246 cs_X5_bothKinds rfl (by decide) (Nat.le_of_ble_eq_true rfl) (t_X5_bothKinds ob_16 hc_8) ?_
    refine Fr_istore (i := 4) (lv' := [(4, .int r_9), (3, .int r_6), (0, .ref 0), (1, .int x1), (2, .int x2)]) (by decide +kernel) (by decide) rfl ?_
    refine Fr_aload_n (q := 0) (i := 0) 2 (by decide +kernel) rfl rfl ?_
    refine gf_X11_34 rfl (by decide +kernel) ob_0 ?_
    refine gf_X11_229 rfl (by decide +kernel) ob_10 ?_
    refine Fr_iload_n (q := 3) (i := 3) 1 (by decide +kernel) rfl rfl ?_
    refine Fr_iconst (i := 0) (v := 0) (by decide +kernel) (by decide) ?_
    obtain ⟨hi_10, h⟩ := ck_elim h
    refine Fr_iast (by decide +kernel) ob_16 (vp_of ln_16 hi_10) ?_
    obtain ⟨M_11, eM_11, h⟩ := bM_elim h
    refine Fr_mem eM_11 ?_
    refine Fr_aload_n (q := 0) (i := 0) 2 (by decide +kernel) rfl rfl ?_
    refine gf_X11_34 rfl (by decide +kernel) ob_0 ?_
    refine gf_X11_229 rfl (by decide +kernel) ob_10 ?_
    refine Fr_bipush (i := 30) (v := 30) (by decide +kernel) (by decide) ?_
    refine Fr_iload_n (q := 3) (i := 3) 1 (by decide +kernel) rfl rfl ?_
    refine Fr_iadd (by decide +kernel) ?_
    refine Fr_iconst (i := 0) (v := 0) (by decide +kernel) (by decide) ?_
    obtain ⟨hi_12, h⟩ := ck_elim h
    refine Fr_iast (by decide +kernel) ob_16 (vp_of ln_16 hi_12) ?_
    obtain ⟨M_13, eM_13, h⟩ := bM_elim h
    refine Fr_mem eM_13 ?_
    refine Fr_aload_n (q := 0) (i := 0) 2 (by decide +kernel) rfl rfl ?_
    refine Fr_iload (i := 4) 0 (by decide +kernel) rfl ?_
    obtain ⟨r_16, M_14, hc_15, h⟩ := bi_elim h
    refine Fr_cVi (ν := m_X11_answered) (As := [.int r_9]) (st := []) (rc := 0) (ci := 11) (d' := 0) (by decide +kernel) ml_X11_176 cv_X11_answered rfl (by decide) rfl ob_0 rfl (by decide) (Nat.le_of_ble_eq_true rfl) (t_X11_answered hc_15) ?_
    obtain rfl := Option.some.inj h
    exact Fr_iret (by decide +kernel) rfl ⟨rfl, rfl⟩
  · have h := iT hc h
    refine Fr_aload_n (q := 0) (i := 0) 0 (by decide +kernel) rfl rfl ?_
    refine Fr_iconst (i := 2) (v := 2) (by decide +kernel) (by decide) ?_
    obtain ⟨r_19, M_17, hc_18, h⟩ := bi_elim h
    refine Fr_cVi (ν := m_X11_refused) (As := [.int 2]) (st := []) (rc := 0) (ci := 11) (d' := 0) (by decide +kernel) ml_X11_140 cv_X11_refused rfl (by decide) rfl ob_0 rfl (by decide) (Nat.le_of_ble_eq_true rfl) (t_X11_refused hc_18) ?_
    obtain rfl := Option.some.inj h
    exact Fr_iret (by decide +kernel) rfl ⟨rfl, rfl⟩
def f_X11_breathe (x1 : Int32) (x2 : Int32) (x3 : Int32) (x4 : Int32) (M : Mem) : Option (Int32 × Mem) :=
  bi (f_X5_isBoard 10 x1 x2 M) fun r_3 M_1 =>
  if (b2i r_3) = 0 then (bi (f_X11_refused 2 M_1) fun r_28 M_26 =>
  some (r_28, M_26)) else (if x3 < 0 then (bi (f_X11_refused 5 M_1) fun r_6 M_4 =>
  some (r_6, M_4)) else (if 1 < x3 then (bi (f_X11_refused 5 M_1) fun r_9 M_7 =>
  some (r_9, M_7)) else (if x4 < 1 then (bi (f_X11_refused 5 M_1) fun r_12 M_10 =>
  some (r_12, M_10)) else (if x4 ≤ 999 then (bi (f_X5_boardAt 10 x1 x2 M_1) fun r_15 M_13 =>
  ck ((x3 * 30) + r_15) 60 (
  ck ((x3 * 30) + r_15) 60 (
  bM (uI M_13 16 (tn ((x3 * 30) + r_15)) (imin 999 ((M_13.1 16 (tn ((x3 * 30) + r_15))) + x4))) fun M_18 =>
  ck ((x3 * 30) + r_15) 60 (
  bi (f_X11_answered (M_18.1 16 (tn ((x3 * 30) + r_15))) M_18) fun r_22 M_20 =>
  some (r_22, M_20))))) else (bi (f_X11_refused 5 M_1) fun r_25 M_23 =>
  some (r_25, M_23))))))
set_option maxRecDepth 20000 in
theorem t_X11_breathe {x1 : Int32} {x2 : Int32} {x3 : Int32} {x4 : Int32} {M : Mem} {q : Int32 × Mem} (h : f_X11_breathe x1 x2 x3 x4 M = some q) : Ev 0 111 1 m_X11_breathe [.ref 0, .int x1, .int x2, .int x3, .int x4] M (QI q) := by
  refine Ev_of_Fr (by decide +kernel) (Nat.le_of_ble_eq_true rfl) ?_
  show Fr 0 111 1 m_X11_breathe 0 [(0, .ref 0), (1, .int x1), (2, .int x2), (3, .int x3), (4, .int x4)] [] M (QI q)
  unfold f_X11_breathe at h
  refine Fr_aload_n (q := 0) (i := 0) 0 (by decide +kernel) rfl rfl ?_
  refine gf_X11_34 rfl (by decide +kernel) ob_0 ?_
  refine Fr_iload_n (q := 1) (i := 1) 1 (by decide +kernel) rfl rfl ?_
  refine Fr_iload_n (q := 2) (i := 2) 2 (by decide +kernel) rfl rfl ?_
  obtain ⟨r_3, M_1, hc_2, h⟩ := bi_elim h
  refine Fr_cVb (ν := m_X5_isBoard) (As := [.int x1, .int x2]) (st := []) (rc := 10) (ci := 5) (d' := 0) (by decide +kernel) ml_X11_225 cv_X5_isBoard rfl (by decide) rfl ob_10 rfl (by decide) (Nat.le_of_ble_eq_true rfl) (t_X5_isBoard ob_10 hc_2) ?_
  refine Fr_if_ne (off := 9) 18 (by decide +kernel) (by decide) (fun hc => ?_) (fun hc => ?_)
  · have h := iF hc h
    refine Fr_iload_n (q := 3) (i := 3) 3 (by decide +kernel) rfl rfl ?_
    refine Fr_if_lt (off := 22) 41 (by decide +kernel) (by decide) (fun hc => ?_) (fun hc => ?_)
    · have h := iT hc h
      refine Fr_aload_n (q := 0) (i := 0) 0 (by decide +kernel) rfl rfl ?_
      refine Fr_iconst (i := 5) (v := 5) (by decide +kernel) (by decide) ?_
      obtain ⟨r_6, M_4, hc_5, h⟩ := bi_elim h
      refine Fr_cVi (ν := m_X11_refused) (As := [.int 5]) (st := []) (rc := 0) (ci := 11) (d' := 0) (by decide +kernel) ml_X11_140 cv_X11_refused rfl (by decide) rfl ob_0 rfl (by decide) (Nat.le_of_ble_eq_true rfl) (t_X11_refused hc_5) ?_
      obtain rfl := Option.some.inj h
      exact Fr_iret (by decide +kernel) rfl ⟨rfl, rfl⟩
    · have h := iF hc h
      refine Fr_iload_n (q := 3) (i := 3) 3 (by decide +kernel) rfl rfl ?_
      refine Fr_iconst (i := 1) (v := 1) (by decide +kernel) (by decide) ?_
      refine Fr_icmp_gt (off := 17) 41 (by decide +kernel) (by decide) (fun hc => ?_) (fun hc => ?_)
      · have h := iT hc h
        refine Fr_aload_n (q := 0) (i := 0) 0 (by decide +kernel) rfl rfl ?_
        refine Fr_iconst (i := 5) (v := 5) (by decide +kernel) (by decide) ?_
        obtain ⟨r_9, M_7, hc_8, h⟩ := bi_elim h
        refine Fr_cVi (ν := m_X11_refused) (As := [.int 5]) (st := []) (rc := 0) (ci := 11) (d' := 0) (by decide +kernel) ml_X11_140 cv_X11_refused rfl (by decide) rfl ob_0 rfl (by decide) (Nat.le_of_ble_eq_true rfl) (t_X11_refused hc_8) ?_
        obtain rfl := Option.some.inj h
        exact Fr_iret (by decide +kernel) rfl ⟨rfl, rfl⟩
      · have h := iF hc h
        refine Fr_iload (i := 4) 4 (by decide +kernel) rfl ?_
        refine Fr_iconst (i := 1) (v := 1) (by decide +kernel) (by decide) ?_
        refine Fr_icmp_lt (off := 11) 41 (by decide +kernel) (by decide) (fun hc => ?_) (fun hc => ?_)
        · have h := iT hc h
          refine Fr_aload_n (q := 0) (i := 0) 0 (by decide +kernel) rfl rfl ?_
          refine Fr_iconst (i := 5) (v := 5) (by decide +kernel) (by decide) ?_
          obtain ⟨r_12, M_10, hc_11, h⟩ := bi_elim h
          refine Fr_cVi (ν := m_X11_refused) (As := [.int 5]) (st := []) (rc := 0) (ci := 11) (d' := 0) (by decide +kernel) ml_X11_140 cv_X11_refused rfl (by decide) rfl ob_0 rfl (by decide) (Nat.le_of_ble_eq_true rfl) (t_X11_refused hc_11) ?_
          obtain rfl := Option.some.inj h
          exact Fr_iret (by decide +kernel) rfl ⟨rfl, rfl⟩
        · have h := iF hc h
          refine Fr_iload (i := 4) 4 (by decide +kernel) rfl ?_
          refine Fr_sipush (i := 999) (v := 999) (by decide +kernel) (by decide) ?_
          refine Fr_icmp_le (off := 9) 47 (by decide +kernel) (by decide) (fun hc => ?_) (fun hc => ?_)
          · have h := iT hc h
            refine Fr_iload_n (q := 3) (i := 3) 3 (by decide +kernel) rfl rfl ?_
            refine Fr_bipush (i := 30) (v := 30) (by decide +kernel) (by decide) ?_
            refine Fr_imul (by decide +kernel) ?_
            refine Fr_aload_n (q := 0) (i := 0) 0 (by decide +kernel) rfl rfl ?_
            refine gf_X11_34 rfl (by decide +kernel) ob_0 ?_
            refine Fr_iload_n (q := 1) (i := 1) 1 (by decide +kernel) rfl rfl ?_
            refine Fr_iload_n (q := 2) (i := 2) 2 (by decide +kernel) rfl rfl ?_
            obtain ⟨r_15, M_13, hc_14, h⟩ := bi_elim h
            refine Fr_cVi (ν := m_X5_boardAt) (As := [.int x1, .int x2]) (st := [.int (x3 * 30)]) (rc := 10) (ci := 5) (d' := 0) (by decide +kernel) ml_X11_232 cv_X5_boardAt rfl (by decide) rfl ob_10 rfl (by decide) (Nat.le_of_ble_eq_true rfl) (t_X5_boardAt ob_10 hc_14) ?_
            refine Fr_iadd (by decide +kernel) ?_
            refine Fr_istore (i := 5) (lv' := [(5, .int ((x3 * 30) + r_15)), (0, .ref 0), (1, .int x1), (2, .int x2), (3, .int x3), (4, .int x4)]) (by decide +kernel) (by decide) rfl ?_
            refine Fr_aload_n (q := 0) (i := 0) 1 (by decide +kernel) rfl rfl ?_
            refine gf_X11_34 rfl (by decide +kernel) ob_0 ?_
            refine gf_X11_229 rfl (by decide +kernel) ob_10 ?_
            refine Fr_iload (i := 5) 0 (by decide +kernel) rfl ?_
            refine Fr_sipush (i := 999) (v := 999) (by decide +kernel) (by decide) ?_
            refine Fr_aload_n (q := 0) (i := 0) 1 (by decide +kernel) rfl rfl ?_
            refine gf_X11_34 rfl (by decide +kernel) ob_0 ?_
            refine gf_X11_229 rfl (by decide +kernel) ob_10 ?_
            refine Fr_iload (i := 5) 0 (by decide +kernel) rfl ?_
            obtain ⟨hi_16, h⟩ := ck_elim h
            refine Fr_iald (by decide +kernel) ob_16 (vp_of ln_16 hi_16) ?_
            refine Fr_iload (i := 4) 5 (by decide +kernel) rfl ?_
            refine Fr_iadd (by decide +kernel) ?_
            refine Fr_min (by decide +kernel) ml_X11_273 (by decide) (Nat.le_of_ble_eq_true rfl) ?_
            obtain ⟨hi_17, h⟩ := ck_elim h
            refine Fr_iast (by decide +kernel) ob_16 (vp_of ln_16 hi_17) ?_
            obtain ⟨M_18, eM_18, h⟩ := bM_elim h
            refine Fr_mem eM_18 ?_
            refine Fr_aload_n (q := 0) (i := 0) 1 (by decide +kernel) rfl rfl ?_
            refine Fr_aload_n (q := 0) (i := 0) 1 (by decide +kernel) rfl rfl ?_
            refine gf_X11_34 rfl (by decide +kernel) ob_0 ?_
            refine gf_X11_229 rfl (by decide +kernel) ob_10 ?_
            refine Fr_iload (i := 5) 0 (by decide +kernel) rfl ?_
            obtain ⟨hi_19, h⟩ := ck_elim h
            refine Fr_iald (by decide +kernel) ob_16 (vp_of ln_16 hi_19) ?_
            obtain ⟨r_22, M_20, hc_21, h⟩ := bi_elim h
            refine Fr_cVi (ν := m_X11_answered) (As := [.int (M_18.1 16 (tn ((x3 * 30) + r_15)))]) (st := []) (rc := 0) (ci := 11) (d' := 0) (by decide +kernel) ml_X11_176 cv_X11_answered rfl (by decide) rfl ob_0 rfl (by decide) (Nat.le_of_ble_eq_true rfl) (t_X11_answered hc_21) ?_
            obtain rfl := Option.some.inj h
            exact Fr_iret (by decide +kernel) rfl ⟨rfl, rfl⟩
          · have h := iF hc h
            refine Fr_aload_n (q := 0) (i := 0) 0 (by decide +kernel) rfl rfl ?_
            refine Fr_iconst (i := 5) (v := 5) (by decide +kernel) (by decide) ?_
            obtain ⟨r_25, M_23, hc_24, h⟩ := bi_elim h
            refine Fr_cVi (ν := m_X11_refused) (As := [.int 5]) (st := []) (rc := 0) (ci := 11) (d' := 0) (by decide +kernel) ml_X11_140 cv_X11_refused rfl (by decide) rfl ob_0 rfl (by decide) (Nat.le_of_ble_eq_true rfl) (t_X11_refused hc_24) ?_
            obtain rfl := Option.some.inj h
            exact Fr_iret (by decide +kernel) rfl ⟨rfl, rfl⟩
  · have h := iT hc h
    refine Fr_aload_n (q := 0) (i := 0) 0 (by decide +kernel) rfl rfl ?_
    refine Fr_iconst (i := 2) (v := 2) (by decide +kernel) (by decide) ?_
    obtain ⟨r_28, M_26, hc_27, h⟩ := bi_elim h
    refine Fr_cVi (ν := m_X11_refused) (As := [.int 2]) (st := []) (rc := 0) (ci := 11) (d' := 0) (by decide +kernel) ml_X11_140 cv_X11_refused rfl (by decide) rfl ob_0 rfl (by decide) (Nat.le_of_ble_eq_true rfl) (t_X11_refused hc_27) ?_
    obtain rfl := Option.some.inj h
    exact Fr_iret (by decide +kernel) rfl ⟨rfl, rfl⟩
def f_X11_tow_b71 (v2 : Int32) (v3 : Int32) (v4 : Int32) (M : Mem) : Option (Bool × Mem) :=
  ck v4 20 (
  bM (uI M 15 (tn v4) v2) fun M_12 =>
  ck (v4 + 1) 20 (
  bM (uI M_12 15 (tn (v4 + 1)) v3) fun M_14 =>
  bi (f_X11_granted M_14) fun r_17 M_15 =>
  some (r_17, M_15)))
set_option maxRecDepth 20000 in
theorem t_X11_tow_b71 {q : Bool × Mem} {v2 : Int32} {v3 : Int32} {v4 : Int32} {M : Mem} (h : f_X11_tow_b71 v2 v3 v4 M = some q) : Fr 0 111 1 m_X11_tow 71 [(0, .ref 0), (2, .int v2), (3, .int v3), (4, .int v4)] [] M (QB q) := by
  unfold f_X11_tow_b71 at h
  refine Fr_aload_n (q := 0) (i := 0) 0 (by decide +kernel) rfl rfl ?_
  refine gf_X11_34 rfl (by decide +kernel) ob_0 ?_
  refine gf_X11_222 rfl (by decide +kernel) ob_10 ?_
  refine Fr_iload (i := 4) 3 (by decide +kernel) rfl ?_
  refine Fr_iload_n (q := 2) (i := 2) 1 (by decide +kernel) rfl rfl ?_
  obtain ⟨hi_11, h⟩ := ck_elim h
  refine Fr_iast (by decide +kernel) ob_15 (vp_of ln_15 hi_11) ?_
  obtain ⟨M_12, eM_12, h⟩ := bM_elim h
  refine Fr_mem eM_12 ?_
  refine Fr_aload_n (q := 0) (i := 0) 0 (by decide +kernel) rfl rfl ?_
  refine gf_X11_34 rfl (by decide +kernel) ob_0 ?_
  refine gf_X11_222 rfl (by decide +kernel) ob_10 ?_
  refine Fr_iload (i := 4) 3 (by decide +kernel) rfl ?_
  refine Fr_iconst (i := 1) (v := 1) (by decide +kernel) (by decide) ?_
  refine Fr_iadd (by decide +kernel) ?_
  refine Fr_iload_n (q := 3) (i := 3) 2 (by decide +kernel) rfl rfl ?_
  obtain ⟨hi_13, h⟩ := ck_elim h
  refine Fr_iast (by decide +kernel) ob_15 (vp_of ln_15 hi_13) ?_
  obtain ⟨M_14, eM_14, h⟩ := bM_elim h
  refine Fr_mem eM_14 ?_
  refine Fr_aload_n (q := 0) (i := 0) 0 (by decide +kernel) rfl rfl ?_
  obtain ⟨r_17, M_15, hc_16, h⟩ := bi_elim h
  refine Fr_cVb (ν := m_X11_granted) (As := []) (st := []) (rc := 0) (ci := 11) (d' := 0) (by decide +kernel) ml_X11_128 cv_X11_granted rfl (by decide) rfl ob_0 rfl (by decide) (Nat.le_of_ble_eq_true rfl) (t_X11_granted hc_16) ?_
  obtain rfl := Option.some.inj h
  exact Fr_zret (by decide +kernel) rfl (nz_b r_17) ⟨rfl, rfl⟩
def f_X11_tow (x1 : Int32) (x2 : Int32) (x3 : Int32) (M : Mem) : Option (Bool × Mem) :=
  bi (f_X5_isShip 10 x1 M) fun r_3 M_1 =>
  if (b2i r_3) = 0 then (bi (f_X11_refusedFlag 2 M_1) fun r_6 M_4 =>
  some (r_6, M_4)) else (bi (f_X5_isBoard 10 x2 x3 M_1) fun r_9 M_7 =>
  if (b2i r_9) = 0 then (bi (f_X11_refusedFlag 2 M_7) fun r_24 M_22 =>
  some (r_24, M_22)) else (ck (x1 * 5) 20 (
  if (M_7.1 15 (tn (x1 * 5))) = x2 then (ck ((x1 * 5) + 1) 20 (
  if (M_7.1 15 (tn ((x1 * 5) + 1))) = x3 then (bi (f_X11_refusedFlag 9 M_7) fun r_21 M_19 =>
  some (r_21, M_19)) else (f_X11_tow_b71 x2 x3 (x1 * 5) M_7))) else (f_X11_tow_b71 x2 x3 (x1 * 5) M_7))))
set_option maxRecDepth 20000 in
theorem t_X11_tow {x1 : Int32} {x2 : Int32} {x3 : Int32} {M : Mem} {q : Bool × Mem} (h : f_X11_tow x1 x2 x3 M = some q) : Ev 0 111 1 m_X11_tow [.ref 0, .int x1, .int x2, .int x3] M (QB q) := by
  refine Ev_of_Fr (by decide +kernel) (Nat.le_of_ble_eq_true rfl) ?_
  show Fr 0 111 1 m_X11_tow 0 [(0, .ref 0), (1, .int x1), (2, .int x2), (3, .int x3)] [] M (QB q)
  unfold f_X11_tow at h
  refine Fr_aload_n (q := 0) (i := 0) 0 (by decide +kernel) rfl rfl ?_
  refine gf_X11_34 rfl (by decide +kernel) ob_0 ?_
  refine Fr_iload_n (q := 1) (i := 1) 1 (by decide +kernel) rfl rfl ?_
  obtain ⟨r_3, M_1, hc_2, h⟩ := bi_elim h
  refine Fr_cVb (ν := m_X5_isShip) (As := [.int x1]) (st := []) (rc := 10) (ci := 5) (d' := 0) (by decide +kernel) ml_X11_219 cv_X5_isShip rfl (by decide) rfl ob_10 rfl (by decide) (Nat.le_of_ble_eq_true rfl) (t_X5_isShip ob_10 hc_2) ?_
  refine Fr_if_eq (off := 15) 23 (by decide +kernel) (by decide) (fun hc => ?_) (fun hc => ?_)
  · have h := iT hc h
    refine Fr_aload_n (q := 0) (i := 0) 0 (by decide +kernel) rfl rfl ?_
    refine Fr_iconst (i := 2) (v := 2) (by decide +kernel) (by decide) ?_
    obtain ⟨r_6, M_4, hc_5, h⟩ := bi_elim h
    refine Fr_cVb (ν := m_X11_refusedFlag) (As := [.int 2]) (st := []) (rc := 0) (ci := 11) (d' := 0) (by decide +kernel) ml_X11_121 cv_X11_refusedFlag rfl (by decide) rfl ob_0 rfl (by decide) (Nat.le_of_ble_eq_true rfl) (t_X11_refusedFlag hc_5) ?_
    obtain rfl := Option.some.inj h
    exact Fr_zret (by decide +kernel) rfl (nz_b r_6) ⟨rfl, rfl⟩
  · have h := iF hc h
    refine Fr_aload_n (q := 0) (i := 0) 0 (by decide +kernel) rfl rfl ?_
    refine gf_X11_34 rfl (by decide +kernel) ob_0 ?_
    refine Fr_iload_n (q := 2) (i := 2) 2 (by decide +kernel) rfl rfl ?_
    refine Fr_iload_n (q := 3) (i := 3) 3 (by decide +kernel) rfl rfl ?_
    obtain ⟨r_9, M_7, hc_8, h⟩ := bi_elim h
    refine Fr_cVb (ν := m_X5_isBoard) (As := [.int x2, .int x3]) (st := []) (rc := 10) (ci := 5) (d' := 0) (by decide +kernel) ml_X11_225 cv_X5_isBoard rfl (by decide) rfl ob_10 rfl (by decide) (Nat.le_of_ble_eq_true rfl) (t_X5_isBoard ob_10 hc_8) ?_
    refine Fr_if_ne (off := 9) 29 (by decide +kernel) (by decide) (fun hc => ?_) (fun hc => ?_)
    · have h := iF hc h
      refine Fr_iload_n (q := 1) (i := 1) 1 (by decide +kernel) rfl rfl ?_
      refine Fr_iconst (i := 5) (v := 5) (by decide +kernel) (by decide) ?_
      refine Fr_imul (by decide +kernel) ?_
      refine Fr_istore (i := 4) (lv' := [(4, .int (x1 * 5)), (0, .ref 0), (1, .int x1), (2, .int x2), (3, .int x3)]) (by decide +kernel) (by decide) rfl ?_
      refine Fr_aload_n (q := 0) (i := 0) 1 (by decide +kernel) rfl rfl ?_
      refine gf_X11_34 rfl (by decide +kernel) ob_0 ?_
      refine gf_X11_222 rfl (by decide +kernel) ob_10 ?_
      refine Fr_iload (i := 4) 0 (by decide +kernel) rfl ?_
      obtain ⟨hi_10, h⟩ := ck_elim h
      refine Fr_iald (by decide +kernel) ob_15 (vp_of ln_15 hi_10) ?_
      refine Fr_iload_n (q := 2) (i := 2) 3 (by decide +kernel) rfl rfl ?_
      refine Fr_icmp_ne (off := 26) 71 (by decide +kernel) (by decide) (fun hc => ?_) (fun hc => ?_)
      · have h := iF hc h
        refine Fr_loc [1, 3, 4, 0] rfl ?_
        exact t_X11_tow_b71 h
      · have h := iT hc h
        refine Fr_aload_n (q := 0) (i := 0) 1 (by decide +kernel) rfl rfl ?_
        refine gf_X11_34 rfl (by decide +kernel) ob_0 ?_
        refine gf_X11_222 rfl (by decide +kernel) ob_10 ?_
        refine Fr_iload (i := 4) 0 (by decide +kernel) rfl ?_
        refine Fr_iconst (i := 1) (v := 1) (by decide +kernel) (by decide) ?_
        refine Fr_iadd (by decide +kernel) ?_
        obtain ⟨hi_18, h⟩ := ck_elim h
        refine Fr_iald (by decide +kernel) ob_15 (vp_of ln_15 hi_18) ?_
        refine Fr_iload_n (q := 3) (i := 3) 4 (by decide +kernel) rfl rfl ?_
        refine Fr_icmp_ne (off := 10) 71 (by decide +kernel) (by decide) (fun hc => ?_) (fun hc => ?_)
        · have h := iF hc h
          refine Fr_loc [1, 3, 4, 0] rfl ?_
          exact t_X11_tow_b71 h
        · have h := iT hc h
          refine Fr_aload_n (q := 0) (i := 0) 1 (by decide +kernel) rfl rfl ?_
          refine Fr_bipush (i := 9) (v := 9) (by decide +kernel) (by decide) ?_
          obtain ⟨r_21, M_19, hc_20, h⟩ := bi_elim h
          refine Fr_cVb (ν := m_X11_refusedFlag) (As := [.int 9]) (st := []) (rc := 0) (ci := 11) (d' := 0) (by decide +kernel) ml_X11_121 cv_X11_refusedFlag rfl (by decide) rfl ob_0 rfl (by decide) (Nat.le_of_ble_eq_true rfl) (t_X11_refusedFlag hc_20) ?_
          obtain rfl := Option.some.inj h
          exact Fr_zret (by decide +kernel) rfl (nz_b r_21) ⟨rfl, rfl⟩
    · have h := iT hc h
      refine Fr_aload_n (q := 0) (i := 0) 0 (by decide +kernel) rfl rfl ?_
      refine Fr_iconst (i := 2) (v := 2) (by decide +kernel) (by decide) ?_
      obtain ⟨r_24, M_22, hc_23, h⟩ := bi_elim h
      refine Fr_cVb (ν := m_X11_refusedFlag) (As := [.int 2]) (st := []) (rc := 0) (ci := 11) (d' := 0) (by decide +kernel) ml_X11_121 cv_X11_refusedFlag rfl (by decide) rfl ob_0 rfl (by decide) (Nat.le_of_ble_eq_true rfl) (t_X11_refusedFlag hc_23) ?_
      obtain rfl := Option.some.inj h
      exact Fr_zret (by decide +kernel) rfl (nz_b r_24) ⟨rfl, rfl⟩
