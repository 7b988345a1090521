def f_X12_readGate_b135 (N : Nat) (s0 : Int32) (s1 : Int32) (M : Mem) : Option (Mem) :=
  ck s1 2175 (
  bM (uI M 205 (tn s1) s0) fun M_40 =>
  if (M_40.1 200 12) = 0 then (ck 1742 2175 (
  ck 1742 2175 (
  bM (uI M_40 205 (tn 1742) ((M_40.1 205 (tn 1742)) + 1)) fun M_43 =>
  some M_43))) else (some M_40))
set_option maxRecDepth 20000 in
theorem t_X12_readGate_b135 {N : Nat} {q : Mem} {s0 : Int32} {s1 : Int32} {M : Mem} (h : f_X12_readGate_b135 N s0 s1 M = some q) : Fr 200 21 6 m_X12_readGate 135 [(0, .ref 200)] [.int s0, .int s1, .ref 205] M (QV q) := by
  unfold f_X12_readGate_b135 at h
  obtain ⟨hi_39, h⟩ := ck_elim h
  refine Fr_iast (by decide +kernel) ob_205 (vp_of ln_205 hi_39) ?_
  obtain ⟨M_40, eM_40, h⟩ := bM_elim h
  refine Fr_mem eM_40 ?_
  refine Fr_aload_n (q := 0) (i := 0) 0 (by decide +kernel) rfl rfl ?_
  refine gf_X12_248 rfl (by decide +kernel) ob_200 ?_
  refine Fr_if_ne (off := 15) 155 (by decide +kernel) (by decide) (fun hc => ?_) (fun hc => ?_)
  · have h := iF hc h
    obtain rfl := Option.some.inj h
    exact Fr_vret (by decide +kernel) rfl ⟨rfl, rfl⟩
  · have h := iT hc h
    refine Fr_aload_n (q := 0) (i := 0) 0 (by decide +kernel) rfl rfl ?_
    refine gf_X12_35 rfl (by decide +kernel) ob_200 ?_
    refine Fr_sipush (i := 1742) (v := 1742) (by decide +kernel) (by decide) ?_
    refine Fr_dup2 (by decide +kernel) rfl rfl ?_
    obtain ⟨hi_41, h⟩ := ck_elim h
    refine Fr_iald (by decide +kernel) ob_205 (vp_of ln_205 hi_41) ?_
    refine Fr_iconst (i := 1) (v := 1) (by decide +kernel) (by decide) ?_
    refine Fr_iadd (by decide +kernel) ?_
    obtain ⟨hi_42, h⟩ := ck_elim h
    refine Fr_iast (by decide +kernel) ob_205 (vp_of ln_205 hi_42) ?_
    obtain ⟨M_43, eM_43, h⟩ := bM_elim h
    refine Fr_mem eM_43 ?_
    obtain rfl := Option.some.inj h
    exact Fr_vret (by decide +kernel) rfl ⟨rfl, rfl⟩
def f_X12_readGate_b105 (N : Nat) (v1 : Int32) (M : Mem) : Option (Mem) :=
  bi (f_X12_isQuota M) fun r_35 M_33 =>
  bi (f_X12_perhaps N (b2i r_35) M_33) fun r_38 M_36 =>
  if (b2i r_38) = 0 then (f_X12_readGate_b135 N 1 (v1 + 24) M_36) else (bi (f_X12_count N 1 99 M_36) fun r_46 M_44 =>
  f_X12_readGate_b135 N r_46 (v1 + 24) M_44)
set_option maxRecDepth 20000 in
theorem t_X12_readGate_b105 {N : Nat} {q : Mem} {v1 : Int32} {M : Mem} (h : f_X12_readGate_b105 N v1 M = some q) : Fr 200 21 6 m_X12_readGate 105 [(0, .ref 200), (1, .int v1)] [] M (QV q) := by
  unfold f_X12_readGate_b105 at h
  refine Fr_aload_n (q := 0) (i := 0) 0 (by decide +kernel) rfl rfl ?_
  refine gf_X12_35 rfl (by decide +kernel) ob_200 ?_
  refine Fr_iload_n (q := 1) (i := 1) 1 (by decide +kernel) rfl rfl ?_
  refine Fr_bipush (i := 24) (v := 24) (by decide +kernel) (by decide) ?_
  refine Fr_iadd (by decide +kernel) ?_
  refine Fr_aload_n (q := 0) (i := 0) 0 (by decide +kernel) rfl rfl ?_
  refine Fr_aload_n (q := 0) (i := 0) 0 (by decide +kernel) rfl rfl ?_
  obtain ⟨r_35, M_33, hc_34, h⟩ := bi_elim h
  refine Fr_cVb (ν := m_X12_isQuota) (As := []) (st := [.ref 200, .int (v1 + 24), .ref 205]) (rc := 200) (ci := 12) (d' := 1) (by decide +kernel) ml_X12_202 cv_X12_isQuota rfl (by decide) rfl ob_200 rfl (by decide) (Nat.le_of_ble_eq_true rfl) (t_X12_isQuota hc_34) ?_
  obtain ⟨r_38, M_36, hc_37, h⟩ := bi_elim h
  refine Fr_cVb (ν := m_X12_perhaps) (As := [.int (b2i r_35)]) (st := [.int (v1 + 24), .ref 205]) (rc := 200) (ci := 12) (d' := 2) (by decide +kernel) ml_X12_301 cv_X12_perhaps rfl (by decide) rfl ob_200 rfl (by decide) (Nat.le_of_ble_eq_true rfl) (t_X12_perhaps hc_37) ?_
  refine Fr_if_eq (off := 13) 134 (by decide +kernel) (by decide) (fun hc => ?_) (fun hc => ?_)
  · have h := iT hc h
    refine Fr_iconst (i := 1) (v := 1) (by decide +kernel) (by decide) ?_
    refine Fr_loc [0] rfl ?_
    exact t_X12_readGate_b135 h
  · have h := iF hc h
    refine Fr_aload_n (q := 0) (i := 0) 0 (by decide +kernel) rfl rfl ?_
    refine Fr_iconst (i := 1) (v := 1) (by decide +kernel) (by decide) ?_
    refine Fr_bipush (i := 99) (v := 99) (by decide +kernel) (by decide) ?_
    obtain ⟨r_46, M_44, hc_45, h⟩ := bi_elim h
    refine Fr_cVi (ν := m_X12_count) (As := [.int 1, .int 99]) (st := [.int (v1 + 24), .ref 205]) (rc := 200) (ci := 12) (d' := 2) (by decide +kernel) ml_X12_268 cv_X12_count rfl (by decide) rfl ob_200 rfl (by decide) (Nat.le_of_ble_eq_true rfl) (t_X12_count hc_45) ?_
    refine Fr_goto (off := 4) 135 (by decide +kernel) (by decide) ?_
    refine Fr_loc [0] rfl ?_
    exact t_X12_readGate_b135 h
def f_X12_readGate_b72 (N : Nat) (v1 : Int32) (s0 : Int32) (s1 : Int32) (M : Mem) : Option (Mem) :=
  ck s1 2175 (
  bM (uI M 205 (tn s1) s0) fun M_26 =>
  bi (f_X12_isOpen M_26) fun r_29 M_27 =>
  bi (f_X12_perhaps N (b2i r_29) M_27) fun r_32 M_30 =>
  if (b2i r_32) = 0 then (f_X12_readGate_b105 N v1 M_30) else (ck 1750 2175 (
  ck 1750 2175 (
  bM (uI M_30 205 (tn 1750) ((M_30.1 205 (tn 1750)) ||| (1 <<< (((v1 - 1740) - 11) &&& 31)))) fun M_49 =>
  f_X12_readGate_b105 N v1 M_49))))
set_option maxRecDepth 20000 in
theorem t_X12_readGate_b72 {N : Nat} {q : Mem} {v1 : Int32} {s0 : Int32} {s1 : Int32} {M : Mem} (h : f_X12_readGate_b72 N v1 s0 s1 M = some q) : Fr 200 21 6 m_X12_readGate 72 [(0, .ref 200), (1, .int v1)] [.int s0, .int s1, .ref 205] M (QV q) := by
  unfold f_X12_readGate_b72 at h
  obtain ⟨hi_25, h⟩ := ck_elim h
  refine Fr_iast (by decide +kernel) ob_205 (vp_of ln_205 hi_25) ?_
  obtain ⟨M_26, eM_26, h⟩ := bM_elim h
  refine Fr_mem eM_26 ?_
  refine Fr_aload_n (q := 0) (i := 0) 0 (by decide +kernel) rfl rfl ?_
  refine Fr_aload_n (q := 0) (i := 0) 0 (by decide +kernel) rfl rfl ?_
  obtain ⟨r_29, M_27, hc_28, h⟩ := bi_elim h
  refine Fr_cVb (ν := m_X12_isOpen) (As := []) (st := [.ref 200]) (rc := 200) (ci := 12) (d' := 1) (by decide +kernel) ml_X12_174 cv_X12_isOpen rfl (by decide) rfl ob_200 rfl (by decide) (Nat.le_of_ble_eq_true rfl) (t_X12_isOpen hc_28) ?_
  obtain ⟨r_32, M_30, hc_31, h⟩ := bi_elim h
  refine Fr_cVb (ν := m_X12_perhaps) (As := [.int (b2i r_29)]) (st := []) (rc := 200) (ci := 12) (d' := 2) (by decide +kernel) ml_X12_301 cv_X12_perhaps rfl (by decide) rfl ob_200 rfl (by decide) (Nat.le_of_ble_eq_true rfl) (t_X12_perhaps hc_31) ?_
  refine Fr_if_eq (off := 24) 105 (by decide +kernel) (by decide) (fun hc => ?_) (fun hc => ?_)
  · have h := iT hc h
    exact t_X12_readGate_b105 h
  · have h := iF hc h
    refine Fr_aload_n (q := 0) (i := 0) 0 (by decide +kernel) rfl rfl ?_
    refine gf_X12_35 rfl (by decide +kernel) ob_200 ?_
    refine Fr_sipush (i := 1750) (v := 1750) (by decide +kernel) (by decide) ?_
    refine Fr_dup2 (by decide +kernel) rfl rfl ?_
    obtain ⟨hi_47, h⟩ := ck_elim h
    refine Fr_iald (by decide +kernel) ob_205 (vp_of ln_205 hi_47) ?_
    refine Fr_iconst (i := 1) (v := 1) (by decide +kernel) (by decide) ?_
    refine Fr_iload_n (q := 1) (i := 1) 1 (by decide +kernel) rfl rfl ?_
    refine Fr_sipush (i := 1740) (v := 1740) (by decide +kernel) (by decide) ?_
    refine Fr_isub (by decide +kernel) ?_
    refine Fr_bipush (i := 11) (v := 11) (by decide +kernel) (by decide) ?_
    refine Fr_isub (by decide +kernel) ?_
    refine Fr_ishl (by decide +kernel) ?_
    refine Fr_ior (by decide +kernel) ?_
    obtain ⟨hi_48, h⟩ := ck_elim h
    refine Fr_iast (by decide +kernel) ob_205 (vp_of ln_205 hi_48) ?_
    obtain ⟨M_49, eM_49, h⟩ := bM_elim h
    refine Fr_mem eM_49 ?_
    exact t_X12_readGate_b105 h
def f_X12_readGate (N : Nat) (M : Mem) : Option (Mem) :=
  bi (f_X12_readNew N 0 6 M) fun r_3 M_1 =>
  bi (f_X12_isAt M_1) fun r_6 M_4 =>
  bv (f_X12_must N (b2i r_6) M_4) fun M_7 =>
  bv (f_X12_readBoard N 4 (1751 + r_3) 6 M_7) fun M_9 =>
  bi (f_X12_isLets M_9) fun r_13 M_11 =>
  bi (f_X12_behindWord N (b2i r_13) 1 40 M_11) fun r_16 M_14 =>
  ck ((1751 + r_3) + 12) 2175 (
  bM (uI M_14 205 (tn ((1751 + r_3) + 12)) r_16) fun M_18 =>
  bi (f_X12_isAnswers M_18) fun r_21 M_19 =>
  bi (f_X12_perhaps N (b2i r_21) M_19) fun r_24 M_22 =>
  if (b2i r_24) = 0 then (f_X12_readGate_b72 N (1751 + r_3) 0 ((1751 + r_3) + 18) M_22) else (f_X12_readGate_b72 N (1751 + r_3) 1 ((1751 + r_3) + 18) M_22))
set_option maxRecDepth 20000 in
theorem t_X12_readGate {N : Nat} {M : Mem} {q : Mem} (h : f_X12_readGate N M = some q) : Ev 200 21 6 m_X12_readGate [.ref 200] M (QV q) := by
  refine Ev_of_Fr (by decide +kernel) (Nat.le_of_ble_eq_true rfl) ?_
  show Fr 200 21 6 m_X12_readGate 0 [(0, .ref 200)] [] M (QV q)
  unfold f_X12_readGate at h
  refine Fr_sipush (i := 1751) (v := 1751) (by decide +kernel) (by decide) ?_
  refine Fr_aload_n (q := 0) (i := 0) 0 (by decide +kernel) rfl rfl ?_
  refine Fr_iconst (i := 0) (v := 0) (by decide +kernel) (by decide) ?_
  refine Fr_bipush (i := 6) (v := 6) (by decide +kernel) (by decide) ?_
  obtain ⟨r_3, M_1, hc_2, h⟩ := bi_elim h
  refine Fr_cVi (ν := m_X12_readNew) (As := [.int 0, .int 6]) (st := [.int 1751]) (rc := 200) (ci := 12) (d' := 5) (by decide +kernel) ml_X12_290 cv_X12_readNew rfl (by decide) rfl ob_200 rfl (by decide) (Nat.le_of_ble_eq_true rfl) (t_X12_readNew hc_2) ?_
  refine Fr_iadd (by decide +kernel) ?_
  refine Fr_istore_n (q := 1) (i := 1) (lv' := [(1, .int (1751 + r_3)), (0, .ref 200)]) (by decide +kernel) rfl (by decide) rfl ?_
  refine Fr_aload_n (q := 0) (i := 0) 1 (by decide +kernel) rfl rfl ?_
  refine Fr_aload_n (q := 0) (i := 0) 1 (by decide +kernel) rfl rfl ?_
  obtain ⟨r_6, M_4, hc_5, h⟩ := bi_elim h
  refine Fr_cVb (ν := m_X12_isAt) (As := []) (st := [.ref 200]) (rc := 200) (ci := 12) (d' := 1) (by decide +kernel) ml_X12_196 cv_X12_isAt rfl (by decide) rfl ob_200 rfl (by decide) (Nat.le_of_ble_eq_true rfl) (t_X12_isAt hc_5) ?_
  obtain ⟨M_7, hc_8, h⟩ := bv_elim h
  refine Fr_cVv (ν := m_X12_must) (As := [.int (b2i r_6)]) (st := []) (rc := 200) (ci := 12) (d' := 2) (by decide +kernel) ml_X12_264 cv_X12_must rfl (by decide) rfl ob_200 rfl (by decide) (Nat.le_of_ble_eq_true rfl) (t_X12_must hc_8) ?_
  refine Fr_aload_n (q := 0) (i := 0) 1 (by decide +kernel) rfl rfl ?_
  refine Fr_iconst (i := 4) (v := 4) (by decide +kernel) (by decide) ?_
  refine Fr_iload_n (q := 1) (i := 1) 0 (by decide +kernel) rfl rfl ?_
  refine Fr_bipush (i := 6) (v := 6) (by decide +kernel) (by decide) ?_
  obtain ⟨M_9, hc_10, h⟩ := bv_elim h
  refine Fr_cVv (ν := m_X12_readBoard) (As := [.int 4, .int (1751 + r_3), .int 6]) (st := []) (rc := 200) (ci := 12) (d' := 3) (by decide +kernel) ml_X12_293 cv_X12_readBoard rfl (by decide) rfl ob_200 rfl (by decide) (Nat.le_of_ble_eq_true rfl) (t_X12_readBoard hc_10) ?_
  refine Fr_aload_n (q := 0) (i := 0) 1 (by decide +kernel) rfl rfl ?_
  refine gf_X12_35 rfl (by decide +kernel) ob_200 ?_
  refine Fr_iload_n (q := 1) (i := 1) 0 (by decide +kernel) rfl rfl ?_
  refine Fr_bipush (i := 12) (v := 12) (by decide +kernel) (by decide) ?_
  refine Fr_iadd (by decide +kernel) ?_
  refine Fr_aload_n (q := 0) (i := 0) 1 (by decide +kernel) rfl rfl ?_
  refine Fr_aload_n (q := 0) (i := 0) 1 (by decide +kernel) rfl rfl ?_
  obtain ⟨r_13, M_11, hc_12, h⟩ := bi_elim h
  refine Fr_cVb (ν := m_X12_isLets) (As := []) (st := [.ref 200, .int ((1751 + r_3) + 12), .ref 205]) (rc := 200) (ci := 12) (d' := 1) (by decide +kernel) ml_X12_184 cv_X12_isLets rfl (by decide) rfl ob_200 rfl (by decide) (Nat.le_of_ble_eq_true rfl) (t_X12_isLets hc_12) ?_
  refine Fr_iconst (i := 1) (v := 1) (by decide +kernel) (by decide) ?_
  refine Fr_bipush (i := 40) (v := 40) (by decide +kernel) (by decide) ?_
  obtain ⟨r_16, M_14, hc_15, h⟩ := bi_elim h
  refine Fr_cVi (ν := m_X12_behindWord) (As := [.int (b2i r_13), .int 1, .int 40]) (st := [.int ((1751 + r_3) + 12), .ref 205]) (rc := 200) (ci := 12) (d' := 3) (by decide +kernel) ml_X12_297 cv_X12_behindWord rfl (by decide) rfl ob_200 rfl (by decide) (Nat.le_of_ble_eq_true rfl) (t_X12_behindWord hc_15) ?_
  obtain ⟨hi_17, h⟩ := ck_elim h
  refine Fr_iast (by decide +kernel) ob_205 (vp_of ln_205 hi_17) ?_
  obtain ⟨M_18, eM_18, h⟩ := bM_elim h
  refine Fr_mem eM_18 ?_
  refine Fr_aload_n (q := 0) (i := 0) 1 (by decide +kernel) rfl rfl ?_
  refine gf_X12_35 rfl (by decide +kernel) ob_200 ?_
  refine Fr_iload_n (q := 1) (i := 1) 0 (by decide +kernel) rfl rfl ?_
  refine Fr_bipush (i := 18) (v := 18) (by decide +kernel) (by decide) ?_
  refine Fr_iadd (by decide +kernel) ?_
  refine Fr_aload_n (q := 0) (i := 0) 1 (by decide +kernel) rfl rfl ?_
  refine Fr_aload_n (q := 0) (i := 0) 1 (by decide +kernel) rfl rfl ?_
  obtain ⟨r_21, M_19, hc_20, h⟩ := bi_elim h
  refine Fr_cVb (ν := m_X12_isAnswers) (As := []) (st := [.ref 200, .int ((1751 + r_3) + 18), .ref 205]) (rc := 200) (ci := 12) (d' := 1) (by decide +kernel) ml_X12_199 cv_X12_isAnswers rfl (by decide) rfl ob_200 rfl (by decide) (Nat.le_of_ble_eq_true rfl) (t_X12_isAnswers hc_20) ?_
  obtain ⟨r_24, M_22, hc_23, h⟩ := bi_elim h
  refine Fr_cVb (ν := m_X12_perhaps) (As := [.int (b2i r_21)]) (st := [.int ((1751 + r_3) + 18), .ref 205]) (rc := 200) (ci := 12) (d' := 2) (by decide +kernel) ml_X12_301 cv_X12_perhaps rfl (by decide) rfl ob_200 rfl (by decide) (Nat.le_of_ble_eq_true rfl) (t_X12_perhaps hc_23) ?_
  refine Fr_if_eq (off := 7) 71 (by decide +kernel) (by decide) (fun hc => ?_) (fun hc => ?_)
  · have h := iT hc h
    refine Fr_iconst (i := 0) (v := 0) (by decide +kernel) (by decide) ?_
    refine Fr_loc [1, 0] rfl ?_
    exact t_X12_readGate_b72 h
  · have h := iF hc h
    refine Fr_iconst (i := 1) (v := 1) (by decide +kernel) (by decide) ?_
    refine Fr_goto (off := 4) 72 (by decide +kernel) (by decide) ?_
    refine Fr_loc [1, 0] rfl ?_
    exact t_X12_readGate_b72 h
def f_X12_readHolder (N : Nat) (M : Mem) : Option (Mem) :=
  bi (f_X12_readNew N 1 6 M) fun r_3 M_1 =>
  bi (f_X12_isVotes M_1) fun r_6 M_4 =>
  bi (f_X12_behindWord N (b2i r_6) 1 20 M_4) fun r_9 M_7 =>
  ck (1781 + r_3) 2175 (
  bM (uI M_7 205 (tn (1781 + r_3)) r_9) fun M_11 =>
  if (M_11.1 200 12) = 0 then (ck 1743 2175 (
  ck 1743 2175 (
  bM (uI M_11 205 (tn 1743) ((M_11.1 205 (tn 1743)) + 1)) fun M_14 =>
  some M_14))) else (some M_11))
set_option maxRecDepth 20000 in
theorem t_X12_readHolder {N : Nat} {M : Mem} {q : Mem} (h : f_X12_readHolder N M = some q) : Ev 200 21 6 m_X12_readHolder [.ref 200] M (QV q) := by
  refine Ev_of_Fr (by decide +kernel) (Nat.le_of_ble_eq_true rfl) ?_
  show Fr 200 21 6 m_X12_readHolder 0 [(0, .ref 200)] [] M (QV q)
  unfold f_X12_readHolder at h
  refine Fr_aload_n (q := 0) (i := 0) 0 (by decide +kernel) rfl rfl ?_
  refine Fr_iconst (i := 1) (v := 1) (by decide +kernel) (by decide) ?_
  refine Fr_bipush (i := 6) (v := 6) (by decide +kernel) (by decide) ?_
  obtain ⟨r_3, M_1, hc_2, h⟩ := bi_elim h
  refine Fr_cVi (ν := m_X12_readNew) (As := [.int 1, .int 6]) (st := []) (rc := 200) (ci := 12) (d' := 5) (by decide +kernel) ml_X12_290 cv_X12_readNew rfl (by decide) rfl ob_200 rfl (by decide) (Nat.le_of_ble_eq_true rfl) (t_X12_readNew hc_2) ?_
  refine Fr_istore_n (q := 1) (i := 1) (lv' := [(1, .int r_3), (0, .ref 200)]) (by decide +kernel) rfl (by decide) rfl ?_
  refine Fr_aload_n (q := 0) (i := 0) 1 (by decide +kernel) rfl rfl ?_
  refine gf_X12_35 rfl (by decide +kernel) ob_200 ?_
  refine Fr_sipush (i := 1781) (v := 1781) (by decide +kernel) (by decide) ?_
  refine Fr_iload_n (q := 1) (i := 1) 0 (by decide +kernel) rfl rfl ?_
  refine Fr_iadd (by decide +kernel) ?_
  refine Fr_aload_n (q := 0) (i := 0) 1 (by decide +kernel) rfl rfl ?_
  refine Fr_aload_n (q := 0) (i := 0) 1 (by decide +kernel) rfl rfl ?_
  obtain ⟨r_6, M_4, hc_5, h⟩ := bi_elim h
  refine Fr_cVb (ν := m_X12_isVotes) (As := []) (st := [.ref 200, .int (1781 + r_3), .ref 205]) (rc := 200) (ci := 12) (d' := 1) (by decide +kernel) ml_X12_208 cv_X12_isVotes rfl (by decide) rfl ob_200 rfl (by decide) (Nat.le_of_ble_eq_true rfl) (t_X12_isVotes hc_5) ?_
  refine Fr_iconst (i := 1) (v := 1) (by decide +kernel) (by decide) ?_
  refine Fr_bipush (i := 20) (v := 20) (by decide +kernel) (by decide) ?_
  obtain ⟨r_9, M_7, hc_8, h⟩ := bi_elim h
  refine Fr_cVi (ν := m_X12_behindWord) (As := [.int (b2i r_6), .int 1, .int 20]) (st := [.int (1781 + r_3), .ref 205]) (rc := 200) (ci := 12) (d' := 3) (by decide +kernel) ml_X12_297 cv_X12_behindWord rfl (by decide) rfl ob_200 rfl (by decide) (Nat.le_of_ble_eq_true rfl) (t_X12_behindWord hc_8) ?_
  obtain ⟨hi_10, h⟩ := ck_elim h
  refine Fr_iast (by decide +kernel) ob_205 (vp_of ln_205 hi_10) ?_
  obtain ⟨M_11, eM_11, h⟩ := bM_elim h
  refine Fr_mem eM_11 ?_
  refine Fr_aload_n (q := 0) (i := 0) 1 (by decide +kernel) rfl rfl ?_
  refine gf_X12_248 rfl (by decide +kernel) ob_200 ?_
  refine Fr_if_ne (off := 15) 48 (by decide +kernel) (by decide) (fun hc => ?_) (fun hc => ?_)
  · have h := iF hc h
    obtain rfl := Option.some.inj h
    exact Fr_vret (by decide +kernel) rfl ⟨rfl, rfl⟩
  · have h := iT hc h
    refine Fr_aload_n (q := 0) (i := 0) 1 (by decide +kernel) rfl rfl ?_
    refine gf_X12_35 rfl (by decide +kernel) ob_200 ?_
    refine Fr_sipush (i := 1743) (v := 1743) (by decide +kernel) (by decide) ?_
    refine Fr_dup2 (by decide +kernel) rfl rfl ?_
    obtain ⟨hi_12, h⟩ := ck_elim h
    refine Fr_iald (by decide +kernel) ob_205 (vp_of ln_205 hi_12) ?_
    refine Fr_iconst (i := 1) (v := 1) (by decide +kernel) (by decide) ?_
    refine Fr_iadd (by decide +kernel) ?_
    obtain ⟨hi_13, h⟩ := ck_elim h
    refine Fr_iast (by decide +kernel) ob_205 (vp_of ln_205 hi_13) ?_
    obtain ⟨M_14, eM_14, h⟩ := bM_elim h
    refine Fr_mem eM_14 ?_
    obtain rfl := Option.some.inj h
    exact Fr_vret (by decide +kernel) rfl ⟨rfl, rfl⟩
def f_X12_readTrade_b114 (N : Nat) (s0 : Int32) (s1 : Int32) (M : Mem) : Option (Mem) :=
  ck s1 2175 (
  bM (uI M 205 (tn s1) s0) fun M_42 =>
  if (M_42.1 200 12) = 0 then (ck 1744 2175 (
  ck 1744 2175 (
  bM (uI M_42 205 (tn 1744) ((M_42.1 205 (tn 1744)) + 1)) fun M_45 =>
  some M_45))) else (some M_42))
set_option maxRecDepth 20000 in
theorem t_X12_readTrade_b114 {N : Nat} {q : Mem} {s0 : Int32} {s1 : Int32} {M : Mem} (h : f_X12_readTrade_b114 N s0 s1 M = some q) : Fr 200 21 6 m_X12_readTrade 114 [(0, .ref 200)] [.int s0, .int s1, .ref 205] M (QV q) := by
  unfold f_X12_readTrade_b114 at h
  obtain ⟨hi_41, h⟩ := ck_elim h
  refine Fr_iast (by decide +kernel) ob_205 (vp_of ln_205 hi_41) ?_
  obtain ⟨M_42, eM_42, h⟩ := bM_elim h
  refine Fr_mem eM_42 ?_
  refine Fr_aload_n (q := 0) (i := 0) 0 (by decide +kernel) rfl rfl ?_
  refine gf_X12_248 rfl (by decide +kernel) ob_200 ?_
  refine Fr_if_ne (off := 15) 134 (by decide +kernel) (by decide) (fun hc => ?_) (fun hc => ?_)
  · have h := iF hc h
    obtain rfl := Option.some.inj h
    exact Fr_vret (by decide +kernel) rfl ⟨rfl, rfl⟩
  · have h := iT hc h
    refine Fr_aload_n (q := 0) (i := 0) 0 (by decide +kernel) rfl rfl ?_
    refine gf_X12_35 rfl (by decide +kernel) ob_200 ?_
    refine Fr_sipush (i := 1744) (v := 1744) (by decide +kernel) (by decide) ?_
    refine Fr_dup2 (by decide +kernel) rfl rfl ?_
    obtain ⟨hi_43, h⟩ := ck_elim h
    refine Fr_iald (by decide +kernel) ob_205 (vp_of ln_205 hi_43) ?_
    refine Fr_iconst (i := 1) (v := 1) (by decide +kernel) (by decide) ?_
    refine Fr_iadd (by decide +kernel) ?_
    obtain ⟨hi_44, h⟩ := ck_elim h
    refine Fr_iast (by decide +kernel) ob_205 (vp_of ln_205 hi_44) ?_
    obtain ⟨M_45, eM_45, h⟩ := bM_elim h
    refine Fr_mem eM_45 ?_
    obtain rfl := Option.some.inj h
    exact Fr_vret (by decide +kernel) rfl ⟨rfl, rfl⟩
def f_X12_readTrade (N : Nat) (M : Mem) : Option (Mem) :=
  bi (f_X12_readNew N 2 6 M) fun r_3 M_1 =>
  bi (f_X12_isAt M_1) fun r_6 M_4 =>
  bv (f_X12_must N (b2i r_6) M_4) fun M_7 =>
  bv (f_X12_readBoard N 4 (1787 + r_3) 6 M_7) fun M_9 =>
  bi (f_X12_isFrom M_9) fun r_13 M_11 =>
  bi (f_X12_behindWord N (b2i r_13) 1 24 M_11) fun r_16 M_14 =>
  ck ((1787 + r_3) + 12) 2175 (
  bM (uI M_14 205 (tn ((1787 + r_3) + 12)) r_16) fun M_18 =>
  bi (f_X12_isTo M_18) fun r_21 M_19 =>
  bi (f_X12_behindWord N (b2i r_21) r_16 24 M_19) fun r_24 M_22 =>
  ck ((1787 + r_3) + 18) 2175 (
  bM (uI M_22 205 (tn ((1787 + r_3) + 18)) r_24) fun M_26 =>
  bi (f_X12_isPays M_26) fun r_29 M_27 =>
  bi (f_X12_behindWord N (b2i r_29) 1 99 M_27) fun r_32 M_30 =>
  ck ((1787 + r_3) + 24) 2175 (
  bM (uI M_30 205 (tn ((1787 + r_3) + 24)) r_32) fun M_34 =>
  bi (f_X12_isClear M_34) fun r_37 M_35 =>
  bi (f_X12_perhaps N (b2i r_37) M_35) fun r_40 M_38 =>
  if (b2i r_40) = 0 then (f_X12_readTrade_b114 N 0 ((1787 + r_3) + 30) M_38) else (f_X12_readTrade_b114 N 1 ((1787 + r_3) + 30) M_38))))
set_option maxRecDepth 20000 in
theorem t_X12_readTrade {N : Nat} {M : Mem} {q : Mem} (h : f_X12_readTrade N M = some q) : Ev 200 21 6 m_X12_readTrade [.ref 200] M (QV q) := by
  refine Ev_of_Fr (by decide +kernel) (Nat.le_of_ble_eq_true rfl) ?_
  show Fr 200 21 6 m_X12_readTrade 0 [(0, .ref 200)] [] M (QV q)
  unfold f_X12_readTrade at h
  refine Fr_sipush (i := 1787) (v := 1787) (by decide +kernel) (by decide) ?_
  refine Fr_aload_n (q := 0) (i := 0) 0 (by decide +kernel) rfl rfl ?_
  refine Fr_iconst (i := 2) (v := 2) (by decide +kernel) (by decide) ?_
  refine Fr_bipush (i := 6) (v := 6) (by decide +kernel) (by decide) ?_
  obtain ⟨r_3, M_1, hc_2, h⟩ := bi_elim h
  refine Fr_cVi (ν := m_X12_readNew) (As := [.int 2, .int 6]) (st := [.int 1787]) (rc := 200) (ci := 12) (d' := 5) (by decide +kernel) ml_X12_290 cv_X12_readNew rfl (by decide) rfl ob_200 rfl (by decide) (Nat.le_of_ble_eq_true rfl) (t_X12_readNew hc_2) ?_
  refine Fr_iadd (by decide +kernel) ?_
  refine Fr_istore_n (q := 1) (i := 1) (lv' := [(1, .int (1787 + r_3)), (0, .ref 200)]) (by decide +kernel) rfl (by decide) rfl ?_
  refine Fr_aload_n (q := 0) (i := 0) 1 (by decide +kernel) rfl rfl ?_
  refine Fr_aload_n (q := 0) (i := 0) 1 (by decide +kernel) rfl rfl ?_
  obtain ⟨r_6, M_4, hc_5, h⟩ := bi_elim h
  refine Fr_cVb (ν := m_X12_isAt) (As := []) (st := [.ref 200]) (rc := 200) (ci := 12) (d' := 1) (by decide +kernel) ml_X12_196 cv_X12_isAt rfl (by decide) rfl ob_200 rfl (by decide) (Nat.le_of_ble_eq_true rfl) (t_X12_isAt hc_5) ?_
  obtain ⟨M_7, hc_8, h⟩ := bv_elim h
  refine Fr_cVv (ν := m_X12_must) (As := [.int (b2i r_6)]) (st := []) (rc := 200) (ci := 12) (d' := 2) (by decide +kernel) ml_X12_264 cv_X12_must rfl (by decide) rfl ob_200 rfl (by decide) (Nat.le_of_ble_eq_true rfl) (t_X12_must hc_8) ?_
  refine Fr_aload_n (q := 0) (i := 0) 1 (by decide +kernel) rfl rfl ?_
  refine Fr_iconst (i := 4) (v := 4) (by decide +kernel) (by decide) ?_
  refine Fr_iload_n (q := 1) (i := 1) 0 (by decide +kernel) rfl rfl ?_
  refine Fr_bipush (i := 6) (v := 6) (by decide +kernel) (by decide) ?_
  obtain ⟨M_9, hc_10, h⟩ := bv_elim h
  refine Fr_cVv (ν := m_X12_readBoard) (As := [.int 4, .int (1787 + r_3), .int 6]) (st := []) (rc := 200) (ci := 12) (d' := 3) (by decide +kernel) ml_X12_293 cv_X12_readBoard rfl (by decide) rfl ob_200 rfl (by decide) (Nat.le_of_ble_eq_true rfl) (t_X12_readBoard hc_10) ?_
  refine Fr_aload_n (q := 0) (i := 0) 1 (by decide +kernel) rfl rfl ?_
  refine Fr_aload_n (q := 0) (i := 0) 1 (by decide +kernel) rfl rfl ?_
  obtain ⟨r_13, M_11, hc_12, h⟩ := bi_elim h
  refine Fr_cVb (ν := m_X12_isFrom) (As := []) (st := [.ref 200]) (rc := 200) (ci := 12) (d' := 1) (by decide +kernel) ml_X12_214 cv_X12_isFrom rfl (by decide) rfl ob_200 rfl (by decide) (Nat.le_of_ble_eq_true rfl) (t_X12_isFrom hc_12) ?_
  refine Fr_iconst (i := 1) (v := 1) (by decide +kernel) (by decide) ?_
  refine Fr_bipush (i := 24) (v := 24) (by decide +kernel) (by decide) ?_
  obtain ⟨r_16, M_14, hc_15, h⟩ := bi_elim h
  refine Fr_cVi (ν := m_X12_behindWord) (As := [.int (b2i r_13), .int 1, .int 24]) (st := []) (rc := 200) (ci := 12) (d' := 3) (by decide +kernel) ml_X12_297 cv_X12_behindWord rfl (by decide) rfl ob_200 rfl (by decide) (Nat.le_of_ble_eq_true rfl) (t_X12_behindWord hc_15) ?_
  refine Fr_istore_n (q := 2) (i := 2) (lv' := [(2, .int r_16), (1, .int (1787 + r_3)), (0, .ref 200)]) (by decide +kernel) rfl (by decide) rfl ?_
  refine Fr_aload_n (q := 0) (i := 0) 2 (by decide +kernel) rfl rfl ?_
  refine gf_X12_35 rfl (by decide +kernel) ob_200 ?_
  refine Fr_iload_n (q := 1) (i := 1) 1 (by decide +kernel) rfl rfl ?_
  refine Fr_bipush (i := 12) (v := 12) (by decide +kernel) (by decide) ?_
  refine Fr_iadd (by decide +kernel) ?_
  refine Fr_iload_n (q := 2) (i := 2) 0 (by decide +kernel) rfl rfl ?_
  obtain ⟨hi_17, h⟩ := ck_elim h
  refine Fr_iast (by decide +kernel) ob_205 (vp_of ln_205 hi_17) ?_
  obtain ⟨M_18, eM_18, h⟩ := bM_elim h
  refine Fr_mem eM_18 ?_
  refine Fr_aload_n (q := 0) (i := 0) 2 (by decide +kernel) rfl rfl ?_
  refine gf_X12_35 rfl (by decide +kernel) ob_200 ?_
  refine Fr_iload_n (q := 1) (i := 1) 1 (by decide +kernel) rfl rfl ?_
  refine Fr_bipush (i := 18) (v := 18) (by decide +kernel) (by decide) ?_
  refine Fr_iadd (by decide +kernel) ?_
  refine Fr_aload_n (q := 0) (i := 0) 2 (by decide +kernel) rfl rfl ?_
  refine Fr_aload_n (q := 0) (i := 0) 2 (by decide +kernel) rfl rfl ?_
  obtain ⟨r_21, M_19, hc_20, h⟩ := bi_elim h
  refine Fr_cVb (ν := m_X12_isTo) (As := []) (st := [.ref 200, .int ((1787 + r_3) + 18), .ref 205]) (rc := 200) (ci := 12) (d' := 1) (by decide +kernel) ml_X12_217 cv_X12_isTo rfl (by decide) rfl ob_200 rfl (by decide) (Nat.le_of_ble_eq_true rfl) (t_X12_isTo hc_20) ?_
  refine Fr_iload_n (q := 2) (i := 2) 0 (by decide +kernel) rfl rfl ?_
  refine Fr_bipush (i := 24) (v := 24) (by decide +kernel) (by decide) ?_
  obtain ⟨r_24, M_22, hc_23, h⟩ := bi_elim h
  refine Fr_cVi (ν := m_X12_behindWord) (As := [.int (b2i r_21), .int r_16, .int 24]) (st := [.int ((1787 + r_3) + 18), .ref 205]) (rc := 200) (ci := 12) (d' := 3) (by decide +kernel) ml_X12_297 cv_X12_behindWord rfl (by decide) rfl ob_200 rfl (by decide) (Nat.le_of_ble_eq_true rfl) (t_X12_behindWord hc_23) ?_
  obtain ⟨hi_25, h⟩ := ck_elim h
  refine Fr_iast (by decide +kernel) ob_205 (vp_of ln_205 hi_25) ?_
  obtain ⟨M_26, eM_26, h⟩ := bM_elim h
  refine Fr_mem eM_26 ?_
  refine Fr_aload_n (q := 0) (i := 0) 2 (by decide +kernel) rfl rfl ?_
  refine gf_X12_35 rfl (by decide +kernel) ob_200 ?_
  refine Fr_iload_n (q := 1) (i := 1) 1 (by decide +kernel) rfl rfl ?_
  refine Fr_bipush (i := 24) (v := 24) (by decide +kernel) (by decide) ?_
  refine Fr_iadd (by decide +kernel) ?_
  refine Fr_aload_n (q := 0) (i := 0) 2 (by decide +kernel) rfl rfl ?_
  refine Fr_aload_n (q := 0) (i := 0) 2 (by decide +kernel) rfl rfl ?_
  obtain ⟨r_29, M_27, hc_28, h⟩ := bi_elim h
  refine Fr_cVb (ν := m_X12_isPays) (As := []) (st := [.ref 200, .int ((1787 + r_3) + 24), .ref 205]) (rc := 200) (ci := 12) (d' := 1) (by decide +kernel) ml_X12_220 cv_X12_isPays rfl (by decide) rfl ob_200 rfl (by decide) (Nat.le_of_ble_eq_true rfl) (t_X12_isPays hc_28) ?_
  refine Fr_iconst (i := 1) (v := 1) (by decide +kernel) (by decide) ?_
  refine Fr_bipush (i := 99) (v := 99) (by decide +kernel) (by decide) ?_
  obtain ⟨r_32, M_30, hc_31, h⟩ := bi_elim h
  refine Fr_cVi (ν := m_X12_behindWord) (As := [.int (b2i r_29), .int 1, .int 99]) (st := [.int ((1787 + r_3) + 24), .ref 205]) (rc := 200) (ci := 12) (d' := 3) (by decide +kernel) ml_X12_297 cv_X12_behindWord rfl (by decide) rfl ob_200 rfl (by decide) (Nat.le_of_ble_eq_true rfl) (t_X12_behindWord hc_31) ?_
  obtain ⟨hi_33, h⟩ := ck_elim h
  refine Fr_iast (by decide +kernel) ob_205 (vp_of ln_205 hi_33) ?_
  obtain ⟨M_34, eM_34, h⟩ := bM_elim h
  refine Fr_mem eM_34 ?_
  refine Fr_aload_n (q := 0) (i := 0) 2 (by decide +kernel) rfl rfl ?_
  refine gf_X12_35 rfl (by decide +kernel) ob_200 ?_
  refine Fr_iload_n (q := 1) (i := 1) 1 (by decide +kernel) rfl rfl ?_
  refine Fr_bipush (i := 30) (v := 30) (by decide +kernel) (by decide) ?_
  refine Fr_iadd (by decide +kernel) ?_
  refine Fr_aload_n (q := 0) (i := 0) 2 (by decide +kernel) rfl rfl ?_
  refine Fr_aload_n (q := 0) (i := 0) 2 (by decide +kernel) rfl rfl ?_
  obtain ⟨r_37, M_35, hc_36, h⟩ := bi_elim h
  refine Fr_cVb (ν := m_X12_isClear) (As := []) (st := [.ref 200, .int ((1787 + r_3) + 30), .ref 205]) (rc := 200) (ci := 12) (d' := 1) (by decide +kernel) ml_X12_223 cv_X12_isClear rfl (by decide) rfl ob_200 rfl (by decide) (Nat.le_of_ble_eq_true rfl) (t_X12_isClear hc_36) ?_
  obtain ⟨r_40, M_38, hc_39, h⟩ := bi_elim h
  refine Fr_cVb (ν := m_X12_perhaps) (As := [.int (b2i r_37)]) (st := [.int ((1787 + r_3) + 30), .ref 205]) (rc := 200) (ci := 12) (d' := 2) (by decide +kernel) ml_X12_301 cv_X12_perhaps rfl (by decide) rfl ob_200 rfl (by decide) (Nat.le_of_ble_eq_true rfl) (t_X12_perhaps hc_39) ?_
  refine Fr_if_eq (off := 7) 113 (by decide +kernel) (by decide) (fun hc => ?_) (fun hc => ?_)
  · have h := iT hc h
    refine Fr_iconst (i := 0) (v := 0) (by decide +kernel) (by decide) ?_
    refine Fr_loc [2] rfl ?_
    exact t_X12_readTrade_b114 h
  · have h := iF hc h
    refine Fr_iconst (i := 1) (v := 1) (by decide +kernel) (by decide) ?_
    refine Fr_goto (off := 4) 114 (by decide +kernel) (by decide) ?_
    refine Fr_loc [2] rfl ?_
    exact t_X12_readTrade_b114 h
def f_X12_readShip_b68 (N : Nat) (s0 : Int32) (s1 : Int32) (M : Mem) : Option (Mem) :=
  ck s1 2175 (
  bM (uI M 205 (tn s1) s0) fun M_25 =>
  if (M_25.1 200 12) = 0 then (ck 1745 2175 (
  ck 1745 2175 (
  bM (uI M_25 205 (tn 1745) ((M_25.1 205 (tn 1745)) + 1)) fun M_28 =>
  some M_28))) else (some M_25))
set_option maxRecDepth 20000 in
theorem t_X12_readShip_b68 {N : Nat} {q : Mem} {s0 : Int32} {s1 : Int32} {M : Mem} (h : f_X12_readShip_b68 N s0 s1 M = some q) : Fr 200 21 6 m_X12_readShip 68 [(0, .ref 200)] [.int s0, .int s1, .ref 205] M (QV q) := by
  unfold f_X12_readShip_b68 at h
  obtain ⟨hi_24, h⟩ := ck_elim h
  refine Fr_iast (by decide +kernel) ob_205 (vp_of ln_205 hi_24) ?_
  obtain ⟨M_25, eM_25, h⟩ := bM_elim h
  refine Fr_mem eM_25 ?_
  refine Fr_aload_n (q := 0) (i := 0) 0 (by decide +kernel) rfl rfl ?_
  refine gf_X12_248 rfl (by decide +kernel) ob_200 ?_
  refine Fr_if_ne (off := 15) 88 (by decide +kernel) (by decide) (fun hc => ?_) (fun hc => ?_)
  · have h := iF hc h
    obtain rfl := Option.some.inj h
    exact Fr_vret (by decide +kernel) rfl ⟨rfl, rfl⟩
  · have h := iT hc h
    refine Fr_aload_n (q := 0) (i := 0) 0 (by decide +kernel) rfl rfl ?_
    refine gf_X12_35 rfl (by decide +kernel) ob_200 ?_
    refine Fr_sipush (i := 1745) (v := 1745) (by decide +kernel) (by decide) ?_
    refine Fr_dup2 (by decide +kernel) rfl rfl ?_
    obtain ⟨hi_26, h⟩ := ck_elim h
    refine Fr_iald (by decide +kernel) ob_205 (vp_of ln_205 hi_26) ?_
    refine Fr_iconst (i := 1) (v := 1) (by decide +kernel) (by decide) ?_
    refine Fr_iadd (by decide +kernel) ?_
    obtain ⟨hi_27, h⟩ := ck_elim h
    refine Fr_iast (by decide +kernel) ob_205 (vp_of ln_205 hi_27) ?_
    obtain ⟨M_28, eM_28, h⟩ := bM_elim h
    refine Fr_mem eM_28 ?_
    obtain rfl := Option.some.inj h
    exact Fr_vret (by decide +kernel) rfl ⟨rfl, rfl⟩
def f_X12_readShip (N : Nat) (M : Mem) : Option (Mem) :=
  bi (f_X12_readNew N 3 4 M) fun r_3 M_1 =>
  bi (f_X12_isAt M_1) fun r_6 M_4 =>
  bv (f_X12_must N (b2i r_6) M_4) fun M_7 =>
  bv (f_X12_readBoard N 4 (1823 + r_3) 4 M_7) fun M_9 =>
  bi (f_X12_isTo M_9) fun r_13 M_11 =>
  bv (f_X12_must N (b2i r_13) M_11) fun M_14 =>
  bv (f_X12_readBoard N 4 ((1823 + r_3) + 8) 4 M_14) fun M_16 =>
  bi (f_X12_isDark M_16) fun r_20 M_18 =>
  bi (f_X12_perhaps N (b2i r_20) M_18) fun r_23 M_21 =>
  if (b2i r_23) = 0 then (f_X12_readShip_b68 N 0 ((1823 + r_3) + 16) M_21) else (f_X12_readShip_b68 N 1 ((1823 + r_3) + 16) M_21)
set_option maxRecDepth 20000 in
theorem t_X12_readShip {N : Nat} {M : Mem} {q : Mem} (h : f_X12_readShip N M = some q) : Ev 200 21 6 m_X12_readShip [.ref 200] M (QV q) := by
  refine Ev_of_Fr (by decide +kernel) (Nat.le_of_ble_eq_true rfl) ?_
  show Fr 200 21 6 m_X12_readShip 0 [(0, .ref 200)] [] M (QV q)
  unfold f_X12_readShip at h
  refine Fr_sipush (i := 1823) (v := 1823) (by decide +kernel) (by decide) ?_
  refine Fr_aload_n (q := 0) (i := 0) 0 (by decide +kernel) rfl rfl ?_
  refine Fr_iconst (i := 3) (v := 3) (by decide +kernel) (by decide) ?_
  refine Fr_iconst (i := 4) (v := 4) (by decide +kernel) (by decide) ?_
  obtain ⟨r_3, M_1, hc_2, h⟩ := bi_elim h
  refine Fr_cVi (ν := m_X12_readNew) (As := [.int 3, .int 4]) (st := [.int 1823]) (rc := 200) (ci := 12) (d' := 5) (by decide +kernel) ml_X12_290 cv_X12_readNew rfl (by decide) rfl ob_200 rfl (by decide) (Nat.le_of_ble_eq_true rfl) (t_X12_readNew hc_2) ?_
  refine Fr_iadd (by decide +kernel) ?_
  refine Fr_istore_n (q := 1) (i := 1) (lv' := [(1, .int (1823 + r_3)), (0, .ref 200)]) (by decide +kernel) rfl (by decide) rfl ?_
  refine Fr_aload_n (q := 0) (i := 0) 1 (by decide +kernel) rfl rfl ?_
  refine Fr_aload_n (q := 0) (i := 0) 1 (by decide +kernel) rfl rfl ?_
  obtain ⟨r_6, M_4, hc_5, h⟩ := bi_elim h
  refine Fr_cVb (ν := m_X12_isAt) (As := []) (st := [.ref 200]) (rc := 200) (ci := 12) (d' := 1) (by decide +kernel) ml_X12_196 cv_X12_isAt rfl (by decide) rfl ob_200 rfl (by decide) (Nat.le_of_ble_eq_true rfl) (t_X12_isAt hc_5) ?_
  obtain ⟨M_7, hc_8, h⟩ := bv_elim h
  refine Fr_cVv (ν := m_X12_must) (As := [.int (b2i r_6)]) (st := []) (rc := 200) (ci := 12) (d' := 2) (by decide +kernel) ml_X12_264 cv_X12_must rfl (by decide) rfl ob_200 rfl (by decide) (Nat.le_of_ble_eq_true rfl) (t_X12_must hc_8) ?_
  refine Fr_aload_n (q := 0) (i := 0) 1 (by decide +kernel) rfl rfl ?_
  refine Fr_iconst (i := 4) (v := 4) (by decide +kernel) (by decide) ?_
  refine Fr_iload_n (q := 1) (i := 1) 0 (by decide +kernel) rfl rfl ?_
  refine Fr_iconst (i := 4) (v := 4) (by decide +kernel) (by decide) ?_
  obtain ⟨M_9, hc_10, h⟩ := bv_elim h
  refine Fr_cVv (ν := m_X12_readBoard) (As := [.int 4, .int (1823 + r_3), .int 4]) (st := []) (rc := 200) (ci := 12) (d' := 3) (by decide +kernel) ml_X12_293 cv_X12_readBoard rfl (by decide) rfl ob_200 rfl (by decide) (Nat.le_of_ble_eq_true rfl) (t_X12_readBoard hc_10) ?_
  refine Fr_aload_n (q := 0) (i := 0) 1 (by decide +kernel) rfl rfl ?_
  refine Fr_aload_n (q := 0) (i := 0) 1 (by decide +kernel) rfl rfl ?_
  obtain ⟨r_13, M_11, hc_12, h⟩ := bi_elim h
  refine Fr_cVb (ν := m_X12_isTo) (As := []) (st := [.ref 200]) (rc := 200) (ci := 12) (d' := 1) (by decide +kernel) ml_X12_217 cv_X12_isTo rfl (by decide) rfl ob_200 rfl (by decide) (Nat.le_of_ble_eq_true rfl) (t_X12_isTo hc_12) ?_
  obtain ⟨M_14, hc_15, h⟩ := bv_elim h
  refine Fr_cVv (ν := m_X12_must) (As := [.int (b2i r_13)]) (st := []) (rc := 200) (ci := 12) (d' := 2) (by decide +kernel) ml_X12_264 cv_X12_must rfl (by decide) rfl ob_200 rfl (by decide) (Nat.le_of_ble_eq_true rfl) (t_X12_must hc_15) ?_
  refine Fr_aload_n (q := 0) (i := 0) 1 (by decide +kernel) rfl rfl ?_
  refine Fr_iconst (i := 4) (v := 4) (by decide +kernel) (by decide) ?_
  refine Fr_iload_n (q := 1) (i := 1) 0 (by decide +kernel) rfl rfl ?_
  refine Fr_bipush (i := 8) (v := 8) (by decide +kernel) (by decide) ?_
  refine Fr_iadd (by decide +kernel) ?_
  refine Fr_iconst (i := 4) (v := 4) (by decide +kernel) (by decide) ?_
  obtain ⟨M_16, hc_17, h⟩ := bv_elim h
  refine Fr_cVv (ν := m_X12_readBoard) (As := [.int 4, .int ((1823 + r_3) + 8), .int 4]) (st := []) (rc := 200) (ci := 12) (d' := 3) (by decide +kernel) ml_X12_293 cv_X12_readBoard rfl (by decide) rfl ob_200 rfl (by decide) (Nat.le_of_ble_eq_true rfl) (t_X12_readBoard hc_17) ?_
  refine Fr_aload_n (q := 0) (i := 0) 1 (by decide +kernel) rfl rfl ?_
  refine gf_X12_35 rfl (by decide +kernel) ob_200 ?_
  refine Fr_iload_n (q := 1) (i := 1) 0 (by decide +kernel) rfl rfl ?_
  refine Fr_bipush (i := 16) (v := 16) (by decide +kernel) (by decide) ?_
  refine Fr_iadd (by decide +kernel) ?_
  refine Fr_aload_n (q := 0) (i := 0) 1 (by decide +kernel) rfl rfl ?_
  refine Fr_aload_n (q := 0) (i := 0) 1 (by decide +kernel) rfl rfl ?_
  obtain ⟨r_20, M_18, hc_19, h⟩ := bi_elim h
  refine Fr_cVb (ν := m_X12_isDark) (As := []) (st := [.ref 200, .int ((1823 + r_3) + 16), .ref 205]) (rc := 200) (ci := 12) (d' := 1) (by decide +kernel) ml_X12_229 cv_X12_isDark rfl (by decide) rfl ob_200 rfl (by decide) (Nat.le_of_ble_eq_true rfl) (t_X12_isDark hc_19) ?_
  obtain ⟨r_23, M_21, hc_22, h⟩ := bi_elim h
  refine Fr_cVb (ν := m_X12_perhaps) (As := [.int (b2i r_20)]) (st := [.int ((1823 + r_3) + 16), .ref 205]) (rc := 200) (ci := 12) (d' := 2) (by decide +kernel) ml_X12_301 cv_X12_perhaps rfl (by decide) rfl ob_200 rfl (by decide) (Nat.le_of_ble_eq_true rfl) (t_X12_perhaps hc_22) ?_
  refine Fr_if_eq (off := 7) 67 (by decide +kernel) (by decide) (fun hc => ?_) (fun hc => ?_)
  · have h := iT hc h
    refine Fr_iconst (i := 0) (v := 0) (by decide +kernel) (by decide) ?_
    refine Fr_loc [1] rfl ?_
    exact t_X12_readShip_b68 h
  · have h := iF hc h
    refine Fr_iconst (i := 1) (v := 1) (by decide +kernel) (by decide) ?_
    refine Fr_goto (off := 4) 68 (by decide +kernel) (by decide) ?_
    refine Fr_loc [1] rfl ?_
    exact t_X12_readShip_b68 h
def f_X12_readOnce_b20 (N : Nat) (v1 : Int32) (v2 : Int32) (v3 : Int32) (v4 : Int32) (M : Mem) : Option (Mem) :=
  if (M.1 200 12) ≤ 0 then (bM (uI M 200 25 ((M.1 200 25) ||| (1 <<< (v1 &&& 31)))) fun M_4 =>
  bv (f_X12_advance N M_4) fun M_5 =>
  bi (f_X12_count N v3 v4 M_5) fun r_9 M_7 =>
  ck (1740 + v2) 2175 (
  bM (uI M_7 205 (tn (1740 + v2)) r_9) fun M_11 =>
  some M_11)) else (some M)
set_option maxRecDepth 20000 in
theorem t_X12_readOnce_b20 {N : Nat} {q : Mem} {v1 : Int32} {v2 : Int32} {v3 : Int32} {v4 : Int32} {M : Mem} (h : f_X12_readOnce_b20 N v1 v2 v3 v4 M = some q) : Fr 200 21 3 m_X12_readOnce 20 [(0, .ref 200), (1, .int v1), (2, .int v2), (3, .int v3), (4, .int v4)] [] M (QV q) := by
  unfold f_X12_readOnce_b20 at h
  refine Fr_aload_n (q := 0) (i := 0) 0 (by decide +kernel) rfl rfl ?_
  refine gf_X12_248 rfl (by decide +kernel) ob_200 ?_
  refine Fr_if_le (off := 4) 28 (by decide +kernel) (by decide) (fun hc => ?_) (fun hc => ?_)
  · have h := iT hc h
    refine Fr_aload_n (q := 0) (i := 0) 0 (by decide +kernel) rfl rfl ?_
    refine Fr_dup (by decide +kernel) rfl ?_
    refine gf_X12_305 rfl (by decide +kernel) ob_200 ?_
    refine Fr_iconst (i := 1) (v := 1) (by decide +kernel) (by decide) ?_
    refine Fr_iload_n (q := 1) (i := 1) 1 (by decide +kernel) rfl rfl ?_
    refine Fr_ishl (by decide +kernel) ?_
    refine Fr_ior (by decide +kernel) ?_
    refine pf_X12_305 rfl (by decide +kernel) ob_200 ?_
    obtain ⟨M_4, eM_4, h⟩ := bM_elim h
    refine Fr_mem eM_4 ?_
    refine Fr_aload_n (q := 0) (i := 0) 0 (by decide +kernel) rfl rfl ?_
    obtain ⟨M_5, hc_6, h⟩ := bv_elim h
    refine Fr_cVv (ν := m_X12_advance) (As := []) (st := []) (rc := 200) (ci := 12) (d' := 1) (by decide +kernel) ml_X12_258 cv_X12_advance rfl (by decide) rfl ob_200 rfl (by decide) (Nat.le_of_ble_eq_true rfl) (t_X12_advance hc_6) ?_
    refine Fr_aload_n (q := 0) (i := 0) 0 (by decide +kernel) rfl rfl ?_
    refine gf_X12_35 rfl (by decide +kernel) ob_200 ?_
    refine Fr_sipush (i := 1740) (v := 1740) (by decide +kernel) (by decide) ?_
    refine Fr_iload_n (q := 2) (i := 2) 2 (by decide +kernel) rfl rfl ?_
    refine Fr_iadd (by decide +kernel) ?_
    refine Fr_aload_n (q := 0) (i := 0) 0 (by decide +kernel) rfl rfl ?_
    refine Fr_iload_n (q := 3) (i := 3) 3 (by decide +kernel) rfl rfl ?_
    refine Fr_iload (i := 4) 4 (by decide +kernel) rfl ?_
    obtain ⟨r_9, M_7, hc_8, h⟩ := bi_elim h
    refine Fr_cVi (ν := m_X12_count) (As := [.int v3, .int v4]) (st := [.int (1740 + v2), .ref 205]) (rc := 200) (ci := 12) (d' := 2) (by decide +kernel) ml_X12_268 cv_X12_count rfl (by decide) rfl ob_200 rfl (by decide) (Nat.le_of_ble_eq_true rfl) (t_X12_count hc_8) ?_
    obtain ⟨hi_10, h⟩ := ck_elim h
    refine Fr_iast (by decide +kernel) ob_205 (vp_of ln_205 hi_10) ?_
    obtain ⟨M_11, eM_11, h⟩ := bM_elim h
    refine Fr_mem eM_11 ?_
    obtain rfl := Option.some.inj h
    exact Fr_vret (by decide +kernel) rfl ⟨rfl, rfl⟩
  · have h := iF hc h
    obtain rfl := Option.some.inj h
    exact Fr_vret (by decide +kernel) rfl ⟨rfl, rfl⟩
def f_X12_readOnce (N : Nat) (x1 : Int32) (x2 : Int32) (x3 : Int32) (x4 : Int32) (M : Mem) : Option (Mem) :=
  bi (f_X12_has (M.1 200 25) x1 M) fun r_3 M_1 =>
  if (b2i r_3) = 0 then (f_X12_readOnce_b20 N x1 x2 x3 x4 M_1) else (bv (f_X12_fail 5 (M_1.1 200 15) M_1) fun M_12 =>
  f_X12_readOnce_b20 N x1 x2 x3 x4 M_12)
set_option maxRecDepth 20000 in
theorem t_X12_readOnce {N : Nat} {x1 : Int32} {x2 : Int32} {x3 : Int32} {x4 : Int32} {M : Mem} {q : Mem} (h : f_X12_readOnce N x1 x2 x3 x4 M = some q) : Ev 200 21 3 m_X12_readOnce [.ref 200, .int x1, .int x2, .int x3, .int x4] M (QV q) := by
  refine Ev_of_Fr (by decide +kernel) (Nat.le_of_ble_eq_true rfl) ?_
  show Fr 200 21 3 m_X12_readOnce 0 [(0, .ref 200), (1, .int x1), (2, .int x2), (3, .int x3), (4, .int x4)] [] M (QV q)
  unfold f_X12_readOnce at h
  refine Fr_aload_n (q := 0) (i := 0) 0 (by decide +kernel) rfl rfl ?_
  refine gf_X12_305 rfl (by decide +kernel) ob_200 ?_
  refine Fr_iload_n (q := 1) (i := 1) 1 (by decide +kernel) rfl rfl ?_
  obtain ⟨r_3, M_1, hc_2, h⟩ := bi_elim h
  refine Fr_cSb (ν := m_X12_has) (As := [.int (M.1 200 25), .int x1]) (st := []) (d' := 0) (by decide +kernel) ml_X12_123 cs_X12_has rfl (by decide) (Nat.le_of_ble_eq_true rfl) (t_X12_has hc_2) ?_
  refine Fr_if_eq (off := 12) 20 (by decide +kernel) (by decide) (fun hc => ?_) (fun hc => ?_)
  · have h := iT hc h
    exact t_X12_readOnce_b20 h
  · have h := iF hc h
    refine Fr_aload_n (q := 0) (i := 0) 0 (by decide +kernel) rfl rfl ?_
    refine Fr_iconst (i := 5) (v := 5) (by decide +kernel) (by decide) ?_
    refine Fr_aload_n (q := 0) (i := 0) 0 (by decide +kernel) rfl rfl ?_
    refine gf_X12_133 rfl (by decide +kernel) ob_200 ?_
    obtain ⟨M_12, hc_13, h⟩ := bv_elim h
    refine Fr_cVv (ν := m_X12_fail) (As := [.int 5, .int (M_1.1 200 15)]) (st := []) (rc := 200) (ci := 12) (d' := 0) (by decide +kernel) ml_X12_254 cv_X12_fail rfl (by decide) rfl ob_200 rfl (by decide) (Nat.le_of_ble_eq_true rfl) (t_X12_fail hc_13) ?_
    exact t_X12_readOnce_b20 h
def f_X12_readPart (N : Nat) (M : Mem) : Option (Mem) :=
  bi (f_X12_isPort M) fun r_3 M_1 =>
  if (b2i r_3) = 0 then (ck 1740 2175 (
  if (M_1.1 205 (tn 1740)) = 0 then (bv (f_X12_amiss M_1) fun M_42 =>
  some M_42) else (bi (f_X12_isGate M_1) fun r_7 M_5 =>
  if (b2i r_7) = 0 then (bi (f_X12_isHolder M_5) fun r_10 M_8 =>
  if (b2i r_10) = 0 then (bi (f_X12_isTrade M_8) fun r_13 M_11 =>
  if (b2i r_13) = 0 then (bi (f_X12_isShip M_11) fun r_16 M_14 =>
  if (b2i r_16) = 0 then (bi (f_X12_isWind M_14) fun r_19 M_17 =>
  if (b2i r_19) = 0 then (bi (f_X12_isThins M_17) fun r_22 M_20 =>
  if (b2i r_22) = 0 then (bi (f_X12_isFoggyWord M_20) fun r_25 M_23 =>
  if (b2i r_25) = 0 then (bv (f_X12_amiss M_23) fun M_26 =>
  some M_26) else (bv (f_X12_readOnce N 2 8 1 99 M_23) fun M_28 =>
  some M_28)) else (bv (f_X12_readOnce N 1 7 0 9 M_20) fun M_30 =>
  some M_30)) else (bv (f_X12_readOnce N 0 6 0 4 M_17) fun M_32 =>
  some M_32)) else (bv (f_X12_readShip N M_14) fun M_34 =>
  some M_34)) else (bv (f_X12_readTrade N M_11) fun M_36 =>
  some M_36)) else (bv (f_X12_readHolder N M_8) fun M_38 =>
  some M_38)) else (bv (f_X12_readGate N M_5) fun M_40 =>
  some M_40)))) else (bv (f_X12_readPort N M_1) fun M_44 =>
  some M_44)
set_option maxRecDepth 20000 in
theorem t_X12_readPart {N : Nat} {M : Mem} {q : Mem} (h : f_X12_readPart N M = some q) : Ev 200 21 7 m_X12_readPart [.ref 200] M (QV q) := by
  refine Ev_of_Fr (by decide +kernel) (Nat.le_of_ble_eq_true rfl) ?_
  show Fr 200 21 7 m_X12_readPart 0 [(0, .ref 200)] [] M (QV q)
  unfold f_X12_readPart at h
  refine Fr_aload_n (q := 0) (i := 0) 0 (by decide +kernel) rfl rfl ?_
  obtain ⟨r_3, M_1, hc_2, h⟩ := bi_elim h
  refine Fr_cVb (ν := m_X12_isPort) (As := []) (st := []) (rc := 200) (ci := 12) (d' := 1) (by decide +kernel) ml_X12_187 cv_X12_isPort rfl (by decide) rfl ob_200 rfl (by decide) (Nat.le_of_ble_eq_true rfl) (t_X12_isPort hc_2) ?_
  refine Fr_if_eq (off := 10) 14 (by decide +kernel) (by decide) (fun hc => ?_) (fun hc => ?_)
  · have h := iT hc h
    refine Fr_aload_n (q := 0) (i := 0) 0 (by decide +kernel) rfl rfl ?_
    refine gf_X12_35 rfl (by decide +kernel) ob_200 ?_
    refine Fr_sipush (i := 1740) (v := 1740) (by decide +kernel) (by decide) ?_
    obtain ⟨hi_4, h⟩ := ck_elim h
    refine Fr_iald (by decide +kernel) ob_205 (vp_of ln_205 hi_4) ?_
    refine Fr_if_ne (off := 10) 32 (by decide +kernel) (by decide) (fun hc => ?_) (fun hc => ?_)
    · have h := iF hc h
      refine Fr_aload_n (q := 0) (i := 0) 0 (by decide +kernel) rfl rfl ?_
      obtain ⟨r_7, M_5, hc_6, h⟩ := bi_elim h
      refine Fr_cVb (ν := m_X12_isGate) (As := []) (st := []) (rc := 200) (ci := 12) (d' := 1) (by decide +kernel) ml_X12_193 cv_X12_isGate rfl (by decide) rfl ob_200 rfl (by decide) (Nat.le_of_ble_eq_true rfl) (t_X12_isGate hc_6) ?_
      refine Fr_if_eq (off := 10) 46 (by decide +kernel) (by decide) (fun hc => ?_) (fun hc => ?_)
      · have h := iT hc h
        refine Fr_aload_n (q := 0) (i := 0) 0 (by decide +kernel) rfl rfl ?_
        obtain ⟨r_10, M_8, hc_9, h⟩ := bi_elim h
        refine Fr_cVb (ν := m_X12_isHolder) (As := []) (st := []) (rc := 200) (ci := 12) (d' := 1) (by decide +kernel) ml_X12_205 cv_X12_isHolder rfl (by decide) rfl ob_200 rfl (by decide) (Nat.le_of_ble_eq_true rfl) (t_X12_isHolder hc_9) ?_
        refine Fr_if_eq (off := 10) 60 (by decide +kernel) (by decide) (fun hc => ?_) (fun hc => ?_)
        · have h := iT hc h
          refine Fr_aload_n (q := 0) (i := 0) 0 (by decide +kernel) rfl rfl ?_
          obtain ⟨r_13, M_11, hc_12, h⟩ := bi_elim h
          refine Fr_cVb (ν := m_X12_isTrade) (As := []) (st := []) (rc := 200) (ci := 12) (d' := 1) (by decide +kernel) ml_X12_211 cv_X12_isTrade rfl (by decide) rfl ob_200 rfl (by decide) (Nat.le_of_ble_eq_true rfl) (t_X12_isTrade hc_12) ?_
          refine Fr_if_eq (off := 10) 74 (by decide +kernel) (by decide) (fun hc => ?_) (fun hc => ?_)
          · have h := iT hc h
            refine Fr_aload_n (q := 0) (i := 0) 0 (by decide +kernel) rfl rfl ?_
            obtain ⟨r_16, M_14, hc_15, h⟩ := bi_elim h
            refine Fr_cVb (ν := m_X12_isShip) (As := []) (st := []) (rc := 200) (ci := 12) (d' := 1) (by decide +kernel) ml_X12_226 cv_X12_isShip rfl (by decide) rfl ob_200 rfl (by decide) (Nat.le_of_ble_eq_true rfl) (t_X12_isShip hc_15) ?_
            refine Fr_if_eq (off := 10) 88 (by decide +kernel) (by decide) (fun hc => ?_) (fun hc => ?_)
            · have h := iT hc h
              refine Fr_aload_n (q := 0) (i := 0) 0 (by decide +kernel) rfl rfl ?_
              obtain ⟨r_19, M_17, hc_18, h⟩ := bi_elim h
              refine Fr_cVb (ν := m_X12_isWind) (As := []) (st := []) (rc := 200) (ci := 12) (d' := 1) (by decide +kernel) ml_X12_178 cv_X12_isWind rfl (by decide) rfl ob_200 rfl (by decide) (Nat.le_of_ble_eq_true rfl) (t_X12_isWind hc_18) ?_
              refine Fr_if_eq (off := 15) 107 (by decide +kernel) (by decide) (fun hc => ?_) (fun hc => ?_)
              · have h := iT hc h
                refine Fr_aload_n (q := 0) (i := 0) 0 (by decide +kernel) rfl rfl ?_
                obtain ⟨r_22, M_20, hc_21, h⟩ := bi_elim h
                refine Fr_cVb (ν := m_X12_isThins) (As := []) (st := []) (rc := 200) (ci := 12) (d' := 1) (by decide +kernel) ml_X12_232 cv_X12_isThins rfl (by decide) rfl ob_200 rfl (by decide) (Nat.le_of_ble_eq_true rfl) (t_X12_isThins hc_21) ?_
                refine Fr_if_eq (off := 16) 127 (by decide +kernel) (by decide) (fun hc => ?_) (fun hc => ?_)
                · have h := iT hc h
                  refine Fr_aload_n (q := 0) (i := 0) 0 (by decide +kernel) rfl rfl ?_
                  obtain ⟨r_25, M_23, hc_24, h⟩ := bi_elim h
                  refine Fr_cVb (ν := m_X12_isFoggyWord) (As := []) (st := []) (rc := 200) (ci := 12) (d' := 1) (by decide +kernel) ml_X12_181 cv_X12_isFoggyWord rfl (by decide) rfl ob_200 rfl (by decide) (Nat.le_of_ble_eq_true rfl) (t_X12_isFoggyWord hc_24) ?_
                  refine Fr_if_eq (off := 16) 147 (by decide +kernel) (by decide) (fun hc => ?_) (fun hc => ?_)
                  · have h := iT hc h
                    refine Fr_aload_n (q := 0) (i := 0) 0 (by decide +kernel) rfl rfl ?_
                    obtain ⟨M_26, hc_27, h⟩ := bv_elim h
                    refine Fr_cVv (ν := m_X12_amiss) (As := []) (st := []) (rc := 200) (ci := 12) (d' := 1) (by decide +kernel) ml_X12_261 cv_X12_amiss rfl (by decide) rfl ob_200 rfl (by decide) (Nat.le_of_ble_eq_true rfl) (t_X12_amiss hc_27) ?_
                    obtain rfl := Option.some.inj h
                    exact Fr_vret (by decide +kernel) rfl ⟨rfl, rfl⟩
                  · have h := iF hc h
                    refine Fr_aload_n (q := 0) (i := 0) 0 (by decide +kernel) rfl rfl ?_
                    refine Fr_iconst (i := 2) (v := 2) (by decide +kernel) (by decide) ?_
                    refine Fr_bipush (i := 8) (v := 8) (by decide +kernel) (by decide) ?_
                    refine Fr_iconst (i := 1) (v := 1) (by decide +kernel) (by decide) ?_
                    refine Fr_bipush (i := 99) (v := 99) (by decide +kernel) (by decide) ?_
                    obtain ⟨M_28, hc_29, h⟩ := bv_elim h
                    refine Fr_cVv (ν := m_X12_readOnce) (As := [.int 2, .int 8, .int 1, .int 99]) (st := []) (rc := 200) (ci := 12) (d' := 3) (by decide +kernel) ml_X12_323 cv_X12_readOnce rfl (by decide) rfl ob_200 rfl (by decide) (Nat.le_of_ble_eq_true rfl) (t_X12_readOnce hc_29) ?_
                    refine Fr_goto (off := 7) 151 (by decide +kernel) (by decide) ?_
                    obtain rfl := Option.some.inj h
                    exact Fr_vret (by decide +kernel) rfl ⟨rfl, rfl⟩
                · have h := iF hc h
                  refine Fr_aload_n (q := 0) (i := 0) 0 (by decide +kernel) rfl rfl ?_
                  refine Fr_iconst (i := 1) (v := 1) (by decide +kernel) (by decide) ?_
                  refine Fr_bipush (i := 7) (v := 7) (by decide +kernel) (by decide) ?_
                  refine Fr_iconst (i := 0) (v := 0) (by decide +kernel) (by decide) ?_
                  refine Fr_bipush (i := 9) (v := 9) (by decide +kernel) (by decide) ?_
                  obtain ⟨M_30, hc_31, h⟩ := bv_elim h
                  refine Fr_cVv (ν := m_X12_readOnce) (As := [.int 1, .int 7, .int 0, .int 9]) (st := []) (rc := 200) (ci := 12) (d' := 3) (by decide +kernel) ml_X12_323 cv_X12_readOnce rfl (by decide) rfl ob_200 rfl (by decide) (Nat.le_of_ble_eq_true rfl) (t_X12_readOnce hc_31) ?_
                  refine Fr_goto (off := 27) 151 (by decide +kernel) (by decide) ?_
                  obtain rfl := Option.some.inj h
                  exact Fr_vret (by decide +kernel) rfl ⟨rfl, rfl⟩
              · have h := iF hc h
                refine Fr_aload_n (q := 0) (i := 0) 0 (by decide +kernel) rfl rfl ?_
                refine Fr_iconst (i := 0) (v := 0) (by decide +kernel) (by decide) ?_
                refine Fr_bipush (i := 6) (v := 6) (by decide +kernel) (by decide) ?_
                refine Fr_iconst (i := 0) (v := 0) (by decide +kernel) (by decide) ?_
                refine Fr_iconst (i := 4) (v := 4) (by decide +kernel) (by decide) ?_
                obtain ⟨M_32, hc_33, h⟩ := bv_elim h
                refine Fr_cVv (ν := m_X12_readOnce) (As := [.int 0, .int 6, .int 0, .int 4]) (st := []) (rc := 200) (ci := 12) (d' := 3) (by decide +kernel) ml_X12_323 cv_X12_readOnce rfl (by decide) rfl ob_200 rfl (by decide) (Nat.le_of_ble_eq_true rfl) (t_X12_readOnce hc_33) ?_
                refine Fr_goto (off := 47) 151 (by decide +kernel) (by decide) ?_
                obtain rfl := Option.some.inj h
                exact Fr_vret (by decide +kernel) rfl ⟨rfl, rfl⟩
            · have h := iF hc h
              refine Fr_aload_n (q := 0) (i := 0) 0 (by decide +kernel) rfl rfl ?_
              obtain ⟨M_34, hc_35, h⟩ := bv_elim h
              refine Fr_cVv (ν := m_X12_readShip) (As := []) (st := []) (rc := 200) (ci := 12) (d' := 6) (by decide +kernel) ml_X12_320 cv_X12_readShip rfl (by decide) rfl ob_200 rfl (by decide) (Nat.le_of_ble_eq_true rfl) (t_X12_readShip hc_35) ?_
              refine Fr_goto (off := 66) 151 (by decide +kernel) (by decide) ?_
              obtain rfl := Option.some.inj h
              exact Fr_vret (by decide +kernel) rfl ⟨rfl, rfl⟩
          · have h := iF hc h
            refine Fr_aload_n (q := 0) (i := 0) 0 (by decide +kernel) rfl rfl ?_
            obtain ⟨M_36, hc_37, h⟩ := bv_elim h
            refine Fr_cVv (ν := m_X12_readTrade) (As := []) (st := []) (rc := 200) (ci := 12) (d' := 6) (by decide +kernel) ml_X12_317 cv_X12_readTrade rfl (by decide) rfl ob_200 rfl (by decide) (Nat.le_of_ble_eq_true rfl) (t_X12_readTrade hc_37) ?_
            refine Fr_goto (off := 80) 151 (by decide +kernel) (by decide) ?_
            obtain rfl := Option.some.inj h
            exact Fr_vret (by decide +kernel) rfl ⟨rfl, rfl⟩
        · have h := iF hc h
          refine Fr_aload_n (q := 0) (i := 0) 0 (by decide +kernel) rfl rfl ?_
          obtain ⟨M_38, hc_39, h⟩ := bv_elim h
          refine Fr_cVv (ν := m_X12_readHolder) (As := []) (st := []) (rc := 200) (ci := 12) (d' := 6) (by decide +kernel) ml_X12_314 cv_X12_readHolder rfl (by decide) rfl ob_200 rfl (by decide) (Nat.le_of_ble_eq_true rfl) (t_X12_readHolder hc_39) ?_
          refine Fr_goto (off := 94) 151 (by decide +kernel) (by decide) ?_
          obtain rfl := Option.some.inj h
          exact Fr_vret (by decide +kernel) rfl ⟨rfl, rfl⟩
      · have h := iF hc h
        refine Fr_aload_n (q := 0) (i := 0) 0 (by decide +kernel) rfl rfl ?_
        obtain ⟨M_40, hc_41, h⟩ := bv_elim h
        refine Fr_cVv (ν := m_X12_readGate) (As := []) (st := []) (rc := 200) (ci := 12) (d' := 6) (by decide +kernel) ml_X12_311 cv_X12_readGate rfl (by decide) rfl ob_200 rfl (by decide) (Nat.le_of_ble_eq_true rfl) (t_X12_readGate hc_41) ?_
        refine Fr_goto (off := 108) 151 (by decide +kernel) (by decide) ?_
        obtain rfl := Option.some.inj h
        exact Fr_vret (by decide +kernel) rfl ⟨rfl, rfl⟩
    · have h := iT hc h
      refine Fr_aload_n (q := 0) (i := 0) 0 (by decide +kernel) rfl rfl ?_
      obtain ⟨M_42, hc_43, h⟩ := bv_elim h
      refine Fr_cVv (ν := m_X12_amiss) (As := []) (st := []) (rc := 200) (ci := 12) (d' := 1) (by decide +kernel) ml_X12_261 cv_X12_amiss rfl (by decide) rfl ob_200 rfl (by decide) (Nat.le_of_ble_eq_true rfl) (t_X12_amiss hc_43) ?_
      refine Fr_goto (off := 122) 151 (by decide +kernel) (by decide) ?_
      obtain rfl := Option.some.inj h
      exact Fr_vret (by decide +kernel) rfl ⟨rfl, rfl⟩
  · have h := iF hc h
    refine Fr_aload_n (q := 0) (i := 0) 0 (by decide +kernel) rfl rfl ?_
    obtain ⟨M_44, hc_45, h⟩ := bv_elim h
    refine Fr_cVv (ν := m_X12_readPort) (As := []) (st := []) (rc := 200) (ci := 12) (d' := 3) (by decide +kernel) ml_X12_308 cv_X12_readPort rfl (by decide) rfl ob_200 rfl (by decide) (Nat.le_of_ble_eq_true rfl) (t_X12_readPort hc_45) ?_
    refine Fr_goto (off := 140) 151 (by decide +kernel) (by decide) ?_
    obtain rfl := Option.some.inj h
    exact Fr_vret (by decide +kernel) rfl ⟨rfl, rfl⟩
