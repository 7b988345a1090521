def f_X12_readStep_b191 (N : Nat) (rc : Int32 → Mem → Option Mem) (v4 : Int32) (M : Mem) : Option (Mem) :=
  ck (v4 + 8) 2175 (
  bM (uI M 205 (tn (v4 + 8)) (M.1 200 26)) fun M_18 =>
  some M_18)
set_option maxRecDepth 20000 in
theorem t_X12_readStep_b191 {N : Nat} {rc : Int32 → Mem → Option Mem} {e0 : Nat} (hrc : ∀ (x1 : Int32) (M : Mem) (q : Mem), rc x1 M = some q → Ev 200 21 e0 m_X12_readStep [.ref 200, .int x1] M (QV q)) {q : Mem} {v4 : Int32} {M : Mem} (h : f_X12_readStep_b191 N rc v4 M = some q) : Fr 200 21 (e0 + 8) m_X12_readStep 191 [(0, .ref 200), (4, .int v4)] [] M (QV q) := by
  unfold f_X12_readStep_b191 at h
  refine Fr_aload_n (q := 0) (i := 0) 0 (by decide +kernel) rfl rfl ?_
  refine gf_X12_35 rfl (by decide +kernel) ob_200 ?_
  refine Fr_iload (i := 4) 1 (by decide +kernel) rfl ?_
  refine Fr_bipush (i := 8) (v := 8) (by decide +kernel) (by decide) ?_
  refine Fr_iadd (by decide +kernel) ?_
  refine Fr_aload_n (q := 0) (i := 0) 0 (by decide +kernel) rfl rfl ?_
  refine gf_X12_351 rfl (by decide +kernel) ob_200 ?_
  obtain ⟨hi_17, h⟩ := ck_elim h
  refine Fr_iast (by decide +kernel) ob_205 (vp_of ln_205 hi_17) ?_
  obtain ⟨M_18, eM_18, h⟩ := bM_elim h
  refine Fr_mem eM_18 ?_
  obtain rfl := Option.some.inj h
  exact Fr_vret (by decide +kernel) rfl ⟨rfl, rfl⟩
def f_X12_readStep_b169 (N : Nat) (rc : Int32 → Mem → Option Mem) (v3 : Int32) (v4 : Int32) (M : Mem) : Option (Mem) :=
  if v3 = 0 then (f_X12_readStep_b191 N rc v4 M) else (bi (f_X12_isEnd M) fun r_21 M_19 =>
  bv (f_X12_must N (b2i r_21) M_19) fun M_22 =>
  bi (f_X12_isSign 59 M_22) fun r_26 M_24 =>
  bv (f_X12_must N (b2i r_26) M_24) fun M_27 =>
  f_X12_readStep_b191 N rc v4 M_27)
set_option maxRecDepth 20000 in
theorem t_X12_readStep_b169 {N : Nat} {rc : Int32 → Mem → Option Mem} {e0 : Nat} (hrc : ∀ (x1 : Int32) (M : Mem) (q : Mem), rc x1 M = some q → Ev 200 21 e0 m_X12_readStep [.ref 200, .int x1] M (QV q)) {q : Mem} {v3 : Int32} {v4 : Int32} {M : Mem} (h : f_X12_readStep_b169 N rc v3 v4 M = some q) : Fr 200 21 (e0 + 8) m_X12_readStep 169 [(0, .ref 200), (3, .int v3), (4, .int v4)] [] M (QV q) := by
  unfold f_X12_readStep_b169 at h
  refine Fr_iload_n (q := 3) (i := 3) 1 (by decide +kernel) rfl rfl ?_
  refine Fr_if_eq (off := 21) 191 (by decide +kernel) (by decide) (fun hc => ?_) (fun hc => ?_)
  · have h := iT hc h
    refine Fr_loc [0, 2] rfl ?_
    exact t_X12_readStep_b191 hrc h
  · have h := iF hc h
    refine Fr_aload_n (q := 0) (i := 0) 0 (by decide +kernel) rfl rfl ?_
    refine Fr_aload_n (q := 0) (i := 0) 0 (by decide +kernel) rfl rfl ?_
    obtain ⟨r_21, M_19, hc_20, h⟩ := bi_elim h
    refine Fr_cVb (ν := m_X12_isEnd) (As := []) (st := [.ref 200]) (rc := 200) (ci := 12) (d' := 1) (by decide +kernel) ml_X12_242 cv_X12_isEnd rfl (by decide) rfl ob_200 rfl (by omega) (Nat.le_of_ble_eq_true rfl) (t_X12_isEnd hc_20) ?_
    obtain ⟨M_22, hc_23, h⟩ := bv_elim h
    refine Fr_cVv (ν := m_X12_must) (As := [.int (b2i r_21)]) (st := []) (rc := 200) (ci := 12) (d' := 2) (by decide +kernel) ml_X12_264 cv_X12_must rfl (by decide) rfl ob_200 rfl (by omega) (Nat.le_of_ble_eq_true rfl) (t_X12_must hc_23) ?_
    refine Fr_aload_n (q := 0) (i := 0) 0 (by decide +kernel) rfl rfl ?_
    refine Fr_aload_n (q := 0) (i := 0) 0 (by decide +kernel) rfl rfl ?_
    refine Fr_bipush (i := 59) (v := 59) (by decide +kernel) (by decide) ?_
    obtain ⟨r_26, M_24, hc_25, h⟩ := bi_elim h
    refine Fr_cVb (ν := m_X12_isSign) (As := [.int 59]) (st := [.ref 200]) (rc := 200) (ci := 12) (d' := 0) (by decide +kernel) ml_X12_333 cv_X12_isSign rfl (by decide) rfl ob_200 rfl (by omega) (Nat.le_of_ble_eq_true rfl) (t_X12_isSign hc_25) ?_
    obtain ⟨M_27, hc_28, h⟩ := bv_elim h
    refine Fr_cVv (ν := m_X12_must) (As := [.int (b2i r_26)]) (st := []) (rc := 200) (ci := 12) (d' := 2) (by decide +kernel) ml_X12_264 cv_X12_must rfl (by decide) rfl ob_200 rfl (by omega) (Nat.le_of_ble_eq_true rfl) (t_X12_must hc_28) ?_
    refine Fr_loc [0, 2] rfl ?_
    exact t_X12_readStep_b191 hrc h
def f_X12_readStep_h141 (N : Nat) (rc : Int32 → Mem → Option Mem) (k141 : Int32 × Int32 × Int32 → Mem → Option (Mem)) (v1 : Int32) (v3 : Int32) (v4 : Int32) (M : Mem) : Option (Mem) :=
  if v3 = 0 then (f_X12_readStep_b169 N rc v3 v4 M) else (if (M.1 200 12) = 0 then (bi (f_X12_isEnd M) fun r_31 M_29 =>
  if (b2i r_31) = 0 then (bv (rc (v1 + 1) M_29) fun M_32 =>
  k141 (v1, v3, v4) M_32) else (f_X12_readStep_b169 N rc v3 v4 M_29)) else (f_X12_readStep_b169 N rc v3 v4 M))
set_option maxRecDepth 20000 in
theorem t_X12_readStep_h141 {N : Nat} {rc : Int32 → Mem → Option Mem} {e0 : Nat} (hrc : ∀ (x1 : Int32) (M : Mem) (q : Mem), rc x1 M = some q → Ev 200 21 e0 m_X12_readStep [.ref 200, .int x1] M (QV q)) {q : Mem} {k141 : Int32 × Int32 × Int32 → Mem → Option (Mem)} (hk141 : ∀ (a : Int32 × Int32 × Int32) (M : Mem), k141 a M = some q → Fr 200 21 (e0 + 8) m_X12_readStep 141 [(0, .ref 200), (1, .int a.1), (3, .int a.2.1), (4, .int a.2.2)] [] M (QV q)) {v1 : Int32} {v3 : Int32} {v4 : Int32} {M : Mem} (h : f_X12_readStep_h141 N rc k141 v1 v3 v4 M = some q) : Fr 200 21 (e0 + 8) m_X12_readStep 141 [(0, .ref 200), (1, .int v1), (3, .int v3), (4, .int v4)] [] M (QV q) := by
  unfold f_X12_readStep_h141 at h
  refine Fr_iload_n (q := 3) (i := 3) 2 (by decide +kernel) rfl rfl ?_
  refine Fr_if_eq (off := 27) 169 (by decide +kernel) (by decide) (fun hc => ?_) (fun hc => ?_)
  · have h := iT hc h
    refine Fr_loc [0, 2, 3] rfl ?_
    exact t_X12_readStep_b169 hrc h
  · have h := iF hc h
    refine Fr_aload_n (q := 0) (i := 0) 0 (by decide +kernel) rfl rfl ?_
    refine gf_X12_248 rfl (by decide +kernel) ob_200 ?_
    refine Fr_if_ne (off := 20) 169 (by decide +kernel) (by decide) (fun hc => ?_) (fun hc => ?_)
    · have h := iF hc h
      refine Fr_loc [0, 2, 3] rfl ?_
      exact t_X12_readStep_b169 hrc h
    · have h := iT hc h
      refine Fr_aload_n (q := 0) (i := 0) 0 (by decide +kernel) rfl rfl ?_
      obtain ⟨r_31, M_29, hc_30, h⟩ := bi_elim h
      refine Fr_cVb (ν := m_X12_isEnd) (As := []) (st := []) (rc := 200) (ci := 12) (d' := 1) (by decide +kernel) ml_X12_242 cv_X12_isEnd rfl (by decide) rfl ob_200 rfl (by omega) (Nat.le_of_ble_eq_true rfl) (t_X12_isEnd hc_30) ?_
      refine Fr_if_ne (off := 13) 169 (by decide +kernel) (by decide) (fun hc => ?_) (fun hc => ?_)
      · have h := iF hc h
        refine Fr_loc [0, 2, 3] rfl ?_
        exact t_X12_readStep_b169 hrc h
      · have h := iT hc h
        refine Fr_aload_n (q := 0) (i := 0) 0 (by decide +kernel) rfl rfl ?_
        refine Fr_iload_n (q := 1) (i := 1) 1 (by decide +kernel) rfl rfl ?_
        refine Fr_iconst (i := 1) (v := 1) (by decide +kernel) (by decide) ?_
        refine Fr_iadd (by decide +kernel) ?_
        obtain ⟨M_32, hc_33, h⟩ := bv_elim h
        refine Fr_cVv (ν := m_X12_readStep) (As := [.int (v1 + 1)]) (st := []) (rc := 200) (ci := 12) (d' := e0) (by decide +kernel) ml_X12_357 cv_X12_readStep rfl (by decide) rfl ob_200 rfl (by omega) (Nat.le_of_ble_eq_true rfl) (hrc _ _ _ hc_33) ?_
        refine Fr_goto (off := (-25)) 141 (by decide +kernel) (by decide) ?_
        exact hk141 (v1, v3, v4) M_32 h
def f_X12_readStep_b82 (N : Nat) (rc : Int32 → Mem → Option Mem) (v1 : Int32) (v2 : Int32) (v3 : Int32) (M : Mem) : Option (Mem) :=
  if (M.1 200 12) ≤ 0 then (bI (1905 + (9 * (M.1 200 26))) fun y_4 =>
  bM (uI M 200 26 ((M.1 200 26) + 1)) fun M_5 =>
  bv (f_X12_advance N M_5) fun M_6 =>
  ck y_4 2175 (
  bM (uI M_6 205 (tn y_4) v2) fun M_9 =>
  bv (f_X12_readRest N y_4 M_9) fun M_10 =>
  bi (f_X12_isSign 59 M_10) fun r_14 M_12 =>
  bv (f_X12_must N (b2i r_14) M_12) fun M_15 =>
  lp (fun k a m => f_X12_readStep_h141 N rc k a.1 a.2.1 a.2.2 m) N (v1, v3, y_4) M_15)) else (some M)
set_option maxRecDepth 20000 in
theorem t_X12_readStep_b82 {N : Nat} {rc : Int32 → Mem → Option Mem} {e0 : Nat} (hrc : ∀ (x1 : Int32) (M : Mem) (q : Mem), rc x1 M = some q → Ev 200 21 e0 m_X12_readStep [.ref 200, .int x1] M (QV q)) {q : Mem} {v1 : Int32} {v2 : Int32} {v3 : Int32} {M : Mem} (h : f_X12_readStep_b82 N rc v1 v2 v3 M = some q) : Fr 200 21 (e0 + 8) m_X12_readStep 82 [(0, .ref 200), (1, .int v1), (2, .int v2), (3, .int v3)] [] M (QV q) := by
  unfold f_X12_readStep_b82 at h
  refine Fr_aload_n (q := 0) (i := 0) 0 (by decide +kernel) rfl rfl ?_
  refine gf_X12_248 rfl (by decide +kernel) ob_200 ?_
  refine Fr_if_le (off := 4) 90 (by decide +kernel) (by decide) (fun hc => ?_) (fun hc => ?_)
  · have h := iT hc h
    refine Fr_sipush (i := 1905) (v := 1905) (by decide +kernel) (by decide) ?_
    refine Fr_bipush (i := 9) (v := 9) (by decide +kernel) (by decide) ?_
    refine Fr_aload_n (q := 0) (i := 0) 0 (by decide +kernel) rfl rfl ?_
    refine gf_X12_351 rfl (by decide +kernel) ob_200 ?_
    refine Fr_imul (by decide +kernel) ?_
    refine Fr_iadd (by decide +kernel) ?_
    obtain ⟨y_4, ey_4, h⟩ := bI_elim h
    refine Fr_topI ey_4 ?_
    refine Fr_istore (i := 4) (lv' := [(4, .int y_4), (0, .ref 200), (1, .int v1), (2, .int v2), (3, .int v3)]) (by decide +kernel) (by decide) rfl ?_
    refine Fr_aload_n (q := 0) (i := 0) 1 (by decide +kernel) rfl rfl ?_
    refine Fr_dup (by decide +kernel) rfl ?_
    refine gf_X12_351 rfl (by decide +kernel) ob_200 ?_
    refine Fr_iconst (i := 1) (v := 1) (by decide +kernel) (by decide) ?_
    refine Fr_iadd (by decide +kernel) ?_
    refine pf_X12_351 rfl (by decide +kernel) ob_200 ?_
    obtain ⟨M_5, eM_5, h⟩ := bM_elim h
    refine Fr_mem eM_5 ?_
    refine Fr_aload_n (q := 0) (i := 0) 1 (by decide +kernel) rfl rfl ?_
    obtain ⟨M_6, hc_7, h⟩ := bv_elim h
    refine Fr_cVv (ν := m_X12_advance) (As := []) (st := []) (rc := 200) (ci := 12) (d' := 1) (by decide +kernel) ml_X12_258 cv_X12_advance rfl (by decide) rfl ob_200 rfl (by omega) (Nat.le_of_ble_eq_true rfl) (t_X12_advance hc_7) ?_
    refine Fr_aload_n (q := 0) (i := 0) 1 (by decide +kernel) rfl rfl ?_
    refine gf_X12_35 rfl (by decide +kernel) ob_200 ?_
    refine Fr_iload (i := 4) 0 (by decide +kernel) rfl ?_
    refine Fr_iload_n (q := 2) (i := 2) 3 (by decide +kernel) rfl rfl ?_
    obtain ⟨hi_8, h⟩ := ck_elim h
    refine Fr_iast (by decide +kernel) ob_205 (vp_of ln_205 hi_8) ?_
    obtain ⟨M_9, eM_9, h⟩ := bM_elim h
    refine Fr_mem eM_9 ?_
    refine Fr_aload_n (q := 0) (i := 0) 1 (by decide +kernel) rfl rfl ?_
    refine Fr_iload (i := 4) 0 (by decide +kernel) rfl ?_
    obtain ⟨M_10, hc_11, h⟩ := bv_elim h
    refine Fr_cVv (ν := m_X12_readRest) (As := [.int y_4]) (st := []) (rc := 200) (ci := 12) (d' := 7) (by decide +kernel) ml_X12_354 cv_X12_readRest rfl (by decide) rfl ob_200 rfl (by omega) (Nat.le_of_ble_eq_true rfl) (t_X12_readRest hc_11) ?_
    refine Fr_aload_n (q := 0) (i := 0) 1 (by decide +kernel) rfl rfl ?_
    refine Fr_aload_n (q := 0) (i := 0) 1 (by decide +kernel) rfl rfl ?_
    refine Fr_bipush (i := 59) (v := 59) (by decide +kernel) (by decide) ?_
    obtain ⟨r_14, M_12, hc_13, h⟩ := bi_elim h
    refine Fr_cVb (ν := m_X12_isSign) (As := [.int 59]) (st := [.ref 200]) (rc := 200) (ci := 12) (d' := 0) (by decide +kernel) ml_X12_333 cv_X12_isSign rfl (by decide) rfl ob_200 rfl (by omega) (Nat.le_of_ble_eq_true rfl) (t_X12_isSign hc_13) ?_
    obtain ⟨M_15, hc_16, h⟩ := bv_elim h
    refine Fr_cVv (ν := m_X12_must) (As := [.int (b2i r_14)]) (st := []) (rc := 200) (ci := 12) (d' := 2) (by decide +kernel) ml_X12_264 cv_X12_must rfl (by decide) rfl ob_200 rfl (by omega) (Nat.le_of_ble_eq_true rfl) (t_X12_must hc_16) ?_
    refine Fr_loc [1, 2, 4, 0] rfl ?_
    exact lp_sound (P := fun a M => Fr 200 21 (e0 + 8) m_X12_readStep 141 [(0, .ref 200), (1, .int a.1), (3, .int a.2.1), (4, .int a.2.2)] [] M (QV q)) (fun k hk a m h => t_X12_readStep_h141 hrc hk h) N (v1, v3, y_4) M_15 h
  · have h := iF hc h
    obtain rfl := Option.some.inj h
    exact Fr_vret (by decide +kernel) rfl ⟨rfl, rfl⟩
def f_X12_readStep_b56 (N : Nat) (rc : Int32 → Mem → Option Mem) (v1 : Int32) (v2 : Int32) (v3 : Int32) (M : Mem) : Option (Mem) :=
  if (M.1 200 12) = 0 then (if v3 = 0 then (f_X12_readStep_b82 N rc v1 v2 v3 M) else (if v1 = 3 then (bv (f_X12_fail 7 (M.1 200 15) M) fun M_34 =>
  f_X12_readStep_b82 N rc v1 v2 v3 M_34) else (f_X12_readStep_b82 N rc v1 v2 v3 M))) else (f_X12_readStep_b82 N rc v1 v2 v3 M)
set_option maxRecDepth 20000 in
theorem t_X12_readStep_b56 {N : Nat} {rc : Int32 → Mem → Option Mem} {e0 : Nat} (hrc : ∀ (x1 : Int32) (M : Mem) (q : Mem), rc x1 M = some q → Ev 200 21 e0 m_X12_readStep [.ref 200, .int x1] M (QV q)) {q : Mem} {v1 : Int32} {v2 : Int32} {v3 : Int32} {M : Mem} (h : f_X12_readStep_b56 N rc v1 v2 v3 M = some q) : Fr 200 21 (e0 + 8) m_X12_readStep 56 [(0, .ref 200), (1, .int v1), (2, .int v2), (3, .int v3)] [] M (QV q) := by
  unfold f_X12_readStep_b56 at h
  refine Fr_aload_n (q := 0) (i := 0) 0 (by decide +kernel) rfl rfl ?_
  refine gf_X12_248 rfl (by decide +kernel) ob_200 ?_
  refine Fr_if_ne (off := 22) 82 (by decide +kernel) (by decide) (fun hc => ?_) (fun hc => ?_)
  · have h := iF hc h
    exact t_X12_readStep_b82 hrc h
  · have h := iT hc h
    refine Fr_iload_n (q := 3) (i := 3) 3 (by decide +kernel) rfl rfl ?_
    refine Fr_if_eq (off := 18) 82 (by decide +kernel) (by decide) (fun hc => ?_) (fun hc => ?_)
    · have h := iT hc h
      exact t_X12_readStep_b82 hrc h
    · have h := iF hc h
      refine Fr_iload_n (q := 1) (i := 1) 1 (by decide +kernel) rfl rfl ?_
      refine Fr_iconst (i := 3) (v := 3) (by decide +kernel) (by decide) ?_
      refine Fr_icmp_ne (off := 13) 82 (by decide +kernel) (by decide) (fun hc => ?_) (fun hc => ?_)
      · have h := iF hc h
        exact t_X12_readStep_b82 hrc h
      · have h := iT hc h
        refine Fr_aload_n (q := 0) (i := 0) 0 (by decide +kernel) rfl rfl ?_
        refine Fr_bipush (i := 7) (v := 7) (by decide +kernel) (by decide) ?_
        refine Fr_aload_n (q := 0) (i := 0) 0 (by decide +kernel) rfl rfl ?_
        refine gf_X12_133 rfl (by decide +kernel) ob_200 ?_
        obtain ⟨M_34, hc_35, h⟩ := bv_elim h
        refine Fr_cVv (ν := m_X12_fail) (As := [.int 7, .int (M.1 200 15)]) (st := []) (rc := 200) (ci := 12) (d' := 0) (by decide +kernel) ml_X12_254 cv_X12_fail rfl (by decide) rfl ob_200 rfl (by omega) (Nat.le_of_ble_eq_true rfl) (t_X12_fail hc_35) ?_
        exact t_X12_readStep_b82 hrc h
def f_X12_readStep_b30 (N : Nat) (rc : Int32 → Mem → Option Mem) (v1 : Int32) (v2 : Int32) (v3 : Int32) (M : Mem) : Option (Mem) :=
  if (M.1 200 12) = 0 then (if (M.1 200 26) = 30 then (bv (f_X12_fail 6 (M.1 200 15) M) fun M_36 =>
  f_X12_readStep_b56 N rc v1 v2 v3 M_36) else (f_X12_readStep_b56 N rc v1 v2 v3 M)) else (f_X12_readStep_b56 N rc v1 v2 v3 M)
set_option maxRecDepth 20000 in
theorem t_X12_readStep_b30 {N : Nat} {rc : Int32 → Mem → Option Mem} {e0 : Nat} (hrc : ∀ (x1 : Int32) (M : Mem) (q : Mem), rc x1 M = some q → Ev 200 21 e0 m_X12_readStep [.ref 200, .int x1] M (QV q)) {q : Mem} {v1 : Int32} {v2 : Int32} {v3 : Int32} {M : Mem} (h : f_X12_readStep_b30 N rc v1 v2 v3 M = some q) : Fr 200 21 (e0 + 8) m_X12_readStep 30 [(0, .ref 200), (1, .int v1), (2, .int v2), (3, .int v3)] [] M (QV q) := by
  unfold f_X12_readStep_b30 at h
  refine Fr_aload_n (q := 0) (i := 0) 0 (by decide +kernel) rfl rfl ?_
  refine gf_X12_248 rfl (by decide +kernel) ob_200 ?_
  refine Fr_if_ne (off := 22) 56 (by decide +kernel) (by decide) (fun hc => ?_) (fun hc => ?_)
  · have h := iF hc h
    exact t_X12_readStep_b56 hrc h
  · have h := iT hc h
    refine Fr_aload_n (q := 0) (i := 0) 0 (by decide +kernel) rfl rfl ?_
    refine gf_X12_351 rfl (by decide +kernel) ob_200 ?_
    refine Fr_bipush (i := 30) (v := 30) (by decide +kernel) (by decide) ?_
    refine Fr_icmp_ne (off := 13) 56 (by decide +kernel) (by decide) (fun hc => ?_) (fun hc => ?_)
    · have h := iF hc h
      exact t_X12_readStep_b56 hrc h
    · have h := iT hc h
      refine Fr_aload_n (q := 0) (i := 0) 0 (by decide +kernel) rfl rfl ?_
      refine Fr_bipush (i := 6) (v := 6) (by decide +kernel) (by decide) ?_
      refine Fr_aload_n (q := 0) (i := 0) 0 (by decide +kernel) rfl rfl ?_
      refine gf_X12_133 rfl (by decide +kernel) ob_200 ?_
      obtain ⟨M_36, hc_37, h⟩ := bv_elim h
      refine Fr_cVv (ν := m_X12_fail) (As := [.int 6, .int (M.1 200 15)]) (st := []) (rc := 200) (ci := 12) (d' := 0) (by decide +kernel) ml_X12_254 cv_X12_fail rfl (by decide) rfl ob_200 rfl (by omega) (Nat.le_of_ble_eq_true rfl) (t_X12_fail hc_37) ?_
      exact t_X12_readStep_b56 hrc h
def f_X12_readStep_b21 (N : Nat) (rc : Int32 → Mem → Option Mem) (v1 : Int32) (v2 : Int32) (s0 : Int32) (M : Mem) : Option (Mem) :=
  if 0 ≤ v2 then (f_X12_readStep_b30 N rc v1 v2 s0 M) else (bv (f_X12_amiss M) fun M_38 =>
  f_X12_readStep_b30 N rc v1 v2 s0 M_38)
set_option maxRecDepth 20000 in
theorem t_X12_readStep_b21 {N : Nat} {rc : Int32 → Mem → Option Mem} {e0 : Nat} (hrc : ∀ (x1 : Int32) (M : Mem) (q : Mem), rc x1 M = some q → Ev 200 21 e0 m_X12_readStep [.ref 200, .int x1] M (QV q)) {q : Mem} {v1 : Int32} {v2 : Int32} {s0 : Int32} {M : Mem} (h : f_X12_readStep_b21 N rc v1 v2 s0 M = some q) : Fr 200 21 (e0 + 8) m_X12_readStep 21 [(0, .ref 200), (1, .int v1), (2, .int v2)] [.int s0] M (QV q) := by
  unfold f_X12_readStep_b21 at h
  refine Fr_istore_n (q := 3) (i := 3) (lv' := [(3, .int s0), (0, .ref 200), (1, .int v1), (2, .int v2)]) (by decide +kernel) rfl (by decide) rfl ?_
  refine Fr_iload_n (q := 2) (i := 2) 3 (by decide +kernel) rfl rfl ?_
  refine Fr_if_ge (off := 7) 30 (by decide +kernel) (by decide) (fun hc => ?_) (fun hc => ?_)
  · have h := iT hc h
    refine Fr_loc [1, 2, 3, 0] rfl ?_
    exact t_X12_readStep_b30 hrc h
  · have h := iF hc h
    refine Fr_aload_n (q := 0) (i := 0) 1 (by decide +kernel) rfl rfl ?_
    obtain ⟨M_38, hc_39, h⟩ := bv_elim h
    refine Fr_cVv (ν := m_X12_amiss) (As := []) (st := []) (rc := 200) (ci := 12) (d' := 1) (by decide +kernel) ml_X12_261 cv_X12_amiss rfl (by decide) rfl ob_200 rfl (by omega) (Nat.le_of_ble_eq_true rfl) (t_X12_amiss hc_39) ?_
    refine Fr_loc [1, 2, 3, 0] rfl ?_
    exact t_X12_readStep_b30 hrc h
def f_X12_readStep_b16 (N : Nat) (rc : Int32 → Mem → Option Mem) (v1 : Int32) (v2 : Int32) (M : Mem) : Option (Mem) :=
  f_X12_readStep_b21 N rc v1 v2 1 M
set_option maxRecDepth 20000 in
theorem t_X12_readStep_b16 {N : Nat} {rc : Int32 → Mem → Option Mem} {e0 : Nat} (hrc : ∀ (x1 : Int32) (M : Mem) (q : Mem), rc x1 M = some q → Ev 200 21 e0 m_X12_readStep [.ref 200, .int x1] M (QV q)) {q : Mem} {v1 : Int32} {v2 : Int32} {M : Mem} (h : f_X12_readStep_b16 N rc v1 v2 M = some q) : Fr 200 21 (e0 + 8) m_X12_readStep 16 [(0, .ref 200), (1, .int v1), (2, .int v2)] [] M (QV q) := by
  unfold f_X12_readStep_b16 at h
  refine Fr_iconst (i := 1) (v := 1) (by decide +kernel) (by decide) ?_
  refine Fr_goto (off := 4) 21 (by decide +kernel) (by decide) ?_
  exact t_X12_readStep_b21 hrc h
def g_X12_readStep (N : Nat) (rc : Int32 → Mem → Option Mem) (x1 : Int32) (M : Mem) : Option (Mem) :=
  bi (f_X12_stepWord M) fun r_3 M_1 =>
  if r_3 = 5 then (f_X12_readStep_b16 N rc x1 r_3 M_1) else (if r_3 = 6 then (f_X12_readStep_b16 N rc x1 r_3 M_1) else (f_X12_readStep_b21 N rc x1 r_3 0 M_1))
set_option maxRecDepth 20000 in
theorem u_X12_readStep {N : Nat} {rc : Int32 → Mem → Option Mem} {e0 : Nat} (hrc : ∀ (x1 : Int32) (M : Mem) (q : Mem), rc x1 M = some q → Ev 200 21 e0 m_X12_readStep [.ref 200, .int x1] M (QV q)) {x1 : Int32} {M : Mem} {q : Mem} (h : g_X12_readStep N rc x1 M = some q) : Ev 200 21 (e0 + 8) m_X12_readStep [.ref 200, .int x1] M (QV q) := by
  refine Ev_of_Fr (by decide +kernel) (Nat.le_of_ble_eq_true rfl) ?_
  show Fr 200 21 (e0 + 8) m_X12_readStep 0 [(0, .ref 200), (1, .int x1)] [] M (QV q)
  unfold g_X12_readStep at h
  refine Fr_aload_n (q := 0) (i := 0) 0 (by decide +kernel) rfl rfl ?_
  obtain ⟨r_3, M_1, hc_2, h⟩ := bi_elim h
  refine Fr_cVi (ν := m_X12_stepWord) (As := []) (st := []) (rc := 200) (ci := 12) (d' := 2) (by decide +kernel) ml_X12_235 cv_X12_stepWord rfl (by decide) rfl ob_200 rfl (by omega) (Nat.le_of_ble_eq_true rfl) (t_X12_stepWord hc_2) ?_
  refine Fr_istore_n (q := 2) (i := 2) (lv' := [(2, .int r_3), (0, .ref 200), (1, .int x1)]) (by decide +kernel) rfl (by decide) rfl ?_
  refine Fr_iload_n (q := 2) (i := 2) 0 (by decide +kernel) rfl rfl ?_
  refine Fr_iconst (i := 5) (v := 5) (by decide +kernel) (by decide) ?_
  refine Fr_icmp_eq (off := 9) 16 (by decide +kernel) (by decide) (fun hc => ?_) (fun hc => ?_)
  · have h := iT hc h
    refine Fr_loc [1, 2, 0] rfl ?_
    exact t_X12_readStep_b16 hrc h
  · have h := iF hc h
    refine Fr_iload_n (q := 2) (i := 2) 0 (by decide +kernel) rfl rfl ?_
    refine Fr_bipush (i := 6) (v := 6) (by decide +kernel) (by decide) ?_
    refine Fr_icmp_ne (off := 7) 20 (by decide +kernel) (by decide) (fun hc => ?_) (fun hc => ?_)
    · have h := iF hc h
      refine Fr_iconst (i := 0) (v := 0) (by decide +kernel) (by decide) ?_
      refine Fr_loc [1, 2, 0] rfl ?_
      exact t_X12_readStep_b21 hrc h
    · have h := iT hc h
      refine Fr_loc [1, 2, 0] rfl ?_
      exact t_X12_readStep_b16 hrc h
def f_X12_readStep (N : Nat) : Nat → Int32 → Mem → Option (Mem)
  | 0 => fun _ _ => none
  | D + 1 => fun x1 M => g_X12_readStep N (f_X12_readStep N D) x1 M
theorem t_X12_readStep {N : Nat} : ∀ (D : Nat) {x1 : Int32} {M : Mem} {q : Mem}, f_X12_readStep N D x1 M = some q → Ev 200 21 (8 * D) m_X12_readStep [.ref 200, .int x1] M (QV q)
  | 0, _, _, _, h => by cases h
  | D + 1, _, _, _, h => u_X12_readStep (e0 := 8 * D) (rc := f_X12_readStep N D) (fun _ _ _ h => t_X12_readStep D h) h
def f_X12_nights_h82 (N : Nat) (k82 : Int32 → Mem → Option (Int32 × Mem)) (v2 : Int32) (M : Mem) : Option (Int32 × Mem) :=
  if (9 * (M.1 200 26)) ≤ v2 then (some ((M.1 200 26), M)) else (ck (1905 + v2) 2175 (
  ck (165 + v2) 2175 (
  bM (uI M 205 (tn (165 + v2)) (M.1 205 (tn (1905 + v2)))) fun M_16 =>
  k82 (v2 + 1) M_16)))
set_option maxRecDepth 20000 in
theorem t_X12_nights_h82 {N : Nat} {q : Int32 × Mem} {k82 : Int32 → Mem → Option (Int32 × Mem)} (hk82 : ∀ (a : Int32) (M : Mem), k82 a M = some q → Fr 200 21 49 m_X12_nights 82 [(0, .ref 200), (2, .int a)] [] M (QI q)) {v2 : Int32} {M : Mem} (h : f_X12_nights_h82 N k82 v2 M = some q) : Fr 200 21 49 m_X12_nights 82 [(0, .ref 200), (2, .int v2)] [] M (QI q) := by
  unfold f_X12_nights_h82 at h
  refine Fr_iload_n (q := 2) (i := 2) 1 (by decide +kernel) rfl rfl ?_
  refine Fr_bipush (i := 9) (v := 9) (by decide +kernel) (by decide) ?_
  refine Fr_aload_n (q := 0) (i := 0) 0 (by decide +kernel) rfl rfl ?_
  refine gf_X12_351 rfl (by decide +kernel) ob_200 ?_
  refine Fr_imul (by decide +kernel) ?_
  refine Fr_icmp_ge (off := 29) 119 (by decide +kernel) (by decide) (fun hc => ?_) (fun hc => ?_)
  · have h := iT hc h
    refine Fr_aload_n (q := 0) (i := 0) 0 (by decide +kernel) rfl rfl ?_
    refine gf_X12_351 rfl (by decide +kernel) ob_200 ?_
    obtain rfl := Option.some.inj h
    exact Fr_iret (by decide +kernel) rfl ⟨rfl, rfl⟩
  · have h := iF hc h
    refine Fr_aload_n (q := 0) (i := 0) 0 (by decide +kernel) rfl rfl ?_
    refine gf_X12_35 rfl (by decide +kernel) ob_200 ?_
    refine Fr_sipush (i := 165) (v := 165) (by decide +kernel) (by decide) ?_
    refine Fr_iload_n (q := 2) (i := 2) 1 (by decide +kernel) rfl rfl ?_
    refine Fr_iadd (by decide +kernel) ?_
    refine Fr_aload_n (q := 0) (i := 0) 0 (by decide +kernel) rfl rfl ?_
    refine gf_X12_35 rfl (by decide +kernel) ob_200 ?_
    refine Fr_sipush (i := 1905) (v := 1905) (by decide +kernel) (by decide) ?_
    refine Fr_iload_n (q := 2) (i := 2) 1 (by decide +kernel) rfl rfl ?_
    refine Fr_iadd (by decide +kernel) ?_
    obtain ⟨hi_14, h⟩ := ck_elim h
    refine Fr_iald (by decide +kernel) ob_205 (vp_of ln_205 hi_14) ?_
    obtain ⟨hi_15, h⟩ := ck_elim h
    refine Fr_iast (by decide +kernel) ob_205 (vp_of ln_205 hi_15) ?_
    obtain ⟨M_16, eM_16, h⟩ := bM_elim h
    refine Fr_mem eM_16 ?_
    refine Fr_iinc (i := 2) (j := 1) (v := (v2 + 1)) (lv' := [(2, .int (v2 + 1)), (0, .ref 200)]) 1 (by decide +kernel) rfl rfl (by decide) rfl ?_
    refine Fr_goto (off := (-34)) 82 (by decide +kernel) (by decide) ?_
    refine Fr_loc [1, 0] rfl ?_
    exact hk82 (v2 + 1) M_16 h
def f_X12_nights_b50 (N : Nat) (M : Mem) : Option (Int32 × Mem) :=
  bi (f_X12_isWell M) fun r_9 M_7 =>
  if (b2i r_9) = 0 then (some ((-1), M_7)) else (ck 163 2175 (
  bM (uI M_7 205 (tn 163) 1) fun M_11 =>
  ck 164 2175 (
  bM (uI M_11 205 (tn 164) (M_11.1 200 26)) fun M_13 =>
  lp (fun k a m => f_X12_nights_h82 N k a m) N 0 M_13)))
set_option maxRecDepth 20000 in
theorem t_X12_nights_b50 {N : Nat} {q : Int32 × Mem} {M : Mem} (h : f_X12_nights_b50 N M = some q) : Fr 200 21 49 m_X12_nights 50 [(0, .ref 200)] [] M (QI q) := by
  unfold f_X12_nights_b50 at h
  refine Fr_aload_n (q := 0) (i := 0) 0 (by decide +kernel) rfl rfl ?_
  obtain ⟨r_9, M_7, hc_8, h⟩ := bi_elim h
  refine Fr_cVb (ν := m_X12_isWell) (As := []) (st := []) (rc := 200) (ci := 12) (d' := 1) (by decide +kernel) ml_X12_336 cv_X12_isWell rfl (by decide) rfl ob_200 rfl (by decide) (Nat.le_of_ble_eq_true rfl) (t_X12_isWell hc_8) ?_
  refine Fr_if_ne (off := 5) 59 (by decide +kernel) (by decide) (fun hc => ?_) (fun hc => ?_)
  · have h := iF hc h
    refine Fr_aload_n (q := 0) (i := 0) 0 (by decide +kernel) rfl rfl ?_
    refine gf_X12_35 rfl (by decide +kernel) ob_200 ?_
    refine Fr_sipush (i := 163) (v := 163) (by decide +kernel) (by decide) ?_
    refine Fr_iconst (i := 1) (v := 1) (by decide +kernel) (by decide) ?_
    obtain ⟨hi_10, h⟩ := ck_elim h
    refine Fr_iast (by decide +kernel) ob_205 (vp_of ln_205 hi_10) ?_
    obtain ⟨M_11, eM_11, h⟩ := bM_elim h
    refine Fr_mem eM_11 ?_
    refine Fr_aload_n (q := 0) (i := 0) 0 (by decide +kernel) rfl rfl ?_
    refine gf_X12_35 rfl (by decide +kernel) ob_200 ?_
    refine Fr_sipush (i := 164) (v := 164) (by decide +kernel) (by decide) ?_
    refine Fr_aload_n (q := 0) (i := 0) 0 (by decide +kernel) rfl rfl ?_
    refine gf_X12_351 rfl (by decide +kernel) ob_200 ?_
    obtain ⟨hi_12, h⟩ := ck_elim h
    refine Fr_iast (by decide +kernel) ob_205 (vp_of ln_205 hi_12) ?_
    obtain ⟨M_13, eM_13, h⟩ := bM_elim h
    refine Fr_mem eM_13 ?_
    refine Fr_iconst (i := 0) (v := 0) (by decide +kernel) (by decide) ?_
    refine Fr_istore_n (q := 2) (i := 2) (lv' := [(2, .int 0), (0, .ref 200)]) (by decide +kernel) rfl (by decide) rfl ?_
    refine Fr_loc [1, 0] rfl ?_
    exact lp_sound (P := fun a M => Fr 200 21 49 m_X12_nights 82 [(0, .ref 200), (2, .int a)] [] M (QI q)) (fun k hk a m h => t_X12_nights_h82 hk h) N 0 M_13 h
  · have h := iT hc h
    refine Fr_iconst (i := (-1)) (v := (-1)) (by decide +kernel) (by decide) ?_
    obtain rfl := Option.some.inj h
    exact Fr_iret (by decide +kernel) rfl ⟨rfl, rfl⟩
def f_X12_nights_h28 (N : Nat) (k28 : Unit → Mem → Option (Int32 × Mem)) (M : Mem) : Option (Int32 × Mem) :=
  if (M.1 200 12) = 0 then (if (M.1 200 14) = 0 then (f_X12_nights_b50 N M) else (bv (f_X12_readStep N 6 0 M) fun M_17 =>
  k28 () M_17)) else (f_X12_nights_b50 N M)
set_option maxRecDepth 20000 in
theorem t_X12_nights_h28 {N : Nat} {q : Int32 × Mem} {k28 : Unit → Mem → Option (Int32 × Mem)} (hk28 : ∀ (a : Unit) (M : Mem), k28 a M = some q → Fr 200 21 49 m_X12_nights 28 [(0, .ref 200)] [] M (QI q)) {M : Mem} (h : f_X12_nights_h28 N k28 M = some q) : Fr 200 21 49 m_X12_nights 28 [(0, .ref 200)] [] M (QI q) := by
  unfold f_X12_nights_h28 at h
  refine Fr_aload_n (q := 0) (i := 0) 0 (by decide +kernel) rfl rfl ?_
  refine gf_X12_248 rfl (by decide +kernel) ob_200 ?_
  refine Fr_if_ne (off := 18) 50 (by decide +kernel) (by decide) (fun hc => ?_) (fun hc => ?_)
  · have h := iF hc h
    exact t_X12_nights_b50 h
  · have h := iT hc h
    refine Fr_aload_n (q := 0) (i := 0) 0 (by decide +kernel) rfl rfl ?_
    refine gf_X12_139 rfl (by decide +kernel) ob_200 ?_
    refine Fr_if_eq (off := 11) 50 (by decide +kernel) (by decide) (fun hc => ?_) (fun hc => ?_)
    · have h := iT hc h
      exact t_X12_nights_b50 h
    · have h := iF hc h
      refine Fr_aload_n (q := 0) (i := 0) 0 (by decide +kernel) rfl rfl ?_
      refine Fr_iconst (i := 0) (v := 0) (by decide +kernel) (by decide) ?_
      obtain ⟨M_17, hc_18, h⟩ := bv_elim h
      refine Fr_cVv (ν := m_X12_readStep) (As := [.int 0]) (st := []) (rc := 200) (ci := 12) (d' := 48) (by decide +kernel) ml_X12_357 cv_X12_readStep rfl (by decide) rfl ob_200 rfl (by decide) (Nat.le_of_ble_eq_true rfl) (t_X12_readStep 6  hc_18) ?_
      refine Fr_goto (off := (-19)) 28 (by decide +kernel) (by decide) ?_
      exact hk28 () M_17 h
def f_X12_nights (N : Nat) (x1 : Int32) (M : Mem) : Option (Int32 × Mem) :=
  bM (uI M 200 1 0) fun M_1 =>
  bM (uI M_1 200 0 0) fun M_2 =>
  bi (f_X12_starts N x1 300 M_2) fun r_5 M_3 =>
  if (b2i r_5) = 0 then (some ((-1), M_3)) else (bM (uI M_3 200 26 0) fun M_6 =>
  lp (fun k a m => f_X12_nights_h28 N k m) N () M_6)
set_option maxRecDepth 20000 in
theorem t_X12_nights {N : Nat} {x1 : Int32} {M : Mem} {q : Int32 × Mem} (h : f_X12_nights N x1 M = some q) : Ev 200 21 49 m_X12_nights [.ref 200, .int x1] M (QI q) := by
  refine Ev_of_Fr (by decide +kernel) (Nat.le_of_ble_eq_true rfl) ?_
  show Fr 200 21 49 m_X12_nights 0 [(0, .ref 200), (1, .int x1)] [] M (QI q)
  unfold f_X12_nights at h
  refine Fr_aload_n (q := 0) (i := 0) 0 (by decide +kernel) rfl rfl ?_
  refine Fr_iconst (i := 0) (v := 0) (by decide +kernel) (by decide) ?_
  refine pf_X12_84 rfl (by decide +kernel) ob_200 ?_
  obtain ⟨M_1, eM_1, h⟩ := bM_elim h
  refine Fr_mem eM_1 ?_
  refine Fr_aload_n (q := 0) (i := 0) 0 (by decide +kernel) rfl rfl ?_
  refine Fr_iconst (i := 0) (v := 0) (by decide +kernel) (by decide) ?_
  refine pf_X12_87 rfl (by decide +kernel) ob_200 ?_
  obtain ⟨M_2, eM_2, h⟩ := bM_elim h
  refine Fr_mem eM_2 ?_
  refine Fr_aload_n (q := 0) (i := 0) 0 (by decide +kernel) rfl rfl ?_
  refine Fr_iload_n (q := 1) (i := 1) 1 (by decide +kernel) rfl rfl ?_
  refine Fr_sipush (i := 300) (v := 300) (by decide +kernel) (by decide) ?_
  obtain ⟨r_5, M_3, hc_4, h⟩ := bi_elim h
  refine Fr_cVb (ν := m_X12_starts) (As := [.int x1, .int 300]) (st := []) (rc := 200) (ci := 12) (d' := 2) (by decide +kernel) ml_X12_327 cv_X12_starts rfl (by decide) rfl ob_200 rfl (by decide) (Nat.le_of_ble_eq_true rfl) (t_X12_starts hc_4) ?_
  refine Fr_if_ne (off := 5) 23 (by decide +kernel) (by decide) (fun hc => ?_) (fun hc => ?_)
  · have h := iF hc h
    refine Fr_aload_n (q := 0) (i := 0) 0 (by decide +kernel) rfl rfl ?_
    refine Fr_iconst (i := 0) (v := 0) (by decide +kernel) (by decide) ?_
    refine pf_X12_351 rfl (by decide +kernel) ob_200 ?_
    obtain ⟨M_6, eM_6, h⟩ := bM_elim h
    refine Fr_mem eM_6 ?_
    refine Fr_loc [0] rfl ?_
    exact lp_sound (P := fun a M => Fr 200 21 49 m_X12_nights 28 [(0, .ref 200)] [] M (QI q)) (fun k hk a m h => t_X12_nights_h28 hk h) N () M_6 h
  · have h := iT hc h
    refine Fr_iconst (i := (-1)) (v := (-1)) (by decide +kernel) (by decide) ?_
    obtain rfl := Option.some.inj h
    exact Fr_iret (by decide +kernel) rfl ⟨rfl, rfl⟩
def f_X12_isBoard (x1 : Int32) (x2 : Int32) (M : Mem) : Option (Bool × Mem) :=
  ck 0 2175 (
  bi (f_X12_isIn (Int32.toInt64 x1) 0 (Int32.toInt64 ((M.1 205 (tn 0)) - 1)) M) fun r_4 M_2 =>
  if (b2i r_4) = 0 then (some (false, M_2)) else (ck 1 2175 (
  bi (f_X12_isIn (Int32.toInt64 x2) 0 (Int32.toInt64 ((M_2.1 205 (tn 1)) - 1)) M_2) fun r_8 M_6 =>
  if (b2i r_8) = 0 then (some (false, M_6)) else (some (true, M_6)))))
set_option maxRecDepth 20000 in
theorem t_X12_isBoard {x1 : Int32} {x2 : Int32} {M : Mem} {q : Bool × Mem} (h : f_X12_isBoard x1 x2 M = some q) : Ev 200 21 1 m_X12_isBoard [.ref 200, .int x1, .int x2] M (QB q) := by
  refine Ev_of_Fr (by decide +kernel) (Nat.le_of_ble_eq_true rfl) ?_
  show Fr 200 21 1 m_X12_isBoard 0 [(0, .ref 200), (1, .int x1), (2, .int x2)] [] M (QB q)
  unfold f_X12_isBoard at h
  refine Fr_iload_n (q := 1) (i := 1) 1 (by decide +kernel) rfl rfl ?_
  refine Fr_i2l (by decide +kernel) ?_
  refine Fr_lconst (i := 0) (v := 0) (by decide +kernel) (by decide) ?_
  refine Fr_aload_n (q := 0) (i := 0) 0 (by decide +kernel) rfl rfl ?_
  refine gf_X12_35 rfl (by decide +kernel) ob_200 ?_
  refine Fr_iconst (i := 0) (v := 0) (by decide +kernel) (by decide) ?_
  obtain ⟨hi_1, h⟩ := ck_elim h
  refine Fr_iald (by decide +kernel) ob_205 (vp_of ln_205 hi_1) ?_
  refine Fr_iconst (i := 1) (v := 1) (by decide +kernel) (by decide) ?_
  refine Fr_isub (by decide +kernel) ?_
  refine Fr_i2l (by decide +kernel) ?_
  obtain ⟨r_4, M_2, hc_3, h⟩ := bi_elim h
  refine Fr_cSb (ν := m_X12_isIn) (As := [.long (Int32.toInt64 x1), .long 0, .long (Int32.toInt64 ((M.1 205 (tn 0)) - 1))]) (st := []) (d' := 0) (by decide +kernel) ml_X12_119 cs_X12_isIn rfl (by decide) (Nat.le_of_ble_eq_true rfl) (t_X12_isIn hc_3) ?_
  refine Fr_if_eq (off := 25) 40 (by decide +kernel) (by decide) (fun hc => ?_) (fun hc => ?_)
  · have h := iT hc h
    refine Fr_iconst (i := 0) (v := 0) (by decide +kernel) (by decide) ?_
    obtain rfl := Option.some.inj h
    exact Fr_zret (by decide +kernel) rfl (by decide) ⟨rfl, rfl⟩
  · have h := iF hc h
    refine Fr_iload_n (q := 2) (i := 2) 2 (by decide +kernel) rfl rfl ?_
    refine Fr_i2l (by decide +kernel) ?_
    refine Fr_lconst (i := 0) (v := 0) (by decide +kernel) (by decide) ?_
    refine Fr_aload_n (q := 0) (i := 0) 0 (by decide +kernel) rfl rfl ?_
    refine gf_X12_35 rfl (by decide +kernel) ob_200 ?_
    refine Fr_iconst (i := 1) (v := 1) (by decide +kernel) (by decide) ?_
    obtain ⟨hi_5, h⟩ := ck_elim h
    refine Fr_iald (by decide +kernel) ob_205 (vp_of ln_205 hi_5) ?_
    refine Fr_iconst (i := 1) (v := 1) (by decide +kernel) (by decide) ?_
    refine Fr_isub (by decide +kernel) ?_
    refine Fr_i2l (by decide +kernel) ?_
    obtain ⟨r_8, M_6, hc_7, h⟩ := bi_elim h
    refine Fr_cSb (ν := m_X12_isIn) (As := [.long (Int32.toInt64 x2), .long 0, .long (Int32.toInt64 ((M_2.1 205 (tn 1)) - 1))]) (st := []) (d' := 0) (by decide +kernel) ml_X12_119 cs_X12_isIn rfl (by decide) (Nat.le_of_ble_eq_true rfl) (t_X12_isIn hc_7) ?_
    refine Fr_if_eq (off := 7) 40 (by decide +kernel) (by decide) (fun hc => ?_) (fun hc => ?_)
    · have h := iT hc h
      refine Fr_iconst (i := 0) (v := 0) (by decide +kernel) (by decide) ?_
      obtain rfl := Option.some.inj h
      exact Fr_zret (by decide +kernel) rfl (by decide) ⟨rfl, rfl⟩
    · have h := iF hc h
      refine Fr_iconst (i := 1) (v := 1) (by decide +kernel) (by decide) ?_
      refine Fr_goto (off := 4) 41 (by decide +kernel) (by decide) ?_
      obtain rfl := Option.some.inj h
      exact Fr_zret (by decide +kernel) rfl (by decide) ⟨rfl, rfl⟩
def f_X12_board (x1 : Int32) (x2 : Int32) (M : Mem) : Option (Int32 × Mem) :=
  ck 0 2175 (
  some ((((M.1 205 (tn 0)) * x2) + x1), M))
set_option maxRecDepth 20000 in
theorem t_X12_board {x1 : Int32} {x2 : Int32} {M : Mem} {q : Int32 × Mem} (h : f_X12_board x1 x2 M = some q) : Ev 200 21 0 m_X12_board [.ref 200, .int x1, .int x2] M (QI q) := by
  refine Ev_of_Fr (by decide +kernel) (Nat.le_of_ble_eq_true rfl) ?_
  show Fr 200 21 0 m_X12_board 0 [(0, .ref 200), (1, .int x1), (2, .int x2)] [] M (QI q)
  unfold f_X12_board at h
  refine Fr_aload_n (q := 0) (i := 0) 0 (by decide +kernel) rfl rfl ?_
  refine gf_X12_35 rfl (by decide +kernel) ob_200 ?_
  refine Fr_iconst (i := 0) (v := 0) (by decide +kernel) (by decide) ?_
  obtain ⟨hi_1, h⟩ := ck_elim h
  refine Fr_iald (by decide +kernel) ob_205 (vp_of ln_205 hi_1) ?_
  refine Fr_iload_n (q := 2) (i := 2) 2 (by decide +kernel) rfl rfl ?_
  refine Fr_imul (by decide +kernel) ?_
  refine Fr_iload_n (q := 1) (i := 1) 1 (by decide +kernel) rfl rfl ?_
  refine Fr_iadd (by decide +kernel) ?_
  obtain rfl := Option.some.inj h
  exact Fr_iret (by decide +kernel) rfl ⟨rfl, rfl⟩
def f_X12_boards (M : Mem) : Option (Int32 × Mem) :=
  ck 0 2175 (
  ck 1 2175 (
  some (((M.1 205 (tn 0)) * (M.1 205 (tn 1))), M)))
set_option maxRecDepth 20000 in
theorem t_X12_boards {M : Mem} {q : Int32 × Mem} (h : f_X12_boards M = some q) : Ev 200 21 0 m_X12_boards [.ref 200] M (QI q) := by
  refine Ev_of_Fr (by decide +kernel) (Nat.le_of_ble_eq_true rfl) ?_
  show Fr 200 21 0 m_X12_boards 0 [(0, .ref 200)] [] M (QI q)
  unfold f_X12_boards at h
  refine Fr_aload_n (q := 0) (i := 0) 0 (by decide +kernel) rfl rfl ?_
  refine gf_X12_35 rfl (by decide +kernel) ob_200 ?_
  refine Fr_iconst (i := 0) (v := 0) (by decide +kernel) (by decide) ?_
  obtain ⟨hi_1, h⟩ := ck_elim h
  refine Fr_iald (by decide +kernel) ob_205 (vp_of ln_205 hi_1) ?_
  refine Fr_aload_n (q := 0) (i := 0) 0 (by decide +kernel) rfl rfl ?_
  refine gf_X12_35 rfl (by decide +kernel) ob_200 ?_
  refine Fr_iconst (i := 1) (v := 1) (by decide +kernel) (by decide) ?_
  obtain ⟨hi_2, h⟩ := ck_elim h
  refine Fr_iald (by decide +kernel) ob_205 (vp_of ln_205 hi_2) ?_
  refine Fr_imul (by decide +kernel) ?_
  obtain rfl := Option.some.inj h
  exact Fr_iret (by decide +kernel) rfl ⟨rfl, rfl⟩
def f_X12_isGateAt (x1 : Int32) (M : Mem) : Option (Bool × Mem) :=
  ck 2 2175 (
  bi (f_X12_isIn (Int32.toInt64 x1) 0 (Int32.toInt64 ((M.1 205 (tn 2)) - 1)) M) fun r_4 M_2 =>
  some (r_4, M_2))
set_option maxRecDepth 20000 in
theorem t_X12_isGateAt {x1 : Int32} {M : Mem} {q : Bool × Mem} (h : f_X12_isGateAt x1 M = some q) : Ev 200 21 1 m_X12_isGateAt [.ref 200, .int x1] M (QB q) := by
  refine Ev_of_Fr (by decide +kernel) (Nat.le_of_ble_eq_true rfl) ?_
  show Fr 200 21 1 m_X12_isGateAt 0 [(0, .ref 200), (1, .int x1)] [] M (QB q)
  unfold f_X12_isGateAt at h
  refine Fr_iload_n (q := 1) (i := 1) 1 (by decide +kernel) rfl rfl ?_
  refine Fr_i2l (by decide +kernel) ?_
  refine Fr_lconst (i := 0) (v := 0) (by decide +kernel) (by decide) ?_
  refine Fr_aload_n (q := 0) (i := 0) 0 (by decide +kernel) rfl rfl ?_
  refine gf_X12_35 rfl (by decide +kernel) ob_200 ?_
  refine Fr_iconst (i := 2) (v := 2) (by decide +kernel) (by decide) ?_
  obtain ⟨hi_1, h⟩ := ck_elim h
  refine Fr_iald (by decide +kernel) ob_205 (vp_of ln_205 hi_1) ?_
  refine Fr_iconst (i := 1) (v := 1) (by decide +kernel) (by decide) ?_
  refine Fr_isub (by decide +kernel) ?_
  refine Fr_i2l (by decide +kernel) ?_
  obtain ⟨r_4, M_2, hc_3, h⟩ := bi_elim h
  refine Fr_cSb (ν := m_X12_isIn) (As := [.long (Int32.toInt64 x1), .long 0, .long (Int32.toInt64 ((M.1 205 (tn 2)) - 1))]) (st := []) (d' := 0) (by decide +kernel) ml_X12_119 cs_X12_isIn rfl (by decide) (Nat.le_of_ble_eq_true rfl) (t_X12_isIn hc_3) ?_
  obtain rfl := Option.some.inj h
  exact Fr_zret (by decide +kernel) rfl (nz_b r_4) ⟨rfl, rfl⟩
def f_X12_isHolderAt (x1 : Int32) (M : Mem) : Option (Bool × Mem) :=
  ck 3 2175 (
  bi (f_X12_isIn (Int32.toInt64 x1) 0 (Int32.toInt64 ((M.1 205 (tn 3)) - 1)) M) fun r_4 M_2 =>
  some (r_4, M_2))
set_option maxRecDepth 20000 in
theorem t_X12_isHolderAt {x1 : Int32} {M : Mem} {q : Bool × Mem} (h : f_X12_isHolderAt x1 M = some q) : Ev 200 21 1 m_X12_isHolderAt [.ref 200, .int x1] M (QB q) := by
  refine Ev_of_Fr (by decide +kernel) (Nat.le_of_ble_eq_true rfl) ?_
  show Fr 200 21 1 m_X12_isHolderAt 0 [(0, .ref 200), (1, .int x1)] [] M (QB q)
  unfold f_X12_isHolderAt at h
  refine Fr_iload_n (q := 1) (i := 1) 1 (by decide +kernel) rfl rfl ?_
  refine Fr_i2l (by decide +kernel) ?_
  refine Fr_lconst (i := 0) (v := 0) (by decide +kernel) (by decide) ?_
  refine Fr_aload_n (q := 0) (i := 0) 0 (by decide +kernel) rfl rfl ?_
  refine gf_X12_35 rfl (by decide +kernel) ob_200 ?_
  refine Fr_iconst (i := 3) (v := 3) (by decide +kernel) (by decide) ?_
  obtain ⟨hi_1, h⟩ := ck_elim h
  refine Fr_iald (by decide +kernel) ob_205 (vp_of ln_205 hi_1) ?_
  refine Fr_iconst (i := 1) (v := 1) (by decide +kernel) (by decide) ?_
  refine Fr_isub (by decide +kernel) ?_
  refine Fr_i2l (by decide +kernel) ?_
  obtain ⟨r_4, M_2, hc_3, h⟩ := bi_elim h
  refine Fr_cSb (ν := m_X12_isIn) (As := [.long (Int32.toInt64 x1), .long 0, .long (Int32.toInt64 ((M.1 205 (tn 3)) - 1))]) (st := []) (d' := 0) (by decide +kernel) ml_X12_119 cs_X12_isIn rfl (by decide) (Nat.le_of_ble_eq_true rfl) (t_X12_isIn hc_3) ?_
  obtain rfl := Option.some.inj h
  exact Fr_zret (by decide +kernel) rfl (nz_b r_4) ⟨rfl, rfl⟩
def f_X12_fogOf (x1 : Int32) (M : Mem) : Option (Int32 × Mem) :=
  ck (103 + x1) 2175 (
  ck (133 + x1) 2175 (
  some (((M.1 205 (tn (103 + x1))) + (M.1 205 (tn (133 + x1)))), M)))
set_option maxRecDepth 20000 in
theorem t_X12_fogOf {x1 : Int32} {M : Mem} {q : Int32 × Mem} (h : f_X12_fogOf x1 M = some q) : Ev 200 21 0 m_X12_fogOf [.ref 200, .int x1] M (QI q) := by
  refine Ev_of_Fr (by decide +kernel) (Nat.le_of_ble_eq_true rfl) ?_
  show Fr 200 21 0 m_X12_fogOf 0 [(0, .ref 200), (1, .int x1)] [] M (QI q)
  unfold f_X12_fogOf at h
  refine Fr_aload_n (q := 0) (i := 0) 0 (by decide +kernel) rfl rfl ?_
  refine gf_X12_35 rfl (by decide +kernel) ob_200 ?_
  refine Fr_bipush (i := 103) (v := 103) (by decide +kernel) (by decide) ?_
  refine Fr_iload_n (q := 1) (i := 1) 1 (by decide +kernel) rfl rfl ?_
  refine Fr_iadd (by decide +kernel) ?_
  obtain ⟨hi_1, h⟩ := ck_elim h
  refine Fr_iald (by decide +kernel) ob_205 (vp_of ln_205 hi_1) ?_
  refine Fr_aload_n (q := 0) (i := 0) 0 (by decide +kernel) rfl rfl ?_
  refine gf_X12_35 rfl (by decide +kernel) ob_200 ?_
  refine Fr_sipush (i := 133) (v := 133) (by decide +kernel) (by decide) ?_
  refine Fr_iload_n (q := 1) (i := 1) 1 (by decide +kernel) rfl rfl ?_
  refine Fr_iadd (by decide +kernel) ?_
  obtain ⟨hi_2, h⟩ := ck_elim h
  refine Fr_iald (by decide +kernel) ob_205 (vp_of ln_205 hi_2) ?_
  refine Fr_iadd (by decide +kernel) ?_
  obtain rfl := Option.some.inj h
  exact Fr_iret (by decide +kernel) rfl ⟨rfl, rfl⟩
def f_X12_isFoggy (x1 : Int32) (M : Mem) : Option (Bool × Mem) :=
  bi (f_X12_fogOf x1 M) fun r_3 M_1 =>
  ck 8 2175 (
  if r_3 < (M_1.1 205 (tn 8)) then (some (false, M_1)) else (some (true, M_1)))
set_option maxRecDepth 20000 in
theorem t_X12_isFoggy {x1 : Int32} {M : Mem} {q : Bool × Mem} (h : f_X12_isFoggy x1 M = some q) : Ev 200 21 1 m_X12_isFoggy [.ref 200, .int x1] M (QB q) := by
  refine Ev_of_Fr (by decide +kernel) (Nat.le_of_ble_eq_true rfl) ?_
  show Fr 200 21 1 m_X12_isFoggy 0 [(0, .ref 200), (1, .int x1)] [] M (QB q)
  unfold f_X12_isFoggy at h
  refine Fr_aload_n (q := 0) (i := 0) 0 (by decide +kernel) rfl rfl ?_
  refine Fr_iload_n (q := 1) (i := 1) 1 (by decide +kernel) rfl rfl ?_
  obtain ⟨r_3, M_1, hc_2, h⟩ := bi_elim h
  refine Fr_cVi (ν := m_X12_fogOf) (As := [.int x1]) (st := []) (rc := 200) (ci := 12) (d' := 0) (by decide +kernel) ml_X12_360 cv_X12_fogOf rfl (by decide) rfl ob_200 rfl (by decide) (Nat.le_of_ble_eq_true rfl) (t_X12_fogOf hc_2) ?_
  refine Fr_aload_n (q := 0) (i := 0) 0 (by decide +kernel) rfl rfl ?_
  refine gf_X12_35 rfl (by decide +kernel) ob_200 ?_
  refine Fr_bipush (i := 8) (v := 8) (by decide +kernel) (by decide) ?_
  obtain ⟨hi_4, h⟩ := ck_elim h
  refine Fr_iald (by decide +kernel) ob_205 (vp_of ln_205 hi_4) ?_
  refine Fr_icmp_lt (off := 7) 19 (by decide +kernel) (by decide) (fun hc => ?_) (fun hc => ?_)
  · have h := iT hc h
    refine Fr_iconst (i := 0) (v := 0) (by decide +kernel) (by decide) ?_
    obtain rfl := Option.some.inj h
    exact Fr_zret (by decide +kernel) rfl (by decide) ⟨rfl, rfl⟩
  · have h := iF hc h
    refine Fr_iconst (i := 1) (v := 1) (by decide +kernel) (by decide) ?_
    refine Fr_goto (off := 4) 20 (by decide +kernel) (by decide) ?_
    obtain rfl := Option.some.inj h
    exact Fr_zret (by decide +kernel) rfl (by decide) ⟨rfl, rfl⟩
def f_X12_foggyMany_b26 (N : Nat) (k4 : Int32 × Int32 → Mem → Option (Int32 × Mem)) (v2 : Int32) (s0 : Int32) (s1 : Int32) (M : Mem) : Option (Int32 × Mem) :=
  k4 ((s1 + s0), (v2 + 1)) M
set_option maxRecDepth 20000 in
theorem t_X12_foggyMany_b26 {N : Nat} {q : Int32 × Mem} {k4 : Int32 × Int32 → Mem → Option (Int32 × Mem)} (hk4 : ∀ (a : Int32 × Int32) (M : Mem), k4 a M = some q → Fr 200 21 2 m_X12_foggyMany 4 [(0, .ref 200), (1, .int a.1), (2, .int a.2)] [] M (QI q)) {v2 : Int32} {s0 : Int32} {s1 : Int32} {M : Mem} (h : f_X12_foggyMany_b26 N k4 v2 s0 s1 M = some q) : Fr 200 21 2 m_X12_foggyMany 26 [(0, .ref 200), (2, .int v2)] [.int s0, .int s1] M (QI q) := by
  unfold f_X12_foggyMany_b26 at h
  refine Fr_iadd (by decide +kernel) ?_
  refine Fr_istore_n (q := 1) (i := 1) (lv' := [(1, .int (s1 + s0)), (0, .ref 200), (2, .int v2)]) (by decide +kernel) rfl (by decide) rfl ?_
  refine Fr_iinc (i := 2) (j := 1) (v := (v2 + 1)) (lv' := [(2, .int (v2 + 1)), (1, .int (s1 + s0)), (0, .ref 200)]) 2 (by decide +kernel) rfl rfl (by decide) rfl ?_
  refine Fr_goto (off := (-27)) 4 (by decide +kernel) (by decide) ?_
  refine Fr_loc [2, 1, 0] rfl ?_
  exact hk4 ((s1 + s0), (v2 + 1)) M h
def f_X12_foggyMany_h4 (N : Nat) (k4 : Int32 × Int32 → Mem → Option (Int32 × Mem)) (v1 : Int32) (v2 : Int32) (M : Mem) : Option (Int32 × Mem) :=
  bi (f_X12_boards M) fun r_3 M_1 =>
  if r_3 ≤ v2 then (some (v1, M_1)) else (bi (f_X12_isFoggy v2 M_1) fun r_6 M_4 =>
  if (b2i r_6) = 0 then (f_X12_foggyMany_b26 N k4 v2 0 v1 M_4) else (f_X12_foggyMany_b26 N k4 v2 1 v1 M_4))
set_option maxRecDepth 20000 in
theorem t_X12_foggyMany_h4 {N : Nat} {q : Int32 × Mem} {k4 : Int32 × Int32 → Mem → Option (Int32 × Mem)} (hk4 : ∀ (a : Int32 × Int32) (M : Mem), k4 a M = some q → Fr 200 21 2 m_X12_foggyMany 4 [(0, .ref 200), (1, .int a.1), (2, .int a.2)] [] M (QI q)) {v1 : Int32} {v2 : Int32} {M : Mem} (h : f_X12_foggyMany_h4 N k4 v1 v2 M = some q) : Fr 200 21 2 m_X12_foggyMany 4 [(0, .ref 200), (1, .int v1), (2, .int v2)] [] M (QI q) := by
  unfold f_X12_foggyMany_h4 at h
  refine Fr_iload_n (q := 2) (i := 2) 2 (by decide +kernel) rfl rfl ?_
  refine Fr_aload_n (q := 0) (i := 0) 0 (by decide +kernel) rfl rfl ?_
  obtain ⟨r_3, M_1, hc_2, h⟩ := bi_elim h
  refine Fr_cVi (ν := m_X12_boards) (As := []) (st := [.int v2]) (rc := 200) (ci := 12) (d' := 0) (by decide +kernel) ml_X12_363 cv_X12_boards rfl (by decide) rfl ob_200 rfl (by decide) (Nat.le_of_ble_eq_true rfl) (t_X12_boards hc_2) ?_
  refine Fr_icmp_ge (off := 25) 34 (by decide +kernel) (by decide) (fun hc => ?_) (fun hc => ?_)
  · have h := iT hc h
    refine Fr_iload_n (q := 1) (i := 1) 1 (by decide +kernel) rfl rfl ?_
    obtain rfl := Option.some.inj h
    exact Fr_iret (by decide +kernel) rfl ⟨rfl, rfl⟩
  · have h := iF hc h
    refine Fr_iload_n (q := 1) (i := 1) 1 (by decide +kernel) rfl rfl ?_
    refine Fr_aload_n (q := 0) (i := 0) 0 (by decide +kernel) rfl rfl ?_
    refine Fr_iload_n (q := 2) (i := 2) 2 (by decide +kernel) rfl rfl ?_
    obtain ⟨r_6, M_4, hc_5, h⟩ := bi_elim h
    refine Fr_cVb (ν := m_X12_isFoggy) (As := [.int v2]) (st := [.int v1]) (rc := 200) (ci := 12) (d' := 1) (by decide +kernel) ml_X12_366 cv_X12_isFoggy rfl (by decide) rfl ob_200 rfl (by decide) (Nat.le_of_ble_eq_true rfl) (t_X12_isFoggy hc_5) ?_
    refine Fr_if_eq (off := 7) 25 (by decide +kernel) (by decide) (fun hc => ?_) (fun hc => ?_)
    · have h := iT hc h
      refine Fr_iconst (i := 0) (v := 0) (by decide +kernel) (by decide) ?_
      refine Fr_loc [0, 2] rfl ?_
      exact t_X12_foggyMany_b26 hk4 h
    · have h := iF hc h
      refine Fr_iconst (i := 1) (v := 1) (by decide +kernel) (by decide) ?_
      refine Fr_goto (off := 4) 26 (by decide +kernel) (by decide) ?_
      refine Fr_loc [0, 2] rfl ?_
      exact t_X12_foggyMany_b26 hk4 h
def f_X12_foggyMany (N : Nat) (M : Mem) : Option (Int32 × Mem) :=
  lp (fun k a m => f_X12_foggyMany_h4 N k a.1 a.2 m) N (0, 0) M
set_option maxRecDepth 20000 in
theorem t_X12_foggyMany {N : Nat} {M : Mem} {q : Int32 × Mem} (h : f_X12_foggyMany N M = some q) : Ev 200 21 2 m_X12_foggyMany [.ref 200] M (QI q) := by
  refine Ev_of_Fr (by decide +kernel) (Nat.le_of_ble_eq_true rfl) ?_
  show Fr 200 21 2 m_X12_foggyMany 0 [(0, .ref 200)] [] M (QI q)
  unfold f_X12_foggyMany at h
  refine Fr_iconst (i := 0) (v := 0) (by decide +kernel) (by decide) ?_
  refine Fr_istore_n (q := 1) (i := 1) (lv' := [(1, .int 0), (0, .ref 200)]) (by decide +kernel) rfl (by decide) rfl ?_
  refine Fr_iconst (i := 0) (v := 0) (by decide +kernel) (by decide) ?_
  refine Fr_istore_n (q := 2) (i := 2) (lv' := [(2, .int 0), (1, .int 0), (0, .ref 200)]) (by decide +kernel) rfl (by decide) rfl ?_
  refine Fr_loc [2, 1, 0] rfl ?_
  exact lp_sound (P := fun a M => Fr 200 21 2 m_X12_foggyMany 4 [(0, .ref 200), (1, .int a.1), (2, .int a.2)] [] M (QI q)) (fun k hk a m h => t_X12_foggyMany_h4 hk h) N (0, 0) M h
def f_X12_all_h4 (N : Nat) (k4 : Int32 × Int32 × Int32 → Mem → Option (Int32 × Mem)) (v1 : Int32) (v2 : Int32) (v3 : Int32) (M : Mem) : Option (Int32 × Mem) :=
  bi (f_X12_boards M) fun r_3 M_1 =>
  if r_3 ≤ v3 then (some (v2, M_1)) else (ck ((103 + (30 * v1)) + v3) 2175 (
  bI (v2 + (M_1.1 205 (tn ((103 + (30 * v1)) + v3)))) fun y_5 =>
  k4 (v1, y_5, (v3 + 1)) M_1))
set_option maxRecDepth 20000 in
theorem t_X12_all_h4 {N : Nat} {q : Int32 × Mem} {k4 : Int32 × Int32 × Int32 → Mem → Option (Int32 × Mem)} (hk4 : ∀ (a : Int32 × Int32 × Int32) (M : Mem), k4 a M = some q → Fr 200 21 1 m_X12_all 4 [(0, .ref 200), (1, .int a.1), (2, .int a.2.1), (3, .int a.2.2)] [] M (QI q)) {v1 : Int32} {v2 : Int32} {v3 : Int32} {M : Mem} (h : f_X12_all_h4 N k4 v1 v2 v3 M = some q) : Fr 200 21 1 m_X12_all 4 [(0, .ref 200), (1, .int v1), (2, .int v2), (3, .int v3)] [] M (QI q) := by
  unfold f_X12_all_h4 at h
  refine Fr_iload_n (q := 3) (i := 3) 3 (by decide +kernel) rfl rfl ?_
  refine Fr_aload_n (q := 0) (i := 0) 0 (by decide +kernel) rfl rfl ?_
  obtain ⟨r_3, M_1, hc_2, h⟩ := bi_elim h
  refine Fr_cVi (ν := m_X12_boards) (As := []) (st := [.int v3]) (rc := 200) (ci := 12) (d' := 0) (by decide +kernel) ml_X12_363 cv_X12_boards rfl (by decide) rfl ob_200 rfl (by decide) (Nat.le_of_ble_eq_true rfl) (t_X12_boards hc_2) ?_
  refine Fr_icmp_ge (off := 26) 35 (by decide +kernel) (by decide) (fun hc => ?_) (fun hc => ?_)
  · have h := iT hc h
    refine Fr_iload_n (q := 2) (i := 2) 2 (by decide +kernel) rfl rfl ?_
    obtain rfl := Option.some.inj h
    exact Fr_iret (by decide +kernel) rfl ⟨rfl, rfl⟩
  · have h := iF hc h
    refine Fr_iload_n (q := 2) (i := 2) 2 (by decide +kernel) rfl rfl ?_
    refine Fr_aload_n (q := 0) (i := 0) 0 (by decide +kernel) rfl rfl ?_
    refine gf_X12_35 rfl (by decide +kernel) ob_200 ?_
    refine Fr_bipush (i := 103) (v := 103) (by decide +kernel) (by decide) ?_
    refine Fr_bipush (i := 30) (v := 30) (by decide +kernel) (by decide) ?_
    refine Fr_iload_n (q := 1) (i := 1) 1 (by decide +kernel) rfl rfl ?_
    refine Fr_imul (by decide +kernel) ?_
    refine Fr_iadd (by decide +kernel) ?_
    refine Fr_iload_n (q := 3) (i := 3) 3 (by decide +kernel) rfl rfl ?_
    refine Fr_iadd (by decide +kernel) ?_
    obtain ⟨hi_4, h⟩ := ck_elim h
    refine Fr_iald (by decide +kernel) ob_205 (vp_of ln_205 hi_4) ?_
    refine Fr_iadd (by decide +kernel) ?_
    obtain ⟨y_5, ey_5, h⟩ := bI_elim h
    refine Fr_topI ey_5 ?_
    refine Fr_istore_n (q := 2) (i := 2) (lv' := [(2, .int y_5), (0, .ref 200), (1, .int v1), (3, .int v3)]) (by decide +kernel) rfl (by decide) rfl ?_
    refine Fr_iinc (i := 3) (j := 1) (v := (v3 + 1)) (lv' := [(3, .int (v3 + 1)), (2, .int y_5), (0, .ref 200), (1, .int v1)]) 3 (by decide +kernel) rfl rfl (by decide) rfl ?_
    refine Fr_goto (off := (-28)) 4 (by decide +kernel) (by decide) ?_
    refine Fr_loc [2, 3, 1, 0] rfl ?_
    exact hk4 (v1, y_5, (v3 + 1)) M_1 h
def f_X12_all (N : Nat) (x1 : Int32) (M : Mem) : Option (Int32 × Mem) :=
  lp (fun k a m => f_X12_all_h4 N k a.1 a.2.1 a.2.2 m) N (x1, 0, 0) M
set_option maxRecDepth 20000 in
theorem t_X12_all {N : Nat} {x1 : Int32} {M : Mem} {q : Int32 × Mem} (h : f_X12_all N x1 M = some q) : Ev 200 21 1 m_X12_all [.ref 200, .int x1] M (QI q) := by
  refine Ev_of_Fr (by decide +kernel) (Nat.le_of_ble_eq_true rfl) ?_
  show Fr 200 21 1 m_X12_all 0 [(0, .ref 200), (1, .int x1)] [] M (QI q)
  unfold f_X12_all at h
  refine Fr_iconst (i := 0) (v := 0) (by decide +kernel) (by decide) ?_
  refine Fr_istore_n (q := 2) (i := 2) (lv' := [(2, .int 0), (0, .ref 200), (1, .int x1)]) (by decide +kernel) rfl (by decide) rfl ?_
  refine Fr_iconst (i := 0) (v := 0) (by decide +kernel) (by decide) ?_
  refine Fr_istore_n (q := 3) (i := 3) (lv' := [(3, .int 0), (2, .int 0), (0, .ref 200), (1, .int x1)]) (by decide +kernel) rfl (by decide) rfl ?_
  refine Fr_loc [2, 3, 1, 0] rfl ?_
  exact lp_sound (P := fun a M => Fr 200 21 1 m_X12_all 4 [(0, .ref 200), (1, .int a.1), (2, .int a.2.1), (3, .int a.2.2)] [] M (QI q)) (fun k hk a m h => t_X12_all_h4 hk h) N (x1, 0, 0) M h
def f_X12_many (N : Nat) (x1 : Int32) (M : Mem) : Option (Int32 × Mem) :=
  bM (uI M 200 1 0) fun M_1 =>
  bM (uI M_1 200 0 0) fun M_2 =>
  bi (f_X12_isIn (Int32.toInt64 x1) 0 13 M_2) fun r_5 M_3 =>
  if (b2i r_5) = 0 then (bi (f_X12_refuse 5 M_3) fun r_15 M_13 =>
  some (r_15, M_13)) else (if 11 ≤ x1 then (if 13 ≤ x1 then (bi (f_X12_foggyMany N M_3) fun r_8 M_6 =>
  some (r_8, M_6)) else (bi (f_X12_all N (x1 - 11) M_3) fun r_11 M_9 =>
  some (r_11, M_9))) else (ck x1 2175 (
  some ((M_3.1 205 (tn x1)), M_3))))
set_option maxRecDepth 20000 in
theorem t_X12_many {N : Nat} {x1 : Int32} {M : Mem} {q : Int32 × Mem} (h : f_X12_many N x1 M = some q) : Ev 200 21 3 m_X12_many [.ref 200, .int x1] M (QI q) := by
  refine Ev_of_Fr (by decide +kernel) (Nat.le_of_ble_eq_true rfl) ?_
  show Fr 200 21 3 m_X12_many 0 [(0, .ref 200), (1, .int x1)] [] M (QI q)
  unfold f_X12_many at h
  refine Fr_aload_n (q := 0) (i := 0) 0 (by decide +kernel) rfl rfl ?_
  refine Fr_iconst (i := 0) (v := 0) (by decide +kernel) (by decide) ?_
  refine pf_X12_84 rfl (by decide +kernel) ob_200 ?_
  obtain ⟨M_1, eM_1, h⟩ := bM_elim h
  refine Fr_mem eM_1 ?_
  refine Fr_aload_n (q := 0) (i := 0) 0 (by decide +kernel) rfl rfl ?_
  refine Fr_iconst (i := 0) (v := 0) (by decide +kernel) (by decide) ?_
  refine pf_X12_87 rfl (by decide +kernel) ob_200 ?_
  obtain ⟨M_2, eM_2, h⟩ := bM_elim h
  refine Fr_mem eM_2 ?_
  refine Fr_iload_n (q := 1) (i := 1) 1 (by decide +kernel) rfl rfl ?_
  refine Fr_i2l (by decide +kernel) ?_
  refine Fr_lconst (i := 0) (v := 0) (by decide +kernel) (by decide) ?_
  refine Fr_ldc2 (idx := 369) (v := 13) (by decide +kernel) ll_X12_369 ?_
  obtain ⟨r_5, M_3, hc_4, h⟩ := bi_elim h
  refine Fr_cSb (ν := m_X12_isIn) (As := [.long (Int32.toInt64 x1), .long 0, .long 13]) (st := []) (d' := 0) (by decide +kernel) ml_X12_119 cs_X12_isIn rfl (by decide) (Nat.le_of_ble_eq_true rfl) (t_X12_isIn hc_4) ?_
  refine Fr_if_ne (off := 9) 28 (by decide +kernel) (by decide) (fun hc => ?_) (fun hc => ?_)
  · have h := iF hc h
    refine Fr_iload_n (q := 1) (i := 1) 1 (by decide +kernel) rfl rfl ?_
    refine Fr_bipush (i := 11) (v := 11) (by decide +kernel) (by decide) ?_
    refine Fr_icmp_ge (off := 12) 43 (by decide +kernel) (by decide) (fun hc => ?_) (fun hc => ?_)
    · have h := iT hc h
      refine Fr_iload_n (q := 1) (i := 1) 1 (by decide +kernel) rfl rfl ?_
      refine Fr_bipush (i := 13) (v := 13) (by decide +kernel) (by decide) ?_
      refine Fr_icmp_ge (off := 14) 60 (by decide +kernel) (by decide) (fun hc => ?_) (fun hc => ?_)
      · have h := iT hc h
        refine Fr_aload_n (q := 0) (i := 0) 0 (by decide +kernel) rfl rfl ?_
        obtain ⟨r_8, M_6, hc_7, h⟩ := bi_elim h
        refine Fr_cVi (ν := m_X12_foggyMany) (As := []) (st := []) (rc := 200) (ci := 12) (d' := 2) (by decide +kernel) ml_X12_377 cv_X12_foggyMany rfl (by decide) rfl ob_200 rfl (by decide) (Nat.le_of_ble_eq_true rfl) (t_X12_foggyMany hc_7) ?_
        obtain rfl := Option.some.inj h
        exact Fr_iret (by decide +kernel) rfl ⟨rfl, rfl⟩
      · have h := iF hc h
        refine Fr_aload_n (q := 0) (i := 0) 0 (by decide +kernel) rfl rfl ?_
        refine Fr_iload_n (q := 1) (i := 1) 1 (by decide +kernel) rfl rfl ?_
        refine Fr_bipush (i := 11) (v := 11) (by decide +kernel) (by decide) ?_
        refine Fr_isub (by decide +kernel) ?_
        obtain ⟨r_11, M_9, hc_10, h⟩ := bi_elim h
        refine Fr_cVi (ν := m_X12_all) (As := [.int (x1 - 11)]) (st := []) (rc := 200) (ci := 12) (d' := 1) (by decide +kernel) ml_X12_374 cv_X12_all rfl (by decide) rfl ob_200 rfl (by decide) (Nat.le_of_ble_eq_true rfl) (t_X12_all hc_10) ?_
        refine Fr_goto (off := 7) 64 (by decide +kernel) (by decide) ?_
        obtain rfl := Option.some.inj h
        exact Fr_iret (by decide +kernel) rfl ⟨rfl, rfl⟩
    · have h := iF hc h
      refine Fr_aload_n (q := 0) (i := 0) 0 (by decide +kernel) rfl rfl ?_
      refine gf_X12_35 rfl (by decide +kernel) ob_200 ?_
      refine Fr_iload_n (q := 1) (i := 1) 1 (by decide +kernel) rfl rfl ?_
      obtain ⟨hi_12, h⟩ := ck_elim h
      refine Fr_iald (by decide +kernel) ob_205 (vp_of ln_205 hi_12) ?_
      refine Fr_goto (off := 24) 64 (by decide +kernel) (by decide) ?_
      obtain rfl := Option.some.inj h
      exact Fr_iret (by decide +kernel) rfl ⟨rfl, rfl⟩
  · have h := iT hc h
    refine Fr_aload_n (q := 0) (i := 0) 0 (by decide +kernel) rfl rfl ?_
    refine Fr_iconst (i := 5) (v := 5) (by decide +kernel) (by decide) ?_
    obtain ⟨r_15, M_13, hc_14, h⟩ := bi_elim h
    refine Fr_cVi (ν := m_X12_refuse) (As := [.int 5]) (st := []) (rc := 200) (ci := 12) (d' := 0) (by decide +kernel) ml_X12_371 cv_X12_refuse rfl (by decide) rfl ob_200 rfl (by decide) (Nat.le_of_ble_eq_true rfl) (t_X12_refuse hc_14) ?_
    obtain rfl := Option.some.inj h
    exact Fr_iret (by decide +kernel) rfl ⟨rfl, rfl⟩
