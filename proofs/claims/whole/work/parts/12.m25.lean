def f_X12_copy_h41 (N : Nat) (k41 : Int32 × Int32 × Int32 → Mem → Option (Mem)) (v1 : Int32) (v2 : Int32) (v3 : Int32) (M : Mem) : Option (Mem) :=
  if 22 ≤ v3 then (some M) else (ck ((22 * v1) + v3) 110 (
  ck ((22 * v2) + v3) 110 (
  bM (uL M 208 (tn ((22 * v2) + v3)) (M.2 208 (tn ((22 * v1) + v3)))) fun M_3 =>
  k41 (v1, v2, (v3 + 1)) M_3)))
set_option maxRecDepth 20000 in
theorem t_X12_copy_h41 {N : Nat} {q : Mem} {k41 : Int32 × Int32 × Int32 → Mem → Option (Mem)} (hk41 : ∀ (a : Int32 × Int32 × Int32) (M : Mem), k41 a M = some q → Fr 200 21 0 m_X12_copy 41 [(0, .ref 200), (1, .int a.1), (2, .int a.2.1), (3, .int a.2.2)] [] M (QV q)) {v1 : Int32} {v2 : Int32} {v3 : Int32} {M : Mem} (h : f_X12_copy_h41 N k41 v1 v2 v3 M = some q) : Fr 200 21 0 m_X12_copy 41 [(0, .ref 200), (1, .int v1), (2, .int v2), (3, .int v3)] [] M (QV q) := by
  unfold f_X12_copy_h41 at h
  refine Fr_iload_n (q := 3) (i := 3) 3 (by decide +kernel) rfl rfl ?_
  refine Fr_bipush (i := 22) (v := 22) (by decide +kernel) (by decide) ?_
  refine Fr_icmp_ge (off := 31) 75 (by decide +kernel) (by decide) (fun hc => ?_) (fun hc => ?_)
  · have h := iT hc h
    obtain rfl := Option.some.inj h
    exact Fr_vret (by decide +kernel) rfl ⟨rfl, rfl⟩
  · have h := iF hc h
    refine Fr_aload_n (q := 0) (i := 0) 0 (by decide +kernel) rfl rfl ?_
    refine gf_X12_44 rfl (by decide +kernel) ob_200 ?_
    refine Fr_bipush (i := 22) (v := 22) (by decide +kernel) (by decide) ?_
    refine Fr_iload_n (q := 2) (i := 2) 2 (by decide +kernel) rfl rfl ?_
    refine Fr_imul (by decide +kernel) ?_
    refine Fr_iload_n (q := 3) (i := 3) 3 (by decide +kernel) rfl rfl ?_
    refine Fr_iadd (by decide +kernel) ?_
    refine Fr_aload_n (q := 0) (i := 0) 0 (by decide +kernel) rfl rfl ?_
    refine gf_X12_44 rfl (by decide +kernel) ob_200 ?_
    refine Fr_bipush (i := 22) (v := 22) (by decide +kernel) (by decide) ?_
    refine Fr_iload_n (q := 1) (i := 1) 1 (by decide +kernel) rfl rfl ?_
    refine Fr_imul (by decide +kernel) ?_
    refine Fr_iload_n (q := 3) (i := 3) 3 (by decide +kernel) rfl rfl ?_
    refine Fr_iadd (by decide +kernel) ?_
    obtain ⟨hi_1, h⟩ := ck_elim h
    refine Fr_lald (by decide +kernel) ob_208 (vp_of ln_208 hi_1) ?_
    obtain ⟨hi_2, h⟩ := ck_elim h
    refine Fr_last (by decide +kernel) ob_208 (vp_of ln_208 hi_2) ?_
    obtain ⟨M_3, eM_3, h⟩ := bM_elim h
    refine Fr_mem eM_3 ?_
    refine Fr_iinc (i := 3) (j := 1) (v := (v3 + 1)) (lv' := [(3, .int (v3 + 1)), (0, .ref 200), (1, .int v1), (2, .int v2)]) 3 (by decide +kernel) rfl rfl (by decide) rfl ?_
    refine Fr_goto (off := (-31)) 41 (by decide +kernel) (by decide) ?_
    refine Fr_loc [1, 2, 3, 0] rfl ?_
    exact hk41 (v1, v2, (v3 + 1)) M_3 h
def f_X12_copy_h2 (N : Nat) (k2 : Int32 × Int32 × Int32 → Mem → Option (Mem)) (v1 : Int32) (v2 : Int32) (v3 : Int32) (M : Mem) : Option (Mem) :=
  if 435 ≤ v3 then (lp (fun k a m => f_X12_copy_h41 N k a.1 a.2.1 a.2.2 m) N (v1, v2, 0) M) else (ck ((435 * v1) + v3) 2175 (
  ck ((435 * v2) + v3) 2175 (
  bM (uI M 205 (tn ((435 * v2) + v3)) (M.1 205 (tn ((435 * v1) + v3)))) fun M_6 =>
  k2 (v1, v2, (v3 + 1)) M_6)))
set_option maxRecDepth 20000 in
theorem t_X12_copy_h2 {N : Nat} {q : Mem} {k2 : Int32 × Int32 × Int32 → Mem → Option (Mem)} (hk2 : ∀ (a : Int32 × Int32 × Int32) (M : Mem), k2 a M = some q → Fr 200 21 0 m_X12_copy 2 [(0, .ref 200), (1, .int a.1), (2, .int a.2.1), (3, .int a.2.2)] [] M (QV q)) {v1 : Int32} {v2 : Int32} {v3 : Int32} {M : Mem} (h : f_X12_copy_h2 N k2 v1 v2 v3 M = some q) : Fr 200 21 0 m_X12_copy 2 [(0, .ref 200), (1, .int v1), (2, .int v2), (3, .int v3)] [] M (QV q) := by
  unfold f_X12_copy_h2 at h
  refine Fr_iload_n (q := 3) (i := 3) 3 (by decide +kernel) rfl rfl ?_
  refine Fr_sipush (i := 435) (v := 435) (by decide +kernel) (by decide) ?_
  refine Fr_icmp_ge (off := 33) 39 (by decide +kernel) (by decide) (fun hc => ?_) (fun hc => ?_)
  · have h := iT hc h
    refine Fr_iconst (i := 0) (v := 0) (by decide +kernel) (by decide) ?_
    refine Fr_istore_n (q := 3) (i := 3) (lv' := [(3, .int 0), (0, .ref 200), (1, .int v1), (2, .int v2)]) (by decide +kernel) rfl (by decide) rfl ?_
    refine Fr_loc [1, 2, 3, 0] rfl ?_
    exact lp_sound (P := fun a M => Fr 200 21 0 m_X12_copy 41 [(0, .ref 200), (1, .int a.1), (2, .int a.2.1), (3, .int a.2.2)] [] M (QV q)) (fun k hk a m h => t_X12_copy_h41 hk h) N (v1, v2, 0) M h
  · have h := iF hc h
    refine Fr_aload_n (q := 0) (i := 0) 0 (by decide +kernel) rfl rfl ?_
    refine gf_X12_35 rfl (by decide +kernel) ob_200 ?_
    refine Fr_sipush (i := 435) (v := 435) (by decide +kernel) (by decide) ?_
    refine Fr_iload_n (q := 2) (i := 2) 2 (by decide +kernel) rfl rfl ?_
    refine Fr_imul (by decide +kernel) ?_
    refine Fr_iload_n (q := 3) (i := 3) 3 (by decide +kernel) rfl rfl ?_
    refine Fr_iadd (by decide +kernel) ?_
    refine Fr_aload_n (q := 0) (i := 0) 0 (by decide +kernel) rfl rfl ?_
    refine gf_X12_35 rfl (by decide +kernel) ob_200 ?_
    refine Fr_sipush (i := 435) (v := 435) (by decide +kernel) (by decide) ?_
    refine Fr_iload_n (q := 1) (i := 1) 1 (by decide +kernel) rfl rfl ?_
    refine Fr_imul (by decide +kernel) ?_
    refine Fr_iload_n (q := 3) (i := 3) 3 (by decide +kernel) rfl rfl ?_
    refine Fr_iadd (by decide +kernel) ?_
    obtain ⟨hi_4, h⟩ := ck_elim h
    refine Fr_iald (by decide +kernel) ob_205 (vp_of ln_205 hi_4) ?_
    obtain ⟨hi_5, h⟩ := ck_elim h
    refine Fr_iast (by decide +kernel) ob_205 (vp_of ln_205 hi_5) ?_
    obtain ⟨M_6, eM_6, h⟩ := bM_elim h
    refine Fr_mem eM_6 ?_
    refine Fr_iinc (i := 3) (j := 1) (v := (v3 + 1)) (lv' := [(3, .int (v3 + 1)), (0, .ref 200), (1, .int v1), (2, .int v2)]) 3 (by decide +kernel) rfl rfl (by decide) rfl ?_
    refine Fr_goto (off := (-34)) 2 (by decide +kernel) (by decide) ?_
    refine Fr_loc [1, 2, 3, 0] rfl ?_
    exact hk2 (v1, v2, (v3 + 1)) M_6 h
def f_X12_copy (N : Nat) (x1 : Int32) (x2 : Int32) (M : Mem) : Option (Mem) :=
  lp (fun k a m => f_X12_copy_h2 N k a.1 a.2.1 a.2.2 m) N (x1, x2, 0) M
set_option maxRecDepth 20000 in
theorem t_X12_copy {N : Nat} {x1 : Int32} {x2 : Int32} {M : Mem} {q : Mem} (h : f_X12_copy N x1 x2 M = some q) : Ev 200 21 0 m_X12_copy [.ref 200, .int x1, .int x2] M (QV q) := by
  refine Ev_of_Fr (by decide +kernel) (Nat.le_of_ble_eq_true rfl) ?_
  show Fr 200 21 0 m_X12_copy 0 [(0, .ref 200), (1, .int x1), (2, .int x2)] [] M (QV q)
  unfold f_X12_copy at h
  refine Fr_iconst (i := 0) (v := 0) (by decide +kernel) (by decide) ?_
  refine Fr_istore_n (q := 3) (i := 3) (lv' := [(3, .int 0), (0, .ref 200), (1, .int x1), (2, .int x2)]) (by decide +kernel) rfl (by decide) rfl ?_
  refine Fr_loc [1, 2, 3, 0] rfl ?_
  exact lp_sound (P := fun a M => Fr 200 21 0 m_X12_copy 2 [(0, .ref 200), (1, .int a.1), (2, .int a.2.1), (3, .int a.2.2)] [] M (QV q)) (fun k hk a m h => t_X12_copy_h2 hk h) N (x1, x2, 0) M h
def f_X12_port_b104 (N : Nat) (M : Mem) : Option (Int32 × Mem) :=
  bi (f_X12_isWell M) fun r_13 M_11 =>
  if (b2i r_13) = 0 then (some ((-1), M_11)) else (bv (f_X12_copy N 4 0 M_11) fun M_14 =>
  ck 2 2175 (
  some ((M_14.1 205 (tn 2)), M_14)))
set_option maxRecDepth 20000 in
theorem t_X12_port_b104 {N : Nat} {q : Int32 × Mem} {M : Mem} (h : f_X12_port_b104 N M = some q) : Fr 200 21 8 m_X12_port 104 [(0, .ref 200)] [] M (QI q) := by
  unfold f_X12_port_b104 at h
  refine Fr_aload_n (q := 0) (i := 0) 0 (by decide +kernel) rfl rfl ?_
  obtain ⟨r_13, M_11, hc_12, h⟩ := bi_elim h
  refine Fr_cVb (ν := m_X12_isWell) (As := []) (st := []) (rc := 200) (ci := 12) (d' := 1) (by decide +kernel) ml_X12_336 cv_X12_isWell rfl (by decide) rfl ob_200 rfl (by decide) (Nat.le_of_ble_eq_true rfl) (t_X12_isWell hc_12) ?_
  refine Fr_if_ne (off := 5) 113 (by decide +kernel) (by decide) (fun hc => ?_) (fun hc => ?_)
  · have h := iF hc h
    refine Fr_aload_n (q := 0) (i := 0) 0 (by decide +kernel) rfl rfl ?_
    refine Fr_iconst (i := 4) (v := 4) (by decide +kernel) (by decide) ?_
    refine Fr_iconst (i := 0) (v := 0) (by decide +kernel) (by decide) ?_
    obtain ⟨M_14, hc_15, h⟩ := bv_elim h
    refine Fr_cVv (ν := m_X12_copy) (As := [.int 4, .int 0]) (st := []) (rc := 200) (ci := 12) (d' := 0) (by decide +kernel) ml_X12_339 cv_X12_copy rfl (by decide) rfl ob_200 rfl (by decide) (Nat.le_of_ble_eq_true rfl) (t_X12_copy hc_15) ?_
    refine Fr_aload_n (q := 0) (i := 0) 0 (by decide +kernel) rfl rfl ?_
    refine gf_X12_35 rfl (by decide +kernel) ob_200 ?_
    refine Fr_iconst (i := 2) (v := 2) (by decide +kernel) (by decide) ?_
    obtain ⟨hi_16, h⟩ := ck_elim h
    refine Fr_iald (by decide +kernel) ob_205 (vp_of ln_205 hi_16) ?_
    obtain rfl := Option.some.inj h
    exact Fr_iret (by decide +kernel) rfl ⟨rfl, rfl⟩
  · have h := iT hc h
    refine Fr_iconst (i := (-1)) (v := (-1)) (by decide +kernel) (by decide) ?_
    obtain rfl := Option.some.inj h
    exact Fr_iret (by decide +kernel) rfl ⟨rfl, rfl⟩
def f_X12_port_h73 (N : Nat) (k73 : Unit → Mem → Option (Int32 × Mem)) (M : Mem) : Option (Int32 × Mem) :=
  if (M.1 200 12) = 0 then (if (M.1 200 14) = 0 then (f_X12_port_b104 N M) else (bv (f_X12_readPart N M) fun M_17 =>
  bi (f_X12_isSign 59 M_17) fun r_21 M_19 =>
  bv (f_X12_must N (b2i r_21) M_19) fun M_22 =>
  k73 () M_22)) else (f_X12_port_b104 N M)
set_option maxRecDepth 20000 in
theorem t_X12_port_h73 {N : Nat} {q : Int32 × Mem} {k73 : Unit → Mem → Option (Int32 × Mem)} (hk73 : ∀ (a : Unit) (M : Mem), k73 a M = some q → Fr 200 21 8 m_X12_port 73 [(0, .ref 200)] [] M (QI q)) {M : Mem} (h : f_X12_port_h73 N k73 M = some q) : Fr 200 21 8 m_X12_port 73 [(0, .ref 200)] [] M (QI q) := by
  unfold f_X12_port_h73 at h
  refine Fr_aload_n (q := 0) (i := 0) 0 (by decide +kernel) rfl rfl ?_
  refine gf_X12_248 rfl (by decide +kernel) ob_200 ?_
  refine Fr_if_ne (off := 27) 104 (by decide +kernel) (by decide) (fun hc => ?_) (fun hc => ?_)
  · have h := iF hc h
    exact t_X12_port_b104 h
  · have h := iT hc h
    refine Fr_aload_n (q := 0) (i := 0) 0 (by decide +kernel) rfl rfl ?_
    refine gf_X12_139 rfl (by decide +kernel) ob_200 ?_
    refine Fr_if_eq (off := 20) 104 (by decide +kernel) (by decide) (fun hc => ?_) (fun hc => ?_)
    · have h := iT hc h
      exact t_X12_port_b104 h
    · have h := iF hc h
      refine Fr_aload_n (q := 0) (i := 0) 0 (by decide +kernel) rfl rfl ?_
      obtain ⟨M_17, hc_18, h⟩ := bv_elim h
      refine Fr_cVv (ν := m_X12_readPart) (As := []) (st := []) (rc := 200) (ci := 12) (d' := 7) (by decide +kernel) ml_X12_330 cv_X12_readPart rfl (by decide) rfl ob_200 rfl (by decide) (Nat.le_of_ble_eq_true rfl) (t_X12_readPart hc_18) ?_
      refine Fr_aload_n (q := 0) (i := 0) 0 (by decide +kernel) rfl rfl ?_
      refine Fr_aload_n (q := 0) (i := 0) 0 (by decide +kernel) rfl rfl ?_
      refine Fr_bipush (i := 59) (v := 59) (by decide +kernel) (by decide) ?_
      obtain ⟨r_21, M_19, hc_20, h⟩ := bi_elim h
      refine Fr_cVb (ν := m_X12_isSign) (As := [.int 59]) (st := [.ref 200]) (rc := 200) (ci := 12) (d' := 0) (by decide +kernel) ml_X12_333 cv_X12_isSign rfl (by decide) rfl ob_200 rfl (by decide) (Nat.le_of_ble_eq_true rfl) (t_X12_isSign hc_20) ?_
      obtain ⟨M_22, hc_23, h⟩ := bv_elim h
      refine Fr_cVv (ν := m_X12_must) (As := [.int (b2i r_21)]) (st := []) (rc := 200) (ci := 12) (d' := 2) (by decide +kernel) ml_X12_264 cv_X12_must rfl (by decide) rfl ob_200 rfl (by decide) (Nat.le_of_ble_eq_true rfl) (t_X12_must hc_23) ?_
      refine Fr_goto (off := (-28)) 73 (by decide +kernel) (by decide) ?_
      exact hk73 () M_22 h
def f_X12_port_h25 (N : Nat) (k25 : Int32 → Mem → Option (Int32 × Mem)) (v2 : Int32) (M : Mem) : Option (Int32 × Mem) :=
  if 435 ≤ v2 then (ck 1747 2175 (
  bM (uI M 205 (tn 1747) 1) fun M_7 =>
  ck 1748 2175 (
  bM (uI M_7 205 (tn 1748) 10) fun M_9 =>
  bM (uI M_9 200 25 0) fun M_10 =>
  lp (fun k a m => f_X12_port_h73 N k m) N () M_10))) else (ck (1740 + v2) 2175 (
  bM (uI M 205 (tn (1740 + v2)) 0) fun M_25 =>
  k25 (v2 + 1) M_25))
set_option maxRecDepth 20000 in
theorem t_X12_port_h25 {N : Nat} {q : Int32 × Mem} {k25 : Int32 → Mem → Option (Int32 × Mem)} (hk25 : ∀ (a : Int32) (M : Mem), k25 a M = some q → Fr 200 21 8 m_X12_port 25 [(0, .ref 200), (2, .int a)] [] M (QI q)) {v2 : Int32} {M : Mem} (h : f_X12_port_h25 N k25 v2 M = some q) : Fr 200 21 8 m_X12_port 25 [(0, .ref 200), (2, .int v2)] [] M (QI q) := by
  unfold f_X12_port_h25 at h
  refine Fr_iload_n (q := 2) (i := 2) 1 (by decide +kernel) rfl rfl ?_
  refine Fr_sipush (i := 435) (v := 435) (by decide +kernel) (by decide) ?_
  refine Fr_icmp_ge (off := 20) 49 (by decide +kernel) (by decide) (fun hc => ?_) (fun hc => ?_)
  · have h := iT hc h
    refine Fr_aload_n (q := 0) (i := 0) 0 (by decide +kernel) rfl rfl ?_
    refine gf_X12_35 rfl (by decide +kernel) ob_200 ?_
    refine Fr_sipush (i := 1747) (v := 1747) (by decide +kernel) (by decide) ?_
    refine Fr_iconst (i := 1) (v := 1) (by decide +kernel) (by decide) ?_
    obtain ⟨hi_6, h⟩ := ck_elim h
    refine Fr_iast (by decide +kernel) ob_205 (vp_of ln_205 hi_6) ?_
    obtain ⟨M_7, eM_7, h⟩ := bM_elim h
    refine Fr_mem eM_7 ?_
    refine Fr_aload_n (q := 0) (i := 0) 0 (by decide +kernel) rfl rfl ?_
    refine gf_X12_35 rfl (by decide +kernel) ob_200 ?_
    refine Fr_sipush (i := 1748) (v := 1748) (by decide +kernel) (by decide) ?_
    refine Fr_bipush (i := 10) (v := 10) (by decide +kernel) (by decide) ?_
    obtain ⟨hi_8, h⟩ := ck_elim h
    refine Fr_iast (by decide +kernel) ob_205 (vp_of ln_205 hi_8) ?_
    obtain ⟨M_9, eM_9, h⟩ := bM_elim h
    refine Fr_mem eM_9 ?_
    refine Fr_aload_n (q := 0) (i := 0) 0 (by decide +kernel) rfl rfl ?_
    refine Fr_iconst (i := 0) (v := 0) (by decide +kernel) (by decide) ?_
    refine pf_X12_305 rfl (by decide +kernel) ob_200 ?_
    obtain ⟨M_10, eM_10, h⟩ := bM_elim h
    refine Fr_mem eM_10 ?_
    refine Fr_loc [0] rfl ?_
    exact lp_sound (P := fun a M => Fr 200 21 8 m_X12_port 73 [(0, .ref 200)] [] M (QI q)) (fun k hk a m h => t_X12_port_h73 hk h) N () M_10 h
  · have h := iF hc h
    refine Fr_aload_n (q := 0) (i := 0) 0 (by decide +kernel) rfl rfl ?_
    refine gf_X12_35 rfl (by decide +kernel) ob_200 ?_
    refine Fr_sipush (i := 1740) (v := 1740) (by decide +kernel) (by decide) ?_
    refine Fr_iload_n (q := 2) (i := 2) 1 (by decide +kernel) rfl rfl ?_
    refine Fr_iadd (by decide +kernel) ?_
    refine Fr_iconst (i := 0) (v := 0) (by decide +kernel) (by decide) ?_
    obtain ⟨hi_24, h⟩ := ck_elim h
    refine Fr_iast (by decide +kernel) ob_205 (vp_of ln_205 hi_24) ?_
    obtain ⟨M_25, eM_25, h⟩ := bM_elim h
    refine Fr_mem eM_25 ?_
    refine Fr_iinc (i := 2) (j := 1) (v := (v2 + 1)) (lv' := [(2, .int (v2 + 1)), (0, .ref 200)]) 1 (by decide +kernel) rfl rfl (by decide) rfl ?_
    refine Fr_goto (off := (-21)) 25 (by decide +kernel) (by decide) ?_
    refine Fr_loc [1, 0] rfl ?_
    exact hk25 (v2 + 1) M_25 h
def f_X12_port (N : Nat) (x1 : Int32) (M : Mem) : Option (Int32 × Mem) :=
  bM (uI M 200 1 0) fun M_1 =>
  bM (uI M_1 200 0 0) fun M_2 =>
  bi (f_X12_starts N x1 900 M_2) fun r_5 M_3 =>
  if (b2i r_5) = 0 then (some ((-1), M_3)) else (lp (fun k a m => f_X12_port_h25 N k a m) N 0 M_3)
set_option maxRecDepth 20000 in
theorem t_X12_port {N : Nat} {x1 : Int32} {M : Mem} {q : Int32 × Mem} (h : f_X12_port N x1 M = some q) : Ev 200 21 8 m_X12_port [.ref 200, .int x1] M (QI q) := by
  refine Ev_of_Fr (by decide +kernel) (Nat.le_of_ble_eq_true rfl) ?_
  show Fr 200 21 8 m_X12_port 0 [(0, .ref 200), (1, .int x1)] [] M (QI q)
  unfold f_X12_port at h
  refine Fr_aload_n (q := 0) (i := 0) 0 (by decide +kernel) rfl rfl ?_
  refine Fr_iconst (i := 0) (v := 0) (by decide +kernel) (by decide) ?_
  refine pf_X12_84 rfl (by decide +kernel) ob_200 ?_
  obtain ⟨M_1, eM_1, h⟩ := bM_elim h
  refine Fr_mem eM_1 ?_
  refine Fr_aload_n (q := 0) (i := 0) 0 (by decide +kernel) rfl rfl ?_
  refine Fr_iconst (i := 0) (v := 0) (by decide +kernel) (by decide) ?_
  refine pf_X12_87 rfl (by decide +kernel) ob_200 ?_
  obtain ⟨M_2, eM_2, h⟩ := bM_elim h
  refine Fr_mem eM_2 ?_
  refine Fr_aload_n (q := 0) (i := 0) 0 (by decide +kernel) rfl rfl ?_
  refine Fr_iload_n (q := 1) (i := 1) 1 (by decide +kernel) rfl rfl ?_
  refine Fr_sipush (i := 900) (v := 900) (by decide +kernel) (by decide) ?_
  obtain ⟨r_5, M_3, hc_4, h⟩ := bi_elim h
  refine Fr_cVb (ν := m_X12_starts) (As := [.int x1, .int 900]) (st := []) (rc := 200) (ci := 12) (d' := 2) (by decide +kernel) ml_X12_327 cv_X12_starts rfl (by decide) rfl ob_200 rfl (by decide) (Nat.le_of_ble_eq_true rfl) (t_X12_starts hc_4) ?_
  refine Fr_if_ne (off := 5) 23 (by decide +kernel) (by decide) (fun hc => ?_) (fun hc => ?_)
  · have h := iF hc h
    refine Fr_iconst (i := 0) (v := 0) (by decide +kernel) (by decide) ?_
    refine Fr_istore_n (q := 2) (i := 2) (lv' := [(2, .int 0), (0, .ref 200), (1, .int x1)]) (by decide +kernel) rfl (by decide) rfl ?_
    refine Fr_loc [1, 0] rfl ?_
    exact lp_sound (P := fun a M => Fr 200 21 8 m_X12_port 25 [(0, .ref 200), (2, .int a)] [] M (QI q)) (fun k hk a m h => t_X12_port_h25 hk h) N 0 M_3 h
  · have h := iT hc h
    refine Fr_iconst (i := (-1)) (v := (-1)) (by decide +kernel) (by decide) ?_
    obtain rfl := Option.some.inj h
    exact Fr_iret (by decide +kernel) rfl ⟨rfl, rfl⟩
def f_X12_readToldGate_b18 (N : Nat) (M : Mem) : Option (Int32 × Mem) :=
  if (M.1 200 12) ≤ 0 then (bi (f_X12_named N 0 0 M) fun r_3 M_1 =>
  if 0 ≤ r_3 then (bv (f_X12_must N 1 M_1) fun M_4 =>
  some ((imax 0 r_3), M_4)) else (bv (f_X12_fail 3 (M_1.1 200 15) M_1) fun M_6 =>
  bv (f_X12_must N 1 M_6) fun M_8 =>
  some ((imax 0 r_3), M_8))) else (some (0, M))
set_option maxRecDepth 20000 in
theorem t_X12_readToldGate_b18 {N : Nat} {q : Int32 × Mem} {M : Mem} (h : f_X12_readToldGate_b18 N M = some q) : Fr 200 21 5 m_X12_readToldGate 18 [(0, .ref 200)] [] M (QI q) := by
  unfold f_X12_readToldGate_b18 at h
  refine Fr_aload_n (q := 0) (i := 0) 0 (by decide +kernel) rfl rfl ?_
  refine gf_X12_248 rfl (by decide +kernel) ob_200 ?_
  refine Fr_if_le (off := 5) 27 (by decide +kernel) (by decide) (fun hc => ?_) (fun hc => ?_)
  · have h := iT hc h
    refine Fr_aload_n (q := 0) (i := 0) 0 (by decide +kernel) rfl rfl ?_
    refine Fr_iconst (i := 0) (v := 0) (by decide +kernel) (by decide) ?_
    refine Fr_iconst (i := 0) (v := 0) (by decide +kernel) (by decide) ?_
    obtain ⟨r_3, M_1, hc_2, h⟩ := bi_elim h
    refine Fr_cVi (ν := m_X12_named) (As := [.int 0, .int 0]) (st := []) (rc := 200) (ci := 12) (d' := 1) (by decide +kernel) ml_X12_281 cv_X12_named rfl (by decide) rfl ob_200 rfl (by decide) (Nat.le_of_ble_eq_true rfl) (t_X12_named hc_2) ?_
    refine Fr_istore_n (q := 1) (i := 1) (lv' := [(1, .int r_3), (0, .ref 200)]) (by decide +kernel) rfl (by decide) rfl ?_
    refine Fr_iload_n (q := 1) (i := 1) 0 (by decide +kernel) rfl rfl ?_
    refine Fr_if_ge (off := 12) 47 (by decide +kernel) (by decide) (fun hc => ?_) (fun hc => ?_)
    · have h := iT hc h
      refine Fr_aload_n (q := 0) (i := 0) 1 (by decide +kernel) rfl rfl ?_
      refine Fr_iconst (i := 1) (v := 1) (by decide +kernel) (by decide) ?_
      obtain ⟨M_4, hc_5, h⟩ := bv_elim h
      refine Fr_cVv (ν := m_X12_must) (As := [.int 1]) (st := []) (rc := 200) (ci := 12) (d' := 2) (by decide +kernel) ml_X12_264 cv_X12_must rfl (by decide) rfl ob_200 rfl (by decide) (Nat.le_of_ble_eq_true rfl) (t_X12_must hc_5) ?_
      refine Fr_iconst (i := 0) (v := 0) (by decide +kernel) (by decide) ?_
      refine Fr_iload_n (q := 1) (i := 1) 0 (by decide +kernel) rfl rfl ?_
      refine Fr_max (by decide +kernel) ml_X12_342 (by decide) (Nat.le_of_ble_eq_true rfl) ?_
      obtain rfl := Option.some.inj h
      exact Fr_iret (by decide +kernel) rfl ⟨rfl, rfl⟩
    · have h := iF hc h
      refine Fr_aload_n (q := 0) (i := 0) 1 (by decide +kernel) rfl rfl ?_
      refine Fr_iconst (i := 3) (v := 3) (by decide +kernel) (by decide) ?_
      refine Fr_aload_n (q := 0) (i := 0) 1 (by decide +kernel) rfl rfl ?_
      refine gf_X12_133 rfl (by decide +kernel) ob_200 ?_
      obtain ⟨M_6, hc_7, h⟩ := bv_elim h
      refine Fr_cVv (ν := m_X12_fail) (As := [.int 3, .int (M_1.1 200 15)]) (st := []) (rc := 200) (ci := 12) (d' := 0) (by decide +kernel) ml_X12_254 cv_X12_fail rfl (by decide) rfl ob_200 rfl (by decide) (Nat.le_of_ble_eq_true rfl) (t_X12_fail hc_7) ?_
      refine Fr_aload_n (q := 0) (i := 0) 1 (by decide +kernel) rfl rfl ?_
      refine Fr_iconst (i := 1) (v := 1) (by decide +kernel) (by decide) ?_
      obtain ⟨M_8, hc_9, h⟩ := bv_elim h
      refine Fr_cVv (ν := m_X12_must) (As := [.int 1]) (st := []) (rc := 200) (ci := 12) (d' := 2) (by decide +kernel) ml_X12_264 cv_X12_must rfl (by decide) rfl ob_200 rfl (by decide) (Nat.le_of_ble_eq_true rfl) (t_X12_must hc_9) ?_
      refine Fr_iconst (i := 0) (v := 0) (by decide +kernel) (by decide) ?_
      refine Fr_iload_n (q := 1) (i := 1) 0 (by decide +kernel) rfl rfl ?_
      refine Fr_max (by decide +kernel) ml_X12_342 (by decide) (Nat.le_of_ble_eq_true rfl) ?_
      obtain rfl := Option.some.inj h
      exact Fr_iret (by decide +kernel) rfl ⟨rfl, rfl⟩
  · have h := iF hc h
    refine Fr_iconst (i := 0) (v := 0) (by decide +kernel) (by decide) ?_
    obtain rfl := Option.some.inj h
    exact Fr_iret (by decide +kernel) rfl ⟨rfl, rfl⟩
def f_X12_readToldGate (N : Nat) (M : Mem) : Option (Int32 × Mem) :=
  if (M.1 200 12) = 0 then (bi (f_X12_isName M) fun r_12 M_10 =>
  if (b2i r_12) = 0 then (bv (f_X12_amiss M_10) fun M_13 =>
  f_X12_readToldGate_b18 N M_13) else (f_X12_readToldGate_b18 N M_10)) else (f_X12_readToldGate_b18 N M)
set_option maxRecDepth 20000 in
theorem t_X12_readToldGate {N : Nat} {M : Mem} {q : Int32 × Mem} (h : f_X12_readToldGate N M = some q) : Ev 200 21 5 m_X12_readToldGate [.ref 200] M (QI q) := by
  refine Ev_of_Fr (by decide +kernel) (Nat.le_of_ble_eq_true rfl) ?_
  show Fr 200 21 5 m_X12_readToldGate 0 [(0, .ref 200)] [] M (QI q)
  unfold f_X12_readToldGate at h
  refine Fr_aload_n (q := 0) (i := 0) 0 (by decide +kernel) rfl rfl ?_
  refine gf_X12_248 rfl (by decide +kernel) ob_200 ?_
  refine Fr_if_ne (off := 14) 18 (by decide +kernel) (by decide) (fun hc => ?_) (fun hc => ?_)
  · have h := iF hc h
    exact t_X12_readToldGate_b18 h
  · have h := iT hc h
    refine Fr_aload_n (q := 0) (i := 0) 0 (by decide +kernel) rfl rfl ?_
    obtain ⟨r_12, M_10, hc_11, h⟩ := bi_elim h
    refine Fr_cVb (ν := m_X12_isName) (As := []) (st := []) (rc := 200) (ci := 12) (d' := 4) (by decide +kernel) ml_X12_284 cv_X12_isName rfl (by decide) rfl ob_200 rfl (by decide) (Nat.le_of_ble_eq_true rfl) (t_X12_isName hc_11) ?_
    refine Fr_if_ne (off := 7) 18 (by decide +kernel) (by decide) (fun hc => ?_) (fun hc => ?_)
    · have h := iF hc h
      exact t_X12_readToldGate_b18 h
    · have h := iT hc h
      refine Fr_aload_n (q := 0) (i := 0) 0 (by decide +kernel) rfl rfl ?_
      obtain ⟨M_13, hc_14, h⟩ := bv_elim h
      refine Fr_cVv (ν := m_X12_amiss) (As := []) (st := []) (rc := 200) (ci := 12) (d' := 1) (by decide +kernel) ml_X12_261 cv_X12_amiss rfl (by decide) rfl ob_200 rfl (by decide) (Nat.le_of_ble_eq_true rfl) (t_X12_amiss hc_14) ?_
      exact t_X12_readToldGate_b18 h
def f_X12_readTest_b125 (N : Nat) (v1 : Int32) (s0 : Int32) (M : Mem) : Option (Mem) :=
  bv (f_X12_must N s0 M) fun M_15 =>
  bi (f_X12_count N 0 999 M_15) fun r_19 M_17 =>
  ck (v1 + 3) 2175 (
  bM (uI M_17 205 (tn (v1 + 3)) r_19) fun M_21 =>
  some M_21)
set_option maxRecDepth 20000 in
theorem t_X12_readTest_b125 {N : Nat} {q : Mem} {v1 : Int32} {s0 : Int32} {M : Mem} (h : f_X12_readTest_b125 N v1 s0 M = some q) : Fr 200 21 6 m_X12_readTest 125 [(0, .ref 200), (1, .int v1)] [.int s0, .ref 200] M (QV q) := by
  unfold f_X12_readTest_b125 at h
  obtain ⟨M_15, hc_16, h⟩ := bv_elim h
  refine Fr_cVv (ν := m_X12_must) (As := [.int s0]) (st := []) (rc := 200) (ci := 12) (d' := 2) (by decide +kernel) ml_X12_264 cv_X12_must rfl (by decide) rfl ob_200 rfl (by decide) (Nat.le_of_ble_eq_true rfl) (t_X12_must hc_16) ?_
  refine Fr_aload_n (q := 0) (i := 0) 0 (by decide +kernel) rfl rfl ?_
  refine gf_X12_35 rfl (by decide +kernel) ob_200 ?_
  refine Fr_iload_n (q := 1) (i := 1) 1 (by decide +kernel) rfl rfl ?_
  refine Fr_iconst (i := 3) (v := 3) (by decide +kernel) (by decide) ?_
  refine Fr_iadd (by decide +kernel) ?_
  refine Fr_aload_n (q := 0) (i := 0) 0 (by decide +kernel) rfl rfl ?_
  refine Fr_iconst (i := 0) (v := 0) (by decide +kernel) (by decide) ?_
  refine Fr_sipush (i := 999) (v := 999) (by decide +kernel) (by decide) ?_
  obtain ⟨r_19, M_17, hc_18, h⟩ := bi_elim h
  refine Fr_cVi (ν := m_X12_count) (As := [.int 0, .int 999]) (st := [.int (v1 + 3), .ref 205]) (rc := 200) (ci := 12) (d' := 2) (by decide +kernel) ml_X12_268 cv_X12_count rfl (by decide) rfl ob_200 rfl (by decide) (Nat.le_of_ble_eq_true rfl) (t_X12_count hc_18) ?_
  obtain ⟨hi_20, h⟩ := ck_elim h
  refine Fr_iast (by decide +kernel) ob_205 (vp_of ln_205 hi_20) ?_
  obtain ⟨M_21, eM_21, h⟩ := bM_elim h
  refine Fr_mem eM_21 ?_
  obtain rfl := Option.some.inj h
  exact Fr_vret (by decide +kernel) rfl ⟨rfl, rfl⟩
def f_X12_readTest_b120 (N : Nat) (v1 : Int32) (M : Mem) : Option (Mem) :=
  f_X12_readTest_b125 N v1 1 M
set_option maxRecDepth 20000 in
theorem t_X12_readTest_b120 {N : Nat} {q : Mem} {v1 : Int32} {M : Mem} (h : f_X12_readTest_b120 N v1 M = some q) : Fr 200 21 6 m_X12_readTest 120 [(0, .ref 200), (1, .int v1)] [.ref 200] M (QV q) := by
  unfold f_X12_readTest_b120 at h
  refine Fr_iconst (i := 1) (v := 1) (by decide +kernel) (by decide) ?_
  refine Fr_goto (off := 4) 125 (by decide +kernel) (by decide) ?_
  exact t_X12_readTest_b125 h
def f_X12_readTest_b91 (N : Nat) (v1 : Int32) (s0 : Int32) (s1 : Int32) (M : Mem) : Option (Mem) :=
  ck s1 2175 (
  bM (uI M 205 (tn s1) s0) fun M_11 =>
  bi (f_X12_isSign 60 M_11) fun r_14 M_12 =>
  if (b2i r_14) = 0 then (bi (f_X12_isSign 62 M_12) fun r_24 M_22 =>
  if (b2i r_24) = 0 then (bi (f_X12_isSign 61 M_22) fun r_27 M_25 =>
  if (b2i r_27) = 0 then (f_X12_readTest_b125 N v1 0 M_25) else (f_X12_readTest_b120 N v1 M_25)) else (f_X12_readTest_b120 N v1 M_22)) else (f_X12_readTest_b120 N v1 M_12))
set_option maxRecDepth 20000 in
theorem t_X12_readTest_b91 {N : Nat} {q : Mem} {v1 : Int32} {s0 : Int32} {s1 : Int32} {M : Mem} (h : f_X12_readTest_b91 N v1 s0 s1 M = some q) : Fr 200 21 6 m_X12_readTest 91 [(0, .ref 200), (1, .int v1)] [.int s0, .int s1, .ref 205] M (QV q) := by
  unfold f_X12_readTest_b91 at h
  obtain ⟨hi_10, h⟩ := ck_elim h
  refine Fr_iast (by decide +kernel) ob_205 (vp_of ln_205 hi_10) ?_
  obtain ⟨M_11, eM_11, h⟩ := bM_elim h
  refine Fr_mem eM_11 ?_
  refine Fr_aload_n (q := 0) (i := 0) 0 (by decide +kernel) rfl rfl ?_
  refine Fr_aload_n (q := 0) (i := 0) 0 (by decide +kernel) rfl rfl ?_
  refine Fr_bipush (i := 60) (v := 60) (by decide +kernel) (by decide) ?_
  obtain ⟨r_14, M_12, hc_13, h⟩ := bi_elim h
  refine Fr_cVb (ν := m_X12_isSign) (As := [.int 60]) (st := [.ref 200]) (rc := 200) (ci := 12) (d' := 0) (by decide +kernel) ml_X12_333 cv_X12_isSign rfl (by decide) rfl ob_200 rfl (by decide) (Nat.le_of_ble_eq_true rfl) (t_X12_isSign hc_13) ?_
  refine Fr_if_ne (off := 21) 120 (by decide +kernel) (by decide) (fun hc => ?_) (fun hc => ?_)
  · have h := iF hc h
    exact t_X12_readTest_b120 h
  · have h := iT hc h
    refine Fr_aload_n (q := 0) (i := 0) 0 (by decide +kernel) rfl rfl ?_
    refine Fr_bipush (i := 62) (v := 62) (by decide +kernel) (by decide) ?_
    obtain ⟨r_24, M_22, hc_23, h⟩ := bi_elim h
    refine Fr_cVb (ν := m_X12_isSign) (As := [.int 62]) (st := [.ref 200]) (rc := 200) (ci := 12) (d' := 0) (by decide +kernel) ml_X12_333 cv_X12_isSign rfl (by decide) rfl ob_200 rfl (by decide) (Nat.le_of_ble_eq_true rfl) (t_X12_isSign hc_23) ?_
    refine Fr_if_ne (off := 12) 120 (by decide +kernel) (by decide) (fun hc => ?_) (fun hc => ?_)
    · have h := iF hc h
      exact t_X12_readTest_b120 h
    · have h := iT hc h
      refine Fr_aload_n (q := 0) (i := 0) 0 (by decide +kernel) rfl rfl ?_
      refine Fr_bipush (i := 61) (v := 61) (by decide +kernel) (by decide) ?_
      obtain ⟨r_27, M_25, hc_26, h⟩ := bi_elim h
      refine Fr_cVb (ν := m_X12_isSign) (As := [.int 61]) (st := [.ref 200]) (rc := 200) (ci := 12) (d' := 0) (by decide +kernel) ml_X12_333 cv_X12_isSign rfl (by decide) rfl ob_200 rfl (by decide) (Nat.le_of_ble_eq_true rfl) (t_X12_isSign hc_26) ?_
      refine Fr_if_eq (off := 7) 124 (by decide +kernel) (by decide) (fun hc => ?_) (fun hc => ?_)
      · have h := iT hc h
        refine Fr_iconst (i := 0) (v := 0) (by decide +kernel) (by decide) ?_
        exact t_X12_readTest_b125 h
      · have h := iF hc h
        exact t_X12_readTest_b120 h
def f_X12_readTest_b15 (N : Nat) (v1 : Int32) (v2 : Int32) (s0 : Int32) (M : Mem) : Option (Mem) :=
  bv (f_X12_must N s0 M) fun M_4 =>
  ck (v1 + 6) 2175 (
  bM (uI M_4 205 (tn (v1 + 6)) v2) fun M_7 =>
  if v2 = 1 then (bi (f_X12_readToldGate N M_7) fun r_30 M_28 =>
  ck (v1 + 1) 2175 (
  bM (uI M_28 205 (tn (v1 + 1)) r_30) fun M_32 =>
  some M_32)) else (bv (f_X12_readBoard N 0 (v1 + 1) 1 M_7) fun M_8 =>
  if 0 < (M_8.1 200 12) then (some M_8) else (if v2 = 0 then (some M_8) else (if (M_8.1 200 14) = 3 then (f_X12_readTest_b91 N v1 (M_8.1 200 17) (v1 + 7) M_8) else (f_X12_readTest_b91 N v1 0 (v1 + 7) M_8)))))
set_option maxRecDepth 20000 in
theorem t_X12_readTest_b15 {N : Nat} {q : Mem} {v1 : Int32} {v2 : Int32} {s0 : Int32} {M : Mem} (h : f_X12_readTest_b15 N v1 v2 s0 M = some q) : Fr 200 21 6 m_X12_readTest 15 [(0, .ref 200), (1, .int v1), (2, .int v2)] [.int s0, .ref 200] M (QV q) := by
  unfold f_X12_readTest_b15 at h
  obtain ⟨M_4, hc_5, h⟩ := bv_elim h
  refine Fr_cVv (ν := m_X12_must) (As := [.int s0]) (st := []) (rc := 200) (ci := 12) (d' := 2) (by decide +kernel) ml_X12_264 cv_X12_must rfl (by decide) rfl ob_200 rfl (by decide) (Nat.le_of_ble_eq_true rfl) (t_X12_must hc_5) ?_
  refine Fr_aload_n (q := 0) (i := 0) 0 (by decide +kernel) rfl rfl ?_
  refine gf_X12_35 rfl (by decide +kernel) ob_200 ?_
  refine Fr_iload_n (q := 1) (i := 1) 1 (by decide +kernel) rfl rfl ?_
  refine Fr_bipush (i := 6) (v := 6) (by decide +kernel) (by decide) ?_
  refine Fr_iadd (by decide +kernel) ?_
  refine Fr_iload_n (q := 2) (i := 2) 2 (by decide +kernel) rfl rfl ?_
  obtain ⟨hi_6, h⟩ := ck_elim h
  refine Fr_iast (by decide +kernel) ob_205 (vp_of ln_205 hi_6) ?_
  obtain ⟨M_7, eM_7, h⟩ := bM_elim h
  refine Fr_mem eM_7 ?_
  refine Fr_iload_n (q := 2) (i := 2) 2 (by decide +kernel) rfl rfl ?_
  refine Fr_iconst (i := 1) (v := 1) (by decide +kernel) (by decide) ?_
  refine Fr_icmp_ne (off := 16) 46 (by decide +kernel) (by decide) (fun hc => ?_) (fun hc => ?_)
  · have h := iF hc h
    refine Fr_aload_n (q := 0) (i := 0) 0 (by decide +kernel) rfl rfl ?_
    refine Fr_iconst (i := 0) (v := 0) (by decide +kernel) (by decide) ?_
    refine Fr_iload_n (q := 1) (i := 1) 1 (by decide +kernel) rfl rfl ?_
    refine Fr_iconst (i := 1) (v := 1) (by decide +kernel) (by decide) ?_
    refine Fr_iadd (by decide +kernel) ?_
    refine Fr_iconst (i := 1) (v := 1) (by decide +kernel) (by decide) ?_
    obtain ⟨M_8, hc_9, h⟩ := bv_elim h
    refine Fr_cVv (ν := m_X12_readBoard) (As := [.int 0, .int (v1 + 1), .int 1]) (st := []) (rc := 200) (ci := 12) (d' := 3) (by decide +kernel) ml_X12_293 cv_X12_readBoard rfl (by decide) rfl ob_200 rfl (by decide) (Nat.le_of_ble_eq_true rfl) (t_X12_readBoard hc_9) ?_
    refine Fr_aload_n (q := 0) (i := 0) 0 (by decide +kernel) rfl rfl ?_
    refine gf_X12_248 rfl (by decide +kernel) ob_200 ?_
    refine Fr_if_gt (off := 7) 66 (by decide +kernel) (by decide) (fun hc => ?_) (fun hc => ?_)
    · have h := iT hc h
      obtain rfl := Option.some.inj h
      exact Fr_vret (by decide +kernel) rfl ⟨rfl, rfl⟩
    · have h := iF hc h
      refine Fr_iload_n (q := 2) (i := 2) 2 (by decide +kernel) rfl rfl ?_
      refine Fr_if_ne (off := 4) 67 (by decide +kernel) (by decide) (fun hc => ?_) (fun hc => ?_)
      · have h := iF hc h
        refine Fr_aload_n (q := 0) (i := 0) 0 (by decide +kernel) rfl rfl ?_
        refine gf_X12_35 rfl (by decide +kernel) ob_200 ?_
        refine Fr_iload_n (q := 1) (i := 1) 1 (by decide +kernel) rfl rfl ?_
        refine Fr_bipush (i := 7) (v := 7) (by decide +kernel) (by decide) ?_
        refine Fr_iadd (by decide +kernel) ?_
        refine Fr_aload_n (q := 0) (i := 0) 0 (by decide +kernel) rfl rfl ?_
        refine gf_X12_139 rfl (by decide +kernel) ob_200 ?_
        refine Fr_iconst (i := 3) (v := 3) (by decide +kernel) (by decide) ?_
        refine Fr_icmp_ne (off := 10) 90 (by decide +kernel) (by decide) (fun hc => ?_) (fun hc => ?_)
        · have h := iF hc h
          refine Fr_iconst (i := 0) (v := 0) (by decide +kernel) (by decide) ?_
          refine Fr_loc [0, 1] rfl ?_
          exact t_X12_readTest_b91 h
        · have h := iT hc h
          refine Fr_aload_n (q := 0) (i := 0) 0 (by decide +kernel) rfl rfl ?_
          refine gf_X12_158 rfl (by decide +kernel) ob_200 ?_
          refine Fr_goto (off := 4) 91 (by decide +kernel) (by decide) ?_
          refine Fr_loc [0, 1] rfl ?_
          exact t_X12_readTest_b91 h
      · have h := iT hc h
        obtain rfl := Option.some.inj h
        exact Fr_vret (by decide +kernel) rfl ⟨rfl, rfl⟩
  · have h := iT hc h
    refine Fr_aload_n (q := 0) (i := 0) 0 (by decide +kernel) rfl rfl ?_
    refine gf_X12_35 rfl (by decide +kernel) ob_200 ?_
    refine Fr_iload_n (q := 1) (i := 1) 1 (by decide +kernel) rfl rfl ?_
    refine Fr_iconst (i := 1) (v := 1) (by decide +kernel) (by decide) ?_
    refine Fr_iadd (by decide +kernel) ?_
    refine Fr_aload_n (q := 0) (i := 0) 0 (by decide +kernel) rfl rfl ?_
    obtain ⟨r_30, M_28, hc_29, h⟩ := bi_elim h
    refine Fr_cVi (ν := m_X12_readToldGate) (As := []) (st := [.int (v1 + 1), .ref 205]) (rc := 200) (ci := 12) (d' := 5) (by decide +kernel) ml_X12_345 cv_X12_readToldGate rfl (by decide) rfl ob_200 rfl (by decide) (Nat.le_of_ble_eq_true rfl) (t_X12_readToldGate hc_29) ?_
    obtain ⟨hi_31, h⟩ := ck_elim h
    refine Fr_iast (by decide +kernel) ob_205 (vp_of ln_205 hi_31) ?_
    obtain ⟨M_32, eM_32, h⟩ := bM_elim h
    refine Fr_mem eM_32 ?_
    obtain rfl := Option.some.inj h
    exact Fr_vret (by decide +kernel) rfl ⟨rfl, rfl⟩
def f_X12_readTest (N : Nat) (x1 : Int32) (M : Mem) : Option (Mem) :=
  bi (f_X12_testWord M) fun r_3 M_1 =>
  if r_3 < 0 then (f_X12_readTest_b15 N x1 r_3 0 M_1) else (f_X12_readTest_b15 N x1 r_3 1 M_1)
set_option maxRecDepth 20000 in
theorem t_X12_readTest {N : Nat} {x1 : Int32} {M : Mem} {q : Mem} (h : f_X12_readTest N x1 M = some q) : Ev 200 21 6 m_X12_readTest [.ref 200, .int x1] M (QV q) := by
  refine Ev_of_Fr (by decide +kernel) (Nat.le_of_ble_eq_true rfl) ?_
  show Fr 200 21 6 m_X12_readTest 0 [(0, .ref 200), (1, .int x1)] [] M (QV q)
  unfold f_X12_readTest at h
  refine Fr_aload_n (q := 0) (i := 0) 0 (by decide +kernel) rfl rfl ?_
  obtain ⟨r_3, M_1, hc_2, h⟩ := bi_elim h
  refine Fr_cVi (ν := m_X12_testWord) (As := []) (st := []) (rc := 200) (ci := 12) (d' := 2) (by decide +kernel) ml_X12_239 cv_X12_testWord rfl (by decide) rfl ob_200 rfl (by decide) (Nat.le_of_ble_eq_true rfl) (t_X12_testWord hc_2) ?_
  refine Fr_istore_n (q := 2) (i := 2) (lv' := [(2, .int r_3), (0, .ref 200), (1, .int x1)]) (by decide +kernel) rfl (by decide) rfl ?_
  refine Fr_aload_n (q := 0) (i := 0) 1 (by decide +kernel) rfl rfl ?_
  refine Fr_iload_n (q := 2) (i := 2) 0 (by decide +kernel) rfl rfl ?_
  refine Fr_if_lt (off := 7) 14 (by decide +kernel) (by decide) (fun hc => ?_) (fun hc => ?_)
  · have h := iT hc h
    refine Fr_iconst (i := 0) (v := 0) (by decide +kernel) (by decide) ?_
    refine Fr_loc [1, 2, 0] rfl ?_
    exact t_X12_readTest_b15 h
  · have h := iF hc h
    refine Fr_iconst (i := 1) (v := 1) (by decide +kernel) (by decide) ?_
    refine Fr_goto (off := 4) 15 (by decide +kernel) (by decide) ?_
    refine Fr_loc [1, 2, 0] rfl ?_
    exact t_X12_readTest_b15 h
def f_X12_readRest_b98 (N : Nat) (v1 : Int32) (M : Mem) : Option (Mem) :=
  bi (f_X12_readToldGate N M) fun r_4 M_2 =>
  ck (v1 + 1) 2175 (
  bM (uI M_2 205 (tn (v1 + 1)) r_4) fun M_6 =>
  some M_6)
set_option maxRecDepth 20000 in
theorem t_X12_readRest_b98 {N : Nat} {q : Mem} {v1 : Int32} {M : Mem} (h : f_X12_readRest_b98 N v1 M = some q) : Fr 200 21 7 m_X12_readRest 98 [(0, .ref 200), (1, .int v1)] [] M (QV q) := by
  unfold f_X12_readRest_b98 at h
  refine Fr_aload_n (q := 0) (i := 0) 0 (by decide +kernel) rfl rfl ?_
  refine gf_X12_35 rfl (by decide +kernel) ob_200 ?_
  refine Fr_iload_n (q := 1) (i := 1) 1 (by decide +kernel) rfl rfl ?_
  refine Fr_iconst (i := 1) (v := 1) (by decide +kernel) (by decide) ?_
  refine Fr_iadd (by decide +kernel) ?_
  refine Fr_aload_n (q := 0) (i := 0) 0 (by decide +kernel) rfl rfl ?_
  obtain ⟨r_4, M_2, hc_3, h⟩ := bi_elim h
  refine Fr_cVi (ν := m_X12_readToldGate) (As := []) (st := [.int (v1 + 1), .ref 205]) (rc := 200) (ci := 12) (d' := 5) (by decide +kernel) ml_X12_345 cv_X12_readToldGate rfl (by decide) rfl ob_200 rfl (by decide) (Nat.le_of_ble_eq_true rfl) (t_X12_readToldGate hc_3) ?_
  obtain ⟨hi_5, h⟩ := ck_elim h
  refine Fr_iast (by decide +kernel) ob_205 (vp_of ln_205 hi_5) ?_
  obtain ⟨M_6, eM_6, h⟩ := bM_elim h
  refine Fr_mem eM_6 ?_
  obtain rfl := Option.some.inj h
  exact Fr_vret (by decide +kernel) rfl ⟨rfl, rfl⟩
def f_X12_readRest (N : Nat) (x1 : Int32) (M : Mem) : Option (Mem) :=
  ck x1 2175 (
  if (M.1 205 (tn x1)) = 0 then (bi (f_X12_count N 1 24 M) fun r_21 M_19 =>
  ck (x1 + 1) 2175 (
  bM (uI M_19 205 (tn (x1 + 1)) r_21) fun M_23 =>
  some M_23)) else (if (M.1 205 (tn x1)) = 3 then (bi (f_X12_count N 0 4 M) fun r_16 M_14 =>
  ck (x1 + 1) 2175 (
  bM (uI M_14 205 (tn (x1 + 1)) r_16) fun M_18 =>
  some M_18)) else (if (M.1 205 (tn x1)) = 6 then (bi (f_X12_count N 1 99 M) fun r_11 M_9 =>
  ck (x1 + 1) 2175 (
  bM (uI M_9 205 (tn (x1 + 1)) r_11) fun M_13 =>
  some M_13)) else (if (M.1 205 (tn x1)) = 5 then (bv (f_X12_readTest N x1 M) fun M_7 =>
  some M_7) else (if (M.1 205 (tn x1)) = 1 then (f_X12_readRest_b98 N x1 M) else (if (M.1 205 (tn x1)) = 2 then (f_X12_readRest_b98 N x1 M) else (some M)))))))
set_option maxRecDepth 20000 in
theorem t_X12_readRest {N : Nat} {x1 : Int32} {M : Mem} {q : Mem} (h : f_X12_readRest N x1 M = some q) : Ev 200 21 7 m_X12_readRest [.ref 200, .int x1] M (QV q) := by
  refine Ev_of_Fr (by decide +kernel) (Nat.le_of_ble_eq_true rfl) ?_
  show Fr 200 21 7 m_X12_readRest 0 [(0, .ref 200), (1, .int x1)] [] M (QV q)
  unfold f_X12_readRest at h
  refine Fr_aload_n (q := 0) (i := 0) 0 (by decide +kernel) rfl rfl ?_
  refine gf_X12_35 rfl (by decide +kernel) ob_200 ?_
  refine Fr_iload_n (q := 1) (i := 1) 1 (by decide +kernel) rfl rfl ?_
  obtain ⟨hi_1, h⟩ := ck_elim h
  refine Fr_iald (by decide +kernel) ob_205 (vp_of ln_205 hi_1) ?_
  refine Fr_istore_n (q := 2) (i := 2) (lv' := [(2, .int (M.1 205 (tn x1))), (0, .ref 200), (1, .int x1)]) (by decide +kernel) rfl (by decide) rfl ?_
  refine Fr_iload_n (q := 2) (i := 2) 0 (by decide +kernel) rfl rfl ?_
  refine Fr_if_ne (off := 21) 29 (by decide +kernel) (by decide) (fun hc => ?_) (fun hc => ?_)
  · have h := iF hc h
    refine Fr_iload_n (q := 2) (i := 2) 0 (by decide +kernel) rfl rfl ?_
    refine Fr_iconst (i := 3) (v := 3) (by decide +kernel) (by decide) ?_
    refine Fr_icmp_ne (off := 20) 51 (by decide +kernel) (by decide) (fun hc => ?_) (fun hc => ?_)
    · have h := iF hc h
      refine Fr_iload_n (q := 2) (i := 2) 0 (by decide +kernel) rfl rfl ?_
      refine Fr_bipush (i := 6) (v := 6) (by decide +kernel) (by decide) ?_
      refine Fr_icmp_ne (off := 21) 75 (by decide +kernel) (by decide) (fun hc => ?_) (fun hc => ?_)
      · have h := iF hc h
        refine Fr_iload_n (q := 2) (i := 2) 0 (by decide +kernel) rfl rfl ?_
        refine Fr_iconst (i := 5) (v := 5) (by decide +kernel) (by decide) ?_
        refine Fr_icmp_ne (off := 11) 88 (by decide +kernel) (by decide) (fun hc => ?_) (fun hc => ?_)
        · have h := iF hc h
          refine Fr_iload_n (q := 2) (i := 2) 0 (by decide +kernel) rfl rfl ?_
          refine Fr_iconst (i := 1) (v := 1) (by decide +kernel) (by decide) ?_
          refine Fr_icmp_eq (off := 8) 98 (by decide +kernel) (by decide) (fun hc => ?_) (fun hc => ?_)
          · have h := iT hc h
            refine Fr_loc [1, 2] rfl ?_
            exact t_X12_readRest_b98 h
          · have h := iF hc h
            refine Fr_iload_n (q := 2) (i := 2) 0 (by decide +kernel) rfl rfl ?_
            refine Fr_iconst (i := 2) (v := 2) (by decide +kernel) (by decide) ?_
            refine Fr_icmp_ne (off := 15) 110 (by decide +kernel) (by decide) (fun hc => ?_) (fun hc => ?_)
            · have h := iF hc h
              obtain rfl := Option.some.inj h
              exact Fr_vret (by decide +kernel) rfl ⟨rfl, rfl⟩
            · have h := iT hc h
              refine Fr_loc [1, 2] rfl ?_
              exact t_X12_readRest_b98 h
        · have h := iT hc h
          refine Fr_aload_n (q := 0) (i := 0) 1 (by decide +kernel) rfl rfl ?_
          refine Fr_iload_n (q := 1) (i := 1) 2 (by decide +kernel) rfl rfl ?_
          obtain ⟨M_7, hc_8, h⟩ := bv_elim h
          refine Fr_cVv (ν := m_X12_readTest) (As := [.int x1]) (st := []) (rc := 200) (ci := 12) (d' := 6) (by decide +kernel) ml_X12_348 cv_X12_readTest rfl (by decide) rfl ob_200 rfl (by decide) (Nat.le_of_ble_eq_true rfl) (t_X12_readTest hc_8) ?_
          refine Fr_goto (off := 25) 110 (by decide +kernel) (by decide) ?_
          obtain rfl := Option.some.inj h
          exact Fr_vret (by decide +kernel) rfl ⟨rfl, rfl⟩
      · have h := iT hc h
        refine Fr_aload_n (q := 0) (i := 0) 1 (by decide +kernel) rfl rfl ?_
        refine gf_X12_35 rfl (by decide +kernel) ob_200 ?_
        refine Fr_iload_n (q := 1) (i := 1) 2 (by decide +kernel) rfl rfl ?_
        refine Fr_iconst (i := 1) (v := 1) (by decide +kernel) (by decide) ?_
        refine Fr_iadd (by decide +kernel) ?_
        refine Fr_aload_n (q := 0) (i := 0) 1 (by decide +kernel) rfl rfl ?_
        refine Fr_iconst (i := 1) (v := 1) (by decide +kernel) (by decide) ?_
        refine Fr_bipush (i := 99) (v := 99) (by decide +kernel) (by decide) ?_
        obtain ⟨r_11, M_9, hc_10, h⟩ := bi_elim h
        refine Fr_cVi (ν := m_X12_count) (As := [.int 1, .int 99]) (st := [.int (x1 + 1), .ref 205]) (rc := 200) (ci := 12) (d' := 2) (by decide +kernel) ml_X12_268 cv_X12_count rfl (by decide) rfl ob_200 rfl (by decide) (Nat.le_of_ble_eq_true rfl) (t_X12_count hc_10) ?_
        obtain ⟨hi_12, h⟩ := ck_elim h
        refine Fr_iast (by decide +kernel) ob_205 (vp_of ln_205 hi_12) ?_
        obtain ⟨M_13, eM_13, h⟩ := bM_elim h
        refine Fr_mem eM_13 ?_
        refine Fr_goto (off := 38) 110 (by decide +kernel) (by decide) ?_
        obtain rfl := Option.some.inj h
        exact Fr_vret (by decide +kernel) rfl ⟨rfl, rfl⟩
    · have h := iT hc h
      refine Fr_aload_n (q := 0) (i := 0) 1 (by decide +kernel) rfl rfl ?_
      refine gf_X12_35 rfl (by decide +kernel) ob_200 ?_
      refine Fr_iload_n (q := 1) (i := 1) 2 (by decide +kernel) rfl rfl ?_
      refine Fr_iconst (i := 1) (v := 1) (by decide +kernel) (by decide) ?_
      refine Fr_iadd (by decide +kernel) ?_
      refine Fr_aload_n (q := 0) (i := 0) 1 (by decide +kernel) rfl rfl ?_
      refine Fr_iconst (i := 0) (v := 0) (by decide +kernel) (by decide) ?_
      refine Fr_iconst (i := 4) (v := 4) (by decide +kernel) (by decide) ?_
      obtain ⟨r_16, M_14, hc_15, h⟩ := bi_elim h
      refine Fr_cVi (ν := m_X12_count) (As := [.int 0, .int 4]) (st := [.int (x1 + 1), .ref 205]) (rc := 200) (ci := 12) (d' := 2) (by decide +kernel) ml_X12_268 cv_X12_count rfl (by decide) rfl ob_200 rfl (by decide) (Nat.le_of_ble_eq_true rfl) (t_X12_count hc_15) ?_
      obtain ⟨hi_17, h⟩ := ck_elim h
      refine Fr_iast (by decide +kernel) ob_205 (vp_of ln_205 hi_17) ?_
      obtain ⟨M_18, eM_18, h⟩ := bM_elim h
      refine Fr_mem eM_18 ?_
      refine Fr_goto (off := 62) 110 (by decide +kernel) (by decide) ?_
      obtain rfl := Option.some.inj h
      exact Fr_vret (by decide +kernel) rfl ⟨rfl, rfl⟩
  · have h := iT hc h
    refine Fr_aload_n (q := 0) (i := 0) 1 (by decide +kernel) rfl rfl ?_
    refine gf_X12_35 rfl (by decide +kernel) ob_200 ?_
    refine Fr_iload_n (q := 1) (i := 1) 2 (by decide +kernel) rfl rfl ?_
    refine Fr_iconst (i := 1) (v := 1) (by decide +kernel) (by decide) ?_
    refine Fr_iadd (by decide +kernel) ?_
    refine Fr_aload_n (q := 0) (i := 0) 1 (by decide +kernel) rfl rfl ?_
    refine Fr_iconst (i := 1) (v := 1) (by decide +kernel) (by decide) ?_
    refine Fr_bipush (i := 24) (v := 24) (by decide +kernel) (by decide) ?_
    obtain ⟨r_21, M_19, hc_20, h⟩ := bi_elim h
    refine Fr_cVi (ν := m_X12_count) (As := [.int 1, .int 24]) (st := [.int (x1 + 1), .ref 205]) (rc := 200) (ci := 12) (d' := 2) (by decide +kernel) ml_X12_268 cv_X12_count rfl (by decide) rfl ob_200 rfl (by decide) (Nat.le_of_ble_eq_true rfl) (t_X12_count hc_20) ?_
    obtain ⟨hi_22, h⟩ := ck_elim h
    refine Fr_iast (by decide +kernel) ob_205 (vp_of ln_205 hi_22) ?_
    obtain ⟨M_23, eM_23, h⟩ := bM_elim h
    refine Fr_mem eM_23 ?_
    refine Fr_goto (off := 84) 110 (by decide +kernel) (by decide) ?_
    obtain rfl := Option.some.inj h
    exact Fr_vret (by decide +kernel) rfl ⟨rfl, rfl⟩
