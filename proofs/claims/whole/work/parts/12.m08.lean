def f_X4_readRest (N : Nat) (p1 : Nat) (p2 : Nat) (x3 : Int32) (M : Mem) : Option (Bool × Mem) :=
  if x3 = 1 then (bi (f_X8_takeNumber N (p1 + 2) (M.1 p1 1) 1 24 M) fun r_4 M_2 =>
  some (r_4, M_2)) else (if x3 = 2 then (bi (f_X4_readGateName N p1 p2 M) fun r_8 M_6 =>
  some (r_8, M_6)) else (if x3 = 3 then (bi (f_X4_readGateName N p1 p2 M) fun r_12 M_10 =>
  some (r_12, M_10)) else (if x3 = 4 then (bi (f_X8_takeNumber N (p1 + 2) (M.1 p1 1) 0 4 M) fun r_16 M_14 =>
  some (r_16, M_14)) else (if x3 = 5 then (some (true, M)) else (if x3 = 6 then (some (true, M)) else (if x3 = 7 then (bi (f_X8_takeNumber N (p1 + 2) (M.1 p1 1) 1 99 M) fun r_22 M_20 =>
  some (r_22, M_20)) else (some (true, M))))))))
set_option maxRecDepth 20000 in
theorem t_X4_readRest {N : Nat} {p1 : Nat} {p2 : Nat} {x3 : Int32} (hp1 : Ob 0 111 p1 3) (hp2 : Ob 0 111 p2 5) {M : Mem} {q : Bool × Mem} (h : f_X4_readRest N p1 p2 x3 M = some q) : Ev 0 111 9 m_X4_readRest [.ref 87, .ref p1, .ref p2, .int x3] M (QB q) := by
  refine Ev_of_Fr (by decide +kernel) (Nat.le_of_ble_eq_true rfl) ?_
  show Fr 0 111 9 m_X4_readRest 0 [(0, .ref 87), (1, .ref p1), (2, .ref p2), (3, .int x3)] [] M (QB q)
  unfold f_X4_readRest at h
  refine Fr_iload_n (q := 3) (i := 3) 3 (by decide +kernel) rfl rfl ?_
  by_cases hs_1 : x3 = 1
  · have h := iT hs_1 h
    refine Fr_tabIn (dflt := 106) (lo := 1) (hi := 7) (offs := #[43, 62, 62, 69, 106, 106, 87]) (len := 43) (off := 43) 44 (by decide +kernel) (by rw [hs_1]; decide) (by rw [hs_1]; decide) (by rw [hs_1]; rfl) (by decide) ?_
    refine Fr_aload_n (q := 0) (i := 0) 0 (by decide +kernel) rfl rfl ?_
    refine gf_X4_18 rfl (by decide +kernel) ob_87 ?_
    refine Fr_aload_n (q := 1) (i := 1) 1 (by decide +kernel) rfl rfl ?_
    refine gf_X4_114 rfl (by decide +kernel) hp1 ?_
    refine Fr_aload_n (q := 1) (i := 1) 1 (by decide +kernel) rfl rfl ?_
    refine gf_X4_72 rfl (by decide +kernel) hp1 ?_
    refine Fr_iconst (i := 1) (v := 1) (by decide +kernel) (by decide) ?_
    refine Fr_bipush (i := 24) (v := 24) (by decide +kernel) (by decide) ?_
    obtain ⟨r_4, M_2, hc_3, h⟩ := bi_elim h
    refine Fr_cVb (ν := m_X8_takeNumber) (As := [.ref (p1 + 2), .int (M.1 p1 1), .int 1, .int 24]) (st := []) (rc := 82) (ci := 8) (d' := 1) (by decide +kernel) ml_X4_117 cv_X8_takeNumber rfl (by decide) rfl ob_82 rfl (by decide) (Nat.le_of_ble_eq_true rfl) (t_X8_takeNumber (o3_2 hp1) hc_3) ?_
    obtain rfl := Option.some.inj h
    exact Fr_zret (by decide +kernel) rfl (nz_b r_4) ⟨rfl, rfl⟩
  have h := iF hs_1 h
  by_cases hs_5 : x3 = 2
  · have h := iT hs_5 h
    refine Fr_tabIn (dflt := 106) (lo := 1) (hi := 7) (offs := #[43, 62, 62, 69, 106, 106, 87]) (len := 43) (off := 62) 63 (by decide +kernel) (by rw [hs_5]; decide) (by rw [hs_5]; decide) (by rw [hs_5]; rfl) (by decide) ?_
    refine Fr_aload_n (q := 0) (i := 0) 0 (by decide +kernel) rfl rfl ?_
    refine Fr_aload_n (q := 1) (i := 1) 1 (by decide +kernel) rfl rfl ?_
    refine Fr_aload_n (q := 2) (i := 2) 2 (by decide +kernel) rfl rfl ?_
    obtain ⟨r_8, M_6, hc_7, h⟩ := bi_elim h
    refine Fr_cVb (ν := m_X4_readGateName) (As := [.ref p1, .ref p2]) (st := []) (rc := 87) (ci := 4) (d' := 8) (by decide +kernel) ml_X4_121 cv_X4_readGateName rfl (by decide) rfl ob_87 rfl (by decide) (Nat.le_of_ble_eq_true rfl) (t_X4_readGateName hp1 hp2 hc_7) ?_
    obtain rfl := Option.some.inj h
    exact Fr_zret (by decide +kernel) rfl (nz_b r_8) ⟨rfl, rfl⟩
  have h := iF hs_5 h
  by_cases hs_9 : x3 = 3
  · have h := iT hs_9 h
    refine Fr_tabIn (dflt := 106) (lo := 1) (hi := 7) (offs := #[43, 62, 62, 69, 106, 106, 87]) (len := 43) (off := 62) 63 (by decide +kernel) (by rw [hs_9]; decide) (by rw [hs_9]; decide) (by rw [hs_9]; rfl) (by decide) ?_
    refine Fr_aload_n (q := 0) (i := 0) 0 (by decide +kernel) rfl rfl ?_
    refine Fr_aload_n (q := 1) (i := 1) 1 (by decide +kernel) rfl rfl ?_
    refine Fr_aload_n (q := 2) (i := 2) 2 (by decide +kernel) rfl rfl ?_
    obtain ⟨r_12, M_10, hc_11, h⟩ := bi_elim h
    refine Fr_cVb (ν := m_X4_readGateName) (As := [.ref p1, .ref p2]) (st := []) (rc := 87) (ci := 4) (d' := 8) (by decide +kernel) ml_X4_121 cv_X4_readGateName rfl (by decide) rfl ob_87 rfl (by decide) (Nat.le_of_ble_eq_true rfl) (t_X4_readGateName hp1 hp2 hc_11) ?_
    obtain rfl := Option.some.inj h
    exact Fr_zret (by decide +kernel) rfl (nz_b r_12) ⟨rfl, rfl⟩
  have h := iF hs_9 h
  by_cases hs_13 : x3 = 4
  · have h := iT hs_13 h
    refine Fr_tabIn (dflt := 106) (lo := 1) (hi := 7) (offs := #[43, 62, 62, 69, 106, 106, 87]) (len := 43) (off := 69) 70 (by decide +kernel) (by rw [hs_13]; decide) (by rw [hs_13]; decide) (by rw [hs_13]; rfl) (by decide) ?_
    refine Fr_aload_n (q := 0) (i := 0) 0 (by decide +kernel) rfl rfl ?_
    refine gf_X4_18 rfl (by decide +kernel) ob_87 ?_
    refine Fr_aload_n (q := 1) (i := 1) 1 (by decide +kernel) rfl rfl ?_
    refine gf_X4_114 rfl (by decide +kernel) hp1 ?_
    refine Fr_aload_n (q := 1) (i := 1) 1 (by decide +kernel) rfl rfl ?_
    refine gf_X4_72 rfl (by decide +kernel) hp1 ?_
    refine Fr_iconst (i := 0) (v := 0) (by decide +kernel) (by decide) ?_
    refine Fr_iconst (i := 4) (v := 4) (by decide +kernel) (by decide) ?_
    obtain ⟨r_16, M_14, hc_15, h⟩ := bi_elim h
    refine Fr_cVb (ν := m_X8_takeNumber) (As := [.ref (p1 + 2), .int (M.1 p1 1), .int 0, .int 4]) (st := []) (rc := 82) (ci := 8) (d' := 1) (by decide +kernel) ml_X4_117 cv_X8_takeNumber rfl (by decide) rfl ob_82 rfl (by decide) (Nat.le_of_ble_eq_true rfl) (t_X8_takeNumber (o3_2 hp1) hc_15) ?_
    obtain rfl := Option.some.inj h
    exact Fr_zret (by decide +kernel) rfl (nz_b r_16) ⟨rfl, rfl⟩
  have h := iF hs_13 h
  by_cases hs_17 : x3 = 5
  · have h := iT hs_17 h
    refine Fr_tabIn (dflt := 106) (lo := 1) (hi := 7) (offs := #[43, 62, 62, 69, 106, 106, 87]) (len := 43) (off := 106) 107 (by decide +kernel) (by rw [hs_17]; decide) (by rw [hs_17]; decide) (by rw [hs_17]; rfl) (by decide) ?_
    refine Fr_iconst (i := 1) (v := 1) (by decide +kernel) (by decide) ?_
    obtain rfl := Option.some.inj h
    exact Fr_zret (by decide +kernel) rfl (by decide) ⟨rfl, rfl⟩
  have h := iF hs_17 h
  by_cases hs_18 : x3 = 6
  · have h := iT hs_18 h
    refine Fr_tabIn (dflt := 106) (lo := 1) (hi := 7) (offs := #[43, 62, 62, 69, 106, 106, 87]) (len := 43) (off := 106) 107 (by decide +kernel) (by rw [hs_18]; decide) (by rw [hs_18]; decide) (by rw [hs_18]; rfl) (by decide) ?_
    refine Fr_iconst (i := 1) (v := 1) (by decide +kernel) (by decide) ?_
    obtain rfl := Option.some.inj h
    exact Fr_zret (by decide +kernel) rfl (by decide) ⟨rfl, rfl⟩
  have h := iF hs_18 h
  by_cases hs_19 : x3 = 7
  · have h := iT hs_19 h
    refine Fr_tabIn (dflt := 106) (lo := 1) (hi := 7) (offs := #[43, 62, 62, 69, 106, 106, 87]) (len := 43) (off := 87) 88 (by decide +kernel) (by rw [hs_19]; decide) (by rw [hs_19]; decide) (by rw [hs_19]; rfl) (by decide) ?_
    refine Fr_aload_n (q := 0) (i := 0) 0 (by decide +kernel) rfl rfl ?_
    refine gf_X4_18 rfl (by decide +kernel) ob_87 ?_
    refine Fr_aload_n (q := 1) (i := 1) 1 (by decide +kernel) rfl rfl ?_
    refine gf_X4_114 rfl (by decide +kernel) hp1 ?_
    refine Fr_aload_n (q := 1) (i := 1) 1 (by decide +kernel) rfl rfl ?_
    refine gf_X4_72 rfl (by decide +kernel) hp1 ?_
    refine Fr_iconst (i := 1) (v := 1) (by decide +kernel) (by decide) ?_
    refine Fr_bipush (i := 99) (v := 99) (by decide +kernel) (by decide) ?_
    obtain ⟨r_22, M_20, hc_21, h⟩ := bi_elim h
    refine Fr_cVb (ν := m_X8_takeNumber) (As := [.ref (p1 + 2), .int (M.1 p1 1), .int 1, .int 99]) (st := []) (rc := 82) (ci := 8) (d' := 1) (by decide +kernel) ml_X4_117 cv_X8_takeNumber rfl (by decide) rfl ob_82 rfl (by decide) (Nat.le_of_ble_eq_true rfl) (t_X8_takeNumber (o3_2 hp1) hc_21) ?_
    obtain rfl := Option.some.inj h
    exact Fr_zret (by decide +kernel) rfl (nz_b r_22) ⟨rfl, rfl⟩
  have h := iF hs_19 h
  have hhs_1 := lv_neT (a := 1) hs_1 (by decide)
  have hhs_5 := lv_neT (a := 2) hs_5 (by decide)
  have hhs_9 := lv_neT (a := 3) hs_9 (by decide)
  have hhs_13 := lv_neT (a := 4) hs_13 (by decide)
  have hhs_17 := lv_neT (a := 5) hs_17 (by decide)
  have hhs_18 := lv_neT (a := 6) hs_18 (by decide)
  have hhs_19 := lv_neT (a := 7) hs_19 (by decide)
  refine Fr_tabOut (dflt := 106) (lo := 1) (hi := 7) (offs := #[43, 62, 62, 69, 106, 106, 87]) (len := 43) 107 (by decide +kernel) (by omega) (by decide) ?_
  refine Fr_iconst (i := 1) (v := 1) (by decide +kernel) (by decide) ?_
  obtain rfl := Option.some.inj h
  exact Fr_zret (by decide +kernel) rfl (by decide) ⟨rfl, rfl⟩
def f_X4_readStep_b163 (N : Nat) (p1 : Nat) (p2 : Nat) (M : Mem) : Option (Bool × Mem) :=
  bM (uI M p1 1 ((M.1 p1 1) + 1)) fun M_17 =>
  bM (uI M_17 p1 2 ((M_17.1 p1 2) + 1)) fun M_18 =>
  bi (f_X8_takeSemicolon N M_18) fun r_21 M_19 =>
  some (r_21, M_19)
set_option maxRecDepth 20000 in
theorem t_X4_readStep_b163 {N : Nat} {p1 : Nat} {p2 : Nat} (hp1 : Ob 0 111 p1 3) (hp2 : Ob 0 111 p2 5) {q : Bool × Mem} {M : Mem} (h : f_X4_readStep_b163 N p1 p2 M = some q) : Fr 0 111 10 m_X4_readStep 163 [(0, .ref 87), (1, .ref p1)] [] M (QB q) := by
  unfold f_X4_readStep_b163 at h
  refine Fr_aload_n (q := 1) (i := 1) 1 (by decide +kernel) rfl rfl ?_
  refine Fr_dup (by decide +kernel) rfl ?_
  refine gf_X4_72 rfl (by decide +kernel) hp1 ?_
  refine Fr_iconst (i := 1) (v := 1) (by decide +kernel) (by decide) ?_
  refine Fr_iadd (by decide +kernel) ?_
  refine pf_X4_72 rfl (by decide +kernel) hp1 ?_
  obtain ⟨M_17, eM_17, h⟩ := bM_elim h
  refine Fr_mem eM_17 ?_
  refine Fr_aload_n (q := 1) (i := 1) 1 (by decide +kernel) rfl rfl ?_
  refine Fr_dup (by decide +kernel) rfl ?_
  refine gf_X4_88 rfl (by decide +kernel) hp1 ?_
  refine Fr_iconst (i := 1) (v := 1) (by decide +kernel) (by decide) ?_
  refine Fr_iadd (by decide +kernel) ?_
  refine pf_X4_88 rfl (by decide +kernel) hp1 ?_
  obtain ⟨M_18, eM_18, h⟩ := bM_elim h
  refine Fr_mem eM_18 ?_
  refine Fr_aload_n (q := 0) (i := 0) 0 (by decide +kernel) rfl rfl ?_
  refine gf_X4_18 rfl (by decide +kernel) ob_87 ?_
  obtain ⟨r_21, M_19, hc_20, h⟩ := bi_elim h
  refine Fr_cVb (ν := m_X8_takeSemicolon) (As := []) (st := []) (rc := 82) (ci := 8) (d' := 1) (by decide +kernel) ml_X4_81 cv_X8_takeSemicolon rfl (by decide) rfl ob_82 rfl (by decide) (Nat.le_of_ble_eq_true rfl) (t_X8_takeSemicolon hc_20) ?_
  obtain rfl := Option.some.inj h
  exact Fr_zret (by decide +kernel) rfl (nz_b r_21) ⟨rfl, rfl⟩
def f_X4_readStep_b126 (N : Nat) (p1 : Nat) (p2 : Nat) (v4 : Int32) (s0 : Int32) (M : Mem) : Option (Bool × Mem) :=
  if s0 = 0 then (some (false, M)) else (if v4 = 0 then (f_X4_readStep_b163 N p1 p2 M) else (ck (M.1 87 3) 3 (
  bM (uI M 88 (tn (M.1 87 3)) (M.1 p1 1)) fun M_23 =>
  bM (uI M_23 87 3 ((M_23.1 87 3) + 1)) fun M_24 =>
  f_X4_readStep_b163 N p1 p2 M_24)))
set_option maxRecDepth 20000 in
theorem t_X4_readStep_b126 {N : Nat} {p1 : Nat} {p2 : Nat} (hp1 : Ob 0 111 p1 3) (hp2 : Ob 0 111 p2 5) {q : Bool × Mem} {v4 : Int32} {s0 : Int32} {M : Mem} (h : f_X4_readStep_b126 N p1 p2 v4 s0 M = some q) : Fr 0 111 10 m_X4_readStep 126 [(0, .ref 87), (1, .ref p1), (4, .int v4)] [.int s0] M (QB q) := by
  unfold f_X4_readStep_b126 at h
  refine Fr_istore (i := 5) (lv' := [(5, .int s0), (0, .ref 87), (1, .ref p1), (4, .int v4)]) (by decide +kernel) (by decide) rfl ?_
  refine Fr_iload (i := 5) 0 (by decide +kernel) rfl ?_
  refine Fr_if_ne (off := 5) 135 (by decide +kernel) (by decide) (fun hc => ?_) (fun hc => ?_)
  · have h := iF hc h
    refine Fr_iload (i := 4) 3 (by decide +kernel) rfl ?_
    refine Fr_if_eq (off := 26) 163 (by decide +kernel) (by decide) (fun hc => ?_) (fun hc => ?_)
    · have h := iT hc h
      refine Fr_loc [1, 2] rfl ?_
      exact t_X4_readStep_b163 hp1 hp2 h
    · have h := iF hc h
      refine Fr_aload_n (q := 0) (i := 0) 1 (by decide +kernel) rfl rfl ?_
      refine gf_X4_11 rfl (by decide +kernel) ob_87 ?_
      refine Fr_aload_n (q := 0) (i := 0) 1 (by decide +kernel) rfl rfl ?_
      refine gf_X4_31 rfl (by decide +kernel) ob_87 ?_
      refine Fr_aload_n (q := 1) (i := 1) 2 (by decide +kernel) rfl rfl ?_
      refine gf_X4_72 rfl (by decide +kernel) hp1 ?_
      obtain ⟨hi_22, h⟩ := ck_elim h
      refine Fr_iast (by decide +kernel) ob_88 (vp_of ln_88 hi_22) ?_
      obtain ⟨M_23, eM_23, h⟩ := bM_elim h
      refine Fr_mem eM_23 ?_
      refine Fr_aload_n (q := 0) (i := 0) 1 (by decide +kernel) rfl rfl ?_
      refine Fr_dup (by decide +kernel) rfl ?_
      refine gf_X4_31 rfl (by decide +kernel) ob_87 ?_
      refine Fr_iconst (i := 1) (v := 1) (by decide +kernel) (by decide) ?_
      refine Fr_iadd (by decide +kernel) ?_
      refine pf_X4_31 rfl (by decide +kernel) ob_87 ?_
      obtain ⟨M_24, eM_24, h⟩ := bM_elim h
      refine Fr_mem eM_24 ?_
      refine Fr_loc [1, 2] rfl ?_
      exact t_X4_readStep_b163 hp1 hp2 h
  · have h := iT hc h
    refine Fr_iconst (i := 0) (v := 0) (by decide +kernel) (by decide) ?_
    obtain rfl := Option.some.inj h
    exact Fr_zret (by decide +kernel) rfl (by decide) ⟨rfl, rfl⟩
def f_X4_readStep_b87 (N : Nat) (p1 : Nat) (p2 : Nat) (v3 : Int32) (v4 : Int32) (M : Mem) : Option (Bool × Mem) :=
  bv (f_X8_advance N M) fun M_10 =>
  ck (M_10.1 p1 1) 60 (
  bM (uI M_10 (p1 + 1) (tn (M_10.1 p1 1)) v3) fun M_13 =>
  if v3 = 8 then (bi (f_X4_readTest N p1 p2 M_13) fun r_27 M_25 =>
  f_X4_readStep_b126 N p1 p2 v4 (b2i r_27) M_25) else (bi (f_X4_readRest N p1 p2 v3 M_13) fun r_16 M_14 =>
  f_X4_readStep_b126 N p1 p2 v4 (b2i r_16) M_14))
set_option maxRecDepth 20000 in
theorem t_X4_readStep_b87 {N : Nat} {p1 : Nat} {p2 : Nat} (hp1 : Ob 0 111 p1 3) (hp2 : Ob 0 111 p2 5) {q : Bool × Mem} {v3 : Int32} {v4 : Int32} {M : Mem} (h : f_X4_readStep_b87 N p1 p2 v3 v4 M = some q) : Fr 0 111 10 m_X4_readStep 87 [(0, .ref 87), (1, .ref p1), (2, .ref p2), (3, .int v3), (4, .int v4)] [] M (QB q) := by
  unfold f_X4_readStep_b87 at h
  refine Fr_aload_n (q := 0) (i := 0) 0 (by decide +kernel) rfl rfl ?_
  refine gf_X4_18 rfl (by decide +kernel) ob_87 ?_
  obtain ⟨M_10, hc_11, h⟩ := bv_elim h
  refine Fr_cVv (ν := m_X8_advance) (As := []) (st := []) (rc := 82) (ci := 8) (d' := 0) (by decide +kernel) ml_X4_69 cv_X8_advance rfl (by decide) rfl ob_82 rfl (by decide) (Nat.le_of_ble_eq_true rfl) (t_X8_advance hc_11) ?_
  refine Fr_aload_n (q := 1) (i := 1) 1 (by decide +kernel) rfl rfl ?_
  refine gf_X4_75 rfl (by decide +kernel) hp1 ?_
  refine Fr_aload_n (q := 1) (i := 1) 1 (by decide +kernel) rfl rfl ?_
  refine gf_X4_72 rfl (by decide +kernel) hp1 ?_
  refine Fr_iload_n (q := 3) (i := 3) 3 (by decide +kernel) rfl rfl ?_
  obtain ⟨hi_12, h⟩ := ck_elim h
  refine Fr_iast (by decide +kernel) (o3_1 hp1) (vp_of (n3_1 hp1) hi_12) ?_
  obtain ⟨M_13, eM_13, h⟩ := bM_elim h
  refine Fr_mem eM_13 ?_
  refine Fr_iload_n (q := 3) (i := 3) 3 (by decide +kernel) rfl rfl ?_
  refine Fr_bipush (i := 8) (v := 8) (by decide +kernel) (by decide) ?_
  refine Fr_icmp_ne (off := 12) 119 (by decide +kernel) (by decide) (fun hc => ?_) (fun hc => ?_)
  · have h := iF hc h
    refine Fr_aload_n (q := 0) (i := 0) 0 (by decide +kernel) rfl rfl ?_
    refine Fr_aload_n (q := 1) (i := 1) 1 (by decide +kernel) rfl rfl ?_
    refine Fr_aload_n (q := 2) (i := 2) 2 (by decide +kernel) rfl rfl ?_
    refine Fr_iload_n (q := 3) (i := 3) 3 (by decide +kernel) rfl rfl ?_
    obtain ⟨r_16, M_14, hc_15, h⟩ := bi_elim h
    refine Fr_cVb (ν := m_X4_readRest) (As := [.ref p1, .ref p2, .int v3]) (st := []) (rc := 87) (ci := 4) (d' := 9) (by decide +kernel) ml_X4_94 cv_X4_readRest rfl (by decide) rfl ob_87 rfl (by decide) (Nat.le_of_ble_eq_true rfl) (t_X4_readRest hp1 hp2 hc_15) ?_
    refine Fr_loc [0, 1, 4] rfl ?_
    exact t_X4_readStep_b126 hp1 hp2 h
  · have h := iT hc h
    refine Fr_aload_n (q := 0) (i := 0) 0 (by decide +kernel) rfl rfl ?_
    refine Fr_aload_n (q := 1) (i := 1) 1 (by decide +kernel) rfl rfl ?_
    refine Fr_aload_n (q := 2) (i := 2) 2 (by decide +kernel) rfl rfl ?_
    obtain ⟨r_27, M_25, hc_26, h⟩ := bi_elim h
    refine Fr_cVb (ν := m_X4_readTest) (As := [.ref p1, .ref p2]) (st := []) (rc := 87) (ci := 4) (d' := 9) (by decide +kernel) ml_X4_91 cv_X4_readTest rfl (by decide) rfl ob_87 rfl (by decide) (Nat.le_of_ble_eq_true rfl) (t_X4_readTest hp1 hp2 hc_26) ?_
    refine Fr_goto (off := 10) 126 (by decide +kernel) (by decide) ?_
    refine Fr_loc [0, 1, 4] rfl ?_
    exact t_X4_readStep_b126 hp1 hp2 h
def f_X4_readStep_b62 (N : Nat) (p1 : Nat) (p2 : Nat) (v3 : Int32) (s0 : Int32) (M : Mem) : Option (Bool × Mem) :=
  if s0 = 0 then (f_X4_readStep_b87 N p1 p2 v3 s0 M) else (if (M.1 87 3) < 3 then (f_X4_readStep_b87 N p1 p2 v3 s0 M) else (bi (f_X8_refuse 7 M) fun r_30 M_28 =>
  some (r_30, M_28)))
set_option maxRecDepth 20000 in
theorem t_X4_readStep_b62 {N : Nat} {p1 : Nat} {p2 : Nat} (hp1 : Ob 0 111 p1 3) (hp2 : Ob 0 111 p2 5) {q : Bool × Mem} {v3 : Int32} {s0 : Int32} {M : Mem} (h : f_X4_readStep_b62 N p1 p2 v3 s0 M = some q) : Fr 0 111 10 m_X4_readStep 62 [(0, .ref 87), (1, .ref p1), (2, .ref p2), (3, .int v3)] [.int s0] M (QB q) := by
  unfold f_X4_readStep_b62 at h
  refine Fr_istore (i := 4) (lv' := [(4, .int s0), (0, .ref 87), (1, .ref p1), (2, .ref p2), (3, .int v3)]) (by decide +kernel) (by decide) rfl ?_
  refine Fr_iload (i := 4) 0 (by decide +kernel) rfl ?_
  refine Fr_if_eq (off := 21) 87 (by decide +kernel) (by decide) (fun hc => ?_) (fun hc => ?_)
  · have h := iT hc h
    refine Fr_loc [1, 2, 3, 4, 0] rfl ?_
    exact t_X4_readStep_b87 hp1 hp2 h
  · have h := iF hc h
    refine Fr_aload_n (q := 0) (i := 0) 1 (by decide +kernel) rfl rfl ?_
    refine gf_X4_31 rfl (by decide +kernel) ob_87 ?_
    refine Fr_iconst (i := 3) (v := 3) (by decide +kernel) (by decide) ?_
    refine Fr_icmp_lt (off := 13) 87 (by decide +kernel) (by decide) (fun hc => ?_) (fun hc => ?_)
    · have h := iT hc h
      refine Fr_loc [1, 2, 3, 4, 0] rfl ?_
      exact t_X4_readStep_b87 hp1 hp2 h
    · have h := iF hc h
      refine Fr_aload_n (q := 0) (i := 0) 1 (by decide +kernel) rfl rfl ?_
      refine gf_X4_18 rfl (by decide +kernel) ob_87 ?_
      refine Fr_bipush (i := 7) (v := 7) (by decide +kernel) (by decide) ?_
      obtain ⟨r_30, M_28, hc_29, h⟩ := bi_elim h
      refine Fr_cVb (ν := m_X8_refuse) (As := [.int 7]) (st := []) (rc := 82) (ci := 8) (d' := 0) (by decide +kernel) ml_X4_59 cv_X8_refuse rfl (by decide) rfl ob_82 rfl (by decide) (Nat.le_of_ble_eq_true rfl) (t_X8_refuse hc_29) ?_
      obtain rfl := Option.some.inj h
      exact Fr_zret (by decide +kernel) rfl (nz_b r_30) ⟨rfl, rfl⟩
def f_X4_readStep_b57 (N : Nat) (p1 : Nat) (p2 : Nat) (v3 : Int32) (M : Mem) : Option (Bool × Mem) :=
  f_X4_readStep_b62 N p1 p2 v3 1 M
set_option maxRecDepth 20000 in
theorem t_X4_readStep_b57 {N : Nat} {p1 : Nat} {p2 : Nat} (hp1 : Ob 0 111 p1 3) (hp2 : Ob 0 111 p2 5) {q : Bool × Mem} {v3 : Int32} {M : Mem} (h : f_X4_readStep_b57 N p1 p2 v3 M = some q) : Fr 0 111 10 m_X4_readStep 57 [(0, .ref 87), (1, .ref p1), (2, .ref p2), (3, .int v3)] [] M (QB q) := by
  unfold f_X4_readStep_b57 at h
  refine Fr_iconst (i := 1) (v := 1) (by decide +kernel) (by decide) ?_
  refine Fr_goto (off := 4) 62 (by decide +kernel) (by decide) ?_
  exact t_X4_readStep_b62 hp1 hp2 h
def f_X4_readStep (N : Nat) (p1 : Nat) (p2 : Nat) (M : Mem) : Option (Bool × Mem) :=
  bi (f_X4_sortOfWord N M) fun r_3 M_1 =>
  if r_3 = (-1) then (bi (f_X8_refuse 2 M_1) fun r_36 M_34 =>
  some (r_36, M_34)) else (if 30 ≤ (M_1.1 p1 2) then (bi (f_X8_refuse 6 M_1) fun r_6 M_4 =>
  some (r_6, M_4)) else (bi (f_X3_isFull p1 M_1) fun r_9 M_7 =>
  if (b2i r_9) = 0 then (if r_3 = 7 then (f_X4_readStep_b57 N p1 p2 r_3 M_7) else (if r_3 = 8 then (f_X4_readStep_b57 N p1 p2 r_3 M_7) else (f_X4_readStep_b62 N p1 p2 r_3 0 M_7))) else (bi (f_X8_refuse 6 M_7) fun r_33 M_31 =>
  some (r_33, M_31))))
set_option maxRecDepth 20000 in
theorem t_X4_readStep {N : Nat} {p1 : Nat} {p2 : Nat} (hp1 : Ob 0 111 p1 3) (hp2 : Ob 0 111 p2 5) {M : Mem} {q : Bool × Mem} (h : f_X4_readStep N p1 p2 M = some q) : Ev 0 111 10 m_X4_readStep [.ref 87, .ref p1, .ref p2] M (QB q) := by
  refine Ev_of_Fr (by decide +kernel) (Nat.le_of_ble_eq_true rfl) ?_
  show Fr 0 111 10 m_X4_readStep 0 [(0, .ref 87), (1, .ref p1), (2, .ref p2)] [] M (QB q)
  unfold f_X4_readStep at h
  refine Fr_aload_n (q := 0) (i := 0) 0 (by decide +kernel) rfl rfl ?_
  obtain ⟨r_3, M_1, hc_2, h⟩ := bi_elim h
  refine Fr_cVi (ν := m_X4_sortOfWord) (As := []) (st := []) (rc := 87) (ci := 4) (d' := 8) (by decide +kernel) ml_X4_84 cv_X4_sortOfWord rfl (by decide) rfl ob_87 rfl (by decide) (Nat.le_of_ble_eq_true rfl) (t_X4_sortOfWord hc_2) ?_
  refine Fr_istore_n (q := 3) (i := 3) (lv' := [(3, .int r_3), (0, .ref 87), (1, .ref p1), (2, .ref p2)]) (by decide +kernel) rfl (by decide) rfl ?_
  refine Fr_iload_n (q := 3) (i := 3) 0 (by decide +kernel) rfl rfl ?_
  refine Fr_iconst (i := (-1)) (v := (-1)) (by decide +kernel) (by decide) ?_
  refine Fr_icmp_ne (off := 12) 19 (by decide +kernel) (by decide) (fun hc => ?_) (fun hc => ?_)
  · have h := iF hc h
    refine Fr_aload_n (q := 1) (i := 1) 2 (by decide +kernel) rfl rfl ?_
    refine gf_X4_88 rfl (by decide +kernel) hp1 ?_
    refine Fr_bipush (i := 30) (v := 30) (by decide +kernel) (by decide) ?_
    refine Fr_icmp_ge (off := 10) 35 (by decide +kernel) (by decide) (fun hc => ?_) (fun hc => ?_)
    · have h := iT hc h
      refine Fr_aload_n (q := 0) (i := 0) 1 (by decide +kernel) rfl rfl ?_
      refine gf_X4_18 rfl (by decide +kernel) ob_87 ?_
      refine Fr_bipush (i := 6) (v := 6) (by decide +kernel) (by decide) ?_
      obtain ⟨r_6, M_4, hc_5, h⟩ := bi_elim h
      refine Fr_cVb (ν := m_X8_refuse) (As := [.int 6]) (st := []) (rc := 82) (ci := 8) (d' := 0) (by decide +kernel) ml_X4_59 cv_X8_refuse rfl (by decide) rfl ob_82 rfl (by decide) (Nat.le_of_ble_eq_true rfl) (t_X8_refuse hc_5) ?_
      obtain rfl := Option.some.inj h
      exact Fr_zret (by decide +kernel) rfl (nz_b r_6) ⟨rfl, rfl⟩
    · have h := iF hc h
      refine Fr_aload_n (q := 1) (i := 1) 2 (by decide +kernel) rfl rfl ?_
      obtain ⟨r_9, M_7, hc_8, h⟩ := bi_elim h
      refine Fr_cVb (ν := m_X3_isFull) (As := []) (st := []) (rc := p1) (ci := 3) (d' := 0) (by decide +kernel) ml_X4_66 cv_X3_isFull rfl (by decide) rfl hp1 rfl (by decide) (Nat.le_of_ble_eq_true rfl) (t_X3_isFull hp1 hc_8) ?_
      refine Fr_if_eq (off := 13) 45 (by decide +kernel) (by decide) (fun hc => ?_) (fun hc => ?_)
      · have h := iT hc h
        refine Fr_iload_n (q := 3) (i := 3) 0 (by decide +kernel) rfl rfl ?_
        refine Fr_bipush (i := 7) (v := 7) (by decide +kernel) (by decide) ?_
        refine Fr_icmp_eq (off := 9) 57 (by decide +kernel) (by decide) (fun hc => ?_) (fun hc => ?_)
        · have h := iT hc h
          refine Fr_loc [1, 2, 3, 0] rfl ?_
          exact t_X4_readStep_b57 hp1 hp2 h
        · have h := iF hc h
          refine Fr_iload_n (q := 3) (i := 3) 0 (by decide +kernel) rfl rfl ?_
          refine Fr_bipush (i := 8) (v := 8) (by decide +kernel) (by decide) ?_
          refine Fr_icmp_ne (off := 7) 61 (by decide +kernel) (by decide) (fun hc => ?_) (fun hc => ?_)
          · have h := iF hc h
            refine Fr_iconst (i := 0) (v := 0) (by decide +kernel) (by decide) ?_
            refine Fr_loc [1, 2, 3, 0] rfl ?_
            exact t_X4_readStep_b62 hp1 hp2 h
          · have h := iT hc h
            refine Fr_loc [1, 2, 3, 0] rfl ?_
            exact t_X4_readStep_b57 hp1 hp2 h
      · have h := iF hc h
        refine Fr_aload_n (q := 0) (i := 0) 1 (by decide +kernel) rfl rfl ?_
        refine gf_X4_18 rfl (by decide +kernel) ob_87 ?_
        refine Fr_bipush (i := 6) (v := 6) (by decide +kernel) (by decide) ?_
        obtain ⟨r_33, M_31, hc_32, h⟩ := bi_elim h
        refine Fr_cVb (ν := m_X8_refuse) (As := [.int 6]) (st := []) (rc := 82) (ci := 8) (d' := 0) (by decide +kernel) ml_X4_59 cv_X8_refuse rfl (by decide) rfl ob_82 rfl (by decide) (Nat.le_of_ble_eq_true rfl) (t_X8_refuse hc_32) ?_
        obtain rfl := Option.some.inj h
        exact Fr_zret (by decide +kernel) rfl (nz_b r_33) ⟨rfl, rfl⟩
  · have h := iT hc h
    refine Fr_aload_n (q := 0) (i := 0) 1 (by decide +kernel) rfl rfl ?_
    refine gf_X4_18 rfl (by decide +kernel) ob_87 ?_
    refine Fr_iconst (i := 2) (v := 2) (by decide +kernel) (by decide) ?_
    obtain ⟨r_36, M_34, hc_35, h⟩ := bi_elim h
    refine Fr_cVb (ν := m_X8_refuse) (As := [.int 2]) (st := []) (rc := 82) (ci := 8) (d' := 0) (by decide +kernel) ml_X4_59 cv_X8_refuse rfl (by decide) rfl ob_82 rfl (by decide) (Nat.le_of_ble_eq_true rfl) (t_X8_refuse hc_35) ?_
    obtain rfl := Option.some.inj h
    exact Fr_zret (by decide +kernel) rfl (nz_b r_36) ⟨rfl, rfl⟩
def f_X4_fill_b93 (N : Nat) (p1 : Nat) (p2 : Nat) (M : Mem) : Option (Bool × Mem) :=
  if (M.1 82 6) = 0 then (some (true, M)) else (some (false, M))
set_option maxRecDepth 20000 in
theorem t_X4_fill_b93 {N : Nat} {p1 : Nat} {p2 : Nat} (hp1 : Ob 0 111 p1 3) (hp2 : Ob 0 111 p2 5) {q : Bool × Mem} {M : Mem} (h : f_X4_fill_b93 N p1 p2 M = some q) : Fr 0 111 11 m_X4_fill 93 [(0, .ref 87)] [] M (QB q) := by
  unfold f_X4_fill_b93 at h
  refine Fr_aload_n (q := 0) (i := 0) 0 (by decide +kernel) rfl rfl ?_
  refine gf_X4_18 rfl (by decide +kernel) ob_87 ?_
  refine gf_X4_63 rfl (by decide +kernel) ob_82 ?_
  refine Fr_if_ne (off := 7) 107 (by decide +kernel) (by decide) (fun hc => ?_) (fun hc => ?_)
  · have h := iF hc h
    refine Fr_iconst (i := 0) (v := 0) (by decide +kernel) (by decide) ?_
    obtain rfl := Option.some.inj h
    exact Fr_zret (by decide +kernel) rfl (by decide) ⟨rfl, rfl⟩
  · have h := iT hc h
    refine Fr_iconst (i := 1) (v := 1) (by decide +kernel) (by decide) ?_
    refine Fr_goto (off := 4) 108 (by decide +kernel) (by decide) ?_
    obtain rfl := Option.some.inj h
    exact Fr_zret (by decide +kernel) rfl (by decide) ⟨rfl, rfl⟩
def f_X4_fill_b77 (N : Nat) (p1 : Nat) (p2 : Nat) (M : Mem) : Option (Bool × Mem) :=
  if (M.1 87 3) ≤ 0 then (f_X4_fill_b93 N p1 p2 M) else (bi (f_X8_refuse 2 M) fun r_9 M_7 =>
  f_X4_fill_b93 N p1 p2 M_7)
set_option maxRecDepth 20000 in
theorem t_X4_fill_b77 {N : Nat} {p1 : Nat} {p2 : Nat} (hp1 : Ob 0 111 p1 3) (hp2 : Ob 0 111 p2 5) {q : Bool × Mem} {M : Mem} (h : f_X4_fill_b77 N p1 p2 M = some q) : Fr 0 111 11 m_X4_fill 77 [(0, .ref 87)] [] M (QB q) := by
  unfold f_X4_fill_b77 at h
  refine Fr_aload_n (q := 0) (i := 0) 0 (by decide +kernel) rfl rfl ?_
  refine gf_X4_31 rfl (by decide +kernel) ob_87 ?_
  refine Fr_if_le (off := 12) 93 (by decide +kernel) (by decide) (fun hc => ?_) (fun hc => ?_)
  · have h := iT hc h
    exact t_X4_fill_b93 hp1 hp2 h
  · have h := iF hc h
    refine Fr_aload_n (q := 0) (i := 0) 0 (by decide +kernel) rfl rfl ?_
    refine gf_X4_18 rfl (by decide +kernel) ob_87 ?_
    refine Fr_iconst (i := 2) (v := 2) (by decide +kernel) (by decide) ?_
    obtain ⟨r_9, M_7, hc_8, h⟩ := bi_elim h
    refine Fr_cVb (ν := m_X8_refuse) (As := [.int 2]) (st := []) (rc := 82) (ci := 8) (d' := 0) (by decide +kernel) ml_X4_59 cv_X8_refuse rfl (by decide) rfl ob_82 rfl (by decide) (Nat.le_of_ble_eq_true rfl) (t_X8_refuse hc_8) ?_
    refine Fr_pop (by decide +kernel) rfl ?_
    exact t_X4_fill_b93 hp1 hp2 h
def f_X4_fill_b71 (N : Nat) (p1 : Nat) (p2 : Nat) (k25 : Int32 → Mem → Option (Bool × Mem)) (v4 : Int32) (M : Mem) : Option (Bool × Mem) :=
  k25 (v4 + 1) M
set_option maxRecDepth 20000 in
theorem t_X4_fill_b71 {N : Nat} {p1 : Nat} {p2 : Nat} (hp1 : Ob 0 111 p1 3) (hp2 : Ob 0 111 p2 5) {q : Bool × Mem} {k25 : Int32 → Mem → Option (Bool × Mem)} (hk25 : ∀ (a : Int32) (M : Mem), k25 a M = some q → Fr 0 111 11 m_X4_fill 25 [(0, .ref 87), (1, .ref p1), (2, .ref p2), (4, .int a)] [] M (QB q)) {v4 : Int32} {M : Mem} (h : f_X4_fill_b71 N p1 p2 k25 v4 M = some q) : Fr 0 111 11 m_X4_fill 71 [(0, .ref 87), (1, .ref p1), (2, .ref p2), (4, .int v4)] [] M (QB q) := by
  unfold f_X4_fill_b71 at h
  refine Fr_iinc (i := 4) (j := 1) (v := (v4 + 1)) (lv' := [(4, .int (v4 + 1)), (0, .ref 87), (1, .ref p1), (2, .ref p2)]) 3 (by decide +kernel) rfl rfl (by decide) rfl ?_
  refine Fr_goto (off := (-49)) 25 (by decide +kernel) (by decide) ?_
  refine Fr_loc [1, 2, 3, 0] rfl ?_
  exact hk25 (v4 + 1) M h
def f_X4_fill_h25 (N : Nat) (p1 : Nat) (p2 : Nat) (k25 : Int32 → Mem → Option (Bool × Mem)) (v4 : Int32) (M : Mem) : Option (Bool × Mem) :=
  if 300 ≤ v4 then (f_X4_fill_b77 N p1 p2 M) else (bi (f_X8_isGoingOn M) fun r_12 M_10 =>
  if (b2i r_12) = 0 then (f_X4_fill_b77 N p1 p2 M_10) else (bi (f_X8_isWord N 21 M_10) fun r_15 M_13 =>
  if (b2i r_15) = 0 then (bi (f_X4_readStep N p1 p2 M_13) fun r_18 M_16 =>
  f_X4_fill_b71 N p1 p2 k25 v4 M_16) else (bi (f_X4_readEnd N p1 M_13) fun r_21 M_19 =>
  f_X4_fill_b71 N p1 p2 k25 v4 M_19)))
set_option maxRecDepth 20000 in
theorem t_X4_fill_h25 {N : Nat} {p1 : Nat} {p2 : Nat} (hp1 : Ob 0 111 p1 3) (hp2 : Ob 0 111 p2 5) {q : Bool × Mem} {k25 : Int32 → Mem → Option (Bool × Mem)} (hk25 : ∀ (a : Int32) (M : Mem), k25 a M = some q → Fr 0 111 11 m_X4_fill 25 [(0, .ref 87), (1, .ref p1), (2, .ref p2), (4, .int a)] [] M (QB q)) {v4 : Int32} {M : Mem} (h : f_X4_fill_h25 N p1 p2 k25 v4 M = some q) : Fr 0 111 11 m_X4_fill 25 [(0, .ref 87), (1, .ref p1), (2, .ref p2), (4, .int v4)] [] M (QB q) := by
  unfold f_X4_fill_h25 at h
  refine Fr_iload (i := 4) 3 (by decide +kernel) rfl ?_
  refine Fr_sipush (i := 300) (v := 300) (by decide +kernel) (by decide) ?_
  refine Fr_icmp_ge (off := 47) 77 (by decide +kernel) (by decide) (fun hc => ?_) (fun hc => ?_)
  · have h := iT hc h
    refine Fr_loc [0] rfl ?_
    exact t_X4_fill_b77 hp1 hp2 h
  · have h := iF hc h
    refine Fr_aload_n (q := 0) (i := 0) 0 (by decide +kernel) rfl rfl ?_
    refine gf_X4_18 rfl (by decide +kernel) ob_87 ?_
    obtain ⟨r_12, M_10, hc_11, h⟩ := bi_elim h
    refine Fr_cVb (ν := m_X8_isGoingOn) (As := []) (st := []) (rc := 82) (ci := 8) (d' := 0) (by decide +kernel) ml_X4_41 cv_X8_isGoingOn rfl (by decide) rfl ob_82 rfl (by decide) (Nat.le_of_ble_eq_true rfl) (t_X8_isGoingOn hc_11) ?_
    refine Fr_if_eq (off := 37) 77 (by decide +kernel) (by decide) (fun hc => ?_) (fun hc => ?_)
    · have h := iT hc h
      refine Fr_loc [0] rfl ?_
      exact t_X4_fill_b77 hp1 hp2 h
    · have h := iF hc h
      refine Fr_aload_n (q := 0) (i := 0) 0 (by decide +kernel) rfl rfl ?_
      refine gf_X4_18 rfl (by decide +kernel) ob_87 ?_
      refine Fr_ldcS (idx := 45) 21 (by decide +kernel) (by decide) rfl rfl ?_
      obtain ⟨r_15, M_13, hc_14, h⟩ := bi_elim h
      refine Fr_cVb (ν := m_X8_isWord) (As := [.ref (400 + 21)]) (st := []) (rc := 82) (ci := 8) (d' := 7) (by decide +kernel) ml_X4_47 cv_X8_isWord rfl (by decide) rfl ob_82 rfl (by decide) (Nat.le_of_ble_eq_true rfl) (t_X8_isWord (by decide) hc_14) ?_
      refine Fr_if_eq (off := 12) 64 (by decide +kernel) (by decide) (fun hc => ?_) (fun hc => ?_)
      · have h := iT hc h
        refine Fr_aload_n (q := 0) (i := 0) 0 (by decide +kernel) rfl rfl ?_
        refine Fr_aload_n (q := 1) (i := 1) 1 (by decide +kernel) rfl rfl ?_
        refine Fr_aload_n (q := 2) (i := 2) 2 (by decide +kernel) rfl rfl ?_
        obtain ⟨r_18, M_16, hc_17, h⟩ := bi_elim h
        refine Fr_cVb (ν := m_X4_readStep) (As := [.ref p1, .ref p2]) (st := []) (rc := 87) (ci := 4) (d' := 10) (by decide +kernel) ml_X4_55 cv_X4_readStep rfl (by decide) rfl ob_87 rfl (by decide) (Nat.le_of_ble_eq_true rfl) (t_X4_readStep hp1 hp2 hc_17) ?_
        refine Fr_pop (by decide +kernel) rfl ?_
        exact t_X4_fill_b71 hp1 hp2 hk25 h
      · have h := iF hc h
        refine Fr_aload_n (q := 0) (i := 0) 0 (by decide +kernel) rfl rfl ?_
        refine Fr_aload_n (q := 1) (i := 1) 1 (by decide +kernel) rfl rfl ?_
        obtain ⟨r_21, M_19, hc_20, h⟩ := bi_elim h
        refine Fr_cVb (ν := m_X4_readEnd) (As := [.ref p1]) (st := []) (rc := 87) (ci := 4) (d' := 2) (by decide +kernel) ml_X4_51 cv_X4_readEnd rfl (by decide) rfl ob_87 rfl (by decide) (Nat.le_of_ble_eq_true rfl) (t_X4_readEnd hp1 hc_20) ?_
        refine Fr_pop (by decide +kernel) rfl ?_
        refine Fr_goto (off := 10) 71 (by decide +kernel) (by decide) ?_
        exact t_X4_fill_b71 hp1 hp2 hk25 h
def f_X4_fill (N : Nat) (p1 : Nat) (p2 : Nat) (x3 : Int32) (M : Mem) : Option (Bool × Mem) :=
  bv (f_X3_clear p1 M) fun M_1 =>
  bM (uI M_1 p1 0 1) fun M_3 =>
  bM (uI M_3 87 3 0) fun M_4 =>
  bv (f_X8_begin N x3 M_4) fun M_5 =>
  lp (fun k a m => f_X4_fill_h25 N p1 p2 k a m) N 0 M_5
set_option maxRecDepth 20000 in
theorem t_X4_fill {N : Nat} {p1 : Nat} {p2 : Nat} {x3 : Int32} (hp1 : Ob 0 111 p1 3) (hp2 : Ob 0 111 p2 5) {M : Mem} {q : Bool × Mem} (h : f_X4_fill N p1 p2 x3 M = some q) : Ev 0 111 11 m_X4_fill [.ref 87, .ref p1, .ref p2, .int x3] M (QB q) := by
  refine Ev_of_Fr (by decide +kernel) (Nat.le_of_ble_eq_true rfl) ?_
  show Fr 0 111 11 m_X4_fill 0 [(0, .ref 87), (1, .ref p1), (2, .ref p2), (3, .int x3)] [] M (QB q)
  unfold f_X4_fill at h
  refine Fr_aload_n (q := 1) (i := 1) 1 (by decide +kernel) rfl rfl ?_
  obtain ⟨M_1, hc_2, h⟩ := bv_elim h
  refine Fr_cVv (ν := m_X3_clear) (As := []) (st := []) (rc := p1) (ci := 3) (d' := 0) (by decide +kernel) ml_X4_22 cv_X3_clear rfl (by decide) rfl hp1 rfl (by decide) (Nat.le_of_ble_eq_true rfl) (t_X3_clear hp1 hc_2) ?_
  refine Fr_aload_n (q := 1) (i := 1) 1 (by decide +kernel) rfl rfl ?_
  refine Fr_iconst (i := 1) (v := 1) (by decide +kernel) (by decide) ?_
  refine pf_X4_27 rfl (by decide +kernel) hp1 (by decide) ?_
  obtain ⟨M_3, eM_3, h⟩ := bM_elim h
  refine Fr_mem eM_3 ?_
  refine Fr_aload_n (q := 0) (i := 0) 0 (by decide +kernel) rfl rfl ?_
  refine Fr_iconst (i := 0) (v := 0) (by decide +kernel) (by decide) ?_
  refine pf_X4_31 rfl (by decide +kernel) ob_87 ?_
  obtain ⟨M_4, eM_4, h⟩ := bM_elim h
  refine Fr_mem eM_4 ?_
  refine Fr_aload_n (q := 0) (i := 0) 0 (by decide +kernel) rfl rfl ?_
  refine gf_X4_18 rfl (by decide +kernel) ob_87 ?_
  refine Fr_iload_n (q := 3) (i := 3) 3 (by decide +kernel) rfl rfl ?_
  obtain ⟨M_5, hc_6, h⟩ := bv_elim h
  refine Fr_cVv (ν := m_X8_begin) (As := [.int x3]) (st := []) (rc := 82) (ci := 8) (d' := 1) (by decide +kernel) ml_X4_35 cv_X8_begin rfl (by decide) rfl ob_82 rfl (by decide) (Nat.le_of_ble_eq_true rfl) (t_X8_begin hc_6) ?_
  refine Fr_iconst (i := 0) (v := 0) (by decide +kernel) (by decide) ?_
  refine Fr_istore (i := 4) (lv' := [(4, .int 0), (0, .ref 87), (1, .ref p1), (2, .ref p2), (3, .int x3)]) (by decide +kernel) (by decide) rfl ?_
  refine Fr_loc [1, 2, 3, 0] rfl ?_
  exact lp_sound (P := fun a M => Fr 0 111 11 m_X4_fill 25 [(0, .ref 87), (1, .ref p1), (2, .ref p2), (4, .int a)] [] M (QB q)) (fun k hk a m h => t_X4_fill_h25 hp1 hp2 hk h) N 0 M_5 h
def f_X5_clear (N : Nat) (p0 : Nat) (M : Mem) : Option (Mem) :=
  bM (uI M p0 0 0) fun M_1 =>
  bM (uI M_1 p0 1 0) fun M_2 =>
  bM (uI M_2 p0 2 0) fun M_3 =>
  bM (uI M_3 p0 3 1) fun M_4 =>
  bM (uI M_4 p0 4 10) fun M_5 =>
  bM (uI M_5 p0 5 0) fun M_6 =>
  bM (uI M_6 p0 6 0) fun M_7 =>
  bM (uI M_7 p0 7 0) fun M_8 =>
  bM (uI M_8 p0 8 0) fun M_9 =>
  bM (uI M_9 p0 9 0) fun M_10 =>
  bM (uI M_10 p0 10 0) fun M_11 =>
  bv (f_J7_fill_53178 N (p0 + 6) 0 M_11) fun M_12 =>
  bv (f_X3_clear (p0 + 7) M_12) fun M_14 =>
  some M_14
set_option maxRecDepth 20000 in
theorem t_X5_clear {N : Nat} {p0 : Nat} (hp0 : Ob 0 111 p0 5) {M : Mem} {q : Mem} (h : f_X5_clear N p0 M = some q) : Ev 0 111 1 m_X5_clear [.ref p0] M (QV q) := by
  refine Ev_of_Fr (by decide +kernel) (Nat.le_of_ble_eq_true rfl) ?_
  show Fr 0 111 1 m_X5_clear 0 [(0, .ref p0)] [] M (QV q)
  unfold f_X5_clear at h
  refine Fr_aload_n (q := 0) (i := 0) 0 (by decide +kernel) rfl rfl ?_
  refine Fr_iconst (i := 0) (v := 0) (by decide +kernel) (by decide) ?_
  refine pf_X5_45 rfl (by decide +kernel) hp0 ?_
  obtain ⟨M_1, eM_1, h⟩ := bM_elim h
  refine Fr_mem eM_1 ?_
  refine Fr_aload_n (q := 0) (i := 0) 0 (by decide +kernel) rfl rfl ?_
  refine Fr_iconst (i := 0) (v := 0) (by decide +kernel) (by decide) ?_
  refine pf_X5_48 rfl (by decide +kernel) hp0 ?_
  obtain ⟨M_2, eM_2, h⟩ := bM_elim h
  refine Fr_mem eM_2 ?_
  refine Fr_aload_n (q := 0) (i := 0) 0 (by decide +kernel) rfl rfl ?_
  refine Fr_iconst (i := 0) (v := 0) (by decide +kernel) (by decide) ?_
  refine pf_X5_51 rfl (by decide +kernel) hp0 ?_
  obtain ⟨M_3, eM_3, h⟩ := bM_elim h
  refine Fr_mem eM_3 ?_
  refine Fr_aload_n (q := 0) (i := 0) 0 (by decide +kernel) rfl rfl ?_
  refine Fr_iconst (i := 1) (v := 1) (by decide +kernel) (by decide) ?_
  refine pf_X5_38 rfl (by decide +kernel) hp0 ?_
  obtain ⟨M_4, eM_4, h⟩ := bM_elim h
  refine Fr_mem eM_4 ?_
  refine Fr_aload_n (q := 0) (i := 0) 0 (by decide +kernel) rfl rfl ?_
  refine Fr_bipush (i := 10) (v := 10) (by decide +kernel) (by decide) ?_
  refine pf_X5_42 rfl (by decide +kernel) hp0 ?_
  obtain ⟨M_5, eM_5, h⟩ := bM_elim h
  refine Fr_mem eM_5 ?_
  refine Fr_aload_n (q := 0) (i := 0) 0 (by decide +kernel) rfl rfl ?_
  refine Fr_iconst (i := 0) (v := 0) (by decide +kernel) (by decide) ?_
  refine pf_X5_54 rfl (by decide +kernel) hp0 ?_
  obtain ⟨M_6, eM_6, h⟩ := bM_elim h
  refine Fr_mem eM_6 ?_
  refine Fr_aload_n (q := 0) (i := 0) 0 (by decide +kernel) rfl rfl ?_
  refine Fr_iconst (i := 0) (v := 0) (by decide +kernel) (by decide) ?_
  refine pf_X5_57 rfl (by decide +kernel) hp0 ?_
  obtain ⟨M_7, eM_7, h⟩ := bM_elim h
  refine Fr_mem eM_7 ?_
  refine Fr_aload_n (q := 0) (i := 0) 0 (by decide +kernel) rfl rfl ?_
  refine Fr_iconst (i := 0) (v := 0) (by decide +kernel) (by decide) ?_
  refine pf_X5_60 rfl (by decide +kernel) hp0 ?_
  obtain ⟨M_8, eM_8, h⟩ := bM_elim h
  refine Fr_mem eM_8 ?_
  refine Fr_aload_n (q := 0) (i := 0) 0 (by decide +kernel) rfl rfl ?_
  refine Fr_iconst (i := 0) (v := 0) (by decide +kernel) (by decide) ?_
  refine pf_X5_63 rfl (by decide +kernel) hp0 ?_
  obtain ⟨M_9, eM_9, h⟩ := bM_elim h
  refine Fr_mem eM_9 ?_
  refine Fr_aload_n (q := 0) (i := 0) 0 (by decide +kernel) rfl rfl ?_
  refine Fr_iconst (i := 0) (v := 0) (by decide +kernel) (by decide) ?_
  refine pf_X5_66 rfl (by decide +kernel) hp0 ?_
  obtain ⟨M_10, eM_10, h⟩ := bM_elim h
  refine Fr_mem eM_10 ?_
  refine Fr_aload_n (q := 0) (i := 0) 0 (by decide +kernel) rfl rfl ?_
  refine Fr_iconst (i := 0) (v := 0) (by decide +kernel) (by decide) ?_
  refine pf_X5_69 rfl (by decide +kernel) hp0 ?_
  obtain ⟨M_11, eM_11, h⟩ := bM_elim h
  refine Fr_mem eM_11 ?_
  refine Fr_aload_n (q := 0) (i := 0) 0 (by decide +kernel) rfl rfl ?_
  refine gf_X5_28 rfl (by decide +kernel) hp0 ?_
  refine Fr_iconst (i := 0) (v := 0) (by decide +kernel) (by decide) ?_
  obtain ⟨M_12, hc_13, h⟩ := bv_elim h
  refine Fr_cSv (ν := m_J7_fill_53178) (As := [.ref (p0 + 6), .int 0]) (st := []) (d' := 0) (by decide +kernel) ml_X5_72 cs_J7_fill_53178 rfl (by decide) (Nat.le_of_ble_eq_true rfl) (t_J7_fill_53178 (o5_6 hp0) hc_13) ?_
  refine Fr_aload_n (q := 0) (i := 0) 0 (by decide +kernel) rfl rfl ?_
  refine gf_X5_34 rfl (by decide +kernel) hp0 ?_
  obtain ⟨M_14, hc_15, h⟩ := bv_elim h
  refine Fr_cVv (ν := m_X3_clear) (As := []) (st := []) (rc := (p0 + 7)) (ci := 3) (d' := 0) (by decide +kernel) ml_X5_78 cv_X3_clear rfl (by decide) rfl (o5_7 hp0) rfl (by decide) (Nat.le_of_ble_eq_true rfl) (t_X3_clear (o5_7 hp0) hc_15) ?_
  obtain rfl := Option.some.inj h
  exact Fr_vret (by decide +kernel) rfl ⟨rfl, rfl⟩
def f_X5_copyFrom (p0 : Nat) (p1 : Nat) (M : Mem) : Option (Mem) :=
  bM (uI M p0 0 (M.1 p1 0)) fun M_1 =>
  bM (uI M_1 p0 1 (M_1.1 p1 1)) fun M_2 =>
  bM (uI M_2 p0 2 (M_2.1 p1 2)) fun M_3 =>
  bM (uI M_3 p0 3 (M_3.1 p1 3)) fun M_4 =>
  bM (uI M_4 p0 4 (M_4.1 p1 4)) fun M_5 =>
  bM (uI M_5 p0 5 (M_5.1 p1 5)) fun M_6 =>
  bM (uI M_6 p0 6 (M_6.1 p1 6)) fun M_7 =>
  bM (uI M_7 p0 7 (M_7.1 p1 7)) fun M_8 =>
  bM (uI M_8 p0 8 (M_8.1 p1 8)) fun M_9 =>
  bM (uI M_9 p0 9 (M_9.1 p1 9)) fun M_10 =>
  bM (uI M_10 p0 10 (M_10.1 p1 10)) fun M_11 =>
  bM (rI M_11 (p0 + 1) (va_cpy (M_11.1 (p1 + 1)) (M_11.1 (p0 + 1)) (tn 0) (tn 0) (tn 30))) fun M_12 =>
  bM (rL M_12 (p0 + 2) (va_cpy (M_12.2 (p1 + 2)) (M_12.2 (p0 + 2)) (tn 0) (tn 0) (tn 6))) fun M_13 =>
  bM (rI M_13 (p0 + 3) (va_cpy (M_13.1 (p1 + 3)) (M_13.1 (p0 + 3)) (tn 0) (tn 0) (tn 6))) fun M_14 =>
  bM (rI M_14 (p0 + 4) (va_cpy (M_14.1 (p1 + 4)) (M_14.1 (p0 + 4)) (tn 0) (tn 0) (tn 36))) fun M_15 =>
  bM (rI M_15 (p0 + 5) (va_cpy (M_15.1 (p1 + 5)) (M_15.1 (p0 + 5)) (tn 0) (tn 0) (tn 20))) fun M_16 =>
  bM (rI M_16 (p0 + 6) (va_cpy (M_16.1 (p1 + 6)) (M_16.1 (p0 + 6)) (tn 0) (tn 0) (tn 60))) fun M_17 =>
  bv (f_X3_copyFrom (p0 + 7) (p1 + 7) M_17) fun M_18 =>
  some M_18
set_option maxRecDepth 20000 in
theorem t_X5_copyFrom {p0 : Nat} {p1 : Nat} (hp0 : Ob 0 111 p0 5) (hp1 : Ob 0 111 p1 5) {M : Mem} {q : Mem} (h : f_X5_copyFrom p0 p1 M = some q) : Ev 0 111 2 m_X5_copyFrom [.ref p0, .ref p1] M (QV q) := by
  refine Ev_of_Fr (by decide +kernel) (Nat.le_of_ble_eq_true rfl) ?_
  show Fr 0 111 2 m_X5_copyFrom 0 [(0, .ref p0), (1, .ref p1)] [] M (QV q)
  unfold f_X5_copyFrom at h
  refine Fr_aload_n (q := 0) (i := 0) 0 (by decide +kernel) rfl rfl ?_
  refine Fr_aload_n (q := 1) (i := 1) 1 (by decide +kernel) rfl rfl ?_
  refine gf_X5_45 rfl (by decide +kernel) hp1 ?_
  refine pf_X5_45 rfl (by decide +kernel) hp0 ?_
  obtain ⟨M_1, eM_1, h⟩ := bM_elim h
  refine Fr_mem eM_1 ?_
  refine Fr_aload_n (q := 0) (i := 0) 0 (by decide +kernel) rfl rfl ?_
  refine Fr_aload_n (q := 1) (i := 1) 1 (by decide +kernel) rfl rfl ?_
  refine gf_X5_48 rfl (by decide +kernel) hp1 ?_
  refine pf_X5_48 rfl (by decide +kernel) hp0 ?_
  obtain ⟨M_2, eM_2, h⟩ := bM_elim h
  refine Fr_mem eM_2 ?_
  refine Fr_aload_n (q := 0) (i := 0) 0 (by decide +kernel) rfl rfl ?_
  refine Fr_aload_n (q := 1) (i := 1) 1 (by decide +kernel) rfl rfl ?_
  refine gf_X5_51 rfl (by decide +kernel) hp1 ?_
  refine pf_X5_51 rfl (by decide +kernel) hp0 ?_
  obtain ⟨M_3, eM_3, h⟩ := bM_elim h
  refine Fr_mem eM_3 ?_
  refine Fr_aload_n (q := 0) (i := 0) 0 (by decide +kernel) rfl rfl ?_
  refine Fr_aload_n (q := 1) (i := 1) 1 (by decide +kernel) rfl rfl ?_
  refine gf_X5_38 rfl (by decide +kernel) hp1 ?_
  refine pf_X5_38 rfl (by decide +kernel) hp0 ?_
  obtain ⟨M_4, eM_4, h⟩ := bM_elim h
  refine Fr_mem eM_4 ?_
  refine Fr_aload_n (q := 0) (i := 0) 0 (by decide +kernel) rfl rfl ?_
  refine Fr_aload_n (q := 1) (i := 1) 1 (by decide +kernel) rfl rfl ?_
  refine gf_X5_42 rfl (by decide +kernel) hp1 ?_
  refine pf_X5_42 rfl (by decide +kernel) hp0 ?_
  obtain ⟨M_5, eM_5, h⟩ := bM_elim h
  refine Fr_mem eM_5 ?_
  refine Fr_aload_n (q := 0) (i := 0) 0 (by decide +kernel) rfl rfl ?_
  refine Fr_aload_n (q := 1) (i := 1) 1 (by decide +kernel) rfl rfl ?_
  refine gf_X5_54 rfl (by decide +kernel) hp1 ?_
  refine pf_X5_54 rfl (by decide +kernel) hp0 ?_
  obtain ⟨M_6, eM_6, h⟩ := bM_elim h
  refine Fr_mem eM_6 ?_
  refine Fr_aload_n (q := 0) (i := 0) 0 (by decide +kernel) rfl rfl ?_
  refine Fr_aload_n (q := 1) (i := 1) 1 (by decide +kernel) rfl rfl ?_
  refine gf_X5_57 rfl (by decide +kernel) hp1 ?_
  refine pf_X5_57 rfl (by decide +kernel) hp0 ?_
  obtain ⟨M_7, eM_7, h⟩ := bM_elim h
  refine Fr_mem eM_7 ?_
  refine Fr_aload_n (q := 0) (i := 0) 0 (by decide +kernel) rfl rfl ?_
  refine Fr_aload_n (q := 1) (i := 1) 1 (by decide +kernel) rfl rfl ?_
  refine gf_X5_60 rfl (by decide +kernel) hp1 ?_
  refine pf_X5_60 rfl (by decide +kernel) hp0 ?_
  obtain ⟨M_8, eM_8, h⟩ := bM_elim h
  refine Fr_mem eM_8 ?_
  refine Fr_aload_n (q := 0) (i := 0) 0 (by decide +kernel) rfl rfl ?_
  refine Fr_aload_n (q := 1) (i := 1) 1 (by decide +kernel) rfl rfl ?_
  refine gf_X5_63 rfl (by decide +kernel) hp1 ?_
  refine pf_X5_63 rfl (by decide +kernel) hp0 ?_
  obtain ⟨M_9, eM_9, h⟩ := bM_elim h
  refine Fr_mem eM_9 ?_
  refine Fr_aload_n (q := 0) (i := 0) 0 (by decide +kernel) rfl rfl ?_
  refine Fr_aload_n (q := 1) (i := 1) 1 (by decide +kernel) rfl rfl ?_
  refine gf_X5_66 rfl (by decide +kernel) hp1 ?_
  refine pf_X5_66 rfl (by decide +kernel) hp0 ?_
  obtain ⟨M_10, eM_10, h⟩ := bM_elim h
  refine Fr_mem eM_10 ?_
  refine Fr_aload_n (q := 0) (i := 0) 0 (by decide +kernel) rfl rfl ?_
  refine Fr_aload_n (q := 1) (i := 1) 1 (by decide +kernel) rfl rfl ?_
  refine gf_X5_69 rfl (by decide +kernel) hp1 ?_
  refine pf_X5_69 rfl (by decide +kernel) hp0 ?_
  obtain ⟨M_11, eM_11, h⟩ := bM_elim h
  refine Fr_mem eM_11 ?_
  refine Fr_aload_n (q := 1) (i := 1) 1 (by decide +kernel) rfl rfl ?_
  refine gf_X5_9 rfl (by decide +kernel) hp1 ?_
  refine Fr_iconst (i := 0) (v := 0) (by decide +kernel) (by decide) ?_
  refine Fr_aload_n (q := 0) (i := 0) 0 (by decide +kernel) rfl rfl ?_
  refine gf_X5_9 rfl (by decide +kernel) hp0 ?_
  refine Fr_iconst (i := 0) (v := 0) (by decide +kernel) (by decide) ?_
  refine Fr_aload_n (q := 0) (i := 0) 0 (by decide +kernel) rfl rfl ?_
  refine gf_X5_9 rfl (by decide +kernel) hp0 ?_
  refine Fr_alen (v := 30) (by decide +kernel) (o5_1 hp0) (by decide) (by rw [(n5_1 hp0)]; rfl) ?_
  refine Fr_acopyI (by decide +kernel) ml_X5_81 (o5_1 hp1) (o5_1 hp0) (by decide) (by decide) (by decide) (le_len (n5_1 hp1) (by decide)) (le_len (n5_1 hp0) (by decide)) (by decide) (Nat.le_of_ble_eq_true rfl) ?_
  obtain ⟨M_12, eM_12, h⟩ := bM_elim h
  refine Fr_mem eM_12 ?_
  refine Fr_aload_n (q := 1) (i := 1) 1 (by decide +kernel) rfl rfl ?_
  refine gf_X5_15 rfl (by decide +kernel) hp1 ?_
  refine Fr_iconst (i := 0) (v := 0) (by decide +kernel) (by decide) ?_
  refine Fr_aload_n (q := 0) (i := 0) 0 (by decide +kernel) rfl rfl ?_
  refine gf_X5_15 rfl (by decide +kernel) hp0 ?_
  refine Fr_iconst (i := 0) (v := 0) (by decide +kernel) (by decide) ?_
  refine Fr_aload_n (q := 0) (i := 0) 0 (by decide +kernel) rfl rfl ?_
  refine gf_X5_15 rfl (by decide +kernel) hp0 ?_
  refine Fr_alen (v := 6) (by decide +kernel) (o5_2 hp0) (by decide) (by rw [(n5_2 hp0)]; rfl) ?_
  refine Fr_acopyL (by decide +kernel) ml_X5_81 (o5_2 hp1) (o5_2 hp0) (by decide) (by decide) (by decide) (le_len (n5_2 hp1) (by decide)) (le_len (n5_2 hp0) (by decide)) (by decide) (Nat.le_of_ble_eq_true rfl) ?_
  obtain ⟨M_13, eM_13, h⟩ := bM_elim h
  refine Fr_mem eM_13 ?_
  refine Fr_aload_n (q := 1) (i := 1) 1 (by decide +kernel) rfl rfl ?_
  refine gf_X5_19 rfl (by decide +kernel) hp1 ?_
  refine Fr_iconst (i := 0) (v := 0) (by decide +kernel) (by decide) ?_
  refine Fr_aload_n (q := 0) (i := 0) 0 (by decide +kernel) rfl rfl ?_
  refine gf_X5_19 rfl (by decide +kernel) hp0 ?_
  refine Fr_iconst (i := 0) (v := 0) (by decide +kernel) (by decide) ?_
  refine Fr_aload_n (q := 0) (i := 0) 0 (by decide +kernel) rfl rfl ?_
  refine gf_X5_19 rfl (by decide +kernel) hp0 ?_
  refine Fr_alen (v := 6) (by decide +kernel) (o5_3 hp0) (by decide) (by rw [(n5_3 hp0)]; rfl) ?_
  refine Fr_acopyI (by decide +kernel) ml_X5_81 (o5_3 hp1) (o5_3 hp0) (by decide) (by decide) (by decide) (le_len (n5_3 hp1) (by decide)) (le_len (n5_3 hp0) (by decide)) (by decide) (Nat.le_of_ble_eq_true rfl) ?_
  obtain ⟨M_14, eM_14, h⟩ := bM_elim h
  refine Fr_mem eM_14 ?_
  refine Fr_aload_n (q := 1) (i := 1) 1 (by decide +kernel) rfl rfl ?_
  refine gf_X5_22 rfl (by decide +kernel) hp1 ?_
  refine Fr_iconst (i := 0) (v := 0) (by decide +kernel) (by decide) ?_
  refine Fr_aload_n (q := 0) (i := 0) 0 (by decide +kernel) rfl rfl ?_
  refine gf_X5_22 rfl (by decide +kernel) hp0 ?_
  refine Fr_iconst (i := 0) (v := 0) (by decide +kernel) (by decide) ?_
  refine Fr_aload_n (q := 0) (i := 0) 0 (by decide +kernel) rfl rfl ?_
  refine gf_X5_22 rfl (by decide +kernel) hp0 ?_
  refine Fr_alen (v := 36) (by decide +kernel) (o5_4 hp0) (by decide) (by rw [(n5_4 hp0)]; rfl) ?_
  refine Fr_acopyI (by decide +kernel) ml_X5_81 (o5_4 hp1) (o5_4 hp0) (by decide) (by decide) (by decide) (le_len (n5_4 hp1) (by decide)) (le_len (n5_4 hp0) (by decide)) (by decide) (Nat.le_of_ble_eq_true rfl) ?_
  obtain ⟨M_15, eM_15, h⟩ := bM_elim h
  refine Fr_mem eM_15 ?_
  refine Fr_aload_n (q := 1) (i := 1) 1 (by decide +kernel) rfl rfl ?_
  refine gf_X5_25 rfl (by decide +kernel) hp1 ?_
  refine Fr_iconst (i := 0) (v := 0) (by decide +kernel) (by decide) ?_
  refine Fr_aload_n (q := 0) (i := 0) 0 (by decide +kernel) rfl rfl ?_
  refine gf_X5_25 rfl (by decide +kernel) hp0 ?_
  refine Fr_iconst (i := 0) (v := 0) (by decide +kernel) (by decide) ?_
  refine Fr_aload_n (q := 0) (i := 0) 0 (by decide +kernel) rfl rfl ?_
  refine gf_X5_25 rfl (by decide +kernel) hp0 ?_
  refine Fr_alen (v := 20) (by decide +kernel) (o5_5 hp0) (by decide) (by rw [(n5_5 hp0)]; rfl) ?_
  refine Fr_acopyI (by decide +kernel) ml_X5_81 (o5_5 hp1) (o5_5 hp0) (by decide) (by decide) (by decide) (le_len (n5_5 hp1) (by decide)) (le_len (n5_5 hp0) (by decide)) (by decide) (Nat.le_of_ble_eq_true rfl) ?_
  obtain ⟨M_16, eM_16, h⟩ := bM_elim h
  refine Fr_mem eM_16 ?_
  refine Fr_aload_n (q := 1) (i := 1) 1 (by decide +kernel) rfl rfl ?_
  refine gf_X5_28 rfl (by decide +kernel) hp1 ?_
  refine Fr_iconst (i := 0) (v := 0) (by decide +kernel) (by decide) ?_
  refine Fr_aload_n (q := 0) (i := 0) 0 (by decide +kernel) rfl rfl ?_
  refine gf_X5_28 rfl (by decide +kernel) hp0 ?_
  refine Fr_iconst (i := 0) (v := 0) (by decide +kernel) (by decide) ?_
  refine Fr_aload_n (q := 0) (i := 0) 0 (by decide +kernel) rfl rfl ?_
  refine gf_X5_28 rfl (by decide +kernel) hp0 ?_
  refine Fr_alen (v := 60) (by decide +kernel) (o5_6 hp0) (by decide) (by rw [(n5_6 hp0)]; rfl) ?_
  refine Fr_acopyI (by decide +kernel) ml_X5_81 (o5_6 hp1) (o5_6 hp0) (by decide) (by decide) (by decide) (le_len (n5_6 hp1) (by decide)) (le_len (n5_6 hp0) (by decide)) (by decide) (Nat.le_of_ble_eq_true rfl) ?_
  obtain ⟨M_17, eM_17, h⟩ := bM_elim h
  refine Fr_mem eM_17 ?_
  refine Fr_aload_n (q := 0) (i := 0) 0 (by decide +kernel) rfl rfl ?_
  refine gf_X5_34 rfl (by decide +kernel) hp0 ?_
  refine Fr_aload_n (q := 1) (i := 1) 1 (by decide +kernel) rfl rfl ?_
  refine gf_X5_34 rfl (by decide +kernel) hp1 ?_
  obtain ⟨M_18, hc_19, h⟩ := bv_elim h
  refine Fr_cVv (ν := m_X3_copyFrom) (As := [.ref (p1 + 7)]) (st := []) (rc := (p0 + 7)) (ci := 3) (d' := 1) (by decide +kernel) ml_X5_87 cv_X3_copyFrom rfl (by decide) rfl (o5_7 hp0) rfl (by decide) (Nat.le_of_ble_eq_true rfl) (t_X3_copyFrom (o5_7 hp0) (o5_7 hp1) hc_19) ?_
  obtain rfl := Option.some.inj h
  exact Fr_vret (by decide +kernel) rfl ⟨rfl, rfl⟩
def f_X5_sumOfKind_h4 (N : Nat) (p0 : Nat) (k4 : Int32 × Int32 × Int32 → Mem → Option (Int32 × Mem)) (v1 : Int32) (v2 : Int32) (v3 : Int32) (M : Mem) : Option (Int32 × Mem) :=
  if 30 ≤ v3 then (some (v2, M)) else (ck ((v1 * 30) + v3) 60 (
  bI (v2 + (M.1 (p0 + 6) (tn ((v1 * 30) + v3)))) fun y_2 =>
  k4 (v1, y_2, (v3 + 1)) M))
set_option maxRecDepth 20000 in
theorem t_X5_sumOfKind_h4 {N : Nat} {p0 : Nat} (hp0 : Ob 0 111 p0 5) {q : Int32 × Mem} {k4 : Int32 × Int32 × Int32 → Mem → Option (Int32 × Mem)} (hk4 : ∀ (a : Int32 × Int32 × Int32) (M : Mem), k4 a M = some q → Fr 0 111 0 m_X5_sumOfKind 4 [(0, .ref p0), (1, .int a.1), (2, .int a.2.1), (3, .int a.2.2)] [] M (QI q)) {v1 : Int32} {v2 : Int32} {v3 : Int32} {M : Mem} (h : f_X5_sumOfKind_h4 N p0 k4 v1 v2 v3 M = some q) : Fr 0 111 0 m_X5_sumOfKind 4 [(0, .ref p0), (1, .int v1), (2, .int v2), (3, .int v3)] [] M (QI q) := by
  unfold f_X5_sumOfKind_h4 at h
  refine Fr_iload_n (q := 3) (i := 3) 3 (by decide +kernel) rfl rfl ?_
  refine Fr_bipush (i := 30) (v := 30) (by decide +kernel) (by decide) ?_
  refine Fr_icmp_ge (off := 23) 30 (by decide +kernel) (by decide) (fun hc => ?_) (fun hc => ?_)
  · have h := iT hc h
    refine Fr_iload_n (q := 2) (i := 2) 2 (by decide +kernel) rfl rfl ?_
    obtain rfl := Option.some.inj h
    exact Fr_iret (by decide +kernel) rfl ⟨rfl, rfl⟩
  · have h := iF hc h
    refine Fr_iload_n (q := 2) (i := 2) 2 (by decide +kernel) rfl rfl ?_
    refine Fr_aload_n (q := 0) (i := 0) 0 (by decide +kernel) rfl rfl ?_
    refine gf_X5_28 rfl (by decide +kernel) hp0 ?_
    refine Fr_iload_n (q := 1) (i := 1) 1 (by decide +kernel) rfl rfl ?_
    refine Fr_bipush (i := 30) (v := 30) (by decide +kernel) (by decide) ?_
    refine Fr_imul (by decide +kernel) ?_
    refine Fr_iload_n (q := 3) (i := 3) 3 (by decide +kernel) rfl rfl ?_
    refine Fr_iadd (by decide +kernel) ?_
    obtain ⟨hi_1, h⟩ := ck_elim h
    refine Fr_iald (by decide +kernel) (o5_6 hp0) (vp_of (n5_6 hp0) hi_1) ?_
    refine Fr_iadd (by decide +kernel) ?_
    obtain ⟨y_2, ey_2, h⟩ := bI_elim h
    refine Fr_topI ey_2 ?_
    refine Fr_istore_n (q := 2) (i := 2) (lv' := [(2, .int y_2), (0, .ref p0), (1, .int v1), (3, .int v3)]) (by decide +kernel) rfl (by decide) rfl ?_
    refine Fr_iinc (i := 3) (j := 1) (v := (v3 + 1)) (lv' := [(3, .int (v3 + 1)), (2, .int y_2), (0, .ref p0), (1, .int v1)]) 3 (by decide +kernel) rfl rfl (by decide) rfl ?_
    refine Fr_goto (off := (-23)) 4 (by decide +kernel) (by decide) ?_
    refine Fr_loc [2, 3, 1, 0] rfl ?_
    exact hk4 (v1, y_2, (v3 + 1)) M h
def f_X5_sumOfKind (N : Nat) (p0 : Nat) (x1 : Int32) (M : Mem) : Option (Int32 × Mem) :=
  lp (fun k a m => f_X5_sumOfKind_h4 N p0 k a.1 a.2.1 a.2.2 m) N (x1, 0, 0) M
set_option maxRecDepth 20000 in
theorem t_X5_sumOfKind {N : Nat} {p0 : Nat} {x1 : Int32} (hp0 : Ob 0 111 p0 5) {M : Mem} {q : Int32 × Mem} (h : f_X5_sumOfKind N p0 x1 M = some q) : Ev 0 111 0 m_X5_sumOfKind [.ref p0, .int x1] M (QI q) := by
  refine Ev_of_Fr (by decide +kernel) (Nat.le_of_ble_eq_true rfl) ?_
  show Fr 0 111 0 m_X5_sumOfKind 0 [(0, .ref p0), (1, .int x1)] [] M (QI q)
  unfold f_X5_sumOfKind at h
  refine Fr_iconst (i := 0) (v := 0) (by decide +kernel) (by decide) ?_
  refine Fr_istore_n (q := 2) (i := 2) (lv' := [(2, .int 0), (0, .ref p0), (1, .int x1)]) (by decide +kernel) rfl (by decide) rfl ?_
  refine Fr_iconst (i := 0) (v := 0) (by decide +kernel) (by decide) ?_
  refine Fr_istore_n (q := 3) (i := 3) (lv' := [(3, .int 0), (2, .int 0), (0, .ref p0), (1, .int x1)]) (by decide +kernel) rfl (by decide) rfl ?_
  refine Fr_loc [2, 3, 1, 0] rfl ?_
  exact lp_sound (P := fun a M => Fr 0 111 0 m_X5_sumOfKind 4 [(0, .ref p0), (1, .int a.1), (2, .int a.2.1), (3, .int a.2.2)] [] M (QI q)) (fun k hk a m h => t_X5_sumOfKind_h4 hp0 hk h) N (x1, 0, 0) M h
