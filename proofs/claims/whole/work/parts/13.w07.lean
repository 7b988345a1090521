set_option maxRecDepth 20000 in
theorem t_X4_readTest {N : Nat} {p1 : Nat} {p2 : Nat} (hp1 : Ob 0 111 p1 3) (hp2 : Ob 0 111 p2 5) {M : Mem} {q : Bool × Mem} (h : f_X4_readTest N p1 p2 M = some q) : Ev 0 111 9 m_X4_readTest [.ref 87, .ref p1, .ref p2] M (QB q) := by
  refine Ev_of_Fr (by decide +kernel) (Nat.le_of_ble_eq_true rfl) ?_
  show Fr 0 111 9 m_X4_readTest 0 [(0, .ref 87), (1, .ref p1), (2, .ref p2)] [] M (QB q)
  unfold f_X4_readTest at h
  refine Fr_aload_n (q := 0) (i := 0) 0 (by decide +kernel) rfl rfl ?_
  refine gf_X4_18 rfl (by decide +kernel) ob_87 ?_
  refine Fr_ldcS (idx := 124) 30 (by decide +kernel) (by decide) rfl rfl ?_
  obtain ⟨r_3, M_1, hc_2, h⟩ := bi_elim h
  refine Fr_cVb (ν := m_X8_tryWord) (As := [.ref (400 + 30)]) (st := []) (rc := 82) (ci := 8) (d' := 8) (by decide +kernel) ml_X4_126 cv_X8_tryWord rfl (by decide) rfl ob_82 rfl (by decide) (Nat.le_of_ble_eq_true rfl) (t_X8_tryWord (by decide) hc_2) ?_
  refine Fr_if_eq (off := 10) 19 (by decide +kernel) (by decide) (fun hc => ?_) (fun hc => ?_)
  · have h := iT hc h
    refine Fr_aload_n (q := 0) (i := 0) 0 (by decide +kernel) rfl rfl ?_
    refine gf_X4_18 rfl (by decide +kernel) ob_87 ?_
    refine Fr_ldcS (idx := 100) 23 (by decide +kernel) (by decide) rfl rfl ?_
    obtain ⟨r_6, M_4, hc_5, h⟩ := bi_elim h
    refine Fr_cVb (ν := m_X8_tryWord) (As := [.ref (400 + 23)]) (st := []) (rc := 82) (ci := 8) (d' := 8) (by decide +kernel) ml_X4_126 cv_X8_tryWord rfl (by decide) rfl ob_82 rfl (by decide) (Nat.le_of_ble_eq_true rfl) (t_X8_tryWord (by decide) hc_5) ?_
    refine Fr_if_eq (off := 21) 49 (by decide +kernel) (by decide) (fun hc => ?_) (fun hc => ?_)
    · have h := iT hc h
      refine Fr_aload_n (q := 1) (i := 1) 1 (by decide +kernel) rfl rfl ?_
      refine gf_X4_75 rfl (by decide +kernel) hp1 ?_
      refine Fr_aload_n (q := 1) (i := 1) 1 (by decide +kernel) rfl rfl ?_
      refine gf_X4_72 rfl (by decide +kernel) hp1 ?_
      refine Fr_bipush (i := 10) (v := 10) (by decide +kernel) (by decide) ?_
      obtain ⟨hi_7, h⟩ := ck_elim h
      refine Fr_iast (by decide +kernel) (o3_1 hp1) (vp_of (n3_1 hp1) hi_7) ?_
      obtain ⟨M_8, eM_8, h⟩ := bM_elim h
      refine Fr_mem eM_8 ?_
      refine Fr_aload_n (q := 0) (i := 0) 0 (by decide +kernel) rfl rfl ?_
      refine gf_X4_18 rfl (by decide +kernel) ob_87 ?_
      refine Fr_ldcS (idx := 132) 31 (by decide +kernel) (by decide) rfl rfl ?_
      obtain ⟨r_11, M_9, hc_10, h⟩ := bi_elim h
      refine Fr_cVb (ν := m_X8_takeWord) (As := [.ref (400 + 31)]) (st := []) (rc := 82) (ci := 8) (d' := 8) (by decide +kernel) ml_X4_134 cv_X8_takeWord rfl (by decide) rfl ob_82 rfl (by decide) (Nat.le_of_ble_eq_true rfl) (t_X8_takeWord (by decide) hc_10) ?_
      refine Fr_if_eq (off := 46) 115 (by decide +kernel) (by decide) (fun hc => ?_) (fun hc => ?_)
      · have h := iT hc h
        refine Fr_iconst (i := 0) (v := 0) (by decide +kernel) (by decide) ?_
        obtain rfl := Option.some.inj h
        exact Fr_zret (by decide +kernel) rfl (by decide) ⟨rfl, rfl⟩
      · have h := iF hc h
        refine Fr_aload_n (q := 0) (i := 0) 0 (by decide +kernel) rfl rfl ?_
        refine Fr_aload_n (q := 1) (i := 1) 1 (by decide +kernel) rfl rfl ?_
        refine Fr_aload_n (q := 2) (i := 2) 2 (by decide +kernel) rfl rfl ?_
        obtain ⟨r_14, M_12, hc_13, h⟩ := bi_elim h
        refine Fr_cVb (ν := m_X4_readBoard) (As := [.ref p1, .ref p2]) (st := []) (rc := 87) (ci := 4) (d' := 2) (by decide +kernel) ml_X4_129 cv_X4_readBoard rfl (by decide) rfl ob_87 rfl (by decide) (Nat.le_of_ble_eq_true rfl) (t_X4_readBoard hp1 hp2 hc_13) ?_
        refine Fr_if_eq (off := 37) 115 (by decide +kernel) (by decide) (fun hc => ?_) (fun hc => ?_)
        · have h := iT hc h
          refine Fr_iconst (i := 0) (v := 0) (by decide +kernel) (by decide) ?_
          obtain rfl := Option.some.inj h
          exact Fr_zret (by decide +kernel) rfl (by decide) ⟨rfl, rfl⟩
        · have h := iF hc h
          refine Fr_aload_n (q := 0) (i := 0) 0 (by decide +kernel) rfl rfl ?_
          refine Fr_aload_n (q := 1) (i := 1) 1 (by decide +kernel) rfl rfl ?_
          obtain ⟨r_17, M_15, hc_16, h⟩ := bi_elim h
          refine Fr_cVb (ν := m_X4_readCompares) (As := [.ref p1]) (st := []) (rc := 87) (ci := 4) (d' := 1) (by decide +kernel) ml_X4_137 cv_X4_readCompares rfl (by decide) rfl ob_87 rfl (by decide) (Nat.le_of_ble_eq_true rfl) (t_X4_readCompares hp1 hc_16) ?_
          refine Fr_if_eq (off := 29) 115 (by decide +kernel) (by decide) (fun hc => ?_) (fun hc => ?_)
          · have h := iT hc h
            refine Fr_iconst (i := 0) (v := 0) (by decide +kernel) (by decide) ?_
            obtain rfl := Option.some.inj h
            exact Fr_zret (by decide +kernel) rfl (by decide) ⟨rfl, rfl⟩
          · have h := iF hc h
            refine Fr_aload_n (q := 0) (i := 0) 0 (by decide +kernel) rfl rfl ?_
            refine gf_X4_18 rfl (by decide +kernel) ob_87 ?_
            refine Fr_aload_n (q := 1) (i := 1) 1 (by decide +kernel) rfl rfl ?_
            refine gf_X4_140 rfl (by decide +kernel) hp1 ?_
            refine Fr_aload_n (q := 1) (i := 1) 1 (by decide +kernel) rfl rfl ?_
            refine gf_X4_72 rfl (by decide +kernel) hp1 ?_
            refine Fr_iconst (i := 0) (v := 0) (by decide +kernel) (by decide) ?_
            refine Fr_sipush (i := 999) (v := 999) (by decide +kernel) (by decide) ?_
            obtain ⟨r_20, M_18, hc_19, h⟩ := bi_elim h
            refine Fr_cVb (ν := m_X8_takeNumber) (As := [.ref (p1 + 4), .int (M_15.1 p1 1), .int 0, .int 999]) (st := []) (rc := 82) (ci := 8) (d' := 1) (by decide +kernel) ml_X4_117 cv_X8_takeNumber rfl (by decide) rfl ob_82 rfl (by decide) (Nat.le_of_ble_eq_true rfl) (t_X8_takeNumber (o3_4 hp1) hc_19) ?_
            refine Fr_if_eq (off := 7) 115 (by decide +kernel) (by decide) (fun hc => ?_) (fun hc => ?_)
            · have h := iT hc h
              refine Fr_iconst (i := 0) (v := 0) (by decide +kernel) (by decide) ?_
              obtain rfl := Option.some.inj h
              exact Fr_zret (by decide +kernel) rfl (by decide) ⟨rfl, rfl⟩
            · have h := iF hc h
              refine Fr_iconst (i := 1) (v := 1) (by decide +kernel) (by decide) ?_
              refine Fr_goto (off := 4) 116 (by decide +kernel) (by decide) ?_
              obtain rfl := Option.some.inj h
              exact Fr_zret (by decide +kernel) rfl (by decide) ⟨rfl, rfl⟩
    · have h := iF hc h
      refine Fr_aload_n (q := 1) (i := 1) 1 (by decide +kernel) rfl rfl ?_
      refine gf_X4_75 rfl (by decide +kernel) hp1 ?_
      refine Fr_aload_n (q := 1) (i := 1) 1 (by decide +kernel) rfl rfl ?_
      refine gf_X4_72 rfl (by decide +kernel) hp1 ?_
      refine Fr_bipush (i := 9) (v := 9) (by decide +kernel) (by decide) ?_
      obtain ⟨hi_21, h⟩ := ck_elim h
      refine Fr_iast (by decide +kernel) (o3_1 hp1) (vp_of (n3_1 hp1) hi_21) ?_
      obtain ⟨M_22, eM_22, h⟩ := bM_elim h
      refine Fr_mem eM_22 ?_
      refine Fr_aload_n (q := 0) (i := 0) 0 (by decide +kernel) rfl rfl ?_
      refine Fr_aload_n (q := 1) (i := 1) 1 (by decide +kernel) rfl rfl ?_
      refine Fr_aload_n (q := 2) (i := 2) 2 (by decide +kernel) rfl rfl ?_
      obtain ⟨r_25, M_23, hc_24, h⟩ := bi_elim h
      refine Fr_cVb (ν := m_X4_readGateName) (As := [.ref p1, .ref p2]) (st := []) (rc := 87) (ci := 4) (d' := 8) (by decide +kernel) ml_X4_121 cv_X4_readGateName rfl (by decide) rfl ob_87 rfl (by decide) (Nat.le_of_ble_eq_true rfl) (t_X4_readGateName hp1 hp2 hc_24) ?_
      obtain rfl := Option.some.inj h
      exact Fr_zret (by decide +kernel) rfl (nz_b r_25) ⟨rfl, rfl⟩
  · have h := iF hc h
    refine Fr_aload_n (q := 0) (i := 0) 0 (by decide +kernel) rfl rfl ?_
    refine Fr_aload_n (q := 1) (i := 1) 1 (by decide +kernel) rfl rfl ?_
    refine Fr_aload_n (q := 2) (i := 2) 2 (by decide +kernel) rfl rfl ?_
    obtain ⟨r_28, M_26, hc_27, h⟩ := bi_elim h
    refine Fr_cVb (ν := m_X4_readBoard) (As := [.ref p1, .ref p2]) (st := []) (rc := 87) (ci := 4) (d' := 2) (by decide +kernel) ml_X4_129 cv_X4_readBoard rfl (by decide) rfl ob_87 rfl (by decide) (Nat.le_of_ble_eq_true rfl) (t_X4_readBoard hp1 hp2 hc_27) ?_
    obtain rfl := Option.some.inj h
    exact Fr_zret (by decide +kernel) rfl (nz_b r_28) ⟨rfl, rfl⟩
set_option maxRecDepth 20000 in
theorem t_X4_readRest {N : Nat} {p1 : Nat} {p2 : Nat} {x3 : Int32} (hp1 : Ob 0 111 p1 3) (hp2 : Ob 0 111 p2 5) {M : Mem} {q : Bool × Mem} (h : f_X4_readRest N p1 p2 x3 M = some q) : Ev 0 111 9 m_X4_readRest [.ref 87, .ref p1, .ref p2, .int x3] M (QB q) := by
  refine Ev_of_Fr (by decide +kernel) (Nat.le_of_ble_eq_true rfl) ?_
  show Fr 0 111 9 m_X4_readRest 0 [(0, .ref 87), (1, .ref p1), (2, .ref p2), (3, .int x3)] [] M (QB q)
  unfold f_X4_readRest at h
  refine Fr_iload_n (q := 3) (i := 3) 3 (by decide +kernel) rfl rfl ?_
  by_cases hs_1 : x3 = 1
  · have h := iT hs_1 h
    refine Fr_tabIn (dflt := 106) (lo := 1) (hi := 7) (offs := #[43, 62, 62, 69, 106, 106, 87]) (len := 43) (off := 43) 44 (by decide +kernel) (by rw [hs_1]; decide) (by rw [hs_1]; decide) (by rw [hs_1]; rfl) (by decide) ?_
    refine Fr_aload_n (q := 0) (i := 0) 0 (by decide +kernel) rfl rfl ?_
    refine gf_X4_18 rfl (by decide +kernel) ob_87 ?_
    refine Fr_aload_n (q := 1) (i := 1) 1 (by decide +kernel) rfl rfl ?_
    refine gf_X4_114 rfl (by decide +kernel) hp1 ?_
    refine Fr_aload_n (q := 1) (i := 1) 1 (by decide +kernel) rfl rfl ?_
    refine gf_X4_72 rfl (by decide +kernel) hp1 ?_
    refine Fr_iconst (i := 1) (v := 1) (by decide +kernel) (by decide) ?_
    refine Fr_bipush (i := 24) (v := 24) (by decide +kernel) (by decide) ?_
    obtain ⟨r_4, M_2, hc_3, h⟩ := bi_elim h
    refine Fr_cVb (ν := m_X8_takeNumber) (As := [.ref (p1 + 2), .int (M.1 p1 1), .int 1, .int 24]) (st := []) (rc := 82) (ci := 8) (d' := 1) (by decide +kernel) ml_X4_117 cv_X8_takeNumber rfl (by decide) rfl ob_82 rfl (by decide) (Nat.le_of_ble_eq_true rfl) (t_X8_takeNumber (o3_2 hp1) hc_3) ?_
    obtain rfl := Option.some.inj h
    exact Fr_zret (by decide +kernel) rfl (nz_b r_4) ⟨rfl, rfl⟩
  have h := iF hs_1 h
  by_cases hs_5 : x3 = 2
  · have h := iT hs_5 h
    refine Fr_tabIn (dflt := 106) (lo := 1) (hi := 7) (offs := #[43, 62, 62, 69, 106, 106, 87]) (len := 43) (off := 62) 63 (by decide +kernel) (by rw [hs_5]; decide) (by rw [hs_5]; decide) (by rw [hs_5]; rfl) (by decide) ?_
    refine Fr_aload_n (q := 0) (i := 0) 0 (by decide +kernel) rfl rfl ?_
    refine Fr_aload_n (q := 1) (i := 1) 1 (by decide +kernel) rfl rfl ?_
    refine Fr_aload_n (q := 2) (i := 2) 2 (by decide +kernel) rfl rfl ?_
    obtain ⟨r_8, M_6, hc_7, h⟩ := bi_elim h
    refine Fr_cVb (ν := m_X4_readGateName) (As := [.ref p1, .ref p2]) (st := []) (rc := 87) (ci := 4) (d' := 8) (by decide +kernel) ml_X4_121 cv_X4_readGateName rfl (by decide) rfl ob_87 rfl (by decide) (Nat.le_of_ble_eq_true rfl) (t_X4_readGateName hp1 hp2 hc_7) ?_
    obtain rfl := Option.some.inj h
    exact Fr_zret (by decide +kernel) rfl (nz_b r_8) ⟨rfl, rfl⟩
  have h := iF hs_5 h
  by_cases hs_9 : x3 = 3
  · have h := iT hs_9 h
    refine Fr_tabIn (dflt := 106) (lo := 1) (hi := 7) (offs := #[43, 62, 62, 69, 106, 106, 87]) (len := 43) (off := 62) 63 (by decide +kernel) (by rw [hs_9]; decide) (by rw [hs_9]; decide) (by rw [hs_9]; rfl) (by decide) ?_
    refine Fr_aload_n (q := 0) (i := 0) 0 (by decide +kernel) rfl rfl ?_
    refine Fr_aload_n (q := 1) (i := 1) 1 (by decide +kernel) rfl rfl ?_
    refine Fr_aload_n (q := 2) (i := 2) 2 (by decide +kernel) rfl rfl ?_
    obtain ⟨r_12, M_10, hc_11, h⟩ := bi_elim h
    refine Fr_cVb (ν := m_X4_readGateName) (As := [.ref p1, .ref p2]) (st := []) (rc := 87) (ci := 4) (d' := 8) (by decide +kernel) ml_X4_121 cv_X4_readGateName rfl (by decide) rfl ob_87 rfl (by decide) (Nat.le_of_ble_eq_true rfl) (t_X4_readGateName hp1 hp2 hc_11) ?_
    obtain rfl := Option.some.inj h
    exact Fr_zret (by decide +kernel) rfl (nz_b r_12) ⟨rfl, rfl⟩
  have h := iF hs_9 h
  by_cases hs_13 : x3 = 4
  · have h := iT hs_13 h
    refine Fr_tabIn (dflt := 106) (lo := 1) (hi := 7) (offs := #[43, 62, 62, 69, 106, 106, 87]) (len := 43) (off := 69) 70 (by decide +kernel) (by rw [hs_13]; decide) (by rw [hs_13]; decide) (by rw [hs_13]; rfl) (by decide) ?_
    refine Fr_aload_n (q := 0) (i := 0) 0 (by decide +kernel) rfl rfl ?_
    refine gf_X4_18 rfl (by decide +kernel) ob_87 ?_
    refine Fr_aload_n (q := 1) (i := 1) 1 (by decide +kernel) rfl rfl ?_
    refine gf_X4_114 rfl (by decide +kernel) hp1 ?_
    refine Fr_aload_n (q := 1) (i := 1) 1 (by decide +kernel) rfl rfl ?_
    refine gf_X4_72 rfl (by decide +kernel) hp1 ?_
    refine Fr_iconst (i := 0) (v := 0) (by decide +kernel) (by decide) ?_
    refine Fr_iconst (i := 4) (v := 4) (by decide +kernel) (by decide) ?_
    obtain ⟨r_16, M_14, hc_15, h⟩ := bi_elim h
    refine Fr_cVb (ν := m_X8_takeNumber) (As := [.ref (p1 + 2), .int (M.1 p1 1), .int 0, .int 4]) (st := []) (rc := 82) (ci := 8) (d' := 1) (by decide +kernel) ml_X4_117 cv_X8_takeNumber rfl (by decide) rfl ob_82 rfl (by decide) (Nat.le_of_ble_eq_true rfl) (t_X8_takeNumber (o3_2 hp1) hc_15) ?_
    obtain rfl := Option.some.inj h
    exact Fr_zret (by decide +kernel) rfl (nz_b r_16) ⟨rfl, rfl⟩
  have h := iF hs_13 h
  by_cases hs_17 : x3 = 5
  · have h := iT hs_17 h
    refine Fr_tabIn (dflt := 106) (lo := 1) (hi := 7) (offs := #[43, 62, 62, 69, 106, 106, 87]) (len := 43) (off := 106) 107 (by decide +kernel) (by rw [hs_17]; decide) (by rw [hs_17]; decide) (by rw [hs_17]; rfl) (by decide) ?_
    refine Fr_iconst (i := 1) (v := 1) (by decide +kernel) (by decide) ?_
    obtain rfl := Option.some.inj h
    exact Fr_zret (by decide +kernel) rfl (by decide) ⟨rfl, rfl⟩
  have h := iF hs_17 h
  by_cases hs_18 : x3 = 6
  · have h := iT hs_18 h
    refine Fr_tabIn (dflt := 106) (lo := 1) (hi := 7) (offs := #[43, 62, 62, 69, 106, 106, 87]) (len := 43) (off := 106) 107 (by decide +kernel) (by rw [hs_18]; decide) (by rw [hs_18]; decide) (by rw [hs_18]; rfl) (by decide) ?_
    refine Fr_iconst (i := 1) (v := 1) (by decide +kernel) (by decide) ?_
    obtain rfl := Option.some.inj h
    exact Fr_zret (by decide +kernel) rfl (by decide) ⟨rfl, rfl⟩
  have h := iF hs_18 h
  by_cases hs_19 : x3 = 7
  · have h := iT hs_19 h
    refine Fr_tabIn (dflt := 106) (lo := 1) (hi := 7) (offs := #[43, 62, 62, 69, 106, 106, 87]) (len := 43) (off := 87) 88 (by decide +kernel) (by rw [hs_19]; decide) (by rw [hs_19]; decide) (by rw [hs_19]; rfl) (by decide) ?_
    refine Fr_aload_n (q := 0) (i := 0) 0 (by decide +kernel) rfl rfl ?_
    refine gf_X4_18 rfl (by decide +kernel) ob_87 ?_
    refine Fr_aload_n (q := 1) (i := 1) 1 (by decide +kernel) rfl rfl ?_
    refine gf_X4_114 rfl (by decide +kernel) hp1 ?_
    refine Fr_aload_n (q := 1) (i := 1) 1 (by decide +kernel) rfl rfl ?_
    refine gf_X4_72 rfl (by decide +kernel) hp1 ?_
    refine Fr_iconst (i := 1) (v := 1) (by decide +kernel) (by decide) ?_
    refine Fr_bipush (i := 99) (v := 99) (by decide +kernel) (by decide) ?_
    obtain ⟨r_22, M_20, hc_21, h⟩ := bi_elim h
    refine Fr_cVb (ν := m_X8_takeNumber) (As := [.ref (p1 + 2), .int (M.1 p1 1), .int 1, .int 99]) (st := []) (rc := 82) (ci := 8) (d' := 1) (by decide +kernel) ml_X4_117 cv_X8_takeNumber rfl (by decide) rfl ob_82 rfl (by decide) (Nat.le_of_ble_eq_true rfl) (t_X8_takeNumber (o3_2 hp1) hc_21) ?_
    obtain rfl := Option.some.inj h
    exact Fr_zret (by decide +kernel) rfl (nz_b r_22) ⟨rfl, rfl⟩
  have h := iF hs_19 h
  have hhs_1 := lv_neT (a := 1) hs_1 (by decide)
  have hhs_5 := lv_neT (a := 2) hs_5 (by decide)
  have hhs_9 := lv_neT (a := 3) hs_9 (by decide)
  have hhs_13 := lv_neT (a := 4) hs_13 (by decide)
  have hhs_17 := lv_neT (a := 5) hs_17 (by decide)
  have hhs_18 := lv_neT (a := 6) hs_18 (by decide)
  have hhs_19 := lv_neT (a := 7) hs_19 (by decide)
  refine Fr_tabOut (dflt := 106) (lo := 1) (hi := 7) (offs := #[43, 62, 62, 69, 106, 106, 87]) (len := 43) 107 (by decide +kernel) (by first | omega | (simp only [tn] at *; omega)) (by decide) ?_
  refine Fr_iconst (i := 1) (v := 1) (by decide +kernel) (by decide) ?_
  obtain rfl := Option.some.inj h
  exact Fr_zret (by decide +kernel) rfl (by decide) ⟨rfl, rfl⟩
set_option maxRecDepth 20000 in
theorem t_X4_readStep_b163 {N : Nat} {p1 : Nat} {p2 : Nat} (hp1 : Ob 0 111 p1 3) (hp2 : Ob 0 111 p2 5) {q : Bool × Mem} {M : Mem} (h : f_X4_readStep_b163 N p1 p2 M = some q) : Fr 0 111 10 m_X4_readStep 163 [(0, .ref 87), (1, .ref p1)] [] M (QB q) := by
  unfold f_X4_readStep_b163 at h
  refine Fr_aload_n (q := 1) (i := 1) 1 (by decide +kernel) rfl rfl ?_
  refine Fr_dup (by decide +kernel) rfl ?_
  refine gf_X4_72 rfl (by decide +kernel) hp1 ?_
  refine Fr_iconst (i := 1) (v := 1) (by decide +kernel) (by decide) ?_
  refine Fr_iadd (by decide +kernel) ?_
  refine pf_X4_72 rfl (by decide +kernel) hp1 ?_
  obtain ⟨M_17, eM_17, h⟩ := bM_elim h
  refine Fr_mem eM_17 ?_
  refine Fr_aload_n (q := 1) (i := 1) 1 (by decide +kernel) rfl rfl ?_
  refine Fr_dup (by decide +kernel) rfl ?_
  refine gf_X4_88 rfl (by decide +kernel) hp1 ?_
  refine Fr_iconst (i := 1) (v := 1) (by decide +kernel) (by decide) ?_
  refine Fr_iadd (by decide +kernel) ?_
  refine pf_X4_88 rfl (by decide +kernel) hp1 ?_
  obtain ⟨M_18, eM_18, h⟩ := bM_elim h
  refine Fr_mem eM_18 ?_
  refine Fr_aload_n (q := 0) (i := 0) 0 (by decide +kernel) rfl rfl ?_
  refine gf_X4_18 rfl (by decide +kernel) ob_87 ?_
  obtain ⟨r_21, M_19, hc_20, h⟩ := bi_elim h
  refine Fr_cVb (ν := m_X8_takeSemicolon) (As := []) (st := []) (rc := 82) (ci := 8) (d' := 1) (by decide +kernel) ml_X4_81 cv_X8_takeSemicolon rfl (by decide) rfl ob_82 rfl (by decide) (Nat.le_of_ble_eq_true rfl) (t_X8_takeSemicolon hc_20) ?_
  obtain rfl := Option.some.inj h
  exact Fr_zret (by decide +kernel) rfl (nz_b r_21) ⟨rfl, rfl⟩
set_option maxRecDepth 20000 in
theorem t_X4_readStep_b126 {N : Nat} {p1 : Nat} {p2 : Nat} (hp1 : Ob 0 111 p1 3) (hp2 : Ob 0 111 p2 5) {q : Bool × Mem} {v4 : Int32} {s0 : Int32} {M : Mem} (h : f_X4_readStep_b126 N p1 p2 v4 s0 M = some q) : Fr 0 111 10 m_X4_readStep 126 [(0, .ref 87), (1, .ref p1), (4, .int v4)] [.int s0] M (QB q) := by
  unfold f_X4_readStep_b126 at h
  refine Fr_istore (i := 5) (lv' := [(5, .int s0), (0, .ref 87), (1, .ref p1), (4, .int v4)]) (by decide +kernel) (by decide) rfl ?_
  refine Fr_iload (i := 5) 0 (by decide +kernel) rfl ?_
  refine Fr_if_ne (off := 5) 135 (by decide +kernel) (by decide) (fun hc => ?_) (fun hc => ?_)
  · have h := iF hc h
    refine Fr_iload (i := 4) 3 (by decide +kernel) rfl ?_
    refine Fr_if_eq (off := 26) 163 (by decide +kernel) (by decide) (fun hc => ?_) (fun hc => ?_)
    · have h := iT hc h
      refine Fr_loc [1, 2] rfl ?_
      exact t_X4_readStep_b163 hp1 hp2 h
    · have h := iF hc h
      refine Fr_aload_n (q := 0) (i := 0) 1 (by decide +kernel) rfl rfl ?_
      refine gf_X4_11 rfl (by decide +kernel) ob_87 ?_
      refine Fr_aload_n (q := 0) (i := 0) 1 (by decide +kernel) rfl rfl ?_
      refine gf_X4_31 rfl (by decide +kernel) ob_87 ?_
      refine Fr_aload_n (q := 1) (i := 1) 2 (by decide +kernel) rfl rfl ?_
      refine gf_X4_72 rfl (by decide +kernel) hp1 ?_
      obtain ⟨hi_22, h⟩ := ck_elim h
      refine Fr_iast (by decide +kernel) ob_88 (vp_of ln_88 hi_22) ?_
      obtain ⟨M_23, eM_23, h⟩ := bM_elim h
      refine Fr_mem eM_23 ?_
      refine Fr_aload_n (q := 0) (i := 0) 1 (by decide +kernel) rfl rfl ?_
      refine Fr_dup (by decide +kernel) rfl ?_
      refine gf_X4_31 rfl (by decide +kernel) ob_87 ?_
      refine Fr_iconst (i := 1) (v := 1) (by decide +kernel) (by decide) ?_
      refine Fr_iadd (by decide +kernel) ?_
      refine pf_X4_31 rfl (by decide +kernel) ob_87 ?_
      obtain ⟨M_24, eM_24, h⟩ := bM_elim h
      refine Fr_mem eM_24 ?_
      refine Fr_loc [1, 2] rfl ?_
      exact t_X4_readStep_b163 hp1 hp2 h
  · have h := iT hc h
    refine Fr_iconst (i := 0) (v := 0) (by decide +kernel) (by decide) ?_
    obtain rfl := Option.some.inj h
    exact Fr_zret (by decide +kernel) rfl (by decide) ⟨rfl, rfl⟩
set_option maxRecDepth 20000 in
theorem t_X4_readStep_b87 {N : Nat} {p1 : Nat} {p2 : Nat} (hp1 : Ob 0 111 p1 3) (hp2 : Ob 0 111 p2 5) {q : Bool × Mem} {v3 : Int32} {v4 : Int32} {M : Mem} (h : f_X4_readStep_b87 N p1 p2 v3 v4 M = some q) : Fr 0 111 10 m_X4_readStep 87 [(0, .ref 87), (1, .ref p1), (2, .ref p2), (3, .int v3), (4, .int v4)] [] M (QB q) := by
  unfold f_X4_readStep_b87 at h
  refine Fr_aload_n (q := 0) (i := 0) 0 (by decide +kernel) rfl rfl ?_
  refine gf_X4_18 rfl (by decide +kernel) ob_87 ?_
  obtain ⟨M_10, hc_11, h⟩ := bv_elim h
  refine Fr_cVv (ν := m_X8_advance) (As := []) (st := []) (rc := 82) (ci := 8) (d' := 0) (by decide +kernel) ml_X4_69 cv_X8_advance rfl (by decide) rfl ob_82 rfl (by decide) (Nat.le_of_ble_eq_true rfl) (t_X8_advance hc_11) ?_
  refine Fr_aload_n (q := 1) (i := 1) 1 (by decide +kernel) rfl rfl ?_
  refine gf_X4_75 rfl (by decide +kernel) hp1 ?_
  refine Fr_aload_n (q := 1) (i := 1) 1 (by decide +kernel) rfl rfl ?_
  refine gf_X4_72 rfl (by decide +kernel) hp1 ?_
  refine Fr_iload_n (q := 3) (i := 3) 3 (by decide +kernel) rfl rfl ?_
  obtain ⟨hi_12, h⟩ := ck_elim h
  refine Fr_iast (by decide +kernel) (o3_1 hp1) (vp_of (n3_1 hp1) hi_12) ?_
  obtain ⟨M_13, eM_13, h⟩ := bM_elim h
  refine Fr_mem eM_13 ?_
  refine Fr_iload_n (q := 3) (i := 3) 3 (by decide +kernel) rfl rfl ?_
  refine Fr_bipush (i := 8) (v := 8) (by decide +kernel) (by decide) ?_
  refine Fr_icmp_ne (off := 12) 119 (by decide +kernel) (by decide) (fun hc => ?_) (fun hc => ?_)
  · have h := iF hc h
    refine Fr_aload_n (q := 0) (i := 0) 0 (by decide +kernel) rfl rfl ?_
    refine Fr_aload_n (q := 1) (i := 1) 1 (by decide +kernel) rfl rfl ?_
    refine Fr_aload_n (q := 2) (i := 2) 2 (by decide +kernel) rfl rfl ?_
    refine Fr_iload_n (q := 3) (i := 3) 3 (by decide +kernel) rfl rfl ?_
    obtain ⟨r_16, M_14, hc_15, h⟩ := bi_elim h
    refine Fr_cVb (ν := m_X4_readRest) (As := [.ref p1, .ref p2, .int v3]) (st := []) (rc := 87) (ci := 4) (d' := 9) (by decide +kernel) ml_X4_94 cv_X4_readRest rfl (by decide) rfl ob_87 rfl (by decide) (Nat.le_of_ble_eq_true rfl) (t_X4_readRest hp1 hp2 hc_15) ?_
    refine Fr_loc [0, 1, 4] rfl ?_
    exact t_X4_readStep_b126 hp1 hp2 h
  · have h := iT hc h
    refine Fr_aload_n (q := 0) (i := 0) 0 (by decide +kernel) rfl rfl ?_
    refine Fr_aload_n (q := 1) (i := 1) 1 (by decide +kernel) rfl rfl ?_
    refine Fr_aload_n (q := 2) (i := 2) 2 (by decide +kernel) rfl rfl ?_
    obtain ⟨r_27, M_25, hc_26, h⟩ := bi_elim h
    refine Fr_cVb (ν := m_X4_readTest) (As := [.ref p1, .ref p2]) (st := []) (rc := 87) (ci := 4) (d' := 9) (by decide +kernel) ml_X4_91 cv_X4_readTest rfl (by decide) rfl ob_87 rfl (by decide) (Nat.le_of_ble_eq_true rfl) (t_X4_readTest hp1 hp2 hc_26) ?_
    refine Fr_goto (off := 10) 126 (by decide +kernel) (by decide) ?_
    refine Fr_loc [0, 1, 4] rfl ?_
    exact t_X4_readStep_b126 hp1 hp2 h
set_option maxRecDepth 20000 in
theorem t_X4_readStep_b62 {N : Nat} {p1 : Nat} {p2 : Nat} (hp1 : Ob 0 111 p1 3) (hp2 : Ob 0 111 p2 5) {q : Bool × Mem} {v3 : Int32} {s0 : Int32} {M : Mem} (h : f_X4_readStep_b62 N p1 p2 v3 s0 M = some q) : Fr 0 111 10 m_X4_readStep 62 [(0, .ref 87), (1, .ref p1), (2, .ref p2), (3, .int v3)] [.int s0] M (QB q) := by
  unfold f_X4_readStep_b62 at h
  refine Fr_istore (i := 4) (lv' := [(4, .int s0), (0, .ref 87), (1, .ref p1), (2, .ref p2), (3, .int v3)]) (by decide +kernel) (by decide) rfl ?_
  refine Fr_iload (i := 4) 0 (by decide +kernel) rfl ?_
  refine Fr_if_eq (off := 21) 87 (by decide +kernel) (by decide) (fun hc => ?_) (fun hc => ?_)
  · have h := iT hc h
    refine Fr_loc [1, 2, 3, 4, 0] rfl ?_
    exact t_X4_readStep_b87 hp1 hp2 h
  · have h := iF hc h
    refine Fr_aload_n (q := 0) (i := 0) 1 (by decide +kernel) rfl rfl ?_
    refine gf_X4_31 rfl (by decide +kernel) ob_87 ?_
    refine Fr_iconst (i := 3) (v := 3) (by decide +kernel) (by decide) ?_
    refine Fr_icmp_lt (off := 13) 87 (by decide +kernel) (by decide) (fun hc => ?_) (fun hc => ?_)
    · have h := iT hc h
      refine Fr_loc [1, 2, 3, 4, 0] rfl ?_
      exact t_X4_readStep_b87 hp1 hp2 h
    · have h := iF hc h
      refine Fr_aload_n (q := 0) (i := 0) 1 (by decide +kernel) rfl rfl ?_
      refine gf_X4_18 rfl (by decide +kernel) ob_87 ?_
      refine Fr_bipush (i := 7) (v := 7) (by decide +kernel) (by decide) ?_
      obtain ⟨r_30, M_28, hc_29, h⟩ := bi_elim h
      refine Fr_cVb (ν := m_X8_refuse) (As := [.int 7]) (st := []) (rc := 82) (ci := 8) (d' := 0) (by decide +kernel) ml_X4_59 cv_X8_refuse rfl (by decide) rfl ob_82 rfl (by decide) (Nat.le_of_ble_eq_true rfl) (t_X8_refuse hc_29) ?_
      obtain rfl := Option.some.inj h
      exact Fr_zret (by decide +kernel) rfl (nz_b r_30) ⟨rfl, rfl⟩
set_option maxRecDepth 20000 in
theorem t_X4_readStep_b57 {N : Nat} {p1 : Nat} {p2 : Nat} (hp1 : Ob 0 111 p1 3) (hp2 : Ob 0 111 p2 5) {q : Bool × Mem} {v3 : Int32} {M : Mem} (h : f_X4_readStep_b57 N p1 p2 v3 M = some q) : Fr 0 111 10 m_X4_readStep 57 [(0, .ref 87), (1, .ref p1), (2, .ref p2), (3, .int v3)] [] M (QB q) := by
  unfold f_X4_readStep_b57 at h
  refine Fr_iconst (i := 1) (v := 1) (by decide +kernel) (by decide) ?_
  refine Fr_goto (off := 4) 62 (by decide +kernel) (by decide) ?_
  exact t_X4_readStep_b62 hp1 hp2 h
set_option maxRecDepth 20000 in
theorem t_X4_readStep {N : Nat} {p1 : Nat} {p2 : Nat} (hp1 : Ob 0 111 p1 3) (hp2 : Ob 0 111 p2 5) {M : Mem} {q : Bool × Mem} (h : f_X4_readStep N p1 p2 M = some q) : Ev 0 111 10 m_X4_readStep [.ref 87, .ref p1, .ref p2] M (QB q) := by
  refine Ev_of_Fr (by decide +kernel) (Nat.le_of_ble_eq_true rfl) ?_
  show Fr 0 111 10 m_X4_readStep 0 [(0, .ref 87), (1, .ref p1), (2, .ref p2)] [] M (QB q)
  unfold f_X4_readStep at h
  refine Fr_aload_n (q := 0) (i := 0) 0 (by decide +kernel) rfl rfl ?_
  obtain ⟨r_3, M_1, hc_2, h⟩ := bi_elim h
  refine Fr_cVi (ν := m_X4_sortOfWord) (As := []) (st := []) (rc := 87) (ci := 4) (d' := 8) (by decide +kernel) ml_X4_84 cv_X4_sortOfWord rfl (by decide) rfl ob_87 rfl (by decide) (Nat.le_of_ble_eq_true rfl) (t_X4_sortOfWord hc_2) ?_
  refine Fr_istore_n (q := 3) (i := 3) (lv' := [(3, .int r_3), (0, .ref 87), (1, .ref p1), (2, .ref p2)]) (by decide +kernel) rfl (by decide) rfl ?_
  refine Fr_iload_n (q := 3) (i := 3) 0 (by decide +kernel) rfl rfl ?_
  refine Fr_iconst (i := (-1)) (v := (-1)) (by decide +kernel) (by decide) ?_
  refine Fr_icmp_ne (off := 12) 19 (by decide +kernel) (by decide) (fun hc => ?_) (fun hc => ?_)
  · have h := iF hc h
    refine Fr_aload_n (q := 1) (i := 1) 2 (by decide +kernel) rfl rfl ?_
    refine gf_X4_88 rfl (by decide +kernel) hp1 ?_
    refine Fr_bipush (i := 30) (v := 30) (by decide +kernel) (by decide) ?_
    refine Fr_icmp_ge (off := 10) 35 (by decide +kernel) (by decide) (fun hc => ?_) (fun hc => ?_)
    · have h := iT hc h
      refine Fr_aload_n (q := 0) (i := 0) 1 (by decide +kernel) rfl rfl ?_
      refine gf_X4_18 rfl (by decide +kernel) ob_87 ?_
      refine Fr_bipush (i := 6) (v := 6) (by decide +kernel) (by decide) ?_
      obtain ⟨r_6, M_4, hc_5, h⟩ := bi_elim h
      refine Fr_cVb (ν := m_X8_refuse) (As := [.int 6]) (st := []) (rc := 82) (ci := 8) (d' := 0) (by decide +kernel) ml_X4_59 cv_X8_refuse rfl (by decide) rfl ob_82 rfl (by decide) (Nat.le_of_ble_eq_true rfl) (t_X8_refuse hc_5) ?_
      obtain rfl := Option.some.inj h
      exact Fr_zret (by decide +kernel) rfl (nz_b r_6) ⟨rfl, rfl⟩
    · have h := iF hc h
      refine Fr_aload_n (q := 1) (i := 1) 2 (by decide +kernel) rfl rfl ?_
      obtain ⟨r_9, M_7, hc_8, h⟩ := bi_elim h
      refine Fr_cVb (ν := m_X3_isFull) (As := []) (st := []) (rc := p1) (ci := 3) (d' := 0) (by decide +kernel) ml_X4_66 cv_X3_isFull rfl (by decide) rfl hp1 rfl (by decide) (Nat.le_of_ble_eq_true rfl) (t_X3_isFull hp1 hc_8) ?_
      refine Fr_if_eq (off := 13) 45 (by decide +kernel) (by decide) (fun hc => ?_) (fun hc => ?_)
      · have h := iT hc h
        refine Fr_iload_n (q := 3) (i := 3) 0 (by decide +kernel) rfl rfl ?_
        refine Fr_bipush (i := 7) (v := 7) (by decide +kernel) (by decide) ?_
        refine Fr_icmp_eq (off := 9) 57 (by decide +kernel) (by decide) (fun hc => ?_) (fun hc => ?_)
        · have h := iT hc h
          refine Fr_loc [1, 2, 3, 0] rfl ?_
          exact t_X4_readStep_b57 hp1 hp2 h
        · have h := iF hc h
          refine Fr_iload_n (q := 3) (i := 3) 0 (by decide +kernel) rfl rfl ?_
          refine Fr_bipush (i := 8) (v := 8) (by decide +kernel) (by decide) ?_
          refine Fr_icmp_ne (off := 7) 61 (by decide +kernel) (by decide) (fun hc => ?_) (fun hc => ?_)
          · have h := iF hc h
            refine Fr_iconst (i := 0) (v := 0) (by decide +kernel) (by decide) ?_
            refine Fr_loc [1, 2, 3, 0] rfl ?_
            exact t_X4_readStep_b62 hp1 hp2 h
          · have h := iT hc h
            refine Fr_loc [1, 2, 3, 0] rfl ?_
            exact t_X4_readStep_b57 hp1 hp2 h
      · have h := iF hc h
        refine Fr_aload_n (q := 0) (i := 0) 1 (by decide +kernel) rfl rfl ?_
        refine gf_X4_18 rfl (by decide +kernel) ob_87 ?_
        refine Fr_bipush (i := 6) (v := 6) (by decide +kernel) (by decide) ?_
        obtain ⟨r_33, M_31, hc_32, h⟩ := bi_elim h
        refine Fr_cVb (ν := m_X8_refuse) (As := [.int 6]) (st := []) (rc := 82) (ci := 8) (d' := 0) (by decide +kernel) ml_X4_59 cv_X8_refuse rfl (by decide) rfl ob_82 rfl (by decide) (Nat.le_of_ble_eq_true rfl) (t_X8_refuse hc_32) ?_
        obtain rfl := Option.some.inj h
        exact Fr_zret (by decide +kernel) rfl (nz_b r_33) ⟨rfl, rfl⟩
  · have h := iT hc h
    refine Fr_aload_n (q := 0) (i := 0) 1 (by decide +kernel) rfl rfl ?_
    refine gf_X4_18 rfl (by decide +kernel) ob_87 ?_
    refine Fr_iconst (i := 2) (v := 2) (by decide +kernel) (by decide) ?_
    obtain ⟨r_36, M_34, hc_35, h⟩ := bi_elim h
    refine Fr_cVb (ν := m_X8_refuse) (As := [.int 2]) (st := []) (rc := 82) (ci := 8) (d' := 0) (by decide +kernel) ml_X4_59 cv_X8_refuse rfl (by decide) rfl ob_82 rfl (by decide) (Nat.le_of_ble_eq_true rfl) (t_X8_refuse hc_35) ?_
    obtain rfl := Option.some.inj h
    exact Fr_zret (by decide +kernel) rfl (nz_b r_36) ⟨rfl, rfl⟩
set_option maxRecDepth 20000 in
theorem t_X4_fill_b93 {N : Nat} {p1 : Nat} {p2 : Nat} (hp1 : Ob 0 111 p1 3) (hp2 : Ob 0 111 p2 5) {q : Bool × Mem} {M : Mem} (h : f_X4_fill_b93 N p1 p2 M = some q) : Fr 0 111 11 m_X4_fill 93 [(0, .ref 87)] [] M (QB q) := by
  unfold f_X4_fill_b93 at h
  refine Fr_aload_n (q := 0) (i := 0) 0 (by decide +kernel) rfl rfl ?_
  refine gf_X4_18 rfl (by decide +kernel) ob_87 ?_
  refine gf_X4_63 rfl (by decide +kernel) ob_82 ?_
  refine Fr_if_ne (off := 7) 107 (by decide +kernel) (by decide) (fun hc => ?_) (fun hc => ?_)
  · have h := iF hc h
    refine Fr_iconst (i := 0) (v := 0) (by decide +kernel) (by decide) ?_
    obtain rfl := Option.some.inj h
    exact Fr_zret (by decide +kernel) rfl (by decide) ⟨rfl, rfl⟩
  · have h := iT hc h
    refine Fr_iconst (i := 1) (v := 1) (by decide +kernel) (by decide) ?_
    refine Fr_goto (off := 4) 108 (by decide +kernel) (by decide) ?_
    obtain rfl := Option.some.inj h
    exact Fr_zret (by decide +kernel) rfl (by decide) ⟨rfl, rfl⟩
set_option maxRecDepth 20000 in
theorem t_X4_fill_b77 {N : Nat} {p1 : Nat} {p2 : Nat} (hp1 : Ob 0 111 p1 3) (hp2 : Ob 0 111 p2 5) {q : Bool × Mem} {M : Mem} (h : f_X4_fill_b77 N p1 p2 M = some q) : Fr 0 111 11 m_X4_fill 77 [(0, .ref 87)] [] M (QB q) := by
  unfold f_X4_fill_b77 at h
  refine Fr_aload_n (q := 0) (i := 0) 0 (by decide +kernel) rfl rfl ?_
  refine gf_X4_31 rfl (by decide +kernel) ob_87 ?_
  refine Fr_if_le (off := 12) 93 (by decide +kernel) (by decide) (fun hc => ?_) (fun hc => ?_)
  · have h := iT hc h
    exact t_X4_fill_b93 hp1 hp2 h
  · have h := iF hc h
    refine Fr_aload_n (q := 0) (i := 0) 0 (by decide +kernel) rfl rfl ?_
    refine gf_X4_18 rfl (by decide +kernel) ob_87 ?_
    refine Fr_iconst (i := 2) (v := 2) (by decide +kernel) (by decide) ?_
    obtain ⟨r_9, M_7, hc_8, h⟩ := bi_elim h
    refine Fr_cVb (ν := m_X8_refuse) (As := [.int 2]) (st := []) (rc := 82) (ci := 8) (d' := 0) (by decide +kernel) ml_X4_59 cv_X8_refuse rfl (by decide) rfl ob_82 rfl (by decide) (Nat.le_of_ble_eq_true rfl) (t_X8_refuse hc_8) ?_
    refine Fr_pop (by decide +kernel) rfl ?_
    exact t_X4_fill_b93 hp1 hp2 h
set_option maxRecDepth 20000 in
theorem t_X4_fill_b71 {N : Nat} {p1 : Nat} {p2 : Nat} (hp1 : Ob 0 111 p1 3) (hp2 : Ob 0 111 p2 5) {q : Bool × Mem} {k25 : Int32 → Mem → Option (Bool × Mem)} (hk25 : ∀ (a : Int32) (M : Mem), k25 a M = some q → Fr 0 111 11 m_X4_fill 25 [(0, .ref 87), (1, .ref p1), (2, .ref p2), (4, .int a)] [] M (QB q)) {v4 : Int32} {M : Mem} (h : f_X4_fill_b71 N p1 p2 k25 v4 M = some q) : Fr 0 111 11 m_X4_fill 71 [(0, .ref 87), (1, .ref p1), (2, .ref p2), (4, .int v4)] [] M (QB q) := by
  unfold f_X4_fill_b71 at h
  refine Fr_iinc (i := 4) (j := 1) (v := (v4 + 1)) (lv' := [(4, .int (v4 + 1)), (0, .ref 87), (1, .ref p1), (2, .ref p2)]) 3 (by decide +kernel) rfl rfl (by decide) rfl ?_
  refine Fr_goto (off := (-49)) 25 (by decide +kernel) (by decide) ?_
  refine Fr_loc [1, 2, 3, 0] rfl ?_
  exact hk25 (v4 + 1) M h
set_option maxRecDepth 20000 in
theorem t_X4_fill_h25 {N : Nat} {p1 : Nat} {p2 : Nat} (hp1 : Ob 0 111 p1 3) (hp2 : Ob 0 111 p2 5) {q : Bool × Mem} {k25 : Int32 → Mem → Option (Bool × Mem)} (hk25 : ∀ (a : Int32) (M : Mem), k25 a M = some q → Fr 0 111 11 m_X4_fill 25 [(0, .ref 87), (1, .ref p1), (2, .ref p2), (4, .int a)] [] M (QB q)) {v4 : Int32} {M : Mem} (h : f_X4_fill_h25 N p1 p2 k25 v4 M = some q) : Fr 0 111 11 m_X4_fill 25 [(0, .ref 87), (1, .ref p1), (2, .ref p2), (4, .int v4)] [] M (QB q) := by
  unfold f_X4_fill_h25 at h
  refine Fr_iload (i := 4) 3 (by decide +kernel) rfl ?_
  refine Fr_sipush (i := 300) (v := 300) (by decide +kernel) (by decide) ?_
  refine Fr_icmp_ge (off := 47) 77 (by decide +kernel) (by decide) (fun hc => ?_) (fun hc => ?_)
  · have h := iT hc h
    refine Fr_loc [0] rfl ?_
    exact t_X4_fill_b77 hp1 hp2 h
  · have h := iF hc h
    refine Fr_aload_n (q := 0) (i := 0) 0 (by decide +kernel) rfl rfl ?_
    refine gf_X4_18 rfl (by decide +kernel) ob_87 ?_
    obtain ⟨r_12, M_10, hc_11, h⟩ := bi_elim h
    refine Fr_cVb (ν := m_X8_isGoingOn) (As := []) (st := []) (rc := 82) (ci := 8) (d' := 0) (by decide +kernel) ml_X4_41 cv_X8_isGoingOn rfl (by decide) rfl ob_82 rfl (by decide) (Nat.le_of_ble_eq_true rfl) (t_X8_isGoingOn hc_11) ?_
    refine Fr_if_eq (off := 37) 77 (by decide +kernel) (by decide) (fun hc => ?_) (fun hc => ?_)
    · have h := iT hc h
      refine Fr_loc [0] rfl ?_
      exact t_X4_fill_b77 hp1 hp2 h
    · have h := iF hc h
      refine Fr_aload_n (q := 0) (i := 0) 0 (by decide +kernel) rfl rfl ?_
      refine gf_X4_18 rfl (by decide +kernel) ob_87 ?_
      refine Fr_ldcS (idx := 45) 21 (by decide +kernel) (by decide) rfl rfl ?_
      obtain ⟨r_15, M_13, hc_14, h⟩ := bi_elim h
      refine Fr_cVb (ν := m_X8_isWord) (As := [.ref (400 + 21)]) (st := []) (rc := 82) (ci := 8) (d' := 7) (by decide +kernel) ml_X4_47 cv_X8_isWord rfl (by decide) rfl ob_82 rfl (by decide) (Nat.le_of_ble_eq_true rfl) (t_X8_isWord (by decide) hc_14) ?_
      refine Fr_if_eq (off := 12) 64 (by decide +kernel) (by decide) (fun hc => ?_) (fun hc => ?_)
      · have h := iT hc h
        refine Fr_aload_n (q := 0) (i := 0) 0 (by decide +kernel) rfl rfl ?_
        refine Fr_aload_n (q := 1) (i := 1) 1 (by decide +kernel) rfl rfl ?_
        refine Fr_aload_n (q := 2) (i := 2) 2 (by decide +kernel) rfl rfl ?_
        obtain ⟨r_18, M_16, hc_17, h⟩ := bi_elim h
        refine Fr_cVb (ν := m_X4_readStep) (As := [.ref p1, .ref p2]) (st := []) (rc := 87) (ci := 4) (d' := 10) (by decide +kernel) ml_X4_55 cv_X4_readStep rfl (by decide) rfl ob_87 rfl (by decide) (Nat.le_of_ble_eq_true rfl) (t_X4_readStep hp1 hp2 hc_17) ?_
        refine Fr_pop (by decide +kernel) rfl ?_
        exact t_X4_fill_b71 hp1 hp2 hk25 h
      · have h := iF hc h
        refine Fr_aload_n (q := 0) (i := 0) 0 (by decide +kernel) rfl rfl ?_
        refine Fr_aload_n (q := 1) (i := 1) 1 (by decide +kernel) rfl rfl ?_
        obtain ⟨r_21, M_19, hc_20, h⟩ := bi_elim h
        refine Fr_cVb (ν := m_X4_readEnd) (As := [.ref p1]) (st := []) (rc := 87) (ci := 4) (d' := 2) (by decide +kernel) ml_X4_51 cv_X4_readEnd rfl (by decide) rfl ob_87 rfl (by decide) (Nat.le_of_ble_eq_true rfl) (t_X4_readEnd hp1 hc_20) ?_
        refine Fr_pop (by decide +kernel) rfl ?_
        refine Fr_goto (off := 10) 71 (by decide +kernel) (by decide) ?_
        exact t_X4_fill_b71 hp1 hp2 hk25 h
set_option maxRecDepth 20000 in
theorem t_X4_fill {N : Nat} {p1 : Nat} {p2 : Nat} {x3 : Int32} (hp1 : Ob 0 111 p1 3) (hp2 : Ob 0 111 p2 5) {M : Mem} {q : Bool × Mem} (h : f_X4_fill N p1 p2 x3 M = some q) : Ev 0 111 11 m_X4_fill [.ref 87, .ref p1, .ref p2, .int x3] M (QB q) := by
  refine Ev_of_Fr (by decide +kernel) (Nat.le_of_ble_eq_true rfl) ?_
  show Fr 0 111 11 m_X4_fill 0 [(0, .ref 87), (1, .ref p1), (2, .ref p2), (3, .int x3)] [] M (QB q)
  unfold f_X4_fill at h
  refine Fr_aload_n (q := 1) (i := 1) 1 (by decide +kernel) rfl rfl ?_
  obtain ⟨M_1, hc_2, h⟩ := bv_elim h
  refine Fr_cVv (ν := m_X3_clear) (As := []) (st := []) (rc := p1) (ci := 3) (d' := 0) (by decide +kernel) ml_X4_22 cv_X3_clear rfl (by decide) rfl hp1 rfl (by decide) (Nat.le_of_ble_eq_true rfl) (t_X3_clear hp1 hc_2) ?_
  refine Fr_aload_n (q := 1) (i := 1) 1 (by decide +kernel) rfl rfl ?_
  refine Fr_iconst (i := 1) (v := 1) (by decide +kernel) (by decide) ?_
  refine pf_X4_27 rfl (by decide +kernel) hp1 (by decide) ?_
  obtain ⟨M_3, eM_3, h⟩ := bM_elim h
  refine Fr_mem eM_3 ?_
  refine Fr_aload_n (q := 0) (i := 0) 0 (by decide +kernel) rfl rfl ?_
  refine Fr_iconst (i := 0) (v := 0) (by decide +kernel) (by decide) ?_
  refine pf_X4_31 rfl (by decide +kernel) ob_87 ?_
  obtain ⟨M_4, eM_4, h⟩ := bM_elim h
  refine Fr_mem eM_4 ?_
  refine Fr_aload_n (q := 0) (i := 0) 0 (by decide +kernel) rfl rfl ?_
  refine gf_X4_18 rfl (by decide +kernel) ob_87 ?_
  refine Fr_iload_n (q := 3) (i := 3) 3 (by decide +kernel) rfl rfl ?_
  obtain ⟨M_5, hc_6, h⟩ := bv_elim h
  refine Fr_cVv (ν := m_X8_begin) (As := [.int x3]) (st := []) (rc := 82) (ci := 8) (d' := 1) (by decide +kernel) ml_X4_35 cv_X8_begin rfl (by decide) rfl ob_82 rfl (by decide) (Nat.le_of_ble_eq_true rfl) (t_X8_begin hc_6) ?_
  refine Fr_iconst (i := 0) (v := 0) (by decide +kernel) (by decide) ?_
  refine Fr_istore (i := 4) (lv' := [(4, .int 0), (0, .ref 87), (1, .ref p1), (2, .ref p2), (3, .int x3)]) (by decide +kernel) (by decide) rfl ?_
  refine Fr_loc [1, 2, 3, 0] rfl ?_
  exact lp_sound (body := fun k a m => f_X4_fill_h25 N p1 p2 k a m) (P := fun a M => Fr 0 111 11 m_X4_fill 25 [(0, .ref 87), (1, .ref p1), (2, .ref p2), (4, .int a)] [] M (QB q)) (fun k hk a m h => t_X4_fill_h25 hp1 hp2 hk h) N 0 M_5 h
set_option maxRecDepth 20000 in
theorem t_X5_clear {N : Nat} {p0 : Nat} (hp0 : Ob 0 111 p0 5) {M : Mem} {q : Mem} (h : f_X5_clear N p0 M = some q) : Ev 0 111 1 m_X5_clear [.ref p0] M (QV q) := by
  refine Ev_of_Fr (by decide +kernel) (Nat.le_of_ble_eq_true rfl) ?_
  show Fr 0 111 1 m_X5_clear 0 [(0, .ref p0)] [] M (QV q)
  unfold f_X5_clear at h
  refine Fr_aload_n (q := 0) (i := 0) 0 (by decide +kernel) rfl rfl ?_
  refine Fr_iconst (i := 0) (v := 0) (by decide +kernel) (by decide) ?_
  refine pf_X5_45 rfl (by decide +kernel) hp0 ?_
  obtain ⟨M_1, eM_1, h⟩ := bM_elim h
  refine Fr_mem eM_1 ?_
  refine Fr_aload_n (q := 0) (i := 0) 0 (by decide +kernel) rfl rfl ?_
  refine Fr_iconst (i := 0) (v := 0) (by decide +kernel) (by decide) ?_
  refine pf_X5_48 rfl (by decide +kernel) hp0 ?_
  obtain ⟨M_2, eM_2, h⟩ := bM_elim h
  refine Fr_mem eM_2 ?_
  refine Fr_aload_n (q := 0) (i := 0) 0 (by decide +kernel) rfl rfl ?_
  refine Fr_iconst (i := 0) (v := 0) (by decide +kernel) (by decide) ?_
  refine pf_X5_51 rfl (by decide +kernel) hp0 ?_
  obtain ⟨M_3, eM_3, h⟩ := bM_elim h
  refine Fr_mem eM_3 ?_
  refine Fr_aload_n (q := 0) (i := 0) 0 (by decide +kernel) rfl rfl ?_
  refine Fr_iconst (i := 1) (v := 1) (by decide +kernel) (by decide) ?_
  refine pf_X5_38 rfl (by decide +kernel) hp0 ?_
  obtain ⟨M_4, eM_4, h⟩ := bM_elim h
  refine Fr_mem eM_4 ?_
  refine Fr_aload_n (q := 0) (i := 0) 0 (by decide +kernel) rfl rfl ?_
  refine Fr_bipush (i := 10) (v := 10) (by decide +kernel) (by decide) ?_
  refine pf_X5_42 rfl (by decide +kernel) hp0 ?_
  obtain ⟨M_5, eM_5, h⟩ := bM_elim h
  refine Fr_mem eM_5 ?_
  refine Fr_aload_n (q := 0) (i := 0) 0 (by decide +kernel) rfl rfl ?_
  refine Fr_iconst (i := 0) (v := 0) (by decide +kernel) (by decide) ?_
  refine pf_X5_54 rfl (by decide +kernel) hp0 ?_
  obtain ⟨M_6, eM_6, h⟩ := bM_elim h
  refine Fr_mem eM_6 ?_
  refine Fr_aload_n (q := 0) (i := 0) 0 (by decide +kernel) rfl rfl ?_
  refine Fr_iconst (i := 0) (v := 0) (by decide +kernel) (by decide) ?_
  refine pf_X5_57 rfl (by decide +kernel) hp0 ?_
  obtain ⟨M_7, eM_7, h⟩ := bM_elim h
  refine Fr_mem eM_7 ?_
  refine Fr_aload_n (q := 0) (i := 0) 0 (by decide +kernel) rfl rfl ?_
  refine Fr_iconst (i := 0) (v := 0) (by decide +kernel) (by decide) ?_
  refine pf_X5_60 rfl (by decide +kernel) hp0 ?_
  obtain ⟨M_8, eM_8, h⟩ := bM_elim h
  refine Fr_mem eM_8 ?_
  refine Fr_aload_n (q := 0) (i := 0) 0 (by decide +kernel) rfl rfl ?_
  refine Fr_iconst (i := 0) (v := 0) (by decide +kernel) (by decide) ?_
  refine pf_X5_63 rfl (by decide +kernel) hp0 ?_
  obtain ⟨M_9, eM_9, h⟩ := bM_elim h
  refine Fr_mem eM_9 ?_
  refine Fr_aload_n (q := 0) (i := 0) 0 (by decide +kernel) rfl rfl ?_
  refine Fr_iconst (i := 0) (v := 0) (by decide +kernel) (by decide) ?_
  refine pf_X5_66 rfl (by decide +kernel) hp0 ?_
  obtain ⟨M_10, eM_10, h⟩ := bM_elim h
  refine Fr_mem eM_10 ?_
  refine Fr_aload_n (q := 0) (i := 0) 0 (by decide +kernel) rfl rfl ?_
  refine Fr_iconst (i := 0) (v := 0) (by decide +kernel) (by decide) ?_
  refine pf_X5_69 rfl (by decide +kernel) hp0 ?_
  obtain ⟨M_11, eM_11, h⟩ := bM_elim h
  refine Fr_mem eM_11 ?_
  refine Fr_aload_n (q := 0) (i := 0) 0 (by decide +kernel) rfl rfl ?_
  refine gf_X5_28 rfl (by decide +kernel) hp0 ?_
  refine Fr_iconst (i := 0) (v := 0) (by decide +kernel) (by decide) ?_
  obtain ⟨M_12, hc_13, h⟩ := bv_elim h
  refine Fr_cSv (ν := m_J7_fill_53178) (As := [.ref (p0 + 6), .int 0]) (st := []) (d' := 0) (by decide +kernel) ml_X5_72 cs_J7_fill_53178 rfl (by decide) (Nat.le_of_ble_eq_true rfl) (t_J7_fill_53178 (o5_6 hp0) hc_13) ?_
  refine Fr_aload_n (q := 0) (i := 0) 0 (by decide +kernel) rfl rfl ?_
  refine gf_X5_34 rfl (by decide +kernel) hp0 ?_
  obtain ⟨M_14, hc_15, h⟩ := bv_elim h
  refine Fr_cVv (ν := m_X3_clear) (As := []) (st := []) (rc := (p0 + 7)) (ci := 3) (d' := 0) (by decide +kernel) ml_X5_78 cv_X3_clear rfl (by decide) rfl (o5_7 hp0) rfl (by decide) (Nat.le_of_ble_eq_true rfl) (t_X3_clear (o5_7 hp0) hc_15) ?_
  obtain rfl := Option.some.inj h
  exact Fr_vret (by decide +kernel) rfl ⟨rfl, rfl⟩
set_option maxRecDepth 20000 in
theorem t_X5_copyFrom {p0 : Nat} {p1 : Nat} (hp0 : Ob 0 111 p0 5) (hp1 : Ob 0 111 p1 5) {M : Mem} {q : Mem} (h : f_X5_copyFrom p0 p1 M = some q) : Ev 0 111 2 m_X5_copyFrom [.ref p0, .ref p1] M (QV q) := by
  refine Ev_of_Fr (by decide +kernel) (Nat.le_of_ble_eq_true rfl) ?_
  show Fr 0 111 2 m_X5_copyFrom 0 [(0, .ref p0), (1, .ref p1)] [] M (QV q)
  unfold f_X5_copyFrom at h
  refine Fr_aload_n (q := 0) (i := 0) 0 (by decide +kernel) rfl rfl ?_
  refine Fr_aload_n (q := 1) (i := 1) 1 (by decide +kernel) rfl rfl ?_
  refine gf_X5_45 rfl (by decide +kernel) hp1 ?_
  refine pf_X5_45 rfl (by decide +kernel) hp0 ?_
  obtain ⟨M_1, eM_1, h⟩ := bM_elim h
  refine Fr_mem eM_1 ?_
  refine Fr_aload_n (q := 0) (i := 0) 0 (by decide +kernel) rfl rfl ?_
  refine Fr_aload_n (q := 1) (i := 1) 1 (by decide +kernel) rfl rfl ?_
  refine gf_X5_48 rfl (by decide +kernel) hp1 ?_
  refine pf_X5_48 rfl (by decide +kernel) hp0 ?_
  obtain ⟨M_2, eM_2, h⟩ := bM_elim h
  refine Fr_mem eM_2 ?_
  refine Fr_aload_n (q := 0) (i := 0) 0 (by decide +kernel) rfl rfl ?_
  refine Fr_aload_n (q := 1) (i := 1) 1 (by decide +kernel) rfl rfl ?_
  refine gf_X5_51 rfl (by decide +kernel) hp1 ?_
  refine pf_X5_51 rfl (by decide +kernel) hp0 ?_
  obtain ⟨M_3, eM_3, h⟩ := bM_elim h
  refine Fr_mem eM_3 ?_
  refine Fr_aload_n (q := 0) (i := 0) 0 (by decide +kernel) rfl rfl ?_
  refine Fr_aload_n (q := 1) (i := 1) 1 (by decide +kernel) rfl rfl ?_
  refine gf_X5_38 rfl (by decide +kernel) hp1 ?_
  refine pf_X5_38 rfl (by decide +kernel) hp0 ?_
  obtain ⟨M_4, eM_4, h⟩ := bM_elim h
  refine Fr_mem eM_4 ?_
  refine Fr_aload_n (q := 0) (i := 0) 0 (by decide +kernel) rfl rfl ?_
  refine Fr_aload_n (q := 1) (i := 1) 1 (by decide +kernel) rfl rfl ?_
  refine gf_X5_42 rfl (by decide +kernel) hp1 ?_
  refine pf_X5_42 rfl (by decide +kernel) hp0 ?_
  obtain ⟨M_5, eM_5, h⟩ := bM_elim h
  refine Fr_mem eM_5 ?_
  refine Fr_aload_n (q := 0) (i := 0) 0 (by decide +kernel) rfl rfl ?_
  refine Fr_aload_n (q := 1) (i := 1) 1 (by decide +kernel) rfl rfl ?_
  refine gf_X5_54 rfl (by decide +kernel) hp1 ?_
  refine pf_X5_54 rfl (by decide +kernel) hp0 ?_
  obtain ⟨M_6, eM_6, h⟩ := bM_elim h
  refine Fr_mem eM_6 ?_
  refine Fr_aload_n (q := 0) (i := 0) 0 (by decide +kernel) rfl rfl ?_
  refine Fr_aload_n (q := 1) (i := 1) 1 (by decide +kernel) rfl rfl ?_
  refine gf_X5_57 rfl (by decide +kernel) hp1 ?_
  refine pf_X5_57 rfl (by decide +kernel) hp0 ?_
  obtain ⟨M_7, eM_7, h⟩ := bM_elim h
  refine Fr_mem eM_7 ?_
  refine Fr_aload_n (q := 0) (i := 0) 0 (by decide +kernel) rfl rfl ?_
  refine Fr_aload_n (q := 1) (i := 1) 1 (by decide +kernel) rfl rfl ?_
  refine gf_X5_60 rfl (by decide +kernel) hp1 ?_
  refine pf_X5_60 rfl (by decide +kernel) hp0 ?_
  obtain ⟨M_8, eM_8, h⟩ := bM_elim h
  refine Fr_mem eM_8 ?_
  refine Fr_aload_n (q := 0) (i := 0) 0 (by decide +kernel) rfl rfl ?_
  refine Fr_aload_n (q := 1) (i := 1) 1 (by decide +kernel) rfl rfl ?_
  refine gf_X5_63 rfl (by decide +kernel) hp1 ?_
  refine pf_X5_63 rfl (by decide +kernel) hp0 ?_
  obtain ⟨M_9, eM_9, h⟩ := bM_elim h
  refine Fr_mem eM_9 ?_
  refine Fr_aload_n (q := 0) (i := 0) 0 (by decide +kernel) rfl rfl ?_
  refine Fr_aload_n (q := 1) (i := 1) 1 (by decide +kernel) rfl rfl ?_
  refine gf_X5_66 rfl (by decide +kernel) hp1 ?_
  refine pf_X5_66 rfl (by decide +kernel) hp0 ?_
  obtain ⟨M_10, eM_10, h⟩ := bM_elim h
  refine Fr_mem eM_10 ?_
  refine Fr_aload_n (q := 0) (i := 0) 0 (by decide +kernel) rfl rfl ?_
  refine Fr_aload_n (q := 1) (i := 1) 1 (by decide +kernel) rfl rfl ?_
  refine gf_X5_69 rfl (by decide +kernel) hp1 ?_
  refine pf_X5_69 rfl (by decide +kernel) hp0 ?_
  obtain ⟨M_11, eM_11, h⟩ := bM_elim h
  refine Fr_mem eM_11 ?_
  refine Fr_aload_n (q := 1) (i := 1) 1 (by decide +kernel) rfl rfl ?_
  refine gf_X5_9 rfl (by decide +kernel) hp1 ?_
  refine Fr_iconst (i := 0) (v := 0) (by decide +kernel) (by decide) ?_
  refine Fr_aload_n (q := 0) (i := 0) 0 (by decide +kernel) rfl rfl ?_
  refine gf_X5_9 rfl (by decide +kernel) hp0 ?_
  refine Fr_iconst (i := 0) (v := 0) (by decide +kernel) (by decide) ?_
  refine Fr_aload_n (q := 0) (i := 0) 0 (by decide +kernel) rfl rfl ?_
  refine gf_X5_9 rfl (by decide +kernel) hp0 ?_
  refine Fr_alen (v := 30) (by decide +kernel) (o5_1 hp0) (by decide) (by rw [(n5_1 hp0)]; rfl) ?_
  refine Fr_acopyI (by decide +kernel) ml_X5_81 (o5_1 hp1) (o5_1 hp0) (by decide) (by decide) (by decide) (le_len (n5_1 hp1) (by decide)) (le_len (n5_1 hp0) (by decide)) (by decide) (Nat.le_of_ble_eq_true rfl) ?_
  obtain ⟨M_12, eM_12, h⟩ := bM_elim h
  refine Fr_mem eM_12 ?_
  refine Fr_aload_n (q := 1) (i := 1) 1 (by decide +kernel) rfl rfl ?_
  refine gf_X5_15 rfl (by decide +kernel) hp1 ?_
  refine Fr_iconst (i := 0) (v := 0) (by decide +kernel) (by decide) ?_
  refine Fr_aload_n (q := 0) (i := 0) 0 (by decide +kernel) rfl rfl ?_
  refine gf_X5_15 rfl (by decide +kernel) hp0 ?_
  refine Fr_iconst (i := 0) (v := 0) (by decide +kernel) (by decide) ?_
  refine Fr_aload_n (q := 0) (i := 0) 0 (by decide +kernel) rfl rfl ?_
  refine gf_X5_15 rfl (by decide +kernel) hp0 ?_
  refine Fr_alen (v := 6) (by decide +kernel) (o5_2 hp0) (by decide) (by rw [(n5_2 hp0)]; rfl) ?_
  refine Fr_acopyL (by decide +kernel) ml_X5_81 (o5_2 hp1) (o5_2 hp0) (by decide) (by decide) (by decide) (le_len (n5_2 hp1) (by decide)) (le_len (n5_2 hp0) (by decide)) (by decide) (Nat.le_of_ble_eq_true rfl) ?_
  obtain ⟨M_13, eM_13, h⟩ := bM_elim h
  refine Fr_mem eM_13 ?_
  refine Fr_aload_n (q := 1) (i := 1) 1 (by decide +kernel) rfl rfl ?_
  refine gf_X5_19 rfl (by decide +kernel) hp1 ?_
  refine Fr_iconst (i := 0) (v := 0) (by decide +kernel) (by decide) ?_
  refine Fr_aload_n (q := 0) (i := 0) 0 (by decide +kernel) rfl rfl ?_
  refine gf_X5_19 rfl (by decide +kernel) hp0 ?_
  refine Fr_iconst (i := 0) (v := 0) (by decide +kernel) (by decide) ?_
  refine Fr_aload_n (q := 0) (i := 0) 0 (by decide +kernel) rfl rfl ?_
  refine gf_X5_19 rfl (by decide +kernel) hp0 ?_
  refine Fr_alen (v := 6) (by decide +kernel) (o5_3 hp0) (by decide) (by rw [(n5_3 hp0)]; rfl) ?_
  refine Fr_acopyI (by decide +kernel) ml_X5_81 (o5_3 hp1) (o5_3 hp0) (by decide) (by decide) (by decide) (le_len (n5_3 hp1) (by decide)) (le_len (n5_3 hp0) (by decide)) (by decide) (Nat.le_of_ble_eq_true rfl) ?_
  obtain ⟨M_14, eM_14, h⟩ := bM_elim h
  refine Fr_mem eM_14 ?_
  refine Fr_aload_n (q := 1) (i := 1) 1 (by decide +kernel) rfl rfl ?_
  refine gf_X5_22 rfl (by decide +kernel) hp1 ?_
  refine Fr_iconst (i := 0) (v := 0) (by decide +kernel) (by decide) ?_
  refine Fr_aload_n (q := 0) (i := 0) 0 (by decide +kernel) rfl rfl ?_
  refine gf_X5_22 rfl (by decide +kernel) hp0 ?_
  refine Fr_iconst (i := 0) (v := 0) (by decide +kernel) (by decide) ?_
  refine Fr_aload_n (q := 0) (i := 0) 0 (by decide +kernel) rfl rfl ?_
  refine gf_X5_22 rfl (by decide +kernel) hp0 ?_
  refine Fr_alen (v := 36) (by decide +kernel) (o5_4 hp0) (by decide) (by rw [(n5_4 hp0)]; rfl) ?_
  refine Fr_acopyI (by decide +kernel) ml_X5_81 (o5_4 hp1) (o5_4 hp0) (by decide) (by decide) (by decide) (le_len (n5_4 hp1) (by decide)) (le_len (n5_4 hp0) (by decide)) (by decide) (Nat.le_of_ble_eq_true rfl) ?_
  obtain ⟨M_15, eM_15, h⟩ := bM_elim h
  refine Fr_mem eM_15 ?_
  refine Fr_aload_n (q := 1) (i := 1) 1 (by decide +kernel) rfl rfl ?_
  refine gf_X5_25 rfl (by decide +kernel) hp1 ?_
  refine Fr_iconst (i := 0) (v := 0) (by decide +kernel) (by decide) ?_
  refine Fr_aload_n (q := 0) (i := 0) 0 (by decide +kernel) rfl rfl ?_
  refine gf_X5_25 rfl (by decide +kernel) hp0 ?_
  refine Fr_iconst (i := 0) (v := 0) (by decide +kernel) (by decide) ?_
  refine Fr_aload_n (q := 0) (i := 0) 0 (by decide +kernel) rfl rfl ?_
  refine gf_X5_25 rfl (by decide +kernel) hp0 ?_
  refine Fr_alen (v := 20) (by decide +kernel) (o5_5 hp0) (by decide) (by rw [(n5_5 hp0)]; rfl) ?_
  refine Fr_acopyI (by decide +kernel) ml_X5_81 (o5_5 hp1) (o5_5 hp0) (by decide) (by decide) (by decide) (le_len (n5_5 hp1) (by decide)) (le_len (n5_5 hp0) (by decide)) (by decide) (Nat.le_of_ble_eq_true rfl) ?_
  obtain ⟨M_16, eM_16, h⟩ := bM_elim h
  refine Fr_mem eM_16 ?_
  refine Fr_aload_n (q := 1) (i := 1) 1 (by decide +kernel) rfl rfl ?_
  refine gf_X5_28 rfl (by decide +kernel) hp1 ?_
  refine Fr_iconst (i := 0) (v := 0) (by decide +kernel) (by decide) ?_
  refine Fr_aload_n (q := 0) (i := 0) 0 (by decide +kernel) rfl rfl ?_
  refine gf_X5_28 rfl (by decide +kernel) hp0 ?_
  refine Fr_iconst (i := 0) (v := 0) (by decide +kernel) (by decide) ?_
  refine Fr_aload_n (q := 0) (i := 0) 0 (by decide +kernel) rfl rfl ?_
  refine gf_X5_28 rfl (by decide +kernel) hp0 ?_
  refine Fr_alen (v := 60) (by decide +kernel) (o5_6 hp0) (by decide) (by rw [(n5_6 hp0)]; rfl) ?_
  refine Fr_acopyI (by decide +kernel) ml_X5_81 (o5_6 hp1) (o5_6 hp0) (by decide) (by decide) (by decide) (le_len (n5_6 hp1) (by decide)) (le_len (n5_6 hp0) (by decide)) (by decide) (Nat.le_of_ble_eq_true rfl) ?_
  obtain ⟨M_17, eM_17, h⟩ := bM_elim h
  refine Fr_mem eM_17 ?_
  refine Fr_aload_n (q := 0) (i := 0) 0 (by decide +kernel) rfl rfl ?_
  refine gf_X5_34 rfl (by decide +kernel) hp0 ?_
  refine Fr_aload_n (q := 1) (i := 1) 1 (by decide +kernel) rfl rfl ?_
  refine gf_X5_34 rfl (by decide +kernel) hp1 ?_
  obtain ⟨M_18, hc_19, h⟩ := bv_elim h
  refine Fr_cVv (ν := m_X3_copyFrom) (As := [.ref (p1 + 7)]) (st := []) (rc := (p0 + 7)) (ci := 3) (d' := 1) (by decide +kernel) ml_X5_87 cv_X3_copyFrom rfl (by decide) rfl (o5_7 hp0) rfl (by decide) (Nat.le_of_ble_eq_true rfl) (t_X3_copyFrom (o5_7 hp0) (o5_7 hp1) hc_19) ?_
  obtain rfl := Option.some.inj h
  exact Fr_vret (by decide +kernel) rfl ⟨rfl, rfl⟩
set_option maxRecDepth 20000 in
theorem t_X5_sumOfKind_h4 {N : Nat} {p0 : Nat} (hp0 : Ob 0 111 p0 5) {q : Int32 × Mem} {k4 : Int32 × Int32 × Int32 → Mem → Option (Int32 × Mem)} (hk4 : ∀ (a : Int32 × Int32 × Int32) (M : Mem), k4 a M = some q → Fr 0 111 0 m_X5_sumOfKind 4 [(0, .ref p0), (1, .int a.1), (2, .int a.2.1), (3, .int a.2.2)] [] M (QI q)) {v1 : Int32} {v2 : Int32} {v3 : Int32} {M : Mem} (h : f_X5_sumOfKind_h4 N p0 k4 v1 v2 v3 M = some q) : Fr 0 111 0 m_X5_sumOfKind 4 [(0, .ref p0), (1, .int v1), (2, .int v2), (3, .int v3)] [] M (QI q) := by
  unfold f_X5_sumOfKind_h4 at h
  refine Fr_iload_n (q := 3) (i := 3) 3 (by decide +kernel) rfl rfl ?_
  refine Fr_bipush (i := 30) (v := 30) (by decide +kernel) (by decide) ?_
  refine Fr_icmp_ge (off := 23) 30 (by decide +kernel) (by decide) (fun hc => ?_) (fun hc => ?_)
  · have h := iT hc h
    refine Fr_iload_n (q := 2) (i := 2) 2 (by decide +kernel) rfl rfl ?_
    obtain rfl := Option.some.inj h
    exact Fr_iret (by decide +kernel) rfl ⟨rfl, rfl⟩
  · have h := iF hc h
    refine Fr_iload_n (q := 2) (i := 2) 2 (by decide +kernel) rfl rfl ?_
    refine Fr_aload_n (q := 0) (i := 0) 0 (by decide +kernel) rfl rfl ?_
    refine gf_X5_28 rfl (by decide +kernel) hp0 ?_
    refine Fr_iload_n (q := 1) (i := 1) 1 (by decide +kernel) rfl rfl ?_
    refine Fr_bipush (i := 30) (v := 30) (by decide +kernel) (by decide) ?_
    refine Fr_imul (by decide +kernel) ?_
    refine Fr_iload_n (q := 3) (i := 3) 3 (by decide +kernel) rfl rfl ?_
    refine Fr_iadd (by decide +kernel) ?_
    obtain ⟨hi_1, h⟩ := ck_elim h
    refine Fr_iald (by decide +kernel) (o5_6 hp0) (vp_of (n5_6 hp0) hi_1) ?_
    refine Fr_iadd (by decide +kernel) ?_
    obtain ⟨y_2, ey_2, h⟩ := bI_elim h
    refine Fr_topI ey_2 ?_
    refine Fr_istore_n (q := 2) (i := 2) (lv' := [(2, .int y_2), (0, .ref p0), (1, .int v1), (3, .int v3)]) (by decide +kernel) rfl (by decide) rfl ?_
    refine Fr_iinc (i := 3) (j := 1) (v := (v3 + 1)) (lv' := [(3, .int (v3 + 1)), (2, .int y_2), (0, .ref p0), (1, .int v1)]) 3 (by decide +kernel) rfl rfl (by decide) rfl ?_
    refine Fr_goto (off := (-23)) 4 (by decide +kernel) (by decide) ?_
    refine Fr_loc [2, 3, 1, 0] rfl ?_
    exact hk4 (v1, y_2, (v3 + 1)) M h
set_option maxRecDepth 20000 in
theorem t_X5_sumOfKind {N : Nat} {p0 : Nat} {x1 : Int32} (hp0 : Ob 0 111 p0 5) {M : Mem} {q : Int32 × Mem} (h : f_X5_sumOfKind N p0 x1 M = some q) : Ev 0 111 0 m_X5_sumOfKind [.ref p0, .int x1] M (QI q) := by
  refine Ev_of_Fr (by decide +kernel) (Nat.le_of_ble_eq_true rfl) ?_
  show Fr 0 111 0 m_X5_sumOfKind 0 [(0, .ref p0), (1, .int x1)] [] M (QI q)
  unfold f_X5_sumOfKind at h
  refine Fr_iconst (i := 0) (v := 0) (by decide +kernel) (by decide) ?_
  refine Fr_istore_n (q := 2) (i := 2) (lv' := [(2, .int 0), (0, .ref p0), (1, .int x1)]) (by decide +kernel) rfl (by decide) rfl ?_
  refine Fr_iconst (i := 0) (v := 0) (by decide +kernel) (by decide) ?_
  refine Fr_istore_n (q := 3) (i := 3) (lv' := [(3, .int 0), (2, .int 0), (0, .ref p0), (1, .int x1)]) (by decide +kernel) rfl (by decide) rfl ?_
  refine Fr_loc [2, 3, 1, 0] rfl ?_
  exact lp_sound (body := fun k a m => f_X5_sumOfKind_h4 N p0 k a.1 a.2.1 a.2.2 m) (P := fun a M => Fr 0 111 0 m_X5_sumOfKind 4 [(0, .ref p0), (1, .int a.1), (2, .int a.2.1), (3, .int a.2.2)] [] M (QI q)) (fun k hk a m h => t_X5_sumOfKind_h4 hp0 hk h) N (x1, 0, 0) M h
