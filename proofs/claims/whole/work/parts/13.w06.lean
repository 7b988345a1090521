set_option maxRecDepth 20000 in
theorem t_X8_refuse {x1 : Int32} {M : Mem} {q : Bool × Mem} (h : f_X8_refuse x1 M = some q) : Ev 0 111 0 m_X8_refuse [.ref 82, .int x1] M (QB q) := by
  refine Ev_of_Fr (by decide +kernel) (Nat.le_of_ble_eq_true rfl) ?_
  show Fr 0 111 0 m_X8_refuse 0 [(0, .ref 82), (1, .int x1)] [] M (QB q)
  unfold f_X8_refuse at h
  refine Fr_aload_n (q := 0) (i := 0) 0 (by decide +kernel) rfl rfl ?_
  refine gf_X8_15 rfl (by decide +kernel) ob_82 ?_
  refine Fr_if_ne (off := 28) 32 (by decide +kernel) (by decide) (fun hc => ?_) (fun hc => ?_)
  · have h := iF hc h
    refine Fr_iconst (i := 0) (v := 0) (by decide +kernel) (by decide) ?_
    obtain rfl := Option.some.inj h
    exact Fr_zret (by decide +kernel) rfl (by decide) ⟨rfl, rfl⟩
  · have h := iT hc h
    refine Fr_aload_n (q := 0) (i := 0) 0 (by decide +kernel) rfl rfl ?_
    refine Fr_aload_n (q := 0) (i := 0) 0 (by decide +kernel) rfl rfl ?_
    refine gf_X8_37 rfl (by decide +kernel) ob_82 ?_
    refine Fr_iconst (i := 4) (v := 4) (by decide +kernel) (by decide) ?_
    refine Fr_icmp_ne (off := 7) 20 (by decide +kernel) (by decide) (fun hc => ?_) (fun hc => ?_)
    · have h := iF hc h
      refine Fr_iload_n (q := 1) (i := 1) 1 (by decide +kernel) rfl rfl ?_
      refine pf_X8_15 rfl (by decide +kernel) ob_82 ?_
      obtain ⟨M_1, eM_1, h⟩ := bM_elim h
      refine Fr_mem eM_1 ?_
      refine Fr_aload_n (q := 0) (i := 0) 0 (by decide +kernel) rfl rfl ?_
      refine Fr_aload_n (q := 0) (i := 0) 0 (by decide +kernel) rfl rfl ?_
      refine gf_X8_40 rfl (by decide +kernel) ob_82 ?_
      refine pf_X8_19 rfl (by decide +kernel) ob_82 ?_
      obtain ⟨M_2, eM_2, h⟩ := bM_elim h
      refine Fr_mem eM_2 ?_
      refine Fr_iconst (i := 0) (v := 0) (by decide +kernel) (by decide) ?_
      obtain rfl := Option.some.inj h
      exact Fr_zret (by decide +kernel) rfl (by decide) ⟨rfl, rfl⟩
    · have h := iT hc h
      refine Fr_iconst (i := 1) (v := 1) (by decide +kernel) (by decide) ?_
      refine Fr_goto (off := 4) 21 (by decide +kernel) (by decide) ?_
      refine pf_X8_15 rfl (by decide +kernel) ob_82 ?_
      obtain ⟨M_3, eM_3, h⟩ := bM_elim h
      refine Fr_mem eM_3 ?_
      refine Fr_aload_n (q := 0) (i := 0) 0 (by decide +kernel) rfl rfl ?_
      refine Fr_aload_n (q := 0) (i := 0) 0 (by decide +kernel) rfl rfl ?_
      refine gf_X8_40 rfl (by decide +kernel) ob_82 ?_
      refine pf_X8_19 rfl (by decide +kernel) ob_82 ?_
      obtain ⟨M_4, eM_4, h⟩ := bM_elim h
      refine Fr_mem eM_4 ?_
      refine Fr_iconst (i := 0) (v := 0) (by decide +kernel) (by decide) ?_
      obtain rfl := Option.some.inj h
      exact Fr_zret (by decide +kernel) rfl (by decide) ⟨rfl, rfl⟩
set_option maxRecDepth 20000 in
theorem t_X8_takeSemicolon {N : Nat} {M : Mem} {q : Bool × Mem} (h : f_X8_takeSemicolon N M = some q) : Ev 0 111 1 m_X8_takeSemicolon [.ref 82] M (QB q) := by
  refine Ev_of_Fr (by decide +kernel) (Nat.le_of_ble_eq_true rfl) ?_
  show Fr 0 111 1 m_X8_takeSemicolon 0 [(0, .ref 82)] [] M (QB q)
  unfold f_X8_takeSemicolon at h
  refine Fr_aload_n (q := 0) (i := 0) 0 (by decide +kernel) rfl rfl ?_
  refine gf_X8_37 rfl (by decide +kernel) ob_82 ?_
  refine Fr_iconst (i := 3) (v := 3) (by decide +kernel) (by decide) ?_
  refine Fr_icmp_ne (off := 12) 17 (by decide +kernel) (by decide) (fun hc => ?_) (fun hc => ?_)
  · have h := iF hc h
    refine Fr_aload_n (q := 0) (i := 0) 0 (by decide +kernel) rfl rfl ?_
    refine Fr_iconst (i := 2) (v := 2) (by decide +kernel) (by decide) ?_
    obtain ⟨r_3, M_1, hc_2, h⟩ := bi_elim h
    refine Fr_cVb (ν := m_X8_refuse) (As := [.int 2]) (st := []) (rc := 82) (ci := 8) (d' := 0) (by decide +kernel) ml_X8_63 cv_X8_refuse rfl (by decide) rfl ob_82 rfl (by decide) (Nat.le_of_ble_eq_true rfl) (t_X8_refuse hc_2) ?_
    obtain rfl := Option.some.inj h
    exact Fr_zret (by decide +kernel) rfl (nz_b r_3) ⟨rfl, rfl⟩
  · have h := iT hc h
    refine Fr_aload_n (q := 0) (i := 0) 0 (by decide +kernel) rfl rfl ?_
    refine gf_X8_43 rfl (by decide +kernel) ob_82 ?_
    refine Fr_bipush (i := 59) (v := 59) (by decide +kernel) (by decide) ?_
    refine Fr_icmp_eq (off := 9) 23 (by decide +kernel) (by decide) (fun hc => ?_) (fun hc => ?_)
    · have h := iT hc h
      refine Fr_aload_n (q := 0) (i := 0) 0 (by decide +kernel) rfl rfl ?_
      obtain ⟨M_4, hc_5, h⟩ := bv_elim h
      refine Fr_cVv (ν := m_X8_advance) (As := []) (st := []) (rc := 82) (ci := 8) (d' := 0) (by decide +kernel) ml_X8_34 cv_X8_advance rfl (by decide) rfl ob_82 rfl (by decide) (Nat.le_of_ble_eq_true rfl) (t_X8_advance hc_5) ?_
      refine Fr_iconst (i := 1) (v := 1) (by decide +kernel) (by decide) ?_
      obtain rfl := Option.some.inj h
      exact Fr_zret (by decide +kernel) rfl (by decide) ⟨rfl, rfl⟩
    · have h := iF hc h
      refine Fr_aload_n (q := 0) (i := 0) 0 (by decide +kernel) rfl rfl ?_
      refine Fr_iconst (i := 2) (v := 2) (by decide +kernel) (by decide) ?_
      obtain ⟨r_8, M_6, hc_7, h⟩ := bi_elim h
      refine Fr_cVb (ν := m_X8_refuse) (As := [.int 2]) (st := []) (rc := 82) (ci := 8) (d' := 0) (by decide +kernel) ml_X8_63 cv_X8_refuse rfl (by decide) rfl ob_82 rfl (by decide) (Nat.le_of_ble_eq_true rfl) (t_X8_refuse hc_7) ?_
      obtain rfl := Option.some.inj h
      exact Fr_zret (by decide +kernel) rfl (nz_b r_8) ⟨rfl, rfl⟩
set_option maxRecDepth 20000 in
theorem t_X4_readEnd {N : Nat} {p1 : Nat} (hp1 : Ob 0 111 p1 3) {M : Mem} {q : Bool × Mem} (h : f_X4_readEnd N p1 M = some q) : Ev 0 111 2 m_X4_readEnd [.ref 87, .ref p1] M (QB q) := by
  refine Ev_of_Fr (by decide +kernel) (Nat.le_of_ble_eq_true rfl) ?_
  show Fr 0 111 2 m_X4_readEnd 0 [(0, .ref 87), (1, .ref p1)] [] M (QB q)
  unfold f_X4_readEnd at h
  refine Fr_aload_n (q := 0) (i := 0) 0 (by decide +kernel) rfl rfl ?_
  refine gf_X4_31 rfl (by decide +kernel) ob_87 ?_
  refine Fr_if_le (off := 10) 14 (by decide +kernel) (by decide) (fun hc => ?_) (fun hc => ?_)
  · have h := iT hc h
    refine Fr_aload_n (q := 0) (i := 0) 0 (by decide +kernel) rfl rfl ?_
    refine gf_X4_18 rfl (by decide +kernel) ob_87 ?_
    refine Fr_iconst (i := 2) (v := 2) (by decide +kernel) (by decide) ?_
    obtain ⟨r_3, M_1, hc_2, h⟩ := bi_elim h
    refine Fr_cVb (ν := m_X8_refuse) (As := [.int 2]) (st := []) (rc := 82) (ci := 8) (d' := 0) (by decide +kernel) ml_X4_59 cv_X8_refuse rfl (by decide) rfl ob_82 rfl (by decide) (Nat.le_of_ble_eq_true rfl) (t_X8_refuse hc_2) ?_
    obtain rfl := Option.some.inj h
    exact Fr_zret (by decide +kernel) rfl (nz_b r_3) ⟨rfl, rfl⟩
  · have h := iF hc h
    refine Fr_aload_n (q := 1) (i := 1) 1 (by decide +kernel) rfl rfl ?_
    obtain ⟨r_6, M_4, hc_5, h⟩ := bi_elim h
    refine Fr_cVb (ν := m_X3_isFull) (As := []) (st := []) (rc := p1) (ci := 3) (d' := 0) (by decide +kernel) ml_X4_66 cv_X3_isFull rfl (by decide) rfl hp1 rfl (by decide) (Nat.le_of_ble_eq_true rfl) (t_X3_isFull hp1 hc_5) ?_
    refine Fr_if_eq (off := 12) 23 (by decide +kernel) (by decide) (fun hc => ?_) (fun hc => ?_)
    · have h := iT hc h
      refine Fr_aload_n (q := 0) (i := 0) 0 (by decide +kernel) rfl rfl ?_
      refine gf_X4_18 rfl (by decide +kernel) ob_87 ?_
      obtain ⟨M_7, hc_8, h⟩ := bv_elim h
      refine Fr_cVv (ν := m_X8_advance) (As := []) (st := []) (rc := 82) (ci := 8) (d' := 0) (by decide +kernel) ml_X4_69 cv_X8_advance rfl (by decide) rfl ob_82 rfl (by decide) (Nat.le_of_ble_eq_true rfl) (t_X8_advance hc_8) ?_
      refine Fr_aload_n (q := 0) (i := 0) 0 (by decide +kernel) rfl rfl ?_
      refine Fr_dup (by decide +kernel) rfl ?_
      refine gf_X4_31 rfl (by decide +kernel) ob_87 ?_
      refine Fr_iconst (i := 1) (v := 1) (by decide +kernel) (by decide) ?_
      refine Fr_isub (by decide +kernel) ?_
      refine pf_X4_31 rfl (by decide +kernel) ob_87 ?_
      obtain ⟨M_9, eM_9, h⟩ := bM_elim h
      refine Fr_mem eM_9 ?_
      refine Fr_aload_n (q := 1) (i := 1) 1 (by decide +kernel) rfl rfl ?_
      refine gf_X4_72 rfl (by decide +kernel) hp1 ?_
      refine Fr_istore_n (q := 2) (i := 2) (lv' := [(2, .int (M_9.1 p1 1)), (0, .ref 87), (1, .ref p1)]) (by decide +kernel) rfl (by decide) rfl ?_
      refine Fr_aload_n (q := 1) (i := 1) 2 (by decide +kernel) rfl rfl ?_
      refine gf_X4_75 rfl (by decide +kernel) hp1 ?_
      refine Fr_iload_n (q := 2) (i := 2) 0 (by decide +kernel) rfl rfl ?_
      refine Fr_bipush (i := 11) (v := 11) (by decide +kernel) (by decide) ?_
      obtain ⟨hi_10, h⟩ := ck_elim h
      refine Fr_iast (by decide +kernel) (o3_1 hp1) (vp_of (n3_1 hp1) hi_10) ?_
      obtain ⟨M_11, eM_11, h⟩ := bM_elim h
      refine Fr_mem eM_11 ?_
      refine Fr_aload_n (q := 1) (i := 1) 2 (by decide +kernel) rfl rfl ?_
      refine gf_X4_78 rfl (by decide +kernel) hp1 ?_
      refine Fr_iload_n (q := 2) (i := 2) 0 (by decide +kernel) rfl rfl ?_
      refine Fr_aload_n (q := 0) (i := 0) 1 (by decide +kernel) rfl rfl ?_
      refine gf_X4_11 rfl (by decide +kernel) ob_87 ?_
      refine Fr_aload_n (q := 0) (i := 0) 1 (by decide +kernel) rfl rfl ?_
      refine gf_X4_31 rfl (by decide +kernel) ob_87 ?_
      obtain ⟨hi_12, h⟩ := ck_elim h
      refine Fr_iald (by decide +kernel) ob_88 (vp_of ln_88 hi_12) ?_
      obtain ⟨hi_13, h⟩ := ck_elim h
      refine Fr_iast (by decide +kernel) (o3_5 hp1) (vp_of (n3_5 hp1) hi_13) ?_
      obtain ⟨M_14, eM_14, h⟩ := bM_elim h
      refine Fr_mem eM_14 ?_
      refine Fr_aload_n (q := 1) (i := 1) 2 (by decide +kernel) rfl rfl ?_
      refine gf_X4_78 rfl (by decide +kernel) hp1 ?_
      refine Fr_aload_n (q := 0) (i := 0) 1 (by decide +kernel) rfl rfl ?_
      refine gf_X4_11 rfl (by decide +kernel) ob_87 ?_
      refine Fr_aload_n (q := 0) (i := 0) 1 (by decide +kernel) rfl rfl ?_
      refine gf_X4_31 rfl (by decide +kernel) ob_87 ?_
      obtain ⟨hi_15, h⟩ := ck_elim h
      refine Fr_iald (by decide +kernel) ob_88 (vp_of ln_88 hi_15) ?_
      refine Fr_iload_n (q := 2) (i := 2) 0 (by decide +kernel) rfl rfl ?_
      obtain ⟨hi_16, h⟩ := ck_elim h
      refine Fr_iast (by decide +kernel) (o3_5 hp1) (vp_of (n3_5 hp1) hi_16) ?_
      obtain ⟨M_17, eM_17, h⟩ := bM_elim h
      refine Fr_mem eM_17 ?_
      refine Fr_aload_n (q := 1) (i := 1) 2 (by decide +kernel) rfl rfl ?_
      refine Fr_dup (by decide +kernel) rfl ?_
      refine gf_X4_72 rfl (by decide +kernel) hp1 ?_
      refine Fr_iconst (i := 1) (v := 1) (by decide +kernel) (by decide) ?_
      refine Fr_iadd (by decide +kernel) ?_
      refine pf_X4_72 rfl (by decide +kernel) hp1 ?_
      obtain ⟨M_18, eM_18, h⟩ := bM_elim h
      refine Fr_mem eM_18 ?_
      refine Fr_aload_n (q := 0) (i := 0) 1 (by decide +kernel) rfl rfl ?_
      refine gf_X4_18 rfl (by decide +kernel) ob_87 ?_
      obtain ⟨r_21, M_19, hc_20, h⟩ := bi_elim h
      refine Fr_cVb (ν := m_X8_takeSemicolon) (As := []) (st := []) (rc := 82) (ci := 8) (d' := 1) (by decide +kernel) ml_X4_81 cv_X8_takeSemicolon rfl (by decide) rfl ob_82 rfl (by decide) (Nat.le_of_ble_eq_true rfl) (t_X8_takeSemicolon hc_20) ?_
      obtain rfl := Option.some.inj h
      exact Fr_zret (by decide +kernel) rfl (nz_b r_21) ⟨rfl, rfl⟩
    · have h := iF hc h
      refine Fr_aload_n (q := 0) (i := 0) 0 (by decide +kernel) rfl rfl ?_
      refine gf_X4_18 rfl (by decide +kernel) ob_87 ?_
      refine Fr_iconst (i := 2) (v := 2) (by decide +kernel) (by decide) ?_
      obtain ⟨r_24, M_22, hc_23, h⟩ := bi_elim h
      refine Fr_cVb (ν := m_X8_refuse) (As := [.int 2]) (st := []) (rc := 82) (ci := 8) (d' := 0) (by decide +kernel) ml_X4_59 cv_X8_refuse rfl (by decide) rfl ob_82 rfl (by decide) (Nat.le_of_ble_eq_true rfl) (t_X8_refuse hc_23) ?_
      obtain rfl := Option.some.inj h
      exact Fr_zret (by decide +kernel) rfl (nz_b r_24) ⟨rfl, rfl⟩
set_option maxRecDepth 20000 in
theorem t_X4_sortOfWord {N : Nat} {M : Mem} {q : Int32 × Mem} (h : f_X4_sortOfWord N M = some q) : Ev 0 111 8 m_X4_sortOfWord [.ref 87] M (QI q) := by
  refine Ev_of_Fr (by decide +kernel) (Nat.le_of_ble_eq_true rfl) ?_
  show Fr 0 111 8 m_X4_sortOfWord 0 [(0, .ref 87)] [] M (QI q)
  unfold f_X4_sortOfWord at h
  refine Fr_aload_n (q := 0) (i := 0) 0 (by decide +kernel) rfl rfl ?_
  refine gf_X4_18 rfl (by decide +kernel) ob_87 ?_
  refine Fr_ldcS (idx := 98) 22 (by decide +kernel) (by decide) rfl rfl ?_
  obtain ⟨r_3, M_1, hc_2, h⟩ := bi_elim h
  refine Fr_cVb (ν := m_X8_isWord) (As := [.ref (400 + 22)]) (st := []) (rc := 82) (ci := 8) (d' := 7) (by decide +kernel) ml_X4_47 cv_X8_isWord rfl (by decide) rfl ob_82 rfl (by decide) (Nat.le_of_ble_eq_true rfl) (t_X8_isWord (by decide) hc_2) ?_
  refine Fr_if_eq (off := 5) 14 (by decide +kernel) (by decide) (fun hc => ?_) (fun hc => ?_)
  · have h := iT hc h
    refine Fr_aload_n (q := 0) (i := 0) 0 (by decide +kernel) rfl rfl ?_
    refine gf_X4_18 rfl (by decide +kernel) ob_87 ?_
    refine Fr_ldcS (idx := 100) 23 (by decide +kernel) (by decide) rfl rfl ?_
    obtain ⟨r_6, M_4, hc_5, h⟩ := bi_elim h
    refine Fr_cVb (ν := m_X8_isWord) (As := [.ref (400 + 23)]) (st := []) (rc := 82) (ci := 8) (d' := 7) (by decide +kernel) ml_X4_47 cv_X8_isWord rfl (by decide) rfl ob_82 rfl (by decide) (Nat.le_of_ble_eq_true rfl) (t_X8_isWord (by decide) hc_5) ?_
    refine Fr_if_eq (off := 5) 28 (by decide +kernel) (by decide) (fun hc => ?_) (fun hc => ?_)
    · have h := iT hc h
      refine Fr_aload_n (q := 0) (i := 0) 0 (by decide +kernel) rfl rfl ?_
      refine gf_X4_18 rfl (by decide +kernel) ob_87 ?_
      refine Fr_ldcS (idx := 102) 24 (by decide +kernel) (by decide) rfl rfl ?_
      obtain ⟨r_9, M_7, hc_8, h⟩ := bi_elim h
      refine Fr_cVb (ν := m_X8_isWord) (As := [.ref (400 + 24)]) (st := []) (rc := 82) (ci := 8) (d' := 7) (by decide +kernel) ml_X4_47 cv_X8_isWord rfl (by decide) rfl ob_82 rfl (by decide) (Nat.le_of_ble_eq_true rfl) (t_X8_isWord (by decide) hc_8) ?_
      refine Fr_if_eq (off := 5) 42 (by decide +kernel) (by decide) (fun hc => ?_) (fun hc => ?_)
      · have h := iT hc h
        refine Fr_aload_n (q := 0) (i := 0) 0 (by decide +kernel) rfl rfl ?_
        refine gf_X4_18 rfl (by decide +kernel) ob_87 ?_
        refine Fr_ldcS (idx := 104) 25 (by decide +kernel) (by decide) rfl rfl ?_
        obtain ⟨r_12, M_10, hc_11, h⟩ := bi_elim h
        refine Fr_cVb (ν := m_X8_isWord) (As := [.ref (400 + 25)]) (st := []) (rc := 82) (ci := 8) (d' := 7) (by decide +kernel) ml_X4_47 cv_X8_isWord rfl (by decide) rfl ob_82 rfl (by decide) (Nat.le_of_ble_eq_true rfl) (t_X8_isWord (by decide) hc_11) ?_
        refine Fr_if_eq (off := 5) 56 (by decide +kernel) (by decide) (fun hc => ?_) (fun hc => ?_)
        · have h := iT hc h
          refine Fr_aload_n (q := 0) (i := 0) 0 (by decide +kernel) rfl rfl ?_
          refine gf_X4_18 rfl (by decide +kernel) ob_87 ?_
          refine Fr_ldcS (idx := 106) 26 (by decide +kernel) (by decide) rfl rfl ?_
          obtain ⟨r_15, M_13, hc_14, h⟩ := bi_elim h
          refine Fr_cVb (ν := m_X8_isWord) (As := [.ref (400 + 26)]) (st := []) (rc := 82) (ci := 8) (d' := 7) (by decide +kernel) ml_X4_47 cv_X8_isWord rfl (by decide) rfl ob_82 rfl (by decide) (Nat.le_of_ble_eq_true rfl) (t_X8_isWord (by decide) hc_14) ?_
          refine Fr_if_eq (off := 5) 70 (by decide +kernel) (by decide) (fun hc => ?_) (fun hc => ?_)
          · have h := iT hc h
            refine Fr_aload_n (q := 0) (i := 0) 0 (by decide +kernel) rfl rfl ?_
            refine gf_X4_18 rfl (by decide +kernel) ob_87 ?_
            refine Fr_ldcS (idx := 108) 27 (by decide +kernel) (by decide) rfl rfl ?_
            obtain ⟨r_18, M_16, hc_17, h⟩ := bi_elim h
            refine Fr_cVb (ν := m_X8_isWord) (As := [.ref (400 + 27)]) (st := []) (rc := 82) (ci := 8) (d' := 7) (by decide +kernel) ml_X4_47 cv_X8_isWord rfl (by decide) rfl ob_82 rfl (by decide) (Nat.le_of_ble_eq_true rfl) (t_X8_isWord (by decide) hc_17) ?_
            refine Fr_if_eq (off := 6) 85 (by decide +kernel) (by decide) (fun hc => ?_) (fun hc => ?_)
            · have h := iT hc h
              refine Fr_aload_n (q := 0) (i := 0) 0 (by decide +kernel) rfl rfl ?_
              refine gf_X4_18 rfl (by decide +kernel) ob_87 ?_
              refine Fr_ldcS (idx := 110) 28 (by decide +kernel) (by decide) rfl rfl ?_
              obtain ⟨r_21, M_19, hc_20, h⟩ := bi_elim h
              refine Fr_cVb (ν := m_X8_isWord) (As := [.ref (400 + 28)]) (st := []) (rc := 82) (ci := 8) (d' := 7) (by decide +kernel) ml_X4_47 cv_X8_isWord rfl (by decide) rfl ob_82 rfl (by decide) (Nat.le_of_ble_eq_true rfl) (t_X8_isWord (by decide) hc_20) ?_
              refine Fr_if_eq (off := 6) 100 (by decide +kernel) (by decide) (fun hc => ?_) (fun hc => ?_)
              · have h := iT hc h
                refine Fr_aload_n (q := 0) (i := 0) 0 (by decide +kernel) rfl rfl ?_
                refine gf_X4_18 rfl (by decide +kernel) ob_87 ?_
                refine Fr_ldcS (idx := 112) 29 (by decide +kernel) (by decide) rfl rfl ?_
                obtain ⟨r_24, M_22, hc_23, h⟩ := bi_elim h
                refine Fr_cVb (ν := m_X8_isWord) (As := [.ref (400 + 29)]) (st := []) (rc := 82) (ci := 8) (d' := 7) (by decide +kernel) ml_X4_47 cv_X8_isWord rfl (by decide) rfl ob_82 rfl (by decide) (Nat.le_of_ble_eq_true rfl) (t_X8_isWord (by decide) hc_23) ?_
                refine Fr_if_eq (off := 8) 117 (by decide +kernel) (by decide) (fun hc => ?_) (fun hc => ?_)
                · have h := iT hc h
                  refine Fr_iconst (i := (-1)) (v := (-1)) (by decide +kernel) (by decide) ?_
                  obtain rfl := Option.some.inj h
                  exact Fr_iret (by decide +kernel) rfl ⟨rfl, rfl⟩
                · have h := iF hc h
                  refine Fr_bipush (i := 6) (v := 6) (by decide +kernel) (by decide) ?_
                  refine Fr_goto (off := 4) 118 (by decide +kernel) (by decide) ?_
                  obtain rfl := Option.some.inj h
                  exact Fr_iret (by decide +kernel) rfl ⟨rfl, rfl⟩
              · have h := iF hc h
                refine Fr_bipush (i := 7) (v := 7) (by decide +kernel) (by decide) ?_
                obtain rfl := Option.some.inj h
                exact Fr_iret (by decide +kernel) rfl ⟨rfl, rfl⟩
            · have h := iF hc h
              refine Fr_bipush (i := 8) (v := 8) (by decide +kernel) (by decide) ?_
              obtain rfl := Option.some.inj h
              exact Fr_iret (by decide +kernel) rfl ⟨rfl, rfl⟩
          · have h := iF hc h
            refine Fr_iconst (i := 5) (v := 5) (by decide +kernel) (by decide) ?_
            obtain rfl := Option.some.inj h
            exact Fr_iret (by decide +kernel) rfl ⟨rfl, rfl⟩
        · have h := iF hc h
          refine Fr_iconst (i := 4) (v := 4) (by decide +kernel) (by decide) ?_
          obtain rfl := Option.some.inj h
          exact Fr_iret (by decide +kernel) rfl ⟨rfl, rfl⟩
      · have h := iF hc h
        refine Fr_iconst (i := 3) (v := 3) (by decide +kernel) (by decide) ?_
        obtain rfl := Option.some.inj h
        exact Fr_iret (by decide +kernel) rfl ⟨rfl, rfl⟩
    · have h := iF hc h
      refine Fr_iconst (i := 2) (v := 2) (by decide +kernel) (by decide) ?_
      obtain rfl := Option.some.inj h
      exact Fr_iret (by decide +kernel) rfl ⟨rfl, rfl⟩
  · have h := iF hc h
    refine Fr_iconst (i := 1) (v := 1) (by decide +kernel) (by decide) ?_
    obtain rfl := Option.some.inj h
    exact Fr_iret (by decide +kernel) rfl ⟨rfl, rfl⟩
set_option maxRecDepth 20000 in
theorem t_X8_tryWord {N : Nat} {z1 : Nat} (hz1 : z1 < 32) {M : Mem} {q : Bool × Mem} (h : f_X8_tryWord N z1 M = some q) : Ev 0 111 8 m_X8_tryWord [.ref 82, .ref (400 + z1)] M (QB q) := by
  refine Ev_of_Fr (by decide +kernel) (Nat.le_of_ble_eq_true rfl) ?_
  show Fr 0 111 8 m_X8_tryWord 0 [(0, .ref 82), (1, .ref (400 + z1))] [] M (QB q)
  unfold f_X8_tryWord at h
  refine Fr_aload_n (q := 0) (i := 0) 0 (by decide +kernel) rfl rfl ?_
  refine Fr_aload_n (q := 1) (i := 1) 1 (by decide +kernel) rfl rfl ?_
  obtain ⟨r_3, M_1, hc_2, h⟩ := bi_elim h
  refine Fr_cVb (ν := m_X8_isWord) (As := [.ref (400 + z1)]) (st := []) (rc := 82) (ci := 8) (d' := 7) (by decide +kernel) ml_X8_59 cv_X8_isWord rfl (by decide) rfl ob_82 rfl (by decide) (Nat.le_of_ble_eq_true rfl) (t_X8_isWord hz1 hc_2) ?_
  refine Fr_istore_n (q := 2) (i := 2) (lv' := [(2, .int (b2i r_3)), (0, .ref 82), (1, .ref (400 + z1))]) (by decide +kernel) rfl (by decide) rfl ?_
  refine Fr_iload_n (q := 2) (i := 2) 0 (by decide +kernel) rfl rfl ?_
  refine Fr_if_eq (off := 7) 14 (by decide +kernel) (by decide) (fun hc => ?_) (fun hc => ?_)
  · have h := iT hc h
    refine Fr_iload_n (q := 2) (i := 2) 0 (by decide +kernel) rfl rfl ?_
    obtain rfl := Option.some.inj h
    exact Fr_zret (by decide +kernel) rfl (nz_b r_3) ⟨rfl, rfl⟩
  · have h := iF hc h
    refine Fr_aload_n (q := 0) (i := 0) 1 (by decide +kernel) rfl rfl ?_
    obtain ⟨M_4, hc_5, h⟩ := bv_elim h
    refine Fr_cVv (ν := m_X8_advance) (As := []) (st := []) (rc := 82) (ci := 8) (d' := 0) (by decide +kernel) ml_X8_34 cv_X8_advance rfl (by decide) rfl ob_82 rfl (by decide) (Nat.le_of_ble_eq_true rfl) (t_X8_advance hc_5) ?_
    refine Fr_iload_n (q := 2) (i := 2) 0 (by decide +kernel) rfl rfl ?_
    obtain rfl := Option.some.inj h
    exact Fr_zret (by decide +kernel) rfl (nz_b r_3) ⟨rfl, rfl⟩
set_option maxRecDepth 20000 in
theorem t_X8_takeNumber {N : Nat} {p1 : Nat} {x2 : Int32} {x3 : Int32} {x4 : Int32} (hp1 : Ob 0 111 p1 20) {M : Mem} {q : Bool × Mem} (h : f_X8_takeNumber N p1 x2 x3 x4 M = some q) : Ev 0 111 1 m_X8_takeNumber [.ref 82, .ref p1, .int x2, .int x3, .int x4] M (QB q) := by
  refine Ev_of_Fr (by decide +kernel) (Nat.le_of_ble_eq_true rfl) ?_
  show Fr 0 111 1 m_X8_takeNumber 0 [(0, .ref 82), (1, .ref p1), (2, .int x2), (3, .int x3), (4, .int x4)] [] M (QB q)
  unfold f_X8_takeNumber at h
  refine Fr_aload_n (q := 0) (i := 0) 0 (by decide +kernel) rfl rfl ?_
  refine gf_X8_37 rfl (by decide +kernel) ob_82 ?_
  refine Fr_iconst (i := 2) (v := 2) (by decide +kernel) (by decide) ?_
  refine Fr_icmp_eq (off := 9) 14 (by decide +kernel) (by decide) (fun hc => ?_) (fun hc => ?_)
  · have h := iT hc h
    refine Fr_aload_n (q := 0) (i := 0) 0 (by decide +kernel) rfl rfl ?_
    refine gf_X8_43 rfl (by decide +kernel) ob_82 ?_
    refine Fr_iload_n (q := 3) (i := 3) 3 (by decide +kernel) rfl rfl ?_
    refine Fr_icmp_lt (off := 12) 31 (by decide +kernel) (by decide) (fun hc => ?_) (fun hc => ?_)
    · have h := iT hc h
      refine Fr_aload_n (q := 0) (i := 0) 0 (by decide +kernel) rfl rfl ?_
      refine Fr_iconst (i := 4) (v := 4) (by decide +kernel) (by decide) ?_
      obtain ⟨r_3, M_1, hc_2, h⟩ := bi_elim h
      refine Fr_cVb (ν := m_X8_refuse) (As := [.int 4]) (st := []) (rc := 82) (ci := 8) (d' := 0) (by decide +kernel) ml_X8_63 cv_X8_refuse rfl (by decide) rfl ob_82 rfl (by decide) (Nat.le_of_ble_eq_true rfl) (t_X8_refuse hc_2) ?_
      obtain rfl := Option.some.inj h
      exact Fr_zret (by decide +kernel) rfl (nz_b r_3) ⟨rfl, rfl⟩
    · have h := iF hc h
      refine Fr_aload_n (q := 0) (i := 0) 0 (by decide +kernel) rfl rfl ?_
      refine gf_X8_43 rfl (by decide +kernel) ob_82 ?_
      refine Fr_iload (i := 4) 4 (by decide +kernel) rfl ?_
      refine Fr_icmp_le (off := 9) 37 (by decide +kernel) (by decide) (fun hc => ?_) (fun hc => ?_)
      · have h := iT hc h
        refine Fr_aload_n (q := 1) (i := 1) 1 (by decide +kernel) rfl rfl ?_
        refine Fr_iload_n (q := 2) (i := 2) 2 (by decide +kernel) rfl rfl ?_
        refine Fr_aload_n (q := 0) (i := 0) 0 (by decide +kernel) rfl rfl ?_
        refine gf_X8_43 rfl (by decide +kernel) ob_82 ?_
        obtain ⟨hi_4, h⟩ := ck_elim h
        refine Fr_iast (by decide +kernel) hp1 (vp_of rfl hi_4) ?_
        obtain ⟨M_5, eM_5, h⟩ := bM_elim h
        refine Fr_mem eM_5 ?_
        refine Fr_aload_n (q := 0) (i := 0) 0 (by decide +kernel) rfl rfl ?_
        obtain ⟨M_6, hc_7, h⟩ := bv_elim h
        refine Fr_cVv (ν := m_X8_advance) (As := []) (st := []) (rc := 82) (ci := 8) (d' := 0) (by decide +kernel) ml_X8_34 cv_X8_advance rfl (by decide) rfl ob_82 rfl (by decide) (Nat.le_of_ble_eq_true rfl) (t_X8_advance hc_7) ?_
        refine Fr_iconst (i := 1) (v := 1) (by decide +kernel) (by decide) ?_
        obtain rfl := Option.some.inj h
        exact Fr_zret (by decide +kernel) rfl (by decide) ⟨rfl, rfl⟩
      · have h := iF hc h
        refine Fr_aload_n (q := 0) (i := 0) 0 (by decide +kernel) rfl rfl ?_
        refine Fr_iconst (i := 4) (v := 4) (by decide +kernel) (by decide) ?_
        obtain ⟨r_10, M_8, hc_9, h⟩ := bi_elim h
        refine Fr_cVb (ν := m_X8_refuse) (As := [.int 4]) (st := []) (rc := 82) (ci := 8) (d' := 0) (by decide +kernel) ml_X8_63 cv_X8_refuse rfl (by decide) rfl ob_82 rfl (by decide) (Nat.le_of_ble_eq_true rfl) (t_X8_refuse hc_9) ?_
        obtain rfl := Option.some.inj h
        exact Fr_zret (by decide +kernel) rfl (nz_b r_10) ⟨rfl, rfl⟩
  · have h := iF hc h
    refine Fr_aload_n (q := 0) (i := 0) 0 (by decide +kernel) rfl rfl ?_
    refine Fr_iconst (i := 2) (v := 2) (by decide +kernel) (by decide) ?_
    obtain ⟨r_13, M_11, hc_12, h⟩ := bi_elim h
    refine Fr_cVb (ν := m_X8_refuse) (As := [.int 2]) (st := []) (rc := 82) (ci := 8) (d' := 0) (by decide +kernel) ml_X8_63 cv_X8_refuse rfl (by decide) rfl ob_82 rfl (by decide) (Nat.le_of_ble_eq_true rfl) (t_X8_refuse hc_12) ?_
    obtain rfl := Option.some.inj h
    exact Fr_zret (by decide +kernel) rfl (nz_b r_13) ⟨rfl, rfl⟩
set_option maxRecDepth 20000 in
theorem t_X4_readBoard_b49 {N : Nat} {p1 : Nat} {p2 : Nat} (hp1 : Ob 0 111 p1 3) (hp2 : Ob 0 111 p2 5) {q : Bool × Mem} {s0 : Int32} {M : Mem} (h : f_X4_readBoard_b49 N p1 p2 s0 M = some q) : Fr 0 111 2 m_X4_readBoard 49 [(0, .ref 87), (1, .ref p1), (2, .ref p2)] [.int s0] M (QB q) := by
  unfold f_X4_readBoard_b49 at h
  refine Fr_istore_n (q := 3) (i := 3) (lv' := [(3, .int s0), (0, .ref 87), (1, .ref p1), (2, .ref p2)]) (by decide +kernel) rfl (by decide) rfl ?_
  refine Fr_iload_n (q := 3) (i := 3) 0 (by decide +kernel) rfl rfl ?_
  refine Fr_if_eq (off := 28) 79 (by decide +kernel) (by decide) (fun hc => ?_) (fun hc => ?_)
  · have h := iT hc h
    refine Fr_iload_n (q := 3) (i := 3) 0 (by decide +kernel) rfl rfl ?_
    obtain ⟨b_4, eb_4, h⟩ := zb_elim h
    refine Fr_topI eb_4.symm ?_
    obtain rfl := Option.some.inj h
    exact Fr_zret (by decide +kernel) rfl (nz_b b_4) ⟨rfl, rfl⟩
  · have h := iF hc h
    refine Fr_aload_n (q := 1) (i := 1) 2 (by decide +kernel) rfl rfl ?_
    refine gf_X4_114 rfl (by decide +kernel) hp1 ?_
    refine Fr_aload_n (q := 1) (i := 1) 2 (by decide +kernel) rfl rfl ?_
    refine gf_X4_72 rfl (by decide +kernel) hp1 ?_
    refine Fr_aload_n (q := 2) (i := 2) 3 (by decide +kernel) rfl rfl ?_
    refine Fr_aload_n (q := 0) (i := 0) 1 (by decide +kernel) rfl rfl ?_
    refine gf_X4_15 rfl (by decide +kernel) ob_87 ?_
    refine Fr_iconst (i := 0) (v := 0) (by decide +kernel) (by decide) ?_
    obtain ⟨hi_5, h⟩ := ck_elim h
    refine Fr_iald (by decide +kernel) ob_89 (vp_of ln_89 hi_5) ?_
    refine Fr_aload_n (q := 0) (i := 0) 1 (by decide +kernel) rfl rfl ?_
    refine gf_X4_15 rfl (by decide +kernel) ob_87 ?_
    refine Fr_iconst (i := 1) (v := 1) (by decide +kernel) (by decide) ?_
    obtain ⟨hi_6, h⟩ := ck_elim h
    refine Fr_iald (by decide +kernel) ob_89 (vp_of ln_89 hi_6) ?_
    obtain ⟨r_9, M_7, hc_8, h⟩ := bi_elim h
    refine Fr_cVi (ν := m_X5_boardAt) (As := [.int (M.1 89 (tn 0)), .int (M.1 89 (tn 1))]) (st := [.int (M.1 p1 1), .ref (p1 + 2)]) (rc := p2) (ci := 5) (d' := 0) (by decide +kernel) ml_X4_151 cv_X5_boardAt rfl (by decide) rfl hp2 rfl (by decide) (Nat.le_of_ble_eq_true rfl) (t_X5_boardAt hp2 hc_8) ?_
    obtain ⟨hi_10, h⟩ := ck_elim h
    refine Fr_iast (by decide +kernel) (o3_2 hp1) (vp_of (n3_2 hp1) hi_10) ?_
    obtain ⟨M_11, eM_11, h⟩ := bM_elim h
    refine Fr_mem eM_11 ?_
    refine Fr_iload_n (q := 3) (i := 3) 0 (by decide +kernel) rfl rfl ?_
    obtain ⟨b_12, eb_12, h⟩ := zb_elim h
    refine Fr_topI eb_12.symm ?_
    obtain rfl := Option.some.inj h
    exact Fr_zret (by decide +kernel) rfl (nz_b b_12) ⟨rfl, rfl⟩
set_option maxRecDepth 20000 in
theorem t_X4_readBoard_b48 {N : Nat} {p1 : Nat} {p2 : Nat} (hp1 : Ob 0 111 p1 3) (hp2 : Ob 0 111 p2 5) {q : Bool × Mem} {M : Mem} (h : f_X4_readBoard_b48 N p1 p2 M = some q) : Fr 0 111 2 m_X4_readBoard 48 [(0, .ref 87), (1, .ref p1), (2, .ref p2)] [] M (QB q) := by
  unfold f_X4_readBoard_b48 at h
  refine Fr_iconst (i := 0) (v := 0) (by decide +kernel) (by decide) ?_
  exact t_X4_readBoard_b49 hp1 hp2 h
set_option maxRecDepth 20000 in
theorem t_X4_readBoard {N : Nat} {p1 : Nat} {p2 : Nat} (hp1 : Ob 0 111 p1 3) (hp2 : Ob 0 111 p2 5) {M : Mem} {q : Bool × Mem} (h : f_X4_readBoard N p1 p2 M = some q) : Ev 0 111 2 m_X4_readBoard [.ref 87, .ref p1, .ref p2] M (QB q) := by
  refine Ev_of_Fr (by decide +kernel) (Nat.le_of_ble_eq_true rfl) ?_
  show Fr 0 111 2 m_X4_readBoard 0 [(0, .ref 87), (1, .ref p1), (2, .ref p2)] [] M (QB q)
  unfold f_X4_readBoard at h
  refine Fr_aload_n (q := 0) (i := 0) 0 (by decide +kernel) rfl rfl ?_
  refine gf_X4_18 rfl (by decide +kernel) ob_87 ?_
  refine Fr_aload_n (q := 0) (i := 0) 0 (by decide +kernel) rfl rfl ?_
  refine gf_X4_15 rfl (by decide +kernel) ob_87 ?_
  refine Fr_iconst (i := 0) (v := 0) (by decide +kernel) (by decide) ?_
  refine Fr_iconst (i := 0) (v := 0) (by decide +kernel) (by decide) ?_
  refine Fr_aload_n (q := 2) (i := 2) 2 (by decide +kernel) rfl rfl ?_
  refine gf_X4_143 rfl (by decide +kernel) hp2 ?_
  refine Fr_iconst (i := 1) (v := 1) (by decide +kernel) (by decide) ?_
  refine Fr_isub (by decide +kernel) ?_
  obtain ⟨r_3, M_1, hc_2, h⟩ := bi_elim h
  refine Fr_cVb (ν := m_X8_takeNumber) (As := [.ref 89, .int 0, .int 0, .int ((M.1 p2 0) - 1)]) (st := []) (rc := 82) (ci := 8) (d' := 1) (by decide +kernel) ml_X4_117 cv_X8_takeNumber rfl (by decide) rfl ob_82 rfl (by decide) (Nat.le_of_ble_eq_true rfl) (t_X8_takeNumber ob_89 hc_2) ?_
  refine Fr_if_eq (off := 29) 48 (by decide +kernel) (by decide) (fun hc => ?_) (fun hc => ?_)
  · have h := iT hc h
    exact t_X4_readBoard_b48 hp1 hp2 h
  · have h := iF hc h
    refine Fr_aload_n (q := 0) (i := 0) 0 (by decide +kernel) rfl rfl ?_
    refine gf_X4_18 rfl (by decide +kernel) ob_87 ?_
    refine Fr_aload_n (q := 0) (i := 0) 0 (by decide +kernel) rfl rfl ?_
    refine gf_X4_15 rfl (by decide +kernel) ob_87 ?_
    refine Fr_iconst (i := 1) (v := 1) (by decide +kernel) (by decide) ?_
    refine Fr_iconst (i := 0) (v := 0) (by decide +kernel) (by decide) ?_
    refine Fr_aload_n (q := 2) (i := 2) 2 (by decide +kernel) rfl rfl ?_
    refine gf_X4_148 rfl (by decide +kernel) hp2 ?_
    refine Fr_iconst (i := 1) (v := 1) (by decide +kernel) (by decide) ?_
    refine Fr_isub (by decide +kernel) ?_
    obtain ⟨r_15, M_13, hc_14, h⟩ := bi_elim h
    refine Fr_cVb (ν := m_X8_takeNumber) (As := [.ref 89, .int 1, .int 0, .int ((M_1.1 p2 1) - 1)]) (st := []) (rc := 82) (ci := 8) (d' := 1) (by decide +kernel) ml_X4_117 cv_X8_takeNumber rfl (by decide) rfl ob_82 rfl (by decide) (Nat.le_of_ble_eq_true rfl) (t_X8_takeNumber ob_89 hc_14) ?_
    refine Fr_if_eq (off := 7) 48 (by decide +kernel) (by decide) (fun hc => ?_) (fun hc => ?_)
    · have h := iT hc h
      exact t_X4_readBoard_b48 hp1 hp2 h
    · have h := iF hc h
      refine Fr_iconst (i := 1) (v := 1) (by decide +kernel) (by decide) ?_
      refine Fr_goto (off := 4) 49 (by decide +kernel) (by decide) ?_
      exact t_X4_readBoard_b49 hp1 hp2 h
set_option maxRecDepth 20000 in
theorem t_X8_isName_b91 {N : Nat} {q : Bool × Mem} {k28 : Int32 × Int32 → Mem → Option (Bool × Mem)} (hk28 : ∀ (a : Int32 × Int32) (M : Mem), k28 a M = some q → Fr 0 111 7 m_X8_isName 28 [(0, .ref 82), (1, .int a.1), (2, .int a.2)] [] M (QB q)) {v1 : Int32} {v2 : Int32} {M : Mem} (h : f_X8_isName_b91 N k28 v1 v2 M = some q) : Fr 0 111 7 m_X8_isName 91 [(0, .ref 82), (1, .int v1), (2, .int v2)] [] M (QB q) := by
  unfold f_X8_isName_b91 at h
  refine Fr_iinc (i := 2) (j := 1) (v := (v2 + 1)) (lv' := [(2, .int (v2 + 1)), (0, .ref 82), (1, .int v1)]) 2 (by decide +kernel) rfl rfl (by decide) rfl ?_
  refine Fr_goto (off := (-66)) 28 (by decide +kernel) (by decide) ?_
  refine Fr_loc [1, 2, 0] rfl ?_
  exact hk28 (v1, (v2 + 1)) M h
set_option maxRecDepth 20000 in
theorem t_X8_isName_b72 {N : Nat} {q : Bool × Mem} {k28 : Int32 × Int32 → Mem → Option (Bool × Mem)} (hk28 : ∀ (a : Int32 × Int32) (M : Mem), k28 a M = some q → Fr 0 111 7 m_X8_isName 28 [(0, .ref 82), (1, .int a.1), (2, .int a.2)] [] M (QB q)) {v1 : Int32} {v2 : Int32} {s0 : Int32} {M : Mem} (h : f_X8_isName_b72 N k28 v1 v2 s0 M = some q) : Fr 0 111 7 m_X8_isName 72 [(0, .ref 82), (1, .int v1), (2, .int v2)] [.int s0] M (QB q) := by
  unfold f_X8_isName_b72 at h
  refine Fr_istore_n (q := 3) (i := 3) (lv' := [(3, .int s0), (0, .ref 82), (1, .int v1), (2, .int v2)]) (by decide +kernel) rfl (by decide) rfl ?_
  refine Fr_iload_n (q := 3) (i := 3) 0 (by decide +kernel) rfl rfl ?_
  refine Fr_if_eq (off := 17) 91 (by decide +kernel) (by decide) (fun hc => ?_) (fun hc => ?_)
  · have h := iT hc h
    refine Fr_loc [1, 2, 3] rfl ?_
    exact t_X8_isName_b91 hk28 h
  · have h := iF hc h
    refine Fr_aload_n (q := 0) (i := 0) 1 (by decide +kernel) rfl rfl ?_
    refine Fr_ldcS (idx := 67) 3 (by decide +kernel) (by decide) rfl rfl ?_
    refine Fr_iload_n (q := 2) (i := 2) 3 (by decide +kernel) rfl rfl ?_
    refine Fr_iconst (i := 1) (v := 1) (by decide +kernel) (by decide) ?_
    refine Fr_iadd (by decide +kernel) ?_
    obtain ⟨r_9, M_7, hc_8, h⟩ := bi_elim h
    refine Fr_cVb (ν := m_X8_isSameAt) (As := [.ref (400 + 3), .int (v2 + 1)]) (st := []) (rc := 82) (ci := 8) (d' := 6) (by decide +kernel) ml_X8_51 cv_X8_isSameAt rfl (by decide) rfl ob_82 rfl (by decide) (Nat.le_of_ble_eq_true rfl) (t_X8_isSameAt (by decide) hc_8) ?_
    refine Fr_if_eq (off := 5) 91 (by decide +kernel) (by decide) (fun hc => ?_) (fun hc => ?_)
    · have h := iT hc h
      refine Fr_loc [1, 2, 3] rfl ?_
      exact t_X8_isName_b91 hk28 h
    · have h := iF hc h
      refine Fr_iconst (i := 0) (v := 0) (by decide +kernel) (by decide) ?_
      obtain rfl := Option.some.inj h
      exact Fr_zret (by decide +kernel) rfl (by decide) ⟨rfl, rfl⟩
set_option maxRecDepth 20000 in
theorem t_X8_isName_b71 {N : Nat} {q : Bool × Mem} {k28 : Int32 × Int32 → Mem → Option (Bool × Mem)} (hk28 : ∀ (a : Int32 × Int32) (M : Mem), k28 a M = some q → Fr 0 111 7 m_X8_isName 28 [(0, .ref 82), (1, .int a.1), (2, .int a.2)] [] M (QB q)) {v1 : Int32} {v2 : Int32} {M : Mem} (h : f_X8_isName_b71 N k28 v1 v2 M = some q) : Fr 0 111 7 m_X8_isName 71 [(0, .ref 82), (1, .int v1), (2, .int v2)] [] M (QB q) := by
  unfold f_X8_isName_b71 at h
  refine Fr_iconst (i := 0) (v := 0) (by decide +kernel) (by decide) ?_
  exact t_X8_isName_b72 hk28 h
set_option maxRecDepth 20000 in
theorem t_X8_isName_h28 {N : Nat} {q : Bool × Mem} {k28 : Int32 × Int32 → Mem → Option (Bool × Mem)} (hk28 : ∀ (a : Int32 × Int32) (M : Mem), k28 a M = some q → Fr 0 111 7 m_X8_isName 28 [(0, .ref 82), (1, .int a.1), (2, .int a.2)] [] M (QB q)) {v1 : Int32} {v2 : Int32} {M : Mem} (h : f_X8_isName_h28 N k28 v1 v2 M = some q) : Fr 0 111 7 m_X8_isName 28 [(0, .ref 82), (1, .int v1), (2, .int v2)] [] M (QB q) := by
  unfold f_X8_isName_h28 at h
  refine Fr_iload_n (q := 2) (i := 2) 2 (by decide +kernel) rfl rfl ?_
  refine Fr_iload_n (q := 1) (i := 1) 1 (by decide +kernel) rfl rfl ?_
  refine Fr_iadd (by decide +kernel) ?_
  refine Fr_iconst (i := 1) (v := 1) (by decide +kernel) (by decide) ?_
  refine Fr_iadd (by decide +kernel) ?_
  refine Fr_ldcS (idx := 67) 3 (by decide +kernel) (by decide) rfl rfl ?_
  obtain ⟨r_3, M_1, hc_2, h⟩ := bi_elim h
  refine Fr_cTi (ν := m_J0_length_8abf5) (As := []) (st := [.int ((v2 + v1) + 1)]) (d' := 2) (by decide +kernel) ml_X8_46 cv_J0_length_8abf5 rfl (by decide) rfl (by decide) (Nat.le_of_ble_eq_true rfl) (t_J0_length_8abf5 (by decide) hc_2) ?_
  refine Fr_icmp_ge (off := 59) 97 (by decide +kernel) (by decide) (fun hc => ?_) (fun hc => ?_)
  · have h := iT hc h
    refine Fr_iconst (i := 1) (v := 1) (by decide +kernel) (by decide) ?_
    obtain rfl := Option.some.inj h
    exact Fr_zret (by decide +kernel) rfl (by decide) ⟨rfl, rfl⟩
  · have h := iF hc h
    refine Fr_ldcS (idx := 67) 3 (by decide +kernel) (by decide) rfl rfl ?_
    refine Fr_iload_n (q := 2) (i := 2) 2 (by decide +kernel) rfl rfl ?_
    obtain ⟨r_6, M_4, hc_5, h⟩ := bi_elim h
    refine Fr_cTi (ν := m_J0_charAt_5068e) (As := [.int v2]) (st := []) (d' := 5) (by decide +kernel) ml_X8_55 cv_J0_charAt_5068e rfl (by decide) rfl (by decide) (Nat.le_of_ble_eq_true rfl) (t_J0_charAt_5068e (by decide) hc_5) ?_
    refine Fr_bipush (i := 32) (v := 32) (by decide +kernel) (by decide) ?_
    refine Fr_icmp_ne (off := 22) 71 (by decide +kernel) (by decide) (fun hc => ?_) (fun hc => ?_)
    · have h := iF hc h
      exact t_X8_isName_b71 hk28 h
    · have h := iT hc h
      refine Fr_ldcS (idx := 67) 3 (by decide +kernel) (by decide) rfl rfl ?_
      refine Fr_iload_n (q := 2) (i := 2) 2 (by decide +kernel) rfl rfl ?_
      refine Fr_iload_n (q := 1) (i := 1) 1 (by decide +kernel) rfl rfl ?_
      refine Fr_iadd (by decide +kernel) ?_
      refine Fr_iconst (i := 1) (v := 1) (by decide +kernel) (by decide) ?_
      refine Fr_iadd (by decide +kernel) ?_
      obtain ⟨r_12, M_10, hc_11, h⟩ := bi_elim h
      refine Fr_cTi (ν := m_J0_charAt_5068e) (As := [.int ((v2 + v1) + 1)]) (st := []) (d' := 5) (by decide +kernel) ml_X8_55 cv_J0_charAt_5068e rfl (by decide) rfl (by decide) (Nat.le_of_ble_eq_true rfl) (t_J0_charAt_5068e (by decide) hc_11) ?_
      refine Fr_bipush (i := 32) (v := 32) (by decide +kernel) (by decide) ?_
      refine Fr_icmp_ne (off := 7) 71 (by decide +kernel) (by decide) (fun hc => ?_) (fun hc => ?_)
      · have h := iF hc h
        exact t_X8_isName_b71 hk28 h
      · have h := iT hc h
        refine Fr_iconst (i := 1) (v := 1) (by decide +kernel) (by decide) ?_
        refine Fr_goto (off := 4) 72 (by decide +kernel) (by decide) ?_
        exact t_X8_isName_b72 hk28 h
set_option maxRecDepth 20000 in
theorem t_X8_isName {N : Nat} {M : Mem} {q : Bool × Mem} (h : f_X8_isName N M = some q) : Ev 0 111 7 m_X8_isName [.ref 82] M (QB q) := by
  refine Ev_of_Fr (by decide +kernel) (Nat.le_of_ble_eq_true rfl) ?_
  show Fr 0 111 7 m_X8_isName 0 [(0, .ref 82)] [] M (QB q)
  unfold f_X8_isName at h
  refine Fr_aload_n (q := 0) (i := 0) 0 (by decide +kernel) rfl rfl ?_
  refine gf_X8_31 rfl (by decide +kernel) ob_82 ?_
  refine Fr_aload_n (q := 0) (i := 0) 0 (by decide +kernel) rfl rfl ?_
  refine gf_X8_40 rfl (by decide +kernel) ob_82 ?_
  refine Fr_isub (by decide +kernel) ?_
  refine Fr_istore_n (q := 1) (i := 1) (lv' := [(1, .int ((M.1 82 4) - (M.1 82 3))), (0, .ref 82)]) (by decide +kernel) rfl (by decide) rfl ?_
  refine Fr_aload_n (q := 0) (i := 0) 1 (by decide +kernel) rfl rfl ?_
  refine gf_X8_37 rfl (by decide +kernel) ob_82 ?_
  refine Fr_iconst (i := 1) (v := 1) (by decide +kernel) (by decide) ?_
  refine Fr_icmp_ne (off := 9) 24 (by decide +kernel) (by decide) (fun hc => ?_) (fun hc => ?_)
  · have h := iF hc h
    refine Fr_iconst (i := 0) (v := 0) (by decide +kernel) (by decide) ?_
    obtain rfl := Option.some.inj h
    exact Fr_zret (by decide +kernel) rfl (by decide) ⟨rfl, rfl⟩
  · have h := iT hc h
    refine Fr_iload_n (q := 1) (i := 1) 0 (by decide +kernel) rfl rfl ?_
    refine Fr_bipush (i := 8) (v := 8) (by decide +kernel) (by decide) ?_
    refine Fr_icmp_le (off := 5) 26 (by decide +kernel) (by decide) (fun hc => ?_) (fun hc => ?_)
    · have h := iT hc h
      refine Fr_iconst (i := 0) (v := 0) (by decide +kernel) (by decide) ?_
      refine Fr_istore_n (q := 2) (i := 2) (lv' := [(2, .int 0), (1, .int ((M.1 82 4) - (M.1 82 3))), (0, .ref 82)]) (by decide +kernel) rfl (by decide) rfl ?_
      refine Fr_loc [2, 1, 0] rfl ?_
      exact lp_sound (body := fun k a m => f_X8_isName_h28 N k a.1 a.2 m) (P := fun a M => Fr 0 111 7 m_X8_isName 28 [(0, .ref 82), (1, .int a.1), (2, .int a.2)] [] M (QB q)) (fun k hk a m h => t_X8_isName_h28 hk h) N (((M.1 82 4) - (M.1 82 3)), 0) M h
    · have h := iF hc h
      refine Fr_iconst (i := 0) (v := 0) (by decide +kernel) (by decide) ?_
      obtain rfl := Option.some.inj h
      exact Fr_zret (by decide +kernel) rfl (by decide) ⟨rfl, rfl⟩
set_option maxRecDepth 20000 in
theorem t_X8_nameCode_h7 {N : Nat} {q : Int64 × Mem} {k7 : Int64 × Int32 → Mem → Option (Int64 × Mem)} (hk7 : ∀ (a : Int64 × Int32) (M : Mem), k7 a M = some q → Fr 0 111 0 m_X8_nameCode 7 [(0, .ref 82), (1, .long a.1), (3, .int a.2)] [] M (QJ q)) {v1 : Int64} {v3 : Int32} {M : Mem} (h : f_X8_nameCode_h7 N k7 v1 v3 M = some q) : Fr 0 111 0 m_X8_nameCode 7 [(0, .ref 82), (1, .long v1), (3, .int v3)] [] M (QJ q) := by
  unfold f_X8_nameCode_h7 at h
  refine Fr_iload_n (q := 3) (i := 3) 2 (by decide +kernel) rfl rfl ?_
  refine Fr_aload_n (q := 0) (i := 0) 0 (by decide +kernel) rfl rfl ?_
  refine gf_X8_31 rfl (by decide +kernel) ob_82 ?_
  refine Fr_icmp_ge (off := 29) 41 (by decide +kernel) (by decide) (fun hc => ?_) (fun hc => ?_)
  · have h := iT hc h
    refine Fr_lload_n (q := 1) (i := 1) 1 (by decide +kernel) rfl rfl ?_
    obtain rfl := Option.some.inj h
    exact Fr_lret (by decide +kernel) rfl ⟨rfl, rfl⟩
  · have h := iF hc h
    refine Fr_lload_n (q := 1) (i := 1) 1 (by decide +kernel) rfl rfl ?_
    refine Fr_ldc2 (idx := 69) (v := 32) (by decide +kernel) ll_X8_69 ?_
    refine Fr_lmul (by decide +kernel) ?_
    refine Fr_aload_n (q := 0) (i := 0) 0 (by decide +kernel) rfl rfl ?_
    refine gf_X8_9 rfl (by decide +kernel) ob_82 ?_
    refine Fr_iload_n (q := 3) (i := 3) 2 (by decide +kernel) rfl rfl ?_
    obtain ⟨hi_1, h⟩ := ck_elim h
    refine Fr_bald (by decide +kernel) ob_1 (vp_of ln_1 hi_1) ?_
    refine Fr_i2l (by decide +kernel) ?_
    refine Fr_ladd (by decide +kernel) ?_
    refine Fr_ldc2 (idx := 71) (v := 97) (by decide +kernel) ll_X8_71 ?_
    refine Fr_lsub (by decide +kernel) ?_
    refine Fr_lconst (i := 1) (v := 1) (by decide +kernel) (by decide) ?_
    refine Fr_ladd (by decide +kernel) ?_
    obtain ⟨y_2, ey_2, h⟩ := bL_elim h
    refine Fr_topL ey_2 ?_
    refine Fr_lstore_n (q := 1) (i := 1) (lv' := [(1, .long y_2), (0, .ref 82), (3, .int v3)]) (by decide +kernel) rfl (by decide) rfl ?_
    refine Fr_iinc (i := 3) (j := 1) (v := (v3 + 1)) (lv' := [(3, .int (v3 + 1)), (1, .long y_2), (0, .ref 82)]) 2 (by decide +kernel) rfl rfl (by decide) rfl ?_
    refine Fr_goto (off := (-31)) 7 (by decide +kernel) (by decide) ?_
    refine Fr_loc [2, 1, 0] rfl ?_
    exact hk7 (y_2, (v3 + 1)) M h
set_option maxRecDepth 20000 in
theorem t_X8_nameCode {N : Nat} {M : Mem} {q : Int64 × Mem} (h : f_X8_nameCode N M = some q) : Ev 0 111 0 m_X8_nameCode [.ref 82] M (QJ q) := by
  refine Ev_of_Fr (by decide +kernel) (Nat.le_of_ble_eq_true rfl) ?_
  show Fr 0 111 0 m_X8_nameCode 0 [(0, .ref 82)] [] M (QJ q)
  unfold f_X8_nameCode at h
  refine Fr_lconst (i := 0) (v := 0) (by decide +kernel) (by decide) ?_
  refine Fr_lstore_n (q := 1) (i := 1) (lv' := [(1, .long 0), (0, .ref 82)]) (by decide +kernel) rfl (by decide) rfl ?_
  refine Fr_aload_n (q := 0) (i := 0) 1 (by decide +kernel) rfl rfl ?_
  refine gf_X8_40 rfl (by decide +kernel) ob_82 ?_
  refine Fr_istore_n (q := 3) (i := 3) (lv' := [(3, .int (M.1 82 3)), (1, .long 0), (0, .ref 82)]) (by decide +kernel) rfl (by decide) rfl ?_
  refine Fr_loc [2, 1, 0] rfl ?_
  exact lp_sound (body := fun k a m => f_X8_nameCode_h7 N k a.1 a.2 m) (P := fun a M => Fr 0 111 0 m_X8_nameCode 7 [(0, .ref 82), (1, .long a.1), (3, .int a.2)] [] M (QJ q)) (fun k hk a m h => t_X8_nameCode_h7 hk h) N (0, (M.1 82 3)) M h
set_option maxRecDepth 20000 in
theorem t_X4_readGateName_h30 {N : Nat} {p1 : Nat} {p2 : Nat} (hp1 : Ob 0 111 p1 3) (hp2 : Ob 0 111 p2 5) {q : Bool × Mem} {k30 : Int64 × Int32 → Mem → Option (Bool × Mem)} (hk30 : ∀ (a : Int64 × Int32) (M : Mem), k30 a M = some q → Fr 0 111 8 m_X4_readGateName 30 [(0, .ref 87), (1, .ref p1), (2, .ref p2), (3, .long a.1), (5, .int a.2)] [] M (QB q)) {v3 : Int64} {v5 : Int32} {M : Mem} (h : f_X4_readGateName_h30 N p1 p2 k30 v3 v5 M = some q) : Fr 0 111 8 m_X4_readGateName 30 [(0, .ref 87), (1, .ref p1), (2, .ref p2), (3, .long v3), (5, .int v5)] [] M (QB q) := by
  unfold f_X4_readGateName_h30 at h
  refine Fr_iload (i := 5) 4 (by decide +kernel) rfl ?_
  refine Fr_aload_n (q := 2) (i := 2) 2 (by decide +kernel) rfl rfl ?_
  refine gf_X4_171 rfl (by decide +kernel) hp2 ?_
  refine Fr_icmp_ge (off := 41) 77 (by decide +kernel) (by decide) (fun hc => ?_) (fun hc => ?_)
  · have h := iT hc h
    refine Fr_aload_n (q := 0) (i := 0) 0 (by decide +kernel) rfl rfl ?_
    refine gf_X4_18 rfl (by decide +kernel) ob_87 ?_
    refine Fr_iconst (i := 3) (v := 3) (by decide +kernel) (by decide) ?_
    obtain ⟨r_9, M_7, hc_8, h⟩ := bi_elim h
    refine Fr_cVb (ν := m_X8_refuse) (As := [.int 3]) (st := []) (rc := 82) (ci := 8) (d' := 0) (by decide +kernel) ml_X4_59 cv_X8_refuse rfl (by decide) rfl ob_82 rfl (by decide) (Nat.le_of_ble_eq_true rfl) (t_X8_refuse hc_8) ?_
    obtain rfl := Option.some.inj h
    exact Fr_zret (by decide +kernel) rfl (nz_b r_9) ⟨rfl, rfl⟩
  · have h := iF hc h
    refine Fr_aload_n (q := 2) (i := 2) 2 (by decide +kernel) rfl rfl ?_
    refine gf_X4_174 rfl (by decide +kernel) hp2 ?_
    refine Fr_iload (i := 5) 4 (by decide +kernel) rfl ?_
    obtain ⟨hi_10, h⟩ := ck_elim h
    refine Fr_lald (by decide +kernel) (o5_2 hp2) (vp_of (n5_2 hp2) hi_10) ?_
    refine Fr_lload_n (q := 3) (i := 3) 3 (by decide +kernel) rfl rfl ?_
    refine Fr_lcmp (by decide +kernel) ?_
    refine Fr_if_ne (off := 23) 71 (by decide +kernel) (by decide) (fun hc => ?_) (fun hc => ?_)
    · have h := iF hc h
      refine Fr_iinc (i := 5) (j := 1) (v := (v5 + 1)) (lv' := [(5, .int (v5 + 1)), (0, .ref 87), (1, .ref p1), (2, .ref p2), (3, .long v3)]) 4 (by decide +kernel) rfl rfl (by decide) rfl ?_
      refine Fr_goto (off := (-44)) 30 (by decide +kernel) (by decide) ?_
      refine Fr_loc [1, 2, 3, 4, 0] rfl ?_
      exact hk30 (v3, (v5 + 1)) M h
    · have h := iT hc h
      refine Fr_aload_n (q := 1) (i := 1) 1 (by decide +kernel) rfl rfl ?_
      refine gf_X4_114 rfl (by decide +kernel) hp1 ?_
      refine Fr_aload_n (q := 1) (i := 1) 1 (by decide +kernel) rfl rfl ?_
      refine gf_X4_72 rfl (by decide +kernel) hp1 ?_
      refine Fr_iload (i := 5) 4 (by decide +kernel) rfl ?_
      obtain ⟨hi_11, h⟩ := ck_elim h
      refine Fr_iast (by decide +kernel) (o3_2 hp1) (vp_of (n3_2 hp1) hi_11) ?_
      obtain ⟨M_12, eM_12, h⟩ := bM_elim h
      refine Fr_mem eM_12 ?_
      refine Fr_aload_n (q := 0) (i := 0) 0 (by decide +kernel) rfl rfl ?_
      refine gf_X4_18 rfl (by decide +kernel) ob_87 ?_
      obtain ⟨M_13, hc_14, h⟩ := bv_elim h
      refine Fr_cVv (ν := m_X8_advance) (As := []) (st := []) (rc := 82) (ci := 8) (d' := 0) (by decide +kernel) ml_X4_69 cv_X8_advance rfl (by decide) rfl ob_82 rfl (by decide) (Nat.le_of_ble_eq_true rfl) (t_X8_advance hc_14) ?_
      refine Fr_iconst (i := 1) (v := 1) (by decide +kernel) (by decide) ?_
      obtain rfl := Option.some.inj h
      exact Fr_zret (by decide +kernel) rfl (by decide) ⟨rfl, rfl⟩
set_option maxRecDepth 20000 in
theorem t_X4_readGateName {N : Nat} {p1 : Nat} {p2 : Nat} (hp1 : Ob 0 111 p1 3) (hp2 : Ob 0 111 p2 5) {M : Mem} {q : Bool × Mem} (h : f_X4_readGateName N p1 p2 M = some q) : Ev 0 111 8 m_X4_readGateName [.ref 87, .ref p1, .ref p2] M (QB q) := by
  refine Ev_of_Fr (by decide +kernel) (Nat.le_of_ble_eq_true rfl) ?_
  show Fr 0 111 8 m_X4_readGateName 0 [(0, .ref 87), (1, .ref p1), (2, .ref p2)] [] M (QB q)
  unfold f_X4_readGateName at h
  refine Fr_aload_n (q := 0) (i := 0) 0 (by decide +kernel) rfl rfl ?_
  refine gf_X4_18 rfl (by decide +kernel) ob_87 ?_
  obtain ⟨r_3, M_1, hc_2, h⟩ := bi_elim h
  refine Fr_cVb (ν := m_X8_isName) (As := []) (st := []) (rc := 82) (ci := 8) (d' := 7) (by decide +kernel) ml_X4_164 cv_X8_isName rfl (by decide) rfl ob_82 rfl (by decide) (Nat.le_of_ble_eq_true rfl) (t_X8_isName hc_2) ?_
  refine Fr_if_ne (off := 12) 19 (by decide +kernel) (by decide) (fun hc => ?_) (fun hc => ?_)
  · have h := iF hc h
    refine Fr_aload_n (q := 0) (i := 0) 0 (by decide +kernel) rfl rfl ?_
    refine gf_X4_18 rfl (by decide +kernel) ob_87 ?_
    obtain ⟨r_6, M_4, hc_5, h⟩ := bi_elim h
    refine Fr_cVj (ν := m_X8_nameCode) (As := []) (st := []) (rc := 82) (ci := 8) (d' := 0) (by decide +kernel) ml_X4_167 cv_X8_nameCode rfl (by decide) rfl ob_82 rfl (by decide) (Nat.le_of_ble_eq_true rfl) (t_X8_nameCode hc_5) ?_
    refine Fr_lstore_n (q := 3) (i := 3) (lv' := [(3, .long r_6), (0, .ref 87), (1, .ref p1), (2, .ref p2)]) (by decide +kernel) rfl (by decide) rfl ?_
    refine Fr_iconst (i := 0) (v := 0) (by decide +kernel) (by decide) ?_
    refine Fr_istore (i := 5) (lv' := [(5, .int 0), (3, .long r_6), (0, .ref 87), (1, .ref p1), (2, .ref p2)]) (by decide +kernel) (by decide) rfl ?_
    refine Fr_loc [2, 3, 4, 1, 0] rfl ?_
    exact lp_sound (body := fun k a m => f_X4_readGateName_h30 N p1 p2 k a.1 a.2 m) (P := fun a M => Fr 0 111 8 m_X4_readGateName 30 [(0, .ref 87), (1, .ref p1), (2, .ref p2), (3, .long a.1), (5, .int a.2)] [] M (QB q)) (fun k hk a m h => t_X4_readGateName_h30 hp1 hp2 hk h) N (r_6, 0) M_4 h
  · have h := iT hc h
    refine Fr_aload_n (q := 0) (i := 0) 0 (by decide +kernel) rfl rfl ?_
    refine gf_X4_18 rfl (by decide +kernel) ob_87 ?_
    refine Fr_iconst (i := 2) (v := 2) (by decide +kernel) (by decide) ?_
    obtain ⟨r_17, M_15, hc_16, h⟩ := bi_elim h
    refine Fr_cVb (ν := m_X8_refuse) (As := [.int 2]) (st := []) (rc := 82) (ci := 8) (d' := 0) (by decide +kernel) ml_X4_59 cv_X8_refuse rfl (by decide) rfl ob_82 rfl (by decide) (Nat.le_of_ble_eq_true rfl) (t_X8_refuse hc_16) ?_
    obtain rfl := Option.some.inj h
    exact Fr_zret (by decide +kernel) rfl (nz_b r_17) ⟨rfl, rfl⟩
set_option maxRecDepth 20000 in
theorem t_X8_takeWord {N : Nat} {z1 : Nat} (hz1 : z1 < 32) {M : Mem} {q : Bool × Mem} (h : f_X8_takeWord N z1 M = some q) : Ev 0 111 8 m_X8_takeWord [.ref 82, .ref (400 + z1)] M (QB q) := by
  refine Ev_of_Fr (by decide +kernel) (Nat.le_of_ble_eq_true rfl) ?_
  show Fr 0 111 8 m_X8_takeWord 0 [(0, .ref 82), (1, .ref (400 + z1))] [] M (QB q)
  unfold f_X8_takeWord at h
  refine Fr_aload_n (q := 0) (i := 0) 0 (by decide +kernel) rfl rfl ?_
  refine Fr_aload_n (q := 1) (i := 1) 1 (by decide +kernel) rfl rfl ?_
  obtain ⟨r_3, M_1, hc_2, h⟩ := bi_elim h
  refine Fr_cVb (ν := m_X8_isWord) (As := [.ref (400 + z1)]) (st := []) (rc := 82) (ci := 8) (d' := 7) (by decide +kernel) ml_X8_59 cv_X8_isWord rfl (by decide) rfl ob_82 rfl (by decide) (Nat.le_of_ble_eq_true rfl) (t_X8_isWord hz1 hc_2) ?_
  refine Fr_if_ne (off := 9) 14 (by decide +kernel) (by decide) (fun hc => ?_) (fun hc => ?_)
  · have h := iF hc h
    refine Fr_aload_n (q := 0) (i := 0) 0 (by decide +kernel) rfl rfl ?_
    obtain ⟨M_4, hc_5, h⟩ := bv_elim h
    refine Fr_cVv (ν := m_X8_advance) (As := []) (st := []) (rc := 82) (ci := 8) (d' := 0) (by decide +kernel) ml_X8_34 cv_X8_advance rfl (by decide) rfl ob_82 rfl (by decide) (Nat.le_of_ble_eq_true rfl) (t_X8_advance hc_5) ?_
    refine Fr_iconst (i := 1) (v := 1) (by decide +kernel) (by decide) ?_
    obtain rfl := Option.some.inj h
    exact Fr_zret (by decide +kernel) rfl (by decide) ⟨rfl, rfl⟩
  · have h := iT hc h
    refine Fr_aload_n (q := 0) (i := 0) 0 (by decide +kernel) rfl rfl ?_
    refine Fr_iconst (i := 2) (v := 2) (by decide +kernel) (by decide) ?_
    obtain ⟨r_8, M_6, hc_7, h⟩ := bi_elim h
    refine Fr_cVb (ν := m_X8_refuse) (As := [.int 2]) (st := []) (rc := 82) (ci := 8) (d' := 0) (by decide +kernel) ml_X8_63 cv_X8_refuse rfl (by decide) rfl ob_82 rfl (by decide) (Nat.le_of_ble_eq_true rfl) (t_X8_refuse hc_7) ?_
    obtain rfl := Option.some.inj h
    exact Fr_zret (by decide +kernel) rfl (nz_b r_8) ⟨rfl, rfl⟩
set_option maxRecDepth 20000 in
theorem t_X4_readCompares {N : Nat} {p1 : Nat} (hp1 : Ob 0 111 p1 3) {M : Mem} {q : Bool × Mem} (h : f_X4_readCompares N p1 M = some q) : Ev 0 111 1 m_X4_readCompares [.ref 87, .ref p1] M (QB q) := by
  refine Ev_of_Fr (by decide +kernel) (Nat.le_of_ble_eq_true rfl) ?_
  show Fr 0 111 1 m_X4_readCompares 0 [(0, .ref 87), (1, .ref p1)] [] M (QB q)
  unfold f_X4_readCompares at h
  refine Fr_aload_n (q := 0) (i := 0) 0 (by decide +kernel) rfl rfl ?_
  refine gf_X4_18 rfl (by decide +kernel) ob_87 ?_
  refine gf_X4_155 rfl (by decide +kernel) ob_82 ?_
  refine Fr_iconst (i := 3) (v := 3) (by decide +kernel) (by decide) ?_
  refine Fr_icmp_ne (off := 15) 23 (by decide +kernel) (by decide) (fun hc => ?_) (fun hc => ?_)
  · have h := iF hc h
    refine Fr_aload_n (q := 0) (i := 0) 0 (by decide +kernel) rfl rfl ?_
    refine gf_X4_18 rfl (by decide +kernel) ob_87 ?_
    refine Fr_iconst (i := 2) (v := 2) (by decide +kernel) (by decide) ?_
    obtain ⟨r_3, M_1, hc_2, h⟩ := bi_elim h
    refine Fr_cVb (ν := m_X8_refuse) (As := [.int 2]) (st := []) (rc := 82) (ci := 8) (d' := 0) (by decide +kernel) ml_X4_59 cv_X8_refuse rfl (by decide) rfl ob_82 rfl (by decide) (Nat.le_of_ble_eq_true rfl) (t_X8_refuse hc_2) ?_
    obtain rfl := Option.some.inj h
    exact Fr_zret (by decide +kernel) rfl (nz_b r_3) ⟨rfl, rfl⟩
  · have h := iT hc h
    refine Fr_aload_n (q := 0) (i := 0) 0 (by decide +kernel) rfl rfl ?_
    refine gf_X4_18 rfl (by decide +kernel) ob_87 ?_
    refine gf_X4_158 rfl (by decide +kernel) ob_82 ?_
    refine Fr_bipush (i := 59) (v := 59) (by decide +kernel) (by decide) ?_
    refine Fr_icmp_ne (off := 12) 32 (by decide +kernel) (by decide) (fun hc => ?_) (fun hc => ?_)
    · have h := iF hc h
      refine Fr_aload_n (q := 1) (i := 1) 1 (by decide +kernel) rfl rfl ?_
      refine gf_X4_161 rfl (by decide +kernel) hp1 ?_
      refine Fr_aload_n (q := 1) (i := 1) 1 (by decide +kernel) rfl rfl ?_
      refine gf_X4_72 rfl (by decide +kernel) hp1 ?_
      refine Fr_aload_n (q := 0) (i := 0) 0 (by decide +kernel) rfl rfl ?_
      refine gf_X4_18 rfl (by decide +kernel) ob_87 ?_
      refine gf_X4_158 rfl (by decide +kernel) ob_82 ?_
      obtain ⟨hi_4, h⟩ := ck_elim h
      refine Fr_iast (by decide +kernel) (o3_3 hp1) (vp_of (n3_3 hp1) hi_4) ?_
      obtain ⟨M_5, eM_5, h⟩ := bM_elim h
      refine Fr_mem eM_5 ?_
      refine Fr_aload_n (q := 0) (i := 0) 0 (by decide +kernel) rfl rfl ?_
      refine gf_X4_18 rfl (by decide +kernel) ob_87 ?_
      obtain ⟨M_6, hc_7, h⟩ := bv_elim h
      refine Fr_cVv (ν := m_X8_advance) (As := []) (st := []) (rc := 82) (ci := 8) (d' := 0) (by decide +kernel) ml_X4_69 cv_X8_advance rfl (by decide) rfl ob_82 rfl (by decide) (Nat.le_of_ble_eq_true rfl) (t_X8_advance hc_7) ?_
      refine Fr_iconst (i := 1) (v := 1) (by decide +kernel) (by decide) ?_
      obtain rfl := Option.some.inj h
      exact Fr_zret (by decide +kernel) rfl (by decide) ⟨rfl, rfl⟩
    · have h := iT hc h
      refine Fr_aload_n (q := 0) (i := 0) 0 (by decide +kernel) rfl rfl ?_
      refine gf_X4_18 rfl (by decide +kernel) ob_87 ?_
      refine Fr_iconst (i := 2) (v := 2) (by decide +kernel) (by decide) ?_
      obtain ⟨r_10, M_8, hc_9, h⟩ := bi_elim h
      refine Fr_cVb (ν := m_X8_refuse) (As := [.int 2]) (st := []) (rc := 82) (ci := 8) (d' := 0) (by decide +kernel) ml_X4_59 cv_X8_refuse rfl (by decide) rfl ob_82 rfl (by decide) (Nat.le_of_ble_eq_true rfl) (t_X8_refuse hc_9) ?_
      obtain rfl := Option.some.inj h
      exact Fr_zret (by decide +kernel) rfl (nz_b r_10) ⟨rfl, rfl⟩
