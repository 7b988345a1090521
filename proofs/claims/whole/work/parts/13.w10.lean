set_option maxRecDepth 20000 in
theorem t_X6_readSetting {N : Nat} {x1 : Int32} {x2 : Int32} {x3 : Int32} {M : Mem} {q : Bool × Mem} (h : f_X6_readSetting N x1 x2 x3 M = some q) : Ev 0 111 2 m_X6_readSetting [.ref 83, .int x1, .int x2, .int x3] M (QB q) := by
  refine Ev_of_Fr (by decide +kernel) (Nat.le_of_ble_eq_true rfl) ?_
  show Fr 0 111 2 m_X6_readSetting 0 [(0, .ref 83), (1, .int x1), (2, .int x2), (3, .int x3)] [] M (QB q)
  unfold f_X6_readSetting at h
  refine Fr_aload_n (q := 0) (i := 0) 0 (by decide +kernel) rfl rfl ?_
  refine gf_X6_15 rfl (by decide +kernel) ob_83 ?_
  refine Fr_iload_n (q := 1) (i := 1) 1 (by decide +kernel) rfl rfl ?_
  obtain ⟨hi_1, h⟩ := ck_elim h
  refine Fr_iald (by decide +kernel) ob_85 (vp_of ln_85 hi_1) ?_
  refine Fr_iconst (i := (-1)) (v := (-1)) (by decide +kernel) (by decide) ?_
  refine Fr_icmp_eq (off := 12) 19 (by decide +kernel) (by decide) (fun hc => ?_) (fun hc => ?_)
  · have h := iT hc h
    refine Fr_aload_n (q := 0) (i := 0) 0 (by decide +kernel) rfl rfl ?_
    refine gf_X6_22 rfl (by decide +kernel) ob_83 ?_
    obtain ⟨M_2, hc_3, h⟩ := bv_elim h
    refine Fr_cVv (ν := m_X8_advance) (As := []) (st := []) (rc := 82) (ci := 8) (d' := 0) (by decide +kernel) ml_X6_113 cv_X8_advance rfl (by decide) rfl ob_82 rfl (by decide) (Nat.le_of_ble_eq_true rfl) (t_X8_advance hc_3) ?_
    refine Fr_aload_n (q := 0) (i := 0) 0 (by decide +kernel) rfl rfl ?_
    refine gf_X6_22 rfl (by decide +kernel) ob_83 ?_
    refine Fr_aload_n (q := 0) (i := 0) 0 (by decide +kernel) rfl rfl ?_
    refine gf_X6_15 rfl (by decide +kernel) ob_83 ?_
    refine Fr_iload_n (q := 1) (i := 1) 1 (by decide +kernel) rfl rfl ?_
    refine Fr_iload_n (q := 2) (i := 2) 2 (by decide +kernel) rfl rfl ?_
    refine Fr_iload_n (q := 3) (i := 3) 3 (by decide +kernel) rfl rfl ?_
    obtain ⟨r_6, M_4, hc_5, h⟩ := bi_elim h
    refine Fr_cVb (ν := m_X8_takeNumber) (As := [.ref 85, .int x1, .int x2, .int x3]) (st := []) (rc := 82) (ci := 8) (d' := 1) (by decide +kernel) ml_X6_116 cv_X8_takeNumber rfl (by decide) rfl ob_82 rfl (by decide) (Nat.le_of_ble_eq_true rfl) (t_X8_takeNumber ob_85 hc_5) ?_
    refine Fr_if_eq (off := 17) 57 (by decide +kernel) (by decide) (fun hc => ?_) (fun hc => ?_)
    · have h := iT hc h
      refine Fr_iconst (i := 0) (v := 0) (by decide +kernel) (by decide) ?_
      obtain rfl := Option.some.inj h
      exact Fr_zret (by decide +kernel) rfl (by decide) ⟨rfl, rfl⟩
    · have h := iF hc h
      refine Fr_aload_n (q := 0) (i := 0) 0 (by decide +kernel) rfl rfl ?_
      refine gf_X6_22 rfl (by decide +kernel) ob_83 ?_
      obtain ⟨r_9, M_7, hc_8, h⟩ := bi_elim h
      refine Fr_cVb (ν := m_X8_takeSemicolon) (As := []) (st := []) (rc := 82) (ci := 8) (d' := 1) (by decide +kernel) ml_X6_128 cv_X8_takeSemicolon rfl (by decide) rfl ob_82 rfl (by decide) (Nat.le_of_ble_eq_true rfl) (t_X8_takeSemicolon hc_8) ?_
      refine Fr_if_eq (off := 7) 57 (by decide +kernel) (by decide) (fun hc => ?_) (fun hc => ?_)
      · have h := iT hc h
        refine Fr_iconst (i := 0) (v := 0) (by decide +kernel) (by decide) ?_
        obtain rfl := Option.some.inj h
        exact Fr_zret (by decide +kernel) rfl (by decide) ⟨rfl, rfl⟩
      · have h := iF hc h
        refine Fr_iconst (i := 1) (v := 1) (by decide +kernel) (by decide) ?_
        refine Fr_goto (off := 4) 58 (by decide +kernel) (by decide) ?_
        obtain rfl := Option.some.inj h
        exact Fr_zret (by decide +kernel) rfl (by decide) ⟨rfl, rfl⟩
  · have h := iF hc h
    refine Fr_aload_n (q := 0) (i := 0) 0 (by decide +kernel) rfl rfl ?_
    refine gf_X6_22 rfl (by decide +kernel) ob_83 ?_
    refine Fr_iconst (i := 5) (v := 5) (by decide +kernel) (by decide) ?_
    obtain ⟨r_12, M_10, hc_11, h⟩ := bi_elim h
    refine Fr_cVb (ν := m_X8_refuse) (As := [.int 5]) (st := []) (rc := 82) (ci := 8) (d' := 0) (by decide +kernel) ml_X6_79 cv_X8_refuse rfl (by decide) rfl ob_82 rfl (by decide) (Nat.le_of_ble_eq_true rfl) (t_X8_refuse hc_11) ?_
    obtain rfl := Option.some.inj h
    exact Fr_zret (by decide +kernel) rfl (nz_b r_12) ⟨rfl, rfl⟩
set_option maxRecDepth 20000 in
theorem t_X6_readPart {N : Nat} {p1 : Nat} (hp1 : Ob 0 111 p1 5) {M : Mem} {q : Bool × Mem} (h : f_X6_readPart N p1 M = some q) : Ev 0 111 10 m_X6_readPart [.ref 83, .ref p1] M (QB q) := by
  refine Ev_of_Fr (by decide +kernel) (Nat.le_of_ble_eq_true rfl) ?_
  show Fr 0 111 10 m_X6_readPart 0 [(0, .ref 83), (1, .ref p1)] [] M (QB q)
  unfold f_X6_readPart at h
  refine Fr_aload_n (q := 0) (i := 0) 0 (by decide +kernel) rfl rfl ?_
  refine gf_X6_22 rfl (by decide +kernel) ob_83 ?_
  refine Fr_ldcS (idx := 67) 0 (by decide +kernel) (by decide) rfl rfl ?_
  obtain ⟨r_3, M_1, hc_2, h⟩ := bi_elim h
  refine Fr_cVb (ν := m_X8_isWord) (As := [.ref (400 + 0)]) (st := []) (rc := 82) (ci := 8) (d' := 7) (by decide +kernel) ml_X6_69 cv_X8_isWord rfl (by decide) rfl ob_82 rfl (by decide) (Nat.le_of_ble_eq_true rfl) (t_X8_isWord (by decide) hc_2) ?_
  refine Fr_if_eq (off := 9) 18 (by decide +kernel) (by decide) (fun hc => ?_) (fun hc => ?_)
  · have h := iT hc h
    refine Fr_aload_n (q := 1) (i := 1) 1 (by decide +kernel) rfl rfl ?_
    refine gf_X6_76 rfl (by decide +kernel) hp1 ?_
    refine Fr_if_ne (off := 12) 34 (by decide +kernel) (by decide) (fun hc => ?_) (fun hc => ?_)
    · have h := iF hc h
      refine Fr_aload_n (q := 0) (i := 0) 0 (by decide +kernel) rfl rfl ?_
      refine gf_X6_22 rfl (by decide +kernel) ob_83 ?_
      refine Fr_ldcS (idx := 83) 2 (by decide +kernel) (by decide) rfl rfl ?_
      obtain ⟨r_6, M_4, hc_5, h⟩ := bi_elim h
      refine Fr_cVb (ν := m_X8_isWord) (As := [.ref (400 + 2)]) (st := []) (rc := 82) (ci := 8) (d' := 7) (by decide +kernel) ml_X6_69 cv_X8_isWord rfl (by decide) rfl ob_82 rfl (by decide) (Nat.le_of_ble_eq_true rfl) (t_X8_isWord (by decide) hc_5) ?_
      refine Fr_if_eq (off := 9) 52 (by decide +kernel) (by decide) (fun hc => ?_) (fun hc => ?_)
      · have h := iT hc h
        refine Fr_aload_n (q := 0) (i := 0) 0 (by decide +kernel) rfl rfl ?_
        refine gf_X6_22 rfl (by decide +kernel) ob_83 ?_
        refine Fr_ldcS (idx := 88) 9 (by decide +kernel) (by decide) rfl rfl ?_
        obtain ⟨r_9, M_7, hc_8, h⟩ := bi_elim h
        refine Fr_cVb (ν := m_X8_isWord) (As := [.ref (400 + 9)]) (st := []) (rc := 82) (ci := 8) (d' := 7) (by decide +kernel) ml_X6_69 cv_X8_isWord rfl (by decide) rfl ob_82 rfl (by decide) (Nat.le_of_ble_eq_true rfl) (t_X8_isWord (by decide) hc_8) ?_
        refine Fr_if_eq (off := 9) 70 (by decide +kernel) (by decide) (fun hc => ?_) (fun hc => ?_)
        · have h := iT hc h
          refine Fr_aload_n (q := 0) (i := 0) 0 (by decide +kernel) rfl rfl ?_
          refine gf_X6_22 rfl (by decide +kernel) ob_83 ?_
          refine Fr_ldcS (idx := 93) 11 (by decide +kernel) (by decide) rfl rfl ?_
          obtain ⟨r_12, M_10, hc_11, h⟩ := bi_elim h
          refine Fr_cVb (ν := m_X8_isWord) (As := [.ref (400 + 11)]) (st := []) (rc := 82) (ci := 8) (d' := 7) (by decide +kernel) ml_X6_69 cv_X8_isWord rfl (by decide) rfl ob_82 rfl (by decide) (Nat.le_of_ble_eq_true rfl) (t_X8_isWord (by decide) hc_11) ?_
          refine Fr_if_eq (off := 9) 88 (by decide +kernel) (by decide) (fun hc => ?_) (fun hc => ?_)
          · have h := iT hc h
            refine Fr_aload_n (q := 0) (i := 0) 0 (by decide +kernel) rfl rfl ?_
            refine gf_X6_22 rfl (by decide +kernel) ob_83 ?_
            refine Fr_ldcS (idx := 98) 16 (by decide +kernel) (by decide) rfl rfl ?_
            obtain ⟨r_15, M_13, hc_14, h⟩ := bi_elim h
            refine Fr_cVb (ν := m_X8_isWord) (As := [.ref (400 + 16)]) (st := []) (rc := 82) (ci := 8) (d' := 7) (by decide +kernel) ml_X6_69 cv_X8_isWord rfl (by decide) rfl ob_82 rfl (by decide) (Nat.le_of_ble_eq_true rfl) (t_X8_isWord (by decide) hc_14) ?_
            refine Fr_if_eq (off := 9) 106 (by decide +kernel) (by decide) (fun hc => ?_) (fun hc => ?_)
            · have h := iT hc h
              refine Fr_aload_n (q := 0) (i := 0) 0 (by decide +kernel) rfl rfl ?_
              refine gf_X6_22 rfl (by decide +kernel) ob_83 ?_
              refine Fr_ldcS (idx := 103) 18 (by decide +kernel) (by decide) rfl rfl ?_
              obtain ⟨r_18, M_16, hc_17, h⟩ := bi_elim h
              refine Fr_cVb (ν := m_X8_isWord) (As := [.ref (400 + 18)]) (st := []) (rc := 82) (ci := 8) (d' := 7) (by decide +kernel) ml_X6_69 cv_X8_isWord rfl (by decide) rfl ob_82 rfl (by decide) (Nat.le_of_ble_eq_true rfl) (t_X8_isWord (by decide) hc_17) ?_
              refine Fr_if_eq (off := 11) 126 (by decide +kernel) (by decide) (fun hc => ?_) (fun hc => ?_)
              · have h := iT hc h
                refine Fr_aload_n (q := 0) (i := 0) 0 (by decide +kernel) rfl rfl ?_
                refine gf_X6_22 rfl (by decide +kernel) ob_83 ?_
                refine Fr_ldcS (idx := 109) 19 (by decide +kernel) (by decide) rfl rfl ?_
                obtain ⟨r_21, M_19, hc_20, h⟩ := bi_elim h
                refine Fr_cVb (ν := m_X8_isWord) (As := [.ref (400 + 19)]) (st := []) (rc := 82) (ci := 8) (d' := 7) (by decide +kernel) ml_X6_69 cv_X8_isWord rfl (by decide) rfl ob_82 rfl (by decide) (Nat.le_of_ble_eq_true rfl) (t_X8_isWord (by decide) hc_20) ?_
                refine Fr_if_eq (off := 12) 147 (by decide +kernel) (by decide) (fun hc => ?_) (fun hc => ?_)
                · have h := iT hc h
                  refine Fr_aload_n (q := 0) (i := 0) 0 (by decide +kernel) rfl rfl ?_
                  refine gf_X6_22 rfl (by decide +kernel) ob_83 ?_
                  refine Fr_ldcS (idx := 111) 20 (by decide +kernel) (by decide) rfl rfl ?_
                  obtain ⟨r_24, M_22, hc_23, h⟩ := bi_elim h
                  refine Fr_cVb (ν := m_X8_isWord) (As := [.ref (400 + 20)]) (st := []) (rc := 82) (ci := 8) (d' := 7) (by decide +kernel) ml_X6_69 cv_X8_isWord rfl (by decide) rfl ob_82 rfl (by decide) (Nat.le_of_ble_eq_true rfl) (t_X8_isWord (by decide) hc_23) ?_
                  refine Fr_if_eq (off := 12) 168 (by decide +kernel) (by decide) (fun hc => ?_) (fun hc => ?_)
                  · have h := iT hc h
                    refine Fr_aload_n (q := 0) (i := 0) 0 (by decide +kernel) rfl rfl ?_
                    refine gf_X6_22 rfl (by decide +kernel) ob_83 ?_
                    refine Fr_iconst (i := 2) (v := 2) (by decide +kernel) (by decide) ?_
                    obtain ⟨r_27, M_25, hc_26, h⟩ := bi_elim h
                    refine Fr_cVb (ν := m_X8_refuse) (As := [.int 2]) (st := []) (rc := 82) (ci := 8) (d' := 0) (by decide +kernel) ml_X6_79 cv_X8_refuse rfl (by decide) rfl ob_82 rfl (by decide) (Nat.le_of_ble_eq_true rfl) (t_X8_refuse hc_26) ?_
                    obtain rfl := Option.some.inj h
                    exact Fr_zret (by decide +kernel) rfl (nz_b r_27) ⟨rfl, rfl⟩
                  · have h := iF hc h
                    refine Fr_aload_n (q := 0) (i := 0) 0 (by decide +kernel) rfl rfl ?_
                    refine Fr_iconst (i := 2) (v := 2) (by decide +kernel) (by decide) ?_
                    refine Fr_iconst (i := 1) (v := 1) (by decide +kernel) (by decide) ?_
                    refine Fr_bipush (i := 99) (v := 99) (by decide +kernel) (by decide) ?_
                    obtain ⟨r_30, M_28, hc_29, h⟩ := bi_elim h
                    refine Fr_cVb (ν := m_X6_readSetting) (As := [.int 2, .int 1, .int 99]) (st := []) (rc := 83) (ci := 6) (d' := 2) (by decide +kernel) ml_X6_105 cv_X6_readSetting rfl (by decide) rfl ob_83 rfl (by decide) (Nat.le_of_ble_eq_true rfl) (t_X6_readSetting hc_29) ?_
                    obtain rfl := Option.some.inj h
                    exact Fr_zret (by decide +kernel) rfl (nz_b r_30) ⟨rfl, rfl⟩
                · have h := iF hc h
                  refine Fr_aload_n (q := 0) (i := 0) 0 (by decide +kernel) rfl rfl ?_
                  refine Fr_iconst (i := 1) (v := 1) (by decide +kernel) (by decide) ?_
                  refine Fr_iconst (i := 0) (v := 0) (by decide +kernel) (by decide) ?_
                  refine Fr_bipush (i := 9) (v := 9) (by decide +kernel) (by decide) ?_
                  obtain ⟨r_33, M_31, hc_32, h⟩ := bi_elim h
                  refine Fr_cVb (ν := m_X6_readSetting) (As := [.int 1, .int 0, .int 9]) (st := []) (rc := 83) (ci := 6) (d' := 2) (by decide +kernel) ml_X6_105 cv_X6_readSetting rfl (by decide) rfl ob_83 rfl (by decide) (Nat.le_of_ble_eq_true rfl) (t_X6_readSetting hc_32) ?_
                  obtain rfl := Option.some.inj h
                  exact Fr_zret (by decide +kernel) rfl (nz_b r_33) ⟨rfl, rfl⟩
              · have h := iF hc h
                refine Fr_aload_n (q := 0) (i := 0) 0 (by decide +kernel) rfl rfl ?_
                refine Fr_iconst (i := 0) (v := 0) (by decide +kernel) (by decide) ?_
                refine Fr_iconst (i := 0) (v := 0) (by decide +kernel) (by decide) ?_
                refine Fr_iconst (i := 4) (v := 4) (by decide +kernel) (by decide) ?_
                obtain ⟨r_36, M_34, hc_35, h⟩ := bi_elim h
                refine Fr_cVb (ν := m_X6_readSetting) (As := [.int 0, .int 0, .int 4]) (st := []) (rc := 83) (ci := 6) (d' := 2) (by decide +kernel) ml_X6_105 cv_X6_readSetting rfl (by decide) rfl ob_83 rfl (by decide) (Nat.le_of_ble_eq_true rfl) (t_X6_readSetting hc_35) ?_
                obtain rfl := Option.some.inj h
                exact Fr_zret (by decide +kernel) rfl (nz_b r_36) ⟨rfl, rfl⟩
            · have h := iF hc h
              refine Fr_aload_n (q := 0) (i := 0) 0 (by decide +kernel) rfl rfl ?_
              refine Fr_aload_n (q := 1) (i := 1) 1 (by decide +kernel) rfl rfl ?_
              obtain ⟨r_39, M_37, hc_38, h⟩ := bi_elim h
              refine Fr_cVb (ν := m_X6_readShip) (As := [.ref p1]) (st := []) (rc := 83) (ci := 6) (d' := 9) (by decide +kernel) ml_X6_100 cv_X6_readShip rfl (by decide) rfl ob_83 rfl (by decide) (Nat.le_of_ble_eq_true rfl) (t_X6_readShip hp1 hc_38) ?_
              obtain rfl := Option.some.inj h
              exact Fr_zret (by decide +kernel) rfl (nz_b r_39) ⟨rfl, rfl⟩
          · have h := iF hc h
            refine Fr_aload_n (q := 0) (i := 0) 0 (by decide +kernel) rfl rfl ?_
            refine Fr_aload_n (q := 1) (i := 1) 1 (by decide +kernel) rfl rfl ?_
            obtain ⟨r_42, M_40, hc_41, h⟩ := bi_elim h
            refine Fr_cVb (ν := m_X6_readTrade) (As := [.ref p1]) (st := []) (rc := 83) (ci := 6) (d' := 9) (by decide +kernel) ml_X6_95 cv_X6_readTrade rfl (by decide) rfl ob_83 rfl (by decide) (Nat.le_of_ble_eq_true rfl) (t_X6_readTrade hp1 hc_41) ?_
            obtain rfl := Option.some.inj h
            exact Fr_zret (by decide +kernel) rfl (nz_b r_42) ⟨rfl, rfl⟩
        · have h := iF hc h
          refine Fr_aload_n (q := 0) (i := 0) 0 (by decide +kernel) rfl rfl ?_
          refine Fr_aload_n (q := 1) (i := 1) 1 (by decide +kernel) rfl rfl ?_
          obtain ⟨r_45, M_43, hc_44, h⟩ := bi_elim h
          refine Fr_cVb (ν := m_X6_readHolder) (As := [.ref p1]) (st := []) (rc := 83) (ci := 6) (d' := 9) (by decide +kernel) ml_X6_90 cv_X6_readHolder rfl (by decide) rfl ob_83 rfl (by decide) (Nat.le_of_ble_eq_true rfl) (t_X6_readHolder hp1 hc_44) ?_
          obtain rfl := Option.some.inj h
          exact Fr_zret (by decide +kernel) rfl (nz_b r_45) ⟨rfl, rfl⟩
      · have h := iF hc h
        refine Fr_aload_n (q := 0) (i := 0) 0 (by decide +kernel) rfl rfl ?_
        refine Fr_aload_n (q := 1) (i := 1) 1 (by decide +kernel) rfl rfl ?_
        obtain ⟨r_48, M_46, hc_47, h⟩ := bi_elim h
        refine Fr_cVb (ν := m_X6_readGate) (As := [.ref p1]) (st := []) (rc := 83) (ci := 6) (d' := 9) (by decide +kernel) ml_X6_85 cv_X6_readGate rfl (by decide) rfl ob_83 rfl (by decide) (Nat.le_of_ble_eq_true rfl) (t_X6_readGate hp1 hc_47) ?_
        obtain rfl := Option.some.inj h
        exact Fr_zret (by decide +kernel) rfl (nz_b r_48) ⟨rfl, rfl⟩
    · have h := iT hc h
      refine Fr_aload_n (q := 0) (i := 0) 0 (by decide +kernel) rfl rfl ?_
      refine gf_X6_22 rfl (by decide +kernel) ob_83 ?_
      refine Fr_iconst (i := 2) (v := 2) (by decide +kernel) (by decide) ?_
      obtain ⟨r_51, M_49, hc_50, h⟩ := bi_elim h
      refine Fr_cVb (ν := m_X8_refuse) (As := [.int 2]) (st := []) (rc := 82) (ci := 8) (d' := 0) (by decide +kernel) ml_X6_79 cv_X8_refuse rfl (by decide) rfl ob_82 rfl (by decide) (Nat.le_of_ble_eq_true rfl) (t_X8_refuse hc_50) ?_
      obtain rfl := Option.some.inj h
      exact Fr_zret (by decide +kernel) rfl (nz_b r_51) ⟨rfl, rfl⟩
  · have h := iF hc h
    refine Fr_aload_n (q := 0) (i := 0) 0 (by decide +kernel) rfl rfl ?_
    refine Fr_aload_n (q := 1) (i := 1) 1 (by decide +kernel) rfl rfl ?_
    obtain ⟨r_54, M_52, hc_53, h⟩ := bi_elim h
    refine Fr_cVb (ν := m_X6_readSize) (As := [.ref p1]) (st := []) (rc := 83) (ci := 6) (d' := 9) (by decide +kernel) ml_X6_73 cv_X6_readSize rfl (by decide) rfl ob_83 rfl (by decide) (Nat.le_of_ble_eq_true rfl) (t_X6_readSize hp1 hc_53) ?_
    obtain rfl := Option.some.inj h
    exact Fr_zret (by decide +kernel) rfl (nz_b r_54) ⟨rfl, rfl⟩
set_option maxRecDepth 20000 in
theorem t_X6_fill_b126 {N : Nat} {p1 : Nat} (hp1 : Ob 0 111 p1 5) {q : Bool × Mem} {s0 : Int32} {M : Mem} (h : f_X6_fill_b126 N p1 s0 M = some q) : Fr 0 111 11 m_X6_fill 126 [(0, .ref 83)] [.int s0, .ref p1] M (QB q) := by
  unfold f_X6_fill_b126 at h
  refine pf_X6_61 rfl (by decide +kernel) hp1 ?_
  obtain ⟨M_16, eM_16, h⟩ := bM_elim h
  refine Fr_mem eM_16 ?_
  refine Fr_aload_n (q := 0) (i := 0) 0 (by decide +kernel) rfl rfl ?_
  refine gf_X6_22 rfl (by decide +kernel) ob_83 ?_
  refine gf_X6_64 rfl (by decide +kernel) ob_82 ?_
  refine Fr_if_ne (off := 7) 143 (by decide +kernel) (by decide) (fun hc => ?_) (fun hc => ?_)
  · have h := iF hc h
    refine Fr_iconst (i := 0) (v := 0) (by decide +kernel) (by decide) ?_
    obtain rfl := Option.some.inj h
    exact Fr_zret (by decide +kernel) rfl (by decide) ⟨rfl, rfl⟩
  · have h := iT hc h
    refine Fr_iconst (i := 1) (v := 1) (by decide +kernel) (by decide) ?_
    refine Fr_goto (off := 4) 144 (by decide +kernel) (by decide) ?_
    obtain rfl := Option.some.inj h
    exact Fr_zret (by decide +kernel) rfl (by decide) ⟨rfl, rfl⟩
set_option maxRecDepth 20000 in
theorem t_X6_fill_b101 {N : Nat} {p1 : Nat} (hp1 : Ob 0 111 p1 5) {q : Bool × Mem} {s0 : Int32} {M : Mem} (h : f_X6_fill_b101 N p1 s0 M = some q) : Fr 0 111 11 m_X6_fill 101 [(0, .ref 83), (1, .ref p1)] [.int s0, .ref p1] M (QB q) := by
  unfold f_X6_fill_b101 at h
  refine pf_X6_58 rfl (by decide +kernel) hp1 ?_
  obtain ⟨M_13, eM_13, h⟩ := bM_elim h
  refine Fr_mem eM_13 ?_
  refine Fr_aload_n (q := 1) (i := 1) 1 (by decide +kernel) rfl rfl ?_
  refine Fr_aload_n (q := 0) (i := 0) 0 (by decide +kernel) rfl rfl ?_
  refine gf_X6_15 rfl (by decide +kernel) ob_83 ?_
  refine Fr_iconst (i := 2) (v := 2) (by decide +kernel) (by decide) ?_
  obtain ⟨hi_14, h⟩ := ck_elim h
  refine Fr_iald (by decide +kernel) ob_85 (vp_of ln_85 hi_14) ?_
  refine Fr_iconst (i := (-1)) (v := (-1)) (by decide +kernel) (by decide) ?_
  refine Fr_icmp_ne (off := 8) 120 (by decide +kernel) (by decide) (fun hc => ?_) (fun hc => ?_)
  · have h := iF hc h
    refine Fr_aload_n (q := 0) (i := 0) 0 (by decide +kernel) rfl rfl ?_
    refine gf_X6_15 rfl (by decide +kernel) ob_83 ?_
    refine Fr_iconst (i := 2) (v := 2) (by decide +kernel) (by decide) ?_
    obtain ⟨hi_15, h⟩ := ck_elim h
    refine Fr_iald (by decide +kernel) ob_85 (vp_of ln_85 hi_15) ?_
    refine Fr_loc [0] rfl ?_
    exact t_X6_fill_b126 hp1 h
  · have h := iT hc h
    refine Fr_bipush (i := 10) (v := 10) (by decide +kernel) (by decide) ?_
    refine Fr_goto (off := 9) 126 (by decide +kernel) (by decide) ?_
    refine Fr_loc [0] rfl ?_
    exact t_X6_fill_b126 hp1 h
set_option maxRecDepth 20000 in
theorem t_X6_fill_b77 {N : Nat} {p1 : Nat} (hp1 : Ob 0 111 p1 5) {q : Bool × Mem} {s0 : Int32} {M : Mem} (h : f_X6_fill_b77 N p1 s0 M = some q) : Fr 0 111 11 m_X6_fill 77 [(0, .ref 83), (1, .ref p1)] [.int s0, .ref p1] M (QB q) := by
  unfold f_X6_fill_b77 at h
  refine pf_X6_55 rfl (by decide +kernel) hp1 ?_
  obtain ⟨M_10, eM_10, h⟩ := bM_elim h
  refine Fr_mem eM_10 ?_
  refine Fr_aload_n (q := 1) (i := 1) 1 (by decide +kernel) rfl rfl ?_
  refine Fr_aload_n (q := 0) (i := 0) 0 (by decide +kernel) rfl rfl ?_
  refine gf_X6_15 rfl (by decide +kernel) ob_83 ?_
  refine Fr_iconst (i := 1) (v := 1) (by decide +kernel) (by decide) ?_
  obtain ⟨hi_11, h⟩ := ck_elim h
  refine Fr_iald (by decide +kernel) ob_85 (vp_of ln_85 hi_11) ?_
  refine Fr_iconst (i := (-1)) (v := (-1)) (by decide +kernel) (by decide) ?_
  refine Fr_icmp_ne (off := 7) 95 (by decide +kernel) (by decide) (fun hc => ?_) (fun hc => ?_)
  · have h := iF hc h
    refine Fr_aload_n (q := 0) (i := 0) 0 (by decide +kernel) rfl rfl ?_
    refine gf_X6_15 rfl (by decide +kernel) ob_83 ?_
    refine Fr_iconst (i := 1) (v := 1) (by decide +kernel) (by decide) ?_
    obtain ⟨hi_12, h⟩ := ck_elim h
    refine Fr_iald (by decide +kernel) ob_85 (vp_of ln_85 hi_12) ?_
    exact t_X6_fill_b101 hp1 h
  · have h := iT hc h
    refine Fr_iconst (i := 1) (v := 1) (by decide +kernel) (by decide) ?_
    refine Fr_goto (off := 9) 101 (by decide +kernel) (by decide) ?_
    exact t_X6_fill_b101 hp1 h
set_option maxRecDepth 20000 in
theorem t_X6_fill_b56 {N : Nat} {p1 : Nat} (hp1 : Ob 0 111 p1 5) {q : Bool × Mem} {M : Mem} (h : f_X6_fill_b56 N p1 M = some q) : Fr 0 111 11 m_X6_fill 56 [(0, .ref 83), (1, .ref p1)] [] M (QB q) := by
  unfold f_X6_fill_b56 at h
  refine Fr_aload_n (q := 1) (i := 1) 1 (by decide +kernel) rfl rfl ?_
  refine Fr_aload_n (q := 0) (i := 0) 0 (by decide +kernel) rfl rfl ?_
  refine gf_X6_15 rfl (by decide +kernel) ob_83 ?_
  refine Fr_iconst (i := 0) (v := 0) (by decide +kernel) (by decide) ?_
  obtain ⟨hi_8, h⟩ := ck_elim h
  refine Fr_iald (by decide +kernel) ob_85 (vp_of ln_85 hi_8) ?_
  refine Fr_iconst (i := (-1)) (v := (-1)) (by decide +kernel) (by decide) ?_
  refine Fr_icmp_ne (off := 7) 71 (by decide +kernel) (by decide) (fun hc => ?_) (fun hc => ?_)
  · have h := iF hc h
    refine Fr_aload_n (q := 0) (i := 0) 0 (by decide +kernel) rfl rfl ?_
    refine gf_X6_15 rfl (by decide +kernel) ob_83 ?_
    refine Fr_iconst (i := 0) (v := 0) (by decide +kernel) (by decide) ?_
    obtain ⟨hi_9, h⟩ := ck_elim h
    refine Fr_iald (by decide +kernel) ob_85 (vp_of ln_85 hi_9) ?_
    exact t_X6_fill_b77 hp1 h
  · have h := iT hc h
    refine Fr_iconst (i := 0) (v := 0) (by decide +kernel) (by decide) ?_
    refine Fr_goto (off := 9) 77 (by decide +kernel) (by decide) ?_
    exact t_X6_fill_b77 hp1 h
set_option maxRecDepth 20000 in
theorem t_X6_fill_h27 {N : Nat} {p1 : Nat} (hp1 : Ob 0 111 p1 5) {q : Bool × Mem} {k27 : Int32 → Mem → Option (Bool × Mem)} (hk27 : ∀ (a : Int32) (M : Mem), k27 a M = some q → Fr 0 111 11 m_X6_fill 27 [(0, .ref 83), (1, .ref p1), (3, .int a)] [] M (QB q)) {v3 : Int32} {M : Mem} (h : f_X6_fill_h27 N p1 k27 v3 M = some q) : Fr 0 111 11 m_X6_fill 27 [(0, .ref 83), (1, .ref p1), (3, .int v3)] [] M (QB q) := by
  unfold f_X6_fill_h27 at h
  refine Fr_iload_n (q := 3) (i := 3) 2 (by decide +kernel) rfl rfl ?_
  refine Fr_sipush (i := 900) (v := 900) (by decide +kernel) (by decide) ?_
  refine Fr_icmp_ge (off := 25) 56 (by decide +kernel) (by decide) (fun hc => ?_) (fun hc => ?_)
  · have h := iT hc h
    refine Fr_loc [0, 1] rfl ?_
    exact t_X6_fill_b56 hp1 h
  · have h := iF hc h
    refine Fr_aload_n (q := 0) (i := 0) 0 (by decide +kernel) rfl rfl ?_
    refine gf_X6_22 rfl (by decide +kernel) ob_83 ?_
    obtain ⟨r_19, M_17, hc_18, h⟩ := bi_elim h
    refine Fr_cVb (ν := m_X8_isGoingOn) (As := []) (st := []) (rc := 82) (ci := 8) (d' := 0) (by decide +kernel) ml_X6_47 cv_X8_isGoingOn rfl (by decide) rfl ob_82 rfl (by decide) (Nat.le_of_ble_eq_true rfl) (t_X8_isGoingOn hc_18) ?_
    refine Fr_if_eq (off := 15) 56 (by decide +kernel) (by decide) (fun hc => ?_) (fun hc => ?_)
    · have h := iT hc h
      refine Fr_loc [0, 1] rfl ?_
      exact t_X6_fill_b56 hp1 h
    · have h := iF hc h
      refine Fr_aload_n (q := 0) (i := 0) 0 (by decide +kernel) rfl rfl ?_
      refine Fr_aload_n (q := 1) (i := 1) 1 (by decide +kernel) rfl rfl ?_
      obtain ⟨r_22, M_20, hc_21, h⟩ := bi_elim h
      refine Fr_cVb (ν := m_X6_readPart) (As := [.ref p1]) (st := []) (rc := 83) (ci := 6) (d' := 10) (by decide +kernel) ml_X6_51 cv_X6_readPart rfl (by decide) rfl ob_83 rfl (by decide) (Nat.le_of_ble_eq_true rfl) (t_X6_readPart hp1 hc_21) ?_
      refine Fr_pop (by decide +kernel) rfl ?_
      refine Fr_iinc (i := 3) (j := 1) (v := (v3 + 1)) (lv' := [(3, .int (v3 + 1)), (0, .ref 83), (1, .ref p1)]) 2 (by decide +kernel) rfl rfl (by decide) rfl ?_
      refine Fr_goto (off := (-26)) 27 (by decide +kernel) (by decide) ?_
      refine Fr_loc [1, 2, 0] rfl ?_
      exact hk27 (v3 + 1) M_20 h
set_option maxRecDepth 20000 in
theorem t_X6_fill {N : Nat} {p1 : Nat} {x2 : Int32} (hp1 : Ob 0 111 p1 5) {M : Mem} {q : Bool × Mem} (h : f_X6_fill N p1 x2 M = some q) : Ev 0 111 11 m_X6_fill [.ref 83, .ref p1, .int x2] M (QB q) := by
  refine Ev_of_Fr (by decide +kernel) (Nat.le_of_ble_eq_true rfl) ?_
  show Fr 0 111 11 m_X6_fill 0 [(0, .ref 83), (1, .ref p1), (2, .int x2)] [] M (QB q)
  unfold f_X6_fill at h
  refine Fr_aload_n (q := 1) (i := 1) 1 (by decide +kernel) rfl rfl ?_
  obtain ⟨M_1, hc_2, h⟩ := bv_elim h
  refine Fr_cVv (ν := m_X5_clear) (As := []) (st := []) (rc := p1) (ci := 5) (d' := 1) (by decide +kernel) ml_X6_26 cv_X5_clear rfl (by decide) rfl hp1 rfl (by decide) (Nat.le_of_ble_eq_true rfl) (t_X5_clear hp1 hc_2) ?_
  refine Fr_aload_n (q := 0) (i := 0) 0 (by decide +kernel) rfl rfl ?_
  refine Fr_iconst (i := 0) (v := 0) (by decide +kernel) (by decide) ?_
  refine pf_X6_31 rfl (by decide +kernel) ob_83 ?_
  obtain ⟨M_3, eM_3, h⟩ := bM_elim h
  refine Fr_mem eM_3 ?_
  refine Fr_aload_n (q := 0) (i := 0) 0 (by decide +kernel) rfl rfl ?_
  refine gf_X6_15 rfl (by decide +kernel) ob_83 ?_
  refine Fr_iconst (i := (-1)) (v := (-1)) (by decide +kernel) (by decide) ?_
  obtain ⟨M_4, hc_5, h⟩ := bv_elim h
  refine Fr_cSv (ν := m_J7_fill_53178) (As := [.ref 85, .int (-1)]) (st := []) (d' := 0) (by decide +kernel) ml_X6_35 cs_J7_fill_53178 rfl (by decide) (Nat.le_of_ble_eq_true rfl) (t_J7_fill_53178 ob_85 hc_5) ?_
  refine Fr_aload_n (q := 0) (i := 0) 0 (by decide +kernel) rfl rfl ?_
  refine gf_X6_22 rfl (by decide +kernel) ob_83 ?_
  refine Fr_iload_n (q := 2) (i := 2) 2 (by decide +kernel) rfl rfl ?_
  obtain ⟨M_6, hc_7, h⟩ := bv_elim h
  refine Fr_cVv (ν := m_X8_begin) (As := [.int x2]) (st := []) (rc := 82) (ci := 8) (d' := 1) (by decide +kernel) ml_X6_41 cv_X8_begin rfl (by decide) rfl ob_82 rfl (by decide) (Nat.le_of_ble_eq_true rfl) (t_X8_begin hc_7) ?_
  refine Fr_iconst (i := 0) (v := 0) (by decide +kernel) (by decide) ?_
  refine Fr_istore_n (q := 3) (i := 3) (lv' := [(3, .int 0), (0, .ref 83), (1, .ref p1), (2, .int x2)]) (by decide +kernel) rfl (by decide) rfl ?_
  refine Fr_loc [1, 2, 0] rfl ?_
  exact lp_sound (body := fun k a m => f_X6_fill_h27 N p1 k a m) (P := fun a M => Fr 0 111 11 m_X6_fill 27 [(0, .ref 83), (1, .ref p1), (3, .int a)] [] M (QB q)) (fun k hk a m h => t_X6_fill_h27 hp1 hk h) N 0 M_6 h
set_option maxRecDepth 20000 in
theorem t_X7_priceOf_b39 {p1 : Nat} (hp1 : Ob 0 111 p1 5) {q : Int32 × Mem} {s0 : Int32} {s1 : Int32} {M : Mem} (h : f_X7_priceOf_b39 p1 s0 s1 M = some q) : Fr 0 111 2 m_X7_priceOf 39 [] [.int s0, .int s1] M (QI q) := by
  unfold f_X7_priceOf_b39 at h
  refine Fr_icmp_ne (off := 7) 46 (by decide +kernel) (by decide) (fun hc => ?_) (fun hc => ?_)
  · have h := iF hc h
    refine Fr_sipush (i := 1000) (v := 1000) (by decide +kernel) (by decide) ?_
    obtain rfl := Option.some.inj h
    exact Fr_iret (by decide +kernel) rfl ⟨rfl, rfl⟩
  · have h := iT hc h
    refine Fr_iconst (i := 1) (v := 1) (by decide +kernel) (by decide) ?_
    refine Fr_goto (off := 6) 49 (by decide +kernel) (by decide) ?_
    obtain rfl := Option.some.inj h
    exact Fr_iret (by decide +kernel) rfl ⟨rfl, rfl⟩
set_option maxRecDepth 20000 in
theorem t_X7_priceOf {p1 : Nat} {x2 : Int32} {x3 : Int32} (hp1 : Ob 0 111 p1 5) {M : Mem} {q : Int32 × Mem} (h : f_X7_priceOf p1 x2 x3 M = some q) : Ev 0 111 2 m_X7_priceOf [.ref 96, .ref p1, .int x2, .int x3] M (QI q) := by
  refine Ev_of_Fr (by decide +kernel) (Nat.le_of_ble_eq_true rfl) ?_
  show Fr 0 111 2 m_X7_priceOf 0 [(0, .ref 96), (1, .ref p1), (2, .int x2), (3, .int x3)] [] M (QI q)
  unfold f_X7_priceOf at h
  refine Fr_aload_n (q := 1) (i := 1) 1 (by decide +kernel) rfl rfl ?_
  refine Fr_aload_n (q := 1) (i := 1) 1 (by decide +kernel) rfl rfl ?_
  refine gf_X7_58 rfl (by decide +kernel) hp1 ?_
  refine Fr_iload_n (q := 2) (i := 2) 2 (by decide +kernel) rfl rfl ?_
  obtain ⟨r_3, M_1, hc_2, h⟩ := bi_elim h
  refine Fr_cVb (ν := m_X5_isFoggy) (As := [.ref (p1 + 6), .int x2]) (st := []) (rc := p1) (ci := 5) (d' := 1) (by decide +kernel) ml_X7_61 cv_X5_isFoggy rfl (by decide) rfl hp1 rfl (by decide) (Nat.le_of_ble_eq_true rfl) (t_X5_isFoggy hp1 (o5_6 hp1) hc_2) ?_
  refine Fr_istore (i := 4) (lv' := [(4, .int (b2i r_3)), (0, .ref 96), (1, .ref p1), (2, .int x2), (3, .int x3)]) (by decide +kernel) (by decide) rfl ?_
  refine Fr_iload_n (q := 3) (i := 3) 4 (by decide +kernel) rfl rfl ?_
  refine Fr_iconst (i := 2) (v := 2) (by decide +kernel) (by decide) ?_
  refine Fr_icmp_ne (off := 14) 27 (by decide +kernel) (by decide) (fun hc => ?_) (fun hc => ?_)
  · have h := iF hc h
    refine Fr_iload (i := 4) 0 (by decide +kernel) rfl ?_
    refine Fr_iload_n (q := 3) (i := 3) 4 (by decide +kernel) rfl rfl ?_
    refine Fr_iconst (i := 1) (v := 1) (by decide +kernel) (by decide) ?_
    refine Fr_icmp_ne (off := 7) 38 (by decide +kernel) (by decide) (fun hc => ?_) (fun hc => ?_)
    · have h := iF hc h
      refine Fr_iconst (i := 0) (v := 0) (by decide +kernel) (by decide) ?_
      refine Fr_loc [] rfl ?_
      exact t_X7_priceOf_b39 hp1 h
    · have h := iT hc h
      refine Fr_iconst (i := 1) (v := 1) (by decide +kernel) (by decide) ?_
      refine Fr_goto (off := 4) 39 (by decide +kernel) (by decide) ?_
      refine Fr_loc [] rfl ?_
      exact t_X7_priceOf_b39 hp1 h
  · have h := iT hc h
    refine Fr_iload (i := 4) 0 (by decide +kernel) rfl ?_
    refine Fr_if_eq (off := 7) 25 (by decide +kernel) (by decide) (fun hc => ?_) (fun hc => ?_)
    · have h := iT hc h
      refine Fr_iconst (i := 1) (v := 1) (by decide +kernel) (by decide) ?_
      obtain rfl := Option.some.inj h
      exact Fr_iret (by decide +kernel) rfl ⟨rfl, rfl⟩
    · have h := iF hc h
      refine Fr_iconst (i := 3) (v := 3) (by decide +kernel) (by decide) ?_
      refine Fr_goto (off := 4) 26 (by decide +kernel) (by decide) ?_
      obtain rfl := Option.some.inj h
      exact Fr_iret (by decide +kernel) rfl ⟨rfl, rfl⟩
set_option maxRecDepth 20000 in
theorem t_X7_shortenAll_b92 {N : Nat} {p1 : Nat} (hp1 : Ob 0 111 p1 5) {q : Bool × Mem} {k11 : Int32 × Int32 × Int32 × Int32 → Mem → Option (Bool × Mem)} (hk11 : ∀ (a : Int32 × Int32 × Int32 × Int32) (M : Mem), k11 a M = some q → Fr 0 111 3 m_X7_shortenAll 11 [(0, .ref 96), (1, .ref p1), (2, .int a.1), (3, .int a.2.1), (4, .int a.2.2.1), (5, .int a.2.2.2)] [] M (QB q)) {k30 : Int32 × Int32 × Int32 × Int32 × Int32 × Int32 → Mem → Option (Bool × Mem)} (hk30 : ∀ (a : Int32 × Int32 × Int32 × Int32 × Int32 × Int32) (M : Mem), k30 a M = some q → Fr 0 111 3 m_X7_shortenAll 30 [(0, .ref 96), (1, .ref p1), (2, .int a.1), (3, .int a.2.1), (4, .int a.2.2.1), (5, .int a.2.2.2.1), (6, .int a.2.2.2.2.1), (7, .int a.2.2.2.2.2)] [] M (QB q)) {v2 : Int32} {v3 : Int32} {v4 : Int32} {v5 : Int32} {v6 : Int32} {v7 : Int32} {M : Mem} (h : f_X7_shortenAll_b92 N p1 k11 k30 v2 v3 v4 v5 v6 v7 M = some q) : Fr 0 111 3 m_X7_shortenAll 92 [(0, .ref 96), (1, .ref p1), (2, .int v2), (3, .int v3), (4, .int v4), (5, .int v5), (6, .int v6), (7, .int v7)] [] M (QB q) := by
  unfold f_X7_shortenAll_b92 at h
  refine Fr_iinc (i := 7) (j := 1) (v := (v7 + 1)) (lv' := [(7, .int (v7 + 1)), (0, .ref 96), (1, .ref p1), (2, .int v2), (3, .int v3), (4, .int v4), (5, .int v5), (6, .int v6)]) 7 (by decide +kernel) rfl rfl (by decide) rfl ?_
  refine Fr_goto (off := (-65)) 30 (by decide +kernel) (by decide) ?_
  refine Fr_loc [1, 2, 3, 4, 5, 6, 7, 0] rfl ?_
  exact hk30 (v2, v3, v4, v5, v6, (v7 + 1)) M h
set_option maxRecDepth 20000 in
theorem t_X7_shortenAll_h30 {N : Nat} {p1 : Nat} (hp1 : Ob 0 111 p1 5) {q : Bool × Mem} {k11 : Int32 × Int32 × Int32 × Int32 → Mem → Option (Bool × Mem)} (hk11 : ∀ (a : Int32 × Int32 × Int32 × Int32) (M : Mem), k11 a M = some q → Fr 0 111 3 m_X7_shortenAll 11 [(0, .ref 96), (1, .ref p1), (2, .int a.1), (3, .int a.2.1), (4, .int a.2.2.1), (5, .int a.2.2.2)] [] M (QB q)) {k30 : Int32 × Int32 × Int32 × Int32 × Int32 × Int32 → Mem → Option (Bool × Mem)} (hk30 : ∀ (a : Int32 × Int32 × Int32 × Int32 × Int32 × Int32) (M : Mem), k30 a M = some q → Fr 0 111 3 m_X7_shortenAll 30 [(0, .ref 96), (1, .ref p1), (2, .int a.1), (3, .int a.2.1), (4, .int a.2.2.1), (5, .int a.2.2.2.1), (6, .int a.2.2.2.2.1), (7, .int a.2.2.2.2.2)] [] M (QB q)) {v2 : Int32} {v3 : Int32} {v4 : Int32} {v5 : Int32} {v6 : Int32} {v7 : Int32} {M : Mem} (h : f_X7_shortenAll_h30 N p1 k11 k30 v2 v3 v4 v5 v6 v7 M = some q) : Fr 0 111 3 m_X7_shortenAll 30 [(0, .ref 96), (1, .ref p1), (2, .int v2), (3, .int v3), (4, .int v4), (5, .int v5), (6, .int v6), (7, .int v7)] [] M (QB q) := by
  unfold f_X7_shortenAll_h30 at h
  refine Fr_iload (i := 7) 7 (by decide +kernel) rfl ?_
  refine Fr_iconst (i := 4) (v := 4) (by decide +kernel) (by decide) ?_
  refine Fr_icmp_gt (off := 65) 98 (by decide +kernel) (by decide) (fun hc => ?_) (fun hc => ?_)
  · have h := iT hc h
    refine Fr_iinc (i := 5) (j := 1) (v := (v5 + 1)) (lv' := [(5, .int (v5 + 1)), (0, .ref 96), (1, .ref p1), (2, .int v2), (3, .int v3), (4, .int v4), (6, .int v6), (7, .int v7)]) 5 (by decide +kernel) rfl rfl (by decide) rfl ?_
    refine Fr_goto (off := (-90)) 11 (by decide +kernel) (by decide) ?_
    refine Fr_loc [1, 2, 3, 4, 5, 0] rfl ?_
    exact hk11 (v2, v3, v4, (v5 + 1)) M h
  · have h := iF hc h
    refine Fr_aload_n (q := 1) (i := 1) 1 (by decide +kernel) rfl rfl ?_
    refine Fr_iload (i := 5) 5 (by decide +kernel) rfl ?_
    refine Fr_iload (i := 7) 7 (by decide +kernel) rfl ?_
    obtain ⟨r_10, M_8, hc_9, h⟩ := bi_elim h
    refine Fr_cVi (ν := m_X5_beside) (As := [.int v5, .int v7]) (st := []) (rc := p1) (ci := 5) (d' := 1) (by decide +kernel) ml_X7_54 cv_X5_beside rfl (by decide) rfl hp1 rfl (by decide) (Nat.le_of_ble_eq_true rfl) (t_X5_beside hp1 hc_9) ?_
    refine Fr_istore (i := 8) (lv' := [(8, .int r_10), (0, .ref 96), (1, .ref p1), (2, .int v2), (3, .int v3), (4, .int v4), (5, .int v5), (6, .int v6), (7, .int v7)]) (by decide +kernel) (by decide) rfl ?_
    refine Fr_iload (i := 8) 0 (by decide +kernel) rfl ?_
    refine Fr_iconst (i := (-1)) (v := (-1)) (by decide +kernel) (by decide) ?_
    refine Fr_icmp_eq (off := 43) 92 (by decide +kernel) (by decide) (fun hc => ?_) (fun hc => ?_)
    · have h := iT hc h
      refine Fr_loc [1, 2, 3, 4, 5, 6, 7, 8] rfl ?_
      exact t_X7_shortenAll_b92 hp1 hk11 hk30 h
    · have h := iF hc h
      refine Fr_aload_n (q := 0) (i := 0) 1 (by decide +kernel) rfl rfl ?_
      refine gf_X7_9 rfl (by decide +kernel) ob_96 ?_
      refine Fr_iload (i := 8) 0 (by decide +kernel) rfl ?_
      obtain ⟨hi_11, h⟩ := ck_elim h
      refine Fr_iald (by decide +kernel) ob_97 (vp_of ln_97 hi_11) ?_
      refine Fr_iload (i := 6) 7 (by decide +kernel) rfl ?_
      refine Fr_iadd (by decide +kernel) ?_
      refine Fr_aload_n (q := 0) (i := 0) 1 (by decide +kernel) rfl rfl ?_
      refine gf_X7_9 rfl (by decide +kernel) ob_96 ?_
      refine Fr_iload (i := 5) 6 (by decide +kernel) rfl ?_
      obtain ⟨hi_12, h⟩ := ck_elim h
      refine Fr_iald (by decide +kernel) ob_97 (vp_of ln_97 hi_12) ?_
      refine Fr_icmp_ge (off := 23) 92 (by decide +kernel) (by decide) (fun hc => ?_) (fun hc => ?_)
      · have h := iT hc h
        refine Fr_loc [1, 2, 3, 4, 5, 6, 7, 8] rfl ?_
        exact t_X7_shortenAll_b92 hp1 hk11 hk30 h
      · have h := iF hc h
        refine Fr_aload_n (q := 0) (i := 0) 1 (by decide +kernel) rfl rfl ?_
        refine gf_X7_9 rfl (by decide +kernel) ob_96 ?_
        refine Fr_iload (i := 5) 6 (by decide +kernel) rfl ?_
        refine Fr_aload_n (q := 0) (i := 0) 1 (by decide +kernel) rfl rfl ?_
        refine gf_X7_9 rfl (by decide +kernel) ob_96 ?_
        refine Fr_iload (i := 8) 0 (by decide +kernel) rfl ?_
        obtain ⟨hi_13, h⟩ := ck_elim h
        refine Fr_iald (by decide +kernel) ob_97 (vp_of ln_97 hi_13) ?_
        refine Fr_iload (i := 6) 7 (by decide +kernel) rfl ?_
        refine Fr_iadd (by decide +kernel) ?_
        obtain ⟨hi_14, h⟩ := ck_elim h
        refine Fr_iast (by decide +kernel) ob_97 (vp_of ln_97 hi_14) ?_
        obtain ⟨M_15, eM_15, h⟩ := bM_elim h
        refine Fr_mem eM_15 ?_
        refine Fr_iconst (i := 1) (v := 1) (by decide +kernel) (by decide) ?_
        refine Fr_istore (i := 4) (lv' := [(4, .int 1), (8, .int r_10), (0, .ref 96), (1, .ref p1), (2, .int v2), (3, .int v3), (5, .int v5), (6, .int v6), (7, .int v7)]) (by decide +kernel) (by decide) rfl ?_
        refine Fr_loc [2, 3, 4, 5, 0, 6, 7, 8] rfl ?_
        exact t_X7_shortenAll_b92 hp1 hk11 hk30 h
set_option maxRecDepth 20000 in
theorem t_X7_shortenAll_h11 {N : Nat} {p1 : Nat} (hp1 : Ob 0 111 p1 5) {q : Bool × Mem} {k11 : Int32 × Int32 × Int32 × Int32 → Mem → Option (Bool × Mem)} (hk11 : ∀ (a : Int32 × Int32 × Int32 × Int32) (M : Mem), k11 a M = some q → Fr 0 111 3 m_X7_shortenAll 11 [(0, .ref 96), (1, .ref p1), (2, .int a.1), (3, .int a.2.1), (4, .int a.2.2.1), (5, .int a.2.2.2)] [] M (QB q)) {v2 : Int32} {v3 : Int32} {v4 : Int32} {v5 : Int32} {M : Mem} (h : f_X7_shortenAll_h11 N p1 k11 v2 v3 v4 v5 M = some q) : Fr 0 111 3 m_X7_shortenAll 11 [(0, .ref 96), (1, .ref p1), (2, .int v2), (3, .int v3), (4, .int v4), (5, .int v5)] [] M (QB q) := by
  unfold f_X7_shortenAll_h11 at h
  refine Fr_iload (i := 5) 5 (by decide +kernel) rfl ?_
  refine Fr_iload_n (q := 3) (i := 3) 3 (by decide +kernel) rfl rfl ?_
  refine Fr_icmp_ge (off := 90) 104 (by decide +kernel) (by decide) (fun hc => ?_) (fun hc => ?_)
  · have h := iT hc h
    refine Fr_iload (i := 4) 4 (by decide +kernel) rfl ?_
    obtain ⟨b_4, eb_4, h⟩ := zb_elim h
    refine Fr_topI eb_4.symm ?_
    obtain rfl := Option.some.inj h
    exact Fr_zret (by decide +kernel) rfl (nz_b b_4) ⟨rfl, rfl⟩
  · have h := iF hc h
    refine Fr_aload_n (q := 0) (i := 0) 0 (by decide +kernel) rfl rfl ?_
    refine Fr_aload_n (q := 1) (i := 1) 1 (by decide +kernel) rfl rfl ?_
    refine Fr_iload (i := 5) 5 (by decide +kernel) rfl ?_
    refine Fr_iload_n (q := 2) (i := 2) 2 (by decide +kernel) rfl rfl ?_
    obtain ⟨r_7, M_5, hc_6, h⟩ := bi_elim h
    refine Fr_cVi (ν := m_X7_priceOf) (As := [.ref p1, .int v5, .int v2]) (st := []) (rc := 96) (ci := 7) (d' := 2) (by decide +kernel) ml_X7_50 cv_X7_priceOf rfl (by decide) rfl ob_96 rfl (by decide) (Nat.le_of_ble_eq_true rfl) (t_X7_priceOf hp1 hc_6) ?_
    refine Fr_istore (i := 6) (lv' := [(6, .int r_7), (0, .ref 96), (1, .ref p1), (2, .int v2), (3, .int v3), (4, .int v4), (5, .int v5)]) (by decide +kernel) (by decide) rfl ?_
    refine Fr_iconst (i := 1) (v := 1) (by decide +kernel) (by decide) ?_
    refine Fr_istore (i := 7) (lv' := [(7, .int 1), (6, .int r_7), (0, .ref 96), (1, .ref p1), (2, .int v2), (3, .int v3), (4, .int v4), (5, .int v5)]) (by decide +kernel) (by decide) rfl ?_
    refine Fr_loc [2, 3, 4, 5, 6, 7, 1, 0] rfl ?_
    exact lp_sound (body := fun k a m => f_X7_shortenAll_h30 N p1 k11 k a.1 a.2.1 a.2.2.1 a.2.2.2.1 a.2.2.2.2.1 a.2.2.2.2.2 m) (P := fun a M => Fr 0 111 3 m_X7_shortenAll 30 [(0, .ref 96), (1, .ref p1), (2, .int a.1), (3, .int a.2.1), (4, .int a.2.2.1), (5, .int a.2.2.2.1), (6, .int a.2.2.2.2.1), (7, .int a.2.2.2.2.2)] [] M (QB q)) (fun k hk a m h => t_X7_shortenAll_h30 hp1 hk11 hk h) N (v2, v3, v4, v5, r_7, 1) M_5 h
set_option maxRecDepth 20000 in
theorem t_X7_shortenAll {N : Nat} {p1 : Nat} {x2 : Int32} (hp1 : Ob 0 111 p1 5) {M : Mem} {q : Bool × Mem} (h : f_X7_shortenAll N p1 x2 M = some q) : Ev 0 111 3 m_X7_shortenAll [.ref 96, .ref p1, .int x2] M (QB q) := by
  refine Ev_of_Fr (by decide +kernel) (Nat.le_of_ble_eq_true rfl) ?_
  show Fr 0 111 3 m_X7_shortenAll 0 [(0, .ref 96), (1, .ref p1), (2, .int x2)] [] M (QB q)
  unfold f_X7_shortenAll at h
  refine Fr_aload_n (q := 1) (i := 1) 1 (by decide +kernel) rfl rfl ?_
  obtain ⟨r_3, M_1, hc_2, h⟩ := bi_elim h
  refine Fr_cVi (ν := m_X5_boardCount) (As := []) (st := []) (rc := p1) (ci := 5) (d' := 0) (by decide +kernel) ml_X7_44 cv_X5_boardCount rfl (by decide) rfl hp1 rfl (by decide) (Nat.le_of_ble_eq_true rfl) (t_X5_boardCount hp1 hc_2) ?_
  refine Fr_istore_n (q := 3) (i := 3) (lv' := [(3, .int r_3), (0, .ref 96), (1, .ref p1), (2, .int x2)]) (by decide +kernel) rfl (by decide) rfl ?_
  refine Fr_iconst (i := 0) (v := 0) (by decide +kernel) (by decide) ?_
  refine Fr_istore (i := 4) (lv' := [(4, .int 0), (3, .int r_3), (0, .ref 96), (1, .ref p1), (2, .int x2)]) (by decide +kernel) (by decide) rfl ?_
  refine Fr_iconst (i := 0) (v := 0) (by decide +kernel) (by decide) ?_
  refine Fr_istore (i := 5) (lv' := [(5, .int 0), (4, .int 0), (3, .int r_3), (0, .ref 96), (1, .ref p1), (2, .int x2)]) (by decide +kernel) (by decide) rfl ?_
  refine Fr_loc [3, 4, 5, 2, 1, 0] rfl ?_
  exact lp_sound (body := fun k a m => f_X7_shortenAll_h11 N p1 k a.1 a.2.1 a.2.2.1 a.2.2.2 m) (P := fun a M => Fr 0 111 3 m_X7_shortenAll 11 [(0, .ref 96), (1, .ref p1), (2, .int a.1), (3, .int a.2.1), (4, .int a.2.2.1), (5, .int a.2.2.2)] [] M (QB q)) (fun k hk a m h => t_X7_shortenAll_h11 hp1 hk h) N (x2, r_3, 0, 0) M_1 h
set_option maxRecDepth 20000 in
theorem t_X7_leastCount_b50 {N : Nat} {p1 : Nat} (hp1 : Ob 0 111 p1 5) {q : Int32 × Mem} {v3 : Int32} {M : Mem} (h : f_X7_leastCount_b50 N p1 v3 M = some q) : Fr 0 111 4 m_X7_leastCount 50 [(0, .ref 96), (3, .int v3)] [] M (QI q) := by
  unfold f_X7_leastCount_b50 at h
  refine Fr_aload_n (q := 0) (i := 0) 0 (by decide +kernel) rfl rfl ?_
  refine gf_X7_9 rfl (by decide +kernel) ob_96 ?_
  refine Fr_iload_n (q := 3) (i := 3) 1 (by decide +kernel) rfl rfl ?_
  obtain ⟨hi_5, h⟩ := ck_elim h
  refine Fr_iald (by decide +kernel) ob_97 (vp_of ln_97 hi_5) ?_
  refine Fr_sipush (i := 1000) (v := 1000) (by decide +kernel) (by decide) ?_
  refine Fr_icmp_lt (off := 7) 66 (by decide +kernel) (by decide) (fun hc => ?_) (fun hc => ?_)
  · have h := iT hc h
    refine Fr_aload_n (q := 0) (i := 0) 0 (by decide +kernel) rfl rfl ?_
    refine gf_X7_9 rfl (by decide +kernel) ob_96 ?_
    refine Fr_iload_n (q := 3) (i := 3) 1 (by decide +kernel) rfl rfl ?_
    obtain ⟨hi_6, h⟩ := ck_elim h
    refine Fr_iald (by decide +kernel) ob_97 (vp_of ln_97 hi_6) ?_
    obtain rfl := Option.some.inj h
    exact Fr_iret (by decide +kernel) rfl ⟨rfl, rfl⟩
  · have h := iF hc h
    refine Fr_iconst (i := (-1)) (v := (-1)) (by decide +kernel) (by decide) ?_
    refine Fr_goto (off := 9) 72 (by decide +kernel) (by decide) ?_
    obtain rfl := Option.some.inj h
    exact Fr_iret (by decide +kernel) rfl ⟨rfl, rfl⟩
set_option maxRecDepth 20000 in
theorem t_X7_leastCount_h23 {N : Nat} {p1 : Nat} (hp1 : Ob 0 111 p1 5) {q : Int32 × Mem} {k23 : Int32 × Int32 × Int32 × Int32 → Mem → Option (Int32 × Mem)} (hk23 : ∀ (a : Int32 × Int32 × Int32 × Int32) (M : Mem), k23 a M = some q → Fr 0 111 4 m_X7_leastCount 23 [(0, .ref 96), (1, .ref p1), (3, .int a.1), (4, .int a.2.1), (5, .int a.2.2.1), (6, .int a.2.2.2)] [] M (QI q)) {v3 : Int32} {v4 : Int32} {v5 : Int32} {v6 : Int32} {M : Mem} (h : f_X7_leastCount_h23 N p1 k23 v3 v4 v5 v6 M = some q) : Fr 0 111 4 m_X7_leastCount 23 [(0, .ref 96), (1, .ref p1), (3, .int v3), (4, .int v4), (5, .int v5), (6, .int v6)] [] M (QI q) := by
  unfold f_X7_leastCount_h23 at h
  refine Fr_iload (i := 6) 5 (by decide +kernel) rfl ?_
  refine Fr_bipush (i := 30) (v := 30) (by decide +kernel) (by decide) ?_
  refine Fr_icmp_ge (off := 23) 50 (by decide +kernel) (by decide) (fun hc => ?_) (fun hc => ?_)
  · have h := iT hc h
    refine Fr_loc [0, 2] rfl ?_
    exact t_X7_leastCount_b50 hp1 h
  · have h := iF hc h
    refine Fr_iload (i := 5) 4 (by decide +kernel) rfl ?_
    refine Fr_if_eq (off := 18) 50 (by decide +kernel) (by decide) (fun hc => ?_) (fun hc => ?_)
    · have h := iT hc h
      refine Fr_loc [0, 2] rfl ?_
      exact t_X7_leastCount_b50 hp1 h
    · have h := iF hc h
      refine Fr_aload_n (q := 0) (i := 0) 0 (by decide +kernel) rfl rfl ?_
      refine Fr_aload_n (q := 1) (i := 1) 1 (by decide +kernel) rfl rfl ?_
      refine Fr_iload (i := 4) 3 (by decide +kernel) rfl ?_
      obtain ⟨r_9, M_7, hc_8, h⟩ := bi_elim h
      refine Fr_cVb (ν := m_X7_shortenAll) (As := [.ref p1, .int v4]) (st := []) (rc := 96) (ci := 7) (d' := 3) (by decide +kernel) ml_X7_40 cv_X7_shortenAll rfl (by decide) rfl ob_96 rfl (by decide) (Nat.le_of_ble_eq_true rfl) (t_X7_shortenAll hp1 hc_8) ?_
      refine Fr_istore (i := 5) (lv' := [(5, .int (b2i r_9)), (0, .ref 96), (1, .ref p1), (3, .int v3), (4, .int v4), (6, .int v6)]) (by decide +kernel) (by decide) rfl ?_
      refine Fr_iinc (i := 6) (j := 1) (v := (v6 + 1)) (lv' := [(6, .int (v6 + 1)), (5, .int (b2i r_9)), (0, .ref 96), (1, .ref p1), (3, .int v3), (4, .int v4)]) 5 (by decide +kernel) rfl rfl (by decide) rfl ?_
      refine Fr_goto (off := (-24)) 23 (by decide +kernel) (by decide) ?_
      refine Fr_loc [2, 3, 4, 5, 1, 0] rfl ?_
      exact hk23 (v3, v4, (b2i r_9), (v6 + 1)) M_7 h
set_option maxRecDepth 20000 in
theorem t_X7_leastCount {N : Nat} {p1 : Nat} {x2 : Int32} {x3 : Int32} {x4 : Int32} (hp1 : Ob 0 111 p1 5) {M : Mem} {q : Int32 × Mem} (h : f_X7_leastCount N p1 x2 x3 x4 M = some q) : Ev 0 111 4 m_X7_leastCount [.ref 96, .ref p1, .int x2, .int x3, .int x4] M (QI q) := by
  refine Ev_of_Fr (by decide +kernel) (Nat.le_of_ble_eq_true rfl) ?_
  show Fr 0 111 4 m_X7_leastCount 0 [(0, .ref 96), (1, .ref p1), (2, .int x2), (3, .int x3), (4, .int x4)] [] M (QI q)
  unfold f_X7_leastCount at h
  refine Fr_aload_n (q := 0) (i := 0) 0 (by decide +kernel) rfl rfl ?_
  refine gf_X7_9 rfl (by decide +kernel) ob_96 ?_
  refine Fr_sipush (i := 1000) (v := 1000) (by decide +kernel) (by decide) ?_
  obtain ⟨M_1, hc_2, h⟩ := bv_elim h
  refine Fr_cSv (ν := m_J7_fill_53178) (As := [.ref 97, .int 1000]) (st := []) (d' := 0) (by decide +kernel) ml_X7_34 cs_J7_fill_53178 rfl (by decide) (Nat.le_of_ble_eq_true rfl) (t_J7_fill_53178 ob_97 hc_2) ?_
  refine Fr_aload_n (q := 0) (i := 0) 0 (by decide +kernel) rfl rfl ?_
  refine gf_X7_9 rfl (by decide +kernel) ob_96 ?_
  refine Fr_iload_n (q := 2) (i := 2) 2 (by decide +kernel) rfl rfl ?_
  refine Fr_iconst (i := 0) (v := 0) (by decide +kernel) (by decide) ?_
  obtain ⟨hi_3, h⟩ := ck_elim h
  refine Fr_iast (by decide +kernel) ob_97 (vp_of ln_97 hi_3) ?_
  obtain ⟨M_4, eM_4, h⟩ := bM_elim h
  refine Fr_mem eM_4 ?_
  refine Fr_iconst (i := 1) (v := 1) (by decide +kernel) (by decide) ?_
  refine Fr_istore (i := 5) (lv' := [(5, .int 1), (0, .ref 96), (1, .ref p1), (2, .int x2), (3, .int x3), (4, .int x4)]) (by decide +kernel) (by decide) rfl ?_
  refine Fr_iconst (i := 0) (v := 0) (by decide +kernel) (by decide) ?_
  refine Fr_istore (i := 6) (lv' := [(6, .int 0), (5, .int 1), (0, .ref 96), (1, .ref p1), (2, .int x2), (3, .int x3), (4, .int x4)]) (by decide +kernel) (by decide) rfl ?_
  refine Fr_loc [2, 3, 5, 6, 1, 0] rfl ?_
  exact lp_sound (body := fun k a m => f_X7_leastCount_h23 N p1 k a.1 a.2.1 a.2.2.1 a.2.2.2 m) (P := fun a M => Fr 0 111 4 m_X7_leastCount 23 [(0, .ref 96), (1, .ref p1), (3, .int a.1), (4, .int a.2.1), (5, .int a.2.2.1), (6, .int a.2.2.2)] [] M (QI q)) (fun k hk a m h => t_X7_leastCount_h23 hp1 hk h) N (x3, x4, 1, 0) M_4 h
set_option maxRecDepth 20000 in
theorem t_X7_isAtOrBeside_b60 {N : Nat} {p1 : Nat} (hp1 : Ob 0 111 p1 5) {q : Bool × Mem} {k19 : Int32 × Int32 × Int32 × Int32 → Mem → Option (Bool × Mem)} (hk19 : ∀ (a : Int32 × Int32 × Int32 × Int32) (M : Mem), k19 a M = some q → Fr 0 111 2 m_X7_isAtOrBeside 19 [(1, .ref p1), (2, .int a.1), (3, .int a.2.1), (4, .int a.2.2.1), (5, .int a.2.2.2)] [] M (QB q)) {v2 : Int32} {v3 : Int32} {v5 : Int32} {s0 : Int32} {M : Mem} (h : f_X7_isAtOrBeside_b60 N p1 k19 v2 v3 v5 s0 M = some q) : Fr 0 111 2 m_X7_isAtOrBeside 60 [(1, .ref p1), (2, .int v2), (3, .int v3), (5, .int v5)] [.int s0] M (QB q) := by
  unfold f_X7_isAtOrBeside_b60 at h
  refine Fr_istore (i := 4) (lv' := [(4, .int s0), (1, .ref p1), (2, .int v2), (3, .int v3), (5, .int v5)]) (by decide +kernel) (by decide) rfl ?_
  refine Fr_iinc (i := 5) (j := 1) (v := (v5 + 1)) (lv' := [(5, .int (v5 + 1)), (4, .int s0), (1, .ref p1), (2, .int v2), (3, .int v3)]) 4 (by decide +kernel) rfl rfl (by decide) rfl ?_
  refine Fr_goto (off := (-46)) 19 (by decide +kernel) (by decide) ?_
  refine Fr_loc [2, 3, 4, 1, 0] rfl ?_
  exact hk19 (v2, v3, s0, (v5 + 1)) M h
set_option maxRecDepth 20000 in
theorem t_X7_isAtOrBeside_b59 {N : Nat} {p1 : Nat} (hp1 : Ob 0 111 p1 5) {q : Bool × Mem} {k19 : Int32 × Int32 × Int32 × Int32 → Mem → Option (Bool × Mem)} (hk19 : ∀ (a : Int32 × Int32 × Int32 × Int32) (M : Mem), k19 a M = some q → Fr 0 111 2 m_X7_isAtOrBeside 19 [(1, .ref p1), (2, .int a.1), (3, .int a.2.1), (4, .int a.2.2.1), (5, .int a.2.2.2)] [] M (QB q)) {v2 : Int32} {v3 : Int32} {v5 : Int32} {M : Mem} (h : f_X7_isAtOrBeside_b59 N p1 k19 v2 v3 v5 M = some q) : Fr 0 111 2 m_X7_isAtOrBeside 59 [(1, .ref p1), (2, .int v2), (3, .int v3), (5, .int v5)] [] M (QB q) := by
  unfold f_X7_isAtOrBeside_b59 at h
  refine Fr_iconst (i := 0) (v := 0) (by decide +kernel) (by decide) ?_
  exact t_X7_isAtOrBeside_b60 hp1 hk19 h
set_option maxRecDepth 20000 in
theorem t_X7_isAtOrBeside_h19 {N : Nat} {p1 : Nat} (hp1 : Ob 0 111 p1 5) {q : Bool × Mem} {k19 : Int32 × Int32 × Int32 × Int32 → Mem → Option (Bool × Mem)} (hk19 : ∀ (a : Int32 × Int32 × Int32 × Int32) (M : Mem), k19 a M = some q → Fr 0 111 2 m_X7_isAtOrBeside 19 [(1, .ref p1), (2, .int a.1), (3, .int a.2.1), (4, .int a.2.2.1), (5, .int a.2.2.2)] [] M (QB q)) {v2 : Int32} {v3 : Int32} {v4 : Int32} {v5 : Int32} {M : Mem} (h : f_X7_isAtOrBeside_h19 N p1 k19 v2 v3 v4 v5 M = some q) : Fr 0 111 2 m_X7_isAtOrBeside 19 [(1, .ref p1), (2, .int v2), (3, .int v3), (4, .int v4), (5, .int v5)] [] M (QB q) := by
  unfold f_X7_isAtOrBeside_h19 at h
  refine Fr_iload (i := 5) 4 (by decide +kernel) rfl ?_
  refine Fr_iconst (i := 4) (v := 4) (by decide +kernel) (by decide) ?_
  refine Fr_icmp_gt (off := 46) 68 (by decide +kernel) (by decide) (fun hc => ?_) (fun hc => ?_)
  · have h := iT hc h
    refine Fr_iload (i := 4) 3 (by decide +kernel) rfl ?_
    obtain ⟨b_1, eb_1, h⟩ := zb_elim h
    refine Fr_topI eb_1.symm ?_
    obtain rfl := Option.some.inj h
    exact Fr_zret (by decide +kernel) rfl (nz_b b_1) ⟨rfl, rfl⟩
  · have h := iF hc h
    refine Fr_iload (i := 4) 3 (by decide +kernel) rfl ?_
    refine Fr_if_ne (off := 41) 68 (by decide +kernel) (by decide) (fun hc => ?_) (fun hc => ?_)
    · have h := iF hc h
      refine Fr_iload (i := 4) 3 (by decide +kernel) rfl ?_
      obtain ⟨b_2, eb_2, h⟩ := zb_elim h
      refine Fr_topI eb_2.symm ?_
      obtain rfl := Option.some.inj h
      exact Fr_zret (by decide +kernel) rfl (nz_b b_2) ⟨rfl, rfl⟩
    · have h := iT hc h
      refine Fr_aload_n (q := 1) (i := 1) 0 (by decide +kernel) rfl rfl ?_
      refine Fr_iload_n (q := 3) (i := 3) 2 (by decide +kernel) rfl rfl ?_
      refine Fr_iload (i := 5) 4 (by decide +kernel) rfl ?_
      obtain ⟨r_5, M_3, hc_4, h⟩ := bi_elim h
      refine Fr_cVi (ν := m_X5_beside) (As := [.int v3, .int v5]) (st := []) (rc := p1) (ci := 5) (d' := 1) (by decide +kernel) ml_X7_54 cv_X5_beside rfl (by decide) rfl hp1 rfl (by decide) (Nat.le_of_ble_eq_true rfl) (t_X5_beside hp1 hc_4) ?_
      refine Fr_istore (i := 6) (lv' := [(6, .int r_5), (1, .ref p1), (2, .int v2), (3, .int v3), (4, .int v4), (5, .int v5)]) (by decide +kernel) (by decide) rfl ?_
      refine Fr_iload (i := 6) 0 (by decide +kernel) rfl ?_
      refine Fr_iconst (i := (-1)) (v := (-1)) (by decide +kernel) (by decide) ?_
      refine Fr_icmp_eq (off := 17) 59 (by decide +kernel) (by decide) (fun hc => ?_) (fun hc => ?_)
      · have h := iT hc h
        refine Fr_loc [1, 2, 3, 5] rfl ?_
        exact t_X7_isAtOrBeside_b59 hp1 hk19 h
      · have h := iF hc h
        refine Fr_iload_n (q := 2) (i := 2) 2 (by decide +kernel) rfl rfl ?_
        refine Fr_iload (i := 6) 0 (by decide +kernel) rfl ?_
        refine Fr_ishr (by decide +kernel) ?_
        refine Fr_iconst (i := 1) (v := 1) (by decide +kernel) (by decide) ?_
        refine Fr_iand (by decide +kernel) ?_
        refine Fr_iconst (i := 1) (v := 1) (by decide +kernel) (by decide) ?_
        refine Fr_icmp_ne (off := 7) 59 (by decide +kernel) (by decide) (fun hc => ?_) (fun hc => ?_)
        · have h := iF hc h
          refine Fr_loc [1, 2, 3, 5] rfl ?_
          exact t_X7_isAtOrBeside_b59 hp1 hk19 h
        · have h := iT hc h
          refine Fr_iconst (i := 1) (v := 1) (by decide +kernel) (by decide) ?_
          refine Fr_goto (off := 4) 60 (by decide +kernel) (by decide) ?_
          refine Fr_loc [1, 2, 3, 5] rfl ?_
          exact t_X7_isAtOrBeside_b60 hp1 hk19 h
set_option maxRecDepth 20000 in
theorem t_X7_isAtOrBeside_b14 {N : Nat} {p1 : Nat} (hp1 : Ob 0 111 p1 5) {q : Bool × Mem} {v2 : Int32} {v3 : Int32} {s0 : Int32} {M : Mem} (h : f_X7_isAtOrBeside_b14 N p1 v2 v3 s0 M = some q) : Fr 0 111 2 m_X7_isAtOrBeside 14 [(1, .ref p1), (2, .int v2), (3, .int v3)] [.int s0] M (QB q) := by
  unfold f_X7_isAtOrBeside_b14 at h
  refine Fr_istore (i := 4) (lv' := [(4, .int s0), (1, .ref p1), (2, .int v2), (3, .int v3)]) (by decide +kernel) (by decide) rfl ?_
  refine Fr_iconst (i := 1) (v := 1) (by decide +kernel) (by decide) ?_
  refine Fr_istore (i := 5) (lv' := [(5, .int 1), (4, .int s0), (1, .ref p1), (2, .int v2), (3, .int v3)]) (by decide +kernel) (by decide) rfl ?_
  refine Fr_loc [2, 3, 4, 1, 0] rfl ?_
  exact lp_sound (body := fun k a m => f_X7_isAtOrBeside_h19 N p1 k a.1 a.2.1 a.2.2.1 a.2.2.2 m) (P := fun a M => Fr 0 111 2 m_X7_isAtOrBeside 19 [(1, .ref p1), (2, .int a.1), (3, .int a.2.1), (4, .int a.2.2.1), (5, .int a.2.2.2)] [] M (QB q)) (fun k hk a m h => t_X7_isAtOrBeside_h19 hp1 hk h) N (v2, v3, s0, 1) M h
set_option maxRecDepth 20000 in
theorem t_X7_isAtOrBeside {N : Nat} {p1 : Nat} {x2 : Int32} {x3 : Int32} (hp1 : Ob 0 111 p1 5) {M : Mem} {q : Bool × Mem} (h : f_X7_isAtOrBeside N p1 x2 x3 M = some q) : Ev 0 111 2 m_X7_isAtOrBeside [.ref 96, .ref p1, .int x2, .int x3] M (QB q) := by
  refine Ev_of_Fr (by decide +kernel) (Nat.le_of_ble_eq_true rfl) ?_
  show Fr 0 111 2 m_X7_isAtOrBeside 0 [(0, .ref 96), (1, .ref p1), (2, .int x2), (3, .int x3)] [] M (QB q)
  unfold f_X7_isAtOrBeside at h
  refine Fr_iload_n (q := 2) (i := 2) 2 (by decide +kernel) rfl rfl ?_
  refine Fr_iload_n (q := 3) (i := 3) 3 (by decide +kernel) rfl rfl ?_
  refine Fr_ishr (by decide +kernel) ?_
  refine Fr_iconst (i := 1) (v := 1) (by decide +kernel) (by decide) ?_
  refine Fr_iand (by decide +kernel) ?_
  refine Fr_iconst (i := 1) (v := 1) (by decide +kernel) (by decide) ?_
  refine Fr_icmp_ne (off := 7) 13 (by decide +kernel) (by decide) (fun hc => ?_) (fun hc => ?_)
  · have h := iF hc h
    refine Fr_iconst (i := 0) (v := 0) (by decide +kernel) (by decide) ?_
    refine Fr_loc [1, 2, 3] rfl ?_
    exact t_X7_isAtOrBeside_b14 hp1 h
  · have h := iT hc h
    refine Fr_iconst (i := 1) (v := 1) (by decide +kernel) (by decide) ?_
    refine Fr_goto (off := 4) 14 (by decide +kernel) (by decide) ?_
    refine Fr_loc [1, 2, 3] rfl ?_
    exact t_X7_isAtOrBeside_b14 hp1 h
