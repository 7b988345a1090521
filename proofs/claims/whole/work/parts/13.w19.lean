set_option maxRecDepth 20000 in
theorem t_X12_isWind {M : Mem} {q : Bool × Mem} (h : f_X12_isWind M = some q) : Ev 200 21 1 m_X12_isWind [.ref 200] M (QB q) := by
  refine Ev_of_Fr (by decide +kernel) (Nat.le_of_ble_eq_true rfl) ?_
  show Fr 200 21 1 m_X12_isWind 0 [(0, .ref 200)] [] M (QB q)
  unfold f_X12_isWind at h
  refine Fr_aload_n (q := 0) (i := 0) 0 (by decide +kernel) rfl rfl ?_
  refine Fr_bipush (i := 119) (v := 119) (by decide +kernel) (by decide) ?_
  refine Fr_bipush (i := 105) (v := 105) (by decide +kernel) (by decide) ?_
  refine Fr_bipush (i := 110) (v := 110) (by decide +kernel) (by decide) ?_
  refine Fr_bipush (i := 100) (v := 100) (by decide +kernel) (by decide) ?_
  refine Fr_iconst (i := 0) (v := 0) (by decide +kernel) (by decide) ?_
  refine Fr_iconst (i := 0) (v := 0) (by decide +kernel) (by decide) ?_
  obtain ⟨r_3, M_1, hc_2, h⟩ := bi_elim h
  refine Fr_cSj (ν := m_X12_spelled) (As := [.int 119, .int 105, .int 110, .int 100, .int 0, .int 0]) (st := [.ref 200]) (d' := 0) (by decide +kernel) ml_X12_164 cs_X12_spelled rfl (by decide) (Nat.le_of_ble_eq_true rfl) (t_X12_spelled hc_2) ?_
  obtain ⟨r_6, M_4, hc_5, h⟩ := bi_elim h
  refine Fr_cVb (ν := m_X12_isWord) (As := [.long r_3]) (st := []) (rc := 200) (ci := 12) (d' := 0) (by decide +kernel) ml_X12_168 cv_X12_isWord rfl (by decide) rfl ob_200 rfl (by decide) (Nat.le_of_ble_eq_true rfl) (t_X12_isWord hc_5) ?_
  obtain rfl := Option.some.inj h
  exact Fr_zret (by decide +kernel) rfl (nz_b r_6) ⟨rfl, rfl⟩
set_option maxRecDepth 20000 in
theorem t_X12_isThins {M : Mem} {q : Bool × Mem} (h : f_X12_isThins M = some q) : Ev 200 21 1 m_X12_isThins [.ref 200] M (QB q) := by
  refine Ev_of_Fr (by decide +kernel) (Nat.le_of_ble_eq_true rfl) ?_
  show Fr 200 21 1 m_X12_isThins 0 [(0, .ref 200)] [] M (QB q)
  unfold f_X12_isThins at h
  refine Fr_aload_n (q := 0) (i := 0) 0 (by decide +kernel) rfl rfl ?_
  refine Fr_bipush (i := 116) (v := 116) (by decide +kernel) (by decide) ?_
  refine Fr_bipush (i := 104) (v := 104) (by decide +kernel) (by decide) ?_
  refine Fr_bipush (i := 105) (v := 105) (by decide +kernel) (by decide) ?_
  refine Fr_bipush (i := 110) (v := 110) (by decide +kernel) (by decide) ?_
  refine Fr_bipush (i := 115) (v := 115) (by decide +kernel) (by decide) ?_
  refine Fr_iconst (i := 0) (v := 0) (by decide +kernel) (by decide) ?_
  obtain ⟨r_3, M_1, hc_2, h⟩ := bi_elim h
  refine Fr_cSj (ν := m_X12_spelled) (As := [.int 116, .int 104, .int 105, .int 110, .int 115, .int 0]) (st := [.ref 200]) (d' := 0) (by decide +kernel) ml_X12_164 cs_X12_spelled rfl (by decide) (Nat.le_of_ble_eq_true rfl) (t_X12_spelled hc_2) ?_
  obtain ⟨r_6, M_4, hc_5, h⟩ := bi_elim h
  refine Fr_cVb (ν := m_X12_isWord) (As := [.long r_3]) (st := []) (rc := 200) (ci := 12) (d' := 0) (by decide +kernel) ml_X12_168 cv_X12_isWord rfl (by decide) rfl ob_200 rfl (by decide) (Nat.le_of_ble_eq_true rfl) (t_X12_isWord hc_5) ?_
  obtain rfl := Option.some.inj h
  exact Fr_zret (by decide +kernel) rfl (nz_b r_6) ⟨rfl, rfl⟩
set_option maxRecDepth 20000 in
theorem t_X12_isFoggyWord {M : Mem} {q : Bool × Mem} (h : f_X12_isFoggyWord M = some q) : Ev 200 21 1 m_X12_isFoggyWord [.ref 200] M (QB q) := by
  refine Ev_of_Fr (by decide +kernel) (Nat.le_of_ble_eq_true rfl) ?_
  show Fr 200 21 1 m_X12_isFoggyWord 0 [(0, .ref 200)] [] M (QB q)
  unfold f_X12_isFoggyWord at h
  refine Fr_aload_n (q := 0) (i := 0) 0 (by decide +kernel) rfl rfl ?_
  refine Fr_bipush (i := 102) (v := 102) (by decide +kernel) (by decide) ?_
  refine Fr_bipush (i := 111) (v := 111) (by decide +kernel) (by decide) ?_
  refine Fr_bipush (i := 103) (v := 103) (by decide +kernel) (by decide) ?_
  refine Fr_bipush (i := 103) (v := 103) (by decide +kernel) (by decide) ?_
  refine Fr_bipush (i := 121) (v := 121) (by decide +kernel) (by decide) ?_
  refine Fr_iconst (i := 0) (v := 0) (by decide +kernel) (by decide) ?_
  obtain ⟨r_3, M_1, hc_2, h⟩ := bi_elim h
  refine Fr_cSj (ν := m_X12_spelled) (As := [.int 102, .int 111, .int 103, .int 103, .int 121, .int 0]) (st := [.ref 200]) (d' := 0) (by decide +kernel) ml_X12_164 cs_X12_spelled rfl (by decide) (Nat.le_of_ble_eq_true rfl) (t_X12_spelled hc_2) ?_
  obtain ⟨r_6, M_4, hc_5, h⟩ := bi_elim h
  refine Fr_cVb (ν := m_X12_isWord) (As := [.long r_3]) (st := []) (rc := 200) (ci := 12) (d' := 0) (by decide +kernel) ml_X12_168 cv_X12_isWord rfl (by decide) rfl ob_200 rfl (by decide) (Nat.le_of_ble_eq_true rfl) (t_X12_isWord hc_5) ?_
  obtain rfl := Option.some.inj h
  exact Fr_zret (by decide +kernel) rfl (nz_b r_6) ⟨rfl, rfl⟩
set_option maxRecDepth 20000 in
theorem t_X12_stepWord {M : Mem} {q : Int32 × Mem} (h : f_X12_stepWord M = some q) : Ev 200 21 2 m_X12_stepWord [.ref 200] M (QI q) := by
  refine Ev_of_Fr (by decide +kernel) (Nat.le_of_ble_eq_true rfl) ?_
  show Fr 200 21 2 m_X12_stepWord 0 [(0, .ref 200)] [] M (QI q)
  unfold f_X12_stepWord at h
  refine Fr_aload_n (q := 0) (i := 0) 0 (by decide +kernel) rfl rfl ?_
  refine Fr_bipush (i := 104) (v := 104) (by decide +kernel) (by decide) ?_
  refine Fr_bipush (i := 111) (v := 111) (by decide +kernel) (by decide) ?_
  refine Fr_bipush (i := 117) (v := 117) (by decide +kernel) (by decide) ?_
  refine Fr_bipush (i := 114) (v := 114) (by decide +kernel) (by decide) ?_
  refine Fr_iconst (i := 0) (v := 0) (by decide +kernel) (by decide) ?_
  refine Fr_iconst (i := 0) (v := 0) (by decide +kernel) (by decide) ?_
  obtain ⟨r_3, M_1, hc_2, h⟩ := bi_elim h
  refine Fr_cSj (ν := m_X12_spelled) (As := [.int 104, .int 111, .int 117, .int 114, .int 0, .int 0]) (st := [.ref 200]) (d' := 0) (by decide +kernel) ml_X12_164 cs_X12_spelled rfl (by decide) (Nat.le_of_ble_eq_true rfl) (t_X12_spelled hc_2) ?_
  obtain ⟨r_6, M_4, hc_5, h⟩ := bi_elim h
  refine Fr_cVb (ν := m_X12_isWord) (As := [.long r_3]) (st := []) (rc := 200) (ci := 12) (d' := 0) (by decide +kernel) ml_X12_168 cv_X12_isWord rfl (by decide) rfl ob_200 rfl (by decide) (Nat.le_of_ble_eq_true rfl) (t_X12_isWord hc_5) ?_
  refine Fr_if_eq (off := 5) 22 (by decide +kernel) (by decide) (fun hc => ?_) (fun hc => ?_)
  · have h := iT hc h
    refine Fr_aload_n (q := 0) (i := 0) 0 (by decide +kernel) rfl rfl ?_
    obtain ⟨r_9, M_7, hc_8, h⟩ := bi_elim h
    refine Fr_cVb (ν := m_X12_isOpen) (As := []) (st := []) (rc := 200) (ci := 12) (d' := 1) (by decide +kernel) ml_X12_174 cv_X12_isOpen rfl (by decide) rfl ob_200 rfl (by decide) (Nat.le_of_ble_eq_true rfl) (t_X12_isOpen hc_8) ?_
    refine Fr_if_eq (off := 5) 31 (by decide +kernel) (by decide) (fun hc => ?_) (fun hc => ?_)
    · have h := iT hc h
      refine Fr_aload_n (q := 0) (i := 0) 0 (by decide +kernel) rfl rfl ?_
      refine Fr_bipush (i := 115) (v := 115) (by decide +kernel) (by decide) ?_
      refine Fr_bipush (i := 104) (v := 104) (by decide +kernel) (by decide) ?_
      refine Fr_bipush (i := 117) (v := 117) (by decide +kernel) (by decide) ?_
      refine Fr_bipush (i := 116) (v := 116) (by decide +kernel) (by decide) ?_
      refine Fr_iconst (i := 0) (v := 0) (by decide +kernel) (by decide) ?_
      refine Fr_iconst (i := 0) (v := 0) (by decide +kernel) (by decide) ?_
      obtain ⟨r_12, M_10, hc_11, h⟩ := bi_elim h
      refine Fr_cSj (ν := m_X12_spelled) (As := [.int 115, .int 104, .int 117, .int 116, .int 0, .int 0]) (st := [.ref 200]) (d' := 0) (by decide +kernel) ml_X12_164 cs_X12_spelled rfl (by decide) (Nat.le_of_ble_eq_true rfl) (t_X12_spelled hc_11) ?_
      obtain ⟨r_15, M_13, hc_14, h⟩ := bi_elim h
      refine Fr_cVb (ν := m_X12_isWord) (As := [.long r_12]) (st := []) (rc := 200) (ci := 12) (d' := 0) (by decide +kernel) ml_X12_168 cv_X12_isWord rfl (by decide) rfl ob_200 rfl (by decide) (Nat.le_of_ble_eq_true rfl) (t_X12_isWord hc_14) ?_
      refine Fr_if_eq (off := 5) 53 (by decide +kernel) (by decide) (fun hc => ?_) (fun hc => ?_)
      · have h := iT hc h
        refine Fr_aload_n (q := 0) (i := 0) 0 (by decide +kernel) rfl rfl ?_
        obtain ⟨r_18, M_16, hc_17, h⟩ := bi_elim h
        refine Fr_cVb (ν := m_X12_isWind) (As := []) (st := []) (rc := 200) (ci := 12) (d' := 1) (by decide +kernel) ml_X12_178 cv_X12_isWind rfl (by decide) rfl ob_200 rfl (by decide) (Nat.le_of_ble_eq_true rfl) (t_X12_isWind hc_17) ?_
        refine Fr_if_eq (off := 5) 62 (by decide +kernel) (by decide) (fun hc => ?_) (fun hc => ?_)
        · have h := iT hc h
          refine Fr_aload_n (q := 0) (i := 0) 0 (by decide +kernel) rfl rfl ?_
          refine Fr_bipush (i := 115) (v := 115) (by decide +kernel) (by decide) ?_
          refine Fr_bipush (i := 116) (v := 116) (by decide +kernel) (by decide) ?_
          refine Fr_bipush (i := 111) (v := 111) (by decide +kernel) (by decide) ?_
          refine Fr_bipush (i := 114) (v := 114) (by decide +kernel) (by decide) ?_
          refine Fr_bipush (i := 109) (v := 109) (by decide +kernel) (by decide) ?_
          refine Fr_iconst (i := 0) (v := 0) (by decide +kernel) (by decide) ?_
          obtain ⟨r_21, M_19, hc_20, h⟩ := bi_elim h
          refine Fr_cSj (ν := m_X12_spelled) (As := [.int 115, .int 116, .int 111, .int 114, .int 109, .int 0]) (st := [.ref 200]) (d' := 0) (by decide +kernel) ml_X12_164 cs_X12_spelled rfl (by decide) (Nat.le_of_ble_eq_true rfl) (t_X12_spelled hc_20) ?_
          obtain ⟨r_24, M_22, hc_23, h⟩ := bi_elim h
          refine Fr_cVb (ν := m_X12_isWord) (As := [.long r_21]) (st := []) (rc := 200) (ci := 12) (d' := 0) (by decide +kernel) ml_X12_168 cv_X12_isWord rfl (by decide) rfl ob_200 rfl (by decide) (Nat.le_of_ble_eq_true rfl) (t_X12_isWord hc_23) ?_
          refine Fr_if_eq (off := 5) 85 (by decide +kernel) (by decide) (fun hc => ?_) (fun hc => ?_)
          · have h := iT hc h
            refine Fr_aload_n (q := 0) (i := 0) 0 (by decide +kernel) rfl rfl ?_
            refine Fr_bipush (i := 119) (v := 119) (by decide +kernel) (by decide) ?_
            refine Fr_bipush (i := 104) (v := 104) (by decide +kernel) (by decide) ?_
            refine Fr_bipush (i := 101) (v := 101) (by decide +kernel) (by decide) ?_
            refine Fr_bipush (i := 110) (v := 110) (by decide +kernel) (by decide) ?_
            refine Fr_iconst (i := 0) (v := 0) (by decide +kernel) (by decide) ?_
            refine Fr_iconst (i := 0) (v := 0) (by decide +kernel) (by decide) ?_
            obtain ⟨r_27, M_25, hc_26, h⟩ := bi_elim h
            refine Fr_cSj (ν := m_X12_spelled) (As := [.int 119, .int 104, .int 101, .int 110, .int 0, .int 0]) (st := [.ref 200]) (d' := 0) (by decide +kernel) ml_X12_164 cs_X12_spelled rfl (by decide) (Nat.le_of_ble_eq_true rfl) (t_X12_spelled hc_26) ?_
            obtain ⟨r_30, M_28, hc_29, h⟩ := bi_elim h
            refine Fr_cVb (ν := m_X12_isWord) (As := [.long r_27]) (st := []) (rc := 200) (ci := 12) (d' := 0) (by decide +kernel) ml_X12_168 cv_X12_isWord rfl (by decide) rfl ob_200 rfl (by decide) (Nat.le_of_ble_eq_true rfl) (t_X12_isWord hc_29) ?_
            refine Fr_if_eq (off := 5) 107 (by decide +kernel) (by decide) (fun hc => ?_) (fun hc => ?_)
            · have h := iT hc h
              refine Fr_aload_n (q := 0) (i := 0) 0 (by decide +kernel) rfl rfl ?_
              refine Fr_bipush (i := 108) (v := 108) (by decide +kernel) (by decide) ?_
              refine Fr_bipush (i := 111) (v := 111) (by decide +kernel) (by decide) ?_
              refine Fr_bipush (i := 111) (v := 111) (by decide +kernel) (by decide) ?_
              refine Fr_bipush (i := 112) (v := 112) (by decide +kernel) (by decide) ?_
              refine Fr_iconst (i := 0) (v := 0) (by decide +kernel) (by decide) ?_
              refine Fr_iconst (i := 0) (v := 0) (by decide +kernel) (by decide) ?_
              obtain ⟨r_33, M_31, hc_32, h⟩ := bi_elim h
              refine Fr_cSj (ν := m_X12_spelled) (As := [.int 108, .int 111, .int 111, .int 112, .int 0, .int 0]) (st := [.ref 200]) (d' := 0) (by decide +kernel) ml_X12_164 cs_X12_spelled rfl (by decide) (Nat.le_of_ble_eq_true rfl) (t_X12_spelled hc_32) ?_
              obtain ⟨r_36, M_34, hc_35, h⟩ := bi_elim h
              refine Fr_cVb (ν := m_X12_isWord) (As := [.long r_33]) (st := []) (rc := 200) (ci := 12) (d' := 0) (by decide +kernel) ml_X12_168 cv_X12_isWord rfl (by decide) rfl ob_200 rfl (by decide) (Nat.le_of_ble_eq_true rfl) (t_X12_isWord hc_35) ?_
              refine Fr_if_eq (off := 6) 130 (by decide +kernel) (by decide) (fun hc => ?_) (fun hc => ?_)
              · have h := iT hc h
                refine Fr_aload_n (q := 0) (i := 0) 0 (by decide +kernel) rfl rfl ?_
                refine Fr_bipush (i := 115) (v := 115) (by decide +kernel) (by decide) ?_
                refine Fr_bipush (i := 116) (v := 116) (by decide +kernel) (by decide) ?_
                refine Fr_bipush (i := 111) (v := 111) (by decide +kernel) (by decide) ?_
                refine Fr_bipush (i := 112) (v := 112) (by decide +kernel) (by decide) ?_
                refine Fr_iconst (i := 0) (v := 0) (by decide +kernel) (by decide) ?_
                refine Fr_iconst (i := 0) (v := 0) (by decide +kernel) (by decide) ?_
                obtain ⟨r_39, M_37, hc_38, h⟩ := bi_elim h
                refine Fr_cSj (ν := m_X12_spelled) (As := [.int 115, .int 116, .int 111, .int 112, .int 0, .int 0]) (st := [.ref 200]) (d' := 0) (by decide +kernel) ml_X12_164 cs_X12_spelled rfl (by decide) (Nat.le_of_ble_eq_true rfl) (t_X12_spelled hc_38) ?_
                obtain ⟨r_42, M_40, hc_41, h⟩ := bi_elim h
                refine Fr_cVb (ν := m_X12_isWord) (As := [.long r_39]) (st := []) (rc := 200) (ci := 12) (d' := 0) (by decide +kernel) ml_X12_168 cv_X12_isWord rfl (by decide) rfl ob_200 rfl (by decide) (Nat.le_of_ble_eq_true rfl) (t_X12_isWord hc_41) ?_
                refine Fr_if_eq (off := 8) 155 (by decide +kernel) (by decide) (fun hc => ?_) (fun hc => ?_)
                · have h := iT hc h
                  refine Fr_iconst (i := (-1)) (v := (-1)) (by decide +kernel) (by decide) ?_
                  obtain rfl := Option.some.inj h
                  exact Fr_iret (by decide +kernel) rfl ⟨rfl, rfl⟩
                · have h := iF hc h
                  refine Fr_bipush (i := 7) (v := 7) (by decide +kernel) (by decide) ?_
                  refine Fr_goto (off := 4) 156 (by decide +kernel) (by decide) ?_
                  obtain rfl := Option.some.inj h
                  exact Fr_iret (by decide +kernel) rfl ⟨rfl, rfl⟩
              · have h := iF hc h
                refine Fr_bipush (i := 6) (v := 6) (by decide +kernel) (by decide) ?_
                obtain rfl := Option.some.inj h
                exact Fr_iret (by decide +kernel) rfl ⟨rfl, rfl⟩
            · have h := iF hc h
              refine Fr_iconst (i := 5) (v := 5) (by decide +kernel) (by decide) ?_
              obtain rfl := Option.some.inj h
              exact Fr_iret (by decide +kernel) rfl ⟨rfl, rfl⟩
          · have h := iF hc h
            refine Fr_iconst (i := 4) (v := 4) (by decide +kernel) (by decide) ?_
            obtain rfl := Option.some.inj h
            exact Fr_iret (by decide +kernel) rfl ⟨rfl, rfl⟩
        · have h := iF hc h
          refine Fr_iconst (i := 3) (v := 3) (by decide +kernel) (by decide) ?_
          obtain rfl := Option.some.inj h
          exact Fr_iret (by decide +kernel) rfl ⟨rfl, rfl⟩
      · have h := iF hc h
        refine Fr_iconst (i := 2) (v := 2) (by decide +kernel) (by decide) ?_
        obtain rfl := Option.some.inj h
        exact Fr_iret (by decide +kernel) rfl ⟨rfl, rfl⟩
    · have h := iF hc h
      refine Fr_iconst (i := 1) (v := 1) (by decide +kernel) (by decide) ?_
      obtain rfl := Option.some.inj h
      exact Fr_iret (by decide +kernel) rfl ⟨rfl, rfl⟩
  · have h := iF hc h
    refine Fr_iconst (i := 0) (v := 0) (by decide +kernel) (by decide) ?_
    obtain rfl := Option.some.inj h
    exact Fr_iret (by decide +kernel) rfl ⟨rfl, rfl⟩
set_option maxRecDepth 20000 in
theorem t_X12_testWord {M : Mem} {q : Int32 × Mem} (h : f_X12_testWord M = some q) : Ev 200 21 2 m_X12_testWord [.ref 200] M (QI q) := by
  refine Ev_of_Fr (by decide +kernel) (Nat.le_of_ble_eq_true rfl) ?_
  show Fr 200 21 2 m_X12_testWord 0 [(0, .ref 200)] [] M (QI q)
  unfold f_X12_testWord at h
  refine Fr_aload_n (q := 0) (i := 0) 0 (by decide +kernel) rfl rfl ?_
  obtain ⟨r_3, M_1, hc_2, h⟩ := bi_elim h
  refine Fr_cVb (ν := m_X12_isFoggyWord) (As := []) (st := []) (rc := 200) (ci := 12) (d' := 1) (by decide +kernel) ml_X12_181 cv_X12_isFoggyWord rfl (by decide) rfl ob_200 rfl (by decide) (Nat.le_of_ble_eq_true rfl) (t_X12_isFoggyWord hc_2) ?_
  refine Fr_if_eq (off := 7) 11 (by decide +kernel) (by decide) (fun hc => ?_) (fun hc => ?_)
  · have h := iT hc h
    refine Fr_aload_n (q := 0) (i := 0) 0 (by decide +kernel) rfl rfl ?_
    obtain ⟨r_6, M_4, hc_5, h⟩ := bi_elim h
    refine Fr_cVb (ν := m_X12_isOpen) (As := []) (st := []) (rc := 200) (ci := 12) (d' := 1) (by decide +kernel) ml_X12_174 cv_X12_isOpen rfl (by decide) rfl ob_200 rfl (by decide) (Nat.le_of_ble_eq_true rfl) (t_X12_isOpen hc_5) ?_
    refine Fr_if_eq (off := 7) 22 (by decide +kernel) (by decide) (fun hc => ?_) (fun hc => ?_)
    · have h := iT hc h
      refine Fr_aload_n (q := 0) (i := 0) 0 (by decide +kernel) rfl rfl ?_
      obtain ⟨r_9, M_7, hc_8, h⟩ := bi_elim h
      refine Fr_cVb (ν := m_X12_isLets) (As := []) (st := []) (rc := 200) (ci := 12) (d' := 1) (by decide +kernel) ml_X12_184 cv_X12_isLets rfl (by decide) rfl ob_200 rfl (by decide) (Nat.le_of_ble_eq_true rfl) (t_X12_isLets hc_8) ?_
      refine Fr_if_eq (off := 7) 33 (by decide +kernel) (by decide) (fun hc => ?_) (fun hc => ?_)
      · have h := iT hc h
        refine Fr_iconst (i := (-1)) (v := (-1)) (by decide +kernel) (by decide) ?_
        obtain rfl := Option.some.inj h
        exact Fr_iret (by decide +kernel) rfl ⟨rfl, rfl⟩
      · have h := iF hc h
        refine Fr_iconst (i := 2) (v := 2) (by decide +kernel) (by decide) ?_
        refine Fr_goto (off := 4) 34 (by decide +kernel) (by decide) ?_
        obtain rfl := Option.some.inj h
        exact Fr_iret (by decide +kernel) rfl ⟨rfl, rfl⟩
    · have h := iF hc h
      refine Fr_iconst (i := 1) (v := 1) (by decide +kernel) (by decide) ?_
      refine Fr_goto (off := 15) 34 (by decide +kernel) (by decide) ?_
      obtain rfl := Option.some.inj h
      exact Fr_iret (by decide +kernel) rfl ⟨rfl, rfl⟩
  · have h := iF hc h
    refine Fr_iconst (i := 0) (v := 0) (by decide +kernel) (by decide) ?_
    refine Fr_goto (off := 26) 34 (by decide +kernel) (by decide) ?_
    obtain rfl := Option.some.inj h
    exact Fr_iret (by decide +kernel) rfl ⟨rfl, rfl⟩
set_option maxRecDepth 20000 in
theorem t_X12_isEnd {M : Mem} {q : Bool × Mem} (h : f_X12_isEnd M = some q) : Ev 200 21 1 m_X12_isEnd [.ref 200] M (QB q) := by
  refine Ev_of_Fr (by decide +kernel) (Nat.le_of_ble_eq_true rfl) ?_
  show Fr 200 21 1 m_X12_isEnd 0 [(0, .ref 200)] [] M (QB q)
  unfold f_X12_isEnd at h
  refine Fr_aload_n (q := 0) (i := 0) 0 (by decide +kernel) rfl rfl ?_
  refine Fr_bipush (i := 101) (v := 101) (by decide +kernel) (by decide) ?_
  refine Fr_bipush (i := 110) (v := 110) (by decide +kernel) (by decide) ?_
  refine Fr_bipush (i := 100) (v := 100) (by decide +kernel) (by decide) ?_
  refine Fr_iconst (i := 0) (v := 0) (by decide +kernel) (by decide) ?_
  refine Fr_iconst (i := 0) (v := 0) (by decide +kernel) (by decide) ?_
  refine Fr_iconst (i := 0) (v := 0) (by decide +kernel) (by decide) ?_
  obtain ⟨r_3, M_1, hc_2, h⟩ := bi_elim h
  refine Fr_cSj (ν := m_X12_spelled) (As := [.int 101, .int 110, .int 100, .int 0, .int 0, .int 0]) (st := [.ref 200]) (d' := 0) (by decide +kernel) ml_X12_164 cs_X12_spelled rfl (by decide) (Nat.le_of_ble_eq_true rfl) (t_X12_spelled hc_2) ?_
  obtain ⟨r_6, M_4, hc_5, h⟩ := bi_elim h
  refine Fr_cVb (ν := m_X12_isWord) (As := [.long r_3]) (st := []) (rc := 200) (ci := 12) (d' := 0) (by decide +kernel) ml_X12_168 cv_X12_isWord rfl (by decide) rfl ob_200 rfl (by decide) (Nat.le_of_ble_eq_true rfl) (t_X12_isWord hc_5) ?_
  obtain rfl := Option.some.inj h
  exact Fr_zret (by decide +kernel) rfl (nz_b r_6) ⟨rfl, rfl⟩
set_option maxRecDepth 20000 in
theorem t_X12_isKept {M : Mem} {q : Bool × Mem} (h : f_X12_isKept M = some q) : Ev 200 21 3 m_X12_isKept [.ref 200] M (QB q) := by
  refine Ev_of_Fr (by decide +kernel) (Nat.le_of_ble_eq_true rfl) ?_
  show Fr 200 21 3 m_X12_isKept 0 [(0, .ref 200)] [] M (QB q)
  unfold f_X12_isKept at h
  refine Fr_aload_n (q := 0) (i := 0) 0 (by decide +kernel) rfl rfl ?_
  obtain ⟨r_3, M_1, hc_2, h⟩ := bi_elim h
  refine Fr_cVb (ν := m_X12_isPort) (As := []) (st := []) (rc := 200) (ci := 12) (d' := 1) (by decide +kernel) ml_X12_187 cv_X12_isPort rfl (by decide) rfl ob_200 rfl (by decide) (Nat.le_of_ble_eq_true rfl) (t_X12_isPort hc_2) ?_
  refine Fr_if_ne (off := 73) 77 (by decide +kernel) (by decide) (fun hc => ?_) (fun hc => ?_)
  · have h := iF hc h
    refine Fr_iconst (i := 1) (v := 1) (by decide +kernel) (by decide) ?_
    obtain rfl := Option.some.inj h
    exact Fr_zret (by decide +kernel) rfl (by decide) ⟨rfl, rfl⟩
  · have h := iT hc h
    refine Fr_aload_n (q := 0) (i := 0) 0 (by decide +kernel) rfl rfl ?_
    obtain ⟨r_6, M_4, hc_5, h⟩ := bi_elim h
    refine Fr_cVb (ν := m_X12_isBy) (As := []) (st := []) (rc := 200) (ci := 12) (d' := 1) (by decide +kernel) ml_X12_190 cv_X12_isBy rfl (by decide) rfl ob_200 rfl (by decide) (Nat.le_of_ble_eq_true rfl) (t_X12_isBy hc_5) ?_
    refine Fr_if_ne (off := 66) 77 (by decide +kernel) (by decide) (fun hc => ?_) (fun hc => ?_)
    · have h := iF hc h
      refine Fr_iconst (i := 1) (v := 1) (by decide +kernel) (by decide) ?_
      obtain rfl := Option.some.inj h
      exact Fr_zret (by decide +kernel) rfl (by decide) ⟨rfl, rfl⟩
    · have h := iT hc h
      refine Fr_aload_n (q := 0) (i := 0) 0 (by decide +kernel) rfl rfl ?_
      obtain ⟨r_9, M_7, hc_8, h⟩ := bi_elim h
      refine Fr_cVb (ν := m_X12_isGate) (As := []) (st := []) (rc := 200) (ci := 12) (d' := 1) (by decide +kernel) ml_X12_193 cv_X12_isGate rfl (by decide) rfl ob_200 rfl (by decide) (Nat.le_of_ble_eq_true rfl) (t_X12_isGate hc_8) ?_
      refine Fr_if_ne (off := 59) 77 (by decide +kernel) (by decide) (fun hc => ?_) (fun hc => ?_)
      · have h := iF hc h
        refine Fr_iconst (i := 1) (v := 1) (by decide +kernel) (by decide) ?_
        obtain rfl := Option.some.inj h
        exact Fr_zret (by decide +kernel) rfl (by decide) ⟨rfl, rfl⟩
      · have h := iT hc h
        refine Fr_aload_n (q := 0) (i := 0) 0 (by decide +kernel) rfl rfl ?_
        obtain ⟨r_12, M_10, hc_11, h⟩ := bi_elim h
        refine Fr_cVb (ν := m_X12_isAt) (As := []) (st := []) (rc := 200) (ci := 12) (d' := 1) (by decide +kernel) ml_X12_196 cv_X12_isAt rfl (by decide) rfl ob_200 rfl (by decide) (Nat.le_of_ble_eq_true rfl) (t_X12_isAt hc_11) ?_
        refine Fr_if_ne (off := 52) 77 (by decide +kernel) (by decide) (fun hc => ?_) (fun hc => ?_)
        · have h := iF hc h
          refine Fr_iconst (i := 1) (v := 1) (by decide +kernel) (by decide) ?_
          obtain rfl := Option.some.inj h
          exact Fr_zret (by decide +kernel) rfl (by decide) ⟨rfl, rfl⟩
        · have h := iT hc h
          refine Fr_aload_n (q := 0) (i := 0) 0 (by decide +kernel) rfl rfl ?_
          obtain ⟨r_15, M_13, hc_14, h⟩ := bi_elim h
          refine Fr_cVb (ν := m_X12_isAnswers) (As := []) (st := []) (rc := 200) (ci := 12) (d' := 1) (by decide +kernel) ml_X12_199 cv_X12_isAnswers rfl (by decide) rfl ob_200 rfl (by decide) (Nat.le_of_ble_eq_true rfl) (t_X12_isAnswers hc_14) ?_
          refine Fr_if_ne (off := 45) 77 (by decide +kernel) (by decide) (fun hc => ?_) (fun hc => ?_)
          · have h := iF hc h
            refine Fr_iconst (i := 1) (v := 1) (by decide +kernel) (by decide) ?_
            obtain rfl := Option.some.inj h
            exact Fr_zret (by decide +kernel) rfl (by decide) ⟨rfl, rfl⟩
          · have h := iT hc h
            refine Fr_aload_n (q := 0) (i := 0) 0 (by decide +kernel) rfl rfl ?_
            obtain ⟨r_18, M_16, hc_17, h⟩ := bi_elim h
            refine Fr_cVb (ν := m_X12_isQuota) (As := []) (st := []) (rc := 200) (ci := 12) (d' := 1) (by decide +kernel) ml_X12_202 cv_X12_isQuota rfl (by decide) rfl ob_200 rfl (by decide) (Nat.le_of_ble_eq_true rfl) (t_X12_isQuota hc_17) ?_
            refine Fr_if_ne (off := 38) 77 (by decide +kernel) (by decide) (fun hc => ?_) (fun hc => ?_)
            · have h := iF hc h
              refine Fr_iconst (i := 1) (v := 1) (by decide +kernel) (by decide) ?_
              obtain rfl := Option.some.inj h
              exact Fr_zret (by decide +kernel) rfl (by decide) ⟨rfl, rfl⟩
            · have h := iT hc h
              refine Fr_aload_n (q := 0) (i := 0) 0 (by decide +kernel) rfl rfl ?_
              obtain ⟨r_21, M_19, hc_20, h⟩ := bi_elim h
              refine Fr_cVb (ν := m_X12_isHolder) (As := []) (st := []) (rc := 200) (ci := 12) (d' := 1) (by decide +kernel) ml_X12_205 cv_X12_isHolder rfl (by decide) rfl ob_200 rfl (by decide) (Nat.le_of_ble_eq_true rfl) (t_X12_isHolder hc_20) ?_
              refine Fr_if_ne (off := 31) 77 (by decide +kernel) (by decide) (fun hc => ?_) (fun hc => ?_)
              · have h := iF hc h
                refine Fr_iconst (i := 1) (v := 1) (by decide +kernel) (by decide) ?_
                obtain rfl := Option.some.inj h
                exact Fr_zret (by decide +kernel) rfl (by decide) ⟨rfl, rfl⟩
              · have h := iT hc h
                refine Fr_aload_n (q := 0) (i := 0) 0 (by decide +kernel) rfl rfl ?_
                obtain ⟨r_24, M_22, hc_23, h⟩ := bi_elim h
                refine Fr_cVb (ν := m_X12_isVotes) (As := []) (st := []) (rc := 200) (ci := 12) (d' := 1) (by decide +kernel) ml_X12_208 cv_X12_isVotes rfl (by decide) rfl ob_200 rfl (by decide) (Nat.le_of_ble_eq_true rfl) (t_X12_isVotes hc_23) ?_
                refine Fr_if_ne (off := 24) 77 (by decide +kernel) (by decide) (fun hc => ?_) (fun hc => ?_)
                · have h := iF hc h
                  refine Fr_iconst (i := 1) (v := 1) (by decide +kernel) (by decide) ?_
                  obtain rfl := Option.some.inj h
                  exact Fr_zret (by decide +kernel) rfl (by decide) ⟨rfl, rfl⟩
                · have h := iT hc h
                  refine Fr_aload_n (q := 0) (i := 0) 0 (by decide +kernel) rfl rfl ?_
                  obtain ⟨r_27, M_25, hc_26, h⟩ := bi_elim h
                  refine Fr_cVb (ν := m_X12_isTrade) (As := []) (st := []) (rc := 200) (ci := 12) (d' := 1) (by decide +kernel) ml_X12_211 cv_X12_isTrade rfl (by decide) rfl ob_200 rfl (by decide) (Nat.le_of_ble_eq_true rfl) (t_X12_isTrade hc_26) ?_
                  refine Fr_if_ne (off := 17) 77 (by decide +kernel) (by decide) (fun hc => ?_) (fun hc => ?_)
                  · have h := iF hc h
                    refine Fr_iconst (i := 1) (v := 1) (by decide +kernel) (by decide) ?_
                    obtain rfl := Option.some.inj h
                    exact Fr_zret (by decide +kernel) rfl (by decide) ⟨rfl, rfl⟩
                  · have h := iT hc h
                    refine Fr_aload_n (q := 0) (i := 0) 0 (by decide +kernel) rfl rfl ?_
                    obtain ⟨r_30, M_28, hc_29, h⟩ := bi_elim h
                    refine Fr_cVb (ν := m_X12_isFrom) (As := []) (st := []) (rc := 200) (ci := 12) (d' := 1) (by decide +kernel) ml_X12_214 cv_X12_isFrom rfl (by decide) rfl ob_200 rfl (by decide) (Nat.le_of_ble_eq_true rfl) (t_X12_isFrom hc_29) ?_
                    refine Fr_if_ne (off := 10) 77 (by decide +kernel) (by decide) (fun hc => ?_) (fun hc => ?_)
                    · have h := iF hc h
                      refine Fr_iconst (i := 1) (v := 1) (by decide +kernel) (by decide) ?_
                      obtain rfl := Option.some.inj h
                      exact Fr_zret (by decide +kernel) rfl (by decide) ⟨rfl, rfl⟩
                    · have h := iT hc h
                      refine Fr_aload_n (q := 0) (i := 0) 0 (by decide +kernel) rfl rfl ?_
                      obtain ⟨r_33, M_31, hc_32, h⟩ := bi_elim h
                      refine Fr_cVb (ν := m_X12_isTo) (As := []) (st := []) (rc := 200) (ci := 12) (d' := 1) (by decide +kernel) ml_X12_217 cv_X12_isTo rfl (by decide) rfl ob_200 rfl (by decide) (Nat.le_of_ble_eq_true rfl) (t_X12_isTo hc_32) ?_
                      refine Fr_if_eq (off := 5) 79 (by decide +kernel) (by decide) (fun hc => ?_) (fun hc => ?_)
                      · have h := iT hc h
                        refine Fr_aload_n (q := 0) (i := 0) 0 (by decide +kernel) rfl rfl ?_
                        obtain ⟨r_36, M_34, hc_35, h⟩ := bi_elim h
                        refine Fr_cVb (ν := m_X12_isPays) (As := []) (st := []) (rc := 200) (ci := 12) (d' := 1) (by decide +kernel) ml_X12_220 cv_X12_isPays rfl (by decide) rfl ob_200 rfl (by decide) (Nat.le_of_ble_eq_true rfl) (t_X12_isPays hc_35) ?_
                        refine Fr_if_ne (off := 31) 114 (by decide +kernel) (by decide) (fun hc => ?_) (fun hc => ?_)
                        · have h := iF hc h
                          refine Fr_iconst (i := 1) (v := 1) (by decide +kernel) (by decide) ?_
                          obtain rfl := Option.some.inj h
                          exact Fr_zret (by decide +kernel) rfl (by decide) ⟨rfl, rfl⟩
                        · have h := iT hc h
                          refine Fr_aload_n (q := 0) (i := 0) 0 (by decide +kernel) rfl rfl ?_
                          obtain ⟨r_39, M_37, hc_38, h⟩ := bi_elim h
                          refine Fr_cVb (ν := m_X12_isClear) (As := []) (st := []) (rc := 200) (ci := 12) (d' := 1) (by decide +kernel) ml_X12_223 cv_X12_isClear rfl (by decide) rfl ob_200 rfl (by decide) (Nat.le_of_ble_eq_true rfl) (t_X12_isClear hc_38) ?_
                          refine Fr_if_ne (off := 24) 114 (by decide +kernel) (by decide) (fun hc => ?_) (fun hc => ?_)
                          · have h := iF hc h
                            refine Fr_iconst (i := 1) (v := 1) (by decide +kernel) (by decide) ?_
                            obtain rfl := Option.some.inj h
                            exact Fr_zret (by decide +kernel) rfl (by decide) ⟨rfl, rfl⟩
                          · have h := iT hc h
                            refine Fr_aload_n (q := 0) (i := 0) 0 (by decide +kernel) rfl rfl ?_
                            obtain ⟨r_42, M_40, hc_41, h⟩ := bi_elim h
                            refine Fr_cVb (ν := m_X12_isShip) (As := []) (st := []) (rc := 200) (ci := 12) (d' := 1) (by decide +kernel) ml_X12_226 cv_X12_isShip rfl (by decide) rfl ob_200 rfl (by decide) (Nat.le_of_ble_eq_true rfl) (t_X12_isShip hc_41) ?_
                            refine Fr_if_ne (off := 17) 114 (by decide +kernel) (by decide) (fun hc => ?_) (fun hc => ?_)
                            · have h := iF hc h
                              refine Fr_iconst (i := 1) (v := 1) (by decide +kernel) (by decide) ?_
                              obtain rfl := Option.some.inj h
                              exact Fr_zret (by decide +kernel) rfl (by decide) ⟨rfl, rfl⟩
                            · have h := iT hc h
                              refine Fr_aload_n (q := 0) (i := 0) 0 (by decide +kernel) rfl rfl ?_
                              obtain ⟨r_45, M_43, hc_44, h⟩ := bi_elim h
                              refine Fr_cVb (ν := m_X12_isDark) (As := []) (st := []) (rc := 200) (ci := 12) (d' := 1) (by decide +kernel) ml_X12_229 cv_X12_isDark rfl (by decide) rfl ob_200 rfl (by decide) (Nat.le_of_ble_eq_true rfl) (t_X12_isDark hc_44) ?_
                              refine Fr_if_ne (off := 10) 114 (by decide +kernel) (by decide) (fun hc => ?_) (fun hc => ?_)
                              · have h := iF hc h
                                refine Fr_iconst (i := 1) (v := 1) (by decide +kernel) (by decide) ?_
                                obtain rfl := Option.some.inj h
                                exact Fr_zret (by decide +kernel) rfl (by decide) ⟨rfl, rfl⟩
                              · have h := iT hc h
                                refine Fr_aload_n (q := 0) (i := 0) 0 (by decide +kernel) rfl rfl ?_
                                obtain ⟨r_48, M_46, hc_47, h⟩ := bi_elim h
                                refine Fr_cVb (ν := m_X12_isThins) (As := []) (st := []) (rc := 200) (ci := 12) (d' := 1) (by decide +kernel) ml_X12_232 cv_X12_isThins rfl (by decide) rfl ob_200 rfl (by decide) (Nat.le_of_ble_eq_true rfl) (t_X12_isThins hc_47) ?_
                                refine Fr_if_eq (off := 5) 116 (by decide +kernel) (by decide) (fun hc => ?_) (fun hc => ?_)
                                · have h := iT hc h
                                  refine Fr_aload_n (q := 0) (i := 0) 0 (by decide +kernel) rfl rfl ?_
                                  obtain ⟨r_51, M_49, hc_50, h⟩ := bi_elim h
                                  refine Fr_cVi (ν := m_X12_stepWord) (As := []) (st := []) (rc := 200) (ci := 12) (d' := 2) (by decide +kernel) ml_X12_235 cv_X12_stepWord rfl (by decide) rfl ob_200 rfl (by decide) (Nat.le_of_ble_eq_true rfl) (t_X12_stepWord hc_50) ?_
                                  refine Fr_if_ge (off := 17) 137 (by decide +kernel) (by decide) (fun hc => ?_) (fun hc => ?_)
                                  · have h := iT hc h
                                    refine Fr_iconst (i := 1) (v := 1) (by decide +kernel) (by decide) ?_
                                    refine Fr_goto (off := 4) 142 (by decide +kernel) (by decide) ?_
                                    obtain rfl := Option.some.inj h
                                    exact Fr_zret (by decide +kernel) rfl (by decide) ⟨rfl, rfl⟩
                                  · have h := iF hc h
                                    refine Fr_aload_n (q := 0) (i := 0) 0 (by decide +kernel) rfl rfl ?_
                                    obtain ⟨r_54, M_52, hc_53, h⟩ := bi_elim h
                                    refine Fr_cVi (ν := m_X12_testWord) (As := []) (st := []) (rc := 200) (ci := 12) (d' := 2) (by decide +kernel) ml_X12_239 cv_X12_testWord rfl (by decide) rfl ob_200 rfl (by decide) (Nat.le_of_ble_eq_true rfl) (t_X12_testWord hc_53) ?_
                                    refine Fr_if_ge (off := 10) 137 (by decide +kernel) (by decide) (fun hc => ?_) (fun hc => ?_)
                                    · have h := iT hc h
                                      refine Fr_iconst (i := 1) (v := 1) (by decide +kernel) (by decide) ?_
                                      refine Fr_goto (off := 4) 142 (by decide +kernel) (by decide) ?_
                                      obtain rfl := Option.some.inj h
                                      exact Fr_zret (by decide +kernel) rfl (by decide) ⟨rfl, rfl⟩
                                    · have h := iF hc h
                                      refine Fr_aload_n (q := 0) (i := 0) 0 (by decide +kernel) rfl rfl ?_
                                      obtain ⟨r_57, M_55, hc_56, h⟩ := bi_elim h
                                      refine Fr_cVb (ν := m_X12_isEnd) (As := []) (st := []) (rc := 200) (ci := 12) (d' := 1) (by decide +kernel) ml_X12_242 cv_X12_isEnd rfl (by decide) rfl ob_200 rfl (by decide) (Nat.le_of_ble_eq_true rfl) (t_X12_isEnd hc_56) ?_
                                      refine Fr_if_eq (off := 7) 141 (by decide +kernel) (by decide) (fun hc => ?_) (fun hc => ?_)
                                      · have h := iT hc h
                                        refine Fr_iconst (i := 0) (v := 0) (by decide +kernel) (by decide) ?_
                                        obtain rfl := Option.some.inj h
                                        exact Fr_zret (by decide +kernel) rfl (by decide) ⟨rfl, rfl⟩
                                      · have h := iF hc h
                                        refine Fr_iconst (i := 1) (v := 1) (by decide +kernel) (by decide) ?_
                                        refine Fr_goto (off := 4) 142 (by decide +kernel) (by decide) ?_
                                        obtain rfl := Option.some.inj h
                                        exact Fr_zret (by decide +kernel) rfl (by decide) ⟨rfl, rfl⟩
                                · have h := iF hc h
                                  refine Fr_iconst (i := 1) (v := 1) (by decide +kernel) (by decide) ?_
                                  obtain rfl := Option.some.inj h
                                  exact Fr_zret (by decide +kernel) rfl (by decide) ⟨rfl, rfl⟩
                      · have h := iF hc h
                        refine Fr_iconst (i := 1) (v := 1) (by decide +kernel) (by decide) ?_
                        obtain rfl := Option.some.inj h
                        exact Fr_zret (by decide +kernel) rfl (by decide) ⟨rfl, rfl⟩
set_option maxRecDepth 20000 in
theorem t_X12_isName {M : Mem} {q : Bool × Mem} (h : f_X12_isName M = some q) : Ev 200 21 4 m_X12_isName [.ref 200] M (QB q) := by
  refine Ev_of_Fr (by decide +kernel) (Nat.le_of_ble_eq_true rfl) ?_
  show Fr 200 21 4 m_X12_isName 0 [(0, .ref 200)] [] M (QB q)
  unfold f_X12_isName at h
  refine Fr_aload_n (q := 0) (i := 0) 0 (by decide +kernel) rfl rfl ?_
  refine gf_X12_139 rfl (by decide +kernel) ob_200 ?_
  refine Fr_iconst (i := 1) (v := 1) (by decide +kernel) (by decide) ?_
  refine Fr_icmp_ne (off := 23) 28 (by decide +kernel) (by decide) (fun hc => ?_) (fun hc => ?_)
  · have h := iF hc h
    refine Fr_iconst (i := 0) (v := 0) (by decide +kernel) (by decide) ?_
    obtain rfl := Option.some.inj h
    exact Fr_zret (by decide +kernel) rfl (by decide) ⟨rfl, rfl⟩
  · have h := iT hc h
    refine Fr_aload_n (q := 0) (i := 0) 0 (by decide +kernel) rfl rfl ?_
    refine gf_X12_152 rfl (by decide +kernel) ob_200 ?_
    refine Fr_bipush (i := 8) (v := 8) (by decide +kernel) (by decide) ?_
    refine Fr_icmp_gt (off := 14) 28 (by decide +kernel) (by decide) (fun hc => ?_) (fun hc => ?_)
    · have h := iT hc h
      refine Fr_iconst (i := 0) (v := 0) (by decide +kernel) (by decide) ?_
      obtain rfl := Option.some.inj h
      exact Fr_zret (by decide +kernel) rfl (by decide) ⟨rfl, rfl⟩
    · have h := iF hc h
      refine Fr_aload_n (q := 0) (i := 0) 0 (by decide +kernel) rfl rfl ?_
      obtain ⟨r_3, M_1, hc_2, h⟩ := bi_elim h
      refine Fr_cVb (ν := m_X12_isKept) (As := []) (st := []) (rc := 200) (ci := 12) (d' := 3) (by decide +kernel) ml_X12_245 cv_X12_isKept rfl (by decide) rfl ob_200 rfl (by decide) (Nat.le_of_ble_eq_true rfl) (t_X12_isKept hc_2) ?_
      refine Fr_if_ne (off := 7) 28 (by decide +kernel) (by decide) (fun hc => ?_) (fun hc => ?_)
      · have h := iF hc h
        refine Fr_iconst (i := 0) (v := 0) (by decide +kernel) (by decide) ?_
        obtain rfl := Option.some.inj h
        exact Fr_zret (by decide +kernel) rfl (by decide) ⟨rfl, rfl⟩
      · have h := iT hc h
        refine Fr_iconst (i := 1) (v := 1) (by decide +kernel) (by decide) ?_
        refine Fr_goto (off := 4) 29 (by decide +kernel) (by decide) ?_
        obtain rfl := Option.some.inj h
        exact Fr_zret (by decide +kernel) rfl (by decide) ⟨rfl, rfl⟩
set_option maxRecDepth 20000 in
theorem t_X12_fail {x1 : Int32} {x2 : Int32} {M : Mem} {q : Mem} (h : f_X12_fail x1 x2 M = some q) : Ev 200 21 0 m_X12_fail [.ref 200, .int x1, .int x2] M (QV q) := by
  refine Ev_of_Fr (by decide +kernel) (Nat.le_of_ble_eq_true rfl) ?_
  show Fr 200 21 0 m_X12_fail 0 [(0, .ref 200), (1, .int x1), (2, .int x2)] [] M (QV q)
  unfold f_X12_fail at h
  refine Fr_aload_n (q := 0) (i := 0) 0 (by decide +kernel) rfl rfl ?_
  refine gf_X12_248 rfl (by decide +kernel) ob_200 ?_
  refine Fr_if_le (off := 4) 8 (by decide +kernel) (by decide) (fun hc => ?_) (fun hc => ?_)
  · have h := iT hc h
    refine Fr_aload_n (q := 0) (i := 0) 0 (by decide +kernel) rfl rfl ?_
    refine Fr_iload_n (q := 1) (i := 1) 1 (by decide +kernel) rfl rfl ?_
    refine pf_X12_248 rfl (by decide +kernel) ob_200 ?_
    obtain ⟨M_1, eM_1, h⟩ := bM_elim h
    refine Fr_mem eM_1 ?_
    refine Fr_aload_n (q := 0) (i := 0) 0 (by decide +kernel) rfl rfl ?_
    refine Fr_iload_n (q := 2) (i := 2) 2 (by decide +kernel) rfl rfl ?_
    refine pf_X12_251 rfl (by decide +kernel) ob_200 ?_
    obtain ⟨M_2, eM_2, h⟩ := bM_elim h
    refine Fr_mem eM_2 ?_
    obtain rfl := Option.some.inj h
    exact Fr_vret (by decide +kernel) rfl ⟨rfl, rfl⟩
  · have h := iF hc h
    obtain rfl := Option.some.inj h
    exact Fr_vret (by decide +kernel) rfl ⟨rfl, rfl⟩
set_option maxRecDepth 20000 in
theorem t_X12_amiss {M : Mem} {q : Mem} (h : f_X12_amiss M = some q) : Ev 200 21 1 m_X12_amiss [.ref 200] M (QV q) := by
  refine Ev_of_Fr (by decide +kernel) (Nat.le_of_ble_eq_true rfl) ?_
  show Fr 200 21 1 m_X12_amiss 0 [(0, .ref 200)] [] M (QV q)
  unfold f_X12_amiss at h
  refine Fr_aload_n (q := 0) (i := 0) 0 (by decide +kernel) rfl rfl ?_
  refine Fr_aload_n (q := 0) (i := 0) 0 (by decide +kernel) rfl rfl ?_
  refine gf_X12_139 rfl (by decide +kernel) ob_200 ?_
  refine Fr_iconst (i := 4) (v := 4) (by decide +kernel) (by decide) ?_
  refine Fr_icmp_ne (off := 7) 13 (by decide +kernel) (by decide) (fun hc => ?_) (fun hc => ?_)
  · have h := iF hc h
    refine Fr_iconst (i := 2) (v := 2) (by decide +kernel) (by decide) ?_
    refine Fr_aload_n (q := 0) (i := 0) 0 (by decide +kernel) rfl rfl ?_
    refine gf_X12_133 rfl (by decide +kernel) ob_200 ?_
    obtain ⟨M_1, hc_2, h⟩ := bv_elim h
    refine Fr_cVv (ν := m_X12_fail) (As := [.int 2, .int (M.1 200 15)]) (st := []) (rc := 200) (ci := 12) (d' := 0) (by decide +kernel) ml_X12_254 cv_X12_fail rfl (by decide) rfl ob_200 rfl (by decide) (Nat.le_of_ble_eq_true rfl) (t_X12_fail hc_2) ?_
    obtain rfl := Option.some.inj h
    exact Fr_vret (by decide +kernel) rfl ⟨rfl, rfl⟩
  · have h := iT hc h
    refine Fr_iconst (i := 1) (v := 1) (by decide +kernel) (by decide) ?_
    refine Fr_goto (off := 4) 14 (by decide +kernel) (by decide) ?_
    refine Fr_aload_n (q := 0) (i := 0) 0 (by decide +kernel) rfl rfl ?_
    refine gf_X12_133 rfl (by decide +kernel) ob_200 ?_
    obtain ⟨M_3, hc_4, h⟩ := bv_elim h
    refine Fr_cVv (ν := m_X12_fail) (As := [.int 1, .int (M.1 200 15)]) (st := []) (rc := 200) (ci := 12) (d' := 0) (by decide +kernel) ml_X12_254 cv_X12_fail rfl (by decide) rfl ob_200 rfl (by decide) (Nat.le_of_ble_eq_true rfl) (t_X12_fail hc_4) ?_
    obtain rfl := Option.some.inj h
    exact Fr_vret (by decide +kernel) rfl ⟨rfl, rfl⟩
set_option maxRecDepth 20000 in
theorem t_X12_must {N : Nat} {x1 : Int32} {M : Mem} {q : Mem} (h : f_X12_must N x1 M = some q) : Ev 200 21 2 m_X12_must [.ref 200, .int x1] M (QV q) := by
  refine Ev_of_Fr (by decide +kernel) (Nat.le_of_ble_eq_true rfl) ?_
  show Fr 200 21 2 m_X12_must 0 [(0, .ref 200), (1, .int x1)] [] M (QV q)
  unfold f_X12_must at h
  refine Fr_aload_n (q := 0) (i := 0) 0 (by decide +kernel) rfl rfl ?_
  refine gf_X12_248 rfl (by decide +kernel) ob_200 ?_
  refine Fr_if_le (off := 4) 8 (by decide +kernel) (by decide) (fun hc => ?_) (fun hc => ?_)
  · have h := iT hc h
    refine Fr_iload_n (q := 1) (i := 1) 1 (by decide +kernel) rfl rfl ?_
    refine Fr_if_eq (off := 10) 19 (by decide +kernel) (by decide) (fun hc => ?_) (fun hc => ?_)
    · have h := iT hc h
      refine Fr_aload_n (q := 0) (i := 0) 0 (by decide +kernel) rfl rfl ?_
      obtain ⟨M_1, hc_2, h⟩ := bv_elim h
      refine Fr_cVv (ν := m_X12_amiss) (As := []) (st := []) (rc := 200) (ci := 12) (d' := 1) (by decide +kernel) ml_X12_261 cv_X12_amiss rfl (by decide) rfl ob_200 rfl (by decide) (Nat.le_of_ble_eq_true rfl) (t_X12_amiss hc_2) ?_
      obtain rfl := Option.some.inj h
      exact Fr_vret (by decide +kernel) rfl ⟨rfl, rfl⟩
    · have h := iF hc h
      refine Fr_aload_n (q := 0) (i := 0) 0 (by decide +kernel) rfl rfl ?_
      obtain ⟨M_3, hc_4, h⟩ := bv_elim h
      refine Fr_cVv (ν := m_X12_advance) (As := []) (st := []) (rc := 200) (ci := 12) (d' := 1) (by decide +kernel) ml_X12_258 cv_X12_advance rfl (by decide) rfl ob_200 rfl (by decide) (Nat.le_of_ble_eq_true rfl) (t_X12_advance hc_4) ?_
      refine Fr_goto (off := 7) 23 (by decide +kernel) (by decide) ?_
      obtain rfl := Option.some.inj h
      exact Fr_vret (by decide +kernel) rfl ⟨rfl, rfl⟩
  · have h := iF hc h
    obtain rfl := Option.some.inj h
    exact Fr_vret (by decide +kernel) rfl ⟨rfl, rfl⟩
set_option maxRecDepth 20000 in
theorem t_X12_count_b50 {N : Nat} {q : Int32 × Mem} {M : Mem} (h : f_X12_count_b50 N M = some q) : Fr 200 21 2 m_X12_count 50 [(0, .ref 200)] [] M (QI q) := by
  unfold f_X12_count_b50 at h
  refine Fr_aload_n (q := 0) (i := 0) 0 (by decide +kernel) rfl rfl ?_
  refine gf_X12_248 rfl (by decide +kernel) ob_200 ?_
  refine Fr_if_le (off := 5) 59 (by decide +kernel) (by decide) (fun hc => ?_) (fun hc => ?_)
  · have h := iT hc h
    refine Fr_aload_n (q := 0) (i := 0) 0 (by decide +kernel) rfl rfl ?_
    refine gf_X12_158 rfl (by decide +kernel) ob_200 ?_
    refine Fr_istore_n (q := 3) (i := 3) (lv' := [(3, .int (M.1 200 17)), (0, .ref 200)]) (by decide +kernel) rfl (by decide) rfl ?_
    refine Fr_aload_n (q := 0) (i := 0) 1 (by decide +kernel) rfl rfl ?_
    obtain ⟨M_1, hc_2, h⟩ := bv_elim h
    refine Fr_cVv (ν := m_X12_advance) (As := []) (st := []) (rc := 200) (ci := 12) (d' := 1) (by decide +kernel) ml_X12_258 cv_X12_advance rfl (by decide) rfl ob_200 rfl (by decide) (Nat.le_of_ble_eq_true rfl) (t_X12_advance hc_2) ?_
    refine Fr_iload_n (q := 3) (i := 3) 0 (by decide +kernel) rfl rfl ?_
    obtain rfl := Option.some.inj h
    exact Fr_iret (by decide +kernel) rfl ⟨rfl, rfl⟩
  · have h := iF hc h
    refine Fr_iconst (i := 0) (v := 0) (by decide +kernel) (by decide) ?_
    obtain rfl := Option.some.inj h
    exact Fr_iret (by decide +kernel) rfl ⟨rfl, rfl⟩
set_option maxRecDepth 20000 in
theorem t_X12_count_b19 {N : Nat} {q : Int32 × Mem} {v1 : Int32} {v2 : Int32} {M : Mem} (h : f_X12_count_b19 N v1 v2 M = some q) : Fr 200 21 2 m_X12_count 19 [(0, .ref 200), (1, .int v1), (2, .int v2)] [] M (QI q) := by
  unfold f_X12_count_b19 at h
  refine Fr_aload_n (q := 0) (i := 0) 0 (by decide +kernel) rfl rfl ?_
  refine gf_X12_248 rfl (by decide +kernel) ob_200 ?_
  refine Fr_if_ne (off := 27) 50 (by decide +kernel) (by decide) (fun hc => ?_) (fun hc => ?_)
  · have h := iF hc h
    refine Fr_loc [0] rfl ?_
    exact t_X12_count_b50 h
  · have h := iT hc h
    refine Fr_aload_n (q := 0) (i := 0) 0 (by decide +kernel) rfl rfl ?_
    refine gf_X12_158 rfl (by decide +kernel) ob_200 ?_
    refine Fr_i2l (by decide +kernel) ?_
    refine Fr_iload_n (q := 1) (i := 1) 1 (by decide +kernel) rfl rfl ?_
    refine Fr_i2l (by decide +kernel) ?_
    refine Fr_iload_n (q := 2) (i := 2) 2 (by decide +kernel) rfl rfl ?_
    refine Fr_i2l (by decide +kernel) ?_
    obtain ⟨r_5, M_3, hc_4, h⟩ := bi_elim h
    refine Fr_cSb (ν := m_X12_isIn) (As := [.long (Int32.toInt64 (M.1 200 17)), .long (Int32.toInt64 v1), .long (Int32.toInt64 v2)]) (st := []) (d' := 0) (by decide +kernel) ml_X12_119 cs_X12_isIn rfl (by decide) (Nat.le_of_ble_eq_true rfl) (t_X12_isIn hc_4) ?_
    refine Fr_if_ne (off := 12) 50 (by decide +kernel) (by decide) (fun hc => ?_) (fun hc => ?_)
    · have h := iF hc h
      refine Fr_loc [0] rfl ?_
      exact t_X12_count_b50 h
    · have h := iT hc h
      refine Fr_aload_n (q := 0) (i := 0) 0 (by decide +kernel) rfl rfl ?_
      refine Fr_iconst (i := 4) (v := 4) (by decide +kernel) (by decide) ?_
      refine Fr_aload_n (q := 0) (i := 0) 0 (by decide +kernel) rfl rfl ?_
      refine gf_X12_133 rfl (by decide +kernel) ob_200 ?_
      obtain ⟨M_6, hc_7, h⟩ := bv_elim h
      refine Fr_cVv (ν := m_X12_fail) (As := [.int 4, .int (M_3.1 200 15)]) (st := []) (rc := 200) (ci := 12) (d' := 0) (by decide +kernel) ml_X12_254 cv_X12_fail rfl (by decide) rfl ob_200 rfl (by decide) (Nat.le_of_ble_eq_true rfl) (t_X12_fail hc_7) ?_
      refine Fr_loc [0] rfl ?_
      exact t_X12_count_b50 h
set_option maxRecDepth 20000 in
theorem t_X12_count {N : Nat} {x1 : Int32} {x2 : Int32} {M : Mem} {q : Int32 × Mem} (h : f_X12_count N x1 x2 M = some q) : Ev 200 21 2 m_X12_count [.ref 200, .int x1, .int x2] M (QI q) := by
  refine Ev_of_Fr (by decide +kernel) (Nat.le_of_ble_eq_true rfl) ?_
  show Fr 200 21 2 m_X12_count 0 [(0, .ref 200), (1, .int x1), (2, .int x2)] [] M (QI q)
  unfold f_X12_count at h
  refine Fr_aload_n (q := 0) (i := 0) 0 (by decide +kernel) rfl rfl ?_
  refine gf_X12_248 rfl (by decide +kernel) ob_200 ?_
  refine Fr_if_ne (off := 15) 19 (by decide +kernel) (by decide) (fun hc => ?_) (fun hc => ?_)
  · have h := iF hc h
    exact t_X12_count_b19 h
  · have h := iT hc h
    refine Fr_aload_n (q := 0) (i := 0) 0 (by decide +kernel) rfl rfl ?_
    refine gf_X12_139 rfl (by decide +kernel) ob_200 ?_
    refine Fr_iconst (i := 2) (v := 2) (by decide +kernel) (by decide) ?_
    refine Fr_icmp_eq (off := 7) 19 (by decide +kernel) (by decide) (fun hc => ?_) (fun hc => ?_)
    · have h := iT hc h
      exact t_X12_count_b19 h
    · have h := iF hc h
      refine Fr_aload_n (q := 0) (i := 0) 0 (by decide +kernel) rfl rfl ?_
      obtain ⟨M_8, hc_9, h⟩ := bv_elim h
      refine Fr_cVv (ν := m_X12_amiss) (As := []) (st := []) (rc := 200) (ci := 12) (d' := 1) (by decide +kernel) ml_X12_261 cv_X12_amiss rfl (by decide) rfl ob_200 rfl (by decide) (Nat.le_of_ble_eq_true rfl) (t_X12_amiss hc_9) ?_
      exact t_X12_count_b19 h
set_option maxRecDepth 20000 in
theorem t_X12_behindWord {N : Nat} {x1 : Int32} {x2 : Int32} {x3 : Int32} {M : Mem} {q : Int32 × Mem} (h : f_X12_behindWord N x1 x2 x3 M = some q) : Ev 200 21 3 m_X12_behindWord [.ref 200, .int x1, .int x2, .int x3] M (QI q) := by
  refine Ev_of_Fr (by decide +kernel) (Nat.le_of_ble_eq_true rfl) ?_
  show Fr 200 21 3 m_X12_behindWord 0 [(0, .ref 200), (1, .int x1), (2, .int x2), (3, .int x3)] [] M (QI q)
  unfold f_X12_behindWord at h
  refine Fr_aload_n (q := 0) (i := 0) 0 (by decide +kernel) rfl rfl ?_
  refine Fr_iload_n (q := 1) (i := 1) 1 (by decide +kernel) rfl rfl ?_
  obtain ⟨M_1, hc_2, h⟩ := bv_elim h
  refine Fr_cVv (ν := m_X12_must) (As := [.int x1]) (st := []) (rc := 200) (ci := 12) (d' := 2) (by decide +kernel) ml_X12_264 cv_X12_must rfl (by decide) rfl ob_200 rfl (by decide) (Nat.le_of_ble_eq_true rfl) (t_X12_must hc_2) ?_
  refine Fr_aload_n (q := 0) (i := 0) 0 (by decide +kernel) rfl rfl ?_
  refine Fr_iload_n (q := 2) (i := 2) 2 (by decide +kernel) rfl rfl ?_
  refine Fr_iload_n (q := 3) (i := 3) 3 (by decide +kernel) rfl rfl ?_
  obtain ⟨r_5, M_3, hc_4, h⟩ := bi_elim h
  refine Fr_cVi (ν := m_X12_count) (As := [.int x2, .int x3]) (st := []) (rc := 200) (ci := 12) (d' := 2) (by decide +kernel) ml_X12_268 cv_X12_count rfl (by decide) rfl ob_200 rfl (by decide) (Nat.le_of_ble_eq_true rfl) (t_X12_count hc_4) ?_
  obtain rfl := Option.some.inj h
  exact Fr_iret (by decide +kernel) rfl ⟨rfl, rfl⟩
set_option maxRecDepth 20000 in
theorem t_X12_perhaps {N : Nat} {x1 : Int32} {M : Mem} {q : Bool × Mem} (h : f_X12_perhaps N x1 M = some q) : Ev 200 21 2 m_X12_perhaps [.ref 200, .int x1] M (QB q) := by
  refine Ev_of_Fr (by decide +kernel) (Nat.le_of_ble_eq_true rfl) ?_
  show Fr 200 21 2 m_X12_perhaps 0 [(0, .ref 200), (1, .int x1)] [] M (QB q)
  unfold f_X12_perhaps at h
  refine Fr_aload_n (q := 0) (i := 0) 0 (by decide +kernel) rfl rfl ?_
  refine gf_X12_248 rfl (by decide +kernel) ob_200 ?_
  refine Fr_if_gt (off := 7) 11 (by decide +kernel) (by decide) (fun hc => ?_) (fun hc => ?_)
  · have h := iT hc h
    refine Fr_iconst (i := 0) (v := 0) (by decide +kernel) (by decide) ?_
    obtain rfl := Option.some.inj h
    exact Fr_zret (by decide +kernel) rfl (by decide) ⟨rfl, rfl⟩
  · have h := iF hc h
    refine Fr_iload_n (q := 1) (i := 1) 1 (by decide +kernel) rfl rfl ?_
    refine Fr_if_ne (off := 5) 13 (by decide +kernel) (by decide) (fun hc => ?_) (fun hc => ?_)
    · have h := iF hc h
      refine Fr_aload_n (q := 0) (i := 0) 0 (by decide +kernel) rfl rfl ?_
      obtain ⟨M_1, hc_2, h⟩ := bv_elim h
      refine Fr_cVv (ν := m_X12_advance) (As := []) (st := []) (rc := 200) (ci := 12) (d' := 1) (by decide +kernel) ml_X12_258 cv_X12_advance rfl (by decide) rfl ob_200 rfl (by decide) (Nat.le_of_ble_eq_true rfl) (t_X12_advance hc_2) ?_
      refine Fr_iconst (i := 1) (v := 1) (by decide +kernel) (by decide) ?_
      obtain rfl := Option.some.inj h
      exact Fr_zret (by decide +kernel) rfl (by decide) ⟨rfl, rfl⟩
    · have h := iT hc h
      refine Fr_iconst (i := 0) (v := 0) (by decide +kernel) (by decide) ?_
      obtain rfl := Option.some.inj h
      exact Fr_zret (by decide +kernel) rfl (by decide) ⟨rfl, rfl⟩
set_option maxRecDepth 20000 in
theorem t_X12_lay_h2 {N : Nat} {q : Mem} {k2 : Int32 × Int32 → Mem → Option (Mem)} (hk2 : ∀ (a : Int32 × Int32) (M : Mem), k2 a M = some q → Fr 200 21 0 m_X12_lay 2 [(0, .ref 200), (1, .int a.1), (2, .int a.2)] [] M (QV q)) {v1 : Int32} {v2 : Int32} {M : Mem} (h : f_X12_lay_h2 N k2 v1 v2 M = some q) : Fr 200 21 0 m_X12_lay 2 [(0, .ref 200), (1, .int v1), (2, .int v2)] [] M (QV q) := by
  unfold f_X12_lay_h2 at h
  refine Fr_iload_n (q := 2) (i := 2) 2 (by decide +kernel) rfl rfl ?_
  refine Fr_if_lt (off := 35) 38 (by decide +kernel) (by decide) (fun hc => ?_) (fun hc => ?_)
  · have h := iT hc h
    obtain rfl := Option.some.inj h
    exact Fr_vret (by decide +kernel) rfl ⟨rfl, rfl⟩
  · have h := iF hc h
    refine Fr_aload_n (q := 0) (i := 0) 0 (by decide +kernel) rfl rfl ?_
    refine gf_X12_24 rfl (by decide +kernel) ob_200 ?_
    refine Fr_aload_n (q := 0) (i := 0) 0 (by decide +kernel) rfl rfl ?_
    refine gf_X12_271 rfl (by decide +kernel) ob_200 ?_
    refine Fr_iload_n (q := 1) (i := 1) 1 (by decide +kernel) rfl rfl ?_
    refine Fr_bipush (i := 8) (v := 8) (by decide +kernel) (by decide) ?_
    refine Fr_iload_n (q := 2) (i := 2) 2 (by decide +kernel) rfl rfl ?_
    refine Fr_imul (by decide +kernel) ?_
    refine Fr_ishr (by decide +kernel) ?_
    refine Fr_i2b (by decide +kernel) ?_
    obtain ⟨hi_1, h⟩ := ck_elim h
    refine Fr_bast (by decide +kernel) ob_204 (vp_of ln_204 hi_1) ?_
    obtain ⟨M_2, eM_2, h⟩ := bM_elim h
    refine Fr_mem eM_2 ?_
    refine Fr_aload_n (q := 0) (i := 0) 0 (by decide +kernel) rfl rfl ?_
    refine Fr_dup (by decide +kernel) rfl ?_
    refine gf_X12_271 rfl (by decide +kernel) ob_200 ?_
    refine Fr_iconst (i := 1) (v := 1) (by decide +kernel) (by decide) ?_
    refine Fr_iadd (by decide +kernel) ?_
    refine pf_X12_271 rfl (by decide +kernel) ob_200 ?_
    obtain ⟨M_3, eM_3, h⟩ := bM_elim h
    refine Fr_mem eM_3 ?_
    refine Fr_iinc (i := 2) (j := (-1)) (v := (v2 + (-1))) (lv' := [(2, .int (v2 + (-1))), (0, .ref 200), (1, .int v1)]) 2 (by decide +kernel) rfl rfl (by decide) rfl ?_
    refine Fr_goto (off := (-33)) 2 (by decide +kernel) (by decide) ?_
    refine Fr_loc [1, 2, 0] rfl ?_
    exact hk2 (v1, (v2 + (-1))) M_3 h
set_option maxRecDepth 20000 in
theorem t_X12_lay {N : Nat} {x1 : Int32} {M : Mem} {q : Mem} (h : f_X12_lay N x1 M = some q) : Ev 200 21 0 m_X12_lay [.ref 200, .int x1] M (QV q) := by
  refine Ev_of_Fr (by decide +kernel) (Nat.le_of_ble_eq_true rfl) ?_
  show Fr 200 21 0 m_X12_lay 0 [(0, .ref 200), (1, .int x1)] [] M (QV q)
  unfold f_X12_lay at h
  refine Fr_iconst (i := 3) (v := 3) (by decide +kernel) (by decide) ?_
  refine Fr_istore_n (q := 2) (i := 2) (lv' := [(2, .int 3), (0, .ref 200), (1, .int x1)]) (by decide +kernel) rfl (by decide) rfl ?_
  refine Fr_loc [1, 2, 0] rfl ?_
  exact lp_sound (body := fun k a m => f_X12_lay_h2 N k a.1 a.2 m) (P := fun a M => Fr 200 21 0 m_X12_lay 2 [(0, .ref 200), (1, .int a.1), (2, .int a.2)] [] M (QV q)) (fun k hk a m h => t_X12_lay_h2 hk h) N (x1, 3) M h
set_option maxRecDepth 20000 in
theorem t_X12_feed {N : Nat} {x1 : Int32} {x2 : Int32} {x3 : Int32} {x4 : Int32} {x5 : Int32} {M : Mem} {q : Int32 × Mem} (h : f_X12_feed N x1 x2 x3 x4 x5 M = some q) : Ev 200 21 1 m_X12_feed [.ref 200, .int x1, .int x2, .int x3, .int x4, .int x5] M (QI q) := by
  refine Ev_of_Fr (by decide +kernel) (Nat.le_of_ble_eq_true rfl) ?_
  show Fr 200 21 1 m_X12_feed 0 [(0, .ref 200), (1, .int x1), (2, .int x2), (3, .int x3), (4, .int x4), (5, .int x5)] [] M (QI q)
  unfold f_X12_feed at h
  refine Fr_aload_n (q := 0) (i := 0) 0 (by decide +kernel) rfl rfl ?_
  refine Fr_iconst (i := 0) (v := 0) (by decide +kernel) (by decide) ?_
  refine pf_X12_84 rfl (by decide +kernel) ob_200 ?_
  obtain ⟨M_1, eM_1, h⟩ := bM_elim h
  refine Fr_mem eM_1 ?_
  refine Fr_aload_n (q := 0) (i := 0) 0 (by decide +kernel) rfl rfl ?_
  refine gf_X12_271 rfl (by decide +kernel) ob_200 ?_
  refine Fr_bipush (i := 20) (v := 20) (by decide +kernel) (by decide) ?_
  refine Fr_iadd (by decide +kernel) ?_
  refine Fr_sipush (i := 900) (v := 900) (by decide +kernel) (by decide) ?_
  refine Fr_icmp_le (off := 5) 20 (by decide +kernel) (by decide) (fun hc => ?_) (fun hc => ?_)
  · have h := iT hc h
    refine Fr_aload_n (q := 0) (i := 0) 0 (by decide +kernel) rfl rfl ?_
    refine Fr_iload_n (q := 1) (i := 1) 1 (by decide +kernel) rfl rfl ?_
    obtain ⟨M_2, hc_3, h⟩ := bv_elim h
    refine Fr_cVv (ν := m_X12_lay) (As := [.int x1]) (st := []) (rc := 200) (ci := 12) (d' := 0) (by decide +kernel) ml_X12_274 cv_X12_lay rfl (by decide) rfl ob_200 rfl (by decide) (Nat.le_of_ble_eq_true rfl) (t_X12_lay hc_3) ?_
    refine Fr_aload_n (q := 0) (i := 0) 0 (by decide +kernel) rfl rfl ?_
    refine Fr_iload_n (q := 2) (i := 2) 2 (by decide +kernel) rfl rfl ?_
    obtain ⟨M_4, hc_5, h⟩ := bv_elim h
    refine Fr_cVv (ν := m_X12_lay) (As := [.int x2]) (st := []) (rc := 200) (ci := 12) (d' := 0) (by decide +kernel) ml_X12_274 cv_X12_lay rfl (by decide) rfl ob_200 rfl (by decide) (Nat.le_of_ble_eq_true rfl) (t_X12_lay hc_5) ?_
    refine Fr_aload_n (q := 0) (i := 0) 0 (by decide +kernel) rfl rfl ?_
    refine Fr_iload_n (q := 3) (i := 3) 3 (by decide +kernel) rfl rfl ?_
    obtain ⟨M_6, hc_7, h⟩ := bv_elim h
    refine Fr_cVv (ν := m_X12_lay) (As := [.int x3]) (st := []) (rc := 200) (ci := 12) (d' := 0) (by decide +kernel) ml_X12_274 cv_X12_lay rfl (by decide) rfl ob_200 rfl (by decide) (Nat.le_of_ble_eq_true rfl) (t_X12_lay hc_7) ?_
    refine Fr_aload_n (q := 0) (i := 0) 0 (by decide +kernel) rfl rfl ?_
    refine Fr_iload (i := 4) 4 (by decide +kernel) rfl ?_
    obtain ⟨M_8, hc_9, h⟩ := bv_elim h
    refine Fr_cVv (ν := m_X12_lay) (As := [.int x4]) (st := []) (rc := 200) (ci := 12) (d' := 0) (by decide +kernel) ml_X12_274 cv_X12_lay rfl (by decide) rfl ob_200 rfl (by decide) (Nat.le_of_ble_eq_true rfl) (t_X12_lay hc_9) ?_
    refine Fr_aload_n (q := 0) (i := 0) 0 (by decide +kernel) rfl rfl ?_
    refine Fr_iload (i := 5) 5 (by decide +kernel) rfl ?_
    obtain ⟨M_10, hc_11, h⟩ := bv_elim h
    refine Fr_cVv (ν := m_X12_lay) (As := [.int x5]) (st := []) (rc := 200) (ci := 12) (d' := 0) (by decide +kernel) ml_X12_274 cv_X12_lay rfl (by decide) rfl ob_200 rfl (by decide) (Nat.le_of_ble_eq_true rfl) (t_X12_lay hc_11) ?_
    refine Fr_aload_n (q := 0) (i := 0) 0 (by decide +kernel) rfl rfl ?_
    refine gf_X12_271 rfl (by decide +kernel) ob_200 ?_
    obtain rfl := Option.some.inj h
    exact Fr_iret (by decide +kernel) rfl ⟨rfl, rfl⟩
  · have h := iF hc h
    refine Fr_iconst (i := (-1)) (v := (-1)) (by decide +kernel) (by decide) ?_
    obtain rfl := Option.some.inj h
    exact Fr_iret (by decide +kernel) rfl ⟨rfl, rfl⟩
