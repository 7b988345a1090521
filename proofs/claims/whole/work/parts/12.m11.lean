def f_X6_readTrade_b194 (N : Nat) (p1 : Nat) (s0 : Int32) (s1 : Int32) (M : Mem) : Option (Bool × Mem) :=
  ck s1 36 (
  bM (uI M (p1 + 4) (tn s1) s0) fun M_10 =>
  bM (uI M_10 p1 9 ((M_10.1 p1 9) + 1)) fun M_11 =>
  bi (f_X8_takeSemicolon N M_11) fun r_14 M_12 =>
  some (r_14, M_12))
set_option maxRecDepth 20000 in
theorem t_X6_readTrade_b194 {N : Nat} {p1 : Nat} (hp1 : Ob 0 111 p1 5) {q : Bool × Mem} {s0 : Int32} {s1 : Int32} {M : Mem} (h : f_X6_readTrade_b194 N p1 s0 s1 M = some q) : Fr 0 111 9 m_X6_readTrade 194 [(0, .ref 83), (1, .ref p1)] [.int s0, .int s1, .ref (p1 + 4)] M (QB q) := by
  unfold f_X6_readTrade_b194 at h
  obtain ⟨hi_9, h⟩ := ck_elim h
  refine Fr_iast (by decide +kernel) (o5_4 hp1) (vp_of (n5_4 hp1) hi_9) ?_
  obtain ⟨M_10, eM_10, h⟩ := bM_elim h
  refine Fr_mem eM_10 ?_
  refine Fr_aload_n (q := 1) (i := 1) 1 (by decide +kernel) rfl rfl ?_
  refine Fr_dup (by decide +kernel) rfl ?_
  refine gf_X6_172 rfl (by decide +kernel) hp1 ?_
  refine Fr_iconst (i := 1) (v := 1) (by decide +kernel) (by decide) ?_
  refine Fr_iadd (by decide +kernel) ?_
  refine pf_X6_172 rfl (by decide +kernel) hp1 ?_
  obtain ⟨M_11, eM_11, h⟩ := bM_elim h
  refine Fr_mem eM_11 ?_
  refine Fr_aload_n (q := 0) (i := 0) 0 (by decide +kernel) rfl rfl ?_
  refine gf_X6_22 rfl (by decide +kernel) ob_83 ?_
  obtain ⟨r_14, M_12, hc_13, h⟩ := bi_elim h
  refine Fr_cVb (ν := m_X8_takeSemicolon) (As := []) (st := []) (rc := 82) (ci := 8) (d' := 1) (by decide +kernel) ml_X6_128 cv_X8_takeSemicolon rfl (by decide) rfl ob_82 rfl (by decide) (Nat.le_of_ble_eq_true rfl) (t_X8_takeSemicolon hc_13) ?_
  obtain rfl := Option.some.inj h
  exact Fr_zret (by decide +kernel) rfl (nz_b r_14) ⟨rfl, rfl⟩
def f_X6_readTrade_b164 (N : Nat) (p1 : Nat) (v3 : Int32) (s0 : Int32) (M : Mem) : Option (Bool × Mem) :=
  if s0 = 0 then (some (false, M)) else (bi (f_X8_tryWord N 15 M) fun r_8 M_6 =>
  if (b2i r_8) = 0 then (f_X6_readTrade_b194 N p1 0 (v3 + 5) M_6) else (f_X6_readTrade_b194 N p1 1 (v3 + 5) M_6))
set_option maxRecDepth 20000 in
theorem t_X6_readTrade_b164 {N : Nat} {p1 : Nat} (hp1 : Ob 0 111 p1 5) {q : Bool × Mem} {v3 : Int32} {s0 : Int32} {M : Mem} (h : f_X6_readTrade_b164 N p1 v3 s0 M = some q) : Fr 0 111 9 m_X6_readTrade 164 [(0, .ref 83), (1, .ref p1), (2, .ref (p1 + 4)), (3, .int v3)] [.int s0] M (QB q) := by
  unfold f_X6_readTrade_b164 at h
  refine Fr_istore (i := 4) (lv' := [(4, .int s0), (0, .ref 83), (1, .ref p1), (2, .ref (p1 + 4)), (3, .int v3)]) (by decide +kernel) (by decide) rfl ?_
  refine Fr_iload (i := 4) 0 (by decide +kernel) rfl ?_
  refine Fr_if_ne (off := 5) 173 (by decide +kernel) (by decide) (fun hc => ?_) (fun hc => ?_)
  · have h := iF hc h
    refine Fr_aload_n (q := 2) (i := 2) 3 (by decide +kernel) rfl rfl ?_
    refine Fr_iload_n (q := 3) (i := 3) 4 (by decide +kernel) rfl rfl ?_
    refine Fr_iconst (i := 5) (v := 5) (by decide +kernel) (by decide) ?_
    refine Fr_iadd (by decide +kernel) ?_
    refine Fr_aload_n (q := 0) (i := 0) 1 (by decide +kernel) rfl rfl ?_
    refine gf_X6_22 rfl (by decide +kernel) ob_83 ?_
    refine Fr_ldcS (idx := 184) 15 (by decide +kernel) (by decide) rfl rfl ?_
    obtain ⟨r_8, M_6, hc_7, h⟩ := bi_elim h
    refine Fr_cVb (ν := m_X8_tryWord) (As := [.ref (400 + 15)]) (st := [.int (v3 + 5), .ref (p1 + 4)]) (rc := 82) (ci := 8) (d' := 8) (by decide +kernel) ml_X6_150 cv_X8_tryWord rfl (by decide) rfl ob_82 rfl (by decide) (Nat.le_of_ble_eq_true rfl) (t_X8_tryWord (by decide) hc_7) ?_
    refine Fr_if_eq (off := 7) 193 (by decide +kernel) (by decide) (fun hc => ?_) (fun hc => ?_)
    · have h := iT hc h
      refine Fr_iconst (i := 0) (v := 0) (by decide +kernel) (by decide) ?_
      refine Fr_loc [1, 2] rfl ?_
      exact t_X6_readTrade_b194 hp1 h
    · have h := iF hc h
      refine Fr_iconst (i := 1) (v := 1) (by decide +kernel) (by decide) ?_
      refine Fr_goto (off := 4) 194 (by decide +kernel) (by decide) ?_
      refine Fr_loc [1, 2] rfl ?_
      exact t_X6_readTrade_b194 hp1 h
  · have h := iT hc h
    refine Fr_iconst (i := 0) (v := 0) (by decide +kernel) (by decide) ?_
    obtain rfl := Option.some.inj h
    exact Fr_zret (by decide +kernel) rfl (by decide) ⟨rfl, rfl⟩
def f_X6_readTrade_b163 (N : Nat) (p1 : Nat) (v3 : Int32) (M : Mem) : Option (Bool × Mem) :=
  f_X6_readTrade_b164 N p1 v3 0 M
set_option maxRecDepth 20000 in
theorem t_X6_readTrade_b163 {N : Nat} {p1 : Nat} (hp1 : Ob 0 111 p1 5) {q : Bool × Mem} {v3 : Int32} {M : Mem} (h : f_X6_readTrade_b163 N p1 v3 M = some q) : Fr 0 111 9 m_X6_readTrade 163 [(0, .ref 83), (1, .ref p1), (2, .ref (p1 + 4)), (3, .int v3)] [] M (QB q) := by
  unfold f_X6_readTrade_b163 at h
  refine Fr_iconst (i := 0) (v := 0) (by decide +kernel) (by decide) ?_
  exact t_X6_readTrade_b164 hp1 h
def f_X6_readTrade (N : Nat) (p1 : Nat) (M : Mem) : Option (Bool × Mem) :=
  if (M.1 p1 9) < 6 then (bv (f_X8_advance N M) fun M_1 =>
  bi (f_X6_readNewName N M_1) fun r_5 M_3 =>
  if (b2i r_5) = 0 then (f_X6_readTrade_b163 N p1 ((M.1 p1 9) * 6) M_3) else (bi (f_X8_takeWord N 4 M_3) fun r_17 M_15 =>
  if (b2i r_17) = 0 then (f_X6_readTrade_b163 N p1 ((M.1 p1 9) * 6) M_15) else (bi (f_X6_readBoard N p1 (p1 + 4) ((M.1 p1 9) * 6) M_15) fun r_20 M_18 =>
  if (b2i r_20) = 0 then (f_X6_readTrade_b163 N p1 ((M.1 p1 9) * 6) M_18) else (bi (f_X8_takeWord N 12 M_18) fun r_23 M_21 =>
  if (b2i r_23) = 0 then (f_X6_readTrade_b163 N p1 ((M.1 p1 9) * 6) M_21) else (bi (f_X8_takeNumber N (p1 + 4) (((M.1 p1 9) * 6) + 2) 1 24 M_21) fun r_26 M_24 =>
  if (b2i r_26) = 0 then (f_X6_readTrade_b163 N p1 ((M.1 p1 9) * 6) M_24) else (bi (f_X8_takeWord N 13 M_24) fun r_29 M_27 =>
  if (b2i r_29) = 0 then (f_X6_readTrade_b163 N p1 ((M.1 p1 9) * 6) M_27) else (ck (((M.1 p1 9) * 6) + 2) 36 (
  bi (f_X8_takeNumber N (p1 + 4) (((M.1 p1 9) * 6) + 3) (M_27.1 (p1 + 4) (tn (((M.1 p1 9) * 6) + 2))) 24 M_27) fun r_33 M_31 =>
  if (b2i r_33) = 0 then (f_X6_readTrade_b163 N p1 ((M.1 p1 9) * 6) M_31) else (bi (f_X8_takeWord N 14 M_31) fun r_36 M_34 =>
  if (b2i r_36) = 0 then (f_X6_readTrade_b163 N p1 ((M.1 p1 9) * 6) M_34) else (bi (f_X8_takeNumber N (p1 + 4) (((M.1 p1 9) * 6) + 4) 1 99 M_34) fun r_39 M_37 =>
  if (b2i r_39) = 0 then (f_X6_readTrade_b163 N p1 ((M.1 p1 9) * 6) M_37) else (f_X6_readTrade_b164 N p1 ((M.1 p1 9) * 6) 1 M_37))))))))))) else (bi (f_X8_refuse 6 M) fun r_42 M_40 =>
  some (r_42, M_40))
set_option maxRecDepth 20000 in
theorem t_X6_readTrade {N : Nat} {p1 : Nat} (hp1 : Ob 0 111 p1 5) {M : Mem} {q : Bool × Mem} (h : f_X6_readTrade N p1 M = some q) : Ev 0 111 9 m_X6_readTrade [.ref 83, .ref p1] M (QB q) := by
  refine Ev_of_Fr (by decide +kernel) (Nat.le_of_ble_eq_true rfl) ?_
  show Fr 0 111 9 m_X6_readTrade 0 [(0, .ref 83), (1, .ref p1)] [] M (QB q)
  unfold f_X6_readTrade at h
  refine Fr_aload_n (q := 1) (i := 1) 1 (by decide +kernel) rfl rfl ?_
  refine gf_X6_172 rfl (by decide +kernel) hp1 ?_
  refine Fr_bipush (i := 6) (v := 6) (by decide +kernel) (by decide) ?_
  refine Fr_icmp_lt (off := 13) 19 (by decide +kernel) (by decide) (fun hc => ?_) (fun hc => ?_)
  · have h := iT hc h
    refine Fr_aload_n (q := 1) (i := 1) 1 (by decide +kernel) rfl rfl ?_
    refine gf_X6_175 rfl (by decide +kernel) hp1 ?_
    refine Fr_astore_n (q := 2) (i := 2) (lv' := [(2, .ref (p1 + 4)), (0, .ref 83), (1, .ref p1)]) (by decide +kernel) rfl (by decide) rfl ?_
    refine Fr_aload_n (q := 1) (i := 1) 2 (by decide +kernel) rfl rfl ?_
    refine gf_X6_172 rfl (by decide +kernel) hp1 ?_
    refine Fr_bipush (i := 6) (v := 6) (by decide +kernel) (by decide) ?_
    refine Fr_imul (by decide +kernel) ?_
    refine Fr_istore_n (q := 3) (i := 3) (lv' := [(3, .int ((M.1 p1 9) * 6)), (2, .ref (p1 + 4)), (0, .ref 83), (1, .ref p1)]) (by decide +kernel) rfl (by decide) rfl ?_
    refine Fr_aload_n (q := 0) (i := 0) 2 (by decide +kernel) rfl rfl ?_
    refine gf_X6_22 rfl (by decide +kernel) ob_83 ?_
    obtain ⟨M_1, hc_2, h⟩ := bv_elim h
    refine Fr_cVv (ν := m_X8_advance) (As := []) (st := []) (rc := 82) (ci := 8) (d' := 0) (by decide +kernel) ml_X6_113 cv_X8_advance rfl (by decide) rfl ob_82 rfl (by decide) (Nat.le_of_ble_eq_true rfl) (t_X8_advance hc_2) ?_
    refine Fr_aload_n (q := 0) (i := 0) 2 (by decide +kernel) rfl rfl ?_
    obtain ⟨r_5, M_3, hc_4, h⟩ := bi_elim h
    refine Fr_cVb (ν := m_X6_readNewName) (As := []) (st := []) (rc := 83) (ci := 6) (d' := 8) (by decide +kernel) ml_X6_137 cv_X6_readNewName rfl (by decide) rfl ob_83 rfl (by decide) (Nat.le_of_ble_eq_true rfl) (t_X6_readNewName hc_4) ?_
    refine Fr_if_eq (off := 120) 163 (by decide +kernel) (by decide) (fun hc => ?_) (fun hc => ?_)
    · have h := iT hc h
      refine Fr_loc [2, 3, 1, 0] rfl ?_
      exact t_X6_readTrade_b163 hp1 h
    · have h := iF hc h
      refine Fr_aload_n (q := 0) (i := 0) 2 (by decide +kernel) rfl rfl ?_
      refine gf_X6_22 rfl (by decide +kernel) ob_83 ?_
      refine Fr_ldcS (idx := 140) 4 (by decide +kernel) (by decide) rfl rfl ?_
      obtain ⟨r_17, M_15, hc_16, h⟩ := bi_elim h
      refine Fr_cVb (ν := m_X8_takeWord) (As := [.ref (400 + 4)]) (st := []) (rc := 82) (ci := 8) (d' := 8) (by decide +kernel) ml_X6_122 cv_X8_takeWord rfl (by decide) rfl ob_82 rfl (by decide) (Nat.le_of_ble_eq_true rfl) (t_X8_takeWord (by decide) hc_16) ?_
      refine Fr_if_eq (off := 108) 163 (by decide +kernel) (by decide) (fun hc => ?_) (fun hc => ?_)
      · have h := iT hc h
        refine Fr_loc [2, 3, 1, 0] rfl ?_
        exact t_X6_readTrade_b163 hp1 h
      · have h := iF hc h
        refine Fr_aload_n (q := 0) (i := 0) 2 (by decide +kernel) rfl rfl ?_
        refine Fr_aload_n (q := 1) (i := 1) 3 (by decide +kernel) rfl rfl ?_
        refine Fr_aload_n (q := 2) (i := 2) 1 (by decide +kernel) rfl rfl ?_
        refine Fr_iload_n (q := 3) (i := 3) 0 (by decide +kernel) rfl rfl ?_
        obtain ⟨r_20, M_18, hc_19, h⟩ := bi_elim h
        refine Fr_cVb (ν := m_X6_readBoard) (As := [.ref p1, .ref (p1 + 4), .int ((M.1 p1 9) * 6)]) (st := []) (rc := 83) (ci := 6) (d' := 2) (by decide +kernel) ml_X6_142 cv_X6_readBoard rfl (by decide) rfl ob_83 rfl (by decide) (Nat.le_of_ble_eq_true rfl) (t_X6_readBoard hp1 (o5_4 hp1) hc_19) ?_
        refine Fr_if_eq (off := 98) 163 (by decide +kernel) (by decide) (fun hc => ?_) (fun hc => ?_)
        · have h := iT hc h
          refine Fr_loc [2, 3, 1, 0] rfl ?_
          exact t_X6_readTrade_b163 hp1 h
        · have h := iF hc h
          refine Fr_aload_n (q := 0) (i := 0) 2 (by decide +kernel) rfl rfl ?_
          refine gf_X6_22 rfl (by decide +kernel) ob_83 ?_
          refine Fr_ldcS (idx := 178) 12 (by decide +kernel) (by decide) rfl rfl ?_
          obtain ⟨r_23, M_21, hc_22, h⟩ := bi_elim h
          refine Fr_cVb (ν := m_X8_takeWord) (As := [.ref (400 + 12)]) (st := []) (rc := 82) (ci := 8) (d' := 8) (by decide +kernel) ml_X6_122 cv_X8_takeWord rfl (by decide) rfl ob_82 rfl (by decide) (Nat.le_of_ble_eq_true rfl) (t_X8_takeWord (by decide) hc_22) ?_
          refine Fr_if_eq (off := 86) 163 (by decide +kernel) (by decide) (fun hc => ?_) (fun hc => ?_)
          · have h := iT hc h
            refine Fr_loc [2, 3, 1, 0] rfl ?_
            exact t_X6_readTrade_b163 hp1 h
          · have h := iF hc h
            refine Fr_aload_n (q := 0) (i := 0) 2 (by decide +kernel) rfl rfl ?_
            refine gf_X6_22 rfl (by decide +kernel) ob_83 ?_
            refine Fr_aload_n (q := 2) (i := 2) 1 (by decide +kernel) rfl rfl ?_
            refine Fr_iload_n (q := 3) (i := 3) 0 (by decide +kernel) rfl rfl ?_
            refine Fr_iconst (i := 2) (v := 2) (by decide +kernel) (by decide) ?_
            refine Fr_iadd (by decide +kernel) ?_
            refine Fr_iconst (i := 1) (v := 1) (by decide +kernel) (by decide) ?_
            refine Fr_bipush (i := 24) (v := 24) (by decide +kernel) (by decide) ?_
            obtain ⟨r_26, M_24, hc_25, h⟩ := bi_elim h
            refine Fr_cVb (ν := m_X8_takeNumber) (As := [.ref (p1 + 4), .int (((M.1 p1 9) * 6) + 2), .int 1, .int 24]) (st := []) (rc := 82) (ci := 8) (d' := 1) (by decide +kernel) ml_X6_116 cv_X8_takeNumber rfl (by decide) rfl ob_82 rfl (by decide) (Nat.le_of_ble_eq_true rfl) (t_X8_takeNumber (o5_4 hp1) hc_25) ?_
            refine Fr_if_eq (off := 69) 163 (by decide +kernel) (by decide) (fun hc => ?_) (fun hc => ?_)
            · have h := iT hc h
              refine Fr_loc [2, 3, 1, 0] rfl ?_
              exact t_X6_readTrade_b163 hp1 h
            · have h := iF hc h
              refine Fr_aload_n (q := 0) (i := 0) 2 (by decide +kernel) rfl rfl ?_
              refine gf_X6_22 rfl (by decide +kernel) ob_83 ?_
              refine Fr_ldcS (idx := 180) 13 (by decide +kernel) (by decide) rfl rfl ?_
              obtain ⟨r_29, M_27, hc_28, h⟩ := bi_elim h
              refine Fr_cVb (ν := m_X8_takeWord) (As := [.ref (400 + 13)]) (st := []) (rc := 82) (ci := 8) (d' := 8) (by decide +kernel) ml_X6_122 cv_X8_takeWord rfl (by decide) rfl ob_82 rfl (by decide) (Nat.le_of_ble_eq_true rfl) (t_X8_takeWord (by decide) hc_28) ?_
              refine Fr_if_eq (off := 57) 163 (by decide +kernel) (by decide) (fun hc => ?_) (fun hc => ?_)
              · have h := iT hc h
                refine Fr_loc [2, 3, 1, 0] rfl ?_
                exact t_X6_readTrade_b163 hp1 h
              · have h := iF hc h
                refine Fr_aload_n (q := 0) (i := 0) 2 (by decide +kernel) rfl rfl ?_
                refine gf_X6_22 rfl (by decide +kernel) ob_83 ?_
                refine Fr_aload_n (q := 2) (i := 2) 1 (by decide +kernel) rfl rfl ?_
                refine Fr_iload_n (q := 3) (i := 3) 0 (by decide +kernel) rfl rfl ?_
                refine Fr_iconst (i := 3) (v := 3) (by decide +kernel) (by decide) ?_
                refine Fr_iadd (by decide +kernel) ?_
                refine Fr_aload_n (q := 2) (i := 2) 1 (by decide +kernel) rfl rfl ?_
                refine Fr_iload_n (q := 3) (i := 3) 0 (by decide +kernel) rfl rfl ?_
                refine Fr_iconst (i := 2) (v := 2) (by decide +kernel) (by decide) ?_
                refine Fr_iadd (by decide +kernel) ?_
                obtain ⟨hi_30, h⟩ := ck_elim h
                refine Fr_iald (by decide +kernel) (o5_4 hp1) (vp_of (n5_4 hp1) hi_30) ?_
                refine Fr_bipush (i := 24) (v := 24) (by decide +kernel) (by decide) ?_
                obtain ⟨r_33, M_31, hc_32, h⟩ := bi_elim h
                refine Fr_cVb (ν := m_X8_takeNumber) (As := [.ref (p1 + 4), .int (((M.1 p1 9) * 6) + 3), .int (M_27.1 (p1 + 4) (tn (((M.1 p1 9) * 6) + 2))), .int 24]) (st := []) (rc := 82) (ci := 8) (d' := 1) (by decide +kernel) ml_X6_116 cv_X8_takeNumber rfl (by decide) rfl ob_82 rfl (by decide) (Nat.le_of_ble_eq_true rfl) (t_X8_takeNumber (o5_4 hp1) hc_32) ?_
                refine Fr_if_eq (off := 36) 163 (by decide +kernel) (by decide) (fun hc => ?_) (fun hc => ?_)
                · have h := iT hc h
                  refine Fr_loc [2, 3, 1, 0] rfl ?_
                  exact t_X6_readTrade_b163 hp1 h
                · have h := iF hc h
                  refine Fr_aload_n (q := 0) (i := 0) 2 (by decide +kernel) rfl rfl ?_
                  refine gf_X6_22 rfl (by decide +kernel) ob_83 ?_
                  refine Fr_ldcS (idx := 182) 14 (by decide +kernel) (by decide) rfl rfl ?_
                  obtain ⟨r_36, M_34, hc_35, h⟩ := bi_elim h
                  refine Fr_cVb (ν := m_X8_takeWord) (As := [.ref (400 + 14)]) (st := []) (rc := 82) (ci := 8) (d' := 8) (by decide +kernel) ml_X6_122 cv_X8_takeWord rfl (by decide) rfl ob_82 rfl (by decide) (Nat.le_of_ble_eq_true rfl) (t_X8_takeWord (by decide) hc_35) ?_
                  refine Fr_if_eq (off := 24) 163 (by decide +kernel) (by decide) (fun hc => ?_) (fun hc => ?_)
                  · have h := iT hc h
                    refine Fr_loc [2, 3, 1, 0] rfl ?_
                    exact t_X6_readTrade_b163 hp1 h
                  · have h := iF hc h
                    refine Fr_aload_n (q := 0) (i := 0) 2 (by decide +kernel) rfl rfl ?_
                    refine gf_X6_22 rfl (by decide +kernel) ob_83 ?_
                    refine Fr_aload_n (q := 2) (i := 2) 1 (by decide +kernel) rfl rfl ?_
                    refine Fr_iload_n (q := 3) (i := 3) 0 (by decide +kernel) rfl rfl ?_
                    refine Fr_iconst (i := 4) (v := 4) (by decide +kernel) (by decide) ?_
                    refine Fr_iadd (by decide +kernel) ?_
                    refine Fr_iconst (i := 1) (v := 1) (by decide +kernel) (by decide) ?_
                    refine Fr_bipush (i := 99) (v := 99) (by decide +kernel) (by decide) ?_
                    obtain ⟨r_39, M_37, hc_38, h⟩ := bi_elim h
                    refine Fr_cVb (ν := m_X8_takeNumber) (As := [.ref (p1 + 4), .int (((M.1 p1 9) * 6) + 4), .int 1, .int 99]) (st := []) (rc := 82) (ci := 8) (d' := 1) (by decide +kernel) ml_X6_116 cv_X8_takeNumber rfl (by decide) rfl ob_82 rfl (by decide) (Nat.le_of_ble_eq_true rfl) (t_X8_takeNumber (o5_4 hp1) hc_38) ?_
                    refine Fr_if_eq (off := 7) 163 (by decide +kernel) (by decide) (fun hc => ?_) (fun hc => ?_)
                    · have h := iT hc h
                      refine Fr_loc [2, 3, 1, 0] rfl ?_
                      exact t_X6_readTrade_b163 hp1 h
                    · have h := iF hc h
                      refine Fr_iconst (i := 1) (v := 1) (by decide +kernel) (by decide) ?_
                      refine Fr_goto (off := 4) 164 (by decide +kernel) (by decide) ?_
                      refine Fr_loc [2, 3, 1, 0] rfl ?_
                      exact t_X6_readTrade_b164 hp1 h
  · have h := iF hc h
    refine Fr_aload_n (q := 0) (i := 0) 0 (by decide +kernel) rfl rfl ?_
    refine gf_X6_22 rfl (by decide +kernel) ob_83 ?_
    refine Fr_bipush (i := 6) (v := 6) (by decide +kernel) (by decide) ?_
    obtain ⟨r_42, M_40, hc_41, h⟩ := bi_elim h
    refine Fr_cVb (ν := m_X8_refuse) (As := [.int 6]) (st := []) (rc := 82) (ci := 8) (d' := 0) (by decide +kernel) ml_X6_79 cv_X8_refuse rfl (by decide) rfl ob_82 rfl (by decide) (Nat.le_of_ble_eq_true rfl) (t_X8_refuse hc_41) ?_
    obtain rfl := Option.some.inj h
    exact Fr_zret (by decide +kernel) rfl (nz_b r_42) ⟨rfl, rfl⟩
def f_X6_readShip_b125 (N : Nat) (p1 : Nat) (s0 : Int32) (s1 : Int32) (M : Mem) : Option (Bool × Mem) :=
  ck s1 20 (
  bM (uI M (p1 + 5) (tn s1) s0) fun M_10 =>
  bM (uI M_10 p1 10 ((M_10.1 p1 10) + 1)) fun M_11 =>
  bi (f_X8_takeSemicolon N M_11) fun r_14 M_12 =>
  some (r_14, M_12))
set_option maxRecDepth 20000 in
theorem t_X6_readShip_b125 {N : Nat} {p1 : Nat} (hp1 : Ob 0 111 p1 5) {q : Bool × Mem} {s0 : Int32} {s1 : Int32} {M : Mem} (h : f_X6_readShip_b125 N p1 s0 s1 M = some q) : Fr 0 111 9 m_X6_readShip 125 [(0, .ref 83), (1, .ref p1)] [.int s0, .int s1, .ref (p1 + 5)] M (QB q) := by
  unfold f_X6_readShip_b125 at h
  obtain ⟨hi_9, h⟩ := ck_elim h
  refine Fr_iast (by decide +kernel) (o5_5 hp1) (vp_of (n5_5 hp1) hi_9) ?_
  obtain ⟨M_10, eM_10, h⟩ := bM_elim h
  refine Fr_mem eM_10 ?_
  refine Fr_aload_n (q := 1) (i := 1) 1 (by decide +kernel) rfl rfl ?_
  refine Fr_dup (by decide +kernel) rfl ?_
  refine gf_X6_185 rfl (by decide +kernel) hp1 ?_
  refine Fr_iconst (i := 1) (v := 1) (by decide +kernel) (by decide) ?_
  refine Fr_iadd (by decide +kernel) ?_
  refine pf_X6_185 rfl (by decide +kernel) hp1 ?_
  obtain ⟨M_11, eM_11, h⟩ := bM_elim h
  refine Fr_mem eM_11 ?_
  refine Fr_aload_n (q := 0) (i := 0) 0 (by decide +kernel) rfl rfl ?_
  refine gf_X6_22 rfl (by decide +kernel) ob_83 ?_
  obtain ⟨r_14, M_12, hc_13, h⟩ := bi_elim h
  refine Fr_cVb (ν := m_X8_takeSemicolon) (As := []) (st := []) (rc := 82) (ci := 8) (d' := 1) (by decide +kernel) ml_X6_128 cv_X8_takeSemicolon rfl (by decide) rfl ob_82 rfl (by decide) (Nat.le_of_ble_eq_true rfl) (t_X8_takeSemicolon hc_13) ?_
  obtain rfl := Option.some.inj h
  exact Fr_zret (by decide +kernel) rfl (nz_b r_14) ⟨rfl, rfl⟩
def f_X6_readShip_b95 (N : Nat) (p1 : Nat) (v3 : Int32) (s0 : Int32) (M : Mem) : Option (Bool × Mem) :=
  if s0 = 0 then (some (false, M)) else (bi (f_X8_tryWord N 17 M) fun r_8 M_6 =>
  if (b2i r_8) = 0 then (f_X6_readShip_b125 N p1 0 (v3 + 4) M_6) else (f_X6_readShip_b125 N p1 1 (v3 + 4) M_6))
set_option maxRecDepth 20000 in
theorem t_X6_readShip_b95 {N : Nat} {p1 : Nat} (hp1 : Ob 0 111 p1 5) {q : Bool × Mem} {v3 : Int32} {s0 : Int32} {M : Mem} (h : f_X6_readShip_b95 N p1 v3 s0 M = some q) : Fr 0 111 9 m_X6_readShip 95 [(0, .ref 83), (1, .ref p1), (2, .ref (p1 + 5)), (3, .int v3)] [.int s0] M (QB q) := by
  unfold f_X6_readShip_b95 at h
  refine Fr_istore (i := 4) (lv' := [(4, .int s0), (0, .ref 83), (1, .ref p1), (2, .ref (p1 + 5)), (3, .int v3)]) (by decide +kernel) (by decide) rfl ?_
  refine Fr_iload (i := 4) 0 (by decide +kernel) rfl ?_
  refine Fr_if_ne (off := 5) 104 (by decide +kernel) (by decide) (fun hc => ?_) (fun hc => ?_)
  · have h := iF hc h
    refine Fr_aload_n (q := 2) (i := 2) 3 (by decide +kernel) rfl rfl ?_
    refine Fr_iload_n (q := 3) (i := 3) 4 (by decide +kernel) rfl rfl ?_
    refine Fr_iconst (i := 4) (v := 4) (by decide +kernel) (by decide) ?_
    refine Fr_iadd (by decide +kernel) ?_
    refine Fr_aload_n (q := 0) (i := 0) 1 (by decide +kernel) rfl rfl ?_
    refine gf_X6_22 rfl (by decide +kernel) ob_83 ?_
    refine Fr_ldcS (idx := 191) 17 (by decide +kernel) (by decide) rfl rfl ?_
    obtain ⟨r_8, M_6, hc_7, h⟩ := bi_elim h
    refine Fr_cVb (ν := m_X8_tryWord) (As := [.ref (400 + 17)]) (st := [.int (v3 + 4), .ref (p1 + 5)]) (rc := 82) (ci := 8) (d' := 8) (by decide +kernel) ml_X6_150 cv_X8_tryWord rfl (by decide) rfl ob_82 rfl (by decide) (Nat.le_of_ble_eq_true rfl) (t_X8_tryWord (by decide) hc_7) ?_
    refine Fr_if_eq (off := 7) 124 (by decide +kernel) (by decide) (fun hc => ?_) (fun hc => ?_)
    · have h := iT hc h
      refine Fr_iconst (i := 0) (v := 0) (by decide +kernel) (by decide) ?_
      refine Fr_loc [1, 2] rfl ?_
      exact t_X6_readShip_b125 hp1 h
    · have h := iF hc h
      refine Fr_iconst (i := 1) (v := 1) (by decide +kernel) (by decide) ?_
      refine Fr_goto (off := 4) 125 (by decide +kernel) (by decide) ?_
      refine Fr_loc [1, 2] rfl ?_
      exact t_X6_readShip_b125 hp1 h
  · have h := iT hc h
    refine Fr_iconst (i := 0) (v := 0) (by decide +kernel) (by decide) ?_
    obtain rfl := Option.some.inj h
    exact Fr_zret (by decide +kernel) rfl (by decide) ⟨rfl, rfl⟩
def f_X6_readShip_b94 (N : Nat) (p1 : Nat) (v3 : Int32) (M : Mem) : Option (Bool × Mem) :=
  f_X6_readShip_b95 N p1 v3 0 M
set_option maxRecDepth 20000 in
theorem t_X6_readShip_b94 {N : Nat} {p1 : Nat} (hp1 : Ob 0 111 p1 5) {q : Bool × Mem} {v3 : Int32} {M : Mem} (h : f_X6_readShip_b94 N p1 v3 M = some q) : Fr 0 111 9 m_X6_readShip 94 [(0, .ref 83), (1, .ref p1), (2, .ref (p1 + 5)), (3, .int v3)] [] M (QB q) := by
  unfold f_X6_readShip_b94 at h
  refine Fr_iconst (i := 0) (v := 0) (by decide +kernel) (by decide) ?_
  exact t_X6_readShip_b95 hp1 h
def f_X6_readShip (N : Nat) (p1 : Nat) (M : Mem) : Option (Bool × Mem) :=
  if (M.1 p1 10) < 4 then (bv (f_X8_advance N M) fun M_1 =>
  bi (f_X6_readNewName N M_1) fun r_5 M_3 =>
  if (b2i r_5) = 0 then (f_X6_readShip_b94 N p1 ((M.1 p1 10) * 5) M_3) else (bi (f_X8_takeWord N 4 M_3) fun r_17 M_15 =>
  if (b2i r_17) = 0 then (f_X6_readShip_b94 N p1 ((M.1 p1 10) * 5) M_15) else (bi (f_X6_readBoard N p1 (p1 + 5) ((M.1 p1 10) * 5) M_15) fun r_20 M_18 =>
  if (b2i r_20) = 0 then (f_X6_readShip_b94 N p1 ((M.1 p1 10) * 5) M_18) else (bi (f_X8_takeWord N 13 M_18) fun r_23 M_21 =>
  if (b2i r_23) = 0 then (f_X6_readShip_b94 N p1 ((M.1 p1 10) * 5) M_21) else (bi (f_X6_readBoard N p1 (p1 + 5) (((M.1 p1 10) * 5) + 2) M_21) fun r_26 M_24 =>
  if (b2i r_26) = 0 then (f_X6_readShip_b94 N p1 ((M.1 p1 10) * 5) M_24) else (f_X6_readShip_b95 N p1 ((M.1 p1 10) * 5) 1 M_24)))))) else (bi (f_X8_refuse 6 M) fun r_29 M_27 =>
  some (r_29, M_27))
set_option maxRecDepth 20000 in
theorem t_X6_readShip {N : Nat} {p1 : Nat} (hp1 : Ob 0 111 p1 5) {M : Mem} {q : Bool × Mem} (h : f_X6_readShip N p1 M = some q) : Ev 0 111 9 m_X6_readShip [.ref 83, .ref p1] M (QB q) := by
  refine Ev_of_Fr (by decide +kernel) (Nat.le_of_ble_eq_true rfl) ?_
  show Fr 0 111 9 m_X6_readShip 0 [(0, .ref 83), (1, .ref p1)] [] M (QB q)
  unfold f_X6_readShip at h
  refine Fr_aload_n (q := 1) (i := 1) 1 (by decide +kernel) rfl rfl ?_
  refine gf_X6_185 rfl (by decide +kernel) hp1 ?_
  refine Fr_iconst (i := 4) (v := 4) (by decide +kernel) (by decide) ?_
  refine Fr_icmp_lt (off := 13) 18 (by decide +kernel) (by decide) (fun hc => ?_) (fun hc => ?_)
  · have h := iT hc h
    refine Fr_aload_n (q := 1) (i := 1) 1 (by decide +kernel) rfl rfl ?_
    refine gf_X6_188 rfl (by decide +kernel) hp1 ?_
    refine Fr_astore_n (q := 2) (i := 2) (lv' := [(2, .ref (p1 + 5)), (0, .ref 83), (1, .ref p1)]) (by decide +kernel) rfl (by decide) rfl ?_
    refine Fr_aload_n (q := 1) (i := 1) 2 (by decide +kernel) rfl rfl ?_
    refine gf_X6_185 rfl (by decide +kernel) hp1 ?_
    refine Fr_iconst (i := 5) (v := 5) (by decide +kernel) (by decide) ?_
    refine Fr_imul (by decide +kernel) ?_
    refine Fr_istore_n (q := 3) (i := 3) (lv' := [(3, .int ((M.1 p1 10) * 5)), (2, .ref (p1 + 5)), (0, .ref 83), (1, .ref p1)]) (by decide +kernel) rfl (by decide) rfl ?_
    refine Fr_aload_n (q := 0) (i := 0) 2 (by decide +kernel) rfl rfl ?_
    refine gf_X6_22 rfl (by decide +kernel) ob_83 ?_
    obtain ⟨M_1, hc_2, h⟩ := bv_elim h
    refine Fr_cVv (ν := m_X8_advance) (As := []) (st := []) (rc := 82) (ci := 8) (d' := 0) (by decide +kernel) ml_X6_113 cv_X8_advance rfl (by decide) rfl ob_82 rfl (by decide) (Nat.le_of_ble_eq_true rfl) (t_X8_advance hc_2) ?_
    refine Fr_aload_n (q := 0) (i := 0) 2 (by decide +kernel) rfl rfl ?_
    obtain ⟨r_5, M_3, hc_4, h⟩ := bi_elim h
    refine Fr_cVb (ν := m_X6_readNewName) (As := []) (st := []) (rc := 83) (ci := 6) (d' := 8) (by decide +kernel) ml_X6_137 cv_X6_readNewName rfl (by decide) rfl ob_83 rfl (by decide) (Nat.le_of_ble_eq_true rfl) (t_X6_readNewName hc_4) ?_
    refine Fr_if_eq (off := 53) 94 (by decide +kernel) (by decide) (fun hc => ?_) (fun hc => ?_)
    · have h := iT hc h
      refine Fr_loc [2, 3, 1, 0] rfl ?_
      exact t_X6_readShip_b94 hp1 h
    · have h := iF hc h
      refine Fr_aload_n (q := 0) (i := 0) 2 (by decide +kernel) rfl rfl ?_
      refine gf_X6_22 rfl (by decide +kernel) ob_83 ?_
      refine Fr_ldcS (idx := 140) 4 (by decide +kernel) (by decide) rfl rfl ?_
      obtain ⟨r_17, M_15, hc_16, h⟩ := bi_elim h
      refine Fr_cVb (ν := m_X8_takeWord) (As := [.ref (400 + 4)]) (st := []) (rc := 82) (ci := 8) (d' := 8) (by decide +kernel) ml_X6_122 cv_X8_takeWord rfl (by decide) rfl ob_82 rfl (by decide) (Nat.le_of_ble_eq_true rfl) (t_X8_takeWord (by decide) hc_16) ?_
      refine Fr_if_eq (off := 41) 94 (by decide +kernel) (by decide) (fun hc => ?_) (fun hc => ?_)
      · have h := iT hc h
        refine Fr_loc [2, 3, 1, 0] rfl ?_
        exact t_X6_readShip_b94 hp1 h
      · have h := iF hc h
        refine Fr_aload_n (q := 0) (i := 0) 2 (by decide +kernel) rfl rfl ?_
        refine Fr_aload_n (q := 1) (i := 1) 3 (by decide +kernel) rfl rfl ?_
        refine Fr_aload_n (q := 2) (i := 2) 1 (by decide +kernel) rfl rfl ?_
        refine Fr_iload_n (q := 3) (i := 3) 0 (by decide +kernel) rfl rfl ?_
        obtain ⟨r_20, M_18, hc_19, h⟩ := bi_elim h
        refine Fr_cVb (ν := m_X6_readBoard) (As := [.ref p1, .ref (p1 + 5), .int ((M.1 p1 10) * 5)]) (st := []) (rc := 83) (ci := 6) (d' := 2) (by decide +kernel) ml_X6_142 cv_X6_readBoard rfl (by decide) rfl ob_83 rfl (by decide) (Nat.le_of_ble_eq_true rfl) (t_X6_readBoard hp1 (o5_5 hp1) hc_19) ?_
        refine Fr_if_eq (off := 31) 94 (by decide +kernel) (by decide) (fun hc => ?_) (fun hc => ?_)
        · have h := iT hc h
          refine Fr_loc [2, 3, 1, 0] rfl ?_
          exact t_X6_readShip_b94 hp1 h
        · have h := iF hc h
          refine Fr_aload_n (q := 0) (i := 0) 2 (by decide +kernel) rfl rfl ?_
          refine gf_X6_22 rfl (by decide +kernel) ob_83 ?_
          refine Fr_ldcS (idx := 180) 13 (by decide +kernel) (by decide) rfl rfl ?_
          obtain ⟨r_23, M_21, hc_22, h⟩ := bi_elim h
          refine Fr_cVb (ν := m_X8_takeWord) (As := [.ref (400 + 13)]) (st := []) (rc := 82) (ci := 8) (d' := 8) (by decide +kernel) ml_X6_122 cv_X8_takeWord rfl (by decide) rfl ob_82 rfl (by decide) (Nat.le_of_ble_eq_true rfl) (t_X8_takeWord (by decide) hc_22) ?_
          refine Fr_if_eq (off := 19) 94 (by decide +kernel) (by decide) (fun hc => ?_) (fun hc => ?_)
          · have h := iT hc h
            refine Fr_loc [2, 3, 1, 0] rfl ?_
            exact t_X6_readShip_b94 hp1 h
          · have h := iF hc h
            refine Fr_aload_n (q := 0) (i := 0) 2 (by decide +kernel) rfl rfl ?_
            refine Fr_aload_n (q := 1) (i := 1) 3 (by decide +kernel) rfl rfl ?_
            refine Fr_aload_n (q := 2) (i := 2) 1 (by decide +kernel) rfl rfl ?_
            refine Fr_iload_n (q := 3) (i := 3) 0 (by decide +kernel) rfl rfl ?_
            refine Fr_iconst (i := 2) (v := 2) (by decide +kernel) (by decide) ?_
            refine Fr_iadd (by decide +kernel) ?_
            obtain ⟨r_26, M_24, hc_25, h⟩ := bi_elim h
            refine Fr_cVb (ν := m_X6_readBoard) (As := [.ref p1, .ref (p1 + 5), .int (((M.1 p1 10) * 5) + 2)]) (st := []) (rc := 83) (ci := 6) (d' := 2) (by decide +kernel) ml_X6_142 cv_X6_readBoard rfl (by decide) rfl ob_83 rfl (by decide) (Nat.le_of_ble_eq_true rfl) (t_X6_readBoard hp1 (o5_5 hp1) hc_25) ?_
            refine Fr_if_eq (off := 7) 94 (by decide +kernel) (by decide) (fun hc => ?_) (fun hc => ?_)
            · have h := iT hc h
              refine Fr_loc [2, 3, 1, 0] rfl ?_
              exact t_X6_readShip_b94 hp1 h
            · have h := iF hc h
              refine Fr_iconst (i := 1) (v := 1) (by decide +kernel) (by decide) ?_
              refine Fr_goto (off := 4) 95 (by decide +kernel) (by decide) ?_
              refine Fr_loc [2, 3, 1, 0] rfl ?_
              exact t_X6_readShip_b95 hp1 h
  · have h := iF hc h
    refine Fr_aload_n (q := 0) (i := 0) 0 (by decide +kernel) rfl rfl ?_
    refine gf_X6_22 rfl (by decide +kernel) ob_83 ?_
    refine Fr_bipush (i := 6) (v := 6) (by decide +kernel) (by decide) ?_
    obtain ⟨r_29, M_27, hc_28, h⟩ := bi_elim h
    refine Fr_cVb (ν := m_X8_refuse) (As := [.int 6]) (st := []) (rc := 82) (ci := 8) (d' := 0) (by decide +kernel) ml_X6_79 cv_X8_refuse rfl (by decide) rfl ob_82 rfl (by decide) (Nat.le_of_ble_eq_true rfl) (t_X8_refuse hc_28) ?_
    obtain rfl := Option.some.inj h
    exact Fr_zret (by decide +kernel) rfl (nz_b r_29) ⟨rfl, rfl⟩
def f_X6_readSetting (N : Nat) (x1 : Int32) (x2 : Int32) (x3 : Int32) (M : Mem) : Option (Bool × Mem) :=
  ck x1 3 (
  if (M.1 85 (tn x1)) = (-1) then (bv (f_X8_advance N M) fun M_2 =>
  bi (f_X8_takeNumber N 85 x1 x2 x3 M_2) fun r_6 M_4 =>
  if (b2i r_6) = 0 then (some (false, M_4)) else (bi (f_X8_takeSemicolon N M_4) fun r_9 M_7 =>
  if (b2i r_9) = 0 then (some (false, M_7)) else (some (true, M_7)))) else (bi (f_X8_refuse 5 M) fun r_12 M_10 =>
  some (r_12, M_10)))
set_option maxRecDepth 20000 in
theorem t_X6_readSetting {N : Nat} {x1 : Int32} {x2 : Int32} {x3 : Int32} {M : Mem} {q : Bool × Mem} (h : f_X6_readSetting N x1 x2 x3 M = some q) : Ev 0 111 2 m_X6_readSetting [.ref 83, .int x1, .int x2, .int x3] M (QB q) := by
  refine Ev_of_Fr (by decide +kernel) (Nat.le_of_ble_eq_true rfl) ?_
  show Fr 0 111 2 m_X6_readSetting 0 [(0, .ref 83), (1, .int x1), (2, .int x2), (3, .int x3)] [] M (QB q)
  unfold f_X6_readSetting at h
  refine Fr_aload_n (q := 0) (i := 0) 0 (by decide +kernel) rfl rfl ?_
  refine gf_X6_15 rfl (by decide +kernel) ob_83 ?_
  refine Fr_iload_n (q := 1) (i := 1) 1 (by decide +kernel) rfl rfl ?_
  obtain ⟨hi_1, h⟩ := ck_elim h
  refine Fr_iald (by decide +kernel) ob_85 (vp_of ln_85 hi_1) ?_
  refine Fr_iconst (i := (-1)) (v := (-1)) (by decide +kernel) (by decide) ?_
  refine Fr_icmp_eq (off := 12) 19 (by decide +kernel) (by decide) (fun hc => ?_) (fun hc => ?_)
  · have h := iT hc h
    refine Fr_aload_n (q := 0) (i := 0) 0 (by decide +kernel) rfl rfl ?_
    refine gf_X6_22 rfl (by decide +kernel) ob_83 ?_
    obtain ⟨M_2, hc_3, h⟩ := bv_elim h
    refine Fr_cVv (ν := m_X8_advance) (As := []) (st := []) (rc := 82) (ci := 8) (d' := 0) (by decide +kernel) ml_X6_113 cv_X8_advance rfl (by decide) rfl ob_82 rfl (by decide) (Nat.le_of_ble_eq_true rfl) (t_X8_advance hc_3) ?_
    refine Fr_aload_n (q := 0) (i := 0) 0 (by decide +kernel) rfl rfl ?_
    refine gf_X6_22 rfl (by decide +kernel) ob_83 ?_
    refine Fr_aload_n (q := 0) (i := 0) 0 (by decide +kernel) rfl rfl ?_
    refine gf_X6_15 rfl (by decide +kernel) ob_83 ?_
    refine Fr_iload_n (q := 1) (i := 1) 1 (by decide +kernel) rfl rfl ?_
    refine Fr_iload_n (q := 2) (i := 2) 2 (by decide +kernel) rfl rfl ?_
    refine Fr_iload_n (q := 3) (i := 3) 3 (by decide +kernel) rfl rfl ?_
    obtain ⟨r_6, M_4, hc_5, h⟩ := bi_elim h
    refine Fr_cVb (ν := m_X8_takeNumber) (As := [.ref 85, .int x1, .int x2, .int x3]) (st := []) (rc := 82) (ci := 8) (d' := 1) (by decide +kernel) ml_X6_116 cv_X8_takeNumber rfl (by decide) rfl ob_82 rfl (by decide) (Nat.le_of_ble_eq_true rfl) (t_X8_takeNumber ob_85 hc_5) ?_
    refine Fr_if_eq (off := 17) 57 (by decide +kernel) (by decide) (fun hc => ?_) (fun hc => ?_)
    · have h := iT hc h
      refine Fr_iconst (i := 0) (v := 0) (by decide +kernel) (by decide) ?_
      obtain rfl := Option.some.inj h
      exact Fr_zret (by decide +kernel) rfl (by decide) ⟨rfl, rfl⟩
    · have h := iF hc h
      refine Fr_aload_n (q := 0) (i := 0) 0 (by decide +kernel) rfl rfl ?_
      refine gf_X6_22 rfl (by decide +kernel) ob_83 ?_
      obtain ⟨r_9, M_7, hc_8, h⟩ := bi_elim h
      refine Fr_cVb (ν := m_X8_takeSemicolon) (As := []) (st := []) (rc := 82) (ci := 8) (d' := 1) (by decide +kernel) ml_X6_128 cv_X8_takeSemicolon rfl (by decide) rfl ob_82 rfl (by decide) (Nat.le_of_ble_eq_true rfl) (t_X8_takeSemicolon hc_8) ?_
      refine Fr_if_eq (off := 7) 57 (by decide +kernel) (by decide) (fun hc => ?_) (fun hc => ?_)
      · have h := iT hc h
        refine Fr_iconst (i := 0) (v := 0) (by decide +kernel) (by decide) ?_
        obtain rfl := Option.some.inj h
        exact Fr_zret (by decide +kernel) rfl (by decide) ⟨rfl, rfl⟩
      · have h := iF hc h
        refine Fr_iconst (i := 1) (v := 1) (by decide +kernel) (by decide) ?_
        refine Fr_goto (off := 4) 58 (by decide +kernel) (by decide) ?_
        obtain rfl := Option.some.inj h
        exact Fr_zret (by decide +kernel) rfl (by decide) ⟨rfl, rfl⟩
  · have h := iF hc h
    refine Fr_aload_n (q := 0) (i := 0) 0 (by decide +kernel) rfl rfl ?_
    refine gf_X6_22 rfl (by decide +kernel) ob_83 ?_
    refine Fr_iconst (i := 5) (v := 5) (by decide +kernel) (by decide) ?_
    obtain ⟨r_12, M_10, hc_11, h⟩ := bi_elim h
    refine Fr_cVb (ν := m_X8_refuse) (As := [.int 5]) (st := []) (rc := 82) (ci := 8) (d' := 0) (by decide +kernel) ml_X6_79 cv_X8_refuse rfl (by decide) rfl ob_82 rfl (by decide) (Nat.le_of_ble_eq_true rfl) (t_X8_refuse hc_11) ?_
    obtain rfl := Option.some.inj h
    exact Fr_zret (by decide +kernel) rfl (nz_b r_12) ⟨rfl, rfl⟩
def f_X6_readPart (N : Nat) (p1 : Nat) (M : Mem) : Option (Bool × Mem) :=
  bi (f_X8_isWord N 0 M) fun r_3 M_1 =>
  if (b2i r_3) = 0 then (if (M_1.1 p1 0) = 0 then (bi (f_X8_refuse 2 M_1) fun r_51 M_49 =>
  some (r_51, M_49)) else (bi (f_X8_isWord N 2 M_1) fun r_6 M_4 =>
  if (b2i r_6) = 0 then (bi (f_X8_isWord N 9 M_4) fun r_9 M_7 =>
  if (b2i r_9) = 0 then (bi (f_X8_isWord N 11 M_7) fun r_12 M_10 =>
  if (b2i r_12) = 0 then (bi (f_X8_isWord N 16 M_10) fun r_15 M_13 =>
  if (b2i r_15) = 0 then (bi (f_X8_isWord N 18 M_13) fun r_18 M_16 =>
  if (b2i r_18) = 0 then (bi (f_X8_isWord N 19 M_16) fun r_21 M_19 =>
  if (b2i r_21) = 0 then (bi (f_X8_isWord N 20 M_19) fun r_24 M_22 =>
  if (b2i r_24) = 0 then (bi (f_X8_refuse 2 M_22) fun r_27 M_25 =>
  some (r_27, M_25)) else (bi (f_X6_readSetting N 2 1 99 M_22) fun r_30 M_28 =>
  some (r_30, M_28))) else (bi (f_X6_readSetting N 1 0 9 M_19) fun r_33 M_31 =>
  some (r_33, M_31))) else (bi (f_X6_readSetting N 0 0 4 M_16) fun r_36 M_34 =>
  some (r_36, M_34))) else (bi (f_X6_readShip N p1 M_13) fun r_39 M_37 =>
  some (r_39, M_37))) else (bi (f_X6_readTrade N p1 M_10) fun r_42 M_40 =>
  some (r_42, M_40))) else (bi (f_X6_readHolder N p1 M_7) fun r_45 M_43 =>
  some (r_45, M_43))) else (bi (f_X6_readGate N p1 M_4) fun r_48 M_46 =>
  some (r_48, M_46)))) else (bi (f_X6_readSize N p1 M_1) fun r_54 M_52 =>
  some (r_54, M_52))
set_option maxRecDepth 20000 in
theorem t_X6_readPart {N : Nat} {p1 : Nat} (hp1 : Ob 0 111 p1 5) {M : Mem} {q : Bool × Mem} (h : f_X6_readPart N p1 M = some q) : Ev 0 111 10 m_X6_readPart [.ref 83, .ref p1] M (QB q) := by
  refine Ev_of_Fr (by decide +kernel) (Nat.le_of_ble_eq_true rfl) ?_
  show Fr 0 111 10 m_X6_readPart 0 [(0, .ref 83), (1, .ref p1)] [] M (QB q)
  unfold f_X6_readPart at h
  refine Fr_aload_n (q := 0) (i := 0) 0 (by decide +kernel) rfl rfl ?_
  refine gf_X6_22 rfl (by decide +kernel) ob_83 ?_
  refine Fr_ldcS (idx := 67) 0 (by decide +kernel) (by decide) rfl rfl ?_
  obtain ⟨r_3, M_1, hc_2, h⟩ := bi_elim h
  refine Fr_cVb (ν := m_X8_isWord) (As := [.ref (400 + 0)]) (st := []) (rc := 82) (ci := 8) (d' := 7) (by decide +kernel) ml_X6_69 cv_X8_isWord rfl (by decide) rfl ob_82 rfl (by decide) (Nat.le_of_ble_eq_true rfl) (t_X8_isWord (by decide) hc_2) ?_
  refine Fr_if_eq (off := 9) 18 (by decide +kernel) (by decide) (fun hc => ?_) (fun hc => ?_)
  · have h := iT hc h
    refine Fr_aload_n (q := 1) (i := 1) 1 (by decide +kernel) rfl rfl ?_
    refine gf_X6_76 rfl (by decide +kernel) hp1 ?_
    refine Fr_if_ne (off := 12) 34 (by decide +kernel) (by decide) (fun hc => ?_) (fun hc => ?_)
    · have h := iF hc h
      refine Fr_aload_n (q := 0) (i := 0) 0 (by decide +kernel) rfl rfl ?_
      refine gf_X6_22 rfl (by decide +kernel) ob_83 ?_
      refine Fr_ldcS (idx := 83) 2 (by decide +kernel) (by decide) rfl rfl ?_
      obtain ⟨r_6, M_4, hc_5, h⟩ := bi_elim h
      refine Fr_cVb (ν := m_X8_isWord) (As := [.ref (400 + 2)]) (st := []) (rc := 82) (ci := 8) (d' := 7) (by decide +kernel) ml_X6_69 cv_X8_isWord rfl (by decide) rfl ob_82 rfl (by decide) (Nat.le_of_ble_eq_true rfl) (t_X8_isWord (by decide) hc_5) ?_
      refine Fr_if_eq (off := 9) 52 (by decide +kernel) (by decide) (fun hc => ?_) (fun hc => ?_)
      · have h := iT hc h
        refine Fr_aload_n (q := 0) (i := 0) 0 (by decide +kernel) rfl rfl ?_
        refine gf_X6_22 rfl (by decide +kernel) ob_83 ?_
        refine Fr_ldcS (idx := 88) 9 (by decide +kernel) (by decide) rfl rfl ?_
        obtain ⟨r_9, M_7, hc_8, h⟩ := bi_elim h
        refine Fr_cVb (ν := m_X8_isWord) (As := [.ref (400 + 9)]) (st := []) (rc := 82) (ci := 8) (d' := 7) (by decide +kernel) ml_X6_69 cv_X8_isWord rfl (by decide) rfl ob_82 rfl (by decide) (Nat.le_of_ble_eq_true rfl) (t_X8_isWord (by decide) hc_8) ?_
        refine Fr_if_eq (off := 9) 70 (by decide +kernel) (by decide) (fun hc => ?_) (fun hc => ?_)
        · have h := iT hc h
          refine Fr_aload_n (q := 0) (i := 0) 0 (by decide +kernel) rfl rfl ?_
          refine gf_X6_22 rfl (by decide +kernel) ob_83 ?_
          refine Fr_ldcS (idx := 93) 11 (by decide +kernel) (by decide) rfl rfl ?_
          obtain ⟨r_12, M_10, hc_11, h⟩ := bi_elim h
          refine Fr_cVb (ν := m_X8_isWord) (As := [.ref (400 + 11)]) (st := []) (rc := 82) (ci := 8) (d' := 7) (by decide +kernel) ml_X6_69 cv_X8_isWord rfl (by decide) rfl ob_82 rfl (by decide) (Nat.le_of_ble_eq_true rfl) (t_X8_isWord (by decide) hc_11) ?_
          refine Fr_if_eq (off := 9) 88 (by decide +kernel) (by decide) (fun hc => ?_) (fun hc => ?_)
          · have h := iT hc h
            refine Fr_aload_n (q := 0) (i := 0) 0 (by decide +kernel) rfl rfl ?_
            refine gf_X6_22 rfl (by decide +kernel) ob_83 ?_
            refine Fr_ldcS (idx := 98) 16 (by decide +kernel) (by decide) rfl rfl ?_
            obtain ⟨r_15, M_13, hc_14, h⟩ := bi_elim h
            refine Fr_cVb (ν := m_X8_isWord) (As := [.ref (400 + 16)]) (st := []) (rc := 82) (ci := 8) (d' := 7) (by decide +kernel) ml_X6_69 cv_X8_isWord rfl (by decide) rfl ob_82 rfl (by decide) (Nat.le_of_ble_eq_true rfl) (t_X8_isWord (by decide) hc_14) ?_
            refine Fr_if_eq (off := 9) 106 (by decide +kernel) (by decide) (fun hc => ?_) (fun hc => ?_)
            · have h := iT hc h
              refine Fr_aload_n (q := 0) (i := 0) 0 (by decide +kernel) rfl rfl ?_
              refine gf_X6_22 rfl (by decide +kernel) ob_83 ?_
              refine Fr_ldcS (idx := 103) 18 (by decide +kernel) (by decide) rfl rfl ?_
              obtain ⟨r_18, M_16, hc_17, h⟩ := bi_elim h
              refine Fr_cVb (ν := m_X8_isWord) (As := [.ref (400 + 18)]) (st := []) (rc := 82) (ci := 8) (d' := 7) (by decide +kernel) ml_X6_69 cv_X8_isWord rfl (by decide) rfl ob_82 rfl (by decide) (Nat.le_of_ble_eq_true rfl) (t_X8_isWord (by decide) hc_17) ?_
              refine Fr_if_eq (off := 11) 126 (by decide +kernel) (by decide) (fun hc => ?_) (fun hc => ?_)
              · have h := iT hc h
                refine Fr_aload_n (q := 0) (i := 0) 0 (by decide +kernel) rfl rfl ?_
                refine gf_X6_22 rfl (by decide +kernel) ob_83 ?_
                refine Fr_ldcS (idx := 109) 19 (by decide +kernel) (by decide) rfl rfl ?_
                obtain ⟨r_21, M_19, hc_20, h⟩ := bi_elim h
                refine Fr_cVb (ν := m_X8_isWord) (As := [.ref (400 + 19)]) (st := []) (rc := 82) (ci := 8) (d' := 7) (by decide +kernel) ml_X6_69 cv_X8_isWord rfl (by decide) rfl ob_82 rfl (by decide) (Nat.le_of_ble_eq_true rfl) (t_X8_isWord (by decide) hc_20) ?_
                refine Fr_if_eq (off := 12) 147 (by decide +kernel) (by decide) (fun hc => ?_) (fun hc => ?_)
                · have h := iT hc h
                  refine Fr_aload_n (q := 0) (i := 0) 0 (by decide +kernel) rfl rfl ?_
                  refine gf_X6_22 rfl (by decide +kernel) ob_83 ?_
                  refine Fr_ldcS (idx := 111) 20 (by decide +kernel) (by decide) rfl rfl ?_
                  obtain ⟨r_24, M_22, hc_23, h⟩ := bi_elim h
                  refine Fr_cVb (ν := m_X8_isWord) (As := [.ref (400 + 20)]) (st := []) (rc := 82) (ci := 8) (d' := 7) (by decide +kernel) ml_X6_69 cv_X8_isWord rfl (by decide) rfl ob_82 rfl (by decide) (Nat.le_of_ble_eq_true rfl) (t_X8_isWord (by decide) hc_23) ?_
                  refine Fr_if_eq (off := 12) 168 (by decide +kernel) (by decide) (fun hc => ?_) (fun hc => ?_)
                  · have h := iT hc h
                    refine Fr_aload_n (q := 0) (i := 0) 0 (by decide +kernel) rfl rfl ?_
                    refine gf_X6_22 rfl (by decide +kernel) ob_83 ?_
                    refine Fr_iconst (i := 2) (v := 2) (by decide +kernel) (by decide) ?_
                    obtain ⟨r_27, M_25, hc_26, h⟩ := bi_elim h
                    refine Fr_cVb (ν := m_X8_refuse) (As := [.int 2]) (st := []) (rc := 82) (ci := 8) (d' := 0) (by decide +kernel) ml_X6_79 cv_X8_refuse rfl (by decide) rfl ob_82 rfl (by decide) (Nat.le_of_ble_eq_true rfl) (t_X8_refuse hc_26) ?_
                    obtain rfl := Option.some.inj h
                    exact Fr_zret (by decide +kernel) rfl (nz_b r_27) ⟨rfl, rfl⟩
                  · have h := iF hc h
                    refine Fr_aload_n (q := 0) (i := 0) 0 (by decide +kernel) rfl rfl ?_
                    refine Fr_iconst (i := 2) (v := 2) (by decide +kernel) (by decide) ?_
                    refine Fr_iconst (i := 1) (v := 1) (by decide +kernel) (by decide) ?_
                    refine Fr_bipush (i := 99) (v := 99) (by decide +kernel) (by decide) ?_
                    obtain ⟨r_30, M_28, hc_29, h⟩ := bi_elim h
                    refine Fr_cVb (ν := m_X6_readSetting) (As := [.int 2, .int 1, .int 99]) (st := []) (rc := 83) (ci := 6) (d' := 2) (by decide +kernel) ml_X6_105 cv_X6_readSetting rfl (by decide) rfl ob_83 rfl (by decide) (Nat.le_of_ble_eq_true rfl) (t_X6_readSetting hc_29) ?_
                    obtain rfl := Option.some.inj h
                    exact Fr_zret (by decide +kernel) rfl (nz_b r_30) ⟨rfl, rfl⟩
                · have h := iF hc h
                  refine Fr_aload_n (q := 0) (i := 0) 0 (by decide +kernel) rfl rfl ?_
                  refine Fr_iconst (i := 1) (v := 1) (by decide +kernel) (by decide) ?_
                  refine Fr_iconst (i := 0) (v := 0) (by decide +kernel) (by decide) ?_
                  refine Fr_bipush (i := 9) (v := 9) (by decide +kernel) (by decide) ?_
                  obtain ⟨r_33, M_31, hc_32, h⟩ := bi_elim h
                  refine Fr_cVb (ν := m_X6_readSetting) (As := [.int 1, .int 0, .int 9]) (st := []) (rc := 83) (ci := 6) (d' := 2) (by decide +kernel) ml_X6_105 cv_X6_readSetting rfl (by decide) rfl ob_83 rfl (by decide) (Nat.le_of_ble_eq_true rfl) (t_X6_readSetting hc_32) ?_
                  obtain rfl := Option.some.inj h
                  exact Fr_zret (by decide +kernel) rfl (nz_b r_33) ⟨rfl, rfl⟩
              · have h := iF hc h
                refine Fr_aload_n (q := 0) (i := 0) 0 (by decide +kernel) rfl rfl ?_
                refine Fr_iconst (i := 0) (v := 0) (by decide +kernel) (by decide) ?_
                refine Fr_iconst (i := 0) (v := 0) (by decide +kernel) (by decide) ?_
                refine Fr_iconst (i := 4) (v := 4) (by decide +kernel) (by decide) ?_
                obtain ⟨r_36, M_34, hc_35, h⟩ := bi_elim h
                refine Fr_cVb (ν := m_X6_readSetting) (As := [.int 0, .int 0, .int 4]) (st := []) (rc := 83) (ci := 6) (d' := 2) (by decide +kernel) ml_X6_105 cv_X6_readSetting rfl (by decide) rfl ob_83 rfl (by decide) (Nat.le_of_ble_eq_true rfl) (t_X6_readSetting hc_35) ?_
                obtain rfl := Option.some.inj h
                exact Fr_zret (by decide +kernel) rfl (nz_b r_36) ⟨rfl, rfl⟩
            · have h := iF hc h
              refine Fr_aload_n (q := 0) (i := 0) 0 (by decide +kernel) rfl rfl ?_
              refine Fr_aload_n (q := 1) (i := 1) 1 (by decide +kernel) rfl rfl ?_
              obtain ⟨r_39, M_37, hc_38, h⟩ := bi_elim h
              refine Fr_cVb (ν := m_X6_readShip) (As := [.ref p1]) (st := []) (rc := 83) (ci := 6) (d' := 9) (by decide +kernel) ml_X6_100 cv_X6_readShip rfl (by decide) rfl ob_83 rfl (by decide) (Nat.le_of_ble_eq_true rfl) (t_X6_readShip hp1 hc_38) ?_
              obtain rfl := Option.some.inj h
              exact Fr_zret (by decide +kernel) rfl (nz_b r_39) ⟨rfl, rfl⟩
          · have h := iF hc h
            refine Fr_aload_n (q := 0) (i := 0) 0 (by decide +kernel) rfl rfl ?_
            refine Fr_aload_n (q := 1) (i := 1) 1 (by decide +kernel) rfl rfl ?_
            obtain ⟨r_42, M_40, hc_41, h⟩ := bi_elim h
            refine Fr_cVb (ν := m_X6_readTrade) (As := [.ref p1]) (st := []) (rc := 83) (ci := 6) (d' := 9) (by decide +kernel) ml_X6_95 cv_X6_readTrade rfl (by decide) rfl ob_83 rfl (by decide) (Nat.le_of_ble_eq_true rfl) (t_X6_readTrade hp1 hc_41) ?_
            obtain rfl := Option.some.inj h
            exact Fr_zret (by decide +kernel) rfl (nz_b r_42) ⟨rfl, rfl⟩
        · have h := iF hc h
          refine Fr_aload_n (q := 0) (i := 0) 0 (by decide +kernel) rfl rfl ?_
          refine Fr_aload_n (q := 1) (i := 1) 1 (by decide +kernel) rfl rfl ?_
          obtain ⟨r_45, M_43, hc_44, h⟩ := bi_elim h
          refine Fr_cVb (ν := m_X6_readHolder) (As := [.ref p1]) (st := []) (rc := 83) (ci := 6) (d' := 9) (by decide +kernel) ml_X6_90 cv_X6_readHolder rfl (by decide) rfl ob_83 rfl (by decide) (Nat.le_of_ble_eq_true rfl) (t_X6_readHolder hp1 hc_44) ?_
          obtain rfl := Option.some.inj h
          exact Fr_zret (by decide +kernel) rfl (nz_b r_45) ⟨rfl, rfl⟩
      · have h := iF hc h
        refine Fr_aload_n (q := 0) (i := 0) 0 (by decide +kernel) rfl rfl ?_
        refine Fr_aload_n (q := 1) (i := 1) 1 (by decide +kernel) rfl rfl ?_
        obtain ⟨r_48, M_46, hc_47, h⟩ := bi_elim h
        refine Fr_cVb (ν := m_X6_readGate) (As := [.ref p1]) (st := []) (rc := 83) (ci := 6) (d' := 9) (by decide +kernel) ml_X6_85 cv_X6_readGate rfl (by decide) rfl ob_83 rfl (by decide) (Nat.le_of_ble_eq_true rfl) (t_X6_readGate hp1 hc_47) ?_
        obtain rfl := Option.some.inj h
        exact Fr_zret (by decide +kernel) rfl (nz_b r_48) ⟨rfl, rfl⟩
    · have h := iT hc h
      refine Fr_aload_n (q := 0) (i := 0) 0 (by decide +kernel) rfl rfl ?_
      refine gf_X6_22 rfl (by decide +kernel) ob_83 ?_
      refine Fr_iconst (i := 2) (v := 2) (by decide +kernel) (by decide) ?_
      obtain ⟨r_51, M_49, hc_50, h⟩ := bi_elim h
      refine Fr_cVb (ν := m_X8_refuse) (As := [.int 2]) (st := []) (rc := 82) (ci := 8) (d' := 0) (by decide +kernel) ml_X6_79 cv_X8_refuse rfl (by decide) rfl ob_82 rfl (by decide) (Nat.le_of_ble_eq_true rfl) (t_X8_refuse hc_50) ?_
      obtain rfl := Option.some.inj h
      exact Fr_zret (by decide +kernel) rfl (nz_b r_51) ⟨rfl, rfl⟩
  · have h := iF hc h
    refine Fr_aload_n (q := 0) (i := 0) 0 (by decide +kernel) rfl rfl ?_
    refine Fr_aload_n (q := 1) (i := 1) 1 (by decide +kernel) rfl rfl ?_
    obtain ⟨r_54, M_52, hc_53, h⟩ := bi_elim h
    refine Fr_cVb (ν := m_X6_readSize) (As := [.ref p1]) (st := []) (rc := 83) (ci := 6) (d' := 9) (by decide +kernel) ml_X6_73 cv_X6_readSize rfl (by decide) rfl ob_83 rfl (by decide) (Nat.le_of_ble_eq_true rfl) (t_X6_readSize hp1 hc_53) ?_
    obtain rfl := Option.some.inj h
    exact Fr_zret (by decide +kernel) rfl (nz_b r_54) ⟨rfl, rfl⟩
