set_option maxRecDepth 20000 in
theorem t_X6_readNewName_h29 {N : Nat} {q : Bool × Mem} {k29 : Int64 × Int32 → Mem → Option (Bool × Mem)} (hk29 : ∀ (a : Int64 × Int32) (M : Mem), k29 a M = some q → Fr 0 111 8 m_X6_readNewName 29 [(0, .ref 83), (1, .long a.1), (3, .int a.2)] [] M (QB q)) {v1 : Int64} {v3 : Int32} {M : Mem} (h : f_X6_readNewName_h29 N k29 v1 v3 M = some q) : Fr 0 111 8 m_X6_readNewName 29 [(0, .ref 83), (1, .long v1), (3, .int v3)] [] M (QB q) := by
  unfold f_X6_readNewName_h29 at h
  refine Fr_iload_n (q := 3) (i := 3) 2 (by decide +kernel) rfl rfl ?_
  refine Fr_aload_n (q := 0) (i := 0) 0 (by decide +kernel) rfl rfl ?_
  refine gf_X6_31 rfl (by decide +kernel) ob_83 ?_
  refine Fr_icmp_ge (off := 29) 63 (by decide +kernel) (by decide) (fun hc => ?_) (fun hc => ?_)
  · have h := iT hc h
    refine Fr_aload_n (q := 0) (i := 0) 0 (by decide +kernel) rfl rfl ?_
    refine gf_X6_31 rfl (by decide +kernel) ob_83 ?_
    refine Fr_bipush (i := 22) (v := 22) (by decide +kernel) (by decide) ?_
    refine Fr_icmp_ge (off := 23) 92 (by decide +kernel) (by decide) (fun hc => ?_) (fun hc => ?_)
    · have h := iT hc h
      refine Fr_aload_n (q := 0) (i := 0) 0 (by decide +kernel) rfl rfl ?_
      refine gf_X6_22 rfl (by decide +kernel) ob_83 ?_
      obtain ⟨M_7, hc_8, h⟩ := bv_elim h
      refine Fr_cVv (ν := m_X8_advance) (As := []) (st := []) (rc := 82) (ci := 8) (d' := 0) (by decide +kernel) ml_X6_113 cv_X8_advance rfl (by decide) rfl ob_82 rfl (by decide) (Nat.le_of_ble_eq_true rfl) (t_X8_advance hc_8) ?_
      refine Fr_iconst (i := 1) (v := 1) (by decide +kernel) (by decide) ?_
      obtain rfl := Option.some.inj h
      exact Fr_zret (by decide +kernel) rfl (by decide) ⟨rfl, rfl⟩
    · have h := iF hc h
      refine Fr_aload_n (q := 0) (i := 0) 0 (by decide +kernel) rfl rfl ?_
      refine gf_X6_9 rfl (by decide +kernel) ob_83 ?_
      refine Fr_aload_n (q := 0) (i := 0) 0 (by decide +kernel) rfl rfl ?_
      refine gf_X6_31 rfl (by decide +kernel) ob_83 ?_
      refine Fr_lload_n (q := 1) (i := 1) 1 (by decide +kernel) rfl rfl ?_
      obtain ⟨hi_9, h⟩ := ck_elim h
      refine Fr_last (by decide +kernel) ob_84 (vp_of ln_84 hi_9) ?_
      obtain ⟨M_10, eM_10, h⟩ := bM_elim h
      refine Fr_mem eM_10 ?_
      refine Fr_aload_n (q := 0) (i := 0) 0 (by decide +kernel) rfl rfl ?_
      refine Fr_dup (by decide +kernel) rfl ?_
      refine gf_X6_31 rfl (by decide +kernel) ob_83 ?_
      refine Fr_iconst (i := 1) (v := 1) (by decide +kernel) (by decide) ?_
      refine Fr_iadd (by decide +kernel) ?_
      refine pf_X6_31 rfl (by decide +kernel) ob_83 ?_
      obtain ⟨M_11, eM_11, h⟩ := bM_elim h
      refine Fr_mem eM_11 ?_
      refine Fr_aload_n (q := 0) (i := 0) 0 (by decide +kernel) rfl rfl ?_
      refine gf_X6_22 rfl (by decide +kernel) ob_83 ?_
      obtain ⟨M_12, hc_13, h⟩ := bv_elim h
      refine Fr_cVv (ν := m_X8_advance) (As := []) (st := []) (rc := 82) (ci := 8) (d' := 0) (by decide +kernel) ml_X6_113 cv_X8_advance rfl (by decide) rfl ob_82 rfl (by decide) (Nat.le_of_ble_eq_true rfl) (t_X8_advance hc_13) ?_
      refine Fr_iconst (i := 1) (v := 1) (by decide +kernel) (by decide) ?_
      obtain rfl := Option.some.inj h
      exact Fr_zret (by decide +kernel) rfl (by decide) ⟨rfl, rfl⟩
  · have h := iF hc h
    refine Fr_aload_n (q := 0) (i := 0) 0 (by decide +kernel) rfl rfl ?_
    refine gf_X6_9 rfl (by decide +kernel) ob_83 ?_
    refine Fr_iload_n (q := 3) (i := 3) 2 (by decide +kernel) rfl rfl ?_
    obtain ⟨hi_14, h⟩ := ck_elim h
    refine Fr_lald (by decide +kernel) ob_84 (vp_of ln_84 hi_14) ?_
    refine Fr_lload_n (q := 1) (i := 1) 1 (by decide +kernel) rfl rfl ?_
    refine Fr_lcmp (by decide +kernel) ?_
    refine Fr_if_ne (off := 12) 57 (by decide +kernel) (by decide) (fun hc => ?_) (fun hc => ?_)
    · have h := iF hc h
      refine Fr_iinc (i := 3) (j := 1) (v := (v3 + 1)) (lv' := [(3, .int (v3 + 1)), (0, .ref 83), (1, .long v1)]) 2 (by decide +kernel) rfl rfl (by decide) rfl ?_
      refine Fr_goto (off := (-31)) 29 (by decide +kernel) (by decide) ?_
      refine Fr_loc [1, 2, 0] rfl ?_
      exact hk29 (v1, (v3 + 1)) M h
    · have h := iT hc h
      refine Fr_aload_n (q := 0) (i := 0) 0 (by decide +kernel) rfl rfl ?_
      refine gf_X6_22 rfl (by decide +kernel) ob_83 ?_
      refine Fr_iconst (i := 3) (v := 3) (by decide +kernel) (by decide) ?_
      obtain ⟨r_17, M_15, hc_16, h⟩ := bi_elim h
      refine Fr_cVb (ν := m_X8_refuse) (As := [.int 3]) (st := []) (rc := 82) (ci := 8) (d' := 0) (by decide +kernel) ml_X6_79 cv_X8_refuse rfl (by decide) rfl ob_82 rfl (by decide) (Nat.le_of_ble_eq_true rfl) (t_X8_refuse hc_16) ?_
      obtain rfl := Option.some.inj h
      exact Fr_zret (by decide +kernel) rfl (nz_b r_17) ⟨rfl, rfl⟩
set_option maxRecDepth 20000 in
theorem t_X6_readNewName {N : Nat} {M : Mem} {q : Bool × Mem} (h : f_X6_readNewName N M = some q) : Ev 0 111 8 m_X6_readNewName [.ref 83] M (QB q) := by
  refine Ev_of_Fr (by decide +kernel) (Nat.le_of_ble_eq_true rfl) ?_
  show Fr 0 111 8 m_X6_readNewName 0 [(0, .ref 83)] [] M (QB q)
  unfold f_X6_readNewName at h
  refine Fr_aload_n (q := 0) (i := 0) 0 (by decide +kernel) rfl rfl ?_
  refine gf_X6_22 rfl (by decide +kernel) ob_83 ?_
  obtain ⟨r_3, M_1, hc_2, h⟩ := bi_elim h
  refine Fr_cVb (ν := m_X8_isName) (As := []) (st := []) (rc := 82) (ci := 8) (d' := 7) (by decide +kernel) ml_X6_193 cv_X8_isName rfl (by decide) rfl ob_82 rfl (by decide) (Nat.le_of_ble_eq_true rfl) (t_X8_isName hc_2) ?_
  refine Fr_if_ne (off := 12) 19 (by decide +kernel) (by decide) (fun hc => ?_) (fun hc => ?_)
  · have h := iF hc h
    refine Fr_aload_n (q := 0) (i := 0) 0 (by decide +kernel) rfl rfl ?_
    refine gf_X6_22 rfl (by decide +kernel) ob_83 ?_
    obtain ⟨r_6, M_4, hc_5, h⟩ := bi_elim h
    refine Fr_cVj (ν := m_X8_nameCode) (As := []) (st := []) (rc := 82) (ci := 8) (d' := 0) (by decide +kernel) ml_X6_196 cv_X8_nameCode rfl (by decide) rfl ob_82 rfl (by decide) (Nat.le_of_ble_eq_true rfl) (t_X8_nameCode hc_5) ?_
    refine Fr_lstore_n (q := 1) (i := 1) (lv' := [(1, .long r_6), (0, .ref 83)]) (by decide +kernel) rfl (by decide) rfl ?_
    refine Fr_iconst (i := 0) (v := 0) (by decide +kernel) (by decide) ?_
    refine Fr_istore_n (q := 3) (i := 3) (lv' := [(3, .int 0), (1, .long r_6), (0, .ref 83)]) (by decide +kernel) rfl (by decide) rfl ?_
    refine Fr_loc [2, 1, 0] rfl ?_
    exact lp_sound (body := fun k a m => f_X6_readNewName_h29 N k a.1 a.2 m) (P := fun a M => Fr 0 111 8 m_X6_readNewName 29 [(0, .ref 83), (1, .long a.1), (3, .int a.2)] [] M (QB q)) (fun k hk a m h => t_X6_readNewName_h29 hk h) N (r_6, 0) M_4 h
  · have h := iT hc h
    refine Fr_aload_n (q := 0) (i := 0) 0 (by decide +kernel) rfl rfl ?_
    refine gf_X6_22 rfl (by decide +kernel) ob_83 ?_
    refine Fr_iconst (i := 2) (v := 2) (by decide +kernel) (by decide) ?_
    obtain ⟨r_20, M_18, hc_19, h⟩ := bi_elim h
    refine Fr_cVb (ν := m_X8_refuse) (As := [.int 2]) (st := []) (rc := 82) (ci := 8) (d' := 0) (by decide +kernel) ml_X6_79 cv_X8_refuse rfl (by decide) rfl ob_82 rfl (by decide) (Nat.le_of_ble_eq_true rfl) (t_X8_refuse hc_19) ?_
    obtain rfl := Option.some.inj h
    exact Fr_zret (by decide +kernel) rfl (nz_b r_20) ⟨rfl, rfl⟩
set_option maxRecDepth 20000 in
theorem t_X6_readBoard {N : Nat} {p1 : Nat} {p2 : Nat} {x3 : Int32} (hp1 : Ob 0 111 p1 5) (hp2 : Ob 0 111 p2 20) {M : Mem} {q : Bool × Mem} (h : f_X6_readBoard N p1 p2 x3 M = some q) : Ev 0 111 2 m_X6_readBoard [.ref 83, .ref p1, .ref p2, .int x3] M (QB q) := by
  refine Ev_of_Fr (by decide +kernel) (Nat.le_of_ble_eq_true rfl) ?_
  show Fr 0 111 2 m_X6_readBoard 0 [(0, .ref 83), (1, .ref p1), (2, .ref p2), (3, .int x3)] [] M (QB q)
  unfold f_X6_readBoard at h
  refine Fr_aload_n (q := 0) (i := 0) 0 (by decide +kernel) rfl rfl ?_
  refine gf_X6_22 rfl (by decide +kernel) ob_83 ?_
  refine Fr_aload_n (q := 2) (i := 2) 2 (by decide +kernel) rfl rfl ?_
  refine Fr_iload_n (q := 3) (i := 3) 3 (by decide +kernel) rfl rfl ?_
  refine Fr_iconst (i := 0) (v := 0) (by decide +kernel) (by decide) ?_
  refine Fr_aload_n (q := 1) (i := 1) 1 (by decide +kernel) rfl rfl ?_
  refine gf_X6_76 rfl (by decide +kernel) hp1 ?_
  refine Fr_iconst (i := 1) (v := 1) (by decide +kernel) (by decide) ?_
  refine Fr_isub (by decide +kernel) ?_
  obtain ⟨r_3, M_1, hc_2, h⟩ := bi_elim h
  refine Fr_cVb (ν := m_X8_takeNumber) (As := [.ref p2, .int x3, .int 0, .int ((M.1 p1 0) - 1)]) (st := []) (rc := 82) (ci := 8) (d' := 1) (by decide +kernel) ml_X6_116 cv_X8_takeNumber rfl (by decide) rfl ob_82 rfl (by decide) (Nat.le_of_ble_eq_true rfl) (t_X8_takeNumber hp2 hc_2) ?_
  refine Fr_if_eq (off := 28) 44 (by decide +kernel) (by decide) (fun hc => ?_) (fun hc => ?_)
  · have h := iT hc h
    refine Fr_iconst (i := 0) (v := 0) (by decide +kernel) (by decide) ?_
    obtain rfl := Option.some.inj h
    exact Fr_zret (by decide +kernel) rfl (by decide) ⟨rfl, rfl⟩
  · have h := iF hc h
    refine Fr_aload_n (q := 0) (i := 0) 0 (by decide +kernel) rfl rfl ?_
    refine gf_X6_22 rfl (by decide +kernel) ob_83 ?_
    refine Fr_aload_n (q := 2) (i := 2) 2 (by decide +kernel) rfl rfl ?_
    refine Fr_iload_n (q := 3) (i := 3) 3 (by decide +kernel) rfl rfl ?_
    refine Fr_iconst (i := 1) (v := 1) (by decide +kernel) (by decide) ?_
    refine Fr_iadd (by decide +kernel) ?_
    refine Fr_iconst (i := 0) (v := 0) (by decide +kernel) (by decide) ?_
    refine Fr_aload_n (q := 1) (i := 1) 1 (by decide +kernel) rfl rfl ?_
    refine gf_X6_125 rfl (by decide +kernel) hp1 ?_
    refine Fr_iconst (i := 1) (v := 1) (by decide +kernel) (by decide) ?_
    refine Fr_isub (by decide +kernel) ?_
    obtain ⟨r_6, M_4, hc_5, h⟩ := bi_elim h
    refine Fr_cVb (ν := m_X8_takeNumber) (As := [.ref p2, .int (x3 + 1), .int 0, .int ((M_1.1 p1 1) - 1)]) (st := []) (rc := 82) (ci := 8) (d' := 1) (by decide +kernel) ml_X6_116 cv_X8_takeNumber rfl (by decide) rfl ob_82 rfl (by decide) (Nat.le_of_ble_eq_true rfl) (t_X8_takeNumber hp2 hc_5) ?_
    refine Fr_if_eq (off := 7) 44 (by decide +kernel) (by decide) (fun hc => ?_) (fun hc => ?_)
    · have h := iT hc h
      refine Fr_iconst (i := 0) (v := 0) (by decide +kernel) (by decide) ?_
      obtain rfl := Option.some.inj h
      exact Fr_zret (by decide +kernel) rfl (by decide) ⟨rfl, rfl⟩
    · have h := iF hc h
      refine Fr_iconst (i := 1) (v := 1) (by decide +kernel) (by decide) ?_
      refine Fr_goto (off := 4) 45 (by decide +kernel) (by decide) ?_
      obtain rfl := Option.some.inj h
      exact Fr_zret (by decide +kernel) rfl (by decide) ⟨rfl, rfl⟩
set_option maxRecDepth 20000 in
theorem t_X6_readGate_b186 {N : Nat} {p1 : Nat} (hp1 : Ob 0 111 p1 5) {q : Bool × Mem} {M : Mem} (h : f_X6_readGate_b186 N p1 M = some q) : Fr 0 111 9 m_X6_readGate 186 [(0, .ref 83), (1, .ref p1)] [] M (QB q) := by
  unfold f_X6_readGate_b186 at h
  refine Fr_aload_n (q := 1) (i := 1) 1 (by decide +kernel) rfl rfl ?_
  refine gf_X6_161 rfl (by decide +kernel) hp1 ?_
  refine Fr_aload_n (q := 1) (i := 1) 1 (by decide +kernel) rfl rfl ?_
  refine gf_X6_131 rfl (by decide +kernel) hp1 ?_
  refine Fr_aload_n (q := 0) (i := 0) 0 (by decide +kernel) rfl rfl ?_
  refine gf_X6_9 rfl (by decide +kernel) ob_83 ?_
  refine Fr_aload_n (q := 0) (i := 0) 0 (by decide +kernel) rfl rfl ?_
  refine gf_X6_31 rfl (by decide +kernel) ob_83 ?_
  refine Fr_iconst (i := 1) (v := 1) (by decide +kernel) (by decide) ?_
  refine Fr_isub (by decide +kernel) ?_
  obtain ⟨hi_21, h⟩ := ck_elim h
  refine Fr_lald (by decide +kernel) ob_84 (vp_of ln_84 hi_21) ?_
  obtain ⟨hi_22, h⟩ := ck_elim h
  refine Fr_last (by decide +kernel) (o5_2 hp1) (vp_of (n5_2 hp1) hi_22) ?_
  obtain ⟨M_23, eM_23, h⟩ := bM_elim h
  refine Fr_mem eM_23 ?_
  refine Fr_aload_n (q := 1) (i := 1) 1 (by decide +kernel) rfl rfl ?_
  refine Fr_dup (by decide +kernel) rfl ?_
  refine gf_X6_131 rfl (by decide +kernel) hp1 ?_
  refine Fr_iconst (i := 1) (v := 1) (by decide +kernel) (by decide) ?_
  refine Fr_iadd (by decide +kernel) ?_
  refine pf_X6_131 rfl (by decide +kernel) hp1 ?_
  obtain ⟨M_24, eM_24, h⟩ := bM_elim h
  refine Fr_mem eM_24 ?_
  refine Fr_aload_n (q := 0) (i := 0) 0 (by decide +kernel) rfl rfl ?_
  refine gf_X6_22 rfl (by decide +kernel) ob_83 ?_
  obtain ⟨r_27, M_25, hc_26, h⟩ := bi_elim h
  refine Fr_cVb (ν := m_X8_takeSemicolon) (As := []) (st := []) (rc := 82) (ci := 8) (d' := 1) (by decide +kernel) ml_X6_128 cv_X8_takeSemicolon rfl (by decide) rfl ob_82 rfl (by decide) (Nat.le_of_ble_eq_true rfl) (t_X8_takeSemicolon hc_26) ?_
  obtain rfl := Option.some.inj h
  exact Fr_zret (by decide +kernel) rfl (nz_b r_27) ⟨rfl, rfl⟩
set_option maxRecDepth 20000 in
theorem t_X6_readGate_b131 {N : Nat} {p1 : Nat} (hp1 : Ob 0 111 p1 5) {q : Bool × Mem} {v3 : Int32} {s0 : Int32} {s1 : Int32} {M : Mem} (h : f_X6_readGate_b131 N p1 v3 s0 s1 M = some q) : Fr 0 111 9 m_X6_readGate 131 [(0, .ref 83), (1, .ref p1), (2, .ref (p1 + 1)), (3, .int v3)] [.int s0, .int s1, .ref (p1 + 1)] M (QB q) := by
  unfold f_X6_readGate_b131 at h
  obtain ⟨hi_9, h⟩ := ck_elim h
  refine Fr_iast (by decide +kernel) (o5_1 hp1) (vp_of (n5_1 hp1) hi_9) ?_
  obtain ⟨M_10, eM_10, h⟩ := bM_elim h
  refine Fr_mem eM_10 ?_
  refine Fr_aload_n (q := 1) (i := 1) 1 (by decide +kernel) rfl rfl ?_
  refine Fr_aload_n (q := 1) (i := 1) 1 (by decide +kernel) rfl rfl ?_
  refine gf_X6_131 rfl (by decide +kernel) hp1 ?_
  refine Fr_aload_n (q := 0) (i := 0) 0 (by decide +kernel) rfl rfl ?_
  refine gf_X6_22 rfl (by decide +kernel) ob_83 ?_
  refine Fr_ldcS (idx := 153) 7 (by decide +kernel) (by decide) rfl rfl ?_
  obtain ⟨r_13, M_11, hc_12, h⟩ := bi_elim h
  refine Fr_cVb (ν := m_X8_tryWord) (As := [.ref (400 + 7)]) (st := [.int (M_10.1 p1 7), .ref p1]) (rc := 82) (ci := 8) (d' := 8) (by decide +kernel) ml_X6_150 cv_X8_tryWord rfl (by decide) rfl ob_82 rfl (by decide) (Nat.le_of_ble_eq_true rfl) (t_X8_tryWord (by decide) hc_12) ?_
  obtain ⟨M_14, hc_15, h⟩ := bv_elim h
  refine Fr_cVv (ν := m_X5_setOpen) (As := [.int (M_10.1 p1 7), .int (b2i r_13)]) (st := []) (rc := p1) (ci := 5) (d' := 0) (by decide +kernel) ml_X6_155 cv_X5_setOpen rfl (by decide) rfl hp1 rfl (by decide) (Nat.le_of_ble_eq_true rfl) (t_X5_setOpen hp1 hc_15) ?_
  refine Fr_aload_n (q := 2) (i := 2) 2 (by decide +kernel) rfl rfl ?_
  refine Fr_iload_n (q := 3) (i := 3) 3 (by decide +kernel) rfl rfl ?_
  refine Fr_iconst (i := 4) (v := 4) (by decide +kernel) (by decide) ?_
  refine Fr_iadd (by decide +kernel) ?_
  refine Fr_iconst (i := 1) (v := 1) (by decide +kernel) (by decide) ?_
  obtain ⟨hi_16, h⟩ := ck_elim h
  refine Fr_iast (by decide +kernel) (o5_1 hp1) (vp_of (n5_1 hp1) hi_16) ?_
  obtain ⟨M_17, eM_17, h⟩ := bM_elim h
  refine Fr_mem eM_17 ?_
  refine Fr_aload_n (q := 0) (i := 0) 0 (by decide +kernel) rfl rfl ?_
  refine gf_X6_22 rfl (by decide +kernel) ob_83 ?_
  refine Fr_ldcS (idx := 159) 8 (by decide +kernel) (by decide) rfl rfl ?_
  obtain ⟨r_20, M_18, hc_19, h⟩ := bi_elim h
  refine Fr_cVb (ν := m_X8_tryWord) (As := [.ref (400 + 8)]) (st := []) (rc := 82) (ci := 8) (d' := 8) (by decide +kernel) ml_X6_150 cv_X8_tryWord rfl (by decide) rfl ob_82 rfl (by decide) (Nat.le_of_ble_eq_true rfl) (t_X8_tryWord (by decide) hc_19) ?_
  refine Fr_if_eq (off := 22) 186 (by decide +kernel) (by decide) (fun hc => ?_) (fun hc => ?_)
  · have h := iT hc h
    refine Fr_loc [0, 1] rfl ?_
    exact t_X6_readGate_b186 hp1 h
  · have h := iF hc h
    refine Fr_aload_n (q := 0) (i := 0) 0 (by decide +kernel) rfl rfl ?_
    refine gf_X6_22 rfl (by decide +kernel) ob_83 ?_
    refine Fr_aload_n (q := 2) (i := 2) 2 (by decide +kernel) rfl rfl ?_
    refine Fr_iload_n (q := 3) (i := 3) 3 (by decide +kernel) rfl rfl ?_
    refine Fr_iconst (i := 4) (v := 4) (by decide +kernel) (by decide) ?_
    refine Fr_iadd (by decide +kernel) ?_
    refine Fr_iconst (i := 1) (v := 1) (by decide +kernel) (by decide) ?_
    refine Fr_bipush (i := 99) (v := 99) (by decide +kernel) (by decide) ?_
    obtain ⟨r_30, M_28, hc_29, h⟩ := bi_elim h
    refine Fr_cVb (ν := m_X8_takeNumber) (As := [.ref (p1 + 1), .int (v3 + 4), .int 1, .int 99]) (st := []) (rc := 82) (ci := 8) (d' := 1) (by decide +kernel) ml_X6_116 cv_X8_takeNumber rfl (by decide) rfl ob_82 rfl (by decide) (Nat.le_of_ble_eq_true rfl) (t_X8_takeNumber (o5_1 hp1) hc_29) ?_
    refine Fr_if_ne (off := 5) 186 (by decide +kernel) (by decide) (fun hc => ?_) (fun hc => ?_)
    · have h := iF hc h
      refine Fr_loc [0, 1] rfl ?_
      exact t_X6_readGate_b186 hp1 h
    · have h := iT hc h
      refine Fr_iconst (i := 0) (v := 0) (by decide +kernel) (by decide) ?_
      obtain rfl := Option.some.inj h
      exact Fr_zret (by decide +kernel) rfl (by decide) ⟨rfl, rfl⟩
set_option maxRecDepth 20000 in
theorem t_X6_readGate_b101 {N : Nat} {p1 : Nat} (hp1 : Ob 0 111 p1 5) {q : Bool × Mem} {v3 : Int32} {s0 : Int32} {M : Mem} (h : f_X6_readGate_b101 N p1 v3 s0 M = some q) : Fr 0 111 9 m_X6_readGate 101 [(0, .ref 83), (1, .ref p1), (2, .ref (p1 + 1)), (3, .int v3)] [.int s0] M (QB q) := by
  unfold f_X6_readGate_b101 at h
  refine Fr_istore (i := 4) (lv' := [(4, .int s0), (0, .ref 83), (1, .ref p1), (2, .ref (p1 + 1)), (3, .int v3)]) (by decide +kernel) (by decide) rfl ?_
  refine Fr_iload (i := 4) 0 (by decide +kernel) rfl ?_
  refine Fr_if_ne (off := 5) 110 (by decide +kernel) (by decide) (fun hc => ?_) (fun hc => ?_)
  · have h := iF hc h
    refine Fr_aload_n (q := 2) (i := 2) 3 (by decide +kernel) rfl rfl ?_
    refine Fr_iload_n (q := 3) (i := 3) 4 (by decide +kernel) rfl rfl ?_
    refine Fr_iconst (i := 3) (v := 3) (by decide +kernel) (by decide) ?_
    refine Fr_iadd (by decide +kernel) ?_
    refine Fr_aload_n (q := 0) (i := 0) 1 (by decide +kernel) rfl rfl ?_
    refine gf_X6_22 rfl (by decide +kernel) ob_83 ?_
    refine Fr_ldcS (idx := 148) 6 (by decide +kernel) (by decide) rfl rfl ?_
    obtain ⟨r_8, M_6, hc_7, h⟩ := bi_elim h
    refine Fr_cVb (ν := m_X8_tryWord) (As := [.ref (400 + 6)]) (st := [.int (v3 + 3), .ref (p1 + 1)]) (rc := 82) (ci := 8) (d' := 8) (by decide +kernel) ml_X6_150 cv_X8_tryWord rfl (by decide) rfl ob_82 rfl (by decide) (Nat.le_of_ble_eq_true rfl) (t_X8_tryWord (by decide) hc_7) ?_
    refine Fr_if_eq (off := 7) 130 (by decide +kernel) (by decide) (fun hc => ?_) (fun hc => ?_)
    · have h := iT hc h
      refine Fr_iconst (i := 0) (v := 0) (by decide +kernel) (by decide) ?_
      refine Fr_loc [1, 2, 3, 4] rfl ?_
      exact t_X6_readGate_b131 hp1 h
    · have h := iF hc h
      refine Fr_iconst (i := 1) (v := 1) (by decide +kernel) (by decide) ?_
      refine Fr_goto (off := 4) 131 (by decide +kernel) (by decide) ?_
      refine Fr_loc [1, 2, 3, 4] rfl ?_
      exact t_X6_readGate_b131 hp1 h
  · have h := iT hc h
    refine Fr_iconst (i := 0) (v := 0) (by decide +kernel) (by decide) ?_
    obtain rfl := Option.some.inj h
    exact Fr_zret (by decide +kernel) rfl (by decide) ⟨rfl, rfl⟩
set_option maxRecDepth 20000 in
theorem t_X6_readGate_b100 {N : Nat} {p1 : Nat} (hp1 : Ob 0 111 p1 5) {q : Bool × Mem} {v3 : Int32} {M : Mem} (h : f_X6_readGate_b100 N p1 v3 M = some q) : Fr 0 111 9 m_X6_readGate 100 [(0, .ref 83), (1, .ref p1), (2, .ref (p1 + 1)), (3, .int v3)] [] M (QB q) := by
  unfold f_X6_readGate_b100 at h
  refine Fr_iconst (i := 0) (v := 0) (by decide +kernel) (by decide) ?_
  exact t_X6_readGate_b101 hp1 h
set_option maxRecDepth 20000 in
theorem t_X6_readGate {N : Nat} {p1 : Nat} (hp1 : Ob 0 111 p1 5) {M : Mem} {q : Bool × Mem} (h : f_X6_readGate N p1 M = some q) : Ev 0 111 9 m_X6_readGate [.ref 83, .ref p1] M (QB q) := by
  refine Ev_of_Fr (by decide +kernel) (Nat.le_of_ble_eq_true rfl) ?_
  show Fr 0 111 9 m_X6_readGate 0 [(0, .ref 83), (1, .ref p1)] [] M (QB q)
  unfold f_X6_readGate at h
  refine Fr_aload_n (q := 1) (i := 1) 1 (by decide +kernel) rfl rfl ?_
  refine gf_X6_131 rfl (by decide +kernel) hp1 ?_
  refine Fr_bipush (i := 6) (v := 6) (by decide +kernel) (by decide) ?_
  refine Fr_icmp_lt (off := 13) 19 (by decide +kernel) (by decide) (fun hc => ?_) (fun hc => ?_)
  · have h := iT hc h
    refine Fr_aload_n (q := 1) (i := 1) 1 (by decide +kernel) rfl rfl ?_
    refine gf_X6_134 rfl (by decide +kernel) hp1 ?_
    refine Fr_astore_n (q := 2) (i := 2) (lv' := [(2, .ref (p1 + 1)), (0, .ref 83), (1, .ref p1)]) (by decide +kernel) rfl (by decide) rfl ?_
    refine Fr_aload_n (q := 1) (i := 1) 2 (by decide +kernel) rfl rfl ?_
    refine gf_X6_131 rfl (by decide +kernel) hp1 ?_
    refine Fr_iconst (i := 5) (v := 5) (by decide +kernel) (by decide) ?_
    refine Fr_imul (by decide +kernel) ?_
    refine Fr_istore_n (q := 3) (i := 3) (lv' := [(3, .int ((M.1 p1 7) * 5)), (2, .ref (p1 + 1)), (0, .ref 83), (1, .ref p1)]) (by decide +kernel) rfl (by decide) rfl ?_
    refine Fr_aload_n (q := 0) (i := 0) 2 (by decide +kernel) rfl rfl ?_
    refine gf_X6_22 rfl (by decide +kernel) ob_83 ?_
    obtain ⟨M_1, hc_2, h⟩ := bv_elim h
    refine Fr_cVv (ν := m_X8_advance) (As := []) (st := []) (rc := 82) (ci := 8) (d' := 0) (by decide +kernel) ml_X6_113 cv_X8_advance rfl (by decide) rfl ob_82 rfl (by decide) (Nat.le_of_ble_eq_true rfl) (t_X8_advance hc_2) ?_
    refine Fr_aload_n (q := 0) (i := 0) 2 (by decide +kernel) rfl rfl ?_
    obtain ⟨r_5, M_3, hc_4, h⟩ := bi_elim h
    refine Fr_cVb (ν := m_X6_readNewName) (As := []) (st := []) (rc := 83) (ci := 6) (d' := 8) (by decide +kernel) ml_X6_137 cv_X6_readNewName rfl (by decide) rfl ob_83 rfl (by decide) (Nat.le_of_ble_eq_true rfl) (t_X6_readNewName hc_4) ?_
    refine Fr_if_eq (off := 58) 100 (by decide +kernel) (by decide) (fun hc => ?_) (fun hc => ?_)
    · have h := iT hc h
      refine Fr_loc [2, 3, 1, 0] rfl ?_
      exact t_X6_readGate_b100 hp1 h
    · have h := iF hc h
      refine Fr_aload_n (q := 0) (i := 0) 2 (by decide +kernel) rfl rfl ?_
      refine gf_X6_22 rfl (by decide +kernel) ob_83 ?_
      refine Fr_ldcS (idx := 140) 4 (by decide +kernel) (by decide) rfl rfl ?_
      obtain ⟨r_33, M_31, hc_32, h⟩ := bi_elim h
      refine Fr_cVb (ν := m_X8_takeWord) (As := [.ref (400 + 4)]) (st := []) (rc := 82) (ci := 8) (d' := 8) (by decide +kernel) ml_X6_122 cv_X8_takeWord rfl (by decide) rfl ob_82 rfl (by decide) (Nat.le_of_ble_eq_true rfl) (t_X8_takeWord (by decide) hc_32) ?_
      refine Fr_if_eq (off := 46) 100 (by decide +kernel) (by decide) (fun hc => ?_) (fun hc => ?_)
      · have h := iT hc h
        refine Fr_loc [2, 3, 1, 0] rfl ?_
        exact t_X6_readGate_b100 hp1 h
      · have h := iF hc h
        refine Fr_aload_n (q := 0) (i := 0) 2 (by decide +kernel) rfl rfl ?_
        refine Fr_aload_n (q := 1) (i := 1) 3 (by decide +kernel) rfl rfl ?_
        refine Fr_aload_n (q := 2) (i := 2) 1 (by decide +kernel) rfl rfl ?_
        refine Fr_iload_n (q := 3) (i := 3) 0 (by decide +kernel) rfl rfl ?_
        obtain ⟨r_36, M_34, hc_35, h⟩ := bi_elim h
        refine Fr_cVb (ν := m_X6_readBoard) (As := [.ref p1, .ref (p1 + 1), .int ((M.1 p1 7) * 5)]) (st := []) (rc := 83) (ci := 6) (d' := 2) (by decide +kernel) ml_X6_142 cv_X6_readBoard rfl (by decide) rfl ob_83 rfl (by decide) (Nat.le_of_ble_eq_true rfl) (t_X6_readBoard hp1 (o5_1 hp1) hc_35) ?_
        refine Fr_if_eq (off := 36) 100 (by decide +kernel) (by decide) (fun hc => ?_) (fun hc => ?_)
        · have h := iT hc h
          refine Fr_loc [2, 3, 1, 0] rfl ?_
          exact t_X6_readGate_b100 hp1 h
        · have h := iF hc h
          refine Fr_aload_n (q := 0) (i := 0) 2 (by decide +kernel) rfl rfl ?_
          refine gf_X6_22 rfl (by decide +kernel) ob_83 ?_
          refine Fr_ldcS (idx := 146) 5 (by decide +kernel) (by decide) rfl rfl ?_
          obtain ⟨r_39, M_37, hc_38, h⟩ := bi_elim h
          refine Fr_cVb (ν := m_X8_takeWord) (As := [.ref (400 + 5)]) (st := []) (rc := 82) (ci := 8) (d' := 8) (by decide +kernel) ml_X6_122 cv_X8_takeWord rfl (by decide) rfl ob_82 rfl (by decide) (Nat.le_of_ble_eq_true rfl) (t_X8_takeWord (by decide) hc_38) ?_
          refine Fr_if_eq (off := 24) 100 (by decide +kernel) (by decide) (fun hc => ?_) (fun hc => ?_)
          · have h := iT hc h
            refine Fr_loc [2, 3, 1, 0] rfl ?_
            exact t_X6_readGate_b100 hp1 h
          · have h := iF hc h
            refine Fr_aload_n (q := 0) (i := 0) 2 (by decide +kernel) rfl rfl ?_
            refine gf_X6_22 rfl (by decide +kernel) ob_83 ?_
            refine Fr_aload_n (q := 2) (i := 2) 1 (by decide +kernel) rfl rfl ?_
            refine Fr_iload_n (q := 3) (i := 3) 0 (by decide +kernel) rfl rfl ?_
            refine Fr_iconst (i := 2) (v := 2) (by decide +kernel) (by decide) ?_
            refine Fr_iadd (by decide +kernel) ?_
            refine Fr_iconst (i := 1) (v := 1) (by decide +kernel) (by decide) ?_
            refine Fr_bipush (i := 40) (v := 40) (by decide +kernel) (by decide) ?_
            obtain ⟨r_42, M_40, hc_41, h⟩ := bi_elim h
            refine Fr_cVb (ν := m_X8_takeNumber) (As := [.ref (p1 + 1), .int (((M.1 p1 7) * 5) + 2), .int 1, .int 40]) (st := []) (rc := 82) (ci := 8) (d' := 1) (by decide +kernel) ml_X6_116 cv_X8_takeNumber rfl (by decide) rfl ob_82 rfl (by decide) (Nat.le_of_ble_eq_true rfl) (t_X8_takeNumber (o5_1 hp1) hc_41) ?_
            refine Fr_if_eq (off := 7) 100 (by decide +kernel) (by decide) (fun hc => ?_) (fun hc => ?_)
            · have h := iT hc h
              refine Fr_loc [2, 3, 1, 0] rfl ?_
              exact t_X6_readGate_b100 hp1 h
            · have h := iF hc h
              refine Fr_iconst (i := 1) (v := 1) (by decide +kernel) (by decide) ?_
              refine Fr_goto (off := 4) 101 (by decide +kernel) (by decide) ?_
              refine Fr_loc [2, 3, 1, 0] rfl ?_
              exact t_X6_readGate_b101 hp1 h
  · have h := iF hc h
    refine Fr_aload_n (q := 0) (i := 0) 0 (by decide +kernel) rfl rfl ?_
    refine gf_X6_22 rfl (by decide +kernel) ob_83 ?_
    refine Fr_bipush (i := 6) (v := 6) (by decide +kernel) (by decide) ?_
    obtain ⟨r_45, M_43, hc_44, h⟩ := bi_elim h
    refine Fr_cVb (ν := m_X8_refuse) (As := [.int 6]) (st := []) (rc := 82) (ci := 8) (d' := 0) (by decide +kernel) ml_X6_79 cv_X8_refuse rfl (by decide) rfl ob_82 rfl (by decide) (Nat.le_of_ble_eq_true rfl) (t_X8_refuse hc_44) ?_
    obtain rfl := Option.some.inj h
    exact Fr_zret (by decide +kernel) rfl (nz_b r_45) ⟨rfl, rfl⟩
set_option maxRecDepth 20000 in
theorem t_X6_readHolder_b71 {N : Nat} {p1 : Nat} (hp1 : Ob 0 111 p1 5) {q : Bool × Mem} {s0 : Int32} {M : Mem} (h : f_X6_readHolder_b71 N p1 s0 M = some q) : Fr 0 111 9 m_X6_readHolder 71 [(0, .ref 83), (1, .ref p1)] [.int s0] M (QB q) := by
  unfold f_X6_readHolder_b71 at h
  refine Fr_istore_n (q := 2) (i := 2) (lv' := [(2, .int s0), (0, .ref 83), (1, .ref p1)]) (by decide +kernel) rfl (by decide) rfl ?_
  refine Fr_iload_n (q := 2) (i := 2) 0 (by decide +kernel) rfl rfl ?_
  refine Fr_if_ne (off := 5) 78 (by decide +kernel) (by decide) (fun hc => ?_) (fun hc => ?_)
  · have h := iF hc h
    refine Fr_aload_n (q := 1) (i := 1) 2 (by decide +kernel) rfl rfl ?_
    refine Fr_dup (by decide +kernel) rfl ?_
    refine gf_X6_164 rfl (by decide +kernel) hp1 ?_
    refine Fr_iconst (i := 1) (v := 1) (by decide +kernel) (by decide) ?_
    refine Fr_iadd (by decide +kernel) ?_
    refine pf_X6_164 rfl (by decide +kernel) hp1 ?_
    obtain ⟨M_6, eM_6, h⟩ := bM_elim h
    refine Fr_mem eM_6 ?_
    refine Fr_aload_n (q := 0) (i := 0) 1 (by decide +kernel) rfl rfl ?_
    refine gf_X6_22 rfl (by decide +kernel) ob_83 ?_
    obtain ⟨r_9, M_7, hc_8, h⟩ := bi_elim h
    refine Fr_cVb (ν := m_X8_takeSemicolon) (As := []) (st := []) (rc := 82) (ci := 8) (d' := 1) (by decide +kernel) ml_X6_128 cv_X8_takeSemicolon rfl (by decide) rfl ob_82 rfl (by decide) (Nat.le_of_ble_eq_true rfl) (t_X8_takeSemicolon hc_8) ?_
    obtain rfl := Option.some.inj h
    exact Fr_zret (by decide +kernel) rfl (nz_b r_9) ⟨rfl, rfl⟩
  · have h := iT hc h
    refine Fr_iconst (i := 0) (v := 0) (by decide +kernel) (by decide) ?_
    obtain rfl := Option.some.inj h
    exact Fr_zret (by decide +kernel) rfl (by decide) ⟨rfl, rfl⟩
set_option maxRecDepth 20000 in
theorem t_X6_readHolder_b70 {N : Nat} {p1 : Nat} (hp1 : Ob 0 111 p1 5) {q : Bool × Mem} {M : Mem} (h : f_X6_readHolder_b70 N p1 M = some q) : Fr 0 111 9 m_X6_readHolder 70 [(0, .ref 83), (1, .ref p1)] [] M (QB q) := by
  unfold f_X6_readHolder_b70 at h
  refine Fr_iconst (i := 0) (v := 0) (by decide +kernel) (by decide) ?_
  exact t_X6_readHolder_b71 hp1 h
set_option maxRecDepth 20000 in
theorem t_X6_readHolder {N : Nat} {p1 : Nat} (hp1 : Ob 0 111 p1 5) {M : Mem} {q : Bool × Mem} (h : f_X6_readHolder N p1 M = some q) : Ev 0 111 9 m_X6_readHolder [.ref 83, .ref p1] M (QB q) := by
  refine Ev_of_Fr (by decide +kernel) (Nat.le_of_ble_eq_true rfl) ?_
  show Fr 0 111 9 m_X6_readHolder 0 [(0, .ref 83), (1, .ref p1)] [] M (QB q)
  unfold f_X6_readHolder at h
  refine Fr_aload_n (q := 1) (i := 1) 1 (by decide +kernel) rfl rfl ?_
  refine gf_X6_164 rfl (by decide +kernel) hp1 ?_
  refine Fr_bipush (i := 6) (v := 6) (by decide +kernel) (by decide) ?_
  refine Fr_icmp_lt (off := 13) 19 (by decide +kernel) (by decide) (fun hc => ?_) (fun hc => ?_)
  · have h := iT hc h
    refine Fr_aload_n (q := 0) (i := 0) 0 (by decide +kernel) rfl rfl ?_
    refine gf_X6_22 rfl (by decide +kernel) ob_83 ?_
    obtain ⟨M_1, hc_2, h⟩ := bv_elim h
    refine Fr_cVv (ν := m_X8_advance) (As := []) (st := []) (rc := 82) (ci := 8) (d' := 0) (by decide +kernel) ml_X6_113 cv_X8_advance rfl (by decide) rfl ob_82 rfl (by decide) (Nat.le_of_ble_eq_true rfl) (t_X8_advance hc_2) ?_
    refine Fr_aload_n (q := 0) (i := 0) 0 (by decide +kernel) rfl rfl ?_
    obtain ⟨r_5, M_3, hc_4, h⟩ := bi_elim h
    refine Fr_cVb (ν := m_X6_readNewName) (As := []) (st := []) (rc := 83) (ci := 6) (d' := 8) (by decide +kernel) ml_X6_137 cv_X6_readNewName rfl (by decide) rfl ob_83 rfl (by decide) (Nat.le_of_ble_eq_true rfl) (t_X6_readNewName hc_4) ?_
    refine Fr_if_eq (off := 40) 70 (by decide +kernel) (by decide) (fun hc => ?_) (fun hc => ?_)
    · have h := iT hc h
      exact t_X6_readHolder_b70 hp1 h
    · have h := iF hc h
      refine Fr_aload_n (q := 0) (i := 0) 0 (by decide +kernel) rfl rfl ?_
      refine gf_X6_22 rfl (by decide +kernel) ob_83 ?_
      refine Fr_ldcS (idx := 167) 10 (by decide +kernel) (by decide) rfl rfl ?_
      obtain ⟨r_12, M_10, hc_11, h⟩ := bi_elim h
      refine Fr_cVb (ν := m_X8_takeWord) (As := [.ref (400 + 10)]) (st := []) (rc := 82) (ci := 8) (d' := 8) (by decide +kernel) ml_X6_122 cv_X8_takeWord rfl (by decide) rfl ob_82 rfl (by decide) (Nat.le_of_ble_eq_true rfl) (t_X8_takeWord (by decide) hc_11) ?_
      refine Fr_if_eq (off := 28) 70 (by decide +kernel) (by decide) (fun hc => ?_) (fun hc => ?_)
      · have h := iT hc h
        exact t_X6_readHolder_b70 hp1 h
      · have h := iF hc h
        refine Fr_aload_n (q := 0) (i := 0) 0 (by decide +kernel) rfl rfl ?_
        refine gf_X6_22 rfl (by decide +kernel) ob_83 ?_
        refine Fr_aload_n (q := 1) (i := 1) 1 (by decide +kernel) rfl rfl ?_
        refine gf_X6_169 rfl (by decide +kernel) hp1 ?_
        refine Fr_aload_n (q := 1) (i := 1) 1 (by decide +kernel) rfl rfl ?_
        refine gf_X6_164 rfl (by decide +kernel) hp1 ?_
        refine Fr_iconst (i := 1) (v := 1) (by decide +kernel) (by decide) ?_
        refine Fr_bipush (i := 20) (v := 20) (by decide +kernel) (by decide) ?_
        obtain ⟨r_15, M_13, hc_14, h⟩ := bi_elim h
        refine Fr_cVb (ν := m_X8_takeNumber) (As := [.ref (p1 + 3), .int (M_10.1 p1 8), .int 1, .int 20]) (st := []) (rc := 82) (ci := 8) (d' := 1) (by decide +kernel) ml_X6_116 cv_X8_takeNumber rfl (by decide) rfl ob_82 rfl (by decide) (Nat.le_of_ble_eq_true rfl) (t_X8_takeNumber (o5_3 hp1) hc_14) ?_
        refine Fr_if_eq (off := 7) 70 (by decide +kernel) (by decide) (fun hc => ?_) (fun hc => ?_)
        · have h := iT hc h
          exact t_X6_readHolder_b70 hp1 h
        · have h := iF hc h
          refine Fr_iconst (i := 1) (v := 1) (by decide +kernel) (by decide) ?_
          refine Fr_goto (off := 4) 71 (by decide +kernel) (by decide) ?_
          exact t_X6_readHolder_b71 hp1 h
  · have h := iF hc h
    refine Fr_aload_n (q := 0) (i := 0) 0 (by decide +kernel) rfl rfl ?_
    refine gf_X6_22 rfl (by decide +kernel) ob_83 ?_
    refine Fr_bipush (i := 6) (v := 6) (by decide +kernel) (by decide) ?_
    obtain ⟨r_18, M_16, hc_17, h⟩ := bi_elim h
    refine Fr_cVb (ν := m_X8_refuse) (As := [.int 6]) (st := []) (rc := 82) (ci := 8) (d' := 0) (by decide +kernel) ml_X6_79 cv_X8_refuse rfl (by decide) rfl ob_82 rfl (by decide) (Nat.le_of_ble_eq_true rfl) (t_X8_refuse hc_17) ?_
    obtain rfl := Option.some.inj h
    exact Fr_zret (by decide +kernel) rfl (nz_b r_18) ⟨rfl, rfl⟩
set_option maxRecDepth 20000 in
theorem t_X6_readTrade_b194 {N : Nat} {p1 : Nat} (hp1 : Ob 0 111 p1 5) {q : Bool × Mem} {s0 : Int32} {s1 : Int32} {M : Mem} (h : f_X6_readTrade_b194 N p1 s0 s1 M = some q) : Fr 0 111 9 m_X6_readTrade 194 [(0, .ref 83), (1, .ref p1)] [.int s0, .int s1, .ref (p1 + 4)] M (QB q) := by
  unfold f_X6_readTrade_b194 at h
  obtain ⟨hi_9, h⟩ := ck_elim h
  refine Fr_iast (by decide +kernel) (o5_4 hp1) (vp_of (n5_4 hp1) hi_9) ?_
  obtain ⟨M_10, eM_10, h⟩ := bM_elim h
  refine Fr_mem eM_10 ?_
  refine Fr_aload_n (q := 1) (i := 1) 1 (by decide +kernel) rfl rfl ?_
  refine Fr_dup (by decide +kernel) rfl ?_
  refine gf_X6_172 rfl (by decide +kernel) hp1 ?_
  refine Fr_iconst (i := 1) (v := 1) (by decide +kernel) (by decide) ?_
  refine Fr_iadd (by decide +kernel) ?_
  refine pf_X6_172 rfl (by decide +kernel) hp1 ?_
  obtain ⟨M_11, eM_11, h⟩ := bM_elim h
  refine Fr_mem eM_11 ?_
  refine Fr_aload_n (q := 0) (i := 0) 0 (by decide +kernel) rfl rfl ?_
  refine gf_X6_22 rfl (by decide +kernel) ob_83 ?_
  obtain ⟨r_14, M_12, hc_13, h⟩ := bi_elim h
  refine Fr_cVb (ν := m_X8_takeSemicolon) (As := []) (st := []) (rc := 82) (ci := 8) (d' := 1) (by decide +kernel) ml_X6_128 cv_X8_takeSemicolon rfl (by decide) rfl ob_82 rfl (by decide) (Nat.le_of_ble_eq_true rfl) (t_X8_takeSemicolon hc_13) ?_
  obtain rfl := Option.some.inj h
  exact Fr_zret (by decide +kernel) rfl (nz_b r_14) ⟨rfl, rfl⟩
set_option maxRecDepth 20000 in
theorem t_X6_readTrade_b164 {N : Nat} {p1 : Nat} (hp1 : Ob 0 111 p1 5) {q : Bool × Mem} {v3 : Int32} {s0 : Int32} {M : Mem} (h : f_X6_readTrade_b164 N p1 v3 s0 M = some q) : Fr 0 111 9 m_X6_readTrade 164 [(0, .ref 83), (1, .ref p1), (2, .ref (p1 + 4)), (3, .int v3)] [.int s0] M (QB q) := by
  unfold f_X6_readTrade_b164 at h
  refine Fr_istore (i := 4) (lv' := [(4, .int s0), (0, .ref 83), (1, .ref p1), (2, .ref (p1 + 4)), (3, .int v3)]) (by decide +kernel) (by decide) rfl ?_
  refine Fr_iload (i := 4) 0 (by decide +kernel) rfl ?_
  refine Fr_if_ne (off := 5) 173 (by decide +kernel) (by decide) (fun hc => ?_) (fun hc => ?_)
  · have h := iF hc h
    refine Fr_aload_n (q := 2) (i := 2) 3 (by decide +kernel) rfl rfl ?_
    refine Fr_iload_n (q := 3) (i := 3) 4 (by decide +kernel) rfl rfl ?_
    refine Fr_iconst (i := 5) (v := 5) (by decide +kernel) (by decide) ?_
    refine Fr_iadd (by decide +kernel) ?_
    refine Fr_aload_n (q := 0) (i := 0) 1 (by decide +kernel) rfl rfl ?_
    refine gf_X6_22 rfl (by decide +kernel) ob_83 ?_
    refine Fr_ldcS (idx := 184) 15 (by decide +kernel) (by decide) rfl rfl ?_
    obtain ⟨r_8, M_6, hc_7, h⟩ := bi_elim h
    refine Fr_cVb (ν := m_X8_tryWord) (As := [.ref (400 + 15)]) (st := [.int (v3 + 5), .ref (p1 + 4)]) (rc := 82) (ci := 8) (d' := 8) (by decide +kernel) ml_X6_150 cv_X8_tryWord rfl (by decide) rfl ob_82 rfl (by decide) (Nat.le_of_ble_eq_true rfl) (t_X8_tryWord (by decide) hc_7) ?_
    refine Fr_if_eq (off := 7) 193 (by decide +kernel) (by decide) (fun hc => ?_) (fun hc => ?_)
    · have h := iT hc h
      refine Fr_iconst (i := 0) (v := 0) (by decide +kernel) (by decide) ?_
      refine Fr_loc [1, 2] rfl ?_
      exact t_X6_readTrade_b194 hp1 h
    · have h := iF hc h
      refine Fr_iconst (i := 1) (v := 1) (by decide +kernel) (by decide) ?_
      refine Fr_goto (off := 4) 194 (by decide +kernel) (by decide) ?_
      refine Fr_loc [1, 2] rfl ?_
      exact t_X6_readTrade_b194 hp1 h
  · have h := iT hc h
    refine Fr_iconst (i := 0) (v := 0) (by decide +kernel) (by decide) ?_
    obtain rfl := Option.some.inj h
    exact Fr_zret (by decide +kernel) rfl (by decide) ⟨rfl, rfl⟩
set_option maxRecDepth 20000 in
theorem t_X6_readTrade_b163 {N : Nat} {p1 : Nat} (hp1 : Ob 0 111 p1 5) {q : Bool × Mem} {v3 : Int32} {M : Mem} (h : f_X6_readTrade_b163 N p1 v3 M = some q) : Fr 0 111 9 m_X6_readTrade 163 [(0, .ref 83), (1, .ref p1), (2, .ref (p1 + 4)), (3, .int v3)] [] M (QB q) := by
  unfold f_X6_readTrade_b163 at h
  refine Fr_iconst (i := 0) (v := 0) (by decide +kernel) (by decide) ?_
  exact t_X6_readTrade_b164 hp1 h
set_option maxRecDepth 20000 in
theorem t_X6_readTrade {N : Nat} {p1 : Nat} (hp1 : Ob 0 111 p1 5) {M : Mem} {q : Bool × Mem} (h : f_X6_readTrade N p1 M = some q) : Ev 0 111 9 m_X6_readTrade [.ref 83, .ref p1] M (QB q) := by
  refine Ev_of_Fr (by decide +kernel) (Nat.le_of_ble_eq_true rfl) ?_
  show Fr 0 111 9 m_X6_readTrade 0 [(0, .ref 83), (1, .ref p1)] [] M (QB q)
  unfold f_X6_readTrade at h
  refine Fr_aload_n (q := 1) (i := 1) 1 (by decide +kernel) rfl rfl ?_
  refine gf_X6_172 rfl (by decide +kernel) hp1 ?_
  refine Fr_bipush (i := 6) (v := 6) (by decide +kernel) (by decide) ?_
  refine Fr_icmp_lt (off := 13) 19 (by decide +kernel) (by decide) (fun hc => ?_) (fun hc => ?_)
  · have h := iT hc h
    refine Fr_aload_n (q := 1) (i := 1) 1 (by decide +kernel) rfl rfl ?_
    refine gf_X6_175 rfl (by decide +kernel) hp1 ?_
    refine Fr_astore_n (q := 2) (i := 2) (lv' := [(2, .ref (p1 + 4)), (0, .ref 83), (1, .ref p1)]) (by decide +kernel) rfl (by decide) rfl ?_
    refine Fr_aload_n (q := 1) (i := 1) 2 (by decide +kernel) rfl rfl ?_
    refine gf_X6_172 rfl (by decide +kernel) hp1 ?_
    refine Fr_bipush (i := 6) (v := 6) (by decide +kernel) (by decide) ?_
    refine Fr_imul (by decide +kernel) ?_
    refine Fr_istore_n (q := 3) (i := 3) (lv' := [(3, .int ((M.1 p1 9) * 6)), (2, .ref (p1 + 4)), (0, .ref 83), (1, .ref p1)]) (by decide +kernel) rfl (by decide) rfl ?_
    refine Fr_aload_n (q := 0) (i := 0) 2 (by decide +kernel) rfl rfl ?_
    refine gf_X6_22 rfl (by decide +kernel) ob_83 ?_
    obtain ⟨M_1, hc_2, h⟩ := bv_elim h
    refine Fr_cVv (ν := m_X8_advance) (As := []) (st := []) (rc := 82) (ci := 8) (d' := 0) (by decide +kernel) ml_X6_113 cv_X8_advance rfl (by decide) rfl ob_82 rfl (by decide) (Nat.le_of_ble_eq_true rfl) (t_X8_advance hc_2) ?_
    refine Fr_aload_n (q := 0) (i := 0) 2 (by decide +kernel) rfl rfl ?_
    obtain ⟨r_5, M_3, hc_4, h⟩ := bi_elim h
    refine Fr_cVb (ν := m_X6_readNewName) (As := []) (st := []) (rc := 83) (ci := 6) (d' := 8) (by decide +kernel) ml_X6_137 cv_X6_readNewName rfl (by decide) rfl ob_83 rfl (by decide) (Nat.le_of_ble_eq_true rfl) (t_X6_readNewName hc_4) ?_
    refine Fr_if_eq (off := 120) 163 (by decide +kernel) (by decide) (fun hc => ?_) (fun hc => ?_)
    · have h := iT hc h
      refine Fr_loc [2, 3, 1, 0] rfl ?_
      exact t_X6_readTrade_b163 hp1 h
    · have h := iF hc h
      refine Fr_aload_n (q := 0) (i := 0) 2 (by decide +kernel) rfl rfl ?_
      refine gf_X6_22 rfl (by decide +kernel) ob_83 ?_
      refine Fr_ldcS (idx := 140) 4 (by decide +kernel) (by decide) rfl rfl ?_
      obtain ⟨r_17, M_15, hc_16, h⟩ := bi_elim h
      refine Fr_cVb (ν := m_X8_takeWord) (As := [.ref (400 + 4)]) (st := []) (rc := 82) (ci := 8) (d' := 8) (by decide +kernel) ml_X6_122 cv_X8_takeWord rfl (by decide) rfl ob_82 rfl (by decide) (Nat.le_of_ble_eq_true rfl) (t_X8_takeWord (by decide) hc_16) ?_
      refine Fr_if_eq (off := 108) 163 (by decide +kernel) (by decide) (fun hc => ?_) (fun hc => ?_)
      · have h := iT hc h
        refine Fr_loc [2, 3, 1, 0] rfl ?_
        exact t_X6_readTrade_b163 hp1 h
      · have h := iF hc h
        refine Fr_aload_n (q := 0) (i := 0) 2 (by decide +kernel) rfl rfl ?_
        refine Fr_aload_n (q := 1) (i := 1) 3 (by decide +kernel) rfl rfl ?_
        refine Fr_aload_n (q := 2) (i := 2) 1 (by decide +kernel) rfl rfl ?_
        refine Fr_iload_n (q := 3) (i := 3) 0 (by decide +kernel) rfl rfl ?_
        obtain ⟨r_20, M_18, hc_19, h⟩ := bi_elim h
        refine Fr_cVb (ν := m_X6_readBoard) (As := [.ref p1, .ref (p1 + 4), .int ((M.1 p1 9) * 6)]) (st := []) (rc := 83) (ci := 6) (d' := 2) (by decide +kernel) ml_X6_142 cv_X6_readBoard rfl (by decide) rfl ob_83 rfl (by decide) (Nat.le_of_ble_eq_true rfl) (t_X6_readBoard hp1 (o5_4 hp1) hc_19) ?_
        refine Fr_if_eq (off := 98) 163 (by decide +kernel) (by decide) (fun hc => ?_) (fun hc => ?_)
        · have h := iT hc h
          refine Fr_loc [2, 3, 1, 0] rfl ?_
          exact t_X6_readTrade_b163 hp1 h
        · have h := iF hc h
          refine Fr_aload_n (q := 0) (i := 0) 2 (by decide +kernel) rfl rfl ?_
          refine gf_X6_22 rfl (by decide +kernel) ob_83 ?_
          refine Fr_ldcS (idx := 178) 12 (by decide +kernel) (by decide) rfl rfl ?_
          obtain ⟨r_23, M_21, hc_22, h⟩ := bi_elim h
          refine Fr_cVb (ν := m_X8_takeWord) (As := [.ref (400 + 12)]) (st := []) (rc := 82) (ci := 8) (d' := 8) (by decide +kernel) ml_X6_122 cv_X8_takeWord rfl (by decide) rfl ob_82 rfl (by decide) (Nat.le_of_ble_eq_true rfl) (t_X8_takeWord (by decide) hc_22) ?_
          refine Fr_if_eq (off := 86) 163 (by decide +kernel) (by decide) (fun hc => ?_) (fun hc => ?_)
          · have h := iT hc h
            refine Fr_loc [2, 3, 1, 0] rfl ?_
            exact t_X6_readTrade_b163 hp1 h
          · have h := iF hc h
            refine Fr_aload_n (q := 0) (i := 0) 2 (by decide +kernel) rfl rfl ?_
            refine gf_X6_22 rfl (by decide +kernel) ob_83 ?_
            refine Fr_aload_n (q := 2) (i := 2) 1 (by decide +kernel) rfl rfl ?_
            refine Fr_iload_n (q := 3) (i := 3) 0 (by decide +kernel) rfl rfl ?_
            refine Fr_iconst (i := 2) (v := 2) (by decide +kernel) (by decide) ?_
            refine Fr_iadd (by decide +kernel) ?_
            refine Fr_iconst (i := 1) (v := 1) (by decide +kernel) (by decide) ?_
            refine Fr_bipush (i := 24) (v := 24) (by decide +kernel) (by decide) ?_
            obtain ⟨r_26, M_24, hc_25, h⟩ := bi_elim h
            refine Fr_cVb (ν := m_X8_takeNumber) (As := [.ref (p1 + 4), .int (((M.1 p1 9) * 6) + 2), .int 1, .int 24]) (st := []) (rc := 82) (ci := 8) (d' := 1) (by decide +kernel) ml_X6_116 cv_X8_takeNumber rfl (by decide) rfl ob_82 rfl (by decide) (Nat.le_of_ble_eq_true rfl) (t_X8_takeNumber (o5_4 hp1) hc_25) ?_
            refine Fr_if_eq (off := 69) 163 (by decide +kernel) (by decide) (fun hc => ?_) (fun hc => ?_)
            · have h := iT hc h
              refine Fr_loc [2, 3, 1, 0] rfl ?_
              exact t_X6_readTrade_b163 hp1 h
            · have h := iF hc h
              refine Fr_aload_n (q := 0) (i := 0) 2 (by decide +kernel) rfl rfl ?_
              refine gf_X6_22 rfl (by decide +kernel) ob_83 ?_
              refine Fr_ldcS (idx := 180) 13 (by decide +kernel) (by decide) rfl rfl ?_
              obtain ⟨r_29, M_27, hc_28, h⟩ := bi_elim h
              refine Fr_cVb (ν := m_X8_takeWord) (As := [.ref (400 + 13)]) (st := []) (rc := 82) (ci := 8) (d' := 8) (by decide +kernel) ml_X6_122 cv_X8_takeWord rfl (by decide) rfl ob_82 rfl (by decide) (Nat.le_of_ble_eq_true rfl) (t_X8_takeWord (by decide) hc_28) ?_
              refine Fr_if_eq (off := 57) 163 (by decide +kernel) (by decide) (fun hc => ?_) (fun hc => ?_)
              · have h := iT hc h
                refine Fr_loc [2, 3, 1, 0] rfl ?_
                exact t_X6_readTrade_b163 hp1 h
              · have h := iF hc h
                refine Fr_aload_n (q := 0) (i := 0) 2 (by decide +kernel) rfl rfl ?_
                refine gf_X6_22 rfl (by decide +kernel) ob_83 ?_
                refine Fr_aload_n (q := 2) (i := 2) 1 (by decide +kernel) rfl rfl ?_
                refine Fr_iload_n (q := 3) (i := 3) 0 (by decide +kernel) rfl rfl ?_
                refine Fr_iconst (i := 3) (v := 3) (by decide +kernel) (by decide) ?_
                refine Fr_iadd (by decide +kernel) ?_
                refine Fr_aload_n (q := 2) (i := 2) 1 (by decide +kernel) rfl rfl ?_
                refine Fr_iload_n (q := 3) (i := 3) 0 (by decide +kernel) rfl rfl ?_
                refine Fr_iconst (i := 2) (v := 2) (by decide +kernel) (by decide) ?_
                refine Fr_iadd (by decide +kernel) ?_
                obtain ⟨hi_30, h⟩ := ck_elim h
                refine Fr_iald (by decide +kernel) (o5_4 hp1) (vp_of (n5_4 hp1) hi_30) ?_
                refine Fr_bipush (i := 24) (v := 24) (by decide +kernel) (by decide) ?_
                obtain ⟨r_33, M_31, hc_32, h⟩ := bi_elim h
                refine Fr_cVb (ν := m_X8_takeNumber) (As := [.ref (p1 + 4), .int (((M.1 p1 9) * 6) + 3), .int (M_27.1 (p1 + 4) (tn (((M.1 p1 9) * 6) + 2))), .int 24]) (st := []) (rc := 82) (ci := 8) (d' := 1) (by decide +kernel) ml_X6_116 cv_X8_takeNumber rfl (by decide) rfl ob_82 rfl (by decide) (Nat.le_of_ble_eq_true rfl) (t_X8_takeNumber (o5_4 hp1) hc_32) ?_
                refine Fr_if_eq (off := 36) 163 (by decide +kernel) (by decide) (fun hc => ?_) (fun hc => ?_)
                · have h := iT hc h
                  refine Fr_loc [2, 3, 1, 0] rfl ?_
                  exact t_X6_readTrade_b163 hp1 h
                · have h := iF hc h
                  refine Fr_aload_n (q := 0) (i := 0) 2 (by decide +kernel) rfl rfl ?_
                  refine gf_X6_22 rfl (by decide +kernel) ob_83 ?_
                  refine Fr_ldcS (idx := 182) 14 (by decide +kernel) (by decide) rfl rfl ?_
                  obtain ⟨r_36, M_34, hc_35, h⟩ := bi_elim h
                  refine Fr_cVb (ν := m_X8_takeWord) (As := [.ref (400 + 14)]) (st := []) (rc := 82) (ci := 8) (d' := 8) (by decide +kernel) ml_X6_122 cv_X8_takeWord rfl (by decide) rfl ob_82 rfl (by decide) (Nat.le_of_ble_eq_true rfl) (t_X8_takeWord (by decide) hc_35) ?_
                  refine Fr_if_eq (off := 24) 163 (by decide +kernel) (by decide) (fun hc => ?_) (fun hc => ?_)
                  · have h := iT hc h
                    refine Fr_loc [2, 3, 1, 0] rfl ?_
                    exact t_X6_readTrade_b163 hp1 h
                  · have h := iF hc h
                    refine Fr_aload_n (q := 0) (i := 0) 2 (by decide +kernel) rfl rfl ?_
                    refine gf_X6_22 rfl (by decide +kernel) ob_83 ?_
                    refine Fr_aload_n (q := 2) (i := 2) 1 (by decide +kernel) rfl rfl ?_
                    refine Fr_iload_n (q := 3) (i := 3) 0 (by decide +kernel) rfl rfl ?_
                    refine Fr_iconst (i := 4) (v := 4) (by decide +kernel) (by decide) ?_
                    refine Fr_iadd (by decide +kernel) ?_
                    refine Fr_iconst (i := 1) (v := 1) (by decide +kernel) (by decide) ?_
                    refine Fr_bipush (i := 99) (v := 99) (by decide +kernel) (by decide) ?_
                    obtain ⟨r_39, M_37, hc_38, h⟩ := bi_elim h
                    refine Fr_cVb (ν := m_X8_takeNumber) (As := [.ref (p1 + 4), .int (((M.1 p1 9) * 6) + 4), .int 1, .int 99]) (st := []) (rc := 82) (ci := 8) (d' := 1) (by decide +kernel) ml_X6_116 cv_X8_takeNumber rfl (by decide) rfl ob_82 rfl (by decide) (Nat.le_of_ble_eq_true rfl) (t_X8_takeNumber (o5_4 hp1) hc_38) ?_
                    refine Fr_if_eq (off := 7) 163 (by decide +kernel) (by decide) (fun hc => ?_) (fun hc => ?_)
                    · have h := iT hc h
                      refine Fr_loc [2, 3, 1, 0] rfl ?_
                      exact t_X6_readTrade_b163 hp1 h
                    · have h := iF hc h
                      refine Fr_iconst (i := 1) (v := 1) (by decide +kernel) (by decide) ?_
                      refine Fr_goto (off := 4) 164 (by decide +kernel) (by decide) ?_
                      refine Fr_loc [2, 3, 1, 0] rfl ?_
                      exact t_X6_readTrade_b164 hp1 h
  · have h := iF hc h
    refine Fr_aload_n (q := 0) (i := 0) 0 (by decide +kernel) rfl rfl ?_
    refine gf_X6_22 rfl (by decide +kernel) ob_83 ?_
    refine Fr_bipush (i := 6) (v := 6) (by decide +kernel) (by decide) ?_
    obtain ⟨r_42, M_40, hc_41, h⟩ := bi_elim h
    refine Fr_cVb (ν := m_X8_refuse) (As := [.int 6]) (st := []) (rc := 82) (ci := 8) (d' := 0) (by decide +kernel) ml_X6_79 cv_X8_refuse rfl (by decide) rfl ob_82 rfl (by decide) (Nat.le_of_ble_eq_true rfl) (t_X8_refuse hc_41) ?_
    obtain rfl := Option.some.inj h
    exact Fr_zret (by decide +kernel) rfl (nz_b r_42) ⟨rfl, rfl⟩
set_option maxRecDepth 20000 in
theorem t_X6_readShip_b125 {N : Nat} {p1 : Nat} (hp1 : Ob 0 111 p1 5) {q : Bool × Mem} {s0 : Int32} {s1 : Int32} {M : Mem} (h : f_X6_readShip_b125 N p1 s0 s1 M = some q) : Fr 0 111 9 m_X6_readShip 125 [(0, .ref 83), (1, .ref p1)] [.int s0, .int s1, .ref (p1 + 5)] M (QB q) := by
  unfold f_X6_readShip_b125 at h
  obtain ⟨hi_9, h⟩ := ck_elim h
  refine Fr_iast (by decide +kernel) (o5_5 hp1) (vp_of (n5_5 hp1) hi_9) ?_
  obtain ⟨M_10, eM_10, h⟩ := bM_elim h
  refine Fr_mem eM_10 ?_
  refine Fr_aload_n (q := 1) (i := 1) 1 (by decide +kernel) rfl rfl ?_
  refine Fr_dup (by decide +kernel) rfl ?_
  refine gf_X6_185 rfl (by decide +kernel) hp1 ?_
  refine Fr_iconst (i := 1) (v := 1) (by decide +kernel) (by decide) ?_
  refine Fr_iadd (by decide +kernel) ?_
  refine pf_X6_185 rfl (by decide +kernel) hp1 ?_
  obtain ⟨M_11, eM_11, h⟩ := bM_elim h
  refine Fr_mem eM_11 ?_
  refine Fr_aload_n (q := 0) (i := 0) 0 (by decide +kernel) rfl rfl ?_
  refine gf_X6_22 rfl (by decide +kernel) ob_83 ?_
  obtain ⟨r_14, M_12, hc_13, h⟩ := bi_elim h
  refine Fr_cVb (ν := m_X8_takeSemicolon) (As := []) (st := []) (rc := 82) (ci := 8) (d' := 1) (by decide +kernel) ml_X6_128 cv_X8_takeSemicolon rfl (by decide) rfl ob_82 rfl (by decide) (Nat.le_of_ble_eq_true rfl) (t_X8_takeSemicolon hc_13) ?_
  obtain rfl := Option.some.inj h
  exact Fr_zret (by decide +kernel) rfl (nz_b r_14) ⟨rfl, rfl⟩
set_option maxRecDepth 20000 in
theorem t_X6_readShip_b95 {N : Nat} {p1 : Nat} (hp1 : Ob 0 111 p1 5) {q : Bool × Mem} {v3 : Int32} {s0 : Int32} {M : Mem} (h : f_X6_readShip_b95 N p1 v3 s0 M = some q) : Fr 0 111 9 m_X6_readShip 95 [(0, .ref 83), (1, .ref p1), (2, .ref (p1 + 5)), (3, .int v3)] [.int s0] M (QB q) := by
  unfold f_X6_readShip_b95 at h
  refine Fr_istore (i := 4) (lv' := [(4, .int s0), (0, .ref 83), (1, .ref p1), (2, .ref (p1 + 5)), (3, .int v3)]) (by decide +kernel) (by decide) rfl ?_
  refine Fr_iload (i := 4) 0 (by decide +kernel) rfl ?_
  refine Fr_if_ne (off := 5) 104 (by decide +kernel) (by decide) (fun hc => ?_) (fun hc => ?_)
  · have h := iF hc h
    refine Fr_aload_n (q := 2) (i := 2) 3 (by decide +kernel) rfl rfl ?_
    refine Fr_iload_n (q := 3) (i := 3) 4 (by decide +kernel) rfl rfl ?_
    refine Fr_iconst (i := 4) (v := 4) (by decide +kernel) (by decide) ?_
    refine Fr_iadd (by decide +kernel) ?_
    refine Fr_aload_n (q := 0) (i := 0) 1 (by decide +kernel) rfl rfl ?_
    refine gf_X6_22 rfl (by decide +kernel) ob_83 ?_
    refine Fr_ldcS (idx := 191) 17 (by decide +kernel) (by decide) rfl rfl ?_
    obtain ⟨r_8, M_6, hc_7, h⟩ := bi_elim h
    refine Fr_cVb (ν := m_X8_tryWord) (As := [.ref (400 + 17)]) (st := [.int (v3 + 4), .ref (p1 + 5)]) (rc := 82) (ci := 8) (d' := 8) (by decide +kernel) ml_X6_150 cv_X8_tryWord rfl (by decide) rfl ob_82 rfl (by decide) (Nat.le_of_ble_eq_true rfl) (t_X8_tryWord (by decide) hc_7) ?_
    refine Fr_if_eq (off := 7) 124 (by decide +kernel) (by decide) (fun hc => ?_) (fun hc => ?_)
    · have h := iT hc h
      refine Fr_iconst (i := 0) (v := 0) (by decide +kernel) (by decide) ?_
      refine Fr_loc [1, 2] rfl ?_
      exact t_X6_readShip_b125 hp1 h
    · have h := iF hc h
      refine Fr_iconst (i := 1) (v := 1) (by decide +kernel) (by decide) ?_
      refine Fr_goto (off := 4) 125 (by decide +kernel) (by decide) ?_
      refine Fr_loc [1, 2] rfl ?_
      exact t_X6_readShip_b125 hp1 h
  · have h := iT hc h
    refine Fr_iconst (i := 0) (v := 0) (by decide +kernel) (by decide) ?_
    obtain rfl := Option.some.inj h
    exact Fr_zret (by decide +kernel) rfl (by decide) ⟨rfl, rfl⟩
set_option maxRecDepth 20000 in
theorem t_X6_readShip_b94 {N : Nat} {p1 : Nat} (hp1 : Ob 0 111 p1 5) {q : Bool × Mem} {v3 : Int32} {M : Mem} (h : f_X6_readShip_b94 N p1 v3 M = some q) : Fr 0 111 9 m_X6_readShip 94 [(0, .ref 83), (1, .ref p1), (2, .ref (p1 + 5)), (3, .int v3)] [] M (QB q) := by
  unfold f_X6_readShip_b94 at h
  refine Fr_iconst (i := 0) (v := 0) (by decide +kernel) (by decide) ?_
  exact t_X6_readShip_b95 hp1 h
set_option maxRecDepth 20000 in
theorem t_X6_readShip {N : Nat} {p1 : Nat} (hp1 : Ob 0 111 p1 5) {M : Mem} {q : Bool × Mem} (h : f_X6_readShip N p1 M = some q) : Ev 0 111 9 m_X6_readShip [.ref 83, .ref p1] M (QB q) := by
  refine Ev_of_Fr (by decide +kernel) (Nat.le_of_ble_eq_true rfl) ?_
  show Fr 0 111 9 m_X6_readShip 0 [(0, .ref 83), (1, .ref p1)] [] M (QB q)
  unfold f_X6_readShip at h
  refine Fr_aload_n (q := 1) (i := 1) 1 (by decide +kernel) rfl rfl ?_
  refine gf_X6_185 rfl (by decide +kernel) hp1 ?_
  refine Fr_iconst (i := 4) (v := 4) (by decide +kernel) (by decide) ?_
  refine Fr_icmp_lt (off := 13) 18 (by decide +kernel) (by decide) (fun hc => ?_) (fun hc => ?_)
  · have h := iT hc h
    refine Fr_aload_n (q := 1) (i := 1) 1 (by decide +kernel) rfl rfl ?_
    refine gf_X6_188 rfl (by decide +kernel) hp1 ?_
    refine Fr_astore_n (q := 2) (i := 2) (lv' := [(2, .ref (p1 + 5)), (0, .ref 83), (1, .ref p1)]) (by decide +kernel) rfl (by decide) rfl ?_
    refine Fr_aload_n (q := 1) (i := 1) 2 (by decide +kernel) rfl rfl ?_
    refine gf_X6_185 rfl (by decide +kernel) hp1 ?_
    refine Fr_iconst (i := 5) (v := 5) (by decide +kernel) (by decide) ?_
    refine Fr_imul (by decide +kernel) ?_
    refine Fr_istore_n (q := 3) (i := 3) (lv' := [(3, .int ((M.1 p1 10) * 5)), (2, .ref (p1 + 5)), (0, .ref 83), (1, .ref p1)]) (by decide +kernel) rfl (by decide) rfl ?_
    refine Fr_aload_n (q := 0) (i := 0) 2 (by decide +kernel) rfl rfl ?_
    refine gf_X6_22 rfl (by decide +kernel) ob_83 ?_
    obtain ⟨M_1, hc_2, h⟩ := bv_elim h
    refine Fr_cVv (ν := m_X8_advance) (As := []) (st := []) (rc := 82) (ci := 8) (d' := 0) (by decide +kernel) ml_X6_113 cv_X8_advance rfl (by decide) rfl ob_82 rfl (by decide) (Nat.le_of_ble_eq_true rfl) (t_X8_advance hc_2) ?_
    refine Fr_aload_n (q := 0) (i := 0) 2 (by decide +kernel) rfl rfl ?_
    obtain ⟨r_5, M_3, hc_4, h⟩ := bi_elim h
    refine Fr_cVb (ν := m_X6_readNewName) (As := []) (st := []) (rc := 83) (ci := 6) (d' := 8) (by decide +kernel) ml_X6_137 cv_X6_readNewName rfl (by decide) rfl ob_83 rfl (by decide) (Nat.le_of_ble_eq_true rfl) (t_X6_readNewName hc_4) ?_
    refine Fr_if_eq (off := 53) 94 (by decide +kernel) (by decide) (fun hc => ?_) (fun hc => ?_)
    · have h := iT hc h
      refine Fr_loc [2, 3, 1, 0] rfl ?_
      exact t_X6_readShip_b94 hp1 h
    · have h := iF hc h
      refine Fr_aload_n (q := 0) (i := 0) 2 (by decide +kernel) rfl rfl ?_
      refine gf_X6_22 rfl (by decide +kernel) ob_83 ?_
      refine Fr_ldcS (idx := 140) 4 (by decide +kernel) (by decide) rfl rfl ?_
      obtain ⟨r_17, M_15, hc_16, h⟩ := bi_elim h
      refine Fr_cVb (ν := m_X8_takeWord) (As := [.ref (400 + 4)]) (st := []) (rc := 82) (ci := 8) (d' := 8) (by decide +kernel) ml_X6_122 cv_X8_takeWord rfl (by decide) rfl ob_82 rfl (by decide) (Nat.le_of_ble_eq_true rfl) (t_X8_takeWord (by decide) hc_16) ?_
      refine Fr_if_eq (off := 41) 94 (by decide +kernel) (by decide) (fun hc => ?_) (fun hc => ?_)
      · have h := iT hc h
        refine Fr_loc [2, 3, 1, 0] rfl ?_
        exact t_X6_readShip_b94 hp1 h
      · have h := iF hc h
        refine Fr_aload_n (q := 0) (i := 0) 2 (by decide +kernel) rfl rfl ?_
        refine Fr_aload_n (q := 1) (i := 1) 3 (by decide +kernel) rfl rfl ?_
        refine Fr_aload_n (q := 2) (i := 2) 1 (by decide +kernel) rfl rfl ?_
        refine Fr_iload_n (q := 3) (i := 3) 0 (by decide +kernel) rfl rfl ?_
        obtain ⟨r_20, M_18, hc_19, h⟩ := bi_elim h
        refine Fr_cVb (ν := m_X6_readBoard) (As := [.ref p1, .ref (p1 + 5), .int ((M.1 p1 10) * 5)]) (st := []) (rc := 83) (ci := 6) (d' := 2) (by decide +kernel) ml_X6_142 cv_X6_readBoard rfl (by decide) rfl ob_83 rfl (by decide) (Nat.le_of_ble_eq_true rfl) (t_X6_readBoard hp1 (o5_5 hp1) hc_19) ?_
        refine Fr_if_eq (off := 31) 94 (by decide +kernel) (by decide) (fun hc => ?_) (fun hc => ?_)
        · have h := iT hc h
          refine Fr_loc [2, 3, 1, 0] rfl ?_
          exact t_X6_readShip_b94 hp1 h
        · have h := iF hc h
          refine Fr_aload_n (q := 0) (i := 0) 2 (by decide +kernel) rfl rfl ?_
          refine gf_X6_22 rfl (by decide +kernel) ob_83 ?_
          refine Fr_ldcS (idx := 180) 13 (by decide +kernel) (by decide) rfl rfl ?_
          obtain ⟨r_23, M_21, hc_22, h⟩ := bi_elim h
          refine Fr_cVb (ν := m_X8_takeWord) (As := [.ref (400 + 13)]) (st := []) (rc := 82) (ci := 8) (d' := 8) (by decide +kernel) ml_X6_122 cv_X8_takeWord rfl (by decide) rfl ob_82 rfl (by decide) (Nat.le_of_ble_eq_true rfl) (t_X8_takeWord (by decide) hc_22) ?_
          refine Fr_if_eq (off := 19) 94 (by decide +kernel) (by decide) (fun hc => ?_) (fun hc => ?_)
          · have h := iT hc h
            refine Fr_loc [2, 3, 1, 0] rfl ?_
            exact t_X6_readShip_b94 hp1 h
          · have h := iF hc h
            refine Fr_aload_n (q := 0) (i := 0) 2 (by decide +kernel) rfl rfl ?_
            refine Fr_aload_n (q := 1) (i := 1) 3 (by decide +kernel) rfl rfl ?_
            refine Fr_aload_n (q := 2) (i := 2) 1 (by decide +kernel) rfl rfl ?_
            refine Fr_iload_n (q := 3) (i := 3) 0 (by decide +kernel) rfl rfl ?_
            refine Fr_iconst (i := 2) (v := 2) (by decide +kernel) (by decide) ?_
            refine Fr_iadd (by decide +kernel) ?_
            obtain ⟨r_26, M_24, hc_25, h⟩ := bi_elim h
            refine Fr_cVb (ν := m_X6_readBoard) (As := [.ref p1, .ref (p1 + 5), .int (((M.1 p1 10) * 5) + 2)]) (st := []) (rc := 83) (ci := 6) (d' := 2) (by decide +kernel) ml_X6_142 cv_X6_readBoard rfl (by decide) rfl ob_83 rfl (by decide) (Nat.le_of_ble_eq_true rfl) (t_X6_readBoard hp1 (o5_5 hp1) hc_25) ?_
            refine Fr_if_eq (off := 7) 94 (by decide +kernel) (by decide) (fun hc => ?_) (fun hc => ?_)
            · have h := iT hc h
              refine Fr_loc [2, 3, 1, 0] rfl ?_
              exact t_X6_readShip_b94 hp1 h
            · have h := iF hc h
              refine Fr_iconst (i := 1) (v := 1) (by decide +kernel) (by decide) ?_
              refine Fr_goto (off := 4) 95 (by decide +kernel) (by decide) ?_
              refine Fr_loc [2, 3, 1, 0] rfl ?_
              exact t_X6_readShip_b95 hp1 h
  · have h := iF hc h
    refine Fr_aload_n (q := 0) (i := 0) 0 (by decide +kernel) rfl rfl ?_
    refine gf_X6_22 rfl (by decide +kernel) ob_83 ?_
    refine Fr_bipush (i := 6) (v := 6) (by decide +kernel) (by decide) ?_
    obtain ⟨r_29, M_27, hc_28, h⟩ := bi_elim h
    refine Fr_cVb (ν := m_X8_refuse) (As := [.int 6]) (st := []) (rc := 82) (ci := 8) (d' := 0) (by decide +kernel) ml_X6_79 cv_X8_refuse rfl (by decide) rfl ob_82 rfl (by decide) (Nat.le_of_ble_eq_true rfl) (t_X8_refuse hc_28) ?_
    obtain rfl := Option.some.inj h
    exact Fr_zret (by decide +kernel) rfl (nz_b r_29) ⟨rfl, rfl⟩
