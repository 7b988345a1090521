set_option maxRecDepth 20000 in
theorem t_X0_trySeconds_b118 {N : Nat} {p1 : Nat} (hp1 : Ob 0 111 p1 5) {q : Mem} {k38 : Int32 × Int32 × Int32 × Int32 × Int32 × Int32 → Mem → Option (Mem)} (hk38 : ∀ (a : Int32 × Int32 × Int32 × Int32 × Int32 × Int32) (M : Mem), k38 a M = some q → Fr 0 111 4 m_X0_trySeconds 38 [(0, .ref 93), (1, .ref p1), (2, .int a.1), (3, .int a.2.1), (4, .int a.2.2.1), (5, .int a.2.2.2.1), (6, .int a.2.2.2.2.1), (7, .int a.2.2.2.2.2)] [] M (QV q)) {v2 : Int32} {v3 : Int32} {v4 : Int32} {v5 : Int32} {v6 : Int32} {v7 : Int32} {M : Mem} (h : f_X0_trySeconds_b118 N p1 k38 v2 v3 v4 v5 v6 v7 M = some q) : Fr 0 111 4 m_X0_trySeconds 118 [(0, .ref 93), (1, .ref p1), (2, .int v2), (3, .int v3), (4, .int v4), (5, .int v5), (6, .int v6), (7, .int v7)] [] M (QV q) := by
  unfold f_X0_trySeconds_b118 at h
  refine Fr_iinc (i := 7) (j := 1) (v := (v7 + 1)) (lv' := [(7, .int (v7 + 1)), (0, .ref 93), (1, .ref p1), (2, .int v2), (3, .int v3), (4, .int v4), (5, .int v5), (6, .int v6)]) 7 (by decide +kernel) rfl rfl (by decide) rfl ?_
  refine Fr_goto (off := (-83)) 38 (by decide +kernel) (by decide) ?_
  refine Fr_loc [1, 2, 3, 4, 5, 6, 7, 0] rfl ?_
  exact hk38 (v2, v3, v4, v5, v6, (v7 + 1)) M h
set_option maxRecDepth 20000 in
theorem t_X0_trySeconds_h38 {N : Nat} {p1 : Nat} (hp1 : Ob 0 111 p1 5) {q : Mem} {k38 : Int32 × Int32 × Int32 × Int32 × Int32 × Int32 → Mem → Option (Mem)} (hk38 : ∀ (a : Int32 × Int32 × Int32 × Int32 × Int32 × Int32) (M : Mem), k38 a M = some q → Fr 0 111 4 m_X0_trySeconds 38 [(0, .ref 93), (1, .ref p1), (2, .int a.1), (3, .int a.2.1), (4, .int a.2.2.1), (5, .int a.2.2.2.1), (6, .int a.2.2.2.2.1), (7, .int a.2.2.2.2.2)] [] M (QV q)) {v2 : Int32} {v3 : Int32} {v4 : Int32} {v5 : Int32} {v6 : Int32} {v7 : Int32} {M : Mem} (h : f_X0_trySeconds_h38 N p1 k38 v2 v3 v4 v5 v6 v7 M = some q) : Fr 0 111 4 m_X0_trySeconds 38 [(0, .ref 93), (1, .ref p1), (2, .int v2), (3, .int v3), (4, .int v4), (5, .int v5), (6, .int v6), (7, .int v7)] [] M (QV q) := by
  unfold f_X0_trySeconds_h38 at h
  refine Fr_iload (i := 7) 7 (by decide +kernel) rfl ?_
  refine Fr_iload (i := 6) 6 (by decide +kernel) rfl ?_
  refine Fr_icmp_ge (off := 82) 124 (by decide +kernel) (by decide) (fun hc => ?_) (fun hc => ?_)
  · have h := iT hc h
    obtain rfl := Option.some.inj h
    exact Fr_vret (by decide +kernel) rfl ⟨rfl, rfl⟩
  · have h := iF hc h
    refine Fr_aload_n (q := 0) (i := 0) 0 (by decide +kernel) rfl rfl ?_
    refine gf_X0_15 rfl (by decide +kernel) ob_93 ?_
    refine Fr_iconst (i := 0) (v := 0) (by decide +kernel) (by decide) ?_
    refine Fr_aload_n (q := 0) (i := 0) 0 (by decide +kernel) rfl rfl ?_
    refine gf_X0_9 rfl (by decide +kernel) ob_93 ?_
    refine Fr_iconst (i := 0) (v := 0) (by decide +kernel) (by decide) ?_
    refine Fr_bipush (i := 60) (v := 60) (by decide +kernel) (by decide) ?_
    refine Fr_acopyI (by decide +kernel) ml_X0_27 ob_95 ob_94 (by decide) (by decide) (by decide) (le_len ln_95 (by decide)) (le_len ln_94 (by decide)) (by decide) (Nat.le_of_ble_eq_true rfl) ?_
    obtain ⟨M_3, eM_3, h⟩ := bM_elim h
    refine Fr_mem eM_3 ?_
    refine Fr_aload_n (q := 0) (i := 0) 0 (by decide +kernel) rfl rfl ?_
    refine Fr_iload (i := 4) 4 (by decide +kernel) rfl ?_
    refine pf_X0_59 rfl (by decide +kernel) ob_93 ?_
    obtain ⟨M_4, eM_4, h⟩ := bM_elim h
    refine Fr_mem eM_4 ?_
    refine Fr_aload_n (q := 0) (i := 0) 0 (by decide +kernel) rfl rfl ?_
    refine Fr_iload (i := 5) 5 (by decide +kernel) rfl ?_
    refine pf_X0_81 rfl (by decide +kernel) ob_93 ?_
    obtain ⟨M_5, eM_5, h⟩ := bM_elim h
    refine Fr_mem eM_5 ?_
    refine Fr_aload_n (q := 0) (i := 0) 0 (by decide +kernel) rfl rfl ?_
    refine Fr_aload_n (q := 1) (i := 1) 1 (by decide +kernel) rfl rfl ?_
    refine Fr_iload (i := 7) 7 (by decide +kernel) rfl ?_
    refine Fr_iload_n (q := 3) (i := 3) 3 (by decide +kernel) rfl rfl ?_
    refine Fr_iconst (i := 1) (v := 1) (by decide +kernel) (by decide) ?_
    refine Fr_iadd (by decide +kernel) ?_
    refine Fr_bipush (i := 24) (v := 24) (by decide +kernel) (by decide) ?_
    refine Fr_aload_n (q := 0) (i := 0) 0 (by decide +kernel) rfl rfl ?_
    refine gf_X0_62 rfl (by decide +kernel) ob_93 ?_
    obtain ⟨M_6, hc_7, h⟩ := bv_elim h
    refine Fr_cVv (ν := m_X0_follow) (As := [.ref p1, .int v7, .int (v3 + 1), .int 24, .int (M_5.1 93 6)]) (st := []) (rc := 93) (ci := 0) (d' := 3) (by decide +kernel) ml_X0_55 cv_X0_follow rfl (by decide) rfl ob_93 rfl (by decide) (Nat.le_of_ble_eq_true rfl) (t_X0_follow hp1 hc_7) ?_
    refine Fr_aload_n (q := 0) (i := 0) 0 (by decide +kernel) rfl rfl ?_
    refine gf_X0_81 rfl (by decide +kernel) ob_93 ?_
    refine Fr_aload_n (q := 0) (i := 0) 0 (by decide +kernel) rfl rfl ?_
    refine gf_X0_62 rfl (by decide +kernel) ob_93 ?_
    refine Fr_icmp_le (off := 22) 118 (by decide +kernel) (by decide) (fun hc => ?_) (fun hc => ?_)
    · have h := iT hc h
      exact t_X0_trySeconds_b118 hp1 hk38 h
    · have h := iF hc h
      refine Fr_aload_n (q := 0) (i := 0) 0 (by decide +kernel) rfl rfl ?_
      refine Fr_aload_n (q := 0) (i := 0) 0 (by decide +kernel) rfl rfl ?_
      refine gf_X0_81 rfl (by decide +kernel) ob_93 ?_
      refine pf_X0_62 rfl (by decide +kernel) ob_93 ?_
      obtain ⟨M_8, eM_8, h⟩ := bM_elim h
      refine Fr_mem eM_8 ?_
      refine Fr_aload_n (q := 0) (i := 0) 0 (by decide +kernel) rfl rfl ?_
      refine Fr_iload_n (q := 2) (i := 2) 2 (by decide +kernel) rfl rfl ?_
      refine pf_X0_65 rfl (by decide +kernel) ob_93 ?_
      obtain ⟨M_9, eM_9, h⟩ := bM_elim h
      refine Fr_mem eM_9 ?_
      refine Fr_aload_n (q := 0) (i := 0) 0 (by decide +kernel) rfl rfl ?_
      refine Fr_iload (i := 7) 7 (by decide +kernel) rfl ?_
      refine pf_X0_84 rfl (by decide +kernel) ob_93 ?_
      obtain ⟨M_10, eM_10, h⟩ := bM_elim h
      refine Fr_mem eM_10 ?_
      exact t_X0_trySeconds_b118 hp1 hk38 h
set_option maxRecDepth 20000 in
theorem t_X0_trySeconds {N : Nat} {p1 : Nat} {x2 : Int32} {x3 : Int32} (hp1 : Ob 0 111 p1 5) {M : Mem} {q : Mem} (h : f_X0_trySeconds N p1 x2 x3 M = some q) : Ev 0 111 4 m_X0_trySeconds [.ref 93, .ref p1, .int x2, .int x3] M (QV q) := by
  refine Ev_of_Fr (by decide +kernel) (Nat.le_of_ble_eq_true rfl) ?_
  show Fr 0 111 4 m_X0_trySeconds 0 [(0, .ref 93), (1, .ref p1), (2, .int x2), (3, .int x3)] [] M (QV q)
  unfold f_X0_trySeconds at h
  refine Fr_aload_n (q := 0) (i := 0) 0 (by decide +kernel) rfl rfl ?_
  refine gf_X0_59 rfl (by decide +kernel) ob_93 ?_
  refine Fr_istore (i := 4) (lv' := [(4, .int (M.1 93 3)), (0, .ref 93), (1, .ref p1), (2, .int x2), (3, .int x3)]) (by decide +kernel) (by decide) rfl ?_
  refine Fr_aload_n (q := 0) (i := 0) 1 (by decide +kernel) rfl rfl ?_
  refine gf_X0_81 rfl (by decide +kernel) ob_93 ?_
  refine Fr_istore (i := 5) (lv' := [(5, .int (M.1 93 4)), (4, .int (M.1 93 3)), (0, .ref 93), (1, .ref p1), (2, .int x2), (3, .int x3)]) (by decide +kernel) (by decide) rfl ?_
  refine Fr_aload_n (q := 0) (i := 0) 2 (by decide +kernel) rfl rfl ?_
  refine gf_X0_9 rfl (by decide +kernel) ob_93 ?_
  refine Fr_iconst (i := 0) (v := 0) (by decide +kernel) (by decide) ?_
  refine Fr_aload_n (q := 0) (i := 0) 2 (by decide +kernel) rfl rfl ?_
  refine gf_X0_15 rfl (by decide +kernel) ob_93 ?_
  refine Fr_iconst (i := 0) (v := 0) (by decide +kernel) (by decide) ?_
  refine Fr_bipush (i := 60) (v := 60) (by decide +kernel) (by decide) ?_
  refine Fr_acopyI (by decide +kernel) ml_X0_27 ob_94 ob_95 (by decide) (by decide) (by decide) (le_len ln_94 (by decide)) (le_len ln_95 (by decide)) (by decide) (Nat.le_of_ble_eq_true rfl) ?_
  obtain ⟨M_1, eM_1, h⟩ := bM_elim h
  refine Fr_mem eM_1 ?_
  refine Fr_iconst (i := 1) (v := 1) (by decide +kernel) (by decide) ?_
  refine Fr_aload_n (q := 1) (i := 1) 3 (by decide +kernel) rfl rfl ?_
  refine gf_X0_68 rfl (by decide +kernel) hp1 ?_
  refine Fr_ishl (by decide +kernel) ?_
  obtain ⟨y_2, ey_2, h⟩ := bI_elim h
  refine Fr_topI ey_2 ?_
  refine Fr_istore (i := 6) (lv' := [(6, .int y_2), (5, .int (M.1 93 4)), (4, .int (M.1 93 3)), (0, .ref 93), (1, .ref p1), (2, .int x2), (3, .int x3)]) (by decide +kernel) (by decide) rfl ?_
  refine Fr_iconst (i := 0) (v := 0) (by decide +kernel) (by decide) ?_
  refine Fr_istore (i := 7) (lv' := [(7, .int 0), (6, .int y_2), (5, .int (M.1 93 4)), (4, .int (M.1 93 3)), (0, .ref 93), (1, .ref p1), (2, .int x2), (3, .int x3)]) (by decide +kernel) (by decide) rfl ?_
  refine Fr_loc [4, 5, 6, 7, 3, 2, 1, 0] rfl ?_
  exact lp_sound (body := fun k a m => f_X0_trySeconds_h38 N p1 k a.1 a.2.1 a.2.2.1 a.2.2.2.1 a.2.2.2.2.1 a.2.2.2.2.2 m) (P := fun a M => Fr 0 111 4 m_X0_trySeconds 38 [(0, .ref 93), (1, .ref p1), (2, .int a.1), (3, .int a.2.1), (4, .int a.2.2.1), (5, .int a.2.2.2.1), (6, .int a.2.2.2.2.1), (7, .int a.2.2.2.2.2)] [] M (QV q)) (fun k hk a m h => t_X0_trySeconds_h38 hp1 hk h) N (x2, x3, (M.1 93 3), (M.1 93 4), y_2, 0) M_1 h
set_option maxRecDepth 20000 in
theorem t_X0_findTurn_b68 {N : Nat} {p1 : Nat} (hp1 : Ob 0 111 p1 5) {q : Mem} {k25 : Int32 × Int32 × Int32 → Mem → Option (Mem)} (hk25 : ∀ (a : Int32 × Int32 × Int32) (M : Mem), k25 a M = some q → Fr 0 111 5 m_X0_findTurn 25 [(0, .ref 93), (1, .ref p1), (2, .int a.1), (3, .int a.2.1), (4, .int a.2.2)] [] M (QV q)) {v2 : Int32} {v3 : Int32} {v4 : Int32} {M : Mem} (h : f_X0_findTurn_b68 N p1 k25 v2 v3 v4 M = some q) : Fr 0 111 5 m_X0_findTurn 68 [(0, .ref 93), (1, .ref p1), (2, .int v2), (3, .int v3), (4, .int v4)] [] M (QV q) := by
  unfold f_X0_findTurn_b68 at h
  refine Fr_iinc (i := 4) (j := 1) (v := (v4 + 1)) (lv' := [(4, .int (v4 + 1)), (0, .ref 93), (1, .ref p1), (2, .int v2), (3, .int v3)]) 4 (by decide +kernel) rfl rfl (by decide) rfl ?_
  refine Fr_goto (off := (-46)) 25 (by decide +kernel) (by decide) ?_
  refine Fr_loc [1, 2, 3, 4, 0] rfl ?_
  exact hk25 (v2, v3, (v4 + 1)) M h
set_option maxRecDepth 20000 in
theorem t_X0_findTurn_h25 {N : Nat} {p1 : Nat} (hp1 : Ob 0 111 p1 5) {q : Mem} {k25 : Int32 × Int32 × Int32 → Mem → Option (Mem)} (hk25 : ∀ (a : Int32 × Int32 × Int32) (M : Mem), k25 a M = some q → Fr 0 111 5 m_X0_findTurn 25 [(0, .ref 93), (1, .ref p1), (2, .int a.1), (3, .int a.2.1), (4, .int a.2.2)] [] M (QV q)) {v2 : Int32} {v3 : Int32} {v4 : Int32} {M : Mem} (h : f_X0_findTurn_h25 N p1 k25 v2 v3 v4 M = some q) : Fr 0 111 5 m_X0_findTurn 25 [(0, .ref 93), (1, .ref p1), (2, .int v2), (3, .int v3), (4, .int v4)] [] M (QV q) := by
  unfold f_X0_findTurn_h25 at h
  refine Fr_iload (i := 4) 4 (by decide +kernel) rfl ?_
  refine Fr_iload_n (q := 3) (i := 3) 3 (by decide +kernel) rfl rfl ?_
  refine Fr_icmp_ge (off := 46) 74 (by decide +kernel) (by decide) (fun hc => ?_) (fun hc => ?_)
  · have h := iT hc h
    obtain rfl := Option.some.inj h
    exact Fr_vret (by decide +kernel) rfl ⟨rfl, rfl⟩
  · have h := iF hc h
    refine Fr_aload_n (q := 0) (i := 0) 0 (by decide +kernel) rfl rfl ?_
    refine Fr_aload_n (q := 1) (i := 1) 1 (by decide +kernel) rfl rfl ?_
    obtain ⟨M_5, hc_6, h⟩ := bv_elim h
    refine Fr_cVv (ν := m_X0_begin) (As := [.ref p1]) (st := []) (rc := 93) (ci := 0) (d' := 1) (by decide +kernel) ml_X0_51 cv_X0_begin rfl (by decide) rfl ob_93 rfl (by decide) (Nat.le_of_ble_eq_true rfl) (t_X0_begin hp1 hc_6) ?_
    refine Fr_aload_n (q := 0) (i := 0) 0 (by decide +kernel) rfl rfl ?_
    refine Fr_aload_n (q := 1) (i := 1) 1 (by decide +kernel) rfl rfl ?_
    refine Fr_iload (i := 4) 4 (by decide +kernel) rfl ?_
    refine Fr_iconst (i := 1) (v := 1) (by decide +kernel) (by decide) ?_
    refine Fr_iload_n (q := 2) (i := 2) 2 (by decide +kernel) rfl rfl ?_
    refine Fr_aload_n (q := 0) (i := 0) 0 (by decide +kernel) rfl rfl ?_
    refine gf_X0_62 rfl (by decide +kernel) ob_93 ?_
    obtain ⟨M_7, hc_8, h⟩ := bv_elim h
    refine Fr_cVv (ν := m_X0_follow) (As := [.ref p1, .int v4, .int 1, .int v2, .int (M_5.1 93 6)]) (st := []) (rc := 93) (ci := 0) (d' := 3) (by decide +kernel) ml_X0_55 cv_X0_follow rfl (by decide) rfl ob_93 rfl (by decide) (Nat.le_of_ble_eq_true rfl) (t_X0_follow hp1 hc_8) ?_
    refine Fr_aload_n (q := 0) (i := 0) 0 (by decide +kernel) rfl rfl ?_
    refine gf_X0_81 rfl (by decide +kernel) ob_93 ?_
    refine Fr_aload_n (q := 0) (i := 0) 0 (by decide +kernel) rfl rfl ?_
    refine gf_X0_62 rfl (by decide +kernel) ob_93 ?_
    refine Fr_icmp_le (off := 11) 68 (by decide +kernel) (by decide) (fun hc => ?_) (fun hc => ?_)
    · have h := iT hc h
      exact t_X0_findTurn_b68 hp1 hk25 h
    · have h := iF hc h
      refine Fr_aload_n (q := 0) (i := 0) 0 (by decide +kernel) rfl rfl ?_
      refine Fr_aload_n (q := 1) (i := 1) 1 (by decide +kernel) rfl rfl ?_
      refine Fr_iload (i := 4) 4 (by decide +kernel) rfl ?_
      refine Fr_iload_n (q := 2) (i := 2) 2 (by decide +kernel) rfl rfl ?_
      obtain ⟨M_9, hc_10, h⟩ := bv_elim h
      refine Fr_cVv (ν := m_X0_trySeconds) (As := [.ref p1, .int v4, .int v2]) (st := []) (rc := 93) (ci := 0) (d' := 4) (by decide +kernel) ml_X0_87 cv_X0_trySeconds rfl (by decide) rfl ob_93 rfl (by decide) (Nat.le_of_ble_eq_true rfl) (t_X0_trySeconds hp1 hc_10) ?_
      exact t_X0_findTurn_b68 hp1 hk25 h
set_option maxRecDepth 20000 in
theorem t_X0_findTurn {N : Nat} {p1 : Nat} {x2 : Int32} (hp1 : Ob 0 111 p1 5) {M : Mem} {q : Mem} (h : f_X0_findTurn N p1 x2 M = some q) : Ev 0 111 5 m_X0_findTurn [.ref 93, .ref p1, .int x2] M (QV q) := by
  refine Ev_of_Fr (by decide +kernel) (Nat.le_of_ble_eq_true rfl) ?_
  show Fr 0 111 5 m_X0_findTurn 0 [(0, .ref 93), (1, .ref p1), (2, .int x2)] [] M (QV q)
  unfold f_X0_findTurn at h
  refine Fr_aload_n (q := 0) (i := 0) 0 (by decide +kernel) rfl rfl ?_
  refine Fr_iconst (i := (-1)) (v := (-1)) (by decide +kernel) (by decide) ?_
  refine pf_X0_62 rfl (by decide +kernel) ob_93 ?_
  obtain ⟨M_1, eM_1, h⟩ := bM_elim h
  refine Fr_mem eM_1 ?_
  refine Fr_aload_n (q := 0) (i := 0) 0 (by decide +kernel) rfl rfl ?_
  refine Fr_iconst (i := 0) (v := 0) (by decide +kernel) (by decide) ?_
  refine pf_X0_65 rfl (by decide +kernel) ob_93 ?_
  obtain ⟨M_2, eM_2, h⟩ := bM_elim h
  refine Fr_mem eM_2 ?_
  refine Fr_aload_n (q := 0) (i := 0) 0 (by decide +kernel) rfl rfl ?_
  refine Fr_iconst (i := 0) (v := 0) (by decide +kernel) (by decide) ?_
  refine pf_X0_84 rfl (by decide +kernel) ob_93 ?_
  obtain ⟨M_3, eM_3, h⟩ := bM_elim h
  refine Fr_mem eM_3 ?_
  refine Fr_iconst (i := 1) (v := 1) (by decide +kernel) (by decide) ?_
  refine Fr_aload_n (q := 1) (i := 1) 1 (by decide +kernel) rfl rfl ?_
  refine gf_X0_68 rfl (by decide +kernel) hp1 ?_
  refine Fr_ishl (by decide +kernel) ?_
  obtain ⟨y_4, ey_4, h⟩ := bI_elim h
  refine Fr_topI ey_4 ?_
  refine Fr_istore_n (q := 3) (i := 3) (lv' := [(3, .int y_4), (0, .ref 93), (1, .ref p1), (2, .int x2)]) (by decide +kernel) rfl (by decide) rfl ?_
  refine Fr_iconst (i := 0) (v := 0) (by decide +kernel) (by decide) ?_
  refine Fr_istore (i := 4) (lv' := [(4, .int 0), (3, .int y_4), (0, .ref 93), (1, .ref p1), (2, .int x2)]) (by decide +kernel) (by decide) rfl ?_
  refine Fr_loc [2, 3, 4, 1, 0] rfl ?_
  exact lp_sound (body := fun k a m => f_X0_findTurn_h25 N p1 k a.1 a.2.1 a.2.2 m) (P := fun a M => Fr 0 111 5 m_X0_findTurn 25 [(0, .ref 93), (1, .ref p1), (2, .int a.1), (3, .int a.2.1), (4, .int a.2.2)] [] M (QV q)) (fun k hk a m h => t_X0_findTurn_h25 hp1 hk h) N (x2, y_4, 0) M_3 h
set_option maxRecDepth 20000 in
theorem t_J7_fill_53178_h5 {N : Nat} {p0 : Nat} (hp0 : Ob 0 111 p0 20) {q : Mem} {k5 : Int32 × Int32 × Int32 → Mem → Option (Mem)} (hk5 : ∀ (a : Int32 × Int32 × Int32) (M : Mem), k5 a M = some q → Fr 0 111 0 m_J7_fill_53178 5 [(0, .ref p0), (1, .int a.1), (2, .int a.2.1), (3, .int a.2.2)] [] M (QV q)) {v1 : Int32} {v2 : Int32} {v3 : Int32} {M : Mem} (h : f_J7_fill_53178_h5 N p0 k5 v1 v2 v3 M = some q) : Fr 0 111 0 m_J7_fill_53178 5 [(0, .ref p0), (1, .int v1), (2, .int v2), (3, .int v3)] [] M (QV q) := by
  unfold f_J7_fill_53178_h5 at h
  refine Fr_iload_n (q := 2) (i := 2) 2 (by decide +kernel) rfl rfl ?_
  refine Fr_iload_n (q := 3) (i := 3) 3 (by decide +kernel) rfl rfl ?_
  refine Fr_icmp_ge (off := 13) 20 (by decide +kernel) (by decide) (fun hc => ?_) (fun hc => ?_)
  · have h := iT hc h
    obtain rfl := Option.some.inj h
    exact Fr_vret (by decide +kernel) rfl ⟨rfl, rfl⟩
  · have h := iF hc h
    refine Fr_aload_n (q := 0) (i := 0) 0 (by decide +kernel) rfl rfl ?_
    refine Fr_iload_n (q := 2) (i := 2) 2 (by decide +kernel) rfl rfl ?_
    refine Fr_iload_n (q := 1) (i := 1) 1 (by decide +kernel) rfl rfl ?_
    obtain ⟨hi_1, h⟩ := ck_elim h
    refine Fr_iast (by decide +kernel) hp0 (vp_of rfl hi_1) ?_
    obtain ⟨M_2, eM_2, h⟩ := bM_elim h
    refine Fr_mem eM_2 ?_
    refine Fr_iinc (i := 2) (j := 1) (v := (v2 + 1)) (lv' := [(2, .int (v2 + 1)), (0, .ref p0), (1, .int v1), (3, .int v3)]) 2 (by decide +kernel) rfl rfl (by decide) rfl ?_
    refine Fr_goto (off := (-12)) 5 (by decide +kernel) (by decide) ?_
    refine Fr_loc [1, 2, 0, 3] rfl ?_
    exact hk5 (v1, (v2 + 1), v3) M_2 h
set_option maxRecDepth 20000 in
theorem t_J7_fill_53178 {N : Nat} {p0 : Nat} {x1 : Int32} (hp0 : Ob 0 111 p0 20) {M : Mem} {q : Mem} (h : f_J7_fill_53178 N p0 x1 M = some q) : Ev 0 111 0 m_J7_fill_53178 [.ref p0, .int x1] M (QV q) := by
  refine Ev_of_Fr (by decide +kernel) (Nat.le_of_ble_eq_true rfl) ?_
  show Fr 0 111 0 m_J7_fill_53178 0 [(0, .ref p0), (1, .int x1)] [] M (QV q)
  unfold f_J7_fill_53178 at h
  refine Fr_iconst (i := 0) (v := 0) (by decide +kernel) (by decide) ?_
  refine Fr_istore_n (q := 2) (i := 2) (lv' := [(2, .int 0), (0, .ref p0), (1, .int x1)]) (by decide +kernel) rfl (by decide) rfl ?_
  refine Fr_aload_n (q := 0) (i := 0) 1 (by decide +kernel) rfl rfl ?_
  refine Fr_alen (by decide +kernel) hp0 (by decide) rfl ?_
  refine Fr_istore_n (q := 3) (i := 3) (lv' := [(3, .int (Int32.ofNat (ln p0))), (2, .int 0), (0, .ref p0), (1, .int x1)]) (by decide +kernel) rfl (by decide) rfl ?_
  refine Fr_loc [2, 3, 1, 0] rfl ?_
  exact lp_sound (body := fun k a m => f_J7_fill_53178_h5 N p0 k a.1 a.2.1 a.2.2 m) (P := fun a M => Fr 0 111 0 m_J7_fill_53178 5 [(0, .ref p0), (1, .int a.1), (2, .int a.2.1), (3, .int a.2.2)] [] M (QV q)) (fun k hk a m h => t_J7_fill_53178_h5 hp0 hk h) N (x1, 0, (Int32.ofNat (ln p0))) M h
set_option maxRecDepth 20000 in
theorem t_X1_takeTry_b112 {N : Nat} {q : Bool × Mem} {k65 : Int32 × Int32 × Int32 × Int32 → Mem → Option (Bool × Mem)} (hk65 : ∀ (a : Int32 × Int32 × Int32 × Int32) (M : Mem), k65 a M = some q → Fr 0 111 0 m_X1_takeTry 65 [(0, .ref 103), (3, .int a.1), (4, .int a.2.1), (5, .int a.2.2.1), (6, .int a.2.2.2)] [] M (QB q)) {v3 : Int32} {v4 : Int32} {v5 : Int32} {v6 : Int32} {M : Mem} (h : f_X1_takeTry_b112 N k65 v3 v4 v5 v6 M = some q) : Fr 0 111 0 m_X1_takeTry 112 [(0, .ref 103), (3, .int v3), (4, .int v4), (5, .int v5), (6, .int v6)] [] M (QB q) := by
  unfold f_X1_takeTry_b112 at h
  refine Fr_iinc (i := 6) (j := 1) (v := (v6 + 1)) (lv' := [(6, .int (v6 + 1)), (0, .ref 103), (3, .int v3), (4, .int v4), (5, .int v5)]) 4 (by decide +kernel) rfl rfl (by decide) rfl ?_
  refine Fr_goto (off := (-50)) 65 (by decide +kernel) (by decide) ?_
  refine Fr_loc [1, 2, 3, 4, 0] rfl ?_
  exact hk65 (v3, v4, v5, (v6 + 1)) M h
set_option maxRecDepth 20000 in
theorem t_X1_takeTry_b96 {N : Nat} {q : Bool × Mem} {k65 : Int32 × Int32 × Int32 × Int32 → Mem → Option (Bool × Mem)} (hk65 : ∀ (a : Int32 × Int32 × Int32 × Int32) (M : Mem), k65 a M = some q → Fr 0 111 0 m_X1_takeTry 65 [(0, .ref 103), (3, .int a.1), (4, .int a.2.1), (5, .int a.2.2.1), (6, .int a.2.2.2)] [] M (QB q)) {v3 : Int32} {v4 : Int32} {v5 : Int32} {v6 : Int32} {s0 : Int32} {s1 : Int32} {M : Mem} (h : f_X1_takeTry_b96 N k65 v3 v4 v5 v6 s0 s1 M = some q) : Fr 0 111 0 m_X1_takeTry 96 [(0, .ref 103), (3, .int v3), (4, .int v4), (5, .int v5), (6, .int v6)] [.int s0, .int s1] M (QB q) := by
  unfold f_X1_takeTry_b96 at h
  refine Fr_icmp_ne (off := 16) 112 (by decide +kernel) (by decide) (fun hc => ?_) (fun hc => ?_)
  · have h := iF hc h
    exact t_X1_takeTry_b112 hk65 h
  · have h := iT hc h
    refine Fr_aload_n (q := 0) (i := 0) 0 (by decide +kernel) rfl rfl ?_
    refine gf_X1_9 rfl (by decide +kernel) ob_103 ?_
    refine Fr_iload_n (q := 3) (i := 3) 1 (by decide +kernel) rfl rfl ?_
    refine Fr_bipush (i := 6) (v := 6) (by decide +kernel) (by decide) ?_
    refine Fr_imul (by decide +kernel) ?_
    refine Fr_iload (i := 6) 4 (by decide +kernel) rfl ?_
    refine Fr_iadd (by decide +kernel) ?_
    refine Fr_iconst (i := 0) (v := 0) (by decide +kernel) (by decide) ?_
    obtain ⟨hi_3, h⟩ := ck_elim h
    refine Fr_iast (by decide +kernel) ob_104 (vp_of ln_104 hi_3) ?_
    obtain ⟨M_4, eM_4, h⟩ := bM_elim h
    refine Fr_mem eM_4 ?_
    exact t_X1_takeTry_b112 hk65 h
set_option maxRecDepth 20000 in
theorem t_X1_takeTry_b86 {N : Nat} {q : Bool × Mem} {k65 : Int32 × Int32 × Int32 × Int32 → Mem → Option (Bool × Mem)} (hk65 : ∀ (a : Int32 × Int32 × Int32 × Int32) (M : Mem), k65 a M = some q → Fr 0 111 0 m_X1_takeTry 65 [(0, .ref 103), (3, .int a.1), (4, .int a.2.1), (5, .int a.2.2.1), (6, .int a.2.2.2)] [] M (QB q)) {v3 : Int32} {v4 : Int32} {v5 : Int32} {v6 : Int32} {s0 : Int32} {M : Mem} (h : f_X1_takeTry_b86 N k65 v3 v4 v5 v6 s0 M = some q) : Fr 0 111 0 m_X1_takeTry 86 [(0, .ref 103), (3, .int v3), (4, .int v4), (5, .int v5), (6, .int v6)] [.int s0] M (QB q) := by
  unfold f_X1_takeTry_b86 at h
  refine Fr_iload (i := 5) 3 (by decide +kernel) rfl ?_
  refine Fr_if_ne (off := 7) 95 (by decide +kernel) (by decide) (fun hc => ?_) (fun hc => ?_)
  · have h := iF hc h
    refine Fr_iconst (i := 0) (v := 0) (by decide +kernel) (by decide) ?_
    exact t_X1_takeTry_b96 hk65 h
  · have h := iT hc h
    refine Fr_iconst (i := 1) (v := 1) (by decide +kernel) (by decide) ?_
    refine Fr_goto (off := 4) 96 (by decide +kernel) (by decide) ?_
    exact t_X1_takeTry_b96 hk65 h
set_option maxRecDepth 20000 in
theorem t_X1_takeTry_h65 {N : Nat} {q : Bool × Mem} {k65 : Int32 × Int32 × Int32 × Int32 → Mem → Option (Bool × Mem)} (hk65 : ∀ (a : Int32 × Int32 × Int32 × Int32) (M : Mem), k65 a M = some q → Fr 0 111 0 m_X1_takeTry 65 [(0, .ref 103), (3, .int a.1), (4, .int a.2.1), (5, .int a.2.2.1), (6, .int a.2.2.2)] [] M (QB q)) {v3 : Int32} {v4 : Int32} {v5 : Int32} {v6 : Int32} {M : Mem} (h : f_X1_takeTry_h65 N k65 v3 v4 v5 v6 M = some q) : Fr 0 111 0 m_X1_takeTry 65 [(0, .ref 103), (3, .int v3), (4, .int v4), (5, .int v5), (6, .int v6)] [] M (QB q) := by
  unfold f_X1_takeTry_h65 at h
  refine Fr_iload (i := 6) 4 (by decide +kernel) rfl ?_
  refine Fr_aload_n (q := 0) (i := 0) 0 (by decide +kernel) rfl rfl ?_
  refine gf_X1_21 rfl (by decide +kernel) ob_103 ?_
  refine Fr_icmp_ge (off := 47) 118 (by decide +kernel) (by decide) (fun hc => ?_) (fun hc => ?_)
  · have h := iT hc h
    refine Fr_iconst (i := 1) (v := 1) (by decide +kernel) (by decide) ?_
    obtain rfl := Option.some.inj h
    exact Fr_zret (by decide +kernel) rfl (by decide) ⟨rfl, rfl⟩
  · have h := iF hc h
    refine Fr_iload (i := 6) 4 (by decide +kernel) rfl ?_
    refine Fr_iload (i := 4) 2 (by decide +kernel) rfl ?_
    refine Fr_icmp_ne (off := 7) 85 (by decide +kernel) (by decide) (fun hc => ?_) (fun hc => ?_)
    · have h := iF hc h
      refine Fr_iconst (i := 0) (v := 0) (by decide +kernel) (by decide) ?_
      exact t_X1_takeTry_b86 hk65 h
    · have h := iT hc h
      refine Fr_iconst (i := 1) (v := 1) (by decide +kernel) (by decide) ?_
      refine Fr_goto (off := 4) 86 (by decide +kernel) (by decide) ?_
      exact t_X1_takeTry_b86 hk65 h
set_option maxRecDepth 20000 in
theorem t_X1_takeTry {N : Nat} {x1 : Int64} {M : Mem} {q : Bool × Mem} (h : f_X1_takeTry N x1 M = some q) : Ev 0 111 0 m_X1_takeTry [.ref 103, .long x1] M (QB q) := by
  refine Ev_of_Fr (by decide +kernel) (Nat.le_of_ble_eq_true rfl) ?_
  show Fr 0 111 0 m_X1_takeTry 0 [(0, .ref 103), (1, .long x1)] [] M (QB q)
  unfold f_X1_takeTry at h
  refine Fr_lload_n (q := 1) (i := 1) 1 (by decide +kernel) rfl rfl ?_
  refine Fr_lconst (i := 0) (v := 0) (by decide +kernel) (by decide) ?_
  refine Fr_lcmp (by decide +kernel) ?_
  refine Fr_if_lt (off := 17) 20 (by decide +kernel) (by decide) (fun hc => ?_) (fun hc => ?_)
  · have h := iT hc h
    refine Fr_iconst (i := 0) (v := 0) (by decide +kernel) (by decide) ?_
    obtain rfl := Option.some.inj h
    exact Fr_zret (by decide +kernel) rfl (by decide) ⟨rfl, rfl⟩
  · have h := iF hc h
    refine Fr_lload_n (q := 1) (i := 1) 1 (by decide +kernel) rfl rfl ?_
    refine Fr_ldc2 (idx := 38) (v := 100) (by decide +kernel) ll_X1_38 ?_
    refine Fr_aload_n (q := 0) (i := 0) 0 (by decide +kernel) rfl rfl ?_
    refine gf_X1_21 rfl (by decide +kernel) ob_103 ?_
    refine Fr_i2l (by decide +kernel) ?_
    refine Fr_lmul (by decide +kernel) ?_
    refine Fr_lcmp (by decide +kernel) ?_
    refine Fr_if_lt (off := 5) 22 (by decide +kernel) (by decide) (fun hc => ?_) (fun hc => ?_)
    · have h := iT hc h
      refine Fr_lload_n (q := 1) (i := 1) 1 (by decide +kernel) rfl rfl ?_
      refine Fr_l2i (by decide +kernel) ?_
      refine Fr_bipush (i := 100) (v := 100) (by decide +kernel) (by decide) ?_
      refine Fr_idiv (by decide +kernel) (by decide) ?_
      refine Fr_istore_n (q := 3) (i := 3) (lv' := [(3, .int ((Int64.toInt32 x1) / 100)), (0, .ref 103), (1, .long x1)]) (by decide +kernel) rfl (by decide) rfl ?_
      refine Fr_lload_n (q := 1) (i := 1) 2 (by decide +kernel) rfl rfl ?_
      refine Fr_l2i (by decide +kernel) ?_
      refine Fr_bipush (i := 10) (v := 10) (by decide +kernel) (by decide) ?_
      refine Fr_idiv (by decide +kernel) (by decide) ?_
      refine Fr_bipush (i := 10) (v := 10) (by decide +kernel) (by decide) ?_
      refine Fr_irem (by decide +kernel) (by decide) ?_
      obtain ⟨y_1, ey_1, h⟩ := bI_elim h
      refine Fr_topI ey_1 ?_
      refine Fr_istore (i := 4) (lv' := [(4, .int y_1), (3, .int ((Int64.toInt32 x1) / 100)), (0, .ref 103), (1, .long x1)]) (by decide +kernel) (by decide) rfl ?_
      refine Fr_lload_n (q := 1) (i := 1) 3 (by decide +kernel) rfl rfl ?_
      refine Fr_l2i (by decide +kernel) ?_
      refine Fr_bipush (i := 10) (v := 10) (by decide +kernel) (by decide) ?_
      refine Fr_irem (by decide +kernel) (by decide) ?_
      obtain ⟨y_2, ey_2, h⟩ := bI_elim h
      refine Fr_topI ey_2 ?_
      refine Fr_istore (i := 5) (lv' := [(5, .int y_2), (4, .int y_1), (3, .int ((Int64.toInt32 x1) / 100)), (0, .ref 103), (1, .long x1)]) (by decide +kernel) (by decide) rfl ?_
      refine Fr_iload (i := 4) 1 (by decide +kernel) rfl ?_
      refine Fr_aload_n (q := 0) (i := 0) 3 (by decide +kernel) rfl rfl ?_
      refine gf_X1_21 rfl (by decide +kernel) ob_103 ?_
      refine Fr_icmp_ge (off := 9) 60 (by decide +kernel) (by decide) (fun hc => ?_) (fun hc => ?_)
      · have h := iT hc h
        refine Fr_iconst (i := 0) (v := 0) (by decide +kernel) (by decide) ?_
        obtain rfl := Option.some.inj h
        exact Fr_zret (by decide +kernel) rfl (by decide) ⟨rfl, rfl⟩
      · have h := iF hc h
        refine Fr_iload (i := 5) 0 (by decide +kernel) rfl ?_
        refine Fr_iconst (i := 1) (v := 1) (by decide +kernel) (by decide) ?_
        refine Fr_icmp_le (off := 5) 62 (by decide +kernel) (by decide) (fun hc => ?_) (fun hc => ?_)
        · have h := iT hc h
          refine Fr_iconst (i := 0) (v := 0) (by decide +kernel) (by decide) ?_
          refine Fr_istore (i := 6) (lv' := [(6, .int 0), (5, .int y_2), (4, .int y_1), (3, .int ((Int64.toInt32 x1) / 100)), (0, .ref 103), (1, .long x1)]) (by decide +kernel) (by decide) rfl ?_
          refine Fr_loc [4, 3, 2, 1, 0] rfl ?_
          exact lp_sound (body := fun k a m => f_X1_takeTry_h65 N k a.1 a.2.1 a.2.2.1 a.2.2.2 m) (P := fun a M => Fr 0 111 0 m_X1_takeTry 65 [(0, .ref 103), (3, .int a.1), (4, .int a.2.1), (5, .int a.2.2.1), (6, .int a.2.2.2)] [] M (QB q)) (fun k hk a m h => t_X1_takeTry_h65 hk h) N (((Int64.toInt32 x1) / 100), y_1, y_2, 0) M h
        · have h := iF hc h
          refine Fr_iconst (i := 0) (v := 0) (by decide +kernel) (by decide) ?_
          obtain rfl := Option.some.inj h
          exact Fr_zret (by decide +kernel) rfl (by decide) ⟨rfl, rfl⟩
    · have h := iF hc h
      refine Fr_iconst (i := 0) (v := 0) (by decide +kernel) (by decide) ?_
      obtain rfl := Option.some.inj h
      exact Fr_zret (by decide +kernel) rfl (by decide) ⟨rfl, rfl⟩
set_option maxRecDepth 20000 in
theorem t_X1_canFollow {x1 : Int32} {x2 : Int32} {M : Mem} {q : Bool × Mem} (h : f_X1_canFollow x1 x2 M = some q) : Ev 0 111 1 m_X1_canFollow [.ref 103, .int x1, .int x2] M (QB q) := by
  refine Ev_of_Fr (by decide +kernel) (Nat.le_of_ble_eq_true rfl) ?_
  show Fr 0 111 1 m_X1_canFollow 0 [(0, .ref 103), (1, .int x1), (2, .int x2)] [] M (QB q)
  unfold f_X1_canFollow at h
  refine Fr_iload_n (q := 1) (i := 1) 1 (by decide +kernel) rfl rfl ?_
  obtain ⟨r_3, M_1, hc_2, h⟩ := bi_elim h
  refine Fr_cSi (ν := m_J6_bitCount_0f7a4) (As := [.int x1]) (st := []) (d' := 0) (by decide +kernel) ml_X1_47 cs_J6_bitCount_0f7a4 rfl (by decide) (Nat.le_of_ble_eq_true rfl) (t_J6_bitCount_0f7a4 hc_2) ?_
  refine Fr_istore_n (q := 3) (i := 3) (lv' := [(3, .int r_3), (0, .ref 103), (1, .int x1), (2, .int x2)]) (by decide +kernel) rfl (by decide) rfl ?_
  refine Fr_iload_n (q := 3) (i := 3) 0 (by decide +kernel) rfl rfl ?_
  refine Fr_aload_n (q := 0) (i := 0) 1 (by decide +kernel) rfl rfl ?_
  refine gf_X1_21 rfl (by decide +kernel) ob_103 ?_
  refine Fr_icmp_ge (off := 30) 40 (by decide +kernel) (by decide) (fun hc => ?_) (fun hc => ?_)
  · have h := iT hc h
    refine Fr_iconst (i := 0) (v := 0) (by decide +kernel) (by decide) ?_
    obtain rfl := Option.some.inj h
    exact Fr_zret (by decide +kernel) rfl (by decide) ⟨rfl, rfl⟩
  · have h := iF hc h
    refine Fr_iload_n (q := 1) (i := 1) 2 (by decide +kernel) rfl rfl ?_
    refine Fr_iload_n (q := 2) (i := 2) 3 (by decide +kernel) rfl rfl ?_
    refine Fr_ishr (by decide +kernel) ?_
    refine Fr_iconst (i := 1) (v := 1) (by decide +kernel) (by decide) ?_
    refine Fr_iand (by decide +kernel) ?_
    refine Fr_if_ne (off := 22) 40 (by decide +kernel) (by decide) (fun hc => ?_) (fun hc => ?_)
    · have h := iF hc h
      refine Fr_iconst (i := 0) (v := 0) (by decide +kernel) (by decide) ?_
      obtain rfl := Option.some.inj h
      exact Fr_zret (by decide +kernel) rfl (by decide) ⟨rfl, rfl⟩
    · have h := iT hc h
      refine Fr_aload_n (q := 0) (i := 0) 1 (by decide +kernel) rfl rfl ?_
      refine gf_X1_9 rfl (by decide +kernel) ob_103 ?_
      refine Fr_iload_n (q := 3) (i := 3) 0 (by decide +kernel) rfl rfl ?_
      refine Fr_bipush (i := 6) (v := 6) (by decide +kernel) (by decide) ?_
      refine Fr_imul (by decide +kernel) ?_
      refine Fr_iload_n (q := 2) (i := 2) 3 (by decide +kernel) rfl rfl ?_
      refine Fr_iadd (by decide +kernel) ?_
      obtain ⟨hi_4, h⟩ := ck_elim h
      refine Fr_iald (by decide +kernel) ob_104 (vp_of ln_104 hi_4) ?_
      refine Fr_iconst (i := 1) (v := 1) (by decide +kernel) (by decide) ?_
      refine Fr_icmp_ne (off := 7) 40 (by decide +kernel) (by decide) (fun hc => ?_) (fun hc => ?_)
      · have h := iF hc h
        refine Fr_iconst (i := 0) (v := 0) (by decide +kernel) (by decide) ?_
        obtain rfl := Option.some.inj h
        exact Fr_zret (by decide +kernel) rfl (by decide) ⟨rfl, rfl⟩
      · have h := iT hc h
        refine Fr_iconst (i := 1) (v := 1) (by decide +kernel) (by decide) ?_
        refine Fr_goto (off := 4) 41 (by decide +kernel) (by decide) ?_
        obtain rfl := Option.some.inj h
        exact Fr_zret (by decide +kernel) rfl (by decide) ⟨rfl, rfl⟩
set_option maxRecDepth 20000 in
theorem t_X1_countWays_b142 {N : Nat} {q : Mem} {k100 : Int32 × Int32 → Mem → Option (Mem)} (hk100 : ∀ (a : Int32 × Int32) (M : Mem), k100 a M = some q → Fr 0 111 2 m_X1_countWays 100 [(0, .ref 103), (1, .int a.1), (2, .int a.2)] [] M (QV q)) {k106 : Int32 × Int32 × Int32 → Mem → Option (Mem)} (hk106 : ∀ (a : Int32 × Int32 × Int32) (M : Mem), k106 a M = some q → Fr 0 111 2 m_X1_countWays 106 [(0, .ref 103), (1, .int a.1), (2, .int a.2.1), (3, .int a.2.2)] [] M (QV q)) {v1 : Int32} {v2 : Int32} {v3 : Int32} {M : Mem} (h : f_X1_countWays_b142 N k100 k106 v1 v2 v3 M = some q) : Fr 0 111 2 m_X1_countWays 142 [(0, .ref 103), (1, .int v1), (2, .int v2), (3, .int v3)] [] M (QV q) := by
  unfold f_X1_countWays_b142 at h
  refine Fr_iinc (i := 3) (j := 1) (v := (v3 + 1)) (lv' := [(3, .int (v3 + 1)), (0, .ref 103), (1, .int v1), (2, .int v2)]) 3 (by decide +kernel) rfl rfl (by decide) rfl ?_
  refine Fr_goto (off := (-39)) 106 (by decide +kernel) (by decide) ?_
  refine Fr_loc [1, 2, 3, 0] rfl ?_
  exact hk106 (v1, v2, (v3 + 1)) M h
set_option maxRecDepth 20000 in
theorem t_X1_countWays_h106 {N : Nat} {q : Mem} {k100 : Int32 × Int32 → Mem → Option (Mem)} (hk100 : ∀ (a : Int32 × Int32) (M : Mem), k100 a M = some q → Fr 0 111 2 m_X1_countWays 100 [(0, .ref 103), (1, .int a.1), (2, .int a.2)] [] M (QV q)) {k106 : Int32 × Int32 × Int32 → Mem → Option (Mem)} (hk106 : ∀ (a : Int32 × Int32 × Int32) (M : Mem), k106 a M = some q → Fr 0 111 2 m_X1_countWays 106 [(0, .ref 103), (1, .int a.1), (2, .int a.2.1), (3, .int a.2.2)] [] M (QV q)) {v1 : Int32} {v2 : Int32} {v3 : Int32} {M : Mem} (h : f_X1_countWays_h106 N k100 k106 v1 v2 v3 M = some q) : Fr 0 111 2 m_X1_countWays 106 [(0, .ref 103), (1, .int v1), (2, .int v2), (3, .int v3)] [] M (QV q) := by
  unfold f_X1_countWays_h106 at h
  refine Fr_iload_n (q := 3) (i := 3) 3 (by decide +kernel) rfl rfl ?_
  refine Fr_aload_n (q := 0) (i := 0) 0 (by decide +kernel) rfl rfl ?_
  refine gf_X1_21 rfl (by decide +kernel) ob_103 ?_
  refine Fr_icmp_ge (off := 37) 148 (by decide +kernel) (by decide) (fun hc => ?_) (fun hc => ?_)
  · have h := iT hc h
    refine Fr_iinc (i := 2) (j := (-1)) (v := (v2 + (-1))) (lv' := [(2, .int (v2 + (-1))), (0, .ref 103), (1, .int v1), (3, .int v3)]) 2 (by decide +kernel) rfl rfl (by decide) rfl ?_
    refine Fr_goto (off := (-51)) 100 (by decide +kernel) (by decide) ?_
    refine Fr_loc [1, 2, 0] rfl ?_
    exact hk100 (v1, (v2 + (-1))) M h
  · have h := iF hc h
    refine Fr_aload_n (q := 0) (i := 0) 0 (by decide +kernel) rfl rfl ?_
    refine Fr_iload_n (q := 2) (i := 2) 2 (by decide +kernel) rfl rfl ?_
    refine Fr_iload_n (q := 3) (i := 3) 3 (by decide +kernel) rfl rfl ?_
    obtain ⟨r_14, M_12, hc_13, h⟩ := bi_elim h
    refine Fr_cVb (ν := m_X1_canFollow) (As := [.int v2, .int v3]) (st := []) (rc := 103) (ci := 1) (d' := 1) (by decide +kernel) ml_X1_40 cv_X1_canFollow rfl (by decide) rfl ob_103 rfl (by decide) (Nat.le_of_ble_eq_true rfl) (t_X1_canFollow hc_13) ?_
    refine Fr_if_eq (off := 22) 142 (by decide +kernel) (by decide) (fun hc => ?_) (fun hc => ?_)
    · have h := iT hc h
      exact t_X1_countWays_b142 hk100 hk106 h
    · have h := iF hc h
      refine Fr_aload_n (q := 0) (i := 0) 0 (by decide +kernel) rfl rfl ?_
      refine gf_X1_18 rfl (by decide +kernel) ob_103 ?_
      refine Fr_iload_n (q := 2) (i := 2) 2 (by decide +kernel) rfl rfl ?_
      refine Fr_dup2 (by decide +kernel) rfl rfl ?_
      obtain ⟨hi_15, h⟩ := ck_elim h
      refine Fr_iald (by decide +kernel) ob_106 (vp_of ln_106 hi_15) ?_
      refine Fr_aload_n (q := 0) (i := 0) 0 (by decide +kernel) rfl rfl ?_
      refine gf_X1_18 rfl (by decide +kernel) ob_103 ?_
      refine Fr_iload_n (q := 2) (i := 2) 2 (by decide +kernel) rfl rfl ?_
      refine Fr_iconst (i := 1) (v := 1) (by decide +kernel) (by decide) ?_
      refine Fr_iload_n (q := 3) (i := 3) 3 (by decide +kernel) rfl rfl ?_
      refine Fr_ishl (by decide +kernel) ?_
      refine Fr_ior (by decide +kernel) ?_
      obtain ⟨hi_16, h⟩ := ck_elim h
      refine Fr_iald (by decide +kernel) ob_106 (vp_of ln_106 hi_16) ?_
      refine Fr_iadd (by decide +kernel) ?_
      obtain ⟨hi_17, h⟩ := ck_elim h
      refine Fr_iast (by decide +kernel) ob_106 (vp_of ln_106 hi_17) ?_
      obtain ⟨M_18, eM_18, h⟩ := bM_elim h
      refine Fr_mem eM_18 ?_
      exact t_X1_countWays_b142 hk100 hk106 h
set_option maxRecDepth 20000 in
theorem t_X1_countWays_h100 {N : Nat} {q : Mem} {k100 : Int32 × Int32 → Mem → Option (Mem)} (hk100 : ∀ (a : Int32 × Int32) (M : Mem), k100 a M = some q → Fr 0 111 2 m_X1_countWays 100 [(0, .ref 103), (1, .int a.1), (2, .int a.2)] [] M (QV q)) {v1 : Int32} {v2 : Int32} {M : Mem} (h : f_X1_countWays_h100 N k100 v1 v2 M = some q) : Fr 0 111 2 m_X1_countWays 100 [(0, .ref 103), (1, .int v1), (2, .int v2)] [] M (QV q) := by
  unfold f_X1_countWays_h100 at h
  refine Fr_iload_n (q := 2) (i := 2) 2 (by decide +kernel) rfl rfl ?_
  refine Fr_if_lt (off := 53) 154 (by decide +kernel) (by decide) (fun hc => ?_) (fun hc => ?_)
  · have h := iT hc h
    refine Fr_aload_n (q := 0) (i := 0) 0 (by decide +kernel) rfl rfl ?_
    refine Fr_aload_n (q := 0) (i := 0) 0 (by decide +kernel) rfl rfl ?_
    refine gf_X1_15 rfl (by decide +kernel) ob_103 ?_
    refine Fr_iload_n (q := 1) (i := 1) 1 (by decide +kernel) rfl rfl ?_
    obtain ⟨hi_10, h⟩ := ck_elim h
    refine Fr_iald (by decide +kernel) ob_105 (vp_of ln_105 hi_10) ?_
    refine pf_X1_44 rfl (by decide +kernel) ob_103 ?_
    obtain ⟨M_11, eM_11, h⟩ := bM_elim h
    refine Fr_mem eM_11 ?_
    obtain rfl := Option.some.inj h
    exact Fr_vret (by decide +kernel) rfl ⟨rfl, rfl⟩
  · have h := iF hc h
    refine Fr_iconst (i := 0) (v := 0) (by decide +kernel) (by decide) ?_
    refine Fr_istore_n (q := 3) (i := 3) (lv' := [(3, .int 0), (0, .ref 103), (1, .int v1), (2, .int v2)]) (by decide +kernel) rfl (by decide) rfl ?_
    refine Fr_loc [1, 2, 3, 0] rfl ?_
    exact lp_sound (body := fun k a m => f_X1_countWays_h106 N k100 k a.1 a.2.1 a.2.2 m) (P := fun a M => Fr 0 111 2 m_X1_countWays 106 [(0, .ref 103), (1, .int a.1), (2, .int a.2.1), (3, .int a.2.2)] [] M (QV q)) (fun k hk a m h => t_X1_countWays_h106 hk100 hk h) N (v1, v2, 0) M h
set_option maxRecDepth 20000 in
theorem t_X1_countWays_b84 {N : Nat} {q : Mem} {k41 : Int32 × Int32 → Mem → Option (Mem)} (hk41 : ∀ (a : Int32 × Int32) (M : Mem), k41 a M = some q → Fr 0 111 2 m_X1_countWays 41 [(0, .ref 103), (1, .int a.1), (2, .int a.2)] [] M (QV q)) {k48 : Int32 × Int32 × Int32 → Mem → Option (Mem)} (hk48 : ∀ (a : Int32 × Int32 × Int32) (M : Mem), k48 a M = some q → Fr 0 111 2 m_X1_countWays 48 [(0, .ref 103), (1, .int a.1), (2, .int a.2.1), (3, .int a.2.2)] [] M (QV q)) {v1 : Int32} {v2 : Int32} {v3 : Int32} {M : Mem} (h : f_X1_countWays_b84 N k41 k48 v1 v2 v3 M = some q) : Fr 0 111 2 m_X1_countWays 84 [(0, .ref 103), (1, .int v1), (2, .int v2), (3, .int v3)] [] M (QV q) := by
  unfold f_X1_countWays_b84 at h
  refine Fr_iinc (i := 3) (j := 1) (v := (v3 + 1)) (lv' := [(3, .int (v3 + 1)), (0, .ref 103), (1, .int v1), (2, .int v2)]) 3 (by decide +kernel) rfl rfl (by decide) rfl ?_
  refine Fr_goto (off := (-39)) 48 (by decide +kernel) (by decide) ?_
  refine Fr_loc [1, 2, 3, 0] rfl ?_
  exact hk48 (v1, v2, (v3 + 1)) M h
set_option maxRecDepth 20000 in
theorem t_X1_countWays_h48 {N : Nat} {q : Mem} {k41 : Int32 × Int32 → Mem → Option (Mem)} (hk41 : ∀ (a : Int32 × Int32) (M : Mem), k41 a M = some q → Fr 0 111 2 m_X1_countWays 41 [(0, .ref 103), (1, .int a.1), (2, .int a.2)] [] M (QV q)) {k48 : Int32 × Int32 × Int32 → Mem → Option (Mem)} (hk48 : ∀ (a : Int32 × Int32 × Int32) (M : Mem), k48 a M = some q → Fr 0 111 2 m_X1_countWays 48 [(0, .ref 103), (1, .int a.1), (2, .int a.2.1), (3, .int a.2.2)] [] M (QV q)) {v1 : Int32} {v2 : Int32} {v3 : Int32} {M : Mem} (h : f_X1_countWays_h48 N k41 k48 v1 v2 v3 M = some q) : Fr 0 111 2 m_X1_countWays 48 [(0, .ref 103), (1, .int v1), (2, .int v2), (3, .int v3)] [] M (QV q) := by
  unfold f_X1_countWays_h48 at h
  refine Fr_iload_n (q := 3) (i := 3) 3 (by decide +kernel) rfl rfl ?_
  refine Fr_aload_n (q := 0) (i := 0) 0 (by decide +kernel) rfl rfl ?_
  refine gf_X1_21 rfl (by decide +kernel) ob_103 ?_
  refine Fr_icmp_ge (off := 37) 90 (by decide +kernel) (by decide) (fun hc => ?_) (fun hc => ?_)
  · have h := iT hc h
    refine Fr_iinc (i := 2) (j := 1) (v := (v2 + 1)) (lv' := [(2, .int (v2 + 1)), (0, .ref 103), (1, .int v1), (3, .int v3)]) 2 (by decide +kernel) rfl rfl (by decide) rfl ?_
    refine Fr_goto (off := (-52)) 41 (by decide +kernel) (by decide) ?_
    refine Fr_loc [1, 2, 0] rfl ?_
    exact hk41 (v1, (v2 + 1)) M h
  · have h := iF hc h
    refine Fr_aload_n (q := 0) (i := 0) 0 (by decide +kernel) rfl rfl ?_
    refine Fr_iload_n (q := 2) (i := 2) 2 (by decide +kernel) rfl rfl ?_
    refine Fr_iload_n (q := 3) (i := 3) 3 (by decide +kernel) rfl rfl ?_
    obtain ⟨r_21, M_19, hc_20, h⟩ := bi_elim h
    refine Fr_cVb (ν := m_X1_canFollow) (As := [.int v2, .int v3]) (st := []) (rc := 103) (ci := 1) (d' := 1) (by decide +kernel) ml_X1_40 cv_X1_canFollow rfl (by decide) rfl ob_103 rfl (by decide) (Nat.le_of_ble_eq_true rfl) (t_X1_canFollow hc_20) ?_
    refine Fr_if_eq (off := 22) 84 (by decide +kernel) (by decide) (fun hc => ?_) (fun hc => ?_)
    · have h := iT hc h
      exact t_X1_countWays_b84 hk41 hk48 h
    · have h := iF hc h
      refine Fr_aload_n (q := 0) (i := 0) 0 (by decide +kernel) rfl rfl ?_
      refine gf_X1_15 rfl (by decide +kernel) ob_103 ?_
      refine Fr_iload_n (q := 2) (i := 2) 2 (by decide +kernel) rfl rfl ?_
      refine Fr_iconst (i := 1) (v := 1) (by decide +kernel) (by decide) ?_
      refine Fr_iload_n (q := 3) (i := 3) 3 (by decide +kernel) rfl rfl ?_
      refine Fr_ishl (by decide +kernel) ?_
      refine Fr_ior (by decide +kernel) ?_
      refine Fr_dup2 (by decide +kernel) rfl rfl ?_
      obtain ⟨hi_22, h⟩ := ck_elim h
      refine Fr_iald (by decide +kernel) ob_105 (vp_of ln_105 hi_22) ?_
      refine Fr_aload_n (q := 0) (i := 0) 0 (by decide +kernel) rfl rfl ?_
      refine gf_X1_15 rfl (by decide +kernel) ob_103 ?_
      refine Fr_iload_n (q := 2) (i := 2) 2 (by decide +kernel) rfl rfl ?_
      obtain ⟨hi_23, h⟩ := ck_elim h
      refine Fr_iald (by decide +kernel) ob_105 (vp_of ln_105 hi_23) ?_
      refine Fr_iadd (by decide +kernel) ?_
      obtain ⟨hi_24, h⟩ := ck_elim h
      refine Fr_iast (by decide +kernel) ob_105 (vp_of ln_105 hi_24) ?_
      obtain ⟨M_25, eM_25, h⟩ := bM_elim h
      refine Fr_mem eM_25 ?_
      exact t_X1_countWays_b84 hk41 hk48 h
set_option maxRecDepth 20000 in
theorem t_X1_countWays_h41 {N : Nat} {q : Mem} {k41 : Int32 × Int32 → Mem → Option (Mem)} (hk41 : ∀ (a : Int32 × Int32) (M : Mem), k41 a M = some q → Fr 0 111 2 m_X1_countWays 41 [(0, .ref 103), (1, .int a.1), (2, .int a.2)] [] M (QV q)) {v1 : Int32} {v2 : Int32} {M : Mem} (h : f_X1_countWays_h41 N k41 v1 v2 M = some q) : Fr 0 111 2 m_X1_countWays 41 [(0, .ref 103), (1, .int v1), (2, .int v2)] [] M (QV q) := by
  unfold f_X1_countWays_h41 at h
  refine Fr_iload_n (q := 2) (i := 2) 2 (by decide +kernel) rfl rfl ?_
  refine Fr_iload_n (q := 1) (i := 1) 1 (by decide +kernel) rfl rfl ?_
  refine Fr_icmp_ge (off := 53) 96 (by decide +kernel) (by decide) (fun hc => ?_) (fun hc => ?_)
  · have h := iT hc h
    refine Fr_iload_n (q := 1) (i := 1) 1 (by decide +kernel) rfl rfl ?_
    refine Fr_iconst (i := 1) (v := 1) (by decide +kernel) (by decide) ?_
    refine Fr_isub (by decide +kernel) ?_
    refine Fr_istore_n (q := 2) (i := 2) (lv' := [(2, .int (v1 - 1)), (0, .ref 103), (1, .int v1)]) (by decide +kernel) rfl (by decide) rfl ?_
    refine Fr_loc [1, 2, 0] rfl ?_
    exact lp_sound (body := fun k a m => f_X1_countWays_h100 N k a.1 a.2 m) (P := fun a M => Fr 0 111 2 m_X1_countWays 100 [(0, .ref 103), (1, .int a.1), (2, .int a.2)] [] M (QV q)) (fun k hk a m h => t_X1_countWays_h100 hk h) N (v1, (v1 - 1)) M h
  · have h := iF hc h
    refine Fr_iconst (i := 0) (v := 0) (by decide +kernel) (by decide) ?_
    refine Fr_istore_n (q := 3) (i := 3) (lv' := [(3, .int 0), (0, .ref 103), (1, .int v1), (2, .int v2)]) (by decide +kernel) rfl (by decide) rfl ?_
    refine Fr_loc [1, 2, 3, 0] rfl ?_
    exact lp_sound (body := fun k a m => f_X1_countWays_h48 N k41 k a.1 a.2.1 a.2.2 m) (P := fun a M => Fr 0 111 2 m_X1_countWays 48 [(0, .ref 103), (1, .int a.1), (2, .int a.2.1), (3, .int a.2.2)] [] M (QV q)) (fun k hk a m h => t_X1_countWays_h48 hk41 hk h) N (v1, v2, 0) M h
set_option maxRecDepth 20000 in
theorem t_X1_countWays {N : Nat} {M : Mem} {q : Mem} (h : f_X1_countWays N M = some q) : Ev 0 111 2 m_X1_countWays [.ref 103] M (QV q) := by
  refine Ev_of_Fr (by decide +kernel) (Nat.le_of_ble_eq_true rfl) ?_
  show Fr 0 111 2 m_X1_countWays 0 [(0, .ref 103)] [] M (QV q)
  unfold f_X1_countWays at h
  refine Fr_iconst (i := 1) (v := 1) (by decide +kernel) (by decide) ?_
  refine Fr_aload_n (q := 0) (i := 0) 0 (by decide +kernel) rfl rfl ?_
  refine gf_X1_21 rfl (by decide +kernel) ob_103 ?_
  refine Fr_ishl (by decide +kernel) ?_
  refine Fr_iconst (i := 1) (v := 1) (by decide +kernel) (by decide) ?_
  refine Fr_isub (by decide +kernel) ?_
  obtain ⟨y_1, ey_1, h⟩ := bI_elim h
  refine Fr_topI ey_1 ?_
  refine Fr_istore_n (q := 1) (i := 1) (lv' := [(1, .int y_1), (0, .ref 103)]) (by decide +kernel) rfl (by decide) rfl ?_
  refine Fr_aload_n (q := 0) (i := 0) 1 (by decide +kernel) rfl rfl ?_
  refine gf_X1_15 rfl (by decide +kernel) ob_103 ?_
  refine Fr_iconst (i := 0) (v := 0) (by decide +kernel) (by decide) ?_
  obtain ⟨M_2, hc_3, h⟩ := bv_elim h
  refine Fr_cSv (ν := m_J7_fill_53178) (As := [.ref 105, .int 0]) (st := []) (d' := 0) (by decide +kernel) ml_X1_25 cs_J7_fill_53178 rfl (by decide) (Nat.le_of_ble_eq_true rfl) (t_J7_fill_53178 ob_105 hc_3) ?_
  refine Fr_aload_n (q := 0) (i := 0) 1 (by decide +kernel) rfl rfl ?_
  refine gf_X1_18 rfl (by decide +kernel) ob_103 ?_
  refine Fr_iconst (i := 0) (v := 0) (by decide +kernel) (by decide) ?_
  obtain ⟨M_4, hc_5, h⟩ := bv_elim h
  refine Fr_cSv (ν := m_J7_fill_53178) (As := [.ref 106, .int 0]) (st := []) (d' := 0) (by decide +kernel) ml_X1_25 cs_J7_fill_53178 rfl (by decide) (Nat.le_of_ble_eq_true rfl) (t_J7_fill_53178 ob_106 hc_5) ?_
  refine Fr_aload_n (q := 0) (i := 0) 1 (by decide +kernel) rfl rfl ?_
  refine gf_X1_15 rfl (by decide +kernel) ob_103 ?_
  refine Fr_iconst (i := 0) (v := 0) (by decide +kernel) (by decide) ?_
  refine Fr_iconst (i := 1) (v := 1) (by decide +kernel) (by decide) ?_
  obtain ⟨hi_6, h⟩ := ck_elim h
  refine Fr_iast (by decide +kernel) ob_105 (vp_of ln_105 hi_6) ?_
  obtain ⟨M_7, eM_7, h⟩ := bM_elim h
  refine Fr_mem eM_7 ?_
  refine Fr_aload_n (q := 0) (i := 0) 1 (by decide +kernel) rfl rfl ?_
  refine gf_X1_18 rfl (by decide +kernel) ob_103 ?_
  refine Fr_iload_n (q := 1) (i := 1) 0 (by decide +kernel) rfl rfl ?_
  refine Fr_iconst (i := 1) (v := 1) (by decide +kernel) (by decide) ?_
  obtain ⟨hi_8, h⟩ := ck_elim h
  refine Fr_iast (by decide +kernel) ob_106 (vp_of ln_106 hi_8) ?_
  obtain ⟨M_9, eM_9, h⟩ := bM_elim h
  refine Fr_mem eM_9 ?_
  refine Fr_iconst (i := 0) (v := 0) (by decide +kernel) (by decide) ?_
  refine Fr_istore_n (q := 2) (i := 2) (lv' := [(2, .int 0), (1, .int y_1), (0, .ref 103)]) (by decide +kernel) rfl (by decide) rfl ?_
  refine Fr_loc [2, 1, 0] rfl ?_
  exact lp_sound (body := fun k a m => f_X1_countWays_h41 N k a.1 a.2 m) (P := fun a M => Fr 0 111 2 m_X1_countWays 41 [(0, .ref 103), (1, .int a.1), (2, .int a.2)] [] M (QV q)) (fun k hk a m h => t_X1_countWays_h41 hk h) N (y_1, 0) M_9 h
set_option maxRecDepth 20000 in
theorem t_X1_take_h16 {N : Nat} {p1 : Nat} (hp1 : Ob 0 111 p1 21) {q : Bool × Mem} {k16 : Int32 × Int32 → Mem → Option (Bool × Mem)} (hk16 : ∀ (a : Int32 × Int32) (M : Mem), k16 a M = some q → Fr 0 111 3 m_X1_take 16 [(0, .ref 103), (1, .ref p1), (2, .int a.1), (4, .int a.2)] [] M (QB q)) {v2 : Int32} {v4 : Int32} {M : Mem} (h : f_X1_take_h16 N p1 k16 v2 v4 M = some q) : Fr 0 111 3 m_X1_take 16 [(0, .ref 103), (1, .ref p1), (2, .int v2), (4, .int v4)] [] M (QB q) := by
  unfold f_X1_take_h16 at h
  refine Fr_iload (i := 4) 3 (by decide +kernel) rfl ?_
  refine Fr_iload_n (q := 2) (i := 2) 2 (by decide +kernel) rfl rfl ?_
  refine Fr_icmp_ge (off := 29) 48 (by decide +kernel) (by decide) (fun hc => ?_) (fun hc => ?_)
  · have h := iT hc h
    refine Fr_aload_n (q := 0) (i := 0) 0 (by decide +kernel) rfl rfl ?_
    obtain ⟨M_4, hc_5, h⟩ := bv_elim h
    refine Fr_cVv (ν := m_X1_countWays) (As := []) (st := []) (rc := 103) (ci := 1) (d' := 2) (by decide +kernel) ml_X1_35 cv_X1_countWays rfl (by decide) rfl ob_103 rfl (by decide) (Nat.le_of_ble_eq_true rfl) (t_X1_countWays hc_5) ?_
    refine Fr_iconst (i := 1) (v := 1) (by decide +kernel) (by decide) ?_
    obtain rfl := Option.some.inj h
    exact Fr_zret (by decide +kernel) rfl (by decide) ⟨rfl, rfl⟩
  · have h := iF hc h
    refine Fr_iload (i := 4) 3 (by decide +kernel) rfl ?_
    refine Fr_aload_n (q := 1) (i := 1) 1 (by decide +kernel) rfl rfl ?_
    refine Fr_alen (by decide +kernel) hp1 (by decide) rfl ?_
    refine Fr_icmp_ge (off := 22) 48 (by decide +kernel) (by decide) (fun hc => ?_) (fun hc => ?_)
    · have h := iT hc h
      refine Fr_aload_n (q := 0) (i := 0) 0 (by decide +kernel) rfl rfl ?_
      obtain ⟨M_6, hc_7, h⟩ := bv_elim h
      refine Fr_cVv (ν := m_X1_countWays) (As := []) (st := []) (rc := 103) (ci := 1) (d' := 2) (by decide +kernel) ml_X1_35 cv_X1_countWays rfl (by decide) rfl ob_103 rfl (by decide) (Nat.le_of_ble_eq_true rfl) (t_X1_countWays hc_7) ?_
      refine Fr_iconst (i := 1) (v := 1) (by decide +kernel) (by decide) ?_
      obtain rfl := Option.some.inj h
      exact Fr_zret (by decide +kernel) rfl (by decide) ⟨rfl, rfl⟩
    · have h := iF hc h
      refine Fr_aload_n (q := 0) (i := 0) 0 (by decide +kernel) rfl rfl ?_
      refine Fr_aload_n (q := 1) (i := 1) 1 (by decide +kernel) rfl rfl ?_
      refine Fr_iload (i := 4) 3 (by decide +kernel) rfl ?_
      obtain ⟨hi_8, h⟩ := ck_elim h
      refine Fr_lald (by decide +kernel) hp1 (vp_of rfl hi_8) ?_
      obtain ⟨r_11, M_9, hc_10, h⟩ := bi_elim h
      refine Fr_cVb (ν := m_X1_takeTry) (As := [.long (M.2 p1 (tn v4))]) (st := []) (rc := 103) (ci := 1) (d' := 0) (by decide +kernel) ml_X1_31 cv_X1_takeTry rfl (by decide) rfl ob_103 rfl (by decide) (Nat.le_of_ble_eq_true rfl) (t_X1_takeTry hc_10) ?_
      refine Fr_if_ne (off := 5) 42 (by decide +kernel) (by decide) (fun hc => ?_) (fun hc => ?_)
      · have h := iF hc h
        refine Fr_iinc (i := 4) (j := 1) (v := (v4 + 1)) (lv' := [(4, .int (v4 + 1)), (0, .ref 103), (1, .ref p1), (2, .int v2)]) 3 (by decide +kernel) rfl rfl (by decide) rfl ?_
        refine Fr_goto (off := (-29)) 16 (by decide +kernel) (by decide) ?_
        refine Fr_loc [1, 2, 3, 0] rfl ?_
        exact hk16 (v2, (v4 + 1)) M_9 h
      · have h := iT hc h
        refine Fr_iconst (i := 0) (v := 0) (by decide +kernel) (by decide) ?_
        obtain rfl := Option.some.inj h
        exact Fr_zret (by decide +kernel) rfl (by decide) ⟨rfl, rfl⟩
set_option maxRecDepth 20000 in
theorem t_X1_take {N : Nat} {p1 : Nat} {x2 : Int32} {x3 : Int32} (hp1 : Ob 0 111 p1 21) {M : Mem} {q : Bool × Mem} (h : f_X1_take N p1 x2 x3 M = some q) : Ev 0 111 3 m_X1_take [.ref 103, .ref p1, .int x2, .int x3] M (QB q) := by
  refine Ev_of_Fr (by decide +kernel) (Nat.le_of_ble_eq_true rfl) ?_
  show Fr 0 111 3 m_X1_take 0 [(0, .ref 103), (1, .ref p1), (2, .int x2), (3, .int x3)] [] M (QB q)
  unfold f_X1_take at h
  refine Fr_aload_n (q := 0) (i := 0) 0 (by decide +kernel) rfl rfl ?_
  refine Fr_iload_n (q := 3) (i := 3) 3 (by decide +kernel) rfl rfl ?_
  refine pf_X1_21 rfl (by decide +kernel) ob_103 ?_
  obtain ⟨M_1, eM_1, h⟩ := bM_elim h
  refine Fr_mem eM_1 ?_
  refine Fr_aload_n (q := 0) (i := 0) 0 (by decide +kernel) rfl rfl ?_
  refine gf_X1_9 rfl (by decide +kernel) ob_103 ?_
  refine Fr_iconst (i := 1) (v := 1) (by decide +kernel) (by decide) ?_
  obtain ⟨M_2, hc_3, h⟩ := bv_elim h
  refine Fr_cSv (ν := m_J7_fill_53178) (As := [.ref 104, .int 1]) (st := []) (d' := 0) (by decide +kernel) ml_X1_25 cs_J7_fill_53178 rfl (by decide) (Nat.le_of_ble_eq_true rfl) (t_J7_fill_53178 ob_104 hc_3) ?_
  refine Fr_iconst (i := 0) (v := 0) (by decide +kernel) (by decide) ?_
  refine Fr_istore (i := 4) (lv' := [(4, .int 0), (0, .ref 103), (1, .ref p1), (2, .int x2), (3, .int x3)]) (by decide +kernel) (by decide) rfl ?_
  refine Fr_loc [1, 2, 3, 0] rfl ?_
  exact lp_sound (body := fun k a m => f_X1_take_h16 N p1 k a.1 a.2 m) (P := fun a M => Fr 0 111 3 m_X1_take 16 [(0, .ref 103), (1, .ref p1), (2, .int a.1), (4, .int a.2)] [] M (QB q)) (fun k hk a m h => t_X1_take_h16 hp1 hk h) N (x2, 0) M_2 h
set_option maxRecDepth 20000 in
theorem t_X1_waysWith_b61 {N : Nat} {q : Int32 × Mem} {k13 : Int32 × Int32 × Int32 × Int32 × Int32 → Mem → Option (Int32 × Mem)} (hk13 : ∀ (a : Int32 × Int32 × Int32 × Int32 × Int32) (M : Mem), k13 a M = some q → Fr 0 111 2 m_X1_waysWith 13 [(0, .ref 103), (1, .int a.1), (2, .int a.2.1), (3, .int a.2.2.1), (4, .int a.2.2.2.1), (5, .int a.2.2.2.2)] [] M (QI q)) {v1 : Int32} {v2 : Int32} {v3 : Int32} {v4 : Int32} {v5 : Int32} {M : Mem} (h : f_X1_waysWith_b61 N k13 v1 v2 v3 v4 v5 M = some q) : Fr 0 111 2 m_X1_waysWith 61 [(0, .ref 103), (1, .int v1), (2, .int v2), (3, .int v3), (4, .int v4), (5, .int v5)] [] M (QI q) := by
  unfold f_X1_waysWith_b61 at h
  refine Fr_iinc (i := 5) (j := 1) (v := (v5 + 1)) (lv' := [(5, .int (v5 + 1)), (0, .ref 103), (1, .int v1), (2, .int v2), (3, .int v3), (4, .int v4)]) 5 (by decide +kernel) rfl rfl (by decide) rfl ?_
  refine Fr_goto (off := (-51)) 13 (by decide +kernel) (by decide) ?_
  refine Fr_loc [1, 2, 3, 4, 5, 0] rfl ?_
  exact hk13 (v1, v2, v3, v4, (v5 + 1)) M h
set_option maxRecDepth 20000 in
theorem t_X1_waysWith_h13 {N : Nat} {q : Int32 × Mem} {k13 : Int32 × Int32 × Int32 × Int32 × Int32 → Mem → Option (Int32 × Mem)} (hk13 : ∀ (a : Int32 × Int32 × Int32 × Int32 × Int32) (M : Mem), k13 a M = some q → Fr 0 111 2 m_X1_waysWith 13 [(0, .ref 103), (1, .int a.1), (2, .int a.2.1), (3, .int a.2.2.1), (4, .int a.2.2.2.1), (5, .int a.2.2.2.2)] [] M (QI q)) {v1 : Int32} {v2 : Int32} {v3 : Int32} {v4 : Int32} {v5 : Int32} {M : Mem} (h : f_X1_waysWith_h13 N k13 v1 v2 v3 v4 v5 M = some q) : Fr 0 111 2 m_X1_waysWith 13 [(0, .ref 103), (1, .int v1), (2, .int v2), (3, .int v3), (4, .int v4), (5, .int v5)] [] M (QI q) := by
  unfold f_X1_waysWith_h13 at h
  refine Fr_iload (i := 5) 5 (by decide +kernel) rfl ?_
  refine Fr_iload (i := 4) 4 (by decide +kernel) rfl ?_
  refine Fr_icmp_ge (off := 50) 67 (by decide +kernel) (by decide) (fun hc => ?_) (fun hc => ?_)
  · have h := iT hc h
    refine Fr_iload_n (q := 3) (i := 3) 3 (by decide +kernel) rfl rfl ?_
    obtain rfl := Option.some.inj h
    exact Fr_iret (by decide +kernel) rfl ⟨rfl, rfl⟩
  · have h := iF hc h
    refine Fr_iload (i := 5) 5 (by decide +kernel) rfl ?_
    obtain ⟨r_4, M_2, hc_3, h⟩ := bi_elim h
    refine Fr_cSi (ν := m_J6_bitCount_0f7a4) (As := [.int v5]) (st := []) (d' := 0) (by decide +kernel) ml_X1_47 cs_J6_bitCount_0f7a4 rfl (by decide) (Nat.le_of_ble_eq_true rfl) (t_J6_bitCount_0f7a4 hc_3) ?_
    refine Fr_iload_n (q := 1) (i := 1) 1 (by decide +kernel) rfl rfl ?_
    refine Fr_icmp_ne (off := 35) 61 (by decide +kernel) (by decide) (fun hc => ?_) (fun hc => ?_)
    · have h := iF hc h
      exact t_X1_waysWith_b61 hk13 h
    · have h := iT hc h
      refine Fr_aload_n (q := 0) (i := 0) 0 (by decide +kernel) rfl rfl ?_
      refine Fr_iload (i := 5) 5 (by decide +kernel) rfl ?_
      refine Fr_iload_n (q := 2) (i := 2) 2 (by decide +kernel) rfl rfl ?_
      obtain ⟨r_7, M_5, hc_6, h⟩ := bi_elim h
      refine Fr_cVb (ν := m_X1_canFollow) (As := [.int v5, .int v2]) (st := []) (rc := 103) (ci := 1) (d' := 1) (by decide +kernel) ml_X1_40 cv_X1_canFollow rfl (by decide) rfl ob_103 rfl (by decide) (Nat.le_of_ble_eq_true rfl) (t_X1_canFollow hc_6) ?_
      refine Fr_if_eq (off := 25) 61 (by decide +kernel) (by decide) (fun hc => ?_) (fun hc => ?_)
      · have h := iT hc h
        exact t_X1_waysWith_b61 hk13 h
      · have h := iF hc h
        refine Fr_iload_n (q := 3) (i := 3) 3 (by decide +kernel) rfl rfl ?_
        refine Fr_aload_n (q := 0) (i := 0) 0 (by decide +kernel) rfl rfl ?_
        refine gf_X1_15 rfl (by decide +kernel) ob_103 ?_
        refine Fr_iload (i := 5) 5 (by decide +kernel) rfl ?_
        obtain ⟨hi_8, h⟩ := ck_elim h
        refine Fr_iald (by decide +kernel) ob_105 (vp_of ln_105 hi_8) ?_
        refine Fr_aload_n (q := 0) (i := 0) 0 (by decide +kernel) rfl rfl ?_
        refine gf_X1_18 rfl (by decide +kernel) ob_103 ?_
        refine Fr_iload (i := 5) 5 (by decide +kernel) rfl ?_
        refine Fr_iconst (i := 1) (v := 1) (by decide +kernel) (by decide) ?_
        refine Fr_iload_n (q := 2) (i := 2) 2 (by decide +kernel) rfl rfl ?_
        refine Fr_ishl (by decide +kernel) ?_
        refine Fr_ior (by decide +kernel) ?_
        obtain ⟨hi_9, h⟩ := ck_elim h
        refine Fr_iald (by decide +kernel) ob_106 (vp_of ln_106 hi_9) ?_
        refine Fr_imul (by decide +kernel) ?_
        refine Fr_iadd (by decide +kernel) ?_
        obtain ⟨y_10, ey_10, h⟩ := bI_elim h
        refine Fr_topI ey_10 ?_
        refine Fr_istore_n (q := 3) (i := 3) (lv' := [(3, .int y_10), (0, .ref 103), (1, .int v1), (2, .int v2), (4, .int v4), (5, .int v5)]) (by decide +kernel) rfl (by decide) rfl ?_
        refine Fr_loc [1, 2, 3, 0, 4, 5] rfl ?_
        exact t_X1_waysWith_b61 hk13 h
set_option maxRecDepth 20000 in
theorem t_X1_waysWith {N : Nat} {x1 : Int32} {x2 : Int32} {M : Mem} {q : Int32 × Mem} (h : f_X1_waysWith N x1 x2 M = some q) : Ev 0 111 2 m_X1_waysWith [.ref 103, .int x1, .int x2] M (QI q) := by
  refine Ev_of_Fr (by decide +kernel) (Nat.le_of_ble_eq_true rfl) ?_
  show Fr 0 111 2 m_X1_waysWith 0 [(0, .ref 103), (1, .int x1), (2, .int x2)] [] M (QI q)
  unfold f_X1_waysWith at h
  refine Fr_iconst (i := 0) (v := 0) (by decide +kernel) (by decide) ?_
  refine Fr_istore_n (q := 3) (i := 3) (lv' := [(3, .int 0), (0, .ref 103), (1, .int x1), (2, .int x2)]) (by decide +kernel) rfl (by decide) rfl ?_
  refine Fr_iconst (i := 1) (v := 1) (by decide +kernel) (by decide) ?_
  refine Fr_aload_n (q := 0) (i := 0) 1 (by decide +kernel) rfl rfl ?_
  refine gf_X1_21 rfl (by decide +kernel) ob_103 ?_
  refine Fr_ishl (by decide +kernel) ?_
  obtain ⟨y_1, ey_1, h⟩ := bI_elim h
  refine Fr_topI ey_1 ?_
  refine Fr_istore (i := 4) (lv' := [(4, .int y_1), (3, .int 0), (0, .ref 103), (1, .int x1), (2, .int x2)]) (by decide +kernel) (by decide) rfl ?_
  refine Fr_iconst (i := 0) (v := 0) (by decide +kernel) (by decide) ?_
  refine Fr_istore (i := 5) (lv' := [(5, .int 0), (4, .int y_1), (3, .int 0), (0, .ref 103), (1, .int x1), (2, .int x2)]) (by decide +kernel) (by decide) rfl ?_
  refine Fr_loc [3, 4, 5, 2, 1, 0] rfl ?_
  exact lp_sound (body := fun k a m => f_X1_waysWith_h13 N k a.1 a.2.1 a.2.2.1 a.2.2.2.1 a.2.2.2.2 m) (P := fun a M => Fr 0 111 2 m_X1_waysWith 13 [(0, .ref 103), (1, .int a.1), (2, .int a.2.1), (3, .int a.2.2.1), (4, .int a.2.2.2.1), (5, .int a.2.2.2.2)] [] M (QI q)) (fun k hk a m h => t_X1_waysWith_h13 hk h) N (x1, x2, 0, y_1, 0) M h
