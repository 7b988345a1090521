set_option maxRecDepth 20000 in
theorem t_X5_boardAt {p0 : Nat} {x1 : Int32} {x2 : Int32} (hp0 : Ob 0 111 p0 5) {M : Mem} {q : Int32 × Mem} (h : f_X5_boardAt p0 x1 x2 M = some q) : Ev 0 111 0 m_X5_boardAt [.ref p0, .int x1, .int x2] M (QI q) := by
  refine Ev_of_Fr (by decide +kernel) (Nat.le_of_ble_eq_true rfl) ?_
  show Fr 0 111 0 m_X5_boardAt 0 [(0, .ref p0), (1, .int x1), (2, .int x2)] [] M (QI q)
  unfold f_X5_boardAt at h
  refine Fr_iload_n (q := 2) (i := 2) 2 (by decide +kernel) rfl rfl ?_
  refine Fr_aload_n (q := 0) (i := 0) 0 (by decide +kernel) rfl rfl ?_
  refine gf_X5_45 rfl (by decide +kernel) hp0 ?_
  refine Fr_imul (by decide +kernel) ?_
  refine Fr_iload_n (q := 1) (i := 1) 1 (by decide +kernel) rfl rfl ?_
  refine Fr_iadd (by decide +kernel) ?_
  obtain rfl := Option.some.inj h
  exact Fr_iret (by decide +kernel) rfl ⟨rfl, rfl⟩
set_option maxRecDepth 20000 in
theorem t_X10_letIn_b91 {N : Nat} {p1 : Nat} {p2 : Nat} (hp1 : Ob 0 111 p1 5) (hp2 : Ob 0 111 p2 20) {q : Mem} {k3 : Int32 × Int32 → Mem → Option (Mem)} (hk3 : ∀ (a : Int32 × Int32) (M : Mem), k3 a M = some q → Fr 0 111 1 m_X10_letIn 3 [(1, .ref p1), (2, .ref p2), (3, .int a.1), (4, .int a.2)] [] M (QV q)) {v3 : Int32} {v4 : Int32} {M : Mem} (h : f_X10_letIn_b91 N p1 p2 k3 v3 v4 M = some q) : Fr 0 111 1 m_X10_letIn 91 [(1, .ref p1), (2, .ref p2), (3, .int v3), (4, .int v4)] [] M (QV q) := by
  unfold f_X10_letIn_b91 at h
  refine Fr_iinc (i := 4) (j := 1) (v := (v4 + 1)) (lv' := [(4, .int (v4 + 1)), (1, .ref p1), (2, .ref p2), (3, .int v3)]) 3 (by decide +kernel) rfl rfl (by decide) rfl ?_
  refine Fr_goto (off := (-91)) 3 (by decide +kernel) (by decide) ?_
  refine Fr_loc [1, 2, 3, 0] rfl ?_
  exact hk3 (v3, (v4 + 1)) M h
set_option maxRecDepth 20000 in
theorem t_X10_letIn_h3 {N : Nat} {p1 : Nat} {p2 : Nat} (hp1 : Ob 0 111 p1 5) (hp2 : Ob 0 111 p2 20) {q : Mem} {k3 : Int32 × Int32 → Mem → Option (Mem)} (hk3 : ∀ (a : Int32 × Int32) (M : Mem), k3 a M = some q → Fr 0 111 1 m_X10_letIn 3 [(1, .ref p1), (2, .ref p2), (3, .int a.1), (4, .int a.2)] [] M (QV q)) {v3 : Int32} {v4 : Int32} {M : Mem} (h : f_X10_letIn_h3 N p1 p2 k3 v3 v4 M = some q) : Fr 0 111 1 m_X10_letIn 3 [(1, .ref p1), (2, .ref p2), (3, .int v3), (4, .int v4)] [] M (QV q) := by
  unfold f_X10_letIn_h3 at h
  refine Fr_iload (i := 4) 3 (by decide +kernel) rfl ?_
  refine Fr_aload_n (q := 1) (i := 1) 0 (by decide +kernel) rfl rfl ?_
  refine gf_X10_64 rfl (by decide +kernel) hp1 ?_
  refine Fr_icmp_ge (off := 88) 97 (by decide +kernel) (by decide) (fun hc => ?_) (fun hc => ?_)
  · have h := iT hc h
    obtain rfl := Option.some.inj h
    exact Fr_vret (by decide +kernel) rfl ⟨rfl, rfl⟩
  · have h := iF hc h
    refine Fr_iload_n (q := 3) (i := 3) 2 (by decide +kernel) rfl rfl ?_
    refine Fr_iload (i := 4) 3 (by decide +kernel) rfl ?_
    refine Fr_ishr (by decide +kernel) ?_
    refine Fr_iconst (i := 1) (v := 1) (by decide +kernel) (by decide) ?_
    refine Fr_iand (by decide +kernel) ?_
    refine Fr_iconst (i := 1) (v := 1) (by decide +kernel) (by decide) ?_
    refine Fr_icmp_ne (off := 72) 91 (by decide +kernel) (by decide) (fun hc => ?_) (fun hc => ?_)
    · have h := iF hc h
      exact t_X10_letIn_b91 hp1 hp2 hk3 h
    · have h := iT hc h
      refine Fr_iload (i := 4) 3 (by decide +kernel) rfl ?_
      refine Fr_iconst (i := 5) (v := 5) (by decide +kernel) (by decide) ?_
      refine Fr_imul (by decide +kernel) ?_
      refine Fr_istore (i := 5) (lv' := [(5, .int (v4 * 5)), (1, .ref p1), (2, .ref p2), (3, .int v3), (4, .int v4)]) (by decide +kernel) (by decide) rfl ?_
      refine Fr_aload_n (q := 1) (i := 1) 1 (by decide +kernel) rfl rfl ?_
      refine Fr_aload_n (q := 1) (i := 1) 1 (by decide +kernel) rfl rfl ?_
      refine gf_X10_67 rfl (by decide +kernel) hp1 ?_
      refine Fr_iload (i := 5) 0 (by decide +kernel) rfl ?_
      obtain ⟨hi_1, h⟩ := ck_elim h
      refine Fr_iald (by decide +kernel) (o5_1 hp1) (vp_of (n5_1 hp1) hi_1) ?_
      refine Fr_aload_n (q := 1) (i := 1) 1 (by decide +kernel) rfl rfl ?_
      refine gf_X10_67 rfl (by decide +kernel) hp1 ?_
      refine Fr_iload (i := 5) 0 (by decide +kernel) rfl ?_
      refine Fr_iconst (i := 1) (v := 1) (by decide +kernel) (by decide) ?_
      refine Fr_iadd (by decide +kernel) ?_
      obtain ⟨hi_2, h⟩ := ck_elim h
      refine Fr_iald (by decide +kernel) (o5_1 hp1) (vp_of (n5_1 hp1) hi_2) ?_
      obtain ⟨r_5, M_3, hc_4, h⟩ := bi_elim h
      refine Fr_cVi (ν := m_X5_boardAt) (As := [.int (M.1 (p1 + 1) (tn (v4 * 5))), .int (M.1 (p1 + 1) (tn ((v4 * 5) + 1)))]) (st := []) (rc := p1) (ci := 5) (d' := 0) (by decide +kernel) ml_X10_70 cv_X5_boardAt rfl (by decide) rfl hp1 rfl (by decide) (Nat.le_of_ble_eq_true rfl) (t_X5_boardAt hp1 hc_4) ?_
      refine Fr_istore (i := 6) (lv' := [(6, .int r_5), (5, .int (v4 * 5)), (1, .ref p1), (2, .ref p2), (3, .int v3), (4, .int v4)]) (by decide +kernel) (by decide) rfl ?_
      refine Fr_aload_n (q := 1) (i := 1) 2 (by decide +kernel) rfl rfl ?_
      refine gf_X10_67 rfl (by decide +kernel) hp1 ?_
      refine Fr_iload (i := 5) 1 (by decide +kernel) rfl ?_
      refine Fr_iconst (i := 3) (v := 3) (by decide +kernel) (by decide) ?_
      refine Fr_iadd (by decide +kernel) ?_
      obtain ⟨hi_6, h⟩ := ck_elim h
      refine Fr_iald (by decide +kernel) (o5_1 hp1) (vp_of (n5_1 hp1) hi_6) ?_
      refine Fr_bipush (i := 30) (v := 30) (by decide +kernel) (by decide) ?_
      refine Fr_imul (by decide +kernel) ?_
      refine Fr_iload (i := 6) 0 (by decide +kernel) rfl ?_
      refine Fr_iadd (by decide +kernel) ?_
      obtain ⟨y_7, ey_7, h⟩ := bI_elim h
      refine Fr_topI ey_7 ?_
      refine Fr_istore (i := 7) (lv' := [(7, .int y_7), (6, .int r_5), (5, .int (v4 * 5)), (1, .ref p1), (2, .ref p2), (3, .int v3), (4, .int v4)]) (by decide +kernel) (by decide) rfl ?_
      refine Fr_aload_n (q := 2) (i := 2) 4 (by decide +kernel) rfl rfl ?_
      refine Fr_iload (i := 7) 0 (by decide +kernel) rfl ?_
      refine Fr_sipush (i := 999) (v := 999) (by decide +kernel) (by decide) ?_
      refine Fr_aload_n (q := 2) (i := 2) 4 (by decide +kernel) rfl rfl ?_
      refine Fr_iload (i := 7) 0 (by decide +kernel) rfl ?_
      obtain ⟨hi_8, h⟩ := ck_elim h
      refine Fr_iald (by decide +kernel) hp2 (vp_of rfl hi_8) ?_
      refine Fr_aload_n (q := 1) (i := 1) 3 (by decide +kernel) rfl rfl ?_
      refine gf_X10_67 rfl (by decide +kernel) hp1 ?_
      refine Fr_iload (i := 5) 2 (by decide +kernel) rfl ?_
      refine Fr_iconst (i := 2) (v := 2) (by decide +kernel) (by decide) ?_
      refine Fr_iadd (by decide +kernel) ?_
      obtain ⟨hi_9, h⟩ := ck_elim h
      refine Fr_iald (by decide +kernel) (o5_1 hp1) (vp_of (n5_1 hp1) hi_9) ?_
      refine Fr_iadd (by decide +kernel) ?_
      refine Fr_min (by decide +kernel) ml_X10_74 (by decide) (Nat.le_of_ble_eq_true rfl) ?_
      obtain ⟨hi_10, h⟩ := ck_elim h
      refine Fr_iast (by decide +kernel) hp2 (vp_of rfl hi_10) ?_
      obtain ⟨M_11, eM_11, h⟩ := bM_elim h
      refine Fr_mem eM_11 ?_
      refine Fr_loc [3, 4, 5, 6] rfl ?_
      exact t_X10_letIn_b91 hp1 hp2 hk3 h
set_option maxRecDepth 20000 in
theorem t_X10_letIn {N : Nat} {p1 : Nat} {p2 : Nat} {x3 : Int32} (hp1 : Ob 0 111 p1 5) (hp2 : Ob 0 111 p2 20) {M : Mem} {q : Mem} (h : f_X10_letIn N p1 p2 x3 M = some q) : Ev 0 111 1 m_X10_letIn [.ref 90, .ref p1, .ref p2, .int x3] M (QV q) := by
  refine Ev_of_Fr (by decide +kernel) (Nat.le_of_ble_eq_true rfl) ?_
  show Fr 0 111 1 m_X10_letIn 0 [(0, .ref 90), (1, .ref p1), (2, .ref p2), (3, .int x3)] [] M (QV q)
  unfold f_X10_letIn at h
  refine Fr_iconst (i := 0) (v := 0) (by decide +kernel) (by decide) ?_
  refine Fr_istore (i := 4) (lv' := [(4, .int 0), (0, .ref 90), (1, .ref p1), (2, .ref p2), (3, .int x3)]) (by decide +kernel) (by decide) rfl ?_
  refine Fr_loc [2, 3, 4, 0] rfl ?_
  exact lp_sound (body := fun k a m => f_X10_letIn_h3 N p1 p2 k a.1 a.2 m) (P := fun a M => Fr 0 111 1 m_X10_letIn 3 [(1, .ref p1), (2, .ref p2), (3, .int a.1), (4, .int a.2)] [] M (QV q)) (fun k hk a m h => t_X10_letIn_h3 hp1 hp2 hk h) N (x3, 0) M h
set_option maxRecDepth 20000 in
theorem t_X10_giveAround_b66 {p1 : Nat} {p2 : Nat} (hp1 : Ob 0 111 p1 5) (hp2 : Ob 0 111 p2 20) {q : Int32 × Mem} {v3 : Int32} {v5 : Int32} {v6 : Int32} {v7 : Int32} {M : Mem} (h : f_X10_giveAround_b66 p1 p2 v3 v5 v6 v7 M = some q) : Fr 0 111 0 m_X10_giveAround 66 [(1, .ref p1), (2, .ref p2), (3, .int v3), (5, .int v5), (6, .int v6), (7, .int v7)] [] M (QI q) := by
  unfold f_X10_giveAround_b66 at h
  refine Fr_iload (i := 5) 3 (by decide +kernel) rfl ?_
  refine Fr_aload_n (q := 1) (i := 1) 0 (by decide +kernel) rfl rfl ?_
  refine gf_X10_79 rfl (by decide +kernel) hp1 ?_
  refine Fr_iconst (i := 1) (v := 1) (by decide +kernel) (by decide) ?_
  refine Fr_isub (by decide +kernel) ?_
  refine Fr_icmp_ge (off := 19) 93 (by decide +kernel) (by decide) (fun hc => ?_) (fun hc => ?_)
  · have h := iT hc h
    refine Fr_iload (i := 7) 5 (by decide +kernel) rfl ?_
    obtain rfl := Option.some.inj h
    exact Fr_iret (by decide +kernel) rfl ⟨rfl, rfl⟩
  · have h := iF hc h
    refine Fr_aload_n (q := 2) (i := 2) 1 (by decide +kernel) rfl rfl ?_
    refine Fr_iload_n (q := 3) (i := 3) 2 (by decide +kernel) rfl rfl ?_
    refine Fr_aload_n (q := 1) (i := 1) 0 (by decide +kernel) rfl rfl ?_
    refine gf_X10_82 rfl (by decide +kernel) hp1 ?_
    refine Fr_iadd (by decide +kernel) ?_
    refine Fr_dup2 (by decide +kernel) rfl rfl ?_
    obtain ⟨hi_1, h⟩ := ck_elim h
    refine Fr_iald (by decide +kernel) hp2 (vp_of rfl hi_1) ?_
    refine Fr_iload (i := 6) 4 (by decide +kernel) rfl ?_
    refine Fr_iadd (by decide +kernel) ?_
    obtain ⟨hi_2, h⟩ := ck_elim h
    refine Fr_iast (by decide +kernel) hp2 (vp_of rfl hi_2) ?_
    obtain ⟨M_3, eM_3, h⟩ := bM_elim h
    refine Fr_mem eM_3 ?_
    refine Fr_iinc (i := 7) (j := 1) (v := (v7 + 1)) (lv' := [(7, .int (v7 + 1)), (1, .ref p1), (2, .ref p2), (3, .int v3), (5, .int v5), (6, .int v6)]) 5 (by decide +kernel) rfl rfl (by decide) rfl ?_
    refine Fr_iload (i := 7) 0 (by decide +kernel) rfl ?_
    obtain rfl := Option.some.inj h
    exact Fr_iret (by decide +kernel) rfl ⟨rfl, rfl⟩
set_option maxRecDepth 20000 in
theorem t_X10_giveAround_b45 {p1 : Nat} {p2 : Nat} (hp1 : Ob 0 111 p1 5) (hp2 : Ob 0 111 p2 20) {q : Int32 × Mem} {v3 : Int32} {v5 : Int32} {v6 : Int32} {v7 : Int32} {M : Mem} (h : f_X10_giveAround_b45 p1 p2 v3 v5 v6 v7 M = some q) : Fr 0 111 0 m_X10_giveAround 45 [(1, .ref p1), (2, .ref p2), (3, .int v3), (5, .int v5), (6, .int v6), (7, .int v7)] [] M (QI q) := by
  unfold f_X10_giveAround_b45 at h
  refine Fr_iload (i := 5) 3 (by decide +kernel) rfl ?_
  refine Fr_if_le (off := 19) 66 (by decide +kernel) (by decide) (fun hc => ?_) (fun hc => ?_)
  · have h := iT hc h
    exact t_X10_giveAround_b66 hp1 hp2 h
  · have h := iF hc h
    refine Fr_aload_n (q := 2) (i := 2) 1 (by decide +kernel) rfl rfl ?_
    refine Fr_iload_n (q := 3) (i := 3) 2 (by decide +kernel) rfl rfl ?_
    refine Fr_aload_n (q := 1) (i := 1) 0 (by decide +kernel) rfl rfl ?_
    refine gf_X10_82 rfl (by decide +kernel) hp1 ?_
    refine Fr_isub (by decide +kernel) ?_
    refine Fr_dup2 (by decide +kernel) rfl rfl ?_
    obtain ⟨hi_4, h⟩ := ck_elim h
    refine Fr_iald (by decide +kernel) hp2 (vp_of rfl hi_4) ?_
    refine Fr_iload (i := 6) 4 (by decide +kernel) rfl ?_
    refine Fr_iadd (by decide +kernel) ?_
    obtain ⟨hi_5, h⟩ := ck_elim h
    refine Fr_iast (by decide +kernel) hp2 (vp_of rfl hi_5) ?_
    obtain ⟨M_6, eM_6, h⟩ := bM_elim h
    refine Fr_mem eM_6 ?_
    refine Fr_iinc (i := 7) (j := 1) (v := (v7 + 1)) (lv' := [(7, .int (v7 + 1)), (1, .ref p1), (2, .ref p2), (3, .int v3), (5, .int v5), (6, .int v6)]) 5 (by decide +kernel) rfl rfl (by decide) rfl ?_
    refine Fr_loc [1, 2, 3, 4, 5, 0] rfl ?_
    exact t_X10_giveAround_b66 hp1 hp2 h
set_option maxRecDepth 20000 in
theorem t_X10_giveAround_b21 {p1 : Nat} {p2 : Nat} (hp1 : Ob 0 111 p1 5) (hp2 : Ob 0 111 p2 20) {q : Int32 × Mem} {v3 : Int32} {v4 : Int32} {v5 : Int32} {v6 : Int32} {v7 : Int32} {M : Mem} (h : f_X10_giveAround_b21 p1 p2 v3 v4 v5 v6 v7 M = some q) : Fr 0 111 0 m_X10_giveAround 21 [(1, .ref p1), (2, .ref p2), (3, .int v3), (4, .int v4), (5, .int v5), (6, .int v6), (7, .int v7)] [] M (QI q) := by
  unfold f_X10_giveAround_b21 at h
  refine Fr_iload (i := 4) 3 (by decide +kernel) rfl ?_
  refine Fr_aload_n (q := 1) (i := 1) 0 (by decide +kernel) rfl rfl ?_
  refine gf_X10_82 rfl (by decide +kernel) hp1 ?_
  refine Fr_iconst (i := 1) (v := 1) (by decide +kernel) (by decide) ?_
  refine Fr_isub (by decide +kernel) ?_
  refine Fr_icmp_ge (off := 16) 45 (by decide +kernel) (by decide) (fun hc => ?_) (fun hc => ?_)
  · have h := iT hc h
    refine Fr_loc [0, 1, 2, 4, 5, 6] rfl ?_
    exact t_X10_giveAround_b45 hp1 hp2 h
  · have h := iF hc h
    refine Fr_aload_n (q := 2) (i := 2) 1 (by decide +kernel) rfl rfl ?_
    refine Fr_iload_n (q := 3) (i := 3) 2 (by decide +kernel) rfl rfl ?_
    refine Fr_iconst (i := 1) (v := 1) (by decide +kernel) (by decide) ?_
    refine Fr_iadd (by decide +kernel) ?_
    refine Fr_dup2 (by decide +kernel) rfl rfl ?_
    obtain ⟨hi_7, h⟩ := ck_elim h
    refine Fr_iald (by decide +kernel) hp2 (vp_of rfl hi_7) ?_
    refine Fr_iload (i := 6) 5 (by decide +kernel) rfl ?_
    refine Fr_iadd (by decide +kernel) ?_
    obtain ⟨hi_8, h⟩ := ck_elim h
    refine Fr_iast (by decide +kernel) hp2 (vp_of rfl hi_8) ?_
    obtain ⟨M_9, eM_9, h⟩ := bM_elim h
    refine Fr_mem eM_9 ?_
    refine Fr_iinc (i := 7) (j := 1) (v := (v7 + 1)) (lv' := [(7, .int (v7 + 1)), (1, .ref p1), (2, .ref p2), (3, .int v3), (4, .int v4), (5, .int v5), (6, .int v6)]) 6 (by decide +kernel) rfl rfl (by decide) rfl ?_
    refine Fr_loc [1, 2, 3, 5, 6, 0] rfl ?_
    exact t_X10_giveAround_b45 hp1 hp2 h
set_option maxRecDepth 20000 in
theorem t_X10_giveAround {p1 : Nat} {p2 : Nat} {x3 : Int32} {x4 : Int32} {x5 : Int32} {x6 : Int32} (hp1 : Ob 0 111 p1 5) (hp2 : Ob 0 111 p2 20) {M : Mem} {q : Int32 × Mem} (h : f_X10_giveAround p1 p2 x3 x4 x5 x6 M = some q) : Ev 0 111 0 m_X10_giveAround [.ref 90, .ref p1, .ref p2, .int x3, .int x4, .int x5, .int x6] M (QI q) := by
  refine Ev_of_Fr (by decide +kernel) (Nat.le_of_ble_eq_true rfl) ?_
  show Fr 0 111 0 m_X10_giveAround 0 [(0, .ref 90), (1, .ref p1), (2, .ref p2), (3, .int x3), (4, .int x4), (5, .int x5), (6, .int x6)] [] M (QI q)
  unfold f_X10_giveAround at h
  refine Fr_iconst (i := 0) (v := 0) (by decide +kernel) (by decide) ?_
  refine Fr_istore (i := 7) (lv' := [(7, .int 0), (0, .ref 90), (1, .ref p1), (2, .ref p2), (3, .int x3), (4, .int x4), (5, .int x5), (6, .int x6)]) (by decide +kernel) (by decide) rfl ?_
  refine Fr_iload (i := 4) 5 (by decide +kernel) rfl ?_
  refine Fr_if_le (off := 16) 21 (by decide +kernel) (by decide) (fun hc => ?_) (fun hc => ?_)
  · have h := iT hc h
    refine Fr_loc [2, 3, 4, 5, 6, 7, 0] rfl ?_
    exact t_X10_giveAround_b21 hp1 hp2 h
  · have h := iF hc h
    refine Fr_aload_n (q := 2) (i := 2) 3 (by decide +kernel) rfl rfl ?_
    refine Fr_iload_n (q := 3) (i := 3) 4 (by decide +kernel) rfl rfl ?_
    refine Fr_iconst (i := 1) (v := 1) (by decide +kernel) (by decide) ?_
    refine Fr_isub (by decide +kernel) ?_
    refine Fr_dup2 (by decide +kernel) rfl rfl ?_
    obtain ⟨hi_10, h⟩ := ck_elim h
    refine Fr_iald (by decide +kernel) hp2 (vp_of rfl hi_10) ?_
    refine Fr_iload (i := 6) 7 (by decide +kernel) rfl ?_
    refine Fr_iadd (by decide +kernel) ?_
    obtain ⟨hi_11, h⟩ := ck_elim h
    refine Fr_iast (by decide +kernel) hp2 (vp_of rfl hi_11) ?_
    obtain ⟨M_12, eM_12, h⟩ := bM_elim h
    refine Fr_mem eM_12 ?_
    refine Fr_iinc (i := 7) (j := 1) (v := (0 + 1)) (lv' := [(7, .int (0 + 1)), (0, .ref 90), (1, .ref p1), (2, .ref p2), (3, .int x3), (4, .int x4), (5, .int x5), (6, .int x6)]) 0 (by decide +kernel) rfl rfl (by decide) rfl ?_
    refine Fr_loc [2, 3, 4, 5, 6, 7, 0] rfl ?_
    exact t_X10_giveAround_b21 hp1 hp2 h
set_option maxRecDepth 20000 in
theorem t_X10_spread_b68 {N : Nat} {p1 : Nat} {p2 : Nat} (hp1 : Ob 0 111 p1 5) (hp2 : Ob 0 111 p2 20) {q : Mem} {k6 : Int32 × Int32 → Mem → Option (Mem)} (hk6 : ∀ (a : Int32 × Int32) (M : Mem), k6 a M = some q → Fr 0 111 1 m_X10_spread 6 [(0, .ref 90), (1, .ref p1), (2, .ref p2), (4, .int a.1), (5, .int a.2)] [] M (QV q)) {k18 : Int32 × Int32 × Int32 → Mem → Option (Mem)} (hk18 : ∀ (a : Int32 × Int32 × Int32) (M : Mem), k18 a M = some q → Fr 0 111 1 m_X10_spread 18 [(0, .ref 90), (1, .ref p1), (2, .ref p2), (4, .int a.1), (5, .int a.2.1), (6, .int a.2.2)] [] M (QV q)) {v4 : Int32} {v5 : Int32} {v6 : Int32} {M : Mem} (h : f_X10_spread_b68 N p1 p2 k6 k18 v4 v5 v6 M = some q) : Fr 0 111 1 m_X10_spread 68 [(0, .ref 90), (1, .ref p1), (2, .ref p2), (4, .int v4), (5, .int v5), (6, .int v6)] [] M (QV q) := by
  unfold f_X10_spread_b68 at h
  refine Fr_iinc (i := 4) (j := 1) (v := (v4 + 1)) (lv' := [(4, .int (v4 + 1)), (0, .ref 90), (1, .ref p1), (2, .ref p2), (5, .int v5), (6, .int v6)]) 3 (by decide +kernel) rfl rfl (by decide) rfl ?_
  refine Fr_iinc (i := 6) (j := 1) (v := (v6 + 1)) (lv' := [(6, .int (v6 + 1)), (4, .int (v4 + 1)), (0, .ref 90), (1, .ref p1), (2, .ref p2), (5, .int v5)]) 5 (by decide +kernel) rfl rfl (by decide) rfl ?_
  refine Fr_goto (off := (-56)) 18 (by decide +kernel) (by decide) ?_
  refine Fr_loc [2, 3, 4, 1, 5, 0] rfl ?_
  exact hk18 ((v4 + 1), v5, (v6 + 1)) M h
set_option maxRecDepth 20000 in
theorem t_X10_spread_h18 {N : Nat} {p1 : Nat} {p2 : Nat} (hp1 : Ob 0 111 p1 5) (hp2 : Ob 0 111 p2 20) {q : Mem} {k6 : Int32 × Int32 → Mem → Option (Mem)} (hk6 : ∀ (a : Int32 × Int32) (M : Mem), k6 a M = some q → Fr 0 111 1 m_X10_spread 6 [(0, .ref 90), (1, .ref p1), (2, .ref p2), (4, .int a.1), (5, .int a.2)] [] M (QV q)) {k18 : Int32 × Int32 × Int32 → Mem → Option (Mem)} (hk18 : ∀ (a : Int32 × Int32 × Int32) (M : Mem), k18 a M = some q → Fr 0 111 1 m_X10_spread 18 [(0, .ref 90), (1, .ref p1), (2, .ref p2), (4, .int a.1), (5, .int a.2.1), (6, .int a.2.2)] [] M (QV q)) {v4 : Int32} {v5 : Int32} {v6 : Int32} {M : Mem} (h : f_X10_spread_h18 N p1 p2 k6 k18 v4 v5 v6 M = some q) : Fr 0 111 1 m_X10_spread 18 [(0, .ref 90), (1, .ref p1), (2, .ref p2), (4, .int v4), (5, .int v5), (6, .int v6)] [] M (QV q) := by
  unfold f_X10_spread_h18 at h
  refine Fr_iload (i := 6) 5 (by decide +kernel) rfl ?_
  refine Fr_aload_n (q := 1) (i := 1) 1 (by decide +kernel) rfl rfl ?_
  refine gf_X10_82 rfl (by decide +kernel) hp1 ?_
  refine Fr_icmp_ge (off := 53) 77 (by decide +kernel) (by decide) (fun hc => ?_) (fun hc => ?_)
  · have h := iT hc h
    refine Fr_iinc (i := 5) (j := 1) (v := (v5 + 1)) (lv' := [(5, .int (v5 + 1)), (0, .ref 90), (1, .ref p1), (2, .ref p2), (4, .int v4), (6, .int v6)]) 4 (by decide +kernel) rfl rfl (by decide) rfl ?_
    refine Fr_goto (off := (-74)) 6 (by decide +kernel) (by decide) ?_
    refine Fr_loc [1, 2, 3, 4, 0] rfl ?_
    exact hk6 (v4, (v5 + 1)) M h
  · have h := iF hc h
    refine Fr_aload_n (q := 0) (i := 0) 0 (by decide +kernel) rfl rfl ?_
    refine gf_X10_9 rfl (by decide +kernel) ob_90 ?_
    refine Fr_iload (i := 4) 3 (by decide +kernel) rfl ?_
    obtain ⟨hi_1, h⟩ := ck_elim h
    refine Fr_iald (by decide +kernel) ob_91 (vp_of ln_91 hi_1) ?_
    refine Fr_bipush (i := 8) (v := 8) (by decide +kernel) (by decide) ?_
    refine Fr_idiv (by decide +kernel) (by decide) ?_
    refine Fr_istore (i := 7) (lv' := [(7, .int ((M.1 91 (tn v4)) / 8)), (0, .ref 90), (1, .ref p1), (2, .ref p2), (4, .int v4), (5, .int v5), (6, .int v6)]) (by decide +kernel) (by decide) rfl ?_
    refine Fr_iload (i := 7) 0 (by decide +kernel) rfl ?_
    refine Fr_if_le (off := 27) 68 (by decide +kernel) (by decide) (fun hc => ?_) (fun hc => ?_)
    · have h := iT hc h
      refine Fr_loc [1, 2, 3, 4, 5, 6] rfl ?_
      exact t_X10_spread_b68 hp1 hp2 hk6 hk18 h
    · have h := iF hc h
      refine Fr_aload_n (q := 2) (i := 2) 3 (by decide +kernel) rfl rfl ?_
      refine Fr_iload (i := 4) 4 (by decide +kernel) rfl ?_
      refine Fr_dup2 (by decide +kernel) rfl rfl ?_
      obtain ⟨hi_2, h⟩ := ck_elim h
      refine Fr_iald (by decide +kernel) hp2 (vp_of rfl hi_2) ?_
      refine Fr_iload (i := 7) 0 (by decide +kernel) rfl ?_
      refine Fr_aload_n (q := 0) (i := 0) 1 (by decide +kernel) rfl rfl ?_
      refine Fr_aload_n (q := 1) (i := 1) 2 (by decide +kernel) rfl rfl ?_
      refine Fr_aload_n (q := 2) (i := 2) 3 (by decide +kernel) rfl rfl ?_
      refine Fr_iload (i := 4) 4 (by decide +kernel) rfl ?_
      refine Fr_iload (i := 6) 6 (by decide +kernel) rfl ?_
      refine Fr_iload (i := 5) 5 (by decide +kernel) rfl ?_
      refine Fr_iload (i := 7) 0 (by decide +kernel) rfl ?_
      obtain ⟨r_5, M_3, hc_4, h⟩ := bi_elim h
      refine Fr_cVi (ν := m_X10_giveAround) (As := [.ref p1, .ref p2, .int v4, .int v6, .int v5, .int ((M.1 91 (tn v4)) / 8)]) (st := [.int ((M.1 91 (tn v4)) / 8), .int (M.1 p2 (tn v4)), .int v4, .ref p2]) (rc := 90) (ci := 10) (d' := 0) (by decide +kernel) ml_X10_85 cv_X10_giveAround rfl (by decide) rfl ob_90 rfl (by decide) (Nat.le_of_ble_eq_true rfl) (t_X10_giveAround hp1 hp2 hc_4) ?_
      refine Fr_imul (by decide +kernel) ?_
      refine Fr_isub (by decide +kernel) ?_
      obtain ⟨hi_6, h⟩ := ck_elim h
      refine Fr_iast (by decide +kernel) hp2 (vp_of rfl hi_6) ?_
      obtain ⟨M_7, eM_7, h⟩ := bM_elim h
      refine Fr_mem eM_7 ?_
      refine Fr_loc [1, 2, 3, 4, 5, 6] rfl ?_
      exact t_X10_spread_b68 hp1 hp2 hk6 hk18 h
set_option maxRecDepth 20000 in
theorem t_X10_spread_h6 {N : Nat} {p1 : Nat} {p2 : Nat} (hp1 : Ob 0 111 p1 5) (hp2 : Ob 0 111 p2 20) {q : Mem} {k6 : Int32 × Int32 → Mem → Option (Mem)} (hk6 : ∀ (a : Int32 × Int32) (M : Mem), k6 a M = some q → Fr 0 111 1 m_X10_spread 6 [(0, .ref 90), (1, .ref p1), (2, .ref p2), (4, .int a.1), (5, .int a.2)] [] M (QV q)) {v4 : Int32} {v5 : Int32} {M : Mem} (h : f_X10_spread_h6 N p1 p2 k6 v4 v5 M = some q) : Fr 0 111 1 m_X10_spread 6 [(0, .ref 90), (1, .ref p1), (2, .ref p2), (4, .int v4), (5, .int v5)] [] M (QV q) := by
  unfold f_X10_spread_h6 at h
  refine Fr_iload (i := 5) 4 (by decide +kernel) rfl ?_
  refine Fr_aload_n (q := 1) (i := 1) 1 (by decide +kernel) rfl rfl ?_
  refine gf_X10_79 rfl (by decide +kernel) hp1 ?_
  refine Fr_icmp_ge (off := 71) 83 (by decide +kernel) (by decide) (fun hc => ?_) (fun hc => ?_)
  · have h := iT hc h
    obtain rfl := Option.some.inj h
    exact Fr_vret (by decide +kernel) rfl ⟨rfl, rfl⟩
  · have h := iF hc h
    refine Fr_iconst (i := 0) (v := 0) (by decide +kernel) (by decide) ?_
    refine Fr_istore (i := 6) (lv' := [(6, .int 0), (0, .ref 90), (1, .ref p1), (2, .ref p2), (4, .int v4), (5, .int v5)]) (by decide +kernel) (by decide) rfl ?_
    refine Fr_loc [1, 2, 3, 4, 5, 0] rfl ?_
    exact lp_sound (body := fun k a m => f_X10_spread_h18 N p1 p2 k6 k a.1 a.2.1 a.2.2 m) (P := fun a M => Fr 0 111 1 m_X10_spread 18 [(0, .ref 90), (1, .ref p1), (2, .ref p2), (4, .int a.1), (5, .int a.2.1), (6, .int a.2.2)] [] M (QV q)) (fun k hk a m h => t_X10_spread_h18 hp1 hp2 hk6 hk h) N (v4, v5, 0) M h
set_option maxRecDepth 20000 in
theorem t_X10_spread {N : Nat} {p1 : Nat} {p2 : Nat} {x3 : Int32} (hp1 : Ob 0 111 p1 5) (hp2 : Ob 0 111 p2 20) {M : Mem} {q : Mem} (h : f_X10_spread N p1 p2 x3 M = some q) : Ev 0 111 1 m_X10_spread [.ref 90, .ref p1, .ref p2, .int x3] M (QV q) := by
  refine Ev_of_Fr (by decide +kernel) (Nat.le_of_ble_eq_true rfl) ?_
  show Fr 0 111 1 m_X10_spread 0 [(0, .ref 90), (1, .ref p1), (2, .ref p2), (3, .int x3)] [] M (QV q)
  unfold f_X10_spread at h
  refine Fr_iload_n (q := 3) (i := 3) 3 (by decide +kernel) rfl rfl ?_
  refine Fr_istore (i := 4) (lv' := [(4, .int x3), (0, .ref 90), (1, .ref p1), (2, .ref p2), (3, .int x3)]) (by decide +kernel) (by decide) rfl ?_
  refine Fr_iconst (i := 0) (v := 0) (by decide +kernel) (by decide) ?_
  refine Fr_istore (i := 5) (lv' := [(5, .int 0), (4, .int x3), (0, .ref 90), (1, .ref p1), (2, .ref p2), (3, .int x3)]) (by decide +kernel) (by decide) rfl ?_
  refine Fr_loc [2, 3, 4, 1, 0] rfl ?_
  exact lp_sound (body := fun k a m => f_X10_spread_h6 N p1 p2 k a.1 a.2 m) (P := fun a M => Fr 0 111 1 m_X10_spread 6 [(0, .ref 90), (1, .ref p1), (2, .ref p2), (4, .int a.1), (5, .int a.2)] [] M (QV q)) (fun k hk a m h => t_X10_spread_h6 hp1 hp2 hk h) N (x3, 0) M h
set_option maxRecDepth 20000 in
theorem t_X5_isBoard {p0 : Nat} {x1 : Int32} {x2 : Int32} (hp0 : Ob 0 111 p0 5) {M : Mem} {q : Bool × Mem} (h : f_X5_isBoard p0 x1 x2 M = some q) : Ev 0 111 0 m_X5_isBoard [.ref p0, .int x1, .int x2] M (QB q) := by
  refine Ev_of_Fr (by decide +kernel) (Nat.le_of_ble_eq_true rfl) ?_
  show Fr 0 111 0 m_X5_isBoard 0 [(0, .ref p0), (1, .int x1), (2, .int x2)] [] M (QB q)
  unfold f_X5_isBoard at h
  refine Fr_iload_n (q := 1) (i := 1) 1 (by decide +kernel) rfl rfl ?_
  refine Fr_if_lt (off := 27) 28 (by decide +kernel) (by decide) (fun hc => ?_) (fun hc => ?_)
  · have h := iT hc h
    refine Fr_iconst (i := 0) (v := 0) (by decide +kernel) (by decide) ?_
    obtain rfl := Option.some.inj h
    exact Fr_zret (by decide +kernel) rfl (by decide) ⟨rfl, rfl⟩
  · have h := iF hc h
    refine Fr_iload_n (q := 1) (i := 1) 1 (by decide +kernel) rfl rfl ?_
    refine Fr_aload_n (q := 0) (i := 0) 0 (by decide +kernel) rfl rfl ?_
    refine gf_X5_45 rfl (by decide +kernel) hp0 ?_
    refine Fr_icmp_ge (off := 19) 28 (by decide +kernel) (by decide) (fun hc => ?_) (fun hc => ?_)
    · have h := iT hc h
      refine Fr_iconst (i := 0) (v := 0) (by decide +kernel) (by decide) ?_
      obtain rfl := Option.some.inj h
      exact Fr_zret (by decide +kernel) rfl (by decide) ⟨rfl, rfl⟩
    · have h := iF hc h
      refine Fr_iload_n (q := 2) (i := 2) 2 (by decide +kernel) rfl rfl ?_
      refine Fr_if_lt (off := 15) 28 (by decide +kernel) (by decide) (fun hc => ?_) (fun hc => ?_)
      · have h := iT hc h
        refine Fr_iconst (i := 0) (v := 0) (by decide +kernel) (by decide) ?_
        obtain rfl := Option.some.inj h
        exact Fr_zret (by decide +kernel) rfl (by decide) ⟨rfl, rfl⟩
      · have h := iF hc h
        refine Fr_iload_n (q := 2) (i := 2) 2 (by decide +kernel) rfl rfl ?_
        refine Fr_aload_n (q := 0) (i := 0) 0 (by decide +kernel) rfl rfl ?_
        refine gf_X5_48 rfl (by decide +kernel) hp0 ?_
        refine Fr_icmp_ge (off := 7) 28 (by decide +kernel) (by decide) (fun hc => ?_) (fun hc => ?_)
        · have h := iT hc h
          refine Fr_iconst (i := 0) (v := 0) (by decide +kernel) (by decide) ?_
          obtain rfl := Option.some.inj h
          exact Fr_zret (by decide +kernel) rfl (by decide) ⟨rfl, rfl⟩
        · have h := iF hc h
          refine Fr_iconst (i := 1) (v := 1) (by decide +kernel) (by decide) ?_
          refine Fr_goto (off := 4) 29 (by decide +kernel) (by decide) ?_
          obtain rfl := Option.some.inj h
          exact Fr_zret (by decide +kernel) rfl (by decide) ⟨rfl, rfl⟩
set_option maxRecDepth 20000 in
theorem t_X10_blow_b113 {N : Nat} {p1 : Nat} {p2 : Nat} (hp1 : Ob 0 111 p1 5) (hp2 : Ob 0 111 p2 20) {q : Mem} {k38 : Int32 × Int32 × Int32 × Int32 × Int32 → Mem → Option (Mem)} (hk38 : ∀ (a : Int32 × Int32 × Int32 × Int32 × Int32) (M : Mem), k38 a M = some q → Fr 0 111 1 m_X10_blow 38 [(0, .ref 90), (1, .ref p1), (2, .ref p2), (4, .int a.1), (5, .int a.2.1), (6, .int a.2.2.1), (7, .int a.2.2.2.1), (8, .int a.2.2.2.2)] [] M (QV q)) {k50 : Int32 × Int32 × Int32 × Int32 × Int32 × Int32 → Mem → Option (Mem)} (hk50 : ∀ (a : Int32 × Int32 × Int32 × Int32 × Int32 × Int32) (M : Mem), k50 a M = some q → Fr 0 111 1 m_X10_blow 50 [(0, .ref 90), (1, .ref p1), (2, .ref p2), (4, .int a.1), (5, .int a.2.1), (6, .int a.2.2.1), (7, .int a.2.2.2.1), (8, .int a.2.2.2.2.1), (9, .int a.2.2.2.2.2)] [] M (QV q)) {v4 : Int32} {v5 : Int32} {v6 : Int32} {v7 : Int32} {v8 : Int32} {v9 : Int32} {M : Mem} (h : f_X10_blow_b113 N p1 p2 k38 k50 v4 v5 v6 v7 v8 v9 M = some q) : Fr 0 111 1 m_X10_blow 113 [(0, .ref 90), (1, .ref p1), (2, .ref p2), (4, .int v4), (5, .int v5), (6, .int v6), (7, .int v7), (8, .int v8), (9, .int v9)] [] M (QV q) := by
  unfold f_X10_blow_b113 at h
  refine Fr_iinc (i := 7) (j := 1) (v := (v7 + 1)) (lv' := [(7, .int (v7 + 1)), (0, .ref 90), (1, .ref p1), (2, .ref p2), (4, .int v4), (5, .int v5), (6, .int v6), (8, .int v8), (9, .int v9)]) 6 (by decide +kernel) rfl rfl (by decide) rfl ?_
  refine Fr_iinc (i := 9) (j := 1) (v := (v9 + 1)) (lv' := [(9, .int (v9 + 1)), (7, .int (v7 + 1)), (0, .ref 90), (1, .ref p1), (2, .ref p2), (4, .int v4), (5, .int v5), (6, .int v6), (8, .int v8)]) 8 (by decide +kernel) rfl rfl (by decide) rfl ?_
  refine Fr_goto (off := (-69)) 50 (by decide +kernel) (by decide) ?_
  refine Fr_loc [2, 3, 4, 5, 6, 7, 1, 8, 0] rfl ?_
  exact hk50 (v4, v5, v6, (v7 + 1), v8, (v9 + 1)) M h
set_option maxRecDepth 20000 in
theorem t_X10_blow_h50 {N : Nat} {p1 : Nat} {p2 : Nat} (hp1 : Ob 0 111 p1 5) (hp2 : Ob 0 111 p2 20) {q : Mem} {k38 : Int32 × Int32 × Int32 × Int32 × Int32 → Mem → Option (Mem)} (hk38 : ∀ (a : Int32 × Int32 × Int32 × Int32 × Int32) (M : Mem), k38 a M = some q → Fr 0 111 1 m_X10_blow 38 [(0, .ref 90), (1, .ref p1), (2, .ref p2), (4, .int a.1), (5, .int a.2.1), (6, .int a.2.2.1), (7, .int a.2.2.2.1), (8, .int a.2.2.2.2)] [] M (QV q)) {k50 : Int32 × Int32 × Int32 × Int32 × Int32 × Int32 → Mem → Option (Mem)} (hk50 : ∀ (a : Int32 × Int32 × Int32 × Int32 × Int32 × Int32) (M : Mem), k50 a M = some q → Fr 0 111 1 m_X10_blow 50 [(0, .ref 90), (1, .ref p1), (2, .ref p2), (4, .int a.1), (5, .int a.2.1), (6, .int a.2.2.1), (7, .int a.2.2.2.1), (8, .int a.2.2.2.2.1), (9, .int a.2.2.2.2.2)] [] M (QV q)) {v4 : Int32} {v5 : Int32} {v6 : Int32} {v7 : Int32} {v8 : Int32} {v9 : Int32} {M : Mem} (h : f_X10_blow_h50 N p1 p2 k38 k50 v4 v5 v6 v7 v8 v9 M = some q) : Fr 0 111 1 m_X10_blow 50 [(0, .ref 90), (1, .ref p1), (2, .ref p2), (4, .int v4), (5, .int v5), (6, .int v6), (7, .int v7), (8, .int v8), (9, .int v9)] [] M (QV q) := by
  unfold f_X10_blow_h50 at h
  refine Fr_iload (i := 9) 8 (by decide +kernel) rfl ?_
  refine Fr_aload_n (q := 1) (i := 1) 1 (by decide +kernel) rfl rfl ?_
  refine gf_X10_82 rfl (by decide +kernel) hp1 ?_
  refine Fr_icmp_ge (off := 66) 122 (by decide +kernel) (by decide) (fun hc => ?_) (fun hc => ?_)
  · have h := iT hc h
    refine Fr_iinc (i := 8) (j := 1) (v := (v8 + 1)) (lv' := [(8, .int (v8 + 1)), (0, .ref 90), (1, .ref p1), (2, .ref p2), (4, .int v4), (5, .int v5), (6, .int v6), (7, .int v7), (9, .int v9)]) 7 (by decide +kernel) rfl rfl (by decide) rfl ?_
    refine Fr_goto (off := (-87)) 38 (by decide +kernel) (by decide) ?_
    refine Fr_loc [1, 2, 3, 4, 5, 6, 7, 0] rfl ?_
    exact hk38 (v4, v5, v6, v7, (v8 + 1)) M h
  · have h := iF hc h
    refine Fr_aload_n (q := 0) (i := 0) 0 (by decide +kernel) rfl rfl ?_
    refine gf_X10_9 rfl (by decide +kernel) ob_90 ?_
    refine Fr_iload (i := 7) 6 (by decide +kernel) rfl ?_
    obtain ⟨hi_4, h⟩ := ck_elim h
    refine Fr_iald (by decide +kernel) ob_91 (vp_of ln_91 hi_4) ?_
    refine Fr_iconst (i := 4) (v := 4) (by decide +kernel) (by decide) ?_
    refine Fr_idiv (by decide +kernel) (by decide) ?_
    refine Fr_istore (i := 10) (lv' := [(10, .int ((M.1 91 (tn v7)) / 4)), (0, .ref 90), (1, .ref p1), (2, .ref p2), (4, .int v4), (5, .int v5), (6, .int v6), (7, .int v7), (8, .int v8), (9, .int v9)]) (by decide +kernel) (by decide) rfl ?_
    refine Fr_aload_n (q := 2) (i := 2) 3 (by decide +kernel) rfl rfl ?_
    refine Fr_iload (i := 7) 7 (by decide +kernel) rfl ?_
    refine Fr_dup2 (by decide +kernel) rfl rfl ?_
    obtain ⟨hi_5, h⟩ := ck_elim h
    refine Fr_iald (by decide +kernel) hp2 (vp_of rfl hi_5) ?_
    refine Fr_iload (i := 10) 0 (by decide +kernel) rfl ?_
    refine Fr_isub (by decide +kernel) ?_
    obtain ⟨hi_6, h⟩ := ck_elim h
    refine Fr_iast (by decide +kernel) hp2 (vp_of rfl hi_6) ?_
    obtain ⟨M_7, eM_7, h⟩ := bM_elim h
    refine Fr_mem eM_7 ?_
    refine Fr_iload (i := 10) 0 (by decide +kernel) rfl ?_
    refine Fr_if_le (off := 32) 113 (by decide +kernel) (by decide) (fun hc => ?_) (fun hc => ?_)
    · have h := iT hc h
      refine Fr_loc [1, 2, 3, 4, 5, 6, 7, 8, 9] rfl ?_
      exact t_X10_blow_b113 hp1 hp2 hk38 hk50 h
    · have h := iF hc h
      refine Fr_aload_n (q := 1) (i := 1) 2 (by decide +kernel) rfl rfl ?_
      refine Fr_iload (i := 9) 9 (by decide +kernel) rfl ?_
      refine Fr_iload (i := 4) 4 (by decide +kernel) rfl ?_
      refine Fr_iadd (by decide +kernel) ?_
      refine Fr_iload (i := 8) 8 (by decide +kernel) rfl ?_
      refine Fr_iload (i := 5) 5 (by decide +kernel) rfl ?_
      refine Fr_iadd (by decide +kernel) ?_
      obtain ⟨r_10, M_8, hc_9, h⟩ := bi_elim h
      refine Fr_cVb (ν := m_X5_isBoard) (As := [.int (v9 + v4), .int (v8 + v5)]) (st := []) (rc := p1) (ci := 5) (d' := 0) (by decide +kernel) ml_X10_95 cv_X5_isBoard rfl (by decide) rfl hp1 rfl (by decide) (Nat.le_of_ble_eq_true rfl) (t_X5_isBoard hp1 hc_9) ?_
      refine Fr_if_eq (off := 15) 113 (by decide +kernel) (by decide) (fun hc => ?_) (fun hc => ?_)
      · have h := iT hc h
        refine Fr_loc [1, 2, 3, 4, 5, 6, 7, 8, 9] rfl ?_
        exact t_X10_blow_b113 hp1 hp2 hk38 hk50 h
      · have h := iF hc h
        refine Fr_aload_n (q := 2) (i := 2) 3 (by decide +kernel) rfl rfl ?_
        refine Fr_iload (i := 7) 7 (by decide +kernel) rfl ?_
        refine Fr_iload (i := 6) 6 (by decide +kernel) rfl ?_
        refine Fr_iadd (by decide +kernel) ?_
        refine Fr_dup2 (by decide +kernel) rfl rfl ?_
        obtain ⟨hi_11, h⟩ := ck_elim h
        refine Fr_iald (by decide +kernel) hp2 (vp_of rfl hi_11) ?_
        refine Fr_iload (i := 10) 0 (by decide +kernel) rfl ?_
        refine Fr_iadd (by decide +kernel) ?_
        obtain ⟨hi_12, h⟩ := ck_elim h
        refine Fr_iast (by decide +kernel) hp2 (vp_of rfl hi_12) ?_
        obtain ⟨M_13, eM_13, h⟩ := bM_elim h
        refine Fr_mem eM_13 ?_
        refine Fr_loc [1, 2, 3, 4, 5, 6, 7, 8, 9] rfl ?_
        exact t_X10_blow_b113 hp1 hp2 hk38 hk50 h
set_option maxRecDepth 20000 in
theorem t_X10_blow_h38 {N : Nat} {p1 : Nat} {p2 : Nat} (hp1 : Ob 0 111 p1 5) (hp2 : Ob 0 111 p2 20) {q : Mem} {k38 : Int32 × Int32 × Int32 × Int32 × Int32 → Mem → Option (Mem)} (hk38 : ∀ (a : Int32 × Int32 × Int32 × Int32 × Int32) (M : Mem), k38 a M = some q → Fr 0 111 1 m_X10_blow 38 [(0, .ref 90), (1, .ref p1), (2, .ref p2), (4, .int a.1), (5, .int a.2.1), (6, .int a.2.2.1), (7, .int a.2.2.2.1), (8, .int a.2.2.2.2)] [] M (QV q)) {v4 : Int32} {v5 : Int32} {v6 : Int32} {v7 : Int32} {v8 : Int32} {M : Mem} (h : f_X10_blow_h38 N p1 p2 k38 v4 v5 v6 v7 v8 M = some q) : Fr 0 111 1 m_X10_blow 38 [(0, .ref 90), (1, .ref p1), (2, .ref p2), (4, .int v4), (5, .int v5), (6, .int v6), (7, .int v7), (8, .int v8)] [] M (QV q) := by
  unfold f_X10_blow_h38 at h
  refine Fr_iload (i := 8) 7 (by decide +kernel) rfl ?_
  refine Fr_aload_n (q := 1) (i := 1) 1 (by decide +kernel) rfl rfl ?_
  refine gf_X10_79 rfl (by decide +kernel) hp1 ?_
  refine Fr_icmp_ge (off := 84) 128 (by decide +kernel) (by decide) (fun hc => ?_) (fun hc => ?_)
  · have h := iT hc h
    obtain rfl := Option.some.inj h
    exact Fr_vret (by decide +kernel) rfl ⟨rfl, rfl⟩
  · have h := iF hc h
    refine Fr_iconst (i := 0) (v := 0) (by decide +kernel) (by decide) ?_
    refine Fr_istore (i := 9) (lv' := [(9, .int 0), (0, .ref 90), (1, .ref p1), (2, .ref p2), (4, .int v4), (5, .int v5), (6, .int v6), (7, .int v7), (8, .int v8)]) (by decide +kernel) (by decide) rfl ?_
    refine Fr_loc [1, 2, 3, 4, 5, 6, 7, 8, 0] rfl ?_
    exact lp_sound (body := fun k a m => f_X10_blow_h50 N p1 p2 k38 k a.1 a.2.1 a.2.2.1 a.2.2.2.1 a.2.2.2.2.1 a.2.2.2.2.2 m) (P := fun a M => Fr 0 111 1 m_X10_blow 50 [(0, .ref 90), (1, .ref p1), (2, .ref p2), (4, .int a.1), (5, .int a.2.1), (6, .int a.2.2.1), (7, .int a.2.2.2.1), (8, .int a.2.2.2.2.1), (9, .int a.2.2.2.2.2)] [] M (QV q)) (fun k hk a m h => t_X10_blow_h50 hp1 hp2 hk38 hk h) N (v4, v5, v6, v7, v8, 0) M h
set_option maxRecDepth 20000 in
theorem t_X10_blow {N : Nat} {p1 : Nat} {p2 : Nat} {x3 : Int32} (hp1 : Ob 0 111 p1 5) (hp2 : Ob 0 111 p2 20) {M : Mem} {q : Mem} (h : f_X10_blow N p1 p2 x3 M = some q) : Ev 0 111 1 m_X10_blow [.ref 90, .ref p1, .ref p2, .int x3] M (QV q) := by
  refine Ev_of_Fr (by decide +kernel) (Nat.le_of_ble_eq_true rfl) ?_
  show Fr 0 111 1 m_X10_blow 0 [(0, .ref 90), (1, .ref p1), (2, .ref p2), (3, .int x3)] [] M (QV q)
  unfold f_X10_blow at h
  refine Fr_getsN (idx := 89) 0 (by decide +kernel) (by decide) (by decide +kernel) ?_
  refine Fr_aload_n (q := 1) (i := 1) 1 (by decide +kernel) rfl rfl ?_
  refine gf_X10_51 rfl (by decide +kernel) hp1 ?_
  obtain ⟨hi_1, h⟩ := ck_elim h
  refine Fr_tald (i := 0) (by decide +kernel) (by decide) hi_1 ?_
  refine Fr_istore (i := 4) (lv' := [(4, .int (sta 0 (tn (M.1 p1 2)))), (0, .ref 90), (1, .ref p1), (2, .ref p2), (3, .int x3)]) (by decide +kernel) (by decide) rfl ?_
  refine Fr_getsN (idx := 92) 1 (by decide +kernel) (by decide) (by decide +kernel) ?_
  refine Fr_aload_n (q := 1) (i := 1) 2 (by decide +kernel) rfl rfl ?_
  refine gf_X10_51 rfl (by decide +kernel) hp1 ?_
  obtain ⟨hi_2, h⟩ := ck_elim h
  refine Fr_tald (i := 1) (by decide +kernel) (by decide) hi_2 ?_
  refine Fr_istore (i := 5) (lv' := [(5, .int (sta 1 (tn (M.1 p1 2)))), (4, .int (sta 0 (tn (M.1 p1 2)))), (0, .ref 90), (1, .ref p1), (2, .ref p2), (3, .int x3)]) (by decide +kernel) (by decide) rfl ?_
  refine Fr_iload (i := 5) 0 (by decide +kernel) rfl ?_
  refine Fr_aload_n (q := 1) (i := 1) 3 (by decide +kernel) rfl rfl ?_
  refine gf_X10_82 rfl (by decide +kernel) hp1 ?_
  refine Fr_imul (by decide +kernel) ?_
  refine Fr_iload (i := 4) 1 (by decide +kernel) rfl ?_
  refine Fr_iadd (by decide +kernel) ?_
  obtain ⟨y_3, ey_3, h⟩ := bI_elim h
  refine Fr_topI ey_3 ?_
  refine Fr_istore (i := 6) (lv' := [(6, .int y_3), (5, .int (sta 1 (tn (M.1 p1 2)))), (4, .int (sta 0 (tn (M.1 p1 2)))), (0, .ref 90), (1, .ref p1), (2, .ref p2), (3, .int x3)]) (by decide +kernel) (by decide) rfl ?_
  refine Fr_iload_n (q := 3) (i := 3) 6 (by decide +kernel) rfl rfl ?_
  refine Fr_istore (i := 7) (lv' := [(7, .int x3), (6, .int y_3), (5, .int (sta 1 (tn (M.1 p1 2)))), (4, .int (sta 0 (tn (M.1 p1 2)))), (0, .ref 90), (1, .ref p1), (2, .ref p2), (3, .int x3)]) (by decide +kernel) (by decide) rfl ?_
  refine Fr_iconst (i := 0) (v := 0) (by decide +kernel) (by decide) ?_
  refine Fr_istore (i := 8) (lv' := [(8, .int 0), (7, .int x3), (6, .int y_3), (5, .int (sta 1 (tn (M.1 p1 2)))), (4, .int (sta 0 (tn (M.1 p1 2)))), (0, .ref 90), (1, .ref p1), (2, .ref p2), (3, .int x3)]) (by decide +kernel) (by decide) rfl ?_
  refine Fr_loc [5, 6, 7, 4, 3, 2, 1, 0] rfl ?_
  exact lp_sound (body := fun k a m => f_X10_blow_h38 N p1 p2 k a.1 a.2.1 a.2.2.1 a.2.2.2.1 a.2.2.2.2 m) (P := fun a M => Fr 0 111 1 m_X10_blow 38 [(0, .ref 90), (1, .ref p1), (2, .ref p2), (4, .int a.1), (5, .int a.2.1), (6, .int a.2.2.1), (7, .int a.2.2.2.1), (8, .int a.2.2.2.2)] [] M (QV q)) (fun k hk a m h => t_X10_blow_h38 hp1 hp2 hk h) N ((sta 0 (tn (M.1 p1 2))), (sta 1 (tn (M.1 p1 2))), y_3, x3, 0) M h
set_option maxRecDepth 20000 in
theorem t_X5_boardCount {p0 : Nat} (hp0 : Ob 0 111 p0 5) {M : Mem} {q : Int32 × Mem} (h : f_X5_boardCount p0 M = some q) : Ev 0 111 0 m_X5_boardCount [.ref p0] M (QI q) := by
  refine Ev_of_Fr (by decide +kernel) (Nat.le_of_ble_eq_true rfl) ?_
  show Fr 0 111 0 m_X5_boardCount 0 [(0, .ref p0)] [] M (QI q)
  unfold f_X5_boardCount at h
  refine Fr_aload_n (q := 0) (i := 0) 0 (by decide +kernel) rfl rfl ?_
  refine gf_X5_45 rfl (by decide +kernel) hp0 ?_
  refine Fr_aload_n (q := 0) (i := 0) 0 (by decide +kernel) rfl rfl ?_
  refine gf_X5_48 rfl (by decide +kernel) hp0 ?_
  refine Fr_imul (by decide +kernel) ?_
  obtain rfl := Option.some.inj h
  exact Fr_iret (by decide +kernel) rfl ⟨rfl, rfl⟩
set_option maxRecDepth 20000 in
theorem t_X10_settle_h8 {N : Nat} {p1 : Nat} {p2 : Nat} (hp1 : Ob 0 111 p1 5) (hp2 : Ob 0 111 p2 20) {q : Mem} {k8 : Int32 × Int32 → Mem → Option (Mem)} (hk8 : ∀ (a : Int32 × Int32) (M : Mem), k8 a M = some q → Fr 0 111 1 m_X10_settle 8 [(1, .ref p1), (2, .ref p2), (3, .int a.1), (4, .int a.2)] [] M (QV q)) {v3 : Int32} {v4 : Int32} {M : Mem} (h : f_X10_settle_h8 N p1 p2 k8 v3 v4 M = some q) : Fr 0 111 1 m_X10_settle 8 [(1, .ref p1), (2, .ref p2), (3, .int v3), (4, .int v4)] [] M (QV q) := by
  unfold f_X10_settle_h8 at h
  refine Fr_iload (i := 4) 3 (by decide +kernel) rfl ?_
  refine Fr_iload_n (q := 3) (i := 3) 2 (by decide +kernel) rfl rfl ?_
  refine Fr_icmp_ge (off := 84) 95 (by decide +kernel) (by decide) (fun hc => ?_) (fun hc => ?_)
  · have h := iT hc h
    obtain rfl := Option.some.inj h
    exact Fr_vret (by decide +kernel) rfl ⟨rfl, rfl⟩
  · have h := iF hc h
    refine Fr_sipush (i := 999) (v := 999) (by decide +kernel) (by decide) ?_
    refine Fr_aload_n (q := 2) (i := 2) 1 (by decide +kernel) rfl rfl ?_
    refine Fr_iload (i := 4) 3 (by decide +kernel) rfl ?_
    obtain ⟨hi_4, h⟩ := ck_elim h
    refine Fr_iald (by decide +kernel) hp2 (vp_of rfl hi_4) ?_
    refine Fr_min (by decide +kernel) ml_X10_74 (by decide) (Nat.le_of_ble_eq_true rfl) ?_
    obtain ⟨y_5, ey_5, h⟩ := bI_elim h
    refine Fr_topI ey_5 ?_
    refine Fr_istore (i := 5) (lv' := [(5, .int y_5), (1, .ref p1), (2, .ref p2), (3, .int v3), (4, .int v4)]) (by decide +kernel) (by decide) rfl ?_
    refine Fr_sipush (i := 999) (v := 999) (by decide +kernel) (by decide) ?_
    refine Fr_aload_n (q := 2) (i := 2) 2 (by decide +kernel) rfl rfl ?_
    refine Fr_bipush (i := 30) (v := 30) (by decide +kernel) (by decide) ?_
    refine Fr_iload (i := 4) 4 (by decide +kernel) rfl ?_
    refine Fr_iadd (by decide +kernel) ?_
    obtain ⟨hi_6, h⟩ := ck_elim h
    refine Fr_iald (by decide +kernel) hp2 (vp_of rfl hi_6) ?_
    refine Fr_min (by decide +kernel) ml_X10_74 (by decide) (Nat.le_of_ble_eq_true rfl) ?_
    obtain ⟨y_7, ey_7, h⟩ := bI_elim h
    refine Fr_topI ey_7 ?_
    refine Fr_istore (i := 6) (lv' := [(6, .int y_7), (5, .int y_5), (1, .ref p1), (2, .ref p2), (3, .int v3), (4, .int v4)]) (by decide +kernel) (by decide) rfl ?_
    refine Fr_iload (i := 5) 1 (by decide +kernel) rfl ?_
    refine Fr_iload (i := 6) 0 (by decide +kernel) rfl ?_
    refine Fr_min (by decide +kernel) ml_X10_74 (by decide) (Nat.le_of_ble_eq_true rfl) ?_
    refine Fr_istore (i := 7) (lv' := [(7, .int (imin y_5 y_7)), (6, .int y_7), (5, .int y_5), (1, .ref p1), (2, .ref p2), (3, .int v3), (4, .int v4)]) (by decide +kernel) (by decide) rfl ?_
    refine Fr_aload_n (q := 2) (i := 2) 4 (by decide +kernel) rfl rfl ?_
    refine Fr_iload (i := 4) 6 (by decide +kernel) rfl ?_
    refine Fr_iconst (i := 0) (v := 0) (by decide +kernel) (by decide) ?_
    refine Fr_iload (i := 5) 2 (by decide +kernel) rfl ?_
    refine Fr_iload (i := 7) 0 (by decide +kernel) rfl ?_
    refine Fr_isub (by decide +kernel) ?_
    refine Fr_aload_n (q := 1) (i := 1) 3 (by decide +kernel) rfl rfl ?_
    refine gf_X10_103 rfl (by decide +kernel) hp1 ?_
    refine Fr_isub (by decide +kernel) ?_
    refine Fr_max (by decide +kernel) ml_X10_106 (by decide) (Nat.le_of_ble_eq_true rfl) ?_
    obtain ⟨hi_8, h⟩ := ck_elim h
    refine Fr_iast (by decide +kernel) hp2 (vp_of rfl hi_8) ?_
    obtain ⟨M_9, eM_9, h⟩ := bM_elim h
    refine Fr_mem eM_9 ?_
    refine Fr_aload_n (q := 2) (i := 2) 4 (by decide +kernel) rfl rfl ?_
    refine Fr_bipush (i := 30) (v := 30) (by decide +kernel) (by decide) ?_
    refine Fr_iload (i := 4) 6 (by decide +kernel) rfl ?_
    refine Fr_iadd (by decide +kernel) ?_
    refine Fr_iconst (i := 0) (v := 0) (by decide +kernel) (by decide) ?_
    refine Fr_iload (i := 6) 1 (by decide +kernel) rfl ?_
    refine Fr_iload (i := 7) 0 (by decide +kernel) rfl ?_
    refine Fr_isub (by decide +kernel) ?_
    refine Fr_aload_n (q := 1) (i := 1) 3 (by decide +kernel) rfl rfl ?_
    refine gf_X10_103 rfl (by decide +kernel) hp1 ?_
    refine Fr_isub (by decide +kernel) ?_
    refine Fr_max (by decide +kernel) ml_X10_106 (by decide) (Nat.le_of_ble_eq_true rfl) ?_
    obtain ⟨hi_10, h⟩ := ck_elim h
    refine Fr_iast (by decide +kernel) hp2 (vp_of rfl hi_10) ?_
    obtain ⟨M_11, eM_11, h⟩ := bM_elim h
    refine Fr_mem eM_11 ?_
    refine Fr_iinc (i := 4) (j := 1) (v := (v4 + 1)) (lv' := [(4, .int (v4 + 1)), (7, .int (imin y_5 y_7)), (6, .int y_7), (5, .int y_5), (1, .ref p1), (2, .ref p2), (3, .int v3)]) 6 (by decide +kernel) rfl rfl (by decide) rfl ?_
    refine Fr_goto (off := (-84)) 8 (by decide +kernel) (by decide) ?_
    refine Fr_loc [4, 5, 6, 0] rfl ?_
    exact hk8 (v3, (v4 + 1)) M_11 h
set_option maxRecDepth 20000 in
theorem t_X10_settle {N : Nat} {p1 : Nat} {p2 : Nat} (hp1 : Ob 0 111 p1 5) (hp2 : Ob 0 111 p2 20) {M : Mem} {q : Mem} (h : f_X10_settle N p1 p2 M = some q) : Ev 0 111 1 m_X10_settle [.ref 90, .ref p1, .ref p2] M (QV q) := by
  refine Ev_of_Fr (by decide +kernel) (Nat.le_of_ble_eq_true rfl) ?_
  show Fr 0 111 1 m_X10_settle 0 [(0, .ref 90), (1, .ref p1), (2, .ref p2)] [] M (QV q)
  unfold f_X10_settle at h
  refine Fr_aload_n (q := 1) (i := 1) 1 (by decide +kernel) rfl rfl ?_
  obtain ⟨r_3, M_1, hc_2, h⟩ := bi_elim h
  refine Fr_cVi (ν := m_X5_boardCount) (As := []) (st := []) (rc := p1) (ci := 5) (d' := 0) (by decide +kernel) ml_X10_99 cv_X5_boardCount rfl (by decide) rfl hp1 rfl (by decide) (Nat.le_of_ble_eq_true rfl) (t_X5_boardCount hp1 hc_2) ?_
  refine Fr_istore_n (q := 3) (i := 3) (lv' := [(3, .int r_3), (0, .ref 90), (1, .ref p1), (2, .ref p2)]) (by decide +kernel) rfl (by decide) rfl ?_
  refine Fr_iconst (i := 0) (v := 0) (by decide +kernel) (by decide) ?_
  refine Fr_istore (i := 4) (lv' := [(4, .int 0), (3, .int r_3), (0, .ref 90), (1, .ref p1), (2, .ref p2)]) (by decide +kernel) (by decide) rfl ?_
  refine Fr_loc [3, 4, 1, 0] rfl ?_
  exact lp_sound (body := fun k a m => f_X10_settle_h8 N p1 p2 k a.1 a.2 m) (P := fun a M => Fr 0 111 1 m_X10_settle 8 [(1, .ref p1), (2, .ref p2), (3, .int a.1), (4, .int a.2)] [] M (QV q)) (fun k hk a m h => t_X10_settle_h8 hp1 hp2 hk h) N (r_3, 0) M_1 h
set_option maxRecDepth 20000 in
theorem t_X10_passHour_b55 {N : Nat} {p1 : Nat} {p2 : Nat} (hp1 : Ob 0 111 p1 5) (hp2 : Ob 0 111 p2 20) {q : Mem} {k22 : Int32 → Mem → Option (Mem)} (hk22 : ∀ (a : Int32) (M : Mem), k22 a M = some q → Fr 0 111 2 m_X10_passHour 22 [(0, .ref 90), (1, .ref p1), (2, .ref p2), (4, .int a)] [] M (QV q)) {v4 : Int32} {M : Mem} (h : f_X10_passHour_b55 N p1 p2 k22 v4 M = some q) : Fr 0 111 2 m_X10_passHour 55 [(0, .ref 90), (1, .ref p1), (2, .ref p2), (4, .int v4)] [] M (QV q) := by
  unfold f_X10_passHour_b55 at h
  refine Fr_iinc (i := 4) (j := 30) (v := (v4 + 30)) (lv' := [(4, .int (v4 + 30)), (0, .ref 90), (1, .ref p1), (2, .ref p2)]) 3 (by decide +kernel) rfl rfl (by decide) rfl ?_
  refine Fr_goto (off := (-36)) 22 (by decide +kernel) (by decide) ?_
  refine Fr_loc [1, 2, 3, 0] rfl ?_
  exact hk22 (v4 + 30) M h
set_option maxRecDepth 20000 in
theorem t_X10_passHour_h22 {N : Nat} {p1 : Nat} {p2 : Nat} (hp1 : Ob 0 111 p1 5) (hp2 : Ob 0 111 p2 20) {q : Mem} {k22 : Int32 → Mem → Option (Mem)} (hk22 : ∀ (a : Int32) (M : Mem), k22 a M = some q → Fr 0 111 2 m_X10_passHour 22 [(0, .ref 90), (1, .ref p1), (2, .ref p2), (4, .int a)] [] M (QV q)) {v4 : Int32} {M : Mem} (h : f_X10_passHour_h22 N p1 p2 k22 v4 M = some q) : Fr 0 111 2 m_X10_passHour 22 [(0, .ref 90), (1, .ref p1), (2, .ref p2), (4, .int v4)] [] M (QV q) := by
  unfold f_X10_passHour_h22 at h
  refine Fr_iload (i := 4) 3 (by decide +kernel) rfl ?_
  refine Fr_bipush (i := 60) (v := 60) (by decide +kernel) (by decide) ?_
  refine Fr_icmp_ge (off := 35) 61 (by decide +kernel) (by decide) (fun hc => ?_) (fun hc => ?_)
  · have h := iT hc h
    refine Fr_aload_n (q := 0) (i := 0) 0 (by decide +kernel) rfl rfl ?_
    refine Fr_aload_n (q := 1) (i := 1) 1 (by decide +kernel) rfl rfl ?_
    refine Fr_aload_n (q := 2) (i := 2) 2 (by decide +kernel) rfl rfl ?_
    obtain ⟨M_5, hc_6, h⟩ := bv_elim h
    refine Fr_cVv (ν := m_X10_settle) (As := [.ref p1, .ref p2]) (st := []) (rc := 90) (ci := 10) (d' := 1) (by decide +kernel) ml_X10_60 cv_X10_settle rfl (by decide) rfl ob_90 rfl (by decide) (Nat.le_of_ble_eq_true rfl) (t_X10_settle hp1 hp2 hc_6) ?_
    obtain rfl := Option.some.inj h
    exact Fr_vret (by decide +kernel) rfl ⟨rfl, rfl⟩
  · have h := iF hc h
    refine Fr_aload_n (q := 1) (i := 1) 1 (by decide +kernel) rfl rfl ?_
    refine gf_X10_51 rfl (by decide +kernel) hp1 ?_
    refine Fr_if_ne (off := 14) 47 (by decide +kernel) (by decide) (fun hc => ?_) (fun hc => ?_)
    · have h := iF hc h
      refine Fr_aload_n (q := 0) (i := 0) 0 (by decide +kernel) rfl rfl ?_
      refine Fr_aload_n (q := 1) (i := 1) 1 (by decide +kernel) rfl rfl ?_
      refine Fr_aload_n (q := 2) (i := 2) 2 (by decide +kernel) rfl rfl ?_
      refine Fr_iload (i := 4) 3 (by decide +kernel) rfl ?_
      obtain ⟨M_7, hc_8, h⟩ := bv_elim h
      refine Fr_cVv (ν := m_X10_blow) (As := [.ref p1, .ref p2, .int v4]) (st := []) (rc := 90) (ci := 10) (d' := 1) (by decide +kernel) ml_X10_57 cv_X10_blow rfl (by decide) rfl ob_90 rfl (by decide) (Nat.le_of_ble_eq_true rfl) (t_X10_blow hp1 hp2 hc_8) ?_
      exact t_X10_passHour_b55 hp1 hp2 hk22 h
    · have h := iT hc h
      refine Fr_aload_n (q := 0) (i := 0) 0 (by decide +kernel) rfl rfl ?_
      refine Fr_aload_n (q := 1) (i := 1) 1 (by decide +kernel) rfl rfl ?_
      refine Fr_aload_n (q := 2) (i := 2) 2 (by decide +kernel) rfl rfl ?_
      refine Fr_iload (i := 4) 3 (by decide +kernel) rfl ?_
      obtain ⟨M_9, hc_10, h⟩ := bv_elim h
      refine Fr_cVv (ν := m_X10_spread) (As := [.ref p1, .ref p2, .int v4]) (st := []) (rc := 90) (ci := 10) (d' := 1) (by decide +kernel) ml_X10_54 cv_X10_spread rfl (by decide) rfl ob_90 rfl (by decide) (Nat.le_of_ble_eq_true rfl) (t_X10_spread hp1 hp2 hc_10) ?_
      refine Fr_goto (off := 11) 55 (by decide +kernel) (by decide) ?_
      exact t_X10_passHour_b55 hp1 hp2 hk22 h
set_option maxRecDepth 20000 in
theorem t_X10_passHour {N : Nat} {p1 : Nat} {p2 : Nat} {x3 : Int32} (hp1 : Ob 0 111 p1 5) (hp2 : Ob 0 111 p2 20) {M : Mem} {q : Mem} (h : f_X10_passHour N p1 p2 x3 M = some q) : Ev 0 111 2 m_X10_passHour [.ref 90, .ref p1, .ref p2, .int x3] M (QV q) := by
  refine Ev_of_Fr (by decide +kernel) (Nat.le_of_ble_eq_true rfl) ?_
  show Fr 0 111 2 m_X10_passHour 0 [(0, .ref 90), (1, .ref p1), (2, .ref p2), (3, .int x3)] [] M (QV q)
  unfold f_X10_passHour at h
  refine Fr_aload_n (q := 0) (i := 0) 0 (by decide +kernel) rfl rfl ?_
  refine Fr_aload_n (q := 1) (i := 1) 1 (by decide +kernel) rfl rfl ?_
  refine Fr_aload_n (q := 2) (i := 2) 2 (by decide +kernel) rfl rfl ?_
  refine Fr_iload_n (q := 3) (i := 3) 3 (by decide +kernel) rfl rfl ?_
  obtain ⟨M_1, hc_2, h⟩ := bv_elim h
  refine Fr_cVv (ν := m_X10_letIn) (As := [.ref p1, .ref p2, .int x3]) (st := []) (rc := 90) (ci := 10) (d' := 1) (by decide +kernel) ml_X10_48 cv_X10_letIn rfl (by decide) rfl ob_90 rfl (by decide) (Nat.le_of_ble_eq_true rfl) (t_X10_letIn hp1 hp2 hc_2) ?_
  refine Fr_aload_n (q := 2) (i := 2) 2 (by decide +kernel) rfl rfl ?_
  refine Fr_iconst (i := 0) (v := 0) (by decide +kernel) (by decide) ?_
  refine Fr_aload_n (q := 0) (i := 0) 0 (by decide +kernel) rfl rfl ?_
  refine gf_X10_9 rfl (by decide +kernel) ob_90 ?_
  refine Fr_iconst (i := 0) (v := 0) (by decide +kernel) (by decide) ?_
  refine Fr_bipush (i := 60) (v := 60) (by decide +kernel) (by decide) ?_
  obtain ⟨ha_41, ha_42, ha_43, ha_44, ha_45, h⟩ := acp_elim h
  refine Fr_acopyI (by decide +kernel) ml_X10_23 hp2 ob_91 ha_41 ha_42 ha_43 (le_len rfl ha_44) (le_len ln_91 ha_45) (by decide) (Nat.le_of_ble_eq_true rfl) ?_
  obtain ⟨M_3, eM_3, h⟩ := bM_elim h
  refine Fr_mem eM_3 ?_
  refine Fr_iconst (i := 0) (v := 0) (by decide +kernel) (by decide) ?_
  refine Fr_istore (i := 4) (lv' := [(4, .int 0), (0, .ref 90), (1, .ref p1), (2, .ref p2), (3, .int x3)]) (by decide +kernel) (by decide) rfl ?_
  refine Fr_loc [1, 2, 3, 0] rfl ?_
  exact lp_sound (body := fun k a m => f_X10_passHour_h22 N p1 p2 k a m) (P := fun a M => Fr 0 111 2 m_X10_passHour 22 [(0, .ref 90), (1, .ref p1), (2, .ref p2), (4, .int a)] [] M (QV q)) (fun k hk a m h => t_X10_passHour_h22 hp1 hp2 hk h) N 0 M_3 h
set_option maxRecDepth 20000 in
theorem t_X0_look_h17 {N : Nat} {p1 : Nat} (hp1 : Ob 0 111 p1 5) {q : Mem} {k17 : Int32 × Int32 → Mem → Option (Mem)} (hk17 : ∀ (a : Int32 × Int32) (M : Mem), k17 a M = some q → Fr 0 111 3 m_X0_look 17 [(0, .ref 93), (1, .ref p1), (2, .int a.1), (3, .int a.2)] [] M (QV q)) {v2 : Int32} {v3 : Int32} {M : Mem} (h : f_X0_look_h17 N p1 k17 v2 v3 M = some q) : Fr 0 111 3 m_X0_look 17 [(0, .ref 93), (1, .ref p1), (2, .int v2), (3, .int v3)] [] M (QV q) := by
  unfold f_X0_look_h17 at h
  refine Fr_iload_n (q := 3) (i := 3) 3 (by decide +kernel) rfl rfl ?_
  refine Fr_iload_n (q := 2) (i := 2) 2 (by decide +kernel) rfl rfl ?_
  refine Fr_icmp_ge (off := 25) 44 (by decide +kernel) (by decide) (fun hc => ?_) (fun hc => ?_)
  · have h := iT hc h
    obtain rfl := Option.some.inj h
    exact Fr_vret (by decide +kernel) rfl ⟨rfl, rfl⟩
  · have h := iF hc h
    refine Fr_aload_n (q := 0) (i := 0) 0 (by decide +kernel) rfl rfl ?_
    refine gf_X0_18 rfl (by decide +kernel) ob_93 ?_
    refine Fr_aload_n (q := 1) (i := 1) 1 (by decide +kernel) rfl rfl ?_
    refine Fr_aload_n (q := 0) (i := 0) 0 (by decide +kernel) rfl rfl ?_
    refine gf_X0_9 rfl (by decide +kernel) ob_93 ?_
    refine Fr_aload_n (q := 1) (i := 1) 1 (by decide +kernel) rfl rfl ?_
    refine gf_X0_33 rfl (by decide +kernel) hp1 ?_
    obtain ⟨M_2, hc_3, h⟩ := bv_elim h
    refine Fr_cVv (ν := m_X10_passHour) (As := [.ref p1, .ref 94, .int (M.1 p1 6)]) (st := []) (rc := 90) (ci := 10) (d' := 2) (by decide +kernel) ml_X0_37 cv_X10_passHour rfl (by decide) rfl ob_90 rfl (by decide) (Nat.le_of_ble_eq_true rfl) (t_X10_passHour hp1 ob_94 hc_3) ?_
    refine Fr_iinc (i := 3) (j := 1) (v := (v3 + 1)) (lv' := [(3, .int (v3 + 1)), (0, .ref 93), (1, .ref p1), (2, .int v2)]) 3 (by decide +kernel) rfl rfl (by decide) rfl ?_
    refine Fr_goto (off := (-24)) 17 (by decide +kernel) (by decide) ?_
    refine Fr_loc [1, 2, 3, 0] rfl ?_
    exact hk17 (v2, (v3 + 1)) M_2 h
set_option maxRecDepth 20000 in
theorem t_X0_look {N : Nat} {p1 : Nat} {x2 : Int32} (hp1 : Ob 0 111 p1 5) {M : Mem} {q : Mem} (h : f_X0_look N p1 x2 M = some q) : Ev 0 111 3 m_X0_look [.ref 93, .ref p1, .int x2] M (QV q) := by
  refine Ev_of_Fr (by decide +kernel) (Nat.le_of_ble_eq_true rfl) ?_
  show Fr 0 111 3 m_X0_look 0 [(0, .ref 93), (1, .ref p1), (2, .int x2)] [] M (QV q)
  unfold f_X0_look at h
  refine Fr_aload_n (q := 1) (i := 1) 1 (by decide +kernel) rfl rfl ?_
  refine gf_X0_22 rfl (by decide +kernel) hp1 ?_
  refine Fr_iconst (i := 0) (v := 0) (by decide +kernel) (by decide) ?_
  refine Fr_aload_n (q := 0) (i := 0) 0 (by decide +kernel) rfl rfl ?_
  refine gf_X0_9 rfl (by decide +kernel) ob_93 ?_
  refine Fr_iconst (i := 0) (v := 0) (by decide +kernel) (by decide) ?_
  refine Fr_bipush (i := 60) (v := 60) (by decide +kernel) (by decide) ?_
  refine Fr_acopyI (by decide +kernel) ml_X0_27 (o5_6 hp1) ob_94 (by decide) (by decide) (by decide) (le_len (n5_6 hp1) (by decide)) (le_len ln_94 (by decide)) (by decide) (Nat.le_of_ble_eq_true rfl) ?_
  obtain ⟨M_1, eM_1, h⟩ := bM_elim h
  refine Fr_mem eM_1 ?_
  refine Fr_iconst (i := 0) (v := 0) (by decide +kernel) (by decide) ?_
  refine Fr_istore_n (q := 3) (i := 3) (lv' := [(3, .int 0), (0, .ref 93), (1, .ref p1), (2, .int x2)]) (by decide +kernel) rfl (by decide) rfl ?_
  refine Fr_loc [1, 2, 3, 0] rfl ?_
  exact lp_sound (body := fun k a m => f_X0_look_h17 N p1 k a.1 a.2 m) (P := fun a M => Fr 0 111 3 m_X0_look 17 [(0, .ref 93), (1, .ref p1), (2, .int a.1), (3, .int a.2)] [] M (QV q)) (fun k hk a m h => t_X0_look_h17 hp1 hk h) N (x2, 0) M_1 h
set_option maxRecDepth 20000 in
theorem t_X5_bothKinds {p0 : Nat} {x1 : Int32} (hp0 : Ob 0 111 p0 20) {M : Mem} {q : Int32 × Mem} (h : f_X5_bothKinds p0 x1 M = some q) : Ev 0 111 0 m_X5_bothKinds [.ref p0, .int x1] M (QI q) := by
  refine Ev_of_Fr (by decide +kernel) (Nat.le_of_ble_eq_true rfl) ?_
  show Fr 0 111 0 m_X5_bothKinds 0 [(0, .ref p0), (1, .int x1)] [] M (QI q)
  unfold f_X5_bothKinds at h
  refine Fr_aload_n (q := 0) (i := 0) 0 (by decide +kernel) rfl rfl ?_
  refine Fr_iload_n (q := 1) (i := 1) 1 (by decide +kernel) rfl rfl ?_
  obtain ⟨hi_1, h⟩ := ck_elim h
  refine Fr_iald (by decide +kernel) hp0 (vp_of rfl hi_1) ?_
  refine Fr_aload_n (q := 0) (i := 0) 0 (by decide +kernel) rfl rfl ?_
  refine Fr_bipush (i := 30) (v := 30) (by decide +kernel) (by decide) ?_
  refine Fr_iload_n (q := 1) (i := 1) 1 (by decide +kernel) rfl rfl ?_
  refine Fr_iadd (by decide +kernel) ?_
  obtain ⟨hi_2, h⟩ := ck_elim h
  refine Fr_iald (by decide +kernel) hp0 (vp_of rfl hi_2) ?_
  refine Fr_iadd (by decide +kernel) ?_
  obtain rfl := Option.some.inj h
  exact Fr_iret (by decide +kernel) rfl ⟨rfl, rfl⟩
set_option maxRecDepth 20000 in
theorem t_X5_isFoggy {p0 : Nat} {p1 : Nat} {x2 : Int32} (hp0 : Ob 0 111 p0 5) (hp1 : Ob 0 111 p1 20) {M : Mem} {q : Bool × Mem} (h : f_X5_isFoggy p0 p1 x2 M = some q) : Ev 0 111 1 m_X5_isFoggy [.ref p0, .ref p1, .int x2] M (QB q) := by
  refine Ev_of_Fr (by decide +kernel) (Nat.le_of_ble_eq_true rfl) ?_
  show Fr 0 111 1 m_X5_isFoggy 0 [(0, .ref p0), (1, .ref p1), (2, .int x2)] [] M (QB q)
  unfold f_X5_isFoggy at h
  refine Fr_aload_n (q := 1) (i := 1) 1 (by decide +kernel) rfl rfl ?_
  refine Fr_iload_n (q := 2) (i := 2) 2 (by decide +kernel) rfl rfl ?_
  obtain ⟨r_3, M_1, hc_2, h⟩ := bi_elim h
  refine Fr_cSi (ν := m_X5_bothKinds) (As := [.ref p1, .int x2]) (st := []) (d' := 0) (by decide +kernel) ml_X5_113 cs_X5_bothKinds rfl (by decide) (Nat.le_of_ble_eq_true rfl) (t_X5_bothKinds hp1 hc_2) ?_
  refine Fr_aload_n (q := 0) (i := 0) 0 (by decide +kernel) rfl rfl ?_
  refine gf_X5_42 rfl (by decide +kernel) hp0 ?_
  refine Fr_icmp_lt (off := 7) 16 (by decide +kernel) (by decide) (fun hc => ?_) (fun hc => ?_)
  · have h := iT hc h
    refine Fr_iconst (i := 0) (v := 0) (by decide +kernel) (by decide) ?_
    obtain rfl := Option.some.inj h
    exact Fr_zret (by decide +kernel) rfl (by decide) ⟨rfl, rfl⟩
  · have h := iF hc h
    refine Fr_iconst (i := 1) (v := 1) (by decide +kernel) (by decide) ?_
    refine Fr_goto (off := 4) 17 (by decide +kernel) (by decide) ?_
    obtain rfl := Option.some.inj h
    exact Fr_zret (by decide +kernel) rfl (by decide) ⟨rfl, rfl⟩
