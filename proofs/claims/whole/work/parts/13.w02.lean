set_option maxRecDepth 20000 in
theorem t_X0_firstHour_h18 {N : Nat} {p1 : Nat} (hp1 : Ob 0 111 p1 5) {q : Int32 × Mem} {k18 : Int32 × Int32 × Int32 → Mem → Option (Int32 × Mem)} (hk18 : ∀ (a : Int32 × Int32 × Int32) (M : Mem), k18 a M = some q → Fr 0 111 3 m_X0_firstHour 18 [(0, .ref 93), (1, .ref p1), (2, .int a.1), (3, .int a.2.1), (4, .int a.2.2)] [] M (QI q)) {v2 : Int32} {v3 : Int32} {v4 : Int32} {M : Mem} (h : f_X0_firstHour_h18 N p1 k18 v2 v3 v4 M = some q) : Fr 0 111 3 m_X0_firstHour 18 [(0, .ref 93), (1, .ref p1), (2, .int v2), (3, .int v3), (4, .int v4)] [] M (QI q) := by
  unfold f_X0_firstHour_h18 at h
  refine Fr_iload (i := 4) 4 (by decide +kernel) rfl ?_
  refine Fr_bipush (i := 48) (v := 48) (by decide +kernel) (by decide) ?_
  refine Fr_icmp_gt (off := 41) 63 (by decide +kernel) (by decide) (fun hc => ?_) (fun hc => ?_)
  · have h := iT hc h
    refine Fr_iconst (i := (-1)) (v := (-1)) (by decide +kernel) (by decide) ?_
    obtain rfl := Option.some.inj h
    exact Fr_iret (by decide +kernel) rfl ⟨rfl, rfl⟩
  · have h := iF hc h
    refine Fr_aload_n (q := 1) (i := 1) 1 (by decide +kernel) rfl rfl ?_
    refine Fr_aload_n (q := 0) (i := 0) 0 (by decide +kernel) rfl rfl ?_
    refine gf_X0_9 rfl (by decide +kernel) ob_93 ?_
    refine Fr_iload_n (q := 2) (i := 2) 2 (by decide +kernel) rfl rfl ?_
    obtain ⟨r_4, M_2, hc_3, h⟩ := bi_elim h
    refine Fr_cVb (ν := m_X5_isFoggy) (As := [.ref 94, .int v2]) (st := []) (rc := p1) (ci := 5) (d' := 1) (by decide +kernel) ml_X0_43 cv_X5_isFoggy rfl (by decide) rfl hp1 rfl (by decide) (Nat.le_of_ble_eq_true rfl) (t_X5_isFoggy hp1 ob_94 hc_3) ?_
    refine Fr_iload_n (q := 3) (i := 3) 3 (by decide +kernel) rfl rfl ?_
    refine Fr_icmp_ne (off := 6) 41 (by decide +kernel) (by decide) (fun hc => ?_) (fun hc => ?_)
    · have h := iF hc h
      refine Fr_aload_n (q := 0) (i := 0) 0 (by decide +kernel) rfl rfl ?_
      refine gf_X0_18 rfl (by decide +kernel) ob_93 ?_
      refine Fr_aload_n (q := 1) (i := 1) 1 (by decide +kernel) rfl rfl ?_
      refine Fr_aload_n (q := 0) (i := 0) 0 (by decide +kernel) rfl rfl ?_
      refine gf_X0_9 rfl (by decide +kernel) ob_93 ?_
      refine Fr_aload_n (q := 1) (i := 1) 1 (by decide +kernel) rfl rfl ?_
      refine gf_X0_33 rfl (by decide +kernel) hp1 ?_
      obtain ⟨M_5, hc_6, h⟩ := bv_elim h
      refine Fr_cVv (ν := m_X10_passHour) (As := [.ref p1, .ref 94, .int (M_2.1 p1 6)]) (st := []) (rc := 90) (ci := 10) (d' := 2) (by decide +kernel) ml_X0_37 cv_X10_passHour rfl (by decide) rfl ob_90 rfl (by decide) (Nat.le_of_ble_eq_true rfl) (t_X10_passHour hp1 ob_94 hc_6) ?_
      refine Fr_iinc (i := 4) (j := 1) (v := (v4 + 1)) (lv' := [(4, .int (v4 + 1)), (0, .ref 93), (1, .ref p1), (2, .int v2), (3, .int v3)]) 4 (by decide +kernel) rfl rfl (by decide) rfl ?_
      refine Fr_goto (off := (-42)) 18 (by decide +kernel) (by decide) ?_
      refine Fr_loc [1, 2, 3, 4, 0] rfl ?_
      exact hk18 (v2, v3, (v4 + 1)) M_5 h
    · have h := iT hc h
      refine Fr_iload (i := 4) 4 (by decide +kernel) rfl ?_
      obtain rfl := Option.some.inj h
      exact Fr_iret (by decide +kernel) rfl ⟨rfl, rfl⟩
set_option maxRecDepth 20000 in
theorem t_X0_firstHour {N : Nat} {p1 : Nat} {x2 : Int32} {x3 : Int32} (hp1 : Ob 0 111 p1 5) {M : Mem} {q : Int32 × Mem} (h : f_X0_firstHour N p1 x2 x3 M = some q) : Ev 0 111 3 m_X0_firstHour [.ref 93, .ref p1, .int x2, .int x3] M (QI q) := by
  refine Ev_of_Fr (by decide +kernel) (Nat.le_of_ble_eq_true rfl) ?_
  show Fr 0 111 3 m_X0_firstHour 0 [(0, .ref 93), (1, .ref p1), (2, .int x2), (3, .int x3)] [] M (QI q)
  unfold f_X0_firstHour at h
  refine Fr_aload_n (q := 1) (i := 1) 1 (by decide +kernel) rfl rfl ?_
  refine gf_X0_22 rfl (by decide +kernel) hp1 ?_
  refine Fr_iconst (i := 0) (v := 0) (by decide +kernel) (by decide) ?_
  refine Fr_aload_n (q := 0) (i := 0) 0 (by decide +kernel) rfl rfl ?_
  refine gf_X0_9 rfl (by decide +kernel) ob_93 ?_
  refine Fr_iconst (i := 0) (v := 0) (by decide +kernel) (by decide) ?_
  refine Fr_bipush (i := 60) (v := 60) (by decide +kernel) (by decide) ?_
  refine Fr_acopyI (by decide +kernel) ml_X0_27 (o5_6 hp1) ob_94 (by decide) (by decide) (by decide) (le_len (n5_6 hp1) (by decide)) (le_len ln_94 (by decide)) (by decide) (Nat.le_of_ble_eq_true rfl) ?_
  obtain ⟨M_1, eM_1, h⟩ := bM_elim h
  refine Fr_mem eM_1 ?_
  refine Fr_iconst (i := 0) (v := 0) (by decide +kernel) (by decide) ?_
  refine Fr_istore (i := 4) (lv' := [(4, .int 0), (0, .ref 93), (1, .ref p1), (2, .int x2), (3, .int x3)]) (by decide +kernel) (by decide) rfl ?_
  refine Fr_loc [1, 2, 3, 4, 0] rfl ?_
  exact lp_sound (body := fun k a m => f_X0_firstHour_h18 N p1 k a.1 a.2.1 a.2.2 m) (P := fun a M => Fr 0 111 3 m_X0_firstHour 18 [(0, .ref 93), (1, .ref p1), (2, .int a.1), (3, .int a.2.1), (4, .int a.2.2)] [] M (QI q)) (fun k hk a m h => t_X0_firstHour_h18 hp1 hk h) N (x2, x3, 0) M_1 h
set_option maxRecDepth 20000 in
theorem t_X5_countFoggy_b38 {N : Nat} {p0 : Nat} {p1 : Nat} (hp0 : Ob 0 111 p0 5) (hp1 : Ob 0 111 p1 20) {q : Int32 × Mem} {k10 : Int32 × Int32 × Int32 → Mem → Option (Int32 × Mem)} (hk10 : ∀ (a : Int32 × Int32 × Int32) (M : Mem), k10 a M = some q → Fr 0 111 1 m_X5_countFoggy 10 [(0, .ref p0), (1, .ref p1), (2, .int a.1), (3, .int a.2.1), (4, .int a.2.2)] [] M (QI q)) {v2 : Int32} {v3 : Int32} {v4 : Int32} {M : Mem} (h : f_X5_countFoggy_b38 N p0 p1 k10 v2 v3 v4 M = some q) : Fr 0 111 1 m_X5_countFoggy 38 [(0, .ref p0), (1, .ref p1), (2, .int v2), (3, .int v3), (4, .int v4)] [] M (QI q) := by
  unfold f_X5_countFoggy_b38 at h
  refine Fr_iinc (i := 4) (j := 1) (v := (v4 + 1)) (lv' := [(4, .int (v4 + 1)), (0, .ref p0), (1, .ref p1), (2, .int v2), (3, .int v3)]) 4 (by decide +kernel) rfl rfl (by decide) rfl ?_
  refine Fr_goto (off := (-31)) 10 (by decide +kernel) (by decide) ?_
  refine Fr_loc [1, 2, 3, 4, 0] rfl ?_
  exact hk10 (v2, v3, (v4 + 1)) M h
set_option maxRecDepth 20000 in
theorem t_X5_countFoggy_h10 {N : Nat} {p0 : Nat} {p1 : Nat} (hp0 : Ob 0 111 p0 5) (hp1 : Ob 0 111 p1 20) {q : Int32 × Mem} {k10 : Int32 × Int32 × Int32 → Mem → Option (Int32 × Mem)} (hk10 : ∀ (a : Int32 × Int32 × Int32) (M : Mem), k10 a M = some q → Fr 0 111 1 m_X5_countFoggy 10 [(0, .ref p0), (1, .ref p1), (2, .int a.1), (3, .int a.2.1), (4, .int a.2.2)] [] M (QI q)) {v2 : Int32} {v3 : Int32} {v4 : Int32} {M : Mem} (h : f_X5_countFoggy_h10 N p0 p1 k10 v2 v3 v4 M = some q) : Fr 0 111 1 m_X5_countFoggy 10 [(0, .ref p0), (1, .ref p1), (2, .int v2), (3, .int v3), (4, .int v4)] [] M (QI q) := by
  unfold f_X5_countFoggy_h10 at h
  refine Fr_iload (i := 4) 4 (by decide +kernel) rfl ?_
  refine Fr_iload_n (q := 2) (i := 2) 2 (by decide +kernel) rfl rfl ?_
  refine Fr_icmp_ge (off := 31) 44 (by decide +kernel) (by decide) (fun hc => ?_) (fun hc => ?_)
  · have h := iT hc h
    refine Fr_iload_n (q := 3) (i := 3) 3 (by decide +kernel) rfl rfl ?_
    obtain rfl := Option.some.inj h
    exact Fr_iret (by decide +kernel) rfl ⟨rfl, rfl⟩
  · have h := iF hc h
    refine Fr_aload_n (q := 1) (i := 1) 1 (by decide +kernel) rfl rfl ?_
    refine Fr_iload (i := 4) 4 (by decide +kernel) rfl ?_
    obtain ⟨hi_4, h⟩ := ck_elim h
    refine Fr_iald (by decide +kernel) hp1 (vp_of rfl hi_4) ?_
    refine Fr_aload_n (q := 1) (i := 1) 1 (by decide +kernel) rfl rfl ?_
    refine Fr_bipush (i := 30) (v := 30) (by decide +kernel) (by decide) ?_
    refine Fr_iload (i := 4) 4 (by decide +kernel) rfl ?_
    refine Fr_iadd (by decide +kernel) ?_
    obtain ⟨hi_5, h⟩ := ck_elim h
    refine Fr_iald (by decide +kernel) hp1 (vp_of rfl hi_5) ?_
    refine Fr_iadd (by decide +kernel) ?_
    refine Fr_aload_n (q := 0) (i := 0) 0 (by decide +kernel) rfl rfl ?_
    refine gf_X5_42 rfl (by decide +kernel) hp0 ?_
    refine Fr_icmp_lt (off := 6) 38 (by decide +kernel) (by decide) (fun hc => ?_) (fun hc => ?_)
    · have h := iT hc h
      exact t_X5_countFoggy_b38 hp0 hp1 hk10 h
    · have h := iF hc h
      refine Fr_iinc (i := 3) (j := 1) (v := (v3 + 1)) (lv' := [(3, .int (v3 + 1)), (0, .ref p0), (1, .ref p1), (2, .int v2), (4, .int v4)]) 3 (by decide +kernel) rfl rfl (by decide) rfl ?_
      refine Fr_loc [1, 2, 3, 0, 4] rfl ?_
      exact t_X5_countFoggy_b38 hp0 hp1 hk10 h
set_option maxRecDepth 20000 in
theorem t_X5_countFoggy {N : Nat} {p0 : Nat} {p1 : Nat} (hp0 : Ob 0 111 p0 5) (hp1 : Ob 0 111 p1 20) {M : Mem} {q : Int32 × Mem} (h : f_X5_countFoggy N p0 p1 M = some q) : Ev 0 111 1 m_X5_countFoggy [.ref p0, .ref p1] M (QI q) := by
  refine Ev_of_Fr (by decide +kernel) (Nat.le_of_ble_eq_true rfl) ?_
  show Fr 0 111 1 m_X5_countFoggy 0 [(0, .ref p0), (1, .ref p1)] [] M (QI q)
  unfold f_X5_countFoggy at h
  refine Fr_aload_n (q := 0) (i := 0) 0 (by decide +kernel) rfl rfl ?_
  obtain ⟨r_3, M_1, hc_2, h⟩ := bi_elim h
  refine Fr_cVi (ν := m_X5_boardCount) (As := []) (st := []) (rc := p0) (ci := 5) (d' := 0) (by decide +kernel) ml_X5_117 cv_X5_boardCount rfl (by decide) rfl hp0 rfl (by decide) (Nat.le_of_ble_eq_true rfl) (t_X5_boardCount hp0 hc_2) ?_
  refine Fr_istore_n (q := 2) (i := 2) (lv' := [(2, .int r_3), (0, .ref p0), (1, .ref p1)]) (by decide +kernel) rfl (by decide) rfl ?_
  refine Fr_iconst (i := 0) (v := 0) (by decide +kernel) (by decide) ?_
  refine Fr_istore_n (q := 3) (i := 3) (lv' := [(3, .int 0), (2, .int r_3), (0, .ref p0), (1, .ref p1)]) (by decide +kernel) rfl (by decide) rfl ?_
  refine Fr_iconst (i := 0) (v := 0) (by decide +kernel) (by decide) ?_
  refine Fr_istore (i := 4) (lv' := [(4, .int 0), (3, .int 0), (2, .int r_3), (0, .ref p0), (1, .ref p1)]) (by decide +kernel) (by decide) rfl ?_
  refine Fr_loc [3, 4, 2, 1, 0] rfl ?_
  exact lp_sound (body := fun k a m => f_X5_countFoggy_h10 N p0 p1 k a.1 a.2.1 a.2.2 m) (P := fun a M => Fr 0 111 1 m_X5_countFoggy 10 [(0, .ref p0), (1, .ref p1), (2, .int a.1), (3, .int a.2.1), (4, .int a.2.2)] [] M (QI q)) (fun k hk a m h => t_X5_countFoggy_h10 hp0 hp1 hk h) N (r_3, 0, 0) M_1 h
set_option maxRecDepth 20000 in
theorem t_X0_foggiestHour_b68 {N : Nat} {p1 : Nat} (hp1 : Ob 0 111 p1 5) {q : Int32 × Mem} {k23 : Int32 × Int32 × Int32 × Int32 → Mem → Option (Int32 × Mem)} (hk23 : ∀ (a : Int32 × Int32 × Int32 × Int32) (M : Mem), k23 a M = some q → Fr 0 111 3 m_X0_foggiestHour 23 [(0, .ref 93), (1, .ref p1), (2, .int a.1), (3, .int a.2.1), (4, .int a.2.2.1), (5, .int a.2.2.2)] [] M (QI q)) {v2 : Int32} {v3 : Int32} {v4 : Int32} {v5 : Int32} {M : Mem} (h : f_X0_foggiestHour_b68 N p1 k23 v2 v3 v4 v5 M = some q) : Fr 0 111 3 m_X0_foggiestHour 68 [(0, .ref 93), (1, .ref p1), (2, .int v2), (3, .int v3), (4, .int v4), (5, .int v5)] [] M (QI q) := by
  unfold f_X0_foggiestHour_b68 at h
  refine Fr_iinc (i := 5) (j := 1) (v := (v5 + 1)) (lv' := [(5, .int (v5 + 1)), (0, .ref 93), (1, .ref p1), (2, .int v2), (3, .int v3), (4, .int v4)]) 5 (by decide +kernel) rfl rfl (by decide) rfl ?_
  refine Fr_goto (off := (-48)) 23 (by decide +kernel) (by decide) ?_
  refine Fr_loc [1, 2, 3, 4, 5, 0] rfl ?_
  exact hk23 (v2, v3, v4, (v5 + 1)) M h
set_option maxRecDepth 20000 in
theorem t_X0_foggiestHour_h23 {N : Nat} {p1 : Nat} (hp1 : Ob 0 111 p1 5) {q : Int32 × Mem} {k23 : Int32 × Int32 × Int32 × Int32 → Mem → Option (Int32 × Mem)} (hk23 : ∀ (a : Int32 × Int32 × Int32 × Int32) (M : Mem), k23 a M = some q → Fr 0 111 3 m_X0_foggiestHour 23 [(0, .ref 93), (1, .ref p1), (2, .int a.1), (3, .int a.2.1), (4, .int a.2.2.1), (5, .int a.2.2.2)] [] M (QI q)) {v2 : Int32} {v3 : Int32} {v4 : Int32} {v5 : Int32} {M : Mem} (h : f_X0_foggiestHour_h23 N p1 k23 v2 v3 v4 v5 M = some q) : Fr 0 111 3 m_X0_foggiestHour 23 [(0, .ref 93), (1, .ref p1), (2, .int v2), (3, .int v3), (4, .int v4), (5, .int v5)] [] M (QI q) := by
  unfold f_X0_foggiestHour_h23 at h
  refine Fr_iload (i := 5) 5 (by decide +kernel) rfl ?_
  refine Fr_iload_n (q := 2) (i := 2) 2 (by decide +kernel) rfl rfl ?_
  refine Fr_icmp_gt (off := 48) 74 (by decide +kernel) (by decide) (fun hc => ?_) (fun hc => ?_)
  · have h := iT hc h
    refine Fr_iload (i := 4) 4 (by decide +kernel) rfl ?_
    obtain rfl := Option.some.inj h
    exact Fr_iret (by decide +kernel) rfl ⟨rfl, rfl⟩
  · have h := iF hc h
    refine Fr_aload_n (q := 0) (i := 0) 0 (by decide +kernel) rfl rfl ?_
    refine gf_X0_18 rfl (by decide +kernel) ob_93 ?_
    refine Fr_aload_n (q := 1) (i := 1) 1 (by decide +kernel) rfl rfl ?_
    refine Fr_aload_n (q := 0) (i := 0) 0 (by decide +kernel) rfl rfl ?_
    refine gf_X0_9 rfl (by decide +kernel) ob_93 ?_
    refine Fr_aload_n (q := 1) (i := 1) 1 (by decide +kernel) rfl rfl ?_
    refine gf_X0_33 rfl (by decide +kernel) hp1 ?_
    obtain ⟨M_2, hc_3, h⟩ := bv_elim h
    refine Fr_cVv (ν := m_X10_passHour) (As := [.ref p1, .ref 94, .int (M.1 p1 6)]) (st := []) (rc := 90) (ci := 10) (d' := 2) (by decide +kernel) ml_X0_37 cv_X10_passHour rfl (by decide) rfl ob_90 rfl (by decide) (Nat.le_of_ble_eq_true rfl) (t_X10_passHour hp1 ob_94 hc_3) ?_
    refine Fr_aload_n (q := 1) (i := 1) 1 (by decide +kernel) rfl rfl ?_
    refine Fr_aload_n (q := 0) (i := 0) 0 (by decide +kernel) rfl rfl ?_
    refine gf_X0_9 rfl (by decide +kernel) ob_93 ?_
    obtain ⟨r_6, M_4, hc_5, h⟩ := bi_elim h
    refine Fr_cVi (ν := m_X5_countFoggy) (As := [.ref 94]) (st := []) (rc := p1) (ci := 5) (d' := 1) (by decide +kernel) ml_X0_47 cv_X5_countFoggy rfl (by decide) rfl hp1 rfl (by decide) (Nat.le_of_ble_eq_true rfl) (t_X5_countFoggy hp1 ob_94 hc_5) ?_
    refine Fr_istore (i := 6) (lv' := [(6, .int r_6), (0, .ref 93), (1, .ref p1), (2, .int v2), (3, .int v3), (4, .int v4), (5, .int v5)]) (by decide +kernel) (by decide) rfl ?_
    refine Fr_iload (i := 6) 0 (by decide +kernel) rfl ?_
    refine Fr_iload_n (q := 3) (i := 3) 4 (by decide +kernel) rfl rfl ?_
    refine Fr_icmp_le (off := 10) 68 (by decide +kernel) (by decide) (fun hc => ?_) (fun hc => ?_)
    · have h := iT hc h
      refine Fr_loc [1, 2, 3, 4, 5, 6] rfl ?_
      exact t_X0_foggiestHour_b68 hp1 hk23 h
    · have h := iF hc h
      refine Fr_iload (i := 6) 0 (by decide +kernel) rfl ?_
      refine Fr_istore_n (q := 3) (i := 3) (lv' := [(3, .int r_6), (6, .int r_6), (0, .ref 93), (1, .ref p1), (2, .int v2), (4, .int v4), (5, .int v5)]) (by decide +kernel) rfl (by decide) rfl ?_
      refine Fr_iload (i := 5) 6 (by decide +kernel) rfl ?_
      refine Fr_istore (i := 4) (lv' := [(4, .int v5), (3, .int r_6), (6, .int r_6), (0, .ref 93), (1, .ref p1), (2, .int v2), (5, .int v5)]) (by decide +kernel) (by decide) rfl ?_
      refine Fr_loc [3, 4, 5, 1, 0, 6] rfl ?_
      exact t_X0_foggiestHour_b68 hp1 hk23 h
set_option maxRecDepth 20000 in
theorem t_X0_foggiestHour {N : Nat} {p1 : Nat} {x2 : Int32} (hp1 : Ob 0 111 p1 5) {M : Mem} {q : Int32 × Mem} (h : f_X0_foggiestHour N p1 x2 M = some q) : Ev 0 111 3 m_X0_foggiestHour [.ref 93, .ref p1, .int x2] M (QI q) := by
  refine Ev_of_Fr (by decide +kernel) (Nat.le_of_ble_eq_true rfl) ?_
  show Fr 0 111 3 m_X0_foggiestHour 0 [(0, .ref 93), (1, .ref p1), (2, .int x2)] [] M (QI q)
  unfold f_X0_foggiestHour at h
  refine Fr_aload_n (q := 1) (i := 1) 1 (by decide +kernel) rfl rfl ?_
  refine gf_X0_22 rfl (by decide +kernel) hp1 ?_
  refine Fr_iconst (i := 0) (v := 0) (by decide +kernel) (by decide) ?_
  refine Fr_aload_n (q := 0) (i := 0) 0 (by decide +kernel) rfl rfl ?_
  refine gf_X0_9 rfl (by decide +kernel) ob_93 ?_
  refine Fr_iconst (i := 0) (v := 0) (by decide +kernel) (by decide) ?_
  refine Fr_bipush (i := 60) (v := 60) (by decide +kernel) (by decide) ?_
  refine Fr_acopyI (by decide +kernel) ml_X0_27 (o5_6 hp1) ob_94 (by decide) (by decide) (by decide) (le_len (n5_6 hp1) (by decide)) (le_len ln_94 (by decide)) (by decide) (Nat.le_of_ble_eq_true rfl) ?_
  obtain ⟨M_1, eM_1, h⟩ := bM_elim h
  refine Fr_mem eM_1 ?_
  refine Fr_iconst (i := (-1)) (v := (-1)) (by decide +kernel) (by decide) ?_
  refine Fr_istore_n (q := 3) (i := 3) (lv' := [(3, .int (-1)), (0, .ref 93), (1, .ref p1), (2, .int x2)]) (by decide +kernel) rfl (by decide) rfl ?_
  refine Fr_iconst (i := 1) (v := 1) (by decide +kernel) (by decide) ?_
  refine Fr_istore (i := 4) (lv' := [(4, .int 1), (3, .int (-1)), (0, .ref 93), (1, .ref p1), (2, .int x2)]) (by decide +kernel) (by decide) rfl ?_
  refine Fr_iconst (i := 1) (v := 1) (by decide +kernel) (by decide) ?_
  refine Fr_istore (i := 5) (lv' := [(5, .int 1), (4, .int 1), (3, .int (-1)), (0, .ref 93), (1, .ref p1), (2, .int x2)]) (by decide +kernel) (by decide) rfl ?_
  refine Fr_loc [3, 4, 5, 2, 1, 0] rfl ?_
  exact lp_sound (body := fun k a m => f_X0_foggiestHour_h23 N p1 k a.1 a.2.1 a.2.2.1 a.2.2.2 m) (P := fun a M => Fr 0 111 3 m_X0_foggiestHour 23 [(0, .ref 93), (1, .ref p1), (2, .int a.1), (3, .int a.2.1), (4, .int a.2.2.1), (5, .int a.2.2.2)] [] M (QI q)) (fun k hk a m h => t_X0_foggiestHour_h23 hp1 hk h) N (x2, (-1), 1, 1) M_1 h
set_option maxRecDepth 20000 in
theorem t_X5_payOf_b35 {N : Nat} {p0 : Nat} (hp0 : Ob 0 111 p0 5) {q : Int32 × Mem} {k4 : Int32 × Int32 × Int32 → Mem → Option (Int32 × Mem)} (hk4 : ∀ (a : Int32 × Int32 × Int32) (M : Mem), k4 a M = some q → Fr 0 111 0 m_X5_payOf 4 [(0, .ref p0), (1, .int a.1), (2, .int a.2.1), (3, .int a.2.2)] [] M (QI q)) {v1 : Int32} {v2 : Int32} {v3 : Int32} {M : Mem} (h : f_X5_payOf_b35 N p0 k4 v1 v2 v3 M = some q) : Fr 0 111 0 m_X5_payOf 35 [(0, .ref p0), (1, .int v1), (2, .int v2), (3, .int v3)] [] M (QI q) := by
  unfold f_X5_payOf_b35 at h
  refine Fr_iinc (i := 3) (j := 1) (v := (v3 + 1)) (lv' := [(3, .int (v3 + 1)), (0, .ref p0), (1, .int v1), (2, .int v2)]) 3 (by decide +kernel) rfl rfl (by decide) rfl ?_
  refine Fr_goto (off := (-34)) 4 (by decide +kernel) (by decide) ?_
  refine Fr_loc [1, 2, 3, 0] rfl ?_
  exact hk4 (v1, v2, (v3 + 1)) M h
set_option maxRecDepth 20000 in
theorem t_X5_payOf_h4 {N : Nat} {p0 : Nat} (hp0 : Ob 0 111 p0 5) {q : Int32 × Mem} {k4 : Int32 × Int32 × Int32 → Mem → Option (Int32 × Mem)} (hk4 : ∀ (a : Int32 × Int32 × Int32) (M : Mem), k4 a M = some q → Fr 0 111 0 m_X5_payOf 4 [(0, .ref p0), (1, .int a.1), (2, .int a.2.1), (3, .int a.2.2)] [] M (QI q)) {v1 : Int32} {v2 : Int32} {v3 : Int32} {M : Mem} (h : f_X5_payOf_h4 N p0 k4 v1 v2 v3 M = some q) : Fr 0 111 0 m_X5_payOf 4 [(0, .ref p0), (1, .int v1), (2, .int v2), (3, .int v3)] [] M (QI q) := by
  unfold f_X5_payOf_h4 at h
  refine Fr_iload_n (q := 3) (i := 3) 3 (by decide +kernel) rfl rfl ?_
  refine Fr_aload_n (q := 0) (i := 0) 0 (by decide +kernel) rfl rfl ?_
  refine gf_X5_66 rfl (by decide +kernel) hp0 ?_
  refine Fr_icmp_ge (off := 32) 41 (by decide +kernel) (by decide) (fun hc => ?_) (fun hc => ?_)
  · have h := iT hc h
    refine Fr_iload_n (q := 2) (i := 2) 2 (by decide +kernel) rfl rfl ?_
    obtain rfl := Option.some.inj h
    exact Fr_iret (by decide +kernel) rfl ⟨rfl, rfl⟩
  · have h := iF hc h
    refine Fr_iload_n (q := 1) (i := 1) 1 (by decide +kernel) rfl rfl ?_
    refine Fr_iload_n (q := 3) (i := 3) 3 (by decide +kernel) rfl rfl ?_
    refine Fr_ishr (by decide +kernel) ?_
    refine Fr_iconst (i := 1) (v := 1) (by decide +kernel) (by decide) ?_
    refine Fr_iand (by decide +kernel) ?_
    refine Fr_iconst (i := 1) (v := 1) (by decide +kernel) (by decide) ?_
    refine Fr_icmp_ne (off := 17) 35 (by decide +kernel) (by decide) (fun hc => ?_) (fun hc => ?_)
    · have h := iF hc h
      exact t_X5_payOf_b35 hp0 hk4 h
    · have h := iT hc h
      refine Fr_iload_n (q := 2) (i := 2) 2 (by decide +kernel) rfl rfl ?_
      refine Fr_aload_n (q := 0) (i := 0) 0 (by decide +kernel) rfl rfl ?_
      refine gf_X5_22 rfl (by decide +kernel) hp0 ?_
      refine Fr_iload_n (q := 3) (i := 3) 3 (by decide +kernel) rfl rfl ?_
      refine Fr_bipush (i := 6) (v := 6) (by decide +kernel) (by decide) ?_
      refine Fr_imul (by decide +kernel) ?_
      refine Fr_iconst (i := 4) (v := 4) (by decide +kernel) (by decide) ?_
      refine Fr_iadd (by decide +kernel) ?_
      obtain ⟨hi_1, h⟩ := ck_elim h
      refine Fr_iald (by decide +kernel) (o5_4 hp0) (vp_of (n5_4 hp0) hi_1) ?_
      refine Fr_iadd (by decide +kernel) ?_
      obtain ⟨y_2, ey_2, h⟩ := bI_elim h
      refine Fr_topI ey_2 ?_
      refine Fr_istore_n (q := 2) (i := 2) (lv' := [(2, .int y_2), (0, .ref p0), (1, .int v1), (3, .int v3)]) (by decide +kernel) rfl (by decide) rfl ?_
      refine Fr_loc [1, 2, 0, 3] rfl ?_
      exact t_X5_payOf_b35 hp0 hk4 h
set_option maxRecDepth 20000 in
theorem t_X5_payOf {N : Nat} {p0 : Nat} {x1 : Int32} (hp0 : Ob 0 111 p0 5) {M : Mem} {q : Int32 × Mem} (h : f_X5_payOf N p0 x1 M = some q) : Ev 0 111 0 m_X5_payOf [.ref p0, .int x1] M (QI q) := by
  refine Ev_of_Fr (by decide +kernel) (Nat.le_of_ble_eq_true rfl) ?_
  show Fr 0 111 0 m_X5_payOf 0 [(0, .ref p0), (1, .int x1)] [] M (QI q)
  unfold f_X5_payOf at h
  refine Fr_iconst (i := 0) (v := 0) (by decide +kernel) (by decide) ?_
  refine Fr_istore_n (q := 2) (i := 2) (lv' := [(2, .int 0), (0, .ref p0), (1, .int x1)]) (by decide +kernel) rfl (by decide) rfl ?_
  refine Fr_iconst (i := 0) (v := 0) (by decide +kernel) (by decide) ?_
  refine Fr_istore_n (q := 3) (i := 3) (lv' := [(3, .int 0), (2, .int 0), (0, .ref p0), (1, .int x1)]) (by decide +kernel) rfl (by decide) rfl ?_
  refine Fr_loc [2, 3, 1, 0] rfl ?_
  exact lp_sound (body := fun k a m => f_X5_payOf_h4 N p0 k a.1 a.2.1 a.2.2 m) (P := fun a M => Fr 0 111 0 m_X5_payOf 4 [(0, .ref p0), (1, .int a.1), (2, .int a.2.1), (3, .int a.2.2)] [] M (QI q)) (fun k hk a m h => t_X5_payOf_h4 hp0 hk h) N (x1, 0, 0) M h
set_option maxRecDepth 20000 in
theorem t_X0_begin_h46 {N : Nat} {p1 : Nat} (hp1 : Ob 0 111 p1 5) {q : Mem} {k46 : Int32 → Mem → Option (Mem)} (hk46 : ∀ (a : Int32) (M : Mem), k46 a M = some q → Fr 0 111 1 m_X0_begin 46 [(0, .ref 93), (1, .ref p1), (2, .int a)] [] M (QV q)) {v2 : Int32} {M : Mem} (h : f_X0_begin_h46 N p1 k46 v2 M = some q) : Fr 0 111 1 m_X0_begin 46 [(0, .ref 93), (1, .ref p1), (2, .int v2)] [] M (QV q) := by
  unfold f_X0_begin_h46 at h
  refine Fr_iload_n (q := 2) (i := 2) 2 (by decide +kernel) rfl rfl ?_
  refine Fr_aload_n (q := 1) (i := 1) 1 (by decide +kernel) rfl rfl ?_
  refine gf_X0_91 rfl (by decide +kernel) hp1 ?_
  refine Fr_icmp_ge (off := 31) 82 (by decide +kernel) (by decide) (fun hc => ?_) (fun hc => ?_)
  · have h := iT hc h
    obtain rfl := Option.some.inj h
    exact Fr_vret (by decide +kernel) rfl ⟨rfl, rfl⟩
  · have h := iF hc h
    refine Fr_aload_n (q := 0) (i := 0) 0 (by decide +kernel) rfl rfl ?_
    refine Fr_aload_n (q := 0) (i := 0) 0 (by decide +kernel) rfl rfl ?_
    refine gf_X0_97 rfl (by decide +kernel) ob_93 ?_
    refine Fr_aload_n (q := 1) (i := 1) 1 (by decide +kernel) rfl rfl ?_
    refine gf_X0_100 rfl (by decide +kernel) hp1 ?_
    refine Fr_iload_n (q := 2) (i := 2) 2 (by decide +kernel) rfl rfl ?_
    refine Fr_bipush (i := 6) (v := 6) (by decide +kernel) (by decide) ?_
    refine Fr_imul (by decide +kernel) ?_
    refine Fr_iconst (i := 3) (v := 3) (by decide +kernel) (by decide) ?_
    refine Fr_iadd (by decide +kernel) ?_
    obtain ⟨hi_8, h⟩ := ck_elim h
    refine Fr_iald (by decide +kernel) (o5_4 hp1) (vp_of (n5_4 hp1) hi_8) ?_
    refine Fr_max (by decide +kernel) ml_X0_103 (by decide) (Nat.le_of_ble_eq_true rfl) ?_
    refine pf_X0_97 rfl (by decide +kernel) ob_93 ?_
    obtain ⟨M_9, eM_9, h⟩ := bM_elim h
    refine Fr_mem eM_9 ?_
    refine Fr_iinc (i := 2) (j := 1) (v := (v2 + 1)) (lv' := [(2, .int (v2 + 1)), (0, .ref 93), (1, .ref p1)]) 2 (by decide +kernel) rfl rfl (by decide) rfl ?_
    refine Fr_goto (off := (-33)) 46 (by decide +kernel) (by decide) ?_
    refine Fr_loc [1, 2, 0] rfl ?_
    exact hk46 (v2 + 1) M_9 h
set_option maxRecDepth 20000 in
theorem t_X0_begin {N : Nat} {p1 : Nat} (hp1 : Ob 0 111 p1 5) {M : Mem} {q : Mem} (h : f_X0_begin N p1 M = some q) : Ev 0 111 1 m_X0_begin [.ref 93, .ref p1] M (QV q) := by
  refine Ev_of_Fr (by decide +kernel) (Nat.le_of_ble_eq_true rfl) ?_
  show Fr 0 111 1 m_X0_begin 0 [(0, .ref 93), (1, .ref p1)] [] M (QV q)
  unfold f_X0_begin at h
  refine Fr_aload_n (q := 1) (i := 1) 1 (by decide +kernel) rfl rfl ?_
  refine gf_X0_22 rfl (by decide +kernel) hp1 ?_
  refine Fr_iconst (i := 0) (v := 0) (by decide +kernel) (by decide) ?_
  refine Fr_aload_n (q := 0) (i := 0) 0 (by decide +kernel) rfl rfl ?_
  refine gf_X0_9 rfl (by decide +kernel) ob_93 ?_
  refine Fr_iconst (i := 0) (v := 0) (by decide +kernel) (by decide) ?_
  refine Fr_bipush (i := 60) (v := 60) (by decide +kernel) (by decide) ?_
  refine Fr_acopyI (by decide +kernel) ml_X0_27 (o5_6 hp1) ob_94 (by decide) (by decide) (by decide) (le_len (n5_6 hp1) (by decide)) (le_len ln_94 (by decide)) (by decide) (Nat.le_of_ble_eq_true rfl) ?_
  obtain ⟨M_1, eM_1, h⟩ := bM_elim h
  refine Fr_mem eM_1 ?_
  refine Fr_aload_n (q := 0) (i := 0) 0 (by decide +kernel) rfl rfl ?_
  refine Fr_iconst (i := 1) (v := 1) (by decide +kernel) (by decide) ?_
  refine Fr_aload_n (q := 1) (i := 1) 1 (by decide +kernel) rfl rfl ?_
  refine gf_X0_91 rfl (by decide +kernel) hp1 ?_
  refine Fr_ishl (by decide +kernel) ?_
  refine Fr_iconst (i := 1) (v := 1) (by decide +kernel) (by decide) ?_
  refine Fr_isub (by decide +kernel) ?_
  refine pf_X0_59 rfl (by decide +kernel) ob_93 ?_
  obtain ⟨M_2, eM_2, h⟩ := bM_elim h
  refine Fr_mem eM_2 ?_
  refine Fr_aload_n (q := 0) (i := 0) 0 (by decide +kernel) rfl rfl ?_
  refine Fr_aload_n (q := 1) (i := 1) 1 (by decide +kernel) rfl rfl ?_
  refine Fr_aload_n (q := 0) (i := 0) 0 (by decide +kernel) rfl rfl ?_
  refine gf_X0_59 rfl (by decide +kernel) ob_93 ?_
  obtain ⟨r_5, M_3, hc_4, h⟩ := bi_elim h
  refine Fr_cVi (ν := m_X5_payOf) (As := [.int (M_2.1 93 3)]) (st := [.ref 93]) (rc := p1) (ci := 5) (d' := 0) (by decide +kernel) ml_X0_94 cv_X5_payOf rfl (by decide) rfl hp1 rfl (by decide) (Nat.le_of_ble_eq_true rfl) (t_X5_payOf hp1 hc_4) ?_
  refine pf_X0_81 rfl (by decide +kernel) ob_93 ?_
  obtain ⟨M_6, eM_6, h⟩ := bM_elim h
  refine Fr_mem eM_6 ?_
  refine Fr_aload_n (q := 0) (i := 0) 0 (by decide +kernel) rfl rfl ?_
  refine Fr_iconst (i := 0) (v := 0) (by decide +kernel) (by decide) ?_
  refine pf_X0_97 rfl (by decide +kernel) ob_93 ?_
  obtain ⟨M_7, eM_7, h⟩ := bM_elim h
  refine Fr_mem eM_7 ?_
  refine Fr_iconst (i := 0) (v := 0) (by decide +kernel) (by decide) ?_
  refine Fr_istore_n (q := 2) (i := 2) (lv' := [(2, .int 0), (0, .ref 93), (1, .ref p1)]) (by decide +kernel) rfl (by decide) rfl ?_
  refine Fr_loc [1, 2, 0] rfl ?_
  exact lp_sound (body := fun k a m => f_X0_begin_h46 N p1 k a m) (P := fun a M => Fr 0 111 1 m_X0_begin 46 [(0, .ref 93), (1, .ref p1), (2, .int a)] [] M (QV q)) (fun k hk a m h => t_X0_begin_h46 hp1 hk h) N 0 M_7 h
set_option maxRecDepth 20000 in
theorem t_X0_spoil_b154 {N : Nat} {p1 : Nat} (hp1 : Ob 0 111 p1 5) {q : Mem} {k2 : Int32 × Int32 → Mem → Option (Mem)} (hk2 : ∀ (a : Int32 × Int32) (M : Mem), k2 a M = some q → Fr 0 111 2 m_X0_spoil 2 [(0, .ref 93), (1, .ref p1), (2, .int a.1), (3, .int a.2)] [] M (QV q)) {v2 : Int32} {v3 : Int32} {M : Mem} (h : f_X0_spoil_b154 N p1 k2 v2 v3 M = some q) : Fr 0 111 2 m_X0_spoil 154 [(0, .ref 93), (1, .ref p1), (2, .int v2), (3, .int v3)] [] M (QV q) := by
  unfold f_X0_spoil_b154 at h
  refine Fr_iinc (i := 3) (j := 1) (v := (v3 + 1)) (lv' := [(3, .int (v3 + 1)), (0, .ref 93), (1, .ref p1), (2, .int v2)]) 3 (by decide +kernel) rfl rfl (by decide) rfl ?_
  refine Fr_goto (off := (-155)) 2 (by decide +kernel) (by decide) ?_
  refine Fr_loc [1, 2, 3, 0] rfl ?_
  exact hk2 (v2, (v3 + 1)) M h
set_option maxRecDepth 20000 in
theorem t_X0_spoil_b105 {N : Nat} {p1 : Nat} (hp1 : Ob 0 111 p1 5) {q : Mem} {k2 : Int32 × Int32 → Mem → Option (Mem)} (hk2 : ∀ (a : Int32 × Int32) (M : Mem), k2 a M = some q → Fr 0 111 2 m_X0_spoil 2 [(0, .ref 93), (1, .ref p1), (2, .int a.1), (3, .int a.2)] [] M (QV q)) {v2 : Int32} {v3 : Int32} {v4 : Int32} {v6 : Int32} {s0 : Int32} {M : Mem} (h : f_X0_spoil_b105 N p1 k2 v2 v3 v4 v6 s0 M = some q) : Fr 0 111 2 m_X0_spoil 105 [(0, .ref 93), (1, .ref p1), (2, .int v2), (3, .int v3), (4, .int v4), (6, .int v6)] [.int s0] M (QV q) := by
  unfold f_X0_spoil_b105 at h
  refine Fr_istore (i := 7) (lv' := [(7, .int s0), (0, .ref 93), (1, .ref p1), (2, .int v2), (3, .int v3), (4, .int v4), (6, .int v6)]) (by decide +kernel) (by decide) rfl ?_
  refine Fr_aload_n (q := 1) (i := 1) 2 (by decide +kernel) rfl rfl ?_
  refine Fr_aload_n (q := 0) (i := 0) 1 (by decide +kernel) rfl rfl ?_
  refine gf_X0_9 rfl (by decide +kernel) ob_93 ?_
  refine Fr_iload (i := 6) 6 (by decide +kernel) rfl ?_
  obtain ⟨r_10, M_8, hc_9, h⟩ := bi_elim h
  refine Fr_cVb (ν := m_X5_isFoggy) (As := [.ref 94, .int v6]) (st := []) (rc := p1) (ci := 5) (d' := 1) (by decide +kernel) ml_X0_43 cv_X5_isFoggy rfl (by decide) rfl hp1 rfl (by decide) (Nat.le_of_ble_eq_true rfl) (t_X5_isFoggy hp1 ob_94 hc_9) ?_
  refine Fr_iload (i := 7) 0 (by decide +kernel) rfl ?_
  refine Fr_icmp_eq (off := 35) 154 (by decide +kernel) (by decide) (fun hc => ?_) (fun hc => ?_)
  · have h := iT hc h
    refine Fr_loc [1, 2, 3, 4] rfl ?_
    exact t_X0_spoil_b154 hp1 hk2 h
  · have h := iF hc h
    refine Fr_aload_n (q := 0) (i := 0) 1 (by decide +kernel) rfl rfl ?_
    refine Fr_dup (by decide +kernel) rfl ?_
    refine gf_X0_59 rfl (by decide +kernel) ob_93 ?_
    refine Fr_iconst (i := 1) (v := 1) (by decide +kernel) (by decide) ?_
    refine Fr_iload_n (q := 3) (i := 3) 4 (by decide +kernel) rfl rfl ?_
    refine Fr_ishl (by decide +kernel) ?_
    refine Fr_iconst (i := (-1)) (v := (-1)) (by decide +kernel) (by decide) ?_
    refine Fr_ixor (by decide +kernel) ?_
    refine Fr_iand (by decide +kernel) ?_
    refine pf_X0_59 rfl (by decide +kernel) ob_93 ?_
    obtain ⟨M_11, eM_11, h⟩ := bM_elim h
    refine Fr_mem eM_11 ?_
    refine Fr_aload_n (q := 0) (i := 0) 1 (by decide +kernel) rfl rfl ?_
    refine Fr_dup (by decide +kernel) rfl ?_
    refine gf_X0_81 rfl (by decide +kernel) ob_93 ?_
    refine Fr_aload_n (q := 1) (i := 1) 2 (by decide +kernel) rfl rfl ?_
    refine gf_X0_100 rfl (by decide +kernel) hp1 ?_
    refine Fr_iload (i := 4) 5 (by decide +kernel) rfl ?_
    refine Fr_iconst (i := 4) (v := 4) (by decide +kernel) (by decide) ?_
    refine Fr_iadd (by decide +kernel) ?_
    obtain ⟨hi_12, h⟩ := ck_elim h
    refine Fr_iald (by decide +kernel) (o5_4 hp1) (vp_of (n5_4 hp1) hi_12) ?_
    refine Fr_isub (by decide +kernel) ?_
    refine pf_X0_81 rfl (by decide +kernel) ob_93 ?_
    obtain ⟨M_13, eM_13, h⟩ := bM_elim h
    refine Fr_mem eM_13 ?_
    refine Fr_loc [1, 2, 3, 4] rfl ?_
    exact t_X0_spoil_b154 hp1 hk2 h
set_option maxRecDepth 20000 in
theorem t_X0_spoil_b47 {N : Nat} {p1 : Nat} (hp1 : Ob 0 111 p1 5) {q : Mem} {k2 : Int32 × Int32 → Mem → Option (Mem)} (hk2 : ∀ (a : Int32 × Int32) (M : Mem), k2 a M = some q → Fr 0 111 2 m_X0_spoil 2 [(0, .ref 93), (1, .ref p1), (2, .int a.1), (3, .int a.2)] [] M (QV q)) {v2 : Int32} {v3 : Int32} {v4 : Int32} {s0 : Int32} {M : Mem} (h : f_X0_spoil_b47 N p1 k2 v2 v3 v4 s0 M = some q) : Fr 0 111 2 m_X0_spoil 47 [(0, .ref 93), (1, .ref p1), (2, .int v2), (3, .int v3), (4, .int v4)] [.int s0] M (QV q) := by
  unfold f_X0_spoil_b47 at h
  refine Fr_istore (i := 5) (lv' := [(5, .int s0), (0, .ref 93), (1, .ref p1), (2, .int v2), (3, .int v3), (4, .int v4)]) (by decide +kernel) (by decide) rfl ?_
  refine Fr_iload (i := 5) 0 (by decide +kernel) rfl ?_
  refine Fr_if_eq (off := 103) 154 (by decide +kernel) (by decide) (fun hc => ?_) (fun hc => ?_)
  · have h := iT hc h
    refine Fr_loc [1, 2, 3, 4] rfl ?_
    exact t_X0_spoil_b154 hp1 hk2 h
  · have h := iF hc h
    refine Fr_aload_n (q := 0) (i := 0) 1 (by decide +kernel) rfl rfl ?_
    refine gf_X0_59 rfl (by decide +kernel) ob_93 ?_
    refine Fr_iload_n (q := 3) (i := 3) 4 (by decide +kernel) rfl rfl ?_
    refine Fr_ishr (by decide +kernel) ?_
    refine Fr_iconst (i := 1) (v := 1) (by decide +kernel) (by decide) ?_
    refine Fr_iand (by decide +kernel) ?_
    refine Fr_iconst (i := 1) (v := 1) (by decide +kernel) (by decide) ?_
    refine Fr_icmp_ne (off := 91) 154 (by decide +kernel) (by decide) (fun hc => ?_) (fun hc => ?_)
    · have h := iF hc h
      refine Fr_loc [1, 2, 3, 4] rfl ?_
      exact t_X0_spoil_b154 hp1 hk2 h
    · have h := iT hc h
      refine Fr_aload_n (q := 1) (i := 1) 2 (by decide +kernel) rfl rfl ?_
      refine Fr_aload_n (q := 1) (i := 1) 2 (by decide +kernel) rfl rfl ?_
      refine gf_X0_100 rfl (by decide +kernel) hp1 ?_
      refine Fr_iload (i := 4) 5 (by decide +kernel) rfl ?_
      obtain ⟨hi_2, h⟩ := ck_elim h
      refine Fr_iald (by decide +kernel) (o5_4 hp1) (vp_of (n5_4 hp1) hi_2) ?_
      refine Fr_aload_n (q := 1) (i := 1) 2 (by decide +kernel) rfl rfl ?_
      refine gf_X0_100 rfl (by decide +kernel) hp1 ?_
      refine Fr_iload (i := 4) 5 (by decide +kernel) rfl ?_
      refine Fr_iconst (i := 1) (v := 1) (by decide +kernel) (by decide) ?_
      refine Fr_iadd (by decide +kernel) ?_
      obtain ⟨hi_3, h⟩ := ck_elim h
      refine Fr_iald (by decide +kernel) (o5_4 hp1) (vp_of (n5_4 hp1) hi_3) ?_
      obtain ⟨r_6, M_4, hc_5, h⟩ := bi_elim h
      refine Fr_cVi (ν := m_X5_boardAt) (As := [.int (M.1 (p1 + 4) (tn v4)), .int (M.1 (p1 + 4) (tn (v4 + 1)))]) (st := []) (rc := p1) (ci := 5) (d' := 0) (by decide +kernel) ml_X0_112 cv_X5_boardAt rfl (by decide) rfl hp1 rfl (by decide) (Nat.le_of_ble_eq_true rfl) (t_X5_boardAt hp1 hc_5) ?_
      refine Fr_istore (i := 6) (lv' := [(6, .int r_6), (5, .int s0), (0, .ref 93), (1, .ref p1), (2, .int v2), (3, .int v3), (4, .int v4)]) (by decide +kernel) (by decide) rfl ?_
      refine Fr_aload_n (q := 1) (i := 1) 3 (by decide +kernel) rfl rfl ?_
      refine gf_X0_100 rfl (by decide +kernel) hp1 ?_
      refine Fr_iload (i := 4) 6 (by decide +kernel) rfl ?_
      refine Fr_iconst (i := 5) (v := 5) (by decide +kernel) (by decide) ?_
      refine Fr_iadd (by decide +kernel) ?_
      obtain ⟨hi_7, h⟩ := ck_elim h
      refine Fr_iald (by decide +kernel) (o5_4 hp1) (vp_of (n5_4 hp1) hi_7) ?_
      refine Fr_if_ne (off := 7) 104 (by decide +kernel) (by decide) (fun hc => ?_) (fun hc => ?_)
      · have h := iF hc h
        refine Fr_iconst (i := 0) (v := 0) (by decide +kernel) (by decide) ?_
        refine Fr_loc [2, 3, 4, 5, 6, 0] rfl ?_
        exact t_X0_spoil_b105 hp1 hk2 h
      · have h := iT hc h
        refine Fr_iconst (i := 1) (v := 1) (by decide +kernel) (by decide) ?_
        refine Fr_goto (off := 4) 105 (by decide +kernel) (by decide) ?_
        refine Fr_loc [2, 3, 4, 5, 6, 0] rfl ?_
        exact t_X0_spoil_b105 hp1 hk2 h
set_option maxRecDepth 20000 in
theorem t_X0_spoil_b46 {N : Nat} {p1 : Nat} (hp1 : Ob 0 111 p1 5) {q : Mem} {k2 : Int32 × Int32 → Mem → Option (Mem)} (hk2 : ∀ (a : Int32 × Int32) (M : Mem), k2 a M = some q → Fr 0 111 2 m_X0_spoil 2 [(0, .ref 93), (1, .ref p1), (2, .int a.1), (3, .int a.2)] [] M (QV q)) {v2 : Int32} {v3 : Int32} {v4 : Int32} {M : Mem} (h : f_X0_spoil_b46 N p1 k2 v2 v3 v4 M = some q) : Fr 0 111 2 m_X0_spoil 46 [(0, .ref 93), (1, .ref p1), (2, .int v2), (3, .int v3), (4, .int v4)] [] M (QV q) := by
  unfold f_X0_spoil_b46 at h
  refine Fr_iconst (i := 0) (v := 0) (by decide +kernel) (by decide) ?_
  exact t_X0_spoil_b47 hp1 hk2 h
set_option maxRecDepth 20000 in
theorem t_X0_spoil_h2 {N : Nat} {p1 : Nat} (hp1 : Ob 0 111 p1 5) {q : Mem} {k2 : Int32 × Int32 → Mem → Option (Mem)} (hk2 : ∀ (a : Int32 × Int32) (M : Mem), k2 a M = some q → Fr 0 111 2 m_X0_spoil 2 [(0, .ref 93), (1, .ref p1), (2, .int a.1), (3, .int a.2)] [] M (QV q)) {v2 : Int32} {v3 : Int32} {M : Mem} (h : f_X0_spoil_h2 N p1 k2 v2 v3 M = some q) : Fr 0 111 2 m_X0_spoil 2 [(0, .ref 93), (1, .ref p1), (2, .int v2), (3, .int v3)] [] M (QV q) := by
  unfold f_X0_spoil_h2 at h
  refine Fr_iload_n (q := 3) (i := 3) 3 (by decide +kernel) rfl rfl ?_
  refine Fr_aload_n (q := 1) (i := 1) 1 (by decide +kernel) rfl rfl ?_
  refine gf_X0_91 rfl (by decide +kernel) hp1 ?_
  refine Fr_icmp_ge (off := 153) 160 (by decide +kernel) (by decide) (fun hc => ?_) (fun hc => ?_)
  · have h := iT hc h
    obtain rfl := Option.some.inj h
    exact Fr_vret (by decide +kernel) rfl ⟨rfl, rfl⟩
  · have h := iF hc h
    refine Fr_iload_n (q := 3) (i := 3) 3 (by decide +kernel) rfl rfl ?_
    refine Fr_bipush (i := 6) (v := 6) (by decide +kernel) (by decide) ?_
    refine Fr_imul (by decide +kernel) ?_
    refine Fr_istore (i := 4) (lv' := [(4, .int (v3 * 6)), (0, .ref 93), (1, .ref p1), (2, .int v2), (3, .int v3)]) (by decide +kernel) (by decide) rfl ?_
    refine Fr_iload_n (q := 2) (i := 2) 3 (by decide +kernel) rfl rfl ?_
    refine Fr_aload_n (q := 1) (i := 1) 2 (by decide +kernel) rfl rfl ?_
    refine gf_X0_100 rfl (by decide +kernel) hp1 ?_
    refine Fr_iload (i := 4) 0 (by decide +kernel) rfl ?_
    refine Fr_iconst (i := 2) (v := 2) (by decide +kernel) (by decide) ?_
    refine Fr_iadd (by decide +kernel) ?_
    obtain ⟨hi_1, h⟩ := ck_elim h
    refine Fr_iald (by decide +kernel) (o5_4 hp1) (vp_of (n5_4 hp1) hi_1) ?_
    refine Fr_icmp_lt (off := 20) 46 (by decide +kernel) (by decide) (fun hc => ?_) (fun hc => ?_)
    · have h := iT hc h
      refine Fr_loc [1, 2, 3, 4, 0] rfl ?_
      exact t_X0_spoil_b46 hp1 hk2 h
    · have h := iF hc h
      refine Fr_iload_n (q := 2) (i := 2) 3 (by decide +kernel) rfl rfl ?_
      refine Fr_aload_n (q := 1) (i := 1) 2 (by decide +kernel) rfl rfl ?_
      refine gf_X0_100 rfl (by decide +kernel) hp1 ?_
      refine Fr_iload (i := 4) 0 (by decide +kernel) rfl ?_
      refine Fr_iconst (i := 3) (v := 3) (by decide +kernel) (by decide) ?_
      refine Fr_iadd (by decide +kernel) ?_
      obtain ⟨hi_14, h⟩ := ck_elim h
      refine Fr_iald (by decide +kernel) (o5_4 hp1) (vp_of (n5_4 hp1) hi_14) ?_
      refine Fr_icmp_gt (off := 7) 46 (by decide +kernel) (by decide) (fun hc => ?_) (fun hc => ?_)
      · have h := iT hc h
        refine Fr_loc [1, 2, 3, 4, 0] rfl ?_
        exact t_X0_spoil_b46 hp1 hk2 h
      · have h := iF hc h
        refine Fr_iconst (i := 1) (v := 1) (by decide +kernel) (by decide) ?_
        refine Fr_goto (off := 4) 47 (by decide +kernel) (by decide) ?_
        refine Fr_loc [1, 2, 3, 4, 0] rfl ?_
        exact t_X0_spoil_b47 hp1 hk2 h
set_option maxRecDepth 20000 in
theorem t_X0_spoil {N : Nat} {p1 : Nat} {x2 : Int32} (hp1 : Ob 0 111 p1 5) {M : Mem} {q : Mem} (h : f_X0_spoil N p1 x2 M = some q) : Ev 0 111 2 m_X0_spoil [.ref 93, .ref p1, .int x2] M (QV q) := by
  refine Ev_of_Fr (by decide +kernel) (Nat.le_of_ble_eq_true rfl) ?_
  show Fr 0 111 2 m_X0_spoil 0 [(0, .ref 93), (1, .ref p1), (2, .int x2)] [] M (QV q)
  unfold f_X0_spoil at h
  refine Fr_iconst (i := 0) (v := 0) (by decide +kernel) (by decide) ?_
  refine Fr_istore_n (q := 3) (i := 3) (lv' := [(3, .int 0), (0, .ref 93), (1, .ref p1), (2, .int x2)]) (by decide +kernel) rfl (by decide) rfl ?_
  refine Fr_loc [1, 2, 3, 0] rfl ?_
  exact lp_sound (body := fun k a m => f_X0_spoil_h2 N p1 k a.1 a.2 m) (P := fun a M => Fr 0 111 2 m_X0_spoil 2 [(0, .ref 93), (1, .ref p1), (2, .int a.1), (3, .int a.2)] [] M (QV q)) (fun k hk a m h => t_X0_spoil_h2 hp1 hk h) N (x2, 0) M h
set_option maxRecDepth 20000 in
theorem t_X0_follow_h3 {N : Nat} {p1 : Nat} (hp1 : Ob 0 111 p1 5) {q : Mem} {k3 : Int32 × Int32 × Int32 × Int32 → Mem → Option (Mem)} (hk3 : ∀ (a : Int32 × Int32 × Int32 × Int32) (M : Mem), k3 a M = some q → Fr 0 111 3 m_X0_follow 3 [(0, .ref 93), (1, .ref p1), (2, .int a.1), (4, .int a.2.1), (5, .int a.2.2.1), (6, .int a.2.2.2)] [] M (QV q)) {v2 : Int32} {v4 : Int32} {v5 : Int32} {v6 : Int32} {M : Mem} (h : f_X0_follow_h3 N p1 k3 v2 v4 v5 v6 M = some q) : Fr 0 111 3 m_X0_follow 3 [(0, .ref 93), (1, .ref p1), (2, .int v2), (4, .int v4), (5, .int v5), (6, .int v6)] [] M (QV q) := by
  unfold f_X0_follow_h3 at h
  refine Fr_iload (i := 6) 5 (by decide +kernel) rfl ?_
  refine Fr_iload (i := 4) 3 (by decide +kernel) rfl ?_
  refine Fr_icmp_gt (off := 48) 55 (by decide +kernel) (by decide) (fun hc => ?_) (fun hc => ?_)
  · have h := iT hc h
    obtain rfl := Option.some.inj h
    exact Fr_vret (by decide +kernel) rfl ⟨rfl, rfl⟩
  · have h := iF hc h
    refine Fr_iload (i := 6) 5 (by decide +kernel) rfl ?_
    refine Fr_aload_n (q := 0) (i := 0) 0 (by decide +kernel) rfl rfl ?_
    refine gf_X0_97 rfl (by decide +kernel) ob_93 ?_
    refine Fr_icmp_gt (off := 39) 55 (by decide +kernel) (by decide) (fun hc => ?_) (fun hc => ?_)
    · have h := iT hc h
      obtain rfl := Option.some.inj h
      exact Fr_vret (by decide +kernel) rfl ⟨rfl, rfl⟩
    · have h := iF hc h
      refine Fr_aload_n (q := 0) (i := 0) 0 (by decide +kernel) rfl rfl ?_
      refine gf_X0_81 rfl (by decide +kernel) ob_93 ?_
      refine Fr_iload (i := 5) 4 (by decide +kernel) rfl ?_
      refine Fr_icmp_gt (off := 4) 29 (by decide +kernel) (by decide) (fun hc => ?_) (fun hc => ?_)
      · have h := iT hc h
        refine Fr_aload_n (q := 0) (i := 0) 0 (by decide +kernel) rfl rfl ?_
        refine gf_X0_18 rfl (by decide +kernel) ob_93 ?_
        refine Fr_aload_n (q := 1) (i := 1) 1 (by decide +kernel) rfl rfl ?_
        refine Fr_aload_n (q := 0) (i := 0) 0 (by decide +kernel) rfl rfl ?_
        refine gf_X0_9 rfl (by decide +kernel) ob_93 ?_
        refine Fr_iload_n (q := 2) (i := 2) 2 (by decide +kernel) rfl rfl ?_
        obtain ⟨M_1, hc_2, h⟩ := bv_elim h
        refine Fr_cVv (ν := m_X10_passHour) (As := [.ref p1, .ref 94, .int v2]) (st := []) (rc := 90) (ci := 10) (d' := 2) (by decide +kernel) ml_X0_37 cv_X10_passHour rfl (by decide) rfl ob_90 rfl (by decide) (Nat.le_of_ble_eq_true rfl) (t_X10_passHour hp1 ob_94 hc_2) ?_
        refine Fr_aload_n (q := 0) (i := 0) 0 (by decide +kernel) rfl rfl ?_
        refine Fr_aload_n (q := 1) (i := 1) 1 (by decide +kernel) rfl rfl ?_
        refine Fr_iload (i := 6) 5 (by decide +kernel) rfl ?_
        obtain ⟨M_3, hc_4, h⟩ := bv_elim h
        refine Fr_cVv (ν := m_X0_spoil) (As := [.ref p1, .int v6]) (st := []) (rc := 93) (ci := 0) (d' := 2) (by decide +kernel) ml_X0_109 cv_X0_spoil rfl (by decide) rfl ob_93 rfl (by decide) (Nat.le_of_ble_eq_true rfl) (t_X0_spoil hp1 hc_4) ?_
        refine Fr_iinc (i := 6) (j := 1) (v := (v6 + 1)) (lv' := [(6, .int (v6 + 1)), (0, .ref 93), (1, .ref p1), (2, .int v2), (4, .int v4), (5, .int v5)]) 5 (by decide +kernel) rfl rfl (by decide) rfl ?_
        refine Fr_goto (off := (-49)) 3 (by decide +kernel) (by decide) ?_
        refine Fr_loc [1, 2, 3, 4, 5, 0] rfl ?_
        exact hk3 (v2, v4, v5, (v6 + 1)) M_3 h
      · have h := iF hc h
        obtain rfl := Option.some.inj h
        exact Fr_vret (by decide +kernel) rfl ⟨rfl, rfl⟩
set_option maxRecDepth 20000 in
theorem t_X0_follow {N : Nat} {p1 : Nat} {x2 : Int32} {x3 : Int32} {x4 : Int32} {x5 : Int32} (hp1 : Ob 0 111 p1 5) {M : Mem} {q : Mem} (h : f_X0_follow N p1 x2 x3 x4 x5 M = some q) : Ev 0 111 3 m_X0_follow [.ref 93, .ref p1, .int x2, .int x3, .int x4, .int x5] M (QV q) := by
  refine Ev_of_Fr (by decide +kernel) (Nat.le_of_ble_eq_true rfl) ?_
  show Fr 0 111 3 m_X0_follow 0 [(0, .ref 93), (1, .ref p1), (2, .int x2), (3, .int x3), (4, .int x4), (5, .int x5)] [] M (QV q)
  unfold f_X0_follow at h
  refine Fr_iload_n (q := 3) (i := 3) 3 (by decide +kernel) rfl rfl ?_
  refine Fr_istore (i := 6) (lv' := [(6, .int x3), (0, .ref 93), (1, .ref p1), (2, .int x2), (3, .int x3), (4, .int x4), (5, .int x5)]) (by decide +kernel) (by decide) rfl ?_
  refine Fr_loc [1, 2, 3, 5, 6, 0] rfl ?_
  exact lp_sound (body := fun k a m => f_X0_follow_h3 N p1 k a.1 a.2.1 a.2.2.1 a.2.2.2 m) (P := fun a M => Fr 0 111 3 m_X0_follow 3 [(0, .ref 93), (1, .ref p1), (2, .int a.1), (4, .int a.2.1), (5, .int a.2.2.1), (6, .int a.2.2.2)] [] M (QV q)) (fun k hk a m h => t_X0_follow_h3 hp1 hk h) N (x2, x4, x5, x3) M h
set_option maxRecDepth 20000 in
theorem t_X0_servedSet {N : Nat} {p1 : Nat} (hp1 : Ob 0 111 p1 5) {M : Mem} {q : Int32 × Mem} (h : f_X0_servedSet N p1 M = some q) : Ev 0 111 4 m_X0_servedSet [.ref 93, .ref p1] M (QI q) := by
  refine Ev_of_Fr (by decide +kernel) (Nat.le_of_ble_eq_true rfl) ?_
  show Fr 0 111 4 m_X0_servedSet 0 [(0, .ref 93), (1, .ref p1)] [] M (QI q)
  unfold f_X0_servedSet at h
  refine Fr_aload_n (q := 0) (i := 0) 0 (by decide +kernel) rfl rfl ?_
  refine Fr_aload_n (q := 1) (i := 1) 1 (by decide +kernel) rfl rfl ?_
  obtain ⟨M_1, hc_2, h⟩ := bv_elim h
  refine Fr_cVv (ν := m_X0_begin) (As := [.ref p1]) (st := []) (rc := 93) (ci := 0) (d' := 1) (by decide +kernel) ml_X0_51 cv_X0_begin rfl (by decide) rfl ob_93 rfl (by decide) (Nat.le_of_ble_eq_true rfl) (t_X0_begin hp1 hc_2) ?_
  refine Fr_aload_n (q := 0) (i := 0) 0 (by decide +kernel) rfl rfl ?_
  refine Fr_aload_n (q := 1) (i := 1) 1 (by decide +kernel) rfl rfl ?_
  refine Fr_aload_n (q := 1) (i := 1) 1 (by decide +kernel) rfl rfl ?_
  refine gf_X0_33 rfl (by decide +kernel) hp1 ?_
  refine Fr_iconst (i := 1) (v := 1) (by decide +kernel) (by decide) ?_
  refine Fr_bipush (i := 24) (v := 24) (by decide +kernel) (by decide) ?_
  refine Fr_iconst (i := (-1)) (v := (-1)) (by decide +kernel) (by decide) ?_
  obtain ⟨M_3, hc_4, h⟩ := bv_elim h
  refine Fr_cVv (ν := m_X0_follow) (As := [.ref p1, .int (M_1.1 p1 6), .int 1, .int 24, .int (-1)]) (st := []) (rc := 93) (ci := 0) (d' := 3) (by decide +kernel) ml_X0_55 cv_X0_follow rfl (by decide) rfl ob_93 rfl (by decide) (Nat.le_of_ble_eq_true rfl) (t_X0_follow hp1 hc_4) ?_
  refine Fr_aload_n (q := 0) (i := 0) 0 (by decide +kernel) rfl rfl ?_
  refine gf_X0_59 rfl (by decide +kernel) ob_93 ?_
  obtain rfl := Option.some.inj h
  exact Fr_iret (by decide +kernel) rfl ⟨rfl, rfl⟩
set_option maxRecDepth 20000 in
theorem t_J6_bitCount_0f7a4 {x0 : Int32} {M : Mem} {q : Int32 × Mem} (h : f_J6_bitCount_0f7a4 x0 M = some q) : Ev 0 111 0 m_J6_bitCount_0f7a4 [.int x0] M (QI q) := by
  refine Ev_of_Fr (by decide +kernel) (Nat.le_of_ble_eq_true rfl) ?_
  show Fr 0 111 0 m_J6_bitCount_0f7a4 0 [(0, .int x0)] [] M (QI q)
  unfold f_J6_bitCount_0f7a4 at h
  refine Fr_iload_n (q := 0) (i := 0) 0 (by decide +kernel) rfl rfl ?_
  refine Fr_iload_n (q := 0) (i := 0) 0 (by decide +kernel) rfl rfl ?_
  refine Fr_iconst (i := 1) (v := 1) (by decide +kernel) (by decide) ?_
  refine Fr_iushr (by decide +kernel) ?_
  refine Fr_ldcw (idx := 265) (v := 1431655765) (by decide +kernel) lc_J6_265 ?_
  refine Fr_iand (by decide +kernel) ?_
  refine Fr_isub (by decide +kernel) ?_
  obtain ⟨y_1, ey_1, h⟩ := bI_elim h
  refine Fr_topI ey_1 ?_
  refine Fr_istore_n (q := 0) (i := 0) (lv' := [(0, .int y_1)]) (by decide +kernel) rfl (by decide) rfl ?_
  refine Fr_iload_n (q := 0) (i := 0) 0 (by decide +kernel) rfl rfl ?_
  refine Fr_ldcw (idx := 266) (v := 858993459) (by decide +kernel) lc_J6_266 ?_
  refine Fr_iand (by decide +kernel) ?_
  refine Fr_iload_n (q := 0) (i := 0) 0 (by decide +kernel) rfl rfl ?_
  refine Fr_iconst (i := 2) (v := 2) (by decide +kernel) (by decide) ?_
  refine Fr_iushr (by decide +kernel) ?_
  refine Fr_ldcw (idx := 266) (v := 858993459) (by decide +kernel) lc_J6_266 ?_
  refine Fr_iand (by decide +kernel) ?_
  refine Fr_iadd (by decide +kernel) ?_
  obtain ⟨y_2, ey_2, h⟩ := bI_elim h
  refine Fr_topI ey_2 ?_
  refine Fr_istore_n (q := 0) (i := 0) (lv' := [(0, .int y_2)]) (by decide +kernel) rfl (by decide) rfl ?_
  refine Fr_iload_n (q := 0) (i := 0) 0 (by decide +kernel) rfl rfl ?_
  refine Fr_iload_n (q := 0) (i := 0) 0 (by decide +kernel) rfl rfl ?_
  refine Fr_iconst (i := 4) (v := 4) (by decide +kernel) (by decide) ?_
  refine Fr_iushr (by decide +kernel) ?_
  refine Fr_iadd (by decide +kernel) ?_
  refine Fr_ldcw (idx := 267) (v := 252645135) (by decide +kernel) lc_J6_267 ?_
  refine Fr_iand (by decide +kernel) ?_
  obtain ⟨y_3, ey_3, h⟩ := bI_elim h
  refine Fr_topI ey_3 ?_
  refine Fr_istore_n (q := 0) (i := 0) (lv' := [(0, .int y_3)]) (by decide +kernel) rfl (by decide) rfl ?_
  refine Fr_iload_n (q := 0) (i := 0) 0 (by decide +kernel) rfl rfl ?_
  refine Fr_iload_n (q := 0) (i := 0) 0 (by decide +kernel) rfl rfl ?_
  refine Fr_bipush (i := 8) (v := 8) (by decide +kernel) (by decide) ?_
  refine Fr_iushr (by decide +kernel) ?_
  refine Fr_iadd (by decide +kernel) ?_
  refine Fr_istore_n (q := 0) (i := 0) (lv' := [(0, .int (y_3 + (ush y_3 8)))]) (by decide +kernel) rfl (by decide) rfl ?_
  refine Fr_iload_n (q := 0) (i := 0) 0 (by decide +kernel) rfl rfl ?_
  refine Fr_iload_n (q := 0) (i := 0) 0 (by decide +kernel) rfl rfl ?_
  refine Fr_bipush (i := 16) (v := 16) (by decide +kernel) (by decide) ?_
  refine Fr_iushr (by decide +kernel) ?_
  refine Fr_iadd (by decide +kernel) ?_
  obtain ⟨y_4, ey_4, h⟩ := bI_elim h
  refine Fr_topI ey_4 ?_
  refine Fr_istore_n (q := 0) (i := 0) (lv' := [(0, .int y_4)]) (by decide +kernel) rfl (by decide) rfl ?_
  refine Fr_iload_n (q := 0) (i := 0) 0 (by decide +kernel) rfl rfl ?_
  refine Fr_bipush (i := 63) (v := 63) (by decide +kernel) (by decide) ?_
  refine Fr_iand (by decide +kernel) ?_
  obtain rfl := Option.some.inj h
  exact Fr_iret (by decide +kernel) rfl ⟨rfl, rfl⟩
set_option maxRecDepth 20000 in
theorem t_X0_tryPlan {N : Nat} {p1 : Nat} {x2 : Int32} (hp1 : Ob 0 111 p1 5) {M : Mem} {q : Mem} (h : f_X0_tryPlan N p1 x2 M = some q) : Ev 0 111 4 m_X0_tryPlan [.ref 93, .ref p1, .int x2] M (QV q) := by
  refine Ev_of_Fr (by decide +kernel) (Nat.le_of_ble_eq_true rfl) ?_
  show Fr 0 111 4 m_X0_tryPlan 0 [(0, .ref 93), (1, .ref p1), (2, .int x2)] [] M (QV q)
  unfold f_X0_tryPlan at h
  refine Fr_aload_n (q := 0) (i := 0) 0 (by decide +kernel) rfl rfl ?_
  refine Fr_aload_n (q := 1) (i := 1) 1 (by decide +kernel) rfl rfl ?_
  obtain ⟨M_1, hc_2, h⟩ := bv_elim h
  refine Fr_cVv (ν := m_X0_begin) (As := [.ref p1]) (st := []) (rc := 93) (ci := 0) (d' := 1) (by decide +kernel) ml_X0_51 cv_X0_begin rfl (by decide) rfl ob_93 rfl (by decide) (Nat.le_of_ble_eq_true rfl) (t_X0_begin hp1 hc_2) ?_
  refine Fr_aload_n (q := 0) (i := 0) 0 (by decide +kernel) rfl rfl ?_
  refine Fr_aload_n (q := 1) (i := 1) 1 (by decide +kernel) rfl rfl ?_
  refine Fr_iload_n (q := 2) (i := 2) 2 (by decide +kernel) rfl rfl ?_
  refine Fr_iconst (i := 1) (v := 1) (by decide +kernel) (by decide) ?_
  refine Fr_bipush (i := 24) (v := 24) (by decide +kernel) (by decide) ?_
  refine Fr_aload_n (q := 0) (i := 0) 0 (by decide +kernel) rfl rfl ?_
  refine gf_X0_62 rfl (by decide +kernel) ob_93 ?_
  obtain ⟨M_3, hc_4, h⟩ := bv_elim h
  refine Fr_cVv (ν := m_X0_follow) (As := [.ref p1, .int x2, .int 1, .int 24, .int (M_1.1 93 6)]) (st := []) (rc := 93) (ci := 0) (d' := 3) (by decide +kernel) ml_X0_55 cv_X0_follow rfl (by decide) rfl ob_93 rfl (by decide) (Nat.le_of_ble_eq_true rfl) (t_X0_follow hp1 hc_4) ?_
  refine Fr_aload_n (q := 0) (i := 0) 0 (by decide +kernel) rfl rfl ?_
  refine gf_X0_81 rfl (by decide +kernel) ob_93 ?_
  refine Fr_aload_n (q := 0) (i := 0) 0 (by decide +kernel) rfl rfl ?_
  refine gf_X0_62 rfl (by decide +kernel) ob_93 ?_
  refine Fr_icmp_le (off := 16) 42 (by decide +kernel) (by decide) (fun hc => ?_) (fun hc => ?_)
  · have h := iT hc h
    obtain rfl := Option.some.inj h
    exact Fr_vret (by decide +kernel) rfl ⟨rfl, rfl⟩
  · have h := iF hc h
    refine Fr_aload_n (q := 0) (i := 0) 0 (by decide +kernel) rfl rfl ?_
    refine Fr_aload_n (q := 0) (i := 0) 0 (by decide +kernel) rfl rfl ?_
    refine gf_X0_81 rfl (by decide +kernel) ob_93 ?_
    refine pf_X0_62 rfl (by decide +kernel) ob_93 ?_
    obtain ⟨M_5, eM_5, h⟩ := bM_elim h
    refine Fr_mem eM_5 ?_
    refine Fr_aload_n (q := 0) (i := 0) 0 (by decide +kernel) rfl rfl ?_
    refine Fr_iload_n (q := 2) (i := 2) 2 (by decide +kernel) rfl rfl ?_
    refine pf_X0_65 rfl (by decide +kernel) ob_93 ?_
    obtain ⟨M_6, eM_6, h⟩ := bM_elim h
    refine Fr_mem eM_6 ?_
    obtain rfl := Option.some.inj h
    exact Fr_vret (by decide +kernel) rfl ⟨rfl, rfl⟩
set_option maxRecDepth 20000 in
theorem t_X0_findPlan_b52 {N : Nat} {p1 : Nat} (hp1 : Ob 0 111 p1 5) {q : Mem} {k19 : Int32 × Int32 → Mem → Option (Mem)} (hk19 : ∀ (a : Int32 × Int32) (M : Mem), k19 a M = some q → Fr 0 111 5 m_X0_findPlan 19 [(0, .ref 93), (1, .ref p1), (2, .int a.1), (3, .int a.2)] [] M (QV q)) {k30 : Int32 × Int32 × Int32 → Mem → Option (Mem)} (hk30 : ∀ (a : Int32 × Int32 × Int32) (M : Mem), k30 a M = some q → Fr 0 111 5 m_X0_findPlan 30 [(0, .ref 93), (1, .ref p1), (2, .int a.1), (3, .int a.2.1), (4, .int a.2.2)] [] M (QV q)) {v2 : Int32} {v3 : Int32} {v4 : Int32} {M : Mem} (h : f_X0_findPlan_b52 N p1 k19 k30 v2 v3 v4 M = some q) : Fr 0 111 5 m_X0_findPlan 52 [(0, .ref 93), (1, .ref p1), (2, .int v2), (3, .int v3), (4, .int v4)] [] M (QV q) := by
  unfold f_X0_findPlan_b52 at h
  refine Fr_iinc (i := 4) (j := 1) (v := (v4 + 1)) (lv' := [(4, .int (v4 + 1)), (0, .ref 93), (1, .ref p1), (2, .int v2), (3, .int v3)]) 4 (by decide +kernel) rfl rfl (by decide) rfl ?_
  refine Fr_goto (off := (-25)) 30 (by decide +kernel) (by decide) ?_
  refine Fr_loc [1, 2, 3, 4, 0] rfl ?_
  exact hk30 (v2, v3, (v4 + 1)) M h
set_option maxRecDepth 20000 in
theorem t_X0_findPlan_h30 {N : Nat} {p1 : Nat} (hp1 : Ob 0 111 p1 5) {q : Mem} {k19 : Int32 × Int32 → Mem → Option (Mem)} (hk19 : ∀ (a : Int32 × Int32) (M : Mem), k19 a M = some q → Fr 0 111 5 m_X0_findPlan 19 [(0, .ref 93), (1, .ref p1), (2, .int a.1), (3, .int a.2)] [] M (QV q)) {k30 : Int32 × Int32 × Int32 → Mem → Option (Mem)} (hk30 : ∀ (a : Int32 × Int32 × Int32) (M : Mem), k30 a M = some q → Fr 0 111 5 m_X0_findPlan 30 [(0, .ref 93), (1, .ref p1), (2, .int a.1), (3, .int a.2.1), (4, .int a.2.2)] [] M (QV q)) {v2 : Int32} {v3 : Int32} {v4 : Int32} {M : Mem} (h : f_X0_findPlan_h30 N p1 k19 k30 v2 v3 v4 M = some q) : Fr 0 111 5 m_X0_findPlan 30 [(0, .ref 93), (1, .ref p1), (2, .int v2), (3, .int v3), (4, .int v4)] [] M (QV q) := by
  unfold f_X0_findPlan_h30 at h
  refine Fr_iload (i := 4) 4 (by decide +kernel) rfl ?_
  refine Fr_iload_n (q := 2) (i := 2) 2 (by decide +kernel) rfl rfl ?_
  refine Fr_icmp_ge (off := 25) 58 (by decide +kernel) (by decide) (fun hc => ?_) (fun hc => ?_)
  · have h := iT hc h
    refine Fr_iinc (i := 3) (j := 1) (v := (v3 + 1)) (lv' := [(3, .int (v3 + 1)), (0, .ref 93), (1, .ref p1), (2, .int v2), (4, .int v4)]) 3 (by decide +kernel) rfl rfl (by decide) rfl ?_
    refine Fr_goto (off := (-42)) 19 (by decide +kernel) (by decide) ?_
    refine Fr_loc [1, 2, 3, 0] rfl ?_
    exact hk19 (v2, (v3 + 1)) M h
  · have h := iF hc h
    refine Fr_iload (i := 4) 4 (by decide +kernel) rfl ?_
    obtain ⟨r_6, M_4, hc_5, h⟩ := bi_elim h
    refine Fr_cSi (ν := m_J6_bitCount_0f7a4) (As := [.int v4]) (st := []) (d' := 0) (by decide +kernel) ml_X0_71 cs_J6_bitCount_0f7a4 rfl (by decide) (Nat.le_of_ble_eq_true rfl) (t_J6_bitCount_0f7a4 hc_5) ?_
    refine Fr_iload_n (q := 3) (i := 3) 3 (by decide +kernel) rfl rfl ?_
    refine Fr_icmp_ne (off := 10) 52 (by decide +kernel) (by decide) (fun hc => ?_) (fun hc => ?_)
    · have h := iF hc h
      exact t_X0_findPlan_b52 hp1 hk19 hk30 h
    · have h := iT hc h
      refine Fr_aload_n (q := 0) (i := 0) 0 (by decide +kernel) rfl rfl ?_
      refine Fr_aload_n (q := 1) (i := 1) 1 (by decide +kernel) rfl rfl ?_
      refine Fr_iload (i := 4) 4 (by decide +kernel) rfl ?_
      obtain ⟨M_7, hc_8, h⟩ := bv_elim h
      refine Fr_cVv (ν := m_X0_tryPlan) (As := [.ref p1, .int v4]) (st := []) (rc := 93) (ci := 0) (d' := 4) (by decide +kernel) ml_X0_77 cv_X0_tryPlan rfl (by decide) rfl ob_93 rfl (by decide) (Nat.le_of_ble_eq_true rfl) (t_X0_tryPlan hp1 hc_8) ?_
      exact t_X0_findPlan_b52 hp1 hk19 hk30 h
set_option maxRecDepth 20000 in
theorem t_X0_findPlan_h19 {N : Nat} {p1 : Nat} (hp1 : Ob 0 111 p1 5) {q : Mem} {k19 : Int32 × Int32 → Mem → Option (Mem)} (hk19 : ∀ (a : Int32 × Int32) (M : Mem), k19 a M = some q → Fr 0 111 5 m_X0_findPlan 19 [(0, .ref 93), (1, .ref p1), (2, .int a.1), (3, .int a.2)] [] M (QV q)) {v2 : Int32} {v3 : Int32} {M : Mem} (h : f_X0_findPlan_h19 N p1 k19 v2 v3 M = some q) : Fr 0 111 5 m_X0_findPlan 19 [(0, .ref 93), (1, .ref p1), (2, .int v2), (3, .int v3)] [] M (QV q) := by
  unfold f_X0_findPlan_h19 at h
  refine Fr_iload_n (q := 3) (i := 3) 3 (by decide +kernel) rfl rfl ?_
  refine Fr_aload_n (q := 1) (i := 1) 1 (by decide +kernel) rfl rfl ?_
  refine gf_X0_68 rfl (by decide +kernel) hp1 ?_
  refine Fr_icmp_gt (off := 40) 64 (by decide +kernel) (by decide) (fun hc => ?_) (fun hc => ?_)
  · have h := iT hc h
    obtain rfl := Option.some.inj h
    exact Fr_vret (by decide +kernel) rfl ⟨rfl, rfl⟩
  · have h := iF hc h
    refine Fr_iconst (i := 0) (v := 0) (by decide +kernel) (by decide) ?_
    refine Fr_istore (i := 4) (lv' := [(4, .int 0), (0, .ref 93), (1, .ref p1), (2, .int v2), (3, .int v3)]) (by decide +kernel) (by decide) rfl ?_
    refine Fr_loc [1, 2, 3, 4, 0] rfl ?_
    exact lp_sound (body := fun k a m => f_X0_findPlan_h30 N p1 k19 k a.1 a.2.1 a.2.2 m) (P := fun a M => Fr 0 111 5 m_X0_findPlan 30 [(0, .ref 93), (1, .ref p1), (2, .int a.1), (3, .int a.2.1), (4, .int a.2.2)] [] M (QV q)) (fun k hk a m h => t_X0_findPlan_h30 hp1 hk19 hk h) N (v2, v3, 0) M h
set_option maxRecDepth 20000 in
theorem t_X0_findPlan {N : Nat} {p1 : Nat} (hp1 : Ob 0 111 p1 5) {M : Mem} {q : Mem} (h : f_X0_findPlan N p1 M = some q) : Ev 0 111 5 m_X0_findPlan [.ref 93, .ref p1] M (QV q) := by
  refine Ev_of_Fr (by decide +kernel) (Nat.le_of_ble_eq_true rfl) ?_
  show Fr 0 111 5 m_X0_findPlan 0 [(0, .ref 93), (1, .ref p1)] [] M (QV q)
  unfold f_X0_findPlan at h
  refine Fr_aload_n (q := 0) (i := 0) 0 (by decide +kernel) rfl rfl ?_
  refine Fr_iconst (i := (-1)) (v := (-1)) (by decide +kernel) (by decide) ?_
  refine pf_X0_62 rfl (by decide +kernel) ob_93 ?_
  obtain ⟨M_1, eM_1, h⟩ := bM_elim h
  refine Fr_mem eM_1 ?_
  refine Fr_aload_n (q := 0) (i := 0) 0 (by decide +kernel) rfl rfl ?_
  refine Fr_iconst (i := 0) (v := 0) (by decide +kernel) (by decide) ?_
  refine pf_X0_65 rfl (by decide +kernel) ob_93 ?_
  obtain ⟨M_2, eM_2, h⟩ := bM_elim h
  refine Fr_mem eM_2 ?_
  refine Fr_iconst (i := 1) (v := 1) (by decide +kernel) (by decide) ?_
  refine Fr_aload_n (q := 1) (i := 1) 1 (by decide +kernel) rfl rfl ?_
  refine gf_X0_68 rfl (by decide +kernel) hp1 ?_
  refine Fr_ishl (by decide +kernel) ?_
  obtain ⟨y_3, ey_3, h⟩ := bI_elim h
  refine Fr_topI ey_3 ?_
  refine Fr_istore_n (q := 2) (i := 2) (lv' := [(2, .int y_3), (0, .ref 93), (1, .ref p1)]) (by decide +kernel) rfl (by decide) rfl ?_
  refine Fr_iconst (i := 0) (v := 0) (by decide +kernel) (by decide) ?_
  refine Fr_istore_n (q := 3) (i := 3) (lv' := [(3, .int 0), (2, .int y_3), (0, .ref 93), (1, .ref p1)]) (by decide +kernel) rfl (by decide) rfl ?_
  refine Fr_loc [2, 3, 1, 0] rfl ?_
  exact lp_sound (body := fun k a m => f_X0_findPlan_h19 N p1 k a.1 a.2 m) (P := fun a M => Fr 0 111 5 m_X0_findPlan 19 [(0, .ref 93), (1, .ref p1), (2, .int a.1), (3, .int a.2)] [] M (QV q)) (fun k hk a m h => t_X0_findPlan_h19 hp1 hk h) N (y_3, 0) M_2 h
