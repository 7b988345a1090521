set_option maxRecDepth 20000 in
theorem t_X2_doStep {N : Nat} {p0 : Nat} {p1 : Nat} {x2 : Int32} (hp0 : Ob 0 111 p0 2) (hp1 : Ob 0 111 p1 5) {M : Mem} {q : Int32 × Mem} (h : f_X2_doStep N p0 p1 x2 M = some q) : Ev 0 111 5 m_X2_doStep [.ref p0, .ref p1, .int x2] M (QI q) := by
  refine Ev_of_Fr (by decide +kernel) (Nat.le_of_ble_eq_true rfl) ?_
  show Fr 0 111 5 m_X2_doStep 0 [(0, .ref p0), (1, .ref p1), (2, .int x2)] [] M (QI q)
  unfold f_X2_doStep at h
  refine Fr_aload_n (q := 1) (i := 1) 1 (by decide +kernel) rfl rfl ?_
  refine gf_X2_47 rfl (by decide +kernel) hp1 ?_
  refine Fr_astore_n (q := 3) (i := 3) (lv' := [(3, .ref (p1 + 7)), (0, .ref p0), (1, .ref p1), (2, .int x2)]) (by decide +kernel) rfl (by decide) rfl ?_
  refine Fr_aload_n (q := 3) (i := 3) 0 (by decide +kernel) rfl rfl ?_
  refine gf_X2_71 rfl (by decide +kernel) (o5_7 hp1) ?_
  refine Fr_iload_n (q := 2) (i := 2) 3 (by decide +kernel) rfl rfl ?_
  obtain ⟨hi_1, h⟩ := ck_elim h
  refine Fr_iald (by decide +kernel) (o3_2 (o5_7 hp1)) (vp_of (n3_2 (o5_7 hp1)) hi_1) ?_
  obtain ⟨y_2, ey_2, h⟩ := bI_elim h
  refine Fr_topI ey_2 ?_
  refine Fr_istore (i := 4) (lv' := [(4, .int y_2), (3, .ref (p1 + 7)), (0, .ref p0), (1, .ref p1), (2, .int x2)]) (by decide +kernel) (by decide) rfl ?_
  refine Fr_aload_n (q := 3) (i := 3) 1 (by decide +kernel) rfl rfl ?_
  refine gf_X2_57 rfl (by decide +kernel) (o5_7 hp1) ?_
  refine Fr_iload_n (q := 2) (i := 2) 4 (by decide +kernel) rfl rfl ?_
  obtain ⟨hi_3, h⟩ := ck_elim h
  refine Fr_iald (by decide +kernel) (o3_1 (o5_7 hp1)) (vp_of (n3_1 (o5_7 hp1)) hi_3) ?_
  by_cases hs_4 : (M.1 ((p1 + 7) + 1) (tn x2)) = 1
  · have h := iT hs_4 h
    refine Fr_tabIn (dflt := 113) (lo := 1) (hi := 7) (offs := #[41, 52, 64, 76, 87, 96, 101]) (len := 41) (off := 41) 60 (by decide +kernel) (by rw [hs_4]; decide) (by rw [hs_4]; decide) (by rw [hs_4]; rfl) (by decide) ?_
    refine Fr_aload_n (q := 0) (i := 0) 2 (by decide +kernel) rfl rfl ?_
    refine Fr_aload_n (q := 1) (i := 1) 3 (by decide +kernel) rfl rfl ?_
    refine Fr_iload (i := 4) 0 (by decide +kernel) rfl ?_
    obtain ⟨M_5, hc_6, h⟩ := bv_elim h
    refine Fr_cVv (ν := m_X2_letPass) (As := [.ref p1, .int y_2]) (st := []) (rc := p0) (ci := 2) (d' := 4) (by decide +kernel) ml_X2_74 cv_X2_letPass rfl (by decide) rfl hp0 rfl (by decide) (Nat.le_of_ble_eq_true rfl) (t_X2_letPass hp0 hp1 hc_6) ?_
    refine Fr_iload_n (q := 2) (i := 2) 4 (by decide +kernel) rfl rfl ?_
    refine Fr_iconst (i := 1) (v := 1) (by decide +kernel) (by decide) ?_
    refine Fr_iadd (by decide +kernel) ?_
    obtain rfl := Option.some.inj h
    exact Fr_iret (by decide +kernel) rfl ⟨rfl, rfl⟩
  have h := iF hs_4 h
  by_cases hs_7 : (M.1 ((p1 + 7) + 1) (tn x2)) = 2
  · have h := iT hs_7 h
    refine Fr_tabIn (dflt := 113) (lo := 1) (hi := 7) (offs := #[41, 52, 64, 76, 87, 96, 101]) (len := 41) (off := 52) 71 (by decide +kernel) (by rw [hs_7]; decide) (by rw [hs_7]; decide) (by rw [hs_7]; rfl) (by decide) ?_
    refine Fr_aload_n (q := 0) (i := 0) 2 (by decide +kernel) rfl rfl ?_
    refine Fr_aload_n (q := 1) (i := 1) 3 (by decide +kernel) rfl rfl ?_
    refine Fr_iload (i := 4) 0 (by decide +kernel) rfl ?_
    refine Fr_iconst (i := 1) (v := 1) (by decide +kernel) (by decide) ?_
    obtain ⟨M_8, hc_9, h⟩ := bv_elim h
    refine Fr_cVv (ν := m_X2_turnGate) (As := [.ref p1, .int y_2, .int 1]) (st := []) (rc := p0) (ci := 2) (d' := 1) (by decide +kernel) ml_X2_78 cv_X2_turnGate rfl (by decide) rfl hp0 rfl (by decide) (Nat.le_of_ble_eq_true rfl) (t_X2_turnGate hp0 hp1 hc_9) ?_
    refine Fr_iload_n (q := 2) (i := 2) 4 (by decide +kernel) rfl rfl ?_
    refine Fr_iconst (i := 1) (v := 1) (by decide +kernel) (by decide) ?_
    refine Fr_iadd (by decide +kernel) ?_
    obtain rfl := Option.some.inj h
    exact Fr_iret (by decide +kernel) rfl ⟨rfl, rfl⟩
  have h := iF hs_7 h
  by_cases hs_10 : (M.1 ((p1 + 7) + 1) (tn x2)) = 3
  · have h := iT hs_10 h
    refine Fr_tabIn (dflt := 113) (lo := 1) (hi := 7) (offs := #[41, 52, 64, 76, 87, 96, 101]) (len := 41) (off := 64) 83 (by decide +kernel) (by rw [hs_10]; decide) (by rw [hs_10]; decide) (by rw [hs_10]; rfl) (by decide) ?_
    refine Fr_aload_n (q := 0) (i := 0) 2 (by decide +kernel) rfl rfl ?_
    refine Fr_aload_n (q := 1) (i := 1) 3 (by decide +kernel) rfl rfl ?_
    refine Fr_iload (i := 4) 0 (by decide +kernel) rfl ?_
    refine Fr_iconst (i := 0) (v := 0) (by decide +kernel) (by decide) ?_
    obtain ⟨M_11, hc_12, h⟩ := bv_elim h
    refine Fr_cVv (ν := m_X2_turnGate) (As := [.ref p1, .int y_2, .int 0]) (st := []) (rc := p0) (ci := 2) (d' := 1) (by decide +kernel) ml_X2_78 cv_X2_turnGate rfl (by decide) rfl hp0 rfl (by decide) (Nat.le_of_ble_eq_true rfl) (t_X2_turnGate hp0 hp1 hc_12) ?_
    refine Fr_iload_n (q := 2) (i := 2) 4 (by decide +kernel) rfl rfl ?_
    refine Fr_iconst (i := 1) (v := 1) (by decide +kernel) (by decide) ?_
    refine Fr_iadd (by decide +kernel) ?_
    obtain rfl := Option.some.inj h
    exact Fr_iret (by decide +kernel) rfl ⟨rfl, rfl⟩
  have h := iF hs_10 h
  by_cases hs_13 : (M.1 ((p1 + 7) + 1) (tn x2)) = 4
  · have h := iT hs_13 h
    refine Fr_tabIn (dflt := 113) (lo := 1) (hi := 7) (offs := #[41, 52, 64, 76, 87, 96, 101]) (len := 41) (off := 76) 95 (by decide +kernel) (by rw [hs_13]; decide) (by rw [hs_13]; decide) (by rw [hs_13]; rfl) (by decide) ?_
    refine Fr_aload_n (q := 0) (i := 0) 2 (by decide +kernel) rfl rfl ?_
    refine Fr_aload_n (q := 1) (i := 1) 3 (by decide +kernel) rfl rfl ?_
    refine Fr_iload (i := 4) 0 (by decide +kernel) rfl ?_
    obtain ⟨M_14, hc_15, h⟩ := bv_elim h
    refine Fr_cVv (ν := m_X2_turnWind) (As := [.ref p1, .int y_2]) (st := []) (rc := p0) (ci := 2) (d' := 0) (by decide +kernel) ml_X2_82 cv_X2_turnWind rfl (by decide) rfl hp0 rfl (by decide) (Nat.le_of_ble_eq_true rfl) (t_X2_turnWind hp0 hp1 hc_15) ?_
    refine Fr_iload_n (q := 2) (i := 2) 4 (by decide +kernel) rfl rfl ?_
    refine Fr_iconst (i := 1) (v := 1) (by decide +kernel) (by decide) ?_
    refine Fr_iadd (by decide +kernel) ?_
    obtain rfl := Option.some.inj h
    exact Fr_iret (by decide +kernel) rfl ⟨rfl, rfl⟩
  have h := iF hs_13 h
  by_cases hs_16 : (M.1 ((p1 + 7) + 1) (tn x2)) = 5
  · have h := iT hs_16 h
    refine Fr_tabIn (dflt := 113) (lo := 1) (hi := 7) (offs := #[41, 52, 64, 76, 87, 96, 101]) (len := 41) (off := 87) 106 (by decide +kernel) (by rw [hs_16]; decide) (by rw [hs_16]; decide) (by rw [hs_16]; rfl) (by decide) ?_
    refine Fr_aload_n (q := 0) (i := 0) 2 (by decide +kernel) rfl rfl ?_
    refine Fr_aload_n (q := 1) (i := 1) 3 (by decide +kernel) rfl rfl ?_
    obtain ⟨M_17, hc_18, h⟩ := bv_elim h
    refine Fr_cVv (ν := m_X2_rage) (As := [.ref p1]) (st := []) (rc := p0) (ci := 2) (d' := 1) (by decide +kernel) ml_X2_85 cv_X2_rage rfl (by decide) rfl hp0 rfl (by decide) (Nat.le_of_ble_eq_true rfl) (t_X2_rage hp0 hp1 hc_18) ?_
    refine Fr_iload_n (q := 2) (i := 2) 4 (by decide +kernel) rfl rfl ?_
    refine Fr_iconst (i := 1) (v := 1) (by decide +kernel) (by decide) ?_
    refine Fr_iadd (by decide +kernel) ?_
    obtain rfl := Option.some.inj h
    exact Fr_iret (by decide +kernel) rfl ⟨rfl, rfl⟩
  have h := iF hs_16 h
  by_cases hs_19 : (M.1 ((p1 + 7) + 1) (tn x2)) = 6
  · have h := iT hs_19 h
    refine Fr_tabIn (dflt := 113) (lo := 1) (hi := 7) (offs := #[41, 52, 64, 76, 87, 96, 101]) (len := 41) (off := 96) 115 (by decide +kernel) (by rw [hs_19]; decide) (by rw [hs_19]; decide) (by rw [hs_19]; rfl) (by decide) ?_
    refine Fr_aload_n (q := 3) (i := 3) 1 (by decide +kernel) rfl rfl ?_
    refine gf_X2_54 rfl (by decide +kernel) (o5_7 hp1) ?_
    obtain rfl := Option.some.inj h
    exact Fr_iret (by decide +kernel) rfl ⟨rfl, rfl⟩
  have h := iF hs_19 h
  by_cases hs_20 : (M.1 ((p1 + 7) + 1) (tn x2)) = 7
  · have h := iT hs_20 h
    refine Fr_tabIn (dflt := 113) (lo := 1) (hi := 7) (offs := #[41, 52, 64, 76, 87, 96, 101]) (len := 41) (off := 101) 120 (by decide +kernel) (by rw [hs_20]; decide) (by rw [hs_20]; decide) (by rw [hs_20]; rfl) (by decide) ?_
    refine Fr_aload_n (q := 0) (i := 0) 2 (by decide +kernel) rfl rfl ?_
    refine gf_X2_11 rfl (by decide +kernel) hp0 ?_
    refine Fr_iload_n (q := 2) (i := 2) 4 (by decide +kernel) rfl rfl ?_
    refine Fr_iload (i := 4) 0 (by decide +kernel) rfl ?_
    obtain ⟨hi_21, h⟩ := ck_elim h
    refine Fr_iast (by decide +kernel) (o2_1 hp0) (vp_of (n2_1 hp0) hi_21) ?_
    obtain ⟨M_22, eM_22, h⟩ := bM_elim h
    refine Fr_mem eM_22 ?_
    refine Fr_iload_n (q := 2) (i := 2) 4 (by decide +kernel) rfl rfl ?_
    refine Fr_iconst (i := 1) (v := 1) (by decide +kernel) (by decide) ?_
    refine Fr_iadd (by decide +kernel) ?_
    obtain rfl := Option.some.inj h
    exact Fr_iret (by decide +kernel) rfl ⟨rfl, rfl⟩
  have h := iF hs_20 h
  have hhs_4 := lv_neT (a := 1) hs_4 (by decide)
  have hhs_7 := lv_neT (a := 2) hs_7 (by decide)
  have hhs_10 := lv_neT (a := 3) hs_10 (by decide)
  have hhs_13 := lv_neT (a := 4) hs_13 (by decide)
  have hhs_16 := lv_neT (a := 5) hs_16 (by decide)
  have hhs_19 := lv_neT (a := 6) hs_19 (by decide)
  have hhs_20 := lv_neT (a := 7) hs_20 (by decide)
  refine Fr_tabOut (dflt := 113) (lo := 1) (hi := 7) (offs := #[41, 52, 64, 76, 87, 96, 101]) (len := 41) 132 (by decide +kernel) (by first | omega | (simp only [tn] at *; omega)) (by decide) ?_
  refine Fr_aload_n (q := 0) (i := 0) 2 (by decide +kernel) rfl rfl ?_
  refine Fr_aload_n (q := 1) (i := 1) 3 (by decide +kernel) rfl rfl ?_
  refine Fr_iload_n (q := 2) (i := 2) 4 (by decide +kernel) rfl rfl ?_
  obtain ⟨r_25, M_23, hc_24, h⟩ := bi_elim h
  refine Fr_cVb (ν := m_X2_holds) (As := [.ref p1, .int x2]) (st := []) (rc := p0) (ci := 2) (d' := 2) (by decide +kernel) ml_X2_89 cv_X2_holds rfl (by decide) rfl hp0 rfl (by decide) (Nat.le_of_ble_eq_true rfl) (t_X2_holds hp0 hp1 hc_24) ?_
  refine Fr_if_eq (off := 9) 147 (by decide +kernel) (by decide) (fun hc => ?_) (fun hc => ?_)
  · have h := iT hc h
    refine Fr_aload_n (q := 3) (i := 3) 1 (by decide +kernel) rfl rfl ?_
    refine gf_X2_68 rfl (by decide +kernel) (o5_7 hp1) ?_
    refine Fr_iload_n (q := 2) (i := 2) 4 (by decide +kernel) rfl rfl ?_
    obtain ⟨hi_26, h⟩ := ck_elim h
    refine Fr_iald (by decide +kernel) (o3_5 (o5_7 hp1)) (vp_of (n3_5 (o5_7 hp1)) hi_26) ?_
    refine Fr_iconst (i := 1) (v := 1) (by decide +kernel) (by decide) ?_
    refine Fr_iadd (by decide +kernel) ?_
    obtain rfl := Option.some.inj h
    exact Fr_iret (by decide +kernel) rfl ⟨rfl, rfl⟩
  · have h := iF hc h
    refine Fr_iload_n (q := 2) (i := 2) 4 (by decide +kernel) rfl rfl ?_
    refine Fr_iconst (i := 1) (v := 1) (by decide +kernel) (by decide) ?_
    refine Fr_iadd (by decide +kernel) ?_
    refine Fr_goto (off := 11) 155 (by decide +kernel) (by decide) ?_
    obtain rfl := Option.some.inj h
    exact Fr_iret (by decide +kernel) rfl ⟨rfl, rfl⟩
set_option maxRecDepth 20000 in
theorem t_X2_run_b126 {N : Nat} {p0 : Nat} {p1 : Nat} (hp0 : Ob 0 111 p0 2) (hp1 : Ob 0 111 p1 5) {q : Mem} {k51 : Int32 × Int32 → Mem → Option (Mem)} (hk51 : ∀ (a : Int32 × Int32) (M : Mem), k51 a M = some q → Fr 0 111 6 m_X2_run 51 [(0, .ref p0), (1, .ref p1), (3, .ref (p1 + 7)), (4, .int a.1), (5, .int a.2)] [] M (QV q)) {v4 : Int32} {v5 : Int32} {M : Mem} (h : f_X2_run_b126 N p0 p1 k51 v4 v5 M = some q) : Fr 0 111 6 m_X2_run 126 [(0, .ref p0), (1, .ref p1), (3, .ref (p1 + 7)), (4, .int v4), (5, .int v5)] [] M (QV q) := by
  unfold f_X2_run_b126 at h
  refine Fr_iinc (i := 5) (j := 1) (v := (v5 + 1)) (lv' := [(5, .int (v5 + 1)), (0, .ref p0), (1, .ref p1), (3, .ref (p1 + 7)), (4, .int v4)]) 4 (by decide +kernel) rfl rfl (by decide) rfl ?_
  refine Fr_goto (off := (-78)) 51 (by decide +kernel) (by decide) ?_
  refine Fr_loc [1, 2, 3, 4, 0] rfl ?_
  exact hk51 (v4, (v5 + 1)) M h
set_option maxRecDepth 20000 in
theorem t_X2_run_h51 {N : Nat} {p0 : Nat} {p1 : Nat} (hp0 : Ob 0 111 p0 2) (hp1 : Ob 0 111 p1 5) {q : Mem} {k51 : Int32 × Int32 → Mem → Option (Mem)} (hk51 : ∀ (a : Int32 × Int32) (M : Mem), k51 a M = some q → Fr 0 111 6 m_X2_run 51 [(0, .ref p0), (1, .ref p1), (3, .ref (p1 + 7)), (4, .int a.1), (5, .int a.2)] [] M (QV q)) {v4 : Int32} {v5 : Int32} {M : Mem} (h : f_X2_run_h51 N p0 p1 k51 v4 v5 M = some q) : Fr 0 111 6 m_X2_run 51 [(0, .ref p0), (1, .ref p1), (3, .ref (p1 + 7)), (4, .int v4), (5, .int v5)] [] M (QV q) := by
  unfold f_X2_run_h51 at h
  refine Fr_iload (i := 5) 4 (by decide +kernel) rfl ?_
  refine Fr_ldc (idx := 53) (v := 1000000) (by decide +kernel) lc_X2_53 ?_
  refine Fr_icmp_ge (off := 77) 132 (by decide +kernel) (by decide) (fun hc => ?_) (fun hc => ?_)
  · have h := iT hc h
    obtain rfl := Option.some.inj h
    exact Fr_vret (by decide +kernel) rfl ⟨rfl, rfl⟩
  · have h := iF hc h
    refine Fr_iload (i := 4) 3 (by decide +kernel) rfl ?_
    refine Fr_aload_n (q := 3) (i := 3) 2 (by decide +kernel) rfl rfl ?_
    refine gf_X2_54 rfl (by decide +kernel) (o5_7 hp1) ?_
    refine Fr_icmp_ge (off := 68) 132 (by decide +kernel) (by decide) (fun hc => ?_) (fun hc => ?_)
    · have h := iT hc h
      obtain rfl := Option.some.inj h
      exact Fr_vret (by decide +kernel) rfl ⟨rfl, rfl⟩
    · have h := iF hc h
      refine Fr_aload_n (q := 3) (i := 3) 2 (by decide +kernel) rfl rfl ?_
      refine gf_X2_57 rfl (by decide +kernel) (o5_7 hp1) ?_
      refine Fr_iload (i := 4) 3 (by decide +kernel) rfl ?_
      obtain ⟨hi_9, h⟩ := ck_elim h
      refine Fr_iald (by decide +kernel) (o3_1 (o5_7 hp1)) (vp_of (n3_1 (o5_7 hp1)) hi_9) ?_
      refine Fr_bipush (i := 11) (v := 11) (by decide +kernel) (by decide) ?_
      refine Fr_icmp_ne (off := 15) 91 (by decide +kernel) (by decide) (fun hc => ?_) (fun hc => ?_)
      · have h := iF hc h
        refine Fr_aload_n (q := 0) (i := 0) 0 (by decide +kernel) rfl rfl ?_
        refine gf_X2_44 rfl (by decide +kernel) hp0 ?_
        refine Fr_sipush (i := 300) (v := 300) (by decide +kernel) (by decide) ?_
        refine Fr_icmp_lt (off := 9) 107 (by decide +kernel) (by decide) (fun hc => ?_) (fun hc => ?_)
        · have h := iT hc h
          refine Fr_aload_n (q := 0) (i := 0) 0 (by decide +kernel) rfl rfl ?_
          refine Fr_dup (by decide +kernel) rfl ?_
          refine gf_X2_44 rfl (by decide +kernel) hp0 ?_
          refine Fr_iconst (i := 1) (v := 1) (by decide +kernel) (by decide) ?_
          refine Fr_iadd (by decide +kernel) ?_
          refine pf_X2_44 rfl (by decide +kernel) hp0 ?_
          obtain ⟨M_10, eM_10, h⟩ := bM_elim h
          refine Fr_mem eM_10 ?_
          refine Fr_aload_n (q := 0) (i := 0) 0 (by decide +kernel) rfl rfl ?_
          refine Fr_aload_n (q := 1) (i := 1) 1 (by decide +kernel) rfl rfl ?_
          refine Fr_iload (i := 4) 3 (by decide +kernel) rfl ?_
          obtain ⟨r_13, M_11, hc_12, h⟩ := bi_elim h
          refine Fr_cVi (ν := m_X2_doStep) (As := [.ref p1, .int v4]) (st := []) (rc := p0) (ci := 2) (d' := 5) (by decide +kernel) ml_X2_64 cv_X2_doStep rfl (by decide) rfl hp0 rfl (by decide) (Nat.le_of_ble_eq_true rfl) (t_X2_doStep hp0 hp1 hc_12) ?_
          refine Fr_istore (i := 4) (lv' := [(4, .int r_13), (0, .ref p0), (1, .ref p1), (3, .ref (p1 + 7)), (5, .int v5)]) (by decide +kernel) (by decide) rfl ?_
          refine Fr_loc [1, 2, 3, 0, 4] rfl ?_
          exact t_X2_run_b126 hp0 hp1 hk51 h
        · have h := iF hc h
          refine Fr_aload_n (q := 0) (i := 0) 0 (by decide +kernel) rfl rfl ?_
          refine Fr_iconst (i := 1) (v := 1) (by decide +kernel) (by decide) ?_
          refine pf_X2_34 rfl (by decide +kernel) hp0 (by decide) ?_
          obtain ⟨M_14, eM_14, h⟩ := bM_elim h
          refine Fr_mem eM_14 ?_
          obtain rfl := Option.some.inj h
          exact Fr_vret (by decide +kernel) rfl ⟨rfl, rfl⟩
      · have h := iT hc h
        refine Fr_aload_n (q := 0) (i := 0) 0 (by decide +kernel) rfl rfl ?_
        refine Fr_aload_n (q := 3) (i := 3) 2 (by decide +kernel) rfl rfl ?_
        refine Fr_iload (i := 4) 3 (by decide +kernel) rfl ?_
        obtain ⟨r_17, M_15, hc_16, h⟩ := bi_elim h
        refine Fr_cVi (ν := m_X2_behindEnd) (As := [.ref (p1 + 7), .int v4]) (st := []) (rc := p0) (ci := 2) (d' := 0) (by decide +kernel) ml_X2_60 cv_X2_behindEnd rfl (by decide) rfl hp0 rfl (by decide) (Nat.le_of_ble_eq_true rfl) (t_X2_behindEnd hp0 (o5_7 hp1) hc_16) ?_
        refine Fr_istore (i := 4) (lv' := [(4, .int r_17), (0, .ref p0), (1, .ref p1), (3, .ref (p1 + 7)), (5, .int v5)]) (by decide +kernel) (by decide) rfl ?_
        refine Fr_goto (off := 38) 126 (by decide +kernel) (by decide) ?_
        refine Fr_loc [1, 2, 3, 0, 4] rfl ?_
        exact t_X2_run_b126 hp0 hp1 hk51 h
set_option maxRecDepth 20000 in
theorem t_X2_run {N : Nat} {p0 : Nat} {p1 : Nat} {x2 : Int32} (hp0 : Ob 0 111 p0 2) (hp1 : Ob 0 111 p1 5) {M : Mem} {q : Mem} (h : f_X2_run N p0 p1 x2 M = some q) : Ev 0 111 6 m_X2_run [.ref p0, .ref p1, .int x2] M (QV q) := by
  refine Ev_of_Fr (by decide +kernel) (Nat.le_of_ble_eq_true rfl) ?_
  show Fr 0 111 6 m_X2_run 0 [(0, .ref p0), (1, .ref p1), (2, .int x2)] [] M (QV q)
  unfold f_X2_run at h
  refine Fr_aload_n (q := 0) (i := 0) 0 (by decide +kernel) rfl rfl ?_
  refine Fr_iload_n (q := 2) (i := 2) 2 (by decide +kernel) rfl rfl ?_
  refine pf_X2_38 rfl (by decide +kernel) hp0 ?_
  obtain ⟨M_1, eM_1, h⟩ := bM_elim h
  refine Fr_mem eM_1 ?_
  refine Fr_aload_n (q := 0) (i := 0) 0 (by decide +kernel) rfl rfl ?_
  refine Fr_iconst (i := 1) (v := 1) (by decide +kernel) (by decide) ?_
  refine pf_X2_41 rfl (by decide +kernel) hp0 (by decide) ?_
  obtain ⟨M_2, eM_2, h⟩ := bM_elim h
  refine Fr_mem eM_2 ?_
  refine Fr_aload_n (q := 0) (i := 0) 0 (by decide +kernel) rfl rfl ?_
  refine Fr_iconst (i := 0) (v := 0) (by decide +kernel) (by decide) ?_
  refine pf_X2_44 rfl (by decide +kernel) hp0 ?_
  obtain ⟨M_3, eM_3, h⟩ := bM_elim h
  refine Fr_mem eM_3 ?_
  refine Fr_aload_n (q := 0) (i := 0) 0 (by decide +kernel) rfl rfl ?_
  refine Fr_iconst (i := 0) (v := 0) (by decide +kernel) (by decide) ?_
  refine pf_X2_21 rfl (by decide +kernel) hp0 ?_
  obtain ⟨M_4, eM_4, h⟩ := bM_elim h
  refine Fr_mem eM_4 ?_
  refine Fr_aload_n (q := 0) (i := 0) 0 (by decide +kernel) rfl rfl ?_
  refine Fr_iconst (i := 0) (v := 0) (by decide +kernel) (by decide) ?_
  refine pf_X2_25 rfl (by decide +kernel) hp0 ?_
  obtain ⟨M_5, eM_5, h⟩ := bM_elim h
  refine Fr_mem eM_5 ?_
  refine Fr_aload_n (q := 0) (i := 0) 0 (by decide +kernel) rfl rfl ?_
  refine Fr_iconst (i := 0) (v := 0) (by decide +kernel) (by decide) ?_
  refine pf_X2_28 rfl (by decide +kernel) hp0 ?_
  obtain ⟨M_6, eM_6, h⟩ := bM_elim h
  refine Fr_mem eM_6 ?_
  refine Fr_aload_n (q := 0) (i := 0) 0 (by decide +kernel) rfl rfl ?_
  refine Fr_iconst (i := 0) (v := 0) (by decide +kernel) (by decide) ?_
  refine pf_X2_31 rfl (by decide +kernel) hp0 ?_
  obtain ⟨M_7, eM_7, h⟩ := bM_elim h
  refine Fr_mem eM_7 ?_
  refine Fr_aload_n (q := 0) (i := 0) 0 (by decide +kernel) rfl rfl ?_
  refine Fr_iconst (i := 0) (v := 0) (by decide +kernel) (by decide) ?_
  refine pf_X2_34 rfl (by decide +kernel) hp0 (by decide) ?_
  obtain ⟨M_8, eM_8, h⟩ := bM_elim h
  refine Fr_mem eM_8 ?_
  refine Fr_aload_n (q := 1) (i := 1) 1 (by decide +kernel) rfl rfl ?_
  refine gf_X2_47 rfl (by decide +kernel) hp1 ?_
  refine Fr_astore_n (q := 3) (i := 3) (lv' := [(3, .ref (p1 + 7)), (0, .ref p0), (1, .ref p1), (2, .int x2)]) (by decide +kernel) rfl (by decide) rfl ?_
  refine Fr_iconst (i := 0) (v := 0) (by decide +kernel) (by decide) ?_
  refine Fr_istore (i := 4) (lv' := [(4, .int 0), (3, .ref (p1 + 7)), (0, .ref p0), (1, .ref p1), (2, .int x2)]) (by decide +kernel) (by decide) rfl ?_
  refine Fr_iconst (i := 0) (v := 0) (by decide +kernel) (by decide) ?_
  refine Fr_istore (i := 5) (lv' := [(5, .int 0), (4, .int 0), (3, .ref (p1 + 7)), (0, .ref p0), (1, .ref p1), (2, .int x2)]) (by decide +kernel) (by decide) rfl ?_
  refine Fr_loc [3, 4, 2, 1, 0] rfl ?_
  exact lp_sound (body := fun k a m => f_X2_run_h51 N p0 p1 k a.1 a.2 m) (P := fun a M => Fr 0 111 6 m_X2_run 51 [(0, .ref p0), (1, .ref p1), (3, .ref (p1 + 7)), (4, .int a.1), (5, .int a.2)] [] M (QV q)) (fun k hk a m h => t_X2_run_h51 hp0 hp1 hk h) N (0, 0) M_8 h
set_option maxRecDepth 20000 in
theorem t_X3_clear {p0 : Nat} (hp0 : Ob 0 111 p0 3) {M : Mem} {q : Mem} (h : f_X3_clear p0 M = some q) : Ev 0 111 0 m_X3_clear [.ref p0] M (QV q) := by
  refine Ev_of_Fr (by decide +kernel) (Nat.le_of_ble_eq_true rfl) ?_
  show Fr 0 111 0 m_X3_clear 0 [(0, .ref p0)] [] M (QV q)
  unfold f_X3_clear at h
  refine Fr_aload_n (q := 0) (i := 0) 0 (by decide +kernel) rfl rfl ?_
  refine Fr_iconst (i := 0) (v := 0) (by decide +kernel) (by decide) ?_
  refine pf_X3_25 rfl (by decide +kernel) hp0 (by decide) ?_
  obtain ⟨M_1, eM_1, h⟩ := bM_elim h
  refine Fr_mem eM_1 ?_
  refine Fr_aload_n (q := 0) (i := 0) 0 (by decide +kernel) rfl rfl ?_
  refine Fr_iconst (i := 0) (v := 0) (by decide +kernel) (by decide) ?_
  refine pf_X3_29 rfl (by decide +kernel) hp0 ?_
  obtain ⟨M_2, eM_2, h⟩ := bM_elim h
  refine Fr_mem eM_2 ?_
  refine Fr_aload_n (q := 0) (i := 0) 0 (by decide +kernel) rfl rfl ?_
  refine Fr_iconst (i := 0) (v := 0) (by decide +kernel) (by decide) ?_
  refine pf_X3_33 rfl (by decide +kernel) hp0 ?_
  obtain ⟨M_3, eM_3, h⟩ := bM_elim h
  refine Fr_mem eM_3 ?_
  obtain rfl := Option.some.inj h
  exact Fr_vret (by decide +kernel) rfl ⟨rfl, rfl⟩
set_option maxRecDepth 20000 in
theorem t_X3_copyFrom {p0 : Nat} {p1 : Nat} (hp0 : Ob 0 111 p0 3) (hp1 : Ob 0 111 p1 3) {M : Mem} {q : Mem} (h : f_X3_copyFrom p0 p1 M = some q) : Ev 0 111 1 m_X3_copyFrom [.ref p0, .ref p1] M (QV q) := by
  refine Ev_of_Fr (by decide +kernel) (Nat.le_of_ble_eq_true rfl) ?_
  show Fr 0 111 1 m_X3_copyFrom 0 [(0, .ref p0), (1, .ref p1)] [] M (QV q)
  unfold f_X3_copyFrom at h
  refine Fr_aload_n (q := 0) (i := 0) 0 (by decide +kernel) rfl rfl ?_
  refine Fr_aload_n (q := 1) (i := 1) 1 (by decide +kernel) rfl rfl ?_
  refine gf_X3_25 rfl (by decide +kernel) hp1 ?_
  obtain ⟨b_2, eb_2, h⟩ := zb_elim h
  refine pf_X3_25 rfl (by decide +kernel) hp0 (by rw [eb_2]; exact nz_b b_2) ?_
  obtain ⟨M_1, eM_1, h⟩ := bM_elim h
  refine Fr_mem eM_1 ?_
  refine Fr_aload_n (q := 0) (i := 0) 0 (by decide +kernel) rfl rfl ?_
  refine Fr_aload_n (q := 1) (i := 1) 1 (by decide +kernel) rfl rfl ?_
  refine gf_X3_29 rfl (by decide +kernel) hp1 ?_
  refine pf_X3_29 rfl (by decide +kernel) hp0 ?_
  obtain ⟨M_3, eM_3, h⟩ := bM_elim h
  refine Fr_mem eM_3 ?_
  refine Fr_aload_n (q := 0) (i := 0) 0 (by decide +kernel) rfl rfl ?_
  refine Fr_aload_n (q := 1) (i := 1) 1 (by decide +kernel) rfl rfl ?_
  refine gf_X3_33 rfl (by decide +kernel) hp1 ?_
  refine pf_X3_33 rfl (by decide +kernel) hp0 ?_
  obtain ⟨M_4, eM_4, h⟩ := bM_elim h
  refine Fr_mem eM_4 ?_
  refine Fr_aload_n (q := 1) (i := 1) 1 (by decide +kernel) rfl rfl ?_
  refine gf_X3_9 rfl (by decide +kernel) hp1 ?_
  refine Fr_iconst (i := 0) (v := 0) (by decide +kernel) (by decide) ?_
  refine Fr_aload_n (q := 0) (i := 0) 0 (by decide +kernel) rfl rfl ?_
  refine gf_X3_9 rfl (by decide +kernel) hp0 ?_
  refine Fr_iconst (i := 0) (v := 0) (by decide +kernel) (by decide) ?_
  refine Fr_bipush (i := 60) (v := 60) (by decide +kernel) (by decide) ?_
  refine Fr_acopyI (by decide +kernel) ml_X3_36 (o3_1 hp1) (o3_1 hp0) (by decide) (by decide) (by decide) (le_len (n3_1 hp1) (by decide)) (le_len (n3_1 hp0) (by decide)) (by decide) (Nat.le_of_ble_eq_true rfl) ?_
  obtain ⟨M_5, eM_5, h⟩ := bM_elim h
  refine Fr_mem eM_5 ?_
  refine Fr_aload_n (q := 1) (i := 1) 1 (by decide +kernel) rfl rfl ?_
  refine gf_X3_13 rfl (by decide +kernel) hp1 ?_
  refine Fr_iconst (i := 0) (v := 0) (by decide +kernel) (by decide) ?_
  refine Fr_aload_n (q := 0) (i := 0) 0 (by decide +kernel) rfl rfl ?_
  refine gf_X3_13 rfl (by decide +kernel) hp0 ?_
  refine Fr_iconst (i := 0) (v := 0) (by decide +kernel) (by decide) ?_
  refine Fr_bipush (i := 60) (v := 60) (by decide +kernel) (by decide) ?_
  refine Fr_acopyI (by decide +kernel) ml_X3_36 (o3_2 hp1) (o3_2 hp0) (by decide) (by decide) (by decide) (le_len (n3_2 hp1) (by decide)) (le_len (n3_2 hp0) (by decide)) (by decide) (Nat.le_of_ble_eq_true rfl) ?_
  obtain ⟨M_6, eM_6, h⟩ := bM_elim h
  refine Fr_mem eM_6 ?_
  refine Fr_aload_n (q := 1) (i := 1) 1 (by decide +kernel) rfl rfl ?_
  refine gf_X3_16 rfl (by decide +kernel) hp1 ?_
  refine Fr_iconst (i := 0) (v := 0) (by decide +kernel) (by decide) ?_
  refine Fr_aload_n (q := 0) (i := 0) 0 (by decide +kernel) rfl rfl ?_
  refine gf_X3_16 rfl (by decide +kernel) hp0 ?_
  refine Fr_iconst (i := 0) (v := 0) (by decide +kernel) (by decide) ?_
  refine Fr_bipush (i := 60) (v := 60) (by decide +kernel) (by decide) ?_
  refine Fr_acopyI (by decide +kernel) ml_X3_36 (o3_3 hp1) (o3_3 hp0) (by decide) (by decide) (by decide) (le_len (n3_3 hp1) (by decide)) (le_len (n3_3 hp0) (by decide)) (by decide) (Nat.le_of_ble_eq_true rfl) ?_
  obtain ⟨M_7, eM_7, h⟩ := bM_elim h
  refine Fr_mem eM_7 ?_
  refine Fr_aload_n (q := 1) (i := 1) 1 (by decide +kernel) rfl rfl ?_
  refine gf_X3_19 rfl (by decide +kernel) hp1 ?_
  refine Fr_iconst (i := 0) (v := 0) (by decide +kernel) (by decide) ?_
  refine Fr_aload_n (q := 0) (i := 0) 0 (by decide +kernel) rfl rfl ?_
  refine gf_X3_19 rfl (by decide +kernel) hp0 ?_
  refine Fr_iconst (i := 0) (v := 0) (by decide +kernel) (by decide) ?_
  refine Fr_bipush (i := 60) (v := 60) (by decide +kernel) (by decide) ?_
  refine Fr_acopyI (by decide +kernel) ml_X3_36 (o3_4 hp1) (o3_4 hp0) (by decide) (by decide) (by decide) (le_len (n3_4 hp1) (by decide)) (le_len (n3_4 hp0) (by decide)) (by decide) (Nat.le_of_ble_eq_true rfl) ?_
  obtain ⟨M_8, eM_8, h⟩ := bM_elim h
  refine Fr_mem eM_8 ?_
  refine Fr_aload_n (q := 1) (i := 1) 1 (by decide +kernel) rfl rfl ?_
  refine gf_X3_22 rfl (by decide +kernel) hp1 ?_
  refine Fr_iconst (i := 0) (v := 0) (by decide +kernel) (by decide) ?_
  refine Fr_aload_n (q := 0) (i := 0) 0 (by decide +kernel) rfl rfl ?_
  refine gf_X3_22 rfl (by decide +kernel) hp0 ?_
  refine Fr_iconst (i := 0) (v := 0) (by decide +kernel) (by decide) ?_
  refine Fr_bipush (i := 60) (v := 60) (by decide +kernel) (by decide) ?_
  refine Fr_acopyI (by decide +kernel) ml_X3_36 (o3_5 hp1) (o3_5 hp0) (by decide) (by decide) (by decide) (le_len (n3_5 hp1) (by decide)) (le_len (n3_5 hp0) (by decide)) (by decide) (Nat.le_of_ble_eq_true rfl) ?_
  obtain ⟨M_9, eM_9, h⟩ := bM_elim h
  refine Fr_mem eM_9 ?_
  obtain rfl := Option.some.inj h
  exact Fr_vret (by decide +kernel) rfl ⟨rfl, rfl⟩
set_option maxRecDepth 20000 in
theorem t_X3_isFull {p0 : Nat} (hp0 : Ob 0 111 p0 3) {M : Mem} {q : Bool × Mem} (h : f_X3_isFull p0 M = some q) : Ev 0 111 0 m_X3_isFull [.ref p0] M (QB q) := by
  refine Ev_of_Fr (by decide +kernel) (Nat.le_of_ble_eq_true rfl) ?_
  show Fr 0 111 0 m_X3_isFull 0 [(0, .ref p0)] [] M (QB q)
  unfold f_X3_isFull at h
  refine Fr_aload_n (q := 0) (i := 0) 0 (by decide +kernel) rfl rfl ?_
  refine gf_X3_29 rfl (by decide +kernel) hp0 ?_
  refine Fr_bipush (i := 60) (v := 60) (by decide +kernel) (by decide) ?_
  refine Fr_icmp_lt (off := 7) 13 (by decide +kernel) (by decide) (fun hc => ?_) (fun hc => ?_)
  · have h := iT hc h
    refine Fr_iconst (i := 0) (v := 0) (by decide +kernel) (by decide) ?_
    obtain rfl := Option.some.inj h
    exact Fr_zret (by decide +kernel) rfl (by decide) ⟨rfl, rfl⟩
  · have h := iF hc h
    refine Fr_iconst (i := 1) (v := 1) (by decide +kernel) (by decide) ?_
    refine Fr_goto (off := 4) 14 (by decide +kernel) (by decide) ?_
    obtain rfl := Option.some.inj h
    exact Fr_zret (by decide +kernel) rfl (by decide) ⟨rfl, rfl⟩
set_option maxRecDepth 20000 in
theorem t_X8_advance_b231 {N : Nat} {q : Mem} {M : Mem} (h : f_X8_advance_b231 N M = some q) : Fr 0 111 0 m_X8_advance 231 [(0, .ref 82)] [] M (QV q) := by
  unfold f_X8_advance_b231 at h
  refine Fr_aload_n (q := 0) (i := 0) 0 (by decide +kernel) rfl rfl ?_
  refine gf_X8_31 rfl (by decide +kernel) ob_82 ?_
  refine Fr_aload_n (q := 0) (i := 0) 0 (by decide +kernel) rfl rfl ?_
  refine gf_X8_40 rfl (by decide +kernel) ob_82 ?_
  refine Fr_icmp_le (off := 26) 265 (by decide +kernel) (by decide) (fun hc => ?_) (fun hc => ?_)
  · have h := iT hc h
    refine Fr_aload_n (q := 0) (i := 0) 0 (by decide +kernel) rfl rfl ?_
    refine Fr_iconst (i := 0) (v := 0) (by decide +kernel) (by decide) ?_
    refine pf_X8_37 rfl (by decide +kernel) ob_82 ?_
    obtain ⟨M_4, eM_4, h⟩ := bM_elim h
    refine Fr_mem eM_4 ?_
    refine Fr_aload_n (q := 0) (i := 0) 0 (by decide +kernel) rfl rfl ?_
    refine gf_X8_40 rfl (by decide +kernel) ob_82 ?_
    refine Fr_aload_n (q := 0) (i := 0) 0 (by decide +kernel) rfl rfl ?_
    refine gf_X8_28 rfl (by decide +kernel) ob_82 ?_
    refine Fr_icmp_ge (off := 71) 349 (by decide +kernel) (by decide) (fun hc => ?_) (fun hc => ?_)
    · have h := iT hc h
      obtain rfl := Option.some.inj h
      exact Fr_vret (by decide +kernel) rfl ⟨rfl, rfl⟩
    · have h := iF hc h
      refine Fr_aload_n (q := 0) (i := 0) 0 (by decide +kernel) rfl rfl ?_
      refine Fr_aload_n (q := 0) (i := 0) 0 (by decide +kernel) rfl rfl ?_
      refine gf_X8_9 rfl (by decide +kernel) ob_82 ?_
      refine Fr_aload_n (q := 0) (i := 0) 0 (by decide +kernel) rfl rfl ?_
      refine gf_X8_40 rfl (by decide +kernel) ob_82 ?_
      obtain ⟨hi_5, h⟩ := ck_elim h
      refine Fr_bald (by decide +kernel) ob_1 (vp_of ln_1 hi_5) ?_
      refine pf_X8_43 rfl (by decide +kernel) ob_82 ?_
      obtain ⟨M_6, eM_6, h⟩ := bM_elim h
      refine Fr_mem eM_6 ?_
      refine Fr_aload_n (q := 0) (i := 0) 0 (by decide +kernel) rfl rfl ?_
      refine Fr_aload_n (q := 0) (i := 0) 0 (by decide +kernel) rfl rfl ?_
      refine gf_X8_40 rfl (by decide +kernel) ob_82 ?_
      refine Fr_iconst (i := 1) (v := 1) (by decide +kernel) (by decide) ?_
      refine Fr_iadd (by decide +kernel) ?_
      refine pf_X8_31 rfl (by decide +kernel) ob_82 ?_
      obtain ⟨M_7, eM_7, h⟩ := bM_elim h
      refine Fr_mem eM_7 ?_
      refine Fr_aload_n (q := 0) (i := 0) 0 (by decide +kernel) rfl rfl ?_
      refine Fr_aload_n (q := 0) (i := 0) 0 (by decide +kernel) rfl rfl ?_
      refine gf_X8_43 rfl (by decide +kernel) ob_82 ?_
      refine Fr_bipush (i := 59) (v := 59) (by decide +kernel) (by decide) ?_
      refine Fr_icmp_eq (off := 30) 341 (by decide +kernel) (by decide) (fun hc => ?_) (fun hc => ?_)
      · have h := iT hc h
        refine Fr_iconst (i := 3) (v := 3) (by decide +kernel) (by decide) ?_
        refine Fr_goto (off := 4) 346 (by decide +kernel) (by decide) ?_
        refine pf_X8_37 rfl (by decide +kernel) ob_82 ?_
        obtain ⟨M_8, eM_8, h⟩ := bM_elim h
        refine Fr_mem eM_8 ?_
        obtain rfl := Option.some.inj h
        exact Fr_vret (by decide +kernel) rfl ⟨rfl, rfl⟩
      · have h := iF hc h
        refine Fr_aload_n (q := 0) (i := 0) 0 (by decide +kernel) rfl rfl ?_
        refine gf_X8_43 rfl (by decide +kernel) ob_82 ?_
        refine Fr_bipush (i := 60) (v := 60) (by decide +kernel) (by decide) ?_
        refine Fr_icmp_eq (off := 21) 341 (by decide +kernel) (by decide) (fun hc => ?_) (fun hc => ?_)
        · have h := iT hc h
          refine Fr_iconst (i := 3) (v := 3) (by decide +kernel) (by decide) ?_
          refine Fr_goto (off := 4) 346 (by decide +kernel) (by decide) ?_
          refine pf_X8_37 rfl (by decide +kernel) ob_82 ?_
          obtain ⟨M_9, eM_9, h⟩ := bM_elim h
          refine Fr_mem eM_9 ?_
          obtain rfl := Option.some.inj h
          exact Fr_vret (by decide +kernel) rfl ⟨rfl, rfl⟩
        · have h := iF hc h
          refine Fr_aload_n (q := 0) (i := 0) 0 (by decide +kernel) rfl rfl ?_
          refine gf_X8_43 rfl (by decide +kernel) ob_82 ?_
          refine Fr_bipush (i := 62) (v := 62) (by decide +kernel) (by decide) ?_
          refine Fr_icmp_eq (off := 12) 341 (by decide +kernel) (by decide) (fun hc => ?_) (fun hc => ?_)
          · have h := iT hc h
            refine Fr_iconst (i := 3) (v := 3) (by decide +kernel) (by decide) ?_
            refine Fr_goto (off := 4) 346 (by decide +kernel) (by decide) ?_
            refine pf_X8_37 rfl (by decide +kernel) ob_82 ?_
            obtain ⟨M_10, eM_10, h⟩ := bM_elim h
            refine Fr_mem eM_10 ?_
            obtain rfl := Option.some.inj h
            exact Fr_vret (by decide +kernel) rfl ⟨rfl, rfl⟩
          · have h := iF hc h
            refine Fr_aload_n (q := 0) (i := 0) 0 (by decide +kernel) rfl rfl ?_
            refine gf_X8_43 rfl (by decide +kernel) ob_82 ?_
            refine Fr_bipush (i := 61) (v := 61) (by decide +kernel) (by decide) ?_
            refine Fr_icmp_ne (off := 7) 345 (by decide +kernel) (by decide) (fun hc => ?_) (fun hc => ?_)
            · have h := iF hc h
              refine Fr_iconst (i := 4) (v := 4) (by decide +kernel) (by decide) ?_
              refine pf_X8_37 rfl (by decide +kernel) ob_82 ?_
              obtain ⟨M_11, eM_11, h⟩ := bM_elim h
              refine Fr_mem eM_11 ?_
              obtain rfl := Option.some.inj h
              exact Fr_vret (by decide +kernel) rfl ⟨rfl, rfl⟩
            · have h := iT hc h
              refine Fr_iconst (i := 3) (v := 3) (by decide +kernel) (by decide) ?_
              refine Fr_goto (off := 4) 346 (by decide +kernel) (by decide) ?_
              refine pf_X8_37 rfl (by decide +kernel) ob_82 ?_
              obtain ⟨M_12, eM_12, h⟩ := bM_elim h
              refine Fr_mem eM_12 ?_
              obtain rfl := Option.some.inj h
              exact Fr_vret (by decide +kernel) rfl ⟨rfl, rfl⟩
  · have h := iF hc h
    refine Fr_aload_n (q := 0) (i := 0) 0 (by decide +kernel) rfl rfl ?_
    refine Fr_aload_n (q := 0) (i := 0) 0 (by decide +kernel) rfl rfl ?_
    refine gf_X8_31 rfl (by decide +kernel) ob_82 ?_
    refine Fr_aload_n (q := 0) (i := 0) 0 (by decide +kernel) rfl rfl ?_
    refine gf_X8_40 rfl (by decide +kernel) ob_82 ?_
    refine Fr_isub (by decide +kernel) ?_
    refine Fr_iconst (i := 4) (v := 4) (by decide +kernel) (by decide) ?_
    refine Fr_icmp_le (off := 7) 260 (by decide +kernel) (by decide) (fun hc => ?_) (fun hc => ?_)
    · have h := iT hc h
      refine Fr_iconst (i := 2) (v := 2) (by decide +kernel) (by decide) ?_
      refine pf_X8_37 rfl (by decide +kernel) ob_82 ?_
      obtain ⟨M_13, eM_13, h⟩ := bM_elim h
      refine Fr_mem eM_13 ?_
      obtain rfl := Option.some.inj h
      exact Fr_vret (by decide +kernel) rfl ⟨rfl, rfl⟩
    · have h := iF hc h
      refine Fr_iconst (i := 4) (v := 4) (by decide +kernel) (by decide) ?_
      refine Fr_goto (off := 4) 261 (by decide +kernel) (by decide) ?_
      refine pf_X8_37 rfl (by decide +kernel) ob_82 ?_
      obtain ⟨M_14, eM_14, h⟩ := bM_elim h
      refine Fr_mem eM_14 ?_
      obtain rfl := Option.some.inj h
      exact Fr_vret (by decide +kernel) rfl ⟨rfl, rfl⟩
set_option maxRecDepth 20000 in
theorem t_X8_advance_b218 {N : Nat} {q : Mem} {k142 : Unit → Mem → Option (Mem)} (hk142 : ∀ (a : Unit) (M : Mem), k142 a M = some q → Fr 0 111 0 m_X8_advance 142 [(0, .ref 82)] [] M (QV q)) {M : Mem} (h : f_X8_advance_b218 N k142 M = some q) : Fr 0 111 0 m_X8_advance 218 [(0, .ref 82)] [] M (QV q) := by
  unfold f_X8_advance_b218 at h
  refine Fr_aload_n (q := 0) (i := 0) 0 (by decide +kernel) rfl rfl ?_
  refine Fr_dup (by decide +kernel) rfl ?_
  refine gf_X8_31 rfl (by decide +kernel) ob_82 ?_
  refine Fr_iconst (i := 1) (v := 1) (by decide +kernel) (by decide) ?_
  refine Fr_iadd (by decide +kernel) ?_
  refine pf_X8_31 rfl (by decide +kernel) ob_82 ?_
  obtain ⟨M_17, eM_17, h⟩ := bM_elim h
  refine Fr_mem eM_17 ?_
  refine Fr_goto (off := (-86)) 142 (by decide +kernel) (by decide) ?_
  exact hk142 () M_17 h
set_option maxRecDepth 20000 in
theorem t_X8_advance_h142 {N : Nat} {q : Mem} {k142 : Unit → Mem → Option (Mem)} (hk142 : ∀ (a : Unit) (M : Mem), k142 a M = some q → Fr 0 111 0 m_X8_advance 142 [(0, .ref 82)] [] M (QV q)) {M : Mem} (h : f_X8_advance_h142 N k142 M = some q) : Fr 0 111 0 m_X8_advance 142 [(0, .ref 82)] [] M (QV q) := by
  unfold f_X8_advance_h142 at h
  refine Fr_aload_n (q := 0) (i := 0) 0 (by decide +kernel) rfl rfl ?_
  refine gf_X8_31 rfl (by decide +kernel) ob_82 ?_
  refine Fr_aload_n (q := 0) (i := 0) 0 (by decide +kernel) rfl rfl ?_
  refine gf_X8_28 rfl (by decide +kernel) ob_82 ?_
  refine Fr_icmp_ge (off := 81) 231 (by decide +kernel) (by decide) (fun hc => ?_) (fun hc => ?_)
  · have h := iT hc h
    exact t_X8_advance_b231 h
  · have h := iF hc h
    refine Fr_aload_n (q := 0) (i := 0) 0 (by decide +kernel) rfl rfl ?_
    refine gf_X8_9 rfl (by decide +kernel) ob_82 ?_
    refine Fr_aload_n (q := 0) (i := 0) 0 (by decide +kernel) rfl rfl ?_
    refine gf_X8_31 rfl (by decide +kernel) ob_82 ?_
    obtain ⟨hi_15, h⟩ := ck_elim h
    refine Fr_bald (by decide +kernel) ob_1 (vp_of ln_1 hi_15) ?_
    refine Fr_bipush (i := 48) (v := 48) (by decide +kernel) (by decide) ?_
    refine Fr_icmp_lt (off := 67) 231 (by decide +kernel) (by decide) (fun hc => ?_) (fun hc => ?_)
    · have h := iT hc h
      exact t_X8_advance_b231 h
    · have h := iF hc h
      refine Fr_aload_n (q := 0) (i := 0) 0 (by decide +kernel) rfl rfl ?_
      refine gf_X8_9 rfl (by decide +kernel) ob_82 ?_
      refine Fr_aload_n (q := 0) (i := 0) 0 (by decide +kernel) rfl rfl ?_
      refine gf_X8_31 rfl (by decide +kernel) ob_82 ?_
      obtain ⟨hi_16, h⟩ := ck_elim h
      refine Fr_bald (by decide +kernel) ob_1 (vp_of ln_1 hi_16) ?_
      refine Fr_bipush (i := 57) (v := 57) (by decide +kernel) (by decide) ?_
      refine Fr_icmp_gt (off := 53) 231 (by decide +kernel) (by decide) (fun hc => ?_) (fun hc => ?_)
      · have h := iT hc h
        exact t_X8_advance_b231 h
      · have h := iF hc h
        refine Fr_aload_n (q := 0) (i := 0) 0 (by decide +kernel) rfl rfl ?_
        refine gf_X8_31 rfl (by decide +kernel) ob_82 ?_
        refine Fr_aload_n (q := 0) (i := 0) 0 (by decide +kernel) rfl rfl ?_
        refine gf_X8_40 rfl (by decide +kernel) ob_82 ?_
        refine Fr_isub (by decide +kernel) ?_
        refine Fr_iconst (i := 4) (v := 4) (by decide +kernel) (by decide) ?_
        refine Fr_icmp_ge (off := 27) 218 (by decide +kernel) (by decide) (fun hc => ?_) (fun hc => ?_)
        · have h := iT hc h
          exact t_X8_advance_b218 hk142 h
        · have h := iF hc h
          refine Fr_aload_n (q := 0) (i := 0) 0 (by decide +kernel) rfl rfl ?_
          refine Fr_aload_n (q := 0) (i := 0) 0 (by decide +kernel) rfl rfl ?_
          refine gf_X8_43 rfl (by decide +kernel) ob_82 ?_
          refine Fr_bipush (i := 10) (v := 10) (by decide +kernel) (by decide) ?_
          refine Fr_imul (by decide +kernel) ?_
          refine Fr_aload_n (q := 0) (i := 0) 0 (by decide +kernel) rfl rfl ?_
          refine gf_X8_9 rfl (by decide +kernel) ob_82 ?_
          refine Fr_aload_n (q := 0) (i := 0) 0 (by decide +kernel) rfl rfl ?_
          refine gf_X8_31 rfl (by decide +kernel) ob_82 ?_
          obtain ⟨hi_18, h⟩ := ck_elim h
          refine Fr_bald (by decide +kernel) ob_1 (vp_of ln_1 hi_18) ?_
          refine Fr_iadd (by decide +kernel) ?_
          refine Fr_bipush (i := 48) (v := 48) (by decide +kernel) (by decide) ?_
          refine Fr_isub (by decide +kernel) ?_
          refine pf_X8_43 rfl (by decide +kernel) ob_82 ?_
          obtain ⟨M_19, eM_19, h⟩ := bM_elim h
          refine Fr_mem eM_19 ?_
          exact t_X8_advance_b218 hk142 h
set_option maxRecDepth 20000 in
theorem t_X8_advance_b125 {N : Nat} {q : Mem} {M : Mem} (h : f_X8_advance_b125 N M = some q) : Fr 0 111 0 m_X8_advance 125 [(0, .ref 82)] [] M (QV q) := by
  unfold f_X8_advance_b125 at h
  refine Fr_aload_n (q := 0) (i := 0) 0 (by decide +kernel) rfl rfl ?_
  refine gf_X8_31 rfl (by decide +kernel) ob_82 ?_
  refine Fr_aload_n (q := 0) (i := 0) 0 (by decide +kernel) rfl rfl ?_
  refine gf_X8_40 rfl (by decide +kernel) ob_82 ?_
  refine Fr_icmp_le (off := 9) 142 (by decide +kernel) (by decide) (fun hc => ?_) (fun hc => ?_)
  · have h := iT hc h
    exact lp_sound (body := fun k a m => f_X8_advance_h142 N k m) (P := fun a M => Fr 0 111 0 m_X8_advance 142 [(0, .ref 82)] [] M (QV q)) (fun k hk a m h => t_X8_advance_h142 hk h) N () M h
  · have h := iF hc h
    refine Fr_aload_n (q := 0) (i := 0) 0 (by decide +kernel) rfl rfl ?_
    refine Fr_iconst (i := 1) (v := 1) (by decide +kernel) (by decide) ?_
    refine pf_X8_37 rfl (by decide +kernel) ob_82 ?_
    obtain ⟨M_20, eM_20, h⟩ := bM_elim h
    refine Fr_mem eM_20 ?_
    obtain rfl := Option.some.inj h
    exact Fr_vret (by decide +kernel) rfl ⟨rfl, rfl⟩
set_option maxRecDepth 20000 in
theorem t_X8_advance_h73 {N : Nat} {q : Mem} {k73 : Unit → Mem → Option (Mem)} (hk73 : ∀ (a : Unit) (M : Mem), k73 a M = some q → Fr 0 111 0 m_X8_advance 73 [(0, .ref 82)] [] M (QV q)) {M : Mem} (h : f_X8_advance_h73 N k73 M = some q) : Fr 0 111 0 m_X8_advance 73 [(0, .ref 82)] [] M (QV q) := by
  unfold f_X8_advance_h73 at h
  refine Fr_aload_n (q := 0) (i := 0) 0 (by decide +kernel) rfl rfl ?_
  refine gf_X8_31 rfl (by decide +kernel) ob_82 ?_
  refine Fr_aload_n (q := 0) (i := 0) 0 (by decide +kernel) rfl rfl ?_
  refine gf_X8_28 rfl (by decide +kernel) ob_82 ?_
  refine Fr_icmp_ge (off := 44) 125 (by decide +kernel) (by decide) (fun hc => ?_) (fun hc => ?_)
  · have h := iT hc h
    exact t_X8_advance_b125 h
  · have h := iF hc h
    refine Fr_aload_n (q := 0) (i := 0) 0 (by decide +kernel) rfl rfl ?_
    refine gf_X8_9 rfl (by decide +kernel) ob_82 ?_
    refine Fr_aload_n (q := 0) (i := 0) 0 (by decide +kernel) rfl rfl ?_
    refine gf_X8_31 rfl (by decide +kernel) ob_82 ?_
    obtain ⟨hi_21, h⟩ := ck_elim h
    refine Fr_bald (by decide +kernel) ob_1 (vp_of ln_1 hi_21) ?_
    refine Fr_bipush (i := 97) (v := 97) (by decide +kernel) (by decide) ?_
    refine Fr_icmp_lt (off := 30) 125 (by decide +kernel) (by decide) (fun hc => ?_) (fun hc => ?_)
    · have h := iT hc h
      exact t_X8_advance_b125 h
    · have h := iF hc h
      refine Fr_aload_n (q := 0) (i := 0) 0 (by decide +kernel) rfl rfl ?_
      refine gf_X8_9 rfl (by decide +kernel) ob_82 ?_
      refine Fr_aload_n (q := 0) (i := 0) 0 (by decide +kernel) rfl rfl ?_
      refine gf_X8_31 rfl (by decide +kernel) ob_82 ?_
      obtain ⟨hi_22, h⟩ := ck_elim h
      refine Fr_bald (by decide +kernel) ob_1 (vp_of ln_1 hi_22) ?_
      refine Fr_bipush (i := 122) (v := 122) (by decide +kernel) (by decide) ?_
      refine Fr_icmp_gt (off := 16) 125 (by decide +kernel) (by decide) (fun hc => ?_) (fun hc => ?_)
      · have h := iT hc h
        exact t_X8_advance_b125 h
      · have h := iF hc h
        refine Fr_aload_n (q := 0) (i := 0) 0 (by decide +kernel) rfl rfl ?_
        refine Fr_dup (by decide +kernel) rfl ?_
        refine gf_X8_31 rfl (by decide +kernel) ob_82 ?_
        refine Fr_iconst (i := 1) (v := 1) (by decide +kernel) (by decide) ?_
        refine Fr_iadd (by decide +kernel) ?_
        refine pf_X8_31 rfl (by decide +kernel) ob_82 ?_
        obtain ⟨M_23, eM_23, h⟩ := bM_elim h
        refine Fr_mem eM_23 ?_
        refine Fr_goto (off := (-49)) 73 (by decide +kernel) (by decide) ?_
        exact hk73 () M_23 h
set_option maxRecDepth 20000 in
theorem t_X8_advance_b60 {N : Nat} {q : Mem} {M : Mem} (h : f_X8_advance_b60 N M = some q) : Fr 0 111 0 m_X8_advance 60 [(0, .ref 82)] [] M (QV q) := by
  unfold f_X8_advance_b60 at h
  refine Fr_aload_n (q := 0) (i := 0) 0 (by decide +kernel) rfl rfl ?_
  refine Fr_aload_n (q := 0) (i := 0) 0 (by decide +kernel) rfl rfl ?_
  refine gf_X8_40 rfl (by decide +kernel) ob_82 ?_
  refine pf_X8_31 rfl (by decide +kernel) ob_82 ?_
  obtain ⟨M_2, eM_2, h⟩ := bM_elim h
  refine Fr_mem eM_2 ?_
  refine Fr_aload_n (q := 0) (i := 0) 0 (by decide +kernel) rfl rfl ?_
  refine Fr_iconst (i := 0) (v := 0) (by decide +kernel) (by decide) ?_
  refine pf_X8_43 rfl (by decide +kernel) ob_82 ?_
  obtain ⟨M_3, eM_3, h⟩ := bM_elim h
  refine Fr_mem eM_3 ?_
  exact lp_sound (body := fun k a m => f_X8_advance_h73 N k m) (P := fun a M => Fr 0 111 0 m_X8_advance 73 [(0, .ref 82)] [] M (QV q)) (fun k hk a m h => t_X8_advance_h73 hk h) N () M_3 h
set_option maxRecDepth 20000 in
theorem t_X8_advance_b47 {N : Nat} {q : Mem} {k8 : Unit → Mem → Option (Mem)} (hk8 : ∀ (a : Unit) (M : Mem), k8 a M = some q → Fr 0 111 0 m_X8_advance 8 [(0, .ref 82)] [] M (QV q)) {M : Mem} (h : f_X8_advance_b47 N k8 M = some q) : Fr 0 111 0 m_X8_advance 47 [(0, .ref 82)] [] M (QV q) := by
  unfold f_X8_advance_b47 at h
  refine Fr_aload_n (q := 0) (i := 0) 0 (by decide +kernel) rfl rfl ?_
  refine Fr_dup (by decide +kernel) rfl ?_
  refine gf_X8_40 rfl (by decide +kernel) ob_82 ?_
  refine Fr_iconst (i := 1) (v := 1) (by decide +kernel) (by decide) ?_
  refine Fr_iadd (by decide +kernel) ?_
  refine pf_X8_40 rfl (by decide +kernel) ob_82 ?_
  obtain ⟨M_25, eM_25, h⟩ := bM_elim h
  refine Fr_mem eM_25 ?_
  refine Fr_goto (off := (-49)) 8 (by decide +kernel) (by decide) ?_
  exact hk8 () M_25 h
set_option maxRecDepth 20000 in
theorem t_X8_advance_h8 {N : Nat} {q : Mem} {k8 : Unit → Mem → Option (Mem)} (hk8 : ∀ (a : Unit) (M : Mem), k8 a M = some q → Fr 0 111 0 m_X8_advance 8 [(0, .ref 82)] [] M (QV q)) {M : Mem} (h : f_X8_advance_h8 N k8 M = some q) : Fr 0 111 0 m_X8_advance 8 [(0, .ref 82)] [] M (QV q) := by
  unfold f_X8_advance_h8 at h
  refine Fr_aload_n (q := 0) (i := 0) 0 (by decide +kernel) rfl rfl ?_
  refine gf_X8_40 rfl (by decide +kernel) ob_82 ?_
  refine Fr_aload_n (q := 0) (i := 0) 0 (by decide +kernel) rfl rfl ?_
  refine gf_X8_28 rfl (by decide +kernel) ob_82 ?_
  refine Fr_icmp_ge (off := 44) 60 (by decide +kernel) (by decide) (fun hc => ?_) (fun hc => ?_)
  · have h := iT hc h
    exact t_X8_advance_b60 h
  · have h := iF hc h
    refine Fr_aload_n (q := 0) (i := 0) 0 (by decide +kernel) rfl rfl ?_
    refine gf_X8_9 rfl (by decide +kernel) ob_82 ?_
    refine Fr_aload_n (q := 0) (i := 0) 0 (by decide +kernel) rfl rfl ?_
    refine gf_X8_40 rfl (by decide +kernel) ob_82 ?_
    obtain ⟨hi_24, h⟩ := ck_elim h
    refine Fr_bald (by decide +kernel) ob_1 (vp_of ln_1 hi_24) ?_
    refine Fr_bipush (i := 10) (v := 10) (by decide +kernel) (by decide) ?_
    refine Fr_icmp_eq (off := 17) 47 (by decide +kernel) (by decide) (fun hc => ?_) (fun hc => ?_)
    · have h := iT hc h
      exact t_X8_advance_b47 hk8 h
    · have h := iF hc h
      refine Fr_aload_n (q := 0) (i := 0) 0 (by decide +kernel) rfl rfl ?_
      refine gf_X8_9 rfl (by decide +kernel) ob_82 ?_
      refine Fr_aload_n (q := 0) (i := 0) 0 (by decide +kernel) rfl rfl ?_
      refine gf_X8_40 rfl (by decide +kernel) ob_82 ?_
      obtain ⟨hi_26, h⟩ := ck_elim h
      refine Fr_bald (by decide +kernel) ob_1 (vp_of ln_1 hi_26) ?_
      refine Fr_bipush (i := 32) (v := 32) (by decide +kernel) (by decide) ?_
      refine Fr_icmp_ne (off := 16) 60 (by decide +kernel) (by decide) (fun hc => ?_) (fun hc => ?_)
      · have h := iF hc h
        exact t_X8_advance_b60 h
      · have h := iT hc h
        exact t_X8_advance_b47 hk8 h
set_option maxRecDepth 20000 in
theorem t_X8_advance {N : Nat} {M : Mem} {q : Mem} (h : f_X8_advance N M = some q) : Ev 0 111 0 m_X8_advance [.ref 82] M (QV q) := by
  refine Ev_of_Fr (by decide +kernel) (Nat.le_of_ble_eq_true rfl) ?_
  show Fr 0 111 0 m_X8_advance 0 [(0, .ref 82)] [] M (QV q)
  unfold f_X8_advance at h
  refine Fr_aload_n (q := 0) (i := 0) 0 (by decide +kernel) rfl rfl ?_
  refine Fr_aload_n (q := 0) (i := 0) 0 (by decide +kernel) rfl rfl ?_
  refine gf_X8_31 rfl (by decide +kernel) ob_82 ?_
  refine pf_X8_40 rfl (by decide +kernel) ob_82 ?_
  obtain ⟨M_1, eM_1, h⟩ := bM_elim h
  refine Fr_mem eM_1 ?_
  exact lp_sound (body := fun k a m => f_X8_advance_h8 N k m) (P := fun a M => Fr 0 111 0 m_X8_advance 8 [(0, .ref 82)] [] M (QV q)) (fun k hk a m h => t_X8_advance_h8 hk h) N () M_1 h
set_option maxRecDepth 20000 in
theorem t_X8_begin {N : Nat} {x1 : Int32} {M : Mem} {q : Mem} (h : f_X8_begin N x1 M = some q) : Ev 0 111 1 m_X8_begin [.ref 82, .int x1] M (QV q) := by
  refine Ev_of_Fr (by decide +kernel) (Nat.le_of_ble_eq_true rfl) ?_
  show Fr 0 111 1 m_X8_begin 0 [(0, .ref 82), (1, .int x1)] [] M (QV q)
  unfold f_X8_begin at h
  refine Fr_aload_n (q := 0) (i := 0) 0 (by decide +kernel) rfl rfl ?_
  refine Fr_iload_n (q := 1) (i := 1) 1 (by decide +kernel) rfl rfl ?_
  refine Fr_aload_n (q := 0) (i := 0) 0 (by decide +kernel) rfl rfl ?_
  refine gf_X8_9 rfl (by decide +kernel) ob_82 ?_
  refine Fr_alen (v := 900) (by decide +kernel) ob_1 (by decide) (by rw [ln_1]; rfl) ?_
  refine Fr_min (by decide +kernel) ml_X8_22 (by decide) (Nat.le_of_ble_eq_true rfl) ?_
  refine pf_X8_28 rfl (by decide +kernel) ob_82 ?_
  obtain ⟨M_1, eM_1, h⟩ := bM_elim h
  refine Fr_mem eM_1 ?_
  refine Fr_aload_n (q := 0) (i := 0) 0 (by decide +kernel) rfl rfl ?_
  refine Fr_iconst (i := 0) (v := 0) (by decide +kernel) (by decide) ?_
  refine pf_X8_31 rfl (by decide +kernel) ob_82 ?_
  obtain ⟨M_2, eM_2, h⟩ := bM_elim h
  refine Fr_mem eM_2 ?_
  refine Fr_aload_n (q := 0) (i := 0) 0 (by decide +kernel) rfl rfl ?_
  refine Fr_iconst (i := 0) (v := 0) (by decide +kernel) (by decide) ?_
  refine pf_X8_15 rfl (by decide +kernel) ob_82 ?_
  obtain ⟨M_3, eM_3, h⟩ := bM_elim h
  refine Fr_mem eM_3 ?_
  refine Fr_aload_n (q := 0) (i := 0) 0 (by decide +kernel) rfl rfl ?_
  refine Fr_iconst (i := (-1)) (v := (-1)) (by decide +kernel) (by decide) ?_
  refine pf_X8_19 rfl (by decide +kernel) ob_82 ?_
  obtain ⟨M_4, eM_4, h⟩ := bM_elim h
  refine Fr_mem eM_4 ?_
  refine Fr_aload_n (q := 0) (i := 0) 0 (by decide +kernel) rfl rfl ?_
  obtain ⟨M_5, hc_6, h⟩ := bv_elim h
  refine Fr_cVv (ν := m_X8_advance) (As := []) (st := []) (rc := 82) (ci := 8) (d' := 0) (by decide +kernel) ml_X8_34 cv_X8_advance rfl (by decide) rfl ob_82 rfl (by decide) (Nat.le_of_ble_eq_true rfl) (t_X8_advance hc_6) ?_
  obtain rfl := Option.some.inj h
  exact Fr_vret (by decide +kernel) rfl ⟨rfl, rfl⟩
set_option maxRecDepth 20000 in
theorem t_X8_isGoingOn {M : Mem} {q : Bool × Mem} (h : f_X8_isGoingOn M = some q) : Ev 0 111 0 m_X8_isGoingOn [.ref 82] M (QB q) := by
  refine Ev_of_Fr (by decide +kernel) (Nat.le_of_ble_eq_true rfl) ?_
  show Fr 0 111 0 m_X8_isGoingOn 0 [(0, .ref 82)] [] M (QB q)
  unfold f_X8_isGoingOn at h
  refine Fr_aload_n (q := 0) (i := 0) 0 (by decide +kernel) rfl rfl ?_
  refine gf_X8_15 rfl (by decide +kernel) ob_82 ?_
  refine Fr_if_ne (off := 14) 18 (by decide +kernel) (by decide) (fun hc => ?_) (fun hc => ?_)
  · have h := iF hc h
    refine Fr_iconst (i := 0) (v := 0) (by decide +kernel) (by decide) ?_
    obtain rfl := Option.some.inj h
    exact Fr_zret (by decide +kernel) rfl (by decide) ⟨rfl, rfl⟩
  · have h := iT hc h
    refine Fr_aload_n (q := 0) (i := 0) 0 (by decide +kernel) rfl rfl ?_
    refine gf_X8_37 rfl (by decide +kernel) ob_82 ?_
    refine Fr_if_eq (off := 7) 18 (by decide +kernel) (by decide) (fun hc => ?_) (fun hc => ?_)
    · have h := iT hc h
      refine Fr_iconst (i := 0) (v := 0) (by decide +kernel) (by decide) ?_
      obtain rfl := Option.some.inj h
      exact Fr_zret (by decide +kernel) rfl (by decide) ⟨rfl, rfl⟩
    · have h := iF hc h
      refine Fr_iconst (i := 1) (v := 1) (by decide +kernel) (by decide) ?_
      refine Fr_goto (off := 4) 19 (by decide +kernel) (by decide) ?_
      obtain rfl := Option.some.inj h
      exact Fr_zret (by decide +kernel) rfl (by decide) ⟨rfl, rfl⟩
set_option maxRecDepth 20000 in
theorem t_X8_isSameAt_h2 {N : Nat} {z1 : Nat} (hz1 : z1 < 32) {q : Bool × Mem} {k2 : Int32 × Int32 → Mem → Option (Bool × Mem)} (hk2 : ∀ (a : Int32 × Int32) (M : Mem), k2 a M = some q → Fr 0 111 6 m_X8_isSameAt 2 [(0, .ref 82), (1, .ref (400 + z1)), (2, .int a.1), (3, .int a.2)] [] M (QB q)) {v2 : Int32} {v3 : Int32} {M : Mem} (h : f_X8_isSameAt_h2 N z1 k2 v2 v3 M = some q) : Fr 0 111 6 m_X8_isSameAt 2 [(0, .ref 82), (1, .ref (400 + z1)), (2, .int v2), (3, .int v3)] [] M (QB q) := by
  unfold f_X8_isSameAt_h2 at h
  refine Fr_aload_n (q := 0) (i := 0) 0 (by decide +kernel) rfl rfl ?_
  refine gf_X8_40 rfl (by decide +kernel) ob_82 ?_
  refine Fr_iload_n (q := 3) (i := 3) 3 (by decide +kernel) rfl rfl ?_
  refine Fr_iadd (by decide +kernel) ?_
  refine Fr_aload_n (q := 0) (i := 0) 0 (by decide +kernel) rfl rfl ?_
  refine gf_X8_31 rfl (by decide +kernel) ob_82 ?_
  refine Fr_icmp_ge (off := 42) 54 (by decide +kernel) (by decide) (fun hc => ?_) (fun hc => ?_)
  · have h := iT hc h
    refine Fr_iconst (i := 1) (v := 1) (by decide +kernel) (by decide) ?_
    obtain rfl := Option.some.inj h
    exact Fr_zret (by decide +kernel) rfl (by decide) ⟨rfl, rfl⟩
  · have h := iF hc h
    refine Fr_iload_n (q := 2) (i := 2) 2 (by decide +kernel) rfl rfl ?_
    refine Fr_iload_n (q := 3) (i := 3) 3 (by decide +kernel) rfl rfl ?_
    refine Fr_iadd (by decide +kernel) ?_
    refine Fr_aload_n (q := 1) (i := 1) 1 (by decide +kernel) rfl rfl ?_
    obtain ⟨r_3, M_1, hc_2, h⟩ := bi_elim h
    refine Fr_cTi (ν := m_J0_length_8abf5) (As := []) (st := [.int (v2 + v3)]) (d' := 2) (by decide +kernel) ml_X8_46 cv_J0_length_8abf5 rfl hz1 rfl (by decide) (Nat.le_of_ble_eq_true rfl) (t_J0_length_8abf5 hz1 hc_2) ?_
    refine Fr_icmp_ge (off := 24) 46 (by decide +kernel) (by decide) (fun hc => ?_) (fun hc => ?_)
    · have h := iT hc h
      refine Fr_iconst (i := 0) (v := 0) (by decide +kernel) (by decide) ?_
      obtain rfl := Option.some.inj h
      exact Fr_zret (by decide +kernel) rfl (by decide) ⟨rfl, rfl⟩
    · have h := iF hc h
      refine Fr_aload_n (q := 1) (i := 1) 1 (by decide +kernel) rfl rfl ?_
      refine Fr_iload_n (q := 2) (i := 2) 2 (by decide +kernel) rfl rfl ?_
      refine Fr_iload_n (q := 3) (i := 3) 3 (by decide +kernel) rfl rfl ?_
      refine Fr_iadd (by decide +kernel) ?_
      obtain ⟨r_6, M_4, hc_5, h⟩ := bi_elim h
      refine Fr_cTi (ν := m_J0_charAt_5068e) (As := [.int (v2 + v3)]) (st := []) (d' := 5) (by decide +kernel) ml_X8_55 cv_J0_charAt_5068e rfl hz1 rfl (by decide) (Nat.le_of_ble_eq_true rfl) (t_J0_charAt_5068e hz1 hc_5) ?_
      refine Fr_aload_n (q := 0) (i := 0) 0 (by decide +kernel) rfl rfl ?_
      refine gf_X8_9 rfl (by decide +kernel) ob_82 ?_
      refine Fr_aload_n (q := 0) (i := 0) 0 (by decide +kernel) rfl rfl ?_
      refine gf_X8_40 rfl (by decide +kernel) ob_82 ?_
      refine Fr_iload_n (q := 3) (i := 3) 3 (by decide +kernel) rfl rfl ?_
      refine Fr_iadd (by decide +kernel) ?_
      obtain ⟨hi_7, h⟩ := ck_elim h
      refine Fr_bald (by decide +kernel) ob_1 (vp_of ln_1 hi_7) ?_
      refine Fr_icmp_eq (off := 5) 48 (by decide +kernel) (by decide) (fun hc => ?_) (fun hc => ?_)
      · have h := iT hc h
        refine Fr_iinc (i := 3) (j := 1) (v := (v3 + 1)) (lv' := [(3, .int (v3 + 1)), (0, .ref 82), (1, .ref (400 + z1)), (2, .int v2)]) 3 (by decide +kernel) rfl rfl (by decide) rfl ?_
        refine Fr_goto (off := (-49)) 2 (by decide +kernel) (by decide) ?_
        refine Fr_loc [1, 2, 3, 0] rfl ?_
        exact hk2 (v2, (v3 + 1)) M_4 h
      · have h := iF hc h
        refine Fr_iconst (i := 0) (v := 0) (by decide +kernel) (by decide) ?_
        obtain rfl := Option.some.inj h
        exact Fr_zret (by decide +kernel) rfl (by decide) ⟨rfl, rfl⟩
set_option maxRecDepth 20000 in
theorem t_X8_isSameAt {N : Nat} {z1 : Nat} {x2 : Int32} (hz1 : z1 < 32) {M : Mem} {q : Bool × Mem} (h : f_X8_isSameAt N z1 x2 M = some q) : Ev 0 111 6 m_X8_isSameAt [.ref 82, .ref (400 + z1), .int x2] M (QB q) := by
  refine Ev_of_Fr (by decide +kernel) (Nat.le_of_ble_eq_true rfl) ?_
  show Fr 0 111 6 m_X8_isSameAt 0 [(0, .ref 82), (1, .ref (400 + z1)), (2, .int x2)] [] M (QB q)
  unfold f_X8_isSameAt at h
  refine Fr_iconst (i := 0) (v := 0) (by decide +kernel) (by decide) ?_
  refine Fr_istore_n (q := 3) (i := 3) (lv' := [(3, .int 0), (0, .ref 82), (1, .ref (400 + z1)), (2, .int x2)]) (by decide +kernel) rfl (by decide) rfl ?_
  refine Fr_loc [1, 2, 3, 0] rfl ?_
  exact lp_sound (body := fun k a m => f_X8_isSameAt_h2 N z1 k a.1 a.2 m) (P := fun a M => Fr 0 111 6 m_X8_isSameAt 2 [(0, .ref 82), (1, .ref (400 + z1)), (2, .int a.1), (3, .int a.2)] [] M (QB q)) (fun k hk a m h => t_X8_isSameAt_h2 hz1 hk h) N (x2, 0) M h
set_option maxRecDepth 20000 in
theorem t_X8_isWord {N : Nat} {z1 : Nat} (hz1 : z1 < 32) {M : Mem} {q : Bool × Mem} (h : f_X8_isWord N z1 M = some q) : Ev 0 111 7 m_X8_isWord [.ref 82, .ref (400 + z1)] M (QB q) := by
  refine Ev_of_Fr (by decide +kernel) (Nat.le_of_ble_eq_true rfl) ?_
  show Fr 0 111 7 m_X8_isWord 0 [(0, .ref 82), (1, .ref (400 + z1))] [] M (QB q)
  unfold f_X8_isWord at h
  refine Fr_aload_n (q := 0) (i := 0) 0 (by decide +kernel) rfl rfl ?_
  refine gf_X8_37 rfl (by decide +kernel) ob_82 ?_
  refine Fr_iconst (i := 1) (v := 1) (by decide +kernel) (by decide) ?_
  refine Fr_icmp_ne (off := 32) 37 (by decide +kernel) (by decide) (fun hc => ?_) (fun hc => ?_)
  · have h := iF hc h
    refine Fr_iconst (i := 0) (v := 0) (by decide +kernel) (by decide) ?_
    obtain rfl := Option.some.inj h
    exact Fr_zret (by decide +kernel) rfl (by decide) ⟨rfl, rfl⟩
  · have h := iT hc h
    refine Fr_aload_n (q := 0) (i := 0) 0 (by decide +kernel) rfl rfl ?_
    refine gf_X8_31 rfl (by decide +kernel) ob_82 ?_
    refine Fr_aload_n (q := 0) (i := 0) 0 (by decide +kernel) rfl rfl ?_
    refine gf_X8_40 rfl (by decide +kernel) ob_82 ?_
    refine Fr_isub (by decide +kernel) ?_
    refine Fr_aload_n (q := 1) (i := 1) 1 (by decide +kernel) rfl rfl ?_
    obtain ⟨r_3, M_1, hc_2, h⟩ := bi_elim h
    refine Fr_cTi (ν := m_J0_length_8abf5) (As := []) (st := [.int ((M.1 82 4) - (M.1 82 3))]) (d' := 2) (by decide +kernel) ml_X8_46 cv_J0_length_8abf5 rfl hz1 rfl (by decide) (Nat.le_of_ble_eq_true rfl) (t_J0_length_8abf5 hz1 hc_2) ?_
    refine Fr_icmp_ne (off := 16) 37 (by decide +kernel) (by decide) (fun hc => ?_) (fun hc => ?_)
    · have h := iF hc h
      refine Fr_iconst (i := 0) (v := 0) (by decide +kernel) (by decide) ?_
      obtain rfl := Option.some.inj h
      exact Fr_zret (by decide +kernel) rfl (by decide) ⟨rfl, rfl⟩
    · have h := iT hc h
      refine Fr_aload_n (q := 0) (i := 0) 0 (by decide +kernel) rfl rfl ?_
      refine Fr_aload_n (q := 1) (i := 1) 1 (by decide +kernel) rfl rfl ?_
      refine Fr_iconst (i := 0) (v := 0) (by decide +kernel) (by decide) ?_
      obtain ⟨r_6, M_4, hc_5, h⟩ := bi_elim h
      refine Fr_cVb (ν := m_X8_isSameAt) (As := [.ref (400 + z1), .int 0]) (st := []) (rc := 82) (ci := 8) (d' := 6) (by decide +kernel) ml_X8_51 cv_X8_isSameAt rfl (by decide) rfl ob_82 rfl (by decide) (Nat.le_of_ble_eq_true rfl) (t_X8_isSameAt hz1 hc_5) ?_
      refine Fr_if_eq (off := 7) 37 (by decide +kernel) (by decide) (fun hc => ?_) (fun hc => ?_)
      · have h := iT hc h
        refine Fr_iconst (i := 0) (v := 0) (by decide +kernel) (by decide) ?_
        obtain rfl := Option.some.inj h
        exact Fr_zret (by decide +kernel) rfl (by decide) ⟨rfl, rfl⟩
      · have h := iF hc h
        refine Fr_iconst (i := 1) (v := 1) (by decide +kernel) (by decide) ?_
        refine Fr_goto (off := 4) 38 (by decide +kernel) (by decide) ?_
        obtain rfl := Option.some.inj h
        exact Fr_zret (by decide +kernel) rfl (by decide) ⟨rfl, rfl⟩
