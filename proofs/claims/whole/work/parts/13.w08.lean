set_option maxRecDepth 20000 in
theorem t_X5_factOf {N : Nat} {p0 : Nat} {x1 : Int32} (hp0 : Ob 0 111 p0 5) {M : Mem} {q : Int32 × Mem} (h : f_X5_factOf N p0 x1 M = some q) : Ev 0 111 2 m_X5_factOf [.ref p0, .int x1] M (QI q) := by
  refine Ev_of_Fr (by decide +kernel) (Nat.le_of_ble_eq_true rfl) ?_
  show Fr 0 111 2 m_X5_factOf 0 [(0, .ref p0), (1, .int x1)] [] M (QI q)
  unfold f_X5_factOf at h
  refine Fr_iload_n (q := 1) (i := 1) 1 (by decide +kernel) rfl rfl ?_
  by_cases hs_1 : x1 = 0
  · have h := iT hs_1 h
    refine Fr_tabIn (dflt := 134) (lo := 0) (hi := 12) (offs := #[67, 72, 77, 82, 87, 92, 97, 102, 107, 112, 117, 122, 128]) (len := 67) (off := 67) 68 (by decide +kernel) (by rw [hs_1]; decide) (by rw [hs_1]; decide) (by rw [hs_1]; rfl) (by decide) ?_
    refine Fr_aload_n (q := 0) (i := 0) 0 (by decide +kernel) rfl rfl ?_
    refine gf_X5_45 rfl (by decide +kernel) hp0 ?_
    obtain rfl := Option.some.inj h
    exact Fr_iret (by decide +kernel) rfl ⟨rfl, rfl⟩
  have h := iF hs_1 h
  by_cases hs_2 : x1 = 1
  · have h := iT hs_2 h
    refine Fr_tabIn (dflt := 134) (lo := 0) (hi := 12) (offs := #[67, 72, 77, 82, 87, 92, 97, 102, 107, 112, 117, 122, 128]) (len := 67) (off := 72) 73 (by decide +kernel) (by rw [hs_2]; decide) (by rw [hs_2]; decide) (by rw [hs_2]; rfl) (by decide) ?_
    refine Fr_aload_n (q := 0) (i := 0) 0 (by decide +kernel) rfl rfl ?_
    refine gf_X5_48 rfl (by decide +kernel) hp0 ?_
    obtain rfl := Option.some.inj h
    exact Fr_iret (by decide +kernel) rfl ⟨rfl, rfl⟩
  have h := iF hs_2 h
  by_cases hs_3 : x1 = 2
  · have h := iT hs_3 h
    refine Fr_tabIn (dflt := 134) (lo := 0) (hi := 12) (offs := #[67, 72, 77, 82, 87, 92, 97, 102, 107, 112, 117, 122, 128]) (len := 67) (off := 77) 78 (by decide +kernel) (by rw [hs_3]; decide) (by rw [hs_3]; decide) (by rw [hs_3]; rfl) (by decide) ?_
    refine Fr_aload_n (q := 0) (i := 0) 0 (by decide +kernel) rfl rfl ?_
    refine gf_X5_60 rfl (by decide +kernel) hp0 ?_
    obtain rfl := Option.some.inj h
    exact Fr_iret (by decide +kernel) rfl ⟨rfl, rfl⟩
  have h := iF hs_3 h
  by_cases hs_4 : x1 = 3
  · have h := iT hs_4 h
    refine Fr_tabIn (dflt := 134) (lo := 0) (hi := 12) (offs := #[67, 72, 77, 82, 87, 92, 97, 102, 107, 112, 117, 122, 128]) (len := 67) (off := 82) 83 (by decide +kernel) (by rw [hs_4]; decide) (by rw [hs_4]; decide) (by rw [hs_4]; rfl) (by decide) ?_
    refine Fr_aload_n (q := 0) (i := 0) 0 (by decide +kernel) rfl rfl ?_
    refine gf_X5_63 rfl (by decide +kernel) hp0 ?_
    obtain rfl := Option.some.inj h
    exact Fr_iret (by decide +kernel) rfl ⟨rfl, rfl⟩
  have h := iF hs_4 h
  by_cases hs_5 : x1 = 4
  · have h := iT hs_5 h
    refine Fr_tabIn (dflt := 134) (lo := 0) (hi := 12) (offs := #[67, 72, 77, 82, 87, 92, 97, 102, 107, 112, 117, 122, 128]) (len := 67) (off := 87) 88 (by decide +kernel) (by rw [hs_5]; decide) (by rw [hs_5]; decide) (by rw [hs_5]; rfl) (by decide) ?_
    refine Fr_aload_n (q := 0) (i := 0) 0 (by decide +kernel) rfl rfl ?_
    refine gf_X5_66 rfl (by decide +kernel) hp0 ?_
    obtain rfl := Option.some.inj h
    exact Fr_iret (by decide +kernel) rfl ⟨rfl, rfl⟩
  have h := iF hs_5 h
  by_cases hs_6 : x1 = 5
  · have h := iT hs_6 h
    refine Fr_tabIn (dflt := 134) (lo := 0) (hi := 12) (offs := #[67, 72, 77, 82, 87, 92, 97, 102, 107, 112, 117, 122, 128]) (len := 67) (off := 92) 93 (by decide +kernel) (by rw [hs_6]; decide) (by rw [hs_6]; decide) (by rw [hs_6]; rfl) (by decide) ?_
    refine Fr_aload_n (q := 0) (i := 0) 0 (by decide +kernel) rfl rfl ?_
    refine gf_X5_69 rfl (by decide +kernel) hp0 ?_
    obtain rfl := Option.some.inj h
    exact Fr_iret (by decide +kernel) rfl ⟨rfl, rfl⟩
  have h := iF hs_6 h
  by_cases hs_7 : x1 = 6
  · have h := iT hs_7 h
    refine Fr_tabIn (dflt := 134) (lo := 0) (hi := 12) (offs := #[67, 72, 77, 82, 87, 92, 97, 102, 107, 112, 117, 122, 128]) (len := 67) (off := 97) 98 (by decide +kernel) (by rw [hs_7]; decide) (by rw [hs_7]; decide) (by rw [hs_7]; rfl) (by decide) ?_
    refine Fr_aload_n (q := 0) (i := 0) 0 (by decide +kernel) rfl rfl ?_
    refine gf_X5_51 rfl (by decide +kernel) hp0 ?_
    obtain rfl := Option.some.inj h
    exact Fr_iret (by decide +kernel) rfl ⟨rfl, rfl⟩
  have h := iF hs_7 h
  by_cases hs_8 : x1 = 7
  · have h := iT hs_8 h
    refine Fr_tabIn (dflt := 134) (lo := 0) (hi := 12) (offs := #[67, 72, 77, 82, 87, 92, 97, 102, 107, 112, 117, 122, 128]) (len := 67) (off := 102) 103 (by decide +kernel) (by rw [hs_8]; decide) (by rw [hs_8]; decide) (by rw [hs_8]; rfl) (by decide) ?_
    refine Fr_aload_n (q := 0) (i := 0) 0 (by decide +kernel) rfl rfl ?_
    refine gf_X5_38 rfl (by decide +kernel) hp0 ?_
    obtain rfl := Option.some.inj h
    exact Fr_iret (by decide +kernel) rfl ⟨rfl, rfl⟩
  have h := iF hs_8 h
  by_cases hs_9 : x1 = 8
  · have h := iT hs_9 h
    refine Fr_tabIn (dflt := 134) (lo := 0) (hi := 12) (offs := #[67, 72, 77, 82, 87, 92, 97, 102, 107, 112, 117, 122, 128]) (len := 67) (off := 107) 108 (by decide +kernel) (by rw [hs_9]; decide) (by rw [hs_9]; decide) (by rw [hs_9]; rfl) (by decide) ?_
    refine Fr_aload_n (q := 0) (i := 0) 0 (by decide +kernel) rfl rfl ?_
    refine gf_X5_42 rfl (by decide +kernel) hp0 ?_
    obtain rfl := Option.some.inj h
    exact Fr_iret (by decide +kernel) rfl ⟨rfl, rfl⟩
  have h := iF hs_9 h
  by_cases hs_10 : x1 = 9
  · have h := iT hs_10 h
    refine Fr_tabIn (dflt := 134) (lo := 0) (hi := 12) (offs := #[67, 72, 77, 82, 87, 92, 97, 102, 107, 112, 117, 122, 128]) (len := 67) (off := 112) 113 (by decide +kernel) (by rw [hs_10]; decide) (by rw [hs_10]; decide) (by rw [hs_10]; rfl) (by decide) ?_
    refine Fr_aload_n (q := 0) (i := 0) 0 (by decide +kernel) rfl rfl ?_
    refine gf_X5_54 rfl (by decide +kernel) hp0 ?_
    obtain rfl := Option.some.inj h
    exact Fr_iret (by decide +kernel) rfl ⟨rfl, rfl⟩
  have h := iF hs_10 h
  by_cases hs_11 : x1 = 10
  · have h := iT hs_11 h
    refine Fr_tabIn (dflt := 134) (lo := 0) (hi := 12) (offs := #[67, 72, 77, 82, 87, 92, 97, 102, 107, 112, 117, 122, 128]) (len := 67) (off := 117) 118 (by decide +kernel) (by rw [hs_11]; decide) (by rw [hs_11]; decide) (by rw [hs_11]; rfl) (by decide) ?_
    refine Fr_aload_n (q := 0) (i := 0) 0 (by decide +kernel) rfl rfl ?_
    refine gf_X5_57 rfl (by decide +kernel) hp0 ?_
    obtain rfl := Option.some.inj h
    exact Fr_iret (by decide +kernel) rfl ⟨rfl, rfl⟩
  have h := iF hs_11 h
  by_cases hs_12 : x1 = 11
  · have h := iT hs_12 h
    refine Fr_tabIn (dflt := 134) (lo := 0) (hi := 12) (offs := #[67, 72, 77, 82, 87, 92, 97, 102, 107, 112, 117, 122, 128]) (len := 67) (off := 122) 123 (by decide +kernel) (by rw [hs_12]; decide) (by rw [hs_12]; decide) (by rw [hs_12]; rfl) (by decide) ?_
    refine Fr_aload_n (q := 0) (i := 0) 0 (by decide +kernel) rfl rfl ?_
    refine Fr_iconst (i := 0) (v := 0) (by decide +kernel) (by decide) ?_
    obtain ⟨r_15, M_13, hc_14, h⟩ := bi_elim h
    refine Fr_cVi (ν := m_X5_sumOfKind) (As := [.int 0]) (st := []) (rc := p0) (ci := 5) (d' := 0) (by decide +kernel) ml_X5_91 cv_X5_sumOfKind rfl (by decide) rfl hp0 rfl (by decide) (Nat.le_of_ble_eq_true rfl) (t_X5_sumOfKind hp0 hc_14) ?_
    obtain rfl := Option.some.inj h
    exact Fr_iret (by decide +kernel) rfl ⟨rfl, rfl⟩
  have h := iF hs_12 h
  by_cases hs_16 : x1 = 12
  · have h := iT hs_16 h
    refine Fr_tabIn (dflt := 134) (lo := 0) (hi := 12) (offs := #[67, 72, 77, 82, 87, 92, 97, 102, 107, 112, 117, 122, 128]) (len := 67) (off := 128) 129 (by decide +kernel) (by rw [hs_16]; decide) (by rw [hs_16]; decide) (by rw [hs_16]; rfl) (by decide) ?_
    refine Fr_aload_n (q := 0) (i := 0) 0 (by decide +kernel) rfl rfl ?_
    refine Fr_iconst (i := 1) (v := 1) (by decide +kernel) (by decide) ?_
    obtain ⟨r_19, M_17, hc_18, h⟩ := bi_elim h
    refine Fr_cVi (ν := m_X5_sumOfKind) (As := [.int 1]) (st := []) (rc := p0) (ci := 5) (d' := 0) (by decide +kernel) ml_X5_91 cv_X5_sumOfKind rfl (by decide) rfl hp0 rfl (by decide) (Nat.le_of_ble_eq_true rfl) (t_X5_sumOfKind hp0 hc_18) ?_
    obtain rfl := Option.some.inj h
    exact Fr_iret (by decide +kernel) rfl ⟨rfl, rfl⟩
  have h := iF hs_16 h
  have hhs_1 := lv_neT (a := 0) hs_1 (by decide)
  have hhs_2 := lv_neT (a := 1) hs_2 (by decide)
  have hhs_3 := lv_neT (a := 2) hs_3 (by decide)
  have hhs_4 := lv_neT (a := 3) hs_4 (by decide)
  have hhs_5 := lv_neT (a := 4) hs_5 (by decide)
  have hhs_6 := lv_neT (a := 5) hs_6 (by decide)
  have hhs_7 := lv_neT (a := 6) hs_7 (by decide)
  have hhs_8 := lv_neT (a := 7) hs_8 (by decide)
  have hhs_9 := lv_neT (a := 8) hs_9 (by decide)
  have hhs_10 := lv_neT (a := 9) hs_10 (by decide)
  have hhs_11 := lv_neT (a := 10) hs_11 (by decide)
  have hhs_12 := lv_neT (a := 11) hs_12 (by decide)
  have hhs_16 := lv_neT (a := 12) hs_16 (by decide)
  refine Fr_tabOut (dflt := 134) (lo := 0) (hi := 12) (offs := #[67, 72, 77, 82, 87, 92, 97, 102, 107, 112, 117, 122, 128]) (len := 67) 135 (by decide +kernel) (by first | omega | (simp only [tn] at *; omega)) (by decide) ?_
  refine Fr_aload_n (q := 0) (i := 0) 0 (by decide +kernel) rfl rfl ?_
  refine Fr_aload_n (q := 0) (i := 0) 0 (by decide +kernel) rfl rfl ?_
  refine gf_X5_28 rfl (by decide +kernel) hp0 ?_
  obtain ⟨r_22, M_20, hc_21, h⟩ := bi_elim h
  refine Fr_cVi (ν := m_X5_countFoggy) (As := [.ref (p0 + 6)]) (st := []) (rc := p0) (ci := 5) (d' := 1) (by decide +kernel) ml_X5_95 cv_X5_countFoggy rfl (by decide) rfl hp0 rfl (by decide) (Nat.le_of_ble_eq_true rfl) (t_X5_countFoggy hp0 (o5_6 hp0) hc_21) ?_
  obtain rfl := Option.some.inj h
  exact Fr_iret (by decide +kernel) rfl ⟨rfl, rfl⟩
set_option maxRecDepth 20000 in
theorem t_X5_isGate {p0 : Nat} {x1 : Int32} (hp0 : Ob 0 111 p0 5) {M : Mem} {q : Bool × Mem} (h : f_X5_isGate p0 x1 M = some q) : Ev 0 111 0 m_X5_isGate [.ref p0, .int x1] M (QB q) := by
  refine Ev_of_Fr (by decide +kernel) (Nat.le_of_ble_eq_true rfl) ?_
  show Fr 0 111 0 m_X5_isGate 0 [(0, .ref p0), (1, .int x1)] [] M (QB q)
  unfold f_X5_isGate at h
  refine Fr_iload_n (q := 1) (i := 1) 1 (by decide +kernel) rfl rfl ?_
  refine Fr_if_lt (off := 15) 16 (by decide +kernel) (by decide) (fun hc => ?_) (fun hc => ?_)
  · have h := iT hc h
    refine Fr_iconst (i := 0) (v := 0) (by decide +kernel) (by decide) ?_
    obtain rfl := Option.some.inj h
    exact Fr_zret (by decide +kernel) rfl (by decide) ⟨rfl, rfl⟩
  · have h := iF hc h
    refine Fr_iload_n (q := 1) (i := 1) 1 (by decide +kernel) rfl rfl ?_
    refine Fr_aload_n (q := 0) (i := 0) 0 (by decide +kernel) rfl rfl ?_
    refine gf_X5_60 rfl (by decide +kernel) hp0 ?_
    refine Fr_icmp_ge (off := 7) 16 (by decide +kernel) (by decide) (fun hc => ?_) (fun hc => ?_)
    · have h := iT hc h
      refine Fr_iconst (i := 0) (v := 0) (by decide +kernel) (by decide) ?_
      obtain rfl := Option.some.inj h
      exact Fr_zret (by decide +kernel) rfl (by decide) ⟨rfl, rfl⟩
    · have h := iF hc h
      refine Fr_iconst (i := 1) (v := 1) (by decide +kernel) (by decide) ?_
      refine Fr_goto (off := 4) 17 (by decide +kernel) (by decide) ?_
      obtain rfl := Option.some.inj h
      exact Fr_zret (by decide +kernel) rfl (by decide) ⟨rfl, rfl⟩
set_option maxRecDepth 20000 in
theorem t_X5_isHolder {p0 : Nat} {x1 : Int32} (hp0 : Ob 0 111 p0 5) {M : Mem} {q : Bool × Mem} (h : f_X5_isHolder p0 x1 M = some q) : Ev 0 111 0 m_X5_isHolder [.ref p0, .int x1] M (QB q) := by
  refine Ev_of_Fr (by decide +kernel) (Nat.le_of_ble_eq_true rfl) ?_
  show Fr 0 111 0 m_X5_isHolder 0 [(0, .ref p0), (1, .int x1)] [] M (QB q)
  unfold f_X5_isHolder at h
  refine Fr_iload_n (q := 1) (i := 1) 1 (by decide +kernel) rfl rfl ?_
  refine Fr_if_lt (off := 15) 16 (by decide +kernel) (by decide) (fun hc => ?_) (fun hc => ?_)
  · have h := iT hc h
    refine Fr_iconst (i := 0) (v := 0) (by decide +kernel) (by decide) ?_
    obtain rfl := Option.some.inj h
    exact Fr_zret (by decide +kernel) rfl (by decide) ⟨rfl, rfl⟩
  · have h := iF hc h
    refine Fr_iload_n (q := 1) (i := 1) 1 (by decide +kernel) rfl rfl ?_
    refine Fr_aload_n (q := 0) (i := 0) 0 (by decide +kernel) rfl rfl ?_
    refine gf_X5_63 rfl (by decide +kernel) hp0 ?_
    refine Fr_icmp_ge (off := 7) 16 (by decide +kernel) (by decide) (fun hc => ?_) (fun hc => ?_)
    · have h := iT hc h
      refine Fr_iconst (i := 0) (v := 0) (by decide +kernel) (by decide) ?_
      obtain rfl := Option.some.inj h
      exact Fr_zret (by decide +kernel) rfl (by decide) ⟨rfl, rfl⟩
    · have h := iF hc h
      refine Fr_iconst (i := 1) (v := 1) (by decide +kernel) (by decide) ?_
      refine Fr_goto (off := 4) 17 (by decide +kernel) (by decide) ?_
      obtain rfl := Option.some.inj h
      exact Fr_zret (by decide +kernel) rfl (by decide) ⟨rfl, rfl⟩
set_option maxRecDepth 20000 in
theorem t_X5_isShip {p0 : Nat} {x1 : Int32} (hp0 : Ob 0 111 p0 5) {M : Mem} {q : Bool × Mem} (h : f_X5_isShip p0 x1 M = some q) : Ev 0 111 0 m_X5_isShip [.ref p0, .int x1] M (QB q) := by
  refine Ev_of_Fr (by decide +kernel) (Nat.le_of_ble_eq_true rfl) ?_
  show Fr 0 111 0 m_X5_isShip 0 [(0, .ref p0), (1, .int x1)] [] M (QB q)
  unfold f_X5_isShip at h
  refine Fr_iload_n (q := 1) (i := 1) 1 (by decide +kernel) rfl rfl ?_
  refine Fr_if_lt (off := 15) 16 (by decide +kernel) (by decide) (fun hc => ?_) (fun hc => ?_)
  · have h := iT hc h
    refine Fr_iconst (i := 0) (v := 0) (by decide +kernel) (by decide) ?_
    obtain rfl := Option.some.inj h
    exact Fr_zret (by decide +kernel) rfl (by decide) ⟨rfl, rfl⟩
  · have h := iF hc h
    refine Fr_iload_n (q := 1) (i := 1) 1 (by decide +kernel) rfl rfl ?_
    refine Fr_aload_n (q := 0) (i := 0) 0 (by decide +kernel) rfl rfl ?_
    refine gf_X5_69 rfl (by decide +kernel) hp0 ?_
    refine Fr_icmp_ge (off := 7) 16 (by decide +kernel) (by decide) (fun hc => ?_) (fun hc => ?_)
    · have h := iT hc h
      refine Fr_iconst (i := 0) (v := 0) (by decide +kernel) (by decide) ?_
      obtain rfl := Option.some.inj h
      exact Fr_zret (by decide +kernel) rfl (by decide) ⟨rfl, rfl⟩
    · have h := iF hc h
      refine Fr_iconst (i := 1) (v := 1) (by decide +kernel) (by decide) ?_
      refine Fr_goto (off := 4) 17 (by decide +kernel) (by decide) ?_
      obtain rfl := Option.some.inj h
      exact Fr_zret (by decide +kernel) rfl (by decide) ⟨rfl, rfl⟩
set_option maxRecDepth 20000 in
theorem t_X5_beside {p0 : Nat} {x1 : Int32} {x2 : Int32} (hp0 : Ob 0 111 p0 5) {M : Mem} {q : Int32 × Mem} (h : f_X5_beside p0 x1 x2 M = some q) : Ev 0 111 1 m_X5_beside [.ref p0, .int x1, .int x2] M (QI q) := by
  refine Ev_of_Fr (by decide +kernel) (Nat.le_of_ble_eq_true rfl) ?_
  show Fr 0 111 1 m_X5_beside 0 [(0, .ref p0), (1, .int x1), (2, .int x2)] [] M (QI q)
  unfold f_X5_beside at h
  refine Fr_aload_n (q := 0) (i := 0) 0 (by decide +kernel) rfl rfl ?_
  refine gf_X5_45 rfl (by decide +kernel) hp0 ?_
  refine Fr_if_gt (off := 5) 9 (by decide +kernel) (by decide) (fun hc => ?_) (fun hc => ?_)
  · have h := iT hc h
    refine Fr_iload_n (q := 1) (i := 1) 1 (by decide +kernel) rfl rfl ?_
    refine Fr_aload_n (q := 0) (i := 0) 0 (by decide +kernel) rfl rfl ?_
    refine gf_X5_45 rfl (by decide +kernel) hp0 ?_
    obtain ⟨hz_1, h⟩ := cz_elim h
    refine Fr_irem (by decide +kernel) hz_1 ?_
    refine Fr_getsN (idx := 99) 0 (by decide +kernel) (by decide) (by decide +kernel) ?_
    refine Fr_iload_n (q := 2) (i := 2) 2 (by decide +kernel) rfl rfl ?_
    obtain ⟨hi_2, h⟩ := ck_elim h
    refine Fr_tald (i := 0) (by decide +kernel) (by decide) hi_2 ?_
    refine Fr_iadd (by decide +kernel) ?_
    obtain ⟨y_3, ey_3, h⟩ := bI_elim h
    refine Fr_topI ey_3 ?_
    refine Fr_istore_n (q := 3) (i := 3) (lv' := [(3, .int y_3), (0, .ref p0), (1, .int x1), (2, .int x2)]) (by decide +kernel) rfl (by decide) rfl ?_
    refine Fr_iload_n (q := 1) (i := 1) 2 (by decide +kernel) rfl rfl ?_
    refine Fr_aload_n (q := 0) (i := 0) 1 (by decide +kernel) rfl rfl ?_
    refine gf_X5_45 rfl (by decide +kernel) hp0 ?_
    obtain ⟨hz_4, h⟩ := cz_elim h
    refine Fr_idiv (by decide +kernel) hz_4 ?_
    refine Fr_getsN (idx := 102) 1 (by decide +kernel) (by decide) (by decide +kernel) ?_
    refine Fr_iload_n (q := 2) (i := 2) 3 (by decide +kernel) rfl rfl ?_
    obtain ⟨hi_5, h⟩ := ck_elim h
    refine Fr_tald (i := 1) (by decide +kernel) (by decide) hi_5 ?_
    refine Fr_iadd (by decide +kernel) ?_
    obtain ⟨y_6, ey_6, h⟩ := bI_elim h
    refine Fr_topI ey_6 ?_
    refine Fr_istore (i := 4) (lv' := [(4, .int y_6), (3, .int y_3), (0, .ref p0), (1, .int x1), (2, .int x2)]) (by decide +kernel) (by decide) rfl ?_
    refine Fr_aload_n (q := 0) (i := 0) 2 (by decide +kernel) rfl rfl ?_
    refine Fr_iload_n (q := 3) (i := 3) 1 (by decide +kernel) rfl rfl ?_
    refine Fr_iload (i := 4) 0 (by decide +kernel) rfl ?_
    obtain ⟨r_9, M_7, hc_8, h⟩ := bi_elim h
    refine Fr_cVb (ν := m_X5_isBoard) (As := [.int y_3, .int y_6]) (st := []) (rc := p0) (ci := 5) (d' := 0) (by decide +kernel) ml_X5_105 cv_X5_isBoard rfl (by decide) rfl hp0 rfl (by decide) (Nat.le_of_ble_eq_true rfl) (t_X5_isBoard hp0 hc_8) ?_
    refine Fr_if_eq (off := 13) 56 (by decide +kernel) (by decide) (fun hc => ?_) (fun hc => ?_)
    · have h := iT hc h
      refine Fr_iconst (i := (-1)) (v := (-1)) (by decide +kernel) (by decide) ?_
      obtain rfl := Option.some.inj h
      exact Fr_iret (by decide +kernel) rfl ⟨rfl, rfl⟩
    · have h := iF hc h
      refine Fr_aload_n (q := 0) (i := 0) 2 (by decide +kernel) rfl rfl ?_
      refine Fr_iload_n (q := 3) (i := 3) 1 (by decide +kernel) rfl rfl ?_
      refine Fr_iload (i := 4) 0 (by decide +kernel) rfl ?_
      obtain ⟨r_12, M_10, hc_11, h⟩ := bi_elim h
      refine Fr_cVi (ν := m_X5_boardAt) (As := [.int y_3, .int y_6]) (st := []) (rc := p0) (ci := 5) (d' := 0) (by decide +kernel) ml_X5_109 cv_X5_boardAt rfl (by decide) rfl hp0 rfl (by decide) (Nat.le_of_ble_eq_true rfl) (t_X5_boardAt hp0 hc_11) ?_
      refine Fr_goto (off := 4) 57 (by decide +kernel) (by decide) ?_
      obtain rfl := Option.some.inj h
      exact Fr_iret (by decide +kernel) rfl ⟨rfl, rfl⟩
  · have h := iF hc h
    refine Fr_iconst (i := (-1)) (v := (-1)) (by decide +kernel) (by decide) ?_
    obtain rfl := Option.some.inj h
    exact Fr_iret (by decide +kernel) rfl ⟨rfl, rfl⟩
set_option maxRecDepth 20000 in
theorem t_X5_allHolders {p0 : Nat} (hp0 : Ob 0 111 p0 5) {M : Mem} {q : Int32 × Mem} (h : f_X5_allHolders p0 M = some q) : Ev 0 111 0 m_X5_allHolders [.ref p0] M (QI q) := by
  refine Ev_of_Fr (by decide +kernel) (Nat.le_of_ble_eq_true rfl) ?_
  show Fr 0 111 0 m_X5_allHolders 0 [(0, .ref p0)] [] M (QI q)
  unfold f_X5_allHolders at h
  refine Fr_iconst (i := 1) (v := 1) (by decide +kernel) (by decide) ?_
  refine Fr_aload_n (q := 0) (i := 0) 0 (by decide +kernel) rfl rfl ?_
  refine gf_X5_63 rfl (by decide +kernel) hp0 ?_
  refine Fr_ishl (by decide +kernel) ?_
  refine Fr_iconst (i := 1) (v := 1) (by decide +kernel) (by decide) ?_
  refine Fr_isub (by decide +kernel) ?_
  obtain rfl := Option.some.inj h
  exact Fr_iret (by decide +kernel) rfl ⟨rfl, rfl⟩
set_option maxRecDepth 20000 in
theorem t_X5_isHolderSet {p0 : Nat} {x1 : Int32} (hp0 : Ob 0 111 p0 5) {M : Mem} {q : Bool × Mem} (h : f_X5_isHolderSet p0 x1 M = some q) : Ev 0 111 1 m_X5_isHolderSet [.ref p0, .int x1] M (QB q) := by
  refine Ev_of_Fr (by decide +kernel) (Nat.le_of_ble_eq_true rfl) ?_
  show Fr 0 111 1 m_X5_isHolderSet 0 [(0, .ref p0), (1, .int x1)] [] M (QB q)
  unfold f_X5_isHolderSet at h
  refine Fr_iload_n (q := 1) (i := 1) 1 (by decide +kernel) rfl rfl ?_
  refine Fr_if_lt (off := 15) 16 (by decide +kernel) (by decide) (fun hc => ?_) (fun hc => ?_)
  · have h := iT hc h
    refine Fr_iconst (i := 0) (v := 0) (by decide +kernel) (by decide) ?_
    obtain rfl := Option.some.inj h
    exact Fr_zret (by decide +kernel) rfl (by decide) ⟨rfl, rfl⟩
  · have h := iF hc h
    refine Fr_iload_n (q := 1) (i := 1) 1 (by decide +kernel) rfl rfl ?_
    refine Fr_aload_n (q := 0) (i := 0) 0 (by decide +kernel) rfl rfl ?_
    obtain ⟨r_3, M_1, hc_2, h⟩ := bi_elim h
    refine Fr_cVi (ν := m_X5_allHolders) (As := []) (st := [.int x1]) (rc := p0) (ci := 5) (d' := 0) (by decide +kernel) ml_X5_121 cv_X5_allHolders rfl (by decide) rfl hp0 rfl (by decide) (Nat.le_of_ble_eq_true rfl) (t_X5_allHolders hp0 hc_2) ?_
    refine Fr_icmp_gt (off := 7) 16 (by decide +kernel) (by decide) (fun hc => ?_) (fun hc => ?_)
    · have h := iT hc h
      refine Fr_iconst (i := 0) (v := 0) (by decide +kernel) (by decide) ?_
      obtain rfl := Option.some.inj h
      exact Fr_zret (by decide +kernel) rfl (by decide) ⟨rfl, rfl⟩
    · have h := iF hc h
      refine Fr_iconst (i := 1) (v := 1) (by decide +kernel) (by decide) ?_
      refine Fr_goto (off := 4) 17 (by decide +kernel) (by decide) ?_
      obtain rfl := Option.some.inj h
      exact Fr_zret (by decide +kernel) rfl (by decide) ⟨rfl, rfl⟩
set_option maxRecDepth 20000 in
theorem t_X5_votesTogether_b30 {N : Nat} {p0 : Nat} (hp0 : Ob 0 111 p0 5) {q : Int32 × Mem} {k4 : Int32 × Int32 × Int32 → Mem → Option (Int32 × Mem)} (hk4 : ∀ (a : Int32 × Int32 × Int32) (M : Mem), k4 a M = some q → Fr 0 111 0 m_X5_votesTogether 4 [(0, .ref p0), (1, .int a.1), (2, .int a.2.1), (3, .int a.2.2)] [] M (QI q)) {v1 : Int32} {v2 : Int32} {v3 : Int32} {M : Mem} (h : f_X5_votesTogether_b30 N p0 k4 v1 v2 v3 M = some q) : Fr 0 111 0 m_X5_votesTogether 30 [(0, .ref p0), (1, .int v1), (2, .int v2), (3, .int v3)] [] M (QI q) := by
  unfold f_X5_votesTogether_b30 at h
  refine Fr_iinc (i := 3) (j := 1) (v := (v3 + 1)) (lv' := [(3, .int (v3 + 1)), (0, .ref p0), (1, .int v1), (2, .int v2)]) 3 (by decide +kernel) rfl rfl (by decide) rfl ?_
  refine Fr_goto (off := (-29)) 4 (by decide +kernel) (by decide) ?_
  refine Fr_loc [1, 2, 3, 0] rfl ?_
  exact hk4 (v1, v2, (v3 + 1)) M h
set_option maxRecDepth 20000 in
theorem t_X5_votesTogether_h4 {N : Nat} {p0 : Nat} (hp0 : Ob 0 111 p0 5) {q : Int32 × Mem} {k4 : Int32 × Int32 × Int32 → Mem → Option (Int32 × Mem)} (hk4 : ∀ (a : Int32 × Int32 × Int32) (M : Mem), k4 a M = some q → Fr 0 111 0 m_X5_votesTogether 4 [(0, .ref p0), (1, .int a.1), (2, .int a.2.1), (3, .int a.2.2)] [] M (QI q)) {v1 : Int32} {v2 : Int32} {v3 : Int32} {M : Mem} (h : f_X5_votesTogether_h4 N p0 k4 v1 v2 v3 M = some q) : Fr 0 111 0 m_X5_votesTogether 4 [(0, .ref p0), (1, .int v1), (2, .int v2), (3, .int v3)] [] M (QI q) := by
  unfold f_X5_votesTogether_h4 at h
  refine Fr_iload_n (q := 3) (i := 3) 3 (by decide +kernel) rfl rfl ?_
  refine Fr_aload_n (q := 0) (i := 0) 0 (by decide +kernel) rfl rfl ?_
  refine gf_X5_63 rfl (by decide +kernel) hp0 ?_
  refine Fr_icmp_ge (off := 27) 36 (by decide +kernel) (by decide) (fun hc => ?_) (fun hc => ?_)
  · have h := iT hc h
    refine Fr_iload_n (q := 2) (i := 2) 2 (by decide +kernel) rfl rfl ?_
    obtain rfl := Option.some.inj h
    exact Fr_iret (by decide +kernel) rfl ⟨rfl, rfl⟩
  · have h := iF hc h
    refine Fr_iload_n (q := 1) (i := 1) 1 (by decide +kernel) rfl rfl ?_
    refine Fr_iload_n (q := 3) (i := 3) 3 (by decide +kernel) rfl rfl ?_
    refine Fr_ishr (by decide +kernel) ?_
    refine Fr_iconst (i := 1) (v := 1) (by decide +kernel) (by decide) ?_
    refine Fr_iand (by decide +kernel) ?_
    refine Fr_iconst (i := 1) (v := 1) (by decide +kernel) (by decide) ?_
    refine Fr_icmp_ne (off := 12) 30 (by decide +kernel) (by decide) (fun hc => ?_) (fun hc => ?_)
    · have h := iF hc h
      exact t_X5_votesTogether_b30 hp0 hk4 h
    · have h := iT hc h
      refine Fr_iload_n (q := 2) (i := 2) 2 (by decide +kernel) rfl rfl ?_
      refine Fr_aload_n (q := 0) (i := 0) 0 (by decide +kernel) rfl rfl ?_
      refine gf_X5_19 rfl (by decide +kernel) hp0 ?_
      refine Fr_iload_n (q := 3) (i := 3) 3 (by decide +kernel) rfl rfl ?_
      obtain ⟨hi_1, h⟩ := ck_elim h
      refine Fr_iald (by decide +kernel) (o5_3 hp0) (vp_of (n5_3 hp0) hi_1) ?_
      refine Fr_iadd (by decide +kernel) ?_
      obtain ⟨y_2, ey_2, h⟩ := bI_elim h
      refine Fr_topI ey_2 ?_
      refine Fr_istore_n (q := 2) (i := 2) (lv' := [(2, .int y_2), (0, .ref p0), (1, .int v1), (3, .int v3)]) (by decide +kernel) rfl (by decide) rfl ?_
      refine Fr_loc [1, 2, 0, 3] rfl ?_
      exact t_X5_votesTogether_b30 hp0 hk4 h
set_option maxRecDepth 20000 in
theorem t_X5_votesTogether {N : Nat} {p0 : Nat} {x1 : Int32} (hp0 : Ob 0 111 p0 5) {M : Mem} {q : Int32 × Mem} (h : f_X5_votesTogether N p0 x1 M = some q) : Ev 0 111 0 m_X5_votesTogether [.ref p0, .int x1] M (QI q) := by
  refine Ev_of_Fr (by decide +kernel) (Nat.le_of_ble_eq_true rfl) ?_
  show Fr 0 111 0 m_X5_votesTogether 0 [(0, .ref p0), (1, .int x1)] [] M (QI q)
  unfold f_X5_votesTogether at h
  refine Fr_iconst (i := 0) (v := 0) (by decide +kernel) (by decide) ?_
  refine Fr_istore_n (q := 2) (i := 2) (lv' := [(2, .int 0), (0, .ref p0), (1, .int x1)]) (by decide +kernel) rfl (by decide) rfl ?_
  refine Fr_iconst (i := 0) (v := 0) (by decide +kernel) (by decide) ?_
  refine Fr_istore_n (q := 3) (i := 3) (lv' := [(3, .int 0), (2, .int 0), (0, .ref p0), (1, .int x1)]) (by decide +kernel) rfl (by decide) rfl ?_
  refine Fr_loc [2, 3, 1, 0] rfl ?_
  exact lp_sound (body := fun k a m => f_X5_votesTogether_h4 N p0 k a.1 a.2.1 a.2.2 m) (P := fun a M => Fr 0 111 0 m_X5_votesTogether 4 [(0, .ref p0), (1, .int a.1), (2, .int a.2.1), (3, .int a.2.2)] [] M (QI q)) (fun k hk a m h => t_X5_votesTogether_h4 hp0 hk h) N (x1, 0, 0) M h
set_option maxRecDepth 20000 in
theorem t_X5_quotaOf {p0 : Nat} {x1 : Int32} (hp0 : Ob 0 111 p0 5) {M : Mem} {q : Int32 × Mem} (h : f_X5_quotaOf p0 x1 M = some q) : Ev 0 111 0 m_X5_quotaOf [.ref p0, .int x1] M (QI q) := by
  refine Ev_of_Fr (by decide +kernel) (Nat.le_of_ble_eq_true rfl) ?_
  show Fr 0 111 0 m_X5_quotaOf 0 [(0, .ref p0), (1, .int x1)] [] M (QI q)
  unfold f_X5_quotaOf at h
  refine Fr_aload_n (q := 0) (i := 0) 0 (by decide +kernel) rfl rfl ?_
  refine gf_X5_9 rfl (by decide +kernel) hp0 ?_
  refine Fr_iload_n (q := 1) (i := 1) 1 (by decide +kernel) rfl rfl ?_
  refine Fr_iconst (i := 5) (v := 5) (by decide +kernel) (by decide) ?_
  refine Fr_imul (by decide +kernel) ?_
  refine Fr_iconst (i := 4) (v := 4) (by decide +kernel) (by decide) ?_
  refine Fr_iadd (by decide +kernel) ?_
  obtain ⟨hi_1, h⟩ := ck_elim h
  refine Fr_iald (by decide +kernel) (o5_1 hp0) (vp_of (n5_1 hp0) hi_1) ?_
  obtain rfl := Option.some.inj h
  exact Fr_iret (by decide +kernel) rfl ⟨rfl, rfl⟩
set_option maxRecDepth 20000 in
theorem t_X5_canOpen {N : Nat} {p0 : Nat} {x1 : Int32} {x2 : Int32} (hp0 : Ob 0 111 p0 5) {M : Mem} {q : Bool × Mem} (h : f_X5_canOpen N p0 x1 x2 M = some q) : Ev 0 111 1 m_X5_canOpen [.ref p0, .int x1, .int x2] M (QB q) := by
  refine Ev_of_Fr (by decide +kernel) (Nat.le_of_ble_eq_true rfl) ?_
  show Fr 0 111 1 m_X5_canOpen 0 [(0, .ref p0), (1, .int x1), (2, .int x2)] [] M (QB q)
  unfold f_X5_canOpen at h
  refine Fr_aload_n (q := 0) (i := 0) 0 (by decide +kernel) rfl rfl ?_
  refine Fr_iload_n (q := 2) (i := 2) 2 (by decide +kernel) rfl rfl ?_
  obtain ⟨r_3, M_1, hc_2, h⟩ := bi_elim h
  refine Fr_cVi (ν := m_X5_votesTogether) (As := [.int x2]) (st := []) (rc := p0) (ci := 5) (d' := 0) (by decide +kernel) ml_X5_124 cv_X5_votesTogether rfl (by decide) rfl hp0 rfl (by decide) (Nat.le_of_ble_eq_true rfl) (t_X5_votesTogether hp0 hc_2) ?_
  refine Fr_aload_n (q := 0) (i := 0) 0 (by decide +kernel) rfl rfl ?_
  refine Fr_iload_n (q := 1) (i := 1) 1 (by decide +kernel) rfl rfl ?_
  obtain ⟨r_6, M_4, hc_5, h⟩ := bi_elim h
  refine Fr_cVi (ν := m_X5_quotaOf) (As := [.int x1]) (st := [.int r_3]) (rc := p0) (ci := 5) (d' := 0) (by decide +kernel) ml_X5_127 cv_X5_quotaOf rfl (by decide) rfl hp0 rfl (by decide) (Nat.le_of_ble_eq_true rfl) (t_X5_quotaOf hp0 hc_5) ?_
  refine Fr_icmp_lt (off := 7) 17 (by decide +kernel) (by decide) (fun hc => ?_) (fun hc => ?_)
  · have h := iT hc h
    refine Fr_iconst (i := 0) (v := 0) (by decide +kernel) (by decide) ?_
    obtain rfl := Option.some.inj h
    exact Fr_zret (by decide +kernel) rfl (by decide) ⟨rfl, rfl⟩
  · have h := iF hc h
    refine Fr_iconst (i := 1) (v := 1) (by decide +kernel) (by decide) ?_
    refine Fr_goto (off := 4) 18 (by decide +kernel) (by decide) ?_
    obtain rfl := Option.some.inj h
    exact Fr_zret (by decide +kernel) rfl (by decide) ⟨rfl, rfl⟩
set_option maxRecDepth 20000 in
theorem t_X5_smallestSet_b37 {N : Nat} {p0 : Nat} (hp0 : Ob 0 111 p0 5) {q : Int32 × Mem} {k7 : Int32 × Int32 × Int32 → Mem → Option (Int32 × Mem)} (hk7 : ∀ (a : Int32 × Int32 × Int32) (M : Mem), k7 a M = some q → Fr 0 111 2 m_X5_smallestSet 7 [(0, .ref p0), (1, .int a.1), (2, .int a.2.1), (3, .int a.2.2)] [] M (QI q)) {v1 : Int32} {v2 : Int32} {v3 : Int32} {M : Mem} (h : f_X5_smallestSet_b37 N p0 k7 v1 v2 v3 M = some q) : Fr 0 111 2 m_X5_smallestSet 37 [(0, .ref p0), (1, .int v1), (2, .int v2), (3, .int v3)] [] M (QI q) := by
  unfold f_X5_smallestSet_b37 at h
  refine Fr_iinc (i := 3) (j := 1) (v := (v3 + 1)) (lv' := [(3, .int (v3 + 1)), (0, .ref p0), (1, .int v1), (2, .int v2)]) 3 (by decide +kernel) rfl rfl (by decide) rfl ?_
  refine Fr_goto (off := (-33)) 7 (by decide +kernel) (by decide) ?_
  refine Fr_loc [1, 2, 3, 0] rfl ?_
  exact hk7 (v1, v2, (v3 + 1)) M h
set_option maxRecDepth 20000 in
theorem t_X5_smallestSet_h7 {N : Nat} {p0 : Nat} (hp0 : Ob 0 111 p0 5) {q : Int32 × Mem} {k7 : Int32 × Int32 × Int32 → Mem → Option (Int32 × Mem)} (hk7 : ∀ (a : Int32 × Int32 × Int32) (M : Mem), k7 a M = some q → Fr 0 111 2 m_X5_smallestSet 7 [(0, .ref p0), (1, .int a.1), (2, .int a.2.1), (3, .int a.2.2)] [] M (QI q)) {v1 : Int32} {v2 : Int32} {v3 : Int32} {M : Mem} (h : f_X5_smallestSet_h7 N p0 k7 v1 v2 v3 M = some q) : Fr 0 111 2 m_X5_smallestSet 7 [(0, .ref p0), (1, .int v1), (2, .int v2), (3, .int v3)] [] M (QI q) := by
  unfold f_X5_smallestSet_h7 at h
  refine Fr_iload_n (q := 3) (i := 3) 3 (by decide +kernel) rfl rfl ?_
  refine Fr_aload_n (q := 0) (i := 0) 0 (by decide +kernel) rfl rfl ?_
  obtain ⟨r_6, M_4, hc_5, h⟩ := bi_elim h
  refine Fr_cVi (ν := m_X5_allHolders) (As := []) (st := [.int v3]) (rc := p0) (ci := 5) (d' := 0) (by decide +kernel) ml_X5_121 cv_X5_allHolders rfl (by decide) rfl hp0 rfl (by decide) (Nat.le_of_ble_eq_true rfl) (t_X5_allHolders hp0 hc_5) ?_
  refine Fr_icmp_gt (off := 31) 43 (by decide +kernel) (by decide) (fun hc => ?_) (fun hc => ?_)
  · have h := iT hc h
    refine Fr_iload_n (q := 2) (i := 2) 2 (by decide +kernel) rfl rfl ?_
    obtain rfl := Option.some.inj h
    exact Fr_iret (by decide +kernel) rfl ⟨rfl, rfl⟩
  · have h := iF hc h
    refine Fr_aload_n (q := 0) (i := 0) 0 (by decide +kernel) rfl rfl ?_
    refine Fr_iload_n (q := 1) (i := 1) 1 (by decide +kernel) rfl rfl ?_
    refine Fr_iload_n (q := 3) (i := 3) 3 (by decide +kernel) rfl rfl ?_
    obtain ⟨r_9, M_7, hc_8, h⟩ := bi_elim h
    refine Fr_cVb (ν := m_X5_canOpen) (As := [.int v1, .int v3]) (st := []) (rc := p0) (ci := 5) (d' := 1) (by decide +kernel) ml_X5_130 cv_X5_canOpen rfl (by decide) rfl hp0 rfl (by decide) (Nat.le_of_ble_eq_true rfl) (t_X5_canOpen hp0 hc_8) ?_
    refine Fr_if_eq (off := 16) 37 (by decide +kernel) (by decide) (fun hc => ?_) (fun hc => ?_)
    · have h := iT hc h
      exact t_X5_smallestSet_b37 hp0 hk7 h
    · have h := iF hc h
      refine Fr_iload_n (q := 3) (i := 3) 3 (by decide +kernel) rfl rfl ?_
      obtain ⟨r_12, M_10, hc_11, h⟩ := bi_elim h
      refine Fr_cSi (ν := m_J6_bitCount_0f7a4) (As := [.int v3]) (st := []) (d' := 0) (by decide +kernel) ml_X5_133 cs_J6_bitCount_0f7a4 rfl (by decide) (Nat.le_of_ble_eq_true rfl) (t_J6_bitCount_0f7a4 hc_11) ?_
      refine Fr_iload_n (q := 2) (i := 2) 2 (by decide +kernel) rfl rfl ?_
      obtain ⟨r_15, M_13, hc_14, h⟩ := bi_elim h
      refine Fr_cSi (ν := m_J6_bitCount_0f7a4) (As := [.int v2]) (st := [.int r_12]) (d' := 0) (by decide +kernel) ml_X5_133 cs_J6_bitCount_0f7a4 rfl (by decide) (Nat.le_of_ble_eq_true rfl) (t_J6_bitCount_0f7a4 hc_14) ?_
      refine Fr_icmp_ge (off := 5) 37 (by decide +kernel) (by decide) (fun hc => ?_) (fun hc => ?_)
      · have h := iT hc h
        exact t_X5_smallestSet_b37 hp0 hk7 h
      · have h := iF hc h
        refine Fr_iload_n (q := 3) (i := 3) 3 (by decide +kernel) rfl rfl ?_
        refine Fr_istore_n (q := 2) (i := 2) (lv' := [(2, .int v3), (0, .ref p0), (1, .int v1), (3, .int v3)]) (by decide +kernel) rfl (by decide) rfl ?_
        refine Fr_loc [1, 2, 0, 3] rfl ?_
        exact t_X5_smallestSet_b37 hp0 hk7 h
set_option maxRecDepth 20000 in
theorem t_X5_smallestSet {N : Nat} {p0 : Nat} {x1 : Int32} (hp0 : Ob 0 111 p0 5) {M : Mem} {q : Int32 × Mem} (h : f_X5_smallestSet N p0 x1 M = some q) : Ev 0 111 2 m_X5_smallestSet [.ref p0, .int x1] M (QI q) := by
  refine Ev_of_Fr (by decide +kernel) (Nat.le_of_ble_eq_true rfl) ?_
  show Fr 0 111 2 m_X5_smallestSet 0 [(0, .ref p0), (1, .int x1)] [] M (QI q)
  unfold f_X5_smallestSet at h
  refine Fr_aload_n (q := 0) (i := 0) 0 (by decide +kernel) rfl rfl ?_
  obtain ⟨r_3, M_1, hc_2, h⟩ := bi_elim h
  refine Fr_cVi (ν := m_X5_allHolders) (As := []) (st := []) (rc := p0) (ci := 5) (d' := 0) (by decide +kernel) ml_X5_121 cv_X5_allHolders rfl (by decide) rfl hp0 rfl (by decide) (Nat.le_of_ble_eq_true rfl) (t_X5_allHolders hp0 hc_2) ?_
  refine Fr_istore_n (q := 2) (i := 2) (lv' := [(2, .int r_3), (0, .ref p0), (1, .int x1)]) (by decide +kernel) rfl (by decide) rfl ?_
  refine Fr_iconst (i := 0) (v := 0) (by decide +kernel) (by decide) ?_
  refine Fr_istore_n (q := 3) (i := 3) (lv' := [(3, .int 0), (2, .int r_3), (0, .ref p0), (1, .int x1)]) (by decide +kernel) rfl (by decide) rfl ?_
  refine Fr_loc [2, 3, 1, 0] rfl ?_
  exact lp_sound (body := fun k a m => f_X5_smallestSet_h7 N p0 k a.1 a.2.1 a.2.2 m) (P := fun a M => Fr 0 111 2 m_X5_smallestSet 7 [(0, .ref p0), (1, .int a.1), (2, .int a.2.1), (3, .int a.2.2)] [] M (QI q)) (fun k hk a m h => t_X5_smallestSet_h7 hp0 hk h) N (x1, r_3, 0) M_1 h
set_option maxRecDepth 20000 in
theorem t_X5_decidingOrders_b89 {N : Nat} {p0 : Nat} (hp0 : Ob 0 111 p0 5) {q : Int32 × Mem} {k5 : Int32 × Int32 × Int32 × Int32 → Mem → Option (Int32 × Mem)} (hk5 : ∀ (a : Int32 × Int32 × Int32 × Int32) (M : Mem), k5 a M = some q → Fr 0 111 2 m_X5_decidingOrders 5 [(0, .ref p0), (1, .int a.1), (2, .int a.2.1), (3, .int a.2.2.1), (4, .int a.2.2.2)] [] M (QI q)) {v1 : Int32} {v2 : Int32} {v3 : Int32} {v4 : Int32} {M : Mem} (h : f_X5_decidingOrders_b89 N p0 k5 v1 v2 v3 v4 M = some q) : Fr 0 111 2 m_X5_decidingOrders 89 [(0, .ref p0), (1, .int v1), (2, .int v2), (3, .int v3), (4, .int v4)] [] M (QI q) := by
  unfold f_X5_decidingOrders_b89 at h
  refine Fr_iinc (i := 4) (j := 1) (v := (v4 + 1)) (lv' := [(4, .int (v4 + 1)), (0, .ref p0), (1, .int v1), (2, .int v2), (3, .int v3)]) 4 (by decide +kernel) rfl rfl (by decide) rfl ?_
  refine Fr_goto (off := (-87)) 5 (by decide +kernel) (by decide) ?_
  refine Fr_loc [1, 2, 3, 4, 0] rfl ?_
  exact hk5 (v1, v2, v3, (v4 + 1)) M h
set_option maxRecDepth 20000 in
theorem t_X5_decidingOrders_b28 {N : Nat} {p0 : Nat} (hp0 : Ob 0 111 p0 5) {q : Int32 × Mem} {k5 : Int32 × Int32 × Int32 × Int32 → Mem → Option (Int32 × Mem)} (hk5 : ∀ (a : Int32 × Int32 × Int32 × Int32) (M : Mem), k5 a M = some q → Fr 0 111 2 m_X5_decidingOrders 5 [(0, .ref p0), (1, .int a.1), (2, .int a.2.1), (3, .int a.2.2.1), (4, .int a.2.2.2)] [] M (QI q)) {v1 : Int32} {v2 : Int32} {v3 : Int32} {v4 : Int32} {s0 : Int32} {M : Mem} (h : f_X5_decidingOrders_b28 N p0 k5 v1 v2 v3 v4 s0 M = some q) : Fr 0 111 2 m_X5_decidingOrders 28 [(0, .ref p0), (1, .int v1), (2, .int v2), (3, .int v3), (4, .int v4)] [.int s0] M (QI q) := by
  unfold f_X5_decidingOrders_b28 at h
  refine Fr_istore (i := 5) (lv' := [(5, .int s0), (0, .ref p0), (1, .int v1), (2, .int v2), (3, .int v3), (4, .int v4)]) (by decide +kernel) (by decide) rfl ?_
  refine Fr_iload (i := 5) 0 (by decide +kernel) rfl ?_
  refine Fr_if_eq (off := 57) 89 (by decide +kernel) (by decide) (fun hc => ?_) (fun hc => ?_)
  · have h := iT hc h
    refine Fr_loc [1, 2, 3, 4, 5] rfl ?_
    exact t_X5_decidingOrders_b89 hp0 hk5 h
  · have h := iF hc h
    refine Fr_aload_n (q := 0) (i := 0) 1 (by decide +kernel) rfl rfl ?_
    refine Fr_iload_n (q := 1) (i := 1) 2 (by decide +kernel) rfl rfl ?_
    refine Fr_iload (i := 4) 5 (by decide +kernel) rfl ?_
    obtain ⟨r_6, M_4, hc_5, h⟩ := bi_elim h
    refine Fr_cVb (ν := m_X5_canOpen) (As := [.int v1, .int v4]) (st := []) (rc := p0) (ci := 5) (d' := 1) (by decide +kernel) ml_X5_130 cv_X5_canOpen rfl (by decide) rfl hp0 rfl (by decide) (Nat.le_of_ble_eq_true rfl) (t_X5_canOpen hp0 hc_5) ?_
    refine Fr_if_ne (off := 47) 89 (by decide +kernel) (by decide) (fun hc => ?_) (fun hc => ?_)
    · have h := iF hc h
      refine Fr_loc [1, 2, 3, 4, 5] rfl ?_
      exact t_X5_decidingOrders_b89 hp0 hk5 h
    · have h := iT hc h
      refine Fr_aload_n (q := 0) (i := 0) 1 (by decide +kernel) rfl rfl ?_
      refine Fr_iload_n (q := 1) (i := 1) 2 (by decide +kernel) rfl rfl ?_
      refine Fr_iload (i := 4) 5 (by decide +kernel) rfl ?_
      refine Fr_iconst (i := 1) (v := 1) (by decide +kernel) (by decide) ?_
      refine Fr_iload_n (q := 2) (i := 2) 3 (by decide +kernel) rfl rfl ?_
      refine Fr_ishl (by decide +kernel) ?_
      refine Fr_ior (by decide +kernel) ?_
      obtain ⟨r_9, M_7, hc_8, h⟩ := bi_elim h
      refine Fr_cVb (ν := m_X5_canOpen) (As := [.int v1, .int (v4 ||| (1 <<< (v2 &&& 31)))]) (st := []) (rc := p0) (ci := 5) (d' := 1) (by decide +kernel) ml_X5_130 cv_X5_canOpen rfl (by decide) rfl hp0 rfl (by decide) (Nat.le_of_ble_eq_true rfl) (t_X5_canOpen hp0 hc_8) ?_
      refine Fr_if_eq (off := 33) 89 (by decide +kernel) (by decide) (fun hc => ?_) (fun hc => ?_)
      · have h := iT hc h
        refine Fr_loc [1, 2, 3, 4, 5] rfl ?_
        exact t_X5_decidingOrders_b89 hp0 hk5 h
      · have h := iF hc h
        refine Fr_iload (i := 4) 5 (by decide +kernel) rfl ?_
        obtain ⟨r_12, M_10, hc_11, h⟩ := bi_elim h
        refine Fr_cSi (ν := m_J6_bitCount_0f7a4) (As := [.int v4]) (st := []) (d' := 0) (by decide +kernel) ml_X5_133 cs_J6_bitCount_0f7a4 rfl (by decide) (Nat.le_of_ble_eq_true rfl) (t_J6_bitCount_0f7a4 hc_11) ?_
        refine Fr_istore (i := 6) (lv' := [(6, .int r_12), (5, .int s0), (0, .ref p0), (1, .int v1), (2, .int v2), (3, .int v3), (4, .int v4)]) (by decide +kernel) (by decide) rfl ?_
        refine Fr_iload_n (q := 3) (i := 3) 5 (by decide +kernel) rfl rfl ?_
        refine Fr_getsN (idx := 138) 3 (by decide +kernel) (by decide) (by decide +kernel) ?_
        refine Fr_iload (i := 6) 0 (by decide +kernel) rfl ?_
        obtain ⟨hi_13, h⟩ := ck_elim h
        refine Fr_tald (i := 3) (by decide +kernel) (by decide) hi_13 ?_
        refine Fr_getsN (idx := 138) 3 (by decide +kernel) (by decide) (by decide +kernel) ?_
        refine Fr_aload_n (q := 0) (i := 0) 2 (by decide +kernel) rfl rfl ?_
        refine gf_X5_63 rfl (by decide +kernel) hp0 ?_
        refine Fr_iload (i := 6) 0 (by decide +kernel) rfl ?_
        refine Fr_isub (by decide +kernel) ?_
        refine Fr_iconst (i := 1) (v := 1) (by decide +kernel) (by decide) ?_
        refine Fr_isub (by decide +kernel) ?_
        obtain ⟨hi_14, h⟩ := ck_elim h
        refine Fr_tald (i := 3) (by decide +kernel) (by decide) hi_14 ?_
        refine Fr_imul (by decide +kernel) ?_
        refine Fr_iadd (by decide +kernel) ?_
        obtain ⟨y_15, ey_15, h⟩ := bI_elim h
        refine Fr_topI ey_15 ?_
        refine Fr_istore_n (q := 3) (i := 3) (lv' := [(3, .int y_15), (6, .int r_12), (5, .int s0), (0, .ref p0), (1, .int v1), (2, .int v2), (4, .int v4)]) (by decide +kernel) rfl (by decide) rfl ?_
        refine Fr_loc [3, 4, 5, 0, 6] rfl ?_
        exact t_X5_decidingOrders_b89 hp0 hk5 h
set_option maxRecDepth 20000 in
theorem t_X5_decidingOrders_h5 {N : Nat} {p0 : Nat} (hp0 : Ob 0 111 p0 5) {q : Int32 × Mem} {k5 : Int32 × Int32 × Int32 × Int32 → Mem → Option (Int32 × Mem)} (hk5 : ∀ (a : Int32 × Int32 × Int32 × Int32) (M : Mem), k5 a M = some q → Fr 0 111 2 m_X5_decidingOrders 5 [(0, .ref p0), (1, .int a.1), (2, .int a.2.1), (3, .int a.2.2.1), (4, .int a.2.2.2)] [] M (QI q)) {v1 : Int32} {v2 : Int32} {v3 : Int32} {v4 : Int32} {M : Mem} (h : f_X5_decidingOrders_h5 N p0 k5 v1 v2 v3 v4 M = some q) : Fr 0 111 2 m_X5_decidingOrders 5 [(0, .ref p0), (1, .int v1), (2, .int v2), (3, .int v3), (4, .int v4)] [] M (QI q) := by
  unfold f_X5_decidingOrders_h5 at h
  refine Fr_iload (i := 4) 4 (by decide +kernel) rfl ?_
  refine Fr_aload_n (q := 0) (i := 0) 0 (by decide +kernel) rfl rfl ?_
  obtain ⟨r_3, M_1, hc_2, h⟩ := bi_elim h
  refine Fr_cVi (ν := m_X5_allHolders) (As := []) (st := [.int v4]) (rc := p0) (ci := 5) (d' := 0) (by decide +kernel) ml_X5_121 cv_X5_allHolders rfl (by decide) rfl hp0 rfl (by decide) (Nat.le_of_ble_eq_true rfl) (t_X5_allHolders hp0 hc_2) ?_
  refine Fr_icmp_gt (off := 84) 95 (by decide +kernel) (by decide) (fun hc => ?_) (fun hc => ?_)
  · have h := iT hc h
    refine Fr_iload_n (q := 3) (i := 3) 3 (by decide +kernel) rfl rfl ?_
    obtain rfl := Option.some.inj h
    exact Fr_iret (by decide +kernel) rfl ⟨rfl, rfl⟩
  · have h := iF hc h
    refine Fr_iload (i := 4) 4 (by decide +kernel) rfl ?_
    refine Fr_iload_n (q := 2) (i := 2) 2 (by decide +kernel) rfl rfl ?_
    refine Fr_ishr (by decide +kernel) ?_
    refine Fr_iconst (i := 1) (v := 1) (by decide +kernel) (by decide) ?_
    refine Fr_iand (by decide +kernel) ?_
    refine Fr_if_ne (off := 7) 27 (by decide +kernel) (by decide) (fun hc => ?_) (fun hc => ?_)
    · have h := iF hc h
      refine Fr_iconst (i := 0) (v := 0) (by decide +kernel) (by decide) ?_
      exact t_X5_decidingOrders_b28 hp0 hk5 h
    · have h := iT hc h
      refine Fr_iconst (i := 1) (v := 1) (by decide +kernel) (by decide) ?_
      refine Fr_goto (off := 4) 28 (by decide +kernel) (by decide) ?_
      exact t_X5_decidingOrders_b28 hp0 hk5 h
set_option maxRecDepth 20000 in
theorem t_X5_decidingOrders {N : Nat} {p0 : Nat} {x1 : Int32} {x2 : Int32} (hp0 : Ob 0 111 p0 5) {M : Mem} {q : Int32 × Mem} (h : f_X5_decidingOrders N p0 x1 x2 M = some q) : Ev 0 111 2 m_X5_decidingOrders [.ref p0, .int x1, .int x2] M (QI q) := by
  refine Ev_of_Fr (by decide +kernel) (Nat.le_of_ble_eq_true rfl) ?_
  show Fr 0 111 2 m_X5_decidingOrders 0 [(0, .ref p0), (1, .int x1), (2, .int x2)] [] M (QI q)
  unfold f_X5_decidingOrders at h
  refine Fr_iconst (i := 0) (v := 0) (by decide +kernel) (by decide) ?_
  refine Fr_istore_n (q := 3) (i := 3) (lv' := [(3, .int 0), (0, .ref p0), (1, .int x1), (2, .int x2)]) (by decide +kernel) rfl (by decide) rfl ?_
  refine Fr_iconst (i := 0) (v := 0) (by decide +kernel) (by decide) ?_
  refine Fr_istore (i := 4) (lv' := [(4, .int 0), (3, .int 0), (0, .ref p0), (1, .int x1), (2, .int x2)]) (by decide +kernel) (by decide) rfl ?_
  refine Fr_loc [2, 3, 4, 1, 0] rfl ?_
  exact lp_sound (body := fun k a m => f_X5_decidingOrders_h5 N p0 k a.1 a.2.1 a.2.2.1 a.2.2.2 m) (P := fun a M => Fr 0 111 2 m_X5_decidingOrders 5 [(0, .ref p0), (1, .int a.1), (2, .int a.2.1), (3, .int a.2.2.1), (4, .int a.2.2.2)] [] M (QI q)) (fun k hk a m h => t_X5_decidingOrders_h5 hp0 hk h) N (x1, x2, 0, 0) M h
set_option maxRecDepth 20000 in
theorem t_X5_neededHolders_b36 {N : Nat} {p0 : Nat} (hp0 : Ob 0 111 p0 5) {q : Int32 × Mem} {k4 : Int32 × Int32 × Int32 → Mem → Option (Int32 × Mem)} (hk4 : ∀ (a : Int32 × Int32 × Int32) (M : Mem), k4 a M = some q → Fr 0 111 2 m_X5_neededHolders 4 [(0, .ref p0), (1, .int a.1), (2, .int a.2.1), (3, .int a.2.2)] [] M (QI q)) {v1 : Int32} {v2 : Int32} {v3 : Int32} {M : Mem} (h : f_X5_neededHolders_b36 N p0 k4 v1 v2 v3 M = some q) : Fr 0 111 2 m_X5_neededHolders 36 [(0, .ref p0), (1, .int v1), (2, .int v2), (3, .int v3)] [] M (QI q) := by
  unfold f_X5_neededHolders_b36 at h
  refine Fr_iinc (i := 3) (j := 1) (v := (v3 + 1)) (lv' := [(3, .int (v3 + 1)), (0, .ref p0), (1, .int v1), (2, .int v2)]) 3 (by decide +kernel) rfl rfl (by decide) rfl ?_
  refine Fr_goto (off := (-35)) 4 (by decide +kernel) (by decide) ?_
  refine Fr_loc [1, 2, 3, 0] rfl ?_
  exact hk4 (v1, v2, (v3 + 1)) M h
set_option maxRecDepth 20000 in
theorem t_X5_neededHolders_h4 {N : Nat} {p0 : Nat} (hp0 : Ob 0 111 p0 5) {q : Int32 × Mem} {k4 : Int32 × Int32 × Int32 → Mem → Option (Int32 × Mem)} (hk4 : ∀ (a : Int32 × Int32 × Int32) (M : Mem), k4 a M = some q → Fr 0 111 2 m_X5_neededHolders 4 [(0, .ref p0), (1, .int a.1), (2, .int a.2.1), (3, .int a.2.2)] [] M (QI q)) {v1 : Int32} {v2 : Int32} {v3 : Int32} {M : Mem} (h : f_X5_neededHolders_h4 N p0 k4 v1 v2 v3 M = some q) : Fr 0 111 2 m_X5_neededHolders 4 [(0, .ref p0), (1, .int v1), (2, .int v2), (3, .int v3)] [] M (QI q) := by
  unfold f_X5_neededHolders_h4 at h
  refine Fr_iload_n (q := 3) (i := 3) 3 (by decide +kernel) rfl rfl ?_
  refine Fr_aload_n (q := 0) (i := 0) 0 (by decide +kernel) rfl rfl ?_
  refine gf_X5_63 rfl (by decide +kernel) hp0 ?_
  refine Fr_icmp_ge (off := 33) 42 (by decide +kernel) (by decide) (fun hc => ?_) (fun hc => ?_)
  · have h := iT hc h
    refine Fr_iload_n (q := 2) (i := 2) 2 (by decide +kernel) rfl rfl ?_
    obtain rfl := Option.some.inj h
    exact Fr_iret (by decide +kernel) rfl ⟨rfl, rfl⟩
  · have h := iF hc h
    refine Fr_aload_n (q := 0) (i := 0) 0 (by decide +kernel) rfl rfl ?_
    refine Fr_iload_n (q := 1) (i := 1) 1 (by decide +kernel) rfl rfl ?_
    refine Fr_aload_n (q := 0) (i := 0) 0 (by decide +kernel) rfl rfl ?_
    obtain ⟨r_3, M_1, hc_2, h⟩ := bi_elim h
    refine Fr_cVi (ν := m_X5_allHolders) (As := []) (st := [.int v1, .ref p0]) (rc := p0) (ci := 5) (d' := 0) (by decide +kernel) ml_X5_121 cv_X5_allHolders rfl (by decide) rfl hp0 rfl (by decide) (Nat.le_of_ble_eq_true rfl) (t_X5_allHolders hp0 hc_2) ?_
    refine Fr_iconst (i := 1) (v := 1) (by decide +kernel) (by decide) ?_
    refine Fr_iload_n (q := 3) (i := 3) 3 (by decide +kernel) rfl rfl ?_
    refine Fr_ishl (by decide +kernel) ?_
    refine Fr_iconst (i := (-1)) (v := (-1)) (by decide +kernel) (by decide) ?_
    refine Fr_ixor (by decide +kernel) ?_
    refine Fr_iand (by decide +kernel) ?_
    obtain ⟨r_6, M_4, hc_5, h⟩ := bi_elim h
    refine Fr_cVb (ν := m_X5_canOpen) (As := [.int v1, .int (r_3 &&& ((1 <<< (v3 &&& 31)) ^^^ (-1)))]) (st := []) (rc := p0) (ci := 5) (d' := 1) (by decide +kernel) ml_X5_130 cv_X5_canOpen rfl (by decide) rfl hp0 rfl (by decide) (Nat.le_of_ble_eq_true rfl) (t_X5_canOpen hp0 hc_5) ?_
    refine Fr_if_ne (off := 9) 36 (by decide +kernel) (by decide) (fun hc => ?_) (fun hc => ?_)
    · have h := iF hc h
      exact t_X5_neededHolders_b36 hp0 hk4 h
    · have h := iT hc h
      refine Fr_iload_n (q := 2) (i := 2) 2 (by decide +kernel) rfl rfl ?_
      refine Fr_iconst (i := 1) (v := 1) (by decide +kernel) (by decide) ?_
      refine Fr_iload_n (q := 3) (i := 3) 3 (by decide +kernel) rfl rfl ?_
      refine Fr_ishl (by decide +kernel) ?_
      refine Fr_ior (by decide +kernel) ?_
      obtain ⟨y_7, ey_7, h⟩ := bI_elim h
      refine Fr_topI ey_7 ?_
      refine Fr_istore_n (q := 2) (i := 2) (lv' := [(2, .int y_7), (0, .ref p0), (1, .int v1), (3, .int v3)]) (by decide +kernel) rfl (by decide) rfl ?_
      refine Fr_loc [1, 2, 0, 3] rfl ?_
      exact t_X5_neededHolders_b36 hp0 hk4 h
set_option maxRecDepth 20000 in
theorem t_X5_neededHolders {N : Nat} {p0 : Nat} {x1 : Int32} (hp0 : Ob 0 111 p0 5) {M : Mem} {q : Int32 × Mem} (h : f_X5_neededHolders N p0 x1 M = some q) : Ev 0 111 2 m_X5_neededHolders [.ref p0, .int x1] M (QI q) := by
  refine Ev_of_Fr (by decide +kernel) (Nat.le_of_ble_eq_true rfl) ?_
  show Fr 0 111 2 m_X5_neededHolders 0 [(0, .ref p0), (1, .int x1)] [] M (QI q)
  unfold f_X5_neededHolders at h
  refine Fr_iconst (i := 0) (v := 0) (by decide +kernel) (by decide) ?_
  refine Fr_istore_n (q := 2) (i := 2) (lv' := [(2, .int 0), (0, .ref p0), (1, .int x1)]) (by decide +kernel) rfl (by decide) rfl ?_
  refine Fr_iconst (i := 0) (v := 0) (by decide +kernel) (by decide) ?_
  refine Fr_istore_n (q := 3) (i := 3) (lv' := [(3, .int 0), (2, .int 0), (0, .ref p0), (1, .int x1)]) (by decide +kernel) rfl (by decide) rfl ?_
  refine Fr_loc [2, 3, 1, 0] rfl ?_
  exact lp_sound (body := fun k a m => f_X5_neededHolders_h4 N p0 k a.1 a.2.1 a.2.2 m) (P := fun a M => Fr 0 111 2 m_X5_neededHolders 4 [(0, .ref p0), (1, .int a.1), (2, .int a.2.1), (3, .int a.2.2)] [] M (QI q)) (fun k hk a m h => t_X5_neededHolders_h4 hp0 hk h) N (x1, 0, 0) M h
set_option maxRecDepth 20000 in
theorem t_X5_powerlessHolders_b27 {N : Nat} {p0 : Nat} (hp0 : Ob 0 111 p0 5) {q : Int32 × Mem} {k4 : Int32 × Int32 × Int32 → Mem → Option (Int32 × Mem)} (hk4 : ∀ (a : Int32 × Int32 × Int32) (M : Mem), k4 a M = some q → Fr 0 111 3 m_X5_powerlessHolders 4 [(0, .ref p0), (1, .int a.1), (2, .int a.2.1), (3, .int a.2.2)] [] M (QI q)) {v1 : Int32} {v2 : Int32} {v3 : Int32} {M : Mem} (h : f_X5_powerlessHolders_b27 N p0 k4 v1 v2 v3 M = some q) : Fr 0 111 3 m_X5_powerlessHolders 27 [(0, .ref p0), (1, .int v1), (2, .int v2), (3, .int v3)] [] M (QI q) := by
  unfold f_X5_powerlessHolders_b27 at h
  refine Fr_iinc (i := 3) (j := 1) (v := (v3 + 1)) (lv' := [(3, .int (v3 + 1)), (0, .ref p0), (1, .int v1), (2, .int v2)]) 3 (by decide +kernel) rfl rfl (by decide) rfl ?_
  refine Fr_goto (off := (-26)) 4 (by decide +kernel) (by decide) ?_
  refine Fr_loc [1, 2, 3, 0] rfl ?_
  exact hk4 (v1, v2, (v3 + 1)) M h
set_option maxRecDepth 20000 in
theorem t_X5_powerlessHolders_h4 {N : Nat} {p0 : Nat} (hp0 : Ob 0 111 p0 5) {q : Int32 × Mem} {k4 : Int32 × Int32 × Int32 → Mem → Option (Int32 × Mem)} (hk4 : ∀ (a : Int32 × Int32 × Int32) (M : Mem), k4 a M = some q → Fr 0 111 3 m_X5_powerlessHolders 4 [(0, .ref p0), (1, .int a.1), (2, .int a.2.1), (3, .int a.2.2)] [] M (QI q)) {v1 : Int32} {v2 : Int32} {v3 : Int32} {M : Mem} (h : f_X5_powerlessHolders_h4 N p0 k4 v1 v2 v3 M = some q) : Fr 0 111 3 m_X5_powerlessHolders 4 [(0, .ref p0), (1, .int v1), (2, .int v2), (3, .int v3)] [] M (QI q) := by
  unfold f_X5_powerlessHolders_h4 at h
  refine Fr_iload_n (q := 3) (i := 3) 3 (by decide +kernel) rfl rfl ?_
  refine Fr_aload_n (q := 0) (i := 0) 0 (by decide +kernel) rfl rfl ?_
  refine gf_X5_63 rfl (by decide +kernel) hp0 ?_
  refine Fr_icmp_ge (off := 24) 33 (by decide +kernel) (by decide) (fun hc => ?_) (fun hc => ?_)
  · have h := iT hc h
    refine Fr_iload_n (q := 2) (i := 2) 2 (by decide +kernel) rfl rfl ?_
    obtain rfl := Option.some.inj h
    exact Fr_iret (by decide +kernel) rfl ⟨rfl, rfl⟩
  · have h := iF hc h
    refine Fr_aload_n (q := 0) (i := 0) 0 (by decide +kernel) rfl rfl ?_
    refine Fr_iload_n (q := 1) (i := 1) 1 (by decide +kernel) rfl rfl ?_
    refine Fr_iload_n (q := 3) (i := 3) 3 (by decide +kernel) rfl rfl ?_
    obtain ⟨r_3, M_1, hc_2, h⟩ := bi_elim h
    refine Fr_cVi (ν := m_X5_decidingOrders) (As := [.int v1, .int v3]) (st := []) (rc := p0) (ci := 5) (d' := 2) (by decide +kernel) ml_X5_141 cv_X5_decidingOrders rfl (by decide) rfl hp0 rfl (by decide) (Nat.le_of_ble_eq_true rfl) (t_X5_decidingOrders hp0 hc_2) ?_
    refine Fr_if_ne (off := 9) 27 (by decide +kernel) (by decide) (fun hc => ?_) (fun hc => ?_)
    · have h := iF hc h
      exact t_X5_powerlessHolders_b27 hp0 hk4 h
    · have h := iT hc h
      refine Fr_iload_n (q := 2) (i := 2) 2 (by decide +kernel) rfl rfl ?_
      refine Fr_iconst (i := 1) (v := 1) (by decide +kernel) (by decide) ?_
      refine Fr_iload_n (q := 3) (i := 3) 3 (by decide +kernel) rfl rfl ?_
      refine Fr_ishl (by decide +kernel) ?_
      refine Fr_ior (by decide +kernel) ?_
      obtain ⟨y_4, ey_4, h⟩ := bI_elim h
      refine Fr_topI ey_4 ?_
      refine Fr_istore_n (q := 2) (i := 2) (lv' := [(2, .int y_4), (0, .ref p0), (1, .int v1), (3, .int v3)]) (by decide +kernel) rfl (by decide) rfl ?_
      refine Fr_loc [1, 2, 0, 3] rfl ?_
      exact t_X5_powerlessHolders_b27 hp0 hk4 h
set_option maxRecDepth 20000 in
theorem t_X5_powerlessHolders {N : Nat} {p0 : Nat} {x1 : Int32} (hp0 : Ob 0 111 p0 5) {M : Mem} {q : Int32 × Mem} (h : f_X5_powerlessHolders N p0 x1 M = some q) : Ev 0 111 3 m_X5_powerlessHolders [.ref p0, .int x1] M (QI q) := by
  refine Ev_of_Fr (by decide +kernel) (Nat.le_of_ble_eq_true rfl) ?_
  show Fr 0 111 3 m_X5_powerlessHolders 0 [(0, .ref p0), (1, .int x1)] [] M (QI q)
  unfold f_X5_powerlessHolders at h
  refine Fr_iconst (i := 0) (v := 0) (by decide +kernel) (by decide) ?_
  refine Fr_istore_n (q := 2) (i := 2) (lv' := [(2, .int 0), (0, .ref p0), (1, .int x1)]) (by decide +kernel) rfl (by decide) rfl ?_
  refine Fr_iconst (i := 0) (v := 0) (by decide +kernel) (by decide) ?_
  refine Fr_istore_n (q := 3) (i := 3) (lv' := [(3, .int 0), (2, .int 0), (0, .ref p0), (1, .int x1)]) (by decide +kernel) rfl (by decide) rfl ?_
  refine Fr_loc [2, 3, 1, 0] rfl ?_
  exact lp_sound (body := fun k a m => f_X5_powerlessHolders_h4 N p0 k a.1 a.2.1 a.2.2 m) (P := fun a M => Fr 0 111 3 m_X5_powerlessHolders 4 [(0, .ref p0), (1, .int a.1), (2, .int a.2.1), (3, .int a.2.2)] [] M (QI q)) (fun k hk a m h => t_X5_powerlessHolders_h4 hp0 hk h) N (x1, 0, 0) M h
set_option maxRecDepth 20000 in
theorem t_X6_readSize_b75 {N : Nat} {p1 : Nat} (hp1 : Ob 0 111 p1 5) {q : Bool × Mem} {s0 : Int32} {M : Mem} (h : f_X6_readSize_b75 N p1 s0 M = some q) : Fr 0 111 9 m_X6_readSize 75 [(0, .ref 83), (1, .ref p1)] [.int s0] M (QB q) := by
  unfold f_X6_readSize_b75 at h
  refine Fr_istore_n (q := 2) (i := 2) (lv' := [(2, .int s0), (0, .ref 83), (1, .ref p1)]) (by decide +kernel) rfl (by decide) rfl ?_
  refine Fr_iload_n (q := 2) (i := 2) 0 (by decide +kernel) rfl rfl ?_
  refine Fr_if_ne (off := 5) 82 (by decide +kernel) (by decide) (fun hc => ?_) (fun hc => ?_)
  · have h := iF hc h
    refine Fr_aload_n (q := 1) (i := 1) 2 (by decide +kernel) rfl rfl ?_
    refine Fr_aload_n (q := 0) (i := 0) 1 (by decide +kernel) rfl rfl ?_
    refine gf_X6_19 rfl (by decide +kernel) ob_83 ?_
    refine Fr_iconst (i := 0) (v := 0) (by decide +kernel) (by decide) ?_
    obtain ⟨hi_6, h⟩ := ck_elim h
    refine Fr_iald (by decide +kernel) ob_86 (vp_of ln_86 hi_6) ?_
    refine pf_X6_76 rfl (by decide +kernel) hp1 ?_
    obtain ⟨M_7, eM_7, h⟩ := bM_elim h
    refine Fr_mem eM_7 ?_
    refine Fr_aload_n (q := 1) (i := 1) 2 (by decide +kernel) rfl rfl ?_
    refine Fr_aload_n (q := 0) (i := 0) 1 (by decide +kernel) rfl rfl ?_
    refine gf_X6_19 rfl (by decide +kernel) ob_83 ?_
    refine Fr_iconst (i := 1) (v := 1) (by decide +kernel) (by decide) ?_
    obtain ⟨hi_8, h⟩ := ck_elim h
    refine Fr_iald (by decide +kernel) ob_86 (vp_of ln_86 hi_8) ?_
    refine pf_X6_125 rfl (by decide +kernel) hp1 ?_
    obtain ⟨M_9, eM_9, h⟩ := bM_elim h
    refine Fr_mem eM_9 ?_
    refine Fr_aload_n (q := 0) (i := 0) 1 (by decide +kernel) rfl rfl ?_
    refine gf_X6_22 rfl (by decide +kernel) ob_83 ?_
    obtain ⟨r_12, M_10, hc_11, h⟩ := bi_elim h
    refine Fr_cVb (ν := m_X8_takeSemicolon) (As := []) (st := []) (rc := 82) (ci := 8) (d' := 1) (by decide +kernel) ml_X6_128 cv_X8_takeSemicolon rfl (by decide) rfl ob_82 rfl (by decide) (Nat.le_of_ble_eq_true rfl) (t_X8_takeSemicolon hc_11) ?_
    obtain rfl := Option.some.inj h
    exact Fr_zret (by decide +kernel) rfl (nz_b r_12) ⟨rfl, rfl⟩
  · have h := iT hc h
    refine Fr_iconst (i := 0) (v := 0) (by decide +kernel) (by decide) ?_
    obtain rfl := Option.some.inj h
    exact Fr_zret (by decide +kernel) rfl (by decide) ⟨rfl, rfl⟩
set_option maxRecDepth 20000 in
theorem t_X6_readSize_b74 {N : Nat} {p1 : Nat} (hp1 : Ob 0 111 p1 5) {q : Bool × Mem} {M : Mem} (h : f_X6_readSize_b74 N p1 M = some q) : Fr 0 111 9 m_X6_readSize 74 [(0, .ref 83), (1, .ref p1)] [] M (QB q) := by
  unfold f_X6_readSize_b74 at h
  refine Fr_iconst (i := 0) (v := 0) (by decide +kernel) (by decide) ?_
  exact t_X6_readSize_b75 hp1 h
set_option maxRecDepth 20000 in
theorem t_X6_readSize {N : Nat} {p1 : Nat} (hp1 : Ob 0 111 p1 5) {M : Mem} {q : Bool × Mem} (h : f_X6_readSize N p1 M = some q) : Ev 0 111 9 m_X6_readSize [.ref 83, .ref p1] M (QB q) := by
  refine Ev_of_Fr (by decide +kernel) (Nat.le_of_ble_eq_true rfl) ?_
  show Fr 0 111 9 m_X6_readSize 0 [(0, .ref 83), (1, .ref p1)] [] M (QB q)
  unfold f_X6_readSize at h
  refine Fr_aload_n (q := 1) (i := 1) 1 (by decide +kernel) rfl rfl ?_
  refine gf_X6_76 rfl (by decide +kernel) hp1 ?_
  refine Fr_if_eq (off := 12) 16 (by decide +kernel) (by decide) (fun hc => ?_) (fun hc => ?_)
  · have h := iT hc h
    refine Fr_aload_n (q := 0) (i := 0) 0 (by decide +kernel) rfl rfl ?_
    refine gf_X6_22 rfl (by decide +kernel) ob_83 ?_
    obtain ⟨M_1, hc_2, h⟩ := bv_elim h
    refine Fr_cVv (ν := m_X8_advance) (As := []) (st := []) (rc := 82) (ci := 8) (d' := 0) (by decide +kernel) ml_X6_113 cv_X8_advance rfl (by decide) rfl ob_82 rfl (by decide) (Nat.le_of_ble_eq_true rfl) (t_X8_advance hc_2) ?_
    refine Fr_aload_n (q := 0) (i := 0) 0 (by decide +kernel) rfl rfl ?_
    refine gf_X6_22 rfl (by decide +kernel) ob_83 ?_
    refine Fr_aload_n (q := 0) (i := 0) 0 (by decide +kernel) rfl rfl ?_
    refine gf_X6_19 rfl (by decide +kernel) ob_83 ?_
    refine Fr_iconst (i := 0) (v := 0) (by decide +kernel) (by decide) ?_
    refine Fr_iconst (i := 1) (v := 1) (by decide +kernel) (by decide) ?_
    refine Fr_bipush (i := 6) (v := 6) (by decide +kernel) (by decide) ?_
    obtain ⟨r_5, M_3, hc_4, h⟩ := bi_elim h
    refine Fr_cVb (ν := m_X8_takeNumber) (As := [.ref 86, .int 0, .int 1, .int 6]) (st := []) (rc := 82) (ci := 8) (d' := 1) (by decide +kernel) ml_X6_116 cv_X8_takeNumber rfl (by decide) rfl ob_82 rfl (by decide) (Nat.le_of_ble_eq_true rfl) (t_X8_takeNumber ob_86 hc_4) ?_
    refine Fr_if_eq (off := 36) 74 (by decide +kernel) (by decide) (fun hc => ?_) (fun hc => ?_)
    · have h := iT hc h
      exact t_X6_readSize_b74 hp1 h
    · have h := iF hc h
      refine Fr_aload_n (q := 0) (i := 0) 0 (by decide +kernel) rfl rfl ?_
      refine gf_X6_22 rfl (by decide +kernel) ob_83 ?_
      refine Fr_ldcS (idx := 120) 1 (by decide +kernel) (by decide) rfl rfl ?_
      obtain ⟨r_15, M_13, hc_14, h⟩ := bi_elim h
      refine Fr_cVb (ν := m_X8_takeWord) (As := [.ref (400 + 1)]) (st := []) (rc := 82) (ci := 8) (d' := 8) (by decide +kernel) ml_X6_122 cv_X8_takeWord rfl (by decide) rfl ob_82 rfl (by decide) (Nat.le_of_ble_eq_true rfl) (t_X8_takeWord (by decide) hc_14) ?_
      refine Fr_if_eq (off := 24) 74 (by decide +kernel) (by decide) (fun hc => ?_) (fun hc => ?_)
      · have h := iT hc h
        exact t_X6_readSize_b74 hp1 h
      · have h := iF hc h
        refine Fr_aload_n (q := 0) (i := 0) 0 (by decide +kernel) rfl rfl ?_
        refine gf_X6_22 rfl (by decide +kernel) ob_83 ?_
        refine Fr_aload_n (q := 0) (i := 0) 0 (by decide +kernel) rfl rfl ?_
        refine gf_X6_19 rfl (by decide +kernel) ob_83 ?_
        refine Fr_iconst (i := 1) (v := 1) (by decide +kernel) (by decide) ?_
        refine Fr_iconst (i := 1) (v := 1) (by decide +kernel) (by decide) ?_
        refine Fr_iconst (i := 5) (v := 5) (by decide +kernel) (by decide) ?_
        obtain ⟨r_18, M_16, hc_17, h⟩ := bi_elim h
        refine Fr_cVb (ν := m_X8_takeNumber) (As := [.ref 86, .int 1, .int 1, .int 5]) (st := []) (rc := 82) (ci := 8) (d' := 1) (by decide +kernel) ml_X6_116 cv_X8_takeNumber rfl (by decide) rfl ob_82 rfl (by decide) (Nat.le_of_ble_eq_true rfl) (t_X8_takeNumber ob_86 hc_17) ?_
        refine Fr_if_eq (off := 7) 74 (by decide +kernel) (by decide) (fun hc => ?_) (fun hc => ?_)
        · have h := iT hc h
          exact t_X6_readSize_b74 hp1 h
        · have h := iF hc h
          refine Fr_iconst (i := 1) (v := 1) (by decide +kernel) (by decide) ?_
          refine Fr_goto (off := 4) 75 (by decide +kernel) (by decide) ?_
          exact t_X6_readSize_b75 hp1 h
  · have h := iF hc h
    refine Fr_aload_n (q := 0) (i := 0) 0 (by decide +kernel) rfl rfl ?_
    refine gf_X6_22 rfl (by decide +kernel) ob_83 ?_
    refine Fr_iconst (i := 5) (v := 5) (by decide +kernel) (by decide) ?_
    obtain ⟨r_21, M_19, hc_20, h⟩ := bi_elim h
    refine Fr_cVb (ν := m_X8_refuse) (As := [.int 5]) (st := []) (rc := 82) (ci := 8) (d' := 0) (by decide +kernel) ml_X6_79 cv_X8_refuse rfl (by decide) rfl ob_82 rfl (by decide) (Nat.le_of_ble_eq_true rfl) (t_X8_refuse hc_20) ?_
    obtain rfl := Option.some.inj h
    exact Fr_zret (by decide +kernel) rfl (nz_b r_21) ⟨rfl, rfl⟩
