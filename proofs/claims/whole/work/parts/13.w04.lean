set_option maxRecDepth 20000 in
theorem t_X1_onlyGate_h2 {N : Nat} {q : Int32 × Mem} {k2 : Int32 × Int32 → Mem → Option (Int32 × Mem)} (hk2 : ∀ (a : Int32 × Int32) (M : Mem), k2 a M = some q → Fr 0 111 3 m_X1_onlyGate 2 [(0, .ref 103), (1, .int a.1), (2, .int a.2)] [] M (QI q)) {v1 : Int32} {v2 : Int32} {M : Mem} (h : f_X1_onlyGate_h2 N k2 v1 v2 M = some q) : Fr 0 111 3 m_X1_onlyGate 2 [(0, .ref 103), (1, .int v1), (2, .int v2)] [] M (QI q) := by
  unfold f_X1_onlyGate_h2 at h
  refine Fr_iload_n (q := 2) (i := 2) 2 (by decide +kernel) rfl rfl ?_
  refine Fr_aload_n (q := 0) (i := 0) 0 (by decide +kernel) rfl rfl ?_
  refine gf_X1_21 rfl (by decide +kernel) ob_103 ?_
  refine Fr_icmp_ge (off := 31) 38 (by decide +kernel) (by decide) (fun hc => ?_) (fun hc => ?_)
  · have h := iT hc h
    refine Fr_iconst (i := (-1)) (v := (-1)) (by decide +kernel) (by decide) ?_
    obtain rfl := Option.some.inj h
    exact Fr_iret (by decide +kernel) rfl ⟨rfl, rfl⟩
  · have h := iF hc h
    refine Fr_aload_n (q := 0) (i := 0) 0 (by decide +kernel) rfl rfl ?_
    refine gf_X1_44 rfl (by decide +kernel) ob_103 ?_
    refine Fr_if_le (off := 24) 38 (by decide +kernel) (by decide) (fun hc => ?_) (fun hc => ?_)
    · have h := iT hc h
      refine Fr_iconst (i := (-1)) (v := (-1)) (by decide +kernel) (by decide) ?_
      obtain rfl := Option.some.inj h
      exact Fr_iret (by decide +kernel) rfl ⟨rfl, rfl⟩
    · have h := iF hc h
      refine Fr_aload_n (q := 0) (i := 0) 0 (by decide +kernel) rfl rfl ?_
      refine Fr_iload_n (q := 1) (i := 1) 1 (by decide +kernel) rfl rfl ?_
      refine Fr_iload_n (q := 2) (i := 2) 2 (by decide +kernel) rfl rfl ?_
      obtain ⟨r_3, M_1, hc_2, h⟩ := bi_elim h
      refine Fr_cVi (ν := m_X1_waysWith) (As := [.int v1, .int v2]) (st := []) (rc := 103) (ci := 1) (d' := 2) (by decide +kernel) ml_X1_53 cv_X1_waysWith rfl (by decide) rfl ob_103 rfl (by decide) (Nat.le_of_ble_eq_true rfl) (t_X1_waysWith hc_2) ?_
      refine Fr_aload_n (q := 0) (i := 0) 0 (by decide +kernel) rfl rfl ?_
      refine gf_X1_44 rfl (by decide +kernel) ob_103 ?_
      refine Fr_icmp_ne (off := 5) 32 (by decide +kernel) (by decide) (fun hc => ?_) (fun hc => ?_)
      · have h := iF hc h
        refine Fr_iinc (i := 2) (j := 1) (v := (v2 + 1)) (lv' := [(2, .int (v2 + 1)), (0, .ref 103), (1, .int v1)]) 2 (by decide +kernel) rfl rfl (by decide) rfl ?_
        refine Fr_goto (off := (-33)) 2 (by decide +kernel) (by decide) ?_
        refine Fr_loc [1, 2, 0] rfl ?_
        exact hk2 (v1, (v2 + 1)) M_1 h
      · have h := iT hc h
        refine Fr_iload_n (q := 2) (i := 2) 2 (by decide +kernel) rfl rfl ?_
        obtain rfl := Option.some.inj h
        exact Fr_iret (by decide +kernel) rfl ⟨rfl, rfl⟩
set_option maxRecDepth 20000 in
theorem t_X1_onlyGate {N : Nat} {x1 : Int32} {M : Mem} {q : Int32 × Mem} (h : f_X1_onlyGate N x1 M = some q) : Ev 0 111 3 m_X1_onlyGate [.ref 103, .int x1] M (QI q) := by
  refine Ev_of_Fr (by decide +kernel) (Nat.le_of_ble_eq_true rfl) ?_
  show Fr 0 111 3 m_X1_onlyGate 0 [(0, .ref 103), (1, .int x1)] [] M (QI q)
  unfold f_X1_onlyGate at h
  refine Fr_iconst (i := 0) (v := 0) (by decide +kernel) (by decide) ?_
  refine Fr_istore_n (q := 2) (i := 2) (lv' := [(2, .int 0), (0, .ref 103), (1, .int x1)]) (by decide +kernel) rfl (by decide) rfl ?_
  refine Fr_loc [1, 2, 0] rfl ?_
  exact lp_sound (body := fun k a m => f_X1_onlyGate_h2 N k a.1 a.2 m) (P := fun a M => Fr 0 111 3 m_X1_onlyGate 2 [(0, .ref 103), (1, .int a.1), (2, .int a.2)] [] M (QI q)) (fun k hk a m h => t_X1_onlyGate_h2 hk h) N (x1, 0) M h
set_option maxRecDepth 20000 in
theorem t_X1_bestTry_b81 {N : Nat} {q : Int32 × Mem} {k21 : Int32 × Int32 × Int32 → Mem → Option (Int32 × Mem)} (hk21 : ∀ (a : Int32 × Int32 × Int32) (M : Mem), k21 a M = some q → Fr 0 111 3 m_X1_bestTry 21 [(0, .ref 103), (1, .int a.1), (2, .int a.2.1), (3, .int a.2.2)] [] M (QI q)) {k32 : Int32 × Int32 × Int32 × Int32 → Mem → Option (Int32 × Mem)} (hk32 : ∀ (a : Int32 × Int32 × Int32 × Int32) (M : Mem), k32 a M = some q → Fr 0 111 3 m_X1_bestTry 32 [(0, .ref 103), (1, .int a.1), (2, .int a.2.1), (3, .int a.2.2.1), (4, .int a.2.2.2)] [] M (QI q)) {v1 : Int32} {v2 : Int32} {v3 : Int32} {v4 : Int32} {M : Mem} (h : f_X1_bestTry_b81 N k21 k32 v1 v2 v3 v4 M = some q) : Fr 0 111 3 m_X1_bestTry 81 [(0, .ref 103), (1, .int v1), (2, .int v2), (3, .int v3), (4, .int v4)] [] M (QI q) := by
  unfold f_X1_bestTry_b81 at h
  refine Fr_iinc (i := 4) (j := 1) (v := (v4 + 1)) (lv' := [(4, .int (v4 + 1)), (0, .ref 103), (1, .int v1), (2, .int v2), (3, .int v3)]) 4 (by decide +kernel) rfl rfl (by decide) rfl ?_
  refine Fr_goto (off := (-52)) 32 (by decide +kernel) (by decide) ?_
  refine Fr_loc [1, 2, 3, 4, 0] rfl ?_
  exact hk32 (v1, v2, v3, (v4 + 1)) M h
set_option maxRecDepth 20000 in
theorem t_X1_bestTry_h32 {N : Nat} {q : Int32 × Mem} {k21 : Int32 × Int32 × Int32 → Mem → Option (Int32 × Mem)} (hk21 : ∀ (a : Int32 × Int32 × Int32) (M : Mem), k21 a M = some q → Fr 0 111 3 m_X1_bestTry 21 [(0, .ref 103), (1, .int a.1), (2, .int a.2.1), (3, .int a.2.2)] [] M (QI q)) {k32 : Int32 × Int32 × Int32 × Int32 → Mem → Option (Int32 × Mem)} (hk32 : ∀ (a : Int32 × Int32 × Int32 × Int32) (M : Mem), k32 a M = some q → Fr 0 111 3 m_X1_bestTry 32 [(0, .ref 103), (1, .int a.1), (2, .int a.2.1), (3, .int a.2.2.1), (4, .int a.2.2.2)] [] M (QI q)) {v1 : Int32} {v2 : Int32} {v3 : Int32} {v4 : Int32} {M : Mem} (h : f_X1_bestTry_h32 N k21 k32 v1 v2 v3 v4 M = some q) : Fr 0 111 3 m_X1_bestTry 32 [(0, .ref 103), (1, .int v1), (2, .int v2), (3, .int v3), (4, .int v4)] [] M (QI q) := by
  unfold f_X1_bestTry_h32 at h
  refine Fr_iload (i := 4) 4 (by decide +kernel) rfl ?_
  refine Fr_aload_n (q := 0) (i := 0) 0 (by decide +kernel) rfl rfl ?_
  refine gf_X1_21 rfl (by decide +kernel) ob_103 ?_
  refine Fr_icmp_ge (off := 49) 87 (by decide +kernel) (by decide) (fun hc => ?_) (fun hc => ?_)
  · have h := iT hc h
    refine Fr_iinc (i := 3) (j := 1) (v := (v3 + 1)) (lv' := [(3, .int (v3 + 1)), (0, .ref 103), (1, .int v1), (2, .int v2), (4, .int v4)]) 3 (by decide +kernel) rfl rfl (by decide) rfl ?_
    refine Fr_goto (off := (-69)) 21 (by decide +kernel) (by decide) ?_
    refine Fr_loc [1, 2, 3, 0] rfl ?_
    exact hk21 (v1, v2, (v3 + 1)) M h
  · have h := iF hc h
    refine Fr_aload_n (q := 0) (i := 0) 0 (by decide +kernel) rfl rfl ?_
    refine Fr_iload_n (q := 3) (i := 3) 3 (by decide +kernel) rfl rfl ?_
    refine Fr_iload (i := 4) 4 (by decide +kernel) rfl ?_
    obtain ⟨r_3, M_1, hc_2, h⟩ := bi_elim h
    refine Fr_cVi (ν := m_X1_waysWith) (As := [.int v3, .int v4]) (st := []) (rc := 103) (ci := 1) (d' := 2) (by decide +kernel) ml_X1_53 cv_X1_waysWith rfl (by decide) rfl ob_103 rfl (by decide) (Nat.le_of_ble_eq_true rfl) (t_X1_waysWith hc_2) ?_
    refine Fr_istore (i := 5) (lv' := [(5, .int r_3), (0, .ref 103), (1, .int v1), (2, .int v2), (3, .int v3), (4, .int v4)]) (by decide +kernel) (by decide) rfl ?_
    refine Fr_iload (i := 5) 0 (by decide +kernel) rfl ?_
    refine Fr_aload_n (q := 0) (i := 0) 1 (by decide +kernel) rfl rfl ?_
    refine gf_X1_44 rfl (by decide +kernel) ob_103 ?_
    refine Fr_iload (i := 5) 0 (by decide +kernel) rfl ?_
    refine Fr_isub (by decide +kernel) ?_
    refine Fr_max (by decide +kernel) ml_X1_57 (by decide) (Nat.le_of_ble_eq_true rfl) ?_
    obtain ⟨y_4, ey_4, h⟩ := bI_elim h
    refine Fr_topI ey_4 ?_
    refine Fr_istore (i := 6) (lv' := [(6, .int y_4), (5, .int r_3), (0, .ref 103), (1, .int v1), (2, .int v2), (3, .int v3), (4, .int v4)]) (by decide +kernel) (by decide) rfl ?_
    refine Fr_iload (i := 6) 0 (by decide +kernel) rfl ?_
    refine Fr_iload_n (q := 2) (i := 2) 4 (by decide +kernel) rfl rfl ?_
    refine Fr_icmp_ge (off := 14) 81 (by decide +kernel) (by decide) (fun hc => ?_) (fun hc => ?_)
    · have h := iT hc h
      refine Fr_loc [2, 3, 4, 5, 6] rfl ?_
      exact t_X1_bestTry_b81 hk21 hk32 h
    · have h := iF hc h
      refine Fr_iload (i := 6) 0 (by decide +kernel) rfl ?_
      refine Fr_istore_n (q := 2) (i := 2) (lv' := [(2, .int y_4), (6, .int y_4), (5, .int r_3), (0, .ref 103), (1, .int v1), (3, .int v3), (4, .int v4)]) (by decide +kernel) rfl (by decide) rfl ?_
      refine Fr_iload_n (q := 3) (i := 3) 5 (by decide +kernel) rfl rfl ?_
      refine Fr_bipush (i := 10) (v := 10) (by decide +kernel) (by decide) ?_
      refine Fr_imul (by decide +kernel) ?_
      refine Fr_iload (i := 4) 6 (by decide +kernel) rfl ?_
      refine Fr_iadd (by decide +kernel) ?_
      refine Fr_istore_n (q := 1) (i := 1) (lv' := [(1, .int ((v3 * 10) + v4)), (2, .int y_4), (6, .int y_4), (5, .int r_3), (0, .ref 103), (3, .int v3), (4, .int v4)]) (by decide +kernel) rfl (by decide) rfl ?_
      refine Fr_loc [4, 0, 1, 5, 6] rfl ?_
      exact t_X1_bestTry_b81 hk21 hk32 h
set_option maxRecDepth 20000 in
theorem t_X1_bestTry_h21 {N : Nat} {q : Int32 × Mem} {k21 : Int32 × Int32 × Int32 → Mem → Option (Int32 × Mem)} (hk21 : ∀ (a : Int32 × Int32 × Int32) (M : Mem), k21 a M = some q → Fr 0 111 3 m_X1_bestTry 21 [(0, .ref 103), (1, .int a.1), (2, .int a.2.1), (3, .int a.2.2)] [] M (QI q)) {v1 : Int32} {v2 : Int32} {v3 : Int32} {M : Mem} (h : f_X1_bestTry_h21 N k21 v1 v2 v3 M = some q) : Fr 0 111 3 m_X1_bestTry 21 [(0, .ref 103), (1, .int v1), (2, .int v2), (3, .int v3)] [] M (QI q) := by
  unfold f_X1_bestTry_h21 at h
  refine Fr_iload_n (q := 3) (i := 3) 3 (by decide +kernel) rfl rfl ?_
  refine Fr_aload_n (q := 0) (i := 0) 0 (by decide +kernel) rfl rfl ?_
  refine gf_X1_21 rfl (by decide +kernel) ob_103 ?_
  refine Fr_icmp_ge (off := 67) 93 (by decide +kernel) (by decide) (fun hc => ?_) (fun hc => ?_)
  · have h := iT hc h
    refine Fr_iload_n (q := 1) (i := 1) 1 (by decide +kernel) rfl rfl ?_
    obtain rfl := Option.some.inj h
    exact Fr_iret (by decide +kernel) rfl ⟨rfl, rfl⟩
  · have h := iF hc h
    refine Fr_iconst (i := 0) (v := 0) (by decide +kernel) (by decide) ?_
    refine Fr_istore (i := 4) (lv' := [(4, .int 0), (0, .ref 103), (1, .int v1), (2, .int v2), (3, .int v3)]) (by decide +kernel) (by decide) rfl ?_
    refine Fr_loc [1, 2, 3, 4, 0] rfl ?_
    exact lp_sound (body := fun k a m => f_X1_bestTry_h32 N k21 k a.1 a.2.1 a.2.2.1 a.2.2.2 m) (P := fun a M => Fr 0 111 3 m_X1_bestTry 32 [(0, .ref 103), (1, .int a.1), (2, .int a.2.1), (3, .int a.2.2.1), (4, .int a.2.2.2)] [] M (QI q)) (fun k hk a m h => t_X1_bestTry_h32 hk21 hk h) N (v1, v2, v3, 0) M h
set_option maxRecDepth 20000 in
theorem t_X1_bestTry {N : Nat} {M : Mem} {q : Int32 × Mem} (h : f_X1_bestTry N M = some q) : Ev 0 111 3 m_X1_bestTry [.ref 103] M (QI q) := by
  refine Ev_of_Fr (by decide +kernel) (Nat.le_of_ble_eq_true rfl) ?_
  show Fr 0 111 3 m_X1_bestTry 0 [(0, .ref 103)] [] M (QI q)
  unfold f_X1_bestTry at h
  refine Fr_aload_n (q := 0) (i := 0) 0 (by decide +kernel) rfl rfl ?_
  refine gf_X1_44 rfl (by decide +kernel) ob_103 ?_
  refine Fr_iconst (i := 2) (v := 2) (by decide +kernel) (by decide) ?_
  refine Fr_icmp_ge (off := 5) 10 (by decide +kernel) (by decide) (fun hc => ?_) (fun hc => ?_)
  · have h := iT hc h
    refine Fr_iconst (i := (-1)) (v := (-1)) (by decide +kernel) (by decide) ?_
    refine Fr_istore_n (q := 1) (i := 1) (lv' := [(1, .int (-1)), (0, .ref 103)]) (by decide +kernel) rfl (by decide) rfl ?_
    refine Fr_aload_n (q := 0) (i := 0) 1 (by decide +kernel) rfl rfl ?_
    refine gf_X1_44 rfl (by decide +kernel) ob_103 ?_
    refine Fr_iconst (i := 1) (v := 1) (by decide +kernel) (by decide) ?_
    refine Fr_iadd (by decide +kernel) ?_
    refine Fr_istore_n (q := 2) (i := 2) (lv' := [(2, .int ((M.1 103 1) + 1)), (1, .int (-1)), (0, .ref 103)]) (by decide +kernel) rfl (by decide) rfl ?_
    refine Fr_iconst (i := 0) (v := 0) (by decide +kernel) (by decide) ?_
    refine Fr_istore_n (q := 3) (i := 3) (lv' := [(3, .int 0), (2, .int ((M.1 103 1) + 1)), (1, .int (-1)), (0, .ref 103)]) (by decide +kernel) rfl (by decide) rfl ?_
    refine Fr_loc [3, 2, 1, 0] rfl ?_
    exact lp_sound (body := fun k a m => f_X1_bestTry_h21 N k a.1 a.2.1 a.2.2 m) (P := fun a M => Fr 0 111 3 m_X1_bestTry 21 [(0, .ref 103), (1, .int a.1), (2, .int a.2.1), (3, .int a.2.2)] [] M (QI q)) (fun k hk a m h => t_X1_bestTry_h21 hk h) N ((-1), ((M.1 103 1) + 1), 0) M h
  · have h := iF hc h
    refine Fr_iconst (i := (-1)) (v := (-1)) (by decide +kernel) (by decide) ?_
    obtain rfl := Option.some.inj h
    exact Fr_iret (by decide +kernel) rfl ⟨rfl, rfl⟩
set_option maxRecDepth 20000 in
theorem t_X2_factOf {p0 : Nat} {x1 : Int32} (hp0 : Ob 0 111 p0 2) {M : Mem} {q : Int32 × Mem} (h : f_X2_factOf p0 x1 M = some q) : Ev 0 111 0 m_X2_factOf [.ref p0, .int x1] M (QI q) := by
  refine Ev_of_Fr (by decide +kernel) (Nat.le_of_ble_eq_true rfl) ?_
  show Fr 0 111 0 m_X2_factOf 0 [(0, .ref p0), (1, .int x1)] [] M (QI q)
  unfold f_X2_factOf at h
  refine Fr_iload_n (q := 1) (i := 1) 1 (by decide +kernel) rfl rfl ?_
  by_cases hs_1 : x1 = 0
  · have h := iT hs_1 h
    refine Fr_tabIn (dflt := 51) (lo := 0) (hi := 3) (offs := #[31, 36, 41, 46]) (len := 31) (off := 31) 32 (by decide +kernel) (by rw [hs_1]; decide) (by rw [hs_1]; decide) (by rw [hs_1]; rfl) (by decide) ?_
    refine Fr_aload_n (q := 0) (i := 0) 0 (by decide +kernel) rfl rfl ?_
    refine gf_X2_21 rfl (by decide +kernel) hp0 ?_
    obtain rfl := Option.some.inj h
    exact Fr_iret (by decide +kernel) rfl ⟨rfl, rfl⟩
  have h := iF hs_1 h
  by_cases hs_2 : x1 = 1
  · have h := iT hs_2 h
    refine Fr_tabIn (dflt := 51) (lo := 0) (hi := 3) (offs := #[31, 36, 41, 46]) (len := 31) (off := 36) 37 (by decide +kernel) (by rw [hs_2]; decide) (by rw [hs_2]; decide) (by rw [hs_2]; rfl) (by decide) ?_
    refine Fr_aload_n (q := 0) (i := 0) 0 (by decide +kernel) rfl rfl ?_
    refine gf_X2_25 rfl (by decide +kernel) hp0 ?_
    obtain rfl := Option.some.inj h
    exact Fr_iret (by decide +kernel) rfl ⟨rfl, rfl⟩
  have h := iF hs_2 h
  by_cases hs_3 : x1 = 2
  · have h := iT hs_3 h
    refine Fr_tabIn (dflt := 51) (lo := 0) (hi := 3) (offs := #[31, 36, 41, 46]) (len := 31) (off := 41) 42 (by decide +kernel) (by rw [hs_3]; decide) (by rw [hs_3]; decide) (by rw [hs_3]; rfl) (by decide) ?_
    refine Fr_aload_n (q := 0) (i := 0) 0 (by decide +kernel) rfl rfl ?_
    refine gf_X2_28 rfl (by decide +kernel) hp0 ?_
    obtain rfl := Option.some.inj h
    exact Fr_iret (by decide +kernel) rfl ⟨rfl, rfl⟩
  have h := iF hs_3 h
  by_cases hs_4 : x1 = 3
  · have h := iT hs_4 h
    refine Fr_tabIn (dflt := 51) (lo := 0) (hi := 3) (offs := #[31, 36, 41, 46]) (len := 31) (off := 46) 47 (by decide +kernel) (by rw [hs_4]; decide) (by rw [hs_4]; decide) (by rw [hs_4]; rfl) (by decide) ?_
    refine Fr_aload_n (q := 0) (i := 0) 0 (by decide +kernel) rfl rfl ?_
    refine gf_X2_31 rfl (by decide +kernel) hp0 ?_
    obtain rfl := Option.some.inj h
    exact Fr_iret (by decide +kernel) rfl ⟨rfl, rfl⟩
  have h := iF hs_4 h
  have hhs_1 := lv_neT (a := 0) hs_1 (by decide)
  have hhs_2 := lv_neT (a := 1) hs_2 (by decide)
  have hhs_3 := lv_neT (a := 2) hs_3 (by decide)
  have hhs_4 := lv_neT (a := 3) hs_4 (by decide)
  refine Fr_tabOut (dflt := 51) (lo := 0) (hi := 3) (offs := #[31, 36, 41, 46]) (len := 31) 52 (by decide +kernel) (by first | omega | (simp only [tn] at *; omega)) (by decide) ?_
  refine Fr_aload_n (q := 0) (i := 0) 0 (by decide +kernel) rfl rfl ?_
  refine gf_X2_34 rfl (by decide +kernel) hp0 ?_
  refine Fr_if_eq (off := 7) 63 (by decide +kernel) (by decide) (fun hc => ?_) (fun hc => ?_)
  · have h := iT hc h
    refine Fr_iconst (i := 0) (v := 0) (by decide +kernel) (by decide) ?_
    obtain rfl := Option.some.inj h
    exact Fr_iret (by decide +kernel) rfl ⟨rfl, rfl⟩
  · have h := iF hc h
    refine Fr_iconst (i := 1) (v := 1) (by decide +kernel) (by decide) ?_
    refine Fr_goto (off := 4) 64 (by decide +kernel) (by decide) ?_
    obtain rfl := Option.some.inj h
    exact Fr_iret (by decide +kernel) rfl ⟨rfl, rfl⟩
set_option maxRecDepth 20000 in
theorem t_X2_behindEnd {p0 : Nat} {p1 : Nat} {x2 : Int32} (hp0 : Ob 0 111 p0 2) (hp1 : Ob 0 111 p1 3) {M : Mem} {q : Int32 × Mem} (h : f_X2_behindEnd p0 p1 x2 M = some q) : Ev 0 111 0 m_X2_behindEnd [.ref p0, .ref p1, .int x2] M (QI q) := by
  refine Ev_of_Fr (by decide +kernel) (Nat.le_of_ble_eq_true rfl) ?_
  show Fr 0 111 0 m_X2_behindEnd 0 [(0, .ref p0), (1, .ref p1), (2, .int x2)] [] M (QI q)
  unfold f_X2_behindEnd at h
  refine Fr_aload_n (q := 1) (i := 1) 1 (by decide +kernel) rfl rfl ?_
  refine gf_X2_68 rfl (by decide +kernel) hp1 ?_
  refine Fr_iload_n (q := 2) (i := 2) 2 (by decide +kernel) rfl rfl ?_
  obtain ⟨hi_1, h⟩ := ck_elim h
  refine Fr_iald (by decide +kernel) (o3_5 hp1) (vp_of (n3_5 hp1) hi_1) ?_
  refine Fr_istore_n (q := 3) (i := 3) (lv' := [(3, .int (M.1 (p1 + 5) (tn x2))), (0, .ref p0), (1, .ref p1), (2, .int x2)]) (by decide +kernel) rfl (by decide) rfl ?_
  refine Fr_aload_n (q := 1) (i := 1) 2 (by decide +kernel) rfl rfl ?_
  refine gf_X2_57 rfl (by decide +kernel) hp1 ?_
  refine Fr_iload_n (q := 3) (i := 3) 0 (by decide +kernel) rfl rfl ?_
  obtain ⟨hi_2, h⟩ := ck_elim h
  refine Fr_iald (by decide +kernel) (o3_1 hp1) (vp_of (n3_1 hp1) hi_2) ?_
  refine Fr_bipush (i := 7) (v := 7) (by decide +kernel) (by decide) ?_
  refine Fr_icmp_eq (off := 7) 22 (by decide +kernel) (by decide) (fun hc => ?_) (fun hc => ?_)
  · have h := iT hc h
    refine Fr_aload_n (q := 0) (i := 0) 1 (by decide +kernel) rfl rfl ?_
    refine gf_X2_11 rfl (by decide +kernel) hp0 ?_
    refine Fr_iload_n (q := 3) (i := 3) 0 (by decide +kernel) rfl rfl ?_
    refine Fr_dup2 (by decide +kernel) rfl rfl ?_
    obtain ⟨hi_3, h⟩ := ck_elim h
    refine Fr_iald (by decide +kernel) (o2_1 hp0) (vp_of (n2_1 hp0) hi_3) ?_
    refine Fr_iconst (i := 1) (v := 1) (by decide +kernel) (by decide) ?_
    refine Fr_isub (by decide +kernel) ?_
    obtain ⟨hi_4, h⟩ := ck_elim h
    refine Fr_iast (by decide +kernel) (o2_1 hp0) (vp_of (n2_1 hp0) hi_4) ?_
    obtain ⟨M_5, eM_5, h⟩ := bM_elim h
    refine Fr_mem eM_5 ?_
    refine Fr_aload_n (q := 0) (i := 0) 1 (by decide +kernel) rfl rfl ?_
    refine gf_X2_11 rfl (by decide +kernel) hp0 ?_
    refine Fr_iload_n (q := 3) (i := 3) 0 (by decide +kernel) rfl rfl ?_
    obtain ⟨hi_6, h⟩ := ck_elim h
    refine Fr_iald (by decide +kernel) (o2_1 hp0) (vp_of (n2_1 hp0) hi_6) ?_
    refine Fr_if_le (off := 9) 47 (by decide +kernel) (by decide) (fun hc => ?_) (fun hc => ?_)
    · have h := iT hc h
      refine Fr_iload_n (q := 2) (i := 2) 3 (by decide +kernel) rfl rfl ?_
      refine Fr_iconst (i := 1) (v := 1) (by decide +kernel) (by decide) ?_
      refine Fr_iadd (by decide +kernel) ?_
      obtain rfl := Option.some.inj h
      exact Fr_iret (by decide +kernel) rfl ⟨rfl, rfl⟩
    · have h := iF hc h
      refine Fr_iload_n (q := 3) (i := 3) 0 (by decide +kernel) rfl rfl ?_
      refine Fr_iconst (i := 1) (v := 1) (by decide +kernel) (by decide) ?_
      refine Fr_iadd (by decide +kernel) ?_
      refine Fr_goto (off := 6) 50 (by decide +kernel) (by decide) ?_
      obtain rfl := Option.some.inj h
      exact Fr_iret (by decide +kernel) rfl ⟨rfl, rfl⟩
  · have h := iF hc h
    refine Fr_iload_n (q := 2) (i := 2) 3 (by decide +kernel) rfl rfl ?_
    refine Fr_iconst (i := 1) (v := 1) (by decide +kernel) (by decide) ?_
    refine Fr_iadd (by decide +kernel) ?_
    obtain rfl := Option.some.inj h
    exact Fr_iret (by decide +kernel) rfl ⟨rfl, rfl⟩
set_option maxRecDepth 20000 in
theorem t_X10_isAsAhead_h2 {N : Nat} {p1 : Nat} (hp1 : Ob 0 111 p1 20) {q : Bool × Mem} {k2 : Int32 → Mem → Option (Bool × Mem)} (hk2 : ∀ (a : Int32) (M : Mem), k2 a M = some q → Fr 0 111 0 m_X10_isAsAhead 2 [(0, .ref 90), (1, .ref p1), (2, .int a)] [] M (QB q)) {v2 : Int32} {M : Mem} (h : f_X10_isAsAhead_h2 N p1 k2 v2 M = some q) : Fr 0 111 0 m_X10_isAsAhead 2 [(0, .ref 90), (1, .ref p1), (2, .int v2)] [] M (QB q) := by
  unfold f_X10_isAsAhead_h2 at h
  refine Fr_iload_n (q := 2) (i := 2) 2 (by decide +kernel) rfl rfl ?_
  refine Fr_bipush (i := 60) (v := 60) (by decide +kernel) (by decide) ?_
  refine Fr_icmp_ge (off := 23) 28 (by decide +kernel) (by decide) (fun hc => ?_) (fun hc => ?_)
  · have h := iT hc h
    refine Fr_iconst (i := 1) (v := 1) (by decide +kernel) (by decide) ?_
    obtain rfl := Option.some.inj h
    exact Fr_zret (by decide +kernel) rfl (by decide) ⟨rfl, rfl⟩
  · have h := iF hc h
    refine Fr_aload_n (q := 1) (i := 1) 1 (by decide +kernel) rfl rfl ?_
    refine Fr_iload_n (q := 2) (i := 2) 2 (by decide +kernel) rfl rfl ?_
    obtain ⟨hi_1, h⟩ := ck_elim h
    refine Fr_iald (by decide +kernel) hp1 (vp_of rfl hi_1) ?_
    refine Fr_aload_n (q := 0) (i := 0) 0 (by decide +kernel) rfl rfl ?_
    refine gf_X10_15 rfl (by decide +kernel) ob_90 ?_
    refine Fr_iload_n (q := 2) (i := 2) 2 (by decide +kernel) rfl rfl ?_
    obtain ⟨hi_2, h⟩ := ck_elim h
    refine Fr_iald (by decide +kernel) ob_92 (vp_of ln_92 hi_2) ?_
    refine Fr_icmp_eq (off := 5) 22 (by decide +kernel) (by decide) (fun hc => ?_) (fun hc => ?_)
    · have h := iT hc h
      refine Fr_iinc (i := 2) (j := 1) (v := (v2 + 1)) (lv' := [(2, .int (v2 + 1)), (0, .ref 90), (1, .ref p1)]) 2 (by decide +kernel) rfl rfl (by decide) rfl ?_
      refine Fr_goto (off := (-23)) 2 (by decide +kernel) (by decide) ?_
      refine Fr_loc [1, 2, 0] rfl ?_
      exact hk2 (v2 + 1) M h
    · have h := iF hc h
      refine Fr_iconst (i := 0) (v := 0) (by decide +kernel) (by decide) ?_
      obtain rfl := Option.some.inj h
      exact Fr_zret (by decide +kernel) rfl (by decide) ⟨rfl, rfl⟩
set_option maxRecDepth 20000 in
theorem t_X10_isAsAhead {N : Nat} {p1 : Nat} (hp1 : Ob 0 111 p1 20) {M : Mem} {q : Bool × Mem} (h : f_X10_isAsAhead N p1 M = some q) : Ev 0 111 0 m_X10_isAsAhead [.ref 90, .ref p1] M (QB q) := by
  refine Ev_of_Fr (by decide +kernel) (Nat.le_of_ble_eq_true rfl) ?_
  show Fr 0 111 0 m_X10_isAsAhead 0 [(0, .ref 90), (1, .ref p1)] [] M (QB q)
  unfold f_X10_isAsAhead at h
  refine Fr_iconst (i := 0) (v := 0) (by decide +kernel) (by decide) ?_
  refine Fr_istore_n (q := 2) (i := 2) (lv' := [(2, .int 0), (0, .ref 90), (1, .ref p1)]) (by decide +kernel) rfl (by decide) rfl ?_
  refine Fr_loc [1, 2, 0] rfl ?_
  exact lp_sound (body := fun k a m => f_X10_isAsAhead_h2 N p1 k a m) (P := fun a M => Fr 0 111 0 m_X10_isAsAhead 2 [(0, .ref 90), (1, .ref p1), (2, .int a)] [] M (QB q)) (fun k hk a m h => t_X10_isAsAhead_h2 hp1 hk h) N 0 M h
set_option maxRecDepth 20000 in
theorem t_X10_passHours_b70 {N : Nat} {p1 : Nat} (hp1 : Ob 0 111 p1 5) {q : Int32 × Mem} {k11 : Int32 × Int32 × Int32 × Int32 × Int32 → Mem → Option (Int32 × Mem)} (hk11 : ∀ (a : Int32 × Int32 × Int32 × Int32 × Int32) (M : Mem), k11 a M = some q → Fr 0 111 3 m_X10_passHours 11 [(0, .ref 90), (1, .ref p1), (2, .int a.1), (3, .int a.2.1), (4, .int a.2.2.1), (5, .int a.2.2.2.1), (6, .int a.2.2.2.2)] [] M (QI q)) {v2 : Int32} {v3 : Int32} {v4 : Int32} {v5 : Int32} {v6 : Int32} {M : Mem} (h : f_X10_passHours_b70 N p1 k11 v2 v3 v4 v5 v6 M = some q) : Fr 0 111 3 m_X10_passHours 70 [(0, .ref 90), (1, .ref p1), (2, .int v2), (3, .int v3), (4, .int v4), (5, .int v5), (6, .int v6)] [] M (QI q) := by
  unfold f_X10_passHours_b70 at h
  refine Fr_iload_n (q := 3) (i := 3) 3 (by decide +kernel) rfl rfl ?_
  refine Fr_iload (i := 4) 4 (by decide +kernel) rfl ?_
  refine Fr_iadd (by decide +kernel) ?_
  refine Fr_istore_n (q := 3) (i := 3) (lv' := [(3, .int (v3 + v4)), (0, .ref 90), (1, .ref p1), (2, .int v2), (4, .int v4), (5, .int v5), (6, .int v6)]) (by decide +kernel) rfl (by decide) rfl ?_
  refine Fr_iinc (i := 6) (j := 1) (v := (v6 + 1)) (lv' := [(6, .int (v6 + 1)), (3, .int (v3 + v4)), (0, .ref 90), (1, .ref p1), (2, .int v2), (4, .int v4), (5, .int v5)]) 6 (by decide +kernel) rfl rfl (by decide) rfl ?_
  refine Fr_goto (off := (-67)) 11 (by decide +kernel) (by decide) ?_
  refine Fr_loc [2, 3, 4, 1, 5, 6, 0] rfl ?_
  exact hk11 (v2, (v3 + v4), v4, v5, (v6 + 1)) M h
set_option maxRecDepth 20000 in
theorem t_X10_passHours_h11 {N : Nat} {p1 : Nat} (hp1 : Ob 0 111 p1 5) {q : Int32 × Mem} {k11 : Int32 × Int32 × Int32 × Int32 × Int32 → Mem → Option (Int32 × Mem)} (hk11 : ∀ (a : Int32 × Int32 × Int32 × Int32 × Int32) (M : Mem), k11 a M = some q → Fr 0 111 3 m_X10_passHours 11 [(0, .ref 90), (1, .ref p1), (2, .int a.1), (3, .int a.2.1), (4, .int a.2.2.1), (5, .int a.2.2.2.1), (6, .int a.2.2.2.2)] [] M (QI q)) {v2 : Int32} {v3 : Int32} {v4 : Int32} {v5 : Int32} {v6 : Int32} {M : Mem} (h : f_X10_passHours_h11 N p1 k11 v2 v3 v4 v5 v6 M = some q) : Fr 0 111 3 m_X10_passHours 11 [(0, .ref 90), (1, .ref p1), (2, .int v2), (3, .int v3), (4, .int v4), (5, .int v5), (6, .int v6)] [] M (QI q) := by
  unfold f_X10_passHours_h11 at h
  refine Fr_iload (i := 6) 6 (by decide +kernel) rfl ?_
  refine Fr_iload_n (q := 2) (i := 2) 2 (by decide +kernel) rfl rfl ?_
  refine Fr_icmp_ge (off := 67) 81 (by decide +kernel) (by decide) (fun hc => ?_) (fun hc => ?_)
  · have h := iT hc h
    refine Fr_aload_n (q := 1) (i := 1) 1 (by decide +kernel) rfl rfl ?_
    refine Fr_dup (by decide +kernel) rfl ?_
    refine gf_X10_45 rfl (by decide +kernel) hp1 ?_
    refine Fr_iload_n (q := 2) (i := 2) 2 (by decide +kernel) rfl rfl ?_
    refine Fr_iadd (by decide +kernel) ?_
    refine pf_X10_45 rfl (by decide +kernel) hp1 ?_
    obtain ⟨M_1, eM_1, h⟩ := bM_elim h
    refine Fr_mem eM_1 ?_
    refine Fr_iload_n (q := 3) (i := 3) 3 (by decide +kernel) rfl rfl ?_
    obtain rfl := Option.some.inj h
    exact Fr_iret (by decide +kernel) rfl ⟨rfl, rfl⟩
  · have h := iF hc h
    refine Fr_iload (i := 5) 5 (by decide +kernel) rfl ?_
    refine Fr_if_ne (off := 51) 70 (by decide +kernel) (by decide) (fun hc => ?_) (fun hc => ?_)
    · have h := iF hc h
      exact t_X10_passHours_b70 hp1 hk11 h
    · have h := iT hc h
      refine Fr_aload_n (q := 1) (i := 1) 1 (by decide +kernel) rfl rfl ?_
      refine gf_X10_18 rfl (by decide +kernel) hp1 ?_
      refine Fr_iconst (i := 0) (v := 0) (by decide +kernel) (by decide) ?_
      refine Fr_aload_n (q := 0) (i := 0) 0 (by decide +kernel) rfl rfl ?_
      refine gf_X10_15 rfl (by decide +kernel) ob_90 ?_
      refine Fr_iconst (i := 0) (v := 0) (by decide +kernel) (by decide) ?_
      refine Fr_bipush (i := 60) (v := 60) (by decide +kernel) (by decide) ?_
      refine Fr_acopyI (by decide +kernel) ml_X10_23 (o5_6 hp1) ob_92 (by decide) (by decide) (by decide) (le_len (n5_6 hp1) (by decide)) (le_len ln_92 (by decide)) (by decide) (Nat.le_of_ble_eq_true rfl) ?_
      obtain ⟨M_2, eM_2, h⟩ := bM_elim h
      refine Fr_mem eM_2 ?_
      refine Fr_aload_n (q := 0) (i := 0) 0 (by decide +kernel) rfl rfl ?_
      refine Fr_aload_n (q := 1) (i := 1) 1 (by decide +kernel) rfl rfl ?_
      refine Fr_aload_n (q := 1) (i := 1) 1 (by decide +kernel) rfl rfl ?_
      refine gf_X10_18 rfl (by decide +kernel) hp1 ?_
      refine Fr_aload_n (q := 1) (i := 1) 1 (by decide +kernel) rfl rfl ?_
      refine gf_X10_29 rfl (by decide +kernel) hp1 ?_
      obtain ⟨M_3, hc_4, h⟩ := bv_elim h
      refine Fr_cVv (ν := m_X10_passHour) (As := [.ref p1, .ref (p1 + 6), .int (M_2.1 p1 6)]) (st := []) (rc := 90) (ci := 10) (d' := 2) (by decide +kernel) ml_X10_33 cv_X10_passHour rfl (by decide) rfl ob_90 rfl (by decide) (Nat.le_of_ble_eq_true rfl) (t_X10_passHour hp1 (o5_6 hp1) hc_4) ?_
      refine Fr_aload_n (q := 1) (i := 1) 1 (by decide +kernel) rfl rfl ?_
      refine Fr_aload_n (q := 1) (i := 1) 1 (by decide +kernel) rfl rfl ?_
      refine gf_X10_18 rfl (by decide +kernel) hp1 ?_
      obtain ⟨r_7, M_5, hc_6, h⟩ := bi_elim h
      refine Fr_cVi (ν := m_X5_countFoggy) (As := [.ref (p1 + 6)]) (st := []) (rc := p1) (ci := 5) (d' := 1) (by decide +kernel) ml_X10_37 cv_X5_countFoggy rfl (by decide) rfl hp1 rfl (by decide) (Nat.le_of_ble_eq_true rfl) (t_X5_countFoggy hp1 (o5_6 hp1) hc_6) ?_
      refine Fr_istore (i := 4) (lv' := [(4, .int r_7), (0, .ref 90), (1, .ref p1), (2, .int v2), (3, .int v3), (5, .int v5), (6, .int v6)]) (by decide +kernel) (by decide) rfl ?_
      refine Fr_aload_n (q := 0) (i := 0) 1 (by decide +kernel) rfl rfl ?_
      refine Fr_aload_n (q := 1) (i := 1) 2 (by decide +kernel) rfl rfl ?_
      refine gf_X10_18 rfl (by decide +kernel) hp1 ?_
      obtain ⟨r_10, M_8, hc_9, h⟩ := bi_elim h
      refine Fr_cVb (ν := m_X10_isAsAhead) (As := [.ref (p1 + 6)]) (st := []) (rc := 90) (ci := 10) (d' := 0) (by decide +kernel) ml_X10_41 cv_X10_isAsAhead rfl (by decide) rfl ob_90 rfl (by decide) (Nat.le_of_ble_eq_true rfl) (t_X10_isAsAhead (o5_6 hp1) hc_9) ?_
      refine Fr_istore (i := 5) (lv' := [(5, .int (b2i r_10)), (4, .int r_7), (0, .ref 90), (1, .ref p1), (2, .int v2), (3, .int v3), (6, .int v6)]) (by decide +kernel) (by decide) rfl ?_
      refine Fr_loc [2, 3, 4, 5, 1, 0, 6] rfl ?_
      exact t_X10_passHours_b70 hp1 hk11 h
set_option maxRecDepth 20000 in
theorem t_X10_passHours {N : Nat} {p1 : Nat} {x2 : Int32} (hp1 : Ob 0 111 p1 5) {M : Mem} {q : Int32 × Mem} (h : f_X10_passHours N p1 x2 M = some q) : Ev 0 111 3 m_X10_passHours [.ref 90, .ref p1, .int x2] M (QI q) := by
  refine Ev_of_Fr (by decide +kernel) (Nat.le_of_ble_eq_true rfl) ?_
  show Fr 0 111 3 m_X10_passHours 0 [(0, .ref 90), (1, .ref p1), (2, .int x2)] [] M (QI q)
  unfold f_X10_passHours at h
  refine Fr_iconst (i := 0) (v := 0) (by decide +kernel) (by decide) ?_
  refine Fr_istore_n (q := 3) (i := 3) (lv' := [(3, .int 0), (0, .ref 90), (1, .ref p1), (2, .int x2)]) (by decide +kernel) rfl (by decide) rfl ?_
  refine Fr_iconst (i := 0) (v := 0) (by decide +kernel) (by decide) ?_
  refine Fr_istore (i := 4) (lv' := [(4, .int 0), (3, .int 0), (0, .ref 90), (1, .ref p1), (2, .int x2)]) (by decide +kernel) (by decide) rfl ?_
  refine Fr_iconst (i := 0) (v := 0) (by decide +kernel) (by decide) ?_
  refine Fr_istore (i := 5) (lv' := [(5, .int 0), (4, .int 0), (3, .int 0), (0, .ref 90), (1, .ref p1), (2, .int x2)]) (by decide +kernel) (by decide) rfl ?_
  refine Fr_iconst (i := 0) (v := 0) (by decide +kernel) (by decide) ?_
  refine Fr_istore (i := 6) (lv' := [(6, .int 0), (5, .int 0), (4, .int 0), (3, .int 0), (0, .ref 90), (1, .ref p1), (2, .int x2)]) (by decide +kernel) (by decide) rfl ?_
  refine Fr_loc [4, 5, 6, 3, 2, 1, 0] rfl ?_
  exact lp_sound (body := fun k a m => f_X10_passHours_h11 N p1 k a.1 a.2.1 a.2.2.1 a.2.2.2.1 a.2.2.2.2 m) (P := fun a M => Fr 0 111 3 m_X10_passHours 11 [(0, .ref 90), (1, .ref p1), (2, .int a.1), (3, .int a.2.1), (4, .int a.2.2.1), (5, .int a.2.2.2.1), (6, .int a.2.2.2.2)] [] M (QI q)) (fun k hk a m h => t_X10_passHours_h11 hp1 hk h) N (x2, 0, 0, 0, 0) M h
set_option maxRecDepth 20000 in
theorem t_X2_letPass {N : Nat} {p0 : Nat} {p1 : Nat} {x2 : Int32} (hp0 : Ob 0 111 p0 2) (hp1 : Ob 0 111 p1 5) {M : Mem} {q : Mem} (h : f_X2_letPass N p0 p1 x2 M = some q) : Ev 0 111 4 m_X2_letPass [.ref p0, .ref p1, .int x2] M (QV q) := by
  refine Ev_of_Fr (by decide +kernel) (Nat.le_of_ble_eq_true rfl) ?_
  show Fr 0 111 4 m_X2_letPass 0 [(0, .ref p0), (1, .ref p1), (2, .int x2)] [] M (QV q)
  unfold f_X2_letPass at h
  refine Fr_aload_n (q := 1) (i := 1) 1 (by decide +kernel) rfl rfl ?_
  refine gf_X2_93 rfl (by decide +kernel) hp1 ?_
  refine Fr_iload_n (q := 2) (i := 2) 2 (by decide +kernel) rfl rfl ?_
  refine Fr_iadd (by decide +kernel) ?_
  refine Fr_sipush (i := 9999) (v := 9999) (by decide +kernel) (by decide) ?_
  refine Fr_icmp_le (off := 14) 23 (by decide +kernel) (by decide) (fun hc => ?_) (fun hc => ?_)
  · have h := iT hc h
    refine Fr_aload_n (q := 0) (i := 0) 0 (by decide +kernel) rfl rfl ?_
    refine Fr_dup (by decide +kernel) rfl ?_
    refine gf_X2_28 rfl (by decide +kernel) hp0 ?_
    refine Fr_aload_n (q := 0) (i := 0) 0 (by decide +kernel) rfl rfl ?_
    refine gf_X2_17 rfl (by decide +kernel) hp0 ?_
    refine Fr_aload_n (q := 1) (i := 1) 1 (by decide +kernel) rfl rfl ?_
    refine Fr_iload_n (q := 2) (i := 2) 2 (by decide +kernel) rfl rfl ?_
    obtain ⟨r_3, M_1, hc_2, h⟩ := bi_elim h
    refine Fr_cVi (ν := m_X10_passHours) (As := [.ref p1, .int x2]) (st := [.int (M.1 p0 7), .ref p0]) (rc := 90) (ci := 10) (d' := 3) (by decide +kernel) ml_X2_96 cv_X10_passHours rfl (by decide) rfl ob_90 rfl (by decide) (Nat.le_of_ble_eq_true rfl) (t_X10_passHours hp1 hc_2) ?_
    refine Fr_iadd (by decide +kernel) ?_
    refine pf_X2_28 rfl (by decide +kernel) hp0 ?_
    obtain ⟨M_4, eM_4, h⟩ := bM_elim h
    refine Fr_mem eM_4 ?_
    refine Fr_aload_n (q := 0) (i := 0) 0 (by decide +kernel) rfl rfl ?_
    refine Fr_dup (by decide +kernel) rfl ?_
    refine gf_X2_25 rfl (by decide +kernel) hp0 ?_
    refine Fr_iload_n (q := 2) (i := 2) 2 (by decide +kernel) rfl rfl ?_
    refine Fr_iadd (by decide +kernel) ?_
    refine pf_X2_25 rfl (by decide +kernel) hp0 ?_
    obtain ⟨M_5, eM_5, h⟩ := bM_elim h
    refine Fr_mem eM_5 ?_
    obtain rfl := Option.some.inj h
    exact Fr_vret (by decide +kernel) rfl ⟨rfl, rfl⟩
  · have h := iF hc h
    refine Fr_aload_n (q := 0) (i := 0) 0 (by decide +kernel) rfl rfl ?_
    refine Fr_dup (by decide +kernel) rfl ?_
    refine gf_X2_21 rfl (by decide +kernel) hp0 ?_
    refine Fr_iconst (i := 1) (v := 1) (by decide +kernel) (by decide) ?_
    refine Fr_iadd (by decide +kernel) ?_
    refine pf_X2_21 rfl (by decide +kernel) hp0 ?_
    obtain ⟨M_6, eM_6, h⟩ := bM_elim h
    refine Fr_mem eM_6 ?_
    obtain rfl := Option.some.inj h
    exact Fr_vret (by decide +kernel) rfl ⟨rfl, rfl⟩
set_option maxRecDepth 20000 in
theorem t_X5_isOpen {p0 : Nat} {x1 : Int32} (hp0 : Ob 0 111 p0 5) {M : Mem} {q : Bool × Mem} (h : f_X5_isOpen p0 x1 M = some q) : Ev 0 111 0 m_X5_isOpen [.ref p0, .int x1] M (QB q) := by
  refine Ev_of_Fr (by decide +kernel) (Nat.le_of_ble_eq_true rfl) ?_
  show Fr 0 111 0 m_X5_isOpen 0 [(0, .ref p0), (1, .int x1)] [] M (QB q)
  unfold f_X5_isOpen at h
  refine Fr_aload_n (q := 0) (i := 0) 0 (by decide +kernel) rfl rfl ?_
  refine gf_X5_57 rfl (by decide +kernel) hp0 ?_
  refine Fr_iload_n (q := 1) (i := 1) 1 (by decide +kernel) rfl rfl ?_
  refine Fr_ishr (by decide +kernel) ?_
  refine Fr_iconst (i := 1) (v := 1) (by decide +kernel) (by decide) ?_
  refine Fr_iand (by decide +kernel) ?_
  refine Fr_iconst (i := 1) (v := 1) (by decide +kernel) (by decide) ?_
  refine Fr_icmp_ne (off := 7) 16 (by decide +kernel) (by decide) (fun hc => ?_) (fun hc => ?_)
  · have h := iF hc h
    refine Fr_iconst (i := 0) (v := 0) (by decide +kernel) (by decide) ?_
    obtain rfl := Option.some.inj h
    exact Fr_zret (by decide +kernel) rfl (by decide) ⟨rfl, rfl⟩
  · have h := iT hc h
    refine Fr_iconst (i := 1) (v := 1) (by decide +kernel) (by decide) ?_
    refine Fr_goto (off := 4) 17 (by decide +kernel) (by decide) ?_
    obtain rfl := Option.some.inj h
    exact Fr_zret (by decide +kernel) rfl (by decide) ⟨rfl, rfl⟩
set_option maxRecDepth 20000 in
theorem t_X5_setOpen {p0 : Nat} {x1 : Int32} {x2 : Int32} (hp0 : Ob 0 111 p0 5) {M : Mem} {q : Mem} (h : f_X5_setOpen p0 x1 x2 M = some q) : Ev 0 111 0 m_X5_setOpen [.ref p0, .int x1, .int x2] M (QV q) := by
  refine Ev_of_Fr (by decide +kernel) (Nat.le_of_ble_eq_true rfl) ?_
  show Fr 0 111 0 m_X5_setOpen 0 [(0, .ref p0), (1, .int x1), (2, .int x2)] [] M (QV q)
  unfold f_X5_setOpen at h
  refine Fr_aload_n (q := 0) (i := 0) 0 (by decide +kernel) rfl rfl ?_
  refine Fr_iload_n (q := 2) (i := 2) 2 (by decide +kernel) rfl rfl ?_
  refine Fr_if_eq (off := 14) 16 (by decide +kernel) (by decide) (fun hc => ?_) (fun hc => ?_)
  · have h := iT hc h
    refine Fr_aload_n (q := 0) (i := 0) 0 (by decide +kernel) rfl rfl ?_
    refine gf_X5_57 rfl (by decide +kernel) hp0 ?_
    refine Fr_iconst (i := 1) (v := 1) (by decide +kernel) (by decide) ?_
    refine Fr_iload_n (q := 1) (i := 1) 1 (by decide +kernel) rfl rfl ?_
    refine Fr_ishl (by decide +kernel) ?_
    refine Fr_iconst (i := (-1)) (v := (-1)) (by decide +kernel) (by decide) ?_
    refine Fr_ixor (by decide +kernel) ?_
    refine Fr_iand (by decide +kernel) ?_
    refine pf_X5_57 rfl (by decide +kernel) hp0 ?_
    obtain ⟨M_1, eM_1, h⟩ := bM_elim h
    refine Fr_mem eM_1 ?_
    obtain rfl := Option.some.inj h
    exact Fr_vret (by decide +kernel) rfl ⟨rfl, rfl⟩
  · have h := iF hc h
    refine Fr_aload_n (q := 0) (i := 0) 0 (by decide +kernel) rfl rfl ?_
    refine gf_X5_57 rfl (by decide +kernel) hp0 ?_
    refine Fr_iconst (i := 1) (v := 1) (by decide +kernel) (by decide) ?_
    refine Fr_iload_n (q := 1) (i := 1) 1 (by decide +kernel) rfl rfl ?_
    refine Fr_ishl (by decide +kernel) ?_
    refine Fr_ior (by decide +kernel) ?_
    refine Fr_goto (off := 13) 26 (by decide +kernel) (by decide) ?_
    refine pf_X5_57 rfl (by decide +kernel) hp0 ?_
    obtain ⟨M_2, eM_2, h⟩ := bM_elim h
    refine Fr_mem eM_2 ?_
    obtain rfl := Option.some.inj h
    exact Fr_vret (by decide +kernel) rfl ⟨rfl, rfl⟩
set_option maxRecDepth 20000 in
theorem t_X2_turnGate {p0 : Nat} {p1 : Nat} {x2 : Int32} {x3 : Int32} (hp0 : Ob 0 111 p0 2) (hp1 : Ob 0 111 p1 5) {M : Mem} {q : Mem} (h : f_X2_turnGate p0 p1 x2 x3 M = some q) : Ev 0 111 1 m_X2_turnGate [.ref p0, .ref p1, .int x2, .int x3] M (QV q) := by
  refine Ev_of_Fr (by decide +kernel) (Nat.le_of_ble_eq_true rfl) ?_
  show Fr 0 111 1 m_X2_turnGate 0 [(0, .ref p0), (1, .ref p1), (2, .int x2), (3, .int x3)] [] M (QV q)
  unfold f_X2_turnGate at h
  refine Fr_aload_n (q := 1) (i := 1) 1 (by decide +kernel) rfl rfl ?_
  refine Fr_iload_n (q := 2) (i := 2) 2 (by decide +kernel) rfl rfl ?_
  obtain ⟨r_3, M_1, hc_2, h⟩ := bi_elim h
  refine Fr_cVb (ν := m_X5_isOpen) (As := [.int x2]) (st := []) (rc := p1) (ci := 5) (d' := 0) (by decide +kernel) ml_X2_101 cv_X5_isOpen rfl (by decide) rfl hp1 rfl (by decide) (Nat.le_of_ble_eq_true rfl) (t_X5_isOpen hp1 hc_2) ?_
  refine Fr_iload_n (q := 3) (i := 3) 3 (by decide +kernel) rfl rfl ?_
  refine Fr_icmp_ne (off := 16) 22 (by decide +kernel) (by decide) (fun hc => ?_) (fun hc => ?_)
  · have h := iF hc h
    refine Fr_aload_n (q := 1) (i := 1) 1 (by decide +kernel) rfl rfl ?_
    refine Fr_iload_n (q := 2) (i := 2) 2 (by decide +kernel) rfl rfl ?_
    refine Fr_iload_n (q := 3) (i := 3) 3 (by decide +kernel) rfl rfl ?_
    obtain ⟨M_4, hc_5, h⟩ := bv_elim h
    refine Fr_cVv (ν := m_X5_setOpen) (As := [.int x2, .int x3]) (st := []) (rc := p1) (ci := 5) (d' := 0) (by decide +kernel) ml_X2_105 cv_X5_setOpen rfl (by decide) rfl hp1 rfl (by decide) (Nat.le_of_ble_eq_true rfl) (t_X5_setOpen hp1 hc_5) ?_
    obtain rfl := Option.some.inj h
    exact Fr_vret (by decide +kernel) rfl ⟨rfl, rfl⟩
  · have h := iT hc h
    refine Fr_aload_n (q := 0) (i := 0) 0 (by decide +kernel) rfl rfl ?_
    refine Fr_dup (by decide +kernel) rfl ?_
    refine gf_X2_21 rfl (by decide +kernel) hp0 ?_
    refine Fr_iconst (i := 1) (v := 1) (by decide +kernel) (by decide) ?_
    refine Fr_iadd (by decide +kernel) ?_
    refine pf_X2_21 rfl (by decide +kernel) hp0 ?_
    obtain ⟨M_6, eM_6, h⟩ := bM_elim h
    refine Fr_mem eM_6 ?_
    refine Fr_goto (off := 9) 28 (by decide +kernel) (by decide) ?_
    obtain rfl := Option.some.inj h
    exact Fr_vret (by decide +kernel) rfl ⟨rfl, rfl⟩
set_option maxRecDepth 20000 in
theorem t_X2_turnWind {p0 : Nat} {p1 : Nat} {x2 : Int32} (hp0 : Ob 0 111 p0 2) (hp1 : Ob 0 111 p1 5) {M : Mem} {q : Mem} (h : f_X2_turnWind p0 p1 x2 M = some q) : Ev 0 111 0 m_X2_turnWind [.ref p0, .ref p1, .int x2] M (QV q) := by
  refine Ev_of_Fr (by decide +kernel) (Nat.le_of_ble_eq_true rfl) ?_
  show Fr 0 111 0 m_X2_turnWind 0 [(0, .ref p0), (1, .ref p1), (2, .int x2)] [] M (QV q)
  unfold f_X2_turnWind at h
  refine Fr_aload_n (q := 1) (i := 1) 1 (by decide +kernel) rfl rfl ?_
  refine gf_X2_109 rfl (by decide +kernel) hp1 ?_
  refine Fr_iload_n (q := 2) (i := 2) 2 (by decide +kernel) rfl rfl ?_
  refine Fr_icmp_ne (off := 16) 21 (by decide +kernel) (by decide) (fun hc => ?_) (fun hc => ?_)
  · have h := iF hc h
    refine Fr_aload_n (q := 1) (i := 1) 1 (by decide +kernel) rfl rfl ?_
    refine Fr_iload_n (q := 2) (i := 2) 2 (by decide +kernel) rfl rfl ?_
    refine pf_X2_109 rfl (by decide +kernel) hp1 ?_
    obtain ⟨M_1, eM_1, h⟩ := bM_elim h
    refine Fr_mem eM_1 ?_
    obtain rfl := Option.some.inj h
    exact Fr_vret (by decide +kernel) rfl ⟨rfl, rfl⟩
  · have h := iT hc h
    refine Fr_aload_n (q := 0) (i := 0) 0 (by decide +kernel) rfl rfl ?_
    refine Fr_dup (by decide +kernel) rfl ?_
    refine gf_X2_21 rfl (by decide +kernel) hp0 ?_
    refine Fr_iconst (i := 1) (v := 1) (by decide +kernel) (by decide) ?_
    refine Fr_iadd (by decide +kernel) ?_
    refine pf_X2_21 rfl (by decide +kernel) hp0 ?_
    obtain ⟨M_2, eM_2, h⟩ := bM_elim h
    refine Fr_mem eM_2 ?_
    refine Fr_goto (off := 8) 26 (by decide +kernel) (by decide) ?_
    obtain rfl := Option.some.inj h
    exact Fr_vret (by decide +kernel) rfl ⟨rfl, rfl⟩
set_option maxRecDepth 20000 in
theorem t_X2_draw {p0 : Nat} {x1 : Int32} (hp0 : Ob 0 111 p0 2) {M : Mem} {q : Int32 × Mem} (h : f_X2_draw p0 x1 M = some q) : Ev 0 111 0 m_X2_draw [.ref p0, .int x1] M (QI q) := by
  refine Ev_of_Fr (by decide +kernel) (Nat.le_of_ble_eq_true rfl) ?_
  show Fr 0 111 0 m_X2_draw 0 [(0, .ref p0), (1, .int x1)] [] M (QI q)
  unfold f_X2_draw at h
  refine Fr_aload_n (q := 0) (i := 0) 0 (by decide +kernel) rfl rfl ?_
  refine Fr_aload_n (q := 0) (i := 0) 0 (by decide +kernel) rfl rfl ?_
  refine gf_X2_38 rfl (by decide +kernel) hp0 ?_
  refine Fr_sipush (i := 2971) (v := 2971) (by decide +kernel) (by decide) ?_
  refine Fr_imul (by decide +kernel) ?_
  refine Fr_sipush (i := 10667) (v := 10667) (by decide +kernel) (by decide) ?_
  refine Fr_iadd (by decide +kernel) ?_
  refine Fr_ldc (idx := 119) (v := 65536) (by decide +kernel) lc_X2_119 ?_
  refine Fr_irem (by decide +kernel) (by decide) ?_
  refine pf_X2_38 rfl (by decide +kernel) hp0 ?_
  obtain ⟨M_1, eM_1, h⟩ := bM_elim h
  refine Fr_mem eM_1 ?_
  refine Fr_iload_n (q := 1) (i := 1) 1 (by decide +kernel) rfl rfl ?_
  refine Fr_if_le (off := 15) 35 (by decide +kernel) (by decide) (fun hc => ?_) (fun hc => ?_)
  · have h := iT hc h
    refine Fr_iconst (i := 0) (v := 0) (by decide +kernel) (by decide) ?_
    obtain rfl := Option.some.inj h
    exact Fr_iret (by decide +kernel) rfl ⟨rfl, rfl⟩
  · have h := iF hc h
    refine Fr_aload_n (q := 0) (i := 0) 0 (by decide +kernel) rfl rfl ?_
    refine gf_X2_38 rfl (by decide +kernel) hp0 ?_
    refine Fr_bipush (i := 8) (v := 8) (by decide +kernel) (by decide) ?_
    refine Fr_idiv (by decide +kernel) (by decide) ?_
    refine Fr_iload_n (q := 1) (i := 1) 1 (by decide +kernel) rfl rfl ?_
    obtain ⟨hz_2, h⟩ := cz_elim h
    refine Fr_irem (by decide +kernel) hz_2 ?_
    refine Fr_goto (off := 4) 36 (by decide +kernel) (by decide) ?_
    obtain rfl := Option.some.inj h
    exact Fr_iret (by decide +kernel) rfl ⟨rfl, rfl⟩
set_option maxRecDepth 20000 in
theorem t_X2_rage_b45 {N : Nat} {p0 : Nat} {p1 : Nat} (hp0 : Ob 0 111 p0 2) (hp1 : Ob 0 111 p1 5) {q : Mem} {k21 : Int32 → Mem → Option (Mem)} (hk21 : ∀ (a : Int32) (M : Mem), k21 a M = some q → Fr 0 111 1 m_X2_rage 21 [(0, .ref p0), (1, .ref p1), (2, .int a)] [] M (QV q)) {v2 : Int32} {s0 : Int32} {s1 : Int32} {M : Mem} (h : f_X2_rage_b45 N p0 p1 k21 v2 s0 s1 M = some q) : Fr 0 111 1 m_X2_rage 45 [(0, .ref p0), (1, .ref p1), (2, .int v2)] [.int s0, .int s1, .ref p1] M (QV q) := by
  unfold f_X2_rage_b45 at h
  obtain ⟨M_9, hc_10, h⟩ := bv_elim h
  refine Fr_cVv (ν := m_X5_setOpen) (As := [.int s1, .int s0]) (st := []) (rc := p1) (ci := 5) (d' := 0) (by decide +kernel) ml_X2_105 cv_X5_setOpen rfl (by decide) rfl hp1 rfl (by decide) (Nat.le_of_ble_eq_true rfl) (t_X5_setOpen hp1 hc_10) ?_
  refine Fr_iinc (i := 2) (j := 1) (v := (v2 + 1)) (lv' := [(2, .int (v2 + 1)), (0, .ref p0), (1, .ref p1)]) 2 (by decide +kernel) rfl rfl (by decide) rfl ?_
  refine Fr_goto (off := (-30)) 21 (by decide +kernel) (by decide) ?_
  refine Fr_loc [1, 2, 0] rfl ?_
  exact hk21 (v2 + 1) M_9 h
set_option maxRecDepth 20000 in
theorem t_X2_rage_h21 {N : Nat} {p0 : Nat} {p1 : Nat} (hp0 : Ob 0 111 p0 2) (hp1 : Ob 0 111 p1 5) {q : Mem} {k21 : Int32 → Mem → Option (Mem)} (hk21 : ∀ (a : Int32) (M : Mem), k21 a M = some q → Fr 0 111 1 m_X2_rage 21 [(0, .ref p0), (1, .ref p1), (2, .int a)] [] M (QV q)) {v2 : Int32} {M : Mem} (h : f_X2_rage_h21 N p0 p1 k21 v2 M = some q) : Fr 0 111 1 m_X2_rage 21 [(0, .ref p0), (1, .ref p1), (2, .int v2)] [] M (QV q) := by
  unfold f_X2_rage_h21 at h
  refine Fr_iload_n (q := 2) (i := 2) 2 (by decide +kernel) rfl rfl ?_
  refine Fr_aload_n (q := 1) (i := 1) 1 (by decide +kernel) rfl rfl ?_
  refine gf_X2_116 rfl (by decide +kernel) hp1 ?_
  refine Fr_icmp_ge (off := 28) 54 (by decide +kernel) (by decide) (fun hc => ?_) (fun hc => ?_)
  · have h := iT hc h
    obtain rfl := Option.some.inj h
    exact Fr_vret (by decide +kernel) rfl ⟨rfl, rfl⟩
  · have h := iF hc h
    refine Fr_aload_n (q := 1) (i := 1) 1 (by decide +kernel) rfl rfl ?_
    refine Fr_iload_n (q := 2) (i := 2) 2 (by decide +kernel) rfl rfl ?_
    refine Fr_aload_n (q := 0) (i := 0) 0 (by decide +kernel) rfl rfl ?_
    refine Fr_iconst (i := 2) (v := 2) (by decide +kernel) (by decide) ?_
    obtain ⟨r_8, M_6, hc_7, h⟩ := bi_elim h
    refine Fr_cVi (ν := m_X2_draw) (As := [.int 2]) (st := [.int v2, .ref p1]) (rc := p0) (ci := 2) (d' := 0) (by decide +kernel) ml_X2_112 cv_X2_draw rfl (by decide) rfl hp0 rfl (by decide) (Nat.le_of_ble_eq_true rfl) (t_X2_draw hp0 hc_7) ?_
    refine Fr_iconst (i := 1) (v := 1) (by decide +kernel) (by decide) ?_
    refine Fr_icmp_ne (off := 7) 44 (by decide +kernel) (by decide) (fun hc => ?_) (fun hc => ?_)
    · have h := iF hc h
      refine Fr_iconst (i := 0) (v := 0) (by decide +kernel) (by decide) ?_
      exact t_X2_rage_b45 hp0 hp1 hk21 h
    · have h := iT hc h
      refine Fr_iconst (i := 1) (v := 1) (by decide +kernel) (by decide) ?_
      refine Fr_goto (off := 4) 45 (by decide +kernel) (by decide) ?_
      exact t_X2_rage_b45 hp0 hp1 hk21 h
set_option maxRecDepth 20000 in
theorem t_X2_rage {N : Nat} {p0 : Nat} {p1 : Nat} (hp0 : Ob 0 111 p0 2) (hp1 : Ob 0 111 p1 5) {M : Mem} {q : Mem} (h : f_X2_rage N p0 p1 M = some q) : Ev 0 111 1 m_X2_rage [.ref p0, .ref p1] M (QV q) := by
  refine Ev_of_Fr (by decide +kernel) (Nat.le_of_ble_eq_true rfl) ?_
  show Fr 0 111 1 m_X2_rage 0 [(0, .ref p0), (1, .ref p1)] [] M (QV q)
  unfold f_X2_rage at h
  refine Fr_aload_n (q := 0) (i := 0) 0 (by decide +kernel) rfl rfl ?_
  refine Fr_dup (by decide +kernel) rfl ?_
  refine gf_X2_31 rfl (by decide +kernel) hp0 ?_
  refine Fr_iconst (i := 1) (v := 1) (by decide +kernel) (by decide) ?_
  refine Fr_iadd (by decide +kernel) ?_
  refine pf_X2_31 rfl (by decide +kernel) hp0 ?_
  obtain ⟨M_1, eM_1, h⟩ := bM_elim h
  refine Fr_mem eM_1 ?_
  refine Fr_aload_n (q := 1) (i := 1) 1 (by decide +kernel) rfl rfl ?_
  refine Fr_aload_n (q := 0) (i := 0) 0 (by decide +kernel) rfl rfl ?_
  refine Fr_iconst (i := 5) (v := 5) (by decide +kernel) (by decide) ?_
  obtain ⟨r_4, M_2, hc_3, h⟩ := bi_elim h
  refine Fr_cVi (ν := m_X2_draw) (As := [.int 5]) (st := [.ref p1]) (rc := p0) (ci := 2) (d' := 0) (by decide +kernel) ml_X2_112 cv_X2_draw rfl (by decide) rfl hp0 rfl (by decide) (Nat.le_of_ble_eq_true rfl) (t_X2_draw hp0 hc_3) ?_
  refine pf_X2_109 rfl (by decide +kernel) hp1 ?_
  obtain ⟨M_5, eM_5, h⟩ := bM_elim h
  refine Fr_mem eM_5 ?_
  refine Fr_iconst (i := 0) (v := 0) (by decide +kernel) (by decide) ?_
  refine Fr_istore_n (q := 2) (i := 2) (lv' := [(2, .int 0), (0, .ref p0), (1, .ref p1)]) (by decide +kernel) rfl (by decide) rfl ?_
  refine Fr_loc [1, 2, 0] rfl ?_
  exact lp_sound (body := fun k a m => f_X2_rage_h21 N p0 p1 k a m) (P := fun a M => Fr 0 111 1 m_X2_rage 21 [(0, .ref p0), (1, .ref p1), (2, .int a)] [] M (QV q)) (fun k hk a m h => t_X2_rage_h21 hp0 hp1 hk h) N 0 M_5 h
set_option maxRecDepth 20000 in
theorem t_X2_holds {p0 : Nat} {p1 : Nat} {x2 : Int32} (hp0 : Ob 0 111 p0 2) (hp1 : Ob 0 111 p1 5) {M : Mem} {q : Bool × Mem} (h : f_X2_holds p0 p1 x2 M = some q) : Ev 0 111 2 m_X2_holds [.ref p0, .ref p1, .int x2] M (QB q) := by
  refine Ev_of_Fr (by decide +kernel) (Nat.le_of_ble_eq_true rfl) ?_
  show Fr 0 111 2 m_X2_holds 0 [(0, .ref p0), (1, .ref p1), (2, .int x2)] [] M (QB q)
  unfold f_X2_holds at h
  refine Fr_aload_n (q := 1) (i := 1) 1 (by decide +kernel) rfl rfl ?_
  refine gf_X2_47 rfl (by decide +kernel) hp1 ?_
  refine Fr_astore_n (q := 3) (i := 3) (lv' := [(3, .ref (p1 + 7)), (0, .ref p0), (1, .ref p1), (2, .int x2)]) (by decide +kernel) rfl (by decide) rfl ?_
  refine Fr_aload_n (q := 3) (i := 3) 0 (by decide +kernel) rfl rfl ?_
  refine gf_X2_71 rfl (by decide +kernel) (o5_7 hp1) ?_
  refine Fr_iload_n (q := 2) (i := 2) 3 (by decide +kernel) rfl rfl ?_
  obtain ⟨hi_1, h⟩ := ck_elim h
  refine Fr_iald (by decide +kernel) (o3_2 (o5_7 hp1)) (vp_of (n3_2 (o5_7 hp1)) hi_1) ?_
  obtain ⟨y_2, ey_2, h⟩ := bI_elim h
  refine Fr_topI ey_2 ?_
  refine Fr_istore (i := 4) (lv' := [(4, .int y_2), (3, .ref (p1 + 7)), (0, .ref p0), (1, .ref p1), (2, .int x2)]) (by decide +kernel) (by decide) rfl ?_
  refine Fr_aload_n (q := 3) (i := 3) 1 (by decide +kernel) rfl rfl ?_
  refine gf_X2_57 rfl (by decide +kernel) (o5_7 hp1) ?_
  refine Fr_iload_n (q := 2) (i := 2) 4 (by decide +kernel) rfl rfl ?_
  obtain ⟨hi_3, h⟩ := ck_elim h
  refine Fr_iald (by decide +kernel) (o3_1 (o5_7 hp1)) (vp_of (n3_1 (o5_7 hp1)) hi_3) ?_
  refine Fr_bipush (i := 8) (v := 8) (by decide +kernel) (by decide) ?_
  refine Fr_icmp_ne (off := 14) 35 (by decide +kernel) (by decide) (fun hc => ?_) (fun hc => ?_)
  · have h := iF hc h
    refine Fr_aload_n (q := 3) (i := 3) 1 (by decide +kernel) rfl rfl ?_
    refine gf_X2_57 rfl (by decide +kernel) (o5_7 hp1) ?_
    refine Fr_iload_n (q := 2) (i := 2) 4 (by decide +kernel) rfl rfl ?_
    obtain ⟨hi_4, h⟩ := ck_elim h
    refine Fr_iald (by decide +kernel) (o3_1 (o5_7 hp1)) (vp_of (n3_1 (o5_7 hp1)) hi_4) ?_
    refine Fr_bipush (i := 9) (v := 9) (by decide +kernel) (by decide) ?_
    refine Fr_icmp_ne (off := 10) 53 (by decide +kernel) (by decide) (fun hc => ?_) (fun hc => ?_)
    · have h := iF hc h
      refine Fr_aload_n (q := 1) (i := 1) 3 (by decide +kernel) rfl rfl ?_
      refine gf_X2_120 rfl (by decide +kernel) hp1 ?_
      refine Fr_iload (i := 4) 0 (by decide +kernel) rfl ?_
      obtain ⟨r_7, M_5, hc_6, h⟩ := bi_elim h
      refine Fr_cSi (ν := m_X5_bothKinds) (As := [.ref (p1 + 6), .int y_2]) (st := []) (d' := 0) (by decide +kernel) ml_X2_127 cs_X5_bothKinds rfl (by decide) (Nat.le_of_ble_eq_true rfl) (t_X5_bothKinds (o5_6 hp1) hc_6) ?_
      refine Fr_istore (i := 5) (lv' := [(5, .int r_7), (4, .int y_2), (3, .ref (p1 + 7)), (0, .ref p0), (1, .ref p1), (2, .int x2)]) (by decide +kernel) (by decide) rfl ?_
      refine Fr_aload_n (q := 3) (i := 3) 2 (by decide +kernel) rfl rfl ?_
      refine gf_X2_131 rfl (by decide +kernel) (o5_7 hp1) ?_
      refine Fr_iload_n (q := 2) (i := 2) 5 (by decide +kernel) rfl rfl ?_
      obtain ⟨hi_8, h⟩ := ck_elim h
      refine Fr_iald (by decide +kernel) (o3_3 (o5_7 hp1)) (vp_of (n3_3 (o5_7 hp1)) hi_8) ?_
      refine Fr_bipush (i := 60) (v := 60) (by decide +kernel) (by decide) ?_
      refine Fr_icmp_ne (off := 20) 92 (by decide +kernel) (by decide) (fun hc => ?_) (fun hc => ?_)
      · have h := iF hc h
        refine Fr_aload_n (q := 3) (i := 3) 2 (by decide +kernel) rfl rfl ?_
        refine gf_X2_131 rfl (by decide +kernel) (o5_7 hp1) ?_
        refine Fr_iload_n (q := 2) (i := 2) 5 (by decide +kernel) rfl rfl ?_
        obtain ⟨hi_9, h⟩ := ck_elim h
        refine Fr_iald (by decide +kernel) (o3_3 (o5_7 hp1)) (vp_of (n3_3 (o5_7 hp1)) hi_9) ?_
        refine Fr_bipush (i := 62) (v := 62) (by decide +kernel) (by decide) ?_
        refine Fr_icmp_ne (off := 22) 122 (by decide +kernel) (by decide) (fun hc => ?_) (fun hc => ?_)
        · have h := iF hc h
          refine Fr_iload (i := 5) 0 (by decide +kernel) rfl ?_
          refine Fr_aload_n (q := 3) (i := 3) 2 (by decide +kernel) rfl rfl ?_
          refine gf_X2_134 rfl (by decide +kernel) (o5_7 hp1) ?_
          refine Fr_iload_n (q := 2) (i := 2) 5 (by decide +kernel) rfl rfl ?_
          obtain ⟨hi_10, h⟩ := ck_elim h
          refine Fr_iald (by decide +kernel) (o3_4 (o5_7 hp1)) (vp_of (n3_4 (o5_7 hp1)) hi_10) ?_
          refine Fr_icmp_ne (off := 7) 137 (by decide +kernel) (by decide) (fun hc => ?_) (fun hc => ?_)
          · have h := iF hc h
            refine Fr_iconst (i := 0) (v := 0) (by decide +kernel) (by decide) ?_
            obtain rfl := Option.some.inj h
            exact Fr_zret (by decide +kernel) rfl (by decide) ⟨rfl, rfl⟩
          · have h := iT hc h
            refine Fr_iconst (i := 1) (v := 1) (by decide +kernel) (by decide) ?_
            refine Fr_goto (off := 4) 138 (by decide +kernel) (by decide) ?_
            obtain rfl := Option.some.inj h
            exact Fr_zret (by decide +kernel) rfl (by decide) ⟨rfl, rfl⟩
        · have h := iT hc h
          refine Fr_iload (i := 5) 0 (by decide +kernel) rfl ?_
          refine Fr_aload_n (q := 3) (i := 3) 2 (by decide +kernel) rfl rfl ?_
          refine gf_X2_134 rfl (by decide +kernel) (o5_7 hp1) ?_
          refine Fr_iload_n (q := 2) (i := 2) 5 (by decide +kernel) rfl rfl ?_
          obtain ⟨hi_11, h⟩ := ck_elim h
          refine Fr_iald (by decide +kernel) (o3_4 (o5_7 hp1)) (vp_of (n3_4 (o5_7 hp1)) hi_11) ?_
          refine Fr_icmp_le (off := 7) 118 (by decide +kernel) (by decide) (fun hc => ?_) (fun hc => ?_)
          · have h := iT hc h
            refine Fr_iconst (i := 0) (v := 0) (by decide +kernel) (by decide) ?_
            refine Fr_goto (off := 19) 138 (by decide +kernel) (by decide) ?_
            obtain rfl := Option.some.inj h
            exact Fr_zret (by decide +kernel) rfl (by decide) ⟨rfl, rfl⟩
          · have h := iF hc h
            refine Fr_iconst (i := 1) (v := 1) (by decide +kernel) (by decide) ?_
            refine Fr_goto (off := 23) 138 (by decide +kernel) (by decide) ?_
            obtain rfl := Option.some.inj h
            exact Fr_zret (by decide +kernel) rfl (by decide) ⟨rfl, rfl⟩
      · have h := iT hc h
        refine Fr_iload (i := 5) 0 (by decide +kernel) rfl ?_
        refine Fr_aload_n (q := 3) (i := 3) 2 (by decide +kernel) rfl rfl ?_
        refine gf_X2_134 rfl (by decide +kernel) (o5_7 hp1) ?_
        refine Fr_iload_n (q := 2) (i := 2) 5 (by decide +kernel) rfl rfl ?_
        obtain ⟨hi_12, h⟩ := ck_elim h
        refine Fr_iald (by decide +kernel) (o3_4 (o5_7 hp1)) (vp_of (n3_4 (o5_7 hp1)) hi_12) ?_
        refine Fr_icmp_ge (off := 7) 90 (by decide +kernel) (by decide) (fun hc => ?_) (fun hc => ?_)
        · have h := iT hc h
          refine Fr_iconst (i := 0) (v := 0) (by decide +kernel) (by decide) ?_
          obtain rfl := Option.some.inj h
          exact Fr_zret (by decide +kernel) rfl (by decide) ⟨rfl, rfl⟩
        · have h := iF hc h
          refine Fr_iconst (i := 1) (v := 1) (by decide +kernel) (by decide) ?_
          refine Fr_goto (off := 4) 91 (by decide +kernel) (by decide) ?_
          obtain rfl := Option.some.inj h
          exact Fr_zret (by decide +kernel) rfl (by decide) ⟨rfl, rfl⟩
    · have h := iT hc h
      refine Fr_aload_n (q := 1) (i := 1) 3 (by decide +kernel) rfl rfl ?_
      refine Fr_iload (i := 4) 0 (by decide +kernel) rfl ?_
      obtain ⟨r_15, M_13, hc_14, h⟩ := bi_elim h
      refine Fr_cVb (ν := m_X5_isOpen) (As := [.int y_2]) (st := []) (rc := p1) (ci := 5) (d' := 0) (by decide +kernel) ml_X2_101 cv_X5_isOpen rfl (by decide) rfl hp1 rfl (by decide) (Nat.le_of_ble_eq_true rfl) (t_X5_isOpen hp1 hc_14) ?_
      obtain rfl := Option.some.inj h
      exact Fr_zret (by decide +kernel) rfl (nz_b r_15) ⟨rfl, rfl⟩
  · have h := iT hc h
    refine Fr_aload_n (q := 1) (i := 1) 3 (by decide +kernel) rfl rfl ?_
    refine Fr_aload_n (q := 1) (i := 1) 3 (by decide +kernel) rfl rfl ?_
    refine gf_X2_120 rfl (by decide +kernel) hp1 ?_
    refine Fr_iload (i := 4) 0 (by decide +kernel) rfl ?_
    obtain ⟨r_18, M_16, hc_17, h⟩ := bi_elim h
    refine Fr_cVb (ν := m_X5_isFoggy) (As := [.ref (p1 + 6), .int y_2]) (st := []) (rc := p1) (ci := 5) (d' := 1) (by decide +kernel) ml_X2_123 cv_X5_isFoggy rfl (by decide) rfl hp1 rfl (by decide) (Nat.le_of_ble_eq_true rfl) (t_X5_isFoggy hp1 (o5_6 hp1) hc_17) ?_
    obtain rfl := Option.some.inj h
    exact Fr_zret (by decide +kernel) rfl (nz_b r_18) ⟨rfl, rfl⟩
