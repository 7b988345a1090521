set_option maxRecDepth 20000 in
theorem t_X11_idle {N : Nat} {x1 : Int32} {M : Mem} {q : Int32 × Mem} (h : f_X11_idle N x1 M = some q) : Ev 0 111 4 m_X11_idle [.ref 0, .int x1] M (QI q) := by
  refine Ev_of_Fr (by decide +kernel) (Nat.le_of_ble_eq_true rfl) ?_
  show Fr 0 111 4 m_X11_idle 0 [(0, .ref 0), (1, .int x1)] [] M (QI q)
  unfold f_X11_idle at h
  refine Fr_aload_n (q := 0) (i := 0) 0 (by decide +kernel) rfl rfl ?_
  refine Fr_iload_n (q := 1) (i := 1) 1 (by decide +kernel) rfl rfl ?_
  obtain ⟨r_3, M_1, hc_2, h⟩ := bi_elim h
  refine Fr_cVi (ν := m_X11_codeOfVoting) (As := [.int x1]) (st := []) (rc := 0) (ci := 11) (d' := 2) (by decide +kernel) ml_X11_335 cv_X11_codeOfVoting rfl (by decide) rfl ob_0 rfl (by decide) (Nat.le_of_ble_eq_true rfl) (t_X11_codeOfVoting hc_2) ?_
  refine Fr_istore_n (q := 2) (i := 2) (lv' := [(2, .int r_3), (0, .ref 0), (1, .int x1)]) (by decide +kernel) rfl (by decide) rfl ?_
  refine Fr_iload_n (q := 2) (i := 2) 0 (by decide +kernel) rfl rfl ?_
  refine Fr_if_eq (off := 9) 16 (by decide +kernel) (by decide) (fun hc => ?_) (fun hc => ?_)
  · have h := iT hc h
    refine Fr_aload_n (q := 0) (i := 0) 1 (by decide +kernel) rfl rfl ?_
    refine Fr_aload_n (q := 0) (i := 0) 1 (by decide +kernel) rfl rfl ?_
    refine gf_X11_34 rfl (by decide +kernel) ob_0 ?_
    refine Fr_iload_n (q := 1) (i := 1) 2 (by decide +kernel) rfl rfl ?_
    obtain ⟨r_6, M_4, hc_5, h⟩ := bi_elim h
    refine Fr_cVi (ν := m_X5_powerlessHolders) (As := [.int x1]) (st := [.ref 0]) (rc := 10) (ci := 5) (d' := 3) (by decide +kernel) ml_X11_362 cv_X5_powerlessHolders rfl (by decide) rfl ob_10 rfl (by decide) (Nat.le_of_ble_eq_true rfl) (t_X5_powerlessHolders ob_10 hc_5) ?_
    obtain ⟨r_9, M_7, hc_8, h⟩ := bi_elim h
    refine Fr_cVi (ν := m_X11_answered) (As := [.int r_6]) (st := []) (rc := 0) (ci := 11) (d' := 0) (by decide +kernel) ml_X11_176 cv_X11_answered rfl (by decide) rfl ob_0 rfl (by decide) (Nat.le_of_ble_eq_true rfl) (t_X11_answered hc_8) ?_
    obtain rfl := Option.some.inj h
    exact Fr_iret (by decide +kernel) rfl ⟨rfl, rfl⟩
  · have h := iF hc h
    refine Fr_aload_n (q := 0) (i := 0) 1 (by decide +kernel) rfl rfl ?_
    refine Fr_iload_n (q := 2) (i := 2) 0 (by decide +kernel) rfl rfl ?_
    obtain ⟨r_12, M_10, hc_11, h⟩ := bi_elim h
    refine Fr_cVi (ν := m_X11_refused) (As := [.int r_3]) (st := []) (rc := 0) (ci := 11) (d' := 0) (by decide +kernel) ml_X11_140 cv_X11_refused rfl (by decide) rfl ob_0 rfl (by decide) (Nat.le_of_ble_eq_true rfl) (t_X11_refused hc_11) ?_
    obtain rfl := Option.some.inj h
    exact Fr_iret (by decide +kernel) rfl ⟨rfl, rfl⟩
set_option maxRecDepth 20000 in
theorem t_X11_reach_b50 {N : Nat} {q : Int32 × Mem} {k21 : Int32 × Int32 × Int32 → Mem → Option (Int32 × Mem)} (hk21 : ∀ (a : Int32 × Int32 × Int32) (M : Mem), k21 a M = some q → Fr 0 111 2 m_X11_reach 21 [(0, .ref 0), (1, .int a.1), (2, .int a.2.1), (3, .int a.2.2)] [] M (QI q)) {v1 : Int32} {v2 : Int32} {v3 : Int32} {M : Mem} (h : f_X11_reach_b50 N k21 v1 v2 v3 M = some q) : Fr 0 111 2 m_X11_reach 50 [(0, .ref 0), (1, .int v1), (2, .int v2), (3, .int v3)] [] M (QI q) := by
  unfold f_X11_reach_b50 at h
  refine Fr_iinc (i := 3) (j := 1) (v := (v3 + 1)) (lv' := [(3, .int (v3 + 1)), (0, .ref 0), (1, .int v1), (2, .int v2)]) 3 (by decide +kernel) rfl rfl (by decide) rfl ?_
  refine Fr_goto (off := (-32)) 21 (by decide +kernel) (by decide) ?_
  refine Fr_loc [1, 2, 3, 0] rfl ?_
  exact hk21 (v1, v2, (v3 + 1)) M h
set_option maxRecDepth 20000 in
theorem t_X11_reach_h21 {N : Nat} {q : Int32 × Mem} {k21 : Int32 × Int32 × Int32 → Mem → Option (Int32 × Mem)} (hk21 : ∀ (a : Int32 × Int32 × Int32) (M : Mem), k21 a M = some q → Fr 0 111 2 m_X11_reach 21 [(0, .ref 0), (1, .int a.1), (2, .int a.2.1), (3, .int a.2.2)] [] M (QI q)) {v1 : Int32} {v2 : Int32} {v3 : Int32} {M : Mem} (h : f_X11_reach_h21 N k21 v1 v2 v3 M = some q) : Fr 0 111 2 m_X11_reach 21 [(0, .ref 0), (1, .int v1), (2, .int v2), (3, .int v3)] [] M (QI q) := by
  unfold f_X11_reach_h21 at h
  refine Fr_iload_n (q := 3) (i := 3) 3 (by decide +kernel) rfl rfl ?_
  refine Fr_aload_n (q := 0) (i := 0) 0 (by decide +kernel) rfl rfl ?_
  refine gf_X11_34 rfl (by decide +kernel) ob_0 ?_
  refine gf_X11_173 rfl (by decide +kernel) ob_10 ?_
  refine Fr_icmp_ge (off := 27) 56 (by decide +kernel) (by decide) (fun hc => ?_) (fun hc => ?_)
  · have h := iT hc h
    refine Fr_aload_n (q := 0) (i := 0) 0 (by decide +kernel) rfl rfl ?_
    refine Fr_iload_n (q := 2) (i := 2) 2 (by decide +kernel) rfl rfl ?_
    obtain ⟨r_6, M_4, hc_5, h⟩ := bi_elim h
    refine Fr_cVi (ν := m_X11_answered) (As := [.int v2]) (st := []) (rc := 0) (ci := 11) (d' := 0) (by decide +kernel) ml_X11_176 cv_X11_answered rfl (by decide) rfl ob_0 rfl (by decide) (Nat.le_of_ble_eq_true rfl) (t_X11_answered hc_5) ?_
    obtain rfl := Option.some.inj h
    exact Fr_iret (by decide +kernel) rfl ⟨rfl, rfl⟩
  · have h := iF hc h
    refine Fr_aload_n (q := 0) (i := 0) 0 (by decide +kernel) rfl rfl ?_
    refine gf_X11_34 rfl (by decide +kernel) ob_0 ?_
    refine Fr_iload_n (q := 3) (i := 3) 3 (by decide +kernel) rfl rfl ?_
    refine Fr_iload_n (q := 1) (i := 1) 1 (by decide +kernel) rfl rfl ?_
    obtain ⟨r_9, M_7, hc_8, h⟩ := bi_elim h
    refine Fr_cVb (ν := m_X5_canOpen) (As := [.int v3, .int v1]) (st := []) (rc := 10) (ci := 5) (d' := 1) (by decide +kernel) ml_X11_267 cv_X5_canOpen rfl (by decide) rfl ob_10 rfl (by decide) (Nat.le_of_ble_eq_true rfl) (t_X5_canOpen ob_10 hc_8) ?_
    refine Fr_if_eq (off := 9) 50 (by decide +kernel) (by decide) (fun hc => ?_) (fun hc => ?_)
    · have h := iT hc h
      exact t_X11_reach_b50 hk21 h
    · have h := iF hc h
      refine Fr_iload_n (q := 2) (i := 2) 2 (by decide +kernel) rfl rfl ?_
      refine Fr_iconst (i := 1) (v := 1) (by decide +kernel) (by decide) ?_
      refine Fr_iload_n (q := 3) (i := 3) 3 (by decide +kernel) rfl rfl ?_
      refine Fr_ishl (by decide +kernel) ?_
      refine Fr_ior (by decide +kernel) ?_
      obtain ⟨y_10, ey_10, h⟩ := bI_elim h
      refine Fr_topI ey_10 ?_
      refine Fr_istore_n (q := 2) (i := 2) (lv' := [(2, .int y_10), (0, .ref 0), (1, .int v1), (3, .int v3)]) (by decide +kernel) rfl (by decide) rfl ?_
      refine Fr_loc [1, 2, 0, 3] rfl ?_
      exact t_X11_reach_b50 hk21 h
set_option maxRecDepth 20000 in
theorem t_X11_reach {N : Nat} {x1 : Int32} {M : Mem} {q : Int32 × Mem} (h : f_X11_reach N x1 M = some q) : Ev 0 111 2 m_X11_reach [.ref 0, .int x1] M (QI q) := by
  refine Ev_of_Fr (by decide +kernel) (Nat.le_of_ble_eq_true rfl) ?_
  show Fr 0 111 2 m_X11_reach 0 [(0, .ref 0), (1, .int x1)] [] M (QI q)
  unfold f_X11_reach at h
  refine Fr_aload_n (q := 0) (i := 0) 0 (by decide +kernel) rfl rfl ?_
  refine gf_X11_34 rfl (by decide +kernel) ob_0 ?_
  refine Fr_iload_n (q := 1) (i := 1) 1 (by decide +kernel) rfl rfl ?_
  obtain ⟨r_3, M_1, hc_2, h⟩ := bi_elim h
  refine Fr_cVb (ν := m_X5_isHolderSet) (As := [.int x1]) (st := []) (rc := 10) (ci := 5) (d' := 1) (by decide +kernel) ml_X11_264 cv_X5_isHolderSet rfl (by decide) rfl ob_10 rfl (by decide) (Nat.le_of_ble_eq_true rfl) (t_X5_isHolderSet ob_10 hc_2) ?_
  refine Fr_if_ne (off := 9) 17 (by decide +kernel) (by decide) (fun hc => ?_) (fun hc => ?_)
  · have h := iF hc h
    refine Fr_iconst (i := 0) (v := 0) (by decide +kernel) (by decide) ?_
    refine Fr_istore_n (q := 2) (i := 2) (lv' := [(2, .int 0), (0, .ref 0), (1, .int x1)]) (by decide +kernel) rfl (by decide) rfl ?_
    refine Fr_iconst (i := 0) (v := 0) (by decide +kernel) (by decide) ?_
    refine Fr_istore_n (q := 3) (i := 3) (lv' := [(3, .int 0), (2, .int 0), (0, .ref 0), (1, .int x1)]) (by decide +kernel) rfl (by decide) rfl ?_
    refine Fr_loc [2, 3, 1, 0] rfl ?_
    exact lp_sound (body := fun k a m => f_X11_reach_h21 N k a.1 a.2.1 a.2.2 m) (P := fun a M => Fr 0 111 2 m_X11_reach 21 [(0, .ref 0), (1, .int a.1), (2, .int a.2.1), (3, .int a.2.2)] [] M (QI q)) (fun k hk a m h => t_X11_reach_h21 hk h) N (x1, 0, 0) M_1 h
  · have h := iT hc h
    refine Fr_aload_n (q := 0) (i := 0) 0 (by decide +kernel) rfl rfl ?_
    refine Fr_iconst (i := 5) (v := 5) (by decide +kernel) (by decide) ?_
    obtain ⟨r_13, M_11, hc_12, h⟩ := bi_elim h
    refine Fr_cVi (ν := m_X11_refused) (As := [.int 5]) (st := []) (rc := 0) (ci := 11) (d' := 0) (by decide +kernel) ml_X11_140 cv_X11_refused rfl (by decide) rfl ob_0 rfl (by decide) (Nat.le_of_ble_eq_true rfl) (t_X11_refused hc_12) ?_
    obtain rfl := Option.some.inj h
    exact Fr_iret (by decide +kernel) rfl ⟨rfl, rfl⟩
set_option maxRecDepth 20000 in
theorem t_X11_codeOfTries {N : Nat} {x1 : Int32} {x2 : Int32} {M : Mem} {q : Int32 × Mem} (h : f_X11_codeOfTries N x1 x2 M = some q) : Ev 0 111 4 m_X11_codeOfTries [.ref 0, .int x1, .int x2] M (QI q) := by
  refine Ev_of_Fr (by decide +kernel) (Nat.le_of_ble_eq_true rfl) ?_
  show Fr 0 111 4 m_X11_codeOfTries 0 [(0, .ref 0), (1, .int x1), (2, .int x2)] [] M (QI q)
  unfold f_X11_codeOfTries at h
  refine Fr_aload_n (q := 0) (i := 0) 0 (by decide +kernel) rfl rfl ?_
  refine gf_X11_27 rfl (by decide +kernel) ob_0 ?_
  refine Fr_iload_n (q := 1) (i := 1) 1 (by decide +kernel) rfl rfl ?_
  refine Fr_iload_n (q := 2) (i := 2) 2 (by decide +kernel) rfl rfl ?_
  obtain ⟨r_3, M_1, hc_2, h⟩ := bi_elim h
  refine Fr_cVi (ν := m_X9_codeOfLength) (As := [.int x1, .int x2]) (st := []) (rc := 2) (ci := 9) (d' := 2) (by decide +kernel) ml_X11_243 cv_X9_codeOfLength rfl (by decide) rfl ob_2 rfl (by decide) (Nat.le_of_ble_eq_true rfl) (t_X9_codeOfLength hc_2) ?_
  refine Fr_istore_n (q := 3) (i := 3) (lv' := [(3, .int r_3), (0, .ref 0), (1, .int x1), (2, .int x2)]) (by decide +kernel) rfl (by decide) rfl ?_
  refine Fr_iload_n (q := 3) (i := 3) 0 (by decide +kernel) rfl rfl ?_
  refine Fr_if_eq (off := 5) 16 (by decide +kernel) (by decide) (fun hc => ?_) (fun hc => ?_)
  · have h := iT hc h
    refine Fr_iload_n (q := 2) (i := 2) 3 (by decide +kernel) rfl rfl ?_
    refine Fr_if_lt (off := 30) 47 (by decide +kernel) (by decide) (fun hc => ?_) (fun hc => ?_)
    · have h := iT hc h
      refine Fr_iconst (i := 5) (v := 5) (by decide +kernel) (by decide) ?_
      obtain rfl := Option.some.inj h
      exact Fr_iret (by decide +kernel) rfl ⟨rfl, rfl⟩
    · have h := iF hc h
      refine Fr_aload_n (q := 0) (i := 0) 1 (by decide +kernel) rfl rfl ?_
      refine gf_X11_103 rfl (by decide +kernel) ob_0 ?_
      refine Fr_aload_n (q := 0) (i := 0) 1 (by decide +kernel) rfl rfl ?_
      refine gf_X11_27 rfl (by decide +kernel) ob_0 ?_
      refine gf_X11_144 rfl (by decide +kernel) ob_2 ?_
      refine Fr_iload_n (q := 1) (i := 1) 2 (by decide +kernel) rfl rfl ?_
      obtain ⟨hi_4, h⟩ := ck_elim h
      refine Fr_aald (by decide +kernel) ob_3 (by decide) (vp_of ln_3 hi_4) (ra3 hi_4) ?_
      refine Fr_iload_n (q := 2) (i := 2) 3 (by decide +kernel) rfl rfl ?_
      refine Fr_aload_n (q := 0) (i := 0) 1 (by decide +kernel) rfl rfl ?_
      refine gf_X11_34 rfl (by decide +kernel) ob_0 ?_
      refine gf_X11_173 rfl (by decide +kernel) ob_10 ?_
      obtain ⟨r_7, M_5, hc_6, h⟩ := bi_elim h
      refine Fr_cVb (ν := m_X1_take) (As := [.ref (4 + tn x1), .int x2, .int (M_1.1 10 7)]) (st := []) (rc := 103) (ci := 1) (d' := 3) (by decide +kernel) ml_X11_402 cv_X1_take rfl (by decide) rfl ob_103 rfl (by decide) (Nat.le_of_ble_eq_true rfl) (t_X1_take (oa3 hi_4) hc_6) ?_
      refine Fr_if_ne (off := 5) 49 (by decide +kernel) (by decide) (fun hc => ?_) (fun hc => ?_)
      · have h := iF hc h
        refine Fr_iconst (i := 0) (v := 0) (by decide +kernel) (by decide) ?_
        obtain rfl := Option.some.inj h
        exact Fr_iret (by decide +kernel) rfl ⟨rfl, rfl⟩
      · have h := iT hc h
        refine Fr_iconst (i := 5) (v := 5) (by decide +kernel) (by decide) ?_
        obtain rfl := Option.some.inj h
        exact Fr_iret (by decide +kernel) rfl ⟨rfl, rfl⟩
  · have h := iF hc h
    refine Fr_iload_n (q := 3) (i := 3) 0 (by decide +kernel) rfl rfl ?_
    obtain rfl := Option.some.inj h
    exact Fr_iret (by decide +kernel) rfl ⟨rfl, rfl⟩
set_option maxRecDepth 20000 in
theorem t_X11_fits {N : Nat} {x1 : Int32} {x2 : Int32} {M : Mem} {q : Int32 × Mem} (h : f_X11_fits N x1 x2 M = some q) : Ev 0 111 5 m_X11_fits [.ref 0, .int x1, .int x2] M (QI q) := by
  refine Ev_of_Fr (by decide +kernel) (Nat.le_of_ble_eq_true rfl) ?_
  show Fr 0 111 5 m_X11_fits 0 [(0, .ref 0), (1, .int x1), (2, .int x2)] [] M (QI q)
  unfold f_X11_fits at h
  refine Fr_aload_n (q := 0) (i := 0) 0 (by decide +kernel) rfl rfl ?_
  refine Fr_iload_n (q := 1) (i := 1) 1 (by decide +kernel) rfl rfl ?_
  refine Fr_iload_n (q := 2) (i := 2) 2 (by decide +kernel) rfl rfl ?_
  obtain ⟨r_3, M_1, hc_2, h⟩ := bi_elim h
  refine Fr_cVi (ν := m_X11_codeOfTries) (As := [.int x1, .int x2]) (st := []) (rc := 0) (ci := 11) (d' := 4) (by decide +kernel) ml_X11_365 cv_X11_codeOfTries rfl (by decide) rfl ob_0 rfl (by decide) (Nat.le_of_ble_eq_true rfl) (t_X11_codeOfTries hc_2) ?_
  refine Fr_istore_n (q := 3) (i := 3) (lv' := [(3, .int r_3), (0, .ref 0), (1, .int x1), (2, .int x2)]) (by decide +kernel) rfl (by decide) rfl ?_
  refine Fr_iload_n (q := 3) (i := 3) 0 (by decide +kernel) rfl rfl ?_
  refine Fr_if_eq (off := 9) 17 (by decide +kernel) (by decide) (fun hc => ?_) (fun hc => ?_)
  · have h := iT hc h
    refine Fr_aload_n (q := 0) (i := 0) 1 (by decide +kernel) rfl rfl ?_
    refine Fr_aload_n (q := 0) (i := 0) 1 (by decide +kernel) rfl rfl ?_
    refine gf_X11_103 rfl (by decide +kernel) ob_0 ?_
    refine gf_X11_368 rfl (by decide +kernel) ob_103 ?_
    obtain ⟨r_6, M_4, hc_5, h⟩ := bi_elim h
    refine Fr_cVi (ν := m_X11_answered) (As := [.int (M_1.1 103 1)]) (st := []) (rc := 0) (ci := 11) (d' := 0) (by decide +kernel) ml_X11_176 cv_X11_answered rfl (by decide) rfl ob_0 rfl (by decide) (Nat.le_of_ble_eq_true rfl) (t_X11_answered hc_5) ?_
    obtain rfl := Option.some.inj h
    exact Fr_iret (by decide +kernel) rfl ⟨rfl, rfl⟩
  · have h := iF hc h
    refine Fr_aload_n (q := 0) (i := 0) 1 (by decide +kernel) rfl rfl ?_
    refine Fr_iload_n (q := 3) (i := 3) 0 (by decide +kernel) rfl rfl ?_
    obtain ⟨r_9, M_7, hc_8, h⟩ := bi_elim h
    refine Fr_cVi (ν := m_X11_refused) (As := [.int r_3]) (st := []) (rc := 0) (ci := 11) (d' := 0) (by decide +kernel) ml_X11_140 cv_X11_refused rfl (by decide) rfl ob_0 rfl (by decide) (Nat.le_of_ble_eq_true rfl) (t_X11_refused hc_8) ?_
    obtain rfl := Option.some.inj h
    exact Fr_iret (by decide +kernel) rfl ⟨rfl, rfl⟩
set_option maxRecDepth 20000 in
theorem t_X11_codeOfKey {N : Nat} {x1 : Int32} {x2 : Int32} {x3 : Int32} {x4 : Int32} {M : Mem} {q : Int32 × Mem} (h : f_X11_codeOfKey N x1 x2 x3 x4 M = some q) : Ev 0 111 5 m_X11_codeOfKey [.ref 0, .int x1, .int x2, .int x3, .int x4] M (QI q) := by
  refine Ev_of_Fr (by decide +kernel) (Nat.le_of_ble_eq_true rfl) ?_
  show Fr 0 111 5 m_X11_codeOfKey 0 [(0, .ref 0), (1, .int x1), (2, .int x2), (3, .int x3), (4, .int x4)] [] M (QI q)
  unfold f_X11_codeOfKey at h
  refine Fr_aload_n (q := 0) (i := 0) 0 (by decide +kernel) rfl rfl ?_
  refine gf_X11_27 rfl (by decide +kernel) ob_0 ?_
  refine Fr_iload_n (q := 3) (i := 3) 3 (by decide +kernel) rfl rfl ?_
  obtain ⟨r_3, M_1, hc_2, h⟩ := bi_elim h
  refine Fr_cVb (ν := m_X9_isTray) (As := [.int x3]) (st := []) (rc := 2) (ci := 9) (d' := 0) (by decide +kernel) ml_X11_117 cv_X9_isTray rfl (by decide) rfl ob_2 rfl (by decide) (Nat.le_of_ble_eq_true rfl) (t_X9_isTray hc_2) ?_
  refine Fr_if_ne (off := 5) 13 (by decide +kernel) (by decide) (fun hc => ?_) (fun hc => ?_)
  · have h := iF hc h
    refine Fr_aload_n (q := 0) (i := 0) 0 (by decide +kernel) rfl rfl ?_
    refine gf_X11_34 rfl (by decide +kernel) ob_0 ?_
    refine Fr_iload_n (q := 1) (i := 1) 1 (by decide +kernel) rfl rfl ?_
    obtain ⟨r_6, M_4, hc_5, h⟩ := bi_elim h
    refine Fr_cVb (ν := m_X5_isGate) (As := [.int x1]) (st := []) (rc := 10) (ci := 5) (d' := 0) (by decide +kernel) ml_X11_200 cv_X5_isGate rfl (by decide) rfl ob_10 rfl (by decide) (Nat.le_of_ble_eq_true rfl) (t_X5_isGate ob_10 hc_5) ?_
    refine Fr_if_eq (off := 14) 35 (by decide +kernel) (by decide) (fun hc => ?_) (fun hc => ?_)
    · have h := iT hc h
      refine Fr_iconst (i := 2) (v := 2) (by decide +kernel) (by decide) ?_
      obtain rfl := Option.some.inj h
      exact Fr_iret (by decide +kernel) rfl ⟨rfl, rfl⟩
    · have h := iF hc h
      refine Fr_aload_n (q := 0) (i := 0) 0 (by decide +kernel) rfl rfl ?_
      refine gf_X11_34 rfl (by decide +kernel) ob_0 ?_
      refine Fr_iload_n (q := 2) (i := 2) 2 (by decide +kernel) rfl rfl ?_
      obtain ⟨r_9, M_7, hc_8, h⟩ := bi_elim h
      refine Fr_cVb (ν := m_X5_isGate) (As := [.int x2]) (st := []) (rc := 10) (ci := 5) (d' := 0) (by decide +kernel) ml_X11_200 cv_X5_isGate rfl (by decide) rfl ob_10 rfl (by decide) (Nat.le_of_ble_eq_true rfl) (t_X5_isGate ob_10 hc_8) ?_
      refine Fr_if_ne (off := 5) 37 (by decide +kernel) (by decide) (fun hc => ?_) (fun hc => ?_)
      · have h := iF hc h
        refine Fr_aload_n (q := 0) (i := 0) 0 (by decide +kernel) rfl rfl ?_
        refine Fr_iload_n (q := 3) (i := 3) 3 (by decide +kernel) rfl rfl ?_
        refine Fr_iload (i := 4) 4 (by decide +kernel) rfl ?_
        obtain ⟨r_12, M_10, hc_11, h⟩ := bi_elim h
        refine Fr_cVi (ν := m_X11_codeOfTries) (As := [.int x3, .int x4]) (st := []) (rc := 0) (ci := 11) (d' := 4) (by decide +kernel) ml_X11_365 cv_X11_codeOfTries rfl (by decide) rfl ob_0 rfl (by decide) (Nat.le_of_ble_eq_true rfl) (t_X11_codeOfTries hc_11) ?_
        obtain rfl := Option.some.inj h
        exact Fr_iret (by decide +kernel) rfl ⟨rfl, rfl⟩
      · have h := iT hc h
        refine Fr_iconst (i := 2) (v := 2) (by decide +kernel) (by decide) ?_
        obtain rfl := Option.some.inj h
        exact Fr_iret (by decide +kernel) rfl ⟨rfl, rfl⟩
  · have h := iT hc h
    refine Fr_iconst (i := 1) (v := 1) (by decide +kernel) (by decide) ?_
    obtain rfl := Option.some.inj h
    exact Fr_iret (by decide +kernel) rfl ⟨rfl, rfl⟩
set_option maxRecDepth 20000 in
theorem t_X11_known {N : Nat} {x1 : Int32} {x2 : Int32} {x3 : Int32} {M : Mem} {q : Int32 × Mem} (h : f_X11_known N x1 x2 x3 M = some q) : Ev 0 111 6 m_X11_known [.ref 0, .int x1, .int x2, .int x3] M (QI q) := by
  refine Ev_of_Fr (by decide +kernel) (Nat.le_of_ble_eq_true rfl) ?_
  show Fr 0 111 6 m_X11_known 0 [(0, .ref 0), (1, .int x1), (2, .int x2), (3, .int x3)] [] M (QI q)
  unfold f_X11_known at h
  refine Fr_aload_n (q := 0) (i := 0) 0 (by decide +kernel) rfl rfl ?_
  refine Fr_iload_n (q := 1) (i := 1) 1 (by decide +kernel) rfl rfl ?_
  refine Fr_iload_n (q := 1) (i := 1) 1 (by decide +kernel) rfl rfl ?_
  refine Fr_iload_n (q := 2) (i := 2) 2 (by decide +kernel) rfl rfl ?_
  refine Fr_iload_n (q := 3) (i := 3) 3 (by decide +kernel) rfl rfl ?_
  obtain ⟨r_3, M_1, hc_2, h⟩ := bi_elim h
  refine Fr_cVi (ν := m_X11_codeOfKey) (As := [.int x1, .int x1, .int x2, .int x3]) (st := []) (rc := 0) (ci := 11) (d' := 5) (by decide +kernel) ml_X11_371 cv_X11_codeOfKey rfl (by decide) rfl ob_0 rfl (by decide) (Nat.le_of_ble_eq_true rfl) (t_X11_codeOfKey hc_2) ?_
  refine Fr_istore (i := 4) (lv' := [(4, .int r_3), (0, .ref 0), (1, .int x1), (2, .int x2), (3, .int x3)]) (by decide +kernel) (by decide) rfl ?_
  refine Fr_iload (i := 4) 0 (by decide +kernel) rfl ?_
  refine Fr_if_eq (off := 10) 22 (by decide +kernel) (by decide) (fun hc => ?_) (fun hc => ?_)
  · have h := iT hc h
    refine Fr_aload_n (q := 0) (i := 0) 1 (by decide +kernel) rfl rfl ?_
    refine Fr_aload_n (q := 0) (i := 0) 1 (by decide +kernel) rfl rfl ?_
    refine gf_X11_103 rfl (by decide +kernel) ob_0 ?_
    refine Fr_iload_n (q := 1) (i := 1) 2 (by decide +kernel) rfl rfl ?_
    obtain ⟨r_6, M_4, hc_5, h⟩ := bi_elim h
    refine Fr_cVi (ν := m_X1_onlyGate) (As := [.int x1]) (st := [.ref 0]) (rc := 103) (ci := 1) (d' := 3) (by decide +kernel) ml_X11_375 cv_X1_onlyGate rfl (by decide) rfl ob_103 rfl (by decide) (Nat.le_of_ble_eq_true rfl) (t_X1_onlyGate hc_5) ?_
    obtain ⟨r_9, M_7, hc_8, h⟩ := bi_elim h
    refine Fr_cVi (ν := m_X11_answeredIfAny) (As := [.int r_6]) (st := []) (rc := 0) (ci := 11) (d' := 1) (by decide +kernel) ml_X11_289 cv_X11_answeredIfAny rfl (by decide) rfl ob_0 rfl (by decide) (Nat.le_of_ble_eq_true rfl) (t_X11_answeredIfAny hc_8) ?_
    obtain rfl := Option.some.inj h
    exact Fr_iret (by decide +kernel) rfl ⟨rfl, rfl⟩
  · have h := iF hc h
    refine Fr_aload_n (q := 0) (i := 0) 1 (by decide +kernel) rfl rfl ?_
    refine Fr_iload (i := 4) 0 (by decide +kernel) rfl ?_
    obtain ⟨r_12, M_10, hc_11, h⟩ := bi_elim h
    refine Fr_cVi (ν := m_X11_refused) (As := [.int r_3]) (st := []) (rc := 0) (ci := 11) (d' := 0) (by decide +kernel) ml_X11_140 cv_X11_refused rfl (by decide) rfl ob_0 rfl (by decide) (Nat.le_of_ble_eq_true rfl) (t_X11_refused hc_11) ?_
    obtain rfl := Option.some.inj h
    exact Fr_iret (by decide +kernel) rfl ⟨rfl, rfl⟩
set_option maxRecDepth 20000 in
theorem t_X11_next {N : Nat} {x1 : Int32} {x2 : Int32} {M : Mem} {q : Int32 × Mem} (h : f_X11_next N x1 x2 M = some q) : Ev 0 111 5 m_X11_next [.ref 0, .int x1, .int x2] M (QI q) := by
  refine Ev_of_Fr (by decide +kernel) (Nat.le_of_ble_eq_true rfl) ?_
  show Fr 0 111 5 m_X11_next 0 [(0, .ref 0), (1, .int x1), (2, .int x2)] [] M (QI q)
  unfold f_X11_next at h
  refine Fr_aload_n (q := 0) (i := 0) 0 (by decide +kernel) rfl rfl ?_
  refine Fr_iload_n (q := 1) (i := 1) 1 (by decide +kernel) rfl rfl ?_
  refine Fr_iload_n (q := 2) (i := 2) 2 (by decide +kernel) rfl rfl ?_
  obtain ⟨r_3, M_1, hc_2, h⟩ := bi_elim h
  refine Fr_cVi (ν := m_X11_codeOfTries) (As := [.int x1, .int x2]) (st := []) (rc := 0) (ci := 11) (d' := 4) (by decide +kernel) ml_X11_365 cv_X11_codeOfTries rfl (by decide) rfl ob_0 rfl (by decide) (Nat.le_of_ble_eq_true rfl) (t_X11_codeOfTries hc_2) ?_
  refine Fr_istore_n (q := 3) (i := 3) (lv' := [(3, .int r_3), (0, .ref 0), (1, .int x1), (2, .int x2)]) (by decide +kernel) rfl (by decide) rfl ?_
  refine Fr_iload_n (q := 3) (i := 3) 0 (by decide +kernel) rfl rfl ?_
  refine Fr_if_eq (off := 9) 17 (by decide +kernel) (by decide) (fun hc => ?_) (fun hc => ?_)
  · have h := iT hc h
    refine Fr_aload_n (q := 0) (i := 0) 1 (by decide +kernel) rfl rfl ?_
    refine Fr_aload_n (q := 0) (i := 0) 1 (by decide +kernel) rfl rfl ?_
    refine gf_X11_103 rfl (by decide +kernel) ob_0 ?_
    obtain ⟨r_6, M_4, hc_5, h⟩ := bi_elim h
    refine Fr_cVi (ν := m_X1_bestTry) (As := []) (st := [.ref 0]) (rc := 103) (ci := 1) (d' := 3) (by decide +kernel) ml_X11_378 cv_X1_bestTry rfl (by decide) rfl ob_103 rfl (by decide) (Nat.le_of_ble_eq_true rfl) (t_X1_bestTry hc_5) ?_
    obtain ⟨r_9, M_7, hc_8, h⟩ := bi_elim h
    refine Fr_cVi (ν := m_X11_answeredIfAny) (As := [.int r_6]) (st := []) (rc := 0) (ci := 11) (d' := 1) (by decide +kernel) ml_X11_289 cv_X11_answeredIfAny rfl (by decide) rfl ob_0 rfl (by decide) (Nat.le_of_ble_eq_true rfl) (t_X11_answeredIfAny hc_8) ?_
    obtain rfl := Option.some.inj h
    exact Fr_iret (by decide +kernel) rfl ⟨rfl, rfl⟩
  · have h := iF hc h
    refine Fr_aload_n (q := 0) (i := 0) 1 (by decide +kernel) rfl rfl ?_
    refine Fr_iload_n (q := 3) (i := 3) 0 (by decide +kernel) rfl rfl ?_
    obtain ⟨r_12, M_10, hc_11, h⟩ := bi_elim h
    refine Fr_cVi (ν := m_X11_refused) (As := [.int r_3]) (st := []) (rc := 0) (ci := 11) (d' := 0) (by decide +kernel) ml_X11_140 cv_X11_refused rfl (by decide) rfl ob_0 rfl (by decide) (Nat.le_of_ble_eq_true rfl) (t_X11_refused hc_11) ?_
    obtain rfl := Option.some.inj h
    exact Fr_iret (by decide +kernel) rfl ⟨rfl, rfl⟩
set_option maxRecDepth 20000 in
theorem t_X11_chance {N : Nat} {x1 : Int32} {x2 : Int32} {x3 : Int32} {x4 : Int32} {M : Mem} {q : Bool × Mem} (h : f_X11_chance N x1 x2 x3 x4 M = some q) : Ev 0 111 6 m_X11_chance [.ref 0, .int x1, .int x2, .int x3, .int x4] M (QB q) := by
  refine Ev_of_Fr (by decide +kernel) (Nat.le_of_ble_eq_true rfl) ?_
  show Fr 0 111 6 m_X11_chance 0 [(0, .ref 0), (1, .int x1), (2, .int x2), (3, .int x3), (4, .int x4)] [] M (QB q)
  unfold f_X11_chance at h
  refine Fr_aload_n (q := 0) (i := 0) 0 (by decide +kernel) rfl rfl ?_
  refine Fr_iload_n (q := 1) (i := 1) 1 (by decide +kernel) rfl rfl ?_
  refine Fr_iload_n (q := 2) (i := 2) 2 (by decide +kernel) rfl rfl ?_
  refine Fr_iload_n (q := 3) (i := 3) 3 (by decide +kernel) rfl rfl ?_
  refine Fr_iload (i := 4) 4 (by decide +kernel) rfl ?_
  obtain ⟨r_3, M_1, hc_2, h⟩ := bi_elim h
  refine Fr_cVi (ν := m_X11_codeOfKey) (As := [.int x1, .int x2, .int x3, .int x4]) (st := []) (rc := 0) (ci := 11) (d' := 5) (by decide +kernel) ml_X11_371 cv_X11_codeOfKey rfl (by decide) rfl ob_0 rfl (by decide) (Nat.le_of_ble_eq_true rfl) (t_X11_codeOfKey hc_2) ?_
  refine Fr_istore (i := 5) (lv' := [(5, .int r_3), (0, .ref 0), (1, .int x1), (2, .int x2), (3, .int x3), (4, .int x4)]) (by decide +kernel) (by decide) rfl ?_
  refine Fr_iload (i := 5) 0 (by decide +kernel) rfl ?_
  refine Fr_if_eq (off := 10) 23 (by decide +kernel) (by decide) (fun hc => ?_) (fun hc => ?_)
  · have h := iT hc h
    refine Fr_aload_n (q := 0) (i := 0) 1 (by decide +kernel) rfl rfl ?_
    refine gf_X11_103 rfl (by decide +kernel) ob_0 ?_
    refine gf_X11_368 rfl (by decide +kernel) ob_103 ?_
    refine Fr_if_ne (off := 10) 40 (by decide +kernel) (by decide) (fun hc => ?_) (fun hc => ?_)
    · have h := iF hc h
      refine Fr_aload_n (q := 0) (i := 0) 1 (by decide +kernel) rfl rfl ?_
      refine Fr_aload_n (q := 0) (i := 0) 1 (by decide +kernel) rfl rfl ?_
      refine gf_X11_103 rfl (by decide +kernel) ob_0 ?_
      refine Fr_iload_n (q := 1) (i := 1) 2 (by decide +kernel) rfl rfl ?_
      refine Fr_iload_n (q := 2) (i := 2) 3 (by decide +kernel) rfl rfl ?_
      obtain ⟨r_6, M_4, hc_5, h⟩ := bi_elim h
      refine Fr_cVi (ν := m_X1_waysWith) (As := [.int x1, .int x2]) (st := [.ref 0]) (rc := 103) (ci := 1) (d' := 2) (by decide +kernel) ml_X11_381 cv_X1_waysWith rfl (by decide) rfl ob_103 rfl (by decide) (Nat.le_of_ble_eq_true rfl) (t_X1_waysWith hc_5) ?_
      refine Fr_i2l (by decide +kernel) ?_
      refine Fr_aload_n (q := 0) (i := 0) 1 (by decide +kernel) rfl rfl ?_
      refine gf_X11_103 rfl (by decide +kernel) ob_0 ?_
      refine gf_X11_368 rfl (by decide +kernel) ob_103 ?_
      refine Fr_i2l (by decide +kernel) ?_
      obtain ⟨M_7, hc_8, h⟩ := bv_elim h
      refine Fr_cVv (ν := m_X11_tellFraction) (As := [.long (Int32.toInt64 r_6), .long (Int32.toInt64 (M_4.1 103 1))]) (st := []) (rc := 0) (ci := 11) (d' := 0) (by decide +kernel) ml_X11_355 cv_X11_tellFraction rfl (by decide) rfl ob_0 rfl (by decide) (Nat.le_of_ble_eq_true rfl) (t_X11_tellFraction hc_8) ?_
      refine Fr_aload_n (q := 0) (i := 0) 1 (by decide +kernel) rfl rfl ?_
      obtain ⟨r_11, M_9, hc_10, h⟩ := bi_elim h
      refine Fr_cVb (ν := m_X11_granted) (As := []) (st := []) (rc := 0) (ci := 11) (d' := 0) (by decide +kernel) ml_X11_128 cv_X11_granted rfl (by decide) rfl ob_0 rfl (by decide) (Nat.le_of_ble_eq_true rfl) (t_X11_granted hc_10) ?_
      obtain rfl := Option.some.inj h
      exact Fr_zret (by decide +kernel) rfl (nz_b r_11) ⟨rfl, rfl⟩
    · have h := iT hc h
      refine Fr_aload_n (q := 0) (i := 0) 1 (by decide +kernel) rfl rfl ?_
      refine Fr_bipush (i := 8) (v := 8) (by decide +kernel) (by decide) ?_
      obtain ⟨r_14, M_12, hc_13, h⟩ := bi_elim h
      refine Fr_cVb (ν := m_X11_refusedFlag) (As := [.int 8]) (st := []) (rc := 0) (ci := 11) (d' := 0) (by decide +kernel) ml_X11_121 cv_X11_refusedFlag rfl (by decide) rfl ob_0 rfl (by decide) (Nat.le_of_ble_eq_true rfl) (t_X11_refusedFlag hc_13) ?_
      obtain rfl := Option.some.inj h
      exact Fr_zret (by decide +kernel) rfl (nz_b r_14) ⟨rfl, rfl⟩
  · have h := iF hc h
    refine Fr_aload_n (q := 0) (i := 0) 1 (by decide +kernel) rfl rfl ?_
    refine Fr_iload (i := 5) 0 (by decide +kernel) rfl ?_
    obtain ⟨r_17, M_15, hc_16, h⟩ := bi_elim h
    refine Fr_cVb (ν := m_X11_refusedFlag) (As := [.int r_3]) (st := []) (rc := 0) (ci := 11) (d' := 0) (by decide +kernel) ml_X11_121 cv_X11_refusedFlag rfl (by decide) rfl ob_0 rfl (by decide) (Nat.le_of_ble_eq_true rfl) (t_X11_refusedFlag hc_16) ?_
    obtain rfl := Option.some.inj h
    exact Fr_zret (by decide +kernel) rfl (nz_b r_17) ⟨rfl, rfl⟩
set_option maxRecDepth 20000 in
theorem t_X11_live {N : Nat} {x1 : Int32} {M : Mem} {q : Int32 × Mem} (h : f_X11_live N x1 M = some q) : Ev 0 111 7 m_X11_live [.ref 0, .int x1] M (QI q) := by
  refine Ev_of_Fr (by decide +kernel) (Nat.le_of_ble_eq_true rfl) ?_
  show Fr 0 111 7 m_X11_live 0 [(0, .ref 0), (1, .int x1)] [] M (QI q)
  unfold f_X11_live at h
  refine Fr_iload_n (q := 1) (i := 1) 1 (by decide +kernel) rfl rfl ?_
  refine Fr_if_lt (off := 10) 11 (by decide +kernel) (by decide) (fun hc => ?_) (fun hc => ?_)
  · have h := iT hc h
    refine Fr_aload_n (q := 0) (i := 0) 0 (by decide +kernel) rfl rfl ?_
    refine Fr_iconst (i := 5) (v := 5) (by decide +kernel) (by decide) ?_
    obtain ⟨r_3, M_1, hc_2, h⟩ := bi_elim h
    refine Fr_cVi (ν := m_X11_refused) (As := [.int 5]) (st := []) (rc := 0) (ci := 11) (d' := 0) (by decide +kernel) ml_X11_140 cv_X11_refused rfl (by decide) rfl ob_0 rfl (by decide) (Nat.le_of_ble_eq_true rfl) (t_X11_refused hc_2) ?_
    obtain rfl := Option.some.inj h
    exact Fr_iret (by decide +kernel) rfl ⟨rfl, rfl⟩
  · have h := iF hc h
    refine Fr_iload_n (q := 1) (i := 1) 1 (by decide +kernel) rfl rfl ?_
    refine Fr_sipush (i := 9999) (v := 9999) (by decide +kernel) (by decide) ?_
    refine Fr_icmp_le (off := 9) 17 (by decide +kernel) (by decide) (fun hc => ?_) (fun hc => ?_)
    · have h := iT hc h
      refine Fr_aload_n (q := 0) (i := 0) 0 (by decide +kernel) rfl rfl ?_
      refine gf_X11_34 rfl (by decide +kernel) ob_0 ?_
      refine gf_X11_182 rfl (by decide +kernel) ob_10 ?_
      refine gf_X11_384 rfl (by decide +kernel) ob_17 ?_
      refine Fr_if_ne (off := 10) 37 (by decide +kernel) (by decide) (fun hc => ?_) (fun hc => ?_)
      · have h := iF hc h
        refine Fr_aload_n (q := 0) (i := 0) 0 (by decide +kernel) rfl rfl ?_
        refine gf_X11_110 rfl (by decide +kernel) ob_0 ?_
        refine Fr_aload_n (q := 0) (i := 0) 0 (by decide +kernel) rfl rfl ?_
        refine gf_X11_34 rfl (by decide +kernel) ob_0 ?_
        refine Fr_iload_n (q := 1) (i := 1) 1 (by decide +kernel) rfl rfl ?_
        obtain ⟨M_4, hc_5, h⟩ := bv_elim h
        refine Fr_cVv (ν := m_X2_run) (As := [.ref 10, .int x1]) (st := []) (rc := 107) (ci := 2) (d' := 6) (by decide +kernel) ml_X11_388 cv_X2_run rfl (by decide) rfl ob_107 rfl (by decide) (Nat.le_of_ble_eq_true rfl) (t_X2_run ob_107 ob_10 hc_5) ?_
        refine Fr_aload_n (q := 0) (i := 0) 0 (by decide +kernel) rfl rfl ?_
        refine Fr_aload_n (q := 0) (i := 0) 0 (by decide +kernel) rfl rfl ?_
        refine gf_X11_110 rfl (by decide +kernel) ob_0 ?_
        refine gf_X11_391 rfl (by decide +kernel) ob_107 ?_
        obtain ⟨r_8, M_6, hc_7, h⟩ := bi_elim h
        refine Fr_cVi (ν := m_X11_answered) (As := [.int (M_4.1 107 4)]) (st := []) (rc := 0) (ci := 11) (d' := 0) (by decide +kernel) ml_X11_176 cv_X11_answered rfl (by decide) rfl ob_0 rfl (by decide) (Nat.le_of_ble_eq_true rfl) (t_X11_answered hc_7) ?_
        obtain rfl := Option.some.inj h
        exact Fr_iret (by decide +kernel) rfl ⟨rfl, rfl⟩
      · have h := iT hc h
        refine Fr_aload_n (q := 0) (i := 0) 0 (by decide +kernel) rfl rfl ?_
        refine Fr_bipush (i := 8) (v := 8) (by decide +kernel) (by decide) ?_
        obtain ⟨r_11, M_9, hc_10, h⟩ := bi_elim h
        refine Fr_cVi (ν := m_X11_refused) (As := [.int 8]) (st := []) (rc := 0) (ci := 11) (d' := 0) (by decide +kernel) ml_X11_140 cv_X11_refused rfl (by decide) rfl ob_0 rfl (by decide) (Nat.le_of_ble_eq_true rfl) (t_X11_refused hc_10) ?_
        obtain rfl := Option.some.inj h
        exact Fr_iret (by decide +kernel) rfl ⟨rfl, rfl⟩
    · have h := iF hc h
      refine Fr_aload_n (q := 0) (i := 0) 0 (by decide +kernel) rfl rfl ?_
      refine Fr_iconst (i := 5) (v := 5) (by decide +kernel) (by decide) ?_
      obtain ⟨r_14, M_12, hc_13, h⟩ := bi_elim h
      refine Fr_cVi (ν := m_X11_refused) (As := [.int 5]) (st := []) (rc := 0) (ci := 11) (d' := 0) (by decide +kernel) ml_X11_140 cv_X11_refused rfl (by decide) rfl ob_0 rfl (by decide) (Nat.le_of_ble_eq_true rfl) (t_X11_refused hc_13) ?_
      obtain rfl := Option.some.inj h
      exact Fr_iret (by decide +kernel) rfl ⟨rfl, rfl⟩
set_option maxRecDepth 20000 in
theorem t_X11_lived {x1 : Int32} {M : Mem} {q : Int32 × Mem} (h : f_X11_lived x1 M = some q) : Ev 0 111 1 m_X11_lived [.ref 0, .int x1] M (QI q) := by
  refine Ev_of_Fr (by decide +kernel) (Nat.le_of_ble_eq_true rfl) ?_
  show Fr 0 111 1 m_X11_lived 0 [(0, .ref 0), (1, .int x1)] [] M (QI q)
  unfold f_X11_lived at h
  refine Fr_iload_n (q := 1) (i := 1) 1 (by decide +kernel) rfl rfl ?_
  refine Fr_if_lt (off := 8) 9 (by decide +kernel) (by decide) (fun hc => ?_) (fun hc => ?_)
  · have h := iT hc h
    refine Fr_aload_n (q := 0) (i := 0) 0 (by decide +kernel) rfl rfl ?_
    refine Fr_iconst (i := 5) (v := 5) (by decide +kernel) (by decide) ?_
    obtain ⟨r_3, M_1, hc_2, h⟩ := bi_elim h
    refine Fr_cVi (ν := m_X11_refused) (As := [.int 5]) (st := []) (rc := 0) (ci := 11) (d' := 0) (by decide +kernel) ml_X11_140 cv_X11_refused rfl (by decide) rfl ob_0 rfl (by decide) (Nat.le_of_ble_eq_true rfl) (t_X11_refused hc_2) ?_
    obtain rfl := Option.some.inj h
    exact Fr_iret (by decide +kernel) rfl ⟨rfl, rfl⟩
  · have h := iF hc h
    refine Fr_iload_n (q := 1) (i := 1) 1 (by decide +kernel) rfl rfl ?_
    refine Fr_iconst (i := 5) (v := 5) (by decide +kernel) (by decide) ?_
    refine Fr_icmp_lt (off := 9) 15 (by decide +kernel) (by decide) (fun hc => ?_) (fun hc => ?_)
    · have h := iT hc h
      refine Fr_aload_n (q := 0) (i := 0) 0 (by decide +kernel) rfl rfl ?_
      refine gf_X11_110 rfl (by decide +kernel) ob_0 ?_
      refine gf_X11_394 rfl (by decide +kernel) ob_107 ?_
      refine Fr_if_ne (off := 10) 32 (by decide +kernel) (by decide) (fun hc => ?_) (fun hc => ?_)
      · have h := iF hc h
        refine Fr_aload_n (q := 0) (i := 0) 0 (by decide +kernel) rfl rfl ?_
        refine Fr_aload_n (q := 0) (i := 0) 0 (by decide +kernel) rfl rfl ?_
        refine gf_X11_110 rfl (by decide +kernel) ob_0 ?_
        refine Fr_iload_n (q := 1) (i := 1) 1 (by decide +kernel) rfl rfl ?_
        obtain ⟨r_6, M_4, hc_5, h⟩ := bi_elim h
        refine Fr_cVi (ν := m_X2_factOf) (As := [.int x1]) (st := [.ref 0]) (rc := 107) (ci := 2) (d' := 0) (by decide +kernel) ml_X11_395 cv_X2_factOf rfl (by decide) rfl ob_107 rfl (by decide) (Nat.le_of_ble_eq_true rfl) (t_X2_factOf ob_107 hc_5) ?_
        obtain ⟨r_9, M_7, hc_8, h⟩ := bi_elim h
        refine Fr_cVi (ν := m_X11_answered) (As := [.int r_6]) (st := []) (rc := 0) (ci := 11) (d' := 0) (by decide +kernel) ml_X11_176 cv_X11_answered rfl (by decide) rfl ob_0 rfl (by decide) (Nat.le_of_ble_eq_true rfl) (t_X11_answered hc_8) ?_
        obtain rfl := Option.some.inj h
        exact Fr_iret (by decide +kernel) rfl ⟨rfl, rfl⟩
      · have h := iT hc h
        refine Fr_aload_n (q := 0) (i := 0) 0 (by decide +kernel) rfl rfl ?_
        refine Fr_bipush (i := 8) (v := 8) (by decide +kernel) (by decide) ?_
        obtain ⟨r_12, M_10, hc_11, h⟩ := bi_elim h
        refine Fr_cVi (ν := m_X11_refused) (As := [.int 8]) (st := []) (rc := 0) (ci := 11) (d' := 0) (by decide +kernel) ml_X11_140 cv_X11_refused rfl (by decide) rfl ob_0 rfl (by decide) (Nat.le_of_ble_eq_true rfl) (t_X11_refused hc_11) ?_
        obtain rfl := Option.some.inj h
        exact Fr_iret (by decide +kernel) rfl ⟨rfl, rfl⟩
    · have h := iF hc h
      refine Fr_aload_n (q := 0) (i := 0) 0 (by decide +kernel) rfl rfl ?_
      refine Fr_iconst (i := 5) (v := 5) (by decide +kernel) (by decide) ?_
      obtain ⟨r_15, M_13, hc_14, h⟩ := bi_elim h
      refine Fr_cVi (ν := m_X11_refused) (As := [.int 5]) (st := []) (rc := 0) (ci := 11) (d' := 0) (by decide +kernel) ml_X11_140 cv_X11_refused rfl (by decide) rfl ob_0 rfl (by decide) (Nat.le_of_ble_eq_true rfl) (t_X11_refused hc_14) ?_
      obtain rfl := Option.some.inj h
      exact Fr_iret (by decide +kernel) rfl ⟨rfl, rfl⟩
set_option maxRecDepth 20000 in
theorem t_X11_mean_h64 {N : Nat} {q : Bool × Mem} {k64 : Int32 × Int32 × Int32 × Int32 → Mem → Option (Bool × Mem)} (hk64 : ∀ (a : Int32 × Int32 × Int32 × Int32) (M : Mem), k64 a M = some q → Fr 0 111 7 m_X11_mean 64 [(0, .ref 0), (1, .int a.1), (2, .int a.2.1), (3, .int a.2.2.1), (4, .int a.2.2.2)] [] M (QB q)) {v1 : Int32} {v2 : Int32} {v3 : Int32} {v4 : Int32} {M : Mem} (h : f_X11_mean_h64 N k64 v1 v2 v3 v4 M = some q) : Fr 0 111 7 m_X11_mean 64 [(0, .ref 0), (1, .int v1), (2, .int v2), (3, .int v3), (4, .int v4)] [] M (QB q) := by
  unfold f_X11_mean_h64 at h
  refine Fr_iload (i := 4) 4 (by decide +kernel) rfl ?_
  refine Fr_iload_n (q := 2) (i := 2) 2 (by decide +kernel) rfl rfl ?_
  refine Fr_icmp_ge (off := 52) 119 (by decide +kernel) (by decide) (fun hc => ?_) (fun hc => ?_)
  · have h := iT hc h
    refine Fr_aload_n (q := 0) (i := 0) 0 (by decide +kernel) rfl rfl ?_
    refine Fr_iload_n (q := 3) (i := 3) 3 (by decide +kernel) rfl rfl ?_
    refine Fr_i2l (by decide +kernel) ?_
    refine Fr_iload_n (q := 2) (i := 2) 2 (by decide +kernel) rfl rfl ?_
    refine Fr_i2l (by decide +kernel) ?_
    obtain ⟨M_13, hc_14, h⟩ := bv_elim h
    refine Fr_cVv (ν := m_X11_tellFraction) (As := [.long (Int32.toInt64 v3), .long (Int32.toInt64 v2)]) (st := []) (rc := 0) (ci := 11) (d' := 0) (by decide +kernel) ml_X11_355 cv_X11_tellFraction rfl (by decide) rfl ob_0 rfl (by decide) (Nat.le_of_ble_eq_true rfl) (t_X11_tellFraction hc_14) ?_
    refine Fr_aload_n (q := 0) (i := 0) 0 (by decide +kernel) rfl rfl ?_
    obtain ⟨r_17, M_15, hc_16, h⟩ := bi_elim h
    refine Fr_cVb (ν := m_X11_granted) (As := []) (st := []) (rc := 0) (ci := 11) (d' := 0) (by decide +kernel) ml_X11_128 cv_X11_granted rfl (by decide) rfl ob_0 rfl (by decide) (Nat.le_of_ble_eq_true rfl) (t_X11_granted hc_16) ?_
    obtain rfl := Option.some.inj h
    exact Fr_zret (by decide +kernel) rfl (nz_b r_17) ⟨rfl, rfl⟩
  · have h := iF hc h
    refine Fr_aload_n (q := 0) (i := 0) 0 (by decide +kernel) rfl rfl ?_
    refine gf_X11_38 rfl (by decide +kernel) ob_0 ?_
    refine Fr_aload_n (q := 0) (i := 0) 0 (by decide +kernel) rfl rfl ?_
    refine gf_X11_34 rfl (by decide +kernel) ob_0 ?_
    obtain ⟨M_18, hc_19, h⟩ := bv_elim h
    refine Fr_cVv (ν := m_X5_copyFrom) (As := [.ref 10]) (st := []) (rc := 23) (ci := 5) (d' := 2) (by decide +kernel) ml_X11_169 cv_X5_copyFrom rfl (by decide) rfl ob_23 rfl (by decide) (Nat.le_of_ble_eq_true rfl) (t_X5_copyFrom ob_23 ob_10 hc_19) ?_
    refine Fr_aload_n (q := 0) (i := 0) 0 (by decide +kernel) rfl rfl ?_
    refine gf_X11_114 rfl (by decide +kernel) ob_0 ?_
    refine Fr_aload_n (q := 0) (i := 0) 0 (by decide +kernel) rfl rfl ?_
    refine gf_X11_38 rfl (by decide +kernel) ob_0 ?_
    refine Fr_iload_n (q := 1) (i := 1) 1 (by decide +kernel) rfl rfl ?_
    refine Fr_iload (i := 4) 4 (by decide +kernel) rfl ?_
    refine Fr_iadd (by decide +kernel) ?_
    obtain ⟨M_20, hc_21, h⟩ := bv_elim h
    refine Fr_cVv (ν := m_X2_run) (As := [.ref 23, .int (v1 + v4)]) (st := []) (rc := 109) (ci := 2) (d' := 6) (by decide +kernel) ml_X11_388 cv_X2_run rfl (by decide) rfl ob_109 rfl (by decide) (Nat.le_of_ble_eq_true rfl) (t_X2_run ob_109 ob_23 hc_21) ?_
    refine Fr_iload_n (q := 3) (i := 3) 3 (by decide +kernel) rfl rfl ?_
    refine Fr_aload_n (q := 0) (i := 0) 0 (by decide +kernel) rfl rfl ?_
    refine gf_X11_38 rfl (by decide +kernel) ob_0 ?_
    refine Fr_aload_n (q := 0) (i := 0) 0 (by decide +kernel) rfl rfl ?_
    refine gf_X11_38 rfl (by decide +kernel) ob_0 ?_
    refine gf_X11_229 rfl (by decide +kernel) ob_23 ?_
    obtain ⟨r_24, M_22, hc_23, h⟩ := bi_elim h
    refine Fr_cVi (ν := m_X5_countFoggy) (As := [.ref 29]) (st := [.int v3]) (rc := 23) (ci := 5) (d' := 1) (by decide +kernel) ml_X11_292 cv_X5_countFoggy rfl (by decide) rfl ob_23 rfl (by decide) (Nat.le_of_ble_eq_true rfl) (t_X5_countFoggy ob_23 ob_29 hc_23) ?_
    refine Fr_iadd (by decide +kernel) ?_
    refine Fr_istore_n (q := 3) (i := 3) (lv' := [(3, .int (v3 + r_24)), (0, .ref 0), (1, .int v1), (2, .int v2), (4, .int v4)]) (by decide +kernel) rfl (by decide) rfl ?_
    refine Fr_iinc (i := 4) (j := 1) (v := (v4 + 1)) (lv' := [(4, .int (v4 + 1)), (3, .int (v3 + r_24)), (0, .ref 0), (1, .int v1), (2, .int v2)]) 4 (by decide +kernel) rfl rfl (by decide) rfl ?_
    refine Fr_goto (off := (-52)) 64 (by decide +kernel) (by decide) ?_
    refine Fr_loc [2, 3, 4, 1, 0] rfl ?_
    exact hk64 (v1, v2, (v3 + r_24), (v4 + 1)) M_22 h
set_option maxRecDepth 20000 in
theorem t_X11_mean {N : Nat} {x1 : Int32} {x2 : Int32} {M : Mem} {q : Bool × Mem} (h : f_X11_mean N x1 x2 M = some q) : Ev 0 111 7 m_X11_mean [.ref 0, .int x1, .int x2] M (QB q) := by
  refine Ev_of_Fr (by decide +kernel) (Nat.le_of_ble_eq_true rfl) ?_
  show Fr 0 111 7 m_X11_mean 0 [(0, .ref 0), (1, .int x1), (2, .int x2)] [] M (QB q)
  unfold f_X11_mean at h
  refine Fr_iload_n (q := 1) (i := 1) 1 (by decide +kernel) rfl rfl ?_
  refine Fr_if_lt (off := 32) 33 (by decide +kernel) (by decide) (fun hc => ?_) (fun hc => ?_)
  · have h := iT hc h
    refine Fr_aload_n (q := 0) (i := 0) 0 (by decide +kernel) rfl rfl ?_
    refine Fr_iconst (i := 5) (v := 5) (by decide +kernel) (by decide) ?_
    obtain ⟨r_3, M_1, hc_2, h⟩ := bi_elim h
    refine Fr_cVb (ν := m_X11_refusedFlag) (As := [.int 5]) (st := []) (rc := 0) (ci := 11) (d' := 0) (by decide +kernel) ml_X11_121 cv_X11_refusedFlag rfl (by decide) rfl ob_0 rfl (by decide) (Nat.le_of_ble_eq_true rfl) (t_X11_refusedFlag hc_2) ?_
    obtain rfl := Option.some.inj h
    exact Fr_zret (by decide +kernel) rfl (nz_b r_3) ⟨rfl, rfl⟩
  · have h := iF hc h
    refine Fr_iload_n (q := 1) (i := 1) 1 (by decide +kernel) rfl rfl ?_
    refine Fr_sipush (i := 9999) (v := 9999) (by decide +kernel) (by decide) ?_
    refine Fr_icmp_gt (off := 25) 33 (by decide +kernel) (by decide) (fun hc => ?_) (fun hc => ?_)
    · have h := iT hc h
      refine Fr_aload_n (q := 0) (i := 0) 0 (by decide +kernel) rfl rfl ?_
      refine Fr_iconst (i := 5) (v := 5) (by decide +kernel) (by decide) ?_
      obtain ⟨r_6, M_4, hc_5, h⟩ := bi_elim h
      refine Fr_cVb (ν := m_X11_refusedFlag) (As := [.int 5]) (st := []) (rc := 0) (ci := 11) (d' := 0) (by decide +kernel) ml_X11_121 cv_X11_refusedFlag rfl (by decide) rfl ob_0 rfl (by decide) (Nat.le_of_ble_eq_true rfl) (t_X11_refusedFlag hc_5) ?_
      obtain rfl := Option.some.inj h
      exact Fr_zret (by decide +kernel) rfl (nz_b r_6) ⟨rfl, rfl⟩
    · have h := iF hc h
      refine Fr_iload_n (q := 2) (i := 2) 2 (by decide +kernel) rfl rfl ?_
      refine Fr_iconst (i := 1) (v := 1) (by decide +kernel) (by decide) ?_
      refine Fr_icmp_lt (off := 20) 33 (by decide +kernel) (by decide) (fun hc => ?_) (fun hc => ?_)
      · have h := iT hc h
        refine Fr_aload_n (q := 0) (i := 0) 0 (by decide +kernel) rfl rfl ?_
        refine Fr_iconst (i := 5) (v := 5) (by decide +kernel) (by decide) ?_
        obtain ⟨r_9, M_7, hc_8, h⟩ := bi_elim h
        refine Fr_cVb (ν := m_X11_refusedFlag) (As := [.int 5]) (st := []) (rc := 0) (ci := 11) (d' := 0) (by decide +kernel) ml_X11_121 cv_X11_refusedFlag rfl (by decide) rfl ob_0 rfl (by decide) (Nat.le_of_ble_eq_true rfl) (t_X11_refusedFlag hc_8) ?_
        obtain rfl := Option.some.inj h
        exact Fr_zret (by decide +kernel) rfl (nz_b r_9) ⟨rfl, rfl⟩
      · have h := iF hc h
        refine Fr_iload_n (q := 2) (i := 2) 2 (by decide +kernel) rfl rfl ?_
        refine Fr_bipush (i := 20) (v := 20) (by decide +kernel) (by decide) ?_
        refine Fr_icmp_gt (off := 14) 33 (by decide +kernel) (by decide) (fun hc => ?_) (fun hc => ?_)
        · have h := iT hc h
          refine Fr_aload_n (q := 0) (i := 0) 0 (by decide +kernel) rfl rfl ?_
          refine Fr_iconst (i := 5) (v := 5) (by decide +kernel) (by decide) ?_
          obtain ⟨r_12, M_10, hc_11, h⟩ := bi_elim h
          refine Fr_cVb (ν := m_X11_refusedFlag) (As := [.int 5]) (st := []) (rc := 0) (ci := 11) (d' := 0) (by decide +kernel) ml_X11_121 cv_X11_refusedFlag rfl (by decide) rfl ob_0 rfl (by decide) (Nat.le_of_ble_eq_true rfl) (t_X11_refusedFlag hc_11) ?_
          obtain rfl := Option.some.inj h
          exact Fr_zret (by decide +kernel) rfl (nz_b r_12) ⟨rfl, rfl⟩
        · have h := iF hc h
          refine Fr_iload_n (q := 1) (i := 1) 1 (by decide +kernel) rfl rfl ?_
          refine Fr_iload_n (q := 2) (i := 2) 2 (by decide +kernel) rfl rfl ?_
          refine Fr_iadd (by decide +kernel) ?_
          refine Fr_iconst (i := 1) (v := 1) (by decide +kernel) (by decide) ?_
          refine Fr_isub (by decide +kernel) ?_
          refine Fr_sipush (i := 9999) (v := 9999) (by decide +kernel) (by decide) ?_
          refine Fr_icmp_le (off := 9) 39 (by decide +kernel) (by decide) (fun hc => ?_) (fun hc => ?_)
          · have h := iT hc h
            refine Fr_aload_n (q := 0) (i := 0) 0 (by decide +kernel) rfl rfl ?_
            refine gf_X11_34 rfl (by decide +kernel) ob_0 ?_
            refine gf_X11_182 rfl (by decide +kernel) ob_10 ?_
            refine gf_X11_384 rfl (by decide +kernel) ob_17 ?_
            refine Fr_if_ne (off := 10) 59 (by decide +kernel) (by decide) (fun hc => ?_) (fun hc => ?_)
            · have h := iF hc h
              refine Fr_iconst (i := 0) (v := 0) (by decide +kernel) (by decide) ?_
              refine Fr_istore_n (q := 3) (i := 3) (lv' := [(3, .int 0), (0, .ref 0), (1, .int x1), (2, .int x2)]) (by decide +kernel) rfl (by decide) rfl ?_
              refine Fr_iconst (i := 0) (v := 0) (by decide +kernel) (by decide) ?_
              refine Fr_istore (i := 4) (lv' := [(4, .int 0), (3, .int 0), (0, .ref 0), (1, .int x1), (2, .int x2)]) (by decide +kernel) (by decide) rfl ?_
              refine Fr_loc [2, 3, 4, 1, 0] rfl ?_
              exact lp_sound (body := fun k a m => f_X11_mean_h64 N k a.1 a.2.1 a.2.2.1 a.2.2.2 m) (P := fun a M => Fr 0 111 7 m_X11_mean 64 [(0, .ref 0), (1, .int a.1), (2, .int a.2.1), (3, .int a.2.2.1), (4, .int a.2.2.2)] [] M (QB q)) (fun k hk a m h => t_X11_mean_h64 hk h) N (x1, x2, 0, 0) M h
            · have h := iT hc h
              refine Fr_aload_n (q := 0) (i := 0) 0 (by decide +kernel) rfl rfl ?_
              refine Fr_bipush (i := 8) (v := 8) (by decide +kernel) (by decide) ?_
              obtain ⟨r_27, M_25, hc_26, h⟩ := bi_elim h
              refine Fr_cVb (ν := m_X11_refusedFlag) (As := [.int 8]) (st := []) (rc := 0) (ci := 11) (d' := 0) (by decide +kernel) ml_X11_121 cv_X11_refusedFlag rfl (by decide) rfl ob_0 rfl (by decide) (Nat.le_of_ble_eq_true rfl) (t_X11_refusedFlag hc_26) ?_
              obtain rfl := Option.some.inj h
              exact Fr_zret (by decide +kernel) rfl (nz_b r_27) ⟨rfl, rfl⟩
          · have h := iF hc h
            refine Fr_aload_n (q := 0) (i := 0) 0 (by decide +kernel) rfl rfl ?_
            refine Fr_iconst (i := 5) (v := 5) (by decide +kernel) (by decide) ?_
            obtain ⟨r_30, M_28, hc_29, h⟩ := bi_elim h
            refine Fr_cVb (ν := m_X11_refusedFlag) (As := [.int 5]) (st := []) (rc := 0) (ci := 11) (d' := 0) (by decide +kernel) ml_X11_121 cv_X11_refusedFlag rfl (by decide) rfl ob_0 rfl (by decide) (Nat.le_of_ble_eq_true rfl) (t_X11_refusedFlag hc_29) ?_
            obtain rfl := Option.some.inj h
            exact Fr_zret (by decide +kernel) rfl (nz_b r_30) ⟨rfl, rfl⟩
set_option maxRecDepth 20000 in
theorem t_X11_mark {M : Mem} {q : Int32 × Mem} (h : f_X11_mark M = some q) : Ev 0 111 3 m_X11_mark [.ref 0] M (QI q) := by
  refine Ev_of_Fr (by decide +kernel) (Nat.le_of_ble_eq_true rfl) ?_
  show Fr 0 111 3 m_X11_mark 0 [(0, .ref 0)] [] M (QI q)
  unfold f_X11_mark at h
  refine Fr_aload_n (q := 0) (i := 0) 0 (by decide +kernel) rfl rfl ?_
  refine gf_X11_396 rfl (by decide +kernel) ob_0 ?_
  refine Fr_iconst (i := 3) (v := 3) (by decide +kernel) (by decide) ?_
  refine Fr_icmp_lt (off := 10) 15 (by decide +kernel) (by decide) (fun hc => ?_) (fun hc => ?_)
  · have h := iT hc h
    refine Fr_aload_n (q := 0) (i := 0) 0 (by decide +kernel) rfl rfl ?_
    refine gf_X11_41 rfl (by decide +kernel) ob_0 ?_
    refine Fr_aload_n (q := 0) (i := 0) 0 (by decide +kernel) rfl rfl ?_
    refine gf_X11_396 rfl (by decide +kernel) ob_0 ?_
    obtain ⟨hi_1, h⟩ := ck_elim h
    refine Fr_aald (by decide +kernel) ob_36 (by decide) (vp_of ln_36 hi_1) (ra36 hi_1) ?_
    refine Fr_aload_n (q := 0) (i := 0) 0 (by decide +kernel) rfl rfl ?_
    refine gf_X11_34 rfl (by decide +kernel) ob_0 ?_
    obtain ⟨M_2, hc_3, h⟩ := bv_elim h
    refine Fr_cVv (ν := m_X5_copyFrom) (As := [.ref 10]) (st := []) (rc := (37 + 13 * tn (M.1 0 4))) (ci := 5) (d' := 2) (by decide +kernel) ml_X11_169 cv_X5_copyFrom rfl (by decide) rfl (oa36 hi_1) rfl (by decide) (Nat.le_of_ble_eq_true rfl) (t_X5_copyFrom (oa36 hi_1) ob_10 hc_3) ?_
    refine Fr_aload_n (q := 0) (i := 0) 0 (by decide +kernel) rfl rfl ?_
    refine Fr_dup (by decide +kernel) rfl ?_
    refine gf_X11_396 rfl (by decide +kernel) ob_0 ?_
    refine Fr_iconst (i := 1) (v := 1) (by decide +kernel) (by decide) ?_
    refine Fr_iadd (by decide +kernel) ?_
    refine pf_X11_396 rfl (by decide +kernel) ob_0 ?_
    obtain ⟨M_4, eM_4, h⟩ := bM_elim h
    refine Fr_mem eM_4 ?_
    refine Fr_aload_n (q := 0) (i := 0) 0 (by decide +kernel) rfl rfl ?_
    refine Fr_aload_n (q := 0) (i := 0) 0 (by decide +kernel) rfl rfl ?_
    refine gf_X11_396 rfl (by decide +kernel) ob_0 ?_
    obtain ⟨r_7, M_5, hc_6, h⟩ := bi_elim h
    refine Fr_cVi (ν := m_X11_answered) (As := [.int (M_4.1 0 4)]) (st := []) (rc := 0) (ci := 11) (d' := 0) (by decide +kernel) ml_X11_176 cv_X11_answered rfl (by decide) rfl ob_0 rfl (by decide) (Nat.le_of_ble_eq_true rfl) (t_X11_answered hc_6) ?_
    obtain rfl := Option.some.inj h
    exact Fr_iret (by decide +kernel) rfl ⟨rfl, rfl⟩
  · have h := iF hc h
    refine Fr_aload_n (q := 0) (i := 0) 0 (by decide +kernel) rfl rfl ?_
    refine Fr_bipush (i := 7) (v := 7) (by decide +kernel) (by decide) ?_
    obtain ⟨r_10, M_8, hc_9, h⟩ := bi_elim h
    refine Fr_cVi (ν := m_X11_refused) (As := [.int 7]) (st := []) (rc := 0) (ci := 11) (d' := 0) (by decide +kernel) ml_X11_140 cv_X11_refused rfl (by decide) rfl ob_0 rfl (by decide) (Nat.le_of_ble_eq_true rfl) (t_X11_refused hc_9) ?_
    obtain rfl := Option.some.inj h
    exact Fr_iret (by decide +kernel) rfl ⟨rfl, rfl⟩
set_option maxRecDepth 20000 in
theorem t_X11_back {M : Mem} {q : Int32 × Mem} (h : f_X11_back M = some q) : Ev 0 111 3 m_X11_back [.ref 0] M (QI q) := by
  refine Ev_of_Fr (by decide +kernel) (Nat.le_of_ble_eq_true rfl) ?_
  show Fr 0 111 3 m_X11_back 0 [(0, .ref 0)] [] M (QI q)
  unfold f_X11_back at h
  refine Fr_aload_n (q := 0) (i := 0) 0 (by decide +kernel) rfl rfl ?_
  refine gf_X11_396 rfl (by decide +kernel) ob_0 ?_
  refine Fr_if_gt (off := 10) 14 (by decide +kernel) (by decide) (fun hc => ?_) (fun hc => ?_)
  · have h := iT hc h
    refine Fr_aload_n (q := 0) (i := 0) 0 (by decide +kernel) rfl rfl ?_
    refine Fr_dup (by decide +kernel) rfl ?_
    refine gf_X11_396 rfl (by decide +kernel) ob_0 ?_
    refine Fr_iconst (i := 1) (v := 1) (by decide +kernel) (by decide) ?_
    refine Fr_isub (by decide +kernel) ?_
    refine pf_X11_396 rfl (by decide +kernel) ob_0 ?_
    obtain ⟨M_1, eM_1, h⟩ := bM_elim h
    refine Fr_mem eM_1 ?_
    refine Fr_aload_n (q := 0) (i := 0) 0 (by decide +kernel) rfl rfl ?_
    refine gf_X11_34 rfl (by decide +kernel) ob_0 ?_
    refine Fr_aload_n (q := 0) (i := 0) 0 (by decide +kernel) rfl rfl ?_
    refine gf_X11_41 rfl (by decide +kernel) ob_0 ?_
    refine Fr_aload_n (q := 0) (i := 0) 0 (by decide +kernel) rfl rfl ?_
    refine gf_X11_396 rfl (by decide +kernel) ob_0 ?_
    obtain ⟨hi_2, h⟩ := ck_elim h
    refine Fr_aald (by decide +kernel) ob_36 (by decide) (vp_of ln_36 hi_2) (ra36 hi_2) ?_
    obtain ⟨M_3, hc_4, h⟩ := bv_elim h
    refine Fr_cVv (ν := m_X5_copyFrom) (As := [.ref (37 + 13 * tn (M_1.1 0 4))]) (st := []) (rc := 10) (ci := 5) (d' := 2) (by decide +kernel) ml_X11_169 cv_X5_copyFrom rfl (by decide) rfl ob_10 rfl (by decide) (Nat.le_of_ble_eq_true rfl) (t_X5_copyFrom ob_10 (oa36 hi_2) hc_4) ?_
    refine Fr_aload_n (q := 0) (i := 0) 0 (by decide +kernel) rfl rfl ?_
    refine Fr_aload_n (q := 0) (i := 0) 0 (by decide +kernel) rfl rfl ?_
    refine gf_X11_396 rfl (by decide +kernel) ob_0 ?_
    obtain ⟨r_7, M_5, hc_6, h⟩ := bi_elim h
    refine Fr_cVi (ν := m_X11_answered) (As := [.int (M_3.1 0 4)]) (st := []) (rc := 0) (ci := 11) (d' := 0) (by decide +kernel) ml_X11_176 cv_X11_answered rfl (by decide) rfl ob_0 rfl (by decide) (Nat.le_of_ble_eq_true rfl) (t_X11_answered hc_6) ?_
    obtain rfl := Option.some.inj h
    exact Fr_iret (by decide +kernel) rfl ⟨rfl, rfl⟩
  · have h := iF hc h
    refine Fr_aload_n (q := 0) (i := 0) 0 (by decide +kernel) rfl rfl ?_
    refine Fr_bipush (i := 8) (v := 8) (by decide +kernel) (by decide) ?_
    obtain ⟨r_10, M_8, hc_9, h⟩ := bi_elim h
    refine Fr_cVi (ν := m_X11_refused) (As := [.int 8]) (st := []) (rc := 0) (ci := 11) (d' := 0) (by decide +kernel) ml_X11_140 cv_X11_refused rfl (by decide) rfl ob_0 rfl (by decide) (Nat.le_of_ble_eq_true rfl) (t_X11_refused hc_9) ?_
    obtain rfl := Option.some.inj h
    exact Fr_iret (by decide +kernel) rfl ⟨rfl, rfl⟩
set_option maxRecDepth 20000 in
theorem t_X12_status {M : Mem} {q : Int32 × Mem} (h : f_X12_status M = some q) : Ev 200 21 0 m_X12_status [.ref 200] M (QI q) := by
  refine Ev_of_Fr (by decide +kernel) (Nat.le_of_ble_eq_true rfl) ?_
  show Fr 200 21 0 m_X12_status 0 [(0, .ref 200)] [] M (QI q)
  unfold f_X12_status at h
  refine Fr_aload_n (q := 0) (i := 0) 0 (by decide +kernel) rfl rfl ?_
  refine Fr_iconst (i := 0) (v := 0) (by decide +kernel) (by decide) ?_
  refine pf_X12_84 rfl (by decide +kernel) ob_200 ?_
  obtain ⟨M_1, eM_1, h⟩ := bM_elim h
  refine Fr_mem eM_1 ?_
  refine Fr_aload_n (q := 0) (i := 0) 0 (by decide +kernel) rfl rfl ?_
  refine gf_X12_87 rfl (by decide +kernel) ob_200 ?_
  obtain rfl := Option.some.inj h
  exact Fr_iret (by decide +kernel) rfl ⟨rfl, rfl⟩
set_option maxRecDepth 20000 in
theorem t_X12_top {M : Mem} {q : Int64 × Mem} (h : f_X12_top M = some q) : Ev 200 21 0 m_X12_top [.ref 200] M (QJ q) := by
  refine Ev_of_Fr (by decide +kernel) (Nat.le_of_ble_eq_true rfl) ?_
  show Fr 200 21 0 m_X12_top 0 [(0, .ref 200)] [] M (QJ q)
  unfold f_X12_top at h
  refine Fr_aload_n (q := 0) (i := 0) 0 (by decide +kernel) rfl rfl ?_
  refine Fr_iconst (i := 0) (v := 0) (by decide +kernel) (by decide) ?_
  refine pf_X12_84 rfl (by decide +kernel) ob_200 ?_
  obtain ⟨M_1, eM_1, h⟩ := bM_elim h
  refine Fr_mem eM_1 ?_
  refine Fr_aload_n (q := 0) (i := 0) 0 (by decide +kernel) rfl rfl ?_
  refine gf_X12_90 rfl (by decide +kernel) ob_200 ?_
  obtain rfl := Option.some.inj h
  exact Fr_lret (by decide +kernel) rfl ⟨rfl, rfl⟩
set_option maxRecDepth 20000 in
theorem t_X12_bottom {M : Mem} {q : Int64 × Mem} (h : f_X12_bottom M = some q) : Ev 200 21 0 m_X12_bottom [.ref 200] M (QJ q) := by
  refine Ev_of_Fr (by decide +kernel) (Nat.le_of_ble_eq_true rfl) ?_
  show Fr 200 21 0 m_X12_bottom 0 [(0, .ref 200)] [] M (QJ q)
  unfold f_X12_bottom at h
  refine Fr_aload_n (q := 0) (i := 0) 0 (by decide +kernel) rfl rfl ?_
  refine Fr_iconst (i := 0) (v := 0) (by decide +kernel) (by decide) ?_
  refine pf_X12_84 rfl (by decide +kernel) ob_200 ?_
  obtain ⟨M_1, eM_1, h⟩ := bM_elim h
  refine Fr_mem eM_1 ?_
  refine Fr_aload_n (q := 0) (i := 0) 0 (by decide +kernel) rfl rfl ?_
  refine gf_X12_7 rfl (by decide +kernel) ob_200 ?_
  obtain rfl := Option.some.inj h
  exact Fr_lret (by decide +kernel) rfl ⟨rfl, rfl⟩
set_option maxRecDepth 20000 in
theorem t_X12_refuse {x1 : Int32} {M : Mem} {q : Int32 × Mem} (h : f_X12_refuse x1 M = some q) : Ev 200 21 0 m_X12_refuse [.ref 200, .int x1] M (QI q) := by
  refine Ev_of_Fr (by decide +kernel) (Nat.le_of_ble_eq_true rfl) ?_
  show Fr 200 21 0 m_X12_refuse 0 [(0, .ref 200), (1, .int x1)] [] M (QI q)
  unfold f_X12_refuse at h
  refine Fr_aload_n (q := 0) (i := 0) 0 (by decide +kernel) rfl rfl ?_
  refine Fr_iload_n (q := 1) (i := 1) 1 (by decide +kernel) rfl rfl ?_
  refine pf_X12_87 rfl (by decide +kernel) ob_200 ?_
  obtain ⟨M_1, eM_1, h⟩ := bM_elim h
  refine Fr_mem eM_1 ?_
  refine Fr_iconst (i := (-1)) (v := (-1)) (by decide +kernel) (by decide) ?_
  obtain rfl := Option.some.inj h
  exact Fr_iret (by decide +kernel) rfl ⟨rfl, rfl⟩
set_option maxRecDepth 20000 in
theorem t_X12_no {x1 : Int32} {M : Mem} {q : Bool × Mem} (h : f_X12_no x1 M = some q) : Ev 200 21 0 m_X12_no [.ref 200, .int x1] M (QB q) := by
  refine Ev_of_Fr (by decide +kernel) (Nat.le_of_ble_eq_true rfl) ?_
  show Fr 200 21 0 m_X12_no 0 [(0, .ref 200), (1, .int x1)] [] M (QB q)
  unfold f_X12_no at h
  refine Fr_aload_n (q := 0) (i := 0) 0 (by decide +kernel) rfl rfl ?_
  refine Fr_iload_n (q := 1) (i := 1) 1 (by decide +kernel) rfl rfl ?_
  refine pf_X12_87 rfl (by decide +kernel) ob_200 ?_
  obtain ⟨M_1, eM_1, h⟩ := bM_elim h
  refine Fr_mem eM_1 ?_
  refine Fr_iconst (i := 0) (v := 0) (by decide +kernel) (by decide) ?_
  obtain rfl := Option.some.inj h
  exact Fr_zret (by decide +kernel) rfl (by decide) ⟨rfl, rfl⟩
set_option maxRecDepth 20000 in
theorem t_X12_isIn {x0 : Int64} {x2 : Int64} {x4 : Int64} {M : Mem} {q : Bool × Mem} (h : f_X12_isIn x0 x2 x4 M = some q) : Ev 200 21 0 m_X12_isIn [.long x0, .long x2, .long x4] M (QB q) := by
  refine Ev_of_Fr (by decide +kernel) (Nat.le_of_ble_eq_true rfl) ?_
  show Fr 200 21 0 m_X12_isIn 0 [(0, .long x0), (2, .long x2), (4, .long x4)] [] M (QB q)
  unfold f_X12_isIn at h
  refine Fr_lload_n (q := 0) (i := 0) 0 (by decide +kernel) rfl rfl ?_
  refine Fr_lload_n (q := 2) (i := 2) 1 (by decide +kernel) rfl rfl ?_
  refine Fr_lcmp (by decide +kernel) ?_
  refine Fr_if_lt (off := 14) 17 (by decide +kernel) (by decide) (fun hc => ?_) (fun hc => ?_)
  · have h := iT hc h
    refine Fr_iconst (i := 0) (v := 0) (by decide +kernel) (by decide) ?_
    obtain rfl := Option.some.inj h
    exact Fr_zret (by decide +kernel) rfl (by decide) ⟨rfl, rfl⟩
  · have h := iF hc h
    refine Fr_lload_n (q := 0) (i := 0) 0 (by decide +kernel) rfl rfl ?_
    refine Fr_lload (i := 4) 2 (by decide +kernel) rfl ?_
    refine Fr_lcmp (by decide +kernel) ?_
    refine Fr_if_gt (off := 7) 17 (by decide +kernel) (by decide) (fun hc => ?_) (fun hc => ?_)
    · have h := iT hc h
      refine Fr_iconst (i := 0) (v := 0) (by decide +kernel) (by decide) ?_
      obtain rfl := Option.some.inj h
      exact Fr_zret (by decide +kernel) rfl (by decide) ⟨rfl, rfl⟩
    · have h := iF hc h
      refine Fr_iconst (i := 1) (v := 1) (by decide +kernel) (by decide) ?_
      refine Fr_goto (off := 4) 18 (by decide +kernel) (by decide) ?_
      obtain rfl := Option.some.inj h
      exact Fr_zret (by decide +kernel) rfl (by decide) ⟨rfl, rfl⟩
