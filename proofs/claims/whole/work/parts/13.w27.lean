set_option maxRecDepth 20000 in
theorem t_X12_turns_h258 {N : Nat} {q : Mem} {k258 : Int32 → Mem → Option (Mem)} (hk258 : ∀ (a : Int32) (M : Mem), k258 a M = some q → Fr 200 21 6 m_X12_turns 258 [(0, .ref 200), (3, .int a)] [] M (QV q)) {v3 : Int32} {M : Mem} (h : f_X12_turns_h258 N k258 v3 M = some q) : Fr 200 21 6 m_X12_turns 258 [(0, .ref 200), (3, .int v3)] [] M (QV q) := by
  unfold f_X12_turns_h258 at h
  refine Fr_iload_n (q := 3) (i := 3) 1 (by decide +kernel) rfl rfl ?_
  refine Fr_sipush (i := 163) (v := 163) (by decide +kernel) (by decide) ?_
  refine Fr_icmp_ge (off := 21) 283 (by decide +kernel) (by decide) (fun hc => ?_) (fun hc => ?_)
  · have h := iT hc h
    obtain rfl := Option.some.inj h
    exact Fr_vret (by decide +kernel) rfl ⟨rfl, rfl⟩
  · have h := iF hc h
    refine Fr_aload_n (q := 0) (i := 0) 0 (by decide +kernel) rfl rfl ?_
    refine gf_X12_35 rfl (by decide +kernel) ob_200 ?_
    refine Fr_iload_n (q := 3) (i := 3) 1 (by decide +kernel) rfl rfl ?_
    refine Fr_aload_n (q := 0) (i := 0) 0 (by decide +kernel) rfl rfl ?_
    refine gf_X12_41 rfl (by decide +kernel) ob_200 ?_
    refine Fr_iload_n (q := 3) (i := 3) 1 (by decide +kernel) rfl rfl ?_
    obtain ⟨hi_5, h⟩ := ck_elim h
    refine Fr_iald (by decide +kernel) ob_207 (vp_of ln_207 hi_5) ?_
    obtain ⟨hi_6, h⟩ := ck_elim h
    refine Fr_iast (by decide +kernel) ob_205 (vp_of ln_205 hi_6) ?_
    obtain ⟨M_7, eM_7, h⟩ := bM_elim h
    refine Fr_mem eM_7 ?_
    refine Fr_iinc (i := 3) (j := 1) (v := (v3 + 1)) (lv' := [(3, .int (v3 + 1)), (0, .ref 200)]) 1 (by decide +kernel) rfl rfl (by decide) rfl ?_
    refine Fr_goto (off := (-22)) 258 (by decide +kernel) (by decide) ?_
    refine Fr_loc [1, 0] rfl ?_
    exact hk258 (v3 + 1) M_7 h
set_option maxRecDepth 20000 in
theorem t_X12_turns_b244 {N : Nat} {q : Mem} {k45 : Int32 × Int32 × Int32 → Mem → Option (Mem)} (hk45 : ∀ (a : Int32 × Int32 × Int32) (M : Mem), k45 a M = some q → Fr 200 21 6 m_X12_turns 45 [(0, .ref 200), (1, .int a.1), (2, .int a.2.1), (3, .int a.2.2)] [] M (QV q)) {k138 : Int32 × Int32 × Int32 × Int32 × Int32 → Mem → Option (Mem)} (hk138 : ∀ (a : Int32 × Int32 × Int32 × Int32 × Int32) (M : Mem), k138 a M = some q → Fr 200 21 6 m_X12_turns 138 [(0, .ref 200), (1, .int a.1), (2, .int a.2.1), (3, .int a.2.2.1), (4, .int a.2.2.2.1), (5, .int a.2.2.2.2)] [] M (QV q)) {v1 : Int32} {v2 : Int32} {v3 : Int32} {v4 : Int32} {v5 : Int32} {M : Mem} (h : f_X12_turns_b244 N k45 k138 v1 v2 v3 v4 v5 M = some q) : Fr 200 21 6 m_X12_turns 244 [(0, .ref 200), (1, .int v1), (2, .int v2), (3, .int v3), (4, .int v4), (5, .int v5)] [] M (QV q) := by
  unfold f_X12_turns_b244 at h
  refine Fr_iinc (i := 5) (j := 1) (v := (v5 + 1)) (lv' := [(5, .int (v5 + 1)), (0, .ref 200), (1, .int v1), (2, .int v2), (3, .int v3), (4, .int v4)]) 5 (by decide +kernel) rfl rfl (by decide) rfl ?_
  refine Fr_goto (off := (-109)) 138 (by decide +kernel) (by decide) ?_
  refine Fr_loc [1, 2, 3, 4, 5, 0] rfl ?_
  exact hk138 (v1, v2, v3, v4, (v5 + 1)) M h
set_option maxRecDepth 20000 in
theorem t_X12_turns_h154 {N : Nat} {q : Mem} {k45 : Int32 × Int32 × Int32 → Mem → Option (Mem)} (hk45 : ∀ (a : Int32 × Int32 × Int32) (M : Mem), k45 a M = some q → Fr 200 21 6 m_X12_turns 45 [(0, .ref 200), (1, .int a.1), (2, .int a.2.1), (3, .int a.2.2)] [] M (QV q)) {k138 : Int32 × Int32 × Int32 × Int32 × Int32 → Mem → Option (Mem)} (hk138 : ∀ (a : Int32 × Int32 × Int32 × Int32 × Int32) (M : Mem), k138 a M = some q → Fr 200 21 6 m_X12_turns 138 [(0, .ref 200), (1, .int a.1), (2, .int a.2.1), (3, .int a.2.2.1), (4, .int a.2.2.2.1), (5, .int a.2.2.2.2)] [] M (QV q)) {k154 : Int32 × Int32 × Int32 × Int32 × Int32 × Int32 → Mem → Option (Mem)} (hk154 : ∀ (a : Int32 × Int32 × Int32 × Int32 × Int32 × Int32) (M : Mem), k154 a M = some q → Fr 200 21 6 m_X12_turns 154 [(0, .ref 200), (1, .int a.1), (2, .int a.2.1), (3, .int a.2.2.1), (4, .int a.2.2.2.1), (5, .int a.2.2.2.2.1), (6, .int a.2.2.2.2.2)] [] M (QV q)) {v1 : Int32} {v2 : Int32} {v3 : Int32} {v4 : Int32} {v5 : Int32} {v6 : Int32} {M : Mem} (h : f_X12_turns_h154 N k45 k138 k154 v1 v2 v3 v4 v5 v6 M = some q) : Fr 200 21 6 m_X12_turns 154 [(0, .ref 200), (1, .int v1), (2, .int v2), (3, .int v3), (4, .int v4), (5, .int v5), (6, .int v6)] [] M (QV q) := by
  unfold f_X12_turns_h154 at h
  refine Fr_iload (i := 6) 6 (by decide +kernel) rfl ?_
  refine Fr_sipush (i := 163) (v := 163) (by decide +kernel) (by decide) ?_
  refine Fr_icmp_ge (off := 23) 182 (by decide +kernel) (by decide) (fun hc => ?_) (fun hc => ?_)
  · have h := iT hc h
    refine Fr_aload_n (q := 0) (i := 0) 0 (by decide +kernel) rfl rfl ?_
    refine gf_X12_35 rfl (by decide +kernel) ob_200 ?_
    refine Fr_bipush (i := 10) (v := 10) (by decide +kernel) (by decide) ?_
    refine Fr_iload (i := 5) 5 (by decide +kernel) rfl ?_
    obtain ⟨hi_14, h⟩ := ck_elim h
    refine Fr_iast (by decide +kernel) ob_205 (vp_of ln_205 hi_14) ?_
    obtain ⟨M_15, eM_15, h⟩ := bM_elim h
    refine Fr_mem eM_15 ?_
    refine Fr_aload_n (q := 0) (i := 0) 0 (by decide +kernel) rfl rfl ?_
    refine Fr_iload_n (q := 2) (i := 2) 2 (by decide +kernel) rfl rfl ?_
    refine Fr_iload (i := 4) 4 (by decide +kernel) rfl ?_
    refine Fr_iconst (i := (-1)) (v := (-1)) (by decide +kernel) (by decide) ?_
    refine Fr_ixor (by decide +kernel) ?_
    refine Fr_iand (by decide +kernel) ?_
    refine Fr_aload_n (q := 0) (i := 0) 0 (by decide +kernel) rfl rfl ?_
    refine Fr_iload_n (q := 1) (i := 1) 1 (by decide +kernel) rfl rfl ?_
    refine Fr_iconst (i := 1) (v := 1) (by decide +kernel) (by decide) ?_
    refine Fr_iadd (by decide +kernel) ?_
    refine Fr_bipush (i := 24) (v := 24) (by decide +kernel) (by decide) ?_
    obtain ⟨r_18, M_16, hc_17, h⟩ := bi_elim h
    refine Fr_cVi (ν := m_X12_fails) (As := [.int (v1 + 1), .int 24]) (st := [.int (v2 &&& (v4 ^^^ (-1))), .ref 200]) (rc := 200) (ci := 12) (d' := 5) (by decide +kernel) ml_X12_452 cv_X12_fails rfl (by decide) rfl ob_200 rfl (by decide) (Nat.le_of_ble_eq_true rfl) (t_X12_fails hc_17) ?_
    refine Fr_iconst (i := (-1)) (v := (-1)) (by decide +kernel) (by decide) ?_
    refine Fr_ixor (by decide +kernel) ?_
    refine Fr_iand (by decide +kernel) ?_
    obtain ⟨r_21, M_19, hc_20, h⟩ := bi_elim h
    refine Fr_cVi (ν := m_X12_paidFor) (As := [.int ((v2 &&& (v4 ^^^ (-1))) &&& (r_18 ^^^ (-1)))]) (st := []) (rc := 200) (ci := 12) (d' := 1) (by decide +kernel) ml_X12_458 cv_X12_paidFor rfl (by decide) rfl ob_200 rfl (by decide) (Nat.le_of_ble_eq_true rfl) (t_X12_paidFor hc_20) ?_
    refine Fr_istore (i := 6) (lv' := [(6, .int r_21), (0, .ref 200), (1, .int v1), (2, .int v2), (3, .int v3), (4, .int v4), (5, .int v5)]) (by decide +kernel) (by decide) rfl ?_
    refine Fr_iload (i := 6) 0 (by decide +kernel) rfl ?_
    refine Fr_aload_n (q := 0) (i := 0) 1 (by decide +kernel) rfl rfl ?_
    refine gf_X12_461 rfl (by decide +kernel) ob_200 ?_
    refine Fr_icmp_gt (off := 6) 227 (by decide +kernel) (by decide) (fun hc => ?_) (fun hc => ?_)
    · have h := iT hc h
      refine Fr_aload_n (q := 0) (i := 0) 1 (by decide +kernel) rfl rfl ?_
      refine Fr_iload (i := 6) 0 (by decide +kernel) rfl ?_
      refine pf_X12_461 rfl (by decide +kernel) ob_200 ?_
      obtain ⟨M_22, eM_22, h⟩ := bM_elim h
      refine Fr_mem eM_22 ?_
      refine Fr_aload_n (q := 0) (i := 0) 1 (by decide +kernel) rfl rfl ?_
      refine Fr_iload_n (q := 3) (i := 3) 4 (by decide +kernel) rfl rfl ?_
      refine pf_X12_467 rfl (by decide +kernel) ob_200 ?_
      obtain ⟨M_23, eM_23, h⟩ := bM_elim h
      refine Fr_mem eM_23 ?_
      refine Fr_aload_n (q := 0) (i := 0) 1 (by decide +kernel) rfl rfl ?_
      refine Fr_iload (i := 5) 6 (by decide +kernel) rfl ?_
      refine pf_X12_473 rfl (by decide +kernel) ob_200 ?_
      obtain ⟨M_24, eM_24, h⟩ := bM_elim h
      refine Fr_mem eM_24 ?_
      refine Fr_loc [1, 2, 3, 4, 5, 6] rfl ?_
      exact t_X12_turns_b244 hk45 hk138 h
    · have h := iF hc h
      refine Fr_goto (off := 20) 244 (by decide +kernel) (by decide) ?_
      refine Fr_loc [1, 2, 3, 4, 5, 6] rfl ?_
      exact t_X12_turns_b244 hk45 hk138 h
  · have h := iF hc h
    refine Fr_aload_n (q := 0) (i := 0) 0 (by decide +kernel) rfl rfl ?_
    refine gf_X12_35 rfl (by decide +kernel) ob_200 ?_
    refine Fr_iload (i := 6) 6 (by decide +kernel) rfl ?_
    refine Fr_aload_n (q := 0) (i := 0) 0 (by decide +kernel) rfl rfl ?_
    refine gf_X12_50 rfl (by decide +kernel) ob_200 ?_
    refine Fr_iload (i := 6) 6 (by decide +kernel) rfl ?_
    obtain ⟨hi_25, h⟩ := ck_elim h
    refine Fr_iald (by decide +kernel) ob_210 (vp_of ln_210 hi_25) ?_
    obtain ⟨hi_26, h⟩ := ck_elim h
    refine Fr_iast (by decide +kernel) ob_205 (vp_of ln_205 hi_26) ?_
    obtain ⟨M_27, eM_27, h⟩ := bM_elim h
    refine Fr_mem eM_27 ?_
    refine Fr_iinc (i := 6) (j := 1) (v := (v6 + 1)) (lv' := [(6, .int (v6 + 1)), (0, .ref 200), (1, .int v1), (2, .int v2), (3, .int v3), (4, .int v4), (5, .int v5)]) 6 (by decide +kernel) rfl rfl (by decide) rfl ?_
    refine Fr_goto (off := (-25)) 154 (by decide +kernel) (by decide) ?_
    refine Fr_loc [1, 2, 3, 4, 5, 6, 0] rfl ?_
    exact hk154 (v1, v2, v3, v4, v5, (v6 + 1)) M_27 h
set_option maxRecDepth 20000 in
theorem t_X12_turns_h138 {N : Nat} {q : Mem} {k45 : Int32 × Int32 × Int32 → Mem → Option (Mem)} (hk45 : ∀ (a : Int32 × Int32 × Int32) (M : Mem), k45 a M = some q → Fr 200 21 6 m_X12_turns 45 [(0, .ref 200), (1, .int a.1), (2, .int a.2.1), (3, .int a.2.2)] [] M (QV q)) {k138 : Int32 × Int32 × Int32 × Int32 × Int32 → Mem → Option (Mem)} (hk138 : ∀ (a : Int32 × Int32 × Int32 × Int32 × Int32) (M : Mem), k138 a M = some q → Fr 200 21 6 m_X12_turns 138 [(0, .ref 200), (1, .int a.1), (2, .int a.2.1), (3, .int a.2.2.1), (4, .int a.2.2.2.1), (5, .int a.2.2.2.2)] [] M (QV q)) {v1 : Int32} {v2 : Int32} {v3 : Int32} {v4 : Int32} {v5 : Int32} {M : Mem} (h : f_X12_turns_h138 N k45 k138 v1 v2 v3 v4 v5 M = some q) : Fr 200 21 6 m_X12_turns 138 [(0, .ref 200), (1, .int v1), (2, .int v2), (3, .int v3), (4, .int v4), (5, .int v5)] [] M (QV q) := by
  unfold f_X12_turns_h138 at h
  refine Fr_iload (i := 5) 5 (by decide +kernel) rfl ?_
  refine Fr_iconst (i := 1) (v := 1) (by decide +kernel) (by decide) ?_
  refine Fr_aload_n (q := 0) (i := 0) 0 (by decide +kernel) rfl rfl ?_
  refine gf_X12_35 rfl (by decide +kernel) ob_200 ?_
  refine Fr_iconst (i := 2) (v := 2) (by decide +kernel) (by decide) ?_
  obtain ⟨hi_13, h⟩ := ck_elim h
  refine Fr_iald (by decide +kernel) ob_205 (vp_of ln_205 hi_13) ?_
  refine Fr_ishl (by decide +kernel) ?_
  refine Fr_icmp_ge (off := 102) 250 (by decide +kernel) (by decide) (fun hc => ?_) (fun hc => ?_)
  · have h := iT hc h
    refine Fr_iinc (i := 3) (j := 1) (v := (v3 + 1)) (lv' := [(3, .int (v3 + 1)), (0, .ref 200), (1, .int v1), (2, .int v2), (4, .int v4), (5, .int v5)]) 3 (by decide +kernel) rfl rfl (by decide) rfl ?_
    refine Fr_goto (off := (-208)) 45 (by decide +kernel) (by decide) ?_
    refine Fr_loc [1, 2, 3, 0] rfl ?_
    exact hk45 (v1, v2, (v3 + 1)) M h
  · have h := iF hc h
    refine Fr_iconst (i := 0) (v := 0) (by decide +kernel) (by decide) ?_
    refine Fr_istore (i := 6) (lv' := [(6, .int 0), (0, .ref 200), (1, .int v1), (2, .int v2), (3, .int v3), (4, .int v4), (5, .int v5)]) (by decide +kernel) (by decide) rfl ?_
    refine Fr_loc [1, 2, 3, 4, 5, 6, 0] rfl ?_
    exact lp_sound (body := fun k a m => f_X12_turns_h154 N k45 k138 k a.1 a.2.1 a.2.2.1 a.2.2.2.1 a.2.2.2.2.1 a.2.2.2.2.2 m) (P := fun a M => Fr 200 21 6 m_X12_turns 154 [(0, .ref 200), (1, .int a.1), (2, .int a.2.1), (3, .int a.2.2.1), (4, .int a.2.2.2.1), (5, .int a.2.2.2.2.1), (6, .int a.2.2.2.2.2)] [] M (QV q)) (fun k hk a m h => t_X12_turns_h154 hk45 hk138 hk h) N (v1, v2, v3, v4, v5, 0) M h
set_option maxRecDepth 20000 in
theorem t_X12_turns_h107 {N : Nat} {q : Mem} {k45 : Int32 × Int32 × Int32 → Mem → Option (Mem)} (hk45 : ∀ (a : Int32 × Int32 × Int32) (M : Mem), k45 a M = some q → Fr 200 21 6 m_X12_turns 45 [(0, .ref 200), (1, .int a.1), (2, .int a.2.1), (3, .int a.2.2)] [] M (QV q)) {k107 : Int32 × Int32 × Int32 × Int32 × Int32 → Mem → Option (Mem)} (hk107 : ∀ (a : Int32 × Int32 × Int32 × Int32 × Int32) (M : Mem), k107 a M = some q → Fr 200 21 6 m_X12_turns 107 [(0, .ref 200), (1, .int a.1), (2, .int a.2.1), (3, .int a.2.2.1), (4, .int a.2.2.2.1), (5, .int a.2.2.2.2)] [] M (QV q)) {v1 : Int32} {v2 : Int32} {v3 : Int32} {v4 : Int32} {v5 : Int32} {M : Mem} (h : f_X12_turns_h107 N k45 k107 v1 v2 v3 v4 v5 M = some q) : Fr 200 21 6 m_X12_turns 107 [(0, .ref 200), (1, .int v1), (2, .int v2), (3, .int v3), (4, .int v4), (5, .int v5)] [] M (QV q) := by
  unfold f_X12_turns_h107 at h
  refine Fr_iload (i := 5) 5 (by decide +kernel) rfl ?_
  refine Fr_sipush (i := 163) (v := 163) (by decide +kernel) (by decide) ?_
  refine Fr_icmp_ge (off := 23) 135 (by decide +kernel) (by decide) (fun hc => ?_) (fun hc => ?_)
  · have h := iT hc h
    refine Fr_iconst (i := 0) (v := 0) (by decide +kernel) (by decide) ?_
    refine Fr_istore (i := 5) (lv' := [(5, .int 0), (0, .ref 200), (1, .int v1), (2, .int v2), (3, .int v3), (4, .int v4)]) (by decide +kernel) (by decide) rfl ?_
    refine Fr_loc [1, 2, 3, 4, 5, 0] rfl ?_
    exact lp_sound (body := fun k a m => f_X12_turns_h138 N k45 k a.1 a.2.1 a.2.2.1 a.2.2.2.1 a.2.2.2.2 m) (P := fun a M => Fr 200 21 6 m_X12_turns 138 [(0, .ref 200), (1, .int a.1), (2, .int a.2.1), (3, .int a.2.2.1), (4, .int a.2.2.2.1), (5, .int a.2.2.2.2)] [] M (QV q)) (fun k hk a m h => t_X12_turns_h138 hk45 hk h) N (v1, v2, v3, v4, 0) M h
  · have h := iF hc h
    refine Fr_aload_n (q := 0) (i := 0) 0 (by decide +kernel) rfl rfl ?_
    refine gf_X12_50 rfl (by decide +kernel) ob_200 ?_
    refine Fr_iload (i := 5) 5 (by decide +kernel) rfl ?_
    refine Fr_aload_n (q := 0) (i := 0) 0 (by decide +kernel) rfl rfl ?_
    refine gf_X12_35 rfl (by decide +kernel) ob_200 ?_
    refine Fr_iload (i := 5) 5 (by decide +kernel) rfl ?_
    obtain ⟨hi_28, h⟩ := ck_elim h
    refine Fr_iald (by decide +kernel) ob_205 (vp_of ln_205 hi_28) ?_
    obtain ⟨hi_29, h⟩ := ck_elim h
    refine Fr_iast (by decide +kernel) ob_210 (vp_of ln_210 hi_29) ?_
    obtain ⟨M_30, eM_30, h⟩ := bM_elim h
    refine Fr_mem eM_30 ?_
    refine Fr_iinc (i := 5) (j := 1) (v := (v5 + 1)) (lv' := [(5, .int (v5 + 1)), (0, .ref 200), (1, .int v1), (2, .int v2), (3, .int v3), (4, .int v4)]) 5 (by decide +kernel) rfl rfl (by decide) rfl ?_
    refine Fr_goto (off := (-25)) 107 (by decide +kernel) (by decide) ?_
    refine Fr_loc [1, 2, 3, 4, 5, 0] rfl ?_
    exact hk107 (v1, v2, v3, v4, (v5 + 1)) M_30 h
set_option maxRecDepth 20000 in
theorem t_X12_turns_h60 {N : Nat} {q : Mem} {k45 : Int32 × Int32 × Int32 → Mem → Option (Mem)} (hk45 : ∀ (a : Int32 × Int32 × Int32) (M : Mem), k45 a M = some q → Fr 200 21 6 m_X12_turns 45 [(0, .ref 200), (1, .int a.1), (2, .int a.2.1), (3, .int a.2.2)] [] M (QV q)) {k60 : Int32 × Int32 × Int32 × Int32 → Mem → Option (Mem)} (hk60 : ∀ (a : Int32 × Int32 × Int32 × Int32) (M : Mem), k60 a M = some q → Fr 200 21 6 m_X12_turns 60 [(0, .ref 200), (1, .int a.1), (2, .int a.2.1), (3, .int a.2.2.1), (4, .int a.2.2.2)] [] M (QV q)) {v1 : Int32} {v2 : Int32} {v3 : Int32} {v4 : Int32} {M : Mem} (h : f_X12_turns_h60 N k45 k60 v1 v2 v3 v4 M = some q) : Fr 200 21 6 m_X12_turns 60 [(0, .ref 200), (1, .int v1), (2, .int v2), (3, .int v3), (4, .int v4)] [] M (QV q) := by
  unfold f_X12_turns_h60 at h
  refine Fr_iload (i := 4) 4 (by decide +kernel) rfl ?_
  refine Fr_sipush (i := 163) (v := 163) (by decide +kernel) (by decide) ?_
  refine Fr_icmp_ge (off := 23) 88 (by decide +kernel) (by decide) (fun hc => ?_) (fun hc => ?_)
  · have h := iT hc h
    refine Fr_aload_n (q := 0) (i := 0) 0 (by decide +kernel) rfl rfl ?_
    refine gf_X12_35 rfl (by decide +kernel) ob_200 ?_
    refine Fr_bipush (i := 10) (v := 10) (by decide +kernel) (by decide) ?_
    refine Fr_iload_n (q := 3) (i := 3) 3 (by decide +kernel) rfl rfl ?_
    obtain ⟨hi_8, h⟩ := ck_elim h
    refine Fr_iast (by decide +kernel) ob_205 (vp_of ln_205 hi_8) ?_
    obtain ⟨M_9, eM_9, h⟩ := bM_elim h
    refine Fr_mem eM_9 ?_
    refine Fr_aload_n (q := 0) (i := 0) 0 (by decide +kernel) rfl rfl ?_
    refine Fr_iconst (i := 1) (v := 1) (by decide +kernel) (by decide) ?_
    refine Fr_iload_n (q := 1) (i := 1) 1 (by decide +kernel) rfl rfl ?_
    obtain ⟨r_12, M_10, hc_11, h⟩ := bi_elim h
    refine Fr_cVi (ν := m_X12_fails) (As := [.int 1, .int v1]) (st := []) (rc := 200) (ci := 12) (d' := 5) (by decide +kernel) ml_X12_452 cv_X12_fails rfl (by decide) rfl ob_200 rfl (by decide) (Nat.le_of_ble_eq_true rfl) (t_X12_fails hc_11) ?_
    refine Fr_istore (i := 4) (lv' := [(4, .int r_12), (0, .ref 200), (1, .int v1), (2, .int v2), (3, .int v3)]) (by decide +kernel) (by decide) rfl ?_
    refine Fr_iconst (i := 0) (v := 0) (by decide +kernel) (by decide) ?_
    refine Fr_istore (i := 5) (lv' := [(5, .int 0), (4, .int r_12), (0, .ref 200), (1, .int v1), (2, .int v2), (3, .int v3)]) (by decide +kernel) (by decide) rfl ?_
    refine Fr_loc [2, 3, 4, 5, 1, 0] rfl ?_
    exact lp_sound (body := fun k a m => f_X12_turns_h107 N k45 k a.1 a.2.1 a.2.2.1 a.2.2.2.1 a.2.2.2.2 m) (P := fun a M => Fr 200 21 6 m_X12_turns 107 [(0, .ref 200), (1, .int a.1), (2, .int a.2.1), (3, .int a.2.2.1), (4, .int a.2.2.2.1), (5, .int a.2.2.2.2)] [] M (QV q)) (fun k hk a m h => t_X12_turns_h107 hk45 hk h) N (v1, v2, v3, r_12, 0) M_10 h
  · have h := iF hc h
    refine Fr_aload_n (q := 0) (i := 0) 0 (by decide +kernel) rfl rfl ?_
    refine gf_X12_35 rfl (by decide +kernel) ob_200 ?_
    refine Fr_iload (i := 4) 4 (by decide +kernel) rfl ?_
    refine Fr_aload_n (q := 0) (i := 0) 0 (by decide +kernel) rfl rfl ?_
    refine gf_X12_41 rfl (by decide +kernel) ob_200 ?_
    refine Fr_iload (i := 4) 4 (by decide +kernel) rfl ?_
    obtain ⟨hi_31, h⟩ := ck_elim h
    refine Fr_iald (by decide +kernel) ob_207 (vp_of ln_207 hi_31) ?_
    obtain ⟨hi_32, h⟩ := ck_elim h
    refine Fr_iast (by decide +kernel) ob_205 (vp_of ln_205 hi_32) ?_
    obtain ⟨M_33, eM_33, h⟩ := bM_elim h
    refine Fr_mem eM_33 ?_
    refine Fr_iinc (i := 4) (j := 1) (v := (v4 + 1)) (lv' := [(4, .int (v4 + 1)), (0, .ref 200), (1, .int v1), (2, .int v2), (3, .int v3)]) 4 (by decide +kernel) rfl rfl (by decide) rfl ?_
    refine Fr_goto (off := (-25)) 60 (by decide +kernel) (by decide) ?_
    refine Fr_loc [1, 2, 3, 4, 0] rfl ?_
    exact hk60 (v1, v2, v3, (v4 + 1)) M_33 h
set_option maxRecDepth 20000 in
theorem t_X12_turns_h45 {N : Nat} {q : Mem} {k45 : Int32 × Int32 × Int32 → Mem → Option (Mem)} (hk45 : ∀ (a : Int32 × Int32 × Int32) (M : Mem), k45 a M = some q → Fr 200 21 6 m_X12_turns 45 [(0, .ref 200), (1, .int a.1), (2, .int a.2.1), (3, .int a.2.2)] [] M (QV q)) {v1 : Int32} {v2 : Int32} {v3 : Int32} {M : Mem} (h : f_X12_turns_h45 N k45 v1 v2 v3 M = some q) : Fr 200 21 6 m_X12_turns 45 [(0, .ref 200), (1, .int v1), (2, .int v2), (3, .int v3)] [] M (QV q) := by
  unfold f_X12_turns_h45 at h
  refine Fr_iload_n (q := 3) (i := 3) 3 (by decide +kernel) rfl rfl ?_
  refine Fr_iconst (i := 1) (v := 1) (by decide +kernel) (by decide) ?_
  refine Fr_aload_n (q := 0) (i := 0) 0 (by decide +kernel) rfl rfl ?_
  refine gf_X12_35 rfl (by decide +kernel) ob_200 ?_
  refine Fr_iconst (i := 2) (v := 2) (by decide +kernel) (by decide) ?_
  obtain ⟨hi_4, h⟩ := ck_elim h
  refine Fr_iald (by decide +kernel) ob_205 (vp_of ln_205 hi_4) ?_
  refine Fr_ishl (by decide +kernel) ?_
  refine Fr_icmp_ge (off := 202) 256 (by decide +kernel) (by decide) (fun hc => ?_) (fun hc => ?_)
  · have h := iT hc h
    refine Fr_iconst (i := 0) (v := 0) (by decide +kernel) (by decide) ?_
    refine Fr_istore_n (q := 3) (i := 3) (lv' := [(3, .int 0), (0, .ref 200), (1, .int v1), (2, .int v2)]) (by decide +kernel) rfl (by decide) rfl ?_
    refine Fr_loc [1, 0] rfl ?_
    exact lp_sound (body := fun k a m => f_X12_turns_h258 N k a m) (P := fun a M => Fr 200 21 6 m_X12_turns 258 [(0, .ref 200), (3, .int a)] [] M (QV q)) (fun k hk a m h => t_X12_turns_h258 hk h) N 0 M h
  · have h := iF hc h
    refine Fr_iconst (i := 0) (v := 0) (by decide +kernel) (by decide) ?_
    refine Fr_istore (i := 4) (lv' := [(4, .int 0), (0, .ref 200), (1, .int v1), (2, .int v2), (3, .int v3)]) (by decide +kernel) (by decide) rfl ?_
    refine Fr_loc [1, 2, 3, 4, 0] rfl ?_
    exact lp_sound (body := fun k a m => f_X12_turns_h60 N k45 k a.1 a.2.1 a.2.2.1 a.2.2.2 m) (P := fun a M => Fr 200 21 6 m_X12_turns 60 [(0, .ref 200), (1, .int a.1), (2, .int a.2.1), (3, .int a.2.2.1), (4, .int a.2.2.2)] [] M (QV q)) (fun k hk a m h => t_X12_turns_h60 hk45 hk h) N (v1, v2, v3, 0) M h
set_option maxRecDepth 20000 in
theorem t_X12_turns_h18 {N : Nat} {q : Mem} {k18 : Int32 × Int32 × Int32 → Mem → Option (Mem)} (hk18 : ∀ (a : Int32 × Int32 × Int32) (M : Mem), k18 a M = some q → Fr 200 21 6 m_X12_turns 18 [(0, .ref 200), (1, .int a.1), (2, .int a.2.1), (3, .int a.2.2)] [] M (QV q)) {v1 : Int32} {v2 : Int32} {v3 : Int32} {M : Mem} (h : f_X12_turns_h18 N k18 v1 v2 v3 M = some q) : Fr 200 21 6 m_X12_turns 18 [(0, .ref 200), (1, .int v1), (2, .int v2), (3, .int v3)] [] M (QV q) := by
  unfold f_X12_turns_h18 at h
  refine Fr_iload_n (q := 3) (i := 3) 3 (by decide +kernel) rfl rfl ?_
  refine Fr_sipush (i := 163) (v := 163) (by decide +kernel) (by decide) ?_
  refine Fr_icmp_ge (off := 21) 43 (by decide +kernel) (by decide) (fun hc => ?_) (fun hc => ?_)
  · have h := iT hc h
    refine Fr_iconst (i := 0) (v := 0) (by decide +kernel) (by decide) ?_
    refine Fr_istore_n (q := 3) (i := 3) (lv' := [(3, .int 0), (0, .ref 200), (1, .int v1), (2, .int v2)]) (by decide +kernel) rfl (by decide) rfl ?_
    refine Fr_loc [1, 2, 3, 0] rfl ?_
    exact lp_sound (body := fun k a m => f_X12_turns_h45 N k a.1 a.2.1 a.2.2 m) (P := fun a M => Fr 200 21 6 m_X12_turns 45 [(0, .ref 200), (1, .int a.1), (2, .int a.2.1), (3, .int a.2.2)] [] M (QV q)) (fun k hk a m h => t_X12_turns_h45 hk h) N (v1, v2, 0) M h
  · have h := iF hc h
    refine Fr_aload_n (q := 0) (i := 0) 0 (by decide +kernel) rfl rfl ?_
    refine gf_X12_41 rfl (by decide +kernel) ob_200 ?_
    refine Fr_iload_n (q := 3) (i := 3) 3 (by decide +kernel) rfl rfl ?_
    refine Fr_aload_n (q := 0) (i := 0) 0 (by decide +kernel) rfl rfl ?_
    refine gf_X12_35 rfl (by decide +kernel) ob_200 ?_
    refine Fr_iload_n (q := 3) (i := 3) 3 (by decide +kernel) rfl rfl ?_
    obtain ⟨hi_34, h⟩ := ck_elim h
    refine Fr_iald (by decide +kernel) ob_205 (vp_of ln_205 hi_34) ?_
    obtain ⟨hi_35, h⟩ := ck_elim h
    refine Fr_iast (by decide +kernel) ob_207 (vp_of ln_207 hi_35) ?_
    obtain ⟨M_36, eM_36, h⟩ := bM_elim h
    refine Fr_mem eM_36 ?_
    refine Fr_iinc (i := 3) (j := 1) (v := (v3 + 1)) (lv' := [(3, .int (v3 + 1)), (0, .ref 200), (1, .int v1), (2, .int v2)]) 3 (by decide +kernel) rfl rfl (by decide) rfl ?_
    refine Fr_goto (off := (-22)) 18 (by decide +kernel) (by decide) ?_
    refine Fr_loc [1, 2, 3, 0] rfl ?_
    exact hk18 (v1, v2, (v3 + 1)) M_36 h
set_option maxRecDepth 20000 in
theorem t_X12_turns {N : Nat} {x1 : Int32} {M : Mem} {q : Mem} (h : f_X12_turns N x1 M = some q) : Ev 200 21 6 m_X12_turns [.ref 200, .int x1] M (QV q) := by
  refine Ev_of_Fr (by decide +kernel) (Nat.le_of_ble_eq_true rfl) ?_
  show Fr 200 21 6 m_X12_turns 0 [(0, .ref 200), (1, .int x1)] [] M (QV q)
  unfold f_X12_turns at h
  refine Fr_iconst (i := 1) (v := 1) (by decide +kernel) (by decide) ?_
  refine Fr_aload_n (q := 0) (i := 0) 0 (by decide +kernel) rfl rfl ?_
  refine gf_X12_35 rfl (by decide +kernel) ob_200 ?_
  refine Fr_iconst (i := 4) (v := 4) (by decide +kernel) (by decide) ?_
  obtain ⟨hi_1, h⟩ := ck_elim h
  refine Fr_iald (by decide +kernel) ob_205 (vp_of ln_205 hi_1) ?_
  refine Fr_ishl (by decide +kernel) ?_
  refine Fr_iconst (i := 1) (v := 1) (by decide +kernel) (by decide) ?_
  refine Fr_isub (by decide +kernel) ?_
  obtain ⟨y_2, ey_2, h⟩ := bI_elim h
  refine Fr_topI ey_2 ?_
  refine Fr_istore_n (q := 2) (i := 2) (lv' := [(2, .int y_2), (0, .ref 200), (1, .int x1)]) (by decide +kernel) rfl (by decide) rfl ?_
  refine Fr_aload_n (q := 0) (i := 0) 1 (by decide +kernel) rfl rfl ?_
  refine Fr_iconst (i := (-1)) (v := (-1)) (by decide +kernel) (by decide) ?_
  refine pf_X12_461 rfl (by decide +kernel) ob_200 ?_
  obtain ⟨M_3, eM_3, h⟩ := bM_elim h
  refine Fr_mem eM_3 ?_
  refine Fr_iconst (i := 0) (v := 0) (by decide +kernel) (by decide) ?_
  refine Fr_istore_n (q := 3) (i := 3) (lv' := [(3, .int 0), (2, .int y_2), (0, .ref 200), (1, .int x1)]) (by decide +kernel) rfl (by decide) rfl ?_
  refine Fr_loc [2, 3, 1, 0] rfl ?_
  exact lp_sound (body := fun k a m => f_X12_turns_h18 N k a.1 a.2.1 a.2.2 m) (P := fun a M => Fr 200 21 6 m_X12_turns 18 [(0, .ref 200), (1, .int a.1), (2, .int a.2.1), (3, .int a.2.2)] [] M (QV q)) (fun k hk a m h => t_X12_turns_h18 hk h) N (x1, y_2, 0) M_3 h
set_option maxRecDepth 20000 in
theorem t_X12_turn {N : Nat} {x1 : Int32} {M : Mem} {q : Int32 × Mem} (h : f_X12_turn N x1 M = some q) : Ev 200 21 7 m_X12_turn [.ref 200, .int x1] M (QI q) := by
  refine Ev_of_Fr (by decide +kernel) (Nat.le_of_ble_eq_true rfl) ?_
  show Fr 200 21 7 m_X12_turn 0 [(0, .ref 200), (1, .int x1)] [] M (QI q)
  unfold f_X12_turn at h
  refine Fr_aload_n (q := 0) (i := 0) 0 (by decide +kernel) rfl rfl ?_
  refine Fr_iconst (i := 0) (v := 0) (by decide +kernel) (by decide) ?_
  refine pf_X12_84 rfl (by decide +kernel) ob_200 ?_
  obtain ⟨M_1, eM_1, h⟩ := bM_elim h
  refine Fr_mem eM_1 ?_
  refine Fr_aload_n (q := 0) (i := 0) 0 (by decide +kernel) rfl rfl ?_
  refine Fr_iconst (i := 0) (v := 0) (by decide +kernel) (by decide) ?_
  refine pf_X12_87 rfl (by decide +kernel) ob_200 ?_
  obtain ⟨M_2, eM_2, h⟩ := bM_elim h
  refine Fr_mem eM_2 ?_
  refine Fr_iload_n (q := 1) (i := 1) 1 (by decide +kernel) rfl rfl ?_
  refine Fr_i2l (by decide +kernel) ?_
  refine Fr_lconst (i := 1) (v := 1) (by decide +kernel) (by decide) ?_
  refine Fr_ldc2 (idx := 476) (v := 23) (by decide +kernel) ll_X12_476 ?_
  obtain ⟨r_5, M_3, hc_4, h⟩ := bi_elim h
  refine Fr_cSb (ν := m_X12_isIn) (As := [.long (Int32.toInt64 x1), .long 1, .long 23]) (st := []) (d' := 0) (by decide +kernel) ml_X12_119 cs_X12_isIn rfl (by decide) (Nat.le_of_ble_eq_true rfl) (t_X12_isIn hc_4) ?_
  refine Fr_if_ne (off := 9) 28 (by decide +kernel) (by decide) (fun hc => ?_) (fun hc => ?_)
  · have h := iF hc h
    refine Fr_aload_n (q := 0) (i := 0) 0 (by decide +kernel) rfl rfl ?_
    refine Fr_iload_n (q := 1) (i := 1) 1 (by decide +kernel) rfl rfl ?_
    obtain ⟨M_6, hc_7, h⟩ := bv_elim h
    refine Fr_cVv (ν := m_X12_turns) (As := [.int x1]) (st := []) (rc := 200) (ci := 12) (d' := 6) (by decide +kernel) ml_X12_478 cv_X12_turns rfl (by decide) rfl ob_200 rfl (by decide) (Nat.le_of_ble_eq_true rfl) (t_X12_turns hc_7) ?_
    refine Fr_aload_n (q := 0) (i := 0) 0 (by decide +kernel) rfl rfl ?_
    refine gf_X12_461 rfl (by decide +kernel) ob_200 ?_
    obtain rfl := Option.some.inj h
    exact Fr_iret (by decide +kernel) rfl ⟨rfl, rfl⟩
  · have h := iT hc h
    refine Fr_aload_n (q := 0) (i := 0) 0 (by decide +kernel) rfl rfl ?_
    refine Fr_iconst (i := 5) (v := 5) (by decide +kernel) (by decide) ?_
    obtain ⟨r_10, M_8, hc_9, h⟩ := bi_elim h
    refine Fr_cVi (ν := m_X12_refuse) (As := [.int 5]) (st := []) (rc := 200) (ci := 12) (d' := 0) (by decide +kernel) ml_X12_371 cv_X12_refuse rfl (by decide) rfl ob_200 rfl (by decide) (Nat.le_of_ble_eq_true rfl) (t_X12_refuse hc_9) ?_
    obtain rfl := Option.some.inj h
    exact Fr_iret (by decide +kernel) rfl ⟨rfl, rfl⟩
set_option maxRecDepth 20000 in
theorem t_X12_turnSet {N : Nat} {x1 : Int32} {x2 : Int32} {M : Mem} {q : Int32 × Mem} (h : f_X12_turnSet N x1 x2 M = some q) : Ev 200 21 7 m_X12_turnSet [.ref 200, .int x1, .int x2] M (QI q) := by
  refine Ev_of_Fr (by decide +kernel) (Nat.le_of_ble_eq_true rfl) ?_
  show Fr 200 21 7 m_X12_turnSet 0 [(0, .ref 200), (1, .int x1), (2, .int x2)] [] M (QI q)
  unfold f_X12_turnSet at h
  refine Fr_aload_n (q := 0) (i := 0) 0 (by decide +kernel) rfl rfl ?_
  refine Fr_iconst (i := 0) (v := 0) (by decide +kernel) (by decide) ?_
  refine pf_X12_84 rfl (by decide +kernel) ob_200 ?_
  obtain ⟨M_1, eM_1, h⟩ := bM_elim h
  refine Fr_mem eM_1 ?_
  refine Fr_aload_n (q := 0) (i := 0) 0 (by decide +kernel) rfl rfl ?_
  refine Fr_iconst (i := 0) (v := 0) (by decide +kernel) (by decide) ?_
  refine pf_X12_87 rfl (by decide +kernel) ob_200 ?_
  obtain ⟨M_2, eM_2, h⟩ := bM_elim h
  refine Fr_mem eM_2 ?_
  refine Fr_iload_n (q := 1) (i := 1) 1 (by decide +kernel) rfl rfl ?_
  refine Fr_i2l (by decide +kernel) ?_
  refine Fr_lconst (i := 1) (v := 1) (by decide +kernel) (by decide) ?_
  refine Fr_ldc2 (idx := 476) (v := 23) (by decide +kernel) ll_X12_476 ?_
  obtain ⟨r_5, M_3, hc_4, h⟩ := bi_elim h
  refine Fr_cSb (ν := m_X12_isIn) (As := [.long (Int32.toInt64 x1), .long 1, .long 23]) (st := []) (d' := 0) (by decide +kernel) ml_X12_119 cs_X12_isIn rfl (by decide) (Nat.le_of_ble_eq_true rfl) (t_X12_isIn hc_4) ?_
  refine Fr_if_eq (off := 13) 32 (by decide +kernel) (by decide) (fun hc => ?_) (fun hc => ?_)
  · have h := iT hc h
    refine Fr_aload_n (q := 0) (i := 0) 0 (by decide +kernel) rfl rfl ?_
    refine Fr_iconst (i := 5) (v := 5) (by decide +kernel) (by decide) ?_
    obtain ⟨r_8, M_6, hc_7, h⟩ := bi_elim h
    refine Fr_cVi (ν := m_X12_refuse) (As := [.int 5]) (st := []) (rc := 200) (ci := 12) (d' := 0) (by decide +kernel) ml_X12_371 cv_X12_refuse rfl (by decide) rfl ob_200 rfl (by decide) (Nat.le_of_ble_eq_true rfl) (t_X12_refuse hc_7) ?_
    obtain rfl := Option.some.inj h
    exact Fr_iret (by decide +kernel) rfl ⟨rfl, rfl⟩
  · have h := iF hc h
    refine Fr_iload_n (q := 2) (i := 2) 2 (by decide +kernel) rfl rfl ?_
    refine Fr_i2l (by decide +kernel) ?_
    refine Fr_lconst (i := 0) (v := 0) (by decide +kernel) (by decide) ?_
    refine Fr_lconst (i := 1) (v := 1) (by decide +kernel) (by decide) ?_
    obtain ⟨r_11, M_9, hc_10, h⟩ := bi_elim h
    refine Fr_cSb (ν := m_X12_isIn) (As := [.long (Int32.toInt64 x2), .long 0, .long 1]) (st := []) (d' := 0) (by decide +kernel) ml_X12_119 cs_X12_isIn rfl (by decide) (Nat.le_of_ble_eq_true rfl) (t_X12_isIn hc_10) ?_
    refine Fr_if_ne (off := 9) 38 (by decide +kernel) (by decide) (fun hc => ?_) (fun hc => ?_)
    · have h := iF hc h
      refine Fr_aload_n (q := 0) (i := 0) 0 (by decide +kernel) rfl rfl ?_
      refine Fr_iload_n (q := 1) (i := 1) 1 (by decide +kernel) rfl rfl ?_
      obtain ⟨M_12, hc_13, h⟩ := bv_elim h
      refine Fr_cVv (ν := m_X12_turns) (As := [.int x1]) (st := []) (rc := 200) (ci := 12) (d' := 6) (by decide +kernel) ml_X12_478 cv_X12_turns rfl (by decide) rfl ob_200 rfl (by decide) (Nat.le_of_ble_eq_true rfl) (t_X12_turns hc_13) ?_
      refine Fr_iload_n (q := 2) (i := 2) 2 (by decide +kernel) rfl rfl ?_
      refine Fr_if_ne (off := 10) 54 (by decide +kernel) (by decide) (fun hc => ?_) (fun hc => ?_)
      · have h := iF hc h
        refine Fr_aload_n (q := 0) (i := 0) 0 (by decide +kernel) rfl rfl ?_
        refine gf_X12_473 rfl (by decide +kernel) ob_200 ?_
        obtain rfl := Option.some.inj h
        exact Fr_iret (by decide +kernel) rfl ⟨rfl, rfl⟩
      · have h := iT hc h
        refine Fr_aload_n (q := 0) (i := 0) 0 (by decide +kernel) rfl rfl ?_
        refine gf_X12_467 rfl (by decide +kernel) ob_200 ?_
        refine Fr_goto (off := 7) 58 (by decide +kernel) (by decide) ?_
        obtain rfl := Option.some.inj h
        exact Fr_iret (by decide +kernel) rfl ⟨rfl, rfl⟩
    · have h := iT hc h
      refine Fr_aload_n (q := 0) (i := 0) 0 (by decide +kernel) rfl rfl ?_
      refine Fr_iconst (i := 5) (v := 5) (by decide +kernel) (by decide) ?_
      obtain ⟨r_16, M_14, hc_15, h⟩ := bi_elim h
      refine Fr_cVi (ν := m_X12_refuse) (As := [.int 5]) (st := []) (rc := 200) (ci := 12) (d' := 0) (by decide +kernel) ml_X12_371 cv_X12_refuse rfl (by decide) rfl ob_200 rfl (by decide) (Nat.le_of_ble_eq_true rfl) (t_X12_refuse hc_15) ?_
      obtain rfl := Option.some.inj h
      exact Fr_iret (by decide +kernel) rfl ⟨rfl, rfl⟩
set_option maxRecDepth 20000 in
theorem t_X12_costOf_b34 {q : Int32 × Mem} {s0 : Int32} {s1 : Int32} {M : Mem} (h : f_X12_costOf_b34 s0 s1 M = some q) : Fr 200 21 2 m_X12_costOf 34 [] [.int s0, .int s1] M (QI q) := by
  unfold f_X12_costOf_b34 at h
  refine Fr_icmp_ne (off := 7) 41 (by decide +kernel) (by decide) (fun hc => ?_) (fun hc => ?_)
  · have h := iF hc h
    refine Fr_iconst (i := (-1)) (v := (-1)) (by decide +kernel) (by decide) ?_
    obtain rfl := Option.some.inj h
    exact Fr_iret (by decide +kernel) rfl ⟨rfl, rfl⟩
  · have h := iT hc h
    refine Fr_iconst (i := 1) (v := 1) (by decide +kernel) (by decide) ?_
    refine Fr_goto (off := 4) 42 (by decide +kernel) (by decide) ?_
    obtain rfl := Option.some.inj h
    exact Fr_iret (by decide +kernel) rfl ⟨rfl, rfl⟩
set_option maxRecDepth 20000 in
theorem t_X12_costOf {x1 : Int32} {x2 : Int32} {M : Mem} {q : Int32 × Mem} (h : f_X12_costOf x1 x2 M = some q) : Ev 200 21 2 m_X12_costOf [.ref 200, .int x1, .int x2] M (QI q) := by
  refine Ev_of_Fr (by decide +kernel) (Nat.le_of_ble_eq_true rfl) ?_
  show Fr 200 21 2 m_X12_costOf 0 [(0, .ref 200), (1, .int x1), (2, .int x2)] [] M (QI q)
  unfold f_X12_costOf at h
  refine Fr_iload_n (q := 2) (i := 2) 2 (by decide +kernel) rfl rfl ?_
  refine Fr_iconst (i := 2) (v := 2) (by decide +kernel) (by decide) ?_
  refine Fr_icmp_ne (off := 17) 19 (by decide +kernel) (by decide) (fun hc => ?_) (fun hc => ?_)
  · have h := iF hc h
    refine Fr_aload_n (q := 0) (i := 0) 0 (by decide +kernel) rfl rfl ?_
    refine Fr_iload_n (q := 1) (i := 1) 1 (by decide +kernel) rfl rfl ?_
    obtain ⟨r_3, M_1, hc_2, h⟩ := bi_elim h
    refine Fr_cVb (ν := m_X12_isFoggy) (As := [.int x1]) (st := []) (rc := 200) (ci := 12) (d' := 1) (by decide +kernel) ml_X12_366 cv_X12_isFoggy rfl (by decide) rfl ob_200 rfl (by decide) (Nat.le_of_ble_eq_true rfl) (t_X12_isFoggy hc_2) ?_
    refine Fr_iload_n (q := 2) (i := 2) 2 (by decide +kernel) rfl rfl ?_
    refine Fr_iconst (i := 1) (v := 1) (by decide +kernel) (by decide) ?_
    refine Fr_icmp_ne (off := 7) 33 (by decide +kernel) (by decide) (fun hc => ?_) (fun hc => ?_)
    · have h := iF hc h
      refine Fr_iconst (i := 0) (v := 0) (by decide +kernel) (by decide) ?_
      refine Fr_loc [] rfl ?_
      exact t_X12_costOf_b34 h
    · have h := iT hc h
      refine Fr_iconst (i := 1) (v := 1) (by decide +kernel) (by decide) ?_
      refine Fr_goto (off := 4) 34 (by decide +kernel) (by decide) ?_
      refine Fr_loc [] rfl ?_
      exact t_X12_costOf_b34 h
  · have h := iT hc h
    refine Fr_aload_n (q := 0) (i := 0) 0 (by decide +kernel) rfl rfl ?_
    refine Fr_iload_n (q := 1) (i := 1) 1 (by decide +kernel) rfl rfl ?_
    obtain ⟨r_6, M_4, hc_5, h⟩ := bi_elim h
    refine Fr_cVb (ν := m_X12_isFoggy) (As := [.int x1]) (st := []) (rc := 200) (ci := 12) (d' := 1) (by decide +kernel) ml_X12_366 cv_X12_isFoggy rfl (by decide) rfl ob_200 rfl (by decide) (Nat.le_of_ble_eq_true rfl) (t_X12_isFoggy hc_5) ?_
    refine Fr_if_eq (off := 7) 17 (by decide +kernel) (by decide) (fun hc => ?_) (fun hc => ?_)
    · have h := iT hc h
      refine Fr_iconst (i := 1) (v := 1) (by decide +kernel) (by decide) ?_
      obtain rfl := Option.some.inj h
      exact Fr_iret (by decide +kernel) rfl ⟨rfl, rfl⟩
    · have h := iF hc h
      refine Fr_iconst (i := 3) (v := 3) (by decide +kernel) (by decide) ?_
      refine Fr_goto (off := 4) 18 (by decide +kernel) (by decide) ?_
      obtain rfl := Option.some.inj h
      exact Fr_iret (by decide +kernel) rfl ⟨rfl, rfl⟩
