set_option maxRecDepth 20000 in
theorem t_X12_roads_b202 {N : Nat} {q : Int32 × Mem} {k151 : Int32 × Int32 × Int32 × Int32 → Mem → Option (Int32 × Mem)} (hk151 : ∀ (a : Int32 × Int32 × Int32 × Int32) (M : Mem), k151 a M = some q → Fr 200 21 65 m_X12_roads 151 [(0, .ref 200), (1, .int a.1), (2, .int a.2.1), (3, .int a.2.2.1), (4, .int a.2.2.2)] [] M (QI q)) {v1 : Int32} {v2 : Int32} {v4 : Int32} {s0 : Int32} {s1 : Int32} {M : Mem} (h : f_X12_roads_b202 N k151 v1 v2 v4 s0 s1 M = some q) : Fr 200 21 65 m_X12_roads 202 [(0, .ref 200), (1, .int v1), (2, .int v2), (4, .int v4)] [.int s0, .int s1] M (QI q) := by
  unfold f_X12_roads_b202 at h
  refine Fr_iadd (by decide +kernel) ?_
  refine Fr_istore_n (q := 3) (i := 3) (lv' := [(3, .int (s1 + s0)), (0, .ref 200), (1, .int v1), (2, .int v2), (4, .int v4)]) (by decide +kernel) rfl (by decide) rfl ?_
  refine Fr_iinc (i := 4) (j := 1) (v := (v4 + 1)) (lv' := [(4, .int (v4 + 1)), (3, .int (s1 + s0)), (0, .ref 200), (1, .int v1), (2, .int v2)]) 4 (by decide +kernel) rfl rfl (by decide) rfl ?_
  refine Fr_goto (off := (-56)) 151 (by decide +kernel) (by decide) ?_
  refine Fr_loc [2, 3, 4, 1, 0] rfl ?_
  exact hk151 (v1, v2, (s1 + s0), (v4 + 1)) M h
set_option maxRecDepth 20000 in
theorem t_X12_roads_h160 {N : Nat} {q : Int32 × Mem} {k151 : Int32 × Int32 × Int32 × Int32 → Mem → Option (Int32 × Mem)} (hk151 : ∀ (a : Int32 × Int32 × Int32 × Int32) (M : Mem), k151 a M = some q → Fr 200 21 65 m_X12_roads 151 [(0, .ref 200), (1, .int a.1), (2, .int a.2.1), (3, .int a.2.2.1), (4, .int a.2.2.2)] [] M (QI q)) {k160 : Int32 × Int32 × Int32 × Int32 × Int32 → Mem → Option (Int32 × Mem)} (hk160 : ∀ (a : Int32 × Int32 × Int32 × Int32 × Int32) (M : Mem), k160 a M = some q → Fr 200 21 65 m_X12_roads 160 [(0, .ref 200), (1, .int a.1), (2, .int a.2.1), (3, .int a.2.2.1), (4, .int a.2.2.2.1), (5, .int a.2.2.2.2)] [] M (QI q)) {v1 : Int32} {v2 : Int32} {v3 : Int32} {v4 : Int32} {v5 : Int32} {M : Mem} (h : f_X12_roads_h160 N k151 k160 v1 v2 v3 v4 v5 M = some q) : Fr 200 21 65 m_X12_roads 160 [(0, .ref 200), (1, .int v1), (2, .int v2), (3, .int v3), (4, .int v4), (5, .int v5)] [] M (QI q) := by
  unfold f_X12_roads_h160 at h
  refine Fr_iload (i := 5) 5 (by decide +kernel) rfl ?_
  refine Fr_bipush (i := 60) (v := 60) (by decide +kernel) (by decide) ?_
  refine Fr_icmp_ge (off := 17) 181 (by decide +kernel) (by decide) (fun hc => ?_) (fun hc => ?_)
  · have h := iT hc h
    refine Fr_iload_n (q := 3) (i := 3) 3 (by decide +kernel) rfl rfl ?_
    refine Fr_aload_n (q := 0) (i := 0) 0 (by decide +kernel) rfl rfl ?_
    refine Fr_iconst (i := 2) (v := 2) (by decide +kernel) (by decide) ?_
    refine Fr_iload_n (q := 1) (i := 1) 1 (by decide +kernel) rfl rfl ?_
    refine Fr_imul (by decide +kernel) ?_
    refine Fr_iconst (i := 1) (v := 1) (by decide +kernel) (by decide) ?_
    refine Fr_iadd (by decide +kernel) ?_
    refine Fr_iconst (i := 2) (v := 2) (by decide +kernel) (by decide) ?_
    refine Fr_iload_n (q := 2) (i := 2) 2 (by decide +kernel) rfl rfl ?_
    refine Fr_imul (by decide +kernel) ?_
    obtain ⟨r_6, M_4, hc_5, h⟩ := bi_elim h
    refine Fr_cVb (ν := m_X12_goesOn) (As := [.int ((2 * v1) + 1), .int (2 * v2)]) (st := [.int v3]) (rc := 200) (ci := 12) (d' := 64) (by decide +kernel) ml_X12_486 cv_X12_goesOn rfl (by decide) rfl ob_200 rfl (by decide) (Nat.le_of_ble_eq_true rfl) (t_X12_goesOn 64  hc_5) ?_
    refine Fr_if_eq (off := 7) 201 (by decide +kernel) (by decide) (fun hc => ?_) (fun hc => ?_)
    · have h := iT hc h
      refine Fr_iconst (i := 0) (v := 0) (by decide +kernel) (by decide) ?_
      refine Fr_loc [0, 1, 2, 4] rfl ?_
      exact t_X12_roads_b202 hk151 h
    · have h := iF hc h
      refine Fr_iconst (i := 1) (v := 1) (by decide +kernel) (by decide) ?_
      refine Fr_goto (off := 4) 202 (by decide +kernel) (by decide) ?_
      refine Fr_loc [0, 1, 2, 4] rfl ?_
      exact t_X12_roads_b202 hk151 h
  · have h := iF hc h
    refine Fr_aload_n (q := 0) (i := 0) 0 (by decide +kernel) rfl rfl ?_
    refine gf_X12_66 rfl (by decide +kernel) ob_200 ?_
    refine Fr_iload (i := 5) 5 (by decide +kernel) rfl ?_
    refine Fr_iconst (i := 0) (v := 0) (by decide +kernel) (by decide) ?_
    obtain ⟨hi_7, h⟩ := ck_elim h
    refine Fr_iast (by decide +kernel) ob_215 (vp_of ln_215 hi_7) ?_
    obtain ⟨M_8, eM_8, h⟩ := bM_elim h
    refine Fr_mem eM_8 ?_
    refine Fr_iinc (i := 5) (j := 1) (v := (v5 + 1)) (lv' := [(5, .int (v5 + 1)), (0, .ref 200), (1, .int v1), (2, .int v2), (3, .int v3), (4, .int v4)]) 5 (by decide +kernel) rfl rfl (by decide) rfl ?_
    refine Fr_goto (off := (-18)) 160 (by decide +kernel) (by decide) ?_
    refine Fr_loc [1, 2, 3, 4, 5, 0] rfl ?_
    exact hk160 (v1, v2, v3, v4, (v5 + 1)) M_8 h
set_option maxRecDepth 20000 in
theorem t_X12_roads_h151 {N : Nat} {q : Int32 × Mem} {k151 : Int32 × Int32 × Int32 × Int32 → Mem → Option (Int32 × Mem)} (hk151 : ∀ (a : Int32 × Int32 × Int32 × Int32) (M : Mem), k151 a M = some q → Fr 200 21 65 m_X12_roads 151 [(0, .ref 200), (1, .int a.1), (2, .int a.2.1), (3, .int a.2.2.1), (4, .int a.2.2.2)] [] M (QI q)) {v1 : Int32} {v2 : Int32} {v3 : Int32} {v4 : Int32} {M : Mem} (h : f_X12_roads_h151 N k151 v1 v2 v3 v4 M = some q) : Fr 200 21 65 m_X12_roads 151 [(0, .ref 200), (1, .int v1), (2, .int v2), (3, .int v3), (4, .int v4)] [] M (QI q) := by
  unfold f_X12_roads_h151 at h
  refine Fr_iload (i := 4) 4 (by decide +kernel) rfl ?_
  refine Fr_iconst (i := 5) (v := 5) (by decide +kernel) (by decide) ?_
  refine Fr_icmp_ge (off := 56) 210 (by decide +kernel) (by decide) (fun hc => ?_) (fun hc => ?_)
  · have h := iT hc h
    refine Fr_iload_n (q := 3) (i := 3) 3 (by decide +kernel) rfl rfl ?_
    obtain rfl := Option.some.inj h
    exact Fr_iret (by decide +kernel) rfl ⟨rfl, rfl⟩
  · have h := iF hc h
    refine Fr_iconst (i := 0) (v := 0) (by decide +kernel) (by decide) ?_
    refine Fr_istore (i := 5) (lv' := [(5, .int 0), (0, .ref 200), (1, .int v1), (2, .int v2), (3, .int v3), (4, .int v4)]) (by decide +kernel) (by decide) rfl ?_
    refine Fr_loc [1, 2, 3, 4, 5, 0] rfl ?_
    exact lp_sound (body := fun k a m => f_X12_roads_h160 N k151 k a.1 a.2.1 a.2.2.1 a.2.2.2.1 a.2.2.2.2 m) (P := fun a M => Fr 200 21 65 m_X12_roads 160 [(0, .ref 200), (1, .int a.1), (2, .int a.2.1), (3, .int a.2.2.1), (4, .int a.2.2.2.1), (5, .int a.2.2.2.2)] [] M (QI q)) (fun k hk a m h => t_X12_roads_h160 hk151 hk h) N (v1, v2, v3, v4, 0) M h
set_option maxRecDepth 20000 in
theorem t_X12_roads_b140 {N : Nat} {q : Int32 × Mem} {k24 : Int32 × Int32 × Int32 → Mem → Option (Int32 × Mem)} (hk24 : ∀ (a : Int32 × Int32 × Int32) (M : Mem), k24 a M = some q → Fr 200 21 65 m_X12_roads 24 [(0, .ref 200), (1, .int a.1), (2, .int a.2.1), (3, .int a.2.2)] [] M (QI q)) {v1 : Int32} {v2 : Int32} {v3 : Int32} {M : Mem} (h : f_X12_roads_b140 N k24 v1 v2 v3 M = some q) : Fr 200 21 65 m_X12_roads 140 [(0, .ref 200), (1, .int v1), (2, .int v2), (3, .int v3)] [] M (QI q) := by
  unfold f_X12_roads_b140 at h
  refine Fr_iinc (i := 3) (j := 1) (v := (v3 + 1)) (lv' := [(3, .int (v3 + 1)), (0, .ref 200), (1, .int v1), (2, .int v2)]) 3 (by decide +kernel) rfl rfl (by decide) rfl ?_
  refine Fr_goto (off := (-119)) 24 (by decide +kernel) (by decide) ?_
  refine Fr_loc [1, 2, 3, 0] rfl ?_
  exact hk24 (v1, v2, (v3 + 1)) M h
set_option maxRecDepth 20000 in
theorem t_X12_roads_b134 {N : Nat} {q : Int32 × Mem} {k24 : Int32 × Int32 × Int32 → Mem → Option (Int32 × Mem)} (hk24 : ∀ (a : Int32 × Int32 × Int32) (M : Mem), k24 a M = some q → Fr 200 21 65 m_X12_roads 24 [(0, .ref 200), (1, .int a.1), (2, .int a.2.1), (3, .int a.2.2)] [] M (QI q)) {k74 : Int32 × Int32 × Int32 × Int32 → Mem → Option (Int32 × Mem)} (hk74 : ∀ (a : Int32 × Int32 × Int32 × Int32) (M : Mem), k74 a M = some q → Fr 200 21 65 m_X12_roads 74 [(0, .ref 200), (1, .int a.1), (2, .int a.2.1), (3, .int a.2.2.1), (4, .int a.2.2.2)] [] M (QI q)) {v1 : Int32} {v2 : Int32} {v3 : Int32} {v4 : Int32} {M : Mem} (h : f_X12_roads_b134 N k24 k74 v1 v2 v3 v4 M = some q) : Fr 200 21 65 m_X12_roads 134 [(0, .ref 200), (1, .int v1), (2, .int v2), (3, .int v3), (4, .int v4)] [] M (QI q) := by
  unfold f_X12_roads_b134 at h
  refine Fr_iinc (i := 4) (j := 1) (v := (v4 + 1)) (lv' := [(4, .int (v4 + 1)), (0, .ref 200), (1, .int v1), (2, .int v2), (3, .int v3)]) 4 (by decide +kernel) rfl rfl (by decide) rfl ?_
  refine Fr_goto (off := (-63)) 74 (by decide +kernel) (by decide) ?_
  refine Fr_loc [1, 2, 3, 4, 0] rfl ?_
  exact hk74 (v1, v2, v3, (v4 + 1)) M h
set_option maxRecDepth 20000 in
theorem t_X12_roads_b115 {N : Nat} {q : Int32 × Mem} {k24 : Int32 × Int32 × Int32 → Mem → Option (Int32 × Mem)} (hk24 : ∀ (a : Int32 × Int32 × Int32) (M : Mem), k24 a M = some q → Fr 200 21 65 m_X12_roads 24 [(0, .ref 200), (1, .int a.1), (2, .int a.2.1), (3, .int a.2.2)] [] M (QI q)) {k74 : Int32 × Int32 × Int32 × Int32 → Mem → Option (Int32 × Mem)} (hk74 : ∀ (a : Int32 × Int32 × Int32 × Int32) (M : Mem), k74 a M = some q → Fr 200 21 65 m_X12_roads 74 [(0, .ref 200), (1, .int a.1), (2, .int a.2.1), (3, .int a.2.2.1), (4, .int a.2.2.2)] [] M (QI q)) {v1 : Int32} {v2 : Int32} {v3 : Int32} {v4 : Int32} {v5 : Int32} {M : Mem} (h : f_X12_roads_b115 N k24 k74 v1 v2 v3 v4 v5 M = some q) : Fr 200 21 65 m_X12_roads 115 [(0, .ref 200), (1, .int v1), (2, .int v2), (3, .int v3), (4, .int v4), (5, .int v5)] [] M (QI q) := by
  unfold f_X12_roads_b115 at h
  refine Fr_aload_n (q := 0) (i := 0) 0 (by decide +kernel) rfl rfl ?_
  refine gf_X12_63 rfl (by decide +kernel) ob_200 ?_
  refine Fr_bipush (i := 60) (v := 60) (by decide +kernel) (by decide) ?_
  refine Fr_iconst (i := 2) (v := 2) (by decide +kernel) (by decide) ?_
  refine Fr_iload_n (q := 3) (i := 3) 3 (by decide +kernel) rfl rfl ?_
  refine Fr_imul (by decide +kernel) ?_
  refine Fr_iconst (i := 1) (v := 1) (by decide +kernel) (by decide) ?_
  refine Fr_iadd (by decide +kernel) ?_
  refine Fr_imul (by decide +kernel) ?_
  refine Fr_iconst (i := 2) (v := 2) (by decide +kernel) (by decide) ?_
  refine Fr_iload (i := 5) 5 (by decide +kernel) rfl ?_
  refine Fr_imul (by decide +kernel) ?_
  refine Fr_iadd (by decide +kernel) ?_
  refine Fr_iconst (i := 1) (v := 1) (by decide +kernel) (by decide) ?_
  obtain ⟨hi_14, h⟩ := ck_elim h
  refine Fr_iast (by decide +kernel) ob_214 (vp_of ln_214 hi_14) ?_
  obtain ⟨M_15, eM_15, h⟩ := bM_elim h
  refine Fr_mem eM_15 ?_
  refine Fr_loc [0, 1, 2, 3, 4] rfl ?_
  exact t_X12_roads_b134 hk24 hk74 h
set_option maxRecDepth 20000 in
theorem t_X12_roads_h74 {N : Nat} {q : Int32 × Mem} {k24 : Int32 × Int32 × Int32 → Mem → Option (Int32 × Mem)} (hk24 : ∀ (a : Int32 × Int32 × Int32) (M : Mem), k24 a M = some q → Fr 200 21 65 m_X12_roads 24 [(0, .ref 200), (1, .int a.1), (2, .int a.2.1), (3, .int a.2.2)] [] M (QI q)) {k74 : Int32 × Int32 × Int32 × Int32 → Mem → Option (Int32 × Mem)} (hk74 : ∀ (a : Int32 × Int32 × Int32 × Int32) (M : Mem), k74 a M = some q → Fr 200 21 65 m_X12_roads 74 [(0, .ref 200), (1, .int a.1), (2, .int a.2.1), (3, .int a.2.2.1), (4, .int a.2.2.2)] [] M (QI q)) {v1 : Int32} {v2 : Int32} {v3 : Int32} {v4 : Int32} {M : Mem} (h : f_X12_roads_h74 N k24 k74 v1 v2 v3 v4 M = some q) : Fr 200 21 65 m_X12_roads 74 [(0, .ref 200), (1, .int v1), (2, .int v2), (3, .int v3), (4, .int v4)] [] M (QI q) := by
  unfold f_X12_roads_h74 at h
  refine Fr_iload (i := 4) 4 (by decide +kernel) rfl ?_
  refine Fr_iconst (i := 4) (v := 4) (by decide +kernel) (by decide) ?_
  refine Fr_icmp_gt (off := 63) 140 (by decide +kernel) (by decide) (fun hc => ?_) (fun hc => ?_)
  · have h := iT hc h
    refine Fr_loc [0, 1, 2, 3] rfl ?_
    exact t_X12_roads_b140 hk24 h
  · have h := iF hc h
    refine Fr_aload_n (q := 0) (i := 0) 0 (by decide +kernel) rfl rfl ?_
    refine Fr_iload_n (q := 3) (i := 3) 3 (by decide +kernel) rfl rfl ?_
    refine Fr_iload (i := 4) 4 (by decide +kernel) rfl ?_
    obtain ⟨r_13, M_11, hc_12, h⟩ := bi_elim h
    refine Fr_cVi (ν := m_X12_beside) (As := [.int v3, .int v4]) (st := []) (rc := 200) (ci := 12) (d' := 2) (by decide +kernel) ml_X12_411 cv_X12_beside rfl (by decide) rfl ob_200 rfl (by decide) (Nat.le_of_ble_eq_true rfl) (t_X12_beside hc_12) ?_
    refine Fr_istore (i := 5) (lv' := [(5, .int r_13), (0, .ref 200), (1, .int v1), (2, .int v2), (3, .int v3), (4, .int v4)]) (by decide +kernel) (by decide) rfl ?_
    refine Fr_iload (i := 5) 0 (by decide +kernel) rfl ?_
    refine Fr_if_lt (off := 43) 134 (by decide +kernel) (by decide) (fun hc => ?_) (fun hc => ?_)
    · have h := iT hc h
      refine Fr_loc [1, 2, 3, 4, 5] rfl ?_
      exact t_X12_roads_b134 hk24 hk74 h
    · have h := iF hc h
      refine Fr_iload (i := 5) 0 (by decide +kernel) rfl ?_
      refine Fr_iload_n (q := 1) (i := 1) 2 (by decide +kernel) rfl rfl ?_
      refine Fr_icmp_eq (off := 37) 134 (by decide +kernel) (by decide) (fun hc => ?_) (fun hc => ?_)
      · have h := iT hc h
        refine Fr_loc [1, 2, 3, 4, 5] rfl ?_
        exact t_X12_roads_b134 hk24 hk74 h
      · have h := iF hc h
        refine Fr_iload (i := 5) 0 (by decide +kernel) rfl ?_
        refine Fr_iload_n (q := 2) (i := 2) 3 (by decide +kernel) rfl rfl ?_
        refine Fr_icmp_eq (off := 12) 115 (by decide +kernel) (by decide) (fun hc => ?_) (fun hc => ?_)
        · have h := iT hc h
          refine Fr_loc [1, 2, 3, 4, 5, 0] rfl ?_
          exact t_X12_roads_b115 hk24 hk74 h
        · have h := iF hc h
          refine Fr_aload_n (q := 0) (i := 0) 1 (by decide +kernel) rfl rfl ?_
          refine Fr_iload (i := 5) 0 (by decide +kernel) rfl ?_
          obtain ⟨r_18, M_16, hc_17, h⟩ := bi_elim h
          refine Fr_cVb (ν := m_X12_isFoggy) (As := [.int r_13]) (st := []) (rc := 200) (ci := 12) (d' := 1) (by decide +kernel) ml_X12_366 cv_X12_isFoggy rfl (by decide) rfl ob_200 rfl (by decide) (Nat.le_of_ble_eq_true rfl) (t_X12_isFoggy hc_17) ?_
          refine Fr_if_eq (off := 22) 134 (by decide +kernel) (by decide) (fun hc => ?_) (fun hc => ?_)
          · have h := iT hc h
            refine Fr_loc [1, 2, 3, 4, 5] rfl ?_
            exact t_X12_roads_b134 hk24 hk74 h
          · have h := iF hc h
            refine Fr_loc [1, 2, 3, 4, 5, 0] rfl ?_
            exact t_X12_roads_b115 hk24 hk74 h
set_option maxRecDepth 20000 in
theorem t_X12_roads_b53 {N : Nat} {q : Int32 × Mem} {k24 : Int32 × Int32 × Int32 → Mem → Option (Int32 × Mem)} (hk24 : ∀ (a : Int32 × Int32 × Int32) (M : Mem), k24 a M = some q → Fr 200 21 65 m_X12_roads 24 [(0, .ref 200), (1, .int a.1), (2, .int a.2.1), (3, .int a.2.2)] [] M (QI q)) {v1 : Int32} {v2 : Int32} {v3 : Int32} {M : Mem} (h : f_X12_roads_b53 N k24 v1 v2 v3 M = some q) : Fr 200 21 65 m_X12_roads 53 [(0, .ref 200), (1, .int v1), (2, .int v2), (3, .int v3)] [] M (QI q) := by
  unfold f_X12_roads_b53 at h
  refine Fr_aload_n (q := 0) (i := 0) 0 (by decide +kernel) rfl rfl ?_
  refine gf_X12_63 rfl (by decide +kernel) ob_200 ?_
  refine Fr_bipush (i := 60) (v := 60) (by decide +kernel) (by decide) ?_
  refine Fr_iconst (i := 2) (v := 2) (by decide +kernel) (by decide) ?_
  refine Fr_iload_n (q := 3) (i := 3) 3 (by decide +kernel) rfl rfl ?_
  refine Fr_imul (by decide +kernel) ?_
  refine Fr_imul (by decide +kernel) ?_
  refine Fr_iconst (i := 2) (v := 2) (by decide +kernel) (by decide) ?_
  refine Fr_iload_n (q := 3) (i := 3) 3 (by decide +kernel) rfl rfl ?_
  refine Fr_imul (by decide +kernel) ?_
  refine Fr_iadd (by decide +kernel) ?_
  refine Fr_iconst (i := 1) (v := 1) (by decide +kernel) (by decide) ?_
  refine Fr_iadd (by decide +kernel) ?_
  refine Fr_iconst (i := 1) (v := 1) (by decide +kernel) (by decide) ?_
  obtain ⟨hi_9, h⟩ := ck_elim h
  refine Fr_iast (by decide +kernel) ob_214 (vp_of ln_214 hi_9) ?_
  obtain ⟨M_10, eM_10, h⟩ := bM_elim h
  refine Fr_mem eM_10 ?_
  refine Fr_iconst (i := 1) (v := 1) (by decide +kernel) (by decide) ?_
  refine Fr_istore (i := 4) (lv' := [(4, .int 1), (0, .ref 200), (1, .int v1), (2, .int v2), (3, .int v3)]) (by decide +kernel) (by decide) rfl ?_
  refine Fr_loc [1, 2, 3, 4, 0] rfl ?_
  exact lp_sound (body := fun k a m => f_X12_roads_h74 N k24 k a.1 a.2.1 a.2.2.1 a.2.2.2 m) (P := fun a M => Fr 200 21 65 m_X12_roads 74 [(0, .ref 200), (1, .int a.1), (2, .int a.2.1), (3, .int a.2.2.1), (4, .int a.2.2.2)] [] M (QI q)) (fun k hk a m h => t_X12_roads_h74 hk24 hk h) N (v1, v2, v3, 1) M_10 h
set_option maxRecDepth 20000 in
theorem t_X12_roads_h24 {N : Nat} {q : Int32 × Mem} {k24 : Int32 × Int32 × Int32 → Mem → Option (Int32 × Mem)} (hk24 : ∀ (a : Int32 × Int32 × Int32) (M : Mem), k24 a M = some q → Fr 200 21 65 m_X12_roads 24 [(0, .ref 200), (1, .int a.1), (2, .int a.2.1), (3, .int a.2.2)] [] M (QI q)) {v1 : Int32} {v2 : Int32} {v3 : Int32} {M : Mem} (h : f_X12_roads_h24 N k24 v1 v2 v3 M = some q) : Fr 200 21 65 m_X12_roads 24 [(0, .ref 200), (1, .int v1), (2, .int v2), (3, .int v3)] [] M (QI q) := by
  unfold f_X12_roads_h24 at h
  refine Fr_iload_n (q := 3) (i := 3) 3 (by decide +kernel) rfl rfl ?_
  refine Fr_aload_n (q := 0) (i := 0) 0 (by decide +kernel) rfl rfl ?_
  obtain ⟨r_3, M_1, hc_2, h⟩ := bi_elim h
  refine Fr_cVi (ν := m_X12_boards) (As := []) (st := [.int v3]) (rc := 200) (ci := 12) (d' := 0) (by decide +kernel) ml_X12_363 cv_X12_boards rfl (by decide) rfl ob_200 rfl (by decide) (Nat.le_of_ble_eq_true rfl) (t_X12_boards hc_2) ?_
  refine Fr_icmp_ge (off := 117) 146 (by decide +kernel) (by decide) (fun hc => ?_) (fun hc => ?_)
  · have h := iT hc h
    refine Fr_iconst (i := 0) (v := 0) (by decide +kernel) (by decide) ?_
    refine Fr_istore_n (q := 3) (i := 3) (lv' := [(3, .int 0), (0, .ref 200), (1, .int v1), (2, .int v2)]) (by decide +kernel) rfl (by decide) rfl ?_
    refine Fr_iconst (i := 0) (v := 0) (by decide +kernel) (by decide) ?_
    refine Fr_istore (i := 4) (lv' := [(4, .int 0), (3, .int 0), (0, .ref 200), (1, .int v1), (2, .int v2)]) (by decide +kernel) (by decide) rfl ?_
    refine Fr_loc [2, 3, 4, 1, 0] rfl ?_
    exact lp_sound (body := fun k a m => f_X12_roads_h151 N k a.1 a.2.1 a.2.2.1 a.2.2.2 m) (P := fun a M => Fr 200 21 65 m_X12_roads 151 [(0, .ref 200), (1, .int a.1), (2, .int a.2.1), (3, .int a.2.2.1), (4, .int a.2.2.2)] [] M (QI q)) (fun k hk a m h => t_X12_roads_h151 hk h) N (v1, v2, 0, 0) M_1 h
  · have h := iF hc h
    refine Fr_iload_n (q := 3) (i := 3) 3 (by decide +kernel) rfl rfl ?_
    refine Fr_iload_n (q := 2) (i := 2) 2 (by decide +kernel) rfl rfl ?_
    refine Fr_icmp_eq (off := 106) 140 (by decide +kernel) (by decide) (fun hc => ?_) (fun hc => ?_)
    · have h := iT hc h
      exact t_X12_roads_b140 hk24 h
    · have h := iF hc h
      refine Fr_iload_n (q := 3) (i := 3) 3 (by decide +kernel) rfl rfl ?_
      refine Fr_iload_n (q := 1) (i := 1) 1 (by decide +kernel) rfl rfl ?_
      refine Fr_icmp_eq (off := 14) 53 (by decide +kernel) (by decide) (fun hc => ?_) (fun hc => ?_)
      · have h := iT hc h
        exact t_X12_roads_b53 hk24 h
      · have h := iF hc h
        refine Fr_aload_n (q := 0) (i := 0) 0 (by decide +kernel) rfl rfl ?_
        refine Fr_iload_n (q := 3) (i := 3) 3 (by decide +kernel) rfl rfl ?_
        obtain ⟨r_21, M_19, hc_20, h⟩ := bi_elim h
        refine Fr_cVb (ν := m_X12_isFoggy) (As := [.int v3]) (st := []) (rc := 200) (ci := 12) (d' := 1) (by decide +kernel) ml_X12_366 cv_X12_isFoggy rfl (by decide) rfl ob_200 rfl (by decide) (Nat.le_of_ble_eq_true rfl) (t_X12_isFoggy hc_20) ?_
        refine Fr_if_ne (off := 6) 53 (by decide +kernel) (by decide) (fun hc => ?_) (fun hc => ?_)
        · have h := iF hc h
          exact t_X12_roads_b53 hk24 h
        · have h := iT hc h
          refine Fr_goto (off := 90) 140 (by decide +kernel) (by decide) ?_
          exact t_X12_roads_b140 hk24 h
set_option maxRecDepth 20000 in
theorem t_X12_roads_h2 {N : Nat} {q : Int32 × Mem} {k2 : Int32 × Int32 × Int32 → Mem → Option (Int32 × Mem)} (hk2 : ∀ (a : Int32 × Int32 × Int32) (M : Mem), k2 a M = some q → Fr 200 21 65 m_X12_roads 2 [(0, .ref 200), (1, .int a.1), (2, .int a.2.1), (3, .int a.2.2)] [] M (QI q)) {v1 : Int32} {v2 : Int32} {v3 : Int32} {M : Mem} (h : f_X12_roads_h2 N k2 v1 v2 v3 M = some q) : Fr 200 21 65 m_X12_roads 2 [(0, .ref 200), (1, .int v1), (2, .int v2), (3, .int v3)] [] M (QI q) := by
  unfold f_X12_roads_h2 at h
  refine Fr_iload_n (q := 3) (i := 3) 3 (by decide +kernel) rfl rfl ?_
  refine Fr_sipush (i := 3600) (v := 3600) (by decide +kernel) (by decide) ?_
  refine Fr_icmp_ge (off := 16) 22 (by decide +kernel) (by decide) (fun hc => ?_) (fun hc => ?_)
  · have h := iT hc h
    refine Fr_iconst (i := 0) (v := 0) (by decide +kernel) (by decide) ?_
    refine Fr_istore_n (q := 3) (i := 3) (lv' := [(3, .int 0), (0, .ref 200), (1, .int v1), (2, .int v2)]) (by decide +kernel) rfl (by decide) rfl ?_
    refine Fr_loc [1, 2, 3, 0] rfl ?_
    exact lp_sound (body := fun k a m => f_X12_roads_h24 N k a.1 a.2.1 a.2.2 m) (P := fun a M => Fr 200 21 65 m_X12_roads 24 [(0, .ref 200), (1, .int a.1), (2, .int a.2.1), (3, .int a.2.2)] [] M (QI q)) (fun k hk a m h => t_X12_roads_h24 hk h) N (v1, v2, 0) M h
  · have h := iF hc h
    refine Fr_aload_n (q := 0) (i := 0) 0 (by decide +kernel) rfl rfl ?_
    refine gf_X12_63 rfl (by decide +kernel) ob_200 ?_
    refine Fr_iload_n (q := 3) (i := 3) 3 (by decide +kernel) rfl rfl ?_
    refine Fr_iconst (i := 0) (v := 0) (by decide +kernel) (by decide) ?_
    obtain ⟨hi_22, h⟩ := ck_elim h
    refine Fr_iast (by decide +kernel) ob_214 (vp_of ln_214 hi_22) ?_
    obtain ⟨M_23, eM_23, h⟩ := bM_elim h
    refine Fr_mem eM_23 ?_
    refine Fr_iinc (i := 3) (j := 1) (v := (v3 + 1)) (lv' := [(3, .int (v3 + 1)), (0, .ref 200), (1, .int v1), (2, .int v2)]) 3 (by decide +kernel) rfl rfl (by decide) rfl ?_
    refine Fr_goto (off := (-17)) 2 (by decide +kernel) (by decide) ?_
    refine Fr_loc [1, 2, 3, 0] rfl ?_
    exact hk2 (v1, v2, (v3 + 1)) M_23 h
set_option maxRecDepth 20000 in
theorem t_X12_roads {N : Nat} {x1 : Int32} {x2 : Int32} {M : Mem} {q : Int32 × Mem} (h : f_X12_roads N x1 x2 M = some q) : Ev 200 21 65 m_X12_roads [.ref 200, .int x1, .int x2] M (QI q) := by
  refine Ev_of_Fr (by decide +kernel) (Nat.le_of_ble_eq_true rfl) ?_
  show Fr 200 21 65 m_X12_roads 0 [(0, .ref 200), (1, .int x1), (2, .int x2)] [] M (QI q)
  unfold f_X12_roads at h
  refine Fr_iconst (i := 0) (v := 0) (by decide +kernel) (by decide) ?_
  refine Fr_istore_n (q := 3) (i := 3) (lv' := [(3, .int 0), (0, .ref 200), (1, .int x1), (2, .int x2)]) (by decide +kernel) rfl (by decide) rfl ?_
  refine Fr_loc [1, 2, 3, 0] rfl ?_
  exact lp_sound (body := fun k a m => f_X12_roads_h2 N k a.1 a.2.1 a.2.2 m) (P := fun a M => Fr 200 21 65 m_X12_roads 2 [(0, .ref 200), (1, .int a.1), (2, .int a.2.1), (3, .int a.2.2)] [] M (QI q)) (fun k hk a m h => t_X12_roads_h2 hk h) N (x1, x2, 0) M h
set_option maxRecDepth 20000 in
theorem t_X12_watch {N : Nat} {x1 : Int32} {x2 : Int32} {x3 : Int32} {x4 : Int32} {M : Mem} {q : Int32 × Mem} (h : f_X12_watch N x1 x2 x3 x4 M = some q) : Ev 200 21 66 m_X12_watch [.ref 200, .int x1, .int x2, .int x3, .int x4] M (QI q) := by
  refine Ev_of_Fr (by decide +kernel) (Nat.le_of_ble_eq_true rfl) ?_
  show Fr 200 21 66 m_X12_watch 0 [(0, .ref 200), (1, .int x1), (2, .int x2), (3, .int x3), (4, .int x4)] [] M (QI q)
  unfold f_X12_watch at h
  refine Fr_aload_n (q := 0) (i := 0) 0 (by decide +kernel) rfl rfl ?_
  refine Fr_iconst (i := 0) (v := 0) (by decide +kernel) (by decide) ?_
  refine pf_X12_84 rfl (by decide +kernel) ob_200 ?_
  obtain ⟨M_1, eM_1, h⟩ := bM_elim h
  refine Fr_mem eM_1 ?_
  refine Fr_aload_n (q := 0) (i := 0) 0 (by decide +kernel) rfl rfl ?_
  refine Fr_iconst (i := 0) (v := 0) (by decide +kernel) (by decide) ?_
  refine pf_X12_87 rfl (by decide +kernel) ob_200 ?_
  obtain ⟨M_2, eM_2, h⟩ := bM_elim h
  refine Fr_mem eM_2 ?_
  refine Fr_aload_n (q := 0) (i := 0) 0 (by decide +kernel) rfl rfl ?_
  refine Fr_iload_n (q := 1) (i := 1) 1 (by decide +kernel) rfl rfl ?_
  refine Fr_iload_n (q := 2) (i := 2) 2 (by decide +kernel) rfl rfl ?_
  obtain ⟨r_5, M_3, hc_4, h⟩ := bi_elim h
  refine Fr_cVb (ν := m_X12_isBoard) (As := [.int x1, .int x2]) (st := []) (rc := 200) (ci := 12) (d' := 1) (by decide +kernel) ml_X12_393 cv_X12_isBoard rfl (by decide) rfl ob_200 rfl (by decide) (Nat.le_of_ble_eq_true rfl) (t_X12_isBoard hc_4) ?_
  refine Fr_if_eq (off := 13) 29 (by decide +kernel) (by decide) (fun hc => ?_) (fun hc => ?_)
  · have h := iT hc h
    refine Fr_aload_n (q := 0) (i := 0) 0 (by decide +kernel) rfl rfl ?_
    refine Fr_iconst (i := 2) (v := 2) (by decide +kernel) (by decide) ?_
    obtain ⟨r_8, M_6, hc_7, h⟩ := bi_elim h
    refine Fr_cVi (ν := m_X12_refuse) (As := [.int 2]) (st := []) (rc := 200) (ci := 12) (d' := 0) (by decide +kernel) ml_X12_371 cv_X12_refuse rfl (by decide) rfl ob_200 rfl (by decide) (Nat.le_of_ble_eq_true rfl) (t_X12_refuse hc_7) ?_
    obtain rfl := Option.some.inj h
    exact Fr_iret (by decide +kernel) rfl ⟨rfl, rfl⟩
  · have h := iF hc h
    refine Fr_aload_n (q := 0) (i := 0) 0 (by decide +kernel) rfl rfl ?_
    refine Fr_iload_n (q := 3) (i := 3) 3 (by decide +kernel) rfl rfl ?_
    refine Fr_iload (i := 4) 4 (by decide +kernel) rfl ?_
    obtain ⟨r_11, M_9, hc_10, h⟩ := bi_elim h
    refine Fr_cVb (ν := m_X12_isBoard) (As := [.int x3, .int x4]) (st := []) (rc := 200) (ci := 12) (d' := 1) (by decide +kernel) ml_X12_393 cv_X12_isBoard rfl (by decide) rfl ob_200 rfl (by decide) (Nat.le_of_ble_eq_true rfl) (t_X12_isBoard hc_10) ?_
    refine Fr_if_ne (off := 9) 35 (by decide +kernel) (by decide) (fun hc => ?_) (fun hc => ?_)
    · have h := iF hc h
      refine Fr_iload_n (q := 1) (i := 1) 1 (by decide +kernel) rfl rfl ?_
      refine Fr_iload_n (q := 3) (i := 3) 3 (by decide +kernel) rfl rfl ?_
      refine Fr_isub (by decide +kernel) ?_
      refine Fr_abs (by decide +kernel) ml_X12_489 (by decide) (Nat.le_of_ble_eq_true rfl) ?_
      refine Fr_iload_n (q := 2) (i := 2) 2 (by decide +kernel) rfl rfl ?_
      refine Fr_iload (i := 4) 4 (by decide +kernel) rfl ?_
      refine Fr_isub (by decide +kernel) ?_
      refine Fr_abs (by decide +kernel) ml_X12_489 (by decide) (Nat.le_of_ble_eq_true rfl) ?_
      refine Fr_iadd (by decide +kernel) ?_
      refine Fr_iconst (i := 2) (v := 2) (by decide +kernel) (by decide) ?_
      refine Fr_icmp_ge (off := 10) 60 (by decide +kernel) (by decide) (fun hc => ?_) (fun hc => ?_)
      · have h := iT hc h
        refine Fr_aload_n (q := 0) (i := 0) 0 (by decide +kernel) rfl rfl ?_
        refine Fr_aload_n (q := 0) (i := 0) 0 (by decide +kernel) rfl rfl ?_
        refine Fr_iload_n (q := 1) (i := 1) 1 (by decide +kernel) rfl rfl ?_
        refine Fr_iload_n (q := 2) (i := 2) 2 (by decide +kernel) rfl rfl ?_
        obtain ⟨r_14, M_12, hc_13, h⟩ := bi_elim h
        refine Fr_cVi (ν := m_X12_board) (As := [.int x1, .int x2]) (st := [.ref 200]) (rc := 200) (ci := 12) (d' := 0) (by decide +kernel) ml_X12_396 cv_X12_board rfl (by decide) rfl ob_200 rfl (by decide) (Nat.le_of_ble_eq_true rfl) (t_X12_board hc_13) ?_
        refine Fr_aload_n (q := 0) (i := 0) 0 (by decide +kernel) rfl rfl ?_
        refine Fr_iload_n (q := 3) (i := 3) 3 (by decide +kernel) rfl rfl ?_
        refine Fr_iload (i := 4) 4 (by decide +kernel) rfl ?_
        obtain ⟨r_17, M_15, hc_16, h⟩ := bi_elim h
        refine Fr_cVi (ν := m_X12_board) (As := [.int x3, .int x4]) (st := [.int r_14, .ref 200]) (rc := 200) (ci := 12) (d' := 0) (by decide +kernel) ml_X12_396 cv_X12_board rfl (by decide) rfl ob_200 rfl (by decide) (Nat.le_of_ble_eq_true rfl) (t_X12_board hc_16) ?_
        obtain ⟨r_20, M_18, hc_19, h⟩ := bi_elim h
        refine Fr_cVi (ν := m_X12_roads) (As := [.int r_14, .int r_17]) (st := []) (rc := 200) (ci := 12) (d' := 65) (by decide +kernel) ml_X12_491 cv_X12_roads rfl (by decide) rfl ob_200 rfl (by decide) (Nat.le_of_ble_eq_true rfl) (t_X12_roads hc_19) ?_
        obtain rfl := Option.some.inj h
        exact Fr_iret (by decide +kernel) rfl ⟨rfl, rfl⟩
      · have h := iF hc h
        refine Fr_aload_n (q := 0) (i := 0) 0 (by decide +kernel) rfl rfl ?_
        refine Fr_bipush (i := 9) (v := 9) (by decide +kernel) (by decide) ?_
        obtain ⟨r_23, M_21, hc_22, h⟩ := bi_elim h
        refine Fr_cVi (ν := m_X12_refuse) (As := [.int 9]) (st := []) (rc := 200) (ci := 12) (d' := 0) (by decide +kernel) ml_X12_371 cv_X12_refuse rfl (by decide) rfl ob_200 rfl (by decide) (Nat.le_of_ble_eq_true rfl) (t_X12_refuse hc_22) ?_
        obtain rfl := Option.some.inj h
        exact Fr_iret (by decide +kernel) rfl ⟨rfl, rfl⟩
    · have h := iT hc h
      refine Fr_aload_n (q := 0) (i := 0) 0 (by decide +kernel) rfl rfl ?_
      refine Fr_iconst (i := 2) (v := 2) (by decide +kernel) (by decide) ?_
      obtain ⟨r_26, M_24, hc_25, h⟩ := bi_elim h
      refine Fr_cVi (ν := m_X12_refuse) (As := [.int 2]) (st := []) (rc := 200) (ci := 12) (d' := 0) (by decide +kernel) ml_X12_371 cv_X12_refuse rfl (by decide) rfl ob_200 rfl (by decide) (Nat.le_of_ble_eq_true rfl) (t_X12_refuse hc_25) ?_
      obtain rfl := Option.some.inj h
      exact Fr_iret (by decide +kernel) rfl ⟨rfl, rfl⟩
set_option maxRecDepth 20000 in
theorem t_X12_together {N : Nat} {x1 : Int32} {x2 : Int32} {M : Mem} {q : Int32 × Mem} (h : f_X12_together N x1 x2 M = some q) : Ev 200 21 3 m_X12_together [.ref 200, .int x1, .int x2] M (QI q) := by
  refine Ev_of_Fr (by decide +kernel) (Nat.le_of_ble_eq_true rfl) ?_
  show Fr 200 21 3 m_X12_together 0 [(0, .ref 200), (1, .int x1), (2, .int x2)] [] M (QI q)
  unfold f_X12_together at h
  refine Fr_aload_n (q := 0) (i := 0) 0 (by decide +kernel) rfl rfl ?_
  refine Fr_iconst (i := 0) (v := 0) (by decide +kernel) (by decide) ?_
  refine pf_X12_84 rfl (by decide +kernel) ob_200 ?_
  obtain ⟨M_1, eM_1, h⟩ := bM_elim h
  refine Fr_mem eM_1 ?_
  refine Fr_aload_n (q := 0) (i := 0) 0 (by decide +kernel) rfl rfl ?_
  refine Fr_iconst (i := 0) (v := 0) (by decide +kernel) (by decide) ?_
  refine pf_X12_87 rfl (by decide +kernel) ob_200 ?_
  obtain ⟨M_2, eM_2, h⟩ := bM_elim h
  refine Fr_mem eM_2 ?_
  refine Fr_aload_n (q := 0) (i := 0) 0 (by decide +kernel) rfl rfl ?_
  refine Fr_iload_n (q := 1) (i := 1) 1 (by decide +kernel) rfl rfl ?_
  obtain ⟨r_5, M_3, hc_4, h⟩ := bi_elim h
  refine Fr_cVb (ν := m_X12_isGateAt) (As := [.int x1]) (st := []) (rc := 200) (ci := 12) (d' := 1) (by decide +kernel) ml_X12_380 cv_X12_isGateAt rfl (by decide) rfl ob_200 rfl (by decide) (Nat.le_of_ble_eq_true rfl) (t_X12_isGateAt hc_4) ?_
  refine Fr_if_ne (off := 9) 24 (by decide +kernel) (by decide) (fun hc => ?_) (fun hc => ?_)
  · have h := iF hc h
    refine Fr_aload_n (q := 0) (i := 0) 0 (by decide +kernel) rfl rfl ?_
    refine Fr_iload_n (q := 2) (i := 2) 2 (by decide +kernel) rfl rfl ?_
    obtain ⟨r_8, M_6, hc_7, h⟩ := bi_elim h
    refine Fr_cVb (ν := m_X12_isSet) (As := [.int x2]) (st := []) (rc := 200) (ci := 12) (d' := 1) (by decide +kernel) ml_X12_431 cv_X12_isSet rfl (by decide) rfl ob_200 rfl (by decide) (Nat.le_of_ble_eq_true rfl) (t_X12_isSet hc_7) ?_
    refine Fr_if_ne (off := 9) 38 (by decide +kernel) (by decide) (fun hc => ?_) (fun hc => ?_)
    · have h := iF hc h
      refine Fr_aload_n (q := 0) (i := 0) 0 (by decide +kernel) rfl rfl ?_
      refine Fr_iload_n (q := 1) (i := 1) 1 (by decide +kernel) rfl rfl ?_
      refine Fr_iload_n (q := 2) (i := 2) 2 (by decide +kernel) rfl rfl ?_
      obtain ⟨r_11, M_9, hc_10, h⟩ := bi_elim h
      refine Fr_cVb (ν := m_X12_can) (As := [.int x1, .int x2]) (st := []) (rc := 200) (ci := 12) (d' := 2) (by decide +kernel) ml_X12_434 cv_X12_can rfl (by decide) rfl ob_200 rfl (by decide) (Nat.le_of_ble_eq_true rfl) (t_X12_can hc_10) ?_
      refine Fr_if_eq (off := 7) 51 (by decide +kernel) (by decide) (fun hc => ?_) (fun hc => ?_)
      · have h := iT hc h
        refine Fr_iconst (i := 0) (v := 0) (by decide +kernel) (by decide) ?_
        obtain rfl := Option.some.inj h
        exact Fr_iret (by decide +kernel) rfl ⟨rfl, rfl⟩
      · have h := iF hc h
        refine Fr_iconst (i := 1) (v := 1) (by decide +kernel) (by decide) ?_
        refine Fr_goto (off := 4) 52 (by decide +kernel) (by decide) ?_
        obtain rfl := Option.some.inj h
        exact Fr_iret (by decide +kernel) rfl ⟨rfl, rfl⟩
    · have h := iT hc h
      refine Fr_aload_n (q := 0) (i := 0) 0 (by decide +kernel) rfl rfl ?_
      refine Fr_iconst (i := 5) (v := 5) (by decide +kernel) (by decide) ?_
      obtain ⟨r_14, M_12, hc_13, h⟩ := bi_elim h
      refine Fr_cVi (ν := m_X12_refuse) (As := [.int 5]) (st := []) (rc := 200) (ci := 12) (d' := 0) (by decide +kernel) ml_X12_371 cv_X12_refuse rfl (by decide) rfl ob_200 rfl (by decide) (Nat.le_of_ble_eq_true rfl) (t_X12_refuse hc_13) ?_
      obtain rfl := Option.some.inj h
      exact Fr_iret (by decide +kernel) rfl ⟨rfl, rfl⟩
  · have h := iT hc h
    refine Fr_aload_n (q := 0) (i := 0) 0 (by decide +kernel) rfl rfl ?_
    refine Fr_iconst (i := 2) (v := 2) (by decide +kernel) (by decide) ?_
    obtain ⟨r_17, M_15, hc_16, h⟩ := bi_elim h
    refine Fr_cVi (ν := m_X12_refuse) (As := [.int 2]) (st := []) (rc := 200) (ci := 12) (d' := 0) (by decide +kernel) ml_X12_371 cv_X12_refuse rfl (by decide) rfl ob_200 rfl (by decide) (Nat.le_of_ble_eq_true rfl) (t_X12_refuse hc_16) ?_
    obtain rfl := Option.some.inj h
    exact Fr_iret (by decide +kernel) rfl ⟨rfl, rfl⟩
set_option maxRecDepth 20000 in
theorem t_X12_whyNoGate {N : Nat} {x1 : Int32} {M : Mem} {q : Int32 × Mem} (h : f_X12_whyNoGate N x1 M = some q) : Ev 200 21 3 m_X12_whyNoGate [.ref 200, .int x1] M (QI q) := by
  refine Ev_of_Fr (by decide +kernel) (Nat.le_of_ble_eq_true rfl) ?_
  show Fr 200 21 3 m_X12_whyNoGate 0 [(0, .ref 200), (1, .int x1)] [] M (QI q)
  unfold f_X12_whyNoGate at h
  refine Fr_aload_n (q := 0) (i := 0) 0 (by decide +kernel) rfl rfl ?_
  refine Fr_iload_n (q := 1) (i := 1) 1 (by decide +kernel) rfl rfl ?_
  obtain ⟨r_3, M_1, hc_2, h⟩ := bi_elim h
  refine Fr_cVb (ν := m_X12_isGateAt) (As := [.int x1]) (st := []) (rc := 200) (ci := 12) (d' := 1) (by decide +kernel) ml_X12_380 cv_X12_isGateAt rfl (by decide) rfl ob_200 rfl (by decide) (Nat.le_of_ble_eq_true rfl) (t_X12_isGateAt hc_2) ?_
  refine Fr_if_ne (off := 7) 12 (by decide +kernel) (by decide) (fun hc => ?_) (fun hc => ?_)
  · have h := iF hc h
    refine Fr_aload_n (q := 0) (i := 0) 0 (by decide +kernel) rfl rfl ?_
    refine Fr_iload_n (q := 1) (i := 1) 1 (by decide +kernel) rfl rfl ?_
    refine Fr_aload_n (q := 0) (i := 0) 0 (by decide +kernel) rfl rfl ?_
    obtain ⟨r_6, M_4, hc_5, h⟩ := bi_elim h
    refine Fr_cVi (ν := m_X12_allHolders) (As := []) (st := [.int x1, .ref 200]) (rc := 200) (ci := 12) (d' := 0) (by decide +kernel) ml_X12_428 cv_X12_allHolders rfl (by decide) rfl ob_200 rfl (by decide) (Nat.le_of_ble_eq_true rfl) (t_X12_allHolders hc_5) ?_
    obtain ⟨r_9, M_7, hc_8, h⟩ := bi_elim h
    refine Fr_cVb (ν := m_X12_can) (As := [.int x1, .int r_6]) (st := []) (rc := 200) (ci := 12) (d' := 2) (by decide +kernel) ml_X12_434 cv_X12_can rfl (by decide) rfl ob_200 rfl (by decide) (Nat.le_of_ble_eq_true rfl) (t_X12_can hc_8) ?_
    refine Fr_if_eq (off := 7) 28 (by decide +kernel) (by decide) (fun hc => ?_) (fun hc => ?_)
    · have h := iT hc h
      refine Fr_bipush (i := 8) (v := 8) (by decide +kernel) (by decide) ?_
      obtain rfl := Option.some.inj h
      exact Fr_iret (by decide +kernel) rfl ⟨rfl, rfl⟩
    · have h := iF hc h
      refine Fr_iconst (i := 0) (v := 0) (by decide +kernel) (by decide) ?_
      refine Fr_goto (off := 5) 30 (by decide +kernel) (by decide) ?_
      obtain rfl := Option.some.inj h
      exact Fr_iret (by decide +kernel) rfl ⟨rfl, rfl⟩
  · have h := iT hc h
    refine Fr_iconst (i := 2) (v := 2) (by decide +kernel) (by decide) ?_
    refine Fr_goto (off := 21) 30 (by decide +kernel) (by decide) ?_
    obtain rfl := Option.some.inj h
    exact Fr_iret (by decide +kernel) rfl ⟨rfl, rfl⟩
set_option maxRecDepth 20000 in
theorem t_X12_fewOf_b37 {N : Nat} {q : Int32 × Mem} {k7 : Int32 × Int32 × Int32 → Mem → Option (Int32 × Mem)} (hk7 : ∀ (a : Int32 × Int32 × Int32) (M : Mem), k7 a M = some q → Fr 200 21 3 m_X12_fewOf 7 [(0, .ref 200), (1, .int a.1), (2, .int a.2.1), (3, .int a.2.2)] [] M (QI q)) {v1 : Int32} {v2 : Int32} {v3 : Int32} {M : Mem} (h : f_X12_fewOf_b37 N k7 v1 v2 v3 M = some q) : Fr 200 21 3 m_X12_fewOf 37 [(0, .ref 200), (1, .int v1), (2, .int v2), (3, .int v3)] [] M (QI q) := by
  unfold f_X12_fewOf_b37 at h
  refine Fr_iinc (i := 3) (j := 1) (v := (v3 + 1)) (lv' := [(3, .int (v3 + 1)), (0, .ref 200), (1, .int v1), (2, .int v2)]) 3 (by decide +kernel) rfl rfl (by decide) rfl ?_
  refine Fr_goto (off := (-33)) 7 (by decide +kernel) (by decide) ?_
  refine Fr_loc [1, 2, 3, 0] rfl ?_
  exact hk7 (v1, v2, (v3 + 1)) M h
set_option maxRecDepth 20000 in
theorem t_X12_fewOf_h7 {N : Nat} {q : Int32 × Mem} {k7 : Int32 × Int32 × Int32 → Mem → Option (Int32 × Mem)} (hk7 : ∀ (a : Int32 × Int32 × Int32) (M : Mem), k7 a M = some q → Fr 200 21 3 m_X12_fewOf 7 [(0, .ref 200), (1, .int a.1), (2, .int a.2.1), (3, .int a.2.2)] [] M (QI q)) {v1 : Int32} {v2 : Int32} {v3 : Int32} {M : Mem} (h : f_X12_fewOf_h7 N k7 v1 v2 v3 M = some q) : Fr 200 21 3 m_X12_fewOf 7 [(0, .ref 200), (1, .int v1), (2, .int v2), (3, .int v3)] [] M (QI q) := by
  unfold f_X12_fewOf_h7 at h
  refine Fr_iload_n (q := 3) (i := 3) 3 (by decide +kernel) rfl rfl ?_
  refine Fr_aload_n (q := 0) (i := 0) 0 (by decide +kernel) rfl rfl ?_
  obtain ⟨r_6, M_4, hc_5, h⟩ := bi_elim h
  refine Fr_cVi (ν := m_X12_allHolders) (As := []) (st := [.int v3]) (rc := 200) (ci := 12) (d' := 0) (by decide +kernel) ml_X12_428 cv_X12_allHolders rfl (by decide) rfl ob_200 rfl (by decide) (Nat.le_of_ble_eq_true rfl) (t_X12_allHolders hc_5) ?_
  refine Fr_icmp_gt (off := 31) 43 (by decide +kernel) (by decide) (fun hc => ?_) (fun hc => ?_)
  · have h := iT hc h
    refine Fr_iload_n (q := 2) (i := 2) 2 (by decide +kernel) rfl rfl ?_
    obtain rfl := Option.some.inj h
    exact Fr_iret (by decide +kernel) rfl ⟨rfl, rfl⟩
  · have h := iF hc h
    refine Fr_aload_n (q := 0) (i := 0) 0 (by decide +kernel) rfl rfl ?_
    refine Fr_iload_n (q := 1) (i := 1) 1 (by decide +kernel) rfl rfl ?_
    refine Fr_iload_n (q := 3) (i := 3) 3 (by decide +kernel) rfl rfl ?_
    obtain ⟨r_9, M_7, hc_8, h⟩ := bi_elim h
    refine Fr_cVb (ν := m_X12_can) (As := [.int v1, .int v3]) (st := []) (rc := 200) (ci := 12) (d' := 2) (by decide +kernel) ml_X12_434 cv_X12_can rfl (by decide) rfl ob_200 rfl (by decide) (Nat.le_of_ble_eq_true rfl) (t_X12_can hc_8) ?_
    refine Fr_if_eq (off := 16) 37 (by decide +kernel) (by decide) (fun hc => ?_) (fun hc => ?_)
    · have h := iT hc h
      exact t_X12_fewOf_b37 hk7 h
    · have h := iF hc h
      refine Fr_iload_n (q := 3) (i := 3) 3 (by decide +kernel) rfl rfl ?_
      obtain ⟨r_12, M_10, hc_11, h⟩ := bi_elim h
      refine Fr_cSi (ν := m_X12_sizeOf) (As := [.int v3]) (st := []) (d' := 1) (by decide +kernel) ml_X12_464 cs_X12_sizeOf rfl (by decide) (Nat.le_of_ble_eq_true rfl) (t_X12_sizeOf hc_11) ?_
      refine Fr_iload_n (q := 2) (i := 2) 2 (by decide +kernel) rfl rfl ?_
      obtain ⟨r_15, M_13, hc_14, h⟩ := bi_elim h
      refine Fr_cSi (ν := m_X12_sizeOf) (As := [.int v2]) (st := [.int r_12]) (d' := 1) (by decide +kernel) ml_X12_464 cs_X12_sizeOf rfl (by decide) (Nat.le_of_ble_eq_true rfl) (t_X12_sizeOf hc_14) ?_
      refine Fr_icmp_ge (off := 5) 37 (by decide +kernel) (by decide) (fun hc => ?_) (fun hc => ?_)
      · have h := iT hc h
        exact t_X12_fewOf_b37 hk7 h
      · have h := iF hc h
        refine Fr_iload_n (q := 3) (i := 3) 3 (by decide +kernel) rfl rfl ?_
        refine Fr_istore_n (q := 2) (i := 2) (lv' := [(2, .int v3), (0, .ref 200), (1, .int v1), (3, .int v3)]) (by decide +kernel) rfl (by decide) rfl ?_
        refine Fr_loc [1, 2, 0, 3] rfl ?_
        exact t_X12_fewOf_b37 hk7 h
set_option maxRecDepth 20000 in
theorem t_X12_fewOf {N : Nat} {x1 : Int32} {M : Mem} {q : Int32 × Mem} (h : f_X12_fewOf N x1 M = some q) : Ev 200 21 3 m_X12_fewOf [.ref 200, .int x1] M (QI q) := by
  refine Ev_of_Fr (by decide +kernel) (Nat.le_of_ble_eq_true rfl) ?_
  show Fr 200 21 3 m_X12_fewOf 0 [(0, .ref 200), (1, .int x1)] [] M (QI q)
  unfold f_X12_fewOf at h
  refine Fr_aload_n (q := 0) (i := 0) 0 (by decide +kernel) rfl rfl ?_
  obtain ⟨r_3, M_1, hc_2, h⟩ := bi_elim h
  refine Fr_cVi (ν := m_X12_allHolders) (As := []) (st := []) (rc := 200) (ci := 12) (d' := 0) (by decide +kernel) ml_X12_428 cv_X12_allHolders rfl (by decide) rfl ob_200 rfl (by decide) (Nat.le_of_ble_eq_true rfl) (t_X12_allHolders hc_2) ?_
  refine Fr_istore_n (q := 2) (i := 2) (lv' := [(2, .int r_3), (0, .ref 200), (1, .int x1)]) (by decide +kernel) rfl (by decide) rfl ?_
  refine Fr_iconst (i := 0) (v := 0) (by decide +kernel) (by decide) ?_
  refine Fr_istore_n (q := 3) (i := 3) (lv' := [(3, .int 0), (2, .int r_3), (0, .ref 200), (1, .int x1)]) (by decide +kernel) rfl (by decide) rfl ?_
  refine Fr_loc [2, 3, 1, 0] rfl ?_
  exact lp_sound (body := fun k a m => f_X12_fewOf_h7 N k a.1 a.2.1 a.2.2 m) (P := fun a M => Fr 200 21 3 m_X12_fewOf 7 [(0, .ref 200), (1, .int a.1), (2, .int a.2.1), (3, .int a.2.2)] [] M (QI q)) (fun k hk a m h => t_X12_fewOf_h7 hk h) N (x1, r_3, 0) M_1 h
set_option maxRecDepth 20000 in
theorem t_X12_fewest {N : Nat} {x1 : Int32} {M : Mem} {q : Int32 × Mem} (h : f_X12_fewest N x1 M = some q) : Ev 200 21 4 m_X12_fewest [.ref 200, .int x1] M (QI q) := by
  refine Ev_of_Fr (by decide +kernel) (Nat.le_of_ble_eq_true rfl) ?_
  show Fr 200 21 4 m_X12_fewest 0 [(0, .ref 200), (1, .int x1)] [] M (QI q)
  unfold f_X12_fewest at h
  refine Fr_aload_n (q := 0) (i := 0) 0 (by decide +kernel) rfl rfl ?_
  refine Fr_iconst (i := 0) (v := 0) (by decide +kernel) (by decide) ?_
  refine pf_X12_84 rfl (by decide +kernel) ob_200 ?_
  obtain ⟨M_1, eM_1, h⟩ := bM_elim h
  refine Fr_mem eM_1 ?_
  refine Fr_aload_n (q := 0) (i := 0) 0 (by decide +kernel) rfl rfl ?_
  refine Fr_aload_n (q := 0) (i := 0) 0 (by decide +kernel) rfl rfl ?_
  refine Fr_iload_n (q := 1) (i := 1) 1 (by decide +kernel) rfl rfl ?_
  obtain ⟨r_4, M_2, hc_3, h⟩ := bi_elim h
  refine Fr_cVi (ν := m_X12_whyNoGate) (As := [.int x1]) (st := [.ref 200]) (rc := 200) (ci := 12) (d' := 3) (by decide +kernel) ml_X12_494 cv_X12_whyNoGate rfl (by decide) rfl ob_200 rfl (by decide) (Nat.le_of_ble_eq_true rfl) (t_X12_whyNoGate hc_3) ?_
  refine pf_X12_87 rfl (by decide +kernel) ob_200 ?_
  obtain ⟨M_5, eM_5, h⟩ := bM_elim h
  refine Fr_mem eM_5 ?_
  refine Fr_aload_n (q := 0) (i := 0) 0 (by decide +kernel) rfl rfl ?_
  refine gf_X12_87 rfl (by decide +kernel) ob_200 ?_
  refine Fr_if_le (off := 7) 25 (by decide +kernel) (by decide) (fun hc => ?_) (fun hc => ?_)
  · have h := iT hc h
    refine Fr_aload_n (q := 0) (i := 0) 0 (by decide +kernel) rfl rfl ?_
    refine Fr_iload_n (q := 1) (i := 1) 1 (by decide +kernel) rfl rfl ?_
    obtain ⟨r_8, M_6, hc_7, h⟩ := bi_elim h
    refine Fr_cVi (ν := m_X12_fewOf) (As := [.int x1]) (st := []) (rc := 200) (ci := 12) (d' := 3) (by decide +kernel) ml_X12_497 cv_X12_fewOf rfl (by decide) rfl ob_200 rfl (by decide) (Nat.le_of_ble_eq_true rfl) (t_X12_fewOf hc_7) ?_
    obtain ⟨r_11, M_9, hc_10, h⟩ := bi_elim h
    refine Fr_cSi (ν := m_X12_sizeOf) (As := [.int r_8]) (st := []) (d' := 1) (by decide +kernel) ml_X12_464 cs_X12_sizeOf rfl (by decide) (Nat.le_of_ble_eq_true rfl) (t_X12_sizeOf hc_10) ?_
    obtain rfl := Option.some.inj h
    exact Fr_iret (by decide +kernel) rfl ⟨rfl, rfl⟩
  · have h := iF hc h
    refine Fr_iconst (i := (-1)) (v := (-1)) (by decide +kernel) (by decide) ?_
    refine Fr_goto (off := 11) 33 (by decide +kernel) (by decide) ?_
    obtain rfl := Option.some.inj h
    exact Fr_iret (by decide +kernel) rfl ⟨rfl, rfl⟩
set_option maxRecDepth 20000 in
theorem t_X12_fewestSet {N : Nat} {x1 : Int32} {M : Mem} {q : Int32 × Mem} (h : f_X12_fewestSet N x1 M = some q) : Ev 200 21 4 m_X12_fewestSet [.ref 200, .int x1] M (QI q) := by
  refine Ev_of_Fr (by decide +kernel) (Nat.le_of_ble_eq_true rfl) ?_
  show Fr 200 21 4 m_X12_fewestSet 0 [(0, .ref 200), (1, .int x1)] [] M (QI q)
  unfold f_X12_fewestSet at h
  refine Fr_aload_n (q := 0) (i := 0) 0 (by decide +kernel) rfl rfl ?_
  refine Fr_iconst (i := 0) (v := 0) (by decide +kernel) (by decide) ?_
  refine pf_X12_84 rfl (by decide +kernel) ob_200 ?_
  obtain ⟨M_1, eM_1, h⟩ := bM_elim h
  refine Fr_mem eM_1 ?_
  refine Fr_aload_n (q := 0) (i := 0) 0 (by decide +kernel) rfl rfl ?_
  refine Fr_aload_n (q := 0) (i := 0) 0 (by decide +kernel) rfl rfl ?_
  refine Fr_iload_n (q := 1) (i := 1) 1 (by decide +kernel) rfl rfl ?_
  obtain ⟨r_4, M_2, hc_3, h⟩ := bi_elim h
  refine Fr_cVi (ν := m_X12_whyNoGate) (As := [.int x1]) (st := [.ref 200]) (rc := 200) (ci := 12) (d' := 3) (by decide +kernel) ml_X12_494 cv_X12_whyNoGate rfl (by decide) rfl ob_200 rfl (by decide) (Nat.le_of_ble_eq_true rfl) (t_X12_whyNoGate hc_3) ?_
  refine pf_X12_87 rfl (by decide +kernel) ob_200 ?_
  obtain ⟨M_5, eM_5, h⟩ := bM_elim h
  refine Fr_mem eM_5 ?_
  refine Fr_aload_n (q := 0) (i := 0) 0 (by decide +kernel) rfl rfl ?_
  refine gf_X12_87 rfl (by decide +kernel) ob_200 ?_
  refine Fr_if_le (off := 7) 25 (by decide +kernel) (by decide) (fun hc => ?_) (fun hc => ?_)
  · have h := iT hc h
    refine Fr_aload_n (q := 0) (i := 0) 0 (by decide +kernel) rfl rfl ?_
    refine Fr_iload_n (q := 1) (i := 1) 1 (by decide +kernel) rfl rfl ?_
    obtain ⟨r_8, M_6, hc_7, h⟩ := bi_elim h
    refine Fr_cVi (ν := m_X12_fewOf) (As := [.int x1]) (st := []) (rc := 200) (ci := 12) (d' := 3) (by decide +kernel) ml_X12_497 cv_X12_fewOf rfl (by decide) rfl ob_200 rfl (by decide) (Nat.le_of_ble_eq_true rfl) (t_X12_fewOf hc_7) ?_
    obtain rfl := Option.some.inj h
    exact Fr_iret (by decide +kernel) rfl ⟨rfl, rfl⟩
  · have h := iF hc h
    refine Fr_iconst (i := (-1)) (v := (-1)) (by decide +kernel) (by decide) ?_
    refine Fr_goto (off := 8) 30 (by decide +kernel) (by decide) ?_
    obtain rfl := Option.some.inj h
    exact Fr_iret (by decide +kernel) rfl ⟨rfl, rfl⟩
set_option maxRecDepth 20000 in
theorem t_X12_factorial_h4 {N : Nat} {q : Int64 × Mem} {k4 : Int32 × Int64 × Int32 → Mem → Option (Int64 × Mem)} (hk4 : ∀ (a : Int32 × Int64 × Int32) (M : Mem), k4 a M = some q → Fr 200 21 0 m_X12_factorial 4 [(0, .int a.1), (1, .long a.2.1), (3, .int a.2.2)] [] M (QJ q)) {v0 : Int32} {v1 : Int64} {v3 : Int32} {M : Mem} (h : f_X12_factorial_h4 N k4 v0 v1 v3 M = some q) : Fr 200 21 0 m_X12_factorial 4 [(0, .int v0), (1, .long v1), (3, .int v3)] [] M (QJ q) := by
  unfold f_X12_factorial_h4 at h
  refine Fr_iload_n (q := 3) (i := 3) 2 (by decide +kernel) rfl rfl ?_
  refine Fr_iload_n (q := 0) (i := 0) 0 (by decide +kernel) rfl rfl ?_
  refine Fr_icmp_gt (off := 14) 20 (by decide +kernel) (by decide) (fun hc => ?_) (fun hc => ?_)
  · have h := iT hc h
    refine Fr_lload_n (q := 1) (i := 1) 1 (by decide +kernel) rfl rfl ?_
    obtain rfl := Option.some.inj h
    exact Fr_lret (by decide +kernel) rfl ⟨rfl, rfl⟩
  · have h := iF hc h
    refine Fr_lload_n (q := 1) (i := 1) 1 (by decide +kernel) rfl rfl ?_
    refine Fr_iload_n (q := 3) (i := 3) 2 (by decide +kernel) rfl rfl ?_
    refine Fr_i2l (by decide +kernel) ?_
    refine Fr_lmul (by decide +kernel) ?_
    refine Fr_lstore_n (q := 1) (i := 1) (lv' := [(1, .long (v1 * (Int32.toInt64 v3))), (0, .int v0), (3, .int v3)]) (by decide +kernel) rfl (by decide) rfl ?_
    refine Fr_iinc (i := 3) (j := 1) (v := (v3 + 1)) (lv' := [(3, .int (v3 + 1)), (1, .long (v1 * (Int32.toInt64 v3))), (0, .int v0)]) 2 (by decide +kernel) rfl rfl (by decide) rfl ?_
    refine Fr_goto (off := (-13)) 4 (by decide +kernel) (by decide) ?_
    refine Fr_loc [2, 1, 0] rfl ?_
    exact hk4 (v0, (v1 * (Int32.toInt64 v3)), (v3 + 1)) M h
set_option maxRecDepth 20000 in
theorem t_X12_factorial {N : Nat} {x0 : Int32} {M : Mem} {q : Int64 × Mem} (h : f_X12_factorial N x0 M = some q) : Ev 200 21 0 m_X12_factorial [.int x0] M (QJ q) := by
  refine Ev_of_Fr (by decide +kernel) (Nat.le_of_ble_eq_true rfl) ?_
  show Fr 200 21 0 m_X12_factorial 0 [(0, .int x0)] [] M (QJ q)
  unfold f_X12_factorial at h
  refine Fr_lconst (i := 1) (v := 1) (by decide +kernel) (by decide) ?_
  refine Fr_lstore_n (q := 1) (i := 1) (lv' := [(1, .long 1), (0, .int x0)]) (by decide +kernel) rfl (by decide) rfl ?_
  refine Fr_iconst (i := 2) (v := 2) (by decide +kernel) (by decide) ?_
  refine Fr_istore_n (q := 3) (i := 3) (lv' := [(3, .int 2), (1, .long 1), (0, .int x0)]) (by decide +kernel) rfl (by decide) rfl ?_
  refine Fr_loc [2, 1, 0] rfl ?_
  exact lp_sound (body := fun k a m => f_X12_factorial_h4 N k a.1 a.2.1 a.2.2 m) (P := fun a M => Fr 200 21 0 m_X12_factorial 4 [(0, .int a.1), (1, .long a.2.1), (3, .int a.2.2)] [] M (QJ q)) (fun k hk a m h => t_X12_factorial_h4 hk h) N (x0, 1, 2) M h
set_option maxRecDepth 20000 in
theorem t_X12_swings_b83 {N : Nat} {q : Int64 × Mem} {k13 : Int32 × Int32 × Int64 × Int32 × Int32 → Mem → Option (Int64 × Mem)} (hk13 : ∀ (a : Int32 × Int32 × Int64 × Int32 × Int32) (M : Mem), k13 a M = some q → Fr 200 21 3 m_X12_swings 13 [(0, .ref 200), (1, .int a.1), (2, .int a.2.1), (3, .long a.2.2.1), (5, .int a.2.2.2.1), (6, .int a.2.2.2.2)] [] M (QJ q)) {v1 : Int32} {v2 : Int32} {v3 : Int64} {v5 : Int32} {v6 : Int32} {M : Mem} (h : f_X12_swings_b83 N k13 v1 v2 v3 v5 v6 M = some q) : Fr 200 21 3 m_X12_swings 83 [(0, .ref 200), (1, .int v1), (2, .int v2), (3, .long v3), (5, .int v5), (6, .int v6)] [] M (QJ q) := by
  unfold f_X12_swings_b83 at h
  refine Fr_iinc (i := 6) (j := 1) (v := (v6 + 1)) (lv' := [(6, .int (v6 + 1)), (0, .ref 200), (1, .int v1), (2, .int v2), (3, .long v3), (5, .int v5)]) 5 (by decide +kernel) rfl rfl (by decide) rfl ?_
  refine Fr_goto (off := (-73)) 13 (by decide +kernel) (by decide) ?_
  refine Fr_loc [1, 2, 3, 4, 5, 0] rfl ?_
  exact hk13 (v1, v2, v3, v5, (v6 + 1)) M h
set_option maxRecDepth 20000 in
theorem t_X12_swings_h13 {N : Nat} {q : Int64 × Mem} {k13 : Int32 × Int32 × Int64 × Int32 × Int32 → Mem → Option (Int64 × Mem)} (hk13 : ∀ (a : Int32 × Int32 × Int64 × Int32 × Int32) (M : Mem), k13 a M = some q → Fr 200 21 3 m_X12_swings 13 [(0, .ref 200), (1, .int a.1), (2, .int a.2.1), (3, .long a.2.2.1), (5, .int a.2.2.2.1), (6, .int a.2.2.2.2)] [] M (QJ q)) {v1 : Int32} {v2 : Int32} {v3 : Int64} {v5 : Int32} {v6 : Int32} {M : Mem} (h : f_X12_swings_h13 N k13 v1 v2 v3 v5 v6 M = some q) : Fr 200 21 3 m_X12_swings 13 [(0, .ref 200), (1, .int v1), (2, .int v2), (3, .long v3), (5, .int v5), (6, .int v6)] [] M (QJ q) := by
  unfold f_X12_swings_h13 at h
  refine Fr_iload (i := 6) 5 (by decide +kernel) rfl ?_
  refine Fr_aload_n (q := 0) (i := 0) 0 (by decide +kernel) rfl rfl ?_
  obtain ⟨r_4, M_2, hc_3, h⟩ := bi_elim h
  refine Fr_cVi (ν := m_X12_allHolders) (As := []) (st := [.int v6]) (rc := 200) (ci := 12) (d' := 0) (by decide +kernel) ml_X12_428 cv_X12_allHolders rfl (by decide) rfl ob_200 rfl (by decide) (Nat.le_of_ble_eq_true rfl) (t_X12_allHolders hc_3) ?_
  refine Fr_icmp_gt (off := 70) 89 (by decide +kernel) (by decide) (fun hc => ?_) (fun hc => ?_)
  · have h := iT hc h
    refine Fr_lload_n (q := 3) (i := 3) 3 (by decide +kernel) rfl rfl ?_
    obtain rfl := Option.some.inj h
    exact Fr_lret (by decide +kernel) rfl ⟨rfl, rfl⟩
  · have h := iF hc h
    refine Fr_iload (i := 6) 5 (by decide +kernel) rfl ?_
    refine Fr_iload_n (q := 2) (i := 2) 2 (by decide +kernel) rfl rfl ?_
    obtain ⟨r_7, M_5, hc_6, h⟩ := bi_elim h
    refine Fr_cSb (ν := m_X12_has) (As := [.int v6, .int v2]) (st := []) (d' := 0) (by decide +kernel) ml_X12_123 cs_X12_has rfl (by decide) (Nat.le_of_ble_eq_true rfl) (t_X12_has hc_6) ?_
    refine Fr_if_ne (off := 55) 83 (by decide +kernel) (by decide) (fun hc => ?_) (fun hc => ?_)
    · have h := iF hc h
      exact t_X12_swings_b83 hk13 h
    · have h := iT hc h
      refine Fr_aload_n (q := 0) (i := 0) 0 (by decide +kernel) rfl rfl ?_
      refine Fr_iload_n (q := 1) (i := 1) 1 (by decide +kernel) rfl rfl ?_
      refine Fr_iload (i := 6) 5 (by decide +kernel) rfl ?_
      obtain ⟨r_10, M_8, hc_9, h⟩ := bi_elim h
      refine Fr_cVb (ν := m_X12_can) (As := [.int v1, .int v6]) (st := []) (rc := 200) (ci := 12) (d' := 2) (by decide +kernel) ml_X12_434 cv_X12_can rfl (by decide) rfl ob_200 rfl (by decide) (Nat.le_of_ble_eq_true rfl) (t_X12_can hc_9) ?_
      refine Fr_if_ne (off := 45) 83 (by decide +kernel) (by decide) (fun hc => ?_) (fun hc => ?_)
      · have h := iF hc h
        exact t_X12_swings_b83 hk13 h
      · have h := iT hc h
        refine Fr_aload_n (q := 0) (i := 0) 0 (by decide +kernel) rfl rfl ?_
        refine Fr_iload_n (q := 1) (i := 1) 1 (by decide +kernel) rfl rfl ?_
        refine Fr_iload (i := 6) 5 (by decide +kernel) rfl ?_
        refine Fr_iconst (i := 1) (v := 1) (by decide +kernel) (by decide) ?_
        refine Fr_iload_n (q := 2) (i := 2) 2 (by decide +kernel) rfl rfl ?_
        refine Fr_ishl (by decide +kernel) ?_
        refine Fr_ior (by decide +kernel) ?_
        obtain ⟨r_13, M_11, hc_12, h⟩ := bi_elim h
        refine Fr_cVb (ν := m_X12_can) (As := [.int v1, .int (v6 ||| (1 <<< (v2 &&& 31)))]) (st := []) (rc := 200) (ci := 12) (d' := 2) (by decide +kernel) ml_X12_434 cv_X12_can rfl (by decide) rfl ob_200 rfl (by decide) (Nat.le_of_ble_eq_true rfl) (t_X12_can hc_12) ?_
        refine Fr_if_ne (off := 6) 58 (by decide +kernel) (by decide) (fun hc => ?_) (fun hc => ?_)
        · have h := iF hc h
          refine Fr_lload_n (q := 3) (i := 3) 3 (by decide +kernel) rfl rfl ?_
          refine Fr_iload (i := 6) 5 (by decide +kernel) rfl ?_
          obtain ⟨r_16, M_14, hc_15, h⟩ := bi_elim h
          refine Fr_cSi (ν := m_X12_sizeOf) (As := [.int v6]) (st := [.long v3]) (d' := 1) (by decide +kernel) ml_X12_464 cs_X12_sizeOf rfl (by decide) (Nat.le_of_ble_eq_true rfl) (t_X12_sizeOf hc_15) ?_
          obtain ⟨r_19, M_17, hc_18, h⟩ := bi_elim h
          refine Fr_cSj (ν := m_X12_factorial) (As := [.int r_16]) (st := [.long v3]) (d' := 0) (by decide +kernel) ml_X12_500 cs_X12_factorial rfl (by decide) (Nat.le_of_ble_eq_true rfl) (t_X12_factorial hc_18) ?_
          refine Fr_iload (i := 5) 4 (by decide +kernel) rfl ?_
          refine Fr_iconst (i := 1) (v := 1) (by decide +kernel) (by decide) ?_
          refine Fr_isub (by decide +kernel) ?_
          refine Fr_iload (i := 6) 5 (by decide +kernel) rfl ?_
          obtain ⟨r_22, M_20, hc_21, h⟩ := bi_elim h
          refine Fr_cSi (ν := m_X12_sizeOf) (As := [.int v6]) (st := [.int (v5 - 1), .long r_19, .long v3]) (d' := 1) (by decide +kernel) ml_X12_464 cs_X12_sizeOf rfl (by decide) (Nat.le_of_ble_eq_true rfl) (t_X12_sizeOf hc_21) ?_
          refine Fr_isub (by decide +kernel) ?_
          obtain ⟨r_25, M_23, hc_24, h⟩ := bi_elim h
          refine Fr_cSj (ν := m_X12_factorial) (As := [.int ((v5 - 1) - r_22)]) (st := [.long r_19, .long v3]) (d' := 0) (by decide +kernel) ml_X12_500 cs_X12_factorial rfl (by decide) (Nat.le_of_ble_eq_true rfl) (t_X12_factorial hc_24) ?_
          refine Fr_lmul (by decide +kernel) ?_
          refine Fr_ladd (by decide +kernel) ?_
          refine Fr_lstore_n (q := 3) (i := 3) (lv' := [(3, .long (v3 + (r_19 * r_25))), (0, .ref 200), (1, .int v1), (2, .int v2), (5, .int v5), (6, .int v6)]) (by decide +kernel) rfl (by decide) rfl ?_
          refine Fr_loc [1, 2, 3, 0, 4, 5] rfl ?_
          exact t_X12_swings_b83 hk13 h
        · have h := iT hc h
          refine Fr_goto (off := 28) 83 (by decide +kernel) (by decide) ?_
          exact t_X12_swings_b83 hk13 h
set_option maxRecDepth 20000 in
theorem t_X12_swings {N : Nat} {x1 : Int32} {x2 : Int32} {M : Mem} {q : Int64 × Mem} (h : f_X12_swings N x1 x2 M = some q) : Ev 200 21 3 m_X12_swings [.ref 200, .int x1, .int x2] M (QJ q) := by
  refine Ev_of_Fr (by decide +kernel) (Nat.le_of_ble_eq_true rfl) ?_
  show Fr 200 21 3 m_X12_swings 0 [(0, .ref 200), (1, .int x1), (2, .int x2)] [] M (QJ q)
  unfold f_X12_swings at h
  refine Fr_lconst (i := 0) (v := 0) (by decide +kernel) (by decide) ?_
  refine Fr_lstore_n (q := 3) (i := 3) (lv' := [(3, .long 0), (0, .ref 200), (1, .int x1), (2, .int x2)]) (by decide +kernel) rfl (by decide) rfl ?_
  refine Fr_aload_n (q := 0) (i := 0) 1 (by decide +kernel) rfl rfl ?_
  refine gf_X12_35 rfl (by decide +kernel) ob_200 ?_
  refine Fr_iconst (i := 3) (v := 3) (by decide +kernel) (by decide) ?_
  obtain ⟨hi_1, h⟩ := ck_elim h
  refine Fr_iald (by decide +kernel) ob_205 (vp_of ln_205 hi_1) ?_
  refine Fr_istore (i := 5) (lv' := [(5, .int (M.1 205 (tn 3))), (3, .long 0), (0, .ref 200), (1, .int x1), (2, .int x2)]) (by decide +kernel) (by decide) rfl ?_
  refine Fr_iconst (i := 0) (v := 0) (by decide +kernel) (by decide) ?_
  refine Fr_istore (i := 6) (lv' := [(6, .int 0), (5, .int (M.1 205 (tn 3))), (3, .long 0), (0, .ref 200), (1, .int x1), (2, .int x2)]) (by decide +kernel) (by decide) rfl ?_
  refine Fr_loc [3, 4, 5, 2, 1, 0] rfl ?_
  exact lp_sound (body := fun k a m => f_X12_swings_h13 N k a.1 a.2.1 a.2.2.1 a.2.2.2.1 a.2.2.2.2 m) (P := fun a M => Fr 200 21 3 m_X12_swings 13 [(0, .ref 200), (1, .int a.1), (2, .int a.2.1), (3, .long a.2.2.1), (5, .int a.2.2.2.1), (6, .int a.2.2.2.2)] [] M (QJ q)) (fun k hk a m h => t_X12_swings_h13 hk h) N (x1, x2, 0, (M.1 205 (tn 3)), 0) M h
