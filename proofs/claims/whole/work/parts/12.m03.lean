def f_J6_bitCount_0f7a4 (x0 : Int32) (M : Mem) : Option (Int32 × Mem) :=
  bI (x0 - ((ush x0 1) &&& 1431655765)) fun y_1 =>
  bI ((y_1 &&& 858993459) + ((ush y_1 2) &&& 858993459)) fun y_2 =>
  bI ((y_2 + (ush y_2 4)) &&& 252645135) fun y_3 =>
  bI ((y_3 + (ush y_3 8)) + (ush (y_3 + (ush y_3 8)) 16)) fun y_4 =>
  some ((y_4 &&& 63), M)
set_option maxRecDepth 20000 in
theorem t_J6_bitCount_0f7a4 {x0 : Int32} {M : Mem} {q : Int32 × Mem} (h : f_J6_bitCount_0f7a4 x0 M = some q) : Ev 0 111 0 m_J6_bitCount_0f7a4 [.int x0] M (QI q) := by
  refine Ev_of_Fr (by decide +kernel) (Nat.le_of_ble_eq_true rfl) ?_
  show Fr 0 111 0 m_J6_bitCount_0f7a4 0 [(0, .int x0)] [] M (QI q)
  unfold f_J6_bitCount_0f7a4 at h
  refine Fr_iload_n (q := 0) (i := 0) 0 (by decide +kernel) rfl rfl ?_
  refine Fr_iload_n (q := 0) (i := 0) 0 (by decide +kernel) rfl rfl ?_
  refine Fr_iconst (i := 1) (v := 1) (by decide +kernel) (by decide) ?_
  refine Fr_iushr (by decide +kernel) ?_
  refine Fr_ldcw (idx := 265) (v := 1431655765) (by decide +kernel) lc_J6_265 ?_
  refine Fr_iand (by decide +kernel) ?_
  refine Fr_isub (by decide +kernel) ?_
  obtain ⟨y_1, ey_1, h⟩ := bI_elim h
  refine Fr_topI ey_1 ?_
  refine Fr_istore_n (q := 0) (i := 0) (lv' := [(0, .int y_1)]) (by decide +kernel) rfl (by decide) rfl ?_
  refine Fr_iload_n (q := 0) (i := 0) 0 (by decide +kernel) rfl rfl ?_
  refine Fr_ldcw (idx := 266) (v := 858993459) (by decide +kernel) lc_J6_266 ?_
  refine Fr_iand (by decide +kernel) ?_
  refine Fr_iload_n (q := 0) (i := 0) 0 (by decide +kernel) rfl rfl ?_
  refine Fr_iconst (i := 2) (v := 2) (by decide +kernel) (by decide) ?_
  refine Fr_iushr (by decide +kernel) ?_
  refine Fr_ldcw (idx := 266) (v := 858993459) (by decide +kernel) lc_J6_266 ?_
  refine Fr_iand (by decide +kernel) ?_
  refine Fr_iadd (by decide +kernel) ?_
  obtain ⟨y_2, ey_2, h⟩ := bI_elim h
  refine Fr_topI ey_2 ?_
  refine Fr_istore_n (q := 0) (i := 0) (lv' := [(0, .int y_2)]) (by decide +kernel) rfl (by decide) rfl ?_
  refine Fr_iload_n (q := 0) (i := 0) 0 (by decide +kernel) rfl rfl ?_
  refine Fr_iload_n (q := 0) (i := 0) 0 (by decide +kernel) rfl rfl ?_
  refine Fr_iconst (i := 4) (v := 4) (by decide +kernel) (by decide) ?_
  refine Fr_iushr (by decide +kernel) ?_
  refine Fr_iadd (by decide +kernel) ?_
  refine Fr_ldcw (idx := 267) (v := 252645135) (by decide +kernel) lc_J6_267 ?_
  refine Fr_iand (by decide +kernel) ?_
  obtain ⟨y_3, ey_3, h⟩ := bI_elim h
  refine Fr_topI ey_3 ?_
  refine Fr_istore_n (q := 0) (i := 0) (lv' := [(0, .int y_3)]) (by decide +kernel) rfl (by decide) rfl ?_
  refine Fr_iload_n (q := 0) (i := 0) 0 (by decide +kernel) rfl rfl ?_
  refine Fr_iload_n (q := 0) (i := 0) 0 (by decide +kernel) rfl rfl ?_
  refine Fr_bipush (i := 8) (v := 8) (by decide +kernel) (by decide) ?_
  refine Fr_iushr (by decide +kernel) ?_
  refine Fr_iadd (by decide +kernel) ?_
  refine Fr_istore_n (q := 0) (i := 0) (lv' := [(0, .int (y_3 + (ush y_3 8)))]) (by decide +kernel) rfl (by decide) rfl ?_
  refine Fr_iload_n (q := 0) (i := 0) 0 (by decide +kernel) rfl rfl ?_
  refine Fr_iload_n (q := 0) (i := 0) 0 (by decide +kernel) rfl rfl ?_
  refine Fr_bipush (i := 16) (v := 16) (by decide +kernel) (by decide) ?_
  refine Fr_iushr (by decide +kernel) ?_
  refine Fr_iadd (by decide +kernel) ?_
  obtain ⟨y_4, ey_4, h⟩ := bI_elim h
  refine Fr_topI ey_4 ?_
  refine Fr_istore_n (q := 0) (i := 0) (lv' := [(0, .int y_4)]) (by decide +kernel) rfl (by decide) rfl ?_
  refine Fr_iload_n (q := 0) (i := 0) 0 (by decide +kernel) rfl rfl ?_
  refine Fr_bipush (i := 63) (v := 63) (by decide +kernel) (by decide) ?_
  refine Fr_iand (by decide +kernel) ?_
  obtain rfl := Option.some.inj h
  exact Fr_iret (by decide +kernel) rfl ⟨rfl, rfl⟩
def f_X0_tryPlan (N : Nat) (p1 : Nat) (x2 : Int32) (M : Mem) : Option (Mem) :=
  bv (f_X0_begin N p1 M) fun M_1 =>
  bv (f_X0_follow N p1 x2 1 24 (M_1.1 93 6) M_1) fun M_3 =>
  if (M_3.1 93 4) ≤ (M_3.1 93 6) then (some M_3) else (bM (uI M_3 93 6 (M_3.1 93 4)) fun M_5 =>
  bM (uI M_5 93 7 x2) fun M_6 =>
  some M_6)
set_option maxRecDepth 20000 in
theorem t_X0_tryPlan {N : Nat} {p1 : Nat} {x2 : Int32} (hp1 : Ob 0 111 p1 5) {M : Mem} {q : Mem} (h : f_X0_tryPlan N p1 x2 M = some q) : Ev 0 111 4 m_X0_tryPlan [.ref 93, .ref p1, .int x2] M (QV q) := by
  refine Ev_of_Fr (by decide +kernel) (Nat.le_of_ble_eq_true rfl) ?_
  show Fr 0 111 4 m_X0_tryPlan 0 [(0, .ref 93), (1, .ref p1), (2, .int x2)] [] M (QV q)
  unfold f_X0_tryPlan at h
  refine Fr_aload_n (q := 0) (i := 0) 0 (by decide +kernel) rfl rfl ?_
  refine Fr_aload_n (q := 1) (i := 1) 1 (by decide +kernel) rfl rfl ?_
  obtain ⟨M_1, hc_2, h⟩ := bv_elim h
  refine Fr_cVv (ν := m_X0_begin) (As := [.ref p1]) (st := []) (rc := 93) (ci := 0) (d' := 1) (by decide +kernel) ml_X0_51 cv_X0_begin rfl (by decide) rfl ob_93 rfl (by decide) (Nat.le_of_ble_eq_true rfl) (t_X0_begin hp1 hc_2) ?_
  refine Fr_aload_n (q := 0) (i := 0) 0 (by decide +kernel) rfl rfl ?_
  refine Fr_aload_n (q := 1) (i := 1) 1 (by decide +kernel) rfl rfl ?_
  refine Fr_iload_n (q := 2) (i := 2) 2 (by decide +kernel) rfl rfl ?_
  refine Fr_iconst (i := 1) (v := 1) (by decide +kernel) (by decide) ?_
  refine Fr_bipush (i := 24) (v := 24) (by decide +kernel) (by decide) ?_
  refine Fr_aload_n (q := 0) (i := 0) 0 (by decide +kernel) rfl rfl ?_
  refine gf_X0_62 rfl (by decide +kernel) ob_93 ?_
  obtain ⟨M_3, hc_4, h⟩ := bv_elim h
  refine Fr_cVv (ν := m_X0_follow) (As := [.ref p1, .int x2, .int 1, .int 24, .int (M_1.1 93 6)]) (st := []) (rc := 93) (ci := 0) (d' := 3) (by decide +kernel) ml_X0_55 cv_X0_follow rfl (by decide) rfl ob_93 rfl (by decide) (Nat.le_of_ble_eq_true rfl) (t_X0_follow hp1 hc_4) ?_
  refine Fr_aload_n (q := 0) (i := 0) 0 (by decide +kernel) rfl rfl ?_
  refine gf_X0_81 rfl (by decide +kernel) ob_93 ?_
  refine Fr_aload_n (q := 0) (i := 0) 0 (by decide +kernel) rfl rfl ?_
  refine gf_X0_62 rfl (by decide +kernel) ob_93 ?_
  refine Fr_icmp_le (off := 16) 42 (by decide +kernel) (by decide) (fun hc => ?_) (fun hc => ?_)
  · have h := iT hc h
    obtain rfl := Option.some.inj h
    exact Fr_vret (by decide +kernel) rfl ⟨rfl, rfl⟩
  · have h := iF hc h
    refine Fr_aload_n (q := 0) (i := 0) 0 (by decide +kernel) rfl rfl ?_
    refine Fr_aload_n (q := 0) (i := 0) 0 (by decide +kernel) rfl rfl ?_
    refine gf_X0_81 rfl (by decide +kernel) ob_93 ?_
    refine pf_X0_62 rfl (by decide +kernel) ob_93 ?_
    obtain ⟨M_5, eM_5, h⟩ := bM_elim h
    refine Fr_mem eM_5 ?_
    refine Fr_aload_n (q := 0) (i := 0) 0 (by decide +kernel) rfl rfl ?_
    refine Fr_iload_n (q := 2) (i := 2) 2 (by decide +kernel) rfl rfl ?_
    refine pf_X0_65 rfl (by decide +kernel) ob_93 ?_
    obtain ⟨M_6, eM_6, h⟩ := bM_elim h
    refine Fr_mem eM_6 ?_
    obtain rfl := Option.some.inj h
    exact Fr_vret (by decide +kernel) rfl ⟨rfl, rfl⟩
def f_X0_findPlan_b52 (N : Nat) (p1 : Nat) (k19 : Int32 × Int32 → Mem → Option (Mem)) (k30 : Int32 × Int32 × Int32 → Mem → Option (Mem)) (v2 : Int32) (v3 : Int32) (v4 : Int32) (M : Mem) : Option (Mem) :=
  k30 (v2, v3, (v4 + 1)) M
set_option maxRecDepth 20000 in
theorem t_X0_findPlan_b52 {N : Nat} {p1 : Nat} (hp1 : Ob 0 111 p1 5) {q : Mem} {k19 : Int32 × Int32 → Mem → Option (Mem)} (hk19 : ∀ (a : Int32 × Int32) (M : Mem), k19 a M = some q → Fr 0 111 5 m_X0_findPlan 19 [(0, .ref 93), (1, .ref p1), (2, .int a.1), (3, .int a.2)] [] M (QV q)) {k30 : Int32 × Int32 × Int32 → Mem → Option (Mem)} (hk30 : ∀ (a : Int32 × Int32 × Int32) (M : Mem), k30 a M = some q → Fr 0 111 5 m_X0_findPlan 30 [(0, .ref 93), (1, .ref p1), (2, .int a.1), (3, .int a.2.1), (4, .int a.2.2)] [] M (QV q)) {v2 : Int32} {v3 : Int32} {v4 : Int32} {M : Mem} (h : f_X0_findPlan_b52 N p1 k19 k30 v2 v3 v4 M = some q) : Fr 0 111 5 m_X0_findPlan 52 [(0, .ref 93), (1, .ref p1), (2, .int v2), (3, .int v3), (4, .int v4)] [] M (QV q) := by
  unfold f_X0_findPlan_b52 at h
  refine Fr_iinc (i := 4) (j := 1) (v := (v4 + 1)) (lv' := [(4, .int (v4 + 1)), (0, .ref 93), (1, .ref p1), (2, .int v2), (3, .int v3)]) 4 (by decide +kernel) rfl rfl (by decide) rfl ?_
  refine Fr_goto (off := (-25)) 30 (by decide +kernel) (by decide) ?_
  refine Fr_loc [1, 2, 3, 4, 0] rfl ?_
  exact hk30 (v2, v3, (v4 + 1)) M h
def f_X0_findPlan_h30 (N : Nat) (p1 : Nat) (k19 : Int32 × Int32 → Mem → Option (Mem)) (k30 : Int32 × Int32 × Int32 → Mem → Option (Mem)) (v2 : Int32) (v3 : Int32) (v4 : Int32) (M : Mem) : Option (Mem) :=
  if v2 ≤ v4 then (k19 (v2, (v3 + 1)) M) else (bi (f_J6_bitCount_0f7a4 v4 M) fun r_6 M_4 =>
  if r_6 = v3 then (bv (f_X0_tryPlan N p1 v4 M_4) fun M_7 =>
  f_X0_findPlan_b52 N p1 k19 k30 v2 v3 v4 M_7) else (f_X0_findPlan_b52 N p1 k19 k30 v2 v3 v4 M_4))
set_option maxRecDepth 20000 in
theorem t_X0_findPlan_h30 {N : Nat} {p1 : Nat} (hp1 : Ob 0 111 p1 5) {q : Mem} {k19 : Int32 × Int32 → Mem → Option (Mem)} (hk19 : ∀ (a : Int32 × Int32) (M : Mem), k19 a M = some q → Fr 0 111 5 m_X0_findPlan 19 [(0, .ref 93), (1, .ref p1), (2, .int a.1), (3, .int a.2)] [] M (QV q)) {k30 : Int32 × Int32 × Int32 → Mem → Option (Mem)} (hk30 : ∀ (a : Int32 × Int32 × Int32) (M : Mem), k30 a M = some q → Fr 0 111 5 m_X0_findPlan 30 [(0, .ref 93), (1, .ref p1), (2, .int a.1), (3, .int a.2.1), (4, .int a.2.2)] [] M (QV q)) {v2 : Int32} {v3 : Int32} {v4 : Int32} {M : Mem} (h : f_X0_findPlan_h30 N p1 k19 k30 v2 v3 v4 M = some q) : Fr 0 111 5 m_X0_findPlan 30 [(0, .ref 93), (1, .ref p1), (2, .int v2), (3, .int v3), (4, .int v4)] [] M (QV q) := by
  unfold f_X0_findPlan_h30 at h
  refine Fr_iload (i := 4) 4 (by decide +kernel) rfl ?_
  refine Fr_iload_n (q := 2) (i := 2) 2 (by decide +kernel) rfl rfl ?_
  refine Fr_icmp_ge (off := 25) 58 (by decide +kernel) (by decide) (fun hc => ?_) (fun hc => ?_)
  · have h := iT hc h
    refine Fr_iinc (i := 3) (j := 1) (v := (v3 + 1)) (lv' := [(3, .int (v3 + 1)), (0, .ref 93), (1, .ref p1), (2, .int v2), (4, .int v4)]) 3 (by decide +kernel) rfl rfl (by decide) rfl ?_
    refine Fr_goto (off := (-42)) 19 (by decide +kernel) (by decide) ?_
    refine Fr_loc [1, 2, 3, 0] rfl ?_
    exact hk19 (v2, (v3 + 1)) M h
  · have h := iF hc h
    refine Fr_iload (i := 4) 4 (by decide +kernel) rfl ?_
    obtain ⟨r_6, M_4, hc_5, h⟩ := bi_elim h
    refine Fr_cSi (ν := m_J6_bitCount_0f7a4) (As := [.int v4]) (st := []) (d' := 0) (by decide +kernel) ml_X0_71 cs_J6_bitCount_0f7a4 rfl (by decide) (Nat.le_of_ble_eq_true rfl) (t_J6_bitCount_0f7a4 hc_5) ?_
    refine Fr_iload_n (q := 3) (i := 3) 3 (by decide +kernel) rfl rfl ?_
    refine Fr_icmp_ne (off := 10) 52 (by decide +kernel) (by decide) (fun hc => ?_) (fun hc => ?_)
    · have h := iF hc h
      exact t_X0_findPlan_b52 hp1 hk19 hk30 h
    · have h := iT hc h
      refine Fr_aload_n (q := 0) (i := 0) 0 (by decide +kernel) rfl rfl ?_
      refine Fr_aload_n (q := 1) (i := 1) 1 (by decide +kernel) rfl rfl ?_
      refine Fr_iload (i := 4) 4 (by decide +kernel) rfl ?_
      obtain ⟨M_7, hc_8, h⟩ := bv_elim h
      refine Fr_cVv (ν := m_X0_tryPlan) (As := [.ref p1, .int v4]) (st := []) (rc := 93) (ci := 0) (d' := 4) (by decide +kernel) ml_X0_77 cv_X0_tryPlan rfl (by decide) rfl ob_93 rfl (by decide) (Nat.le_of_ble_eq_true rfl) (t_X0_tryPlan hp1 hc_8) ?_
      exact t_X0_findPlan_b52 hp1 hk19 hk30 h
def f_X0_findPlan_h19 (N : Nat) (p1 : Nat) (k19 : Int32 × Int32 → Mem → Option (Mem)) (v2 : Int32) (v3 : Int32) (M : Mem) : Option (Mem) :=
  if (M.1 p1 7) < v3 then (some M) else (lp (fun k a m => f_X0_findPlan_h30 N p1 k19 k a.1 a.2.1 a.2.2 m) N (v2, v3, 0) M)
set_option maxRecDepth 20000 in
theorem t_X0_findPlan_h19 {N : Nat} {p1 : Nat} (hp1 : Ob 0 111 p1 5) {q : Mem} {k19 : Int32 × Int32 → Mem → Option (Mem)} (hk19 : ∀ (a : Int32 × Int32) (M : Mem), k19 a M = some q → Fr 0 111 5 m_X0_findPlan 19 [(0, .ref 93), (1, .ref p1), (2, .int a.1), (3, .int a.2)] [] M (QV q)) {v2 : Int32} {v3 : Int32} {M : Mem} (h : f_X0_findPlan_h19 N p1 k19 v2 v3 M = some q) : Fr 0 111 5 m_X0_findPlan 19 [(0, .ref 93), (1, .ref p1), (2, .int v2), (3, .int v3)] [] M (QV q) := by
  unfold f_X0_findPlan_h19 at h
  refine Fr_iload_n (q := 3) (i := 3) 3 (by decide +kernel) rfl rfl ?_
  refine Fr_aload_n (q := 1) (i := 1) 1 (by decide +kernel) rfl rfl ?_
  refine gf_X0_68 rfl (by decide +kernel) hp1 ?_
  refine Fr_icmp_gt (off := 40) 64 (by decide +kernel) (by decide) (fun hc => ?_) (fun hc => ?_)
  · have h := iT hc h
    obtain rfl := Option.some.inj h
    exact Fr_vret (by decide +kernel) rfl ⟨rfl, rfl⟩
  · have h := iF hc h
    refine Fr_iconst (i := 0) (v := 0) (by decide +kernel) (by decide) ?_
    refine Fr_istore (i := 4) (lv' := [(4, .int 0), (0, .ref 93), (1, .ref p1), (2, .int v2), (3, .int v3)]) (by decide +kernel) (by decide) rfl ?_
    refine Fr_loc [1, 2, 3, 4, 0] rfl ?_
    exact lp_sound (P := fun a M => Fr 0 111 5 m_X0_findPlan 30 [(0, .ref 93), (1, .ref p1), (2, .int a.1), (3, .int a.2.1), (4, .int a.2.2)] [] M (QV q)) (fun k hk a m h => t_X0_findPlan_h30 hp1 hk19 hk h) N (v2, v3, 0) M h
def f_X0_findPlan (N : Nat) (p1 : Nat) (M : Mem) : Option (Mem) :=
  bM (uI M 93 6 (-1)) fun M_1 =>
  bM (uI M_1 93 7 0) fun M_2 =>
  bI (1 <<< ((M_2.1 p1 7) &&& 31)) fun y_3 =>
  lp (fun k a m => f_X0_findPlan_h19 N p1 k a.1 a.2 m) N (y_3, 0) M_2
set_option maxRecDepth 20000 in
theorem t_X0_findPlan {N : Nat} {p1 : Nat} (hp1 : Ob 0 111 p1 5) {M : Mem} {q : Mem} (h : f_X0_findPlan N p1 M = some q) : Ev 0 111 5 m_X0_findPlan [.ref 93, .ref p1] M (QV q) := by
  refine Ev_of_Fr (by decide +kernel) (Nat.le_of_ble_eq_true rfl) ?_
  show Fr 0 111 5 m_X0_findPlan 0 [(0, .ref 93), (1, .ref p1)] [] M (QV q)
  unfold f_X0_findPlan at h
  refine Fr_aload_n (q := 0) (i := 0) 0 (by decide +kernel) rfl rfl ?_
  refine Fr_iconst (i := (-1)) (v := (-1)) (by decide +kernel) (by decide) ?_
  refine pf_X0_62 rfl (by decide +kernel) ob_93 ?_
  obtain ⟨M_1, eM_1, h⟩ := bM_elim h
  refine Fr_mem eM_1 ?_
  refine Fr_aload_n (q := 0) (i := 0) 0 (by decide +kernel) rfl rfl ?_
  refine Fr_iconst (i := 0) (v := 0) (by decide +kernel) (by decide) ?_
  refine pf_X0_65 rfl (by decide +kernel) ob_93 ?_
  obtain ⟨M_2, eM_2, h⟩ := bM_elim h
  refine Fr_mem eM_2 ?_
  refine Fr_iconst (i := 1) (v := 1) (by decide +kernel) (by decide) ?_
  refine Fr_aload_n (q := 1) (i := 1) 1 (by decide +kernel) rfl rfl ?_
  refine gf_X0_68 rfl (by decide +kernel) hp1 ?_
  refine Fr_ishl (by decide +kernel) ?_
  obtain ⟨y_3, ey_3, h⟩ := bI_elim h
  refine Fr_topI ey_3 ?_
  refine Fr_istore_n (q := 2) (i := 2) (lv' := [(2, .int y_3), (0, .ref 93), (1, .ref p1)]) (by decide +kernel) rfl (by decide) rfl ?_
  refine Fr_iconst (i := 0) (v := 0) (by decide +kernel) (by decide) ?_
  refine Fr_istore_n (q := 3) (i := 3) (lv' := [(3, .int 0), (2, .int y_3), (0, .ref 93), (1, .ref p1)]) (by decide +kernel) rfl (by decide) rfl ?_
  refine Fr_loc [2, 3, 1, 0] rfl ?_
  exact lp_sound (P := fun a M => Fr 0 111 5 m_X0_findPlan 19 [(0, .ref 93), (1, .ref p1), (2, .int a.1), (3, .int a.2)] [] M (QV q)) (fun k hk a m h => t_X0_findPlan_h19 hp1 hk h) N (y_3, 0) M_2 h
def f_X0_trySeconds_b118 (N : Nat) (p1 : Nat) (k38 : Int32 × Int32 × Int32 × Int32 × Int32 × Int32 → Mem → Option (Mem)) (v2 : Int32) (v3 : Int32) (v4 : Int32) (v5 : Int32) (v6 : Int32) (v7 : Int32) (M : Mem) : Option (Mem) :=
  k38 (v2, v3, v4, v5, v6, (v7 + 1)) M
set_option maxRecDepth 20000 in
theorem t_X0_trySeconds_b118 {N : Nat} {p1 : Nat} (hp1 : Ob 0 111 p1 5) {q : Mem} {k38 : Int32 × Int32 × Int32 × Int32 × Int32 × Int32 → Mem → Option (Mem)} (hk38 : ∀ (a : Int32 × Int32 × Int32 × Int32 × Int32 × Int32) (M : Mem), k38 a M = some q → Fr 0 111 4 m_X0_trySeconds 38 [(0, .ref 93), (1, .ref p1), (2, .int a.1), (3, .int a.2.1), (4, .int a.2.2.1), (5, .int a.2.2.2.1), (6, .int a.2.2.2.2.1), (7, .int a.2.2.2.2.2)] [] M (QV q)) {v2 : Int32} {v3 : Int32} {v4 : Int32} {v5 : Int32} {v6 : Int32} {v7 : Int32} {M : Mem} (h : f_X0_trySeconds_b118 N p1 k38 v2 v3 v4 v5 v6 v7 M = some q) : Fr 0 111 4 m_X0_trySeconds 118 [(0, .ref 93), (1, .ref p1), (2, .int v2), (3, .int v3), (4, .int v4), (5, .int v5), (6, .int v6), (7, .int v7)] [] M (QV q) := by
  unfold f_X0_trySeconds_b118 at h
  refine Fr_iinc (i := 7) (j := 1) (v := (v7 + 1)) (lv' := [(7, .int (v7 + 1)), (0, .ref 93), (1, .ref p1), (2, .int v2), (3, .int v3), (4, .int v4), (5, .int v5), (6, .int v6)]) 7 (by decide +kernel) rfl rfl (by decide) rfl ?_
  refine Fr_goto (off := (-83)) 38 (by decide +kernel) (by decide) ?_
  refine Fr_loc [1, 2, 3, 4, 5, 6, 7, 0] rfl ?_
  exact hk38 (v2, v3, v4, v5, v6, (v7 + 1)) M h
def f_X0_trySeconds_h38 (N : Nat) (p1 : Nat) (k38 : Int32 × Int32 × Int32 × Int32 × Int32 × Int32 → Mem → Option (Mem)) (v2 : Int32) (v3 : Int32) (v4 : Int32) (v5 : Int32) (v6 : Int32) (v7 : Int32) (M : Mem) : Option (Mem) :=
  if v6 ≤ v7 then (some M) else (bM (rI M 94 (va_cpy (M.1 95) (M.1 94) (tn 0) (tn 0) (tn 60))) fun M_3 =>
  bM (uI M_3 93 3 v4) fun M_4 =>
  bM (uI M_4 93 4 v5) fun M_5 =>
  bv (f_X0_follow N p1 v7 (v3 + 1) 24 (M_5.1 93 6) M_5) fun M_6 =>
  if (M_6.1 93 4) ≤ (M_6.1 93 6) then (f_X0_trySeconds_b118 N p1 k38 v2 v3 v4 v5 v6 v7 M_6) else (bM (uI M_6 93 6 (M_6.1 93 4)) fun M_8 =>
  bM (uI M_8 93 7 v2) fun M_9 =>
  bM (uI M_9 93 8 v7) fun M_10 =>
  f_X0_trySeconds_b118 N p1 k38 v2 v3 v4 v5 v6 v7 M_10))
set_option maxRecDepth 20000 in
theorem t_X0_trySeconds_h38 {N : Nat} {p1 : Nat} (hp1 : Ob 0 111 p1 5) {q : Mem} {k38 : Int32 × Int32 × Int32 × Int32 × Int32 × Int32 → Mem → Option (Mem)} (hk38 : ∀ (a : Int32 × Int32 × Int32 × Int32 × Int32 × Int32) (M : Mem), k38 a M = some q → Fr 0 111 4 m_X0_trySeconds 38 [(0, .ref 93), (1, .ref p1), (2, .int a.1), (3, .int a.2.1), (4, .int a.2.2.1), (5, .int a.2.2.2.1), (6, .int a.2.2.2.2.1), (7, .int a.2.2.2.2.2)] [] M (QV q)) {v2 : Int32} {v3 : Int32} {v4 : Int32} {v5 : Int32} {v6 : Int32} {v7 : Int32} {M : Mem} (h : f_X0_trySeconds_h38 N p1 k38 v2 v3 v4 v5 v6 v7 M = some q) : Fr 0 111 4 m_X0_trySeconds 38 [(0, .ref 93), (1, .ref p1), (2, .int v2), (3, .int v3), (4, .int v4), (5, .int v5), (6, .int v6), (7, .int v7)] [] M (QV q) := by
  unfold f_X0_trySeconds_h38 at h
  refine Fr_iload (i := 7) 7 (by decide +kernel) rfl ?_
  refine Fr_iload (i := 6) 6 (by decide +kernel) rfl ?_
  refine Fr_icmp_ge (off := 82) 124 (by decide +kernel) (by decide) (fun hc => ?_) (fun hc => ?_)
  · have h := iT hc h
    obtain rfl := Option.some.inj h
    exact Fr_vret (by decide +kernel) rfl ⟨rfl, rfl⟩
  · have h := iF hc h
    refine Fr_aload_n (q := 0) (i := 0) 0 (by decide +kernel) rfl rfl ?_
    refine gf_X0_15 rfl (by decide +kernel) ob_93 ?_
    refine Fr_iconst (i := 0) (v := 0) (by decide +kernel) (by decide) ?_
    refine Fr_aload_n (q := 0) (i := 0) 0 (by decide +kernel) rfl rfl ?_
    refine gf_X0_9 rfl (by decide +kernel) ob_93 ?_
    refine Fr_iconst (i := 0) (v := 0) (by decide +kernel) (by decide) ?_
    refine Fr_bipush (i := 60) (v := 60) (by decide +kernel) (by decide) ?_
    refine Fr_acopyI (by decide +kernel) ml_X0_27 ob_95 ob_94 (by decide) (by decide) (by decide) (le_len ln_95 (by decide)) (le_len ln_94 (by decide)) (by decide) (Nat.le_of_ble_eq_true rfl) ?_
    obtain ⟨M_3, eM_3, h⟩ := bM_elim h
    refine Fr_mem eM_3 ?_
    refine Fr_aload_n (q := 0) (i := 0) 0 (by decide +kernel) rfl rfl ?_
    refine Fr_iload (i := 4) 4 (by decide +kernel) rfl ?_
    refine pf_X0_59 rfl (by decide +kernel) ob_93 ?_
    obtain ⟨M_4, eM_4, h⟩ := bM_elim h
    refine Fr_mem eM_4 ?_
    refine Fr_aload_n (q := 0) (i := 0) 0 (by decide +kernel) rfl rfl ?_
    refine Fr_iload (i := 5) 5 (by decide +kernel) rfl ?_
    refine pf_X0_81 rfl (by decide +kernel) ob_93 ?_
    obtain ⟨M_5, eM_5, h⟩ := bM_elim h
    refine Fr_mem eM_5 ?_
    refine Fr_aload_n (q := 0) (i := 0) 0 (by decide +kernel) rfl rfl ?_
    refine Fr_aload_n (q := 1) (i := 1) 1 (by decide +kernel) rfl rfl ?_
    refine Fr_iload (i := 7) 7 (by decide +kernel) rfl ?_
    refine Fr_iload_n (q := 3) (i := 3) 3 (by decide +kernel) rfl rfl ?_
    refine Fr_iconst (i := 1) (v := 1) (by decide +kernel) (by decide) ?_
    refine Fr_iadd (by decide +kernel) ?_
    refine Fr_bipush (i := 24) (v := 24) (by decide +kernel) (by decide) ?_
    refine Fr_aload_n (q := 0) (i := 0) 0 (by decide +kernel) rfl rfl ?_
    refine gf_X0_62 rfl (by decide +kernel) ob_93 ?_
    obtain ⟨M_6, hc_7, h⟩ := bv_elim h
    refine Fr_cVv (ν := m_X0_follow) (As := [.ref p1, .int v7, .int (v3 + 1), .int 24, .int (M_5.1 93 6)]) (st := []) (rc := 93) (ci := 0) (d' := 3) (by decide +kernel) ml_X0_55 cv_X0_follow rfl (by decide) rfl ob_93 rfl (by decide) (Nat.le_of_ble_eq_true rfl) (t_X0_follow hp1 hc_7) ?_
    refine Fr_aload_n (q := 0) (i := 0) 0 (by decide +kernel) rfl rfl ?_
    refine gf_X0_81 rfl (by decide +kernel) ob_93 ?_
    refine Fr_aload_n (q := 0) (i := 0) 0 (by decide +kernel) rfl rfl ?_
    refine gf_X0_62 rfl (by decide +kernel) ob_93 ?_
    refine Fr_icmp_le (off := 22) 118 (by decide +kernel) (by decide) (fun hc => ?_) (fun hc => ?_)
    · have h := iT hc h
      exact t_X0_trySeconds_b118 hp1 hk38 h
    · have h := iF hc h
      refine Fr_aload_n (q := 0) (i := 0) 0 (by decide +kernel) rfl rfl ?_
      refine Fr_aload_n (q := 0) (i := 0) 0 (by decide +kernel) rfl rfl ?_
      refine gf_X0_81 rfl (by decide +kernel) ob_93 ?_
      refine pf_X0_62 rfl (by decide +kernel) ob_93 ?_
      obtain ⟨M_8, eM_8, h⟩ := bM_elim h
      refine Fr_mem eM_8 ?_
      refine Fr_aload_n (q := 0) (i := 0) 0 (by decide +kernel) rfl rfl ?_
      refine Fr_iload_n (q := 2) (i := 2) 2 (by decide +kernel) rfl rfl ?_
      refine pf_X0_65 rfl (by decide +kernel) ob_93 ?_
      obtain ⟨M_9, eM_9, h⟩ := bM_elim h
      refine Fr_mem eM_9 ?_
      refine Fr_aload_n (q := 0) (i := 0) 0 (by decide +kernel) rfl rfl ?_
      refine Fr_iload (i := 7) 7 (by decide +kernel) rfl ?_
      refine pf_X0_84 rfl (by decide +kernel) ob_93 ?_
      obtain ⟨M_10, eM_10, h⟩ := bM_elim h
      refine Fr_mem eM_10 ?_
      exact t_X0_trySeconds_b118 hp1 hk38 h
def f_X0_trySeconds (N : Nat) (p1 : Nat) (x2 : Int32) (x3 : Int32) (M : Mem) : Option (Mem) :=
  bM (rI M 95 (va_cpy (M.1 94) (M.1 95) (tn 0) (tn 0) (tn 60))) fun M_1 =>
  bI (1 <<< ((M_1.1 p1 7) &&& 31)) fun y_2 =>
  lp (fun k a m => f_X0_trySeconds_h38 N p1 k a.1 a.2.1 a.2.2.1 a.2.2.2.1 a.2.2.2.2.1 a.2.2.2.2.2 m) N (x2, x3, (M.1 93 3), (M.1 93 4), y_2, 0) M_1
set_option maxRecDepth 20000 in
theorem t_X0_trySeconds {N : Nat} {p1 : Nat} {x2 : Int32} {x3 : Int32} (hp1 : Ob 0 111 p1 5) {M : Mem} {q : Mem} (h : f_X0_trySeconds N p1 x2 x3 M = some q) : Ev 0 111 4 m_X0_trySeconds [.ref 93, .ref p1, .int x2, .int x3] M (QV q) := by
  refine Ev_of_Fr (by decide +kernel) (Nat.le_of_ble_eq_true rfl) ?_
  show Fr 0 111 4 m_X0_trySeconds 0 [(0, .ref 93), (1, .ref p1), (2, .int x2), (3, .int x3)] [] M (QV q)
  unfold f_X0_trySeconds at h
  refine Fr_aload_n (q := 0) (i := 0) 0 (by decide +kernel) rfl rfl ?_
  refine gf_X0_59 rfl (by decide +kernel) ob_93 ?_
  refine Fr_istore (i := 4) (lv' := [(4, .int (M.1 93 3)), (0, .ref 93), (1, .ref p1), (2, .int x2), (3, .int x3)]) (by decide +kernel) (by decide) rfl ?_
  refine Fr_aload_n (q := 0) (i := 0) 1 (by decide +kernel) rfl rfl ?_
  refine gf_X0_81 rfl (by decide +kernel) ob_93 ?_
  refine Fr_istore (i := 5) (lv' := [(5, .int (M.1 93 4)), (4, .int (M.1 93 3)), (0, .ref 93), (1, .ref p1), (2, .int x2), (3, .int x3)]) (by decide +kernel) (by decide) rfl ?_
  refine Fr_aload_n (q := 0) (i := 0) 2 (by decide +kernel) rfl rfl ?_
  refine gf_X0_9 rfl (by decide +kernel) ob_93 ?_
  refine Fr_iconst (i := 0) (v := 0) (by decide +kernel) (by decide) ?_
  refine Fr_aload_n (q := 0) (i := 0) 2 (by decide +kernel) rfl rfl ?_
  refine gf_X0_15 rfl (by decide +kernel) ob_93 ?_
  refine Fr_iconst (i := 0) (v := 0) (by decide +kernel) (by decide) ?_
  refine Fr_bipush (i := 60) (v := 60) (by decide +kernel) (by decide) ?_
  refine Fr_acopyI (by decide +kernel) ml_X0_27 ob_94 ob_95 (by decide) (by decide) (by decide) (le_len ln_94 (by decide)) (le_len ln_95 (by decide)) (by decide) (Nat.le_of_ble_eq_true rfl) ?_
  obtain ⟨M_1, eM_1, h⟩ := bM_elim h
  refine Fr_mem eM_1 ?_
  refine Fr_iconst (i := 1) (v := 1) (by decide +kernel) (by decide) ?_
  refine Fr_aload_n (q := 1) (i := 1) 3 (by decide +kernel) rfl rfl ?_
  refine gf_X0_68 rfl (by decide +kernel) hp1 ?_
  refine Fr_ishl (by decide +kernel) ?_
  obtain ⟨y_2, ey_2, h⟩ := bI_elim h
  refine Fr_topI ey_2 ?_
  refine Fr_istore (i := 6) (lv' := [(6, .int y_2), (5, .int (M.1 93 4)), (4, .int (M.1 93 3)), (0, .ref 93), (1, .ref p1), (2, .int x2), (3, .int x3)]) (by decide +kernel) (by decide) rfl ?_
  refine Fr_iconst (i := 0) (v := 0) (by decide +kernel) (by decide) ?_
  refine Fr_istore (i := 7) (lv' := [(7, .int 0), (6, .int y_2), (5, .int (M.1 93 4)), (4, .int (M.1 93 3)), (0, .ref 93), (1, .ref p1), (2, .int x2), (3, .int x3)]) (by decide +kernel) (by decide) rfl ?_
  refine Fr_loc [4, 5, 6, 7, 3, 2, 1, 0] rfl ?_
  exact lp_sound (P := fun a M => Fr 0 111 4 m_X0_trySeconds 38 [(0, .ref 93), (1, .ref p1), (2, .int a.1), (3, .int a.2.1), (4, .int a.2.2.1), (5, .int a.2.2.2.1), (6, .int a.2.2.2.2.1), (7, .int a.2.2.2.2.2)] [] M (QV q)) (fun k hk a m h => t_X0_trySeconds_h38 hp1 hk h) N (x2, x3, (M.1 93 3), (M.1 93 4), y_2, 0) M_1 h
def f_X0_findTurn_b68 (N : Nat) (p1 : Nat) (k25 : Int32 × Int32 × Int32 → Mem → Option (Mem)) (v2 : Int32) (v3 : Int32) (v4 : Int32) (M : Mem) : Option (Mem) :=
  k25 (v2, v3, (v4 + 1)) M
set_option maxRecDepth 20000 in
theorem t_X0_findTurn_b68 {N : Nat} {p1 : Nat} (hp1 : Ob 0 111 p1 5) {q : Mem} {k25 : Int32 × Int32 × Int32 → Mem → Option (Mem)} (hk25 : ∀ (a : Int32 × Int32 × Int32) (M : Mem), k25 a M = some q → Fr 0 111 5 m_X0_findTurn 25 [(0, .ref 93), (1, .ref p1), (2, .int a.1), (3, .int a.2.1), (4, .int a.2.2)] [] M (QV q)) {v2 : Int32} {v3 : Int32} {v4 : Int32} {M : Mem} (h : f_X0_findTurn_b68 N p1 k25 v2 v3 v4 M = some q) : Fr 0 111 5 m_X0_findTurn 68 [(0, .ref 93), (1, .ref p1), (2, .int v2), (3, .int v3), (4, .int v4)] [] M (QV q) := by
  unfold f_X0_findTurn_b68 at h
  refine Fr_iinc (i := 4) (j := 1) (v := (v4 + 1)) (lv' := [(4, .int (v4 + 1)), (0, .ref 93), (1, .ref p1), (2, .int v2), (3, .int v3)]) 4 (by decide +kernel) rfl rfl (by decide) rfl ?_
  refine Fr_goto (off := (-46)) 25 (by decide +kernel) (by decide) ?_
  refine Fr_loc [1, 2, 3, 4, 0] rfl ?_
  exact hk25 (v2, v3, (v4 + 1)) M h
def f_X0_findTurn_h25 (N : Nat) (p1 : Nat) (k25 : Int32 × Int32 × Int32 → Mem → Option (Mem)) (v2 : Int32) (v3 : Int32) (v4 : Int32) (M : Mem) : Option (Mem) :=
  if v3 ≤ v4 then (some M) else (bv (f_X0_begin N p1 M) fun M_5 =>
  bv (f_X0_follow N p1 v4 1 v2 (M_5.1 93 6) M_5) fun M_7 =>
  if (M_7.1 93 4) ≤ (M_7.1 93 6) then (f_X0_findTurn_b68 N p1 k25 v2 v3 v4 M_7) else (bv (f_X0_trySeconds N p1 v4 v2 M_7) fun M_9 =>
  f_X0_findTurn_b68 N p1 k25 v2 v3 v4 M_9))
set_option maxRecDepth 20000 in
theorem t_X0_findTurn_h25 {N : Nat} {p1 : Nat} (hp1 : Ob 0 111 p1 5) {q : Mem} {k25 : Int32 × Int32 × Int32 → Mem → Option (Mem)} (hk25 : ∀ (a : Int32 × Int32 × Int32) (M : Mem), k25 a M = some q → Fr 0 111 5 m_X0_findTurn 25 [(0, .ref 93), (1, .ref p1), (2, .int a.1), (3, .int a.2.1), (4, .int a.2.2)] [] M (QV q)) {v2 : Int32} {v3 : Int32} {v4 : Int32} {M : Mem} (h : f_X0_findTurn_h25 N p1 k25 v2 v3 v4 M = some q) : Fr 0 111 5 m_X0_findTurn 25 [(0, .ref 93), (1, .ref p1), (2, .int v2), (3, .int v3), (4, .int v4)] [] M (QV q) := by
  unfold f_X0_findTurn_h25 at h
  refine Fr_iload (i := 4) 4 (by decide +kernel) rfl ?_
  refine Fr_iload_n (q := 3) (i := 3) 3 (by decide +kernel) rfl rfl ?_
  refine Fr_icmp_ge (off := 46) 74 (by decide +kernel) (by decide) (fun hc => ?_) (fun hc => ?_)
  · have h := iT hc h
    obtain rfl := Option.some.inj h
    exact Fr_vret (by decide +kernel) rfl ⟨rfl, rfl⟩
  · have h := iF hc h
    refine Fr_aload_n (q := 0) (i := 0) 0 (by decide +kernel) rfl rfl ?_
    refine Fr_aload_n (q := 1) (i := 1) 1 (by decide +kernel) rfl rfl ?_
    obtain ⟨M_5, hc_6, h⟩ := bv_elim h
    refine Fr_cVv (ν := m_X0_begin) (As := [.ref p1]) (st := []) (rc := 93) (ci := 0) (d' := 1) (by decide +kernel) ml_X0_51 cv_X0_begin rfl (by decide) rfl ob_93 rfl (by decide) (Nat.le_of_ble_eq_true rfl) (t_X0_begin hp1 hc_6) ?_
    refine Fr_aload_n (q := 0) (i := 0) 0 (by decide +kernel) rfl rfl ?_
    refine Fr_aload_n (q := 1) (i := 1) 1 (by decide +kernel) rfl rfl ?_
    refine Fr_iload (i := 4) 4 (by decide +kernel) rfl ?_
    refine Fr_iconst (i := 1) (v := 1) (by decide +kernel) (by decide) ?_
    refine Fr_iload_n (q := 2) (i := 2) 2 (by decide +kernel) rfl rfl ?_
    refine Fr_aload_n (q := 0) (i := 0) 0 (by decide +kernel) rfl rfl ?_
    refine gf_X0_62 rfl (by decide +kernel) ob_93 ?_
    obtain ⟨M_7, hc_8, h⟩ := bv_elim h
    refine Fr_cVv (ν := m_X0_follow) (As := [.ref p1, .int v4, .int 1, .int v2, .int (M_5.1 93 6)]) (st := []) (rc := 93) (ci := 0) (d' := 3) (by decide +kernel) ml_X0_55 cv_X0_follow rfl (by decide) rfl ob_93 rfl (by decide) (Nat.le_of_ble_eq_true rfl) (t_X0_follow hp1 hc_8) ?_
    refine Fr_aload_n (q := 0) (i := 0) 0 (by decide +kernel) rfl rfl ?_
    refine gf_X0_81 rfl (by decide +kernel) ob_93 ?_
    refine Fr_aload_n (q := 0) (i := 0) 0 (by decide +kernel) rfl rfl ?_
    refine gf_X0_62 rfl (by decide +kernel) ob_93 ?_
    refine Fr_icmp_le (off := 11) 68 (by decide +kernel) (by decide) (fun hc => ?_) (fun hc => ?_)
    · have h := iT hc h
      exact t_X0_findTurn_b68 hp1 hk25 h
    · have h := iF hc h
      refine Fr_aload_n (q := 0) (i := 0) 0 (by decide +kernel) rfl rfl ?_
      refine Fr_aload_n (q := 1) (i := 1) 1 (by decide +kernel) rfl rfl ?_
      refine Fr_iload (i := 4) 4 (by decide +kernel) rfl ?_
      refine Fr_iload_n (q := 2) (i := 2) 2 (by decide +kernel) rfl rfl ?_
      obtain ⟨M_9, hc_10, h⟩ := bv_elim h
      refine Fr_cVv (ν := m_X0_trySeconds) (As := [.ref p1, .int v4, .int v2]) (st := []) (rc := 93) (ci := 0) (d' := 4) (by decide +kernel) ml_X0_87 cv_X0_trySeconds rfl (by decide) rfl ob_93 rfl (by decide) (Nat.le_of_ble_eq_true rfl) (t_X0_trySeconds hp1 hc_10) ?_
      exact t_X0_findTurn_b68 hp1 hk25 h
def f_X0_findTurn (N : Nat) (p1 : Nat) (x2 : Int32) (M : Mem) : Option (Mem) :=
  bM (uI M 93 6 (-1)) fun M_1 =>
  bM (uI M_1 93 7 0) fun M_2 =>
  bM (uI M_2 93 8 0) fun M_3 =>
  bI (1 <<< ((M_3.1 p1 7) &&& 31)) fun y_4 =>
  lp (fun k a m => f_X0_findTurn_h25 N p1 k a.1 a.2.1 a.2.2 m) N (x2, y_4, 0) M_3
set_option maxRecDepth 20000 in
theorem t_X0_findTurn {N : Nat} {p1 : Nat} {x2 : Int32} (hp1 : Ob 0 111 p1 5) {M : Mem} {q : Mem} (h : f_X0_findTurn N p1 x2 M = some q) : Ev 0 111 5 m_X0_findTurn [.ref 93, .ref p1, .int x2] M (QV q) := by
  refine Ev_of_Fr (by decide +kernel) (Nat.le_of_ble_eq_true rfl) ?_
  show Fr 0 111 5 m_X0_findTurn 0 [(0, .ref 93), (1, .ref p1), (2, .int x2)] [] M (QV q)
  unfold f_X0_findTurn at h
  refine Fr_aload_n (q := 0) (i := 0) 0 (by decide +kernel) rfl rfl ?_
  refine Fr_iconst (i := (-1)) (v := (-1)) (by decide +kernel) (by decide) ?_
  refine pf_X0_62 rfl (by decide +kernel) ob_93 ?_
  obtain ⟨M_1, eM_1, h⟩ := bM_elim h
  refine Fr_mem eM_1 ?_
  refine Fr_aload_n (q := 0) (i := 0) 0 (by decide +kernel) rfl rfl ?_
  refine Fr_iconst (i := 0) (v := 0) (by decide +kernel) (by decide) ?_
  refine pf_X0_65 rfl (by decide +kernel) ob_93 ?_
  obtain ⟨M_2, eM_2, h⟩ := bM_elim h
  refine Fr_mem eM_2 ?_
  refine Fr_aload_n (q := 0) (i := 0) 0 (by decide +kernel) rfl rfl ?_
  refine Fr_iconst (i := 0) (v := 0) (by decide +kernel) (by decide) ?_
  refine pf_X0_84 rfl (by decide +kernel) ob_93 ?_
  obtain ⟨M_3, eM_3, h⟩ := bM_elim h
  refine Fr_mem eM_3 ?_
  refine Fr_iconst (i := 1) (v := 1) (by decide +kernel) (by decide) ?_
  refine Fr_aload_n (q := 1) (i := 1) 1 (by decide +kernel) rfl rfl ?_
  refine gf_X0_68 rfl (by decide +kernel) hp1 ?_
  refine Fr_ishl (by decide +kernel) ?_
  obtain ⟨y_4, ey_4, h⟩ := bI_elim h
  refine Fr_topI ey_4 ?_
  refine Fr_istore_n (q := 3) (i := 3) (lv' := [(3, .int y_4), (0, .ref 93), (1, .ref p1), (2, .int x2)]) (by decide +kernel) rfl (by decide) rfl ?_
  refine Fr_iconst (i := 0) (v := 0) (by decide +kernel) (by decide) ?_
  refine Fr_istore (i := 4) (lv' := [(4, .int 0), (3, .int y_4), (0, .ref 93), (1, .ref p1), (2, .int x2)]) (by decide +kernel) (by decide) rfl ?_
  refine Fr_loc [2, 3, 4, 1, 0] rfl ?_
  exact lp_sound (P := fun a M => Fr 0 111 5 m_X0_findTurn 25 [(0, .ref 93), (1, .ref p1), (2, .int a.1), (3, .int a.2.1), (4, .int a.2.2)] [] M (QV q)) (fun k hk a m h => t_X0_findTurn_h25 hp1 hk h) N (x2, y_4, 0) M_3 h
def f_J7_fill_53178_h5 (N : Nat) (p0 : Nat) (k5 : Int32 × Int32 × Int32 → Mem → Option (Mem)) (v1 : Int32) (v2 : Int32) (v3 : Int32) (M : Mem) : Option (Mem) :=
  if v3 ≤ v2 then (some M) else (ck v2 (ln p0) (
  bM (uI M p0 (tn v2) v1) fun M_2 =>
  k5 (v1, (v2 + 1), v3) M_2))
set_option maxRecDepth 20000 in
theorem t_J7_fill_53178_h5 {N : Nat} {p0 : Nat} (hp0 : Ob 0 111 p0 20) {q : Mem} {k5 : Int32 × Int32 × Int32 → Mem → Option (Mem)} (hk5 : ∀ (a : Int32 × Int32 × Int32) (M : Mem), k5 a M = some q → Fr 0 111 0 m_J7_fill_53178 5 [(0, .ref p0), (1, .int a.1), (2, .int a.2.1), (3, .int a.2.2)] [] M (QV q)) {v1 : Int32} {v2 : Int32} {v3 : Int32} {M : Mem} (h : f_J7_fill_53178_h5 N p0 k5 v1 v2 v3 M = some q) : Fr 0 111 0 m_J7_fill_53178 5 [(0, .ref p0), (1, .int v1), (2, .int v2), (3, .int v3)] [] M (QV q) := by
  unfold f_J7_fill_53178_h5 at h
  refine Fr_iload_n (q := 2) (i := 2) 2 (by decide +kernel) rfl rfl ?_
  refine Fr_iload_n (q := 3) (i := 3) 3 (by decide +kernel) rfl rfl ?_
  refine Fr_icmp_ge (off := 13) 20 (by decide +kernel) (by decide) (fun hc => ?_) (fun hc => ?_)
  · have h := iT hc h
    obtain rfl := Option.some.inj h
    exact Fr_vret (by decide +kernel) rfl ⟨rfl, rfl⟩
  · have h := iF hc h
    refine Fr_aload_n (q := 0) (i := 0) 0 (by decide +kernel) rfl rfl ?_
    refine Fr_iload_n (q := 2) (i := 2) 2 (by decide +kernel) rfl rfl ?_
    refine Fr_iload_n (q := 1) (i := 1) 1 (by decide +kernel) rfl rfl ?_
    obtain ⟨hi_1, h⟩ := ck_elim h
    refine Fr_iast (by decide +kernel) hp0 (vp_of rfl hi_1) ?_
    obtain ⟨M_2, eM_2, h⟩ := bM_elim h
    refine Fr_mem eM_2 ?_
    refine Fr_iinc (i := 2) (j := 1) (v := (v2 + 1)) (lv' := [(2, .int (v2 + 1)), (0, .ref p0), (1, .int v1), (3, .int v3)]) 2 (by decide +kernel) rfl rfl (by decide) rfl ?_
    refine Fr_goto (off := (-12)) 5 (by decide +kernel) (by decide) ?_
    refine Fr_loc [1, 2, 0, 3] rfl ?_
    exact hk5 (v1, (v2 + 1), v3) M_2 h
def f_J7_fill_53178 (N : Nat) (p0 : Nat) (x1 : Int32) (M : Mem) : Option (Mem) :=
  lp (fun k a m => f_J7_fill_53178_h5 N p0 k a.1 a.2.1 a.2.2 m) N (x1, 0, (Int32.ofNat (ln p0))) M
set_option maxRecDepth 20000 in
theorem t_J7_fill_53178 {N : Nat} {p0 : Nat} {x1 : Int32} (hp0 : Ob 0 111 p0 20) {M : Mem} {q : Mem} (h : f_J7_fill_53178 N p0 x1 M = some q) : Ev 0 111 0 m_J7_fill_53178 [.ref p0, .int x1] M (QV q) := by
  refine Ev_of_Fr (by decide +kernel) (Nat.le_of_ble_eq_true rfl) ?_
  show Fr 0 111 0 m_J7_fill_53178 0 [(0, .ref p0), (1, .int x1)] [] M (QV q)
  unfold f_J7_fill_53178 at h
  refine Fr_iconst (i := 0) (v := 0) (by decide +kernel) (by decide) ?_
  refine Fr_istore_n (q := 2) (i := 2) (lv' := [(2, .int 0), (0, .ref p0), (1, .int x1)]) (by decide +kernel) rfl (by decide) rfl ?_
  refine Fr_aload_n (q := 0) (i := 0) 1 (by decide +kernel) rfl rfl ?_
  refine Fr_alen (by decide +kernel) hp0 (by decide) rfl ?_
  refine Fr_istore_n (q := 3) (i := 3) (lv' := [(3, .int (Int32.ofNat (ln p0))), (2, .int 0), (0, .ref p0), (1, .int x1)]) (by decide +kernel) rfl (by decide) rfl ?_
  refine Fr_loc [2, 3, 1, 0] rfl ?_
  exact lp_sound (P := fun a M => Fr 0 111 0 m_J7_fill_53178 5 [(0, .ref p0), (1, .int a.1), (2, .int a.2.1), (3, .int a.2.2)] [] M (QV q)) (fun k hk a m h => t_J7_fill_53178_h5 hp0 hk h) N (x1, 0, (Int32.ofNat (ln p0))) M h
def f_X1_takeTry_b112 (N : Nat) (k65 : Int32 × Int32 × Int32 × Int32 → Mem → Option (Bool × Mem)) (v3 : Int32) (v4 : Int32) (v5 : Int32) (v6 : Int32) (M : Mem) : Option (Bool × Mem) :=
  k65 (v3, v4, v5, (v6 + 1)) M
set_option maxRecDepth 20000 in
theorem t_X1_takeTry_b112 {N : Nat} {q : Bool × Mem} {k65 : Int32 × Int32 × Int32 × Int32 → Mem → Option (Bool × Mem)} (hk65 : ∀ (a : Int32 × Int32 × Int32 × Int32) (M : Mem), k65 a M = some q → Fr 0 111 0 m_X1_takeTry 65 [(0, .ref 103), (3, .int a.1), (4, .int a.2.1), (5, .int a.2.2.1), (6, .int a.2.2.2)] [] M (QB q)) {v3 : Int32} {v4 : Int32} {v5 : Int32} {v6 : Int32} {M : Mem} (h : f_X1_takeTry_b112 N k65 v3 v4 v5 v6 M = some q) : Fr 0 111 0 m_X1_takeTry 112 [(0, .ref 103), (3, .int v3), (4, .int v4), (5, .int v5), (6, .int v6)] [] M (QB q) := by
  unfold f_X1_takeTry_b112 at h
  refine Fr_iinc (i := 6) (j := 1) (v := (v6 + 1)) (lv' := [(6, .int (v6 + 1)), (0, .ref 103), (3, .int v3), (4, .int v4), (5, .int v5)]) 4 (by decide +kernel) rfl rfl (by decide) rfl ?_
  refine Fr_goto (off := (-50)) 65 (by decide +kernel) (by decide) ?_
  refine Fr_loc [1, 2, 3, 4, 0] rfl ?_
  exact hk65 (v3, v4, v5, (v6 + 1)) M h
def f_X1_takeTry_b96 (N : Nat) (k65 : Int32 × Int32 × Int32 × Int32 → Mem → Option (Bool × Mem)) (v3 : Int32) (v4 : Int32) (v5 : Int32) (v6 : Int32) (s0 : Int32) (s1 : Int32) (M : Mem) : Option (Bool × Mem) :=
  if s1 = s0 then (ck ((v3 * 6) + v6) 36 (
  bM (uI M 104 (tn ((v3 * 6) + v6)) 0) fun M_4 =>
  f_X1_takeTry_b112 N k65 v3 v4 v5 v6 M_4)) else (f_X1_takeTry_b112 N k65 v3 v4 v5 v6 M)
set_option maxRecDepth 20000 in
theorem t_X1_takeTry_b96 {N : Nat} {q : Bool × Mem} {k65 : Int32 × Int32 × Int32 × Int32 → Mem → Option (Bool × Mem)} (hk65 : ∀ (a : Int32 × Int32 × Int32 × Int32) (M : Mem), k65 a M = some q → Fr 0 111 0 m_X1_takeTry 65 [(0, .ref 103), (3, .int a.1), (4, .int a.2.1), (5, .int a.2.2.1), (6, .int a.2.2.2)] [] M (QB q)) {v3 : Int32} {v4 : Int32} {v5 : Int32} {v6 : Int32} {s0 : Int32} {s1 : Int32} {M : Mem} (h : f_X1_takeTry_b96 N k65 v3 v4 v5 v6 s0 s1 M = some q) : Fr 0 111 0 m_X1_takeTry 96 [(0, .ref 103), (3, .int v3), (4, .int v4), (5, .int v5), (6, .int v6)] [.int s0, .int s1] M (QB q) := by
  unfold f_X1_takeTry_b96 at h
  refine Fr_icmp_ne (off := 16) 112 (by decide +kernel) (by decide) (fun hc => ?_) (fun hc => ?_)
  · have h := iF hc h
    exact t_X1_takeTry_b112 hk65 h
  · have h := iT hc h
    refine Fr_aload_n (q := 0) (i := 0) 0 (by decide +kernel) rfl rfl ?_
    refine gf_X1_9 rfl (by decide +kernel) ob_103 ?_
    refine Fr_iload_n (q := 3) (i := 3) 1 (by decide +kernel) rfl rfl ?_
    refine Fr_bipush (i := 6) (v := 6) (by decide +kernel) (by decide) ?_
    refine Fr_imul (by decide +kernel) ?_
    refine Fr_iload (i := 6) 4 (by decide +kernel) rfl ?_
    refine Fr_iadd (by decide +kernel) ?_
    refine Fr_iconst (i := 0) (v := 0) (by decide +kernel) (by decide) ?_
    obtain ⟨hi_3, h⟩ := ck_elim h
    refine Fr_iast (by decide +kernel) ob_104 (vp_of ln_104 hi_3) ?_
    obtain ⟨M_4, eM_4, h⟩ := bM_elim h
    refine Fr_mem eM_4 ?_
    exact t_X1_takeTry_b112 hk65 h
def f_X1_takeTry_b86 (N : Nat) (k65 : Int32 × Int32 × Int32 × Int32 → Mem → Option (Bool × Mem)) (v3 : Int32) (v4 : Int32) (v5 : Int32) (v6 : Int32) (s0 : Int32) (M : Mem) : Option (Bool × Mem) :=
  if v5 = 0 then (f_X1_takeTry_b96 N k65 v3 v4 v5 v6 1 s0 M) else (f_X1_takeTry_b96 N k65 v3 v4 v5 v6 0 s0 M)
set_option maxRecDepth 20000 in
theorem t_X1_takeTry_b86 {N : Nat} {q : Bool × Mem} {k65 : Int32 × Int32 × Int32 × Int32 → Mem → Option (Bool × Mem)} (hk65 : ∀ (a : Int32 × Int32 × Int32 × Int32) (M : Mem), k65 a M = some q → Fr 0 111 0 m_X1_takeTry 65 [(0, .ref 103), (3, .int a.1), (4, .int a.2.1), (5, .int a.2.2.1), (6, .int a.2.2.2)] [] M (QB q)) {v3 : Int32} {v4 : Int32} {v5 : Int32} {v6 : Int32} {s0 : Int32} {M : Mem} (h : f_X1_takeTry_b86 N k65 v3 v4 v5 v6 s0 M = some q) : Fr 0 111 0 m_X1_takeTry 86 [(0, .ref 103), (3, .int v3), (4, .int v4), (5, .int v5), (6, .int v6)] [.int s0] M (QB q) := by
  unfold f_X1_takeTry_b86 at h
  refine Fr_iload (i := 5) 3 (by decide +kernel) rfl ?_
  refine Fr_if_ne (off := 7) 95 (by decide +kernel) (by decide) (fun hc => ?_) (fun hc => ?_)
  · have h := iF hc h
    refine Fr_iconst (i := 0) (v := 0) (by decide +kernel) (by decide) ?_
    exact t_X1_takeTry_b96 hk65 h
  · have h := iT hc h
    refine Fr_iconst (i := 1) (v := 1) (by decide +kernel) (by decide) ?_
    refine Fr_goto (off := 4) 96 (by decide +kernel) (by decide) ?_
    exact t_X1_takeTry_b96 hk65 h
def f_X1_takeTry_h65 (N : Nat) (k65 : Int32 × Int32 × Int32 × Int32 → Mem → Option (Bool × Mem)) (v3 : Int32) (v4 : Int32) (v5 : Int32) (v6 : Int32) (M : Mem) : Option (Bool × Mem) :=
  if (M.1 103 0) ≤ v6 then (some (true, M)) else (if v6 = v4 then (f_X1_takeTry_b86 N k65 v3 v4 v5 v6 1 M) else (f_X1_takeTry_b86 N k65 v3 v4 v5 v6 0 M))
set_option maxRecDepth 20000 in
theorem t_X1_takeTry_h65 {N : Nat} {q : Bool × Mem} {k65 : Int32 × Int32 × Int32 × Int32 → Mem → Option (Bool × Mem)} (hk65 : ∀ (a : Int32 × Int32 × Int32 × Int32) (M : Mem), k65 a M = some q → Fr 0 111 0 m_X1_takeTry 65 [(0, .ref 103), (3, .int a.1), (4, .int a.2.1), (5, .int a.2.2.1), (6, .int a.2.2.2)] [] M (QB q)) {v3 : Int32} {v4 : Int32} {v5 : Int32} {v6 : Int32} {M : Mem} (h : f_X1_takeTry_h65 N k65 v3 v4 v5 v6 M = some q) : Fr 0 111 0 m_X1_takeTry 65 [(0, .ref 103), (3, .int v3), (4, .int v4), (5, .int v5), (6, .int v6)] [] M (QB q) := by
  unfold f_X1_takeTry_h65 at h
  refine Fr_iload (i := 6) 4 (by decide +kernel) rfl ?_
  refine Fr_aload_n (q := 0) (i := 0) 0 (by decide +kernel) rfl rfl ?_
  refine gf_X1_21 rfl (by decide +kernel) ob_103 ?_
  refine Fr_icmp_ge (off := 47) 118 (by decide +kernel) (by decide) (fun hc => ?_) (fun hc => ?_)
  · have h := iT hc h
    refine Fr_iconst (i := 1) (v := 1) (by decide +kernel) (by decide) ?_
    obtain rfl := Option.some.inj h
    exact Fr_zret (by decide +kernel) rfl (by decide) ⟨rfl, rfl⟩
  · have h := iF hc h
    refine Fr_iload (i := 6) 4 (by decide +kernel) rfl ?_
    refine Fr_iload (i := 4) 2 (by decide +kernel) rfl ?_
    refine Fr_icmp_ne (off := 7) 85 (by decide +kernel) (by decide) (fun hc => ?_) (fun hc => ?_)
    · have h := iF hc h
      refine Fr_iconst (i := 0) (v := 0) (by decide +kernel) (by decide) ?_
      exact t_X1_takeTry_b86 hk65 h
    · have h := iT hc h
      refine Fr_iconst (i := 1) (v := 1) (by decide +kernel) (by decide) ?_
      refine Fr_goto (off := 4) 86 (by decide +kernel) (by decide) ?_
      exact t_X1_takeTry_b86 hk65 h
def f_X1_takeTry (N : Nat) (x1 : Int64) (M : Mem) : Option (Bool × Mem) :=
  if (lg_cmp x1 0) < 0 then (some (false, M)) else (if (lg_cmp x1 (100 * (Int32.toInt64 (M.1 103 0)))) < 0 then (bI (((Int64.toInt32 x1) / 10) - ((Int64.toInt32 x1) / 10) / 10 * 10) fun y_1 =>
  bI ((Int64.toInt32 x1) - (Int64.toInt32 x1) / 10 * 10) fun y_2 =>
  if (M.1 103 0) ≤ y_1 then (some (false, M)) else (if y_2 ≤ 1 then (lp (fun k a m => f_X1_takeTry_h65 N k a.1 a.2.1 a.2.2.1 a.2.2.2 m) N (((Int64.toInt32 x1) / 100), y_1, y_2, 0) M) else (some (false, M)))) else (some (false, M)))
set_option maxRecDepth 20000 in
theorem t_X1_takeTry {N : Nat} {x1 : Int64} {M : Mem} {q : Bool × Mem} (h : f_X1_takeTry N x1 M = some q) : Ev 0 111 0 m_X1_takeTry [.ref 103, .long x1] M (QB q) := by
  refine Ev_of_Fr (by decide +kernel) (Nat.le_of_ble_eq_true rfl) ?_
  show Fr 0 111 0 m_X1_takeTry 0 [(0, .ref 103), (1, .long x1)] [] M (QB q)
  unfold f_X1_takeTry at h
  refine Fr_lload_n (q := 1) (i := 1) 1 (by decide +kernel) rfl rfl ?_
  refine Fr_lconst (i := 0) (v := 0) (by decide +kernel) (by decide) ?_
  refine Fr_lcmp (by decide +kernel) ?_
  refine Fr_if_lt (off := 17) 20 (by decide +kernel) (by decide) (fun hc => ?_) (fun hc => ?_)
  · have h := iT hc h
    refine Fr_iconst (i := 0) (v := 0) (by decide +kernel) (by decide) ?_
    obtain rfl := Option.some.inj h
    exact Fr_zret (by decide +kernel) rfl (by decide) ⟨rfl, rfl⟩
  · have h := iF hc h
    refine Fr_lload_n (q := 1) (i := 1) 1 (by decide +kernel) rfl rfl ?_
    refine Fr_ldc2 (idx := 38) (v := 100) (by decide +kernel) ll_X1_38 ?_
    refine Fr_aload_n (q := 0) (i := 0) 0 (by decide +kernel) rfl rfl ?_
    refine gf_X1_21 rfl (by decide +kernel) ob_103 ?_
    refine Fr_i2l (by decide +kernel) ?_
    refine Fr_lmul (by decide +kernel) ?_
    refine Fr_lcmp (by decide +kernel) ?_
    refine Fr_if_lt (off := 5) 22 (by decide +kernel) (by decide) (fun hc => ?_) (fun hc => ?_)
    · have h := iT hc h
      refine Fr_lload_n (q := 1) (i := 1) 1 (by decide +kernel) rfl rfl ?_
      refine Fr_l2i (by decide +kernel) ?_
      refine Fr_bipush (i := 100) (v := 100) (by decide +kernel) (by decide) ?_
      refine Fr_idiv (by decide +kernel) (by decide) ?_
      refine Fr_istore_n (q := 3) (i := 3) (lv' := [(3, .int ((Int64.toInt32 x1) / 100)), (0, .ref 103), (1, .long x1)]) (by decide +kernel) rfl (by decide) rfl ?_
      refine Fr_lload_n (q := 1) (i := 1) 2 (by decide +kernel) rfl rfl ?_
      refine Fr_l2i (by decide +kernel) ?_
      refine Fr_bipush (i := 10) (v := 10) (by decide +kernel) (by decide) ?_
      refine Fr_idiv (by decide +kernel) (by decide) ?_
      refine Fr_bipush (i := 10) (v := 10) (by decide +kernel) (by decide) ?_
      refine Fr_irem (by decide +kernel) (by decide) ?_
      obtain ⟨y_1, ey_1, h⟩ := bI_elim h
      refine Fr_topI ey_1 ?_
      refine Fr_istore (i := 4) (lv' := [(4, .int y_1), (3, .int ((Int64.toInt32 x1) / 100)), (0, .ref 103), (1, .long x1)]) (by decide +kernel) (by decide) rfl ?_
      refine Fr_lload_n (q := 1) (i := 1) 3 (by decide +kernel) rfl rfl ?_
      refine Fr_l2i (by decide +kernel) ?_
      refine Fr_bipush (i := 10) (v := 10) (by decide +kernel) (by decide) ?_
      refine Fr_irem (by decide +kernel) (by decide) ?_
      obtain ⟨y_2, ey_2, h⟩ := bI_elim h
      refine Fr_topI ey_2 ?_
      refine Fr_istore (i := 5) (lv' := [(5, .int y_2), (4, .int y_1), (3, .int ((Int64.toInt32 x1) / 100)), (0, .ref 103), (1, .long x1)]) (by decide +kernel) (by decide) rfl ?_
      refine Fr_iload (i := 4) 1 (by decide +kernel) rfl ?_
      refine Fr_aload_n (q := 0) (i := 0) 3 (by decide +kernel) rfl rfl ?_
      refine gf_X1_21 rfl (by decide +kernel) ob_103 ?_
      refine Fr_icmp_ge (off := 9) 60 (by decide +kernel) (by decide) (fun hc => ?_) (fun hc => ?_)
      · have h := iT hc h
        refine Fr_iconst (i := 0) (v := 0) (by decide +kernel) (by decide) ?_
        obtain rfl := Option.some.inj h
        exact Fr_zret (by decide +kernel) rfl (by decide) ⟨rfl, rfl⟩
      · have h := iF hc h
        refine Fr_iload (i := 5) 0 (by decide +kernel) rfl ?_
        refine Fr_iconst (i := 1) (v := 1) (by decide +kernel) (by decide) ?_
        refine Fr_icmp_le (off := 5) 62 (by decide +kernel) (by decide) (fun hc => ?_) (fun hc => ?_)
        · have h := iT hc h
          refine Fr_iconst (i := 0) (v := 0) (by decide +kernel) (by decide) ?_
          refine Fr_istore (i := 6) (lv' := [(6, .int 0), (5, .int y_2), (4, .int y_1), (3, .int ((Int64.toInt32 x1) / 100)), (0, .ref 103), (1, .long x1)]) (by decide +kernel) (by decide) rfl ?_
          refine Fr_loc [4, 3, 2, 1, 0] rfl ?_
          exact lp_sound (P := fun a M => Fr 0 111 0 m_X1_takeTry 65 [(0, .ref 103), (3, .int a.1), (4, .int a.2.1), (5, .int a.2.2.1), (6, .int a.2.2.2)] [] M (QB q)) (fun k hk a m h => t_X1_takeTry_h65 hk h) N (((Int64.toInt32 x1) / 100), y_1, y_2, 0) M h
        · have h := iF hc h
          refine Fr_iconst (i := 0) (v := 0) (by decide +kernel) (by decide) ?_
          obtain rfl := Option.some.inj h
          exact Fr_zret (by decide +kernel) rfl (by decide) ⟨rfl, rfl⟩
    · have h := iF hc h
      refine Fr_iconst (i := 0) (v := 0) (by decide +kernel) (by decide) ?_
      obtain rfl := Option.some.inj h
      exact Fr_zret (by decide +kernel) rfl (by decide) ⟨rfl, rfl⟩
def f_X1_canFollow (x1 : Int32) (x2 : Int32) (M : Mem) : Option (Bool × Mem) :=
  bi (f_J6_bitCount_0f7a4 x1 M) fun r_3 M_1 =>
  if (M_1.1 103 0) ≤ r_3 then (some (false, M_1)) else (if ((x1 >>> (x2 &&& 31)) &&& 1) = 0 then (ck ((r_3 * 6) + x2) 36 (
  if (M_1.1 104 (tn ((r_3 * 6) + x2))) = 1 then (some (true, M_1)) else (some (false, M_1)))) else (some (false, M_1)))
set_option maxRecDepth 20000 in
theorem t_X1_canFollow {x1 : Int32} {x2 : Int32} {M : Mem} {q : Bool × Mem} (h : f_X1_canFollow x1 x2 M = some q) : Ev 0 111 1 m_X1_canFollow [.ref 103, .int x1, .int x2] M (QB q) := by
  refine Ev_of_Fr (by decide +kernel) (Nat.le_of_ble_eq_true rfl) ?_
  show Fr 0 111 1 m_X1_canFollow 0 [(0, .ref 103), (1, .int x1), (2, .int x2)] [] M (QB q)
  unfold f_X1_canFollow at h
  refine Fr_iload_n (q := 1) (i := 1) 1 (by decide +kernel) rfl rfl ?_
  obtain ⟨r_3, M_1, hc_2, h⟩ := bi_elim h
  refine Fr_cSi (ν := m_J6_bitCount_0f7a4) (As := [.int x1]) (st := []) (d' := 0) (by decide +kernel) ml_X1_47 cs_J6_bitCount_0f7a4 rfl (by decide) (Nat.le_of_ble_eq_true rfl) (t_J6_bitCount_0f7a4 hc_2) ?_
  refine Fr_istore_n (q := 3) (i := 3) (lv' := [(3, .int r_3), (0, .ref 103), (1, .int x1), (2, .int x2)]) (by decide +kernel) rfl (by decide) rfl ?_
  refine Fr_iload_n (q := 3) (i := 3) 0 (by decide +kernel) rfl rfl ?_
  refine Fr_aload_n (q := 0) (i := 0) 1 (by decide +kernel) rfl rfl ?_
  refine gf_X1_21 rfl (by decide +kernel) ob_103 ?_
  refine Fr_icmp_ge (off := 30) 40 (by decide +kernel) (by decide) (fun hc => ?_) (fun hc => ?_)
  · have h := iT hc h
    refine Fr_iconst (i := 0) (v := 0) (by decide +kernel) (by decide) ?_
    obtain rfl := Option.some.inj h
    exact Fr_zret (by decide +kernel) rfl (by decide) ⟨rfl, rfl⟩
  · have h := iF hc h
    refine Fr_iload_n (q := 1) (i := 1) 2 (by decide +kernel) rfl rfl ?_
    refine Fr_iload_n (q := 2) (i := 2) 3 (by decide +kernel) rfl rfl ?_
    refine Fr_ishr (by decide +kernel) ?_
    refine Fr_iconst (i := 1) (v := 1) (by decide +kernel) (by decide) ?_
    refine Fr_iand (by decide +kernel) ?_
    refine Fr_if_ne (off := 22) 40 (by decide +kernel) (by decide) (fun hc => ?_) (fun hc => ?_)
    · have h := iF hc h
      refine Fr_iconst (i := 0) (v := 0) (by decide +kernel) (by decide) ?_
      obtain rfl := Option.some.inj h
      exact Fr_zret (by decide +kernel) rfl (by decide) ⟨rfl, rfl⟩
    · have h := iT hc h
      refine Fr_aload_n (q := 0) (i := 0) 1 (by decide +kernel) rfl rfl ?_
      refine gf_X1_9 rfl (by decide +kernel) ob_103 ?_
      refine Fr_iload_n (q := 3) (i := 3) 0 (by decide +kernel) rfl rfl ?_
      refine Fr_bipush (i := 6) (v := 6) (by decide +kernel) (by decide) ?_
      refine Fr_imul (by decide +kernel) ?_
      refine Fr_iload_n (q := 2) (i := 2) 3 (by decide +kernel) rfl rfl ?_
      refine Fr_iadd (by decide +kernel) ?_
      obtain ⟨hi_4, h⟩ := ck_elim h
      refine Fr_iald (by decide +kernel) ob_104 (vp_of ln_104 hi_4) ?_
      refine Fr_iconst (i := 1) (v := 1) (by decide +kernel) (by decide) ?_
      refine Fr_icmp_ne (off := 7) 40 (by decide +kernel) (by decide) (fun hc => ?_) (fun hc => ?_)
      · have h := iF hc h
        refine Fr_iconst (i := 0) (v := 0) (by decide +kernel) (by decide) ?_
        obtain rfl := Option.some.inj h
        exact Fr_zret (by decide +kernel) rfl (by decide) ⟨rfl, rfl⟩
      · have h := iT hc h
        refine Fr_iconst (i := 1) (v := 1) (by decide +kernel) (by decide) ?_
        refine Fr_goto (off := 4) 41 (by decide +kernel) (by decide) ?_
        obtain rfl := Option.some.inj h
        exact Fr_zret (by decide +kernel) rfl (by decide) ⟨rfl, rfl⟩
