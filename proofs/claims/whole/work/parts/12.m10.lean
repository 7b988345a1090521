def f_X5_powerlessHolders_b27 (N : Nat) (p0 : Nat) (k4 : Int32 × Int32 × Int32 → Mem → Option (Int32 × Mem)) (v1 : Int32) (v2 : Int32) (v3 : Int32) (M : Mem) : Option (Int32 × Mem) :=
  k4 (v1, v2, (v3 + 1)) M
set_option maxRecDepth 20000 in
theorem t_X5_powerlessHolders_b27 {N : Nat} {p0 : Nat} (hp0 : Ob 0 111 p0 5) {q : Int32 × Mem} {k4 : Int32 × Int32 × Int32 → Mem → Option (Int32 × Mem)} (hk4 : ∀ (a : Int32 × Int32 × Int32) (M : Mem), k4 a M = some q → Fr 0 111 3 m_X5_powerlessHolders 4 [(0, .ref p0), (1, .int a.1), (2, .int a.2.1), (3, .int a.2.2)] [] M (QI q)) {v1 : Int32} {v2 : Int32} {v3 : Int32} {M : Mem} (h : f_X5_powerlessHolders_b27 N p0 k4 v1 v2 v3 M = some q) : Fr 0 111 3 m_X5_powerlessHolders 27 [(0, .ref p0), (1, .int v1), (2, .int v2), (3, .int v3)] [] M (QI q) := by
  unfold f_X5_powerlessHolders_b27 at h
  refine Fr_iinc (i := 3) (j := 1) (v := (v3 + 1)) (lv' := [(3, .int (v3 + 1)), (0, .ref p0), (1, .int v1), (2, .int v2)]) 3 (by decide +kernel) rfl rfl (by decide) rfl ?_
  refine Fr_goto (off := (-26)) 4 (by decide +kernel) (by decide) ?_
  refine Fr_loc [1, 2, 3, 0] rfl ?_
  exact hk4 (v1, v2, (v3 + 1)) M h
def f_X5_powerlessHolders_h4 (N : Nat) (p0 : Nat) (k4 : Int32 × Int32 × Int32 → Mem → Option (Int32 × Mem)) (v1 : Int32) (v2 : Int32) (v3 : Int32) (M : Mem) : Option (Int32 × Mem) :=
  if (M.1 p0 8) ≤ v3 then (some (v2, M)) else (bi (f_X5_decidingOrders N p0 v1 v3 M) fun r_3 M_1 =>
  if r_3 = 0 then (bI (v2 ||| (1 <<< (v3 &&& 31))) fun y_4 =>
  f_X5_powerlessHolders_b27 N p0 k4 v1 y_4 v3 M_1) else (f_X5_powerlessHolders_b27 N p0 k4 v1 v2 v3 M_1))
set_option maxRecDepth 20000 in
theorem t_X5_powerlessHolders_h4 {N : Nat} {p0 : Nat} (hp0 : Ob 0 111 p0 5) {q : Int32 × Mem} {k4 : Int32 × Int32 × Int32 → Mem → Option (Int32 × Mem)} (hk4 : ∀ (a : Int32 × Int32 × Int32) (M : Mem), k4 a M = some q → Fr 0 111 3 m_X5_powerlessHolders 4 [(0, .ref p0), (1, .int a.1), (2, .int a.2.1), (3, .int a.2.2)] [] M (QI q)) {v1 : Int32} {v2 : Int32} {v3 : Int32} {M : Mem} (h : f_X5_powerlessHolders_h4 N p0 k4 v1 v2 v3 M = some q) : Fr 0 111 3 m_X5_powerlessHolders 4 [(0, .ref p0), (1, .int v1), (2, .int v2), (3, .int v3)] [] M (QI q) := by
  unfold f_X5_powerlessHolders_h4 at h
  refine Fr_iload_n (q := 3) (i := 3) 3 (by decide +kernel) rfl rfl ?_
  refine Fr_aload_n (q := 0) (i := 0) 0 (by decide +kernel) rfl rfl ?_
  refine gf_X5_63 rfl (by decide +kernel) hp0 ?_
  refine Fr_icmp_ge (off := 24) 33 (by decide +kernel) (by decide) (fun hc => ?_) (fun hc => ?_)
  · have h := iT hc h
    refine Fr_iload_n (q := 2) (i := 2) 2 (by decide +kernel) rfl rfl ?_
    obtain rfl := Option.some.inj h
    exact Fr_iret (by decide +kernel) rfl ⟨rfl, rfl⟩
  · have h := iF hc h
    refine Fr_aload_n (q := 0) (i := 0) 0 (by decide +kernel) rfl rfl ?_
    refine Fr_iload_n (q := 1) (i := 1) 1 (by decide +kernel) rfl rfl ?_
    refine Fr_iload_n (q := 3) (i := 3) 3 (by decide +kernel) rfl rfl ?_
    obtain ⟨r_3, M_1, hc_2, h⟩ := bi_elim h
    refine Fr_cVi (ν := m_X5_decidingOrders) (As := [.int v1, .int v3]) (st := []) (rc := p0) (ci := 5) (d' := 2) (by decide +kernel) ml_X5_141 cv_X5_decidingOrders rfl (by decide) rfl hp0 rfl (by decide) (Nat.le_of_ble_eq_true rfl) (t_X5_decidingOrders hp0 hc_2) ?_
    refine Fr_if_ne (off := 9) 27 (by decide +kernel) (by decide) (fun hc => ?_) (fun hc => ?_)
    · have h := iF hc h
      exact t_X5_powerlessHolders_b27 hp0 hk4 h
    · have h := iT hc h
      refine Fr_iload_n (q := 2) (i := 2) 2 (by decide +kernel) rfl rfl ?_
      refine Fr_iconst (i := 1) (v := 1) (by decide +kernel) (by decide) ?_
      refine Fr_iload_n (q := 3) (i := 3) 3 (by decide +kernel) rfl rfl ?_
      refine Fr_ishl (by decide +kernel) ?_
      refine Fr_ior (by decide +kernel) ?_
      obtain ⟨y_4, ey_4, h⟩ := bI_elim h
      refine Fr_topI ey_4 ?_
      refine Fr_istore_n (q := 2) (i := 2) (lv' := [(2, .int y_4), (0, .ref p0), (1, .int v1), (3, .int v3)]) (by decide +kernel) rfl (by decide) rfl ?_
      refine Fr_loc [1, 2, 0, 3] rfl ?_
      exact t_X5_powerlessHolders_b27 hp0 hk4 h
def f_X5_powerlessHolders (N : Nat) (p0 : Nat) (x1 : Int32) (M : Mem) : Option (Int32 × Mem) :=
  lp (fun k a m => f_X5_powerlessHolders_h4 N p0 k a.1 a.2.1 a.2.2 m) N (x1, 0, 0) M
set_option maxRecDepth 20000 in
theorem t_X5_powerlessHolders {N : Nat} {p0 : Nat} {x1 : Int32} (hp0 : Ob 0 111 p0 5) {M : Mem} {q : Int32 × Mem} (h : f_X5_powerlessHolders N p0 x1 M = some q) : Ev 0 111 3 m_X5_powerlessHolders [.ref p0, .int x1] M (QI q) := by
  refine Ev_of_Fr (by decide +kernel) (Nat.le_of_ble_eq_true rfl) ?_
  show Fr 0 111 3 m_X5_powerlessHolders 0 [(0, .ref p0), (1, .int x1)] [] M (QI q)
  unfold f_X5_powerlessHolders at h
  refine Fr_iconst (i := 0) (v := 0) (by decide +kernel) (by decide) ?_
  refine Fr_istore_n (q := 2) (i := 2) (lv' := [(2, .int 0), (0, .ref p0), (1, .int x1)]) (by decide +kernel) rfl (by decide) rfl ?_
  refine Fr_iconst (i := 0) (v := 0) (by decide +kernel) (by decide) ?_
  refine Fr_istore_n (q := 3) (i := 3) (lv' := [(3, .int 0), (2, .int 0), (0, .ref p0), (1, .int x1)]) (by decide +kernel) rfl (by decide) rfl ?_
  refine Fr_loc [2, 3, 1, 0] rfl ?_
  exact lp_sound (P := fun a M => Fr 0 111 3 m_X5_powerlessHolders 4 [(0, .ref p0), (1, .int a.1), (2, .int a.2.1), (3, .int a.2.2)] [] M (QI q)) (fun k hk a m h => t_X5_powerlessHolders_h4 hp0 hk h) N (x1, 0, 0) M h
def f_X6_readSize_b75 (N : Nat) (p1 : Nat) (s0 : Int32) (M : Mem) : Option (Bool × Mem) :=
  if s0 = 0 then (some (false, M)) else (ck 0 2 (
  bM (uI M p1 0 (M.1 86 (tn 0))) fun M_7 =>
  ck 1 2 (
  bM (uI M_7 p1 1 (M_7.1 86 (tn 1))) fun M_9 =>
  bi (f_X8_takeSemicolon N M_9) fun r_12 M_10 =>
  some (r_12, M_10))))
set_option maxRecDepth 20000 in
theorem t_X6_readSize_b75 {N : Nat} {p1 : Nat} (hp1 : Ob 0 111 p1 5) {q : Bool × Mem} {s0 : Int32} {M : Mem} (h : f_X6_readSize_b75 N p1 s0 M = some q) : Fr 0 111 9 m_X6_readSize 75 [(0, .ref 83), (1, .ref p1)] [.int s0] M (QB q) := by
  unfold f_X6_readSize_b75 at h
  refine Fr_istore_n (q := 2) (i := 2) (lv' := [(2, .int s0), (0, .ref 83), (1, .ref p1)]) (by decide +kernel) rfl (by decide) rfl ?_
  refine Fr_iload_n (q := 2) (i := 2) 0 (by decide +kernel) rfl rfl ?_
  refine Fr_if_ne (off := 5) 82 (by decide +kernel) (by decide) (fun hc => ?_) (fun hc => ?_)
  · have h := iF hc h
    refine Fr_aload_n (q := 1) (i := 1) 2 (by decide +kernel) rfl rfl ?_
    refine Fr_aload_n (q := 0) (i := 0) 1 (by decide +kernel) rfl rfl ?_
    refine gf_X6_19 rfl (by decide +kernel) ob_83 ?_
    refine Fr_iconst (i := 0) (v := 0) (by decide +kernel) (by decide) ?_
    obtain ⟨hi_6, h⟩ := ck_elim h
    refine Fr_iald (by decide +kernel) ob_86 (vp_of ln_86 hi_6) ?_
    refine pf_X6_76 rfl (by decide +kernel) hp1 ?_
    obtain ⟨M_7, eM_7, h⟩ := bM_elim h
    refine Fr_mem eM_7 ?_
    refine Fr_aload_n (q := 1) (i := 1) 2 (by decide +kernel) rfl rfl ?_
    refine Fr_aload_n (q := 0) (i := 0) 1 (by decide +kernel) rfl rfl ?_
    refine gf_X6_19 rfl (by decide +kernel) ob_83 ?_
    refine Fr_iconst (i := 1) (v := 1) (by decide +kernel) (by decide) ?_
    obtain ⟨hi_8, h⟩ := ck_elim h
    refine Fr_iald (by decide +kernel) ob_86 (vp_of ln_86 hi_8) ?_
    refine pf_X6_125 rfl (by decide +kernel) hp1 ?_
    obtain ⟨M_9, eM_9, h⟩ := bM_elim h
    refine Fr_mem eM_9 ?_
    refine Fr_aload_n (q := 0) (i := 0) 1 (by decide +kernel) rfl rfl ?_
    refine gf_X6_22 rfl (by decide +kernel) ob_83 ?_
    obtain ⟨r_12, M_10, hc_11, h⟩ := bi_elim h
    refine Fr_cVb (ν := m_X8_takeSemicolon) (As := []) (st := []) (rc := 82) (ci := 8) (d' := 1) (by decide +kernel) ml_X6_128 cv_X8_takeSemicolon rfl (by decide) rfl ob_82 rfl (by decide) (Nat.le_of_ble_eq_true rfl) (t_X8_takeSemicolon hc_11) ?_
    obtain rfl := Option.some.inj h
    exact Fr_zret (by decide +kernel) rfl (nz_b r_12) ⟨rfl, rfl⟩
  · have h := iT hc h
    refine Fr_iconst (i := 0) (v := 0) (by decide +kernel) (by decide) ?_
    obtain rfl := Option.some.inj h
    exact Fr_zret (by decide +kernel) rfl (by decide) ⟨rfl, rfl⟩
def f_X6_readSize_b74 (N : Nat) (p1 : Nat) (M : Mem) : Option (Bool × Mem) :=
  f_X6_readSize_b75 N p1 0 M
set_option maxRecDepth 20000 in
theorem t_X6_readSize_b74 {N : Nat} {p1 : Nat} (hp1 : Ob 0 111 p1 5) {q : Bool × Mem} {M : Mem} (h : f_X6_readSize_b74 N p1 M = some q) : Fr 0 111 9 m_X6_readSize 74 [(0, .ref 83), (1, .ref p1)] [] M (QB q) := by
  unfold f_X6_readSize_b74 at h
  refine Fr_iconst (i := 0) (v := 0) (by decide +kernel) (by decide) ?_
  exact t_X6_readSize_b75 hp1 h
def f_X6_readSize (N : Nat) (p1 : Nat) (M : Mem) : Option (Bool × Mem) :=
  if (M.1 p1 0) = 0 then (bv (f_X8_advance N M) fun M_1 =>
  bi (f_X8_takeNumber N 86 0 1 6 M_1) fun r_5 M_3 =>
  if (b2i r_5) = 0 then (f_X6_readSize_b74 N p1 M_3) else (bi (f_X8_takeWord N 1 M_3) fun r_15 M_13 =>
  if (b2i r_15) = 0 then (f_X6_readSize_b74 N p1 M_13) else (bi (f_X8_takeNumber N 86 1 1 5 M_13) fun r_18 M_16 =>
  if (b2i r_18) = 0 then (f_X6_readSize_b74 N p1 M_16) else (f_X6_readSize_b75 N p1 1 M_16)))) else (bi (f_X8_refuse 5 M) fun r_21 M_19 =>
  some (r_21, M_19))
set_option maxRecDepth 20000 in
theorem t_X6_readSize {N : Nat} {p1 : Nat} (hp1 : Ob 0 111 p1 5) {M : Mem} {q : Bool × Mem} (h : f_X6_readSize N p1 M = some q) : Ev 0 111 9 m_X6_readSize [.ref 83, .ref p1] M (QB q) := by
  refine Ev_of_Fr (by decide +kernel) (Nat.le_of_ble_eq_true rfl) ?_
  show Fr 0 111 9 m_X6_readSize 0 [(0, .ref 83), (1, .ref p1)] [] M (QB q)
  unfold f_X6_readSize at h
  refine Fr_aload_n (q := 1) (i := 1) 1 (by decide +kernel) rfl rfl ?_
  refine gf_X6_76 rfl (by decide +kernel) hp1 ?_
  refine Fr_if_eq (off := 12) 16 (by decide +kernel) (by decide) (fun hc => ?_) (fun hc => ?_)
  · have h := iT hc h
    refine Fr_aload_n (q := 0) (i := 0) 0 (by decide +kernel) rfl rfl ?_
    refine gf_X6_22 rfl (by decide +kernel) ob_83 ?_
    obtain ⟨M_1, hc_2, h⟩ := bv_elim h
    refine Fr_cVv (ν := m_X8_advance) (As := []) (st := []) (rc := 82) (ci := 8) (d' := 0) (by decide +kernel) ml_X6_113 cv_X8_advance rfl (by decide) rfl ob_82 rfl (by decide) (Nat.le_of_ble_eq_true rfl) (t_X8_advance hc_2) ?_
    refine Fr_aload_n (q := 0) (i := 0) 0 (by decide +kernel) rfl rfl ?_
    refine gf_X6_22 rfl (by decide +kernel) ob_83 ?_
    refine Fr_aload_n (q := 0) (i := 0) 0 (by decide +kernel) rfl rfl ?_
    refine gf_X6_19 rfl (by decide +kernel) ob_83 ?_
    refine Fr_iconst (i := 0) (v := 0) (by decide +kernel) (by decide) ?_
    refine Fr_iconst (i := 1) (v := 1) (by decide +kernel) (by decide) ?_
    refine Fr_bipush (i := 6) (v := 6) (by decide +kernel) (by decide) ?_
    obtain ⟨r_5, M_3, hc_4, h⟩ := bi_elim h
    refine Fr_cVb (ν := m_X8_takeNumber) (As := [.ref 86, .int 0, .int 1, .int 6]) (st := []) (rc := 82) (ci := 8) (d' := 1) (by decide +kernel) ml_X6_116 cv_X8_takeNumber rfl (by decide) rfl ob_82 rfl (by decide) (Nat.le_of_ble_eq_true rfl) (t_X8_takeNumber ob_86 hc_4) ?_
    refine Fr_if_eq (off := 36) 74 (by decide +kernel) (by decide) (fun hc => ?_) (fun hc => ?_)
    · have h := iT hc h
      exact t_X6_readSize_b74 hp1 h
    · have h := iF hc h
      refine Fr_aload_n (q := 0) (i := 0) 0 (by decide +kernel) rfl rfl ?_
      refine gf_X6_22 rfl (by decide +kernel) ob_83 ?_
      refine Fr_ldcS (idx := 120) 1 (by decide +kernel) (by decide) rfl rfl ?_
      obtain ⟨r_15, M_13, hc_14, h⟩ := bi_elim h
      refine Fr_cVb (ν := m_X8_takeWord) (As := [.ref (400 + 1)]) (st := []) (rc := 82) (ci := 8) (d' := 8) (by decide +kernel) ml_X6_122 cv_X8_takeWord rfl (by decide) rfl ob_82 rfl (by decide) (Nat.le_of_ble_eq_true rfl) (t_X8_takeWord (by decide) hc_14) ?_
      refine Fr_if_eq (off := 24) 74 (by decide +kernel) (by decide) (fun hc => ?_) (fun hc => ?_)
      · have h := iT hc h
        exact t_X6_readSize_b74 hp1 h
      · have h := iF hc h
        refine Fr_aload_n (q := 0) (i := 0) 0 (by decide +kernel) rfl rfl ?_
        refine gf_X6_22 rfl (by decide +kernel) ob_83 ?_
        refine Fr_aload_n (q := 0) (i := 0) 0 (by decide +kernel) rfl rfl ?_
        refine gf_X6_19 rfl (by decide +kernel) ob_83 ?_
        refine Fr_iconst (i := 1) (v := 1) (by decide +kernel) (by decide) ?_
        refine Fr_iconst (i := 1) (v := 1) (by decide +kernel) (by decide) ?_
        refine Fr_iconst (i := 5) (v := 5) (by decide +kernel) (by decide) ?_
        obtain ⟨r_18, M_16, hc_17, h⟩ := bi_elim h
        refine Fr_cVb (ν := m_X8_takeNumber) (As := [.ref 86, .int 1, .int 1, .int 5]) (st := []) (rc := 82) (ci := 8) (d' := 1) (by decide +kernel) ml_X6_116 cv_X8_takeNumber rfl (by decide) rfl ob_82 rfl (by decide) (Nat.le_of_ble_eq_true rfl) (t_X8_takeNumber ob_86 hc_17) ?_
        refine Fr_if_eq (off := 7) 74 (by decide +kernel) (by decide) (fun hc => ?_) (fun hc => ?_)
        · have h := iT hc h
          exact t_X6_readSize_b74 hp1 h
        · have h := iF hc h
          refine Fr_iconst (i := 1) (v := 1) (by decide +kernel) (by decide) ?_
          refine Fr_goto (off := 4) 75 (by decide +kernel) (by decide) ?_
          exact t_X6_readSize_b75 hp1 h
  · have h := iF hc h
    refine Fr_aload_n (q := 0) (i := 0) 0 (by decide +kernel) rfl rfl ?_
    refine gf_X6_22 rfl (by decide +kernel) ob_83 ?_
    refine Fr_iconst (i := 5) (v := 5) (by decide +kernel) (by decide) ?_
    obtain ⟨r_21, M_19, hc_20, h⟩ := bi_elim h
    refine Fr_cVb (ν := m_X8_refuse) (As := [.int 5]) (st := []) (rc := 82) (ci := 8) (d' := 0) (by decide +kernel) ml_X6_79 cv_X8_refuse rfl (by decide) rfl ob_82 rfl (by decide) (Nat.le_of_ble_eq_true rfl) (t_X8_refuse hc_20) ?_
    obtain rfl := Option.some.inj h
    exact Fr_zret (by decide +kernel) rfl (nz_b r_21) ⟨rfl, rfl⟩
def f_X6_readNewName_h29 (N : Nat) (k29 : Int64 × Int32 → Mem → Option (Bool × Mem)) (v1 : Int64) (v3 : Int32) (M : Mem) : Option (Bool × Mem) :=
  if (M.1 83 4) ≤ v3 then (if 22 ≤ (M.1 83 4) then (bv (f_X8_advance N M) fun M_7 =>
  some (true, M_7)) else (ck (M.1 83 4) 22 (
  bM (uL M 84 (tn (M.1 83 4)) v1) fun M_10 =>
  bM (uI M_10 83 4 ((M_10.1 83 4) + 1)) fun M_11 =>
  bv (f_X8_advance N M_11) fun M_12 =>
  some (true, M_12)))) else (ck v3 22 (
  if (lg_cmp (M.2 84 (tn v3)) v1) = 0 then (bi (f_X8_refuse 3 M) fun r_17 M_15 =>
  some (r_17, M_15)) else (k29 (v1, (v3 + 1)) M)))
set_option maxRecDepth 20000 in
theorem t_X6_readNewName_h29 {N : Nat} {q : Bool × Mem} {k29 : Int64 × Int32 → Mem → Option (Bool × Mem)} (hk29 : ∀ (a : Int64 × Int32) (M : Mem), k29 a M = some q → Fr 0 111 8 m_X6_readNewName 29 [(0, .ref 83), (1, .long a.1), (3, .int a.2)] [] M (QB q)) {v1 : Int64} {v3 : Int32} {M : Mem} (h : f_X6_readNewName_h29 N k29 v1 v3 M = some q) : Fr 0 111 8 m_X6_readNewName 29 [(0, .ref 83), (1, .long v1), (3, .int v3)] [] M (QB q) := by
  unfold f_X6_readNewName_h29 at h
  refine Fr_iload_n (q := 3) (i := 3) 2 (by decide +kernel) rfl rfl ?_
  refine Fr_aload_n (q := 0) (i := 0) 0 (by decide +kernel) rfl rfl ?_
  refine gf_X6_31 rfl (by decide +kernel) ob_83 ?_
  refine Fr_icmp_ge (off := 29) 63 (by decide +kernel) (by decide) (fun hc => ?_) (fun hc => ?_)
  · have h := iT hc h
    refine Fr_aload_n (q := 0) (i := 0) 0 (by decide +kernel) rfl rfl ?_
    refine gf_X6_31 rfl (by decide +kernel) ob_83 ?_
    refine Fr_bipush (i := 22) (v := 22) (by decide +kernel) (by decide) ?_
    refine Fr_icmp_ge (off := 23) 92 (by decide +kernel) (by decide) (fun hc => ?_) (fun hc => ?_)
    · have h := iT hc h
      refine Fr_aload_n (q := 0) (i := 0) 0 (by decide +kernel) rfl rfl ?_
      refine gf_X6_22 rfl (by decide +kernel) ob_83 ?_
      obtain ⟨M_7, hc_8, h⟩ := bv_elim h
      refine Fr_cVv (ν := m_X8_advance) (As := []) (st := []) (rc := 82) (ci := 8) (d' := 0) (by decide +kernel) ml_X6_113 cv_X8_advance rfl (by decide) rfl ob_82 rfl (by decide) (Nat.le_of_ble_eq_true rfl) (t_X8_advance hc_8) ?_
      refine Fr_iconst (i := 1) (v := 1) (by decide +kernel) (by decide) ?_
      obtain rfl := Option.some.inj h
      exact Fr_zret (by decide +kernel) rfl (by decide) ⟨rfl, rfl⟩
    · have h := iF hc h
      refine Fr_aload_n (q := 0) (i := 0) 0 (by decide +kernel) rfl rfl ?_
      refine gf_X6_9 rfl (by decide +kernel) ob_83 ?_
      refine Fr_aload_n (q := 0) (i := 0) 0 (by decide +kernel) rfl rfl ?_
      refine gf_X6_31 rfl (by decide +kernel) ob_83 ?_
      refine Fr_lload_n (q := 1) (i := 1) 1 (by decide +kernel) rfl rfl ?_
      obtain ⟨hi_9, h⟩ := ck_elim h
      refine Fr_last (by decide +kernel) ob_84 (vp_of ln_84 hi_9) ?_
      obtain ⟨M_10, eM_10, h⟩ := bM_elim h
      refine Fr_mem eM_10 ?_
      refine Fr_aload_n (q := 0) (i := 0) 0 (by decide +kernel) rfl rfl ?_
      refine Fr_dup (by decide +kernel) rfl ?_
      refine gf_X6_31 rfl (by decide +kernel) ob_83 ?_
      refine Fr_iconst (i := 1) (v := 1) (by decide +kernel) (by decide) ?_
      refine Fr_iadd (by decide +kernel) ?_
      refine pf_X6_31 rfl (by decide +kernel) ob_83 ?_
      obtain ⟨M_11, eM_11, h⟩ := bM_elim h
      refine Fr_mem eM_11 ?_
      refine Fr_aload_n (q := 0) (i := 0) 0 (by decide +kernel) rfl rfl ?_
      refine gf_X6_22 rfl (by decide +kernel) ob_83 ?_
      obtain ⟨M_12, hc_13, h⟩ := bv_elim h
      refine Fr_cVv (ν := m_X8_advance) (As := []) (st := []) (rc := 82) (ci := 8) (d' := 0) (by decide +kernel) ml_X6_113 cv_X8_advance rfl (by decide) rfl ob_82 rfl (by decide) (Nat.le_of_ble_eq_true rfl) (t_X8_advance hc_13) ?_
      refine Fr_iconst (i := 1) (v := 1) (by decide +kernel) (by decide) ?_
      obtain rfl := Option.some.inj h
      exact Fr_zret (by decide +kernel) rfl (by decide) ⟨rfl, rfl⟩
  · have h := iF hc h
    refine Fr_aload_n (q := 0) (i := 0) 0 (by decide +kernel) rfl rfl ?_
    refine gf_X6_9 rfl (by decide +kernel) ob_83 ?_
    refine Fr_iload_n (q := 3) (i := 3) 2 (by decide +kernel) rfl rfl ?_
    obtain ⟨hi_14, h⟩ := ck_elim h
    refine Fr_lald (by decide +kernel) ob_84 (vp_of ln_84 hi_14) ?_
    refine Fr_lload_n (q := 1) (i := 1) 1 (by decide +kernel) rfl rfl ?_
    refine Fr_lcmp (by decide +kernel) ?_
    refine Fr_if_ne (off := 12) 57 (by decide +kernel) (by decide) (fun hc => ?_) (fun hc => ?_)
    · have h := iF hc h
      refine Fr_iinc (i := 3) (j := 1) (v := (v3 + 1)) (lv' := [(3, .int (v3 + 1)), (0, .ref 83), (1, .long v1)]) 2 (by decide +kernel) rfl rfl (by decide) rfl ?_
      refine Fr_goto (off := (-31)) 29 (by decide +kernel) (by decide) ?_
      refine Fr_loc [1, 2, 0] rfl ?_
      exact hk29 (v1, (v3 + 1)) M h
    · have h := iT hc h
      refine Fr_aload_n (q := 0) (i := 0) 0 (by decide +kernel) rfl rfl ?_
      refine gf_X6_22 rfl (by decide +kernel) ob_83 ?_
      refine Fr_iconst (i := 3) (v := 3) (by decide +kernel) (by decide) ?_
      obtain ⟨r_17, M_15, hc_16, h⟩ := bi_elim h
      refine Fr_cVb (ν := m_X8_refuse) (As := [.int 3]) (st := []) (rc := 82) (ci := 8) (d' := 0) (by decide +kernel) ml_X6_79 cv_X8_refuse rfl (by decide) rfl ob_82 rfl (by decide) (Nat.le_of_ble_eq_true rfl) (t_X8_refuse hc_16) ?_
      obtain rfl := Option.some.inj h
      exact Fr_zret (by decide +kernel) rfl (nz_b r_17) ⟨rfl, rfl⟩
def f_X6_readNewName (N : Nat) (M : Mem) : Option (Bool × Mem) :=
  bi (f_X8_isName N M) fun r_3 M_1 =>
  if (b2i r_3) = 0 then (bi (f_X8_refuse 2 M_1) fun r_20 M_18 =>
  some (r_20, M_18)) else (bi (f_X8_nameCode N M_1) fun r_6 M_4 =>
  lp (fun k a m => f_X6_readNewName_h29 N k a.1 a.2 m) N (r_6, 0) M_4)
set_option maxRecDepth 20000 in
theorem t_X6_readNewName {N : Nat} {M : Mem} {q : Bool × Mem} (h : f_X6_readNewName N M = some q) : Ev 0 111 8 m_X6_readNewName [.ref 83] M (QB q) := by
  refine Ev_of_Fr (by decide +kernel) (Nat.le_of_ble_eq_true rfl) ?_
  show Fr 0 111 8 m_X6_readNewName 0 [(0, .ref 83)] [] M (QB q)
  unfold f_X6_readNewName at h
  refine Fr_aload_n (q := 0) (i := 0) 0 (by decide +kernel) rfl rfl ?_
  refine gf_X6_22 rfl (by decide +kernel) ob_83 ?_
  obtain ⟨r_3, M_1, hc_2, h⟩ := bi_elim h
  refine Fr_cVb (ν := m_X8_isName) (As := []) (st := []) (rc := 82) (ci := 8) (d' := 7) (by decide +kernel) ml_X6_193 cv_X8_isName rfl (by decide) rfl ob_82 rfl (by decide) (Nat.le_of_ble_eq_true rfl) (t_X8_isName hc_2) ?_
  refine Fr_if_ne (off := 12) 19 (by decide +kernel) (by decide) (fun hc => ?_) (fun hc => ?_)
  · have h := iF hc h
    refine Fr_aload_n (q := 0) (i := 0) 0 (by decide +kernel) rfl rfl ?_
    refine gf_X6_22 rfl (by decide +kernel) ob_83 ?_
    obtain ⟨r_6, M_4, hc_5, h⟩ := bi_elim h
    refine Fr_cVj (ν := m_X8_nameCode) (As := []) (st := []) (rc := 82) (ci := 8) (d' := 0) (by decide +kernel) ml_X6_196 cv_X8_nameCode rfl (by decide) rfl ob_82 rfl (by decide) (Nat.le_of_ble_eq_true rfl) (t_X8_nameCode hc_5) ?_
    refine Fr_lstore_n (q := 1) (i := 1) (lv' := [(1, .long r_6), (0, .ref 83)]) (by decide +kernel) rfl (by decide) rfl ?_
    refine Fr_iconst (i := 0) (v := 0) (by decide +kernel) (by decide) ?_
    refine Fr_istore_n (q := 3) (i := 3) (lv' := [(3, .int 0), (1, .long r_6), (0, .ref 83)]) (by decide +kernel) rfl (by decide) rfl ?_
    refine Fr_loc [2, 1, 0] rfl ?_
    exact lp_sound (P := fun a M => Fr 0 111 8 m_X6_readNewName 29 [(0, .ref 83), (1, .long a.1), (3, .int a.2)] [] M (QB q)) (fun k hk a m h => t_X6_readNewName_h29 hk h) N (r_6, 0) M_4 h
  · have h := iT hc h
    refine Fr_aload_n (q := 0) (i := 0) 0 (by decide +kernel) rfl rfl ?_
    refine gf_X6_22 rfl (by decide +kernel) ob_83 ?_
    refine Fr_iconst (i := 2) (v := 2) (by decide +kernel) (by decide) ?_
    obtain ⟨r_20, M_18, hc_19, h⟩ := bi_elim h
    refine Fr_cVb (ν := m_X8_refuse) (As := [.int 2]) (st := []) (rc := 82) (ci := 8) (d' := 0) (by decide +kernel) ml_X6_79 cv_X8_refuse rfl (by decide) rfl ob_82 rfl (by decide) (Nat.le_of_ble_eq_true rfl) (t_X8_refuse hc_19) ?_
    obtain rfl := Option.some.inj h
    exact Fr_zret (by decide +kernel) rfl (nz_b r_20) ⟨rfl, rfl⟩
def f_X6_readBoard (N : Nat) (p1 : Nat) (p2 : Nat) (x3 : Int32) (M : Mem) : Option (Bool × Mem) :=
  bi (f_X8_takeNumber N p2 x3 0 ((M.1 p1 0) - 1) M) fun r_3 M_1 =>
  if (b2i r_3) = 0 then (some (false, M_1)) else (bi (f_X8_takeNumber N p2 (x3 + 1) 0 ((M_1.1 p1 1) - 1) M_1) fun r_6 M_4 =>
  if (b2i r_6) = 0 then (some (false, M_4)) else (some (true, M_4)))
set_option maxRecDepth 20000 in
theorem t_X6_readBoard {N : Nat} {p1 : Nat} {p2 : Nat} {x3 : Int32} (hp1 : Ob 0 111 p1 5) (hp2 : Ob 0 111 p2 20) {M : Mem} {q : Bool × Mem} (h : f_X6_readBoard N p1 p2 x3 M = some q) : Ev 0 111 2 m_X6_readBoard [.ref 83, .ref p1, .ref p2, .int x3] M (QB q) := by
  refine Ev_of_Fr (by decide +kernel) (Nat.le_of_ble_eq_true rfl) ?_
  show Fr 0 111 2 m_X6_readBoard 0 [(0, .ref 83), (1, .ref p1), (2, .ref p2), (3, .int x3)] [] M (QB q)
  unfold f_X6_readBoard at h
  refine Fr_aload_n (q := 0) (i := 0) 0 (by decide +kernel) rfl rfl ?_
  refine gf_X6_22 rfl (by decide +kernel) ob_83 ?_
  refine Fr_aload_n (q := 2) (i := 2) 2 (by decide +kernel) rfl rfl ?_
  refine Fr_iload_n (q := 3) (i := 3) 3 (by decide +kernel) rfl rfl ?_
  refine Fr_iconst (i := 0) (v := 0) (by decide +kernel) (by decide) ?_
  refine Fr_aload_n (q := 1) (i := 1) 1 (by decide +kernel) rfl rfl ?_
  refine gf_X6_76 rfl (by decide +kernel) hp1 ?_
  refine Fr_iconst (i := 1) (v := 1) (by decide +kernel) (by decide) ?_
  refine Fr_isub (by decide +kernel) ?_
  obtain ⟨r_3, M_1, hc_2, h⟩ := bi_elim h
  refine Fr_cVb (ν := m_X8_takeNumber) (As := [.ref p2, .int x3, .int 0, .int ((M.1 p1 0) - 1)]) (st := []) (rc := 82) (ci := 8) (d' := 1) (by decide +kernel) ml_X6_116 cv_X8_takeNumber rfl (by decide) rfl ob_82 rfl (by decide) (Nat.le_of_ble_eq_true rfl) (t_X8_takeNumber hp2 hc_2) ?_
  refine Fr_if_eq (off := 28) 44 (by decide +kernel) (by decide) (fun hc => ?_) (fun hc => ?_)
  · have h := iT hc h
    refine Fr_iconst (i := 0) (v := 0) (by decide +kernel) (by decide) ?_
    obtain rfl := Option.some.inj h
    exact Fr_zret (by decide +kernel) rfl (by decide) ⟨rfl, rfl⟩
  · have h := iF hc h
    refine Fr_aload_n (q := 0) (i := 0) 0 (by decide +kernel) rfl rfl ?_
    refine gf_X6_22 rfl (by decide +kernel) ob_83 ?_
    refine Fr_aload_n (q := 2) (i := 2) 2 (by decide +kernel) rfl rfl ?_
    refine Fr_iload_n (q := 3) (i := 3) 3 (by decide +kernel) rfl rfl ?_
    refine Fr_iconst (i := 1) (v := 1) (by decide +kernel) (by decide) ?_
    refine Fr_iadd (by decide +kernel) ?_
    refine Fr_iconst (i := 0) (v := 0) (by decide +kernel) (by decide) ?_
    refine Fr_aload_n (q := 1) (i := 1) 1 (by decide +kernel) rfl rfl ?_
    refine gf_X6_125 rfl (by decide +kernel) hp1 ?_
    refine Fr_iconst (i := 1) (v := 1) (by decide +kernel) (by decide) ?_
    refine Fr_isub (by decide +kernel) ?_
    obtain ⟨r_6, M_4, hc_5, h⟩ := bi_elim h
    refine Fr_cVb (ν := m_X8_takeNumber) (As := [.ref p2, .int (x3 + 1), .int 0, .int ((M_1.1 p1 1) - 1)]) (st := []) (rc := 82) (ci := 8) (d' := 1) (by decide +kernel) ml_X6_116 cv_X8_takeNumber rfl (by decide) rfl ob_82 rfl (by decide) (Nat.le_of_ble_eq_true rfl) (t_X8_takeNumber hp2 hc_5) ?_
    refine Fr_if_eq (off := 7) 44 (by decide +kernel) (by decide) (fun hc => ?_) (fun hc => ?_)
    · have h := iT hc h
      refine Fr_iconst (i := 0) (v := 0) (by decide +kernel) (by decide) ?_
      obtain rfl := Option.some.inj h
      exact Fr_zret (by decide +kernel) rfl (by decide) ⟨rfl, rfl⟩
    · have h := iF hc h
      refine Fr_iconst (i := 1) (v := 1) (by decide +kernel) (by decide) ?_
      refine Fr_goto (off := 4) 45 (by decide +kernel) (by decide) ?_
      obtain rfl := Option.some.inj h
      exact Fr_zret (by decide +kernel) rfl (by decide) ⟨rfl, rfl⟩
def f_X6_readGate_b186 (N : Nat) (p1 : Nat) (M : Mem) : Option (Bool × Mem) :=
  ck ((M.1 83 4) - 1) 22 (
  ck (M.1 p1 7) 6 (
  bM (uL M (p1 + 2) (tn (M.1 p1 7)) (M.2 84 (tn ((M.1 83 4) - 1)))) fun M_23 =>
  bM (uI M_23 p1 7 ((M_23.1 p1 7) + 1)) fun M_24 =>
  bi (f_X8_takeSemicolon N M_24) fun r_27 M_25 =>
  some (r_27, M_25)))
set_option maxRecDepth 20000 in
theorem t_X6_readGate_b186 {N : Nat} {p1 : Nat} (hp1 : Ob 0 111 p1 5) {q : Bool × Mem} {M : Mem} (h : f_X6_readGate_b186 N p1 M = some q) : Fr 0 111 9 m_X6_readGate 186 [(0, .ref 83), (1, .ref p1)] [] M (QB q) := by
  unfold f_X6_readGate_b186 at h
  refine Fr_aload_n (q := 1) (i := 1) 1 (by decide +kernel) rfl rfl ?_
  refine gf_X6_161 rfl (by decide +kernel) hp1 ?_
  refine Fr_aload_n (q := 1) (i := 1) 1 (by decide +kernel) rfl rfl ?_
  refine gf_X6_131 rfl (by decide +kernel) hp1 ?_
  refine Fr_aload_n (q := 0) (i := 0) 0 (by decide +kernel) rfl rfl ?_
  refine gf_X6_9 rfl (by decide +kernel) ob_83 ?_
  refine Fr_aload_n (q := 0) (i := 0) 0 (by decide +kernel) rfl rfl ?_
  refine gf_X6_31 rfl (by decide +kernel) ob_83 ?_
  refine Fr_iconst (i := 1) (v := 1) (by decide +kernel) (by decide) ?_
  refine Fr_isub (by decide +kernel) ?_
  obtain ⟨hi_21, h⟩ := ck_elim h
  refine Fr_lald (by decide +kernel) ob_84 (vp_of ln_84 hi_21) ?_
  obtain ⟨hi_22, h⟩ := ck_elim h
  refine Fr_last (by decide +kernel) (o5_2 hp1) (vp_of (n5_2 hp1) hi_22) ?_
  obtain ⟨M_23, eM_23, h⟩ := bM_elim h
  refine Fr_mem eM_23 ?_
  refine Fr_aload_n (q := 1) (i := 1) 1 (by decide +kernel) rfl rfl ?_
  refine Fr_dup (by decide +kernel) rfl ?_
  refine gf_X6_131 rfl (by decide +kernel) hp1 ?_
  refine Fr_iconst (i := 1) (v := 1) (by decide +kernel) (by decide) ?_
  refine Fr_iadd (by decide +kernel) ?_
  refine pf_X6_131 rfl (by decide +kernel) hp1 ?_
  obtain ⟨M_24, eM_24, h⟩ := bM_elim h
  refine Fr_mem eM_24 ?_
  refine Fr_aload_n (q := 0) (i := 0) 0 (by decide +kernel) rfl rfl ?_
  refine gf_X6_22 rfl (by decide +kernel) ob_83 ?_
  obtain ⟨r_27, M_25, hc_26, h⟩ := bi_elim h
  refine Fr_cVb (ν := m_X8_takeSemicolon) (As := []) (st := []) (rc := 82) (ci := 8) (d' := 1) (by decide +kernel) ml_X6_128 cv_X8_takeSemicolon rfl (by decide) rfl ob_82 rfl (by decide) (Nat.le_of_ble_eq_true rfl) (t_X8_takeSemicolon hc_26) ?_
  obtain rfl := Option.some.inj h
  exact Fr_zret (by decide +kernel) rfl (nz_b r_27) ⟨rfl, rfl⟩
def f_X6_readGate_b131 (N : Nat) (p1 : Nat) (v3 : Int32) (s0 : Int32) (s1 : Int32) (M : Mem) : Option (Bool × Mem) :=
  ck s1 30 (
  bM (uI M (p1 + 1) (tn s1) s0) fun M_10 =>
  bi (f_X8_tryWord N 7 M_10) fun r_13 M_11 =>
  bv (f_X5_setOpen p1 (M_10.1 p1 7) (b2i r_13) M_11) fun M_14 =>
  ck (v3 + 4) 30 (
  bM (uI M_14 (p1 + 1) (tn (v3 + 4)) 1) fun M_17 =>
  bi (f_X8_tryWord N 8 M_17) fun r_20 M_18 =>
  if (b2i r_20) = 0 then (f_X6_readGate_b186 N p1 M_18) else (bi (f_X8_takeNumber N (p1 + 1) (v3 + 4) 1 99 M_18) fun r_30 M_28 =>
  if (b2i r_30) = 0 then (some (false, M_28)) else (f_X6_readGate_b186 N p1 M_28))))
set_option maxRecDepth 20000 in
theorem t_X6_readGate_b131 {N : Nat} {p1 : Nat} (hp1 : Ob 0 111 p1 5) {q : Bool × Mem} {v3 : Int32} {s0 : Int32} {s1 : Int32} {M : Mem} (h : f_X6_readGate_b131 N p1 v3 s0 s1 M = some q) : Fr 0 111 9 m_X6_readGate 131 [(0, .ref 83), (1, .ref p1), (2, .ref (p1 + 1)), (3, .int v3)] [.int s0, .int s1, .ref (p1 + 1)] M (QB q) := by
  unfold f_X6_readGate_b131 at h
  obtain ⟨hi_9, h⟩ := ck_elim h
  refine Fr_iast (by decide +kernel) (o5_1 hp1) (vp_of (n5_1 hp1) hi_9) ?_
  obtain ⟨M_10, eM_10, h⟩ := bM_elim h
  refine Fr_mem eM_10 ?_
  refine Fr_aload_n (q := 1) (i := 1) 1 (by decide +kernel) rfl rfl ?_
  refine Fr_aload_n (q := 1) (i := 1) 1 (by decide +kernel) rfl rfl ?_
  refine gf_X6_131 rfl (by decide +kernel) hp1 ?_
  refine Fr_aload_n (q := 0) (i := 0) 0 (by decide +kernel) rfl rfl ?_
  refine gf_X6_22 rfl (by decide +kernel) ob_83 ?_
  refine Fr_ldcS (idx := 153) 7 (by decide +kernel) (by decide) rfl rfl ?_
  obtain ⟨r_13, M_11, hc_12, h⟩ := bi_elim h
  refine Fr_cVb (ν := m_X8_tryWord) (As := [.ref (400 + 7)]) (st := [.int (M_10.1 p1 7), .ref p1]) (rc := 82) (ci := 8) (d' := 8) (by decide +kernel) ml_X6_150 cv_X8_tryWord rfl (by decide) rfl ob_82 rfl (by decide) (Nat.le_of_ble_eq_true rfl) (t_X8_tryWord (by decide) hc_12) ?_
  obtain ⟨M_14, hc_15, h⟩ := bv_elim h
  refine Fr_cVv (ν := m_X5_setOpen) (As := [.int (M_10.1 p1 7), .int (b2i r_13)]) (st := []) (rc := p1) (ci := 5) (d' := 0) (by decide +kernel) ml_X6_155 cv_X5_setOpen rfl (by decide) rfl hp1 rfl (by decide) (Nat.le_of_ble_eq_true rfl) (t_X5_setOpen hp1 hc_15) ?_
  refine Fr_aload_n (q := 2) (i := 2) 2 (by decide +kernel) rfl rfl ?_
  refine Fr_iload_n (q := 3) (i := 3) 3 (by decide +kernel) rfl rfl ?_
  refine Fr_iconst (i := 4) (v := 4) (by decide +kernel) (by decide) ?_
  refine Fr_iadd (by decide +kernel) ?_
  refine Fr_iconst (i := 1) (v := 1) (by decide +kernel) (by decide) ?_
  obtain ⟨hi_16, h⟩ := ck_elim h
  refine Fr_iast (by decide +kernel) (o5_1 hp1) (vp_of (n5_1 hp1) hi_16) ?_
  obtain ⟨M_17, eM_17, h⟩ := bM_elim h
  refine Fr_mem eM_17 ?_
  refine Fr_aload_n (q := 0) (i := 0) 0 (by decide +kernel) rfl rfl ?_
  refine gf_X6_22 rfl (by decide +kernel) ob_83 ?_
  refine Fr_ldcS (idx := 159) 8 (by decide +kernel) (by decide) rfl rfl ?_
  obtain ⟨r_20, M_18, hc_19, h⟩ := bi_elim h
  refine Fr_cVb (ν := m_X8_tryWord) (As := [.ref (400 + 8)]) (st := []) (rc := 82) (ci := 8) (d' := 8) (by decide +kernel) ml_X6_150 cv_X8_tryWord rfl (by decide) rfl ob_82 rfl (by decide) (Nat.le_of_ble_eq_true rfl) (t_X8_tryWord (by decide) hc_19) ?_
  refine Fr_if_eq (off := 22) 186 (by decide +kernel) (by decide) (fun hc => ?_) (fun hc => ?_)
  · have h := iT hc h
    refine Fr_loc [0, 1] rfl ?_
    exact t_X6_readGate_b186 hp1 h
  · have h := iF hc h
    refine Fr_aload_n (q := 0) (i := 0) 0 (by decide +kernel) rfl rfl ?_
    refine gf_X6_22 rfl (by decide +kernel) ob_83 ?_
    refine Fr_aload_n (q := 2) (i := 2) 2 (by decide +kernel) rfl rfl ?_
    refine Fr_iload_n (q := 3) (i := 3) 3 (by decide +kernel) rfl rfl ?_
    refine Fr_iconst (i := 4) (v := 4) (by decide +kernel) (by decide) ?_
    refine Fr_iadd (by decide +kernel) ?_
    refine Fr_iconst (i := 1) (v := 1) (by decide +kernel) (by decide) ?_
    refine Fr_bipush (i := 99) (v := 99) (by decide +kernel) (by decide) ?_
    obtain ⟨r_30, M_28, hc_29, h⟩ := bi_elim h
    refine Fr_cVb (ν := m_X8_takeNumber) (As := [.ref (p1 + 1), .int (v3 + 4), .int 1, .int 99]) (st := []) (rc := 82) (ci := 8) (d' := 1) (by decide +kernel) ml_X6_116 cv_X8_takeNumber rfl (by decide) rfl ob_82 rfl (by decide) (Nat.le_of_ble_eq_true rfl) (t_X8_takeNumber (o5_1 hp1) hc_29) ?_
    refine Fr_if_ne (off := 5) 186 (by decide +kernel) (by decide) (fun hc => ?_) (fun hc => ?_)
    · have h := iF hc h
      refine Fr_loc [0, 1] rfl ?_
      exact t_X6_readGate_b186 hp1 h
    · have h := iT hc h
      refine Fr_iconst (i := 0) (v := 0) (by decide +kernel) (by decide) ?_
      obtain rfl := Option.some.inj h
      exact Fr_zret (by decide +kernel) rfl (by decide) ⟨rfl, rfl⟩
def f_X6_readGate_b101 (N : Nat) (p1 : Nat) (v3 : Int32) (s0 : Int32) (M : Mem) : Option (Bool × Mem) :=
  if s0 = 0 then (some (false, M)) else (bi (f_X8_tryWord N 6 M) fun r_8 M_6 =>
  if (b2i r_8) = 0 then (f_X6_readGate_b131 N p1 v3 0 (v3 + 3) M_6) else (f_X6_readGate_b131 N p1 v3 1 (v3 + 3) M_6))
set_option maxRecDepth 20000 in
theorem t_X6_readGate_b101 {N : Nat} {p1 : Nat} (hp1 : Ob 0 111 p1 5) {q : Bool × Mem} {v3 : Int32} {s0 : Int32} {M : Mem} (h : f_X6_readGate_b101 N p1 v3 s0 M = some q) : Fr 0 111 9 m_X6_readGate 101 [(0, .ref 83), (1, .ref p1), (2, .ref (p1 + 1)), (3, .int v3)] [.int s0] M (QB q) := by
  unfold f_X6_readGate_b101 at h
  refine Fr_istore (i := 4) (lv' := [(4, .int s0), (0, .ref 83), (1, .ref p1), (2, .ref (p1 + 1)), (3, .int v3)]) (by decide +kernel) (by decide) rfl ?_
  refine Fr_iload (i := 4) 0 (by decide +kernel) rfl ?_
  refine Fr_if_ne (off := 5) 110 (by decide +kernel) (by decide) (fun hc => ?_) (fun hc => ?_)
  · have h := iF hc h
    refine Fr_aload_n (q := 2) (i := 2) 3 (by decide +kernel) rfl rfl ?_
    refine Fr_iload_n (q := 3) (i := 3) 4 (by decide +kernel) rfl rfl ?_
    refine Fr_iconst (i := 3) (v := 3) (by decide +kernel) (by decide) ?_
    refine Fr_iadd (by decide +kernel) ?_
    refine Fr_aload_n (q := 0) (i := 0) 1 (by decide +kernel) rfl rfl ?_
    refine gf_X6_22 rfl (by decide +kernel) ob_83 ?_
    refine Fr_ldcS (idx := 148) 6 (by decide +kernel) (by decide) rfl rfl ?_
    obtain ⟨r_8, M_6, hc_7, h⟩ := bi_elim h
    refine Fr_cVb (ν := m_X8_tryWord) (As := [.ref (400 + 6)]) (st := [.int (v3 + 3), .ref (p1 + 1)]) (rc := 82) (ci := 8) (d' := 8) (by decide +kernel) ml_X6_150 cv_X8_tryWord rfl (by decide) rfl ob_82 rfl (by decide) (Nat.le_of_ble_eq_true rfl) (t_X8_tryWord (by decide) hc_7) ?_
    refine Fr_if_eq (off := 7) 130 (by decide +kernel) (by decide) (fun hc => ?_) (fun hc => ?_)
    · have h := iT hc h
      refine Fr_iconst (i := 0) (v := 0) (by decide +kernel) (by decide) ?_
      refine Fr_loc [1, 2, 3, 4] rfl ?_
      exact t_X6_readGate_b131 hp1 h
    · have h := iF hc h
      refine Fr_iconst (i := 1) (v := 1) (by decide +kernel) (by decide) ?_
      refine Fr_goto (off := 4) 131 (by decide +kernel) (by decide) ?_
      refine Fr_loc [1, 2, 3, 4] rfl ?_
      exact t_X6_readGate_b131 hp1 h
  · have h := iT hc h
    refine Fr_iconst (i := 0) (v := 0) (by decide +kernel) (by decide) ?_
    obtain rfl := Option.some.inj h
    exact Fr_zret (by decide +kernel) rfl (by decide) ⟨rfl, rfl⟩
def f_X6_readGate_b100 (N : Nat) (p1 : Nat) (v3 : Int32) (M : Mem) : Option (Bool × Mem) :=
  f_X6_readGate_b101 N p1 v3 0 M
set_option maxRecDepth 20000 in
theorem t_X6_readGate_b100 {N : Nat} {p1 : Nat} (hp1 : Ob 0 111 p1 5) {q : Bool × Mem} {v3 : Int32} {M : Mem} (h : f_X6_readGate_b100 N p1 v3 M = some q) : Fr 0 111 9 m_X6_readGate 100 [(0, .ref 83), (1, .ref p1), (2, .ref (p1 + 1)), (3, .int v3)] [] M (QB q) := by
  unfold f_X6_readGate_b100 at h
  refine Fr_iconst (i := 0) (v := 0) (by decide +kernel) (by decide) ?_
  exact t_X6_readGate_b101 hp1 h
def f_X6_readGate (N : Nat) (p1 : Nat) (M : Mem) : Option (Bool × Mem) :=
  if (M.1 p1 7) < 6 then (bv (f_X8_advance N M) fun M_1 =>
  bi (f_X6_readNewName N M_1) fun r_5 M_3 =>
  if (b2i r_5) = 0 then (f_X6_readGate_b100 N p1 ((M.1 p1 7) * 5) M_3) else (bi (f_X8_takeWord N 4 M_3) fun r_33 M_31 =>
  if (b2i r_33) = 0 then (f_X6_readGate_b100 N p1 ((M.1 p1 7) * 5) M_31) else (bi (f_X6_readBoard N p1 (p1 + 1) ((M.1 p1 7) * 5) M_31) fun r_36 M_34 =>
  if (b2i r_36) = 0 then (f_X6_readGate_b100 N p1 ((M.1 p1 7) * 5) M_34) else (bi (f_X8_takeWord N 5 M_34) fun r_39 M_37 =>
  if (b2i r_39) = 0 then (f_X6_readGate_b100 N p1 ((M.1 p1 7) * 5) M_37) else (bi (f_X8_takeNumber N (p1 + 1) (((M.1 p1 7) * 5) + 2) 1 40 M_37) fun r_42 M_40 =>
  if (b2i r_42) = 0 then (f_X6_readGate_b100 N p1 ((M.1 p1 7) * 5) M_40) else (f_X6_readGate_b101 N p1 ((M.1 p1 7) * 5) 1 M_40)))))) else (bi (f_X8_refuse 6 M) fun r_45 M_43 =>
  some (r_45, M_43))
set_option maxRecDepth 20000 in
theorem t_X6_readGate {N : Nat} {p1 : Nat} (hp1 : Ob 0 111 p1 5) {M : Mem} {q : Bool × Mem} (h : f_X6_readGate N p1 M = some q) : Ev 0 111 9 m_X6_readGate [.ref 83, .ref p1] M (QB q) := by
  refine Ev_of_Fr (by decide +kernel) (Nat.le_of_ble_eq_true rfl) ?_
  show Fr 0 111 9 m_X6_readGate 0 [(0, .ref 83), (1, .ref p1)] [] M (QB q)
  unfold f_X6_readGate at h
  refine Fr_aload_n (q := 1) (i := 1) 1 (by decide +kernel) rfl rfl ?_
  refine gf_X6_131 rfl (by decide +kernel) hp1 ?_
  refine Fr_bipush (i := 6) (v := 6) (by decide +kernel) (by decide) ?_
  refine Fr_icmp_lt (off := 13) 19 (by decide +kernel) (by decide) (fun hc => ?_) (fun hc => ?_)
  · have h := iT hc h
    refine Fr_aload_n (q := 1) (i := 1) 1 (by decide +kernel) rfl rfl ?_
    refine gf_X6_134 rfl (by decide +kernel) hp1 ?_
    refine Fr_astore_n (q := 2) (i := 2) (lv' := [(2, .ref (p1 + 1)), (0, .ref 83), (1, .ref p1)]) (by decide +kernel) rfl (by decide) rfl ?_
    refine Fr_aload_n (q := 1) (i := 1) 2 (by decide +kernel) rfl rfl ?_
    refine gf_X6_131 rfl (by decide +kernel) hp1 ?_
    refine Fr_iconst (i := 5) (v := 5) (by decide +kernel) (by decide) ?_
    refine Fr_imul (by decide +kernel) ?_
    refine Fr_istore_n (q := 3) (i := 3) (lv' := [(3, .int ((M.1 p1 7) * 5)), (2, .ref (p1 + 1)), (0, .ref 83), (1, .ref p1)]) (by decide +kernel) rfl (by decide) rfl ?_
    refine Fr_aload_n (q := 0) (i := 0) 2 (by decide +kernel) rfl rfl ?_
    refine gf_X6_22 rfl (by decide +kernel) ob_83 ?_
    obtain ⟨M_1, hc_2, h⟩ := bv_elim h
    refine Fr_cVv (ν := m_X8_advance) (As := []) (st := []) (rc := 82) (ci := 8) (d' := 0) (by decide +kernel) ml_X6_113 cv_X8_advance rfl (by decide) rfl ob_82 rfl (by decide) (Nat.le_of_ble_eq_true rfl) (t_X8_advance hc_2) ?_
    refine Fr_aload_n (q := 0) (i := 0) 2 (by decide +kernel) rfl rfl ?_
    obtain ⟨r_5, M_3, hc_4, h⟩ := bi_elim h
    refine Fr_cVb (ν := m_X6_readNewName) (As := []) (st := []) (rc := 83) (ci := 6) (d' := 8) (by decide +kernel) ml_X6_137 cv_X6_readNewName rfl (by decide) rfl ob_83 rfl (by decide) (Nat.le_of_ble_eq_true rfl) (t_X6_readNewName hc_4) ?_
    refine Fr_if_eq (off := 58) 100 (by decide +kernel) (by decide) (fun hc => ?_) (fun hc => ?_)
    · have h := iT hc h
      refine Fr_loc [2, 3, 1, 0] rfl ?_
      exact t_X6_readGate_b100 hp1 h
    · have h := iF hc h
      refine Fr_aload_n (q := 0) (i := 0) 2 (by decide +kernel) rfl rfl ?_
      refine gf_X6_22 rfl (by decide +kernel) ob_83 ?_
      refine Fr_ldcS (idx := 140) 4 (by decide +kernel) (by decide) rfl rfl ?_
      obtain ⟨r_33, M_31, hc_32, h⟩ := bi_elim h
      refine Fr_cVb (ν := m_X8_takeWord) (As := [.ref (400 + 4)]) (st := []) (rc := 82) (ci := 8) (d' := 8) (by decide +kernel) ml_X6_122 cv_X8_takeWord rfl (by decide) rfl ob_82 rfl (by decide) (Nat.le_of_ble_eq_true rfl) (t_X8_takeWord (by decide) hc_32) ?_
      refine Fr_if_eq (off := 46) 100 (by decide +kernel) (by decide) (fun hc => ?_) (fun hc => ?_)
      · have h := iT hc h
        refine Fr_loc [2, 3, 1, 0] rfl ?_
        exact t_X6_readGate_b100 hp1 h
      · have h := iF hc h
        refine Fr_aload_n (q := 0) (i := 0) 2 (by decide +kernel) rfl rfl ?_
        refine Fr_aload_n (q := 1) (i := 1) 3 (by decide +kernel) rfl rfl ?_
        refine Fr_aload_n (q := 2) (i := 2) 1 (by decide +kernel) rfl rfl ?_
        refine Fr_iload_n (q := 3) (i := 3) 0 (by decide +kernel) rfl rfl ?_
        obtain ⟨r_36, M_34, hc_35, h⟩ := bi_elim h
        refine Fr_cVb (ν := m_X6_readBoard) (As := [.ref p1, .ref (p1 + 1), .int ((M.1 p1 7) * 5)]) (st := []) (rc := 83) (ci := 6) (d' := 2) (by decide +kernel) ml_X6_142 cv_X6_readBoard rfl (by decide) rfl ob_83 rfl (by decide) (Nat.le_of_ble_eq_true rfl) (t_X6_readBoard hp1 (o5_1 hp1) hc_35) ?_
        refine Fr_if_eq (off := 36) 100 (by decide +kernel) (by decide) (fun hc => ?_) (fun hc => ?_)
        · have h := iT hc h
          refine Fr_loc [2, 3, 1, 0] rfl ?_
          exact t_X6_readGate_b100 hp1 h
        · have h := iF hc h
          refine Fr_aload_n (q := 0) (i := 0) 2 (by decide +kernel) rfl rfl ?_
          refine gf_X6_22 rfl (by decide +kernel) ob_83 ?_
          refine Fr_ldcS (idx := 146) 5 (by decide +kernel) (by decide) rfl rfl ?_
          obtain ⟨r_39, M_37, hc_38, h⟩ := bi_elim h
          refine Fr_cVb (ν := m_X8_takeWord) (As := [.ref (400 + 5)]) (st := []) (rc := 82) (ci := 8) (d' := 8) (by decide +kernel) ml_X6_122 cv_X8_takeWord rfl (by decide) rfl ob_82 rfl (by decide) (Nat.le_of_ble_eq_true rfl) (t_X8_takeWord (by decide) hc_38) ?_
          refine Fr_if_eq (off := 24) 100 (by decide +kernel) (by decide) (fun hc => ?_) (fun hc => ?_)
          · have h := iT hc h
            refine Fr_loc [2, 3, 1, 0] rfl ?_
            exact t_X6_readGate_b100 hp1 h
          · have h := iF hc h
            refine Fr_aload_n (q := 0) (i := 0) 2 (by decide +kernel) rfl rfl ?_
            refine gf_X6_22 rfl (by decide +kernel) ob_83 ?_
            refine Fr_aload_n (q := 2) (i := 2) 1 (by decide +kernel) rfl rfl ?_
            refine Fr_iload_n (q := 3) (i := 3) 0 (by decide +kernel) rfl rfl ?_
            refine Fr_iconst (i := 2) (v := 2) (by decide +kernel) (by decide) ?_
            refine Fr_iadd (by decide +kernel) ?_
            refine Fr_iconst (i := 1) (v := 1) (by decide +kernel) (by decide) ?_
            refine Fr_bipush (i := 40) (v := 40) (by decide +kernel) (by decide) ?_
            obtain ⟨r_42, M_40, hc_41, h⟩ := bi_elim h
            refine Fr_cVb (ν := m_X8_takeNumber) (As := [.ref (p1 + 1), .int (((M.1 p1 7) * 5) + 2), .int 1, .int 40]) (st := []) (rc := 82) (ci := 8) (d' := 1) (by decide +kernel) ml_X6_116 cv_X8_takeNumber rfl (by decide) rfl ob_82 rfl (by decide) (Nat.le_of_ble_eq_true rfl) (t_X8_takeNumber (o5_1 hp1) hc_41) ?_
            refine Fr_if_eq (off := 7) 100 (by decide +kernel) (by decide) (fun hc => ?_) (fun hc => ?_)
            · have h := iT hc h
              refine Fr_loc [2, 3, 1, 0] rfl ?_
              exact t_X6_readGate_b100 hp1 h
            · have h := iF hc h
              refine Fr_iconst (i := 1) (v := 1) (by decide +kernel) (by decide) ?_
              refine Fr_goto (off := 4) 101 (by decide +kernel) (by decide) ?_
              refine Fr_loc [2, 3, 1, 0] rfl ?_
              exact t_X6_readGate_b101 hp1 h
  · have h := iF hc h
    refine Fr_aload_n (q := 0) (i := 0) 0 (by decide +kernel) rfl rfl ?_
    refine gf_X6_22 rfl (by decide +kernel) ob_83 ?_
    refine Fr_bipush (i := 6) (v := 6) (by decide +kernel) (by decide) ?_
    obtain ⟨r_45, M_43, hc_44, h⟩ := bi_elim h
    refine Fr_cVb (ν := m_X8_refuse) (As := [.int 6]) (st := []) (rc := 82) (ci := 8) (d' := 0) (by decide +kernel) ml_X6_79 cv_X8_refuse rfl (by decide) rfl ob_82 rfl (by decide) (Nat.le_of_ble_eq_true rfl) (t_X8_refuse hc_44) ?_
    obtain rfl := Option.some.inj h
    exact Fr_zret (by decide +kernel) rfl (nz_b r_45) ⟨rfl, rfl⟩
def f_X6_readHolder_b71 (N : Nat) (p1 : Nat) (s0 : Int32) (M : Mem) : Option (Bool × Mem) :=
  if s0 = 0 then (some (false, M)) else (bM (uI M p1 8 ((M.1 p1 8) + 1)) fun M_6 =>
  bi (f_X8_takeSemicolon N M_6) fun r_9 M_7 =>
  some (r_9, M_7))
set_option maxRecDepth 20000 in
theorem t_X6_readHolder_b71 {N : Nat} {p1 : Nat} (hp1 : Ob 0 111 p1 5) {q : Bool × Mem} {s0 : Int32} {M : Mem} (h : f_X6_readHolder_b71 N p1 s0 M = some q) : Fr 0 111 9 m_X6_readHolder 71 [(0, .ref 83), (1, .ref p1)] [.int s0] M (QB q) := by
  unfold f_X6_readHolder_b71 at h
  refine Fr_istore_n (q := 2) (i := 2) (lv' := [(2, .int s0), (0, .ref 83), (1, .ref p1)]) (by decide +kernel) rfl (by decide) rfl ?_
  refine Fr_iload_n (q := 2) (i := 2) 0 (by decide +kernel) rfl rfl ?_
  refine Fr_if_ne (off := 5) 78 (by decide +kernel) (by decide) (fun hc => ?_) (fun hc => ?_)
  · have h := iF hc h
    refine Fr_aload_n (q := 1) (i := 1) 2 (by decide +kernel) rfl rfl ?_
    refine Fr_dup (by decide +kernel) rfl ?_
    refine gf_X6_164 rfl (by decide +kernel) hp1 ?_
    refine Fr_iconst (i := 1) (v := 1) (by decide +kernel) (by decide) ?_
    refine Fr_iadd (by decide +kernel) ?_
    refine pf_X6_164 rfl (by decide +kernel) hp1 ?_
    obtain ⟨M_6, eM_6, h⟩ := bM_elim h
    refine Fr_mem eM_6 ?_
    refine Fr_aload_n (q := 0) (i := 0) 1 (by decide +kernel) rfl rfl ?_
    refine gf_X6_22 rfl (by decide +kernel) ob_83 ?_
    obtain ⟨r_9, M_7, hc_8, h⟩ := bi_elim h
    refine Fr_cVb (ν := m_X8_takeSemicolon) (As := []) (st := []) (rc := 82) (ci := 8) (d' := 1) (by decide +kernel) ml_X6_128 cv_X8_takeSemicolon rfl (by decide) rfl ob_82 rfl (by decide) (Nat.le_of_ble_eq_true rfl) (t_X8_takeSemicolon hc_8) ?_
    obtain rfl := Option.some.inj h
    exact Fr_zret (by decide +kernel) rfl (nz_b r_9) ⟨rfl, rfl⟩
  · have h := iT hc h
    refine Fr_iconst (i := 0) (v := 0) (by decide +kernel) (by decide) ?_
    obtain rfl := Option.some.inj h
    exact Fr_zret (by decide +kernel) rfl (by decide) ⟨rfl, rfl⟩
def f_X6_readHolder_b70 (N : Nat) (p1 : Nat) (M : Mem) : Option (Bool × Mem) :=
  f_X6_readHolder_b71 N p1 0 M
set_option maxRecDepth 20000 in
theorem t_X6_readHolder_b70 {N : Nat} {p1 : Nat} (hp1 : Ob 0 111 p1 5) {q : Bool × Mem} {M : Mem} (h : f_X6_readHolder_b70 N p1 M = some q) : Fr 0 111 9 m_X6_readHolder 70 [(0, .ref 83), (1, .ref p1)] [] M (QB q) := by
  unfold f_X6_readHolder_b70 at h
  refine Fr_iconst (i := 0) (v := 0) (by decide +kernel) (by decide) ?_
  exact t_X6_readHolder_b71 hp1 h
def f_X6_readHolder (N : Nat) (p1 : Nat) (M : Mem) : Option (Bool × Mem) :=
  if (M.1 p1 8) < 6 then (bv (f_X8_advance N M) fun M_1 =>
  bi (f_X6_readNewName N M_1) fun r_5 M_3 =>
  if (b2i r_5) = 0 then (f_X6_readHolder_b70 N p1 M_3) else (bi (f_X8_takeWord N 10 M_3) fun r_12 M_10 =>
  if (b2i r_12) = 0 then (f_X6_readHolder_b70 N p1 M_10) else (bi (f_X8_takeNumber N (p1 + 3) (M_10.1 p1 8) 1 20 M_10) fun r_15 M_13 =>
  if (b2i r_15) = 0 then (f_X6_readHolder_b70 N p1 M_13) else (f_X6_readHolder_b71 N p1 1 M_13)))) else (bi (f_X8_refuse 6 M) fun r_18 M_16 =>
  some (r_18, M_16))
set_option maxRecDepth 20000 in
theorem t_X6_readHolder {N : Nat} {p1 : Nat} (hp1 : Ob 0 111 p1 5) {M : Mem} {q : Bool × Mem} (h : f_X6_readHolder N p1 M = some q) : Ev 0 111 9 m_X6_readHolder [.ref 83, .ref p1] M (QB q) := by
  refine Ev_of_Fr (by decide +kernel) (Nat.le_of_ble_eq_true rfl) ?_
  show Fr 0 111 9 m_X6_readHolder 0 [(0, .ref 83), (1, .ref p1)] [] M (QB q)
  unfold f_X6_readHolder at h
  refine Fr_aload_n (q := 1) (i := 1) 1 (by decide +kernel) rfl rfl ?_
  refine gf_X6_164 rfl (by decide +kernel) hp1 ?_
  refine Fr_bipush (i := 6) (v := 6) (by decide +kernel) (by decide) ?_
  refine Fr_icmp_lt (off := 13) 19 (by decide +kernel) (by decide) (fun hc => ?_) (fun hc => ?_)
  · have h := iT hc h
    refine Fr_aload_n (q := 0) (i := 0) 0 (by decide +kernel) rfl rfl ?_
    refine gf_X6_22 rfl (by decide +kernel) ob_83 ?_
    obtain ⟨M_1, hc_2, h⟩ := bv_elim h
    refine Fr_cVv (ν := m_X8_advance) (As := []) (st := []) (rc := 82) (ci := 8) (d' := 0) (by decide +kernel) ml_X6_113 cv_X8_advance rfl (by decide) rfl ob_82 rfl (by decide) (Nat.le_of_ble_eq_true rfl) (t_X8_advance hc_2) ?_
    refine Fr_aload_n (q := 0) (i := 0) 0 (by decide +kernel) rfl rfl ?_
    obtain ⟨r_5, M_3, hc_4, h⟩ := bi_elim h
    refine Fr_cVb (ν := m_X6_readNewName) (As := []) (st := []) (rc := 83) (ci := 6) (d' := 8) (by decide +kernel) ml_X6_137 cv_X6_readNewName rfl (by decide) rfl ob_83 rfl (by decide) (Nat.le_of_ble_eq_true rfl) (t_X6_readNewName hc_4) ?_
    refine Fr_if_eq (off := 40) 70 (by decide +kernel) (by decide) (fun hc => ?_) (fun hc => ?_)
    · have h := iT hc h
      exact t_X6_readHolder_b70 hp1 h
    · have h := iF hc h
      refine Fr_aload_n (q := 0) (i := 0) 0 (by decide +kernel) rfl rfl ?_
      refine gf_X6_22 rfl (by decide +kernel) ob_83 ?_
      refine Fr_ldcS (idx := 167) 10 (by decide +kernel) (by decide) rfl rfl ?_
      obtain ⟨r_12, M_10, hc_11, h⟩ := bi_elim h
      refine Fr_cVb (ν := m_X8_takeWord) (As := [.ref (400 + 10)]) (st := []) (rc := 82) (ci := 8) (d' := 8) (by decide +kernel) ml_X6_122 cv_X8_takeWord rfl (by decide) rfl ob_82 rfl (by decide) (Nat.le_of_ble_eq_true rfl) (t_X8_takeWord (by decide) hc_11) ?_
      refine Fr_if_eq (off := 28) 70 (by decide +kernel) (by decide) (fun hc => ?_) (fun hc => ?_)
      · have h := iT hc h
        exact t_X6_readHolder_b70 hp1 h
      · have h := iF hc h
        refine Fr_aload_n (q := 0) (i := 0) 0 (by decide +kernel) rfl rfl ?_
        refine gf_X6_22 rfl (by decide +kernel) ob_83 ?_
        refine Fr_aload_n (q := 1) (i := 1) 1 (by decide +kernel) rfl rfl ?_
        refine gf_X6_169 rfl (by decide +kernel) hp1 ?_
        refine Fr_aload_n (q := 1) (i := 1) 1 (by decide +kernel) rfl rfl ?_
        refine gf_X6_164 rfl (by decide +kernel) hp1 ?_
        refine Fr_iconst (i := 1) (v := 1) (by decide +kernel) (by decide) ?_
        refine Fr_bipush (i := 20) (v := 20) (by decide +kernel) (by decide) ?_
        obtain ⟨r_15, M_13, hc_14, h⟩ := bi_elim h
        refine Fr_cVb (ν := m_X8_takeNumber) (As := [.ref (p1 + 3), .int (M_10.1 p1 8), .int 1, .int 20]) (st := []) (rc := 82) (ci := 8) (d' := 1) (by decide +kernel) ml_X6_116 cv_X8_takeNumber rfl (by decide) rfl ob_82 rfl (by decide) (Nat.le_of_ble_eq_true rfl) (t_X8_takeNumber (o5_3 hp1) hc_14) ?_
        refine Fr_if_eq (off := 7) 70 (by decide +kernel) (by decide) (fun hc => ?_) (fun hc => ?_)
        · have h := iT hc h
          exact t_X6_readHolder_b70 hp1 h
        · have h := iF hc h
          refine Fr_iconst (i := 1) (v := 1) (by decide +kernel) (by decide) ?_
          refine Fr_goto (off := 4) 71 (by decide +kernel) (by decide) ?_
          exact t_X6_readHolder_b71 hp1 h
  · have h := iF hc h
    refine Fr_aload_n (q := 0) (i := 0) 0 (by decide +kernel) rfl rfl ?_
    refine gf_X6_22 rfl (by decide +kernel) ob_83 ?_
    refine Fr_bipush (i := 6) (v := 6) (by decide +kernel) (by decide) ?_
    obtain ⟨r_18, M_16, hc_17, h⟩ := bi_elim h
    refine Fr_cVb (ν := m_X8_refuse) (As := [.int 6]) (st := []) (rc := 82) (ci := 8) (d' := 0) (by decide +kernel) ml_X6_79 cv_X8_refuse rfl (by decide) rfl ob_82 rfl (by decide) (Nat.le_of_ble_eq_true rfl) (t_X8_refuse hc_17) ?_
    obtain rfl := Option.some.inj h
    exact Fr_zret (by decide +kernel) rfl (nz_b r_18) ⟨rfl, rfl⟩
