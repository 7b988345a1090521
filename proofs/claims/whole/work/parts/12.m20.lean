def f_X12_placed (x1 : Int32) (x2 : Int32) (M : Mem) : Option (Int32 × Mem) :=
  bi (f_X12_trayed x1 M) fun r_3 M_1 =>
  if r_3 ≤ 0 then (if x2 < 0 then (some (4, M_1)) else (ck x1 4 (
  if x2 < (M_1.1 202 (tn x1)) then (some (0, M_1)) else (some (4, M_1))))) else (some (r_3, M_1))
set_option maxRecDepth 20000 in
theorem t_X12_placed {x1 : Int32} {x2 : Int32} {M : Mem} {q : Int32 × Mem} (h : f_X12_placed x1 x2 M = some q) : Ev 200 21 1 m_X12_placed [.ref 200, .int x1, .int x2] M (QI q) := by
  refine Ev_of_Fr (by decide +kernel) (Nat.le_of_ble_eq_true rfl) ?_
  show Fr 200 21 1 m_X12_placed 0 [(0, .ref 200), (1, .int x1), (2, .int x2)] [] M (QI q)
  unfold f_X12_placed at h
  refine Fr_aload_n (q := 0) (i := 0) 0 (by decide +kernel) rfl rfl ?_
  refine Fr_iload_n (q := 1) (i := 1) 1 (by decide +kernel) rfl rfl ?_
  obtain ⟨r_3, M_1, hc_2, h⟩ := bi_elim h
  refine Fr_cVi (ν := m_X12_trayed) (As := [.int x1]) (st := []) (rc := 200) (ci := 12) (d' := 0) (by decide +kernel) ml_X12_103 cv_X12_trayed rfl (by decide) rfl ob_200 rfl (by decide) (Nat.le_of_ble_eq_true rfl) (t_X12_trayed hc_2) ?_
  refine Fr_istore_n (q := 3) (i := 3) (lv' := [(3, .int r_3), (0, .ref 200), (1, .int x1), (2, .int x2)]) (by decide +kernel) rfl (by decide) rfl ?_
  refine Fr_iload_n (q := 3) (i := 3) 0 (by decide +kernel) rfl rfl ?_
  refine Fr_if_le (off := 7) 14 (by decide +kernel) (by decide) (fun hc => ?_) (fun hc => ?_)
  · have h := iT hc h
    refine Fr_iload_n (q := 2) (i := 2) 3 (by decide +kernel) rfl rfl ?_
    refine Fr_if_lt (off := 13) 28 (by decide +kernel) (by decide) (fun hc => ?_) (fun hc => ?_)
    · have h := iT hc h
      refine Fr_iconst (i := 4) (v := 4) (by decide +kernel) (by decide) ?_
      refine Fr_goto (off := 4) 33 (by decide +kernel) (by decide) ?_
      obtain rfl := Option.some.inj h
      exact Fr_iret (by decide +kernel) rfl ⟨rfl, rfl⟩
    · have h := iF hc h
      refine Fr_iload_n (q := 2) (i := 2) 3 (by decide +kernel) rfl rfl ?_
      refine Fr_aload_n (q := 0) (i := 0) 1 (by decide +kernel) rfl rfl ?_
      refine gf_X12_17 rfl (by decide +kernel) ob_200 ?_
      refine Fr_iload_n (q := 1) (i := 1) 2 (by decide +kernel) rfl rfl ?_
      obtain ⟨hi_4, h⟩ := ck_elim h
      refine Fr_iald (by decide +kernel) ob_202 (vp_of ln_202 hi_4) ?_
      refine Fr_icmp_lt (off := 7) 32 (by decide +kernel) (by decide) (fun hc => ?_) (fun hc => ?_)
      · have h := iT hc h
        refine Fr_iconst (i := 0) (v := 0) (by decide +kernel) (by decide) ?_
        obtain rfl := Option.some.inj h
        exact Fr_iret (by decide +kernel) rfl ⟨rfl, rfl⟩
      · have h := iF hc h
        refine Fr_iconst (i := 4) (v := 4) (by decide +kernel) (by decide) ?_
        refine Fr_goto (off := 4) 33 (by decide +kernel) (by decide) ?_
        obtain rfl := Option.some.inj h
        exact Fr_iret (by decide +kernel) rfl ⟨rfl, rfl⟩
  · have h := iF hc h
    refine Fr_iload_n (q := 3) (i := 3) 0 (by decide +kernel) rfl rfl ?_
    refine Fr_goto (off := 22) 33 (by decide +kernel) (by decide) ?_
    obtain rfl := Option.some.inj h
    exact Fr_iret (by decide +kernel) rfl ⟨rfl, rfl⟩
def f_X12_write (x1 : Int32) (x2 : Int32) (x3 : Int64) (M : Mem) : Option (Bool × Mem) :=
  bM (uI M 200 1 0) fun M_1 =>
  bi (f_X12_placed x1 x2 M_1) fun r_4 M_2 =>
  bM (uI M_2 200 0 r_4) fun M_5 =>
  if (M_5.1 200 0) ≤ 0 then (ck x1 4 (
  bi (f_X12_cut (M_5.1 201 (tn x1)) x3 M_5) fun r_9 M_7 =>
  ck ((60 * x1) + x2) 240 (
  bM (uL M_7 203 (tn ((60 * x1) + x2)) r_9) fun M_11 =>
  some (true, M_11)))) else (some (false, M_5))
set_option maxRecDepth 20000 in
theorem t_X12_write {x1 : Int32} {x2 : Int32} {x3 : Int64} {M : Mem} {q : Bool × Mem} (h : f_X12_write x1 x2 x3 M = some q) : Ev 200 21 2 m_X12_write [.ref 200, .int x1, .int x2, .long x3] M (QB q) := by
  refine Ev_of_Fr (by decide +kernel) (Nat.le_of_ble_eq_true rfl) ?_
  show Fr 200 21 2 m_X12_write 0 [(0, .ref 200), (1, .int x1), (2, .int x2), (3, .long x3)] [] M (QB q)
  unfold f_X12_write at h
  refine Fr_aload_n (q := 0) (i := 0) 0 (by decide +kernel) rfl rfl ?_
  refine Fr_iconst (i := 0) (v := 0) (by decide +kernel) (by decide) ?_
  refine pf_X12_84 rfl (by decide +kernel) ob_200 ?_
  obtain ⟨M_1, eM_1, h⟩ := bM_elim h
  refine Fr_mem eM_1 ?_
  refine Fr_aload_n (q := 0) (i := 0) 0 (by decide +kernel) rfl rfl ?_
  refine Fr_aload_n (q := 0) (i := 0) 0 (by decide +kernel) rfl rfl ?_
  refine Fr_iload_n (q := 1) (i := 1) 1 (by decide +kernel) rfl rfl ?_
  refine Fr_iload_n (q := 2) (i := 2) 2 (by decide +kernel) rfl rfl ?_
  obtain ⟨r_4, M_2, hc_3, h⟩ := bi_elim h
  refine Fr_cVi (ν := m_X12_placed) (As := [.int x1, .int x2]) (st := [.ref 200]) (rc := 200) (ci := 12) (d' := 1) (by decide +kernel) ml_X12_107 cv_X12_placed rfl (by decide) rfl ob_200 rfl (by decide) (Nat.le_of_ble_eq_true rfl) (t_X12_placed hc_3) ?_
  refine pf_X12_87 rfl (by decide +kernel) ob_200 ?_
  obtain ⟨M_5, eM_5, h⟩ := bM_elim h
  refine Fr_mem eM_5 ?_
  refine Fr_aload_n (q := 0) (i := 0) 0 (by decide +kernel) rfl rfl ?_
  refine gf_X12_87 rfl (by decide +kernel) ob_200 ?_
  refine Fr_if_le (off := 5) 24 (by decide +kernel) (by decide) (fun hc => ?_) (fun hc => ?_)
  · have h := iT hc h
    refine Fr_aload_n (q := 0) (i := 0) 0 (by decide +kernel) rfl rfl ?_
    refine gf_X12_20 rfl (by decide +kernel) ob_200 ?_
    refine Fr_bipush (i := 60) (v := 60) (by decide +kernel) (by decide) ?_
    refine Fr_iload_n (q := 1) (i := 1) 1 (by decide +kernel) rfl rfl ?_
    refine Fr_imul (by decide +kernel) ?_
    refine Fr_iload_n (q := 2) (i := 2) 2 (by decide +kernel) rfl rfl ?_
    refine Fr_iadd (by decide +kernel) ?_
    refine Fr_aload_n (q := 0) (i := 0) 0 (by decide +kernel) rfl rfl ?_
    refine gf_X12_13 rfl (by decide +kernel) ob_200 ?_
    refine Fr_iload_n (q := 1) (i := 1) 1 (by decide +kernel) rfl rfl ?_
    obtain ⟨hi_6, h⟩ := ck_elim h
    refine Fr_iald (by decide +kernel) ob_201 (vp_of ln_201 hi_6) ?_
    refine Fr_lload_n (q := 3) (i := 3) 3 (by decide +kernel) rfl rfl ?_
    obtain ⟨r_9, M_7, hc_8, h⟩ := bi_elim h
    refine Fr_cSj (ν := m_X12_cut) (As := [.int (M_5.1 201 (tn x1)), .long x3]) (st := [.int ((60 * x1) + x2), .ref 203]) (d' := 0) (by decide +kernel) ml_X12_111 cs_X12_cut rfl (by decide) (Nat.le_of_ble_eq_true rfl) (t_X12_cut hc_8) ?_
    obtain ⟨hi_10, h⟩ := ck_elim h
    refine Fr_last (by decide +kernel) ob_203 (vp_of ln_203 hi_10) ?_
    obtain ⟨M_11, eM_11, h⟩ := bM_elim h
    refine Fr_mem eM_11 ?_
    refine Fr_iconst (i := 1) (v := 1) (by decide +kernel) (by decide) ?_
    obtain rfl := Option.some.inj h
    exact Fr_zret (by decide +kernel) rfl (by decide) ⟨rfl, rfl⟩
  · have h := iF hc h
    refine Fr_iconst (i := 0) (v := 0) (by decide +kernel) (by decide) ?_
    obtain rfl := Option.some.inj h
    exact Fr_zret (by decide +kernel) rfl (by decide) ⟨rfl, rfl⟩
def f_X12_read (x1 : Int32) (x2 : Int32) (M : Mem) : Option (Int64 × Mem) :=
  bM (uI M 200 1 0) fun M_1 =>
  bi (f_X12_placed x1 x2 M_1) fun r_4 M_2 =>
  bM (uI M_2 200 0 r_4) fun M_5 =>
  if (M_5.1 200 0) ≤ 0 then (ck ((60 * x1) + x2) 240 (
  some ((M_5.2 203 (tn ((60 * x1) + x2))), M_5))) else (some ((-1), M_5))
set_option maxRecDepth 20000 in
theorem t_X12_read {x1 : Int32} {x2 : Int32} {M : Mem} {q : Int64 × Mem} (h : f_X12_read x1 x2 M = some q) : Ev 200 21 2 m_X12_read [.ref 200, .int x1, .int x2] M (QJ q) := by
  refine Ev_of_Fr (by decide +kernel) (Nat.le_of_ble_eq_true rfl) ?_
  show Fr 200 21 2 m_X12_read 0 [(0, .ref 200), (1, .int x1), (2, .int x2)] [] M (QJ q)
  unfold f_X12_read at h
  refine Fr_aload_n (q := 0) (i := 0) 0 (by decide +kernel) rfl rfl ?_
  refine Fr_iconst (i := 0) (v := 0) (by decide +kernel) (by decide) ?_
  refine pf_X12_84 rfl (by decide +kernel) ob_200 ?_
  obtain ⟨M_1, eM_1, h⟩ := bM_elim h
  refine Fr_mem eM_1 ?_
  refine Fr_aload_n (q := 0) (i := 0) 0 (by decide +kernel) rfl rfl ?_
  refine Fr_aload_n (q := 0) (i := 0) 0 (by decide +kernel) rfl rfl ?_
  refine Fr_iload_n (q := 1) (i := 1) 1 (by decide +kernel) rfl rfl ?_
  refine Fr_iload_n (q := 2) (i := 2) 2 (by decide +kernel) rfl rfl ?_
  obtain ⟨r_4, M_2, hc_3, h⟩ := bi_elim h
  refine Fr_cVi (ν := m_X12_placed) (As := [.int x1, .int x2]) (st := [.ref 200]) (rc := 200) (ci := 12) (d' := 1) (by decide +kernel) ml_X12_107 cv_X12_placed rfl (by decide) rfl ob_200 rfl (by decide) (Nat.le_of_ble_eq_true rfl) (t_X12_placed hc_3) ?_
  refine pf_X12_87 rfl (by decide +kernel) ob_200 ?_
  obtain ⟨M_5, eM_5, h⟩ := bM_elim h
  refine Fr_mem eM_5 ?_
  refine Fr_aload_n (q := 0) (i := 0) 0 (by decide +kernel) rfl rfl ?_
  refine gf_X12_87 rfl (by decide +kernel) ob_200 ?_
  refine Fr_if_le (off := 9) 28 (by decide +kernel) (by decide) (fun hc => ?_) (fun hc => ?_)
  · have h := iT hc h
    refine Fr_aload_n (q := 0) (i := 0) 0 (by decide +kernel) rfl rfl ?_
    refine gf_X12_20 rfl (by decide +kernel) ob_200 ?_
    refine Fr_bipush (i := 60) (v := 60) (by decide +kernel) (by decide) ?_
    refine Fr_iload_n (q := 1) (i := 1) 1 (by decide +kernel) rfl rfl ?_
    refine Fr_imul (by decide +kernel) ?_
    refine Fr_iload_n (q := 2) (i := 2) 2 (by decide +kernel) rfl rfl ?_
    refine Fr_iadd (by decide +kernel) ?_
    obtain ⟨hi_6, h⟩ := ck_elim h
    refine Fr_lald (by decide +kernel) ob_203 (vp_of ln_203 hi_6) ?_
    obtain rfl := Option.some.inj h
    exact Fr_lret (by decide +kernel) rfl ⟨rfl, rfl⟩
  · have h := iF hc h
    refine Fr_ldc2 (idx := 115) (v := (-1)) (by decide +kernel) ll_X12_115 ?_
    refine Fr_goto (off := 14) 39 (by decide +kernel) (by decide) ?_
    obtain rfl := Option.some.inj h
    exact Fr_lret (by decide +kernel) rfl ⟨rfl, rfl⟩
def f_X12_pour_b182 (N : Nat) (k158 : Int32 × Int32 × Int32 × Int32 × Int32 × Int32 × Int32 → Mem → Option (Bool × Mem)) (v1 : Int32) (v2 : Int32) (v3 : Int32) (v4 : Int32) (v5 : Int32) (v6 : Int32) (v7 : Int32) (s0 : Int32) (M : Mem) : Option (Bool × Mem) :=
  ck (((60 * v1) + v2) + s0) 240 (
  ck (((60 * v3) + v4) + s0) 240 (
  bM (uL M 203 (tn (((60 * v3) + v4) + s0)) (M.2 203 (tn (((60 * v1) + v2) + s0)))) fun M_32 =>
  k158 (v1, v2, v3, v4, v5, v6, (v7 + 1)) M_32))
set_option maxRecDepth 20000 in
theorem t_X12_pour_b182 {N : Nat} {q : Bool × Mem} {k158 : Int32 × Int32 × Int32 × Int32 × Int32 × Int32 × Int32 → Mem → Option (Bool × Mem)} (hk158 : ∀ (a : Int32 × Int32 × Int32 × Int32 × Int32 × Int32 × Int32) (M : Mem), k158 a M = some q → Fr 200 21 1 m_X12_pour 158 [(0, .ref 200), (1, .int a.1), (2, .int a.2.1), (3, .int a.2.2.1), (4, .int a.2.2.2.1), (5, .int a.2.2.2.2.1), (6, .int a.2.2.2.2.2.1), (7, .int a.2.2.2.2.2.2)] [] M (QB q)) {v1 : Int32} {v2 : Int32} {v3 : Int32} {v4 : Int32} {v5 : Int32} {v6 : Int32} {v7 : Int32} {s0 : Int32} {M : Mem} (h : f_X12_pour_b182 N k158 v1 v2 v3 v4 v5 v6 v7 s0 M = some q) : Fr 200 21 1 m_X12_pour 182 [(0, .ref 200), (1, .int v1), (2, .int v2), (3, .int v3), (4, .int v4), (5, .int v5), (6, .int v6), (7, .int v7)] [.int s0] M (QB q) := by
  unfold f_X12_pour_b182 at h
  refine Fr_istore (i := 8) (lv' := [(8, .int s0), (0, .ref 200), (1, .int v1), (2, .int v2), (3, .int v3), (4, .int v4), (5, .int v5), (6, .int v6), (7, .int v7)]) (by decide +kernel) (by decide) rfl ?_
  refine Fr_aload_n (q := 0) (i := 0) 1 (by decide +kernel) rfl rfl ?_
  refine gf_X12_20 rfl (by decide +kernel) ob_200 ?_
  refine Fr_bipush (i := 60) (v := 60) (by decide +kernel) (by decide) ?_
  refine Fr_iload_n (q := 3) (i := 3) 4 (by decide +kernel) rfl rfl ?_
  refine Fr_imul (by decide +kernel) ?_
  refine Fr_iload (i := 4) 5 (by decide +kernel) rfl ?_
  refine Fr_iadd (by decide +kernel) ?_
  refine Fr_iload (i := 8) 0 (by decide +kernel) rfl ?_
  refine Fr_iadd (by decide +kernel) ?_
  refine Fr_aload_n (q := 0) (i := 0) 1 (by decide +kernel) rfl rfl ?_
  refine gf_X12_20 rfl (by decide +kernel) ob_200 ?_
  refine Fr_bipush (i := 60) (v := 60) (by decide +kernel) (by decide) ?_
  refine Fr_iload_n (q := 1) (i := 1) 2 (by decide +kernel) rfl rfl ?_
  refine Fr_imul (by decide +kernel) ?_
  refine Fr_iload_n (q := 2) (i := 2) 3 (by decide +kernel) rfl rfl ?_
  refine Fr_iadd (by decide +kernel) ?_
  refine Fr_iload (i := 8) 0 (by decide +kernel) rfl ?_
  refine Fr_iadd (by decide +kernel) ?_
  obtain ⟨hi_30, h⟩ := ck_elim h
  refine Fr_lald (by decide +kernel) ob_203 (vp_of ln_203 hi_30) ?_
  obtain ⟨hi_31, h⟩ := ck_elim h
  refine Fr_last (by decide +kernel) ob_203 (vp_of ln_203 hi_31) ?_
  obtain ⟨M_32, eM_32, h⟩ := bM_elim h
  refine Fr_mem eM_32 ?_
  refine Fr_iinc (i := 7) (j := 1) (v := (v7 + 1)) (lv' := [(7, .int (v7 + 1)), (8, .int s0), (0, .ref 200), (1, .int v1), (2, .int v2), (3, .int v3), (4, .int v4), (5, .int v5), (6, .int v6)]) 8 (by decide +kernel) rfl rfl (by decide) rfl ?_
  refine Fr_goto (off := (-58)) 158 (by decide +kernel) (by decide) ?_
  refine Fr_loc [2, 3, 4, 5, 6, 7, 8, 0] rfl ?_
  exact hk158 (v1, v2, v3, v4, v5, v6, (v7 + 1)) M_32 h
def f_X12_pour_h158 (N : Nat) (k158 : Int32 × Int32 × Int32 × Int32 × Int32 × Int32 × Int32 → Mem → Option (Bool × Mem)) (v1 : Int32) (v2 : Int32) (v3 : Int32) (v4 : Int32) (v5 : Int32) (v6 : Int32) (v7 : Int32) (M : Mem) : Option (Bool × Mem) :=
  if v5 ≤ v7 then (some (true, M)) else (if v6 = 0 then (f_X12_pour_b182 N k158 v1 v2 v3 v4 v5 v6 v7 v7 M) else (f_X12_pour_b182 N k158 v1 v2 v3 v4 v5 v6 v7 ((v5 - 1) - v7) M))
set_option maxRecDepth 20000 in
theorem t_X12_pour_h158 {N : Nat} {q : Bool × Mem} {k158 : Int32 × Int32 × Int32 × Int32 × Int32 × Int32 × Int32 → Mem → Option (Bool × Mem)} (hk158 : ∀ (a : Int32 × Int32 × Int32 × Int32 × Int32 × Int32 × Int32) (M : Mem), k158 a M = some q → Fr 200 21 1 m_X12_pour 158 [(0, .ref 200), (1, .int a.1), (2, .int a.2.1), (3, .int a.2.2.1), (4, .int a.2.2.2.1), (5, .int a.2.2.2.2.1), (6, .int a.2.2.2.2.2.1), (7, .int a.2.2.2.2.2.2)] [] M (QB q)) {v1 : Int32} {v2 : Int32} {v3 : Int32} {v4 : Int32} {v5 : Int32} {v6 : Int32} {v7 : Int32} {M : Mem} (h : f_X12_pour_h158 N k158 v1 v2 v3 v4 v5 v6 v7 M = some q) : Fr 200 21 1 m_X12_pour 158 [(0, .ref 200), (1, .int v1), (2, .int v2), (3, .int v3), (4, .int v4), (5, .int v5), (6, .int v6), (7, .int v7)] [] M (QB q) := by
  unfold f_X12_pour_h158 at h
  refine Fr_iload (i := 7) 7 (by decide +kernel) rfl ?_
  refine Fr_iload (i := 5) 5 (by decide +kernel) rfl ?_
  refine Fr_icmp_ge (off := 57) 219 (by decide +kernel) (by decide) (fun hc => ?_) (fun hc => ?_)
  · have h := iT hc h
    refine Fr_iconst (i := 1) (v := 1) (by decide +kernel) (by decide) ?_
    obtain rfl := Option.some.inj h
    exact Fr_zret (by decide +kernel) rfl (by decide) ⟨rfl, rfl⟩
  · have h := iF hc h
    refine Fr_iload (i := 6) 6 (by decide +kernel) rfl ?_
    refine Fr_if_eq (off := 13) 180 (by decide +kernel) (by decide) (fun hc => ?_) (fun hc => ?_)
    · have h := iT hc h
      refine Fr_iload (i := 7) 7 (by decide +kernel) rfl ?_
      exact t_X12_pour_b182 hk158 h
    · have h := iF hc h
      refine Fr_iload (i := 5) 5 (by decide +kernel) rfl ?_
      refine Fr_iconst (i := 1) (v := 1) (by decide +kernel) (by decide) ?_
      refine Fr_isub (by decide +kernel) ?_
      refine Fr_iload (i := 7) 7 (by decide +kernel) rfl ?_
      refine Fr_isub (by decide +kernel) ?_
      refine Fr_goto (off := 5) 182 (by decide +kernel) (by decide) ?_
      exact t_X12_pour_b182 hk158 h
def f_X12_pour_b153 (N : Nat) (v1 : Int32) (v2 : Int32) (v3 : Int32) (v4 : Int32) (v5 : Int32) (s0 : Int32) (M : Mem) : Option (Bool × Mem) :=
  lp (fun k a m => f_X12_pour_h158 N k a.1 a.2.1 a.2.2.1 a.2.2.2.1 a.2.2.2.2.1 a.2.2.2.2.2.1 a.2.2.2.2.2.2 m) N (v1, v2, v3, v4, v5, s0, 0) M
set_option maxRecDepth 20000 in
theorem t_X12_pour_b153 {N : Nat} {q : Bool × Mem} {v1 : Int32} {v2 : Int32} {v3 : Int32} {v4 : Int32} {v5 : Int32} {s0 : Int32} {M : Mem} (h : f_X12_pour_b153 N v1 v2 v3 v4 v5 s0 M = some q) : Fr 200 21 1 m_X12_pour 153 [(0, .ref 200), (1, .int v1), (2, .int v2), (3, .int v3), (4, .int v4), (5, .int v5)] [.int s0] M (QB q) := by
  unfold f_X12_pour_b153 at h
  refine Fr_istore (i := 6) (lv' := [(6, .int s0), (0, .ref 200), (1, .int v1), (2, .int v2), (3, .int v3), (4, .int v4), (5, .int v5)]) (by decide +kernel) (by decide) rfl ?_
  refine Fr_iconst (i := 0) (v := 0) (by decide +kernel) (by decide) ?_
  refine Fr_istore (i := 7) (lv' := [(7, .int 0), (6, .int s0), (0, .ref 200), (1, .int v1), (2, .int v2), (3, .int v3), (4, .int v4), (5, .int v5)]) (by decide +kernel) (by decide) rfl ?_
  refine Fr_loc [2, 3, 4, 5, 6, 7, 1, 0] rfl ?_
  exact lp_sound (P := fun a M => Fr 200 21 1 m_X12_pour 158 [(0, .ref 200), (1, .int a.1), (2, .int a.2.1), (3, .int a.2.2.1), (4, .int a.2.2.2.1), (5, .int a.2.2.2.2.1), (6, .int a.2.2.2.2.2.1), (7, .int a.2.2.2.2.2.2)] [] M (QB q)) (fun k hk a m h => t_X12_pour_h158 hk h) N (v1, v2, v3, v4, v5, s0, 0) M h
def f_X12_pour (N : Nat) (x1 : Int32) (x2 : Int32) (x3 : Int32) (x4 : Int32) (x5 : Int32) (M : Mem) : Option (Bool × Mem) :=
  bM (uI M 200 1 0) fun M_1 =>
  bM (uI M_1 200 0 0) fun M_2 =>
  if x1 < 0 then (bi (f_X12_no 1 M_2) fun r_5 M_3 =>
  some (r_5, M_3)) else (if 4 ≤ x1 then (bi (f_X12_no 1 M_2) fun r_8 M_6 =>
  some (r_8, M_6)) else (if x3 < 0 then (bi (f_X12_no 1 M_2) fun r_11 M_9 =>
  some (r_11, M_9)) else (if x3 < 4 then (ck x1 4 (
  if (M_2.1 202 (tn x1)) < 0 then (bi (f_X12_no 3 M_2) fun r_15 M_13 =>
  some (r_15, M_13)) else (ck x3 4 (
  if 0 ≤ (M_2.1 202 (tn x3)) then (ck x1 4 (
  ck x3 4 (
  if (M_2.1 201 (tn x1)) = (M_2.1 201 (tn x3)) then (if 0 ≤ x5 then (if x2 < 0 then (bi (f_X12_no 4 M_2) fun r_21 M_19 =>
  some (r_21, M_19)) else (if x4 < 0 then (bi (f_X12_no 4 M_2) fun r_24 M_22 =>
  some (r_24, M_22)) else (ck x1 4 (
  if 0 < (lg_cmp ((Int32.toInt64 x2) + (Int32.toInt64 x5)) (Int32.toInt64 (M_2.1 202 (tn x1)))) then (bi (f_X12_no 4 M_2) fun r_28 M_26 =>
  some (r_28, M_26)) else (ck x3 4 (
  if (lg_cmp ((Int32.toInt64 x4) + (Int32.toInt64 x5)) (Int32.toInt64 (M_2.1 202 (tn x3)))) ≤ 0 then (if x4 ≤ x2 then (f_X12_pour_b153 N x1 x2 x3 x4 x5 0 M_2) else (f_X12_pour_b153 N x1 x2 x3 x4 x5 1 M_2)) else (bi (f_X12_no 4 M_2) fun r_35 M_33 =>
  some (r_35, M_33)))))))) else (bi (f_X12_no 6 M_2) fun r_38 M_36 =>
  some (r_38, M_36))) else (bi (f_X12_no 11 M_2) fun r_41 M_39 =>
  some (r_41, M_39))))) else (bi (f_X12_no 3 M_2) fun r_44 M_42 =>
  some (r_44, M_42)))))) else (bi (f_X12_no 1 M_2) fun r_47 M_45 =>
  some (r_47, M_45)))))
set_option maxRecDepth 20000 in
theorem t_X12_pour {N : Nat} {x1 : Int32} {x2 : Int32} {x3 : Int32} {x4 : Int32} {x5 : Int32} {M : Mem} {q : Bool × Mem} (h : f_X12_pour N x1 x2 x3 x4 x5 M = some q) : Ev 200 21 1 m_X12_pour [.ref 200, .int x1, .int x2, .int x3, .int x4, .int x5] M (QB q) := by
  refine Ev_of_Fr (by decide +kernel) (Nat.le_of_ble_eq_true rfl) ?_
  show Fr 200 21 1 m_X12_pour 0 [(0, .ref 200), (1, .int x1), (2, .int x2), (3, .int x3), (4, .int x4), (5, .int x5)] [] M (QB q)
  unfold f_X12_pour at h
  refine Fr_aload_n (q := 0) (i := 0) 0 (by decide +kernel) rfl rfl ?_
  refine Fr_iconst (i := 0) (v := 0) (by decide +kernel) (by decide) ?_
  refine pf_X12_84 rfl (by decide +kernel) ob_200 ?_
  obtain ⟨M_1, eM_1, h⟩ := bM_elim h
  refine Fr_mem eM_1 ?_
  refine Fr_aload_n (q := 0) (i := 0) 0 (by decide +kernel) rfl rfl ?_
  refine Fr_iconst (i := 0) (v := 0) (by decide +kernel) (by decide) ?_
  refine pf_X12_87 rfl (by decide +kernel) ob_200 ?_
  obtain ⟨M_2, eM_2, h⟩ := bM_elim h
  refine Fr_mem eM_2 ?_
  refine Fr_iload_n (q := 1) (i := 1) 1 (by decide +kernel) rfl rfl ?_
  refine Fr_if_lt (off := 17) 28 (by decide +kernel) (by decide) (fun hc => ?_) (fun hc => ?_)
  · have h := iT hc h
    refine Fr_aload_n (q := 0) (i := 0) 0 (by decide +kernel) rfl rfl ?_
    refine Fr_iconst (i := 1) (v := 1) (by decide +kernel) (by decide) ?_
    obtain ⟨r_5, M_3, hc_4, h⟩ := bi_elim h
    refine Fr_cVb (ν := m_X12_no) (As := [.int 1]) (st := []) (rc := 200) (ci := 12) (d' := 0) (by decide +kernel) ml_X12_99 cv_X12_no rfl (by decide) rfl ob_200 rfl (by decide) (Nat.le_of_ble_eq_true rfl) (t_X12_no hc_4) ?_
    obtain rfl := Option.some.inj h
    exact Fr_zret (by decide +kernel) rfl (nz_b r_5) ⟨rfl, rfl⟩
  · have h := iF hc h
    refine Fr_iload_n (q := 1) (i := 1) 1 (by decide +kernel) rfl rfl ?_
    refine Fr_iconst (i := 4) (v := 4) (by decide +kernel) (by decide) ?_
    refine Fr_icmp_ge (off := 12) 28 (by decide +kernel) (by decide) (fun hc => ?_) (fun hc => ?_)
    · have h := iT hc h
      refine Fr_aload_n (q := 0) (i := 0) 0 (by decide +kernel) rfl rfl ?_
      refine Fr_iconst (i := 1) (v := 1) (by decide +kernel) (by decide) ?_
      obtain ⟨r_8, M_6, hc_7, h⟩ := bi_elim h
      refine Fr_cVb (ν := m_X12_no) (As := [.int 1]) (st := []) (rc := 200) (ci := 12) (d' := 0) (by decide +kernel) ml_X12_99 cv_X12_no rfl (by decide) rfl ob_200 rfl (by decide) (Nat.le_of_ble_eq_true rfl) (t_X12_no hc_7) ?_
      obtain rfl := Option.some.inj h
      exact Fr_zret (by decide +kernel) rfl (nz_b r_8) ⟨rfl, rfl⟩
    · have h := iF hc h
      refine Fr_iload_n (q := 3) (i := 3) 3 (by decide +kernel) rfl rfl ?_
      refine Fr_if_lt (off := 8) 28 (by decide +kernel) (by decide) (fun hc => ?_) (fun hc => ?_)
      · have h := iT hc h
        refine Fr_aload_n (q := 0) (i := 0) 0 (by decide +kernel) rfl rfl ?_
        refine Fr_iconst (i := 1) (v := 1) (by decide +kernel) (by decide) ?_
        obtain ⟨r_11, M_9, hc_10, h⟩ := bi_elim h
        refine Fr_cVb (ν := m_X12_no) (As := [.int 1]) (st := []) (rc := 200) (ci := 12) (d' := 0) (by decide +kernel) ml_X12_99 cv_X12_no rfl (by decide) rfl ob_200 rfl (by decide) (Nat.le_of_ble_eq_true rfl) (t_X12_no hc_10) ?_
        obtain rfl := Option.some.inj h
        exact Fr_zret (by decide +kernel) rfl (nz_b r_11) ⟨rfl, rfl⟩
      · have h := iF hc h
        refine Fr_iload_n (q := 3) (i := 3) 3 (by decide +kernel) rfl rfl ?_
        refine Fr_iconst (i := 4) (v := 4) (by decide +kernel) (by decide) ?_
        refine Fr_icmp_lt (off := 9) 34 (by decide +kernel) (by decide) (fun hc => ?_) (fun hc => ?_)
        · have h := iT hc h
          refine Fr_aload_n (q := 0) (i := 0) 0 (by decide +kernel) rfl rfl ?_
          refine gf_X12_17 rfl (by decide +kernel) ob_200 ?_
          refine Fr_iload_n (q := 1) (i := 1) 1 (by decide +kernel) rfl rfl ?_
          obtain ⟨hi_12, h⟩ := ck_elim h
          refine Fr_iald (by decide +kernel) ob_202 (vp_of ln_202 hi_12) ?_
          refine Fr_if_lt (off := 12) 52 (by decide +kernel) (by decide) (fun hc => ?_) (fun hc => ?_)
          · have h := iT hc h
            refine Fr_aload_n (q := 0) (i := 0) 0 (by decide +kernel) rfl rfl ?_
            refine Fr_iconst (i := 3) (v := 3) (by decide +kernel) (by decide) ?_
            obtain ⟨r_15, M_13, hc_14, h⟩ := bi_elim h
            refine Fr_cVb (ν := m_X12_no) (As := [.int 3]) (st := []) (rc := 200) (ci := 12) (d' := 0) (by decide +kernel) ml_X12_99 cv_X12_no rfl (by decide) rfl ob_200 rfl (by decide) (Nat.le_of_ble_eq_true rfl) (t_X12_no hc_14) ?_
            obtain rfl := Option.some.inj h
            exact Fr_zret (by decide +kernel) rfl (nz_b r_15) ⟨rfl, rfl⟩
          · have h := iF hc h
            refine Fr_aload_n (q := 0) (i := 0) 0 (by decide +kernel) rfl rfl ?_
            refine gf_X12_17 rfl (by decide +kernel) ob_200 ?_
            refine Fr_iload_n (q := 3) (i := 3) 3 (by decide +kernel) rfl rfl ?_
            obtain ⟨hi_16, h⟩ := ck_elim h
            refine Fr_iald (by decide +kernel) ob_202 (vp_of ln_202 hi_16) ?_
            refine Fr_if_ge (off := 9) 58 (by decide +kernel) (by decide) (fun hc => ?_) (fun hc => ?_)
            · have h := iT hc h
              refine Fr_aload_n (q := 0) (i := 0) 0 (by decide +kernel) rfl rfl ?_
              refine gf_X12_13 rfl (by decide +kernel) ob_200 ?_
              refine Fr_iload_n (q := 1) (i := 1) 1 (by decide +kernel) rfl rfl ?_
              obtain ⟨hi_17, h⟩ := ck_elim h
              refine Fr_iald (by decide +kernel) ob_201 (vp_of ln_201 hi_17) ?_
              refine Fr_aload_n (q := 0) (i := 0) 0 (by decide +kernel) rfl rfl ?_
              refine gf_X12_13 rfl (by decide +kernel) ob_200 ?_
              refine Fr_iload_n (q := 3) (i := 3) 3 (by decide +kernel) rfl rfl ?_
              obtain ⟨hi_18, h⟩ := ck_elim h
              refine Fr_iald (by decide +kernel) ob_201 (vp_of ln_201 hi_18) ?_
              refine Fr_icmp_eq (off := 10) 80 (by decide +kernel) (by decide) (fun hc => ?_) (fun hc => ?_)
              · have h := iT hc h
                refine Fr_iload (i := 5) 5 (by decide +kernel) rfl ?_
                refine Fr_if_ge (off := 10) 92 (by decide +kernel) (by decide) (fun hc => ?_) (fun hc => ?_)
                · have h := iT hc h
                  refine Fr_iload_n (q := 2) (i := 2) 2 (by decide +kernel) rfl rfl ?_
                  refine Fr_if_lt (off := 43) 136 (by decide +kernel) (by decide) (fun hc => ?_) (fun hc => ?_)
                  · have h := iT hc h
                    refine Fr_aload_n (q := 0) (i := 0) 0 (by decide +kernel) rfl rfl ?_
                    refine Fr_iconst (i := 4) (v := 4) (by decide +kernel) (by decide) ?_
                    obtain ⟨r_21, M_19, hc_20, h⟩ := bi_elim h
                    refine Fr_cVb (ν := m_X12_no) (As := [.int 4]) (st := []) (rc := 200) (ci := 12) (d' := 0) (by decide +kernel) ml_X12_99 cv_X12_no rfl (by decide) rfl ob_200 rfl (by decide) (Nat.le_of_ble_eq_true rfl) (t_X12_no hc_20) ?_
                    obtain rfl := Option.some.inj h
                    exact Fr_zret (by decide +kernel) rfl (nz_b r_21) ⟨rfl, rfl⟩
                  · have h := iF hc h
                    refine Fr_iload (i := 4) 4 (by decide +kernel) rfl ?_
                    refine Fr_if_lt (off := 38) 136 (by decide +kernel) (by decide) (fun hc => ?_) (fun hc => ?_)
                    · have h := iT hc h
                      refine Fr_aload_n (q := 0) (i := 0) 0 (by decide +kernel) rfl rfl ?_
                      refine Fr_iconst (i := 4) (v := 4) (by decide +kernel) (by decide) ?_
                      obtain ⟨r_24, M_22, hc_23, h⟩ := bi_elim h
                      refine Fr_cVb (ν := m_X12_no) (As := [.int 4]) (st := []) (rc := 200) (ci := 12) (d' := 0) (by decide +kernel) ml_X12_99 cv_X12_no rfl (by decide) rfl ob_200 rfl (by decide) (Nat.le_of_ble_eq_true rfl) (t_X12_no hc_23) ?_
                      obtain rfl := Option.some.inj h
                      exact Fr_zret (by decide +kernel) rfl (nz_b r_24) ⟨rfl, rfl⟩
                    · have h := iF hc h
                      refine Fr_iload_n (q := 2) (i := 2) 2 (by decide +kernel) rfl rfl ?_
                      refine Fr_i2l (by decide +kernel) ?_
                      refine Fr_iload (i := 5) 5 (by decide +kernel) rfl ?_
                      refine Fr_i2l (by decide +kernel) ?_
                      refine Fr_ladd (by decide +kernel) ?_
                      refine Fr_aload_n (q := 0) (i := 0) 0 (by decide +kernel) rfl rfl ?_
                      refine gf_X12_17 rfl (by decide +kernel) ob_200 ?_
                      refine Fr_iload_n (q := 1) (i := 1) 1 (by decide +kernel) rfl rfl ?_
                      obtain ⟨hi_25, h⟩ := ck_elim h
                      refine Fr_iald (by decide +kernel) ob_202 (vp_of ln_202 hi_25) ?_
                      refine Fr_i2l (by decide +kernel) ?_
                      refine Fr_lcmp (by decide +kernel) ?_
                      refine Fr_if_gt (off := 21) 136 (by decide +kernel) (by decide) (fun hc => ?_) (fun hc => ?_)
                      · have h := iT hc h
                        refine Fr_aload_n (q := 0) (i := 0) 0 (by decide +kernel) rfl rfl ?_
                        refine Fr_iconst (i := 4) (v := 4) (by decide +kernel) (by decide) ?_
                        obtain ⟨r_28, M_26, hc_27, h⟩ := bi_elim h
                        refine Fr_cVb (ν := m_X12_no) (As := [.int 4]) (st := []) (rc := 200) (ci := 12) (d' := 0) (by decide +kernel) ml_X12_99 cv_X12_no rfl (by decide) rfl ob_200 rfl (by decide) (Nat.le_of_ble_eq_true rfl) (t_X12_no hc_27) ?_
                        obtain rfl := Option.some.inj h
                        exact Fr_zret (by decide +kernel) rfl (nz_b r_28) ⟨rfl, rfl⟩
                      · have h := iF hc h
                        refine Fr_iload (i := 4) 4 (by decide +kernel) rfl ?_
                        refine Fr_i2l (by decide +kernel) ?_
                        refine Fr_iload (i := 5) 5 (by decide +kernel) rfl ?_
                        refine Fr_i2l (by decide +kernel) ?_
                        refine Fr_ladd (by decide +kernel) ?_
                        refine Fr_aload_n (q := 0) (i := 0) 0 (by decide +kernel) rfl rfl ?_
                        refine gf_X12_17 rfl (by decide +kernel) ob_200 ?_
                        refine Fr_iload_n (q := 3) (i := 3) 3 (by decide +kernel) rfl rfl ?_
                        obtain ⟨hi_29, h⟩ := ck_elim h
                        refine Fr_iald (by decide +kernel) ob_202 (vp_of ln_202 hi_29) ?_
                        refine Fr_i2l (by decide +kernel) ?_
                        refine Fr_lcmp (by decide +kernel) ?_
                        refine Fr_if_le (off := 9) 142 (by decide +kernel) (by decide) (fun hc => ?_) (fun hc => ?_)
                        · have h := iT hc h
                          refine Fr_iload_n (q := 2) (i := 2) 2 (by decide +kernel) rfl rfl ?_
                          refine Fr_iload (i := 4) 4 (by decide +kernel) rfl ?_
                          refine Fr_icmp_ge (off := 7) 152 (by decide +kernel) (by decide) (fun hc => ?_) (fun hc => ?_)
                          · have h := iT hc h
                            refine Fr_iconst (i := 0) (v := 0) (by decide +kernel) (by decide) ?_
                            exact t_X12_pour_b153 h
                          · have h := iF hc h
                            refine Fr_iconst (i := 1) (v := 1) (by decide +kernel) (by decide) ?_
                            refine Fr_goto (off := 4) 153 (by decide +kernel) (by decide) ?_
                            exact t_X12_pour_b153 h
                        · have h := iF hc h
                          refine Fr_aload_n (q := 0) (i := 0) 0 (by decide +kernel) rfl rfl ?_
                          refine Fr_iconst (i := 4) (v := 4) (by decide +kernel) (by decide) ?_
                          obtain ⟨r_35, M_33, hc_34, h⟩ := bi_elim h
                          refine Fr_cVb (ν := m_X12_no) (As := [.int 4]) (st := []) (rc := 200) (ci := 12) (d' := 0) (by decide +kernel) ml_X12_99 cv_X12_no rfl (by decide) rfl ob_200 rfl (by decide) (Nat.le_of_ble_eq_true rfl) (t_X12_no hc_34) ?_
                          obtain rfl := Option.some.inj h
                          exact Fr_zret (by decide +kernel) rfl (nz_b r_35) ⟨rfl, rfl⟩
                · have h := iF hc h
                  refine Fr_aload_n (q := 0) (i := 0) 0 (by decide +kernel) rfl rfl ?_
                  refine Fr_bipush (i := 6) (v := 6) (by decide +kernel) (by decide) ?_
                  obtain ⟨r_38, M_36, hc_37, h⟩ := bi_elim h
                  refine Fr_cVb (ν := m_X12_no) (As := [.int 6]) (st := []) (rc := 200) (ci := 12) (d' := 0) (by decide +kernel) ml_X12_99 cv_X12_no rfl (by decide) rfl ob_200 rfl (by decide) (Nat.le_of_ble_eq_true rfl) (t_X12_no hc_37) ?_
                  obtain rfl := Option.some.inj h
                  exact Fr_zret (by decide +kernel) rfl (nz_b r_38) ⟨rfl, rfl⟩
              · have h := iF hc h
                refine Fr_aload_n (q := 0) (i := 0) 0 (by decide +kernel) rfl rfl ?_
                refine Fr_bipush (i := 11) (v := 11) (by decide +kernel) (by decide) ?_
                obtain ⟨r_41, M_39, hc_40, h⟩ := bi_elim h
                refine Fr_cVb (ν := m_X12_no) (As := [.int 11]) (st := []) (rc := 200) (ci := 12) (d' := 0) (by decide +kernel) ml_X12_99 cv_X12_no rfl (by decide) rfl ob_200 rfl (by decide) (Nat.le_of_ble_eq_true rfl) (t_X12_no hc_40) ?_
                obtain rfl := Option.some.inj h
                exact Fr_zret (by decide +kernel) rfl (nz_b r_41) ⟨rfl, rfl⟩
            · have h := iF hc h
              refine Fr_aload_n (q := 0) (i := 0) 0 (by decide +kernel) rfl rfl ?_
              refine Fr_iconst (i := 3) (v := 3) (by decide +kernel) (by decide) ?_
              obtain ⟨r_44, M_42, hc_43, h⟩ := bi_elim h
              refine Fr_cVb (ν := m_X12_no) (As := [.int 3]) (st := []) (rc := 200) (ci := 12) (d' := 0) (by decide +kernel) ml_X12_99 cv_X12_no rfl (by decide) rfl ob_200 rfl (by decide) (Nat.le_of_ble_eq_true rfl) (t_X12_no hc_43) ?_
              obtain rfl := Option.some.inj h
              exact Fr_zret (by decide +kernel) rfl (nz_b r_44) ⟨rfl, rfl⟩
        · have h := iF hc h
          refine Fr_aload_n (q := 0) (i := 0) 0 (by decide +kernel) rfl rfl ?_
          refine Fr_iconst (i := 1) (v := 1) (by decide +kernel) (by decide) ?_
          obtain ⟨r_47, M_45, hc_46, h⟩ := bi_elim h
          refine Fr_cVb (ν := m_X12_no) (As := [.int 1]) (st := []) (rc := 200) (ci := 12) (d' := 0) (by decide +kernel) ml_X12_99 cv_X12_no rfl (by decide) rfl ob_200 rfl (by decide) (Nat.le_of_ble_eq_true rfl) (t_X12_no hc_46) ?_
          obtain rfl := Option.some.inj h
          exact Fr_zret (by decide +kernel) rfl (nz_b r_47) ⟨rfl, rfl⟩
def f_X12_numberOf (x1 : Int32) (x2 : Int32) (M : Mem) : Option (Int64 × Mem) :=
  ck ((60 * x1) + x2) 240 (
  some ((M.2 203 (tn ((60 * x1) + x2))), M))
set_option maxRecDepth 20000 in
theorem t_X12_numberOf {x1 : Int32} {x2 : Int32} {M : Mem} {q : Int64 × Mem} (h : f_X12_numberOf x1 x2 M = some q) : Ev 200 21 0 m_X12_numberOf [.ref 200, .int x1, .int x2] M (QJ q) := by
  refine Ev_of_Fr (by decide +kernel) (Nat.le_of_ble_eq_true rfl) ?_
  show Fr 200 21 0 m_X12_numberOf 0 [(0, .ref 200), (1, .int x1), (2, .int x2)] [] M (QJ q)
  unfold f_X12_numberOf at h
  refine Fr_aload_n (q := 0) (i := 0) 0 (by decide +kernel) rfl rfl ?_
  refine gf_X12_20 rfl (by decide +kernel) ob_200 ?_
  refine Fr_bipush (i := 60) (v := 60) (by decide +kernel) (by decide) ?_
  refine Fr_iload_n (q := 1) (i := 1) 1 (by decide +kernel) rfl rfl ?_
  refine Fr_imul (by decide +kernel) ?_
  refine Fr_iload_n (q := 2) (i := 2) 2 (by decide +kernel) rfl rfl ?_
  refine Fr_iadd (by decide +kernel) ?_
  obtain ⟨hi_1, h⟩ := ck_elim h
  refine Fr_lald (by decide +kernel) ob_203 (vp_of ln_203 hi_1) ?_
  obtain rfl := Option.some.inj h
  exact Fr_lret (by decide +kernel) rfl ⟨rfl, rfl⟩
def f_X12_isTray (x1 : Int32) (M : Mem) : Option (Bool × Mem) :=
  bi (f_X12_isIn (Int32.toInt64 x1) 0 3 M) fun r_3 M_1 =>
  some (r_3, M_1)
set_option maxRecDepth 20000 in
theorem t_X12_isTray {x1 : Int32} {M : Mem} {q : Bool × Mem} (h : f_X12_isTray x1 M = some q) : Ev 200 21 1 m_X12_isTray [.ref 200, .int x1] M (QB q) := by
  refine Ev_of_Fr (by decide +kernel) (Nat.le_of_ble_eq_true rfl) ?_
  show Fr 200 21 1 m_X12_isTray 0 [(0, .ref 200), (1, .int x1)] [] M (QB q)
  unfold f_X12_isTray at h
  refine Fr_iload_n (q := 1) (i := 1) 1 (by decide +kernel) rfl rfl ?_
  refine Fr_i2l (by decide +kernel) ?_
  refine Fr_lconst (i := 0) (v := 0) (by decide +kernel) (by decide) ?_
  refine Fr_ldc2 (idx := 117) (v := 3) (by decide +kernel) ll_X12_117 ?_
  obtain ⟨r_3, M_1, hc_2, h⟩ := bi_elim h
  refine Fr_cSb (ν := m_X12_isIn) (As := [.long (Int32.toInt64 x1), .long 0, .long 3]) (st := []) (d' := 0) (by decide +kernel) ml_X12_119 cs_X12_isIn rfl (by decide) (Nat.le_of_ble_eq_true rfl) (t_X12_isIn hc_2) ?_
  obtain rfl := Option.some.inj h
  exact Fr_zret (by decide +kernel) rfl (nz_b r_3) ⟨rfl, rfl⟩
def f_X12_has (x0 : Int32) (x1 : Int32) (M : Mem) : Option (Bool × Mem) :=
  if ((x0 >>> (x1 &&& 31)) &&& 1) = 1 then (some (true, M)) else (some (false, M))
set_option maxRecDepth 20000 in
theorem t_X12_has {x0 : Int32} {x1 : Int32} {M : Mem} {q : Bool × Mem} (h : f_X12_has x0 x1 M = some q) : Ev 200 21 0 m_X12_has [.int x0, .int x1] M (QB q) := by
  refine Ev_of_Fr (by decide +kernel) (Nat.le_of_ble_eq_true rfl) ?_
  show Fr 200 21 0 m_X12_has 0 [(0, .int x0), (1, .int x1)] [] M (QB q)
  unfold f_X12_has at h
  refine Fr_iload_n (q := 0) (i := 0) 0 (by decide +kernel) rfl rfl ?_
  refine Fr_iload_n (q := 1) (i := 1) 1 (by decide +kernel) rfl rfl ?_
  refine Fr_ishr (by decide +kernel) ?_
  refine Fr_iconst (i := 1) (v := 1) (by decide +kernel) (by decide) ?_
  refine Fr_iand (by decide +kernel) ?_
  refine Fr_iconst (i := 1) (v := 1) (by decide +kernel) (by decide) ?_
  refine Fr_icmp_ne (off := 7) 13 (by decide +kernel) (by decide) (fun hc => ?_) (fun hc => ?_)
  · have h := iF hc h
    refine Fr_iconst (i := 0) (v := 0) (by decide +kernel) (by decide) ?_
    obtain rfl := Option.some.inj h
    exact Fr_zret (by decide +kernel) rfl (by decide) ⟨rfl, rfl⟩
  · have h := iT hc h
    refine Fr_iconst (i := 1) (v := 1) (by decide +kernel) (by decide) ?_
    refine Fr_goto (off := 4) 14 (by decide +kernel) (by decide) ?_
    obtain rfl := Option.some.inj h
    exact Fr_zret (by decide +kernel) rfl (by decide) ⟨rfl, rfl⟩
def f_X12_sizeOf_b24 (N : Nat) (k4 : Int32 × Int32 × Int32 → Mem → Option (Int32 × Mem)) (v0 : Int32) (v2 : Int32) (s0 : Int32) (s1 : Int32) (M : Mem) : Option (Int32 × Mem) :=
  k4 (v0, (s1 + s0), (v2 + 1)) M
set_option maxRecDepth 20000 in
theorem t_X12_sizeOf_b24 {N : Nat} {q : Int32 × Mem} {k4 : Int32 × Int32 × Int32 → Mem → Option (Int32 × Mem)} (hk4 : ∀ (a : Int32 × Int32 × Int32) (M : Mem), k4 a M = some q → Fr 200 21 1 m_X12_sizeOf 4 [(0, .int a.1), (1, .int a.2.1), (2, .int a.2.2)] [] M (QI q)) {v0 : Int32} {v2 : Int32} {s0 : Int32} {s1 : Int32} {M : Mem} (h : f_X12_sizeOf_b24 N k4 v0 v2 s0 s1 M = some q) : Fr 200 21 1 m_X12_sizeOf 24 [(0, .int v0), (2, .int v2)] [.int s0, .int s1] M (QI q) := by
  unfold f_X12_sizeOf_b24 at h
  refine Fr_iadd (by decide +kernel) ?_
  refine Fr_istore_n (q := 1) (i := 1) (lv' := [(1, .int (s1 + s0)), (0, .int v0), (2, .int v2)]) (by decide +kernel) rfl (by decide) rfl ?_
  refine Fr_iinc (i := 2) (j := 1) (v := (v2 + 1)) (lv' := [(2, .int (v2 + 1)), (1, .int (s1 + s0)), (0, .int v0)]) 2 (by decide +kernel) rfl rfl (by decide) rfl ?_
  refine Fr_goto (off := (-25)) 4 (by decide +kernel) (by decide) ?_
  refine Fr_loc [2, 1, 0] rfl ?_
  exact hk4 (v0, (s1 + s0), (v2 + 1)) M h
def f_X12_sizeOf_h4 (N : Nat) (k4 : Int32 × Int32 × Int32 → Mem → Option (Int32 × Mem)) (v0 : Int32) (v1 : Int32) (v2 : Int32) (M : Mem) : Option (Int32 × Mem) :=
  if 6 ≤ v2 then (some (v1, M)) else (bi (f_X12_has v0 v2 M) fun r_3 M_1 =>
  if (b2i r_3) = 0 then (f_X12_sizeOf_b24 N k4 v0 v2 0 v1 M_1) else (f_X12_sizeOf_b24 N k4 v0 v2 1 v1 M_1))
set_option maxRecDepth 20000 in
theorem t_X12_sizeOf_h4 {N : Nat} {q : Int32 × Mem} {k4 : Int32 × Int32 × Int32 → Mem → Option (Int32 × Mem)} (hk4 : ∀ (a : Int32 × Int32 × Int32) (M : Mem), k4 a M = some q → Fr 200 21 1 m_X12_sizeOf 4 [(0, .int a.1), (1, .int a.2.1), (2, .int a.2.2)] [] M (QI q)) {v0 : Int32} {v1 : Int32} {v2 : Int32} {M : Mem} (h : f_X12_sizeOf_h4 N k4 v0 v1 v2 M = some q) : Fr 200 21 1 m_X12_sizeOf 4 [(0, .int v0), (1, .int v1), (2, .int v2)] [] M (QI q) := by
  unfold f_X12_sizeOf_h4 at h
  refine Fr_iload_n (q := 2) (i := 2) 2 (by decide +kernel) rfl rfl ?_
  refine Fr_bipush (i := 6) (v := 6) (by decide +kernel) (by decide) ?_
  refine Fr_icmp_ge (off := 25) 32 (by decide +kernel) (by decide) (fun hc => ?_) (fun hc => ?_)
  · have h := iT hc h
    refine Fr_iload_n (q := 1) (i := 1) 1 (by decide +kernel) rfl rfl ?_
    obtain rfl := Option.some.inj h
    exact Fr_iret (by decide +kernel) rfl ⟨rfl, rfl⟩
  · have h := iF hc h
    refine Fr_iload_n (q := 1) (i := 1) 1 (by decide +kernel) rfl rfl ?_
    refine Fr_iload_n (q := 0) (i := 0) 0 (by decide +kernel) rfl rfl ?_
    refine Fr_iload_n (q := 2) (i := 2) 2 (by decide +kernel) rfl rfl ?_
    obtain ⟨r_3, M_1, hc_2, h⟩ := bi_elim h
    refine Fr_cSb (ν := m_X12_has) (As := [.int v0, .int v2]) (st := [.int v1]) (d' := 0) (by decide +kernel) ml_X12_123 cs_X12_has rfl (by decide) (Nat.le_of_ble_eq_true rfl) (t_X12_has hc_2) ?_
    refine Fr_if_eq (off := 7) 23 (by decide +kernel) (by decide) (fun hc => ?_) (fun hc => ?_)
    · have h := iT hc h
      refine Fr_iconst (i := 0) (v := 0) (by decide +kernel) (by decide) ?_
      refine Fr_loc [0, 2] rfl ?_
      exact t_X12_sizeOf_b24 hk4 h
    · have h := iF hc h
      refine Fr_iconst (i := 1) (v := 1) (by decide +kernel) (by decide) ?_
      refine Fr_goto (off := 4) 24 (by decide +kernel) (by decide) ?_
      refine Fr_loc [0, 2] rfl ?_
      exact t_X12_sizeOf_b24 hk4 h
def f_X12_sizeOf (N : Nat) (x0 : Int32) (M : Mem) : Option (Int32 × Mem) :=
  lp (fun k a m => f_X12_sizeOf_h4 N k a.1 a.2.1 a.2.2 m) N (x0, 0, 0) M
set_option maxRecDepth 20000 in
theorem t_X12_sizeOf {N : Nat} {x0 : Int32} {M : Mem} {q : Int32 × Mem} (h : f_X12_sizeOf N x0 M = some q) : Ev 200 21 1 m_X12_sizeOf [.int x0] M (QI q) := by
  refine Ev_of_Fr (by decide +kernel) (Nat.le_of_ble_eq_true rfl) ?_
  show Fr 200 21 1 m_X12_sizeOf 0 [(0, .int x0)] [] M (QI q)
  unfold f_X12_sizeOf at h
  refine Fr_iconst (i := 0) (v := 0) (by decide +kernel) (by decide) ?_
  refine Fr_istore_n (q := 1) (i := 1) (lv' := [(1, .int 0), (0, .int x0)]) (by decide +kernel) rfl (by decide) rfl ?_
  refine Fr_iconst (i := 0) (v := 0) (by decide +kernel) (by decide) ?_
  refine Fr_istore_n (q := 2) (i := 2) (lv' := [(2, .int 0), (1, .int 0), (0, .int x0)]) (by decide +kernel) rfl (by decide) rfl ?_
  refine Fr_loc [2, 1, 0] rfl ?_
  exact lp_sound (P := fun a M => Fr 200 21 1 m_X12_sizeOf 4 [(0, .int a.1), (1, .int a.2.1), (2, .int a.2.2)] [] M (QI q)) (fun k hk a m h => t_X12_sizeOf_h4 hk h) N (x0, 0, 0) M h
def f_X12_look2 (x1 : Int32) (M : Mem) : Option (Int32 × Mem) :=
  if (M.1 200 9) ≤ x1 then (some (0, M)) else (ck x1 900 (
  some (((M.1 204 (tn x1)) &&& 255), M)))
set_option maxRecDepth 20000 in
theorem t_X12_look2 {x1 : Int32} {M : Mem} {q : Int32 × Mem} (h : f_X12_look2 x1 M = some q) : Ev 200 21 0 m_X12_look2 [.ref 200, .int x1] M (QI q) := by
  refine Ev_of_Fr (by decide +kernel) (Nat.le_of_ble_eq_true rfl) ?_
  show Fr 200 21 0 m_X12_look2 0 [(0, .ref 200), (1, .int x1)] [] M (QI q)
  unfold f_X12_look2 at h
  refine Fr_iload_n (q := 1) (i := 1) 1 (by decide +kernel) rfl rfl ?_
  refine Fr_aload_n (q := 0) (i := 0) 0 (by decide +kernel) rfl rfl ?_
  refine gf_X12_127 rfl (by decide +kernel) ob_200 ?_
  refine Fr_icmp_ge (off := 16) 21 (by decide +kernel) (by decide) (fun hc => ?_) (fun hc => ?_)
  · have h := iT hc h
    refine Fr_iconst (i := 0) (v := 0) (by decide +kernel) (by decide) ?_
    obtain rfl := Option.some.inj h
    exact Fr_iret (by decide +kernel) rfl ⟨rfl, rfl⟩
  · have h := iF hc h
    refine Fr_aload_n (q := 0) (i := 0) 0 (by decide +kernel) rfl rfl ?_
    refine gf_X12_24 rfl (by decide +kernel) ob_200 ?_
    refine Fr_iload_n (q := 1) (i := 1) 1 (by decide +kernel) rfl rfl ?_
    obtain ⟨hi_1, h⟩ := ck_elim h
    refine Fr_bald (by decide +kernel) ob_204 (vp_of ln_204 hi_1) ?_
    refine Fr_sipush (i := 255) (v := 255) (by decide +kernel) (by decide) ?_
    refine Fr_iand (by decide +kernel) ?_
    refine Fr_goto (off := 4) 22 (by decide +kernel) (by decide) ?_
    obtain rfl := Option.some.inj h
    exact Fr_iret (by decide +kernel) rfl ⟨rfl, rfl⟩
def f_X12_isLetter (x0 : Int32) (M : Mem) : Option (Bool × Mem) :=
  if x0 < 97 then (some (false, M)) else (if 122 < x0 then (some (false, M)) else (some (true, M)))
set_option maxRecDepth 20000 in
theorem t_X12_isLetter {x0 : Int32} {M : Mem} {q : Bool × Mem} (h : f_X12_isLetter x0 M = some q) : Ev 200 21 0 m_X12_isLetter [.int x0] M (QB q) := by
  refine Ev_of_Fr (by decide +kernel) (Nat.le_of_ble_eq_true rfl) ?_
  show Fr 200 21 0 m_X12_isLetter 0 [(0, .int x0)] [] M (QB q)
  unfold f_X12_isLetter at h
  refine Fr_iload_n (q := 0) (i := 0) 0 (by decide +kernel) rfl rfl ?_
  refine Fr_bipush (i := 97) (v := 97) (by decide +kernel) (by decide) ?_
  refine Fr_icmp_lt (off := 13) 16 (by decide +kernel) (by decide) (fun hc => ?_) (fun hc => ?_)
  · have h := iT hc h
    refine Fr_iconst (i := 0) (v := 0) (by decide +kernel) (by decide) ?_
    obtain rfl := Option.some.inj h
    exact Fr_zret (by decide +kernel) rfl (by decide) ⟨rfl, rfl⟩
  · have h := iF hc h
    refine Fr_iload_n (q := 0) (i := 0) 0 (by decide +kernel) rfl rfl ?_
    refine Fr_bipush (i := 122) (v := 122) (by decide +kernel) (by decide) ?_
    refine Fr_icmp_gt (off := 7) 16 (by decide +kernel) (by decide) (fun hc => ?_) (fun hc => ?_)
    · have h := iT hc h
      refine Fr_iconst (i := 0) (v := 0) (by decide +kernel) (by decide) ?_
      obtain rfl := Option.some.inj h
      exact Fr_zret (by decide +kernel) rfl (by decide) ⟨rfl, rfl⟩
    · have h := iF hc h
      refine Fr_iconst (i := 1) (v := 1) (by decide +kernel) (by decide) ?_
      refine Fr_goto (off := 4) 17 (by decide +kernel) (by decide) ?_
      obtain rfl := Option.some.inj h
      exact Fr_zret (by decide +kernel) rfl (by decide) ⟨rfl, rfl⟩
def f_X12_isDigit (x0 : Int32) (M : Mem) : Option (Bool × Mem) :=
  if x0 < 48 then (some (false, M)) else (if 57 < x0 then (some (false, M)) else (some (true, M)))
set_option maxRecDepth 20000 in
theorem t_X12_isDigit {x0 : Int32} {M : Mem} {q : Bool × Mem} (h : f_X12_isDigit x0 M = some q) : Ev 200 21 0 m_X12_isDigit [.int x0] M (QB q) := by
  refine Ev_of_Fr (by decide +kernel) (Nat.le_of_ble_eq_true rfl) ?_
  show Fr 200 21 0 m_X12_isDigit 0 [(0, .int x0)] [] M (QB q)
  unfold f_X12_isDigit at h
  refine Fr_iload_n (q := 0) (i := 0) 0 (by decide +kernel) rfl rfl ?_
  refine Fr_bipush (i := 48) (v := 48) (by decide +kernel) (by decide) ?_
  refine Fr_icmp_lt (off := 13) 16 (by decide +kernel) (by decide) (fun hc => ?_) (fun hc => ?_)
  · have h := iT hc h
    refine Fr_iconst (i := 0) (v := 0) (by decide +kernel) (by decide) ?_
    obtain rfl := Option.some.inj h
    exact Fr_zret (by decide +kernel) rfl (by decide) ⟨rfl, rfl⟩
  · have h := iF hc h
    refine Fr_iload_n (q := 0) (i := 0) 0 (by decide +kernel) rfl rfl ?_
    refine Fr_bipush (i := 57) (v := 57) (by decide +kernel) (by decide) ?_
    refine Fr_icmp_gt (off := 7) 16 (by decide +kernel) (by decide) (fun hc => ?_) (fun hc => ?_)
    · have h := iT hc h
      refine Fr_iconst (i := 0) (v := 0) (by decide +kernel) (by decide) ?_
      obtain rfl := Option.some.inj h
      exact Fr_zret (by decide +kernel) rfl (by decide) ⟨rfl, rfl⟩
    · have h := iF hc h
      refine Fr_iconst (i := 1) (v := 1) (by decide +kernel) (by decide) ?_
      refine Fr_goto (off := 4) 17 (by decide +kernel) (by decide) ?_
      obtain rfl := Option.some.inj h
      exact Fr_zret (by decide +kernel) rfl (by decide) ⟨rfl, rfl⟩
def f_X12_isSignByte (x1 : Int32) (M : Mem) : Option (Bool × Mem) :=
  if x1 = 59 then (some (true, M)) else (if x1 = 60 then (some (true, M)) else (if x1 = 62 then (some (true, M)) else (if x1 = 61 then (some (true, M)) else (some (false, M)))))
set_option maxRecDepth 20000 in
theorem t_X12_isSignByte {x1 : Int32} {M : Mem} {q : Bool × Mem} (h : f_X12_isSignByte x1 M = some q) : Ev 200 21 0 m_X12_isSignByte [.ref 200, .int x1] M (QB q) := by
  refine Ev_of_Fr (by decide +kernel) (Nat.le_of_ble_eq_true rfl) ?_
  show Fr 200 21 0 m_X12_isSignByte 0 [(0, .ref 200), (1, .int x1)] [] M (QB q)
  unfold f_X12_isSignByte at h
  refine Fr_iload_n (q := 1) (i := 1) 1 (by decide +kernel) rfl rfl ?_
  refine Fr_bipush (i := 59) (v := 59) (by decide +kernel) (by decide) ?_
  refine Fr_icmp_eq (off := 21) 24 (by decide +kernel) (by decide) (fun hc => ?_) (fun hc => ?_)
  · have h := iT hc h
    refine Fr_iconst (i := 1) (v := 1) (by decide +kernel) (by decide) ?_
    refine Fr_goto (off := 4) 29 (by decide +kernel) (by decide) ?_
    obtain rfl := Option.some.inj h
    exact Fr_zret (by decide +kernel) rfl (by decide) ⟨rfl, rfl⟩
  · have h := iF hc h
    refine Fr_iload_n (q := 1) (i := 1) 1 (by decide +kernel) rfl rfl ?_
    refine Fr_bipush (i := 60) (v := 60) (by decide +kernel) (by decide) ?_
    refine Fr_icmp_eq (off := 15) 24 (by decide +kernel) (by decide) (fun hc => ?_) (fun hc => ?_)
    · have h := iT hc h
      refine Fr_iconst (i := 1) (v := 1) (by decide +kernel) (by decide) ?_
      refine Fr_goto (off := 4) 29 (by decide +kernel) (by decide) ?_
      obtain rfl := Option.some.inj h
      exact Fr_zret (by decide +kernel) rfl (by decide) ⟨rfl, rfl⟩
    · have h := iF hc h
      refine Fr_iload_n (q := 1) (i := 1) 1 (by decide +kernel) rfl rfl ?_
      refine Fr_bipush (i := 62) (v := 62) (by decide +kernel) (by decide) ?_
      refine Fr_icmp_eq (off := 9) 24 (by decide +kernel) (by decide) (fun hc => ?_) (fun hc => ?_)
      · have h := iT hc h
        refine Fr_iconst (i := 1) (v := 1) (by decide +kernel) (by decide) ?_
        refine Fr_goto (off := 4) 29 (by decide +kernel) (by decide) ?_
        obtain rfl := Option.some.inj h
        exact Fr_zret (by decide +kernel) rfl (by decide) ⟨rfl, rfl⟩
      · have h := iF hc h
        refine Fr_iload_n (q := 1) (i := 1) 1 (by decide +kernel) rfl rfl ?_
        refine Fr_bipush (i := 61) (v := 61) (by decide +kernel) (by decide) ?_
        refine Fr_icmp_ne (off := 7) 28 (by decide +kernel) (by decide) (fun hc => ?_) (fun hc => ?_)
        · have h := iF hc h
          refine Fr_iconst (i := 0) (v := 0) (by decide +kernel) (by decide) ?_
          obtain rfl := Option.some.inj h
          exact Fr_zret (by decide +kernel) rfl (by decide) ⟨rfl, rfl⟩
        · have h := iT hc h
          refine Fr_iconst (i := 1) (v := 1) (by decide +kernel) (by decide) ?_
          refine Fr_goto (off := 4) 29 (by decide +kernel) (by decide) ?_
          obtain rfl := Option.some.inj h
          exact Fr_zret (by decide +kernel) rfl (by decide) ⟨rfl, rfl⟩
