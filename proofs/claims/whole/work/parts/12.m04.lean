def f_X1_countWays_b142 (N : Nat) (k100 : Int32 × Int32 → Mem → Option (Mem)) (k106 : Int32 × Int32 × Int32 → Mem → Option (Mem)) (v1 : Int32) (v2 : Int32) (v3 : Int32) (M : Mem) : Option (Mem) :=
  k106 (v1, v2, (v3 + 1)) M
set_option maxRecDepth 20000 in
theorem t_X1_countWays_b142 {N : Nat} {q : Mem} {k100 : Int32 × Int32 → Mem → Option (Mem)} (hk100 : ∀ (a : Int32 × Int32) (M : Mem), k100 a M = some q → Fr 0 111 2 m_X1_countWays 100 [(0, .ref 103), (1, .int a.1), (2, .int a.2)] [] M (QV q)) {k106 : Int32 × Int32 × Int32 → Mem → Option (Mem)} (hk106 : ∀ (a : Int32 × Int32 × Int32) (M : Mem), k106 a M = some q → Fr 0 111 2 m_X1_countWays 106 [(0, .ref 103), (1, .int a.1), (2, .int a.2.1), (3, .int a.2.2)] [] M (QV q)) {v1 : Int32} {v2 : Int32} {v3 : Int32} {M : Mem} (h : f_X1_countWays_b142 N k100 k106 v1 v2 v3 M = some q) : Fr 0 111 2 m_X1_countWays 142 [(0, .ref 103), (1, .int v1), (2, .int v2), (3, .int v3)] [] M (QV q) := by
  unfold f_X1_countWays_b142 at h
  refine Fr_iinc (i := 3) (j := 1) (v := (v3 + 1)) (lv' := [(3, .int (v3 + 1)), (0, .ref 103), (1, .int v1), (2, .int v2)]) 3 (by decide +kernel) rfl rfl (by decide) rfl ?_
  refine Fr_goto (off := (-39)) 106 (by decide +kernel) (by decide) ?_
  refine Fr_loc [1, 2, 3, 0] rfl ?_
  exact hk106 (v1, v2, (v3 + 1)) M h
def f_X1_countWays_h106 (N : Nat) (k100 : Int32 × Int32 → Mem → Option (Mem)) (k106 : Int32 × Int32 × Int32 → Mem → Option (Mem)) (v1 : Int32) (v2 : Int32) (v3 : Int32) (M : Mem) : Option (Mem) :=
  if (M.1 103 0) ≤ v3 then (k100 (v1, (v2 + (-1))) M) else (bi (f_X1_canFollow v2 v3 M) fun r_14 M_12 =>
  if (b2i r_14) = 0 then (f_X1_countWays_b142 N k100 k106 v1 v2 v3 M_12) else (ck v2 64 (
  ck (v2 ||| (1 <<< (v3 &&& 31))) 64 (
  ck v2 64 (
  bM (uI M_12 106 (tn v2) ((M_12.1 106 (tn v2)) + (M_12.1 106 (tn (v2 ||| (1 <<< (v3 &&& 31))))))) fun M_18 =>
  f_X1_countWays_b142 N k100 k106 v1 v2 v3 M_18)))))
set_option maxRecDepth 20000 in
theorem t_X1_countWays_h106 {N : Nat} {q : Mem} {k100 : Int32 × Int32 → Mem → Option (Mem)} (hk100 : ∀ (a : Int32 × Int32) (M : Mem), k100 a M = some q → Fr 0 111 2 m_X1_countWays 100 [(0, .ref 103), (1, .int a.1), (2, .int a.2)] [] M (QV q)) {k106 : Int32 × Int32 × Int32 → Mem → Option (Mem)} (hk106 : ∀ (a : Int32 × Int32 × Int32) (M : Mem), k106 a M = some q → Fr 0 111 2 m_X1_countWays 106 [(0, .ref 103), (1, .int a.1), (2, .int a.2.1), (3, .int a.2.2)] [] M (QV q)) {v1 : Int32} {v2 : Int32} {v3 : Int32} {M : Mem} (h : f_X1_countWays_h106 N k100 k106 v1 v2 v3 M = some q) : Fr 0 111 2 m_X1_countWays 106 [(0, .ref 103), (1, .int v1), (2, .int v2), (3, .int v3)] [] M (QV q) := by
  unfold f_X1_countWays_h106 at h
  refine Fr_iload_n (q := 3) (i := 3) 3 (by decide +kernel) rfl rfl ?_
  refine Fr_aload_n (q := 0) (i := 0) 0 (by decide +kernel) rfl rfl ?_
  refine gf_X1_21 rfl (by decide +kernel) ob_103 ?_
  refine Fr_icmp_ge (off := 37) 148 (by decide +kernel) (by decide) (fun hc => ?_) (fun hc => ?_)
  · have h := iT hc h
    refine Fr_iinc (i := 2) (j := (-1)) (v := (v2 + (-1))) (lv' := [(2, .int (v2 + (-1))), (0, .ref 103), (1, .int v1), (3, .int v3)]) 2 (by decide +kernel) rfl rfl (by decide) rfl ?_
    refine Fr_goto (off := (-51)) 100 (by decide +kernel) (by decide) ?_
    refine Fr_loc [1, 2, 0] rfl ?_
    exact hk100 (v1, (v2 + (-1))) M h
  · have h := iF hc h
    refine Fr_aload_n (q := 0) (i := 0) 0 (by decide +kernel) rfl rfl ?_
    refine Fr_iload_n (q := 2) (i := 2) 2 (by decide +kernel) rfl rfl ?_
    refine Fr_iload_n (q := 3) (i := 3) 3 (by decide +kernel) rfl rfl ?_
    obtain ⟨r_14, M_12, hc_13, h⟩ := bi_elim h
    refine Fr_cVb (ν := m_X1_canFollow) (As := [.int v2, .int v3]) (st := []) (rc := 103) (ci := 1) (d' := 1) (by decide +kernel) ml_X1_40 cv_X1_canFollow rfl (by decide) rfl ob_103 rfl (by decide) (Nat.le_of_ble_eq_true rfl) (t_X1_canFollow hc_13) ?_
    refine Fr_if_eq (off := 22) 142 (by decide +kernel) (by decide) (fun hc => ?_) (fun hc => ?_)
    · have h := iT hc h
      exact t_X1_countWays_b142 hk100 hk106 h
    · have h := iF hc h
      refine Fr_aload_n (q := 0) (i := 0) 0 (by decide +kernel) rfl rfl ?_
      refine gf_X1_18 rfl (by decide +kernel) ob_103 ?_
      refine Fr_iload_n (q := 2) (i := 2) 2 (by decide +kernel) rfl rfl ?_
      refine Fr_dup2 (by decide +kernel) rfl rfl ?_
      obtain ⟨hi_15, h⟩ := ck_elim h
      refine Fr_iald (by decide +kernel) ob_106 (vp_of ln_106 hi_15) ?_
      refine Fr_aload_n (q := 0) (i := 0) 0 (by decide +kernel) rfl rfl ?_
      refine gf_X1_18 rfl (by decide +kernel) ob_103 ?_
      refine Fr_iload_n (q := 2) (i := 2) 2 (by decide +kernel) rfl rfl ?_
      refine Fr_iconst (i := 1) (v := 1) (by decide +kernel) (by decide) ?_
      refine Fr_iload_n (q := 3) (i := 3) 3 (by decide +kernel) rfl rfl ?_
      refine Fr_ishl (by decide +kernel) ?_
      refine Fr_ior (by decide +kernel) ?_
      obtain ⟨hi_16, h⟩ := ck_elim h
      refine Fr_iald (by decide +kernel) ob_106 (vp_of ln_106 hi_16) ?_
      refine Fr_iadd (by decide +kernel) ?_
      obtain ⟨hi_17, h⟩ := ck_elim h
      refine Fr_iast (by decide +kernel) ob_106 (vp_of ln_106 hi_17) ?_
      obtain ⟨M_18, eM_18, h⟩ := bM_elim h
      refine Fr_mem eM_18 ?_
      exact t_X1_countWays_b142 hk100 hk106 h
def f_X1_countWays_h100 (N : Nat) (k100 : Int32 × Int32 → Mem → Option (Mem)) (v1 : Int32) (v2 : Int32) (M : Mem) : Option (Mem) :=
  if v2 < 0 then (ck v1 64 (
  bM (uI M 103 1 (M.1 105 (tn v1))) fun M_11 =>
  some M_11)) else (lp (fun k a m => f_X1_countWays_h106 N k100 k a.1 a.2.1 a.2.2 m) N (v1, v2, 0) M)
set_option maxRecDepth 20000 in
theorem t_X1_countWays_h100 {N : Nat} {q : Mem} {k100 : Int32 × Int32 → Mem → Option (Mem)} (hk100 : ∀ (a : Int32 × Int32) (M : Mem), k100 a M = some q → Fr 0 111 2 m_X1_countWays 100 [(0, .ref 103), (1, .int a.1), (2, .int a.2)] [] M (QV q)) {v1 : Int32} {v2 : Int32} {M : Mem} (h : f_X1_countWays_h100 N k100 v1 v2 M = some q) : Fr 0 111 2 m_X1_countWays 100 [(0, .ref 103), (1, .int v1), (2, .int v2)] [] M (QV q) := by
  unfold f_X1_countWays_h100 at h
  refine Fr_iload_n (q := 2) (i := 2) 2 (by decide +kernel) rfl rfl ?_
  refine Fr_if_lt (off := 53) 154 (by decide +kernel) (by decide) (fun hc => ?_) (fun hc => ?_)
  · have h := iT hc h
    refine Fr_aload_n (q := 0) (i := 0) 0 (by decide +kernel) rfl rfl ?_
    refine Fr_aload_n (q := 0) (i := 0) 0 (by decide +kernel) rfl rfl ?_
    refine gf_X1_15 rfl (by decide +kernel) ob_103 ?_
    refine Fr_iload_n (q := 1) (i := 1) 1 (by decide +kernel) rfl rfl ?_
    obtain ⟨hi_10, h⟩ := ck_elim h
    refine Fr_iald (by decide +kernel) ob_105 (vp_of ln_105 hi_10) ?_
    refine pf_X1_44 rfl (by decide +kernel) ob_103 ?_
    obtain ⟨M_11, eM_11, h⟩ := bM_elim h
    refine Fr_mem eM_11 ?_
    obtain rfl := Option.some.inj h
    exact Fr_vret (by decide +kernel) rfl ⟨rfl, rfl⟩
  · have h := iF hc h
    refine Fr_iconst (i := 0) (v := 0) (by decide +kernel) (by decide) ?_
    refine Fr_istore_n (q := 3) (i := 3) (lv' := [(3, .int 0), (0, .ref 103), (1, .int v1), (2, .int v2)]) (by decide +kernel) rfl (by decide) rfl ?_
    refine Fr_loc [1, 2, 3, 0] rfl ?_
    exact lp_sound (P := fun a M => Fr 0 111 2 m_X1_countWays 106 [(0, .ref 103), (1, .int a.1), (2, .int a.2.1), (3, .int a.2.2)] [] M (QV q)) (fun k hk a m h => t_X1_countWays_h106 hk100 hk h) N (v1, v2, 0) M h
def f_X1_countWays_b84 (N : Nat) (k41 : Int32 × Int32 → Mem → Option (Mem)) (k48 : Int32 × Int32 × Int32 → Mem → Option (Mem)) (v1 : Int32) (v2 : Int32) (v3 : Int32) (M : Mem) : Option (Mem) :=
  k48 (v1, v2, (v3 + 1)) M
set_option maxRecDepth 20000 in
theorem t_X1_countWays_b84 {N : Nat} {q : Mem} {k41 : Int32 × Int32 → Mem → Option (Mem)} (hk41 : ∀ (a : Int32 × Int32) (M : Mem), k41 a M = some q → Fr 0 111 2 m_X1_countWays 41 [(0, .ref 103), (1, .int a.1), (2, .int a.2)] [] M (QV q)) {k48 : Int32 × Int32 × Int32 → Mem → Option (Mem)} (hk48 : ∀ (a : Int32 × Int32 × Int32) (M : Mem), k48 a M = some q → Fr 0 111 2 m_X1_countWays 48 [(0, .ref 103), (1, .int a.1), (2, .int a.2.1), (3, .int a.2.2)] [] M (QV q)) {v1 : Int32} {v2 : Int32} {v3 : Int32} {M : Mem} (h : f_X1_countWays_b84 N k41 k48 v1 v2 v3 M = some q) : Fr 0 111 2 m_X1_countWays 84 [(0, .ref 103), (1, .int v1), (2, .int v2), (3, .int v3)] [] M (QV q) := by
  unfold f_X1_countWays_b84 at h
  refine Fr_iinc (i := 3) (j := 1) (v := (v3 + 1)) (lv' := [(3, .int (v3 + 1)), (0, .ref 103), (1, .int v1), (2, .int v2)]) 3 (by decide +kernel) rfl rfl (by decide) rfl ?_
  refine Fr_goto (off := (-39)) 48 (by decide +kernel) (by decide) ?_
  refine Fr_loc [1, 2, 3, 0] rfl ?_
  exact hk48 (v1, v2, (v3 + 1)) M h
def f_X1_countWays_h48 (N : Nat) (k41 : Int32 × Int32 → Mem → Option (Mem)) (k48 : Int32 × Int32 × Int32 → Mem → Option (Mem)) (v1 : Int32) (v2 : Int32) (v3 : Int32) (M : Mem) : Option (Mem) :=
  if (M.1 103 0) ≤ v3 then (k41 (v1, (v2 + 1)) M) else (bi (f_X1_canFollow v2 v3 M) fun r_21 M_19 =>
  if (b2i r_21) = 0 then (f_X1_countWays_b84 N k41 k48 v1 v2 v3 M_19) else (ck (v2 ||| (1 <<< (v3 &&& 31))) 64 (
  ck v2 64 (
  ck (v2 ||| (1 <<< (v3 &&& 31))) 64 (
  bM (uI M_19 105 (tn (v2 ||| (1 <<< (v3 &&& 31)))) ((M_19.1 105 (tn (v2 ||| (1 <<< (v3 &&& 31))))) + (M_19.1 105 (tn v2)))) fun M_25 =>
  f_X1_countWays_b84 N k41 k48 v1 v2 v3 M_25)))))
set_option maxRecDepth 20000 in
theorem t_X1_countWays_h48 {N : Nat} {q : Mem} {k41 : Int32 × Int32 → Mem → Option (Mem)} (hk41 : ∀ (a : Int32 × Int32) (M : Mem), k41 a M = some q → Fr 0 111 2 m_X1_countWays 41 [(0, .ref 103), (1, .int a.1), (2, .int a.2)] [] M (QV q)) {k48 : Int32 × Int32 × Int32 → Mem → Option (Mem)} (hk48 : ∀ (a : Int32 × Int32 × Int32) (M : Mem), k48 a M = some q → Fr 0 111 2 m_X1_countWays 48 [(0, .ref 103), (1, .int a.1), (2, .int a.2.1), (3, .int a.2.2)] [] M (QV q)) {v1 : Int32} {v2 : Int32} {v3 : Int32} {M : Mem} (h : f_X1_countWays_h48 N k41 k48 v1 v2 v3 M = some q) : Fr 0 111 2 m_X1_countWays 48 [(0, .ref 103), (1, .int v1), (2, .int v2), (3, .int v3)] [] M (QV q) := by
  unfold f_X1_countWays_h48 at h
  refine Fr_iload_n (q := 3) (i := 3) 3 (by decide +kernel) rfl rfl ?_
  refine Fr_aload_n (q := 0) (i := 0) 0 (by decide +kernel) rfl rfl ?_
  refine gf_X1_21 rfl (by decide +kernel) ob_103 ?_
  refine Fr_icmp_ge (off := 37) 90 (by decide +kernel) (by decide) (fun hc => ?_) (fun hc => ?_)
  · have h := iT hc h
    refine Fr_iinc (i := 2) (j := 1) (v := (v2 + 1)) (lv' := [(2, .int (v2 + 1)), (0, .ref 103), (1, .int v1), (3, .int v3)]) 2 (by decide +kernel) rfl rfl (by decide) rfl ?_
    refine Fr_goto (off := (-52)) 41 (by decide +kernel) (by decide) ?_
    refine Fr_loc [1, 2, 0] rfl ?_
    exact hk41 (v1, (v2 + 1)) M h
  · have h := iF hc h
    refine Fr_aload_n (q := 0) (i := 0) 0 (by decide +kernel) rfl rfl ?_
    refine Fr_iload_n (q := 2) (i := 2) 2 (by decide +kernel) rfl rfl ?_
    refine Fr_iload_n (q := 3) (i := 3) 3 (by decide +kernel) rfl rfl ?_
    obtain ⟨r_21, M_19, hc_20, h⟩ := bi_elim h
    refine Fr_cVb (ν := m_X1_canFollow) (As := [.int v2, .int v3]) (st := []) (rc := 103) (ci := 1) (d' := 1) (by decide +kernel) ml_X1_40 cv_X1_canFollow rfl (by decide) rfl ob_103 rfl (by decide) (Nat.le_of_ble_eq_true rfl) (t_X1_canFollow hc_20) ?_
    refine Fr_if_eq (off := 22) 84 (by decide +kernel) (by decide) (fun hc => ?_) (fun hc => ?_)
    · have h := iT hc h
      exact t_X1_countWays_b84 hk41 hk48 h
    · have h := iF hc h
      refine Fr_aload_n (q := 0) (i := 0) 0 (by decide +kernel) rfl rfl ?_
      refine gf_X1_15 rfl (by decide +kernel) ob_103 ?_
      refine Fr_iload_n (q := 2) (i := 2) 2 (by decide +kernel) rfl rfl ?_
      refine Fr_iconst (i := 1) (v := 1) (by decide +kernel) (by decide) ?_
      refine Fr_iload_n (q := 3) (i := 3) 3 (by decide +kernel) rfl rfl ?_
      refine Fr_ishl (by decide +kernel) ?_
      refine Fr_ior (by decide +kernel) ?_
      refine Fr_dup2 (by decide +kernel) rfl rfl ?_
      obtain ⟨hi_22, h⟩ := ck_elim h
      refine Fr_iald (by decide +kernel) ob_105 (vp_of ln_105 hi_22) ?_
      refine Fr_aload_n (q := 0) (i := 0) 0 (by decide +kernel) rfl rfl ?_
      refine gf_X1_15 rfl (by decide +kernel) ob_103 ?_
      refine Fr_iload_n (q := 2) (i := 2) 2 (by decide +kernel) rfl rfl ?_
      obtain ⟨hi_23, h⟩ := ck_elim h
      refine Fr_iald (by decide +kernel) ob_105 (vp_of ln_105 hi_23) ?_
      refine Fr_iadd (by decide +kernel) ?_
      obtain ⟨hi_24, h⟩ := ck_elim h
      refine Fr_iast (by decide +kernel) ob_105 (vp_of ln_105 hi_24) ?_
      obtain ⟨M_25, eM_25, h⟩ := bM_elim h
      refine Fr_mem eM_25 ?_
      exact t_X1_countWays_b84 hk41 hk48 h
def f_X1_countWays_h41 (N : Nat) (k41 : Int32 × Int32 → Mem → Option (Mem)) (v1 : Int32) (v2 : Int32) (M : Mem) : Option (Mem) :=
  if v1 ≤ v2 then (lp (fun k a m => f_X1_countWays_h100 N k a.1 a.2 m) N (v1, (v1 - 1)) M) else (lp (fun k a m => f_X1_countWays_h48 N k41 k a.1 a.2.1 a.2.2 m) N (v1, v2, 0) M)
set_option maxRecDepth 20000 in
theorem t_X1_countWays_h41 {N : Nat} {q : Mem} {k41 : Int32 × Int32 → Mem → Option (Mem)} (hk41 : ∀ (a : Int32 × Int32) (M : Mem), k41 a M = some q → Fr 0 111 2 m_X1_countWays 41 [(0, .ref 103), (1, .int a.1), (2, .int a.2)] [] M (QV q)) {v1 : Int32} {v2 : Int32} {M : Mem} (h : f_X1_countWays_h41 N k41 v1 v2 M = some q) : Fr 0 111 2 m_X1_countWays 41 [(0, .ref 103), (1, .int v1), (2, .int v2)] [] M (QV q) := by
  unfold f_X1_countWays_h41 at h
  refine Fr_iload_n (q := 2) (i := 2) 2 (by decide +kernel) rfl rfl ?_
  refine Fr_iload_n (q := 1) (i := 1) 1 (by decide +kernel) rfl rfl ?_
  refine Fr_icmp_ge (off := 53) 96 (by decide +kernel) (by decide) (fun hc => ?_) (fun hc => ?_)
  · have h := iT hc h
    refine Fr_iload_n (q := 1) (i := 1) 1 (by decide +kernel) rfl rfl ?_
    refine Fr_iconst (i := 1) (v := 1) (by decide +kernel) (by decide) ?_
    refine Fr_isub (by decide +kernel) ?_
    refine Fr_istore_n (q := 2) (i := 2) (lv' := [(2, .int (v1 - 1)), (0, .ref 103), (1, .int v1)]) (by decide +kernel) rfl (by decide) rfl ?_
    refine Fr_loc [1, 2, 0] rfl ?_
    exact lp_sound (P := fun a M => Fr 0 111 2 m_X1_countWays 100 [(0, .ref 103), (1, .int a.1), (2, .int a.2)] [] M (QV q)) (fun k hk a m h => t_X1_countWays_h100 hk h) N (v1, (v1 - 1)) M h
  · have h := iF hc h
    refine Fr_iconst (i := 0) (v := 0) (by decide +kernel) (by decide) ?_
    refine Fr_istore_n (q := 3) (i := 3) (lv' := [(3, .int 0), (0, .ref 103), (1, .int v1), (2, .int v2)]) (by decide +kernel) rfl (by decide) rfl ?_
    refine Fr_loc [1, 2, 3, 0] rfl ?_
    exact lp_sound (P := fun a M => Fr 0 111 2 m_X1_countWays 48 [(0, .ref 103), (1, .int a.1), (2, .int a.2.1), (3, .int a.2.2)] [] M (QV q)) (fun k hk a m h => t_X1_countWays_h48 hk41 hk h) N (v1, v2, 0) M h
def f_X1_countWays (N : Nat) (M : Mem) : Option (Mem) :=
  bI ((1 <<< ((M.1 103 0) &&& 31)) - 1) fun y_1 =>
  bv (f_J7_fill_53178 N 105 0 M) fun M_2 =>
  bv (f_J7_fill_53178 N 106 0 M_2) fun M_4 =>
  ck 0 64 (
  bM (uI M_4 105 (tn 0) 1) fun M_7 =>
  ck y_1 64 (
  bM (uI M_7 106 (tn y_1) 1) fun M_9 =>
  lp (fun k a m => f_X1_countWays_h41 N k a.1 a.2 m) N (y_1, 0) M_9))
set_option maxRecDepth 20000 in
theorem t_X1_countWays {N : Nat} {M : Mem} {q : Mem} (h : f_X1_countWays N M = some q) : Ev 0 111 2 m_X1_countWays [.ref 103] M (QV q) := by
  refine Ev_of_Fr (by decide +kernel) (Nat.le_of_ble_eq_true rfl) ?_
  show Fr 0 111 2 m_X1_countWays 0 [(0, .ref 103)] [] M (QV q)
  unfold f_X1_countWays at h
  refine Fr_iconst (i := 1) (v := 1) (by decide +kernel) (by decide) ?_
  refine Fr_aload_n (q := 0) (i := 0) 0 (by decide +kernel) rfl rfl ?_
  refine gf_X1_21 rfl (by decide +kernel) ob_103 ?_
  refine Fr_ishl (by decide +kernel) ?_
  refine Fr_iconst (i := 1) (v := 1) (by decide +kernel) (by decide) ?_
  refine Fr_isub (by decide +kernel) ?_
  obtain ⟨y_1, ey_1, h⟩ := bI_elim h
  refine Fr_topI ey_1 ?_
  refine Fr_istore_n (q := 1) (i := 1) (lv' := [(1, .int y_1), (0, .ref 103)]) (by decide +kernel) rfl (by decide) rfl ?_
  refine Fr_aload_n (q := 0) (i := 0) 1 (by decide +kernel) rfl rfl ?_
  refine gf_X1_15 rfl (by decide +kernel) ob_103 ?_
  refine Fr_iconst (i := 0) (v := 0) (by decide +kernel) (by decide) ?_
  obtain ⟨M_2, hc_3, h⟩ := bv_elim h
  refine Fr_cSv (ν := m_J7_fill_53178) (As := [.ref 105, .int 0]) (st := []) (d' := 0) (by decide +kernel) ml_X1_25 cs_J7_fill_53178 rfl (by decide) (Nat.le_of_ble_eq_true rfl) (t_J7_fill_53178 ob_105 hc_3) ?_
  refine Fr_aload_n (q := 0) (i := 0) 1 (by decide +kernel) rfl rfl ?_
  refine gf_X1_18 rfl (by decide +kernel) ob_103 ?_
  refine Fr_iconst (i := 0) (v := 0) (by decide +kernel) (by decide) ?_
  obtain ⟨M_4, hc_5, h⟩ := bv_elim h
  refine Fr_cSv (ν := m_J7_fill_53178) (As := [.ref 106, .int 0]) (st := []) (d' := 0) (by decide +kernel) ml_X1_25 cs_J7_fill_53178 rfl (by decide) (Nat.le_of_ble_eq_true rfl) (t_J7_fill_53178 ob_106 hc_5) ?_
  refine Fr_aload_n (q := 0) (i := 0) 1 (by decide +kernel) rfl rfl ?_
  refine gf_X1_15 rfl (by decide +kernel) ob_103 ?_
  refine Fr_iconst (i := 0) (v := 0) (by decide +kernel) (by decide) ?_
  refine Fr_iconst (i := 1) (v := 1) (by decide +kernel) (by decide) ?_
  obtain ⟨hi_6, h⟩ := ck_elim h
  refine Fr_iast (by decide +kernel) ob_105 (vp_of ln_105 hi_6) ?_
  obtain ⟨M_7, eM_7, h⟩ := bM_elim h
  refine Fr_mem eM_7 ?_
  refine Fr_aload_n (q := 0) (i := 0) 1 (by decide +kernel) rfl rfl ?_
  refine gf_X1_18 rfl (by decide +kernel) ob_103 ?_
  refine Fr_iload_n (q := 1) (i := 1) 0 (by decide +kernel) rfl rfl ?_
  refine Fr_iconst (i := 1) (v := 1) (by decide +kernel) (by decide) ?_
  obtain ⟨hi_8, h⟩ := ck_elim h
  refine Fr_iast (by decide +kernel) ob_106 (vp_of ln_106 hi_8) ?_
  obtain ⟨M_9, eM_9, h⟩ := bM_elim h
  refine Fr_mem eM_9 ?_
  refine Fr_iconst (i := 0) (v := 0) (by decide +kernel) (by decide) ?_
  refine Fr_istore_n (q := 2) (i := 2) (lv' := [(2, .int 0), (1, .int y_1), (0, .ref 103)]) (by decide +kernel) rfl (by decide) rfl ?_
  refine Fr_loc [2, 1, 0] rfl ?_
  exact lp_sound (P := fun a M => Fr 0 111 2 m_X1_countWays 41 [(0, .ref 103), (1, .int a.1), (2, .int a.2)] [] M (QV q)) (fun k hk a m h => t_X1_countWays_h41 hk h) N (y_1, 0) M_9 h
def f_X1_take_h16 (N : Nat) (p1 : Nat) (k16 : Int32 × Int32 → Mem → Option (Bool × Mem)) (v2 : Int32) (v4 : Int32) (M : Mem) : Option (Bool × Mem) :=
  if v2 ≤ v4 then (bv (f_X1_countWays N M) fun M_4 =>
  some (true, M_4)) else (if (Int32.ofNat (ln p1)) ≤ v4 then (bv (f_X1_countWays N M) fun M_6 =>
  some (true, M_6)) else (ck v4 (ln p1) (
  bi (f_X1_takeTry N (M.2 p1 (tn v4)) M) fun r_11 M_9 =>
  if (b2i r_11) = 0 then (some (false, M_9)) else (k16 (v2, (v4 + 1)) M_9))))
set_option maxRecDepth 20000 in
theorem t_X1_take_h16 {N : Nat} {p1 : Nat} (hp1 : Ob 0 111 p1 21) {q : Bool × Mem} {k16 : Int32 × Int32 → Mem → Option (Bool × Mem)} (hk16 : ∀ (a : Int32 × Int32) (M : Mem), k16 a M = some q → Fr 0 111 3 m_X1_take 16 [(0, .ref 103), (1, .ref p1), (2, .int a.1), (4, .int a.2)] [] M (QB q)) {v2 : Int32} {v4 : Int32} {M : Mem} (h : f_X1_take_h16 N p1 k16 v2 v4 M = some q) : Fr 0 111 3 m_X1_take 16 [(0, .ref 103), (1, .ref p1), (2, .int v2), (4, .int v4)] [] M (QB q) := by
  unfold f_X1_take_h16 at h
  refine Fr_iload (i := 4) 3 (by decide +kernel) rfl ?_
  refine Fr_iload_n (q := 2) (i := 2) 2 (by decide +kernel) rfl rfl ?_
  refine Fr_icmp_ge (off := 29) 48 (by decide +kernel) (by decide) (fun hc => ?_) (fun hc => ?_)
  · have h := iT hc h
    refine Fr_aload_n (q := 0) (i := 0) 0 (by decide +kernel) rfl rfl ?_
    obtain ⟨M_4, hc_5, h⟩ := bv_elim h
    refine Fr_cVv (ν := m_X1_countWays) (As := []) (st := []) (rc := 103) (ci := 1) (d' := 2) (by decide +kernel) ml_X1_35 cv_X1_countWays rfl (by decide) rfl ob_103 rfl (by decide) (Nat.le_of_ble_eq_true rfl) (t_X1_countWays hc_5) ?_
    refine Fr_iconst (i := 1) (v := 1) (by decide +kernel) (by decide) ?_
    obtain rfl := Option.some.inj h
    exact Fr_zret (by decide +kernel) rfl (by decide) ⟨rfl, rfl⟩
  · have h := iF hc h
    refine Fr_iload (i := 4) 3 (by decide +kernel) rfl ?_
    refine Fr_aload_n (q := 1) (i := 1) 1 (by decide +kernel) rfl rfl ?_
    refine Fr_alen (by decide +kernel) hp1 (by decide) rfl ?_
    refine Fr_icmp_ge (off := 22) 48 (by decide +kernel) (by decide) (fun hc => ?_) (fun hc => ?_)
    · have h := iT hc h
      refine Fr_aload_n (q := 0) (i := 0) 0 (by decide +kernel) rfl rfl ?_
      obtain ⟨M_6, hc_7, h⟩ := bv_elim h
      refine Fr_cVv (ν := m_X1_countWays) (As := []) (st := []) (rc := 103) (ci := 1) (d' := 2) (by decide +kernel) ml_X1_35 cv_X1_countWays rfl (by decide) rfl ob_103 rfl (by decide) (Nat.le_of_ble_eq_true rfl) (t_X1_countWays hc_7) ?_
      refine Fr_iconst (i := 1) (v := 1) (by decide +kernel) (by decide) ?_
      obtain rfl := Option.some.inj h
      exact Fr_zret (by decide +kernel) rfl (by decide) ⟨rfl, rfl⟩
    · have h := iF hc h
      refine Fr_aload_n (q := 0) (i := 0) 0 (by decide +kernel) rfl rfl ?_
      refine Fr_aload_n (q := 1) (i := 1) 1 (by decide +kernel) rfl rfl ?_
      refine Fr_iload (i := 4) 3 (by decide +kernel) rfl ?_
      obtain ⟨hi_8, h⟩ := ck_elim h
      refine Fr_lald (by decide +kernel) hp1 (vp_of rfl hi_8) ?_
      obtain ⟨r_11, M_9, hc_10, h⟩ := bi_elim h
      refine Fr_cVb (ν := m_X1_takeTry) (As := [.long (M.2 p1 (tn v4))]) (st := []) (rc := 103) (ci := 1) (d' := 0) (by decide +kernel) ml_X1_31 cv_X1_takeTry rfl (by decide) rfl ob_103 rfl (by decide) (Nat.le_of_ble_eq_true rfl) (t_X1_takeTry hc_10) ?_
      refine Fr_if_ne (off := 5) 42 (by decide +kernel) (by decide) (fun hc => ?_) (fun hc => ?_)
      · have h := iF hc h
        refine Fr_iinc (i := 4) (j := 1) (v := (v4 + 1)) (lv' := [(4, .int (v4 + 1)), (0, .ref 103), (1, .ref p1), (2, .int v2)]) 3 (by decide +kernel) rfl rfl (by decide) rfl ?_
        refine Fr_goto (off := (-29)) 16 (by decide +kernel) (by decide) ?_
        refine Fr_loc [1, 2, 3, 0] rfl ?_
        exact hk16 (v2, (v4 + 1)) M_9 h
      · have h := iT hc h
        refine Fr_iconst (i := 0) (v := 0) (by decide +kernel) (by decide) ?_
        obtain rfl := Option.some.inj h
        exact Fr_zret (by decide +kernel) rfl (by decide) ⟨rfl, rfl⟩
def f_X1_take (N : Nat) (p1 : Nat) (x2 : Int32) (x3 : Int32) (M : Mem) : Option (Bool × Mem) :=
  bM (uI M 103 0 x3) fun M_1 =>
  bv (f_J7_fill_53178 N 104 1 M_1) fun M_2 =>
  lp (fun k a m => f_X1_take_h16 N p1 k a.1 a.2 m) N (x2, 0) M_2
set_option maxRecDepth 20000 in
theorem t_X1_take {N : Nat} {p1 : Nat} {x2 : Int32} {x3 : Int32} (hp1 : Ob 0 111 p1 21) {M : Mem} {q : Bool × Mem} (h : f_X1_take N p1 x2 x3 M = some q) : Ev 0 111 3 m_X1_take [.ref 103, .ref p1, .int x2, .int x3] M (QB q) := by
  refine Ev_of_Fr (by decide +kernel) (Nat.le_of_ble_eq_true rfl) ?_
  show Fr 0 111 3 m_X1_take 0 [(0, .ref 103), (1, .ref p1), (2, .int x2), (3, .int x3)] [] M (QB q)
  unfold f_X1_take at h
  refine Fr_aload_n (q := 0) (i := 0) 0 (by decide +kernel) rfl rfl ?_
  refine Fr_iload_n (q := 3) (i := 3) 3 (by decide +kernel) rfl rfl ?_
  refine pf_X1_21 rfl (by decide +kernel) ob_103 ?_
  obtain ⟨M_1, eM_1, h⟩ := bM_elim h
  refine Fr_mem eM_1 ?_
  refine Fr_aload_n (q := 0) (i := 0) 0 (by decide +kernel) rfl rfl ?_
  refine gf_X1_9 rfl (by decide +kernel) ob_103 ?_
  refine Fr_iconst (i := 1) (v := 1) (by decide +kernel) (by decide) ?_
  obtain ⟨M_2, hc_3, h⟩ := bv_elim h
  refine Fr_cSv (ν := m_J7_fill_53178) (As := [.ref 104, .int 1]) (st := []) (d' := 0) (by decide +kernel) ml_X1_25 cs_J7_fill_53178 rfl (by decide) (Nat.le_of_ble_eq_true rfl) (t_J7_fill_53178 ob_104 hc_3) ?_
  refine Fr_iconst (i := 0) (v := 0) (by decide +kernel) (by decide) ?_
  refine Fr_istore (i := 4) (lv' := [(4, .int 0), (0, .ref 103), (1, .ref p1), (2, .int x2), (3, .int x3)]) (by decide +kernel) (by decide) rfl ?_
  refine Fr_loc [1, 2, 3, 0] rfl ?_
  exact lp_sound (P := fun a M => Fr 0 111 3 m_X1_take 16 [(0, .ref 103), (1, .ref p1), (2, .int a.1), (4, .int a.2)] [] M (QB q)) (fun k hk a m h => t_X1_take_h16 hp1 hk h) N (x2, 0) M_2 h
def f_X1_waysWith_b61 (N : Nat) (k13 : Int32 × Int32 × Int32 × Int32 × Int32 → Mem → Option (Int32 × Mem)) (v1 : Int32) (v2 : Int32) (v3 : Int32) (v4 : Int32) (v5 : Int32) (M : Mem) : Option (Int32 × Mem) :=
  k13 (v1, v2, v3, v4, (v5 + 1)) M
set_option maxRecDepth 20000 in
theorem t_X1_waysWith_b61 {N : Nat} {q : Int32 × Mem} {k13 : Int32 × Int32 × Int32 × Int32 × Int32 → Mem → Option (Int32 × Mem)} (hk13 : ∀ (a : Int32 × Int32 × Int32 × Int32 × Int32) (M : Mem), k13 a M = some q → Fr 0 111 2 m_X1_waysWith 13 [(0, .ref 103), (1, .int a.1), (2, .int a.2.1), (3, .int a.2.2.1), (4, .int a.2.2.2.1), (5, .int a.2.2.2.2)] [] M (QI q)) {v1 : Int32} {v2 : Int32} {v3 : Int32} {v4 : Int32} {v5 : Int32} {M : Mem} (h : f_X1_waysWith_b61 N k13 v1 v2 v3 v4 v5 M = some q) : Fr 0 111 2 m_X1_waysWith 61 [(0, .ref 103), (1, .int v1), (2, .int v2), (3, .int v3), (4, .int v4), (5, .int v5)] [] M (QI q) := by
  unfold f_X1_waysWith_b61 at h
  refine Fr_iinc (i := 5) (j := 1) (v := (v5 + 1)) (lv' := [(5, .int (v5 + 1)), (0, .ref 103), (1, .int v1), (2, .int v2), (3, .int v3), (4, .int v4)]) 5 (by decide +kernel) rfl rfl (by decide) rfl ?_
  refine Fr_goto (off := (-51)) 13 (by decide +kernel) (by decide) ?_
  refine Fr_loc [1, 2, 3, 4, 5, 0] rfl ?_
  exact hk13 (v1, v2, v3, v4, (v5 + 1)) M h
def f_X1_waysWith_h13 (N : Nat) (k13 : Int32 × Int32 × Int32 × Int32 × Int32 → Mem → Option (Int32 × Mem)) (v1 : Int32) (v2 : Int32) (v3 : Int32) (v4 : Int32) (v5 : Int32) (M : Mem) : Option (Int32 × Mem) :=
  if v4 ≤ v5 then (some (v3, M)) else (bi (f_J6_bitCount_0f7a4 v5 M) fun r_4 M_2 =>
  if r_4 = v1 then (bi (f_X1_canFollow v5 v2 M_2) fun r_7 M_5 =>
  if (b2i r_7) = 0 then (f_X1_waysWith_b61 N k13 v1 v2 v3 v4 v5 M_5) else (ck v5 64 (
  ck (v5 ||| (1 <<< (v2 &&& 31))) 64 (
  bI (v3 + ((M_5.1 105 (tn v5)) * (M_5.1 106 (tn (v5 ||| (1 <<< (v2 &&& 31))))))) fun y_10 =>
  f_X1_waysWith_b61 N k13 v1 v2 y_10 v4 v5 M_5)))) else (f_X1_waysWith_b61 N k13 v1 v2 v3 v4 v5 M_2))
set_option maxRecDepth 20000 in
theorem t_X1_waysWith_h13 {N : Nat} {q : Int32 × Mem} {k13 : Int32 × Int32 × Int32 × Int32 × Int32 → Mem → Option (Int32 × Mem)} (hk13 : ∀ (a : Int32 × Int32 × Int32 × Int32 × Int32) (M : Mem), k13 a M = some q → Fr 0 111 2 m_X1_waysWith 13 [(0, .ref 103), (1, .int a.1), (2, .int a.2.1), (3, .int a.2.2.1), (4, .int a.2.2.2.1), (5, .int a.2.2.2.2)] [] M (QI q)) {v1 : Int32} {v2 : Int32} {v3 : Int32} {v4 : Int32} {v5 : Int32} {M : Mem} (h : f_X1_waysWith_h13 N k13 v1 v2 v3 v4 v5 M = some q) : Fr 0 111 2 m_X1_waysWith 13 [(0, .ref 103), (1, .int v1), (2, .int v2), (3, .int v3), (4, .int v4), (5, .int v5)] [] M (QI q) := by
  unfold f_X1_waysWith_h13 at h
  refine Fr_iload (i := 5) 5 (by decide +kernel) rfl ?_
  refine Fr_iload (i := 4) 4 (by decide +kernel) rfl ?_
  refine Fr_icmp_ge (off := 50) 67 (by decide +kernel) (by decide) (fun hc => ?_) (fun hc => ?_)
  · have h := iT hc h
    refine Fr_iload_n (q := 3) (i := 3) 3 (by decide +kernel) rfl rfl ?_
    obtain rfl := Option.some.inj h
    exact Fr_iret (by decide +kernel) rfl ⟨rfl, rfl⟩
  · have h := iF hc h
    refine Fr_iload (i := 5) 5 (by decide +kernel) rfl ?_
    obtain ⟨r_4, M_2, hc_3, h⟩ := bi_elim h
    refine Fr_cSi (ν := m_J6_bitCount_0f7a4) (As := [.int v5]) (st := []) (d' := 0) (by decide +kernel) ml_X1_47 cs_J6_bitCount_0f7a4 rfl (by decide) (Nat.le_of_ble_eq_true rfl) (t_J6_bitCount_0f7a4 hc_3) ?_
    refine Fr_iload_n (q := 1) (i := 1) 1 (by decide +kernel) rfl rfl ?_
    refine Fr_icmp_ne (off := 35) 61 (by decide +kernel) (by decide) (fun hc => ?_) (fun hc => ?_)
    · have h := iF hc h
      exact t_X1_waysWith_b61 hk13 h
    · have h := iT hc h
      refine Fr_aload_n (q := 0) (i := 0) 0 (by decide +kernel) rfl rfl ?_
      refine Fr_iload (i := 5) 5 (by decide +kernel) rfl ?_
      refine Fr_iload_n (q := 2) (i := 2) 2 (by decide +kernel) rfl rfl ?_
      obtain ⟨r_7, M_5, hc_6, h⟩ := bi_elim h
      refine Fr_cVb (ν := m_X1_canFollow) (As := [.int v5, .int v2]) (st := []) (rc := 103) (ci := 1) (d' := 1) (by decide +kernel) ml_X1_40 cv_X1_canFollow rfl (by decide) rfl ob_103 rfl (by decide) (Nat.le_of_ble_eq_true rfl) (t_X1_canFollow hc_6) ?_
      refine Fr_if_eq (off := 25) 61 (by decide +kernel) (by decide) (fun hc => ?_) (fun hc => ?_)
      · have h := iT hc h
        exact t_X1_waysWith_b61 hk13 h
      · have h := iF hc h
        refine Fr_iload_n (q := 3) (i := 3) 3 (by decide +kernel) rfl rfl ?_
        refine Fr_aload_n (q := 0) (i := 0) 0 (by decide +kernel) rfl rfl ?_
        refine gf_X1_15 rfl (by decide +kernel) ob_103 ?_
        refine Fr_iload (i := 5) 5 (by decide +kernel) rfl ?_
        obtain ⟨hi_8, h⟩ := ck_elim h
        refine Fr_iald (by decide +kernel) ob_105 (vp_of ln_105 hi_8) ?_
        refine Fr_aload_n (q := 0) (i := 0) 0 (by decide +kernel) rfl rfl ?_
        refine gf_X1_18 rfl (by decide +kernel) ob_103 ?_
        refine Fr_iload (i := 5) 5 (by decide +kernel) rfl ?_
        refine Fr_iconst (i := 1) (v := 1) (by decide +kernel) (by decide) ?_
        refine Fr_iload_n (q := 2) (i := 2) 2 (by decide +kernel) rfl rfl ?_
        refine Fr_ishl (by decide +kernel) ?_
        refine Fr_ior (by decide +kernel) ?_
        obtain ⟨hi_9, h⟩ := ck_elim h
        refine Fr_iald (by decide +kernel) ob_106 (vp_of ln_106 hi_9) ?_
        refine Fr_imul (by decide +kernel) ?_
        refine Fr_iadd (by decide +kernel) ?_
        obtain ⟨y_10, ey_10, h⟩ := bI_elim h
        refine Fr_topI ey_10 ?_
        refine Fr_istore_n (q := 3) (i := 3) (lv' := [(3, .int y_10), (0, .ref 103), (1, .int v1), (2, .int v2), (4, .int v4), (5, .int v5)]) (by decide +kernel) rfl (by decide) rfl ?_
        refine Fr_loc [1, 2, 3, 0, 4, 5] rfl ?_
        exact t_X1_waysWith_b61 hk13 h
def f_X1_waysWith (N : Nat) (x1 : Int32) (x2 : Int32) (M : Mem) : Option (Int32 × Mem) :=
  bI (1 <<< ((M.1 103 0) &&& 31)) fun y_1 =>
  lp (fun k a m => f_X1_waysWith_h13 N k a.1 a.2.1 a.2.2.1 a.2.2.2.1 a.2.2.2.2 m) N (x1, x2, 0, y_1, 0) M
set_option maxRecDepth 20000 in
theorem t_X1_waysWith {N : Nat} {x1 : Int32} {x2 : Int32} {M : Mem} {q : Int32 × Mem} (h : f_X1_waysWith N x1 x2 M = some q) : Ev 0 111 2 m_X1_waysWith [.ref 103, .int x1, .int x2] M (QI q) := by
  refine Ev_of_Fr (by decide +kernel) (Nat.le_of_ble_eq_true rfl) ?_
  show Fr 0 111 2 m_X1_waysWith 0 [(0, .ref 103), (1, .int x1), (2, .int x2)] [] M (QI q)
  unfold f_X1_waysWith at h
  refine Fr_iconst (i := 0) (v := 0) (by decide +kernel) (by decide) ?_
  refine Fr_istore_n (q := 3) (i := 3) (lv' := [(3, .int 0), (0, .ref 103), (1, .int x1), (2, .int x2)]) (by decide +kernel) rfl (by decide) rfl ?_
  refine Fr_iconst (i := 1) (v := 1) (by decide +kernel) (by decide) ?_
  refine Fr_aload_n (q := 0) (i := 0) 1 (by decide +kernel) rfl rfl ?_
  refine gf_X1_21 rfl (by decide +kernel) ob_103 ?_
  refine Fr_ishl (by decide +kernel) ?_
  obtain ⟨y_1, ey_1, h⟩ := bI_elim h
  refine Fr_topI ey_1 ?_
  refine Fr_istore (i := 4) (lv' := [(4, .int y_1), (3, .int 0), (0, .ref 103), (1, .int x1), (2, .int x2)]) (by decide +kernel) (by decide) rfl ?_
  refine Fr_iconst (i := 0) (v := 0) (by decide +kernel) (by decide) ?_
  refine Fr_istore (i := 5) (lv' := [(5, .int 0), (4, .int y_1), (3, .int 0), (0, .ref 103), (1, .int x1), (2, .int x2)]) (by decide +kernel) (by decide) rfl ?_
  refine Fr_loc [3, 4, 5, 2, 1, 0] rfl ?_
  exact lp_sound (P := fun a M => Fr 0 111 2 m_X1_waysWith 13 [(0, .ref 103), (1, .int a.1), (2, .int a.2.1), (3, .int a.2.2.1), (4, .int a.2.2.2.1), (5, .int a.2.2.2.2)] [] M (QI q)) (fun k hk a m h => t_X1_waysWith_h13 hk h) N (x1, x2, 0, y_1, 0) M h
def f_X1_onlyGate_h2 (N : Nat) (k2 : Int32 × Int32 → Mem → Option (Int32 × Mem)) (v1 : Int32) (v2 : Int32) (M : Mem) : Option (Int32 × Mem) :=
  if (M.1 103 0) ≤ v2 then (some ((-1), M)) else (if (M.1 103 1) ≤ 0 then (some ((-1), M)) else (bi (f_X1_waysWith N v1 v2 M) fun r_3 M_1 =>
  if r_3 = (M_1.1 103 1) then (some (v2, M_1)) else (k2 (v1, (v2 + 1)) M_1)))
set_option maxRecDepth 20000 in
theorem t_X1_onlyGate_h2 {N : Nat} {q : Int32 × Mem} {k2 : Int32 × Int32 → Mem → Option (Int32 × Mem)} (hk2 : ∀ (a : Int32 × Int32) (M : Mem), k2 a M = some q → Fr 0 111 3 m_X1_onlyGate 2 [(0, .ref 103), (1, .int a.1), (2, .int a.2)] [] M (QI q)) {v1 : Int32} {v2 : Int32} {M : Mem} (h : f_X1_onlyGate_h2 N k2 v1 v2 M = some q) : Fr 0 111 3 m_X1_onlyGate 2 [(0, .ref 103), (1, .int v1), (2, .int v2)] [] M (QI q) := by
  unfold f_X1_onlyGate_h2 at h
  refine Fr_iload_n (q := 2) (i := 2) 2 (by decide +kernel) rfl rfl ?_
  refine Fr_aload_n (q := 0) (i := 0) 0 (by decide +kernel) rfl rfl ?_
  refine gf_X1_21 rfl (by decide +kernel) ob_103 ?_
  refine Fr_icmp_ge (off := 31) 38 (by decide +kernel) (by decide) (fun hc => ?_) (fun hc => ?_)
  · have h := iT hc h
    refine Fr_iconst (i := (-1)) (v := (-1)) (by decide +kernel) (by decide) ?_
    obtain rfl := Option.some.inj h
    exact Fr_iret (by decide +kernel) rfl ⟨rfl, rfl⟩
  · have h := iF hc h
    refine Fr_aload_n (q := 0) (i := 0) 0 (by decide +kernel) rfl rfl ?_
    refine gf_X1_44 rfl (by decide +kernel) ob_103 ?_
    refine Fr_if_le (off := 24) 38 (by decide +kernel) (by decide) (fun hc => ?_) (fun hc => ?_)
    · have h := iT hc h
      refine Fr_iconst (i := (-1)) (v := (-1)) (by decide +kernel) (by decide) ?_
      obtain rfl := Option.some.inj h
      exact Fr_iret (by decide +kernel) rfl ⟨rfl, rfl⟩
    · have h := iF hc h
      refine Fr_aload_n (q := 0) (i := 0) 0 (by decide +kernel) rfl rfl ?_
      refine Fr_iload_n (q := 1) (i := 1) 1 (by decide +kernel) rfl rfl ?_
      refine Fr_iload_n (q := 2) (i := 2) 2 (by decide +kernel) rfl rfl ?_
      obtain ⟨r_3, M_1, hc_2, h⟩ := bi_elim h
      refine Fr_cVi (ν := m_X1_waysWith) (As := [.int v1, .int v2]) (st := []) (rc := 103) (ci := 1) (d' := 2) (by decide +kernel) ml_X1_53 cv_X1_waysWith rfl (by decide) rfl ob_103 rfl (by decide) (Nat.le_of_ble_eq_true rfl) (t_X1_waysWith hc_2) ?_
      refine Fr_aload_n (q := 0) (i := 0) 0 (by decide +kernel) rfl rfl ?_
      refine gf_X1_44 rfl (by decide +kernel) ob_103 ?_
      refine Fr_icmp_ne (off := 5) 32 (by decide +kernel) (by decide) (fun hc => ?_) (fun hc => ?_)
      · have h := iF hc h
        refine Fr_iinc (i := 2) (j := 1) (v := (v2 + 1)) (lv' := [(2, .int (v2 + 1)), (0, .ref 103), (1, .int v1)]) 2 (by decide +kernel) rfl rfl (by decide) rfl ?_
        refine Fr_goto (off := (-33)) 2 (by decide +kernel) (by decide) ?_
        refine Fr_loc [1, 2, 0] rfl ?_
        exact hk2 (v1, (v2 + 1)) M_1 h
      · have h := iT hc h
        refine Fr_iload_n (q := 2) (i := 2) 2 (by decide +kernel) rfl rfl ?_
        obtain rfl := Option.some.inj h
        exact Fr_iret (by decide +kernel) rfl ⟨rfl, rfl⟩
def f_X1_onlyGate (N : Nat) (x1 : Int32) (M : Mem) : Option (Int32 × Mem) :=
  lp (fun k a m => f_X1_onlyGate_h2 N k a.1 a.2 m) N (x1, 0) M
set_option maxRecDepth 20000 in
theorem t_X1_onlyGate {N : Nat} {x1 : Int32} {M : Mem} {q : Int32 × Mem} (h : f_X1_onlyGate N x1 M = some q) : Ev 0 111 3 m_X1_onlyGate [.ref 103, .int x1] M (QI q) := by
  refine Ev_of_Fr (by decide +kernel) (Nat.le_of_ble_eq_true rfl) ?_
  show Fr 0 111 3 m_X1_onlyGate 0 [(0, .ref 103), (1, .int x1)] [] M (QI q)
  unfold f_X1_onlyGate at h
  refine Fr_iconst (i := 0) (v := 0) (by decide +kernel) (by decide) ?_
  refine Fr_istore_n (q := 2) (i := 2) (lv' := [(2, .int 0), (0, .ref 103), (1, .int x1)]) (by decide +kernel) rfl (by decide) rfl ?_
  refine Fr_loc [1, 2, 0] rfl ?_
  exact lp_sound (P := fun a M => Fr 0 111 3 m_X1_onlyGate 2 [(0, .ref 103), (1, .int a.1), (2, .int a.2)] [] M (QI q)) (fun k hk a m h => t_X1_onlyGate_h2 hk h) N (x1, 0) M h
def f_X1_bestTry_b81 (N : Nat) (k21 : Int32 × Int32 × Int32 → Mem → Option (Int32 × Mem)) (k32 : Int32 × Int32 × Int32 × Int32 → Mem → Option (Int32 × Mem)) (v1 : Int32) (v2 : Int32) (v3 : Int32) (v4 : Int32) (M : Mem) : Option (Int32 × Mem) :=
  k32 (v1, v2, v3, (v4 + 1)) M
set_option maxRecDepth 20000 in
theorem t_X1_bestTry_b81 {N : Nat} {q : Int32 × Mem} {k21 : Int32 × Int32 × Int32 → Mem → Option (Int32 × Mem)} (hk21 : ∀ (a : Int32 × Int32 × Int32) (M : Mem), k21 a M = some q → Fr 0 111 3 m_X1_bestTry 21 [(0, .ref 103), (1, .int a.1), (2, .int a.2.1), (3, .int a.2.2)] [] M (QI q)) {k32 : Int32 × Int32 × Int32 × Int32 → Mem → Option (Int32 × Mem)} (hk32 : ∀ (a : Int32 × Int32 × Int32 × Int32) (M : Mem), k32 a M = some q → Fr 0 111 3 m_X1_bestTry 32 [(0, .ref 103), (1, .int a.1), (2, .int a.2.1), (3, .int a.2.2.1), (4, .int a.2.2.2)] [] M (QI q)) {v1 : Int32} {v2 : Int32} {v3 : Int32} {v4 : Int32} {M : Mem} (h : f_X1_bestTry_b81 N k21 k32 v1 v2 v3 v4 M = some q) : Fr 0 111 3 m_X1_bestTry 81 [(0, .ref 103), (1, .int v1), (2, .int v2), (3, .int v3), (4, .int v4)] [] M (QI q) := by
  unfold f_X1_bestTry_b81 at h
  refine Fr_iinc (i := 4) (j := 1) (v := (v4 + 1)) (lv' := [(4, .int (v4 + 1)), (0, .ref 103), (1, .int v1), (2, .int v2), (3, .int v3)]) 4 (by decide +kernel) rfl rfl (by decide) rfl ?_
  refine Fr_goto (off := (-52)) 32 (by decide +kernel) (by decide) ?_
  refine Fr_loc [1, 2, 3, 4, 0] rfl ?_
  exact hk32 (v1, v2, v3, (v4 + 1)) M h
def f_X1_bestTry_h32 (N : Nat) (k21 : Int32 × Int32 × Int32 → Mem → Option (Int32 × Mem)) (k32 : Int32 × Int32 × Int32 × Int32 → Mem → Option (Int32 × Mem)) (v1 : Int32) (v2 : Int32) (v3 : Int32) (v4 : Int32) (M : Mem) : Option (Int32 × Mem) :=
  if (M.1 103 0) ≤ v4 then (k21 (v1, v2, (v3 + 1)) M) else (bi (f_X1_waysWith N v3 v4 M) fun r_3 M_1 =>
  bI (imax r_3 ((M_1.1 103 1) - r_3)) fun y_4 =>
  if v2 ≤ y_4 then (f_X1_bestTry_b81 N k21 k32 v1 v2 v3 v4 M_1) else (f_X1_bestTry_b81 N k21 k32 ((v3 * 10) + v4) y_4 v3 v4 M_1))
set_option maxRecDepth 20000 in
theorem t_X1_bestTry_h32 {N : Nat} {q : Int32 × Mem} {k21 : Int32 × Int32 × Int32 → Mem → Option (Int32 × Mem)} (hk21 : ∀ (a : Int32 × Int32 × Int32) (M : Mem), k21 a M = some q → Fr 0 111 3 m_X1_bestTry 21 [(0, .ref 103), (1, .int a.1), (2, .int a.2.1), (3, .int a.2.2)] [] M (QI q)) {k32 : Int32 × Int32 × Int32 × Int32 → Mem → Option (Int32 × Mem)} (hk32 : ∀ (a : Int32 × Int32 × Int32 × Int32) (M : Mem), k32 a M = some q → Fr 0 111 3 m_X1_bestTry 32 [(0, .ref 103), (1, .int a.1), (2, .int a.2.1), (3, .int a.2.2.1), (4, .int a.2.2.2)] [] M (QI q)) {v1 : Int32} {v2 : Int32} {v3 : Int32} {v4 : Int32} {M : Mem} (h : f_X1_bestTry_h32 N k21 k32 v1 v2 v3 v4 M = some q) : Fr 0 111 3 m_X1_bestTry 32 [(0, .ref 103), (1, .int v1), (2, .int v2), (3, .int v3), (4, .int v4)] [] M (QI q) := by
  unfold f_X1_bestTry_h32 at h
  refine Fr_iload (i := 4) 4 (by decide +kernel) rfl ?_
  refine Fr_aload_n (q := 0) (i := 0) 0 (by decide +kernel) rfl rfl ?_
  refine gf_X1_21 rfl (by decide +kernel) ob_103 ?_
  refine Fr_icmp_ge (off := 49) 87 (by decide +kernel) (by decide) (fun hc => ?_) (fun hc => ?_)
  · have h := iT hc h
    refine Fr_iinc (i := 3) (j := 1) (v := (v3 + 1)) (lv' := [(3, .int (v3 + 1)), (0, .ref 103), (1, .int v1), (2, .int v2), (4, .int v4)]) 3 (by decide +kernel) rfl rfl (by decide) rfl ?_
    refine Fr_goto (off := (-69)) 21 (by decide +kernel) (by decide) ?_
    refine Fr_loc [1, 2, 3, 0] rfl ?_
    exact hk21 (v1, v2, (v3 + 1)) M h
  · have h := iF hc h
    refine Fr_aload_n (q := 0) (i := 0) 0 (by decide +kernel) rfl rfl ?_
    refine Fr_iload_n (q := 3) (i := 3) 3 (by decide +kernel) rfl rfl ?_
    refine Fr_iload (i := 4) 4 (by decide +kernel) rfl ?_
    obtain ⟨r_3, M_1, hc_2, h⟩ := bi_elim h
    refine Fr_cVi (ν := m_X1_waysWith) (As := [.int v3, .int v4]) (st := []) (rc := 103) (ci := 1) (d' := 2) (by decide +kernel) ml_X1_53 cv_X1_waysWith rfl (by decide) rfl ob_103 rfl (by decide) (Nat.le_of_ble_eq_true rfl) (t_X1_waysWith hc_2) ?_
    refine Fr_istore (i := 5) (lv' := [(5, .int r_3), (0, .ref 103), (1, .int v1), (2, .int v2), (3, .int v3), (4, .int v4)]) (by decide +kernel) (by decide) rfl ?_
    refine Fr_iload (i := 5) 0 (by decide +kernel) rfl ?_
    refine Fr_aload_n (q := 0) (i := 0) 1 (by decide +kernel) rfl rfl ?_
    refine gf_X1_44 rfl (by decide +kernel) ob_103 ?_
    refine Fr_iload (i := 5) 0 (by decide +kernel) rfl ?_
    refine Fr_isub (by decide +kernel) ?_
    refine Fr_max (by decide +kernel) ml_X1_57 (by decide) (Nat.le_of_ble_eq_true rfl) ?_
    obtain ⟨y_4, ey_4, h⟩ := bI_elim h
    refine Fr_topI ey_4 ?_
    refine Fr_istore (i := 6) (lv' := [(6, .int y_4), (5, .int r_3), (0, .ref 103), (1, .int v1), (2, .int v2), (3, .int v3), (4, .int v4)]) (by decide +kernel) (by decide) rfl ?_
    refine Fr_iload (i := 6) 0 (by decide +kernel) rfl ?_
    refine Fr_iload_n (q := 2) (i := 2) 4 (by decide +kernel) rfl rfl ?_
    refine Fr_icmp_ge (off := 14) 81 (by decide +kernel) (by decide) (fun hc => ?_) (fun hc => ?_)
    · have h := iT hc h
      refine Fr_loc [2, 3, 4, 5, 6] rfl ?_
      exact t_X1_bestTry_b81 hk21 hk32 h
    · have h := iF hc h
      refine Fr_iload (i := 6) 0 (by decide +kernel) rfl ?_
      refine Fr_istore_n (q := 2) (i := 2) (lv' := [(2, .int y_4), (6, .int y_4), (5, .int r_3), (0, .ref 103), (1, .int v1), (3, .int v3), (4, .int v4)]) (by decide +kernel) rfl (by decide) rfl ?_
      refine Fr_iload_n (q := 3) (i := 3) 5 (by decide +kernel) rfl rfl ?_
      refine Fr_bipush (i := 10) (v := 10) (by decide +kernel) (by decide) ?_
      refine Fr_imul (by decide +kernel) ?_
      refine Fr_iload (i := 4) 6 (by decide +kernel) rfl ?_
      refine Fr_iadd (by decide +kernel) ?_
      refine Fr_istore_n (q := 1) (i := 1) (lv' := [(1, .int ((v3 * 10) + v4)), (2, .int y_4), (6, .int y_4), (5, .int r_3), (0, .ref 103), (3, .int v3), (4, .int v4)]) (by decide +kernel) rfl (by decide) rfl ?_
      refine Fr_loc [4, 0, 1, 5, 6] rfl ?_
      exact t_X1_bestTry_b81 hk21 hk32 h
def f_X1_bestTry_h21 (N : Nat) (k21 : Int32 × Int32 × Int32 → Mem → Option (Int32 × Mem)) (v1 : Int32) (v2 : Int32) (v3 : Int32) (M : Mem) : Option (Int32 × Mem) :=
  if (M.1 103 0) ≤ v3 then (some (v1, M)) else (lp (fun k a m => f_X1_bestTry_h32 N k21 k a.1 a.2.1 a.2.2.1 a.2.2.2 m) N (v1, v2, v3, 0) M)
set_option maxRecDepth 20000 in
theorem t_X1_bestTry_h21 {N : Nat} {q : Int32 × Mem} {k21 : Int32 × Int32 × Int32 → Mem → Option (Int32 × Mem)} (hk21 : ∀ (a : Int32 × Int32 × Int32) (M : Mem), k21 a M = some q → Fr 0 111 3 m_X1_bestTry 21 [(0, .ref 103), (1, .int a.1), (2, .int a.2.1), (3, .int a.2.2)] [] M (QI q)) {v1 : Int32} {v2 : Int32} {v3 : Int32} {M : Mem} (h : f_X1_bestTry_h21 N k21 v1 v2 v3 M = some q) : Fr 0 111 3 m_X1_bestTry 21 [(0, .ref 103), (1, .int v1), (2, .int v2), (3, .int v3)] [] M (QI q) := by
  unfold f_X1_bestTry_h21 at h
  refine Fr_iload_n (q := 3) (i := 3) 3 (by decide +kernel) rfl rfl ?_
  refine Fr_aload_n (q := 0) (i := 0) 0 (by decide +kernel) rfl rfl ?_
  refine gf_X1_21 rfl (by decide +kernel) ob_103 ?_
  refine Fr_icmp_ge (off := 67) 93 (by decide +kernel) (by decide) (fun hc => ?_) (fun hc => ?_)
  · have h := iT hc h
    refine Fr_iload_n (q := 1) (i := 1) 1 (by decide +kernel) rfl rfl ?_
    obtain rfl := Option.some.inj h
    exact Fr_iret (by decide +kernel) rfl ⟨rfl, rfl⟩
  · have h := iF hc h
    refine Fr_iconst (i := 0) (v := 0) (by decide +kernel) (by decide) ?_
    refine Fr_istore (i := 4) (lv' := [(4, .int 0), (0, .ref 103), (1, .int v1), (2, .int v2), (3, .int v3)]) (by decide +kernel) (by decide) rfl ?_
    refine Fr_loc [1, 2, 3, 4, 0] rfl ?_
    exact lp_sound (P := fun a M => Fr 0 111 3 m_X1_bestTry 32 [(0, .ref 103), (1, .int a.1), (2, .int a.2.1), (3, .int a.2.2.1), (4, .int a.2.2.2)] [] M (QI q)) (fun k hk a m h => t_X1_bestTry_h32 hk21 hk h) N (v1, v2, v3, 0) M h
def f_X1_bestTry (N : Nat) (M : Mem) : Option (Int32 × Mem) :=
  if 2 ≤ (M.1 103 1) then (lp (fun k a m => f_X1_bestTry_h21 N k a.1 a.2.1 a.2.2 m) N ((-1), ((M.1 103 1) + 1), 0) M) else (some ((-1), M))
set_option maxRecDepth 20000 in
theorem t_X1_bestTry {N : Nat} {M : Mem} {q : Int32 × Mem} (h : f_X1_bestTry N M = some q) : Ev 0 111 3 m_X1_bestTry [.ref 103] M (QI q) := by
  refine Ev_of_Fr (by decide +kernel) (Nat.le_of_ble_eq_true rfl) ?_
  show Fr 0 111 3 m_X1_bestTry 0 [(0, .ref 103)] [] M (QI q)
  unfold f_X1_bestTry at h
  refine Fr_aload_n (q := 0) (i := 0) 0 (by decide +kernel) rfl rfl ?_
  refine gf_X1_44 rfl (by decide +kernel) ob_103 ?_
  refine Fr_iconst (i := 2) (v := 2) (by decide +kernel) (by decide) ?_
  refine Fr_icmp_ge (off := 5) 10 (by decide +kernel) (by decide) (fun hc => ?_) (fun hc => ?_)
  · have h := iT hc h
    refine Fr_iconst (i := (-1)) (v := (-1)) (by decide +kernel) (by decide) ?_
    refine Fr_istore_n (q := 1) (i := 1) (lv' := [(1, .int (-1)), (0, .ref 103)]) (by decide +kernel) rfl (by decide) rfl ?_
    refine Fr_aload_n (q := 0) (i := 0) 1 (by decide +kernel) rfl rfl ?_
    refine gf_X1_44 rfl (by decide +kernel) ob_103 ?_
    refine Fr_iconst (i := 1) (v := 1) (by decide +kernel) (by decide) ?_
    refine Fr_iadd (by decide +kernel) ?_
    refine Fr_istore_n (q := 2) (i := 2) (lv' := [(2, .int ((M.1 103 1) + 1)), (1, .int (-1)), (0, .ref 103)]) (by decide +kernel) rfl (by decide) rfl ?_
    refine Fr_iconst (i := 0) (v := 0) (by decide +kernel) (by decide) ?_
    refine Fr_istore_n (q := 3) (i := 3) (lv' := [(3, .int 0), (2, .int ((M.1 103 1) + 1)), (1, .int (-1)), (0, .ref 103)]) (by decide +kernel) rfl (by decide) rfl ?_
    refine Fr_loc [3, 2, 1, 0] rfl ?_
    exact lp_sound (P := fun a M => Fr 0 111 3 m_X1_bestTry 21 [(0, .ref 103), (1, .int a.1), (2, .int a.2.1), (3, .int a.2.2)] [] M (QI q)) (fun k hk a m h => t_X1_bestTry_h21 hk h) N ((-1), ((M.1 103 1) + 1), 0) M h
  · have h := iF hc h
    refine Fr_iconst (i := (-1)) (v := (-1)) (by decide +kernel) (by decide) ?_
    obtain rfl := Option.some.inj h
    exact Fr_iret (by decide +kernel) rfl ⟨rfl, rfl⟩
def f_X2_factOf (p0 : Nat) (x1 : Int32) (M : Mem) : Option (Int32 × Mem) :=
  if x1 = 0 then (some ((M.1 p0 5), M)) else (if x1 = 1 then (some ((M.1 p0 6), M)) else (if x1 = 2 then (some ((M.1 p0 7), M)) else (if x1 = 3 then (some ((M.1 p0 8), M)) else (if (M.1 p0 9) = 0 then (some (0, M)) else (some (1, M))))))
set_option maxRecDepth 20000 in
theorem t_X2_factOf {p0 : Nat} {x1 : Int32} (hp0 : Ob 0 111 p0 2) {M : Mem} {q : Int32 × Mem} (h : f_X2_factOf p0 x1 M = some q) : Ev 0 111 0 m_X2_factOf [.ref p0, .int x1] M (QI q) := by
  refine Ev_of_Fr (by decide +kernel) (Nat.le_of_ble_eq_true rfl) ?_
  show Fr 0 111 0 m_X2_factOf 0 [(0, .ref p0), (1, .int x1)] [] M (QI q)
  unfold f_X2_factOf at h
  refine Fr_iload_n (q := 1) (i := 1) 1 (by decide +kernel) rfl rfl ?_
  by_cases hs_1 : x1 = 0
  · have h := iT hs_1 h
    refine Fr_tabIn (dflt := 51) (lo := 0) (hi := 3) (offs := #[31, 36, 41, 46]) (len := 31) (off := 31) 32 (by decide +kernel) (by rw [hs_1]; decide) (by rw [hs_1]; decide) (by rw [hs_1]; rfl) (by decide) ?_
    refine Fr_aload_n (q := 0) (i := 0) 0 (by decide +kernel) rfl rfl ?_
    refine gf_X2_21 rfl (by decide +kernel) hp0 ?_
    obtain rfl := Option.some.inj h
    exact Fr_iret (by decide +kernel) rfl ⟨rfl, rfl⟩
  have h := iF hs_1 h
  by_cases hs_2 : x1 = 1
  · have h := iT hs_2 h
    refine Fr_tabIn (dflt := 51) (lo := 0) (hi := 3) (offs := #[31, 36, 41, 46]) (len := 31) (off := 36) 37 (by decide +kernel) (by rw [hs_2]; decide) (by rw [hs_2]; decide) (by rw [hs_2]; rfl) (by decide) ?_
    refine Fr_aload_n (q := 0) (i := 0) 0 (by decide +kernel) rfl rfl ?_
    refine gf_X2_25 rfl (by decide +kernel) hp0 ?_
    obtain rfl := Option.some.inj h
    exact Fr_iret (by decide +kernel) rfl ⟨rfl, rfl⟩
  have h := iF hs_2 h
  by_cases hs_3 : x1 = 2
  · have h := iT hs_3 h
    refine Fr_tabIn (dflt := 51) (lo := 0) (hi := 3) (offs := #[31, 36, 41, 46]) (len := 31) (off := 41) 42 (by decide +kernel) (by rw [hs_3]; decide) (by rw [hs_3]; decide) (by rw [hs_3]; rfl) (by decide) ?_
    refine Fr_aload_n (q := 0) (i := 0) 0 (by decide +kernel) rfl rfl ?_
    refine gf_X2_28 rfl (by decide +kernel) hp0 ?_
    obtain rfl := Option.some.inj h
    exact Fr_iret (by decide +kernel) rfl ⟨rfl, rfl⟩
  have h := iF hs_3 h
  by_cases hs_4 : x1 = 3
  · have h := iT hs_4 h
    refine Fr_tabIn (dflt := 51) (lo := 0) (hi := 3) (offs := #[31, 36, 41, 46]) (len := 31) (off := 46) 47 (by decide +kernel) (by rw [hs_4]; decide) (by rw [hs_4]; decide) (by rw [hs_4]; rfl) (by decide) ?_
    refine Fr_aload_n (q := 0) (i := 0) 0 (by decide +kernel) rfl rfl ?_
    refine gf_X2_31 rfl (by decide +kernel) hp0 ?_
    obtain rfl := Option.some.inj h
    exact Fr_iret (by decide +kernel) rfl ⟨rfl, rfl⟩
  have h := iF hs_4 h
  have hhs_1 := lv_neT (a := 0) hs_1 (by decide)
  have hhs_2 := lv_neT (a := 1) hs_2 (by decide)
  have hhs_3 := lv_neT (a := 2) hs_3 (by decide)
  have hhs_4 := lv_neT (a := 3) hs_4 (by decide)
  refine Fr_tabOut (dflt := 51) (lo := 0) (hi := 3) (offs := #[31, 36, 41, 46]) (len := 31) 52 (by decide +kernel) (by omega) (by decide) ?_
  refine Fr_aload_n (q := 0) (i := 0) 0 (by decide +kernel) rfl rfl ?_
  refine gf_X2_34 rfl (by decide +kernel) hp0 ?_
  refine Fr_if_eq (off := 7) 63 (by decide +kernel) (by decide) (fun hc => ?_) (fun hc => ?_)
  · have h := iT hc h
    refine Fr_iconst (i := 0) (v := 0) (by decide +kernel) (by decide) ?_
    obtain rfl := Option.some.inj h
    exact Fr_iret (by decide +kernel) rfl ⟨rfl, rfl⟩
  · have h := iF hc h
    refine Fr_iconst (i := 1) (v := 1) (by decide +kernel) (by decide) ?_
    refine Fr_goto (off := 4) 64 (by decide +kernel) (by decide) ?_
    obtain rfl := Option.some.inj h
    exact Fr_iret (by decide +kernel) rfl ⟨rfl, rfl⟩
def f_X2_behindEnd (p0 : Nat) (p1 : Nat) (x2 : Int32) (M : Mem) : Option (Int32 × Mem) :=
  ck x2 60 (
  ck (M.1 (p1 + 5) (tn x2)) 60 (
  if (M.1 (p1 + 1) (tn (M.1 (p1 + 5) (tn x2)))) = 7 then (ck (M.1 (p1 + 5) (tn x2)) 60 (
  ck (M.1 (p1 + 5) (tn x2)) 60 (
  bM (uI M (p0 + 1) (tn (M.1 (p1 + 5) (tn x2))) ((M.1 (p0 + 1) (tn (M.1 (p1 + 5) (tn x2)))) - 1)) fun M_5 =>
  ck (M.1 (p1 + 5) (tn x2)) 60 (
  if (M_5.1 (p0 + 1) (tn (M.1 (p1 + 5) (tn x2)))) ≤ 0 then (some ((x2 + 1), M_5)) else (some (((M.1 (p1 + 5) (tn x2)) + 1), M_5)))))) else (some ((x2 + 1), M))))
set_option maxRecDepth 20000 in
theorem t_X2_behindEnd {p0 : Nat} {p1 : Nat} {x2 : Int32} (hp0 : Ob 0 111 p0 2) (hp1 : Ob 0 111 p1 3) {M : Mem} {q : Int32 × Mem} (h : f_X2_behindEnd p0 p1 x2 M = some q) : Ev 0 111 0 m_X2_behindEnd [.ref p0, .ref p1, .int x2] M (QI q) := by
  refine Ev_of_Fr (by decide +kernel) (Nat.le_of_ble_eq_true rfl) ?_
  show Fr 0 111 0 m_X2_behindEnd 0 [(0, .ref p0), (1, .ref p1), (2, .int x2)] [] M (QI q)
  unfold f_X2_behindEnd at h
  refine Fr_aload_n (q := 1) (i := 1) 1 (by decide +kernel) rfl rfl ?_
  refine gf_X2_68 rfl (by decide +kernel) hp1 ?_
  refine Fr_iload_n (q := 2) (i := 2) 2 (by decide +kernel) rfl rfl ?_
  obtain ⟨hi_1, h⟩ := ck_elim h
  refine Fr_iald (by decide +kernel) (o3_5 hp1) (vp_of (n3_5 hp1) hi_1) ?_
  refine Fr_istore_n (q := 3) (i := 3) (lv' := [(3, .int (M.1 (p1 + 5) (tn x2))), (0, .ref p0), (1, .ref p1), (2, .int x2)]) (by decide +kernel) rfl (by decide) rfl ?_
  refine Fr_aload_n (q := 1) (i := 1) 2 (by decide +kernel) rfl rfl ?_
  refine gf_X2_57 rfl (by decide +kernel) hp1 ?_
  refine Fr_iload_n (q := 3) (i := 3) 0 (by decide +kernel) rfl rfl ?_
  obtain ⟨hi_2, h⟩ := ck_elim h
  refine Fr_iald (by decide +kernel) (o3_1 hp1) (vp_of (n3_1 hp1) hi_2) ?_
  refine Fr_bipush (i := 7) (v := 7) (by decide +kernel) (by decide) ?_
  refine Fr_icmp_eq (off := 7) 22 (by decide +kernel) (by decide) (fun hc => ?_) (fun hc => ?_)
  · have h := iT hc h
    refine Fr_aload_n (q := 0) (i := 0) 1 (by decide +kernel) rfl rfl ?_
    refine gf_X2_11 rfl (by decide +kernel) hp0 ?_
    refine Fr_iload_n (q := 3) (i := 3) 0 (by decide +kernel) rfl rfl ?_
    refine Fr_dup2 (by decide +kernel) rfl rfl ?_
    obtain ⟨hi_3, h⟩ := ck_elim h
    refine Fr_iald (by decide +kernel) (o2_1 hp0) (vp_of (n2_1 hp0) hi_3) ?_
    refine Fr_iconst (i := 1) (v := 1) (by decide +kernel) (by decide) ?_
    refine Fr_isub (by decide +kernel) ?_
    obtain ⟨hi_4, h⟩ := ck_elim h
    refine Fr_iast (by decide +kernel) (o2_1 hp0) (vp_of (n2_1 hp0) hi_4) ?_
    obtain ⟨M_5, eM_5, h⟩ := bM_elim h
    refine Fr_mem eM_5 ?_
    refine Fr_aload_n (q := 0) (i := 0) 1 (by decide +kernel) rfl rfl ?_
    refine gf_X2_11 rfl (by decide +kernel) hp0 ?_
    refine Fr_iload_n (q := 3) (i := 3) 0 (by decide +kernel) rfl rfl ?_
    obtain ⟨hi_6, h⟩ := ck_elim h
    refine Fr_iald (by decide +kernel) (o2_1 hp0) (vp_of (n2_1 hp0) hi_6) ?_
    refine Fr_if_le (off := 9) 47 (by decide +kernel) (by decide) (fun hc => ?_) (fun hc => ?_)
    · have h := iT hc h
      refine Fr_iload_n (q := 2) (i := 2) 3 (by decide +kernel) rfl rfl ?_
      refine Fr_iconst (i := 1) (v := 1) (by decide +kernel) (by decide) ?_
      refine Fr_iadd (by decide +kernel) ?_
      obtain rfl := Option.some.inj h
      exact Fr_iret (by decide +kernel) rfl ⟨rfl, rfl⟩
    · have h := iF hc h
      refine Fr_iload_n (q := 3) (i := 3) 0 (by decide +kernel) rfl rfl ?_
      refine Fr_iconst (i := 1) (v := 1) (by decide +kernel) (by decide) ?_
      refine Fr_iadd (by decide +kernel) ?_
      refine Fr_goto (off := 6) 50 (by decide +kernel) (by decide) ?_
      obtain rfl := Option.some.inj h
      exact Fr_iret (by decide +kernel) rfl ⟨rfl, rfl⟩
  · have h := iF hc h
    refine Fr_iload_n (q := 2) (i := 2) 3 (by decide +kernel) rfl rfl ?_
    refine Fr_iconst (i := 1) (v := 1) (by decide +kernel) (by decide) ?_
    refine Fr_iadd (by decide +kernel) ?_
    obtain rfl := Option.some.inj h
    exact Fr_iret (by decide +kernel) rfl ⟨rfl, rfl⟩
def f_X10_isAsAhead_h2 (N : Nat) (p1 : Nat) (k2 : Int32 → Mem → Option (Bool × Mem)) (v2 : Int32) (M : Mem) : Option (Bool × Mem) :=
  if 60 ≤ v2 then (some (true, M)) else (ck v2 (ln p1) (
  ck v2 60 (
  if (M.1 p1 (tn v2)) = (M.1 92 (tn v2)) then (k2 (v2 + 1) M) else (some (false, M)))))
set_option maxRecDepth 20000 in
theorem t_X10_isAsAhead_h2 {N : Nat} {p1 : Nat} (hp1 : Ob 0 111 p1 20) {q : Bool × Mem} {k2 : Int32 → Mem → Option (Bool × Mem)} (hk2 : ∀ (a : Int32) (M : Mem), k2 a M = some q → Fr 0 111 0 m_X10_isAsAhead 2 [(0, .ref 90), (1, .ref p1), (2, .int a)] [] M (QB q)) {v2 : Int32} {M : Mem} (h : f_X10_isAsAhead_h2 N p1 k2 v2 M = some q) : Fr 0 111 0 m_X10_isAsAhead 2 [(0, .ref 90), (1, .ref p1), (2, .int v2)] [] M (QB q) := by
  unfold f_X10_isAsAhead_h2 at h
  refine Fr_iload_n (q := 2) (i := 2) 2 (by decide +kernel) rfl rfl ?_
  refine Fr_bipush (i := 60) (v := 60) (by decide +kernel) (by decide) ?_
  refine Fr_icmp_ge (off := 23) 28 (by decide +kernel) (by decide) (fun hc => ?_) (fun hc => ?_)
  · have h := iT hc h
    refine Fr_iconst (i := 1) (v := 1) (by decide +kernel) (by decide) ?_
    obtain rfl := Option.some.inj h
    exact Fr_zret (by decide +kernel) rfl (by decide) ⟨rfl, rfl⟩
  · have h := iF hc h
    refine Fr_aload_n (q := 1) (i := 1) 1 (by decide +kernel) rfl rfl ?_
    refine Fr_iload_n (q := 2) (i := 2) 2 (by decide +kernel) rfl rfl ?_
    obtain ⟨hi_1, h⟩ := ck_elim h
    refine Fr_iald (by decide +kernel) hp1 (vp_of rfl hi_1) ?_
    refine Fr_aload_n (q := 0) (i := 0) 0 (by decide +kernel) rfl rfl ?_
    refine gf_X10_15 rfl (by decide +kernel) ob_90 ?_
    refine Fr_iload_n (q := 2) (i := 2) 2 (by decide +kernel) rfl rfl ?_
    obtain ⟨hi_2, h⟩ := ck_elim h
    refine Fr_iald (by decide +kernel) ob_92 (vp_of ln_92 hi_2) ?_
    refine Fr_icmp_eq (off := 5) 22 (by decide +kernel) (by decide) (fun hc => ?_) (fun hc => ?_)
    · have h := iT hc h
      refine Fr_iinc (i := 2) (j := 1) (v := (v2 + 1)) (lv' := [(2, .int (v2 + 1)), (0, .ref 90), (1, .ref p1)]) 2 (by decide +kernel) rfl rfl (by decide) rfl ?_
      refine Fr_goto (off := (-23)) 2 (by decide +kernel) (by decide) ?_
      refine Fr_loc [1, 2, 0] rfl ?_
      exact hk2 (v2 + 1) M h
    · have h := iF hc h
      refine Fr_iconst (i := 0) (v := 0) (by decide +kernel) (by decide) ?_
      obtain rfl := Option.some.inj h
      exact Fr_zret (by decide +kernel) rfl (by decide) ⟨rfl, rfl⟩
def f_X10_isAsAhead (N : Nat) (p1 : Nat) (M : Mem) : Option (Bool × Mem) :=
  lp (fun k a m => f_X10_isAsAhead_h2 N p1 k a m) N 0 M
set_option maxRecDepth 20000 in
theorem t_X10_isAsAhead {N : Nat} {p1 : Nat} (hp1 : Ob 0 111 p1 20) {M : Mem} {q : Bool × Mem} (h : f_X10_isAsAhead N p1 M = some q) : Ev 0 111 0 m_X10_isAsAhead [.ref 90, .ref p1] M (QB q) := by
  refine Ev_of_Fr (by decide +kernel) (Nat.le_of_ble_eq_true rfl) ?_
  show Fr 0 111 0 m_X10_isAsAhead 0 [(0, .ref 90), (1, .ref p1)] [] M (QB q)
  unfold f_X10_isAsAhead at h
  refine Fr_iconst (i := 0) (v := 0) (by decide +kernel) (by decide) ?_
  refine Fr_istore_n (q := 2) (i := 2) (lv' := [(2, .int 0), (0, .ref 90), (1, .ref p1)]) (by decide +kernel) rfl (by decide) rfl ?_
  refine Fr_loc [1, 2, 0] rfl ?_
  exact lp_sound (P := fun a M => Fr 0 111 0 m_X10_isAsAhead 2 [(0, .ref 90), (1, .ref p1), (2, .int a)] [] M (QB q)) (fun k hk a m h => t_X10_isAsAhead_h2 hp1 hk h) N 0 M h
