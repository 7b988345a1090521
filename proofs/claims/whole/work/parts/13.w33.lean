set_option maxRecDepth 20000 in
theorem t_X12_isSo {x1 : Int32} {M : Mem} {q : Bool × Mem} (h : f_X12_isSo x1 M = some q) : Ev 200 21 2 m_X12_isSo [.ref 200, .int x1] M (QB q) := by
  refine Ev_of_Fr (by decide +kernel) (Nat.le_of_ble_eq_true rfl) ?_
  show Fr 200 21 2 m_X12_isSo 0 [(0, .ref 200), (1, .int x1)] [] M (QB q)
  unfold f_X12_isSo at h
  refine Fr_aload_n (q := 0) (i := 0) 0 (by decide +kernel) rfl rfl ?_
  refine gf_X12_35 rfl (by decide +kernel) ob_200 ?_
  refine Fr_iload_n (q := 1) (i := 1) 1 (by decide +kernel) rfl rfl ?_
  refine Fr_bipush (i := 6) (v := 6) (by decide +kernel) (by decide) ?_
  refine Fr_iadd (by decide +kernel) ?_
  obtain ⟨hi_1, h⟩ := ck_elim h
  refine Fr_iald (by decide +kernel) ob_205 (vp_of ln_205 hi_1) ?_
  refine Fr_istore_n (q := 2) (i := 2) (lv' := [(2, .int (M.1 205 (tn (x1 + 6)))), (0, .ref 200), (1, .int x1)]) (by decide +kernel) rfl (by decide) rfl ?_
  refine Fr_iload_n (q := 2) (i := 2) 0 (by decide +kernel) rfl rfl ?_
  refine Fr_iconst (i := 1) (v := 1) (by decide +kernel) (by decide) ?_
  refine Fr_icmp_ne (off := 22) 34 (by decide +kernel) (by decide) (fun hc => ?_) (fun hc => ?_)
  · have h := iF hc h
    refine Fr_aload_n (q := 0) (i := 0) 1 (by decide +kernel) rfl rfl ?_
    refine Fr_aload_n (q := 0) (i := 0) 1 (by decide +kernel) rfl rfl ?_
    refine gf_X12_35 rfl (by decide +kernel) ob_200 ?_
    refine Fr_iload_n (q := 1) (i := 1) 2 (by decide +kernel) rfl rfl ?_
    refine Fr_iconst (i := 1) (v := 1) (by decide +kernel) (by decide) ?_
    refine Fr_iadd (by decide +kernel) ?_
    obtain ⟨hi_2, h⟩ := ck_elim h
    refine Fr_iald (by decide +kernel) ob_205 (vp_of ln_205 hi_2) ?_
    refine Fr_aload_n (q := 0) (i := 0) 1 (by decide +kernel) rfl rfl ?_
    refine gf_X12_35 rfl (by decide +kernel) ob_200 ?_
    refine Fr_iload_n (q := 1) (i := 1) 2 (by decide +kernel) rfl rfl ?_
    refine Fr_iconst (i := 2) (v := 2) (by decide +kernel) (by decide) ?_
    refine Fr_iadd (by decide +kernel) ?_
    obtain ⟨hi_3, h⟩ := ck_elim h
    refine Fr_iald (by decide +kernel) ob_205 (vp_of ln_205 hi_3) ?_
    obtain ⟨r_6, M_4, hc_5, h⟩ := bi_elim h
    refine Fr_cVi (ν := m_X12_board) (As := [.int (M.1 205 (tn (x1 + 1))), .int (M.1 205 (tn (x1 + 2)))]) (st := []) (rc := 200) (ci := 12) (d' := 0) (by decide +kernel) ml_X12_396 cv_X12_board rfl (by decide) rfl ob_200 rfl (by decide) (Nat.le_of_ble_eq_true rfl) (t_X12_board hc_5) ?_
    refine Fr_istore_n (q := 3) (i := 3) (lv' := [(3, .int r_6), (2, .int (M.1 205 (tn (x1 + 6)))), (0, .ref 200), (1, .int x1)]) (by decide +kernel) rfl (by decide) rfl ?_
    refine Fr_iload_n (q := 2) (i := 2) 1 (by decide +kernel) rfl rfl ?_
    refine Fr_if_ne (off := 9) 65 (by decide +kernel) (by decide) (fun hc => ?_) (fun hc => ?_)
    · have h := iF hc h
      refine Fr_aload_n (q := 0) (i := 0) 2 (by decide +kernel) rfl rfl ?_
      refine Fr_iload_n (q := 3) (i := 3) 0 (by decide +kernel) rfl rfl ?_
      obtain ⟨r_9, M_7, hc_8, h⟩ := bi_elim h
      refine Fr_cVi (ν := m_X12_fogOf) (As := [.int r_6]) (st := []) (rc := 200) (ci := 12) (d' := 0) (by decide +kernel) ml_X12_360 cv_X12_fogOf rfl (by decide) rfl ob_200 rfl (by decide) (Nat.le_of_ble_eq_true rfl) (t_X12_fogOf hc_8) ?_
      refine Fr_istore (i := 4) (lv' := [(4, .int r_9), (3, .int r_6), (2, .int (M.1 205 (tn (x1 + 6)))), (0, .ref 200), (1, .int x1)]) (by decide +kernel) (by decide) rfl ?_
      refine Fr_aload_n (q := 0) (i := 0) 3 (by decide +kernel) rfl rfl ?_
      refine gf_X12_35 rfl (by decide +kernel) ob_200 ?_
      refine Fr_iload_n (q := 1) (i := 1) 4 (by decide +kernel) rfl rfl ?_
      refine Fr_bipush (i := 7) (v := 7) (by decide +kernel) (by decide) ?_
      refine Fr_iadd (by decide +kernel) ?_
      obtain ⟨hi_10, h⟩ := ck_elim h
      refine Fr_iald (by decide +kernel) ob_205 (vp_of ln_205 hi_10) ?_
      refine Fr_bipush (i := 60) (v := 60) (by decide +kernel) (by decide) ?_
      refine Fr_icmp_ne (off := 24) 107 (by decide +kernel) (by decide) (fun hc => ?_) (fun hc => ?_)
      · have h := iF hc h
        refine Fr_aload_n (q := 0) (i := 0) 3 (by decide +kernel) rfl rfl ?_
        refine gf_X12_35 rfl (by decide +kernel) ob_200 ?_
        refine Fr_iload_n (q := 1) (i := 1) 4 (by decide +kernel) rfl rfl ?_
        refine Fr_bipush (i := 7) (v := 7) (by decide +kernel) (by decide) ?_
        refine Fr_iadd (by decide +kernel) ?_
        obtain ⟨hi_11, h⟩ := ck_elim h
        refine Fr_iald (by decide +kernel) ob_205 (vp_of ln_205 hi_11) ?_
        refine Fr_bipush (i := 62) (v := 62) (by decide +kernel) (by decide) ?_
        refine Fr_icmp_ne (off := 24) 142 (by decide +kernel) (by decide) (fun hc => ?_) (fun hc => ?_)
        · have h := iF hc h
          refine Fr_iload (i := 4) 0 (by decide +kernel) rfl ?_
          refine Fr_aload_n (q := 0) (i := 0) 3 (by decide +kernel) rfl rfl ?_
          refine gf_X12_35 rfl (by decide +kernel) ob_200 ?_
          refine Fr_iload_n (q := 1) (i := 1) 4 (by decide +kernel) rfl rfl ?_
          refine Fr_iconst (i := 3) (v := 3) (by decide +kernel) (by decide) ?_
          refine Fr_iadd (by decide +kernel) ?_
          obtain ⟨hi_12, h⟩ := ck_elim h
          refine Fr_iald (by decide +kernel) ob_205 (vp_of ln_205 hi_12) ?_
          refine Fr_icmp_ne (off := 7) 159 (by decide +kernel) (by decide) (fun hc => ?_) (fun hc => ?_)
          · have h := iF hc h
            refine Fr_iconst (i := 0) (v := 0) (by decide +kernel) (by decide) ?_
            obtain rfl := Option.some.inj h
            exact Fr_zret (by decide +kernel) rfl (by decide) ⟨rfl, rfl⟩
          · have h := iT hc h
            refine Fr_iconst (i := 1) (v := 1) (by decide +kernel) (by decide) ?_
            refine Fr_goto (off := 4) 160 (by decide +kernel) (by decide) ?_
            obtain rfl := Option.some.inj h
            exact Fr_zret (by decide +kernel) rfl (by decide) ⟨rfl, rfl⟩
        · have h := iT hc h
          refine Fr_iload (i := 4) 0 (by decide +kernel) rfl ?_
          refine Fr_aload_n (q := 0) (i := 0) 3 (by decide +kernel) rfl rfl ?_
          refine gf_X12_35 rfl (by decide +kernel) ob_200 ?_
          refine Fr_iload_n (q := 1) (i := 1) 4 (by decide +kernel) rfl rfl ?_
          refine Fr_iconst (i := 3) (v := 3) (by decide +kernel) (by decide) ?_
          refine Fr_iadd (by decide +kernel) ?_
          obtain ⟨hi_13, h⟩ := ck_elim h
          refine Fr_iald (by decide +kernel) ob_205 (vp_of ln_205 hi_13) ?_
          refine Fr_icmp_le (off := 7) 138 (by decide +kernel) (by decide) (fun hc => ?_) (fun hc => ?_)
          · have h := iT hc h
            refine Fr_iconst (i := 0) (v := 0) (by decide +kernel) (by decide) ?_
            refine Fr_goto (off := 21) 160 (by decide +kernel) (by decide) ?_
            obtain rfl := Option.some.inj h
            exact Fr_zret (by decide +kernel) rfl (by decide) ⟨rfl, rfl⟩
          · have h := iF hc h
            refine Fr_iconst (i := 1) (v := 1) (by decide +kernel) (by decide) ?_
            refine Fr_goto (off := 25) 160 (by decide +kernel) (by decide) ?_
            obtain rfl := Option.some.inj h
            exact Fr_zret (by decide +kernel) rfl (by decide) ⟨rfl, rfl⟩
      · have h := iT hc h
        refine Fr_iload (i := 4) 0 (by decide +kernel) rfl ?_
        refine Fr_aload_n (q := 0) (i := 0) 3 (by decide +kernel) rfl rfl ?_
        refine gf_X12_35 rfl (by decide +kernel) ob_200 ?_
        refine Fr_iload_n (q := 1) (i := 1) 4 (by decide +kernel) rfl rfl ?_
        refine Fr_iconst (i := 3) (v := 3) (by decide +kernel) (by decide) ?_
        refine Fr_iadd (by decide +kernel) ?_
        obtain ⟨hi_14, h⟩ := ck_elim h
        refine Fr_iald (by decide +kernel) ob_205 (vp_of ln_205 hi_14) ?_
        refine Fr_icmp_ge (off := 7) 103 (by decide +kernel) (by decide) (fun hc => ?_) (fun hc => ?_)
        · have h := iT hc h
          refine Fr_iconst (i := 0) (v := 0) (by decide +kernel) (by decide) ?_
          refine Fr_goto (off := 56) 160 (by decide +kernel) (by decide) ?_
          obtain rfl := Option.some.inj h
          exact Fr_zret (by decide +kernel) rfl (by decide) ⟨rfl, rfl⟩
        · have h := iF hc h
          refine Fr_iconst (i := 1) (v := 1) (by decide +kernel) (by decide) ?_
          refine Fr_goto (off := 60) 160 (by decide +kernel) (by decide) ?_
          obtain rfl := Option.some.inj h
          exact Fr_zret (by decide +kernel) rfl (by decide) ⟨rfl, rfl⟩
    · have h := iT hc h
      refine Fr_aload_n (q := 0) (i := 0) 2 (by decide +kernel) rfl rfl ?_
      refine Fr_iload_n (q := 3) (i := 3) 0 (by decide +kernel) rfl rfl ?_
      obtain ⟨r_17, M_15, hc_16, h⟩ := bi_elim h
      refine Fr_cVb (ν := m_X12_isFoggy) (As := [.int r_6]) (st := []) (rc := 200) (ci := 12) (d' := 1) (by decide +kernel) ml_X12_366 cv_X12_isFoggy rfl (by decide) rfl ob_200 rfl (by decide) (Nat.le_of_ble_eq_true rfl) (t_X12_isFoggy hc_16) ?_
      obtain rfl := Option.some.inj h
      exact Fr_zret (by decide +kernel) rfl (nz_b r_17) ⟨rfl, rfl⟩
  · have h := iT hc h
    refine Fr_aload_n (q := 0) (i := 0) 1 (by decide +kernel) rfl rfl ?_
    refine gf_X12_35 rfl (by decide +kernel) ob_200 ?_
    refine Fr_bipush (i := 10) (v := 10) (by decide +kernel) (by decide) ?_
    obtain ⟨hi_18, h⟩ := ck_elim h
    refine Fr_iald (by decide +kernel) ob_205 (vp_of ln_205 hi_18) ?_
    refine Fr_aload_n (q := 0) (i := 0) 1 (by decide +kernel) rfl rfl ?_
    refine gf_X12_35 rfl (by decide +kernel) ob_200 ?_
    refine Fr_iload_n (q := 1) (i := 1) 2 (by decide +kernel) rfl rfl ?_
    refine Fr_iconst (i := 1) (v := 1) (by decide +kernel) (by decide) ?_
    refine Fr_iadd (by decide +kernel) ?_
    obtain ⟨hi_19, h⟩ := ck_elim h
    refine Fr_iald (by decide +kernel) ob_205 (vp_of ln_205 hi_19) ?_
    obtain ⟨r_22, M_20, hc_21, h⟩ := bi_elim h
    refine Fr_cSb (ν := m_X12_has) (As := [.int (M.1 205 (tn 10)), .int (M.1 205 (tn (x1 + 1)))]) (st := []) (d' := 0) (by decide +kernel) ml_X12_123 cs_X12_has rfl (by decide) (Nat.le_of_ble_eq_true rfl) (t_X12_has hc_21) ?_
    obtain rfl := Option.some.inj h
    exact Fr_zret (by decide +kernel) rfl (nz_b r_22) ⟨rfl, rfl⟩
set_option maxRecDepth 20000 in
theorem t_X12_doOne_h118 {N : Nat} {rc : Int32 → Int32 → Mem → Option Mem} {e0 : Nat} (hrc : ∀ (x1 : Int32) (x2 : Int32) (M : Mem) (q : Mem), rc x1 x2 M = some q → Ev 200 21 e0 m_X12_doAll [.ref 200, .int x1, .int x2] M (QV q)) {q : Mem} {k118 : Int32 × Int32 × Int32 → Mem → Option (Mem)} (hk118 : ∀ (a : Int32 × Int32 × Int32) (M : Mem), k118 a M = some q → Fr 200 21 (e0 + 7) m_X12_doOne 118 [(0, .ref 200), (1, .int a.1), (2, .int a.2.1), (4, .int a.2.2)] [] M (QV q)) {v1 : Int32} {v2 : Int32} {v4 : Int32} {M : Mem} (h : f_X12_doOne_h118 N rc k118 v1 v2 v4 M = some q) : Fr 200 21 (e0 + 7) m_X12_doOne 118 [(0, .ref 200), (1, .int v1), (2, .int v2), (4, .int v4)] [] M (QV q) := by
  unfold f_X12_doOne_h118 at h
  refine Fr_iload (i := 4) 3 (by decide +kernel) rfl ?_
  refine Fr_aload_n (q := 0) (i := 0) 0 (by decide +kernel) rfl rfl ?_
  refine gf_X12_35 rfl (by decide +kernel) ob_200 ?_
  refine Fr_iload_n (q := 2) (i := 2) 2 (by decide +kernel) rfl rfl ?_
  refine Fr_iconst (i := 1) (v := 1) (by decide +kernel) (by decide) ?_
  refine Fr_iadd (by decide +kernel) ?_
  obtain ⟨hi_5, h⟩ := ck_elim h
  refine Fr_iald (by decide +kernel) ob_205 (vp_of ln_205 hi_5) ?_
  refine Fr_icmp_ge (off := 32) 160 (by decide +kernel) (by decide) (fun hc => ?_) (fun hc => ?_)
  · have h := iT hc h
    refine Fr_goto (off := 14) 174 (by decide +kernel) (by decide) ?_
    obtain rfl := Option.some.inj h
    exact Fr_vret (by decide +kernel) rfl ⟨rfl, rfl⟩
  · have h := iF hc h
    refine Fr_aload_n (q := 0) (i := 0) 0 (by decide +kernel) rfl rfl ?_
    refine gf_X12_563 rfl (by decide +kernel) ob_200 ?_
    refine Fr_if_ne (off := 25) 160 (by decide +kernel) (by decide) (fun hc => ?_) (fun hc => ?_)
    · have h := iF hc h
      refine Fr_goto (off := 14) 174 (by decide +kernel) (by decide) ?_
      obtain rfl := Option.some.inj h
      exact Fr_vret (by decide +kernel) rfl ⟨rfl, rfl⟩
    · have h := iT hc h
      refine Fr_aload_n (q := 0) (i := 0) 0 (by decide +kernel) rfl rfl ?_
      refine Fr_iload_n (q := 1) (i := 1) 1 (by decide +kernel) rfl rfl ?_
      refine Fr_iconst (i := 1) (v := 1) (by decide +kernel) (by decide) ?_
      refine Fr_iadd (by decide +kernel) ?_
      refine Fr_aload_n (q := 0) (i := 0) 0 (by decide +kernel) rfl rfl ?_
      refine gf_X12_35 rfl (by decide +kernel) ob_200 ?_
      refine Fr_iload_n (q := 2) (i := 2) 2 (by decide +kernel) rfl rfl ?_
      refine Fr_bipush (i := 8) (v := 8) (by decide +kernel) (by decide) ?_
      refine Fr_iadd (by decide +kernel) ?_
      obtain ⟨hi_6, h⟩ := ck_elim h
      refine Fr_iald (by decide +kernel) ob_205 (vp_of ln_205 hi_6) ?_
      obtain ⟨M_7, hc_8, h⟩ := bv_elim h
      refine Fr_cVv (ν := m_X12_doAll) (As := [.int (v1 + 1), .int (M.1 205 (tn (v2 + 8)))]) (st := []) (rc := 200) (ci := 12) (d' := e0) (by decide +kernel) ml_X12_579 cv_X12_doAll rfl (by decide) rfl ob_200 rfl (by omega) (Nat.le_of_ble_eq_true rfl) (hrc _ _ _ _ hc_8) ?_
      refine Fr_iinc (i := 4) (j := 1) (v := (v4 + 1)) (lv' := [(4, .int (v4 + 1)), (0, .ref 200), (1, .int v1), (2, .int v2)]) 3 (by decide +kernel) rfl rfl (by decide) rfl ?_
      refine Fr_goto (off := (-39)) 118 (by decide +kernel) (by decide) ?_
      refine Fr_loc [1, 2, 3, 0] rfl ?_
      exact hk118 (v1, v2, (v4 + 1)) M_7 h
set_option maxRecDepth 20000 in
theorem t_X12_doOne_b109 {N : Nat} {rc : Int32 → Int32 → Mem → Option Mem} {e0 : Nat} (hrc : ∀ (x1 : Int32) (x2 : Int32) (M : Mem) (q : Mem), rc x1 x2 M = some q → Ev 200 21 e0 m_X12_doAll [.ref 200, .int x1, .int x2] M (QV q)) {q : Mem} {v1 : Int32} {v2 : Int32} {v3 : Int32} {M : Mem} (h : f_X12_doOne_b109 N rc v1 v2 v3 M = some q) : Fr 200 21 (e0 + 7) m_X12_doOne 109 [(0, .ref 200), (1, .int v1), (2, .int v2), (3, .int v3)] [] M (QV q) := by
  unfold f_X12_doOne_b109 at h
  refine Fr_iload_n (q := 3) (i := 3) 3 (by decide +kernel) rfl rfl ?_
  refine Fr_bipush (i := 6) (v := 6) (by decide +kernel) (by decide) ?_
  refine Fr_icmp_ne (off := 51) 163 (by decide +kernel) (by decide) (fun hc => ?_) (fun hc => ?_)
  · have h := iF hc h
    refine Fr_iload_n (q := 3) (i := 3) 3 (by decide +kernel) rfl rfl ?_
    refine Fr_bipush (i := 6) (v := 6) (by decide +kernel) (by decide) ?_
    refine Fr_icmp_le (off := 8) 174 (by decide +kernel) (by decide) (fun hc => ?_) (fun hc => ?_)
    · have h := iT hc h
      obtain rfl := Option.some.inj h
      exact Fr_vret (by decide +kernel) rfl ⟨rfl, rfl⟩
    · have h := iF hc h
      refine Fr_aload_n (q := 0) (i := 0) 0 (by decide +kernel) rfl rfl ?_
      refine Fr_iconst (i := 1) (v := 1) (by decide +kernel) (by decide) ?_
      refine pf_X12_563 rfl (by decide +kernel) ob_200 (by decide) ?_
      obtain ⟨M_4, eM_4, h⟩ := bM_elim h
      refine Fr_mem eM_4 ?_
      obtain rfl := Option.some.inj h
      exact Fr_vret (by decide +kernel) rfl ⟨rfl, rfl⟩
  · have h := iT hc h
    refine Fr_iconst (i := 0) (v := 0) (by decide +kernel) (by decide) ?_
    refine Fr_istore (i := 4) (lv' := [(4, .int 0), (0, .ref 200), (1, .int v1), (2, .int v2), (3, .int v3)]) (by decide +kernel) (by decide) rfl ?_
    refine Fr_loc [1, 2, 3, 0] rfl ?_
    exact lp_sound (body := fun k a m => f_X12_doOne_h118 N rc k a.1 a.2.1 a.2.2 m) (P := fun a M => Fr 200 21 (e0 + 7) m_X12_doOne 118 [(0, .ref 200), (1, .int a.1), (2, .int a.2.1), (4, .int a.2.2)] [] M (QV q)) (fun k hk a m h => t_X12_doOne_h118 hrc hk h) N (v1, v2, 0) M h
set_option maxRecDepth 20000 in
theorem t_X12_doOne {N : Nat} {rc : Int32 → Int32 → Mem → Option Mem} {e0 : Nat} (hrc : ∀ (x1 : Int32) (x2 : Int32) (M : Mem) (q : Mem), rc x1 x2 M = some q → Ev 200 21 e0 m_X12_doAll [.ref 200, .int x1, .int x2] M (QV q)) {x1 : Int32} {M : Mem} {q : Mem} (h : f_X12_doOne N rc x1 M = some q) : Ev 200 21 (e0 + 7) m_X12_doOne [.ref 200, .int x1] M (QV q) := by
  refine Ev_of_Fr (by decide +kernel) (Nat.le_of_ble_eq_true rfl) ?_
  show Fr 200 21 (e0 + 7) m_X12_doOne 0 [(0, .ref 200), (1, .int x1)] [] M (QV q)
  unfold f_X12_doOne at h
  refine Fr_aload_n (q := 0) (i := 0) 0 (by decide +kernel) rfl rfl ?_
  refine gf_X12_560 rfl (by decide +kernel) ob_200 ?_
  refine Fr_sipush (i := 300) (v := 300) (by decide +kernel) (by decide) ?_
  refine Fr_icmp_ne (off := 14) 21 (by decide +kernel) (by decide) (fun hc => ?_) (fun hc => ?_)
  · have h := iF hc h
    refine Fr_aload_n (q := 0) (i := 0) 0 (by decide +kernel) rfl rfl ?_
    refine Fr_dup (by decide +kernel) rfl ?_
    refine gf_X12_560 rfl (by decide +kernel) ob_200 ?_
    refine Fr_iconst (i := 1) (v := 1) (by decide +kernel) (by decide) ?_
    refine Fr_iadd (by decide +kernel) ?_
    refine pf_X12_560 rfl (by decide +kernel) ob_200 ?_
    obtain ⟨M_1, eM_1, h⟩ := bM_elim h
    refine Fr_mem eM_1 ?_
    refine Fr_sipush (i := 165) (v := 165) (by decide +kernel) (by decide) ?_
    refine Fr_bipush (i := 9) (v := 9) (by decide +kernel) (by decide) ?_
    refine Fr_iload_n (q := 1) (i := 1) 1 (by decide +kernel) rfl rfl ?_
    refine Fr_imul (by decide +kernel) ?_
    refine Fr_iadd (by decide +kernel) ?_
    refine Fr_istore_n (q := 2) (i := 2) (lv' := [(2, .int (165 + (9 * x1))), (0, .ref 200), (1, .int x1)]) (by decide +kernel) rfl (by decide) rfl ?_
    refine Fr_aload_n (q := 0) (i := 0) 1 (by decide +kernel) rfl rfl ?_
    refine gf_X12_35 rfl (by decide +kernel) ob_200 ?_
    refine Fr_iload_n (q := 2) (i := 2) 0 (by decide +kernel) rfl rfl ?_
    obtain ⟨hi_2, h⟩ := ck_elim h
    refine Fr_iald (by decide +kernel) ob_205 (vp_of ln_205 hi_2) ?_
    obtain ⟨y_3, ey_3, h⟩ := bI_elim h
    refine Fr_topI ey_3 ?_
    refine Fr_istore_n (q := 3) (i := 3) (lv' := [(3, .int y_3), (2, .int (165 + (9 * x1))), (0, .ref 200), (1, .int x1)]) (by decide +kernel) rfl (by decide) rfl ?_
    refine Fr_iload_n (q := 3) (i := 3) 0 (by decide +kernel) rfl rfl ?_
    refine Fr_iconst (i := 5) (v := 5) (by decide +kernel) (by decide) ?_
    refine Fr_icmp_ge (off := 28) 77 (by decide +kernel) (by decide) (fun hc => ?_) (fun hc => ?_)
    · have h := iT hc h
      refine Fr_iload_n (q := 3) (i := 3) 0 (by decide +kernel) rfl rfl ?_
      refine Fr_iconst (i := 5) (v := 5) (by decide +kernel) (by decide) ?_
      refine Fr_icmp_ne (off := 30) 109 (by decide +kernel) (by decide) (fun hc => ?_) (fun hc => ?_)
      · have h := iF hc h
        refine Fr_loc [2, 3, 1, 0] rfl ?_
        exact t_X12_doOne_b109 hrc h
      · have h := iT hc h
        refine Fr_aload_n (q := 0) (i := 0) 2 (by decide +kernel) rfl rfl ?_
        refine Fr_iload_n (q := 2) (i := 2) 1 (by decide +kernel) rfl rfl ?_
        obtain ⟨r_11, M_9, hc_10, h⟩ := bi_elim h
        refine Fr_cVb (ν := m_X12_isSo) (As := [.int (165 + (9 * x1))]) (st := []) (rc := 200) (ci := 12) (d' := 2) (by decide +kernel) ml_X12_576 cv_X12_isSo rfl (by decide) rfl ob_200 rfl (by omega) (Nat.le_of_ble_eq_true rfl) (t_X12_isSo hc_10) ?_
        refine Fr_if_eq (off := 22) 109 (by decide +kernel) (by decide) (fun hc => ?_) (fun hc => ?_)
        · have h := iT hc h
          refine Fr_loc [2, 3, 1, 0] rfl ?_
          exact t_X12_doOne_b109 hrc h
        · have h := iF hc h
          refine Fr_aload_n (q := 0) (i := 0) 2 (by decide +kernel) rfl rfl ?_
          refine Fr_iload_n (q := 1) (i := 1) 3 (by decide +kernel) rfl rfl ?_
          refine Fr_iconst (i := 1) (v := 1) (by decide +kernel) (by decide) ?_
          refine Fr_iadd (by decide +kernel) ?_
          refine Fr_aload_n (q := 0) (i := 0) 2 (by decide +kernel) rfl rfl ?_
          refine gf_X12_35 rfl (by decide +kernel) ob_200 ?_
          refine Fr_iload_n (q := 2) (i := 2) 1 (by decide +kernel) rfl rfl ?_
          refine Fr_bipush (i := 8) (v := 8) (by decide +kernel) (by decide) ?_
          refine Fr_iadd (by decide +kernel) ?_
          obtain ⟨hi_12, h⟩ := ck_elim h
          refine Fr_iald (by decide +kernel) ob_205 (vp_of ln_205 hi_12) ?_
          obtain ⟨M_13, hc_14, h⟩ := bv_elim h
          refine Fr_cVv (ν := m_X12_doAll) (As := [.int (x1 + 1), .int (M_9.1 205 (tn ((165 + (9 * x1)) + 8)))]) (st := []) (rc := 200) (ci := 12) (d' := e0) (by decide +kernel) ml_X12_579 cv_X12_doAll rfl (by decide) rfl ob_200 rfl (by omega) (Nat.le_of_ble_eq_true rfl) (hrc _ _ _ _ hc_14) ?_
          refine Fr_goto (off := 68) 174 (by decide +kernel) (by decide) ?_
          obtain rfl := Option.some.inj h
          exact Fr_vret (by decide +kernel) rfl ⟨rfl, rfl⟩
    · have h := iF hc h
      refine Fr_aload_n (q := 0) (i := 0) 2 (by decide +kernel) rfl rfl ?_
      refine Fr_dup (by decide +kernel) rfl ?_
      refine gf_X12_570 rfl (by decide +kernel) ob_200 ?_
      refine Fr_aload_n (q := 0) (i := 0) 2 (by decide +kernel) rfl rfl ?_
      refine Fr_iload_n (q := 2) (i := 2) 1 (by decide +kernel) rfl rfl ?_
      obtain ⟨r_17, M_15, hc_16, h⟩ := bi_elim h
      refine Fr_cVb (ν := m_X12_does) (As := [.int (165 + (9 * x1))]) (st := [.int (M_1.1 200 46), .ref 200]) (rc := 200) (ci := 12) (d' := 6) (by decide +kernel) ml_X12_573 cv_X12_does rfl (by decide) rfl ob_200 rfl (by omega) (Nat.le_of_ble_eq_true rfl) (t_X12_does hc_16) ?_
      refine Fr_if_eq (off := 7) 69 (by decide +kernel) (by decide) (fun hc => ?_) (fun hc => ?_)
      · have h := iT hc h
        refine Fr_iconst (i := 1) (v := 1) (by decide +kernel) (by decide) ?_
        refine Fr_iadd (by decide +kernel) ?_
        refine pf_X12_570 rfl (by decide +kernel) ob_200 ?_
        obtain ⟨M_18, eM_18, h⟩ := bM_elim h
        refine Fr_mem eM_18 ?_
        refine Fr_goto (off := 100) 174 (by decide +kernel) (by decide) ?_
        obtain rfl := Option.some.inj h
        exact Fr_vret (by decide +kernel) rfl ⟨rfl, rfl⟩
      · have h := iF hc h
        refine Fr_iconst (i := 0) (v := 0) (by decide +kernel) (by decide) ?_
        refine Fr_goto (off := 4) 70 (by decide +kernel) (by decide) ?_
        refine Fr_iadd (by decide +kernel) ?_
        refine pf_X12_570 rfl (by decide +kernel) ob_200 ?_
        obtain ⟨M_19, eM_19, h⟩ := bM_elim h
        refine Fr_mem eM_19 ?_
        refine Fr_goto (off := 100) 174 (by decide +kernel) (by decide) ?_
        obtain rfl := Option.some.inj h
        exact Fr_vret (by decide +kernel) rfl ⟨rfl, rfl⟩
  · have h := iT hc h
    refine Fr_aload_n (q := 0) (i := 0) 0 (by decide +kernel) rfl rfl ?_
    refine Fr_iconst (i := 1) (v := 1) (by decide +kernel) (by decide) ?_
    refine pf_X12_563 rfl (by decide +kernel) ob_200 (by decide) ?_
    obtain ⟨M_20, eM_20, h⟩ := bM_elim h
    refine Fr_mem eM_20 ?_
    refine Fr_aload_n (q := 0) (i := 0) 0 (by decide +kernel) rfl rfl ?_
    refine Fr_iconst (i := 1) (v := 1) (by decide +kernel) (by decide) ?_
    refine pf_X12_567 rfl (by decide +kernel) ob_200 ?_
    obtain ⟨M_21, eM_21, h⟩ := bM_elim h
    refine Fr_mem eM_21 ?_
    obtain rfl := Option.some.inj h
    exact Fr_vret (by decide +kernel) rfl ⟨rfl, rfl⟩
set_option maxRecDepth 20000 in
theorem t_X12_doAll_h2 {N : Nat} {rc : Int32 → Int32 → Mem → Option Mem} {e0 : Nat} (hrc : ∀ (x1 : Int32) (x2 : Int32) (M : Mem) (q : Mem), rc x1 x2 M = some q → Ev 200 21 e0 m_X12_doAll [.ref 200, .int x1, .int x2] M (QV q)) {q : Mem} {k2 : Int32 × Int32 → Mem → Option (Mem)} (hk2 : ∀ (a : Int32 × Int32) (M : Mem), k2 a M = some q → Fr 200 21 (e0 + 8) m_X12_doAll 2 [(0, .ref 200), (2, .int a.1), (3, .int a.2)] [] M (QV q)) {v2 : Int32} {v3 : Int32} {M : Mem} (h : f_X12_doAll_h2 N rc k2 v2 v3 M = some q) : Fr 200 21 (e0 + 8) m_X12_doAll 2 [(0, .ref 200), (2, .int v2), (3, .int v3)] [] M (QV q) := by
  unfold f_X12_doAll_h2 at h
  refine Fr_iload_n (q := 3) (i := 3) 2 (by decide +kernel) rfl rfl ?_
  refine Fr_iload_n (q := 2) (i := 2) 1 (by decide +kernel) rfl rfl ?_
  refine Fr_icmp_ge (off := 35) 39 (by decide +kernel) (by decide) (fun hc => ?_) (fun hc => ?_)
  · have h := iT hc h
    obtain rfl := Option.some.inj h
    exact Fr_vret (by decide +kernel) rfl ⟨rfl, rfl⟩
  · have h := iF hc h
    refine Fr_aload_n (q := 0) (i := 0) 0 (by decide +kernel) rfl rfl ?_
    refine gf_X12_563 rfl (by decide +kernel) ob_200 ?_
    refine Fr_if_ne (off := 28) 39 (by decide +kernel) (by decide) (fun hc => ?_) (fun hc => ?_)
    · have h := iF hc h
      obtain rfl := Option.some.inj h
      exact Fr_vret (by decide +kernel) rfl ⟨rfl, rfl⟩
    · have h := iT hc h
      refine Fr_aload_n (q := 0) (i := 0) 0 (by decide +kernel) rfl rfl ?_
      refine Fr_iload_n (q := 3) (i := 3) 2 (by decide +kernel) rfl rfl ?_
      obtain ⟨M_1, hc_2, h⟩ := bv_elim h
      refine Fr_cVv (ν := m_X12_doOne) (As := [.int v3]) (st := []) (rc := 200) (ci := 12) (d' := (e0 + 7)) (by decide +kernel) ml_X12_582 cv_X12_doOne rfl (by decide) rfl ob_200 rfl (by omega) (Nat.le_of_ble_eq_true rfl) (t_X12_doOne hrc  hc_2) ?_
      refine Fr_aload_n (q := 0) (i := 0) 0 (by decide +kernel) rfl rfl ?_
      refine gf_X12_35 rfl (by decide +kernel) ob_200 ?_
      refine Fr_sipush (i := 165) (v := 165) (by decide +kernel) (by decide) ?_
      refine Fr_bipush (i := 9) (v := 9) (by decide +kernel) (by decide) ?_
      refine Fr_iload_n (q := 3) (i := 3) 2 (by decide +kernel) rfl rfl ?_
      refine Fr_imul (by decide +kernel) ?_
      refine Fr_iadd (by decide +kernel) ?_
      refine Fr_bipush (i := 8) (v := 8) (by decide +kernel) (by decide) ?_
      refine Fr_iadd (by decide +kernel) ?_
      obtain ⟨hi_3, h⟩ := ck_elim h
      refine Fr_iald (by decide +kernel) ob_205 (vp_of ln_205 hi_3) ?_
      obtain ⟨y_4, ey_4, h⟩ := bI_elim h
      refine Fr_topI ey_4 ?_
      refine Fr_istore_n (q := 3) (i := 3) (lv' := [(3, .int y_4), (0, .ref 200), (2, .int v2)]) (by decide +kernel) rfl (by decide) rfl ?_
      refine Fr_goto (off := (-34)) 2 (by decide +kernel) (by decide) ?_
      refine Fr_loc [1, 2, 0] rfl ?_
      exact hk2 (v2, y_4) M_1 h
set_option maxRecDepth 20000 in
theorem u_X12_doAll {N : Nat} {rc : Int32 → Int32 → Mem → Option Mem} {e0 : Nat} (hrc : ∀ (x1 : Int32) (x2 : Int32) (M : Mem) (q : Mem), rc x1 x2 M = some q → Ev 200 21 e0 m_X12_doAll [.ref 200, .int x1, .int x2] M (QV q)) {x1 : Int32} {x2 : Int32} {M : Mem} {q : Mem} (h : g_X12_doAll N rc x1 x2 M = some q) : Ev 200 21 (e0 + 8) m_X12_doAll [.ref 200, .int x1, .int x2] M (QV q) := by
  refine Ev_of_Fr (by decide +kernel) (Nat.le_of_ble_eq_true rfl) ?_
  show Fr 200 21 (e0 + 8) m_X12_doAll 0 [(0, .ref 200), (1, .int x1), (2, .int x2)] [] M (QV q)
  unfold g_X12_doAll at h
  refine Fr_iload_n (q := 1) (i := 1) 1 (by decide +kernel) rfl rfl ?_
  refine Fr_istore_n (q := 3) (i := 3) (lv' := [(3, .int x1), (0, .ref 200), (1, .int x1), (2, .int x2)]) (by decide +kernel) rfl (by decide) rfl ?_
  refine Fr_loc [1, 3, 0] rfl ?_
  exact lp_sound (body := fun k a m => f_X12_doAll_h2 N rc k a.1 a.2 m) (P := fun a M => Fr 200 21 (e0 + 8) m_X12_doAll 2 [(0, .ref 200), (2, .int a.1), (3, .int a.2)] [] M (QV q)) (fun k hk a m h => t_X12_doAll_h2 hrc hk h) N (x2, x1) M h
theorem t_X12_doAll {N : Nat} : ∀ (D : Nat) {x1 : Int32} {x2 : Int32} {M : Mem} {q : Mem}, f_X12_doAll N D x1 x2 M = some q → Ev 200 21 (8 * D) m_X12_doAll [.ref 200, .int x1, .int x2] M (QV q)
  | 0, _, _, _, _, h => by cases h
  | D + 1, _, _, _, _, h => u_X12_doAll (e0 := 8 * D) (rc := f_X12_doAll N D) (fun _ _ _ _ h => t_X12_doAll D h) h
set_option maxRecDepth 20000 in
theorem t_X12_runsNights {N : Nat} {x1 : Int32} {M : Mem} {q : Mem} (h : f_X12_runsNights N x1 M = some q) : Ev 200 21 49 m_X12_runsNights [.ref 200, .int x1] M (QV q) := by
  refine Ev_of_Fr (by decide +kernel) (Nat.le_of_ble_eq_true rfl) ?_
  show Fr 200 21 49 m_X12_runsNights 0 [(0, .ref 200), (1, .int x1)] [] M (QV q)
  unfold f_X12_runsNights at h
  refine Fr_aload_n (q := 0) (i := 0) 0 (by decide +kernel) rfl rfl ?_
  refine Fr_iload_n (q := 1) (i := 1) 1 (by decide +kernel) rfl rfl ?_
  refine pf_X12_538 rfl (by decide +kernel) ob_200 ?_
  obtain ⟨M_1, eM_1, h⟩ := bM_elim h
  refine Fr_mem eM_1 ?_
  refine Fr_aload_n (q := 0) (i := 0) 0 (by decide +kernel) rfl rfl ?_
  refine Fr_iconst (i := 0) (v := 0) (by decide +kernel) (by decide) ?_
  refine pf_X12_560 rfl (by decide +kernel) ob_200 ?_
  obtain ⟨M_2, eM_2, h⟩ := bM_elim h
  refine Fr_mem eM_2 ?_
  refine Fr_aload_n (q := 0) (i := 0) 0 (by decide +kernel) rfl rfl ?_
  refine Fr_iconst (i := 0) (v := 0) (by decide +kernel) (by decide) ?_
  refine pf_X12_570 rfl (by decide +kernel) ob_200 ?_
  obtain ⟨M_3, eM_3, h⟩ := bM_elim h
  refine Fr_mem eM_3 ?_
  refine Fr_aload_n (q := 0) (i := 0) 0 (by decide +kernel) rfl rfl ?_
  refine Fr_iconst (i := 0) (v := 0) (by decide +kernel) (by decide) ?_
  refine pf_X12_545 rfl (by decide +kernel) ob_200 ?_
  obtain ⟨M_4, eM_4, h⟩ := bM_elim h
  refine Fr_mem eM_4 ?_
  refine Fr_aload_n (q := 0) (i := 0) 0 (by decide +kernel) rfl rfl ?_
  refine Fr_iconst (i := 0) (v := 0) (by decide +kernel) (by decide) ?_
  refine pf_X12_542 rfl (by decide +kernel) ob_200 ?_
  obtain ⟨M_5, eM_5, h⟩ := bM_elim h
  refine Fr_mem eM_5 ?_
  refine Fr_aload_n (q := 0) (i := 0) 0 (by decide +kernel) rfl rfl ?_
  refine Fr_iconst (i := 0) (v := 0) (by decide +kernel) (by decide) ?_
  refine pf_X12_551 rfl (by decide +kernel) ob_200 ?_
  obtain ⟨M_6, eM_6, h⟩ := bM_elim h
  refine Fr_mem eM_6 ?_
  refine Fr_aload_n (q := 0) (i := 0) 0 (by decide +kernel) rfl rfl ?_
  refine Fr_iconst (i := 0) (v := 0) (by decide +kernel) (by decide) ?_
  refine pf_X12_567 rfl (by decide +kernel) ob_200 ?_
  obtain ⟨M_7, eM_7, h⟩ := bM_elim h
  refine Fr_mem eM_7 ?_
  refine Fr_aload_n (q := 0) (i := 0) 0 (by decide +kernel) rfl rfl ?_
  refine Fr_iconst (i := 0) (v := 0) (by decide +kernel) (by decide) ?_
  refine pf_X12_563 rfl (by decide +kernel) ob_200 (by decide) ?_
  obtain ⟨M_8, eM_8, h⟩ := bM_elim h
  refine Fr_mem eM_8 ?_
  refine Fr_aload_n (q := 0) (i := 0) 0 (by decide +kernel) rfl rfl ?_
  refine Fr_iconst (i := 0) (v := 0) (by decide +kernel) (by decide) ?_
  refine Fr_aload_n (q := 0) (i := 0) 0 (by decide +kernel) rfl rfl ?_
  refine gf_X12_35 rfl (by decide +kernel) ob_200 ?_
  refine Fr_sipush (i := 164) (v := 164) (by decide +kernel) (by decide) ?_
  obtain ⟨hi_9, h⟩ := ck_elim h
  refine Fr_iald (by decide +kernel) ob_205 (vp_of ln_205 hi_9) ?_
  obtain ⟨M_10, hc_11, h⟩ := bv_elim h
  refine Fr_cVv (ν := m_X12_doAll) (As := [.int 0, .int (M_8.1 205 (tn 164))]) (st := []) (rc := 200) (ci := 12) (d' := 48) (by decide +kernel) ml_X12_579 cv_X12_doAll rfl (by decide) rfl ob_200 rfl (by decide) (Nat.le_of_ble_eq_true rfl) (t_X12_doAll 6  hc_11) ?_
  obtain rfl := Option.some.inj h
  exact Fr_vret (by decide +kernel) rfl ⟨rfl, rfl⟩
set_option maxRecDepth 20000 in
theorem t_X12_live {N : Nat} {x1 : Int32} {M : Mem} {q : Int32 × Mem} (h : f_X12_live N x1 M = some q) : Ev 200 21 50 m_X12_live [.ref 200, .int x1] M (QI q) := by
  refine Ev_of_Fr (by decide +kernel) (Nat.le_of_ble_eq_true rfl) ?_
  show Fr 200 21 50 m_X12_live 0 [(0, .ref 200), (1, .int x1)] [] M (QI q)
  unfold f_X12_live at h
  refine Fr_aload_n (q := 0) (i := 0) 0 (by decide +kernel) rfl rfl ?_
  refine Fr_iconst (i := 0) (v := 0) (by decide +kernel) (by decide) ?_
  refine pf_X12_84 rfl (by decide +kernel) ob_200 ?_
  obtain ⟨M_1, eM_1, h⟩ := bM_elim h
  refine Fr_mem eM_1 ?_
  refine Fr_aload_n (q := 0) (i := 0) 0 (by decide +kernel) rfl rfl ?_
  refine Fr_iconst (i := 0) (v := 0) (by decide +kernel) (by decide) ?_
  refine pf_X12_87 rfl (by decide +kernel) ob_200 ?_
  obtain ⟨M_2, eM_2, h⟩ := bM_elim h
  refine Fr_mem eM_2 ?_
  refine Fr_iload_n (q := 1) (i := 1) 1 (by decide +kernel) rfl rfl ?_
  refine Fr_i2l (by decide +kernel) ?_
  refine Fr_lconst (i := 0) (v := 0) (by decide +kernel) (by decide) ?_
  refine Fr_ldc2 (idx := 585) (v := 9999) (by decide +kernel) ll_X12_585 ?_
  obtain ⟨r_5, M_3, hc_4, h⟩ := bi_elim h
  refine Fr_cSb (ν := m_X12_isIn) (As := [.long (Int32.toInt64 x1), .long 0, .long 9999]) (st := []) (d' := 0) (by decide +kernel) ml_X12_119 cs_X12_isIn rfl (by decide) (Nat.le_of_ble_eq_true rfl) (t_X12_isIn hc_4) ?_
  refine Fr_if_ne (off := 9) 28 (by decide +kernel) (by decide) (fun hc => ?_) (fun hc => ?_)
  · have h := iF hc h
    refine Fr_aload_n (q := 0) (i := 0) 0 (by decide +kernel) rfl rfl ?_
    refine gf_X12_35 rfl (by decide +kernel) ob_200 ?_
    refine Fr_sipush (i := 163) (v := 163) (by decide +kernel) (by decide) ?_
    obtain ⟨hi_6, h⟩ := ck_elim h
    refine Fr_iald (by decide +kernel) ob_205 (vp_of ln_205 hi_6) ?_
    refine Fr_if_ne (off := 10) 46 (by decide +kernel) (by decide) (fun hc => ?_) (fun hc => ?_)
    · have h := iF hc h
      refine Fr_aload_n (q := 0) (i := 0) 0 (by decide +kernel) rfl rfl ?_
      refine Fr_iload_n (q := 1) (i := 1) 1 (by decide +kernel) rfl rfl ?_
      obtain ⟨M_7, hc_8, h⟩ := bv_elim h
      refine Fr_cVv (ν := m_X12_runsNights) (As := [.int x1]) (st := []) (rc := 200) (ci := 12) (d' := 49) (by decide +kernel) ml_X12_587 cv_X12_runsNights rfl (by decide) rfl ob_200 rfl (by decide) (Nat.le_of_ble_eq_true rfl) (t_X12_runsNights hc_8) ?_
      refine Fr_aload_n (q := 0) (i := 0) 0 (by decide +kernel) rfl rfl ?_
      refine gf_X12_78 rfl (by decide +kernel) ob_200 ?_
      refine Fr_iconst (i := 0) (v := 0) (by decide +kernel) (by decide) ?_
      refine Fr_aload_n (q := 0) (i := 0) 0 (by decide +kernel) rfl rfl ?_
      refine gf_X12_570 rfl (by decide +kernel) ob_200 ?_
      obtain ⟨hi_9, h⟩ := ck_elim h
      refine Fr_iast (by decide +kernel) ob_219 (vp_of ln_219 hi_9) ?_
      obtain ⟨M_10, eM_10, h⟩ := bM_elim h
      refine Fr_mem eM_10 ?_
      refine Fr_aload_n (q := 0) (i := 0) 0 (by decide +kernel) rfl rfl ?_
      refine gf_X12_78 rfl (by decide +kernel) ob_200 ?_
      refine Fr_iconst (i := 1) (v := 1) (by decide +kernel) (by decide) ?_
      refine Fr_aload_n (q := 0) (i := 0) 0 (by decide +kernel) rfl rfl ?_
      refine gf_X12_545 rfl (by decide +kernel) ob_200 ?_
      obtain ⟨hi_11, h⟩ := ck_elim h
      refine Fr_iast (by decide +kernel) ob_219 (vp_of ln_219 hi_11) ?_
      obtain ⟨M_12, eM_12, h⟩ := bM_elim h
      refine Fr_mem eM_12 ?_
      refine Fr_aload_n (q := 0) (i := 0) 0 (by decide +kernel) rfl rfl ?_
      refine gf_X12_78 rfl (by decide +kernel) ob_200 ?_
      refine Fr_iconst (i := 2) (v := 2) (by decide +kernel) (by decide) ?_
      refine Fr_aload_n (q := 0) (i := 0) 0 (by decide +kernel) rfl rfl ?_
      refine gf_X12_542 rfl (by decide +kernel) ob_200 ?_
      obtain ⟨hi_13, h⟩ := ck_elim h
      refine Fr_iast (by decide +kernel) ob_219 (vp_of ln_219 hi_13) ?_
      obtain ⟨M_14, eM_14, h⟩ := bM_elim h
      refine Fr_mem eM_14 ?_
      refine Fr_aload_n (q := 0) (i := 0) 0 (by decide +kernel) rfl rfl ?_
      refine gf_X12_78 rfl (by decide +kernel) ob_200 ?_
      refine Fr_iconst (i := 3) (v := 3) (by decide +kernel) (by decide) ?_
      refine Fr_aload_n (q := 0) (i := 0) 0 (by decide +kernel) rfl rfl ?_
      refine gf_X12_551 rfl (by decide +kernel) ob_200 ?_
      obtain ⟨hi_15, h⟩ := ck_elim h
      refine Fr_iast (by decide +kernel) ob_219 (vp_of ln_219 hi_15) ?_
      obtain ⟨M_16, eM_16, h⟩ := bM_elim h
      refine Fr_mem eM_16 ?_
      refine Fr_aload_n (q := 0) (i := 0) 0 (by decide +kernel) rfl rfl ?_
      refine gf_X12_78 rfl (by decide +kernel) ob_200 ?_
      refine Fr_iconst (i := 4) (v := 4) (by decide +kernel) (by decide) ?_
      refine Fr_aload_n (q := 0) (i := 0) 0 (by decide +kernel) rfl rfl ?_
      refine gf_X12_567 rfl (by decide +kernel) ob_200 ?_
      obtain ⟨hi_17, h⟩ := ck_elim h
      refine Fr_iast (by decide +kernel) ob_219 (vp_of ln_219 hi_17) ?_
      obtain ⟨M_18, eM_18, h⟩ := bM_elim h
      refine Fr_mem eM_18 ?_
      refine Fr_aload_n (q := 0) (i := 0) 0 (by decide +kernel) rfl rfl ?_
      refine Fr_iconst (i := 1) (v := 1) (by decide +kernel) (by decide) ?_
      refine pf_X12_590 rfl (by decide +kernel) ob_200 (by decide) ?_
      obtain ⟨M_19, eM_19, h⟩ := bM_elim h
      refine Fr_mem eM_19 ?_
      refine Fr_aload_n (q := 0) (i := 0) 0 (by decide +kernel) rfl rfl ?_
      refine gf_X12_560 rfl (by decide +kernel) ob_200 ?_
      obtain rfl := Option.some.inj h
      exact Fr_iret (by decide +kernel) rfl ⟨rfl, rfl⟩
    · have h := iT hc h
      refine Fr_aload_n (q := 0) (i := 0) 0 (by decide +kernel) rfl rfl ?_
      refine Fr_bipush (i := 8) (v := 8) (by decide +kernel) (by decide) ?_
      obtain ⟨r_22, M_20, hc_21, h⟩ := bi_elim h
      refine Fr_cVi (ν := m_X12_refuse) (As := [.int 8]) (st := []) (rc := 200) (ci := 12) (d' := 0) (by decide +kernel) ml_X12_371 cv_X12_refuse rfl (by decide) rfl ob_200 rfl (by decide) (Nat.le_of_ble_eq_true rfl) (t_X12_refuse hc_21) ?_
      obtain rfl := Option.some.inj h
      exact Fr_iret (by decide +kernel) rfl ⟨rfl, rfl⟩
  · have h := iT hc h
    refine Fr_aload_n (q := 0) (i := 0) 0 (by decide +kernel) rfl rfl ?_
    refine Fr_iconst (i := 5) (v := 5) (by decide +kernel) (by decide) ?_
    obtain ⟨r_25, M_23, hc_24, h⟩ := bi_elim h
    refine Fr_cVi (ν := m_X12_refuse) (As := [.int 5]) (st := []) (rc := 200) (ci := 12) (d' := 0) (by decide +kernel) ml_X12_371 cv_X12_refuse rfl (by decide) rfl ob_200 rfl (by decide) (Nat.le_of_ble_eq_true rfl) (t_X12_refuse hc_24) ?_
    obtain rfl := Option.some.inj h
    exact Fr_iret (by decide +kernel) rfl ⟨rfl, rfl⟩
set_option maxRecDepth 20000 in
theorem t_X12_lived {x1 : Int32} {M : Mem} {q : Int32 × Mem} (h : f_X12_lived x1 M = some q) : Ev 200 21 1 m_X12_lived [.ref 200, .int x1] M (QI q) := by
  refine Ev_of_Fr (by decide +kernel) (Nat.le_of_ble_eq_true rfl) ?_
  show Fr 200 21 1 m_X12_lived 0 [(0, .ref 200), (1, .int x1)] [] M (QI q)
  unfold f_X12_lived at h
  refine Fr_aload_n (q := 0) (i := 0) 0 (by decide +kernel) rfl rfl ?_
  refine Fr_iconst (i := 0) (v := 0) (by decide +kernel) (by decide) ?_
  refine pf_X12_84 rfl (by decide +kernel) ob_200 ?_
  obtain ⟨M_1, eM_1, h⟩ := bM_elim h
  refine Fr_mem eM_1 ?_
  refine Fr_aload_n (q := 0) (i := 0) 0 (by decide +kernel) rfl rfl ?_
  refine Fr_iconst (i := 0) (v := 0) (by decide +kernel) (by decide) ?_
  refine pf_X12_87 rfl (by decide +kernel) ob_200 ?_
  obtain ⟨M_2, eM_2, h⟩ := bM_elim h
  refine Fr_mem eM_2 ?_
  refine Fr_iload_n (q := 1) (i := 1) 1 (by decide +kernel) rfl rfl ?_
  refine Fr_i2l (by decide +kernel) ?_
  refine Fr_lconst (i := 0) (v := 0) (by decide +kernel) (by decide) ?_
  refine Fr_ldc2 (idx := 383) (v := 4) (by decide +kernel) ll_X12_383 ?_
  obtain ⟨r_5, M_3, hc_4, h⟩ := bi_elim h
  refine Fr_cSb (ν := m_X12_isIn) (As := [.long (Int32.toInt64 x1), .long 0, .long 4]) (st := []) (d' := 0) (by decide +kernel) ml_X12_119 cs_X12_isIn rfl (by decide) (Nat.le_of_ble_eq_true rfl) (t_X12_isIn hc_4) ?_
  refine Fr_if_ne (off := 9) 28 (by decide +kernel) (by decide) (fun hc => ?_) (fun hc => ?_)
  · have h := iF hc h
    refine Fr_aload_n (q := 0) (i := 0) 0 (by decide +kernel) rfl rfl ?_
    refine gf_X12_590 rfl (by decide +kernel) ob_200 ?_
    refine Fr_if_eq (off := 12) 44 (by decide +kernel) (by decide) (fun hc => ?_) (fun hc => ?_)
    · have h := iT hc h
      refine Fr_aload_n (q := 0) (i := 0) 0 (by decide +kernel) rfl rfl ?_
      refine Fr_bipush (i := 8) (v := 8) (by decide +kernel) (by decide) ?_
      obtain ⟨r_8, M_6, hc_7, h⟩ := bi_elim h
      refine Fr_cVi (ν := m_X12_refuse) (As := [.int 8]) (st := []) (rc := 200) (ci := 12) (d' := 0) (by decide +kernel) ml_X12_371 cv_X12_refuse rfl (by decide) rfl ob_200 rfl (by decide) (Nat.le_of_ble_eq_true rfl) (t_X12_refuse hc_7) ?_
      obtain rfl := Option.some.inj h
      exact Fr_iret (by decide +kernel) rfl ⟨rfl, rfl⟩
    · have h := iF hc h
      refine Fr_aload_n (q := 0) (i := 0) 0 (by decide +kernel) rfl rfl ?_
      refine gf_X12_78 rfl (by decide +kernel) ob_200 ?_
      refine Fr_iload_n (q := 1) (i := 1) 1 (by decide +kernel) rfl rfl ?_
      obtain ⟨hi_9, h⟩ := ck_elim h
      refine Fr_iald (by decide +kernel) ob_219 (vp_of ln_219 hi_9) ?_
      refine Fr_goto (off := 9) 50 (by decide +kernel) (by decide) ?_
      obtain rfl := Option.some.inj h
      exact Fr_iret (by decide +kernel) rfl ⟨rfl, rfl⟩
  · have h := iT hc h
    refine Fr_aload_n (q := 0) (i := 0) 0 (by decide +kernel) rfl rfl ?_
    refine Fr_iconst (i := 5) (v := 5) (by decide +kernel) (by decide) ?_
    obtain ⟨r_12, M_10, hc_11, h⟩ := bi_elim h
    refine Fr_cVi (ν := m_X12_refuse) (As := [.int 5]) (st := []) (rc := 200) (ci := 12) (d' := 0) (by decide +kernel) ml_X12_371 cv_X12_refuse rfl (by decide) rfl ob_200 rfl (by decide) (Nat.le_of_ble_eq_true rfl) (t_X12_refuse hc_11) ?_
    obtain rfl := Option.some.inj h
    exact Fr_iret (by decide +kernel) rfl ⟨rfl, rfl⟩
set_option maxRecDepth 20000 in
theorem t_X12_mean_h118 {N : Nat} {q : Bool × Mem} {k93 : Int32 × Int32 × Int64 × Int32 → Mem → Option (Bool × Mem)} (hk93 : ∀ (a : Int32 × Int32 × Int64 × Int32) (M : Mem), k93 a M = some q → Fr 200 21 50 m_X12_mean 93 [(0, .ref 200), (1, .int a.1), (2, .int a.2.1), (3, .long a.2.2.1), (5, .int a.2.2.2)] [] M (QB q)) {k118 : Int32 × Int32 × Int64 × Int32 × Int32 → Mem → Option (Bool × Mem)} (hk118 : ∀ (a : Int32 × Int32 × Int64 × Int32 × Int32) (M : Mem), k118 a M = some q → Fr 200 21 50 m_X12_mean 118 [(0, .ref 200), (1, .int a.1), (2, .int a.2.1), (3, .long a.2.2.1), (5, .int a.2.2.2.1), (6, .int a.2.2.2.2)] [] M (QB q)) {v1 : Int32} {v2 : Int32} {v3 : Int64} {v5 : Int32} {v6 : Int32} {M : Mem} (h : f_X12_mean_h118 N k93 k118 v1 v2 v3 v5 v6 M = some q) : Fr 200 21 50 m_X12_mean 118 [(0, .ref 200), (1, .int v1), (2, .int v2), (3, .long v3), (5, .int v5), (6, .int v6)] [] M (QB q) := by
  unfold f_X12_mean_h118 at h
  refine Fr_iload (i := 6) 5 (by decide +kernel) rfl ?_
  refine Fr_sipush (i := 163) (v := 163) (by decide +kernel) (by decide) ?_
  refine Fr_icmp_ge (off := 23) 146 (by decide +kernel) (by decide) (fun hc => ?_) (fun hc => ?_)
  · have h := iT hc h
    refine Fr_iinc (i := 5) (j := 1) (v := (v5 + 1)) (lv' := [(5, .int (v5 + 1)), (0, .ref 200), (1, .int v1), (2, .int v2), (3, .long v3), (6, .int v6)]) 4 (by decide +kernel) rfl rfl (by decide) rfl ?_
    refine Fr_goto (off := (-56)) 93 (by decide +kernel) (by decide) ?_
    refine Fr_loc [1, 2, 3, 4, 0] rfl ?_
    exact hk93 (v1, v2, v3, (v5 + 1)) M h
  · have h := iF hc h
    refine Fr_aload_n (q := 0) (i := 0) 0 (by decide +kernel) rfl rfl ?_
    refine gf_X12_35 rfl (by decide +kernel) ob_200 ?_
    refine Fr_iload (i := 6) 5 (by decide +kernel) rfl ?_
    refine Fr_aload_n (q := 0) (i := 0) 0 (by decide +kernel) rfl rfl ?_
    refine gf_X12_81 rfl (by decide +kernel) ob_200 ?_
    refine Fr_iload (i := 6) 5 (by decide +kernel) rfl ?_
    obtain ⟨hi_22, h⟩ := ck_elim h
    refine Fr_iald (by decide +kernel) ob_220 (vp_of ln_220 hi_22) ?_
    obtain ⟨hi_23, h⟩ := ck_elim h
    refine Fr_iast (by decide +kernel) ob_205 (vp_of ln_205 hi_23) ?_
    obtain ⟨M_24, eM_24, h⟩ := bM_elim h
    refine Fr_mem eM_24 ?_
    refine Fr_iinc (i := 6) (j := 1) (v := (v6 + 1)) (lv' := [(6, .int (v6 + 1)), (0, .ref 200), (1, .int v1), (2, .int v2), (3, .long v3), (5, .int v5)]) 5 (by decide +kernel) rfl rfl (by decide) rfl ?_
    refine Fr_goto (off := (-25)) 118 (by decide +kernel) (by decide) ?_
    refine Fr_loc [1, 2, 3, 4, 5, 0] rfl ?_
    exact hk118 (v1, v2, v3, v5, (v6 + 1)) M_24 h
set_option maxRecDepth 20000 in
theorem t_X12_mean_h93 {N : Nat} {q : Bool × Mem} {k93 : Int32 × Int32 × Int64 × Int32 → Mem → Option (Bool × Mem)} (hk93 : ∀ (a : Int32 × Int32 × Int64 × Int32) (M : Mem), k93 a M = some q → Fr 200 21 50 m_X12_mean 93 [(0, .ref 200), (1, .int a.1), (2, .int a.2.1), (3, .long a.2.2.1), (5, .int a.2.2.2)] [] M (QB q)) {v1 : Int32} {v2 : Int32} {v3 : Int64} {v5 : Int32} {M : Mem} (h : f_X12_mean_h93 N k93 v1 v2 v3 v5 M = some q) : Fr 200 21 50 m_X12_mean 93 [(0, .ref 200), (1, .int v1), (2, .int v2), (3, .long v3), (5, .int v5)] [] M (QB q) := by
  unfold f_X12_mean_h93 at h
  refine Fr_iload (i := 5) 4 (by decide +kernel) rfl ?_
  refine Fr_iload_n (q := 2) (i := 2) 2 (by decide +kernel) rfl rfl ?_
  refine Fr_icmp_ge (off := 56) 152 (by decide +kernel) (by decide) (fun hc => ?_) (fun hc => ?_)
  · have h := iT hc h
    refine Fr_aload_n (q := 0) (i := 0) 0 (by decide +kernel) rfl rfl ?_
    refine Fr_lload_n (q := 3) (i := 3) 3 (by decide +kernel) rfl rfl ?_
    refine Fr_iload_n (q := 2) (i := 2) 2 (by decide +kernel) rfl rfl ?_
    refine Fr_i2l (by decide +kernel) ?_
    obtain ⟨r_15, M_13, hc_14, h⟩ := bi_elim h
    refine Fr_cVb (ν := m_X12_fraction) (As := [.long v3, .long (Int32.toInt64 v2)]) (st := []) (rc := 200) (ci := 12) (d' := 1) (by decide +kernel) ml_X12_508 cv_X12_fraction rfl (by decide) rfl ob_200 rfl (by decide) (Nat.le_of_ble_eq_true rfl) (t_X12_fraction hc_14) ?_
    obtain rfl := Option.some.inj h
    exact Fr_zret (by decide +kernel) rfl (nz_b r_15) ⟨rfl, rfl⟩
  · have h := iF hc h
    refine Fr_aload_n (q := 0) (i := 0) 0 (by decide +kernel) rfl rfl ?_
    refine Fr_iload_n (q := 1) (i := 1) 1 (by decide +kernel) rfl rfl ?_
    refine Fr_iload (i := 5) 4 (by decide +kernel) rfl ?_
    refine Fr_iadd (by decide +kernel) ?_
    obtain ⟨M_16, hc_17, h⟩ := bv_elim h
    refine Fr_cVv (ν := m_X12_runsNights) (As := [.int (v1 + v5)]) (st := []) (rc := 200) (ci := 12) (d' := 49) (by decide +kernel) ml_X12_587 cv_X12_runsNights rfl (by decide) rfl ob_200 rfl (by decide) (Nat.le_of_ble_eq_true rfl) (t_X12_runsNights hc_17) ?_
    refine Fr_lload_n (q := 3) (i := 3) 3 (by decide +kernel) rfl rfl ?_
    refine Fr_aload_n (q := 0) (i := 0) 0 (by decide +kernel) rfl rfl ?_
    obtain ⟨r_20, M_18, hc_19, h⟩ := bi_elim h
    refine Fr_cVi (ν := m_X12_foggyMany) (As := []) (st := [.long v3]) (rc := 200) (ci := 12) (d' := 2) (by decide +kernel) ml_X12_377 cv_X12_foggyMany rfl (by decide) rfl ob_200 rfl (by decide) (Nat.le_of_ble_eq_true rfl) (t_X12_foggyMany hc_19) ?_
    refine Fr_i2l (by decide +kernel) ?_
    refine Fr_ladd (by decide +kernel) ?_
    obtain ⟨y_21, ey_21, h⟩ := bL_elim h
    refine Fr_topL ey_21 ?_
    refine Fr_lstore_n (q := 3) (i := 3) (lv' := [(3, .long y_21), (0, .ref 200), (1, .int v1), (2, .int v2), (5, .int v5)]) (by decide +kernel) rfl (by decide) rfl ?_
    refine Fr_iconst (i := 0) (v := 0) (by decide +kernel) (by decide) ?_
    refine Fr_istore (i := 6) (lv' := [(6, .int 0), (3, .long y_21), (0, .ref 200), (1, .int v1), (2, .int v2), (5, .int v5)]) (by decide +kernel) (by decide) rfl ?_
    refine Fr_loc [2, 3, 4, 1, 5, 0] rfl ?_
    exact lp_sound (body := fun k a m => f_X12_mean_h118 N k93 k a.1 a.2.1 a.2.2.1 a.2.2.2.1 a.2.2.2.2 m) (P := fun a M => Fr 200 21 50 m_X12_mean 118 [(0, .ref 200), (1, .int a.1), (2, .int a.2.1), (3, .long a.2.2.1), (5, .int a.2.2.2.1), (6, .int a.2.2.2.2)] [] M (QB q)) (fun k hk a m h => t_X12_mean_h118 hk93 hk h) N (v1, v2, y_21, v5, 0) M_18 h
set_option maxRecDepth 20000 in
theorem t_X12_mean_h63 {N : Nat} {q : Bool × Mem} {k63 : Int32 × Int32 × Int32 → Mem → Option (Bool × Mem)} (hk63 : ∀ (a : Int32 × Int32 × Int32) (M : Mem), k63 a M = some q → Fr 200 21 50 m_X12_mean 63 [(0, .ref 200), (1, .int a.1), (2, .int a.2.1), (3, .int a.2.2)] [] M (QB q)) {v1 : Int32} {v2 : Int32} {v3 : Int32} {M : Mem} (h : f_X12_mean_h63 N k63 v1 v2 v3 M = some q) : Fr 200 21 50 m_X12_mean 63 [(0, .ref 200), (1, .int v1), (2, .int v2), (3, .int v3)] [] M (QB q) := by
  unfold f_X12_mean_h63 at h
  refine Fr_iload_n (q := 3) (i := 3) 3 (by decide +kernel) rfl rfl ?_
  refine Fr_sipush (i := 163) (v := 163) (by decide +kernel) (by decide) ?_
  refine Fr_icmp_ge (off := 21) 88 (by decide +kernel) (by decide) (fun hc => ?_) (fun hc => ?_)
  · have h := iT hc h
    refine Fr_lconst (i := 0) (v := 0) (by decide +kernel) (by decide) ?_
    refine Fr_lstore_n (q := 3) (i := 3) (lv' := [(3, .long 0), (0, .ref 200), (1, .int v1), (2, .int v2)]) (by decide +kernel) rfl (by decide) rfl ?_
    refine Fr_iconst (i := 0) (v := 0) (by decide +kernel) (by decide) ?_
    refine Fr_istore (i := 5) (lv' := [(5, .int 0), (3, .long 0), (0, .ref 200), (1, .int v1), (2, .int v2)]) (by decide +kernel) (by decide) rfl ?_
    refine Fr_loc [2, 3, 4, 1, 0] rfl ?_
    exact lp_sound (body := fun k a m => f_X12_mean_h93 N k a.1 a.2.1 a.2.2.1 a.2.2.2 m) (P := fun a M => Fr 200 21 50 m_X12_mean 93 [(0, .ref 200), (1, .int a.1), (2, .int a.2.1), (3, .long a.2.2.1), (5, .int a.2.2.2)] [] M (QB q)) (fun k hk a m h => t_X12_mean_h93 hk h) N (v1, v2, 0, 0) M h
  · have h := iF hc h
    refine Fr_aload_n (q := 0) (i := 0) 0 (by decide +kernel) rfl rfl ?_
    refine gf_X12_81 rfl (by decide +kernel) ob_200 ?_
    refine Fr_iload_n (q := 3) (i := 3) 3 (by decide +kernel) rfl rfl ?_
    refine Fr_aload_n (q := 0) (i := 0) 0 (by decide +kernel) rfl rfl ?_
    refine gf_X12_35 rfl (by decide +kernel) ob_200 ?_
    refine Fr_iload_n (q := 3) (i := 3) 3 (by decide +kernel) rfl rfl ?_
    obtain ⟨hi_25, h⟩ := ck_elim h
    refine Fr_iald (by decide +kernel) ob_205 (vp_of ln_205 hi_25) ?_
    obtain ⟨hi_26, h⟩ := ck_elim h
    refine Fr_iast (by decide +kernel) ob_220 (vp_of ln_220 hi_26) ?_
    obtain ⟨M_27, eM_27, h⟩ := bM_elim h
    refine Fr_mem eM_27 ?_
    refine Fr_iinc (i := 3) (j := 1) (v := (v3 + 1)) (lv' := [(3, .int (v3 + 1)), (0, .ref 200), (1, .int v1), (2, .int v2)]) 3 (by decide +kernel) rfl rfl (by decide) rfl ?_
    refine Fr_goto (off := (-22)) 63 (by decide +kernel) (by decide) ?_
    refine Fr_loc [1, 2, 3, 0] rfl ?_
    exact hk63 (v1, v2, (v3 + 1)) M_27 h
set_option maxRecDepth 20000 in
theorem t_X12_mean {N : Nat} {x1 : Int32} {x2 : Int32} {M : Mem} {q : Bool × Mem} (h : f_X12_mean N x1 x2 M = some q) : Ev 200 21 50 m_X12_mean [.ref 200, .int x1, .int x2] M (QB q) := by
  refine Ev_of_Fr (by decide +kernel) (Nat.le_of_ble_eq_true rfl) ?_
  show Fr 200 21 50 m_X12_mean 0 [(0, .ref 200), (1, .int x1), (2, .int x2)] [] M (QB q)
  unfold f_X12_mean at h
  refine Fr_aload_n (q := 0) (i := 0) 0 (by decide +kernel) rfl rfl ?_
  refine Fr_iconst (i := 0) (v := 0) (by decide +kernel) (by decide) ?_
  refine pf_X12_84 rfl (by decide +kernel) ob_200 ?_
  obtain ⟨M_1, eM_1, h⟩ := bM_elim h
  refine Fr_mem eM_1 ?_
  refine Fr_aload_n (q := 0) (i := 0) 0 (by decide +kernel) rfl rfl ?_
  refine Fr_iconst (i := 0) (v := 0) (by decide +kernel) (by decide) ?_
  refine pf_X12_87 rfl (by decide +kernel) ob_200 ?_
  obtain ⟨M_2, eM_2, h⟩ := bM_elim h
  refine Fr_mem eM_2 ?_
  refine Fr_iload_n (q := 2) (i := 2) 2 (by decide +kernel) rfl rfl ?_
  refine Fr_i2l (by decide +kernel) ?_
  refine Fr_lconst (i := 1) (v := 1) (by decide +kernel) (by decide) ?_
  refine Fr_ldc2 (idx := 593) (v := 20) (by decide +kernel) ll_X12_593 ?_
  obtain ⟨r_5, M_3, hc_4, h⟩ := bi_elim h
  refine Fr_cSb (ν := m_X12_isIn) (As := [.long (Int32.toInt64 x2), .long 1, .long 20]) (st := []) (d' := 0) (by decide +kernel) ml_X12_119 cs_X12_isIn rfl (by decide) (Nat.le_of_ble_eq_true rfl) (t_X12_isIn hc_4) ?_
  refine Fr_if_eq (off := 18) 37 (by decide +kernel) (by decide) (fun hc => ?_) (fun hc => ?_)
  · have h := iT hc h
    refine Fr_aload_n (q := 0) (i := 0) 0 (by decide +kernel) rfl rfl ?_
    refine Fr_iconst (i := 5) (v := 5) (by decide +kernel) (by decide) ?_
    obtain ⟨r_8, M_6, hc_7, h⟩ := bi_elim h
    refine Fr_cVb (ν := m_X12_no) (As := [.int 5]) (st := []) (rc := 200) (ci := 12) (d' := 0) (by decide +kernel) ml_X12_99 cv_X12_no rfl (by decide) rfl ob_200 rfl (by decide) (Nat.le_of_ble_eq_true rfl) (t_X12_no hc_7) ?_
    obtain rfl := Option.some.inj h
    exact Fr_zret (by decide +kernel) rfl (nz_b r_8) ⟨rfl, rfl⟩
  · have h := iF hc h
    refine Fr_iload_n (q := 1) (i := 1) 1 (by decide +kernel) rfl rfl ?_
    refine Fr_i2l (by decide +kernel) ?_
    refine Fr_lconst (i := 0) (v := 0) (by decide +kernel) (by decide) ?_
    refine Fr_sipush (i := 10000) (v := 10000) (by decide +kernel) (by decide) ?_
    refine Fr_iload_n (q := 2) (i := 2) 2 (by decide +kernel) rfl rfl ?_
    refine Fr_isub (by decide +kernel) ?_
    refine Fr_i2l (by decide +kernel) ?_
    obtain ⟨r_11, M_9, hc_10, h⟩ := bi_elim h
    refine Fr_cSb (ν := m_X12_isIn) (As := [.long (Int32.toInt64 x1), .long 0, .long (Int32.toInt64 (10000 - x2))]) (st := []) (d' := 0) (by decide +kernel) ml_X12_119 cs_X12_isIn rfl (by decide) (Nat.le_of_ble_eq_true rfl) (t_X12_isIn hc_10) ?_
    refine Fr_if_ne (off := 9) 43 (by decide +kernel) (by decide) (fun hc => ?_) (fun hc => ?_)
    · have h := iF hc h
      refine Fr_aload_n (q := 0) (i := 0) 0 (by decide +kernel) rfl rfl ?_
      refine gf_X12_35 rfl (by decide +kernel) ob_200 ?_
      refine Fr_sipush (i := 163) (v := 163) (by decide +kernel) (by decide) ?_
      obtain ⟨hi_12, h⟩ := ck_elim h
      refine Fr_iald (by decide +kernel) ob_205 (vp_of ln_205 hi_12) ?_
      refine Fr_if_ne (off := 10) 61 (by decide +kernel) (by decide) (fun hc => ?_) (fun hc => ?_)
      · have h := iF hc h
        refine Fr_iconst (i := 0) (v := 0) (by decide +kernel) (by decide) ?_
        refine Fr_istore_n (q := 3) (i := 3) (lv' := [(3, .int 0), (0, .ref 200), (1, .int x1), (2, .int x2)]) (by decide +kernel) rfl (by decide) rfl ?_
        refine Fr_loc [1, 2, 3, 0] rfl ?_
        exact lp_sound (body := fun k a m => f_X12_mean_h63 N k a.1 a.2.1 a.2.2 m) (P := fun a M => Fr 200 21 50 m_X12_mean 63 [(0, .ref 200), (1, .int a.1), (2, .int a.2.1), (3, .int a.2.2)] [] M (QB q)) (fun k hk a m h => t_X12_mean_h63 hk h) N (x1, x2, 0) M_9 h
      · have h := iT hc h
        refine Fr_aload_n (q := 0) (i := 0) 0 (by decide +kernel) rfl rfl ?_
        refine Fr_bipush (i := 8) (v := 8) (by decide +kernel) (by decide) ?_
        obtain ⟨r_30, M_28, hc_29, h⟩ := bi_elim h
        refine Fr_cVb (ν := m_X12_no) (As := [.int 8]) (st := []) (rc := 200) (ci := 12) (d' := 0) (by decide +kernel) ml_X12_99 cv_X12_no rfl (by decide) rfl ob_200 rfl (by decide) (Nat.le_of_ble_eq_true rfl) (t_X12_no hc_29) ?_
        obtain rfl := Option.some.inj h
        exact Fr_zret (by decide +kernel) rfl (nz_b r_30) ⟨rfl, rfl⟩
    · have h := iT hc h
      refine Fr_aload_n (q := 0) (i := 0) 0 (by decide +kernel) rfl rfl ?_
      refine Fr_iconst (i := 5) (v := 5) (by decide +kernel) (by decide) ?_
      obtain ⟨r_33, M_31, hc_32, h⟩ := bi_elim h
      refine Fr_cVb (ν := m_X12_no) (As := [.int 5]) (st := []) (rc := 200) (ci := 12) (d' := 0) (by decide +kernel) ml_X12_99 cv_X12_no rfl (by decide) rfl ob_200 rfl (by decide) (Nat.le_of_ble_eq_true rfl) (t_X12_no hc_32) ?_
      obtain rfl := Option.some.inj h
      exact Fr_zret (by decide +kernel) rfl (nz_b r_33) ⟨rfl, rfl⟩
set_option maxRecDepth 20000 in
theorem t_X12_mark {N : Nat} {M : Mem} {q : Int32 × Mem} (h : f_X12_mark N M = some q) : Ev 200 21 1 m_X12_mark [.ref 200] M (QI q) := by
  refine Ev_of_Fr (by decide +kernel) (Nat.le_of_ble_eq_true rfl) ?_
  show Fr 200 21 1 m_X12_mark 0 [(0, .ref 200)] [] M (QI q)
  unfold f_X12_mark at h
  refine Fr_aload_n (q := 0) (i := 0) 0 (by decide +kernel) rfl rfl ?_
  refine Fr_iconst (i := 0) (v := 0) (by decide +kernel) (by decide) ?_
  refine pf_X12_84 rfl (by decide +kernel) ob_200 ?_
  obtain ⟨M_1, eM_1, h⟩ := bM_elim h
  refine Fr_mem eM_1 ?_
  refine Fr_aload_n (q := 0) (i := 0) 0 (by decide +kernel) rfl rfl ?_
  refine Fr_iconst (i := 0) (v := 0) (by decide +kernel) (by decide) ?_
  refine pf_X12_87 rfl (by decide +kernel) ob_200 ?_
  obtain ⟨M_2, eM_2, h⟩ := bM_elim h
  refine Fr_mem eM_2 ?_
  refine Fr_aload_n (q := 0) (i := 0) 0 (by decide +kernel) rfl rfl ?_
  refine gf_X12_595 rfl (by decide +kernel) ob_200 ?_
  refine Fr_iconst (i := 3) (v := 3) (by decide +kernel) (by decide) ?_
  refine Fr_icmp_ne (off := 10) 25 (by decide +kernel) (by decide) (fun hc => ?_) (fun hc => ?_)
  · have h := iF hc h
    refine Fr_aload_n (q := 0) (i := 0) 0 (by decide +kernel) rfl rfl ?_
    refine Fr_dup (by decide +kernel) rfl ?_
    refine gf_X12_595 rfl (by decide +kernel) ob_200 ?_
    refine Fr_iconst (i := 1) (v := 1) (by decide +kernel) (by decide) ?_
    refine Fr_iadd (by decide +kernel) ?_
    refine pf_X12_595 rfl (by decide +kernel) ob_200 ?_
    obtain ⟨M_3, eM_3, h⟩ := bM_elim h
    refine Fr_mem eM_3 ?_
    refine Fr_aload_n (q := 0) (i := 0) 0 (by decide +kernel) rfl rfl ?_
    refine Fr_iconst (i := 0) (v := 0) (by decide +kernel) (by decide) ?_
    refine Fr_aload_n (q := 0) (i := 0) 0 (by decide +kernel) rfl rfl ?_
    refine gf_X12_595 rfl (by decide +kernel) ob_200 ?_
    obtain ⟨M_4, hc_5, h⟩ := bv_elim h
    refine Fr_cVv (ν := m_X12_copy) (As := [.int 0, .int (M_3.1 200 24)]) (st := []) (rc := 200) (ci := 12) (d' := 0) (by decide +kernel) ml_X12_339 cv_X12_copy rfl (by decide) rfl ob_200 rfl (by decide) (Nat.le_of_ble_eq_true rfl) (t_X12_copy hc_5) ?_
    refine Fr_aload_n (q := 0) (i := 0) 0 (by decide +kernel) rfl rfl ?_
    refine gf_X12_595 rfl (by decide +kernel) ob_200 ?_
    obtain rfl := Option.some.inj h
    exact Fr_iret (by decide +kernel) rfl ⟨rfl, rfl⟩
  · have h := iT hc h
    refine Fr_aload_n (q := 0) (i := 0) 0 (by decide +kernel) rfl rfl ?_
    refine Fr_bipush (i := 7) (v := 7) (by decide +kernel) (by decide) ?_
    obtain ⟨r_8, M_6, hc_7, h⟩ := bi_elim h
    refine Fr_cVi (ν := m_X12_refuse) (As := [.int 7]) (st := []) (rc := 200) (ci := 12) (d' := 0) (by decide +kernel) ml_X12_371 cv_X12_refuse rfl (by decide) rfl ob_200 rfl (by decide) (Nat.le_of_ble_eq_true rfl) (t_X12_refuse hc_7) ?_
    obtain rfl := Option.some.inj h
    exact Fr_iret (by decide +kernel) rfl ⟨rfl, rfl⟩
set_option maxRecDepth 20000 in
theorem t_X12_back {N : Nat} {M : Mem} {q : Int32 × Mem} (h : f_X12_back N M = some q) : Ev 200 21 1 m_X12_back [.ref 200] M (QI q) := by
  refine Ev_of_Fr (by decide +kernel) (Nat.le_of_ble_eq_true rfl) ?_
  show Fr 200 21 1 m_X12_back 0 [(0, .ref 200)] [] M (QI q)
  unfold f_X12_back at h
  refine Fr_aload_n (q := 0) (i := 0) 0 (by decide +kernel) rfl rfl ?_
  refine Fr_iconst (i := 0) (v := 0) (by decide +kernel) (by decide) ?_
  refine pf_X12_84 rfl (by decide +kernel) ob_200 ?_
  obtain ⟨M_1, eM_1, h⟩ := bM_elim h
  refine Fr_mem eM_1 ?_
  refine Fr_aload_n (q := 0) (i := 0) 0 (by decide +kernel) rfl rfl ?_
  refine Fr_iconst (i := 0) (v := 0) (by decide +kernel) (by decide) ?_
  refine pf_X12_87 rfl (by decide +kernel) ob_200 ?_
  obtain ⟨M_2, eM_2, h⟩ := bM_elim h
  refine Fr_mem eM_2 ?_
  refine Fr_aload_n (q := 0) (i := 0) 0 (by decide +kernel) rfl rfl ?_
  refine gf_X12_595 rfl (by decide +kernel) ob_200 ?_
  refine Fr_if_ne (off := 10) 24 (by decide +kernel) (by decide) (fun hc => ?_) (fun hc => ?_)
  · have h := iF hc h
    refine Fr_aload_n (q := 0) (i := 0) 0 (by decide +kernel) rfl rfl ?_
    refine Fr_aload_n (q := 0) (i := 0) 0 (by decide +kernel) rfl rfl ?_
    refine gf_X12_595 rfl (by decide +kernel) ob_200 ?_
    refine Fr_iconst (i := 0) (v := 0) (by decide +kernel) (by decide) ?_
    obtain ⟨M_3, hc_4, h⟩ := bv_elim h
    refine Fr_cVv (ν := m_X12_copy) (As := [.int (M_2.1 200 24), .int 0]) (st := []) (rc := 200) (ci := 12) (d' := 0) (by decide +kernel) ml_X12_339 cv_X12_copy rfl (by decide) rfl ob_200 rfl (by decide) (Nat.le_of_ble_eq_true rfl) (t_X12_copy hc_4) ?_
    refine Fr_aload_n (q := 0) (i := 0) 0 (by decide +kernel) rfl rfl ?_
    refine Fr_dup (by decide +kernel) rfl ?_
    refine gf_X12_595 rfl (by decide +kernel) ob_200 ?_
    refine Fr_iconst (i := 1) (v := 1) (by decide +kernel) (by decide) ?_
    refine Fr_isub (by decide +kernel) ?_
    refine pf_X12_595 rfl (by decide +kernel) ob_200 ?_
    obtain ⟨M_5, eM_5, h⟩ := bM_elim h
    refine Fr_mem eM_5 ?_
    refine Fr_aload_n (q := 0) (i := 0) 0 (by decide +kernel) rfl rfl ?_
    refine gf_X12_595 rfl (by decide +kernel) ob_200 ?_
    obtain rfl := Option.some.inj h
    exact Fr_iret (by decide +kernel) rfl ⟨rfl, rfl⟩
  · have h := iT hc h
    refine Fr_aload_n (q := 0) (i := 0) 0 (by decide +kernel) rfl rfl ?_
    refine Fr_bipush (i := 8) (v := 8) (by decide +kernel) (by decide) ?_
    obtain ⟨r_8, M_6, hc_7, h⟩ := bi_elim h
    refine Fr_cVi (ν := m_X12_refuse) (As := [.int 8]) (st := []) (rc := 200) (ci := 12) (d' := 0) (by decide +kernel) ml_X12_371 cv_X12_refuse rfl (by decide) rfl ob_200 rfl (by decide) (Nat.le_of_ble_eq_true rfl) (t_X12_refuse hc_7) ?_
    obtain rfl := Option.some.inj h
    exact Fr_iret (by decide +kernel) rfl ⟨rfl, rfl⟩
