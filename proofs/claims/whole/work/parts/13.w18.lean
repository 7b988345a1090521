set_option maxRecDepth 20000 in
theorem t_X12_isSignByte {x1 : Int32} {M : Mem} {q : Bool × Mem} (h : f_X12_isSignByte x1 M = some q) : Ev 200 21 0 m_X12_isSignByte [.ref 200, .int x1] M (QB q) := by
  refine Ev_of_Fr (by decide +kernel) (Nat.le_of_ble_eq_true rfl) ?_
  show Fr 200 21 0 m_X12_isSignByte 0 [(0, .ref 200), (1, .int x1)] [] M (QB q)
  unfold f_X12_isSignByte at h
  refine Fr_iload_n (q := 1) (i := 1) 1 (by decide +kernel) rfl rfl ?_
  refine Fr_bipush (i := 59) (v := 59) (by decide +kernel) (by decide) ?_
  refine Fr_icmp_eq (off := 21) 24 (by decide +kernel) (by decide) (fun hc => ?_) (fun hc => ?_)
  · have h := iT hc h
    refine Fr_iconst (i := 1) (v := 1) (by decide +kernel) (by decide) ?_
    refine Fr_goto (off := 4) 29 (by decide +kernel) (by decide) ?_
    obtain rfl := Option.some.inj h
    exact Fr_zret (by decide +kernel) rfl (by decide) ⟨rfl, rfl⟩
  · have h := iF hc h
    refine Fr_iload_n (q := 1) (i := 1) 1 (by decide +kernel) rfl rfl ?_
    refine Fr_bipush (i := 60) (v := 60) (by decide +kernel) (by decide) ?_
    refine Fr_icmp_eq (off := 15) 24 (by decide +kernel) (by decide) (fun hc => ?_) (fun hc => ?_)
    · have h := iT hc h
      refine Fr_iconst (i := 1) (v := 1) (by decide +kernel) (by decide) ?_
      refine Fr_goto (off := 4) 29 (by decide +kernel) (by decide) ?_
      obtain rfl := Option.some.inj h
      exact Fr_zret (by decide +kernel) rfl (by decide) ⟨rfl, rfl⟩
    · have h := iF hc h
      refine Fr_iload_n (q := 1) (i := 1) 1 (by decide +kernel) rfl rfl ?_
      refine Fr_bipush (i := 62) (v := 62) (by decide +kernel) (by decide) ?_
      refine Fr_icmp_eq (off := 9) 24 (by decide +kernel) (by decide) (fun hc => ?_) (fun hc => ?_)
      · have h := iT hc h
        refine Fr_iconst (i := 1) (v := 1) (by decide +kernel) (by decide) ?_
        refine Fr_goto (off := 4) 29 (by decide +kernel) (by decide) ?_
        obtain rfl := Option.some.inj h
        exact Fr_zret (by decide +kernel) rfl (by decide) ⟨rfl, rfl⟩
      · have h := iF hc h
        refine Fr_iload_n (q := 1) (i := 1) 1 (by decide +kernel) rfl rfl ?_
        refine Fr_bipush (i := 61) (v := 61) (by decide +kernel) (by decide) ?_
        refine Fr_icmp_ne (off := 7) 28 (by decide +kernel) (by decide) (fun hc => ?_) (fun hc => ?_)
        · have h := iF hc h
          refine Fr_iconst (i := 0) (v := 0) (by decide +kernel) (by decide) ?_
          obtain rfl := Option.some.inj h
          exact Fr_zret (by decide +kernel) rfl (by decide) ⟨rfl, rfl⟩
        · have h := iT hc h
          refine Fr_iconst (i := 1) (v := 1) (by decide +kernel) (by decide) ?_
          refine Fr_goto (off := 4) 29 (by decide +kernel) (by decide) ?_
          obtain rfl := Option.some.inj h
          exact Fr_zret (by decide +kernel) rfl (by decide) ⟨rfl, rfl⟩
set_option maxRecDepth 20000 in
theorem t_X12_advance_b260 {N : Nat} {q : Mem} {k210 : Unit → Mem → Option (Mem)} (hk210 : ∀ (a : Unit) (M : Mem), k210 a M = some q → Fr 200 21 1 m_X12_advance 210 [(0, .ref 200)] [] M (QV q)) {M : Mem} (h : f_X12_advance_b260 N k210 M = some q) : Fr 200 21 1 m_X12_advance 260 [(0, .ref 200)] [] M (QV q) := by
  unfold f_X12_advance_b260 at h
  refine Fr_aload_n (q := 0) (i := 0) 0 (by decide +kernel) rfl rfl ?_
  refine Fr_dup (by decide +kernel) rfl ?_
  refine gf_X12_130 rfl (by decide +kernel) ob_200 ?_
  refine Fr_iconst (i := 1) (v := 1) (by decide +kernel) (by decide) ?_
  refine Fr_iadd (by decide +kernel) ?_
  refine pf_X12_130 rfl (by decide +kernel) ob_200 ?_
  obtain ⟨M_28, eM_28, h⟩ := bM_elim h
  refine Fr_mem eM_28 ?_
  refine Fr_goto (off := (-60)) 210 (by decide +kernel) (by decide) ?_
  exact hk210 () M_28 h
set_option maxRecDepth 20000 in
theorem t_X12_advance_h210 {N : Nat} {q : Mem} {k210 : Unit → Mem → Option (Mem)} (hk210 : ∀ (a : Unit) (M : Mem), k210 a M = some q → Fr 200 21 1 m_X12_advance 210 [(0, .ref 200)] [] M (QV q)) {M : Mem} (h : f_X12_advance_h210 N k210 M = some q) : Fr 200 21 1 m_X12_advance 210 [(0, .ref 200)] [] M (QV q) := by
  unfold f_X12_advance_h210 at h
  refine Fr_aload_n (q := 0) (i := 0) 0 (by decide +kernel) rfl rfl ?_
  refine Fr_aload_n (q := 0) (i := 0) 0 (by decide +kernel) rfl rfl ?_
  refine gf_X12_130 rfl (by decide +kernel) ob_200 ?_
  obtain ⟨r_22, M_20, hc_21, h⟩ := bi_elim h
  refine Fr_cVi (ν := m_X12_look2) (As := [.int (M.1 200 16)]) (st := []) (rc := 200) (ci := 12) (d' := 0) (by decide +kernel) ml_X12_136 cv_X12_look2 rfl (by decide) rfl ob_200 rfl (by decide) (Nat.le_of_ble_eq_true rfl) (t_X12_look2 hc_21) ?_
  obtain ⟨r_25, M_23, hc_24, h⟩ := bi_elim h
  refine Fr_cSb (ν := m_X12_isDigit) (As := [.int r_22]) (st := []) (d' := 0) (by decide +kernel) ml_X12_155 cs_X12_isDigit rfl (by decide) (Nat.le_of_ble_eq_true rfl) (t_X12_isDigit hc_24) ?_
  refine Fr_if_eq (off := 52) 273 (by decide +kernel) (by decide) (fun hc => ?_) (fun hc => ?_)
  · have h := iT hc h
    refine Fr_aload_n (q := 0) (i := 0) 0 (by decide +kernel) rfl rfl ?_
    refine Fr_aload_n (q := 0) (i := 0) 0 (by decide +kernel) rfl rfl ?_
    refine gf_X12_130 rfl (by decide +kernel) ob_200 ?_
    refine Fr_aload_n (q := 0) (i := 0) 0 (by decide +kernel) rfl rfl ?_
    refine gf_X12_133 rfl (by decide +kernel) ob_200 ?_
    refine Fr_isub (by decide +kernel) ?_
    refine Fr_iconst (i := 4) (v := 4) (by decide +kernel) (by decide) ?_
    refine Fr_icmp_le (off := 7) 291 (by decide +kernel) (by decide) (fun hc => ?_) (fun hc => ?_)
    · have h := iT hc h
      refine Fr_iconst (i := 2) (v := 2) (by decide +kernel) (by decide) ?_
      refine pf_X12_139 rfl (by decide +kernel) ob_200 ?_
      obtain ⟨M_26, eM_26, h⟩ := bM_elim h
      refine Fr_mem eM_26 ?_
      refine Fr_goto (off := 35) 330 (by decide +kernel) (by decide) ?_
      obtain rfl := Option.some.inj h
      exact Fr_vret (by decide +kernel) rfl ⟨rfl, rfl⟩
    · have h := iF hc h
      refine Fr_iconst (i := 4) (v := 4) (by decide +kernel) (by decide) ?_
      refine Fr_goto (off := 4) 292 (by decide +kernel) (by decide) ?_
      refine pf_X12_139 rfl (by decide +kernel) ob_200 ?_
      obtain ⟨M_27, eM_27, h⟩ := bM_elim h
      refine Fr_mem eM_27 ?_
      refine Fr_goto (off := 35) 330 (by decide +kernel) (by decide) ?_
      obtain rfl := Option.some.inj h
      exact Fr_vret (by decide +kernel) rfl ⟨rfl, rfl⟩
  · have h := iF hc h
    refine Fr_aload_n (q := 0) (i := 0) 0 (by decide +kernel) rfl rfl ?_
    refine gf_X12_130 rfl (by decide +kernel) ob_200 ?_
    refine Fr_aload_n (q := 0) (i := 0) 0 (by decide +kernel) rfl rfl ?_
    refine gf_X12_133 rfl (by decide +kernel) ob_200 ?_
    refine Fr_isub (by decide +kernel) ?_
    refine Fr_iconst (i := 4) (v := 4) (by decide +kernel) (by decide) ?_
    refine Fr_icmp_ge (off := 26) 260 (by decide +kernel) (by decide) (fun hc => ?_) (fun hc => ?_)
    · have h := iT hc h
      exact t_X12_advance_b260 hk210 h
    · have h := iF hc h
      refine Fr_aload_n (q := 0) (i := 0) 0 (by decide +kernel) rfl rfl ?_
      refine Fr_bipush (i := 10) (v := 10) (by decide +kernel) (by decide) ?_
      refine Fr_aload_n (q := 0) (i := 0) 0 (by decide +kernel) rfl rfl ?_
      refine gf_X12_158 rfl (by decide +kernel) ob_200 ?_
      refine Fr_imul (by decide +kernel) ?_
      refine Fr_aload_n (q := 0) (i := 0) 0 (by decide +kernel) rfl rfl ?_
      refine Fr_aload_n (q := 0) (i := 0) 0 (by decide +kernel) rfl rfl ?_
      refine gf_X12_130 rfl (by decide +kernel) ob_200 ?_
      obtain ⟨r_31, M_29, hc_30, h⟩ := bi_elim h
      refine Fr_cVi (ν := m_X12_look2) (As := [.int (M_23.1 200 16)]) (st := [.int (10 * (M_23.1 200 17)), .ref 200]) (rc := 200) (ci := 12) (d' := 0) (by decide +kernel) ml_X12_136 cv_X12_look2 rfl (by decide) rfl ob_200 rfl (by decide) (Nat.le_of_ble_eq_true rfl) (t_X12_look2 hc_30) ?_
      refine Fr_iadd (by decide +kernel) ?_
      refine Fr_bipush (i := 48) (v := 48) (by decide +kernel) (by decide) ?_
      refine Fr_isub (by decide +kernel) ?_
      refine pf_X12_158 rfl (by decide +kernel) ob_200 ?_
      obtain ⟨M_32, eM_32, h⟩ := bM_elim h
      refine Fr_mem eM_32 ?_
      exact t_X12_advance_b260 hk210 h
set_option maxRecDepth 20000 in
theorem t_X12_advance_b166 {N : Nat} {q : Mem} {k109 : Unit → Mem → Option (Mem)} (hk109 : ∀ (a : Unit) (M : Mem), k109 a M = some q → Fr 200 21 1 m_X12_advance 109 [(0, .ref 200)] [] M (QV q)) {s0 : Int64} {M : Mem} (h : f_X12_advance_b166 N k109 s0 M = some q) : Fr 200 21 1 m_X12_advance 166 [(0, .ref 200)] [.long s0, .ref 200] M (QV q) := by
  unfold f_X12_advance_b166 at h
  refine pf_X12_145 rfl (by decide +kernel) ob_200 ?_
  obtain ⟨M_42, eM_42, h⟩ := bM_elim h
  refine Fr_mem eM_42 ?_
  refine Fr_aload_n (q := 0) (i := 0) 0 (by decide +kernel) rfl rfl ?_
  refine Fr_dup (by decide +kernel) rfl ?_
  refine gf_X12_130 rfl (by decide +kernel) ob_200 ?_
  refine Fr_iconst (i := 1) (v := 1) (by decide +kernel) (by decide) ?_
  refine Fr_iadd (by decide +kernel) ?_
  refine pf_X12_130 rfl (by decide +kernel) ob_200 ?_
  obtain ⟨M_43, eM_43, h⟩ := bM_elim h
  refine Fr_mem eM_43 ?_
  refine Fr_goto (off := (-70)) 109 (by decide +kernel) (by decide) ?_
  exact hk109 () M_43 h
set_option maxRecDepth 20000 in
theorem t_X12_advance_h109 {N : Nat} {q : Mem} {k109 : Unit → Mem → Option (Mem)} (hk109 : ∀ (a : Unit) (M : Mem), k109 a M = some q → Fr 200 21 1 m_X12_advance 109 [(0, .ref 200)] [] M (QV q)) {M : Mem} (h : f_X12_advance_h109 N k109 M = some q) : Fr 200 21 1 m_X12_advance 109 [(0, .ref 200)] [] M (QV q) := by
  unfold f_X12_advance_h109 at h
  refine Fr_aload_n (q := 0) (i := 0) 0 (by decide +kernel) rfl rfl ?_
  refine Fr_aload_n (q := 0) (i := 0) 0 (by decide +kernel) rfl rfl ?_
  refine gf_X12_130 rfl (by decide +kernel) ob_200 ?_
  obtain ⟨r_37, M_35, hc_36, h⟩ := bi_elim h
  refine Fr_cVi (ν := m_X12_look2) (As := [.int (M.1 200 16)]) (st := []) (rc := 200) (ci := 12) (d' := 0) (by decide +kernel) ml_X12_136 cv_X12_look2 rfl (by decide) rfl ob_200 rfl (by decide) (Nat.le_of_ble_eq_true rfl) (t_X12_look2 hc_36) ?_
  obtain ⟨r_40, M_38, hc_39, h⟩ := bi_elim h
  refine Fr_cSb (ν := m_X12_isLetter) (As := [.int r_37]) (st := []) (d' := 0) (by decide +kernel) ml_X12_142 cs_X12_isLetter rfl (by decide) (Nat.le_of_ble_eq_true rfl) (t_X12_isLetter hc_39) ?_
  refine Fr_if_eq (off := 62) 182 (by decide +kernel) (by decide) (fun hc => ?_) (fun hc => ?_)
  · have h := iT hc h
    refine Fr_aload_n (q := 0) (i := 0) 0 (by decide +kernel) rfl rfl ?_
    refine Fr_aload_n (q := 0) (i := 0) 0 (by decide +kernel) rfl rfl ?_
    refine gf_X12_130 rfl (by decide +kernel) ob_200 ?_
    refine Fr_aload_n (q := 0) (i := 0) 0 (by decide +kernel) rfl rfl ?_
    refine gf_X12_133 rfl (by decide +kernel) ob_200 ?_
    refine Fr_isub (by decide +kernel) ?_
    refine pf_X12_152 rfl (by decide +kernel) ob_200 ?_
    obtain ⟨M_41, eM_41, h⟩ := bM_elim h
    refine Fr_mem eM_41 ?_
    refine Fr_goto (off := 135) 330 (by decide +kernel) (by decide) ?_
    obtain rfl := Option.some.inj h
    exact Fr_vret (by decide +kernel) rfl ⟨rfl, rfl⟩
  · have h := iF hc h
    refine Fr_aload_n (q := 0) (i := 0) 0 (by decide +kernel) rfl rfl ?_
    refine Fr_aload_n (q := 0) (i := 0) 0 (by decide +kernel) rfl rfl ?_
    refine gf_X12_130 rfl (by decide +kernel) ob_200 ?_
    refine Fr_aload_n (q := 0) (i := 0) 0 (by decide +kernel) rfl rfl ?_
    refine gf_X12_133 rfl (by decide +kernel) ob_200 ?_
    refine Fr_isub (by decide +kernel) ?_
    refine Fr_bipush (i := 8) (v := 8) (by decide +kernel) (by decide) ?_
    refine Fr_icmp_ge (off := 28) 163 (by decide +kernel) (by decide) (fun hc => ?_) (fun hc => ?_)
    · have h := iT hc h
      refine Fr_ldc2 (idx := 115) (v := (-1)) (by decide +kernel) ll_X12_115 ?_
      exact t_X12_advance_b166 hk109 h
    · have h := iF hc h
      refine Fr_aload_n (q := 0) (i := 0) 0 (by decide +kernel) rfl rfl ?_
      refine gf_X12_145 rfl (by decide +kernel) ob_200 ?_
      refine Fr_ldc2 (idx := 148) (v := 32) (by decide +kernel) ll_X12_148 ?_
      refine Fr_lmul (by decide +kernel) ?_
      refine Fr_aload_n (q := 0) (i := 0) 0 (by decide +kernel) rfl rfl ?_
      refine Fr_aload_n (q := 0) (i := 0) 0 (by decide +kernel) rfl rfl ?_
      refine gf_X12_130 rfl (by decide +kernel) ob_200 ?_
      obtain ⟨r_46, M_44, hc_45, h⟩ := bi_elim h
      refine Fr_cVi (ν := m_X12_look2) (As := [.int (M_38.1 200 16)]) (st := [.long ((M_38.2 200 19) * 32), .ref 200]) (rc := 200) (ci := 12) (d' := 0) (by decide +kernel) ml_X12_136 cv_X12_look2 rfl (by decide) rfl ob_200 rfl (by decide) (Nat.le_of_ble_eq_true rfl) (t_X12_look2 hc_45) ?_
      refine Fr_i2l (by decide +kernel) ?_
      refine Fr_ladd (by decide +kernel) ?_
      refine Fr_ldc2 (idx := 150) (v := 96) (by decide +kernel) ll_X12_150 ?_
      refine Fr_lsub (by decide +kernel) ?_
      refine Fr_goto (off := 6) 166 (by decide +kernel) (by decide) ?_
      exact t_X12_advance_b166 hk109 h
set_option maxRecDepth 20000 in
theorem t_X12_advance_b58 {N : Nat} {q : Mem} {M : Mem} (h : f_X12_advance_b58 N M = some q) : Fr 200 21 1 m_X12_advance 58 [(0, .ref 200)] [] M (QV q) := by
  unfold f_X12_advance_b58 at h
  refine Fr_aload_n (q := 0) (i := 0) 0 (by decide +kernel) rfl rfl ?_
  refine Fr_aload_n (q := 0) (i := 0) 0 (by decide +kernel) rfl rfl ?_
  refine gf_X12_133 rfl (by decide +kernel) ob_200 ?_
  refine pf_X12_130 rfl (by decide +kernel) ob_200 ?_
  obtain ⟨M_2, eM_2, h⟩ := bM_elim h
  refine Fr_mem eM_2 ?_
  refine Fr_aload_n (q := 0) (i := 0) 0 (by decide +kernel) rfl rfl ?_
  refine gf_X12_133 rfl (by decide +kernel) ob_200 ?_
  refine Fr_aload_n (q := 0) (i := 0) 0 (by decide +kernel) rfl rfl ?_
  refine gf_X12_127 rfl (by decide +kernel) ob_200 ?_
  refine Fr_icmp_lt (off := 9) 83 (by decide +kernel) (by decide) (fun hc => ?_) (fun hc => ?_)
  · have h := iT hc h
    refine Fr_aload_n (q := 0) (i := 0) 0 (by decide +kernel) rfl rfl ?_
    refine Fr_aload_n (q := 0) (i := 0) 0 (by decide +kernel) rfl rfl ?_
    refine gf_X12_133 rfl (by decide +kernel) ob_200 ?_
    obtain ⟨r_5, M_3, hc_4, h⟩ := bi_elim h
    refine Fr_cVi (ν := m_X12_look2) (As := [.int (M_2.1 200 15)]) (st := []) (rc := 200) (ci := 12) (d' := 0) (by decide +kernel) ml_X12_136 cv_X12_look2 rfl (by decide) rfl ob_200 rfl (by decide) (Nat.le_of_ble_eq_true rfl) (t_X12_look2 hc_4) ?_
    refine Fr_istore_n (q := 1) (i := 1) (lv' := [(1, .int r_5), (0, .ref 200)]) (by decide +kernel) rfl (by decide) rfl ?_
    refine Fr_iload_n (q := 1) (i := 1) 0 (by decide +kernel) rfl rfl ?_
    obtain ⟨r_8, M_6, hc_7, h⟩ := bi_elim h
    refine Fr_cSb (ν := m_X12_isLetter) (As := [.int r_5]) (st := []) (d' := 0) (by decide +kernel) ml_X12_142 cs_X12_isLetter rfl (by decide) (Nat.le_of_ble_eq_true rfl) (t_X12_isLetter hc_7) ?_
    refine Fr_if_eq (off := 102) 198 (by decide +kernel) (by decide) (fun hc => ?_) (fun hc => ?_)
    · have h := iT hc h
      refine Fr_iload_n (q := 1) (i := 1) 0 (by decide +kernel) rfl rfl ?_
      obtain ⟨r_11, M_9, hc_10, h⟩ := bi_elim h
      refine Fr_cSb (ν := m_X12_isDigit) (As := [.int r_5]) (st := []) (d' := 0) (by decide +kernel) ml_X12_155 cs_X12_isDigit rfl (by decide) (Nat.le_of_ble_eq_true rfl) (t_X12_isDigit hc_10) ?_
      refine Fr_if_eq (off := 96) 298 (by decide +kernel) (by decide) (fun hc => ?_) (fun hc => ?_)
      · have h := iT hc h
        refine Fr_aload_n (q := 0) (i := 0) 1 (by decide +kernel) rfl rfl ?_
        refine Fr_aload_n (q := 0) (i := 0) 1 (by decide +kernel) rfl rfl ?_
        refine gf_X12_133 rfl (by decide +kernel) ob_200 ?_
        refine Fr_iconst (i := 1) (v := 1) (by decide +kernel) (by decide) ?_
        refine Fr_iadd (by decide +kernel) ?_
        refine pf_X12_130 rfl (by decide +kernel) ob_200 ?_
        obtain ⟨M_12, eM_12, h⟩ := bM_elim h
        refine Fr_mem eM_12 ?_
        refine Fr_aload_n (q := 0) (i := 0) 1 (by decide +kernel) rfl rfl ?_
        refine Fr_iload_n (q := 1) (i := 1) 0 (by decide +kernel) rfl rfl ?_
        refine pf_X12_158 rfl (by decide +kernel) ob_200 ?_
        obtain ⟨M_13, eM_13, h⟩ := bM_elim h
        refine Fr_mem eM_13 ?_
        refine Fr_aload_n (q := 0) (i := 0) 1 (by decide +kernel) rfl rfl ?_
        refine Fr_aload_n (q := 0) (i := 0) 1 (by decide +kernel) rfl rfl ?_
        refine Fr_iload_n (q := 1) (i := 1) 0 (by decide +kernel) rfl rfl ?_
        obtain ⟨r_16, M_14, hc_15, h⟩ := bi_elim h
        refine Fr_cVb (ν := m_X12_isSignByte) (As := [.int r_5]) (st := [.ref 200]) (rc := 200) (ci := 12) (d' := 0) (by decide +kernel) ml_X12_161 cv_X12_isSignByte rfl (by decide) rfl ob_200 rfl (by decide) (Nat.le_of_ble_eq_true rfl) (t_X12_isSignByte hc_15) ?_
        refine Fr_if_eq (off := 7) 326 (by decide +kernel) (by decide) (fun hc => ?_) (fun hc => ?_)
        · have h := iT hc h
          refine Fr_iconst (i := 4) (v := 4) (by decide +kernel) (by decide) ?_
          refine pf_X12_139 rfl (by decide +kernel) ob_200 ?_
          obtain ⟨M_17, eM_17, h⟩ := bM_elim h
          refine Fr_mem eM_17 ?_
          obtain rfl := Option.some.inj h
          exact Fr_vret (by decide +kernel) rfl ⟨rfl, rfl⟩
        · have h := iF hc h
          refine Fr_iconst (i := 3) (v := 3) (by decide +kernel) (by decide) ?_
          refine Fr_goto (off := 4) 327 (by decide +kernel) (by decide) ?_
          refine pf_X12_139 rfl (by decide +kernel) ob_200 ?_
          obtain ⟨M_18, eM_18, h⟩ := bM_elim h
          refine Fr_mem eM_18 ?_
          obtain rfl := Option.some.inj h
          exact Fr_vret (by decide +kernel) rfl ⟨rfl, rfl⟩
      · have h := iF hc h
        refine Fr_aload_n (q := 0) (i := 0) 1 (by decide +kernel) rfl rfl ?_
        refine Fr_iconst (i := 0) (v := 0) (by decide +kernel) (by decide) ?_
        refine pf_X12_158 rfl (by decide +kernel) ob_200 ?_
        obtain ⟨M_19, eM_19, h⟩ := bM_elim h
        refine Fr_mem eM_19 ?_
        refine Fr_loc [1] rfl ?_
        exact lp_sound (body := fun k a m => f_X12_advance_h210 N k m) (P := fun a M => Fr 200 21 1 m_X12_advance 210 [(0, .ref 200)] [] M (QV q)) (fun k hk a m h => t_X12_advance_h210 hk h) N () M_19 h
    · have h := iF hc h
      refine Fr_aload_n (q := 0) (i := 0) 1 (by decide +kernel) rfl rfl ?_
      refine Fr_iconst (i := 1) (v := 1) (by decide +kernel) (by decide) ?_
      refine pf_X12_139 rfl (by decide +kernel) ob_200 ?_
      obtain ⟨M_33, eM_33, h⟩ := bM_elim h
      refine Fr_mem eM_33 ?_
      refine Fr_aload_n (q := 0) (i := 0) 1 (by decide +kernel) rfl rfl ?_
      refine Fr_lconst (i := 0) (v := 0) (by decide +kernel) (by decide) ?_
      refine pf_X12_145 rfl (by decide +kernel) ob_200 ?_
      obtain ⟨M_34, eM_34, h⟩ := bM_elim h
      refine Fr_mem eM_34 ?_
      refine Fr_loc [1] rfl ?_
      exact lp_sound (body := fun k a m => f_X12_advance_h109 N k m) (P := fun a M => Fr 200 21 1 m_X12_advance 109 [(0, .ref 200)] [] M (QV q)) (fun k hk a m h => t_X12_advance_h109 hk h) N () M_34 h
  · have h := iF hc h
    refine Fr_aload_n (q := 0) (i := 0) 0 (by decide +kernel) rfl rfl ?_
    refine Fr_iconst (i := 0) (v := 0) (by decide +kernel) (by decide) ?_
    refine pf_X12_139 rfl (by decide +kernel) ob_200 ?_
    obtain ⟨M_47, eM_47, h⟩ := bM_elim h
    refine Fr_mem eM_47 ?_
    obtain rfl := Option.some.inj h
    exact Fr_vret (by decide +kernel) rfl ⟨rfl, rfl⟩
set_option maxRecDepth 20000 in
theorem t_X12_advance_b45 {N : Nat} {q : Mem} {k8 : Unit → Mem → Option (Mem)} (hk8 : ∀ (a : Unit) (M : Mem), k8 a M = some q → Fr 200 21 1 m_X12_advance 8 [(0, .ref 200)] [] M (QV q)) {M : Mem} (h : f_X12_advance_b45 N k8 M = some q) : Fr 200 21 1 m_X12_advance 45 [(0, .ref 200)] [] M (QV q) := by
  unfold f_X12_advance_b45 at h
  refine Fr_aload_n (q := 0) (i := 0) 0 (by decide +kernel) rfl rfl ?_
  refine Fr_dup (by decide +kernel) rfl ?_
  refine gf_X12_133 rfl (by decide +kernel) ob_200 ?_
  refine Fr_iconst (i := 1) (v := 1) (by decide +kernel) (by decide) ?_
  refine Fr_iadd (by decide +kernel) ?_
  refine pf_X12_133 rfl (by decide +kernel) ob_200 ?_
  obtain ⟨M_51, eM_51, h⟩ := bM_elim h
  refine Fr_mem eM_51 ?_
  refine Fr_goto (off := (-47)) 8 (by decide +kernel) (by decide) ?_
  exact hk8 () M_51 h
set_option maxRecDepth 20000 in
theorem t_X12_advance_h8 {N : Nat} {q : Mem} {k8 : Unit → Mem → Option (Mem)} (hk8 : ∀ (a : Unit) (M : Mem), k8 a M = some q → Fr 200 21 1 m_X12_advance 8 [(0, .ref 200)] [] M (QV q)) {M : Mem} (h : f_X12_advance_h8 N k8 M = some q) : Fr 200 21 1 m_X12_advance 8 [(0, .ref 200)] [] M (QV q) := by
  unfold f_X12_advance_h8 at h
  refine Fr_aload_n (q := 0) (i := 0) 0 (by decide +kernel) rfl rfl ?_
  refine gf_X12_133 rfl (by decide +kernel) ob_200 ?_
  refine Fr_aload_n (q := 0) (i := 0) 0 (by decide +kernel) rfl rfl ?_
  refine gf_X12_127 rfl (by decide +kernel) ob_200 ?_
  refine Fr_icmp_ge (off := 42) 58 (by decide +kernel) (by decide) (fun hc => ?_) (fun hc => ?_)
  · have h := iT hc h
    exact t_X12_advance_b58 h
  · have h := iF hc h
    refine Fr_aload_n (q := 0) (i := 0) 0 (by decide +kernel) rfl rfl ?_
    refine Fr_aload_n (q := 0) (i := 0) 0 (by decide +kernel) rfl rfl ?_
    refine gf_X12_133 rfl (by decide +kernel) ob_200 ?_
    obtain ⟨r_50, M_48, hc_49, h⟩ := bi_elim h
    refine Fr_cVi (ν := m_X12_look2) (As := [.int (M.1 200 15)]) (st := []) (rc := 200) (ci := 12) (d' := 0) (by decide +kernel) ml_X12_136 cv_X12_look2 rfl (by decide) rfl ob_200 rfl (by decide) (Nat.le_of_ble_eq_true rfl) (t_X12_look2 hc_49) ?_
    refine Fr_bipush (i := 10) (v := 10) (by decide +kernel) (by decide) ?_
    refine Fr_icmp_eq (off := 16) 45 (by decide +kernel) (by decide) (fun hc => ?_) (fun hc => ?_)
    · have h := iT hc h
      exact t_X12_advance_b45 hk8 h
    · have h := iF hc h
      refine Fr_aload_n (q := 0) (i := 0) 0 (by decide +kernel) rfl rfl ?_
      refine Fr_aload_n (q := 0) (i := 0) 0 (by decide +kernel) rfl rfl ?_
      refine gf_X12_133 rfl (by decide +kernel) ob_200 ?_
      obtain ⟨r_54, M_52, hc_53, h⟩ := bi_elim h
      refine Fr_cVi (ν := m_X12_look2) (As := [.int (M_48.1 200 15)]) (st := []) (rc := 200) (ci := 12) (d' := 0) (by decide +kernel) ml_X12_136 cv_X12_look2 rfl (by decide) rfl ob_200 rfl (by decide) (Nat.le_of_ble_eq_true rfl) (t_X12_look2 hc_53) ?_
      refine Fr_bipush (i := 32) (v := 32) (by decide +kernel) (by decide) ?_
      refine Fr_icmp_ne (off := 16) 58 (by decide +kernel) (by decide) (fun hc => ?_) (fun hc => ?_)
      · have h := iF hc h
        exact t_X12_advance_b58 h
      · have h := iT hc h
        exact t_X12_advance_b45 hk8 h
set_option maxRecDepth 20000 in
theorem t_X12_advance {N : Nat} {M : Mem} {q : Mem} (h : f_X12_advance N M = some q) : Ev 200 21 1 m_X12_advance [.ref 200] M (QV q) := by
  refine Ev_of_Fr (by decide +kernel) (Nat.le_of_ble_eq_true rfl) ?_
  show Fr 200 21 1 m_X12_advance 0 [(0, .ref 200)] [] M (QV q)
  unfold f_X12_advance at h
  refine Fr_aload_n (q := 0) (i := 0) 0 (by decide +kernel) rfl rfl ?_
  refine Fr_aload_n (q := 0) (i := 0) 0 (by decide +kernel) rfl rfl ?_
  refine gf_X12_130 rfl (by decide +kernel) ob_200 ?_
  refine pf_X12_133 rfl (by decide +kernel) ob_200 ?_
  obtain ⟨M_1, eM_1, h⟩ := bM_elim h
  refine Fr_mem eM_1 ?_
  exact lp_sound (body := fun k a m => f_X12_advance_h8 N k m) (P := fun a M => Fr 200 21 1 m_X12_advance 8 [(0, .ref 200)] [] M (QV q)) (fun k hk a m h => t_X12_advance_h8 hk h) N () M_1 h
set_option maxRecDepth 20000 in
theorem t_X12_isSign {x1 : Int32} {M : Mem} {q : Bool × Mem} (h : f_X12_isSign x1 M = some q) : Ev 200 21 0 m_X12_isSign [.ref 200, .int x1] M (QB q) := by
  refine Ev_of_Fr (by decide +kernel) (Nat.le_of_ble_eq_true rfl) ?_
  show Fr 200 21 0 m_X12_isSign 0 [(0, .ref 200), (1, .int x1)] [] M (QB q)
  unfold f_X12_isSign at h
  refine Fr_aload_n (q := 0) (i := 0) 0 (by decide +kernel) rfl rfl ?_
  refine gf_X12_139 rfl (by decide +kernel) ob_200 ?_
  refine Fr_iconst (i := 3) (v := 3) (by decide +kernel) (by decide) ?_
  refine Fr_icmp_ne (off := 15) 20 (by decide +kernel) (by decide) (fun hc => ?_) (fun hc => ?_)
  · have h := iF hc h
    refine Fr_iconst (i := 0) (v := 0) (by decide +kernel) (by decide) ?_
    obtain rfl := Option.some.inj h
    exact Fr_zret (by decide +kernel) rfl (by decide) ⟨rfl, rfl⟩
  · have h := iT hc h
    refine Fr_aload_n (q := 0) (i := 0) 0 (by decide +kernel) rfl rfl ?_
    refine gf_X12_158 rfl (by decide +kernel) ob_200 ?_
    refine Fr_iload_n (q := 1) (i := 1) 1 (by decide +kernel) rfl rfl ?_
    refine Fr_icmp_ne (off := 7) 20 (by decide +kernel) (by decide) (fun hc => ?_) (fun hc => ?_)
    · have h := iF hc h
      refine Fr_iconst (i := 0) (v := 0) (by decide +kernel) (by decide) ?_
      obtain rfl := Option.some.inj h
      exact Fr_zret (by decide +kernel) rfl (by decide) ⟨rfl, rfl⟩
    · have h := iT hc h
      refine Fr_iconst (i := 1) (v := 1) (by decide +kernel) (by decide) ?_
      refine Fr_goto (off := 4) 21 (by decide +kernel) (by decide) ?_
      obtain rfl := Option.some.inj h
      exact Fr_zret (by decide +kernel) rfl (by decide) ⟨rfl, rfl⟩
set_option maxRecDepth 20000 in
theorem t_X12_spelled_b91 {q : Int64 × Mem} {v5 : Int32} {s0 : Int64} {M : Mem} (h : f_X12_spelled_b91 v5 s0 M = some q) : Fr 200 21 0 m_X12_spelled 91 [(5, .int v5)] [.long s0] M (QJ q) := by
  unfold f_X12_spelled_b91 at h
  refine Fr_lstore (i := 6) (lv' := [(6, .long s0), (5, .int v5)]) (by decide +kernel) (by decide) rfl ?_
  refine Fr_iload (i := 5) 1 (by decide +kernel) rfl ?_
  refine Fr_if_le (off := 20) 115 (by decide +kernel) (by decide) (fun hc => ?_) (fun hc => ?_)
  · have h := iT hc h
    refine Fr_lload (i := 6) 0 (by decide +kernel) rfl ?_
    obtain rfl := Option.some.inj h
    exact Fr_lret (by decide +kernel) rfl ⟨rfl, rfl⟩
  · have h := iF hc h
    refine Fr_lload (i := 6) 0 (by decide +kernel) rfl ?_
    refine Fr_ldc2 (idx := 148) (v := 32) (by decide +kernel) ll_X12_148 ?_
    refine Fr_lmul (by decide +kernel) ?_
    refine Fr_iload (i := 5) 1 (by decide +kernel) rfl ?_
    refine Fr_i2l (by decide +kernel) ?_
    refine Fr_ladd (by decide +kernel) ?_
    refine Fr_ldc2 (idx := 150) (v := 96) (by decide +kernel) ll_X12_150 ?_
    refine Fr_lsub (by decide +kernel) ?_
    refine Fr_goto (off := 5) 117 (by decide +kernel) (by decide) ?_
    obtain rfl := Option.some.inj h
    exact Fr_lret (by decide +kernel) rfl ⟨rfl, rfl⟩
set_option maxRecDepth 20000 in
theorem t_X12_spelled_b65 {q : Int64 × Mem} {v4 : Int32} {v5 : Int32} {s0 : Int64} {M : Mem} (h : f_X12_spelled_b65 v4 v5 s0 M = some q) : Fr 200 21 0 m_X12_spelled 65 [(4, .int v4), (5, .int v5)] [.long s0] M (QJ q) := by
  unfold f_X12_spelled_b65 at h
  refine Fr_lstore (i := 6) (lv' := [(6, .long s0), (4, .int v4), (5, .int v5)]) (by decide +kernel) (by decide) rfl ?_
  refine Fr_iload (i := 4) 1 (by decide +kernel) rfl ?_
  refine Fr_if_le (off := 20) 89 (by decide +kernel) (by decide) (fun hc => ?_) (fun hc => ?_)
  · have h := iT hc h
    refine Fr_lload (i := 6) 0 (by decide +kernel) rfl ?_
    refine Fr_loc [2] rfl ?_
    exact t_X12_spelled_b91 h
  · have h := iF hc h
    refine Fr_lload (i := 6) 0 (by decide +kernel) rfl ?_
    refine Fr_ldc2 (idx := 148) (v := 32) (by decide +kernel) ll_X12_148 ?_
    refine Fr_lmul (by decide +kernel) ?_
    refine Fr_iload (i := 4) 1 (by decide +kernel) rfl ?_
    refine Fr_i2l (by decide +kernel) ?_
    refine Fr_ladd (by decide +kernel) ?_
    refine Fr_ldc2 (idx := 150) (v := 96) (by decide +kernel) ll_X12_150 ?_
    refine Fr_lsub (by decide +kernel) ?_
    refine Fr_goto (off := 5) 91 (by decide +kernel) (by decide) ?_
    refine Fr_loc [2] rfl ?_
    exact t_X12_spelled_b91 h
set_option maxRecDepth 20000 in
theorem t_X12_spelled_b41 {q : Int64 × Mem} {v3 : Int32} {v4 : Int32} {v5 : Int32} {s0 : Int64} {M : Mem} (h : f_X12_spelled_b41 v3 v4 v5 s0 M = some q) : Fr 200 21 0 m_X12_spelled 41 [(3, .int v3), (4, .int v4), (5, .int v5)] [.long s0] M (QJ q) := by
  unfold f_X12_spelled_b41 at h
  refine Fr_lstore (i := 6) (lv' := [(6, .long s0), (3, .int v3), (4, .int v4), (5, .int v5)]) (by decide +kernel) (by decide) rfl ?_
  refine Fr_iload_n (q := 3) (i := 3) 1 (by decide +kernel) rfl rfl ?_
  refine Fr_if_le (off := 19) 63 (by decide +kernel) (by decide) (fun hc => ?_) (fun hc => ?_)
  · have h := iT hc h
    refine Fr_lload (i := 6) 0 (by decide +kernel) rfl ?_
    refine Fr_loc [2, 3] rfl ?_
    exact t_X12_spelled_b65 h
  · have h := iF hc h
    refine Fr_lload (i := 6) 0 (by decide +kernel) rfl ?_
    refine Fr_ldc2 (idx := 148) (v := 32) (by decide +kernel) ll_X12_148 ?_
    refine Fr_lmul (by decide +kernel) ?_
    refine Fr_iload_n (q := 3) (i := 3) 1 (by decide +kernel) rfl rfl ?_
    refine Fr_i2l (by decide +kernel) ?_
    refine Fr_ladd (by decide +kernel) ?_
    refine Fr_ldc2 (idx := 150) (v := 96) (by decide +kernel) ll_X12_150 ?_
    refine Fr_lsub (by decide +kernel) ?_
    refine Fr_goto (off := 5) 65 (by decide +kernel) (by decide) ?_
    refine Fr_loc [2, 3] rfl ?_
    exact t_X12_spelled_b65 h
set_option maxRecDepth 20000 in
theorem t_X12_spelled {x0 : Int32} {x1 : Int32} {x2 : Int32} {x3 : Int32} {x4 : Int32} {x5 : Int32} {M : Mem} {q : Int64 × Mem} (h : f_X12_spelled x0 x1 x2 x3 x4 x5 M = some q) : Ev 200 21 0 m_X12_spelled [.int x0, .int x1, .int x2, .int x3, .int x4, .int x5] M (QJ q) := by
  refine Ev_of_Fr (by decide +kernel) (Nat.le_of_ble_eq_true rfl) ?_
  show Fr 200 21 0 m_X12_spelled 0 [(0, .int x0), (1, .int x1), (2, .int x2), (3, .int x3), (4, .int x4), (5, .int x5)] [] M (QJ q)
  unfold f_X12_spelled at h
  refine Fr_iload_n (q := 0) (i := 0) 0 (by decide +kernel) rfl rfl ?_
  refine Fr_i2l (by decide +kernel) ?_
  refine Fr_ldc2 (idx := 150) (v := 96) (by decide +kernel) ll_X12_150 ?_
  refine Fr_lsub (by decide +kernel) ?_
  refine Fr_ldc2 (idx := 148) (v := 32) (by decide +kernel) ll_X12_148 ?_
  refine Fr_lmul (by decide +kernel) ?_
  refine Fr_iload_n (q := 1) (i := 1) 1 (by decide +kernel) rfl rfl ?_
  refine Fr_i2l (by decide +kernel) ?_
  refine Fr_ladd (by decide +kernel) ?_
  refine Fr_ldc2 (idx := 150) (v := 96) (by decide +kernel) ll_X12_150 ?_
  refine Fr_lsub (by decide +kernel) ?_
  obtain ⟨y_1, ey_1, h⟩ := bL_elim h
  refine Fr_topL ey_1 ?_
  refine Fr_lstore (i := 6) (lv' := [(6, .long y_1), (0, .int x0), (1, .int x1), (2, .int x2), (3, .int x3), (4, .int x4), (5, .int x5)]) (by decide +kernel) (by decide) rfl ?_
  refine Fr_iload_n (q := 2) (i := 2) 3 (by decide +kernel) rfl rfl ?_
  refine Fr_if_le (off := 19) 39 (by decide +kernel) (by decide) (fun hc => ?_) (fun hc => ?_)
  · have h := iT hc h
    refine Fr_lload (i := 6) 0 (by decide +kernel) rfl ?_
    refine Fr_loc [4, 5, 6] rfl ?_
    exact t_X12_spelled_b41 h
  · have h := iF hc h
    refine Fr_lload (i := 6) 0 (by decide +kernel) rfl ?_
    refine Fr_ldc2 (idx := 148) (v := 32) (by decide +kernel) ll_X12_148 ?_
    refine Fr_lmul (by decide +kernel) ?_
    refine Fr_iload_n (q := 2) (i := 2) 3 (by decide +kernel) rfl rfl ?_
    refine Fr_i2l (by decide +kernel) ?_
    refine Fr_ladd (by decide +kernel) ?_
    refine Fr_ldc2 (idx := 150) (v := 96) (by decide +kernel) ll_X12_150 ?_
    refine Fr_lsub (by decide +kernel) ?_
    refine Fr_goto (off := 5) 41 (by decide +kernel) (by decide) ?_
    refine Fr_loc [4, 5, 6] rfl ?_
    exact t_X12_spelled_b41 h
set_option maxRecDepth 20000 in
theorem t_X12_isWord {x1 : Int64} {M : Mem} {q : Bool × Mem} (h : f_X12_isWord x1 M = some q) : Ev 200 21 0 m_X12_isWord [.ref 200, .long x1] M (QB q) := by
  refine Ev_of_Fr (by decide +kernel) (Nat.le_of_ble_eq_true rfl) ?_
  show Fr 200 21 0 m_X12_isWord 0 [(0, .ref 200), (1, .long x1)] [] M (QB q)
  unfold f_X12_isWord at h
  refine Fr_aload_n (q := 0) (i := 0) 0 (by decide +kernel) rfl rfl ?_
  refine gf_X12_139 rfl (by decide +kernel) ob_200 ?_
  refine Fr_iconst (i := 1) (v := 1) (by decide +kernel) (by decide) ?_
  refine Fr_icmp_ne (off := 16) 21 (by decide +kernel) (by decide) (fun hc => ?_) (fun hc => ?_)
  · have h := iF hc h
    refine Fr_iconst (i := 0) (v := 0) (by decide +kernel) (by decide) ?_
    obtain rfl := Option.some.inj h
    exact Fr_zret (by decide +kernel) rfl (by decide) ⟨rfl, rfl⟩
  · have h := iT hc h
    refine Fr_aload_n (q := 0) (i := 0) 0 (by decide +kernel) rfl rfl ?_
    refine gf_X12_145 rfl (by decide +kernel) ob_200 ?_
    refine Fr_lload_n (q := 1) (i := 1) 1 (by decide +kernel) rfl rfl ?_
    refine Fr_lcmp (by decide +kernel) ?_
    refine Fr_if_ne (off := 7) 21 (by decide +kernel) (by decide) (fun hc => ?_) (fun hc => ?_)
    · have h := iF hc h
      refine Fr_iconst (i := 0) (v := 0) (by decide +kernel) (by decide) ?_
      obtain rfl := Option.some.inj h
      exact Fr_zret (by decide +kernel) rfl (by decide) ⟨rfl, rfl⟩
    · have h := iT hc h
      refine Fr_iconst (i := 1) (v := 1) (by decide +kernel) (by decide) ?_
      refine Fr_goto (off := 4) 22 (by decide +kernel) (by decide) ?_
      obtain rfl := Option.some.inj h
      exact Fr_zret (by decide +kernel) rfl (by decide) ⟨rfl, rfl⟩
set_option maxRecDepth 20000 in
theorem t_X12_isPort {M : Mem} {q : Bool × Mem} (h : f_X12_isPort M = some q) : Ev 200 21 1 m_X12_isPort [.ref 200] M (QB q) := by
  refine Ev_of_Fr (by decide +kernel) (Nat.le_of_ble_eq_true rfl) ?_
  show Fr 200 21 1 m_X12_isPort 0 [(0, .ref 200)] [] M (QB q)
  unfold f_X12_isPort at h
  refine Fr_aload_n (q := 0) (i := 0) 0 (by decide +kernel) rfl rfl ?_
  refine Fr_bipush (i := 112) (v := 112) (by decide +kernel) (by decide) ?_
  refine Fr_bipush (i := 111) (v := 111) (by decide +kernel) (by decide) ?_
  refine Fr_bipush (i := 114) (v := 114) (by decide +kernel) (by decide) ?_
  refine Fr_bipush (i := 116) (v := 116) (by decide +kernel) (by decide) ?_
  refine Fr_iconst (i := 0) (v := 0) (by decide +kernel) (by decide) ?_
  refine Fr_iconst (i := 0) (v := 0) (by decide +kernel) (by decide) ?_
  obtain ⟨r_3, M_1, hc_2, h⟩ := bi_elim h
  refine Fr_cSj (ν := m_X12_spelled) (As := [.int 112, .int 111, .int 114, .int 116, .int 0, .int 0]) (st := [.ref 200]) (d' := 0) (by decide +kernel) ml_X12_164 cs_X12_spelled rfl (by decide) (Nat.le_of_ble_eq_true rfl) (t_X12_spelled hc_2) ?_
  obtain ⟨r_6, M_4, hc_5, h⟩ := bi_elim h
  refine Fr_cVb (ν := m_X12_isWord) (As := [.long r_3]) (st := []) (rc := 200) (ci := 12) (d' := 0) (by decide +kernel) ml_X12_168 cv_X12_isWord rfl (by decide) rfl ob_200 rfl (by decide) (Nat.le_of_ble_eq_true rfl) (t_X12_isWord hc_5) ?_
  obtain rfl := Option.some.inj h
  exact Fr_zret (by decide +kernel) rfl (nz_b r_6) ⟨rfl, rfl⟩
set_option maxRecDepth 20000 in
theorem t_X12_isBy {M : Mem} {q : Bool × Mem} (h : f_X12_isBy M = some q) : Ev 200 21 1 m_X12_isBy [.ref 200] M (QB q) := by
  refine Ev_of_Fr (by decide +kernel) (Nat.le_of_ble_eq_true rfl) ?_
  show Fr 200 21 1 m_X12_isBy 0 [(0, .ref 200)] [] M (QB q)
  unfold f_X12_isBy at h
  refine Fr_aload_n (q := 0) (i := 0) 0 (by decide +kernel) rfl rfl ?_
  refine Fr_bipush (i := 98) (v := 98) (by decide +kernel) (by decide) ?_
  refine Fr_bipush (i := 121) (v := 121) (by decide +kernel) (by decide) ?_
  refine Fr_iconst (i := 0) (v := 0) (by decide +kernel) (by decide) ?_
  refine Fr_iconst (i := 0) (v := 0) (by decide +kernel) (by decide) ?_
  refine Fr_iconst (i := 0) (v := 0) (by decide +kernel) (by decide) ?_
  refine Fr_iconst (i := 0) (v := 0) (by decide +kernel) (by decide) ?_
  obtain ⟨r_3, M_1, hc_2, h⟩ := bi_elim h
  refine Fr_cSj (ν := m_X12_spelled) (As := [.int 98, .int 121, .int 0, .int 0, .int 0, .int 0]) (st := [.ref 200]) (d' := 0) (by decide +kernel) ml_X12_164 cs_X12_spelled rfl (by decide) (Nat.le_of_ble_eq_true rfl) (t_X12_spelled hc_2) ?_
  obtain ⟨r_6, M_4, hc_5, h⟩ := bi_elim h
  refine Fr_cVb (ν := m_X12_isWord) (As := [.long r_3]) (st := []) (rc := 200) (ci := 12) (d' := 0) (by decide +kernel) ml_X12_168 cv_X12_isWord rfl (by decide) rfl ob_200 rfl (by decide) (Nat.le_of_ble_eq_true rfl) (t_X12_isWord hc_5) ?_
  obtain rfl := Option.some.inj h
  exact Fr_zret (by decide +kernel) rfl (nz_b r_6) ⟨rfl, rfl⟩
set_option maxRecDepth 20000 in
theorem t_X12_isGate {M : Mem} {q : Bool × Mem} (h : f_X12_isGate M = some q) : Ev 200 21 1 m_X12_isGate [.ref 200] M (QB q) := by
  refine Ev_of_Fr (by decide +kernel) (Nat.le_of_ble_eq_true rfl) ?_
  show Fr 200 21 1 m_X12_isGate 0 [(0, .ref 200)] [] M (QB q)
  unfold f_X12_isGate at h
  refine Fr_aload_n (q := 0) (i := 0) 0 (by decide +kernel) rfl rfl ?_
  refine Fr_bipush (i := 103) (v := 103) (by decide +kernel) (by decide) ?_
  refine Fr_bipush (i := 97) (v := 97) (by decide +kernel) (by decide) ?_
  refine Fr_bipush (i := 116) (v := 116) (by decide +kernel) (by decide) ?_
  refine Fr_bipush (i := 101) (v := 101) (by decide +kernel) (by decide) ?_
  refine Fr_iconst (i := 0) (v := 0) (by decide +kernel) (by decide) ?_
  refine Fr_iconst (i := 0) (v := 0) (by decide +kernel) (by decide) ?_
  obtain ⟨r_3, M_1, hc_2, h⟩ := bi_elim h
  refine Fr_cSj (ν := m_X12_spelled) (As := [.int 103, .int 97, .int 116, .int 101, .int 0, .int 0]) (st := [.ref 200]) (d' := 0) (by decide +kernel) ml_X12_164 cs_X12_spelled rfl (by decide) (Nat.le_of_ble_eq_true rfl) (t_X12_spelled hc_2) ?_
  obtain ⟨r_6, M_4, hc_5, h⟩ := bi_elim h
  refine Fr_cVb (ν := m_X12_isWord) (As := [.long r_3]) (st := []) (rc := 200) (ci := 12) (d' := 0) (by decide +kernel) ml_X12_168 cv_X12_isWord rfl (by decide) rfl ob_200 rfl (by decide) (Nat.le_of_ble_eq_true rfl) (t_X12_isWord hc_5) ?_
  obtain rfl := Option.some.inj h
  exact Fr_zret (by decide +kernel) rfl (nz_b r_6) ⟨rfl, rfl⟩
set_option maxRecDepth 20000 in
theorem t_X12_isAt {M : Mem} {q : Bool × Mem} (h : f_X12_isAt M = some q) : Ev 200 21 1 m_X12_isAt [.ref 200] M (QB q) := by
  refine Ev_of_Fr (by decide +kernel) (Nat.le_of_ble_eq_true rfl) ?_
  show Fr 200 21 1 m_X12_isAt 0 [(0, .ref 200)] [] M (QB q)
  unfold f_X12_isAt at h
  refine Fr_aload_n (q := 0) (i := 0) 0 (by decide +kernel) rfl rfl ?_
  refine Fr_bipush (i := 97) (v := 97) (by decide +kernel) (by decide) ?_
  refine Fr_bipush (i := 116) (v := 116) (by decide +kernel) (by decide) ?_
  refine Fr_iconst (i := 0) (v := 0) (by decide +kernel) (by decide) ?_
  refine Fr_iconst (i := 0) (v := 0) (by decide +kernel) (by decide) ?_
  refine Fr_iconst (i := 0) (v := 0) (by decide +kernel) (by decide) ?_
  refine Fr_iconst (i := 0) (v := 0) (by decide +kernel) (by decide) ?_
  obtain ⟨r_3, M_1, hc_2, h⟩ := bi_elim h
  refine Fr_cSj (ν := m_X12_spelled) (As := [.int 97, .int 116, .int 0, .int 0, .int 0, .int 0]) (st := [.ref 200]) (d' := 0) (by decide +kernel) ml_X12_164 cs_X12_spelled rfl (by decide) (Nat.le_of_ble_eq_true rfl) (t_X12_spelled hc_2) ?_
  obtain ⟨r_6, M_4, hc_5, h⟩ := bi_elim h
  refine Fr_cVb (ν := m_X12_isWord) (As := [.long r_3]) (st := []) (rc := 200) (ci := 12) (d' := 0) (by decide +kernel) ml_X12_168 cv_X12_isWord rfl (by decide) rfl ob_200 rfl (by decide) (Nat.le_of_ble_eq_true rfl) (t_X12_isWord hc_5) ?_
  obtain rfl := Option.some.inj h
  exact Fr_zret (by decide +kernel) rfl (nz_b r_6) ⟨rfl, rfl⟩
set_option maxRecDepth 20000 in
theorem t_X12_isLets {M : Mem} {q : Bool × Mem} (h : f_X12_isLets M = some q) : Ev 200 21 1 m_X12_isLets [.ref 200] M (QB q) := by
  refine Ev_of_Fr (by decide +kernel) (Nat.le_of_ble_eq_true rfl) ?_
  show Fr 200 21 1 m_X12_isLets 0 [(0, .ref 200)] [] M (QB q)
  unfold f_X12_isLets at h
  refine Fr_aload_n (q := 0) (i := 0) 0 (by decide +kernel) rfl rfl ?_
  refine Fr_bipush (i := 108) (v := 108) (by decide +kernel) (by decide) ?_
  refine Fr_bipush (i := 101) (v := 101) (by decide +kernel) (by decide) ?_
  refine Fr_bipush (i := 116) (v := 116) (by decide +kernel) (by decide) ?_
  refine Fr_bipush (i := 115) (v := 115) (by decide +kernel) (by decide) ?_
  refine Fr_iconst (i := 0) (v := 0) (by decide +kernel) (by decide) ?_
  refine Fr_iconst (i := 0) (v := 0) (by decide +kernel) (by decide) ?_
  obtain ⟨r_3, M_1, hc_2, h⟩ := bi_elim h
  refine Fr_cSj (ν := m_X12_spelled) (As := [.int 108, .int 101, .int 116, .int 115, .int 0, .int 0]) (st := [.ref 200]) (d' := 0) (by decide +kernel) ml_X12_164 cs_X12_spelled rfl (by decide) (Nat.le_of_ble_eq_true rfl) (t_X12_spelled hc_2) ?_
  obtain ⟨r_6, M_4, hc_5, h⟩ := bi_elim h
  refine Fr_cVb (ν := m_X12_isWord) (As := [.long r_3]) (st := []) (rc := 200) (ci := 12) (d' := 0) (by decide +kernel) ml_X12_168 cv_X12_isWord rfl (by decide) rfl ob_200 rfl (by decide) (Nat.le_of_ble_eq_true rfl) (t_X12_isWord hc_5) ?_
  obtain rfl := Option.some.inj h
  exact Fr_zret (by decide +kernel) rfl (nz_b r_6) ⟨rfl, rfl⟩
set_option maxRecDepth 20000 in
theorem t_X12_isAnswers {M : Mem} {q : Bool × Mem} (h : f_X12_isAnswers M = some q) : Ev 200 21 1 m_X12_isAnswers [.ref 200] M (QB q) := by
  refine Ev_of_Fr (by decide +kernel) (Nat.le_of_ble_eq_true rfl) ?_
  show Fr 200 21 1 m_X12_isAnswers 0 [(0, .ref 200)] [] M (QB q)
  unfold f_X12_isAnswers at h
  refine Fr_aload_n (q := 0) (i := 0) 0 (by decide +kernel) rfl rfl ?_
  refine Fr_bipush (i := 97) (v := 97) (by decide +kernel) (by decide) ?_
  refine Fr_bipush (i := 110) (v := 110) (by decide +kernel) (by decide) ?_
  refine Fr_bipush (i := 115) (v := 115) (by decide +kernel) (by decide) ?_
  refine Fr_bipush (i := 119) (v := 119) (by decide +kernel) (by decide) ?_
  refine Fr_bipush (i := 101) (v := 101) (by decide +kernel) (by decide) ?_
  refine Fr_bipush (i := 114) (v := 114) (by decide +kernel) (by decide) ?_
  obtain ⟨r_3, M_1, hc_2, h⟩ := bi_elim h
  refine Fr_cSj (ν := m_X12_spelled) (As := [.int 97, .int 110, .int 115, .int 119, .int 101, .int 114]) (st := [.ref 200]) (d' := 0) (by decide +kernel) ml_X12_164 cs_X12_spelled rfl (by decide) (Nat.le_of_ble_eq_true rfl) (t_X12_spelled hc_2) ?_
  refine Fr_ldc2 (idx := 148) (v := 32) (by decide +kernel) ll_X12_148 ?_
  refine Fr_lmul (by decide +kernel) ?_
  refine Fr_ldc2 (idx := 172) (v := 19) (by decide +kernel) ll_X12_172 ?_
  refine Fr_ladd (by decide +kernel) ?_
  obtain ⟨r_6, M_4, hc_5, h⟩ := bi_elim h
  refine Fr_cVb (ν := m_X12_isWord) (As := [.long ((r_3 * 32) + 19)]) (st := []) (rc := 200) (ci := 12) (d' := 0) (by decide +kernel) ml_X12_168 cv_X12_isWord rfl (by decide) rfl ob_200 rfl (by decide) (Nat.le_of_ble_eq_true rfl) (t_X12_isWord hc_5) ?_
  obtain rfl := Option.some.inj h
  exact Fr_zret (by decide +kernel) rfl (nz_b r_6) ⟨rfl, rfl⟩
set_option maxRecDepth 20000 in
theorem t_X12_isOpen {M : Mem} {q : Bool × Mem} (h : f_X12_isOpen M = some q) : Ev 200 21 1 m_X12_isOpen [.ref 200] M (QB q) := by
  refine Ev_of_Fr (by decide +kernel) (Nat.le_of_ble_eq_true rfl) ?_
  show Fr 200 21 1 m_X12_isOpen 0 [(0, .ref 200)] [] M (QB q)
  unfold f_X12_isOpen at h
  refine Fr_aload_n (q := 0) (i := 0) 0 (by decide +kernel) rfl rfl ?_
  refine Fr_bipush (i := 111) (v := 111) (by decide +kernel) (by decide) ?_
  refine Fr_bipush (i := 112) (v := 112) (by decide +kernel) (by decide) ?_
  refine Fr_bipush (i := 101) (v := 101) (by decide +kernel) (by decide) ?_
  refine Fr_bipush (i := 110) (v := 110) (by decide +kernel) (by decide) ?_
  refine Fr_iconst (i := 0) (v := 0) (by decide +kernel) (by decide) ?_
  refine Fr_iconst (i := 0) (v := 0) (by decide +kernel) (by decide) ?_
  obtain ⟨r_3, M_1, hc_2, h⟩ := bi_elim h
  refine Fr_cSj (ν := m_X12_spelled) (As := [.int 111, .int 112, .int 101, .int 110, .int 0, .int 0]) (st := [.ref 200]) (d' := 0) (by decide +kernel) ml_X12_164 cs_X12_spelled rfl (by decide) (Nat.le_of_ble_eq_true rfl) (t_X12_spelled hc_2) ?_
  obtain ⟨r_6, M_4, hc_5, h⟩ := bi_elim h
  refine Fr_cVb (ν := m_X12_isWord) (As := [.long r_3]) (st := []) (rc := 200) (ci := 12) (d' := 0) (by decide +kernel) ml_X12_168 cv_X12_isWord rfl (by decide) rfl ob_200 rfl (by decide) (Nat.le_of_ble_eq_true rfl) (t_X12_isWord hc_5) ?_
  obtain rfl := Option.some.inj h
  exact Fr_zret (by decide +kernel) rfl (nz_b r_6) ⟨rfl, rfl⟩
set_option maxRecDepth 20000 in
theorem t_X12_isQuota {M : Mem} {q : Bool × Mem} (h : f_X12_isQuota M = some q) : Ev 200 21 1 m_X12_isQuota [.ref 200] M (QB q) := by
  refine Ev_of_Fr (by decide +kernel) (Nat.le_of_ble_eq_true rfl) ?_
  show Fr 200 21 1 m_X12_isQuota 0 [(0, .ref 200)] [] M (QB q)
  unfold f_X12_isQuota at h
  refine Fr_aload_n (q := 0) (i := 0) 0 (by decide +kernel) rfl rfl ?_
  refine Fr_bipush (i := 113) (v := 113) (by decide +kernel) (by decide) ?_
  refine Fr_bipush (i := 117) (v := 117) (by decide +kernel) (by decide) ?_
  refine Fr_bipush (i := 111) (v := 111) (by decide +kernel) (by decide) ?_
  refine Fr_bipush (i := 116) (v := 116) (by decide +kernel) (by decide) ?_
  refine Fr_bipush (i := 97) (v := 97) (by decide +kernel) (by decide) ?_
  refine Fr_iconst (i := 0) (v := 0) (by decide +kernel) (by decide) ?_
  obtain ⟨r_3, M_1, hc_2, h⟩ := bi_elim h
  refine Fr_cSj (ν := m_X12_spelled) (As := [.int 113, .int 117, .int 111, .int 116, .int 97, .int 0]) (st := [.ref 200]) (d' := 0) (by decide +kernel) ml_X12_164 cs_X12_spelled rfl (by decide) (Nat.le_of_ble_eq_true rfl) (t_X12_spelled hc_2) ?_
  obtain ⟨r_6, M_4, hc_5, h⟩ := bi_elim h
  refine Fr_cVb (ν := m_X12_isWord) (As := [.long r_3]) (st := []) (rc := 200) (ci := 12) (d' := 0) (by decide +kernel) ml_X12_168 cv_X12_isWord rfl (by decide) rfl ob_200 rfl (by decide) (Nat.le_of_ble_eq_true rfl) (t_X12_isWord hc_5) ?_
  obtain rfl := Option.some.inj h
  exact Fr_zret (by decide +kernel) rfl (nz_b r_6) ⟨rfl, rfl⟩
set_option maxRecDepth 20000 in
theorem t_X12_isHolder {M : Mem} {q : Bool × Mem} (h : f_X12_isHolder M = some q) : Ev 200 21 1 m_X12_isHolder [.ref 200] M (QB q) := by
  refine Ev_of_Fr (by decide +kernel) (Nat.le_of_ble_eq_true rfl) ?_
  show Fr 200 21 1 m_X12_isHolder 0 [(0, .ref 200)] [] M (QB q)
  unfold f_X12_isHolder at h
  refine Fr_aload_n (q := 0) (i := 0) 0 (by decide +kernel) rfl rfl ?_
  refine Fr_bipush (i := 104) (v := 104) (by decide +kernel) (by decide) ?_
  refine Fr_bipush (i := 111) (v := 111) (by decide +kernel) (by decide) ?_
  refine Fr_bipush (i := 108) (v := 108) (by decide +kernel) (by decide) ?_
  refine Fr_bipush (i := 100) (v := 100) (by decide +kernel) (by decide) ?_
  refine Fr_bipush (i := 101) (v := 101) (by decide +kernel) (by decide) ?_
  refine Fr_bipush (i := 114) (v := 114) (by decide +kernel) (by decide) ?_
  obtain ⟨r_3, M_1, hc_2, h⟩ := bi_elim h
  refine Fr_cSj (ν := m_X12_spelled) (As := [.int 104, .int 111, .int 108, .int 100, .int 101, .int 114]) (st := [.ref 200]) (d' := 0) (by decide +kernel) ml_X12_164 cs_X12_spelled rfl (by decide) (Nat.le_of_ble_eq_true rfl) (t_X12_spelled hc_2) ?_
  obtain ⟨r_6, M_4, hc_5, h⟩ := bi_elim h
  refine Fr_cVb (ν := m_X12_isWord) (As := [.long r_3]) (st := []) (rc := 200) (ci := 12) (d' := 0) (by decide +kernel) ml_X12_168 cv_X12_isWord rfl (by decide) rfl ob_200 rfl (by decide) (Nat.le_of_ble_eq_true rfl) (t_X12_isWord hc_5) ?_
  obtain rfl := Option.some.inj h
  exact Fr_zret (by decide +kernel) rfl (nz_b r_6) ⟨rfl, rfl⟩
set_option maxRecDepth 20000 in
theorem t_X12_isVotes {M : Mem} {q : Bool × Mem} (h : f_X12_isVotes M = some q) : Ev 200 21 1 m_X12_isVotes [.ref 200] M (QB q) := by
  refine Ev_of_Fr (by decide +kernel) (Nat.le_of_ble_eq_true rfl) ?_
  show Fr 200 21 1 m_X12_isVotes 0 [(0, .ref 200)] [] M (QB q)
  unfold f_X12_isVotes at h
  refine Fr_aload_n (q := 0) (i := 0) 0 (by decide +kernel) rfl rfl ?_
  refine Fr_bipush (i := 118) (v := 118) (by decide +kernel) (by decide) ?_
  refine Fr_bipush (i := 111) (v := 111) (by decide +kernel) (by decide) ?_
  refine Fr_bipush (i := 116) (v := 116) (by decide +kernel) (by decide) ?_
  refine Fr_bipush (i := 101) (v := 101) (by decide +kernel) (by decide) ?_
  refine Fr_bipush (i := 115) (v := 115) (by decide +kernel) (by decide) ?_
  refine Fr_iconst (i := 0) (v := 0) (by decide +kernel) (by decide) ?_
  obtain ⟨r_3, M_1, hc_2, h⟩ := bi_elim h
  refine Fr_cSj (ν := m_X12_spelled) (As := [.int 118, .int 111, .int 116, .int 101, .int 115, .int 0]) (st := [.ref 200]) (d' := 0) (by decide +kernel) ml_X12_164 cs_X12_spelled rfl (by decide) (Nat.le_of_ble_eq_true rfl) (t_X12_spelled hc_2) ?_
  obtain ⟨r_6, M_4, hc_5, h⟩ := bi_elim h
  refine Fr_cVb (ν := m_X12_isWord) (As := [.long r_3]) (st := []) (rc := 200) (ci := 12) (d' := 0) (by decide +kernel) ml_X12_168 cv_X12_isWord rfl (by decide) rfl ob_200 rfl (by decide) (Nat.le_of_ble_eq_true rfl) (t_X12_isWord hc_5) ?_
  obtain rfl := Option.some.inj h
  exact Fr_zret (by decide +kernel) rfl (nz_b r_6) ⟨rfl, rfl⟩
set_option maxRecDepth 20000 in
theorem t_X12_isTrade {M : Mem} {q : Bool × Mem} (h : f_X12_isTrade M = some q) : Ev 200 21 1 m_X12_isTrade [.ref 200] M (QB q) := by
  refine Ev_of_Fr (by decide +kernel) (Nat.le_of_ble_eq_true rfl) ?_
  show Fr 200 21 1 m_X12_isTrade 0 [(0, .ref 200)] [] M (QB q)
  unfold f_X12_isTrade at h
  refine Fr_aload_n (q := 0) (i := 0) 0 (by decide +kernel) rfl rfl ?_
  refine Fr_bipush (i := 116) (v := 116) (by decide +kernel) (by decide) ?_
  refine Fr_bipush (i := 114) (v := 114) (by decide +kernel) (by decide) ?_
  refine Fr_bipush (i := 97) (v := 97) (by decide +kernel) (by decide) ?_
  refine Fr_bipush (i := 100) (v := 100) (by decide +kernel) (by decide) ?_
  refine Fr_bipush (i := 101) (v := 101) (by decide +kernel) (by decide) ?_
  refine Fr_iconst (i := 0) (v := 0) (by decide +kernel) (by decide) ?_
  obtain ⟨r_3, M_1, hc_2, h⟩ := bi_elim h
  refine Fr_cSj (ν := m_X12_spelled) (As := [.int 116, .int 114, .int 97, .int 100, .int 101, .int 0]) (st := [.ref 200]) (d' := 0) (by decide +kernel) ml_X12_164 cs_X12_spelled rfl (by decide) (Nat.le_of_ble_eq_true rfl) (t_X12_spelled hc_2) ?_
  obtain ⟨r_6, M_4, hc_5, h⟩ := bi_elim h
  refine Fr_cVb (ν := m_X12_isWord) (As := [.long r_3]) (st := []) (rc := 200) (ci := 12) (d' := 0) (by decide +kernel) ml_X12_168 cv_X12_isWord rfl (by decide) rfl ob_200 rfl (by decide) (Nat.le_of_ble_eq_true rfl) (t_X12_isWord hc_5) ?_
  obtain rfl := Option.some.inj h
  exact Fr_zret (by decide +kernel) rfl (nz_b r_6) ⟨rfl, rfl⟩
set_option maxRecDepth 20000 in
theorem t_X12_isFrom {M : Mem} {q : Bool × Mem} (h : f_X12_isFrom M = some q) : Ev 200 21 1 m_X12_isFrom [.ref 200] M (QB q) := by
  refine Ev_of_Fr (by decide +kernel) (Nat.le_of_ble_eq_true rfl) ?_
  show Fr 200 21 1 m_X12_isFrom 0 [(0, .ref 200)] [] M (QB q)
  unfold f_X12_isFrom at h
  refine Fr_aload_n (q := 0) (i := 0) 0 (by decide +kernel) rfl rfl ?_
  refine Fr_bipush (i := 102) (v := 102) (by decide +kernel) (by decide) ?_
  refine Fr_bipush (i := 114) (v := 114) (by decide +kernel) (by decide) ?_
  refine Fr_bipush (i := 111) (v := 111) (by decide +kernel) (by decide) ?_
  refine Fr_bipush (i := 109) (v := 109) (by decide +kernel) (by decide) ?_
  refine Fr_iconst (i := 0) (v := 0) (by decide +kernel) (by decide) ?_
  refine Fr_iconst (i := 0) (v := 0) (by decide +kernel) (by decide) ?_
  obtain ⟨r_3, M_1, hc_2, h⟩ := bi_elim h
  refine Fr_cSj (ν := m_X12_spelled) (As := [.int 102, .int 114, .int 111, .int 109, .int 0, .int 0]) (st := [.ref 200]) (d' := 0) (by decide +kernel) ml_X12_164 cs_X12_spelled rfl (by decide) (Nat.le_of_ble_eq_true rfl) (t_X12_spelled hc_2) ?_
  obtain ⟨r_6, M_4, hc_5, h⟩ := bi_elim h
  refine Fr_cVb (ν := m_X12_isWord) (As := [.long r_3]) (st := []) (rc := 200) (ci := 12) (d' := 0) (by decide +kernel) ml_X12_168 cv_X12_isWord rfl (by decide) rfl ob_200 rfl (by decide) (Nat.le_of_ble_eq_true rfl) (t_X12_isWord hc_5) ?_
  obtain rfl := Option.some.inj h
  exact Fr_zret (by decide +kernel) rfl (nz_b r_6) ⟨rfl, rfl⟩
set_option maxRecDepth 20000 in
theorem t_X12_isTo {M : Mem} {q : Bool × Mem} (h : f_X12_isTo M = some q) : Ev 200 21 1 m_X12_isTo [.ref 200] M (QB q) := by
  refine Ev_of_Fr (by decide +kernel) (Nat.le_of_ble_eq_true rfl) ?_
  show Fr 200 21 1 m_X12_isTo 0 [(0, .ref 200)] [] M (QB q)
  unfold f_X12_isTo at h
  refine Fr_aload_n (q := 0) (i := 0) 0 (by decide +kernel) rfl rfl ?_
  refine Fr_bipush (i := 116) (v := 116) (by decide +kernel) (by decide) ?_
  refine Fr_bipush (i := 111) (v := 111) (by decide +kernel) (by decide) ?_
  refine Fr_iconst (i := 0) (v := 0) (by decide +kernel) (by decide) ?_
  refine Fr_iconst (i := 0) (v := 0) (by decide +kernel) (by decide) ?_
  refine Fr_iconst (i := 0) (v := 0) (by decide +kernel) (by decide) ?_
  refine Fr_iconst (i := 0) (v := 0) (by decide +kernel) (by decide) ?_
  obtain ⟨r_3, M_1, hc_2, h⟩ := bi_elim h
  refine Fr_cSj (ν := m_X12_spelled) (As := [.int 116, .int 111, .int 0, .int 0, .int 0, .int 0]) (st := [.ref 200]) (d' := 0) (by decide +kernel) ml_X12_164 cs_X12_spelled rfl (by decide) (Nat.le_of_ble_eq_true rfl) (t_X12_spelled hc_2) ?_
  obtain ⟨r_6, M_4, hc_5, h⟩ := bi_elim h
  refine Fr_cVb (ν := m_X12_isWord) (As := [.long r_3]) (st := []) (rc := 200) (ci := 12) (d' := 0) (by decide +kernel) ml_X12_168 cv_X12_isWord rfl (by decide) rfl ob_200 rfl (by decide) (Nat.le_of_ble_eq_true rfl) (t_X12_isWord hc_5) ?_
  obtain rfl := Option.some.inj h
  exact Fr_zret (by decide +kernel) rfl (nz_b r_6) ⟨rfl, rfl⟩
set_option maxRecDepth 20000 in
theorem t_X12_isPays {M : Mem} {q : Bool × Mem} (h : f_X12_isPays M = some q) : Ev 200 21 1 m_X12_isPays [.ref 200] M (QB q) := by
  refine Ev_of_Fr (by decide +kernel) (Nat.le_of_ble_eq_true rfl) ?_
  show Fr 200 21 1 m_X12_isPays 0 [(0, .ref 200)] [] M (QB q)
  unfold f_X12_isPays at h
  refine Fr_aload_n (q := 0) (i := 0) 0 (by decide +kernel) rfl rfl ?_
  refine Fr_bipush (i := 112) (v := 112) (by decide +kernel) (by decide) ?_
  refine Fr_bipush (i := 97) (v := 97) (by decide +kernel) (by decide) ?_
  refine Fr_bipush (i := 121) (v := 121) (by decide +kernel) (by decide) ?_
  refine Fr_bipush (i := 115) (v := 115) (by decide +kernel) (by decide) ?_
  refine Fr_iconst (i := 0) (v := 0) (by decide +kernel) (by decide) ?_
  refine Fr_iconst (i := 0) (v := 0) (by decide +kernel) (by decide) ?_
  obtain ⟨r_3, M_1, hc_2, h⟩ := bi_elim h
  refine Fr_cSj (ν := m_X12_spelled) (As := [.int 112, .int 97, .int 121, .int 115, .int 0, .int 0]) (st := [.ref 200]) (d' := 0) (by decide +kernel) ml_X12_164 cs_X12_spelled rfl (by decide) (Nat.le_of_ble_eq_true rfl) (t_X12_spelled hc_2) ?_
  obtain ⟨r_6, M_4, hc_5, h⟩ := bi_elim h
  refine Fr_cVb (ν := m_X12_isWord) (As := [.long r_3]) (st := []) (rc := 200) (ci := 12) (d' := 0) (by decide +kernel) ml_X12_168 cv_X12_isWord rfl (by decide) rfl ob_200 rfl (by decide) (Nat.le_of_ble_eq_true rfl) (t_X12_isWord hc_5) ?_
  obtain rfl := Option.some.inj h
  exact Fr_zret (by decide +kernel) rfl (nz_b r_6) ⟨rfl, rfl⟩
set_option maxRecDepth 20000 in
theorem t_X12_isClear {M : Mem} {q : Bool × Mem} (h : f_X12_isClear M = some q) : Ev 200 21 1 m_X12_isClear [.ref 200] M (QB q) := by
  refine Ev_of_Fr (by decide +kernel) (Nat.le_of_ble_eq_true rfl) ?_
  show Fr 200 21 1 m_X12_isClear 0 [(0, .ref 200)] [] M (QB q)
  unfold f_X12_isClear at h
  refine Fr_aload_n (q := 0) (i := 0) 0 (by decide +kernel) rfl rfl ?_
  refine Fr_bipush (i := 99) (v := 99) (by decide +kernel) (by decide) ?_
  refine Fr_bipush (i := 108) (v := 108) (by decide +kernel) (by decide) ?_
  refine Fr_bipush (i := 101) (v := 101) (by decide +kernel) (by decide) ?_
  refine Fr_bipush (i := 97) (v := 97) (by decide +kernel) (by decide) ?_
  refine Fr_bipush (i := 114) (v := 114) (by decide +kernel) (by decide) ?_
  refine Fr_iconst (i := 0) (v := 0) (by decide +kernel) (by decide) ?_
  obtain ⟨r_3, M_1, hc_2, h⟩ := bi_elim h
  refine Fr_cSj (ν := m_X12_spelled) (As := [.int 99, .int 108, .int 101, .int 97, .int 114, .int 0]) (st := [.ref 200]) (d' := 0) (by decide +kernel) ml_X12_164 cs_X12_spelled rfl (by decide) (Nat.le_of_ble_eq_true rfl) (t_X12_spelled hc_2) ?_
  obtain ⟨r_6, M_4, hc_5, h⟩ := bi_elim h
  refine Fr_cVb (ν := m_X12_isWord) (As := [.long r_3]) (st := []) (rc := 200) (ci := 12) (d' := 0) (by decide +kernel) ml_X12_168 cv_X12_isWord rfl (by decide) rfl ob_200 rfl (by decide) (Nat.le_of_ble_eq_true rfl) (t_X12_isWord hc_5) ?_
  obtain rfl := Option.some.inj h
  exact Fr_zret (by decide +kernel) rfl (nz_b r_6) ⟨rfl, rfl⟩
set_option maxRecDepth 20000 in
theorem t_X12_isShip {M : Mem} {q : Bool × Mem} (h : f_X12_isShip M = some q) : Ev 200 21 1 m_X12_isShip [.ref 200] M (QB q) := by
  refine Ev_of_Fr (by decide +kernel) (Nat.le_of_ble_eq_true rfl) ?_
  show Fr 200 21 1 m_X12_isShip 0 [(0, .ref 200)] [] M (QB q)
  unfold f_X12_isShip at h
  refine Fr_aload_n (q := 0) (i := 0) 0 (by decide +kernel) rfl rfl ?_
  refine Fr_bipush (i := 115) (v := 115) (by decide +kernel) (by decide) ?_
  refine Fr_bipush (i := 104) (v := 104) (by decide +kernel) (by decide) ?_
  refine Fr_bipush (i := 105) (v := 105) (by decide +kernel) (by decide) ?_
  refine Fr_bipush (i := 112) (v := 112) (by decide +kernel) (by decide) ?_
  refine Fr_iconst (i := 0) (v := 0) (by decide +kernel) (by decide) ?_
  refine Fr_iconst (i := 0) (v := 0) (by decide +kernel) (by decide) ?_
  obtain ⟨r_3, M_1, hc_2, h⟩ := bi_elim h
  refine Fr_cSj (ν := m_X12_spelled) (As := [.int 115, .int 104, .int 105, .int 112, .int 0, .int 0]) (st := [.ref 200]) (d' := 0) (by decide +kernel) ml_X12_164 cs_X12_spelled rfl (by decide) (Nat.le_of_ble_eq_true rfl) (t_X12_spelled hc_2) ?_
  obtain ⟨r_6, M_4, hc_5, h⟩ := bi_elim h
  refine Fr_cVb (ν := m_X12_isWord) (As := [.long r_3]) (st := []) (rc := 200) (ci := 12) (d' := 0) (by decide +kernel) ml_X12_168 cv_X12_isWord rfl (by decide) rfl ob_200 rfl (by decide) (Nat.le_of_ble_eq_true rfl) (t_X12_isWord hc_5) ?_
  obtain rfl := Option.some.inj h
  exact Fr_zret (by decide +kernel) rfl (nz_b r_6) ⟨rfl, rfl⟩
set_option maxRecDepth 20000 in
theorem t_X12_isDark {M : Mem} {q : Bool × Mem} (h : f_X12_isDark M = some q) : Ev 200 21 1 m_X12_isDark [.ref 200] M (QB q) := by
  refine Ev_of_Fr (by decide +kernel) (Nat.le_of_ble_eq_true rfl) ?_
  show Fr 200 21 1 m_X12_isDark 0 [(0, .ref 200)] [] M (QB q)
  unfold f_X12_isDark at h
  refine Fr_aload_n (q := 0) (i := 0) 0 (by decide +kernel) rfl rfl ?_
  refine Fr_bipush (i := 100) (v := 100) (by decide +kernel) (by decide) ?_
  refine Fr_bipush (i := 97) (v := 97) (by decide +kernel) (by decide) ?_
  refine Fr_bipush (i := 114) (v := 114) (by decide +kernel) (by decide) ?_
  refine Fr_bipush (i := 107) (v := 107) (by decide +kernel) (by decide) ?_
  refine Fr_iconst (i := 0) (v := 0) (by decide +kernel) (by decide) ?_
  refine Fr_iconst (i := 0) (v := 0) (by decide +kernel) (by decide) ?_
  obtain ⟨r_3, M_1, hc_2, h⟩ := bi_elim h
  refine Fr_cSj (ν := m_X12_spelled) (As := [.int 100, .int 97, .int 114, .int 107, .int 0, .int 0]) (st := [.ref 200]) (d' := 0) (by decide +kernel) ml_X12_164 cs_X12_spelled rfl (by decide) (Nat.le_of_ble_eq_true rfl) (t_X12_spelled hc_2) ?_
  obtain ⟨r_6, M_4, hc_5, h⟩ := bi_elim h
  refine Fr_cVb (ν := m_X12_isWord) (As := [.long r_3]) (st := []) (rc := 200) (ci := 12) (d' := 0) (by decide +kernel) ml_X12_168 cv_X12_isWord rfl (by decide) rfl ob_200 rfl (by decide) (Nat.le_of_ble_eq_true rfl) (t_X12_isWord hc_5) ?_
  obtain rfl := Option.some.inj h
  exact Fr_zret (by decide +kernel) rfl (nz_b r_6) ⟨rfl, rfl⟩
