def f_X3_clear (p0 : Nat) (M : Mem) : Option (Mem) :=
  bM (uI M p0 0 0) fun M_1 =>
  bM (uI M_1 p0 1 0) fun M_2 =>
  bM (uI M_2 p0 2 0) fun M_3 =>
  some M_3
set_option maxRecDepth 20000 in
theorem t_X3_clear {p0 : Nat} (hp0 : Ob 0 111 p0 3) {M : Mem} {q : Mem} (h : f_X3_clear p0 M = some q) : Ev 0 111 0 m_X3_clear [.ref p0] M (QV q) := by
  refine Ev_of_Fr (by decide +kernel) (Nat.le_of_ble_eq_true rfl) ?_
  show Fr 0 111 0 m_X3_clear 0 [(0, .ref p0)] [] M (QV q)
  unfold f_X3_clear at h
  refine Fr_aload_n (q := 0) (i := 0) 0 (by decide +kernel) rfl rfl ?_
  refine Fr_iconst (i := 0) (v := 0) (by decide +kernel) (by decide) ?_
  refine pf_X3_25 rfl (by decide +kernel) hp0 (by decide) ?_
  obtain ⟨M_1, eM_1, h⟩ := bM_elim h
  refine Fr_mem eM_1 ?_
  refine Fr_aload_n (q := 0) (i := 0) 0 (by decide +kernel) rfl rfl ?_
  refine Fr_iconst (i := 0) (v := 0) (by decide +kernel) (by decide) ?_
  refine pf_X3_29 rfl (by decide +kernel) hp0 ?_
  obtain ⟨M_2, eM_2, h⟩ := bM_elim h
  refine Fr_mem eM_2 ?_
  refine Fr_aload_n (q := 0) (i := 0) 0 (by decide +kernel) rfl rfl ?_
  refine Fr_iconst (i := 0) (v := 0) (by decide +kernel) (by decide) ?_
  refine pf_X3_33 rfl (by decide +kernel) hp0 ?_
  obtain ⟨M_3, eM_3, h⟩ := bM_elim h
  refine Fr_mem eM_3 ?_
  obtain rfl := Option.some.inj h
  exact Fr_vret (by decide +kernel) rfl ⟨rfl, rfl⟩
def f_X3_copyFrom (p0 : Nat) (p1 : Nat) (M : Mem) : Option (Mem) :=
  zb (M.1 p1 0) fun b_2 =>
  bM (uI M p0 0 (M.1 p1 0)) fun M_1 =>
  bM (uI M_1 p0 1 (M_1.1 p1 1)) fun M_3 =>
  bM (uI M_3 p0 2 (M_3.1 p1 2)) fun M_4 =>
  bM (rI M_4 (p0 + 1) (va_cpy (M_4.1 (p1 + 1)) (M_4.1 (p0 + 1)) (tn 0) (tn 0) (tn 60))) fun M_5 =>
  bM (rI M_5 (p0 + 2) (va_cpy (M_5.1 (p1 + 2)) (M_5.1 (p0 + 2)) (tn 0) (tn 0) (tn 60))) fun M_6 =>
  bM (rI M_6 (p0 + 3) (va_cpy (M_6.1 (p1 + 3)) (M_6.1 (p0 + 3)) (tn 0) (tn 0) (tn 60))) fun M_7 =>
  bM (rI M_7 (p0 + 4) (va_cpy (M_7.1 (p1 + 4)) (M_7.1 (p0 + 4)) (tn 0) (tn 0) (tn 60))) fun M_8 =>
  bM (rI M_8 (p0 + 5) (va_cpy (M_8.1 (p1 + 5)) (M_8.1 (p0 + 5)) (tn 0) (tn 0) (tn 60))) fun M_9 =>
  some M_9
set_option maxRecDepth 20000 in
theorem t_X3_copyFrom {p0 : Nat} {p1 : Nat} (hp0 : Ob 0 111 p0 3) (hp1 : Ob 0 111 p1 3) {M : Mem} {q : Mem} (h : f_X3_copyFrom p0 p1 M = some q) : Ev 0 111 1 m_X3_copyFrom [.ref p0, .ref p1] M (QV q) := by
  refine Ev_of_Fr (by decide +kernel) (Nat.le_of_ble_eq_true rfl) ?_
  show Fr 0 111 1 m_X3_copyFrom 0 [(0, .ref p0), (1, .ref p1)] [] M (QV q)
  unfold f_X3_copyFrom at h
  refine Fr_aload_n (q := 0) (i := 0) 0 (by decide +kernel) rfl rfl ?_
  refine Fr_aload_n (q := 1) (i := 1) 1 (by decide +kernel) rfl rfl ?_
  refine gf_X3_25 rfl (by decide +kernel) hp1 ?_
  obtain ⟨b_2, eb_2, h⟩ := zb_elim h
  refine pf_X3_25 rfl (by decide +kernel) hp0 (by rw [eb_2]; exact nz_b b_2) ?_
  obtain ⟨M_1, eM_1, h⟩ := bM_elim h
  refine Fr_mem eM_1 ?_
  refine Fr_aload_n (q := 0) (i := 0) 0 (by decide +kernel) rfl rfl ?_
  refine Fr_aload_n (q := 1) (i := 1) 1 (by decide +kernel) rfl rfl ?_
  refine gf_X3_29 rfl (by decide +kernel) hp1 ?_
  refine pf_X3_29 rfl (by decide +kernel) hp0 ?_
  obtain ⟨M_3, eM_3, h⟩ := bM_elim h
  refine Fr_mem eM_3 ?_
  refine Fr_aload_n (q := 0) (i := 0) 0 (by decide +kernel) rfl rfl ?_
  refine Fr_aload_n (q := 1) (i := 1) 1 (by decide +kernel) rfl rfl ?_
  refine gf_X3_33 rfl (by decide +kernel) hp1 ?_
  refine pf_X3_33 rfl (by decide +kernel) hp0 ?_
  obtain ⟨M_4, eM_4, h⟩ := bM_elim h
  refine Fr_mem eM_4 ?_
  refine Fr_aload_n (q := 1) (i := 1) 1 (by decide +kernel) rfl rfl ?_
  refine gf_X3_9 rfl (by decide +kernel) hp1 ?_
  refine Fr_iconst (i := 0) (v := 0) (by decide +kernel) (by decide) ?_
  refine Fr_aload_n (q := 0) (i := 0) 0 (by decide +kernel) rfl rfl ?_
  refine gf_X3_9 rfl (by decide +kernel) hp0 ?_
  refine Fr_iconst (i := 0) (v := 0) (by decide +kernel) (by decide) ?_
  refine Fr_bipush (i := 60) (v := 60) (by decide +kernel) (by decide) ?_
  refine Fr_acopyI (by decide +kernel) ml_X3_36 (o3_1 hp1) (o3_1 hp0) (by decide) (by decide) (by decide) (le_len (n3_1 hp1) (by decide)) (le_len (n3_1 hp0) (by decide)) (by decide) (Nat.le_of_ble_eq_true rfl) ?_
  obtain ⟨M_5, eM_5, h⟩ := bM_elim h
  refine Fr_mem eM_5 ?_
  refine Fr_aload_n (q := 1) (i := 1) 1 (by decide +kernel) rfl rfl ?_
  refine gf_X3_13 rfl (by decide +kernel) hp1 ?_
  refine Fr_iconst (i := 0) (v := 0) (by decide +kernel) (by decide) ?_
  refine Fr_aload_n (q := 0) (i := 0) 0 (by decide +kernel) rfl rfl ?_
  refine gf_X3_13 rfl (by decide +kernel) hp0 ?_
  refine Fr_iconst (i := 0) (v := 0) (by decide +kernel) (by decide) ?_
  refine Fr_bipush (i := 60) (v := 60) (by decide +kernel) (by decide) ?_
  refine Fr_acopyI (by decide +kernel) ml_X3_36 (o3_2 hp1) (o3_2 hp0) (by decide) (by decide) (by decide) (le_len (n3_2 hp1) (by decide)) (le_len (n3_2 hp0) (by decide)) (by decide) (Nat.le_of_ble_eq_true rfl) ?_
  obtain ⟨M_6, eM_6, h⟩ := bM_elim h
  refine Fr_mem eM_6 ?_
  refine Fr_aload_n (q := 1) (i := 1) 1 (by decide +kernel) rfl rfl ?_
  refine gf_X3_16 rfl (by decide +kernel) hp1 ?_
  refine Fr_iconst (i := 0) (v := 0) (by decide +kernel) (by decide) ?_
  refine Fr_aload_n (q := 0) (i := 0) 0 (by decide +kernel) rfl rfl ?_
  refine gf_X3_16 rfl (by decide +kernel) hp0 ?_
  refine Fr_iconst (i := 0) (v := 0) (by decide +kernel) (by decide) ?_
  refine Fr_bipush (i := 60) (v := 60) (by decide +kernel) (by decide) ?_
  refine Fr_acopyI (by decide +kernel) ml_X3_36 (o3_3 hp1) (o3_3 hp0) (by decide) (by decide) (by decide) (le_len (n3_3 hp1) (by decide)) (le_len (n3_3 hp0) (by decide)) (by decide) (Nat.le_of_ble_eq_true rfl) ?_
  obtain ⟨M_7, eM_7, h⟩ := bM_elim h
  refine Fr_mem eM_7 ?_
  refine Fr_aload_n (q := 1) (i := 1) 1 (by decide +kernel) rfl rfl ?_
  refine gf_X3_19 rfl (by decide +kernel) hp1 ?_
  refine Fr_iconst (i := 0) (v := 0) (by decide +kernel) (by decide) ?_
  refine Fr_aload_n (q := 0) (i := 0) 0 (by decide +kernel) rfl rfl ?_
  refine gf_X3_19 rfl (by decide +kernel) hp0 ?_
  refine Fr_iconst (i := 0) (v := 0) (by decide +kernel) (by decide) ?_
  refine Fr_bipush (i := 60) (v := 60) (by decide +kernel) (by decide) ?_
  refine Fr_acopyI (by decide +kernel) ml_X3_36 (o3_4 hp1) (o3_4 hp0) (by decide) (by decide) (by decide) (le_len (n3_4 hp1) (by decide)) (le_len (n3_4 hp0) (by decide)) (by decide) (Nat.le_of_ble_eq_true rfl) ?_
  obtain ⟨M_8, eM_8, h⟩ := bM_elim h
  refine Fr_mem eM_8 ?_
  refine Fr_aload_n (q := 1) (i := 1) 1 (by decide +kernel) rfl rfl ?_
  refine gf_X3_22 rfl (by decide +kernel) hp1 ?_
  refine Fr_iconst (i := 0) (v := 0) (by decide +kernel) (by decide) ?_
  refine Fr_aload_n (q := 0) (i := 0) 0 (by decide +kernel) rfl rfl ?_
  refine gf_X3_22 rfl (by decide +kernel) hp0 ?_
  refine Fr_iconst (i := 0) (v := 0) (by decide +kernel) (by decide) ?_
  refine Fr_bipush (i := 60) (v := 60) (by decide +kernel) (by decide) ?_
  refine Fr_acopyI (by decide +kernel) ml_X3_36 (o3_5 hp1) (o3_5 hp0) (by decide) (by decide) (by decide) (le_len (n3_5 hp1) (by decide)) (le_len (n3_5 hp0) (by decide)) (by decide) (Nat.le_of_ble_eq_true rfl) ?_
  obtain ⟨M_9, eM_9, h⟩ := bM_elim h
  refine Fr_mem eM_9 ?_
  obtain rfl := Option.some.inj h
  exact Fr_vret (by decide +kernel) rfl ⟨rfl, rfl⟩
def f_X3_isFull (p0 : Nat) (M : Mem) : Option (Bool × Mem) :=
  if (M.1 p0 1) < 60 then (some (false, M)) else (some (true, M))
set_option maxRecDepth 20000 in
theorem t_X3_isFull {p0 : Nat} (hp0 : Ob 0 111 p0 3) {M : Mem} {q : Bool × Mem} (h : f_X3_isFull p0 M = some q) : Ev 0 111 0 m_X3_isFull [.ref p0] M (QB q) := by
  refine Ev_of_Fr (by decide +kernel) (Nat.le_of_ble_eq_true rfl) ?_
  show Fr 0 111 0 m_X3_isFull 0 [(0, .ref p0)] [] M (QB q)
  unfold f_X3_isFull at h
  refine Fr_aload_n (q := 0) (i := 0) 0 (by decide +kernel) rfl rfl ?_
  refine gf_X3_29 rfl (by decide +kernel) hp0 ?_
  refine Fr_bipush (i := 60) (v := 60) (by decide +kernel) (by decide) ?_
  refine Fr_icmp_lt (off := 7) 13 (by decide +kernel) (by decide) (fun hc => ?_) (fun hc => ?_)
  · have h := iT hc h
    refine Fr_iconst (i := 0) (v := 0) (by decide +kernel) (by decide) ?_
    obtain rfl := Option.some.inj h
    exact Fr_zret (by decide +kernel) rfl (by decide) ⟨rfl, rfl⟩
  · have h := iF hc h
    refine Fr_iconst (i := 1) (v := 1) (by decide +kernel) (by decide) ?_
    refine Fr_goto (off := 4) 14 (by decide +kernel) (by decide) ?_
    obtain rfl := Option.some.inj h
    exact Fr_zret (by decide +kernel) rfl (by decide) ⟨rfl, rfl⟩
def f_X8_advance_b231 (N : Nat) (M : Mem) : Option (Mem) :=
  if (M.1 82 4) ≤ (M.1 82 3) then (bM (uI M 82 2 0) fun M_4 =>
  if (M_4.1 82 1) ≤ (M_4.1 82 3) then (some M_4) else (ck (M_4.1 82 3) 900 (
  bM (uI M_4 82 5 (M_4.1 1 (tn (M_4.1 82 3)))) fun M_6 =>
  bM (uI M_6 82 4 ((M_6.1 82 3) + 1)) fun M_7 =>
  if (M_7.1 82 5) = 59 then (bM (uI M_7 82 2 3) fun M_8 =>
  some M_8) else (if (M_7.1 82 5) = 60 then (bM (uI M_7 82 2 3) fun M_9 =>
  some M_9) else (if (M_7.1 82 5) = 62 then (bM (uI M_7 82 2 3) fun M_10 =>
  some M_10) else (if (M_7.1 82 5) = 61 then (bM (uI M_7 82 2 3) fun M_12 =>
  some M_12) else (bM (uI M_7 82 2 4) fun M_11 =>
  some M_11))))))) else (if ((M.1 82 4) - (M.1 82 3)) ≤ 4 then (bM (uI M 82 2 2) fun M_13 =>
  some M_13) else (bM (uI M 82 2 4) fun M_14 =>
  some M_14))
set_option maxRecDepth 20000 in
theorem t_X8_advance_b231 {N : Nat} {q : Mem} {M : Mem} (h : f_X8_advance_b231 N M = some q) : Fr 0 111 0 m_X8_advance 231 [(0, .ref 82)] [] M (QV q) := by
  unfold f_X8_advance_b231 at h
  refine Fr_aload_n (q := 0) (i := 0) 0 (by decide +kernel) rfl rfl ?_
  refine gf_X8_31 rfl (by decide +kernel) ob_82 ?_
  refine Fr_aload_n (q := 0) (i := 0) 0 (by decide +kernel) rfl rfl ?_
  refine gf_X8_40 rfl (by decide +kernel) ob_82 ?_
  refine Fr_icmp_le (off := 26) 265 (by decide +kernel) (by decide) (fun hc => ?_) (fun hc => ?_)
  · have h := iT hc h
    refine Fr_aload_n (q := 0) (i := 0) 0 (by decide +kernel) rfl rfl ?_
    refine Fr_iconst (i := 0) (v := 0) (by decide +kernel) (by decide) ?_
    refine pf_X8_37 rfl (by decide +kernel) ob_82 ?_
    obtain ⟨M_4, eM_4, h⟩ := bM_elim h
    refine Fr_mem eM_4 ?_
    refine Fr_aload_n (q := 0) (i := 0) 0 (by decide +kernel) rfl rfl ?_
    refine gf_X8_40 rfl (by decide +kernel) ob_82 ?_
    refine Fr_aload_n (q := 0) (i := 0) 0 (by decide +kernel) rfl rfl ?_
    refine gf_X8_28 rfl (by decide +kernel) ob_82 ?_
    refine Fr_icmp_ge (off := 71) 349 (by decide +kernel) (by decide) (fun hc => ?_) (fun hc => ?_)
    · have h := iT hc h
      obtain rfl := Option.some.inj h
      exact Fr_vret (by decide +kernel) rfl ⟨rfl, rfl⟩
    · have h := iF hc h
      refine Fr_aload_n (q := 0) (i := 0) 0 (by decide +kernel) rfl rfl ?_
      refine Fr_aload_n (q := 0) (i := 0) 0 (by decide +kernel) rfl rfl ?_
      refine gf_X8_9 rfl (by decide +kernel) ob_82 ?_
      refine Fr_aload_n (q := 0) (i := 0) 0 (by decide +kernel) rfl rfl ?_
      refine gf_X8_40 rfl (by decide +kernel) ob_82 ?_
      obtain ⟨hi_5, h⟩ := ck_elim h
      refine Fr_bald (by decide +kernel) ob_1 (vp_of ln_1 hi_5) ?_
      refine pf_X8_43 rfl (by decide +kernel) ob_82 ?_
      obtain ⟨M_6, eM_6, h⟩ := bM_elim h
      refine Fr_mem eM_6 ?_
      refine Fr_aload_n (q := 0) (i := 0) 0 (by decide +kernel) rfl rfl ?_
      refine Fr_aload_n (q := 0) (i := 0) 0 (by decide +kernel) rfl rfl ?_
      refine gf_X8_40 rfl (by decide +kernel) ob_82 ?_
      refine Fr_iconst (i := 1) (v := 1) (by decide +kernel) (by decide) ?_
      refine Fr_iadd (by decide +kernel) ?_
      refine pf_X8_31 rfl (by decide +kernel) ob_82 ?_
      obtain ⟨M_7, eM_7, h⟩ := bM_elim h
      refine Fr_mem eM_7 ?_
      refine Fr_aload_n (q := 0) (i := 0) 0 (by decide +kernel) rfl rfl ?_
      refine Fr_aload_n (q := 0) (i := 0) 0 (by decide +kernel) rfl rfl ?_
      refine gf_X8_43 rfl (by decide +kernel) ob_82 ?_
      refine Fr_bipush (i := 59) (v := 59) (by decide +kernel) (by decide) ?_
      refine Fr_icmp_eq (off := 30) 341 (by decide +kernel) (by decide) (fun hc => ?_) (fun hc => ?_)
      · have h := iT hc h
        refine Fr_iconst (i := 3) (v := 3) (by decide +kernel) (by decide) ?_
        refine Fr_goto (off := 4) 346 (by decide +kernel) (by decide) ?_
        refine pf_X8_37 rfl (by decide +kernel) ob_82 ?_
        obtain ⟨M_8, eM_8, h⟩ := bM_elim h
        refine Fr_mem eM_8 ?_
        obtain rfl := Option.some.inj h
        exact Fr_vret (by decide +kernel) rfl ⟨rfl, rfl⟩
      · have h := iF hc h
        refine Fr_aload_n (q := 0) (i := 0) 0 (by decide +kernel) rfl rfl ?_
        refine gf_X8_43 rfl (by decide +kernel) ob_82 ?_
        refine Fr_bipush (i := 60) (v := 60) (by decide +kernel) (by decide) ?_
        refine Fr_icmp_eq (off := 21) 341 (by decide +kernel) (by decide) (fun hc => ?_) (fun hc => ?_)
        · have h := iT hc h
          refine Fr_iconst (i := 3) (v := 3) (by decide +kernel) (by decide) ?_
          refine Fr_goto (off := 4) 346 (by decide +kernel) (by decide) ?_
          refine pf_X8_37 rfl (by decide +kernel) ob_82 ?_
          obtain ⟨M_9, eM_9, h⟩ := bM_elim h
          refine Fr_mem eM_9 ?_
          obtain rfl := Option.some.inj h
          exact Fr_vret (by decide +kernel) rfl ⟨rfl, rfl⟩
        · have h := iF hc h
          refine Fr_aload_n (q := 0) (i := 0) 0 (by decide +kernel) rfl rfl ?_
          refine gf_X8_43 rfl (by decide +kernel) ob_82 ?_
          refine Fr_bipush (i := 62) (v := 62) (by decide +kernel) (by decide) ?_
          refine Fr_icmp_eq (off := 12) 341 (by decide +kernel) (by decide) (fun hc => ?_) (fun hc => ?_)
          · have h := iT hc h
            refine Fr_iconst (i := 3) (v := 3) (by decide +kernel) (by decide) ?_
            refine Fr_goto (off := 4) 346 (by decide +kernel) (by decide) ?_
            refine pf_X8_37 rfl (by decide +kernel) ob_82 ?_
            obtain ⟨M_10, eM_10, h⟩ := bM_elim h
            refine Fr_mem eM_10 ?_
            obtain rfl := Option.some.inj h
            exact Fr_vret (by decide +kernel) rfl ⟨rfl, rfl⟩
          · have h := iF hc h
            refine Fr_aload_n (q := 0) (i := 0) 0 (by decide +kernel) rfl rfl ?_
            refine gf_X8_43 rfl (by decide +kernel) ob_82 ?_
            refine Fr_bipush (i := 61) (v := 61) (by decide +kernel) (by decide) ?_
            refine Fr_icmp_ne (off := 7) 345 (by decide +kernel) (by decide) (fun hc => ?_) (fun hc => ?_)
            · have h := iF hc h
              refine Fr_iconst (i := 4) (v := 4) (by decide +kernel) (by decide) ?_
              refine pf_X8_37 rfl (by decide +kernel) ob_82 ?_
              obtain ⟨M_11, eM_11, h⟩ := bM_elim h
              refine Fr_mem eM_11 ?_
              obtain rfl := Option.some.inj h
              exact Fr_vret (by decide +kernel) rfl ⟨rfl, rfl⟩
            · have h := iT hc h
              refine Fr_iconst (i := 3) (v := 3) (by decide +kernel) (by decide) ?_
              refine Fr_goto (off := 4) 346 (by decide +kernel) (by decide) ?_
              refine pf_X8_37 rfl (by decide +kernel) ob_82 ?_
              obtain ⟨M_12, eM_12, h⟩ := bM_elim h
              refine Fr_mem eM_12 ?_
              obtain rfl := Option.some.inj h
              exact Fr_vret (by decide +kernel) rfl ⟨rfl, rfl⟩
  · have h := iF hc h
    refine Fr_aload_n (q := 0) (i := 0) 0 (by decide +kernel) rfl rfl ?_
    refine Fr_aload_n (q := 0) (i := 0) 0 (by decide +kernel) rfl rfl ?_
    refine gf_X8_31 rfl (by decide +kernel) ob_82 ?_
    refine Fr_aload_n (q := 0) (i := 0) 0 (by decide +kernel) rfl rfl ?_
    refine gf_X8_40 rfl (by decide +kernel) ob_82 ?_
    refine Fr_isub (by decide +kernel) ?_
    refine Fr_iconst (i := 4) (v := 4) (by decide +kernel) (by decide) ?_
    refine Fr_icmp_le (off := 7) 260 (by decide +kernel) (by decide) (fun hc => ?_) (fun hc => ?_)
    · have h := iT hc h
      refine Fr_iconst (i := 2) (v := 2) (by decide +kernel) (by decide) ?_
      refine pf_X8_37 rfl (by decide +kernel) ob_82 ?_
      obtain ⟨M_13, eM_13, h⟩ := bM_elim h
      refine Fr_mem eM_13 ?_
      obtain rfl := Option.some.inj h
      exact Fr_vret (by decide +kernel) rfl ⟨rfl, rfl⟩
    · have h := iF hc h
      refine Fr_iconst (i := 4) (v := 4) (by decide +kernel) (by decide) ?_
      refine Fr_goto (off := 4) 261 (by decide +kernel) (by decide) ?_
      refine pf_X8_37 rfl (by decide +kernel) ob_82 ?_
      obtain ⟨M_14, eM_14, h⟩ := bM_elim h
      refine Fr_mem eM_14 ?_
      obtain rfl := Option.some.inj h
      exact Fr_vret (by decide +kernel) rfl ⟨rfl, rfl⟩
def f_X8_advance_b218 (N : Nat) (k142 : Unit → Mem → Option (Mem)) (M : Mem) : Option (Mem) :=
  bM (uI M 82 4 ((M.1 82 4) + 1)) fun M_17 =>
  k142 () M_17
set_option maxRecDepth 20000 in
theorem t_X8_advance_b218 {N : Nat} {q : Mem} {k142 : Unit → Mem → Option (Mem)} (hk142 : ∀ (a : Unit) (M : Mem), k142 a M = some q → Fr 0 111 0 m_X8_advance 142 [(0, .ref 82)] [] M (QV q)) {M : Mem} (h : f_X8_advance_b218 N k142 M = some q) : Fr 0 111 0 m_X8_advance 218 [(0, .ref 82)] [] M (QV q) := by
  unfold f_X8_advance_b218 at h
  refine Fr_aload_n (q := 0) (i := 0) 0 (by decide +kernel) rfl rfl ?_
  refine Fr_dup (by decide +kernel) rfl ?_
  refine gf_X8_31 rfl (by decide +kernel) ob_82 ?_
  refine Fr_iconst (i := 1) (v := 1) (by decide +kernel) (by decide) ?_
  refine Fr_iadd (by decide +kernel) ?_
  refine pf_X8_31 rfl (by decide +kernel) ob_82 ?_
  obtain ⟨M_17, eM_17, h⟩ := bM_elim h
  refine Fr_mem eM_17 ?_
  refine Fr_goto (off := (-86)) 142 (by decide +kernel) (by decide) ?_
  exact hk142 () M_17 h
def f_X8_advance_h142 (N : Nat) (k142 : Unit → Mem → Option (Mem)) (M : Mem) : Option (Mem) :=
  if (M.1 82 1) ≤ (M.1 82 4) then (f_X8_advance_b231 N M) else (ck (M.1 82 4) 900 (
  if (M.1 1 (tn (M.1 82 4))) < 48 then (f_X8_advance_b231 N M) else (ck (M.1 82 4) 900 (
  if 57 < (M.1 1 (tn (M.1 82 4))) then (f_X8_advance_b231 N M) else (if 4 ≤ ((M.1 82 4) - (M.1 82 3)) then (f_X8_advance_b218 N k142 M) else (ck (M.1 82 4) 900 (
  bM (uI M 82 5 ((((M.1 82 5) * 10) + (M.1 1 (tn (M.1 82 4)))) - 48)) fun M_19 =>
  f_X8_advance_b218 N k142 M_19)))))))
set_option maxRecDepth 20000 in
theorem t_X8_advance_h142 {N : Nat} {q : Mem} {k142 : Unit → Mem → Option (Mem)} (hk142 : ∀ (a : Unit) (M : Mem), k142 a M = some q → Fr 0 111 0 m_X8_advance 142 [(0, .ref 82)] [] M (QV q)) {M : Mem} (h : f_X8_advance_h142 N k142 M = some q) : Fr 0 111 0 m_X8_advance 142 [(0, .ref 82)] [] M (QV q) := by
  unfold f_X8_advance_h142 at h
  refine Fr_aload_n (q := 0) (i := 0) 0 (by decide +kernel) rfl rfl ?_
  refine gf_X8_31 rfl (by decide +kernel) ob_82 ?_
  refine Fr_aload_n (q := 0) (i := 0) 0 (by decide +kernel) rfl rfl ?_
  refine gf_X8_28 rfl (by decide +kernel) ob_82 ?_
  refine Fr_icmp_ge (off := 81) 231 (by decide +kernel) (by decide) (fun hc => ?_) (fun hc => ?_)
  · have h := iT hc h
    exact t_X8_advance_b231 h
  · have h := iF hc h
    refine Fr_aload_n (q := 0) (i := 0) 0 (by decide +kernel) rfl rfl ?_
    refine gf_X8_9 rfl (by decide +kernel) ob_82 ?_
    refine Fr_aload_n (q := 0) (i := 0) 0 (by decide +kernel) rfl rfl ?_
    refine gf_X8_31 rfl (by decide +kernel) ob_82 ?_
    obtain ⟨hi_15, h⟩ := ck_elim h
    refine Fr_bald (by decide +kernel) ob_1 (vp_of ln_1 hi_15) ?_
    refine Fr_bipush (i := 48) (v := 48) (by decide +kernel) (by decide) ?_
    refine Fr_icmp_lt (off := 67) 231 (by decide +kernel) (by decide) (fun hc => ?_) (fun hc => ?_)
    · have h := iT hc h
      exact t_X8_advance_b231 h
    · have h := iF hc h
      refine Fr_aload_n (q := 0) (i := 0) 0 (by decide +kernel) rfl rfl ?_
      refine gf_X8_9 rfl (by decide +kernel) ob_82 ?_
      refine Fr_aload_n (q := 0) (i := 0) 0 (by decide +kernel) rfl rfl ?_
      refine gf_X8_31 rfl (by decide +kernel) ob_82 ?_
      obtain ⟨hi_16, h⟩ := ck_elim h
      refine Fr_bald (by decide +kernel) ob_1 (vp_of ln_1 hi_16) ?_
      refine Fr_bipush (i := 57) (v := 57) (by decide +kernel) (by decide) ?_
      refine Fr_icmp_gt (off := 53) 231 (by decide +kernel) (by decide) (fun hc => ?_) (fun hc => ?_)
      · have h := iT hc h
        exact t_X8_advance_b231 h
      · have h := iF hc h
        refine Fr_aload_n (q := 0) (i := 0) 0 (by decide +kernel) rfl rfl ?_
        refine gf_X8_31 rfl (by decide +kernel) ob_82 ?_
        refine Fr_aload_n (q := 0) (i := 0) 0 (by decide +kernel) rfl rfl ?_
        refine gf_X8_40 rfl (by decide +kernel) ob_82 ?_
        refine Fr_isub (by decide +kernel) ?_
        refine Fr_iconst (i := 4) (v := 4) (by decide +kernel) (by decide) ?_
        refine Fr_icmp_ge (off := 27) 218 (by decide +kernel) (by decide) (fun hc => ?_) (fun hc => ?_)
        · have h := iT hc h
          exact t_X8_advance_b218 hk142 h
        · have h := iF hc h
          refine Fr_aload_n (q := 0) (i := 0) 0 (by decide +kernel) rfl rfl ?_
          refine Fr_aload_n (q := 0) (i := 0) 0 (by decide +kernel) rfl rfl ?_
          refine gf_X8_43 rfl (by decide +kernel) ob_82 ?_
          refine Fr_bipush (i := 10) (v := 10) (by decide +kernel) (by decide) ?_
          refine Fr_imul (by decide +kernel) ?_
          refine Fr_aload_n (q := 0) (i := 0) 0 (by decide +kernel) rfl rfl ?_
          refine gf_X8_9 rfl (by decide +kernel) ob_82 ?_
          refine Fr_aload_n (q := 0) (i := 0) 0 (by decide +kernel) rfl rfl ?_
          refine gf_X8_31 rfl (by decide +kernel) ob_82 ?_
          obtain ⟨hi_18, h⟩ := ck_elim h
          refine Fr_bald (by decide +kernel) ob_1 (vp_of ln_1 hi_18) ?_
          refine Fr_iadd (by decide +kernel) ?_
          refine Fr_bipush (i := 48) (v := 48) (by decide +kernel) (by decide) ?_
          refine Fr_isub (by decide +kernel) ?_
          refine pf_X8_43 rfl (by decide +kernel) ob_82 ?_
          obtain ⟨M_19, eM_19, h⟩ := bM_elim h
          refine Fr_mem eM_19 ?_
          exact t_X8_advance_b218 hk142 h
def f_X8_advance_b125 (N : Nat) (M : Mem) : Option (Mem) :=
  if (M.1 82 4) ≤ (M.1 82 3) then (lp (fun k a m => f_X8_advance_h142 N k m) N () M) else (bM (uI M 82 2 1) fun M_20 =>
  some M_20)
set_option maxRecDepth 20000 in
theorem t_X8_advance_b125 {N : Nat} {q : Mem} {M : Mem} (h : f_X8_advance_b125 N M = some q) : Fr 0 111 0 m_X8_advance 125 [(0, .ref 82)] [] M (QV q) := by
  unfold f_X8_advance_b125 at h
  refine Fr_aload_n (q := 0) (i := 0) 0 (by decide +kernel) rfl rfl ?_
  refine gf_X8_31 rfl (by decide +kernel) ob_82 ?_
  refine Fr_aload_n (q := 0) (i := 0) 0 (by decide +kernel) rfl rfl ?_
  refine gf_X8_40 rfl (by decide +kernel) ob_82 ?_
  refine Fr_icmp_le (off := 9) 142 (by decide +kernel) (by decide) (fun hc => ?_) (fun hc => ?_)
  · have h := iT hc h
    exact lp_sound (P := fun a M => Fr 0 111 0 m_X8_advance 142 [(0, .ref 82)] [] M (QV q)) (fun k hk a m h => t_X8_advance_h142 hk h) N () M h
  · have h := iF hc h
    refine Fr_aload_n (q := 0) (i := 0) 0 (by decide +kernel) rfl rfl ?_
    refine Fr_iconst (i := 1) (v := 1) (by decide +kernel) (by decide) ?_
    refine pf_X8_37 rfl (by decide +kernel) ob_82 ?_
    obtain ⟨M_20, eM_20, h⟩ := bM_elim h
    refine Fr_mem eM_20 ?_
    obtain rfl := Option.some.inj h
    exact Fr_vret (by decide +kernel) rfl ⟨rfl, rfl⟩
def f_X8_advance_h73 (N : Nat) (k73 : Unit → Mem → Option (Mem)) (M : Mem) : Option (Mem) :=
  if (M.1 82 1) ≤ (M.1 82 4) then (f_X8_advance_b125 N M) else (ck (M.1 82 4) 900 (
  if (M.1 1 (tn (M.1 82 4))) < 97 then (f_X8_advance_b125 N M) else (ck (M.1 82 4) 900 (
  if 122 < (M.1 1 (tn (M.1 82 4))) then (f_X8_advance_b125 N M) else (bM (uI M 82 4 ((M.1 82 4) + 1)) fun M_23 =>
  k73 () M_23)))))
set_option maxRecDepth 20000 in
theorem t_X8_advance_h73 {N : Nat} {q : Mem} {k73 : Unit → Mem → Option (Mem)} (hk73 : ∀ (a : Unit) (M : Mem), k73 a M = some q → Fr 0 111 0 m_X8_advance 73 [(0, .ref 82)] [] M (QV q)) {M : Mem} (h : f_X8_advance_h73 N k73 M = some q) : Fr 0 111 0 m_X8_advance 73 [(0, .ref 82)] [] M (QV q) := by
  unfold f_X8_advance_h73 at h
  refine Fr_aload_n (q := 0) (i := 0) 0 (by decide +kernel) rfl rfl ?_
  refine gf_X8_31 rfl (by decide +kernel) ob_82 ?_
  refine Fr_aload_n (q := 0) (i := 0) 0 (by decide +kernel) rfl rfl ?_
  refine gf_X8_28 rfl (by decide +kernel) ob_82 ?_
  refine Fr_icmp_ge (off := 44) 125 (by decide +kernel) (by decide) (fun hc => ?_) (fun hc => ?_)
  · have h := iT hc h
    exact t_X8_advance_b125 h
  · have h := iF hc h
    refine Fr_aload_n (q := 0) (i := 0) 0 (by decide +kernel) rfl rfl ?_
    refine gf_X8_9 rfl (by decide +kernel) ob_82 ?_
    refine Fr_aload_n (q := 0) (i := 0) 0 (by decide +kernel) rfl rfl ?_
    refine gf_X8_31 rfl (by decide +kernel) ob_82 ?_
    obtain ⟨hi_21, h⟩ := ck_elim h
    refine Fr_bald (by decide +kernel) ob_1 (vp_of ln_1 hi_21) ?_
    refine Fr_bipush (i := 97) (v := 97) (by decide +kernel) (by decide) ?_
    refine Fr_icmp_lt (off := 30) 125 (by decide +kernel) (by decide) (fun hc => ?_) (fun hc => ?_)
    · have h := iT hc h
      exact t_X8_advance_b125 h
    · have h := iF hc h
      refine Fr_aload_n (q := 0) (i := 0) 0 (by decide +kernel) rfl rfl ?_
      refine gf_X8_9 rfl (by decide +kernel) ob_82 ?_
      refine Fr_aload_n (q := 0) (i := 0) 0 (by decide +kernel) rfl rfl ?_
      refine gf_X8_31 rfl (by decide +kernel) ob_82 ?_
      obtain ⟨hi_22, h⟩ := ck_elim h
      refine Fr_bald (by decide +kernel) ob_1 (vp_of ln_1 hi_22) ?_
      refine Fr_bipush (i := 122) (v := 122) (by decide +kernel) (by decide) ?_
      refine Fr_icmp_gt (off := 16) 125 (by decide +kernel) (by decide) (fun hc => ?_) (fun hc => ?_)
      · have h := iT hc h
        exact t_X8_advance_b125 h
      · have h := iF hc h
        refine Fr_aload_n (q := 0) (i := 0) 0 (by decide +kernel) rfl rfl ?_
        refine Fr_dup (by decide +kernel) rfl ?_
        refine gf_X8_31 rfl (by decide +kernel) ob_82 ?_
        refine Fr_iconst (i := 1) (v := 1) (by decide +kernel) (by decide) ?_
        refine Fr_iadd (by decide +kernel) ?_
        refine pf_X8_31 rfl (by decide +kernel) ob_82 ?_
        obtain ⟨M_23, eM_23, h⟩ := bM_elim h
        refine Fr_mem eM_23 ?_
        refine Fr_goto (off := (-49)) 73 (by decide +kernel) (by decide) ?_
        exact hk73 () M_23 h
def f_X8_advance_b60 (N : Nat) (M : Mem) : Option (Mem) :=
  bM (uI M 82 4 (M.1 82 3)) fun M_2 =>
  bM (uI M_2 82 5 0) fun M_3 =>
  lp (fun k a m => f_X8_advance_h73 N k m) N () M_3
set_option maxRecDepth 20000 in
theorem t_X8_advance_b60 {N : Nat} {q : Mem} {M : Mem} (h : f_X8_advance_b60 N M = some q) : Fr 0 111 0 m_X8_advance 60 [(0, .ref 82)] [] M (QV q) := by
  unfold f_X8_advance_b60 at h
  refine Fr_aload_n (q := 0) (i := 0) 0 (by decide +kernel) rfl rfl ?_
  refine Fr_aload_n (q := 0) (i := 0) 0 (by decide +kernel) rfl rfl ?_
  refine gf_X8_40 rfl (by decide +kernel) ob_82 ?_
  refine pf_X8_31 rfl (by decide +kernel) ob_82 ?_
  obtain ⟨M_2, eM_2, h⟩ := bM_elim h
  refine Fr_mem eM_2 ?_
  refine Fr_aload_n (q := 0) (i := 0) 0 (by decide +kernel) rfl rfl ?_
  refine Fr_iconst (i := 0) (v := 0) (by decide +kernel) (by decide) ?_
  refine pf_X8_43 rfl (by decide +kernel) ob_82 ?_
  obtain ⟨M_3, eM_3, h⟩ := bM_elim h
  refine Fr_mem eM_3 ?_
  exact lp_sound (P := fun a M => Fr 0 111 0 m_X8_advance 73 [(0, .ref 82)] [] M (QV q)) (fun k hk a m h => t_X8_advance_h73 hk h) N () M_3 h
def f_X8_advance_b47 (N : Nat) (k8 : Unit → Mem → Option (Mem)) (M : Mem) : Option (Mem) :=
  bM (uI M 82 3 ((M.1 82 3) + 1)) fun M_25 =>
  k8 () M_25
set_option maxRecDepth 20000 in
theorem t_X8_advance_b47 {N : Nat} {q : Mem} {k8 : Unit → Mem → Option (Mem)} (hk8 : ∀ (a : Unit) (M : Mem), k8 a M = some q → Fr 0 111 0 m_X8_advance 8 [(0, .ref 82)] [] M (QV q)) {M : Mem} (h : f_X8_advance_b47 N k8 M = some q) : Fr 0 111 0 m_X8_advance 47 [(0, .ref 82)] [] M (QV q) := by
  unfold f_X8_advance_b47 at h
  refine Fr_aload_n (q := 0) (i := 0) 0 (by decide +kernel) rfl rfl ?_
  refine Fr_dup (by decide +kernel) rfl ?_
  refine gf_X8_40 rfl (by decide +kernel) ob_82 ?_
  refine Fr_iconst (i := 1) (v := 1) (by decide +kernel) (by decide) ?_
  refine Fr_iadd (by decide +kernel) ?_
  refine pf_X8_40 rfl (by decide +kernel) ob_82 ?_
  obtain ⟨M_25, eM_25, h⟩ := bM_elim h
  refine Fr_mem eM_25 ?_
  refine Fr_goto (off := (-49)) 8 (by decide +kernel) (by decide) ?_
  exact hk8 () M_25 h
def f_X8_advance_h8 (N : Nat) (k8 : Unit → Mem → Option (Mem)) (M : Mem) : Option (Mem) :=
  if (M.1 82 1) ≤ (M.1 82 3) then (f_X8_advance_b60 N M) else (ck (M.1 82 3) 900 (
  if (M.1 1 (tn (M.1 82 3))) = 10 then (f_X8_advance_b47 N k8 M) else (ck (M.1 82 3) 900 (
  if (M.1 1 (tn (M.1 82 3))) = 32 then (f_X8_advance_b47 N k8 M) else (f_X8_advance_b60 N M)))))
set_option maxRecDepth 20000 in
theorem t_X8_advance_h8 {N : Nat} {q : Mem} {k8 : Unit → Mem → Option (Mem)} (hk8 : ∀ (a : Unit) (M : Mem), k8 a M = some q → Fr 0 111 0 m_X8_advance 8 [(0, .ref 82)] [] M (QV q)) {M : Mem} (h : f_X8_advance_h8 N k8 M = some q) : Fr 0 111 0 m_X8_advance 8 [(0, .ref 82)] [] M (QV q) := by
  unfold f_X8_advance_h8 at h
  refine Fr_aload_n (q := 0) (i := 0) 0 (by decide +kernel) rfl rfl ?_
  refine gf_X8_40 rfl (by decide +kernel) ob_82 ?_
  refine Fr_aload_n (q := 0) (i := 0) 0 (by decide +kernel) rfl rfl ?_
  refine gf_X8_28 rfl (by decide +kernel) ob_82 ?_
  refine Fr_icmp_ge (off := 44) 60 (by decide +kernel) (by decide) (fun hc => ?_) (fun hc => ?_)
  · have h := iT hc h
    exact t_X8_advance_b60 h
  · have h := iF hc h
    refine Fr_aload_n (q := 0) (i := 0) 0 (by decide +kernel) rfl rfl ?_
    refine gf_X8_9 rfl (by decide +kernel) ob_82 ?_
    refine Fr_aload_n (q := 0) (i := 0) 0 (by decide +kernel) rfl rfl ?_
    refine gf_X8_40 rfl (by decide +kernel) ob_82 ?_
    obtain ⟨hi_24, h⟩ := ck_elim h
    refine Fr_bald (by decide +kernel) ob_1 (vp_of ln_1 hi_24) ?_
    refine Fr_bipush (i := 10) (v := 10) (by decide +kernel) (by decide) ?_
    refine Fr_icmp_eq (off := 17) 47 (by decide +kernel) (by decide) (fun hc => ?_) (fun hc => ?_)
    · have h := iT hc h
      exact t_X8_advance_b47 hk8 h
    · have h := iF hc h
      refine Fr_aload_n (q := 0) (i := 0) 0 (by decide +kernel) rfl rfl ?_
      refine gf_X8_9 rfl (by decide +kernel) ob_82 ?_
      refine Fr_aload_n (q := 0) (i := 0) 0 (by decide +kernel) rfl rfl ?_
      refine gf_X8_40 rfl (by decide +kernel) ob_82 ?_
      obtain ⟨hi_26, h⟩ := ck_elim h
      refine Fr_bald (by decide +kernel) ob_1 (vp_of ln_1 hi_26) ?_
      refine Fr_bipush (i := 32) (v := 32) (by decide +kernel) (by decide) ?_
      refine Fr_icmp_ne (off := 16) 60 (by decide +kernel) (by decide) (fun hc => ?_) (fun hc => ?_)
      · have h := iF hc h
        exact t_X8_advance_b60 h
      · have h := iT hc h
        exact t_X8_advance_b47 hk8 h
def f_X8_advance (N : Nat) (M : Mem) : Option (Mem) :=
  bM (uI M 82 3 (M.1 82 4)) fun M_1 =>
  lp (fun k a m => f_X8_advance_h8 N k m) N () M_1
set_option maxRecDepth 20000 in
theorem t_X8_advance {N : Nat} {M : Mem} {q : Mem} (h : f_X8_advance N M = some q) : Ev 0 111 0 m_X8_advance [.ref 82] M (QV q) := by
  refine Ev_of_Fr (by decide +kernel) (Nat.le_of_ble_eq_true rfl) ?_
  show Fr 0 111 0 m_X8_advance 0 [(0, .ref 82)] [] M (QV q)
  unfold f_X8_advance at h
  refine Fr_aload_n (q := 0) (i := 0) 0 (by decide +kernel) rfl rfl ?_
  refine Fr_aload_n (q := 0) (i := 0) 0 (by decide +kernel) rfl rfl ?_
  refine gf_X8_31 rfl (by decide +kernel) ob_82 ?_
  refine pf_X8_40 rfl (by decide +kernel) ob_82 ?_
  obtain ⟨M_1, eM_1, h⟩ := bM_elim h
  refine Fr_mem eM_1 ?_
  exact lp_sound (P := fun a M => Fr 0 111 0 m_X8_advance 8 [(0, .ref 82)] [] M (QV q)) (fun k hk a m h => t_X8_advance_h8 hk h) N () M_1 h
def f_X8_begin (N : Nat) (x1 : Int32) (M : Mem) : Option (Mem) :=
  bM (uI M 82 1 (imin x1 900)) fun M_1 =>
  bM (uI M_1 82 4 0) fun M_2 =>
  bM (uI M_2 82 6 0) fun M_3 =>
  bM (uI M_3 82 7 (-1)) fun M_4 =>
  bv (f_X8_advance N M_4) fun M_5 =>
  some M_5
set_option maxRecDepth 20000 in
theorem t_X8_begin {N : Nat} {x1 : Int32} {M : Mem} {q : Mem} (h : f_X8_begin N x1 M = some q) : Ev 0 111 1 m_X8_begin [.ref 82, .int x1] M (QV q) := by
  refine Ev_of_Fr (by decide +kernel) (Nat.le_of_ble_eq_true rfl) ?_
  show Fr 0 111 1 m_X8_begin 0 [(0, .ref 82), (1, .int x1)] [] M (QV q)
  unfold f_X8_begin at h
  refine Fr_aload_n (q := 0) (i := 0) 0 (by decide +kernel) rfl rfl ?_
  refine Fr_iload_n (q := 1) (i := 1) 1 (by decide +kernel) rfl rfl ?_
  refine Fr_aload_n (q := 0) (i := 0) 0 (by decide +kernel) rfl rfl ?_
  refine gf_X8_9 rfl (by decide +kernel) ob_82 ?_
  refine Fr_alen (v := 900) (by decide +kernel) ob_1 (by decide) (by rw [ln_1]; rfl) ?_
  refine Fr_min (by decide +kernel) ml_X8_22 (by decide) (Nat.le_of_ble_eq_true rfl) ?_
  refine pf_X8_28 rfl (by decide +kernel) ob_82 ?_
  obtain ⟨M_1, eM_1, h⟩ := bM_elim h
  refine Fr_mem eM_1 ?_
  refine Fr_aload_n (q := 0) (i := 0) 0 (by decide +kernel) rfl rfl ?_
  refine Fr_iconst (i := 0) (v := 0) (by decide +kernel) (by decide) ?_
  refine pf_X8_31 rfl (by decide +kernel) ob_82 ?_
  obtain ⟨M_2, eM_2, h⟩ := bM_elim h
  refine Fr_mem eM_2 ?_
  refine Fr_aload_n (q := 0) (i := 0) 0 (by decide +kernel) rfl rfl ?_
  refine Fr_iconst (i := 0) (v := 0) (by decide +kernel) (by decide) ?_
  refine pf_X8_15 rfl (by decide +kernel) ob_82 ?_
  obtain ⟨M_3, eM_3, h⟩ := bM_elim h
  refine Fr_mem eM_3 ?_
  refine Fr_aload_n (q := 0) (i := 0) 0 (by decide +kernel) rfl rfl ?_
  refine Fr_iconst (i := (-1)) (v := (-1)) (by decide +kernel) (by decide) ?_
  refine pf_X8_19 rfl (by decide +kernel) ob_82 ?_
  obtain ⟨M_4, eM_4, h⟩ := bM_elim h
  refine Fr_mem eM_4 ?_
  refine Fr_aload_n (q := 0) (i := 0) 0 (by decide +kernel) rfl rfl ?_
  obtain ⟨M_5, hc_6, h⟩ := bv_elim h
  refine Fr_cVv (ν := m_X8_advance) (As := []) (st := []) (rc := 82) (ci := 8) (d' := 0) (by decide +kernel) ml_X8_34 cv_X8_advance rfl (by decide) rfl ob_82 rfl (by decide) (Nat.le_of_ble_eq_true rfl) (t_X8_advance hc_6) ?_
  obtain rfl := Option.some.inj h
  exact Fr_vret (by decide +kernel) rfl ⟨rfl, rfl⟩
def f_X8_isGoingOn (M : Mem) : Option (Bool × Mem) :=
  if (M.1 82 6) = 0 then (if (M.1 82 2) = 0 then (some (false, M)) else (some (true, M))) else (some (false, M))
set_option maxRecDepth 20000 in
theorem t_X8_isGoingOn {M : Mem} {q : Bool × Mem} (h : f_X8_isGoingOn M = some q) : Ev 0 111 0 m_X8_isGoingOn [.ref 82] M (QB q) := by
  refine Ev_of_Fr (by decide +kernel) (Nat.le_of_ble_eq_true rfl) ?_
  show Fr 0 111 0 m_X8_isGoingOn 0 [(0, .ref 82)] [] M (QB q)
  unfold f_X8_isGoingOn at h
  refine Fr_aload_n (q := 0) (i := 0) 0 (by decide +kernel) rfl rfl ?_
  refine gf_X8_15 rfl (by decide +kernel) ob_82 ?_
  refine Fr_if_ne (off := 14) 18 (by decide +kernel) (by decide) (fun hc => ?_) (fun hc => ?_)
  · have h := iF hc h
    refine Fr_iconst (i := 0) (v := 0) (by decide +kernel) (by decide) ?_
    obtain rfl := Option.some.inj h
    exact Fr_zret (by decide +kernel) rfl (by decide) ⟨rfl, rfl⟩
  · have h := iT hc h
    refine Fr_aload_n (q := 0) (i := 0) 0 (by decide +kernel) rfl rfl ?_
    refine gf_X8_37 rfl (by decide +kernel) ob_82 ?_
    refine Fr_if_eq (off := 7) 18 (by decide +kernel) (by decide) (fun hc => ?_) (fun hc => ?_)
    · have h := iT hc h
      refine Fr_iconst (i := 0) (v := 0) (by decide +kernel) (by decide) ?_
      obtain rfl := Option.some.inj h
      exact Fr_zret (by decide +kernel) rfl (by decide) ⟨rfl, rfl⟩
    · have h := iF hc h
      refine Fr_iconst (i := 1) (v := 1) (by decide +kernel) (by decide) ?_
      refine Fr_goto (off := 4) 19 (by decide +kernel) (by decide) ?_
      obtain rfl := Option.some.inj h
      exact Fr_zret (by decide +kernel) rfl (by decide) ⟨rfl, rfl⟩
def f_X8_isSameAt_h2 (N : Nat) (z1 : Nat) (k2 : Int32 × Int32 → Mem → Option (Bool × Mem)) (v2 : Int32) (v3 : Int32) (M : Mem) : Option (Bool × Mem) :=
  if (M.1 82 4) ≤ ((M.1 82 3) + v3) then (some (true, M)) else (bi (f_J0_length_8abf5 z1 M) fun r_3 M_1 =>
  if r_3 ≤ (v2 + v3) then (some (false, M_1)) else (bi (f_J0_charAt_5068e z1 (v2 + v3) M_1) fun r_6 M_4 =>
  ck ((M_4.1 82 3) + v3) 900 (
  if r_6 = (M_4.1 1 (tn ((M_4.1 82 3) + v3))) then (k2 (v2, (v3 + 1)) M_4) else (some (false, M_4)))))
set_option maxRecDepth 20000 in
theorem t_X8_isSameAt_h2 {N : Nat} {z1 : Nat} (hz1 : z1 < 32) {q : Bool × Mem} {k2 : Int32 × Int32 → Mem → Option (Bool × Mem)} (hk2 : ∀ (a : Int32 × Int32) (M : Mem), k2 a M = some q → Fr 0 111 6 m_X8_isSameAt 2 [(0, .ref 82), (1, .ref (400 + z1)), (2, .int a.1), (3, .int a.2)] [] M (QB q)) {v2 : Int32} {v3 : Int32} {M : Mem} (h : f_X8_isSameAt_h2 N z1 k2 v2 v3 M = some q) : Fr 0 111 6 m_X8_isSameAt 2 [(0, .ref 82), (1, .ref (400 + z1)), (2, .int v2), (3, .int v3)] [] M (QB q) := by
  unfold f_X8_isSameAt_h2 at h
  refine Fr_aload_n (q := 0) (i := 0) 0 (by decide +kernel) rfl rfl ?_
  refine gf_X8_40 rfl (by decide +kernel) ob_82 ?_
  refine Fr_iload_n (q := 3) (i := 3) 3 (by decide +kernel) rfl rfl ?_
  refine Fr_iadd (by decide +kernel) ?_
  refine Fr_aload_n (q := 0) (i := 0) 0 (by decide +kernel) rfl rfl ?_
  refine gf_X8_31 rfl (by decide +kernel) ob_82 ?_
  refine Fr_icmp_ge (off := 42) 54 (by decide +kernel) (by decide) (fun hc => ?_) (fun hc => ?_)
  · have h := iT hc h
    refine Fr_iconst (i := 1) (v := 1) (by decide +kernel) (by decide) ?_
    obtain rfl := Option.some.inj h
    exact Fr_zret (by decide +kernel) rfl (by decide) ⟨rfl, rfl⟩
  · have h := iF hc h
    refine Fr_iload_n (q := 2) (i := 2) 2 (by decide +kernel) rfl rfl ?_
    refine Fr_iload_n (q := 3) (i := 3) 3 (by decide +kernel) rfl rfl ?_
    refine Fr_iadd (by decide +kernel) ?_
    refine Fr_aload_n (q := 1) (i := 1) 1 (by decide +kernel) rfl rfl ?_
    obtain ⟨r_3, M_1, hc_2, h⟩ := bi_elim h
    refine Fr_cTi (ν := m_J0_length_8abf5) (As := []) (st := [.int (v2 + v3)]) (d' := 2) (by decide +kernel) ml_X8_46 cv_J0_length_8abf5 rfl hz1 rfl (by decide) (Nat.le_of_ble_eq_true rfl) (t_J0_length_8abf5 hz1 hc_2) ?_
    refine Fr_icmp_ge (off := 24) 46 (by decide +kernel) (by decide) (fun hc => ?_) (fun hc => ?_)
    · have h := iT hc h
      refine Fr_iconst (i := 0) (v := 0) (by decide +kernel) (by decide) ?_
      obtain rfl := Option.some.inj h
      exact Fr_zret (by decide +kernel) rfl (by decide) ⟨rfl, rfl⟩
    · have h := iF hc h
      refine Fr_aload_n (q := 1) (i := 1) 1 (by decide +kernel) rfl rfl ?_
      refine Fr_iload_n (q := 2) (i := 2) 2 (by decide +kernel) rfl rfl ?_
      refine Fr_iload_n (q := 3) (i := 3) 3 (by decide +kernel) rfl rfl ?_
      refine Fr_iadd (by decide +kernel) ?_
      obtain ⟨r_6, M_4, hc_5, h⟩ := bi_elim h
      refine Fr_cTi (ν := m_J0_charAt_5068e) (As := [.int (v2 + v3)]) (st := []) (d' := 5) (by decide +kernel) ml_X8_55 cv_J0_charAt_5068e rfl hz1 rfl (by decide) (Nat.le_of_ble_eq_true rfl) (t_J0_charAt_5068e hz1 hc_5) ?_
      refine Fr_aload_n (q := 0) (i := 0) 0 (by decide +kernel) rfl rfl ?_
      refine gf_X8_9 rfl (by decide +kernel) ob_82 ?_
      refine Fr_aload_n (q := 0) (i := 0) 0 (by decide +kernel) rfl rfl ?_
      refine gf_X8_40 rfl (by decide +kernel) ob_82 ?_
      refine Fr_iload_n (q := 3) (i := 3) 3 (by decide +kernel) rfl rfl ?_
      refine Fr_iadd (by decide +kernel) ?_
      obtain ⟨hi_7, h⟩ := ck_elim h
      refine Fr_bald (by decide +kernel) ob_1 (vp_of ln_1 hi_7) ?_
      refine Fr_icmp_eq (off := 5) 48 (by decide +kernel) (by decide) (fun hc => ?_) (fun hc => ?_)
      · have h := iT hc h
        refine Fr_iinc (i := 3) (j := 1) (v := (v3 + 1)) (lv' := [(3, .int (v3 + 1)), (0, .ref 82), (1, .ref (400 + z1)), (2, .int v2)]) 3 (by decide +kernel) rfl rfl (by decide) rfl ?_
        refine Fr_goto (off := (-49)) 2 (by decide +kernel) (by decide) ?_
        refine Fr_loc [1, 2, 3, 0] rfl ?_
        exact hk2 (v2, (v3 + 1)) M_4 h
      · have h := iF hc h
        refine Fr_iconst (i := 0) (v := 0) (by decide +kernel) (by decide) ?_
        obtain rfl := Option.some.inj h
        exact Fr_zret (by decide +kernel) rfl (by decide) ⟨rfl, rfl⟩
def f_X8_isSameAt (N : Nat) (z1 : Nat) (x2 : Int32) (M : Mem) : Option (Bool × Mem) :=
  lp (fun k a m => f_X8_isSameAt_h2 N z1 k a.1 a.2 m) N (x2, 0) M
set_option maxRecDepth 20000 in
theorem t_X8_isSameAt {N : Nat} {z1 : Nat} {x2 : Int32} (hz1 : z1 < 32) {M : Mem} {q : Bool × Mem} (h : f_X8_isSameAt N z1 x2 M = some q) : Ev 0 111 6 m_X8_isSameAt [.ref 82, .ref (400 + z1), .int x2] M (QB q) := by
  refine Ev_of_Fr (by decide +kernel) (Nat.le_of_ble_eq_true rfl) ?_
  show Fr 0 111 6 m_X8_isSameAt 0 [(0, .ref 82), (1, .ref (400 + z1)), (2, .int x2)] [] M (QB q)
  unfold f_X8_isSameAt at h
  refine Fr_iconst (i := 0) (v := 0) (by decide +kernel) (by decide) ?_
  refine Fr_istore_n (q := 3) (i := 3) (lv' := [(3, .int 0), (0, .ref 82), (1, .ref (400 + z1)), (2, .int x2)]) (by decide +kernel) rfl (by decide) rfl ?_
  refine Fr_loc [1, 2, 3, 0] rfl ?_
  exact lp_sound (P := fun a M => Fr 0 111 6 m_X8_isSameAt 2 [(0, .ref 82), (1, .ref (400 + z1)), (2, .int a.1), (3, .int a.2)] [] M (QB q)) (fun k hk a m h => t_X8_isSameAt_h2 hz1 hk h) N (x2, 0) M h
def f_X8_isWord (N : Nat) (z1 : Nat) (M : Mem) : Option (Bool × Mem) :=
  if (M.1 82 2) = 1 then (bi (f_J0_length_8abf5 z1 M) fun r_3 M_1 =>
  if ((M.1 82 4) - (M.1 82 3)) = r_3 then (bi (f_X8_isSameAt N z1 0 M_1) fun r_6 M_4 =>
  if (b2i r_6) = 0 then (some (false, M_4)) else (some (true, M_4))) else (some (false, M_1))) else (some (false, M))
set_option maxRecDepth 20000 in
theorem t_X8_isWord {N : Nat} {z1 : Nat} (hz1 : z1 < 32) {M : Mem} {q : Bool × Mem} (h : f_X8_isWord N z1 M = some q) : Ev 0 111 7 m_X8_isWord [.ref 82, .ref (400 + z1)] M (QB q) := by
  refine Ev_of_Fr (by decide +kernel) (Nat.le_of_ble_eq_true rfl) ?_
  show Fr 0 111 7 m_X8_isWord 0 [(0, .ref 82), (1, .ref (400 + z1))] [] M (QB q)
  unfold f_X8_isWord at h
  refine Fr_aload_n (q := 0) (i := 0) 0 (by decide +kernel) rfl rfl ?_
  refine gf_X8_37 rfl (by decide +kernel) ob_82 ?_
  refine Fr_iconst (i := 1) (v := 1) (by decide +kernel) (by decide) ?_
  refine Fr_icmp_ne (off := 32) 37 (by decide +kernel) (by decide) (fun hc => ?_) (fun hc => ?_)
  · have h := iF hc h
    refine Fr_iconst (i := 0) (v := 0) (by decide +kernel) (by decide) ?_
    obtain rfl := Option.some.inj h
    exact Fr_zret (by decide +kernel) rfl (by decide) ⟨rfl, rfl⟩
  · have h := iT hc h
    refine Fr_aload_n (q := 0) (i := 0) 0 (by decide +kernel) rfl rfl ?_
    refine gf_X8_31 rfl (by decide +kernel) ob_82 ?_
    refine Fr_aload_n (q := 0) (i := 0) 0 (by decide +kernel) rfl rfl ?_
    refine gf_X8_40 rfl (by decide +kernel) ob_82 ?_
    refine Fr_isub (by decide +kernel) ?_
    refine Fr_aload_n (q := 1) (i := 1) 1 (by decide +kernel) rfl rfl ?_
    obtain ⟨r_3, M_1, hc_2, h⟩ := bi_elim h
    refine Fr_cTi (ν := m_J0_length_8abf5) (As := []) (st := [.int ((M.1 82 4) - (M.1 82 3))]) (d' := 2) (by decide +kernel) ml_X8_46 cv_J0_length_8abf5 rfl hz1 rfl (by decide) (Nat.le_of_ble_eq_true rfl) (t_J0_length_8abf5 hz1 hc_2) ?_
    refine Fr_icmp_ne (off := 16) 37 (by decide +kernel) (by decide) (fun hc => ?_) (fun hc => ?_)
    · have h := iF hc h
      refine Fr_iconst (i := 0) (v := 0) (by decide +kernel) (by decide) ?_
      obtain rfl := Option.some.inj h
      exact Fr_zret (by decide +kernel) rfl (by decide) ⟨rfl, rfl⟩
    · have h := iT hc h
      refine Fr_aload_n (q := 0) (i := 0) 0 (by decide +kernel) rfl rfl ?_
      refine Fr_aload_n (q := 1) (i := 1) 1 (by decide +kernel) rfl rfl ?_
      refine Fr_iconst (i := 0) (v := 0) (by decide +kernel) (by decide) ?_
      obtain ⟨r_6, M_4, hc_5, h⟩ := bi_elim h
      refine Fr_cVb (ν := m_X8_isSameAt) (As := [.ref (400 + z1), .int 0]) (st := []) (rc := 82) (ci := 8) (d' := 6) (by decide +kernel) ml_X8_51 cv_X8_isSameAt rfl (by decide) rfl ob_82 rfl (by decide) (Nat.le_of_ble_eq_true rfl) (t_X8_isSameAt hz1 hc_5) ?_
      refine Fr_if_eq (off := 7) 37 (by decide +kernel) (by decide) (fun hc => ?_) (fun hc => ?_)
      · have h := iT hc h
        refine Fr_iconst (i := 0) (v := 0) (by decide +kernel) (by decide) ?_
        obtain rfl := Option.some.inj h
        exact Fr_zret (by decide +kernel) rfl (by decide) ⟨rfl, rfl⟩
      · have h := iF hc h
        refine Fr_iconst (i := 1) (v := 1) (by decide +kernel) (by decide) ?_
        refine Fr_goto (off := 4) 38 (by decide +kernel) (by decide) ?_
        obtain rfl := Option.some.inj h
        exact Fr_zret (by decide +kernel) rfl (by decide) ⟨rfl, rfl⟩
def f_X8_refuse (x1 : Int32) (M : Mem) : Option (Bool × Mem) :=
  if (M.1 82 6) = 0 then (if (M.1 82 2) = 4 then (bM (uI M 82 6 1) fun M_3 =>
  bM (uI M_3 82 7 (M_3.1 82 3)) fun M_4 =>
  some (false, M_4)) else (bM (uI M 82 6 x1) fun M_1 =>
  bM (uI M_1 82 7 (M_1.1 82 3)) fun M_2 =>
  some (false, M_2))) else (some (false, M))
set_option maxRecDepth 20000 in
theorem t_X8_refuse {x1 : Int32} {M : Mem} {q : Bool × Mem} (h : f_X8_refuse x1 M = some q) : Ev 0 111 0 m_X8_refuse [.ref 82, .int x1] M (QB q) := by
  refine Ev_of_Fr (by decide +kernel) (Nat.le_of_ble_eq_true rfl) ?_
  show Fr 0 111 0 m_X8_refuse 0 [(0, .ref 82), (1, .int x1)] [] M (QB q)
  unfold f_X8_refuse at h
  refine Fr_aload_n (q := 0) (i := 0) 0 (by decide +kernel) rfl rfl ?_
  refine gf_X8_15 rfl (by decide +kernel) ob_82 ?_
  refine Fr_if_ne (off := 28) 32 (by decide +kernel) (by decide) (fun hc => ?_) (fun hc => ?_)
  · have h := iF hc h
    refine Fr_iconst (i := 0) (v := 0) (by decide +kernel) (by decide) ?_
    obtain rfl := Option.some.inj h
    exact Fr_zret (by decide +kernel) rfl (by decide) ⟨rfl, rfl⟩
  · have h := iT hc h
    refine Fr_aload_n (q := 0) (i := 0) 0 (by decide +kernel) rfl rfl ?_
    refine Fr_aload_n (q := 0) (i := 0) 0 (by decide +kernel) rfl rfl ?_
    refine gf_X8_37 rfl (by decide +kernel) ob_82 ?_
    refine Fr_iconst (i := 4) (v := 4) (by decide +kernel) (by decide) ?_
    refine Fr_icmp_ne (off := 7) 20 (by decide +kernel) (by decide) (fun hc => ?_) (fun hc => ?_)
    · have h := iF hc h
      refine Fr_iload_n (q := 1) (i := 1) 1 (by decide +kernel) rfl rfl ?_
      refine pf_X8_15 rfl (by decide +kernel) ob_82 ?_
      obtain ⟨M_1, eM_1, h⟩ := bM_elim h
      refine Fr_mem eM_1 ?_
      refine Fr_aload_n (q := 0) (i := 0) 0 (by decide +kernel) rfl rfl ?_
      refine Fr_aload_n (q := 0) (i := 0) 0 (by decide +kernel) rfl rfl ?_
      refine gf_X8_40 rfl (by decide +kernel) ob_82 ?_
      refine pf_X8_19 rfl (by decide +kernel) ob_82 ?_
      obtain ⟨M_2, eM_2, h⟩ := bM_elim h
      refine Fr_mem eM_2 ?_
      refine Fr_iconst (i := 0) (v := 0) (by decide +kernel) (by decide) ?_
      obtain rfl := Option.some.inj h
      exact Fr_zret (by decide +kernel) rfl (by decide) ⟨rfl, rfl⟩
    · have h := iT hc h
      refine Fr_iconst (i := 1) (v := 1) (by decide +kernel) (by decide) ?_
      refine Fr_goto (off := 4) 21 (by decide +kernel) (by decide) ?_
      refine pf_X8_15 rfl (by decide +kernel) ob_82 ?_
      obtain ⟨M_3, eM_3, h⟩ := bM_elim h
      refine Fr_mem eM_3 ?_
      refine Fr_aload_n (q := 0) (i := 0) 0 (by decide +kernel) rfl rfl ?_
      refine Fr_aload_n (q := 0) (i := 0) 0 (by decide +kernel) rfl rfl ?_
      refine gf_X8_40 rfl (by decide +kernel) ob_82 ?_
      refine pf_X8_19 rfl (by decide +kernel) ob_82 ?_
      obtain ⟨M_4, eM_4, h⟩ := bM_elim h
      refine Fr_mem eM_4 ?_
      refine Fr_iconst (i := 0) (v := 0) (by decide +kernel) (by decide) ?_
      obtain rfl := Option.some.inj h
      exact Fr_zret (by decide +kernel) rfl (by decide) ⟨rfl, rfl⟩
def f_X8_takeSemicolon (N : Nat) (M : Mem) : Option (Bool × Mem) :=
  if (M.1 82 2) = 3 then (if (M.1 82 5) = 59 then (bv (f_X8_advance N M) fun M_4 =>
  some (true, M_4)) else (bi (f_X8_refuse 2 M) fun r_8 M_6 =>
  some (r_8, M_6))) else (bi (f_X8_refuse 2 M) fun r_3 M_1 =>
  some (r_3, M_1))
set_option maxRecDepth 20000 in
theorem t_X8_takeSemicolon {N : Nat} {M : Mem} {q : Bool × Mem} (h : f_X8_takeSemicolon N M = some q) : Ev 0 111 1 m_X8_takeSemicolon [.ref 82] M (QB q) := by
  refine Ev_of_Fr (by decide +kernel) (Nat.le_of_ble_eq_true rfl) ?_
  show Fr 0 111 1 m_X8_takeSemicolon 0 [(0, .ref 82)] [] M (QB q)
  unfold f_X8_takeSemicolon at h
  refine Fr_aload_n (q := 0) (i := 0) 0 (by decide +kernel) rfl rfl ?_
  refine gf_X8_37 rfl (by decide +kernel) ob_82 ?_
  refine Fr_iconst (i := 3) (v := 3) (by decide +kernel) (by decide) ?_
  refine Fr_icmp_ne (off := 12) 17 (by decide +kernel) (by decide) (fun hc => ?_) (fun hc => ?_)
  · have h := iF hc h
    refine Fr_aload_n (q := 0) (i := 0) 0 (by decide +kernel) rfl rfl ?_
    refine Fr_iconst (i := 2) (v := 2) (by decide +kernel) (by decide) ?_
    obtain ⟨r_3, M_1, hc_2, h⟩ := bi_elim h
    refine Fr_cVb (ν := m_X8_refuse) (As := [.int 2]) (st := []) (rc := 82) (ci := 8) (d' := 0) (by decide +kernel) ml_X8_63 cv_X8_refuse rfl (by decide) rfl ob_82 rfl (by decide) (Nat.le_of_ble_eq_true rfl) (t_X8_refuse hc_2) ?_
    obtain rfl := Option.some.inj h
    exact Fr_zret (by decide +kernel) rfl (nz_b r_3) ⟨rfl, rfl⟩
  · have h := iT hc h
    refine Fr_aload_n (q := 0) (i := 0) 0 (by decide +kernel) rfl rfl ?_
    refine gf_X8_43 rfl (by decide +kernel) ob_82 ?_
    refine Fr_bipush (i := 59) (v := 59) (by decide +kernel) (by decide) ?_
    refine Fr_icmp_eq (off := 9) 23 (by decide +kernel) (by decide) (fun hc => ?_) (fun hc => ?_)
    · have h := iT hc h
      refine Fr_aload_n (q := 0) (i := 0) 0 (by decide +kernel) rfl rfl ?_
      obtain ⟨M_4, hc_5, h⟩ := bv_elim h
      refine Fr_cVv (ν := m_X8_advance) (As := []) (st := []) (rc := 82) (ci := 8) (d' := 0) (by decide +kernel) ml_X8_34 cv_X8_advance rfl (by decide) rfl ob_82 rfl (by decide) (Nat.le_of_ble_eq_true rfl) (t_X8_advance hc_5) ?_
      refine Fr_iconst (i := 1) (v := 1) (by decide +kernel) (by decide) ?_
      obtain rfl := Option.some.inj h
      exact Fr_zret (by decide +kernel) rfl (by decide) ⟨rfl, rfl⟩
    · have h := iF hc h
      refine Fr_aload_n (q := 0) (i := 0) 0 (by decide +kernel) rfl rfl ?_
      refine Fr_iconst (i := 2) (v := 2) (by decide +kernel) (by decide) ?_
      obtain ⟨r_8, M_6, hc_7, h⟩ := bi_elim h
      refine Fr_cVb (ν := m_X8_refuse) (As := [.int 2]) (st := []) (rc := 82) (ci := 8) (d' := 0) (by decide +kernel) ml_X8_63 cv_X8_refuse rfl (by decide) rfl ob_82 rfl (by decide) (Nat.le_of_ble_eq_true rfl) (t_X8_refuse hc_7) ?_
      obtain rfl := Option.some.inj h
      exact Fr_zret (by decide +kernel) rfl (nz_b r_8) ⟨rfl, rfl⟩
def f_X4_readEnd (N : Nat) (p1 : Nat) (M : Mem) : Option (Bool × Mem) :=
  if (M.1 87 3) ≤ 0 then (bi (f_X8_refuse 2 M) fun r_3 M_1 =>
  some (r_3, M_1)) else (bi (f_X3_isFull p1 M) fun r_6 M_4 =>
  if (b2i r_6) = 0 then (bv (f_X8_advance N M_4) fun M_7 =>
  bM (uI M_7 87 3 ((M_7.1 87 3) - 1)) fun M_9 =>
  ck (M_9.1 p1 1) 60 (
  bM (uI M_9 (p1 + 1) (tn (M_9.1 p1 1)) 11) fun M_11 =>
  ck (M_11.1 87 3) 3 (
  ck (M_9.1 p1 1) 60 (
  bM (uI M_11 (p1 + 5) (tn (M_9.1 p1 1)) (M_11.1 88 (tn (M_11.1 87 3)))) fun M_14 =>
  ck (M_14.1 87 3) 3 (
  ck (M_14.1 88 (tn (M_14.1 87 3))) 60 (
  bM (uI M_14 (p1 + 5) (tn (M_14.1 88 (tn (M_14.1 87 3)))) (M_9.1 p1 1)) fun M_17 =>
  bM (uI M_17 p1 1 ((M_17.1 p1 1) + 1)) fun M_18 =>
  bi (f_X8_takeSemicolon N M_18) fun r_21 M_19 =>
  some (r_21, M_19))))))) else (bi (f_X8_refuse 2 M_4) fun r_24 M_22 =>
  some (r_24, M_22)))
set_option maxRecDepth 20000 in
theorem t_X4_readEnd {N : Nat} {p1 : Nat} (hp1 : Ob 0 111 p1 3) {M : Mem} {q : Bool × Mem} (h : f_X4_readEnd N p1 M = some q) : Ev 0 111 2 m_X4_readEnd [.ref 87, .ref p1] M (QB q) := by
  refine Ev_of_Fr (by decide +kernel) (Nat.le_of_ble_eq_true rfl) ?_
  show Fr 0 111 2 m_X4_readEnd 0 [(0, .ref 87), (1, .ref p1)] [] M (QB q)
  unfold f_X4_readEnd at h
  refine Fr_aload_n (q := 0) (i := 0) 0 (by decide +kernel) rfl rfl ?_
  refine gf_X4_31 rfl (by decide +kernel) ob_87 ?_
  refine Fr_if_le (off := 10) 14 (by decide +kernel) (by decide) (fun hc => ?_) (fun hc => ?_)
  · have h := iT hc h
    refine Fr_aload_n (q := 0) (i := 0) 0 (by decide +kernel) rfl rfl ?_
    refine gf_X4_18 rfl (by decide +kernel) ob_87 ?_
    refine Fr_iconst (i := 2) (v := 2) (by decide +kernel) (by decide) ?_
    obtain ⟨r_3, M_1, hc_2, h⟩ := bi_elim h
    refine Fr_cVb (ν := m_X8_refuse) (As := [.int 2]) (st := []) (rc := 82) (ci := 8) (d' := 0) (by decide +kernel) ml_X4_59 cv_X8_refuse rfl (by decide) rfl ob_82 rfl (by decide) (Nat.le_of_ble_eq_true rfl) (t_X8_refuse hc_2) ?_
    obtain rfl := Option.some.inj h
    exact Fr_zret (by decide +kernel) rfl (nz_b r_3) ⟨rfl, rfl⟩
  · have h := iF hc h
    refine Fr_aload_n (q := 1) (i := 1) 1 (by decide +kernel) rfl rfl ?_
    obtain ⟨r_6, M_4, hc_5, h⟩ := bi_elim h
    refine Fr_cVb (ν := m_X3_isFull) (As := []) (st := []) (rc := p1) (ci := 3) (d' := 0) (by decide +kernel) ml_X4_66 cv_X3_isFull rfl (by decide) rfl hp1 rfl (by decide) (Nat.le_of_ble_eq_true rfl) (t_X3_isFull hp1 hc_5) ?_
    refine Fr_if_eq (off := 12) 23 (by decide +kernel) (by decide) (fun hc => ?_) (fun hc => ?_)
    · have h := iT hc h
      refine Fr_aload_n (q := 0) (i := 0) 0 (by decide +kernel) rfl rfl ?_
      refine gf_X4_18 rfl (by decide +kernel) ob_87 ?_
      obtain ⟨M_7, hc_8, h⟩ := bv_elim h
      refine Fr_cVv (ν := m_X8_advance) (As := []) (st := []) (rc := 82) (ci := 8) (d' := 0) (by decide +kernel) ml_X4_69 cv_X8_advance rfl (by decide) rfl ob_82 rfl (by decide) (Nat.le_of_ble_eq_true rfl) (t_X8_advance hc_8) ?_
      refine Fr_aload_n (q := 0) (i := 0) 0 (by decide +kernel) rfl rfl ?_
      refine Fr_dup (by decide +kernel) rfl ?_
      refine gf_X4_31 rfl (by decide +kernel) ob_87 ?_
      refine Fr_iconst (i := 1) (v := 1) (by decide +kernel) (by decide) ?_
      refine Fr_isub (by decide +kernel) ?_
      refine pf_X4_31 rfl (by decide +kernel) ob_87 ?_
      obtain ⟨M_9, eM_9, h⟩ := bM_elim h
      refine Fr_mem eM_9 ?_
      refine Fr_aload_n (q := 1) (i := 1) 1 (by decide +kernel) rfl rfl ?_
      refine gf_X4_72 rfl (by decide +kernel) hp1 ?_
      refine Fr_istore_n (q := 2) (i := 2) (lv' := [(2, .int (M_9.1 p1 1)), (0, .ref 87), (1, .ref p1)]) (by decide +kernel) rfl (by decide) rfl ?_
      refine Fr_aload_n (q := 1) (i := 1) 2 (by decide +kernel) rfl rfl ?_
      refine gf_X4_75 rfl (by decide +kernel) hp1 ?_
      refine Fr_iload_n (q := 2) (i := 2) 0 (by decide +kernel) rfl rfl ?_
      refine Fr_bipush (i := 11) (v := 11) (by decide +kernel) (by decide) ?_
      obtain ⟨hi_10, h⟩ := ck_elim h
      refine Fr_iast (by decide +kernel) (o3_1 hp1) (vp_of (n3_1 hp1) hi_10) ?_
      obtain ⟨M_11, eM_11, h⟩ := bM_elim h
      refine Fr_mem eM_11 ?_
      refine Fr_aload_n (q := 1) (i := 1) 2 (by decide +kernel) rfl rfl ?_
      refine gf_X4_78 rfl (by decide +kernel) hp1 ?_
      refine Fr_iload_n (q := 2) (i := 2) 0 (by decide +kernel) rfl rfl ?_
      refine Fr_aload_n (q := 0) (i := 0) 1 (by decide +kernel) rfl rfl ?_
      refine gf_X4_11 rfl (by decide +kernel) ob_87 ?_
      refine Fr_aload_n (q := 0) (i := 0) 1 (by decide +kernel) rfl rfl ?_
      refine gf_X4_31 rfl (by decide +kernel) ob_87 ?_
      obtain ⟨hi_12, h⟩ := ck_elim h
      refine Fr_iald (by decide +kernel) ob_88 (vp_of ln_88 hi_12) ?_
      obtain ⟨hi_13, h⟩ := ck_elim h
      refine Fr_iast (by decide +kernel) (o3_5 hp1) (vp_of (n3_5 hp1) hi_13) ?_
      obtain ⟨M_14, eM_14, h⟩ := bM_elim h
      refine Fr_mem eM_14 ?_
      refine Fr_aload_n (q := 1) (i := 1) 2 (by decide +kernel) rfl rfl ?_
      refine gf_X4_78 rfl (by decide +kernel) hp1 ?_
      refine Fr_aload_n (q := 0) (i := 0) 1 (by decide +kernel) rfl rfl ?_
      refine gf_X4_11 rfl (by decide +kernel) ob_87 ?_
      refine Fr_aload_n (q := 0) (i := 0) 1 (by decide +kernel) rfl rfl ?_
      refine gf_X4_31 rfl (by decide +kernel) ob_87 ?_
      obtain ⟨hi_15, h⟩ := ck_elim h
      refine Fr_iald (by decide +kernel) ob_88 (vp_of ln_88 hi_15) ?_
      refine Fr_iload_n (q := 2) (i := 2) 0 (by decide +kernel) rfl rfl ?_
      obtain ⟨hi_16, h⟩ := ck_elim h
      refine Fr_iast (by decide +kernel) (o3_5 hp1) (vp_of (n3_5 hp1) hi_16) ?_
      obtain ⟨M_17, eM_17, h⟩ := bM_elim h
      refine Fr_mem eM_17 ?_
      refine Fr_aload_n (q := 1) (i := 1) 2 (by decide +kernel) rfl rfl ?_
      refine Fr_dup (by decide +kernel) rfl ?_
      refine gf_X4_72 rfl (by decide +kernel) hp1 ?_
      refine Fr_iconst (i := 1) (v := 1) (by decide +kernel) (by decide) ?_
      refine Fr_iadd (by decide +kernel) ?_
      refine pf_X4_72 rfl (by decide +kernel) hp1 ?_
      obtain ⟨M_18, eM_18, h⟩ := bM_elim h
      refine Fr_mem eM_18 ?_
      refine Fr_aload_n (q := 0) (i := 0) 1 (by decide +kernel) rfl rfl ?_
      refine gf_X4_18 rfl (by decide +kernel) ob_87 ?_
      obtain ⟨r_21, M_19, hc_20, h⟩ := bi_elim h
      refine Fr_cVb (ν := m_X8_takeSemicolon) (As := []) (st := []) (rc := 82) (ci := 8) (d' := 1) (by decide +kernel) ml_X4_81 cv_X8_takeSemicolon rfl (by decide) rfl ob_82 rfl (by decide) (Nat.le_of_ble_eq_true rfl) (t_X8_takeSemicolon hc_20) ?_
      obtain rfl := Option.some.inj h
      exact Fr_zret (by decide +kernel) rfl (nz_b r_21) ⟨rfl, rfl⟩
    · have h := iF hc h
      refine Fr_aload_n (q := 0) (i := 0) 0 (by decide +kernel) rfl rfl ?_
      refine gf_X4_18 rfl (by decide +kernel) ob_87 ?_
      refine Fr_iconst (i := 2) (v := 2) (by decide +kernel) (by decide) ?_
      obtain ⟨r_24, M_22, hc_23, h⟩ := bi_elim h
      refine Fr_cVb (ν := m_X8_refuse) (As := [.int 2]) (st := []) (rc := 82) (ci := 8) (d' := 0) (by decide +kernel) ml_X4_59 cv_X8_refuse rfl (by decide) rfl ob_82 rfl (by decide) (Nat.le_of_ble_eq_true rfl) (t_X8_refuse hc_23) ?_
      obtain rfl := Option.some.inj h
      exact Fr_zret (by decide +kernel) rfl (nz_b r_24) ⟨rfl, rfl⟩
