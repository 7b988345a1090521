def f_X10_passHours_b70 (N : Nat) (p1 : Nat) (k11 : Int32 × Int32 × Int32 × Int32 × Int32 → Mem → Option (Int32 × Mem)) (v2 : Int32) (v3 : Int32) (v4 : Int32) (v5 : Int32) (v6 : Int32) (M : Mem) : Option (Int32 × Mem) :=
  k11 (v2, (v3 + v4), v4, v5, (v6 + 1)) M
set_option maxRecDepth 20000 in
theorem t_X10_passHours_b70 {N : Nat} {p1 : Nat} (hp1 : Ob 0 111 p1 5) {q : Int32 × Mem} {k11 : Int32 × Int32 × Int32 × Int32 × Int32 → Mem → Option (Int32 × Mem)} (hk11 : ∀ (a : Int32 × Int32 × Int32 × Int32 × Int32) (M : Mem), k11 a M = some q → Fr 0 111 3 m_X10_passHours 11 [(0, .ref 90), (1, .ref p1), (2, .int a.1), (3, .int a.2.1), (4, .int a.2.2.1), (5, .int a.2.2.2.1), (6, .int a.2.2.2.2)] [] M (QI q)) {v2 : Int32} {v3 : Int32} {v4 : Int32} {v5 : Int32} {v6 : Int32} {M : Mem} (h : f_X10_passHours_b70 N p1 k11 v2 v3 v4 v5 v6 M = some q) : Fr 0 111 3 m_X10_passHours 70 [(0, .ref 90), (1, .ref p1), (2, .int v2), (3, .int v3), (4, .int v4), (5, .int v5), (6, .int v6)] [] M (QI q) := by
  unfold f_X10_passHours_b70 at h
  refine Fr_iload_n (q := 3) (i := 3) 3 (by decide +kernel) rfl rfl ?_
  refine Fr_iload (i := 4) 4 (by decide +kernel) rfl ?_
  refine Fr_iadd (by decide +kernel) ?_
  refine Fr_istore_n (q := 3) (i := 3) (lv' := [(3, .int (v3 + v4)), (0, .ref 90), (1, .ref p1), (2, .int v2), (4, .int v4), (5, .int v5), (6, .int v6)]) (by decide +kernel) rfl (by decide) rfl ?_
  refine Fr_iinc (i := 6) (j := 1) (v := (v6 + 1)) (lv' := [(6, .int (v6 + 1)), (3, .int (v3 + v4)), (0, .ref 90), (1, .ref p1), (2, .int v2), (4, .int v4), (5, .int v5)]) 6 (by decide +kernel) rfl rfl (by decide) rfl ?_
  refine Fr_goto (off := (-67)) 11 (by decide +kernel) (by decide) ?_
  refine Fr_loc [2, 3, 4, 1, 5, 6, 0] rfl ?_
  exact hk11 (v2, (v3 + v4), v4, v5, (v6 + 1)) M h
def f_X10_passHours_h11 (N : Nat) (p1 : Nat) (k11 : Int32 × Int32 × Int32 × Int32 × Int32 → Mem → Option (Int32 × Mem)) (v2 : Int32) (v3 : Int32) (v4 : Int32) (v5 : Int32) (v6 : Int32) (M : Mem) : Option (Int32 × Mem) :=
  if v2 ≤ v6 then (bM (uI M p1 5 ((M.1 p1 5) + v2)) fun M_1 =>
  some (v3, M_1)) else (if v5 = 0 then (bM (rI M 92 (va_cpy (M.1 (p1 + 6)) (M.1 92) (tn 0) (tn 0) (tn 60))) fun M_2 =>
  bv (f_X10_passHour N p1 (p1 + 6) (M_2.1 p1 6) M_2) fun M_3 =>
  bi (f_X5_countFoggy N p1 (p1 + 6) M_3) fun r_7 M_5 =>
  bi (f_X10_isAsAhead N (p1 + 6) M_5) fun r_10 M_8 =>
  f_X10_passHours_b70 N p1 k11 v2 v3 r_7 (b2i r_10) v6 M_8) else (f_X10_passHours_b70 N p1 k11 v2 v3 v4 v5 v6 M))
set_option maxRecDepth 20000 in
theorem t_X10_passHours_h11 {N : Nat} {p1 : Nat} (hp1 : Ob 0 111 p1 5) {q : Int32 × Mem} {k11 : Int32 × Int32 × Int32 × Int32 × Int32 → Mem → Option (Int32 × Mem)} (hk11 : ∀ (a : Int32 × Int32 × Int32 × Int32 × Int32) (M : Mem), k11 a M = some q → Fr 0 111 3 m_X10_passHours 11 [(0, .ref 90), (1, .ref p1), (2, .int a.1), (3, .int a.2.1), (4, .int a.2.2.1), (5, .int a.2.2.2.1), (6, .int a.2.2.2.2)] [] M (QI q)) {v2 : Int32} {v3 : Int32} {v4 : Int32} {v5 : Int32} {v6 : Int32} {M : Mem} (h : f_X10_passHours_h11 N p1 k11 v2 v3 v4 v5 v6 M = some q) : Fr 0 111 3 m_X10_passHours 11 [(0, .ref 90), (1, .ref p1), (2, .int v2), (3, .int v3), (4, .int v4), (5, .int v5), (6, .int v6)] [] M (QI q) := by
  unfold f_X10_passHours_h11 at h
  refine Fr_iload (i := 6) 6 (by decide +kernel) rfl ?_
  refine Fr_iload_n (q := 2) (i := 2) 2 (by decide +kernel) rfl rfl ?_
  refine Fr_icmp_ge (off := 67) 81 (by decide +kernel) (by decide) (fun hc => ?_) (fun hc => ?_)
  · have h := iT hc h
    refine Fr_aload_n (q := 1) (i := 1) 1 (by decide +kernel) rfl rfl ?_
    refine Fr_dup (by decide +kernel) rfl ?_
    refine gf_X10_45 rfl (by decide +kernel) hp1 ?_
    refine Fr_iload_n (q := 2) (i := 2) 2 (by decide +kernel) rfl rfl ?_
    refine Fr_iadd (by decide +kernel) ?_
    refine pf_X10_45 rfl (by decide +kernel) hp1 ?_
    obtain ⟨M_1, eM_1, h⟩ := bM_elim h
    refine Fr_mem eM_1 ?_
    refine Fr_iload_n (q := 3) (i := 3) 3 (by decide +kernel) rfl rfl ?_
    obtain rfl := Option.some.inj h
    exact Fr_iret (by decide +kernel) rfl ⟨rfl, rfl⟩
  · have h := iF hc h
    refine Fr_iload (i := 5) 5 (by decide +kernel) rfl ?_
    refine Fr_if_ne (off := 51) 70 (by decide +kernel) (by decide) (fun hc => ?_) (fun hc => ?_)
    · have h := iF hc h
      exact t_X10_passHours_b70 hp1 hk11 h
    · have h := iT hc h
      refine Fr_aload_n (q := 1) (i := 1) 1 (by decide +kernel) rfl rfl ?_
      refine gf_X10_18 rfl (by decide +kernel) hp1 ?_
      refine Fr_iconst (i := 0) (v := 0) (by decide +kernel) (by decide) ?_
      refine Fr_aload_n (q := 0) (i := 0) 0 (by decide +kernel) rfl rfl ?_
      refine gf_X10_15 rfl (by decide +kernel) ob_90 ?_
      refine Fr_iconst (i := 0) (v := 0) (by decide +kernel) (by decide) ?_
      refine Fr_bipush (i := 60) (v := 60) (by decide +kernel) (by decide) ?_
      refine Fr_acopyI (by decide +kernel) ml_X10_23 (o5_6 hp1) ob_92 (by decide) (by decide) (by decide) (le_len (n5_6 hp1) (by decide)) (le_len ln_92 (by decide)) (by decide) (Nat.le_of_ble_eq_true rfl) ?_
      obtain ⟨M_2, eM_2, h⟩ := bM_elim h
      refine Fr_mem eM_2 ?_
      refine Fr_aload_n (q := 0) (i := 0) 0 (by decide +kernel) rfl rfl ?_
      refine Fr_aload_n (q := 1) (i := 1) 1 (by decide +kernel) rfl rfl ?_
      refine Fr_aload_n (q := 1) (i := 1) 1 (by decide +kernel) rfl rfl ?_
      refine gf_X10_18 rfl (by decide +kernel) hp1 ?_
      refine Fr_aload_n (q := 1) (i := 1) 1 (by decide +kernel) rfl rfl ?_
      refine gf_X10_29 rfl (by decide +kernel) hp1 ?_
      obtain ⟨M_3, hc_4, h⟩ := bv_elim h
      refine Fr_cVv (ν := m_X10_passHour) (As := [.ref p1, .ref (p1 + 6), .int (M_2.1 p1 6)]) (st := []) (rc := 90) (ci := 10) (d' := 2) (by decide +kernel) ml_X10_33 cv_X10_passHour rfl (by decide) rfl ob_90 rfl (by decide) (Nat.le_of_ble_eq_true rfl) (t_X10_passHour hp1 (o5_6 hp1) hc_4) ?_
      refine Fr_aload_n (q := 1) (i := 1) 1 (by decide +kernel) rfl rfl ?_
      refine Fr_aload_n (q := 1) (i := 1) 1 (by decide +kernel) rfl rfl ?_
      refine gf_X10_18 rfl (by decide +kernel) hp1 ?_
      obtain ⟨r_7, M_5, hc_6, h⟩ := bi_elim h
      refine Fr_cVi (ν := m_X5_countFoggy) (As := [.ref (p1 + 6)]) (st := []) (rc := p1) (ci := 5) (d' := 1) (by decide +kernel) ml_X10_37 cv_X5_countFoggy rfl (by decide) rfl hp1 rfl (by decide) (Nat.le_of_ble_eq_true rfl) (t_X5_countFoggy hp1 (o5_6 hp1) hc_6) ?_
      refine Fr_istore (i := 4) (lv' := [(4, .int r_7), (0, .ref 90), (1, .ref p1), (2, .int v2), (3, .int v3), (5, .int v5), (6, .int v6)]) (by decide +kernel) (by decide) rfl ?_
      refine Fr_aload_n (q := 0) (i := 0) 1 (by decide +kernel) rfl rfl ?_
      refine Fr_aload_n (q := 1) (i := 1) 2 (by decide +kernel) rfl rfl ?_
      refine gf_X10_18 rfl (by decide +kernel) hp1 ?_
      obtain ⟨r_10, M_8, hc_9, h⟩ := bi_elim h
      refine Fr_cVb (ν := m_X10_isAsAhead) (As := [.ref (p1 + 6)]) (st := []) (rc := 90) (ci := 10) (d' := 0) (by decide +kernel) ml_X10_41 cv_X10_isAsAhead rfl (by decide) rfl ob_90 rfl (by decide) (Nat.le_of_ble_eq_true rfl) (t_X10_isAsAhead (o5_6 hp1) hc_9) ?_
      refine Fr_istore (i := 5) (lv' := [(5, .int (b2i r_10)), (4, .int r_7), (0, .ref 90), (1, .ref p1), (2, .int v2), (3, .int v3), (6, .int v6)]) (by decide +kernel) (by decide) rfl ?_
      refine Fr_loc [2, 3, 4, 5, 1, 0, 6] rfl ?_
      exact t_X10_passHours_b70 hp1 hk11 h
def f_X10_passHours (N : Nat) (p1 : Nat) (x2 : Int32) (M : Mem) : Option (Int32 × Mem) :=
  lp (fun k a m => f_X10_passHours_h11 N p1 k a.1 a.2.1 a.2.2.1 a.2.2.2.1 a.2.2.2.2 m) N (x2, 0, 0, 0, 0) M
set_option maxRecDepth 20000 in
theorem t_X10_passHours {N : Nat} {p1 : Nat} {x2 : Int32} (hp1 : Ob 0 111 p1 5) {M : Mem} {q : Int32 × Mem} (h : f_X10_passHours N p1 x2 M = some q) : Ev 0 111 3 m_X10_passHours [.ref 90, .ref p1, .int x2] M (QI q) := by
  refine Ev_of_Fr (by decide +kernel) (Nat.le_of_ble_eq_true rfl) ?_
  show Fr 0 111 3 m_X10_passHours 0 [(0, .ref 90), (1, .ref p1), (2, .int x2)] [] M (QI q)
  unfold f_X10_passHours at h
  refine Fr_iconst (i := 0) (v := 0) (by decide +kernel) (by decide) ?_
  refine Fr_istore_n (q := 3) (i := 3) (lv' := [(3, .int 0), (0, .ref 90), (1, .ref p1), (2, .int x2)]) (by decide +kernel) rfl (by decide) rfl ?_
  refine Fr_iconst (i := 0) (v := 0) (by decide +kernel) (by decide) ?_
  refine Fr_istore (i := 4) (lv' := [(4, .int 0), (3, .int 0), (0, .ref 90), (1, .ref p1), (2, .int x2)]) (by decide +kernel) (by decide) rfl ?_
  refine Fr_iconst (i := 0) (v := 0) (by decide +kernel) (by decide) ?_
  refine Fr_istore (i := 5) (lv' := [(5, .int 0), (4, .int 0), (3, .int 0), (0, .ref 90), (1, .ref p1), (2, .int x2)]) (by decide +kernel) (by decide) rfl ?_
  refine Fr_iconst (i := 0) (v := 0) (by decide +kernel) (by decide) ?_
  refine Fr_istore (i := 6) (lv' := [(6, .int 0), (5, .int 0), (4, .int 0), (3, .int 0), (0, .ref 90), (1, .ref p1), (2, .int x2)]) (by decide +kernel) (by decide) rfl ?_
  refine Fr_loc [4, 5, 6, 3, 2, 1, 0] rfl ?_
  exact lp_sound (P := fun a M => Fr 0 111 3 m_X10_passHours 11 [(0, .ref 90), (1, .ref p1), (2, .int a.1), (3, .int a.2.1), (4, .int a.2.2.1), (5, .int a.2.2.2.1), (6, .int a.2.2.2.2)] [] M (QI q)) (fun k hk a m h => t_X10_passHours_h11 hp1 hk h) N (x2, 0, 0, 0, 0) M h
def f_X2_letPass (N : Nat) (p0 : Nat) (p1 : Nat) (x2 : Int32) (M : Mem) : Option (Mem) :=
  if ((M.1 p1 5) + x2) ≤ 9999 then (bi (f_X10_passHours N p1 x2 M) fun r_3 M_1 =>
  bM (uI M_1 p0 7 ((M.1 p0 7) + r_3)) fun M_4 =>
  bM (uI M_4 p0 6 ((M_4.1 p0 6) + x2)) fun M_5 =>
  some M_5) else (bM (uI M p0 5 ((M.1 p0 5) + 1)) fun M_6 =>
  some M_6)
set_option maxRecDepth 20000 in
theorem t_X2_letPass {N : Nat} {p0 : Nat} {p1 : Nat} {x2 : Int32} (hp0 : Ob 0 111 p0 2) (hp1 : Ob 0 111 p1 5) {M : Mem} {q : Mem} (h : f_X2_letPass N p0 p1 x2 M = some q) : Ev 0 111 4 m_X2_letPass [.ref p0, .ref p1, .int x2] M (QV q) := by
  refine Ev_of_Fr (by decide +kernel) (Nat.le_of_ble_eq_true rfl) ?_
  show Fr 0 111 4 m_X2_letPass 0 [(0, .ref p0), (1, .ref p1), (2, .int x2)] [] M (QV q)
  unfold f_X2_letPass at h
  refine Fr_aload_n (q := 1) (i := 1) 1 (by decide +kernel) rfl rfl ?_
  refine gf_X2_93 rfl (by decide +kernel) hp1 ?_
  refine Fr_iload_n (q := 2) (i := 2) 2 (by decide +kernel) rfl rfl ?_
  refine Fr_iadd (by decide +kernel) ?_
  refine Fr_sipush (i := 9999) (v := 9999) (by decide +kernel) (by decide) ?_
  refine Fr_icmp_le (off := 14) 23 (by decide +kernel) (by decide) (fun hc => ?_) (fun hc => ?_)
  · have h := iT hc h
    refine Fr_aload_n (q := 0) (i := 0) 0 (by decide +kernel) rfl rfl ?_
    refine Fr_dup (by decide +kernel) rfl ?_
    refine gf_X2_28 rfl (by decide +kernel) hp0 ?_
    refine Fr_aload_n (q := 0) (i := 0) 0 (by decide +kernel) rfl rfl ?_
    refine gf_X2_17 rfl (by decide +kernel) hp0 ?_
    refine Fr_aload_n (q := 1) (i := 1) 1 (by decide +kernel) rfl rfl ?_
    refine Fr_iload_n (q := 2) (i := 2) 2 (by decide +kernel) rfl rfl ?_
    obtain ⟨r_3, M_1, hc_2, h⟩ := bi_elim h
    refine Fr_cVi (ν := m_X10_passHours) (As := [.ref p1, .int x2]) (st := [.int (M.1 p0 7), .ref p0]) (rc := 90) (ci := 10) (d' := 3) (by decide +kernel) ml_X2_96 cv_X10_passHours rfl (by decide) rfl ob_90 rfl (by decide) (Nat.le_of_ble_eq_true rfl) (t_X10_passHours hp1 hc_2) ?_
    refine Fr_iadd (by decide +kernel) ?_
    refine pf_X2_28 rfl (by decide +kernel) hp0 ?_
    obtain ⟨M_4, eM_4, h⟩ := bM_elim h
    refine Fr_mem eM_4 ?_
    refine Fr_aload_n (q := 0) (i := 0) 0 (by decide +kernel) rfl rfl ?_
    refine Fr_dup (by decide +kernel) rfl ?_
    refine gf_X2_25 rfl (by decide +kernel) hp0 ?_
    refine Fr_iload_n (q := 2) (i := 2) 2 (by decide +kernel) rfl rfl ?_
    refine Fr_iadd (by decide +kernel) ?_
    refine pf_X2_25 rfl (by decide +kernel) hp0 ?_
    obtain ⟨M_5, eM_5, h⟩ := bM_elim h
    refine Fr_mem eM_5 ?_
    obtain rfl := Option.some.inj h
    exact Fr_vret (by decide +kernel) rfl ⟨rfl, rfl⟩
  · have h := iF hc h
    refine Fr_aload_n (q := 0) (i := 0) 0 (by decide +kernel) rfl rfl ?_
    refine Fr_dup (by decide +kernel) rfl ?_
    refine gf_X2_21 rfl (by decide +kernel) hp0 ?_
    refine Fr_iconst (i := 1) (v := 1) (by decide +kernel) (by decide) ?_
    refine Fr_iadd (by decide +kernel) ?_
    refine pf_X2_21 rfl (by decide +kernel) hp0 ?_
    obtain ⟨M_6, eM_6, h⟩ := bM_elim h
    refine Fr_mem eM_6 ?_
    obtain rfl := Option.some.inj h
    exact Fr_vret (by decide +kernel) rfl ⟨rfl, rfl⟩
def f_X5_isOpen (p0 : Nat) (x1 : Int32) (M : Mem) : Option (Bool × Mem) :=
  if (((M.1 p0 6) >>> (x1 &&& 31)) &&& 1) = 1 then (some (true, M)) else (some (false, M))
set_option maxRecDepth 20000 in
theorem t_X5_isOpen {p0 : Nat} {x1 : Int32} (hp0 : Ob 0 111 p0 5) {M : Mem} {q : Bool × Mem} (h : f_X5_isOpen p0 x1 M = some q) : Ev 0 111 0 m_X5_isOpen [.ref p0, .int x1] M (QB q) := by
  refine Ev_of_Fr (by decide +kernel) (Nat.le_of_ble_eq_true rfl) ?_
  show Fr 0 111 0 m_X5_isOpen 0 [(0, .ref p0), (1, .int x1)] [] M (QB q)
  unfold f_X5_isOpen at h
  refine Fr_aload_n (q := 0) (i := 0) 0 (by decide +kernel) rfl rfl ?_
  refine gf_X5_57 rfl (by decide +kernel) hp0 ?_
  refine Fr_iload_n (q := 1) (i := 1) 1 (by decide +kernel) rfl rfl ?_
  refine Fr_ishr (by decide +kernel) ?_
  refine Fr_iconst (i := 1) (v := 1) (by decide +kernel) (by decide) ?_
  refine Fr_iand (by decide +kernel) ?_
  refine Fr_iconst (i := 1) (v := 1) (by decide +kernel) (by decide) ?_
  refine Fr_icmp_ne (off := 7) 16 (by decide +kernel) (by decide) (fun hc => ?_) (fun hc => ?_)
  · have h := iF hc h
    refine Fr_iconst (i := 0) (v := 0) (by decide +kernel) (by decide) ?_
    obtain rfl := Option.some.inj h
    exact Fr_zret (by decide +kernel) rfl (by decide) ⟨rfl, rfl⟩
  · have h := iT hc h
    refine Fr_iconst (i := 1) (v := 1) (by decide +kernel) (by decide) ?_
    refine Fr_goto (off := 4) 17 (by decide +kernel) (by decide) ?_
    obtain rfl := Option.some.inj h
    exact Fr_zret (by decide +kernel) rfl (by decide) ⟨rfl, rfl⟩
def f_X5_setOpen (p0 : Nat) (x1 : Int32) (x2 : Int32) (M : Mem) : Option (Mem) :=
  if x2 = 0 then (bM (uI M p0 6 ((M.1 p0 6) &&& ((1 <<< (x1 &&& 31)) ^^^ (-1)))) fun M_1 =>
  some M_1) else (bM (uI M p0 6 ((M.1 p0 6) ||| (1 <<< (x1 &&& 31)))) fun M_2 =>
  some M_2)
set_option maxRecDepth 20000 in
theorem t_X5_setOpen {p0 : Nat} {x1 : Int32} {x2 : Int32} (hp0 : Ob 0 111 p0 5) {M : Mem} {q : Mem} (h : f_X5_setOpen p0 x1 x2 M = some q) : Ev 0 111 0 m_X5_setOpen [.ref p0, .int x1, .int x2] M (QV q) := by
  refine Ev_of_Fr (by decide +kernel) (Nat.le_of_ble_eq_true rfl) ?_
  show Fr 0 111 0 m_X5_setOpen 0 [(0, .ref p0), (1, .int x1), (2, .int x2)] [] M (QV q)
  unfold f_X5_setOpen at h
  refine Fr_aload_n (q := 0) (i := 0) 0 (by decide +kernel) rfl rfl ?_
  refine Fr_iload_n (q := 2) (i := 2) 2 (by decide +kernel) rfl rfl ?_
  refine Fr_if_eq (off := 14) 16 (by decide +kernel) (by decide) (fun hc => ?_) (fun hc => ?_)
  · have h := iT hc h
    refine Fr_aload_n (q := 0) (i := 0) 0 (by decide +kernel) rfl rfl ?_
    refine gf_X5_57 rfl (by decide +kernel) hp0 ?_
    refine Fr_iconst (i := 1) (v := 1) (by decide +kernel) (by decide) ?_
    refine Fr_iload_n (q := 1) (i := 1) 1 (by decide +kernel) rfl rfl ?_
    refine Fr_ishl (by decide +kernel) ?_
    refine Fr_iconst (i := (-1)) (v := (-1)) (by decide +kernel) (by decide) ?_
    refine Fr_ixor (by decide +kernel) ?_
    refine Fr_iand (by decide +kernel) ?_
    refine pf_X5_57 rfl (by decide +kernel) hp0 ?_
    obtain ⟨M_1, eM_1, h⟩ := bM_elim h
    refine Fr_mem eM_1 ?_
    obtain rfl := Option.some.inj h
    exact Fr_vret (by decide +kernel) rfl ⟨rfl, rfl⟩
  · have h := iF hc h
    refine Fr_aload_n (q := 0) (i := 0) 0 (by decide +kernel) rfl rfl ?_
    refine gf_X5_57 rfl (by decide +kernel) hp0 ?_
    refine Fr_iconst (i := 1) (v := 1) (by decide +kernel) (by decide) ?_
    refine Fr_iload_n (q := 1) (i := 1) 1 (by decide +kernel) rfl rfl ?_
    refine Fr_ishl (by decide +kernel) ?_
    refine Fr_ior (by decide +kernel) ?_
    refine Fr_goto (off := 13) 26 (by decide +kernel) (by decide) ?_
    refine pf_X5_57 rfl (by decide +kernel) hp0 ?_
    obtain ⟨M_2, eM_2, h⟩ := bM_elim h
    refine Fr_mem eM_2 ?_
    obtain rfl := Option.some.inj h
    exact Fr_vret (by decide +kernel) rfl ⟨rfl, rfl⟩
def f_X2_turnGate (p0 : Nat) (p1 : Nat) (x2 : Int32) (x3 : Int32) (M : Mem) : Option (Mem) :=
  bi (f_X5_isOpen p1 x2 M) fun r_3 M_1 =>
  if (b2i r_3) = x3 then (bM (uI M_1 p0 5 ((M_1.1 p0 5) + 1)) fun M_6 =>
  some M_6) else (bv (f_X5_setOpen p1 x2 x3 M_1) fun M_4 =>
  some M_4)
set_option maxRecDepth 20000 in
theorem t_X2_turnGate {p0 : Nat} {p1 : Nat} {x2 : Int32} {x3 : Int32} (hp0 : Ob 0 111 p0 2) (hp1 : Ob 0 111 p1 5) {M : Mem} {q : Mem} (h : f_X2_turnGate p0 p1 x2 x3 M = some q) : Ev 0 111 1 m_X2_turnGate [.ref p0, .ref p1, .int x2, .int x3] M (QV q) := by
  refine Ev_of_Fr (by decide +kernel) (Nat.le_of_ble_eq_true rfl) ?_
  show Fr 0 111 1 m_X2_turnGate 0 [(0, .ref p0), (1, .ref p1), (2, .int x2), (3, .int x3)] [] M (QV q)
  unfold f_X2_turnGate at h
  refine Fr_aload_n (q := 1) (i := 1) 1 (by decide +kernel) rfl rfl ?_
  refine Fr_iload_n (q := 2) (i := 2) 2 (by decide +kernel) rfl rfl ?_
  obtain ⟨r_3, M_1, hc_2, h⟩ := bi_elim h
  refine Fr_cVb (ν := m_X5_isOpen) (As := [.int x2]) (st := []) (rc := p1) (ci := 5) (d' := 0) (by decide +kernel) ml_X2_101 cv_X5_isOpen rfl (by decide) rfl hp1 rfl (by decide) (Nat.le_of_ble_eq_true rfl) (t_X5_isOpen hp1 hc_2) ?_
  refine Fr_iload_n (q := 3) (i := 3) 3 (by decide +kernel) rfl rfl ?_
  refine Fr_icmp_ne (off := 16) 22 (by decide +kernel) (by decide) (fun hc => ?_) (fun hc => ?_)
  · have h := iF hc h
    refine Fr_aload_n (q := 1) (i := 1) 1 (by decide +kernel) rfl rfl ?_
    refine Fr_iload_n (q := 2) (i := 2) 2 (by decide +kernel) rfl rfl ?_
    refine Fr_iload_n (q := 3) (i := 3) 3 (by decide +kernel) rfl rfl ?_
    obtain ⟨M_4, hc_5, h⟩ := bv_elim h
    refine Fr_cVv (ν := m_X5_setOpen) (As := [.int x2, .int x3]) (st := []) (rc := p1) (ci := 5) (d' := 0) (by decide +kernel) ml_X2_105 cv_X5_setOpen rfl (by decide) rfl hp1 rfl (by decide) (Nat.le_of_ble_eq_true rfl) (t_X5_setOpen hp1 hc_5) ?_
    obtain rfl := Option.some.inj h
    exact Fr_vret (by decide +kernel) rfl ⟨rfl, rfl⟩
  · have h := iT hc h
    refine Fr_aload_n (q := 0) (i := 0) 0 (by decide +kernel) rfl rfl ?_
    refine Fr_dup (by decide +kernel) rfl ?_
    refine gf_X2_21 rfl (by decide +kernel) hp0 ?_
    refine Fr_iconst (i := 1) (v := 1) (by decide +kernel) (by decide) ?_
    refine Fr_iadd (by decide +kernel) ?_
    refine pf_X2_21 rfl (by decide +kernel) hp0 ?_
    obtain ⟨M_6, eM_6, h⟩ := bM_elim h
    refine Fr_mem eM_6 ?_
    refine Fr_goto (off := 9) 28 (by decide +kernel) (by decide) ?_
    obtain rfl := Option.some.inj h
    exact Fr_vret (by decide +kernel) rfl ⟨rfl, rfl⟩
def f_X2_turnWind (p0 : Nat) (p1 : Nat) (x2 : Int32) (M : Mem) : Option (Mem) :=
  if (M.1 p1 2) = x2 then (bM (uI M p0 5 ((M.1 p0 5) + 1)) fun M_2 =>
  some M_2) else (bM (uI M p1 2 x2) fun M_1 =>
  some M_1)
set_option maxRecDepth 20000 in
theorem t_X2_turnWind {p0 : Nat} {p1 : Nat} {x2 : Int32} (hp0 : Ob 0 111 p0 2) (hp1 : Ob 0 111 p1 5) {M : Mem} {q : Mem} (h : f_X2_turnWind p0 p1 x2 M = some q) : Ev 0 111 0 m_X2_turnWind [.ref p0, .ref p1, .int x2] M (QV q) := by
  refine Ev_of_Fr (by decide +kernel) (Nat.le_of_ble_eq_true rfl) ?_
  show Fr 0 111 0 m_X2_turnWind 0 [(0, .ref p0), (1, .ref p1), (2, .int x2)] [] M (QV q)
  unfold f_X2_turnWind at h
  refine Fr_aload_n (q := 1) (i := 1) 1 (by decide +kernel) rfl rfl ?_
  refine gf_X2_109 rfl (by decide +kernel) hp1 ?_
  refine Fr_iload_n (q := 2) (i := 2) 2 (by decide +kernel) rfl rfl ?_
  refine Fr_icmp_ne (off := 16) 21 (by decide +kernel) (by decide) (fun hc => ?_) (fun hc => ?_)
  · have h := iF hc h
    refine Fr_aload_n (q := 1) (i := 1) 1 (by decide +kernel) rfl rfl ?_
    refine Fr_iload_n (q := 2) (i := 2) 2 (by decide +kernel) rfl rfl ?_
    refine pf_X2_109 rfl (by decide +kernel) hp1 ?_
    obtain ⟨M_1, eM_1, h⟩ := bM_elim h
    refine Fr_mem eM_1 ?_
    obtain rfl := Option.some.inj h
    exact Fr_vret (by decide +kernel) rfl ⟨rfl, rfl⟩
  · have h := iT hc h
    refine Fr_aload_n (q := 0) (i := 0) 0 (by decide +kernel) rfl rfl ?_
    refine Fr_dup (by decide +kernel) rfl ?_
    refine gf_X2_21 rfl (by decide +kernel) hp0 ?_
    refine Fr_iconst (i := 1) (v := 1) (by decide +kernel) (by decide) ?_
    refine Fr_iadd (by decide +kernel) ?_
    refine pf_X2_21 rfl (by decide +kernel) hp0 ?_
    obtain ⟨M_2, eM_2, h⟩ := bM_elim h
    refine Fr_mem eM_2 ?_
    refine Fr_goto (off := 8) 26 (by decide +kernel) (by decide) ?_
    obtain rfl := Option.some.inj h
    exact Fr_vret (by decide +kernel) rfl ⟨rfl, rfl⟩
def f_X2_draw (p0 : Nat) (x1 : Int32) (M : Mem) : Option (Int32 × Mem) :=
  bM (uI M p0 2 ((((M.1 p0 2) * 2971) + 10667) - (((M.1 p0 2) * 2971) + 10667) / 65536 * 65536)) fun M_1 =>
  cz x1 (
  some ((((M_1.1 p0 2) / 8) - ((M_1.1 p0 2) / 8) / x1 * x1), M_1))
set_option maxRecDepth 20000 in
theorem t_X2_draw {p0 : Nat} {x1 : Int32} (hp0 : Ob 0 111 p0 2) {M : Mem} {q : Int32 × Mem} (h : f_X2_draw p0 x1 M = some q) : Ev 0 111 0 m_X2_draw [.ref p0, .int x1] M (QI q) := by
  refine Ev_of_Fr (by decide +kernel) (Nat.le_of_ble_eq_true rfl) ?_
  show Fr 0 111 0 m_X2_draw 0 [(0, .ref p0), (1, .int x1)] [] M (QI q)
  unfold f_X2_draw at h
  refine Fr_aload_n (q := 0) (i := 0) 0 (by decide +kernel) rfl rfl ?_
  refine Fr_aload_n (q := 0) (i := 0) 0 (by decide +kernel) rfl rfl ?_
  refine gf_X2_38 rfl (by decide +kernel) hp0 ?_
  refine Fr_sipush (i := 2971) (v := 2971) (by decide +kernel) (by decide) ?_
  refine Fr_imul (by decide +kernel) ?_
  refine Fr_sipush (i := 10667) (v := 10667) (by decide +kernel) (by decide) ?_
  refine Fr_iadd (by decide +kernel) ?_
  refine Fr_ldc (idx := 119) (v := 65536) (by decide +kernel) lc_X2_119 ?_
  refine Fr_irem (by decide +kernel) (by decide) ?_
  refine pf_X2_38 rfl (by decide +kernel) hp0 ?_
  obtain ⟨M_1, eM_1, h⟩ := bM_elim h
  refine Fr_mem eM_1 ?_
  refine Fr_aload_n (q := 0) (i := 0) 0 (by decide +kernel) rfl rfl ?_
  refine gf_X2_38 rfl (by decide +kernel) hp0 ?_
  refine Fr_bipush (i := 8) (v := 8) (by decide +kernel) (by decide) ?_
  refine Fr_idiv (by decide +kernel) (by decide) ?_
  refine Fr_iload_n (q := 1) (i := 1) 1 (by decide +kernel) rfl rfl ?_
  obtain ⟨hz_2, h⟩ := cz_elim h
  refine Fr_irem (by decide +kernel) hz_2 ?_
  obtain rfl := Option.some.inj h
  exact Fr_iret (by decide +kernel) rfl ⟨rfl, rfl⟩
def f_X2_rage_b45 (N : Nat) (p0 : Nat) (p1 : Nat) (k21 : Int32 → Mem → Option (Mem)) (v2 : Int32) (s0 : Int32) (s1 : Int32) (M : Mem) : Option (Mem) :=
  bv (f_X5_setOpen p1 s1 s0 M) fun M_9 =>
  k21 (v2 + 1) M_9
set_option maxRecDepth 20000 in
theorem t_X2_rage_b45 {N : Nat} {p0 : Nat} {p1 : Nat} (hp0 : Ob 0 111 p0 2) (hp1 : Ob 0 111 p1 5) {q : Mem} {k21 : Int32 → Mem → Option (Mem)} (hk21 : ∀ (a : Int32) (M : Mem), k21 a M = some q → Fr 0 111 1 m_X2_rage 21 [(0, .ref p0), (1, .ref p1), (2, .int a)] [] M (QV q)) {v2 : Int32} {s0 : Int32} {s1 : Int32} {M : Mem} (h : f_X2_rage_b45 N p0 p1 k21 v2 s0 s1 M = some q) : Fr 0 111 1 m_X2_rage 45 [(0, .ref p0), (1, .ref p1), (2, .int v2)] [.int s0, .int s1, .ref p1] M (QV q) := by
  unfold f_X2_rage_b45 at h
  obtain ⟨M_9, hc_10, h⟩ := bv_elim h
  refine Fr_cVv (ν := m_X5_setOpen) (As := [.int s1, .int s0]) (st := []) (rc := p1) (ci := 5) (d' := 0) (by decide +kernel) ml_X2_105 cv_X5_setOpen rfl (by decide) rfl hp1 rfl (by decide) (Nat.le_of_ble_eq_true rfl) (t_X5_setOpen hp1 hc_10) ?_
  refine Fr_iinc (i := 2) (j := 1) (v := (v2 + 1)) (lv' := [(2, .int (v2 + 1)), (0, .ref p0), (1, .ref p1)]) 2 (by decide +kernel) rfl rfl (by decide) rfl ?_
  refine Fr_goto (off := (-30)) 21 (by decide +kernel) (by decide) ?_
  refine Fr_loc [1, 2, 0] rfl ?_
  exact hk21 (v2 + 1) M_9 h
def f_X2_rage_h21 (N : Nat) (p0 : Nat) (p1 : Nat) (k21 : Int32 → Mem → Option (Mem)) (v2 : Int32) (M : Mem) : Option (Mem) :=
  if (M.1 p1 7) ≤ v2 then (some M) else (bi (f_X2_draw p0 2 M) fun r_8 M_6 =>
  if r_8 = 1 then (f_X2_rage_b45 N p0 p1 k21 v2 1 v2 M_6) else (f_X2_rage_b45 N p0 p1 k21 v2 0 v2 M_6))
set_option maxRecDepth 20000 in
theorem t_X2_rage_h21 {N : Nat} {p0 : Nat} {p1 : Nat} (hp0 : Ob 0 111 p0 2) (hp1 : Ob 0 111 p1 5) {q : Mem} {k21 : Int32 → Mem → Option (Mem)} (hk21 : ∀ (a : Int32) (M : Mem), k21 a M = some q → Fr 0 111 1 m_X2_rage 21 [(0, .ref p0), (1, .ref p1), (2, .int a)] [] M (QV q)) {v2 : Int32} {M : Mem} (h : f_X2_rage_h21 N p0 p1 k21 v2 M = some q) : Fr 0 111 1 m_X2_rage 21 [(0, .ref p0), (1, .ref p1), (2, .int v2)] [] M (QV q) := by
  unfold f_X2_rage_h21 at h
  refine Fr_iload_n (q := 2) (i := 2) 2 (by decide +kernel) rfl rfl ?_
  refine Fr_aload_n (q := 1) (i := 1) 1 (by decide +kernel) rfl rfl ?_
  refine gf_X2_116 rfl (by decide +kernel) hp1 ?_
  refine Fr_icmp_ge (off := 28) 54 (by decide +kernel) (by decide) (fun hc => ?_) (fun hc => ?_)
  · have h := iT hc h
    obtain rfl := Option.some.inj h
    exact Fr_vret (by decide +kernel) rfl ⟨rfl, rfl⟩
  · have h := iF hc h
    refine Fr_aload_n (q := 1) (i := 1) 1 (by decide +kernel) rfl rfl ?_
    refine Fr_iload_n (q := 2) (i := 2) 2 (by decide +kernel) rfl rfl ?_
    refine Fr_aload_n (q := 0) (i := 0) 0 (by decide +kernel) rfl rfl ?_
    refine Fr_iconst (i := 2) (v := 2) (by decide +kernel) (by decide) ?_
    obtain ⟨r_8, M_6, hc_7, h⟩ := bi_elim h
    refine Fr_cVi (ν := m_X2_draw) (As := [.int 2]) (st := [.int v2, .ref p1]) (rc := p0) (ci := 2) (d' := 0) (by decide +kernel) ml_X2_112 cv_X2_draw rfl (by decide) rfl hp0 rfl (by decide) (Nat.le_of_ble_eq_true rfl) (t_X2_draw hp0 hc_7) ?_
    refine Fr_iconst (i := 1) (v := 1) (by decide +kernel) (by decide) ?_
    refine Fr_icmp_ne (off := 7) 44 (by decide +kernel) (by decide) (fun hc => ?_) (fun hc => ?_)
    · have h := iF hc h
      refine Fr_iconst (i := 0) (v := 0) (by decide +kernel) (by decide) ?_
      exact t_X2_rage_b45 hp0 hp1 hk21 h
    · have h := iT hc h
      refine Fr_iconst (i := 1) (v := 1) (by decide +kernel) (by decide) ?_
      refine Fr_goto (off := 4) 45 (by decide +kernel) (by decide) ?_
      exact t_X2_rage_b45 hp0 hp1 hk21 h
def f_X2_rage (N : Nat) (p0 : Nat) (p1 : Nat) (M : Mem) : Option (Mem) :=
  bM (uI M p0 8 ((M.1 p0 8) + 1)) fun M_1 =>
  bi (f_X2_draw p0 5 M_1) fun r_4 M_2 =>
  bM (uI M_2 p1 2 r_4) fun M_5 =>
  lp (fun k a m => f_X2_rage_h21 N p0 p1 k a m) N 0 M_5
set_option maxRecDepth 20000 in
theorem t_X2_rage {N : Nat} {p0 : Nat} {p1 : Nat} (hp0 : Ob 0 111 p0 2) (hp1 : Ob 0 111 p1 5) {M : Mem} {q : Mem} (h : f_X2_rage N p0 p1 M = some q) : Ev 0 111 1 m_X2_rage [.ref p0, .ref p1] M (QV q) := by
  refine Ev_of_Fr (by decide +kernel) (Nat.le_of_ble_eq_true rfl) ?_
  show Fr 0 111 1 m_X2_rage 0 [(0, .ref p0), (1, .ref p1)] [] M (QV q)
  unfold f_X2_rage at h
  refine Fr_aload_n (q := 0) (i := 0) 0 (by decide +kernel) rfl rfl ?_
  refine Fr_dup (by decide +kernel) rfl ?_
  refine gf_X2_31 rfl (by decide +kernel) hp0 ?_
  refine Fr_iconst (i := 1) (v := 1) (by decide +kernel) (by decide) ?_
  refine Fr_iadd (by decide +kernel) ?_
  refine pf_X2_31 rfl (by decide +kernel) hp0 ?_
  obtain ⟨M_1, eM_1, h⟩ := bM_elim h
  refine Fr_mem eM_1 ?_
  refine Fr_aload_n (q := 1) (i := 1) 1 (by decide +kernel) rfl rfl ?_
  refine Fr_aload_n (q := 0) (i := 0) 0 (by decide +kernel) rfl rfl ?_
  refine Fr_iconst (i := 5) (v := 5) (by decide +kernel) (by decide) ?_
  obtain ⟨r_4, M_2, hc_3, h⟩ := bi_elim h
  refine Fr_cVi (ν := m_X2_draw) (As := [.int 5]) (st := [.ref p1]) (rc := p0) (ci := 2) (d' := 0) (by decide +kernel) ml_X2_112 cv_X2_draw rfl (by decide) rfl hp0 rfl (by decide) (Nat.le_of_ble_eq_true rfl) (t_X2_draw hp0 hc_3) ?_
  refine pf_X2_109 rfl (by decide +kernel) hp1 ?_
  obtain ⟨M_5, eM_5, h⟩ := bM_elim h
  refine Fr_mem eM_5 ?_
  refine Fr_iconst (i := 0) (v := 0) (by decide +kernel) (by decide) ?_
  refine Fr_istore_n (q := 2) (i := 2) (lv' := [(2, .int 0), (0, .ref p0), (1, .ref p1)]) (by decide +kernel) rfl (by decide) rfl ?_
  refine Fr_loc [1, 2, 0] rfl ?_
  exact lp_sound (P := fun a M => Fr 0 111 1 m_X2_rage 21 [(0, .ref p0), (1, .ref p1), (2, .int a)] [] M (QV q)) (fun k hk a m h => t_X2_rage_h21 hp0 hp1 hk h) N 0 M_5 h
def f_X2_holds (p0 : Nat) (p1 : Nat) (x2 : Int32) (M : Mem) : Option (Bool × Mem) :=
  ck x2 60 (
  bI (M.1 ((p1 + 7) + 2) (tn x2)) fun y_2 =>
  ck x2 60 (
  if (M.1 ((p1 + 7) + 1) (tn x2)) = 8 then (bi (f_X5_isFoggy p1 (p1 + 6) y_2 M) fun r_18 M_16 =>
  some (r_18, M_16)) else (ck x2 60 (
  if (M.1 ((p1 + 7) + 1) (tn x2)) = 9 then (bi (f_X5_isOpen p1 y_2 M) fun r_15 M_13 =>
  some (r_15, M_13)) else (bi (f_X5_bothKinds (p1 + 6) y_2 M) fun r_7 M_5 =>
  ck x2 60 (
  if (M_5.1 ((p1 + 7) + 3) (tn x2)) = 60 then (ck x2 60 (
  if (M_5.1 ((p1 + 7) + 4) (tn x2)) ≤ r_7 then (some (false, M_5)) else (some (true, M_5)))) else (ck x2 60 (
  if (M_5.1 ((p1 + 7) + 3) (tn x2)) = 62 then (ck x2 60 (
  if r_7 ≤ (M_5.1 ((p1 + 7) + 4) (tn x2)) then (some (false, M_5)) else (some (true, M_5)))) else (ck x2 60 (
  if r_7 = (M_5.1 ((p1 + 7) + 4) (tn x2)) then (some (true, M_5)) else (some (false, M_5))))))))))))
set_option maxRecDepth 20000 in
theorem t_X2_holds {p0 : Nat} {p1 : Nat} {x2 : Int32} (hp0 : Ob 0 111 p0 2) (hp1 : Ob 0 111 p1 5) {M : Mem} {q : Bool × Mem} (h : f_X2_holds p0 p1 x2 M = some q) : Ev 0 111 2 m_X2_holds [.ref p0, .ref p1, .int x2] M (QB q) := by
  refine Ev_of_Fr (by decide +kernel) (Nat.le_of_ble_eq_true rfl) ?_
  show Fr 0 111 2 m_X2_holds 0 [(0, .ref p0), (1, .ref p1), (2, .int x2)] [] M (QB q)
  unfold f_X2_holds at h
  refine Fr_aload_n (q := 1) (i := 1) 1 (by decide +kernel) rfl rfl ?_
  refine gf_X2_47 rfl (by decide +kernel) hp1 ?_
  refine Fr_astore_n (q := 3) (i := 3) (lv' := [(3, .ref (p1 + 7)), (0, .ref p0), (1, .ref p1), (2, .int x2)]) (by decide +kernel) rfl (by decide) rfl ?_
  refine Fr_aload_n (q := 3) (i := 3) 0 (by decide +kernel) rfl rfl ?_
  refine gf_X2_71 rfl (by decide +kernel) (o5_7 hp1) ?_
  refine Fr_iload_n (q := 2) (i := 2) 3 (by decide +kernel) rfl rfl ?_
  obtain ⟨hi_1, h⟩ := ck_elim h
  refine Fr_iald (by decide +kernel) (o3_2 (o5_7 hp1)) (vp_of (n3_2 (o5_7 hp1)) hi_1) ?_
  obtain ⟨y_2, ey_2, h⟩ := bI_elim h
  refine Fr_topI ey_2 ?_
  refine Fr_istore (i := 4) (lv' := [(4, .int y_2), (3, .ref (p1 + 7)), (0, .ref p0), (1, .ref p1), (2, .int x2)]) (by decide +kernel) (by decide) rfl ?_
  refine Fr_aload_n (q := 3) (i := 3) 1 (by decide +kernel) rfl rfl ?_
  refine gf_X2_57 rfl (by decide +kernel) (o5_7 hp1) ?_
  refine Fr_iload_n (q := 2) (i := 2) 4 (by decide +kernel) rfl rfl ?_
  obtain ⟨hi_3, h⟩ := ck_elim h
  refine Fr_iald (by decide +kernel) (o3_1 (o5_7 hp1)) (vp_of (n3_1 (o5_7 hp1)) hi_3) ?_
  refine Fr_bipush (i := 8) (v := 8) (by decide +kernel) (by decide) ?_
  refine Fr_icmp_ne (off := 14) 35 (by decide +kernel) (by decide) (fun hc => ?_) (fun hc => ?_)
  · have h := iF hc h
    refine Fr_aload_n (q := 3) (i := 3) 1 (by decide +kernel) rfl rfl ?_
    refine gf_X2_57 rfl (by decide +kernel) (o5_7 hp1) ?_
    refine Fr_iload_n (q := 2) (i := 2) 4 (by decide +kernel) rfl rfl ?_
    obtain ⟨hi_4, h⟩ := ck_elim h
    refine Fr_iald (by decide +kernel) (o3_1 (o5_7 hp1)) (vp_of (n3_1 (o5_7 hp1)) hi_4) ?_
    refine Fr_bipush (i := 9) (v := 9) (by decide +kernel) (by decide) ?_
    refine Fr_icmp_ne (off := 10) 53 (by decide +kernel) (by decide) (fun hc => ?_) (fun hc => ?_)
    · have h := iF hc h
      refine Fr_aload_n (q := 1) (i := 1) 3 (by decide +kernel) rfl rfl ?_
      refine gf_X2_120 rfl (by decide +kernel) hp1 ?_
      refine Fr_iload (i := 4) 0 (by decide +kernel) rfl ?_
      obtain ⟨r_7, M_5, hc_6, h⟩ := bi_elim h
      refine Fr_cSi (ν := m_X5_bothKinds) (As := [.ref (p1 + 6), .int y_2]) (st := []) (d' := 0) (by decide +kernel) ml_X2_127 cs_X5_bothKinds rfl (by decide) (Nat.le_of_ble_eq_true rfl) (t_X5_bothKinds (o5_6 hp1) hc_6) ?_
      refine Fr_istore (i := 5) (lv' := [(5, .int r_7), (4, .int y_2), (3, .ref (p1 + 7)), (0, .ref p0), (1, .ref p1), (2, .int x2)]) (by decide +kernel) (by decide) rfl ?_
      refine Fr_aload_n (q := 3) (i := 3) 2 (by decide +kernel) rfl rfl ?_
      refine gf_X2_131 rfl (by decide +kernel) (o5_7 hp1) ?_
      refine Fr_iload_n (q := 2) (i := 2) 5 (by decide +kernel) rfl rfl ?_
      obtain ⟨hi_8, h⟩ := ck_elim h
      refine Fr_iald (by decide +kernel) (o3_3 (o5_7 hp1)) (vp_of (n3_3 (o5_7 hp1)) hi_8) ?_
      refine Fr_bipush (i := 60) (v := 60) (by decide +kernel) (by decide) ?_
      refine Fr_icmp_ne (off := 20) 92 (by decide +kernel) (by decide) (fun hc => ?_) (fun hc => ?_)
      · have h := iF hc h
        refine Fr_aload_n (q := 3) (i := 3) 2 (by decide +kernel) rfl rfl ?_
        refine gf_X2_131 rfl (by decide +kernel) (o5_7 hp1) ?_
        refine Fr_iload_n (q := 2) (i := 2) 5 (by decide +kernel) rfl rfl ?_
        obtain ⟨hi_9, h⟩ := ck_elim h
        refine Fr_iald (by decide +kernel) (o3_3 (o5_7 hp1)) (vp_of (n3_3 (o5_7 hp1)) hi_9) ?_
        refine Fr_bipush (i := 62) (v := 62) (by decide +kernel) (by decide) ?_
        refine Fr_icmp_ne (off := 22) 122 (by decide +kernel) (by decide) (fun hc => ?_) (fun hc => ?_)
        · have h := iF hc h
          refine Fr_iload (i := 5) 0 (by decide +kernel) rfl ?_
          refine Fr_aload_n (q := 3) (i := 3) 2 (by decide +kernel) rfl rfl ?_
          refine gf_X2_134 rfl (by decide +kernel) (o5_7 hp1) ?_
          refine Fr_iload_n (q := 2) (i := 2) 5 (by decide +kernel) rfl rfl ?_
          obtain ⟨hi_10, h⟩ := ck_elim h
          refine Fr_iald (by decide +kernel) (o3_4 (o5_7 hp1)) (vp_of (n3_4 (o5_7 hp1)) hi_10) ?_
          refine Fr_icmp_ne (off := 7) 137 (by decide +kernel) (by decide) (fun hc => ?_) (fun hc => ?_)
          · have h := iF hc h
            refine Fr_iconst (i := 0) (v := 0) (by decide +kernel) (by decide) ?_
            obtain rfl := Option.some.inj h
            exact Fr_zret (by decide +kernel) rfl (by decide) ⟨rfl, rfl⟩
          · have h := iT hc h
            refine Fr_iconst (i := 1) (v := 1) (by decide +kernel) (by decide) ?_
            refine Fr_goto (off := 4) 138 (by decide +kernel) (by decide) ?_
            obtain rfl := Option.some.inj h
            exact Fr_zret (by decide +kernel) rfl (by decide) ⟨rfl, rfl⟩
        · have h := iT hc h
          refine Fr_iload (i := 5) 0 (by decide +kernel) rfl ?_
          refine Fr_aload_n (q := 3) (i := 3) 2 (by decide +kernel) rfl rfl ?_
          refine gf_X2_134 rfl (by decide +kernel) (o5_7 hp1) ?_
          refine Fr_iload_n (q := 2) (i := 2) 5 (by decide +kernel) rfl rfl ?_
          obtain ⟨hi_11, h⟩ := ck_elim h
          refine Fr_iald (by decide +kernel) (o3_4 (o5_7 hp1)) (vp_of (n3_4 (o5_7 hp1)) hi_11) ?_
          refine Fr_icmp_le (off := 7) 118 (by decide +kernel) (by decide) (fun hc => ?_) (fun hc => ?_)
          · have h := iT hc h
            refine Fr_iconst (i := 0) (v := 0) (by decide +kernel) (by decide) ?_
            refine Fr_goto (off := 19) 138 (by decide +kernel) (by decide) ?_
            obtain rfl := Option.some.inj h
            exact Fr_zret (by decide +kernel) rfl (by decide) ⟨rfl, rfl⟩
          · have h := iF hc h
            refine Fr_iconst (i := 1) (v := 1) (by decide +kernel) (by decide) ?_
            refine Fr_goto (off := 23) 138 (by decide +kernel) (by decide) ?_
            obtain rfl := Option.some.inj h
            exact Fr_zret (by decide +kernel) rfl (by decide) ⟨rfl, rfl⟩
      · have h := iT hc h
        refine Fr_iload (i := 5) 0 (by decide +kernel) rfl ?_
        refine Fr_aload_n (q := 3) (i := 3) 2 (by decide +kernel) rfl rfl ?_
        refine gf_X2_134 rfl (by decide +kernel) (o5_7 hp1) ?_
        refine Fr_iload_n (q := 2) (i := 2) 5 (by decide +kernel) rfl rfl ?_
        obtain ⟨hi_12, h⟩ := ck_elim h
        refine Fr_iald (by decide +kernel) (o3_4 (o5_7 hp1)) (vp_of (n3_4 (o5_7 hp1)) hi_12) ?_
        refine Fr_icmp_ge (off := 7) 90 (by decide +kernel) (by decide) (fun hc => ?_) (fun hc => ?_)
        · have h := iT hc h
          refine Fr_iconst (i := 0) (v := 0) (by decide +kernel) (by decide) ?_
          obtain rfl := Option.some.inj h
          exact Fr_zret (by decide +kernel) rfl (by decide) ⟨rfl, rfl⟩
        · have h := iF hc h
          refine Fr_iconst (i := 1) (v := 1) (by decide +kernel) (by decide) ?_
          refine Fr_goto (off := 4) 91 (by decide +kernel) (by decide) ?_
          obtain rfl := Option.some.inj h
          exact Fr_zret (by decide +kernel) rfl (by decide) ⟨rfl, rfl⟩
    · have h := iT hc h
      refine Fr_aload_n (q := 1) (i := 1) 3 (by decide +kernel) rfl rfl ?_
      refine Fr_iload (i := 4) 0 (by decide +kernel) rfl ?_
      obtain ⟨r_15, M_13, hc_14, h⟩ := bi_elim h
      refine Fr_cVb (ν := m_X5_isOpen) (As := [.int y_2]) (st := []) (rc := p1) (ci := 5) (d' := 0) (by decide +kernel) ml_X2_101 cv_X5_isOpen rfl (by decide) rfl hp1 rfl (by decide) (Nat.le_of_ble_eq_true rfl) (t_X5_isOpen hp1 hc_14) ?_
      obtain rfl := Option.some.inj h
      exact Fr_zret (by decide +kernel) rfl (nz_b r_15) ⟨rfl, rfl⟩
  · have h := iT hc h
    refine Fr_aload_n (q := 1) (i := 1) 3 (by decide +kernel) rfl rfl ?_
    refine Fr_aload_n (q := 1) (i := 1) 3 (by decide +kernel) rfl rfl ?_
    refine gf_X2_120 rfl (by decide +kernel) hp1 ?_
    refine Fr_iload (i := 4) 0 (by decide +kernel) rfl ?_
    obtain ⟨r_18, M_16, hc_17, h⟩ := bi_elim h
    refine Fr_cVb (ν := m_X5_isFoggy) (As := [.ref (p1 + 6), .int y_2]) (st := []) (rc := p1) (ci := 5) (d' := 1) (by decide +kernel) ml_X2_123 cv_X5_isFoggy rfl (by decide) rfl hp1 rfl (by decide) (Nat.le_of_ble_eq_true rfl) (t_X5_isFoggy hp1 (o5_6 hp1) hc_17) ?_
    obtain rfl := Option.some.inj h
    exact Fr_zret (by decide +kernel) rfl (nz_b r_18) ⟨rfl, rfl⟩
def f_X2_doStep (N : Nat) (p0 : Nat) (p1 : Nat) (x2 : Int32) (M : Mem) : Option (Int32 × Mem) :=
  ck x2 60 (
  bI (M.1 ((p1 + 7) + 2) (tn x2)) fun y_2 =>
  ck x2 60 (
  if (M.1 ((p1 + 7) + 1) (tn x2)) = 1 then (bv (f_X2_letPass N p0 p1 y_2 M) fun M_5 =>
  some ((x2 + 1), M_5)) else (if (M.1 ((p1 + 7) + 1) (tn x2)) = 2 then (bv (f_X2_turnGate p0 p1 y_2 1 M) fun M_8 =>
  some ((x2 + 1), M_8)) else (if (M.1 ((p1 + 7) + 1) (tn x2)) = 3 then (bv (f_X2_turnGate p0 p1 y_2 0 M) fun M_11 =>
  some ((x2 + 1), M_11)) else (if (M.1 ((p1 + 7) + 1) (tn x2)) = 4 then (bv (f_X2_turnWind p0 p1 y_2 M) fun M_14 =>
  some ((x2 + 1), M_14)) else (if (M.1 ((p1 + 7) + 1) (tn x2)) = 5 then (bv (f_X2_rage N p0 p1 M) fun M_17 =>
  some ((x2 + 1), M_17)) else (if (M.1 ((p1 + 7) + 1) (tn x2)) = 6 then (some ((M.1 (p1 + 7) 1), M)) else (if (M.1 ((p1 + 7) + 1) (tn x2)) = 7 then (ck x2 60 (
  bM (uI M (p0 + 1) (tn x2) y_2) fun M_22 =>
  some ((x2 + 1), M_22))) else (bi (f_X2_holds p0 p1 x2 M) fun r_25 M_23 =>
  if (b2i r_25) = 0 then (ck x2 60 (
  some (((M_23.1 ((p1 + 7) + 5) (tn x2)) + 1), M_23))) else (some ((x2 + 1), M_23)))))))))))
set_option maxRecDepth 20000 in
theorem t_X2_doStep {N : Nat} {p0 : Nat} {p1 : Nat} {x2 : Int32} (hp0 : Ob 0 111 p0 2) (hp1 : Ob 0 111 p1 5) {M : Mem} {q : Int32 × Mem} (h : f_X2_doStep N p0 p1 x2 M = some q) : Ev 0 111 5 m_X2_doStep [.ref p0, .ref p1, .int x2] M (QI q) := by
  refine Ev_of_Fr (by decide +kernel) (Nat.le_of_ble_eq_true rfl) ?_
  show Fr 0 111 5 m_X2_doStep 0 [(0, .ref p0), (1, .ref p1), (2, .int x2)] [] M (QI q)
  unfold f_X2_doStep at h
  refine Fr_aload_n (q := 1) (i := 1) 1 (by decide +kernel) rfl rfl ?_
  refine gf_X2_47 rfl (by decide +kernel) hp1 ?_
  refine Fr_astore_n (q := 3) (i := 3) (lv' := [(3, .ref (p1 + 7)), (0, .ref p0), (1, .ref p1), (2, .int x2)]) (by decide +kernel) rfl (by decide) rfl ?_
  refine Fr_aload_n (q := 3) (i := 3) 0 (by decide +kernel) rfl rfl ?_
  refine gf_X2_71 rfl (by decide +kernel) (o5_7 hp1) ?_
  refine Fr_iload_n (q := 2) (i := 2) 3 (by decide +kernel) rfl rfl ?_
  obtain ⟨hi_1, h⟩ := ck_elim h
  refine Fr_iald (by decide +kernel) (o3_2 (o5_7 hp1)) (vp_of (n3_2 (o5_7 hp1)) hi_1) ?_
  obtain ⟨y_2, ey_2, h⟩ := bI_elim h
  refine Fr_topI ey_2 ?_
  refine Fr_istore (i := 4) (lv' := [(4, .int y_2), (3, .ref (p1 + 7)), (0, .ref p0), (1, .ref p1), (2, .int x2)]) (by decide +kernel) (by decide) rfl ?_
  refine Fr_aload_n (q := 3) (i := 3) 1 (by decide +kernel) rfl rfl ?_
  refine gf_X2_57 rfl (by decide +kernel) (o5_7 hp1) ?_
  refine Fr_iload_n (q := 2) (i := 2) 4 (by decide +kernel) rfl rfl ?_
  obtain ⟨hi_3, h⟩ := ck_elim h
  refine Fr_iald (by decide +kernel) (o3_1 (o5_7 hp1)) (vp_of (n3_1 (o5_7 hp1)) hi_3) ?_
  by_cases hs_4 : (M.1 ((p1 + 7) + 1) (tn x2)) = 1
  · have h := iT hs_4 h
    refine Fr_tabIn (dflt := 113) (lo := 1) (hi := 7) (offs := #[41, 52, 64, 76, 87, 96, 101]) (len := 41) (off := 41) 60 (by decide +kernel) (by rw [hs_4]; decide) (by rw [hs_4]; decide) (by rw [hs_4]; rfl) (by decide) ?_
    refine Fr_aload_n (q := 0) (i := 0) 2 (by decide +kernel) rfl rfl ?_
    refine Fr_aload_n (q := 1) (i := 1) 3 (by decide +kernel) rfl rfl ?_
    refine Fr_iload (i := 4) 0 (by decide +kernel) rfl ?_
    obtain ⟨M_5, hc_6, h⟩ := bv_elim h
    refine Fr_cVv (ν := m_X2_letPass) (As := [.ref p1, .int y_2]) (st := []) (rc := p0) (ci := 2) (d' := 4) (by decide +kernel) ml_X2_74 cv_X2_letPass rfl (by decide) rfl hp0 rfl (by decide) (Nat.le_of_ble_eq_true rfl) (t_X2_letPass hp0 hp1 hc_6) ?_
    refine Fr_iload_n (q := 2) (i := 2) 4 (by decide +kernel) rfl rfl ?_
    refine Fr_iconst (i := 1) (v := 1) (by decide +kernel) (by decide) ?_
    refine Fr_iadd (by decide +kernel) ?_
    obtain rfl := Option.some.inj h
    exact Fr_iret (by decide +kernel) rfl ⟨rfl, rfl⟩
  have h := iF hs_4 h
  by_cases hs_7 : (M.1 ((p1 + 7) + 1) (tn x2)) = 2
  · have h := iT hs_7 h
    refine Fr_tabIn (dflt := 113) (lo := 1) (hi := 7) (offs := #[41, 52, 64, 76, 87, 96, 101]) (len := 41) (off := 52) 71 (by decide +kernel) (by rw [hs_7]; decide) (by rw [hs_7]; decide) (by rw [hs_7]; rfl) (by decide) ?_
    refine Fr_aload_n (q := 0) (i := 0) 2 (by decide +kernel) rfl rfl ?_
    refine Fr_aload_n (q := 1) (i := 1) 3 (by decide +kernel) rfl rfl ?_
    refine Fr_iload (i := 4) 0 (by decide +kernel) rfl ?_
    refine Fr_iconst (i := 1) (v := 1) (by decide +kernel) (by decide) ?_
    obtain ⟨M_8, hc_9, h⟩ := bv_elim h
    refine Fr_cVv (ν := m_X2_turnGate) (As := [.ref p1, .int y_2, .int 1]) (st := []) (rc := p0) (ci := 2) (d' := 1) (by decide +kernel) ml_X2_78 cv_X2_turnGate rfl (by decide) rfl hp0 rfl (by decide) (Nat.le_of_ble_eq_true rfl) (t_X2_turnGate hp0 hp1 hc_9) ?_
    refine Fr_iload_n (q := 2) (i := 2) 4 (by decide +kernel) rfl rfl ?_
    refine Fr_iconst (i := 1) (v := 1) (by decide +kernel) (by decide) ?_
    refine Fr_iadd (by decide +kernel) ?_
    obtain rfl := Option.some.inj h
    exact Fr_iret (by decide +kernel) rfl ⟨rfl, rfl⟩
  have h := iF hs_7 h
  by_cases hs_10 : (M.1 ((p1 + 7) + 1) (tn x2)) = 3
  · have h := iT hs_10 h
    refine Fr_tabIn (dflt := 113) (lo := 1) (hi := 7) (offs := #[41, 52, 64, 76, 87, 96, 101]) (len := 41) (off := 64) 83 (by decide +kernel) (by rw [hs_10]; decide) (by rw [hs_10]; decide) (by rw [hs_10]; rfl) (by decide) ?_
    refine Fr_aload_n (q := 0) (i := 0) 2 (by decide +kernel) rfl rfl ?_
    refine Fr_aload_n (q := 1) (i := 1) 3 (by decide +kernel) rfl rfl ?_
    refine Fr_iload (i := 4) 0 (by decide +kernel) rfl ?_
    refine Fr_iconst (i := 0) (v := 0) (by decide +kernel) (by decide) ?_
    obtain ⟨M_11, hc_12, h⟩ := bv_elim h
    refine Fr_cVv (ν := m_X2_turnGate) (As := [.ref p1, .int y_2, .int 0]) (st := []) (rc := p0) (ci := 2) (d' := 1) (by decide +kernel) ml_X2_78 cv_X2_turnGate rfl (by decide) rfl hp0 rfl (by decide) (Nat.le_of_ble_eq_true rfl) (t_X2_turnGate hp0 hp1 hc_12) ?_
    refine Fr_iload_n (q := 2) (i := 2) 4 (by decide +kernel) rfl rfl ?_
    refine Fr_iconst (i := 1) (v := 1) (by decide +kernel) (by decide) ?_
    refine Fr_iadd (by decide +kernel) ?_
    obtain rfl := Option.some.inj h
    exact Fr_iret (by decide +kernel) rfl ⟨rfl, rfl⟩
  have h := iF hs_10 h
  by_cases hs_13 : (M.1 ((p1 + 7) + 1) (tn x2)) = 4
  · have h := iT hs_13 h
    refine Fr_tabIn (dflt := 113) (lo := 1) (hi := 7) (offs := #[41, 52, 64, 76, 87, 96, 101]) (len := 41) (off := 76) 95 (by decide +kernel) (by rw [hs_13]; decide) (by rw [hs_13]; decide) (by rw [hs_13]; rfl) (by decide) ?_
    refine Fr_aload_n (q := 0) (i := 0) 2 (by decide +kernel) rfl rfl ?_
    refine Fr_aload_n (q := 1) (i := 1) 3 (by decide +kernel) rfl rfl ?_
    refine Fr_iload (i := 4) 0 (by decide +kernel) rfl ?_
    obtain ⟨M_14, hc_15, h⟩ := bv_elim h
    refine Fr_cVv (ν := m_X2_turnWind) (As := [.ref p1, .int y_2]) (st := []) (rc := p0) (ci := 2) (d' := 0) (by decide +kernel) ml_X2_82 cv_X2_turnWind rfl (by decide) rfl hp0 rfl (by decide) (Nat.le_of_ble_eq_true rfl) (t_X2_turnWind hp0 hp1 hc_15) ?_
    refine Fr_iload_n (q := 2) (i := 2) 4 (by decide +kernel) rfl rfl ?_
    refine Fr_iconst (i := 1) (v := 1) (by decide +kernel) (by decide) ?_
    refine Fr_iadd (by decide +kernel) ?_
    obtain rfl := Option.some.inj h
    exact Fr_iret (by decide +kernel) rfl ⟨rfl, rfl⟩
  have h := iF hs_13 h
  by_cases hs_16 : (M.1 ((p1 + 7) + 1) (tn x2)) = 5
  · have h := iT hs_16 h
    refine Fr_tabIn (dflt := 113) (lo := 1) (hi := 7) (offs := #[41, 52, 64, 76, 87, 96, 101]) (len := 41) (off := 87) 106 (by decide +kernel) (by rw [hs_16]; decide) (by rw [hs_16]; decide) (by rw [hs_16]; rfl) (by decide) ?_
    refine Fr_aload_n (q := 0) (i := 0) 2 (by decide +kernel) rfl rfl ?_
    refine Fr_aload_n (q := 1) (i := 1) 3 (by decide +kernel) rfl rfl ?_
    obtain ⟨M_17, hc_18, h⟩ := bv_elim h
    refine Fr_cVv (ν := m_X2_rage) (As := [.ref p1]) (st := []) (rc := p0) (ci := 2) (d' := 1) (by decide +kernel) ml_X2_85 cv_X2_rage rfl (by decide) rfl hp0 rfl (by decide) (Nat.le_of_ble_eq_true rfl) (t_X2_rage hp0 hp1 hc_18) ?_
    refine Fr_iload_n (q := 2) (i := 2) 4 (by decide +kernel) rfl rfl ?_
    refine Fr_iconst (i := 1) (v := 1) (by decide +kernel) (by decide) ?_
    refine Fr_iadd (by decide +kernel) ?_
    obtain rfl := Option.some.inj h
    exact Fr_iret (by decide +kernel) rfl ⟨rfl, rfl⟩
  have h := iF hs_16 h
  by_cases hs_19 : (M.1 ((p1 + 7) + 1) (tn x2)) = 6
  · have h := iT hs_19 h
    refine Fr_tabIn (dflt := 113) (lo := 1) (hi := 7) (offs := #[41, 52, 64, 76, 87, 96, 101]) (len := 41) (off := 96) 115 (by decide +kernel) (by rw [hs_19]; decide) (by rw [hs_19]; decide) (by rw [hs_19]; rfl) (by decide) ?_
    refine Fr_aload_n (q := 3) (i := 3) 1 (by decide +kernel) rfl rfl ?_
    refine gf_X2_54 rfl (by decide +kernel) (o5_7 hp1) ?_
    obtain rfl := Option.some.inj h
    exact Fr_iret (by decide +kernel) rfl ⟨rfl, rfl⟩
  have h := iF hs_19 h
  by_cases hs_20 : (M.1 ((p1 + 7) + 1) (tn x2)) = 7
  · have h := iT hs_20 h
    refine Fr_tabIn (dflt := 113) (lo := 1) (hi := 7) (offs := #[41, 52, 64, 76, 87, 96, 101]) (len := 41) (off := 101) 120 (by decide +kernel) (by rw [hs_20]; decide) (by rw [hs_20]; decide) (by rw [hs_20]; rfl) (by decide) ?_
    refine Fr_aload_n (q := 0) (i := 0) 2 (by decide +kernel) rfl rfl ?_
    refine gf_X2_11 rfl (by decide +kernel) hp0 ?_
    refine Fr_iload_n (q := 2) (i := 2) 4 (by decide +kernel) rfl rfl ?_
    refine Fr_iload (i := 4) 0 (by decide +kernel) rfl ?_
    obtain ⟨hi_21, h⟩ := ck_elim h
    refine Fr_iast (by decide +kernel) (o2_1 hp0) (vp_of (n2_1 hp0) hi_21) ?_
    obtain ⟨M_22, eM_22, h⟩ := bM_elim h
    refine Fr_mem eM_22 ?_
    refine Fr_iload_n (q := 2) (i := 2) 4 (by decide +kernel) rfl rfl ?_
    refine Fr_iconst (i := 1) (v := 1) (by decide +kernel) (by decide) ?_
    refine Fr_iadd (by decide +kernel) ?_
    obtain rfl := Option.some.inj h
    exact Fr_iret (by decide +kernel) rfl ⟨rfl, rfl⟩
  have h := iF hs_20 h
  have hhs_4 := lv_neT (a := 1) hs_4 (by decide)
  have hhs_7 := lv_neT (a := 2) hs_7 (by decide)
  have hhs_10 := lv_neT (a := 3) hs_10 (by decide)
  have hhs_13 := lv_neT (a := 4) hs_13 (by decide)
  have hhs_16 := lv_neT (a := 5) hs_16 (by decide)
  have hhs_19 := lv_neT (a := 6) hs_19 (by decide)
  have hhs_20 := lv_neT (a := 7) hs_20 (by decide)
  refine Fr_tabOut (dflt := 113) (lo := 1) (hi := 7) (offs := #[41, 52, 64, 76, 87, 96, 101]) (len := 41) 132 (by decide +kernel) (by omega) (by decide) ?_
  refine Fr_aload_n (q := 0) (i := 0) 2 (by decide +kernel) rfl rfl ?_
  refine Fr_aload_n (q := 1) (i := 1) 3 (by decide +kernel) rfl rfl ?_
  refine Fr_iload_n (q := 2) (i := 2) 4 (by decide +kernel) rfl rfl ?_
  obtain ⟨r_25, M_23, hc_24, h⟩ := bi_elim h
  refine Fr_cVb (ν := m_X2_holds) (As := [.ref p1, .int x2]) (st := []) (rc := p0) (ci := 2) (d' := 2) (by decide +kernel) ml_X2_89 cv_X2_holds rfl (by decide) rfl hp0 rfl (by decide) (Nat.le_of_ble_eq_true rfl) (t_X2_holds hp0 hp1 hc_24) ?_
  refine Fr_if_eq (off := 9) 147 (by decide +kernel) (by decide) (fun hc => ?_) (fun hc => ?_)
  · have h := iT hc h
    refine Fr_aload_n (q := 3) (i := 3) 1 (by decide +kernel) rfl rfl ?_
    refine gf_X2_68 rfl (by decide +kernel) (o5_7 hp1) ?_
    refine Fr_iload_n (q := 2) (i := 2) 4 (by decide +kernel) rfl rfl ?_
    obtain ⟨hi_26, h⟩ := ck_elim h
    refine Fr_iald (by decide +kernel) (o3_5 (o5_7 hp1)) (vp_of (n3_5 (o5_7 hp1)) hi_26) ?_
    refine Fr_iconst (i := 1) (v := 1) (by decide +kernel) (by decide) ?_
    refine Fr_iadd (by decide +kernel) ?_
    obtain rfl := Option.some.inj h
    exact Fr_iret (by decide +kernel) rfl ⟨rfl, rfl⟩
  · have h := iF hc h
    refine Fr_iload_n (q := 2) (i := 2) 4 (by decide +kernel) rfl rfl ?_
    refine Fr_iconst (i := 1) (v := 1) (by decide +kernel) (by decide) ?_
    refine Fr_iadd (by decide +kernel) ?_
    refine Fr_goto (off := 11) 155 (by decide +kernel) (by decide) ?_
    obtain rfl := Option.some.inj h
    exact Fr_iret (by decide +kernel) rfl ⟨rfl, rfl⟩
def f_X2_run_b126 (N : Nat) (p0 : Nat) (p1 : Nat) (k51 : Int32 × Int32 → Mem → Option (Mem)) (v4 : Int32) (v5 : Int32) (M : Mem) : Option (Mem) :=
  k51 (v4, (v5 + 1)) M
set_option maxRecDepth 20000 in
theorem t_X2_run_b126 {N : Nat} {p0 : Nat} {p1 : Nat} (hp0 : Ob 0 111 p0 2) (hp1 : Ob 0 111 p1 5) {q : Mem} {k51 : Int32 × Int32 → Mem → Option (Mem)} (hk51 : ∀ (a : Int32 × Int32) (M : Mem), k51 a M = some q → Fr 0 111 6 m_X2_run 51 [(0, .ref p0), (1, .ref p1), (3, .ref (p1 + 7)), (4, .int a.1), (5, .int a.2)] [] M (QV q)) {v4 : Int32} {v5 : Int32} {M : Mem} (h : f_X2_run_b126 N p0 p1 k51 v4 v5 M = some q) : Fr 0 111 6 m_X2_run 126 [(0, .ref p0), (1, .ref p1), (3, .ref (p1 + 7)), (4, .int v4), (5, .int v5)] [] M (QV q) := by
  unfold f_X2_run_b126 at h
  refine Fr_iinc (i := 5) (j := 1) (v := (v5 + 1)) (lv' := [(5, .int (v5 + 1)), (0, .ref p0), (1, .ref p1), (3, .ref (p1 + 7)), (4, .int v4)]) 4 (by decide +kernel) rfl rfl (by decide) rfl ?_
  refine Fr_goto (off := (-78)) 51 (by decide +kernel) (by decide) ?_
  refine Fr_loc [1, 2, 3, 4, 0] rfl ?_
  exact hk51 (v4, (v5 + 1)) M h
def f_X2_run_h51 (N : Nat) (p0 : Nat) (p1 : Nat) (k51 : Int32 × Int32 → Mem → Option (Mem)) (v4 : Int32) (v5 : Int32) (M : Mem) : Option (Mem) :=
  if 1000000 ≤ v5 then (some M) else (if (M.1 (p1 + 7) 1) ≤ v4 then (some M) else (ck v4 60 (
  if (M.1 ((p1 + 7) + 1) (tn v4)) = 11 then (bi (f_X2_behindEnd p0 (p1 + 7) v4 M) fun r_17 M_15 =>
  f_X2_run_b126 N p0 p1 k51 r_17 v5 M_15) else (if (M.1 p0 4) < 300 then (bM (uI M p0 4 ((M.1 p0 4) + 1)) fun M_10 =>
  bi (f_X2_doStep N p0 p1 v4 M_10) fun r_13 M_11 =>
  f_X2_run_b126 N p0 p1 k51 r_13 v5 M_11) else (bM (uI M p0 9 1) fun M_14 =>
  some M_14)))))
set_option maxRecDepth 20000 in
theorem t_X2_run_h51 {N : Nat} {p0 : Nat} {p1 : Nat} (hp0 : Ob 0 111 p0 2) (hp1 : Ob 0 111 p1 5) {q : Mem} {k51 : Int32 × Int32 → Mem → Option (Mem)} (hk51 : ∀ (a : Int32 × Int32) (M : Mem), k51 a M = some q → Fr 0 111 6 m_X2_run 51 [(0, .ref p0), (1, .ref p1), (3, .ref (p1 + 7)), (4, .int a.1), (5, .int a.2)] [] M (QV q)) {v4 : Int32} {v5 : Int32} {M : Mem} (h : f_X2_run_h51 N p0 p1 k51 v4 v5 M = some q) : Fr 0 111 6 m_X2_run 51 [(0, .ref p0), (1, .ref p1), (3, .ref (p1 + 7)), (4, .int v4), (5, .int v5)] [] M (QV q) := by
  unfold f_X2_run_h51 at h
  refine Fr_iload (i := 5) 4 (by decide +kernel) rfl ?_
  refine Fr_ldc (idx := 53) (v := 1000000) (by decide +kernel) lc_X2_53 ?_
  refine Fr_icmp_ge (off := 77) 132 (by decide +kernel) (by decide) (fun hc => ?_) (fun hc => ?_)
  · have h := iT hc h
    obtain rfl := Option.some.inj h
    exact Fr_vret (by decide +kernel) rfl ⟨rfl, rfl⟩
  · have h := iF hc h
    refine Fr_iload (i := 4) 3 (by decide +kernel) rfl ?_
    refine Fr_aload_n (q := 3) (i := 3) 2 (by decide +kernel) rfl rfl ?_
    refine gf_X2_54 rfl (by decide +kernel) (o5_7 hp1) ?_
    refine Fr_icmp_ge (off := 68) 132 (by decide +kernel) (by decide) (fun hc => ?_) (fun hc => ?_)
    · have h := iT hc h
      obtain rfl := Option.some.inj h
      exact Fr_vret (by decide +kernel) rfl ⟨rfl, rfl⟩
    · have h := iF hc h
      refine Fr_aload_n (q := 3) (i := 3) 2 (by decide +kernel) rfl rfl ?_
      refine gf_X2_57 rfl (by decide +kernel) (o5_7 hp1) ?_
      refine Fr_iload (i := 4) 3 (by decide +kernel) rfl ?_
      obtain ⟨hi_9, h⟩ := ck_elim h
      refine Fr_iald (by decide +kernel) (o3_1 (o5_7 hp1)) (vp_of (n3_1 (o5_7 hp1)) hi_9) ?_
      refine Fr_bipush (i := 11) (v := 11) (by decide +kernel) (by decide) ?_
      refine Fr_icmp_ne (off := 15) 91 (by decide +kernel) (by decide) (fun hc => ?_) (fun hc => ?_)
      · have h := iF hc h
        refine Fr_aload_n (q := 0) (i := 0) 0 (by decide +kernel) rfl rfl ?_
        refine gf_X2_44 rfl (by decide +kernel) hp0 ?_
        refine Fr_sipush (i := 300) (v := 300) (by decide +kernel) (by decide) ?_
        refine Fr_icmp_lt (off := 9) 107 (by decide +kernel) (by decide) (fun hc => ?_) (fun hc => ?_)
        · have h := iT hc h
          refine Fr_aload_n (q := 0) (i := 0) 0 (by decide +kernel) rfl rfl ?_
          refine Fr_dup (by decide +kernel) rfl ?_
          refine gf_X2_44 rfl (by decide +kernel) hp0 ?_
          refine Fr_iconst (i := 1) (v := 1) (by decide +kernel) (by decide) ?_
          refine Fr_iadd (by decide +kernel) ?_
          refine pf_X2_44 rfl (by decide +kernel) hp0 ?_
          obtain ⟨M_10, eM_10, h⟩ := bM_elim h
          refine Fr_mem eM_10 ?_
          refine Fr_aload_n (q := 0) (i := 0) 0 (by decide +kernel) rfl rfl ?_
          refine Fr_aload_n (q := 1) (i := 1) 1 (by decide +kernel) rfl rfl ?_
          refine Fr_iload (i := 4) 3 (by decide +kernel) rfl ?_
          obtain ⟨r_13, M_11, hc_12, h⟩ := bi_elim h
          refine Fr_cVi (ν := m_X2_doStep) (As := [.ref p1, .int v4]) (st := []) (rc := p0) (ci := 2) (d' := 5) (by decide +kernel) ml_X2_64 cv_X2_doStep rfl (by decide) rfl hp0 rfl (by decide) (Nat.le_of_ble_eq_true rfl) (t_X2_doStep hp0 hp1 hc_12) ?_
          refine Fr_istore (i := 4) (lv' := [(4, .int r_13), (0, .ref p0), (1, .ref p1), (3, .ref (p1 + 7)), (5, .int v5)]) (by decide +kernel) (by decide) rfl ?_
          refine Fr_loc [1, 2, 3, 0, 4] rfl ?_
          exact t_X2_run_b126 hp0 hp1 hk51 h
        · have h := iF hc h
          refine Fr_aload_n (q := 0) (i := 0) 0 (by decide +kernel) rfl rfl ?_
          refine Fr_iconst (i := 1) (v := 1) (by decide +kernel) (by decide) ?_
          refine pf_X2_34 rfl (by decide +kernel) hp0 (by decide) ?_
          obtain ⟨M_14, eM_14, h⟩ := bM_elim h
          refine Fr_mem eM_14 ?_
          obtain rfl := Option.some.inj h
          exact Fr_vret (by decide +kernel) rfl ⟨rfl, rfl⟩
      · have h := iT hc h
        refine Fr_aload_n (q := 0) (i := 0) 0 (by decide +kernel) rfl rfl ?_
        refine Fr_aload_n (q := 3) (i := 3) 2 (by decide +kernel) rfl rfl ?_
        refine Fr_iload (i := 4) 3 (by decide +kernel) rfl ?_
        obtain ⟨r_17, M_15, hc_16, h⟩ := bi_elim h
        refine Fr_cVi (ν := m_X2_behindEnd) (As := [.ref (p1 + 7), .int v4]) (st := []) (rc := p0) (ci := 2) (d' := 0) (by decide +kernel) ml_X2_60 cv_X2_behindEnd rfl (by decide) rfl hp0 rfl (by decide) (Nat.le_of_ble_eq_true rfl) (t_X2_behindEnd hp0 (o5_7 hp1) hc_16) ?_
        refine Fr_istore (i := 4) (lv' := [(4, .int r_17), (0, .ref p0), (1, .ref p1), (3, .ref (p1 + 7)), (5, .int v5)]) (by decide +kernel) (by decide) rfl ?_
        refine Fr_goto (off := 38) 126 (by decide +kernel) (by decide) ?_
        refine Fr_loc [1, 2, 3, 0, 4] rfl ?_
        exact t_X2_run_b126 hp0 hp1 hk51 h
def f_X2_run (N : Nat) (p0 : Nat) (p1 : Nat) (x2 : Int32) (M : Mem) : Option (Mem) :=
  bM (uI M p0 2 x2) fun M_1 =>
  bM (uI M_1 p0 3 1) fun M_2 =>
  bM (uI M_2 p0 4 0) fun M_3 =>
  bM (uI M_3 p0 5 0) fun M_4 =>
  bM (uI M_4 p0 6 0) fun M_5 =>
  bM (uI M_5 p0 7 0) fun M_6 =>
  bM (uI M_6 p0 8 0) fun M_7 =>
  bM (uI M_7 p0 9 0) fun M_8 =>
  lp (fun k a m => f_X2_run_h51 N p0 p1 k a.1 a.2 m) N (0, 0) M_8
set_option maxRecDepth 20000 in
theorem t_X2_run {N : Nat} {p0 : Nat} {p1 : Nat} {x2 : Int32} (hp0 : Ob 0 111 p0 2) (hp1 : Ob 0 111 p1 5) {M : Mem} {q : Mem} (h : f_X2_run N p0 p1 x2 M = some q) : Ev 0 111 6 m_X2_run [.ref p0, .ref p1, .int x2] M (QV q) := by
  refine Ev_of_Fr (by decide +kernel) (Nat.le_of_ble_eq_true rfl) ?_
  show Fr 0 111 6 m_X2_run 0 [(0, .ref p0), (1, .ref p1), (2, .int x2)] [] M (QV q)
  unfold f_X2_run at h
  refine Fr_aload_n (q := 0) (i := 0) 0 (by decide +kernel) rfl rfl ?_
  refine Fr_iload_n (q := 2) (i := 2) 2 (by decide +kernel) rfl rfl ?_
  refine pf_X2_38 rfl (by decide +kernel) hp0 ?_
  obtain ⟨M_1, eM_1, h⟩ := bM_elim h
  refine Fr_mem eM_1 ?_
  refine Fr_aload_n (q := 0) (i := 0) 0 (by decide +kernel) rfl rfl ?_
  refine Fr_iconst (i := 1) (v := 1) (by decide +kernel) (by decide) ?_
  refine pf_X2_41 rfl (by decide +kernel) hp0 (by decide) ?_
  obtain ⟨M_2, eM_2, h⟩ := bM_elim h
  refine Fr_mem eM_2 ?_
  refine Fr_aload_n (q := 0) (i := 0) 0 (by decide +kernel) rfl rfl ?_
  refine Fr_iconst (i := 0) (v := 0) (by decide +kernel) (by decide) ?_
  refine pf_X2_44 rfl (by decide +kernel) hp0 ?_
  obtain ⟨M_3, eM_3, h⟩ := bM_elim h
  refine Fr_mem eM_3 ?_
  refine Fr_aload_n (q := 0) (i := 0) 0 (by decide +kernel) rfl rfl ?_
  refine Fr_iconst (i := 0) (v := 0) (by decide +kernel) (by decide) ?_
  refine pf_X2_21 rfl (by decide +kernel) hp0 ?_
  obtain ⟨M_4, eM_4, h⟩ := bM_elim h
  refine Fr_mem eM_4 ?_
  refine Fr_aload_n (q := 0) (i := 0) 0 (by decide +kernel) rfl rfl ?_
  refine Fr_iconst (i := 0) (v := 0) (by decide +kernel) (by decide) ?_
  refine pf_X2_25 rfl (by decide +kernel) hp0 ?_
  obtain ⟨M_5, eM_5, h⟩ := bM_elim h
  refine Fr_mem eM_5 ?_
  refine Fr_aload_n (q := 0) (i := 0) 0 (by decide +kernel) rfl rfl ?_
  refine Fr_iconst (i := 0) (v := 0) (by decide +kernel) (by decide) ?_
  refine pf_X2_28 rfl (by decide +kernel) hp0 ?_
  obtain ⟨M_6, eM_6, h⟩ := bM_elim h
  refine Fr_mem eM_6 ?_
  refine Fr_aload_n (q := 0) (i := 0) 0 (by decide +kernel) rfl rfl ?_
  refine Fr_iconst (i := 0) (v := 0) (by decide +kernel) (by decide) ?_
  refine pf_X2_31 rfl (by decide +kernel) hp0 ?_
  obtain ⟨M_7, eM_7, h⟩ := bM_elim h
  refine Fr_mem eM_7 ?_
  refine Fr_aload_n (q := 0) (i := 0) 0 (by decide +kernel) rfl rfl ?_
  refine Fr_iconst (i := 0) (v := 0) (by decide +kernel) (by decide) ?_
  refine pf_X2_34 rfl (by decide +kernel) hp0 (by decide) ?_
  obtain ⟨M_8, eM_8, h⟩ := bM_elim h
  refine Fr_mem eM_8 ?_
  refine Fr_aload_n (q := 1) (i := 1) 1 (by decide +kernel) rfl rfl ?_
  refine gf_X2_47 rfl (by decide +kernel) hp1 ?_
  refine Fr_astore_n (q := 3) (i := 3) (lv' := [(3, .ref (p1 + 7)), (0, .ref p0), (1, .ref p1), (2, .int x2)]) (by decide +kernel) rfl (by decide) rfl ?_
  refine Fr_iconst (i := 0) (v := 0) (by decide +kernel) (by decide) ?_
  refine Fr_istore (i := 4) (lv' := [(4, .int 0), (3, .ref (p1 + 7)), (0, .ref p0), (1, .ref p1), (2, .int x2)]) (by decide +kernel) (by decide) rfl ?_
  refine Fr_iconst (i := 0) (v := 0) (by decide +kernel) (by decide) ?_
  refine Fr_istore (i := 5) (lv' := [(5, .int 0), (4, .int 0), (3, .ref (p1 + 7)), (0, .ref p0), (1, .ref p1), (2, .int x2)]) (by decide +kernel) (by decide) rfl ?_
  refine Fr_loc [3, 4, 2, 1, 0] rfl ?_
  exact lp_sound (P := fun a M => Fr 0 111 6 m_X2_run 51 [(0, .ref p0), (1, .ref p1), (3, .ref (p1 + 7)), (4, .int a.1), (5, .int a.2)] [] M (QV q)) (fun k hk a m h => t_X2_run_h51 hp0 hp1 hk h) N (0, 0) M_8 h
