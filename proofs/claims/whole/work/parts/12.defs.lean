def f_X5_boardAt (p0 : Nat) (x1 : Int32) (x2 : Int32) (M : Mem) : Option (Int32 × Mem) :=
  some (((x2 * (M.1 p0 0)) + x1), M)
def f_X10_letIn_b91 (N : Nat) (p1 : Nat) (p2 : Nat) (k3 : Int32 × Int32 → Mem → Option (Mem)) (v3 : Int32) (v4 : Int32) (M : Mem) : Option (Mem) :=
  k3 (v3, (v4 + 1)) M
def f_X10_letIn_h3 (N : Nat) (p1 : Nat) (p2 : Nat) (k3 : Int32 × Int32 → Mem → Option (Mem)) (v3 : Int32) (v4 : Int32) (M : Mem) : Option (Mem) :=
  if (M.1 p1 7) ≤ v4 then (some M) else (if ((v3 >>> (v4 &&& 31)) &&& 1) = 1 then (ck (v4 * 5) 30 (
  ck ((v4 * 5) + 1) 30 (
  bi (f_X5_boardAt p1 (M.1 (p1 + 1) (tn (v4 * 5))) (M.1 (p1 + 1) (tn ((v4 * 5) + 1))) M) fun r_5 M_3 =>
  ck ((v4 * 5) + 3) 30 (
  bI (((M_3.1 (p1 + 1) (tn ((v4 * 5) + 3))) * 30) + r_5) fun y_7 =>
  ck y_7 (ln p2) (
  ck ((v4 * 5) + 2) 30 (
  ck y_7 (ln p2) (
  bM (uI M_3 p2 (tn y_7) (imin 999 ((M_3.1 p2 (tn y_7)) + (M_3.1 (p1 + 1) (tn ((v4 * 5) + 2)))))) fun M_11 =>
  f_X10_letIn_b91 N p1 p2 k3 v3 v4 M_11))))))) else (f_X10_letIn_b91 N p1 p2 k3 v3 v4 M))
def f_X10_letIn (N : Nat) (p1 : Nat) (p2 : Nat) (x3 : Int32) (M : Mem) : Option (Mem) :=
  lp (fun k a m => f_X10_letIn_h3 N p1 p2 k a.1 a.2 m) N (x3, 0) M
def f_X10_giveAround_b66 (p1 : Nat) (p2 : Nat) (v3 : Int32) (v5 : Int32) (v6 : Int32) (v7 : Int32) (M : Mem) : Option (Int32 × Mem) :=
  if ((M.1 p1 1) - 1) ≤ v5 then (some (v7, M)) else (ck (v3 + (M.1 p1 0)) (ln p2) (
  ck (v3 + (M.1 p1 0)) (ln p2) (
  bM (uI M p2 (tn (v3 + (M.1 p1 0))) ((M.1 p2 (tn (v3 + (M.1 p1 0)))) + v6)) fun M_3 =>
  some ((v7 + 1), M_3))))
def f_X10_giveAround_b45 (p1 : Nat) (p2 : Nat) (v3 : Int32) (v5 : Int32) (v6 : Int32) (v7 : Int32) (M : Mem) : Option (Int32 × Mem) :=
  if v5 ≤ 0 then (f_X10_giveAround_b66 p1 p2 v3 v5 v6 v7 M) else (ck (v3 - (M.1 p1 0)) (ln p2) (
  ck (v3 - (M.1 p1 0)) (ln p2) (
  bM (uI M p2 (tn (v3 - (M.1 p1 0))) ((M.1 p2 (tn (v3 - (M.1 p1 0)))) + v6)) fun M_6 =>
  f_X10_giveAround_b66 p1 p2 v3 v5 v6 (v7 + 1) M_6)))
def f_X10_giveAround_b21 (p1 : Nat) (p2 : Nat) (v3 : Int32) (v4 : Int32) (v5 : Int32) (v6 : Int32) (v7 : Int32) (M : Mem) : Option (Int32 × Mem) :=
  if ((M.1 p1 0) - 1) ≤ v4 then (f_X10_giveAround_b45 p1 p2 v3 v5 v6 v7 M) else (ck (v3 + 1) (ln p2) (
  ck (v3 + 1) (ln p2) (
  bM (uI M p2 (tn (v3 + 1)) ((M.1 p2 (tn (v3 + 1))) + v6)) fun M_9 =>
  f_X10_giveAround_b45 p1 p2 v3 v5 v6 (v7 + 1) M_9)))
def f_X10_giveAround (p1 : Nat) (p2 : Nat) (x3 : Int32) (x4 : Int32) (x5 : Int32) (x6 : Int32) (M : Mem) : Option (Int32 × Mem) :=
  if x4 ≤ 0 then (f_X10_giveAround_b21 p1 p2 x3 x4 x5 x6 0 M) else (ck (x3 - 1) (ln p2) (
  ck (x3 - 1) (ln p2) (
  bM (uI M p2 (tn (x3 - 1)) ((M.1 p2 (tn (x3 - 1))) + x6)) fun M_12 =>
  f_X10_giveAround_b21 p1 p2 x3 x4 x5 x6 (0 + 1) M_12)))
def f_X10_spread_b68 (N : Nat) (p1 : Nat) (p2 : Nat) (k6 : Int32 × Int32 → Mem → Option (Mem)) (k18 : Int32 × Int32 × Int32 → Mem → Option (Mem)) (v4 : Int32) (v5 : Int32) (v6 : Int32) (M : Mem) : Option (Mem) :=
  k18 ((v4 + 1), v5, (v6 + 1)) M
def f_X10_spread_h18 (N : Nat) (p1 : Nat) (p2 : Nat) (k6 : Int32 × Int32 → Mem → Option (Mem)) (k18 : Int32 × Int32 × Int32 → Mem → Option (Mem)) (v4 : Int32) (v5 : Int32) (v6 : Int32) (M : Mem) : Option (Mem) :=
  if (M.1 p1 0) ≤ v6 then (k6 (v4, (v5 + 1)) M) else (ck v4 60 (
  if ((M.1 91 (tn v4)) / 8) ≤ 0 then (f_X10_spread_b68 N p1 p2 k6 k18 v4 v5 v6 M) else (ck v4 (ln p2) (
  bi (f_X10_giveAround p1 p2 v4 v6 v5 ((M.1 91 (tn v4)) / 8) M) fun r_5 M_3 =>
  ck v4 (ln p2) (
  bM (uI M_3 p2 (tn v4) ((M.1 p2 (tn v4)) - (((M.1 91 (tn v4)) / 8) * r_5))) fun M_7 =>
  f_X10_spread_b68 N p1 p2 k6 k18 v4 v5 v6 M_7)))))
def f_X10_spread_h6 (N : Nat) (p1 : Nat) (p2 : Nat) (k6 : Int32 × Int32 → Mem → Option (Mem)) (v4 : Int32) (v5 : Int32) (M : Mem) : Option (Mem) :=
  if (M.1 p1 1) ≤ v5 then (some M) else (lp (fun k a m => f_X10_spread_h18 N p1 p2 k6 k a.1 a.2.1 a.2.2 m) N (v4, v5, 0) M)
def f_X10_spread (N : Nat) (p1 : Nat) (p2 : Nat) (x3 : Int32) (M : Mem) : Option (Mem) :=
  lp (fun k a m => f_X10_spread_h6 N p1 p2 k a.1 a.2 m) N (x3, 0) M
def f_X5_isBoard (p0 : Nat) (x1 : Int32) (x2 : Int32) (M : Mem) : Option (Bool × Mem) :=
  if x1 < 0 then (some (false, M)) else (if (M.1 p0 0) ≤ x1 then (some (false, M)) else (if x2 < 0 then (some (false, M)) else (if (M.1 p0 1) ≤ x2 then (some (false, M)) else (some (true, M)))))
def f_X10_blow_b113 (N : Nat) (p1 : Nat) (p2 : Nat) (k38 : Int32 × Int32 × Int32 × Int32 × Int32 → Mem → Option (Mem)) (k50 : Int32 × Int32 × Int32 × Int32 × Int32 × Int32 → Mem → Option (Mem)) (v4 : Int32) (v5 : Int32) (v6 : Int32) (v7 : Int32) (v8 : Int32) (v9 : Int32) (M : Mem) : Option (Mem) :=
  k50 (v4, v5, v6, (v7 + 1), v8, (v9 + 1)) M
def f_X10_blow_h50 (N : Nat) (p1 : Nat) (p2 : Nat) (k38 : Int32 × Int32 × Int32 × Int32 × Int32 → Mem → Option (Mem)) (k50 : Int32 × Int32 × Int32 × Int32 × Int32 × Int32 → Mem → Option (Mem)) (v4 : Int32) (v5 : Int32) (v6 : Int32) (v7 : Int32) (v8 : Int32) (v9 : Int32) (M : Mem) : Option (Mem) :=
  if (M.1 p1 0) ≤ v9 then (k38 (v4, v5, v6, v7, (v8 + 1)) M) else (ck v7 60 (
  ck v7 (ln p2) (
  ck v7 (ln p2) (
  bM (uI M p2 (tn v7) ((M.1 p2 (tn v7)) - ((M.1 91 (tn v7)) / 4))) fun M_7 =>
  if ((M.1 91 (tn v7)) / 4) ≤ 0 then (f_X10_blow_b113 N p1 p2 k38 k50 v4 v5 v6 v7 v8 v9 M_7) else (bi (f_X5_isBoard p1 (v9 + v4) (v8 + v5) M_7) fun r_10 M_8 =>
  if (b2i r_10) = 0 then (f_X10_blow_b113 N p1 p2 k38 k50 v4 v5 v6 v7 v8 v9 M_8) else (ck (v7 + v6) (ln p2) (
  ck (v7 + v6) (ln p2) (
  bM (uI M_8 p2 (tn (v7 + v6)) ((M_8.1 p2 (tn (v7 + v6))) + ((M.1 91 (tn v7)) / 4))) fun M_13 =>
  f_X10_blow_b113 N p1 p2 k38 k50 v4 v5 v6 v7 v8 v9 M_13))))))))
def f_X10_blow_h38 (N : Nat) (p1 : Nat) (p2 : Nat) (k38 : Int32 × Int32 × Int32 × Int32 × Int32 → Mem → Option (Mem)) (v4 : Int32) (v5 : Int32) (v6 : Int32) (v7 : Int32) (v8 : Int32) (M : Mem) : Option (Mem) :=
  if (M.1 p1 1) ≤ v8 then (some M) else (lp (fun k a m => f_X10_blow_h50 N p1 p2 k38 k a.1 a.2.1 a.2.2.1 a.2.2.2.1 a.2.2.2.2.1 a.2.2.2.2.2 m) N (v4, v5, v6, v7, v8, 0) M)
def f_X10_blow (N : Nat) (p1 : Nat) (p2 : Nat) (x3 : Int32) (M : Mem) : Option (Mem) :=
  ck (M.1 p1 2) 5 (
  ck (M.1 p1 2) 5 (
  bI (((sta 1 (tn (M.1 p1 2))) * (M.1 p1 0)) + (sta 0 (tn (M.1 p1 2)))) fun y_3 =>
  lp (fun k a m => f_X10_blow_h38 N p1 p2 k a.1 a.2.1 a.2.2.1 a.2.2.2.1 a.2.2.2.2 m) N ((sta 0 (tn (M.1 p1 2))), (sta 1 (tn (M.1 p1 2))), y_3, x3, 0) M))
def f_X5_boardCount (p0 : Nat) (M : Mem) : Option (Int32 × Mem) :=
  some (((M.1 p0 0) * (M.1 p0 1)), M)
def f_X10_settle_h8 (N : Nat) (p1 : Nat) (p2 : Nat) (k8 : Int32 × Int32 → Mem → Option (Mem)) (v3 : Int32) (v4 : Int32) (M : Mem) : Option (Mem) :=
  if v3 ≤ v4 then (some M) else (ck v4 (ln p2) (
  bI (imin 999 (M.1 p2 (tn v4))) fun y_5 =>
  ck (30 + v4) (ln p2) (
  bI (imin 999 (M.1 p2 (tn (30 + v4)))) fun y_7 =>
  ck v4 (ln p2) (
  bM (uI M p2 (tn v4) (imax 0 ((y_5 - (imin y_5 y_7)) - (M.1 p1 3)))) fun M_9 =>
  ck (30 + v4) (ln p2) (
  bM (uI M_9 p2 (tn (30 + v4)) (imax 0 ((y_7 - (imin y_5 y_7)) - (M_9.1 p1 3)))) fun M_11 =>
  k8 (v3, (v4 + 1)) M_11)))))
def f_X10_settle (N : Nat) (p1 : Nat) (p2 : Nat) (M : Mem) : Option (Mem) :=
  bi (f_X5_boardCount p1 M) fun r_3 M_1 =>
  lp (fun k a m => f_X10_settle_h8 N p1 p2 k a.1 a.2 m) N (r_3, 0) M_1
def f_X10_passHour_b55 (N : Nat) (p1 : Nat) (p2 : Nat) (k22 : Int32 → Mem → Option (Mem)) (v4 : Int32) (M : Mem) : Option (Mem) :=
  k22 (v4 + 30) M
def f_X10_passHour_h22 (N : Nat) (p1 : Nat) (p2 : Nat) (k22 : Int32 → Mem → Option (Mem)) (v4 : Int32) (M : Mem) : Option (Mem) :=
  if 60 ≤ v4 then (bv (f_X10_settle N p1 p2 M) fun M_5 =>
  some M_5) else (if (M.1 p1 2) = 0 then (bv (f_X10_spread N p1 p2 v4 M) fun M_9 =>
  f_X10_passHour_b55 N p1 p2 k22 v4 M_9) else (bv (f_X10_blow N p1 p2 v4 M) fun M_7 =>
  f_X10_passHour_b55 N p1 p2 k22 v4 M_7))
def f_X10_passHour (N : Nat) (p1 : Nat) (p2 : Nat) (x3 : Int32) (M : Mem) : Option (Mem) :=
  bv (f_X10_letIn N p1 p2 x3 M) fun M_1 =>
  acp 0 0 60 (ln p2) 60 (
  bM (rI M_1 91 (va_cpy (M_1.1 p2) (M_1.1 91) (tn 0) (tn 0) (tn 60))) fun M_3 =>
  lp (fun k a m => f_X10_passHour_h22 N p1 p2 k a m) N 0 M_3)
def f_X0_look_h17 (N : Nat) (p1 : Nat) (k17 : Int32 × Int32 → Mem → Option (Mem)) (v2 : Int32) (v3 : Int32) (M : Mem) : Option (Mem) :=
  if v2 ≤ v3 then (some M) else (bv (f_X10_passHour N p1 94 (M.1 p1 6) M) fun M_2 =>
  k17 (v2, (v3 + 1)) M_2)
def f_X0_look (N : Nat) (p1 : Nat) (x2 : Int32) (M : Mem) : Option (Mem) :=
  bM (rI M 94 (va_cpy (M.1 (p1 + 6)) (M.1 94) (tn 0) (tn 0) (tn 60))) fun M_1 =>
  lp (fun k a m => f_X0_look_h17 N p1 k a.1 a.2 m) N (x2, 0) M_1
def f_X5_bothKinds (p0 : Nat) (x1 : Int32) (M : Mem) : Option (Int32 × Mem) :=
  ck x1 (ln p0) (
  ck (30 + x1) (ln p0) (
  some (((M.1 p0 (tn x1)) + (M.1 p0 (tn (30 + x1)))), M)))
def f_X5_isFoggy (p0 : Nat) (p1 : Nat) (x2 : Int32) (M : Mem) : Option (Bool × Mem) :=
  bi (f_X5_bothKinds p1 x2 M) fun r_3 M_1 =>
  if r_3 < (M_1.1 p0 4) then (some (false, M_1)) else (some (true, M_1))
def f_X0_firstHour_h18 (N : Nat) (p1 : Nat) (k18 : Int32 × Int32 × Int32 → Mem → Option (Int32 × Mem)) (v2 : Int32) (v3 : Int32) (v4 : Int32) (M : Mem) : Option (Int32 × Mem) :=
  if 48 < v4 then (some ((-1), M)) else (bi (f_X5_isFoggy p1 94 v2 M) fun r_4 M_2 =>
  if (b2i r_4) = v3 then (some (v4, M_2)) else (bv (f_X10_passHour N p1 94 (M_2.1 p1 6) M_2) fun M_5 =>
  k18 (v2, v3, (v4 + 1)) M_5))
def f_X0_firstHour (N : Nat) (p1 : Nat) (x2 : Int32) (x3 : Int32) (M : Mem) : Option (Int32 × Mem) :=
  bM (rI M 94 (va_cpy (M.1 (p1 + 6)) (M.1 94) (tn 0) (tn 0) (tn 60))) fun M_1 =>
  lp (fun k a m => f_X0_firstHour_h18 N p1 k a.1 a.2.1 a.2.2 m) N (x2, x3, 0) M_1
def f_X5_countFoggy_b38 (N : Nat) (p0 : Nat) (p1 : Nat) (k10 : Int32 × Int32 × Int32 → Mem → Option (Int32 × Mem)) (v2 : Int32) (v3 : Int32) (v4 : Int32) (M : Mem) : Option (Int32 × Mem) :=
  k10 (v2, v3, (v4 + 1)) M
def f_X5_countFoggy_h10 (N : Nat) (p0 : Nat) (p1 : Nat) (k10 : Int32 × Int32 × Int32 → Mem → Option (Int32 × Mem)) (v2 : Int32) (v3 : Int32) (v4 : Int32) (M : Mem) : Option (Int32 × Mem) :=
  if v2 ≤ v4 then (some (v3, M)) else (ck v4 (ln p1) (
  ck (30 + v4) (ln p1) (
  if ((M.1 p1 (tn v4)) + (M.1 p1 (tn (30 + v4)))) < (M.1 p0 4) then (f_X5_countFoggy_b38 N p0 p1 k10 v2 v3 v4 M) else (f_X5_countFoggy_b38 N p0 p1 k10 v2 (v3 + 1) v4 M))))
def f_X5_countFoggy (N : Nat) (p0 : Nat) (p1 : Nat) (M : Mem) : Option (Int32 × Mem) :=
  bi (f_X5_boardCount p0 M) fun r_3 M_1 =>
  lp (fun k a m => f_X5_countFoggy_h10 N p0 p1 k a.1 a.2.1 a.2.2 m) N (r_3, 0, 0) M_1
def f_X0_foggiestHour_b68 (N : Nat) (p1 : Nat) (k23 : Int32 × Int32 × Int32 × Int32 → Mem → Option (Int32 × Mem)) (v2 : Int32) (v3 : Int32) (v4 : Int32) (v5 : Int32) (M : Mem) : Option (Int32 × Mem) :=
  k23 (v2, v3, v4, (v5 + 1)) M
def f_X0_foggiestHour_h23 (N : Nat) (p1 : Nat) (k23 : Int32 × Int32 × Int32 × Int32 → Mem → Option (Int32 × Mem)) (v2 : Int32) (v3 : Int32) (v4 : Int32) (v5 : Int32) (M : Mem) : Option (Int32 × Mem) :=
  if v2 < v5 then (some (v4, M)) else (bv (f_X10_passHour N p1 94 (M.1 p1 6) M) fun M_2 =>
  bi (f_X5_countFoggy N p1 94 M_2) fun r_6 M_4 =>
  if r_6 ≤ v3 then (f_X0_foggiestHour_b68 N p1 k23 v2 v3 v4 v5 M_4) else (f_X0_foggiestHour_b68 N p1 k23 v2 r_6 v5 v5 M_4))
def f_X0_foggiestHour (N : Nat) (p1 : Nat) (x2 : Int32) (M : Mem) : Option (Int32 × Mem) :=
  bM (rI M 94 (va_cpy (M.1 (p1 + 6)) (M.1 94) (tn 0) (tn 0) (tn 60))) fun M_1 =>
  lp (fun k a m => f_X0_foggiestHour_h23 N p1 k a.1 a.2.1 a.2.2.1 a.2.2.2 m) N (x2, (-1), 1, 1) M_1
def f_X5_payOf_b35 (N : Nat) (p0 : Nat) (k4 : Int32 × Int32 × Int32 → Mem → Option (Int32 × Mem)) (v1 : Int32) (v2 : Int32) (v3 : Int32) (M : Mem) : Option (Int32 × Mem) :=
  k4 (v1, v2, (v3 + 1)) M
def f_X5_payOf_h4 (N : Nat) (p0 : Nat) (k4 : Int32 × Int32 × Int32 → Mem → Option (Int32 × Mem)) (v1 : Int32) (v2 : Int32) (v3 : Int32) (M : Mem) : Option (Int32 × Mem) :=
  if (M.1 p0 9) ≤ v3 then (some (v2, M)) else (if ((v1 >>> (v3 &&& 31)) &&& 1) = 1 then (ck ((v3 * 6) + 4) 36 (
  bI (v2 + (M.1 (p0 + 4) (tn ((v3 * 6) + 4)))) fun y_2 =>
  f_X5_payOf_b35 N p0 k4 v1 y_2 v3 M)) else (f_X5_payOf_b35 N p0 k4 v1 v2 v3 M))
def f_X5_payOf (N : Nat) (p0 : Nat) (x1 : Int32) (M : Mem) : Option (Int32 × Mem) :=
  lp (fun k a m => f_X5_payOf_h4 N p0 k a.1 a.2.1 a.2.2 m) N (x1, 0, 0) M
def f_X0_begin_h46 (N : Nat) (p1 : Nat) (k46 : Int32 → Mem → Option (Mem)) (v2 : Int32) (M : Mem) : Option (Mem) :=
  if (M.1 p1 9) ≤ v2 then (some M) else (ck ((v2 * 6) + 3) 36 (
  bM (uI M 93 5 (imax (M.1 93 5) (M.1 (p1 + 4) (tn ((v2 * 6) + 3))))) fun M_9 =>
  k46 (v2 + 1) M_9))
def f_X0_begin (N : Nat) (p1 : Nat) (M : Mem) : Option (Mem) :=
  bM (rI M 94 (va_cpy (M.1 (p1 + 6)) (M.1 94) (tn 0) (tn 0) (tn 60))) fun M_1 =>
  bM (uI M_1 93 3 ((1 <<< ((M_1.1 p1 9) &&& 31)) - 1)) fun M_2 =>
  bi (f_X5_payOf N p1 (M_2.1 93 3) M_2) fun r_5 M_3 =>
  bM (uI M_3 93 4 r_5) fun M_6 =>
  bM (uI M_6 93 5 0) fun M_7 =>
  lp (fun k a m => f_X0_begin_h46 N p1 k a m) N 0 M_7
def f_X0_spoil_b154 (N : Nat) (p1 : Nat) (k2 : Int32 × Int32 → Mem → Option (Mem)) (v2 : Int32) (v3 : Int32) (M : Mem) : Option (Mem) :=
  k2 (v2, (v3 + 1)) M
def f_X0_spoil_b105 (N : Nat) (p1 : Nat) (k2 : Int32 × Int32 → Mem → Option (Mem)) (v2 : Int32) (v3 : Int32) (v4 : Int32) (v6 : Int32) (s0 : Int32) (M : Mem) : Option (Mem) :=
  bi (f_X5_isFoggy p1 94 v6 M) fun r_10 M_8 =>
  if (b2i r_10) = s0 then (f_X0_spoil_b154 N p1 k2 v2 v3 M_8) else (bM (uI M_8 93 3 ((M_8.1 93 3) &&& ((1 <<< (v3 &&& 31)) ^^^ (-1)))) fun M_11 =>
  ck (v4 + 4) 36 (
  bM (uI M_11 93 4 ((M_11.1 93 4) - (M_11.1 (p1 + 4) (tn (v4 + 4))))) fun M_13 =>
  f_X0_spoil_b154 N p1 k2 v2 v3 M_13))
def f_X0_spoil_b47 (N : Nat) (p1 : Nat) (k2 : Int32 × Int32 → Mem → Option (Mem)) (v2 : Int32) (v3 : Int32) (v4 : Int32) (s0 : Int32) (M : Mem) : Option (Mem) :=
  if s0 = 0 then (f_X0_spoil_b154 N p1 k2 v2 v3 M) else (if (((M.1 93 3) >>> (v3 &&& 31)) &&& 1) = 1 then (ck v4 36 (
  ck (v4 + 1) 36 (
  bi (f_X5_boardAt p1 (M.1 (p1 + 4) (tn v4)) (M.1 (p1 + 4) (tn (v4 + 1))) M) fun r_6 M_4 =>
  ck (v4 + 5) 36 (
  if (M_4.1 (p1 + 4) (tn (v4 + 5))) = 0 then (f_X0_spoil_b105 N p1 k2 v2 v3 v4 r_6 1 M_4) else (f_X0_spoil_b105 N p1 k2 v2 v3 v4 r_6 0 M_4))))) else (f_X0_spoil_b154 N p1 k2 v2 v3 M))
def f_X0_spoil_b46 (N : Nat) (p1 : Nat) (k2 : Int32 × Int32 → Mem → Option (Mem)) (v2 : Int32) (v3 : Int32) (v4 : Int32) (M : Mem) : Option (Mem) :=
  f_X0_spoil_b47 N p1 k2 v2 v3 v4 0 M
def f_X0_spoil_h2 (N : Nat) (p1 : Nat) (k2 : Int32 × Int32 → Mem → Option (Mem)) (v2 : Int32) (v3 : Int32) (M : Mem) : Option (Mem) :=
  if (M.1 p1 9) ≤ v3 then (some M) else (ck ((v3 * 6) + 2) 36 (
  if v2 < (M.1 (p1 + 4) (tn ((v3 * 6) + 2))) then (f_X0_spoil_b46 N p1 k2 v2 v3 (v3 * 6) M) else (ck ((v3 * 6) + 3) 36 (
  if (M.1 (p1 + 4) (tn ((v3 * 6) + 3))) < v2 then (f_X0_spoil_b46 N p1 k2 v2 v3 (v3 * 6) M) else (f_X0_spoil_b47 N p1 k2 v2 v3 (v3 * 6) 1 M)))))
def f_X0_spoil (N : Nat) (p1 : Nat) (x2 : Int32) (M : Mem) : Option (Mem) :=
  lp (fun k a m => f_X0_spoil_h2 N p1 k a.1 a.2 m) N (x2, 0) M
def f_X0_follow_h3 (N : Nat) (p1 : Nat) (k3 : Int32 × Int32 × Int32 × Int32 → Mem → Option (Mem)) (v2 : Int32) (v4 : Int32) (v5 : Int32) (v6 : Int32) (M : Mem) : Option (Mem) :=
  if v4 < v6 then (some M) else (if (M.1 93 5) < v6 then (some M) else (if v5 < (M.1 93 4) then (bv (f_X10_passHour N p1 94 v2 M) fun M_1 =>
  bv (f_X0_spoil N p1 v6 M_1) fun M_3 =>
  k3 (v2, v4, v5, (v6 + 1)) M_3) else (some M)))
def f_X0_follow (N : Nat) (p1 : Nat) (x2 : Int32) (x3 : Int32) (x4 : Int32) (x5 : Int32) (M : Mem) : Option (Mem) :=
  lp (fun k a m => f_X0_follow_h3 N p1 k a.1 a.2.1 a.2.2.1 a.2.2.2 m) N (x2, x4, x5, x3) M
def f_X0_servedSet (N : Nat) (p1 : Nat) (M : Mem) : Option (Int32 × Mem) :=
  bv (f_X0_begin N p1 M) fun M_1 =>
  bv (f_X0_follow N p1 (M_1.1 p1 6) 1 24 (-1) M_1) fun M_3 =>
  some ((M_3.1 93 3), M_3)
def f_J6_bitCount_0f7a4 (x0 : Int32) (M : Mem) : Option (Int32 × Mem) :=
  bI (x0 - ((ush x0 1) &&& 1431655765)) fun y_1 =>
  bI ((y_1 &&& 858993459) + ((ush y_1 2) &&& 858993459)) fun y_2 =>
  bI ((y_2 + (ush y_2 4)) &&& 252645135) fun y_3 =>
  bI ((y_3 + (ush y_3 8)) + (ush (y_3 + (ush y_3 8)) 16)) fun y_4 =>
  some ((y_4 &&& 63), M)
def f_X0_tryPlan (N : Nat) (p1 : Nat) (x2 : Int32) (M : Mem) : Option (Mem) :=
  bv (f_X0_begin N p1 M) fun M_1 =>
  bv (f_X0_follow N p1 x2 1 24 (M_1.1 93 6) M_1) fun M_3 =>
  if (M_3.1 93 4) ≤ (M_3.1 93 6) then (some M_3) else (bM (uI M_3 93 6 (M_3.1 93 4)) fun M_5 =>
  bM (uI M_5 93 7 x2) fun M_6 =>
  some M_6)
def f_X0_findPlan_b52 (N : Nat) (p1 : Nat) (k19 : Int32 × Int32 → Mem → Option (Mem)) (k30 : Int32 × Int32 × Int32 → Mem → Option (Mem)) (v2 : Int32) (v3 : Int32) (v4 : Int32) (M : Mem) : Option (Mem) :=
  k30 (v2, v3, (v4 + 1)) M
def f_X0_findPlan_h30 (N : Nat) (p1 : Nat) (k19 : Int32 × Int32 → Mem → Option (Mem)) (k30 : Int32 × Int32 × Int32 → Mem → Option (Mem)) (v2 : Int32) (v3 : Int32) (v4 : Int32) (M : Mem) : Option (Mem) :=
  if v2 ≤ v4 then (k19 (v2, (v3 + 1)) M) else (bi (f_J6_bitCount_0f7a4 v4 M) fun r_6 M_4 =>
  if r_6 = v3 then (bv (f_X0_tryPlan N p1 v4 M_4) fun M_7 =>
  f_X0_findPlan_b52 N p1 k19 k30 v2 v3 v4 M_7) else (f_X0_findPlan_b52 N p1 k19 k30 v2 v3 v4 M_4))
def f_X0_findPlan_h19 (N : Nat) (p1 : Nat) (k19 : Int32 × Int32 → Mem → Option (Mem)) (v2 : Int32) (v3 : Int32) (M : Mem) : Option (Mem) :=
  if (M.1 p1 7) < v3 then (some M) else (lp (fun k a m => f_X0_findPlan_h30 N p1 k19 k a.1 a.2.1 a.2.2 m) N (v2, v3, 0) M)
def f_X0_findPlan (N : Nat) (p1 : Nat) (M : Mem) : Option (Mem) :=
  bM (uI M 93 6 (-1)) fun M_1 =>
  bM (uI M_1 93 7 0) fun M_2 =>
  bI (1 <<< ((M_2.1 p1 7) &&& 31)) fun y_3 =>
  lp (fun k a m => f_X0_findPlan_h19 N p1 k a.1 a.2 m) N (y_3, 0) M_2
def f_X0_trySeconds_b118 (N : Nat) (p1 : Nat) (k38 : Int32 × Int32 × Int32 × Int32 × Int32 × Int32 → Mem → Option (Mem)) (v2 : Int32) (v3 : Int32) (v4 : Int32) (v5 : Int32) (v6 : Int32) (v7 : Int32) (M : Mem) : Option (Mem) :=
  k38 (v2, v3, v4, v5, v6, (v7 + 1)) M
def f_X0_trySeconds_h38 (N : Nat) (p1 : Nat) (k38 : Int32 × Int32 × Int32 × Int32 × Int32 × Int32 → Mem → Option (Mem)) (v2 : Int32) (v3 : Int32) (v4 : Int32) (v5 : Int32) (v6 : Int32) (v7 : Int32) (M : Mem) : Option (Mem) :=
  if v6 ≤ v7 then (some M) else (bM (rI M 94 (va_cpy (M.1 95) (M.1 94) (tn 0) (tn 0) (tn 60))) fun M_3 =>
  bM (uI M_3 93 3 v4) fun M_4 =>
  bM (uI M_4 93 4 v5) fun M_5 =>
  bv (f_X0_follow N p1 v7 (v3 + 1) 24 (M_5.1 93 6) M_5) fun M_6 =>
  if (M_6.1 93 4) ≤ (M_6.1 93 6) then (f_X0_trySeconds_b118 N p1 k38 v2 v3 v4 v5 v6 v7 M_6) else (bM (uI M_6 93 6 (M_6.1 93 4)) fun M_8 =>
  bM (uI M_8 93 7 v2) fun M_9 =>
  bM (uI M_9 93 8 v7) fun M_10 =>
  f_X0_trySeconds_b118 N p1 k38 v2 v3 v4 v5 v6 v7 M_10))
def f_X0_trySeconds (N : Nat) (p1 : Nat) (x2 : Int32) (x3 : Int32) (M : Mem) : Option (Mem) :=
  bM (rI M 95 (va_cpy (M.1 94) (M.1 95) (tn 0) (tn 0) (tn 60))) fun M_1 =>
  bI (1 <<< ((M_1.1 p1 7) &&& 31)) fun y_2 =>
  lp (fun k a m => f_X0_trySeconds_h38 N p1 k a.1 a.2.1 a.2.2.1 a.2.2.2.1 a.2.2.2.2.1 a.2.2.2.2.2 m) N (x2, x3, (M.1 93 3), (M.1 93 4), y_2, 0) M_1
def f_X0_findTurn_b68 (N : Nat) (p1 : Nat) (k25 : Int32 × Int32 × Int32 → Mem → Option (Mem)) (v2 : Int32) (v3 : Int32) (v4 : Int32) (M : Mem) : Option (Mem) :=
  k25 (v2, v3, (v4 + 1)) M
def f_X0_findTurn_h25 (N : Nat) (p1 : Nat) (k25 : Int32 × Int32 × Int32 → Mem → Option (Mem)) (v2 : Int32) (v3 : Int32) (v4 : Int32) (M : Mem) : Option (Mem) :=
  if v3 ≤ v4 then (some M) else (bv (f_X0_begin N p1 M) fun M_5 =>
  bv (f_X0_follow N p1 v4 1 v2 (M_5.1 93 6) M_5) fun M_7 =>
  if (M_7.1 93 4) ≤ (M_7.1 93 6) then (f_X0_findTurn_b68 N p1 k25 v2 v3 v4 M_7) else (bv (f_X0_trySeconds N p1 v4 v2 M_7) fun M_9 =>
  f_X0_findTurn_b68 N p1 k25 v2 v3 v4 M_9))
def f_X0_findTurn (N : Nat) (p1 : Nat) (x2 : Int32) (M : Mem) : Option (Mem) :=
  bM (uI M 93 6 (-1)) fun M_1 =>
  bM (uI M_1 93 7 0) fun M_2 =>
  bM (uI M_2 93 8 0) fun M_3 =>
  bI (1 <<< ((M_3.1 p1 7) &&& 31)) fun y_4 =>
  lp (fun k a m => f_X0_findTurn_h25 N p1 k a.1 a.2.1 a.2.2 m) N (x2, y_4, 0) M_3
def f_J7_fill_53178_h5 (N : Nat) (p0 : Nat) (k5 : Int32 × Int32 × Int32 → Mem → Option (Mem)) (v1 : Int32) (v2 : Int32) (v3 : Int32) (M : Mem) : Option (Mem) :=
  if v3 ≤ v2 then (some M) else (ck v2 (ln p0) (
  bM (uI M p0 (tn v2) v1) fun M_2 =>
  k5 (v1, (v2 + 1), v3) M_2))
def f_J7_fill_53178 (N : Nat) (p0 : Nat) (x1 : Int32) (M : Mem) : Option (Mem) :=
  lp (fun k a m => f_J7_fill_53178_h5 N p0 k a.1 a.2.1 a.2.2 m) N (x1, 0, (Int32.ofNat (ln p0))) M
def f_X1_takeTry_b112 (N : Nat) (k65 : Int32 × Int32 × Int32 × Int32 → Mem → Option (Bool × Mem)) (v3 : Int32) (v4 : Int32) (v5 : Int32) (v6 : Int32) (M : Mem) : Option (Bool × Mem) :=
  k65 (v3, v4, v5, (v6 + 1)) M
def f_X1_takeTry_b96 (N : Nat) (k65 : Int32 × Int32 × Int32 × Int32 → Mem → Option (Bool × Mem)) (v3 : Int32) (v4 : Int32) (v5 : Int32) (v6 : Int32) (s0 : Int32) (s1 : Int32) (M : Mem) : Option (Bool × Mem) :=
  if s1 = s0 then (ck ((v3 * 6) + v6) 36 (
  bM (uI M 104 (tn ((v3 * 6) + v6)) 0) fun M_4 =>
  f_X1_takeTry_b112 N k65 v3 v4 v5 v6 M_4)) else (f_X1_takeTry_b112 N k65 v3 v4 v5 v6 M)
def f_X1_takeTry_b86 (N : Nat) (k65 : Int32 × Int32 × Int32 × Int32 → Mem → Option (Bool × Mem)) (v3 : Int32) (v4 : Int32) (v5 : Int32) (v6 : Int32) (s0 : Int32) (M : Mem) : Option (Bool × Mem) :=
  if v5 = 0 then (f_X1_takeTry_b96 N k65 v3 v4 v5 v6 1 s0 M) else (f_X1_takeTry_b96 N k65 v3 v4 v5 v6 0 s0 M)
def f_X1_takeTry_h65 (N : Nat) (k65 : Int32 × Int32 × Int32 × Int32 → Mem → Option (Bool × Mem)) (v3 : Int32) (v4 : Int32) (v5 : Int32) (v6 : Int32) (M : Mem) : Option (Bool × Mem) :=
  if (M.1 103 0) ≤ v6 then (some (true, M)) else (if v6 = v4 then (f_X1_takeTry_b86 N k65 v3 v4 v5 v6 1 M) else (f_X1_takeTry_b86 N k65 v3 v4 v5 v6 0 M))
def f_X1_takeTry (N : Nat) (x1 : Int64) (M : Mem) : Option (Bool × Mem) :=
  if (lg_cmp x1 0) < 0 then (some (false, M)) else (if (lg_cmp x1 (100 * (Int32.toInt64 (M.1 103 0)))) < 0 then (bI (((Int64.toInt32 x1) / 10) - ((Int64.toInt32 x1) / 10) / 10 * 10) fun y_1 =>
  bI ((Int64.toInt32 x1) - (Int64.toInt32 x1) / 10 * 10) fun y_2 =>
  if (M.1 103 0) ≤ y_1 then (some (false, M)) else (if y_2 ≤ 1 then (lp (fun k a m => f_X1_takeTry_h65 N k a.1 a.2.1 a.2.2.1 a.2.2.2 m) N (((Int64.toInt32 x1) / 100), y_1, y_2, 0) M) else (some (false, M)))) else (some (false, M)))
def f_X1_canFollow (x1 : Int32) (x2 : Int32) (M : Mem) : Option (Bool × Mem) :=
  bi (f_J6_bitCount_0f7a4 x1 M) fun r_3 M_1 =>
  if (M_1.1 103 0) ≤ r_3 then (some (false, M_1)) else (if ((x1 >>> (x2 &&& 31)) &&& 1) = 0 then (ck ((r_3 * 6) + x2) 36 (
  if (M_1.1 104 (tn ((r_3 * 6) + x2))) = 1 then (some (true, M_1)) else (some (false, M_1)))) else (some (false, M_1)))
def f_X1_countWays_b142 (N : Nat) (k100 : Int32 × Int32 → Mem → Option (Mem)) (k106 : Int32 × Int32 × Int32 → Mem → Option (Mem)) (v1 : Int32) (v2 : Int32) (v3 : Int32) (M : Mem) : Option (Mem) :=
  k106 (v1, v2, (v3 + 1)) M
def f_X1_countWays_h106 (N : Nat) (k100 : Int32 × Int32 → Mem → Option (Mem)) (k106 : Int32 × Int32 × Int32 → Mem → Option (Mem)) (v1 : Int32) (v2 : Int32) (v3 : Int32) (M : Mem) : Option (Mem) :=
  if (M.1 103 0) ≤ v3 then (k100 (v1, (v2 + (-1))) M) else (bi (f_X1_canFollow v2 v3 M) fun r_14 M_12 =>
  if (b2i r_14) = 0 then (f_X1_countWays_b142 N k100 k106 v1 v2 v3 M_12) else (ck v2 64 (
  ck (v2 ||| (1 <<< (v3 &&& 31))) 64 (
  ck v2 64 (
  bM (uI M_12 106 (tn v2) ((M_12.1 106 (tn v2)) + (M_12.1 106 (tn (v2 ||| (1 <<< (v3 &&& 31))))))) fun M_18 =>
  f_X1_countWays_b142 N k100 k106 v1 v2 v3 M_18)))))
def f_X1_countWays_h100 (N : Nat) (k100 : Int32 × Int32 → Mem → Option (Mem)) (v1 : Int32) (v2 : Int32) (M : Mem) : Option (Mem) :=
  if v2 < 0 then (ck v1 64 (
  bM (uI M 103 1 (M.1 105 (tn v1))) fun M_11 =>
  some M_11)) else (lp (fun k a m => f_X1_countWays_h106 N k100 k a.1 a.2.1 a.2.2 m) N (v1, v2, 0) M)
def f_X1_countWays_b84 (N : Nat) (k41 : Int32 × Int32 → Mem → Option (Mem)) (k48 : Int32 × Int32 × Int32 → Mem → Option (Mem)) (v1 : Int32) (v2 : Int32) (v3 : Int32) (M : Mem) : Option (Mem) :=
  k48 (v1, v2, (v3 + 1)) M
def f_X1_countWays_h48 (N : Nat) (k41 : Int32 × Int32 → Mem → Option (Mem)) (k48 : Int32 × Int32 × Int32 → Mem → Option (Mem)) (v1 : Int32) (v2 : Int32) (v3 : Int32) (M : Mem) : Option (Mem) :=
  if (M.1 103 0) ≤ v3 then (k41 (v1, (v2 + 1)) M) else (bi (f_X1_canFollow v2 v3 M) fun r_21 M_19 =>
  if (b2i r_21) = 0 then (f_X1_countWays_b84 N k41 k48 v1 v2 v3 M_19) else (ck (v2 ||| (1 <<< (v3 &&& 31))) 64 (
  ck v2 64 (
  ck (v2 ||| (1 <<< (v3 &&& 31))) 64 (
  bM (uI M_19 105 (tn (v2 ||| (1 <<< (v3 &&& 31)))) ((M_19.1 105 (tn (v2 ||| (1 <<< (v3 &&& 31))))) + (M_19.1 105 (tn v2)))) fun M_25 =>
  f_X1_countWays_b84 N k41 k48 v1 v2 v3 M_25)))))
def f_X1_countWays_h41 (N : Nat) (k41 : Int32 × Int32 → Mem → Option (Mem)) (v1 : Int32) (v2 : Int32) (M : Mem) : Option (Mem) :=
  if v1 ≤ v2 then (lp (fun k a m => f_X1_countWays_h100 N k a.1 a.2 m) N (v1, (v1 - 1)) M) else (lp (fun k a m => f_X1_countWays_h48 N k41 k a.1 a.2.1 a.2.2 m) N (v1, v2, 0) M)
def f_X1_countWays (N : Nat) (M : Mem) : Option (Mem) :=
  bI ((1 <<< ((M.1 103 0) &&& 31)) - 1) fun y_1 =>
  bv (f_J7_fill_53178 N 105 0 M) fun M_2 =>
  bv (f_J7_fill_53178 N 106 0 M_2) fun M_4 =>
  ck 0 64 (
  bM (uI M_4 105 (tn 0) 1) fun M_7 =>
  ck y_1 64 (
  bM (uI M_7 106 (tn y_1) 1) fun M_9 =>
  lp (fun k a m => f_X1_countWays_h41 N k a.1 a.2 m) N (y_1, 0) M_9))
def f_X1_take_h16 (N : Nat) (p1 : Nat) (k16 : Int32 × Int32 → Mem → Option (Bool × Mem)) (v2 : Int32) (v4 : Int32) (M : Mem) : Option (Bool × Mem) :=
  if v2 ≤ v4 then (bv (f_X1_countWays N M) fun M_4 =>
  some (true, M_4)) else (if (Int32.ofNat (ln p1)) ≤ v4 then (bv (f_X1_countWays N M) fun M_6 =>
  some (true, M_6)) else (ck v4 (ln p1) (
  bi (f_X1_takeTry N (M.2 p1 (tn v4)) M) fun r_11 M_9 =>
  if (b2i r_11) = 0 then (some (false, M_9)) else (k16 (v2, (v4 + 1)) M_9))))
def f_X1_take (N : Nat) (p1 : Nat) (x2 : Int32) (x3 : Int32) (M : Mem) : Option (Bool × Mem) :=
  bM (uI M 103 0 x3) fun M_1 =>
  bv (f_J7_fill_53178 N 104 1 M_1) fun M_2 =>
  lp (fun k a m => f_X1_take_h16 N p1 k a.1 a.2 m) N (x2, 0) M_2
def f_X1_waysWith_b61 (N : Nat) (k13 : Int32 × Int32 × Int32 × Int32 × Int32 → Mem → Option (Int32 × Mem)) (v1 : Int32) (v2 : Int32) (v3 : Int32) (v4 : Int32) (v5 : Int32) (M : Mem) : Option (Int32 × Mem) :=
  k13 (v1, v2, v3, v4, (v5 + 1)) M
def f_X1_waysWith_h13 (N : Nat) (k13 : Int32 × Int32 × Int32 × Int32 × Int32 → Mem → Option (Int32 × Mem)) (v1 : Int32) (v2 : Int32) (v3 : Int32) (v4 : Int32) (v5 : Int32) (M : Mem) : Option (Int32 × Mem) :=
  if v4 ≤ v5 then (some (v3, M)) else (bi (f_J6_bitCount_0f7a4 v5 M) fun r_4 M_2 =>
  if r_4 = v1 then (bi (f_X1_canFollow v5 v2 M_2) fun r_7 M_5 =>
  if (b2i r_7) = 0 then (f_X1_waysWith_b61 N k13 v1 v2 v3 v4 v5 M_5) else (ck v5 64 (
  ck (v5 ||| (1 <<< (v2 &&& 31))) 64 (
  bI (v3 + ((M_5.1 105 (tn v5)) * (M_5.1 106 (tn (v5 ||| (1 <<< (v2 &&& 31))))))) fun y_10 =>
  f_X1_waysWith_b61 N k13 v1 v2 y_10 v4 v5 M_5)))) else (f_X1_waysWith_b61 N k13 v1 v2 v3 v4 v5 M_2))
def f_X1_waysWith (N : Nat) (x1 : Int32) (x2 : Int32) (M : Mem) : Option (Int32 × Mem) :=
  bI (1 <<< ((M.1 103 0) &&& 31)) fun y_1 =>
  lp (fun k a m => f_X1_waysWith_h13 N k a.1 a.2.1 a.2.2.1 a.2.2.2.1 a.2.2.2.2 m) N (x1, x2, 0, y_1, 0) M
def f_X1_onlyGate_h2 (N : Nat) (k2 : Int32 × Int32 → Mem → Option (Int32 × Mem)) (v1 : Int32) (v2 : Int32) (M : Mem) : Option (Int32 × Mem) :=
  if (M.1 103 0) ≤ v2 then (some ((-1), M)) else (if (M.1 103 1) ≤ 0 then (some ((-1), M)) else (bi (f_X1_waysWith N v1 v2 M) fun r_3 M_1 =>
  if r_3 = (M_1.1 103 1) then (some (v2, M_1)) else (k2 (v1, (v2 + 1)) M_1)))
def f_X1_onlyGate (N : Nat) (x1 : Int32) (M : Mem) : Option (Int32 × Mem) :=
  lp (fun k a m => f_X1_onlyGate_h2 N k a.1 a.2 m) N (x1, 0) M
def f_X1_bestTry_b81 (N : Nat) (k21 : Int32 × Int32 × Int32 → Mem → Option (Int32 × Mem)) (k32 : Int32 × Int32 × Int32 × Int32 → Mem → Option (Int32 × Mem)) (v1 : Int32) (v2 : Int32) (v3 : Int32) (v4 : Int32) (M : Mem) : Option (Int32 × Mem) :=
  k32 (v1, v2, v3, (v4 + 1)) M
def f_X1_bestTry_h32 (N : Nat) (k21 : Int32 × Int32 × Int32 → Mem → Option (Int32 × Mem)) (k32 : Int32 × Int32 × Int32 × Int32 → Mem → Option (Int32 × Mem)) (v1 : Int32) (v2 : Int32) (v3 : Int32) (v4 : Int32) (M : Mem) : Option (Int32 × Mem) :=
  if (M.1 103 0) ≤ v4 then (k21 (v1, v2, (v3 + 1)) M) else (bi (f_X1_waysWith N v3 v4 M) fun r_3 M_1 =>
  bI (imax r_3 ((M_1.1 103 1) - r_3)) fun y_4 =>
  if v2 ≤ y_4 then (f_X1_bestTry_b81 N k21 k32 v1 v2 v3 v4 M_1) else (f_X1_bestTry_b81 N k21 k32 ((v3 * 10) + v4) y_4 v3 v4 M_1))
def f_X1_bestTry_h21 (N : Nat) (k21 : Int32 × Int32 × Int32 → Mem → Option (Int32 × Mem)) (v1 : Int32) (v2 : Int32) (v3 : Int32) (M : Mem) : Option (Int32 × Mem) :=
  if (M.1 103 0) ≤ v3 then (some (v1, M)) else (lp (fun k a m => f_X1_bestTry_h32 N k21 k a.1 a.2.1 a.2.2.1 a.2.2.2 m) N (v1, v2, v3, 0) M)
def f_X1_bestTry (N : Nat) (M : Mem) : Option (Int32 × Mem) :=
  if 2 ≤ (M.1 103 1) then (lp (fun k a m => f_X1_bestTry_h21 N k a.1 a.2.1 a.2.2 m) N ((-1), ((M.1 103 1) + 1), 0) M) else (some ((-1), M))
def f_X2_factOf (p0 : Nat) (x1 : Int32) (M : Mem) : Option (Int32 × Mem) :=
  if x1 = 0 then (some ((M.1 p0 5), M)) else (if x1 = 1 then (some ((M.1 p0 6), M)) else (if x1 = 2 then (some ((M.1 p0 7), M)) else (if x1 = 3 then (some ((M.1 p0 8), M)) else (if (M.1 p0 9) = 0 then (some (0, M)) else (some (1, M))))))
def f_X2_behindEnd (p0 : Nat) (p1 : Nat) (x2 : Int32) (M : Mem) : Option (Int32 × Mem) :=
  ck x2 60 (
  ck (M.1 (p1 + 5) (tn x2)) 60 (
  if (M.1 (p1 + 1) (tn (M.1 (p1 + 5) (tn x2)))) = 7 then (ck (M.1 (p1 + 5) (tn x2)) 60 (
  ck (M.1 (p1 + 5) (tn x2)) 60 (
  bM (uI M (p0 + 1) (tn (M.1 (p1 + 5) (tn x2))) ((M.1 (p0 + 1) (tn (M.1 (p1 + 5) (tn x2)))) - 1)) fun M_5 =>
  ck (M.1 (p1 + 5) (tn x2)) 60 (
  if (M_5.1 (p0 + 1) (tn (M.1 (p1 + 5) (tn x2)))) ≤ 0 then (some ((x2 + 1), M_5)) else (some (((M.1 (p1 + 5) (tn x2)) + 1), M_5)))))) else (some ((x2 + 1), M))))
def f_X10_isAsAhead_h2 (N : Nat) (p1 : Nat) (k2 : Int32 → Mem → Option (Bool × Mem)) (v2 : Int32) (M : Mem) : Option (Bool × Mem) :=
  if 60 ≤ v2 then (some (true, M)) else (ck v2 (ln p1) (
  ck v2 60 (
  if (M.1 p1 (tn v2)) = (M.1 92 (tn v2)) then (k2 (v2 + 1) M) else (some (false, M)))))
def f_X10_isAsAhead (N : Nat) (p1 : Nat) (M : Mem) : Option (Bool × Mem) :=
  lp (fun k a m => f_X10_isAsAhead_h2 N p1 k a m) N 0 M
def f_X10_passHours_b70 (N : Nat) (p1 : Nat) (k11 : Int32 × Int32 × Int32 × Int32 × Int32 → Mem → Option (Int32 × Mem)) (v2 : Int32) (v3 : Int32) (v4 : Int32) (v5 : Int32) (v6 : Int32) (M : Mem) : Option (Int32 × Mem) :=
  k11 (v2, (v3 + v4), v4, v5, (v6 + 1)) M
def f_X10_passHours_h11 (N : Nat) (p1 : Nat) (k11 : Int32 × Int32 × Int32 × Int32 × Int32 → Mem → Option (Int32 × Mem)) (v2 : Int32) (v3 : Int32) (v4 : Int32) (v5 : Int32) (v6 : Int32) (M : Mem) : Option (Int32 × Mem) :=
  if v2 ≤ v6 then (bM (uI M p1 5 ((M.1 p1 5) + v2)) fun M_1 =>
  some (v3, M_1)) else (if v5 = 0 then (bM (rI M 92 (va_cpy (M.1 (p1 + 6)) (M.1 92) (tn 0) (tn 0) (tn 60))) fun M_2 =>
  bv (f_X10_passHour N p1 (p1 + 6) (M_2.1 p1 6) M_2) fun M_3 =>
  bi (f_X5_countFoggy N p1 (p1 + 6) M_3) fun r_7 M_5 =>
  bi (f_X10_isAsAhead N (p1 + 6) M_5) fun r_10 M_8 =>
  f_X10_passHours_b70 N p1 k11 v2 v3 r_7 (b2i r_10) v6 M_8) else (f_X10_passHours_b70 N p1 k11 v2 v3 v4 v5 v6 M))
def f_X10_passHours (N : Nat) (p1 : Nat) (x2 : Int32) (M : Mem) : Option (Int32 × Mem) :=
  lp (fun k a m => f_X10_passHours_h11 N p1 k a.1 a.2.1 a.2.2.1 a.2.2.2.1 a.2.2.2.2 m) N (x2, 0, 0, 0, 0) M
def f_X2_letPass (N : Nat) (p0 : Nat) (p1 : Nat) (x2 : Int32) (M : Mem) : Option (Mem) :=
  if ((M.1 p1 5) + x2) ≤ 9999 then (bi (f_X10_passHours N p1 x2 M) fun r_3 M_1 =>
  bM (uI M_1 p0 7 ((M.1 p0 7) + r_3)) fun M_4 =>
  bM (uI M_4 p0 6 ((M_4.1 p0 6) + x2)) fun M_5 =>
  some M_5) else (bM (uI M p0 5 ((M.1 p0 5) + 1)) fun M_6 =>
  some M_6)
def f_X5_isOpen (p0 : Nat) (x1 : Int32) (M : Mem) : Option (Bool × Mem) :=
  if (((M.1 p0 6) >>> (x1 &&& 31)) &&& 1) = 1 then (some (true, M)) else (some (false, M))
def f_X5_setOpen (p0 : Nat) (x1 : Int32) (x2 : Int32) (M : Mem) : Option (Mem) :=
  if x2 = 0 then (bM (uI M p0 6 ((M.1 p0 6) &&& ((1 <<< (x1 &&& 31)) ^^^ (-1)))) fun M_1 =>
  some M_1) else (bM (uI M p0 6 ((M.1 p0 6) ||| (1 <<< (x1 &&& 31)))) fun M_2 =>
  some M_2)
def f_X2_turnGate (p0 : Nat) (p1 : Nat) (x2 : Int32) (x3 : Int32) (M : Mem) : Option (Mem) :=
  bi (f_X5_isOpen p1 x2 M) fun r_3 M_1 =>
  if (b2i r_3) = x3 then (bM (uI M_1 p0 5 ((M_1.1 p0 5) + 1)) fun M_6 =>
  some M_6) else (bv (f_X5_setOpen p1 x2 x3 M_1) fun M_4 =>
  some M_4)
def f_X2_turnWind (p0 : Nat) (p1 : Nat) (x2 : Int32) (M : Mem) : Option (Mem) :=
  if (M.1 p1 2) = x2 then (bM (uI M p0 5 ((M.1 p0 5) + 1)) fun M_2 =>
  some M_2) else (bM (uI M p1 2 x2) fun M_1 =>
  some M_1)
def f_X2_draw (p0 : Nat) (x1 : Int32) (M : Mem) : Option (Int32 × Mem) :=
  bM (uI M p0 2 ((((M.1 p0 2) * 2971) + 10667) - (((M.1 p0 2) * 2971) + 10667) / 65536 * 65536)) fun M_1 =>
  if x1 ≤ 0 then (some (0, M_1)) else (cz x1 (
  some ((((M_1.1 p0 2) / 8) - ((M_1.1 p0 2) / 8) / x1 * x1), M_1)))
def f_X2_rage_b45 (N : Nat) (p0 : Nat) (p1 : Nat) (k21 : Int32 → Mem → Option (Mem)) (v2 : Int32) (s0 : Int32) (s1 : Int32) (M : Mem) : Option (Mem) :=
  bv (f_X5_setOpen p1 s1 s0 M) fun M_9 =>
  k21 (v2 + 1) M_9
def f_X2_rage_h21 (N : Nat) (p0 : Nat) (p1 : Nat) (k21 : Int32 → Mem → Option (Mem)) (v2 : Int32) (M : Mem) : Option (Mem) :=
  if (M.1 p1 7) ≤ v2 then (some M) else (bi (f_X2_draw p0 2 M) fun r_8 M_6 =>
  if r_8 = 1 then (f_X2_rage_b45 N p0 p1 k21 v2 1 v2 M_6) else (f_X2_rage_b45 N p0 p1 k21 v2 0 v2 M_6))
def f_X2_rage (N : Nat) (p0 : Nat) (p1 : Nat) (M : Mem) : Option (Mem) :=
  bM (uI M p0 8 ((M.1 p0 8) + 1)) fun M_1 =>
  bi (f_X2_draw p0 5 M_1) fun r_4 M_2 =>
  bM (uI M_2 p1 2 r_4) fun M_5 =>
  lp (fun k a m => f_X2_rage_h21 N p0 p1 k a m) N 0 M_5
def f_X2_holds (p0 : Nat) (p1 : Nat) (x2 : Int32) (M : Mem) : Option (Bool × Mem) :=
  ck x2 60 (
  bI (M.1 ((p1 + 7) + 2) (tn x2)) fun y_2 =>
  ck x2 60 (
  if (M.1 ((p1 + 7) + 1) (tn x2)) = 8 then (bi (f_X5_isFoggy p1 (p1 + 6) y_2 M) fun r_18 M_16 =>
  some (r_18, M_16)) else (ck x2 60 (
  if (M.1 ((p1 + 7) + 1) (tn x2)) = 9 then (bi (f_X5_isOpen p1 y_2 M) fun r_15 M_13 =>
  some (r_15, M_13)) else (bi (f_X5_bothKinds (p1 + 6) y_2 M) fun r_7 M_5 =>
  ck x2 60 (
  if (M_5.1 ((p1 + 7) + 3) (tn x2)) = 60 then (ck x2 60 (
  if (M_5.1 ((p1 + 7) + 4) (tn x2)) ≤ r_7 then (some (false, M_5)) else (some (true, M_5)))) else (ck x2 60 (
  if (M_5.1 ((p1 + 7) + 3) (tn x2)) = 62 then (ck x2 60 (
  if r_7 ≤ (M_5.1 ((p1 + 7) + 4) (tn x2)) then (some (false, M_5)) else (some (true, M_5)))) else (ck x2 60 (
  if r_7 = (M_5.1 ((p1 + 7) + 4) (tn x2)) then (some (true, M_5)) else (some (false, M_5))))))))))))
def f_X2_doStep (N : Nat) (p0 : Nat) (p1 : Nat) (x2 : Int32) (M : Mem) : Option (Int32 × Mem) :=
  ck x2 60 (
  bI (M.1 ((p1 + 7) + 2) (tn x2)) fun y_2 =>
  ck x2 60 (
  if (M.1 ((p1 + 7) + 1) (tn x2)) = 1 then (bv (f_X2_letPass N p0 p1 y_2 M) fun M_5 =>
  some ((x2 + 1), M_5)) else (if (M.1 ((p1 + 7) + 1) (tn x2)) = 2 then (bv (f_X2_turnGate p0 p1 y_2 1 M) fun M_8 =>
  some ((x2 + 1), M_8)) else (if (M.1 ((p1 + 7) + 1) (tn x2)) = 3 then (bv (f_X2_turnGate p0 p1 y_2 0 M) fun M_11 =>
  some ((x2 + 1), M_11)) else (if (M.1 ((p1 + 7) + 1) (tn x2)) = 4 then (bv (f_X2_turnWind p0 p1 y_2 M) fun M_14 =>
  some ((x2 + 1), M_14)) else (if (M.1 ((p1 + 7) + 1) (tn x2)) = 5 then (bv (f_X2_rage N p0 p1 M) fun M_17 =>
  some ((x2 + 1), M_17)) else (if (M.1 ((p1 + 7) + 1) (tn x2)) = 6 then (some ((M.1 (p1 + 7) 1), M)) else (if (M.1 ((p1 + 7) + 1) (tn x2)) = 7 then (ck x2 60 (
  bM (uI M (p0 + 1) (tn x2) y_2) fun M_22 =>
  some ((x2 + 1), M_22))) else (bi (f_X2_holds p0 p1 x2 M) fun r_25 M_23 =>
  if (b2i r_25) = 0 then (ck x2 60 (
  some (((M_23.1 ((p1 + 7) + 5) (tn x2)) + 1), M_23))) else (some ((x2 + 1), M_23)))))))))))
def f_X2_run_b126 (N : Nat) (p0 : Nat) (p1 : Nat) (k51 : Int32 × Int32 → Mem → Option (Mem)) (v4 : Int32) (v5 : Int32) (M : Mem) : Option (Mem) :=
  k51 (v4, (v5 + 1)) M
def f_X2_run_h51 (N : Nat) (p0 : Nat) (p1 : Nat) (k51 : Int32 × Int32 → Mem → Option (Mem)) (v4 : Int32) (v5 : Int32) (M : Mem) : Option (Mem) :=
  if 1000000 ≤ v5 then (some M) else (if (M.1 (p1 + 7) 1) ≤ v4 then (some M) else (ck v4 60 (
  if (M.1 ((p1 + 7) + 1) (tn v4)) = 11 then (bi (f_X2_behindEnd p0 (p1 + 7) v4 M) fun r_17 M_15 =>
  f_X2_run_b126 N p0 p1 k51 r_17 v5 M_15) else (if (M.1 p0 4) < 300 then (bM (uI M p0 4 ((M.1 p0 4) + 1)) fun M_10 =>
  bi (f_X2_doStep N p0 p1 v4 M_10) fun r_13 M_11 =>
  f_X2_run_b126 N p0 p1 k51 r_13 v5 M_11) else (bM (uI M p0 9 1) fun M_14 =>
  some M_14)))))
def f_X2_run (N : Nat) (p0 : Nat) (p1 : Nat) (x2 : Int32) (M : Mem) : Option (Mem) :=
  bM (uI M p0 2 x2) fun M_1 =>
  bM (uI M_1 p0 3 1) fun M_2 =>
  bM (uI M_2 p0 4 0) fun M_3 =>
  bM (uI M_3 p0 5 0) fun M_4 =>
  bM (uI M_4 p0 6 0) fun M_5 =>
  bM (uI M_5 p0 7 0) fun M_6 =>
  bM (uI M_6 p0 8 0) fun M_7 =>
  bM (uI M_7 p0 9 0) fun M_8 =>
  lp (fun k a m => f_X2_run_h51 N p0 p1 k a.1 a.2 m) N (0, 0) M_8
def f_X3_clear (p0 : Nat) (M : Mem) : Option (Mem) :=
  bM (uI M p0 0 0) fun M_1 =>
  bM (uI M_1 p0 1 0) fun M_2 =>
  bM (uI M_2 p0 2 0) fun M_3 =>
  some M_3
def f_X3_copyFrom (p0 : Nat) (p1 : Nat) (M : Mem) : Option (Mem) :=
  zb (M.1 p1 0) fun b_2 =>
  bM (uI M p0 0 (M.1 p1 0)) fun M_1 =>
  bM (uI M_1 p0 1 (M_1.1 p1 1)) fun M_3 =>
  bM (uI M_3 p0 2 (M_3.1 p1 2)) fun M_4 =>
  bM (rI M_4 (p0 + 1) (va_cpy (M_4.1 (p1 + 1)) (M_4.1 (p0 + 1)) (tn 0) (tn 0) (tn 60))) fun M_5 =>
  bM (rI M_5 (p0 + 2) (va_cpy (M_5.1 (p1 + 2)) (M_5.1 (p0 + 2)) (tn 0) (tn 0) (tn 60))) fun M_6 =>
  bM (rI M_6 (p0 + 3) (va_cpy (M_6.1 (p1 + 3)) (M_6.1 (p0 + 3)) (tn 0) (tn 0) (tn 60))) fun M_7 =>
  bM (rI M_7 (p0 + 4) (va_cpy (M_7.1 (p1 + 4)) (M_7.1 (p0 + 4)) (tn 0) (tn 0) (tn 60))) fun M_8 =>
  bM (rI M_8 (p0 + 5) (va_cpy (M_8.1 (p1 + 5)) (M_8.1 (p0 + 5)) (tn 0) (tn 0) (tn 60))) fun M_9 =>
  some M_9
def f_X3_isFull (p0 : Nat) (M : Mem) : Option (Bool × Mem) :=
  if (M.1 p0 1) < 60 then (some (false, M)) else (some (true, M))
def f_X8_advance_b231 (N : Nat) (M : Mem) : Option (Mem) :=
  if (M.1 82 4) ≤ (M.1 82 3) then (bM (uI M 82 2 0) fun M_4 =>
  if (M_4.1 82 1) ≤ (M_4.1 82 3) then (some M_4) else (ck (M_4.1 82 3) 900 (
  bM (uI M_4 82 5 (M_4.1 1 (tn (M_4.1 82 3)))) fun M_6 =>
  bM (uI M_6 82 4 ((M_6.1 82 3) + 1)) fun M_7 =>
  if (M_7.1 82 5) = 59 then (bM (uI M_7 82 2 3) fun M_8 =>
  some M_8) else (if (M_7.1 82 5) = 60 then (bM (uI M_7 82 2 3) fun M_9 =>
  some M_9) else (if (M_7.1 82 5) = 62 then (bM (uI M_7 82 2 3) fun M_10 =>
  some M_10) else (if (M_7.1 82 5) = 61 then (bM (uI M_7 82 2 3) fun M_12 =>
  some M_12) else (bM (uI M_7 82 2 4) fun M_11 =>
  some M_11))))))) else (if ((M.1 82 4) - (M.1 82 3)) ≤ 4 then (bM (uI M 82 2 2) fun M_13 =>
  some M_13) else (bM (uI M 82 2 4) fun M_14 =>
  some M_14))
def f_X8_advance_b218 (N : Nat) (k142 : Unit → Mem → Option (Mem)) (M : Mem) : Option (Mem) :=
  bM (uI M 82 4 ((M.1 82 4) + 1)) fun M_17 =>
  k142 () M_17
def f_X8_advance_h142 (N : Nat) (k142 : Unit → Mem → Option (Mem)) (M : Mem) : Option (Mem) :=
  if (M.1 82 1) ≤ (M.1 82 4) then (f_X8_advance_b231 N M) else (ck (M.1 82 4) 900 (
  if (M.1 1 (tn (M.1 82 4))) < 48 then (f_X8_advance_b231 N M) else (ck (M.1 82 4) 900 (
  if 57 < (M.1 1 (tn (M.1 82 4))) then (f_X8_advance_b231 N M) else (if 4 ≤ ((M.1 82 4) - (M.1 82 3)) then (f_X8_advance_b218 N k142 M) else (ck (M.1 82 4) 900 (
  bM (uI M 82 5 ((((M.1 82 5) * 10) + (M.1 1 (tn (M.1 82 4)))) - 48)) fun M_19 =>
  f_X8_advance_b218 N k142 M_19)))))))
def f_X8_advance_b125 (N : Nat) (M : Mem) : Option (Mem) :=
  if (M.1 82 4) ≤ (M.1 82 3) then (lp (fun k a m => f_X8_advance_h142 N k m) N () M) else (bM (uI M 82 2 1) fun M_20 =>
  some M_20)
def f_X8_advance_h73 (N : Nat) (k73 : Unit → Mem → Option (Mem)) (M : Mem) : Option (Mem) :=
  if (M.1 82 1) ≤ (M.1 82 4) then (f_X8_advance_b125 N M) else (ck (M.1 82 4) 900 (
  if (M.1 1 (tn (M.1 82 4))) < 97 then (f_X8_advance_b125 N M) else (ck (M.1 82 4) 900 (
  if 122 < (M.1 1 (tn (M.1 82 4))) then (f_X8_advance_b125 N M) else (bM (uI M 82 4 ((M.1 82 4) + 1)) fun M_23 =>
  k73 () M_23)))))
def f_X8_advance_b60 (N : Nat) (M : Mem) : Option (Mem) :=
  bM (uI M 82 4 (M.1 82 3)) fun M_2 =>
  bM (uI M_2 82 5 0) fun M_3 =>
  lp (fun k a m => f_X8_advance_h73 N k m) N () M_3
def f_X8_advance_b47 (N : Nat) (k8 : Unit → Mem → Option (Mem)) (M : Mem) : Option (Mem) :=
  bM (uI M 82 3 ((M.1 82 3) + 1)) fun M_25 =>
  k8 () M_25
def f_X8_advance_h8 (N : Nat) (k8 : Unit → Mem → Option (Mem)) (M : Mem) : Option (Mem) :=
  if (M.1 82 1) ≤ (M.1 82 3) then (f_X8_advance_b60 N M) else (ck (M.1 82 3) 900 (
  if (M.1 1 (tn (M.1 82 3))) = 10 then (f_X8_advance_b47 N k8 M) else (ck (M.1 82 3) 900 (
  if (M.1 1 (tn (M.1 82 3))) = 32 then (f_X8_advance_b47 N k8 M) else (f_X8_advance_b60 N M)))))
def f_X8_advance (N : Nat) (M : Mem) : Option (Mem) :=
  bM (uI M 82 3 (M.1 82 4)) fun M_1 =>
  lp (fun k a m => f_X8_advance_h8 N k m) N () M_1
def f_X8_begin (N : Nat) (x1 : Int32) (M : Mem) : Option (Mem) :=
  bM (uI M 82 1 (imin x1 900)) fun M_1 =>
  bM (uI M_1 82 4 0) fun M_2 =>
  bM (uI M_2 82 6 0) fun M_3 =>
  bM (uI M_3 82 7 (-1)) fun M_4 =>
  bv (f_X8_advance N M_4) fun M_5 =>
  some M_5
def f_X8_isGoingOn (M : Mem) : Option (Bool × Mem) :=
  if (M.1 82 6) = 0 then (if (M.1 82 2) = 0 then (some (false, M)) else (some (true, M))) else (some (false, M))
def f_X8_isSameAt_h2 (N : Nat) (z1 : Nat) (k2 : Int32 × Int32 → Mem → Option (Bool × Mem)) (v2 : Int32) (v3 : Int32) (M : Mem) : Option (Bool × Mem) :=
  if (M.1 82 4) ≤ ((M.1 82 3) + v3) then (some (true, M)) else (bi (f_J0_length_8abf5 z1 M) fun r_3 M_1 =>
  if r_3 ≤ (v2 + v3) then (some (false, M_1)) else (bi (f_J0_charAt_5068e z1 (v2 + v3) M_1) fun r_6 M_4 =>
  ck ((M_4.1 82 3) + v3) 900 (
  if r_6 = (M_4.1 1 (tn ((M_4.1 82 3) + v3))) then (k2 (v2, (v3 + 1)) M_4) else (some (false, M_4)))))
def f_X8_isSameAt (N : Nat) (z1 : Nat) (x2 : Int32) (M : Mem) : Option (Bool × Mem) :=
  lp (fun k a m => f_X8_isSameAt_h2 N z1 k a.1 a.2 m) N (x2, 0) M
def f_X8_isWord (N : Nat) (z1 : Nat) (M : Mem) : Option (Bool × Mem) :=
  if (M.1 82 2) = 1 then (bi (f_J0_length_8abf5 z1 M) fun r_3 M_1 =>
  if ((M.1 82 4) - (M.1 82 3)) = r_3 then (bi (f_X8_isSameAt N z1 0 M_1) fun r_6 M_4 =>
  if (b2i r_6) = 0 then (some (false, M_4)) else (some (true, M_4))) else (some (false, M_1))) else (some (false, M))
def f_X8_refuse (x1 : Int32) (M : Mem) : Option (Bool × Mem) :=
  if (M.1 82 6) = 0 then (if (M.1 82 2) = 4 then (bM (uI M 82 6 1) fun M_3 =>
  bM (uI M_3 82 7 (M_3.1 82 3)) fun M_4 =>
  some (false, M_4)) else (bM (uI M 82 6 x1) fun M_1 =>
  bM (uI M_1 82 7 (M_1.1 82 3)) fun M_2 =>
  some (false, M_2))) else (some (false, M))
def f_X8_takeSemicolon (N : Nat) (M : Mem) : Option (Bool × Mem) :=
  if (M.1 82 2) = 3 then (if (M.1 82 5) = 59 then (bv (f_X8_advance N M) fun M_4 =>
  some (true, M_4)) else (bi (f_X8_refuse 2 M) fun r_8 M_6 =>
  some (r_8, M_6))) else (bi (f_X8_refuse 2 M) fun r_3 M_1 =>
  some (r_3, M_1))
def f_X4_readEnd (N : Nat) (p1 : Nat) (M : Mem) : Option (Bool × Mem) :=
  if (M.1 87 3) ≤ 0 then (bi (f_X8_refuse 2 M) fun r_3 M_1 =>
  some (r_3, M_1)) else (bi (f_X3_isFull p1 M) fun r_6 M_4 =>
  if (b2i r_6) = 0 then (bv (f_X8_advance N M_4) fun M_7 =>
  bM (uI M_7 87 3 ((M_7.1 87 3) - 1)) fun M_9 =>
  ck (M_9.1 p1 1) 60 (
  bM (uI M_9 (p1 + 1) (tn (M_9.1 p1 1)) 11) fun M_11 =>
  ck (M_11.1 87 3) 3 (
  ck (M_9.1 p1 1) 60 (
  bM (uI M_11 (p1 + 5) (tn (M_9.1 p1 1)) (M_11.1 88 (tn (M_11.1 87 3)))) fun M_14 =>
  ck (M_14.1 87 3) 3 (
  ck (M_14.1 88 (tn (M_14.1 87 3))) 60 (
  bM (uI M_14 (p1 + 5) (tn (M_14.1 88 (tn (M_14.1 87 3)))) (M_9.1 p1 1)) fun M_17 =>
  bM (uI M_17 p1 1 ((M_17.1 p1 1) + 1)) fun M_18 =>
  bi (f_X8_takeSemicolon N M_18) fun r_21 M_19 =>
  some (r_21, M_19))))))) else (bi (f_X8_refuse 2 M_4) fun r_24 M_22 =>
  some (r_24, M_22)))
def f_X4_sortOfWord (N : Nat) (M : Mem) : Option (Int32 × Mem) :=
  bi (f_X8_isWord N 22 M) fun r_3 M_1 =>
  if (b2i r_3) = 0 then (bi (f_X8_isWord N 23 M_1) fun r_6 M_4 =>
  if (b2i r_6) = 0 then (bi (f_X8_isWord N 24 M_4) fun r_9 M_7 =>
  if (b2i r_9) = 0 then (bi (f_X8_isWord N 25 M_7) fun r_12 M_10 =>
  if (b2i r_12) = 0 then (bi (f_X8_isWord N 26 M_10) fun r_15 M_13 =>
  if (b2i r_15) = 0 then (bi (f_X8_isWord N 27 M_13) fun r_18 M_16 =>
  if (b2i r_18) = 0 then (bi (f_X8_isWord N 28 M_16) fun r_21 M_19 =>
  if (b2i r_21) = 0 then (bi (f_X8_isWord N 29 M_19) fun r_24 M_22 =>
  if (b2i r_24) = 0 then (some ((-1), M_22)) else (some (6, M_22))) else (some (7, M_19))) else (some (8, M_16))) else (some (5, M_13))) else (some (4, M_10))) else (some (3, M_7))) else (some (2, M_4))) else (some (1, M_1))
def f_X8_tryWord (N : Nat) (z1 : Nat) (M : Mem) : Option (Bool × Mem) :=
  bi (f_X8_isWord N z1 M) fun r_3 M_1 =>
  if (b2i r_3) = 0 then (some (r_3, M_1)) else (bv (f_X8_advance N M_1) fun M_4 =>
  some (r_3, M_4))
def f_X8_takeNumber (N : Nat) (p1 : Nat) (x2 : Int32) (x3 : Int32) (x4 : Int32) (M : Mem) : Option (Bool × Mem) :=
  if (M.1 82 2) = 2 then (if (M.1 82 5) < x3 then (bi (f_X8_refuse 4 M) fun r_3 M_1 =>
  some (r_3, M_1)) else (if (M.1 82 5) ≤ x4 then (ck x2 (ln p1) (
  bM (uI M p1 (tn x2) (M.1 82 5)) fun M_5 =>
  bv (f_X8_advance N M_5) fun M_6 =>
  some (true, M_6))) else (bi (f_X8_refuse 4 M) fun r_10 M_8 =>
  some (r_10, M_8)))) else (bi (f_X8_refuse 2 M) fun r_13 M_11 =>
  some (r_13, M_11))
def f_X4_readBoard_b49 (N : Nat) (p1 : Nat) (p2 : Nat) (s0 : Int32) (M : Mem) : Option (Bool × Mem) :=
  if s0 = 0 then (zb s0 fun b_4 =>
  some (b_4, M)) else (ck 0 2 (
  ck 1 2 (
  bi (f_X5_boardAt p2 (M.1 89 (tn 0)) (M.1 89 (tn 1)) M) fun r_9 M_7 =>
  ck (M.1 p1 1) 60 (
  bM (uI M_7 (p1 + 2) (tn (M.1 p1 1)) r_9) fun M_11 =>
  zb s0 fun b_12 =>
  some (b_12, M_11)))))
def f_X4_readBoard_b48 (N : Nat) (p1 : Nat) (p2 : Nat) (M : Mem) : Option (Bool × Mem) :=
  f_X4_readBoard_b49 N p1 p2 0 M
def f_X4_readBoard (N : Nat) (p1 : Nat) (p2 : Nat) (M : Mem) : Option (Bool × Mem) :=
  bi (f_X8_takeNumber N 89 0 0 ((M.1 p2 0) - 1) M) fun r_3 M_1 =>
  if (b2i r_3) = 0 then (f_X4_readBoard_b48 N p1 p2 M_1) else (bi (f_X8_takeNumber N 89 1 0 ((M_1.1 p2 1) - 1) M_1) fun r_15 M_13 =>
  if (b2i r_15) = 0 then (f_X4_readBoard_b48 N p1 p2 M_13) else (f_X4_readBoard_b49 N p1 p2 1 M_13))
def f_X8_isName_b91 (N : Nat) (k28 : Int32 × Int32 → Mem → Option (Bool × Mem)) (v1 : Int32) (v2 : Int32) (M : Mem) : Option (Bool × Mem) :=
  k28 (v1, (v2 + 1)) M
def f_X8_isName_b72 (N : Nat) (k28 : Int32 × Int32 → Mem → Option (Bool × Mem)) (v1 : Int32) (v2 : Int32) (s0 : Int32) (M : Mem) : Option (Bool × Mem) :=
  if s0 = 0 then (f_X8_isName_b91 N k28 v1 v2 M) else (bi (f_X8_isSameAt N 3 (v2 + 1) M) fun r_9 M_7 =>
  if (b2i r_9) = 0 then (f_X8_isName_b91 N k28 v1 v2 M_7) else (some (false, M_7)))
def f_X8_isName_b71 (N : Nat) (k28 : Int32 × Int32 → Mem → Option (Bool × Mem)) (v1 : Int32) (v2 : Int32) (M : Mem) : Option (Bool × Mem) :=
  f_X8_isName_b72 N k28 v1 v2 0 M
def f_X8_isName_h28 (N : Nat) (k28 : Int32 × Int32 → Mem → Option (Bool × Mem)) (v1 : Int32) (v2 : Int32) (M : Mem) : Option (Bool × Mem) :=
  bi (f_J0_length_8abf5 3 M) fun r_3 M_1 =>
  if r_3 ≤ ((v2 + v1) + 1) then (some (true, M_1)) else (bi (f_J0_charAt_5068e 3 v2 M_1) fun r_6 M_4 =>
  if r_6 = 32 then (bi (f_J0_charAt_5068e 3 ((v2 + v1) + 1) M_4) fun r_12 M_10 =>
  if r_12 = 32 then (f_X8_isName_b72 N k28 v1 v2 1 M_10) else (f_X8_isName_b71 N k28 v1 v2 M_10)) else (f_X8_isName_b71 N k28 v1 v2 M_4))
def f_X8_isName (N : Nat) (M : Mem) : Option (Bool × Mem) :=
  if (M.1 82 2) = 1 then (if ((M.1 82 4) - (M.1 82 3)) ≤ 8 then (lp (fun k a m => f_X8_isName_h28 N k a.1 a.2 m) N (((M.1 82 4) - (M.1 82 3)), 0) M) else (some (false, M))) else (some (false, M))
def f_X8_nameCode_h7 (N : Nat) (k7 : Int64 × Int32 → Mem → Option (Int64 × Mem)) (v1 : Int64) (v3 : Int32) (M : Mem) : Option (Int64 × Mem) :=
  if (M.1 82 4) ≤ v3 then (some (v1, M)) else (ck v3 900 (
  bL ((((v1 * 32) + (Int32.toInt64 (M.1 1 (tn v3)))) - 97) + 1) fun y_2 =>
  k7 (y_2, (v3 + 1)) M))
def f_X8_nameCode (N : Nat) (M : Mem) : Option (Int64 × Mem) :=
  lp (fun k a m => f_X8_nameCode_h7 N k a.1 a.2 m) N (0, (M.1 82 3)) M
def f_X4_readGateName_h30 (N : Nat) (p1 : Nat) (p2 : Nat) (k30 : Int64 × Int32 → Mem → Option (Bool × Mem)) (v3 : Int64) (v5 : Int32) (M : Mem) : Option (Bool × Mem) :=
  if (M.1 p2 7) ≤ v5 then (bi (f_X8_refuse 3 M) fun r_9 M_7 =>
  some (r_9, M_7)) else (ck v5 6 (
  if (lg_cmp (M.2 (p2 + 2) (tn v5)) v3) = 0 then (ck (M.1 p1 1) 60 (
  bM (uI M (p1 + 2) (tn (M.1 p1 1)) v5) fun M_12 =>
  bv (f_X8_advance N M_12) fun M_13 =>
  some (true, M_13))) else (k30 (v3, (v5 + 1)) M)))
def f_X4_readGateName (N : Nat) (p1 : Nat) (p2 : Nat) (M : Mem) : Option (Bool × Mem) :=
  bi (f_X8_isName N M) fun r_3 M_1 =>
  if (b2i r_3) = 0 then (bi (f_X8_refuse 2 M_1) fun r_17 M_15 =>
  some (r_17, M_15)) else (bi (f_X8_nameCode N M_1) fun r_6 M_4 =>
  lp (fun k a m => f_X4_readGateName_h30 N p1 p2 k a.1 a.2 m) N (r_6, 0) M_4)
def f_X8_takeWord (N : Nat) (z1 : Nat) (M : Mem) : Option (Bool × Mem) :=
  bi (f_X8_isWord N z1 M) fun r_3 M_1 =>
  if (b2i r_3) = 0 then (bi (f_X8_refuse 2 M_1) fun r_8 M_6 =>
  some (r_8, M_6)) else (bv (f_X8_advance N M_1) fun M_4 =>
  some (true, M_4))
def f_X4_readCompares (N : Nat) (p1 : Nat) (M : Mem) : Option (Bool × Mem) :=
  if (M.1 82 2) = 3 then (if (M.1 82 5) = 59 then (bi (f_X8_refuse 2 M) fun r_10 M_8 =>
  some (r_10, M_8)) else (ck (M.1 p1 1) 60 (
  bM (uI M (p1 + 3) (tn (M.1 p1 1)) (M.1 82 5)) fun M_5 =>
  bv (f_X8_advance N M_5) fun M_6 =>
  some (true, M_6)))) else (bi (f_X8_refuse 2 M) fun r_3 M_1 =>
  some (r_3, M_1))
def f_X4_readTest (N : Nat) (p1 : Nat) (p2 : Nat) (M : Mem) : Option (Bool × Mem) :=
  bi (f_X8_tryWord N 30 M) fun r_3 M_1 =>
  if (b2i r_3) = 0 then (bi (f_X8_tryWord N 23 M_1) fun r_6 M_4 =>
  if (b2i r_6) = 0 then (ck (M_4.1 p1 1) 60 (
  bM (uI M_4 (p1 + 1) (tn (M_4.1 p1 1)) 10) fun M_8 =>
  bi (f_X8_takeWord N 31 M_8) fun r_11 M_9 =>
  if (b2i r_11) = 0 then (some (false, M_9)) else (bi (f_X4_readBoard N p1 p2 M_9) fun r_14 M_12 =>
  if (b2i r_14) = 0 then (some (false, M_12)) else (bi (f_X4_readCompares N p1 M_12) fun r_17 M_15 =>
  if (b2i r_17) = 0 then (some (false, M_15)) else (bi (f_X8_takeNumber N (p1 + 4) (M_15.1 p1 1) 0 999 M_15) fun r_20 M_18 =>
  if (b2i r_20) = 0 then (some (false, M_18)) else (some (true, M_18))))))) else (ck (M_4.1 p1 1) 60 (
  bM (uI M_4 (p1 + 1) (tn (M_4.1 p1 1)) 9) fun M_22 =>
  bi (f_X4_readGateName N p1 p2 M_22) fun r_25 M_23 =>
  some (r_25, M_23)))) else (bi (f_X4_readBoard N p1 p2 M_1) fun r_28 M_26 =>
  some (r_28, M_26))
def f_X4_readRest (N : Nat) (p1 : Nat) (p2 : Nat) (x3 : Int32) (M : Mem) : Option (Bool × Mem) :=
  if x3 = 1 then (bi (f_X8_takeNumber N (p1 + 2) (M.1 p1 1) 1 24 M) fun r_4 M_2 =>
  some (r_4, M_2)) else (if x3 = 2 then (bi (f_X4_readGateName N p1 p2 M) fun r_8 M_6 =>
  some (r_8, M_6)) else (if x3 = 3 then (bi (f_X4_readGateName N p1 p2 M) fun r_12 M_10 =>
  some (r_12, M_10)) else (if x3 = 4 then (bi (f_X8_takeNumber N (p1 + 2) (M.1 p1 1) 0 4 M) fun r_16 M_14 =>
  some (r_16, M_14)) else (if x3 = 5 then (some (true, M)) else (if x3 = 6 then (some (true, M)) else (if x3 = 7 then (bi (f_X8_takeNumber N (p1 + 2) (M.1 p1 1) 1 99 M) fun r_22 M_20 =>
  some (r_22, M_20)) else (some (true, M))))))))
def f_X4_readStep_b163 (N : Nat) (p1 : Nat) (p2 : Nat) (M : Mem) : Option (Bool × Mem) :=
  bM (uI M p1 1 ((M.1 p1 1) + 1)) fun M_17 =>
  bM (uI M_17 p1 2 ((M_17.1 p1 2) + 1)) fun M_18 =>
  bi (f_X8_takeSemicolon N M_18) fun r_21 M_19 =>
  some (r_21, M_19)
def f_X4_readStep_b126 (N : Nat) (p1 : Nat) (p2 : Nat) (v4 : Int32) (s0 : Int32) (M : Mem) : Option (Bool × Mem) :=
  if s0 = 0 then (some (false, M)) else (if v4 = 0 then (f_X4_readStep_b163 N p1 p2 M) else (ck (M.1 87 3) 3 (
  bM (uI M 88 (tn (M.1 87 3)) (M.1 p1 1)) fun M_23 =>
  bM (uI M_23 87 3 ((M_23.1 87 3) + 1)) fun M_24 =>
  f_X4_readStep_b163 N p1 p2 M_24)))
def f_X4_readStep_b87 (N : Nat) (p1 : Nat) (p2 : Nat) (v3 : Int32) (v4 : Int32) (M : Mem) : Option (Bool × Mem) :=
  bv (f_X8_advance N M) fun M_10 =>
  ck (M_10.1 p1 1) 60 (
  bM (uI M_10 (p1 + 1) (tn (M_10.1 p1 1)) v3) fun M_13 =>
  if v3 = 8 then (bi (f_X4_readTest N p1 p2 M_13) fun r_27 M_25 =>
  f_X4_readStep_b126 N p1 p2 v4 (b2i r_27) M_25) else (bi (f_X4_readRest N p1 p2 v3 M_13) fun r_16 M_14 =>
  f_X4_readStep_b126 N p1 p2 v4 (b2i r_16) M_14))
def f_X4_readStep_b62 (N : Nat) (p1 : Nat) (p2 : Nat) (v3 : Int32) (s0 : Int32) (M : Mem) : Option (Bool × Mem) :=
  if s0 = 0 then (f_X4_readStep_b87 N p1 p2 v3 s0 M) else (if (M.1 87 3) < 3 then (f_X4_readStep_b87 N p1 p2 v3 s0 M) else (bi (f_X8_refuse 7 M) fun r_30 M_28 =>
  some (r_30, M_28)))
def f_X4_readStep_b57 (N : Nat) (p1 : Nat) (p2 : Nat) (v3 : Int32) (M : Mem) : Option (Bool × Mem) :=
  f_X4_readStep_b62 N p1 p2 v3 1 M
def f_X4_readStep (N : Nat) (p1 : Nat) (p2 : Nat) (M : Mem) : Option (Bool × Mem) :=
  bi (f_X4_sortOfWord N M) fun r_3 M_1 =>
  if r_3 = (-1) then (bi (f_X8_refuse 2 M_1) fun r_36 M_34 =>
  some (r_36, M_34)) else (if 30 ≤ (M_1.1 p1 2) then (bi (f_X8_refuse 6 M_1) fun r_6 M_4 =>
  some (r_6, M_4)) else (bi (f_X3_isFull p1 M_1) fun r_9 M_7 =>
  if (b2i r_9) = 0 then (if r_3 = 7 then (f_X4_readStep_b57 N p1 p2 r_3 M_7) else (if r_3 = 8 then (f_X4_readStep_b57 N p1 p2 r_3 M_7) else (f_X4_readStep_b62 N p1 p2 r_3 0 M_7))) else (bi (f_X8_refuse 6 M_7) fun r_33 M_31 =>
  some (r_33, M_31))))
def f_X4_fill_b93 (N : Nat) (p1 : Nat) (p2 : Nat) (M : Mem) : Option (Bool × Mem) :=
  if (M.1 82 6) = 0 then (some (true, M)) else (some (false, M))
def f_X4_fill_b77 (N : Nat) (p1 : Nat) (p2 : Nat) (M : Mem) : Option (Bool × Mem) :=
  if (M.1 87 3) ≤ 0 then (f_X4_fill_b93 N p1 p2 M) else (bi (f_X8_refuse 2 M) fun r_9 M_7 =>
  f_X4_fill_b93 N p1 p2 M_7)
def f_X4_fill_b71 (N : Nat) (p1 : Nat) (p2 : Nat) (k25 : Int32 → Mem → Option (Bool × Mem)) (v4 : Int32) (M : Mem) : Option (Bool × Mem) :=
  k25 (v4 + 1) M
def f_X4_fill_h25 (N : Nat) (p1 : Nat) (p2 : Nat) (k25 : Int32 → Mem → Option (Bool × Mem)) (v4 : Int32) (M : Mem) : Option (Bool × Mem) :=
  if 300 ≤ v4 then (f_X4_fill_b77 N p1 p2 M) else (bi (f_X8_isGoingOn M) fun r_12 M_10 =>
  if (b2i r_12) = 0 then (f_X4_fill_b77 N p1 p2 M_10) else (bi (f_X8_isWord N 21 M_10) fun r_15 M_13 =>
  if (b2i r_15) = 0 then (bi (f_X4_readStep N p1 p2 M_13) fun r_18 M_16 =>
  f_X4_fill_b71 N p1 p2 k25 v4 M_16) else (bi (f_X4_readEnd N p1 M_13) fun r_21 M_19 =>
  f_X4_fill_b71 N p1 p2 k25 v4 M_19)))
def f_X4_fill (N : Nat) (p1 : Nat) (p2 : Nat) (x3 : Int32) (M : Mem) : Option (Bool × Mem) :=
  bv (f_X3_clear p1 M) fun M_1 =>
  bM (uI M_1 p1 0 1) fun M_3 =>
  bM (uI M_3 87 3 0) fun M_4 =>
  bv (f_X8_begin N x3 M_4) fun M_5 =>
  lp (fun k a m => f_X4_fill_h25 N p1 p2 k a m) N 0 M_5
def f_X5_clear (N : Nat) (p0 : Nat) (M : Mem) : Option (Mem) :=
  bM (uI M p0 0 0) fun M_1 =>
  bM (uI M_1 p0 1 0) fun M_2 =>
  bM (uI M_2 p0 2 0) fun M_3 =>
  bM (uI M_3 p0 3 1) fun M_4 =>
  bM (uI M_4 p0 4 10) fun M_5 =>
  bM (uI M_5 p0 5 0) fun M_6 =>
  bM (uI M_6 p0 6 0) fun M_7 =>
  bM (uI M_7 p0 7 0) fun M_8 =>
  bM (uI M_8 p0 8 0) fun M_9 =>
  bM (uI M_9 p0 9 0) fun M_10 =>
  bM (uI M_10 p0 10 0) fun M_11 =>
  bv (f_J7_fill_53178 N (p0 + 6) 0 M_11) fun M_12 =>
  bv (f_X3_clear (p0 + 7) M_12) fun M_14 =>
  some M_14
def f_X5_copyFrom (p0 : Nat) (p1 : Nat) (M : Mem) : Option (Mem) :=
  bM (uI M p0 0 (M.1 p1 0)) fun M_1 =>
  bM (uI M_1 p0 1 (M_1.1 p1 1)) fun M_2 =>
  bM (uI M_2 p0 2 (M_2.1 p1 2)) fun M_3 =>
  bM (uI M_3 p0 3 (M_3.1 p1 3)) fun M_4 =>
  bM (uI M_4 p0 4 (M_4.1 p1 4)) fun M_5 =>
  bM (uI M_5 p0 5 (M_5.1 p1 5)) fun M_6 =>
  bM (uI M_6 p0 6 (M_6.1 p1 6)) fun M_7 =>
  bM (uI M_7 p0 7 (M_7.1 p1 7)) fun M_8 =>
  bM (uI M_8 p0 8 (M_8.1 p1 8)) fun M_9 =>
  bM (uI M_9 p0 9 (M_9.1 p1 9)) fun M_10 =>
  bM (uI M_10 p0 10 (M_10.1 p1 10)) fun M_11 =>
  bM (rI M_11 (p0 + 1) (va_cpy (M_11.1 (p1 + 1)) (M_11.1 (p0 + 1)) (tn 0) (tn 0) (tn 30))) fun M_12 =>
  bM (rL M_12 (p0 + 2) (va_cpy (M_12.2 (p1 + 2)) (M_12.2 (p0 + 2)) (tn 0) (tn 0) (tn 6))) fun M_13 =>
  bM (rI M_13 (p0 + 3) (va_cpy (M_13.1 (p1 + 3)) (M_13.1 (p0 + 3)) (tn 0) (tn 0) (tn 6))) fun M_14 =>
  bM (rI M_14 (p0 + 4) (va_cpy (M_14.1 (p1 + 4)) (M_14.1 (p0 + 4)) (tn 0) (tn 0) (tn 36))) fun M_15 =>
  bM (rI M_15 (p0 + 5) (va_cpy (M_15.1 (p1 + 5)) (M_15.1 (p0 + 5)) (tn 0) (tn 0) (tn 20))) fun M_16 =>
  bM (rI M_16 (p0 + 6) (va_cpy (M_16.1 (p1 + 6)) (M_16.1 (p0 + 6)) (tn 0) (tn 0) (tn 60))) fun M_17 =>
  bv (f_X3_copyFrom (p0 + 7) (p1 + 7) M_17) fun M_18 =>
  some M_18
def f_X5_sumOfKind_h4 (N : Nat) (p0 : Nat) (k4 : Int32 × Int32 × Int32 → Mem → Option (Int32 × Mem)) (v1 : Int32) (v2 : Int32) (v3 : Int32) (M : Mem) : Option (Int32 × Mem) :=
  if 30 ≤ v3 then (some (v2, M)) else (ck ((v1 * 30) + v3) 60 (
  bI (v2 + (M.1 (p0 + 6) (tn ((v1 * 30) + v3)))) fun y_2 =>
  k4 (v1, y_2, (v3 + 1)) M))
def f_X5_sumOfKind (N : Nat) (p0 : Nat) (x1 : Int32) (M : Mem) : Option (Int32 × Mem) :=
  lp (fun k a m => f_X5_sumOfKind_h4 N p0 k a.1 a.2.1 a.2.2 m) N (x1, 0, 0) M
def f_X5_factOf (N : Nat) (p0 : Nat) (x1 : Int32) (M : Mem) : Option (Int32 × Mem) :=
  if x1 = 0 then (some ((M.1 p0 0), M)) else (if x1 = 1 then (some ((M.1 p0 1), M)) else (if x1 = 2 then (some ((M.1 p0 7), M)) else (if x1 = 3 then (some ((M.1 p0 8), M)) else (if x1 = 4 then (some ((M.1 p0 9), M)) else (if x1 = 5 then (some ((M.1 p0 10), M)) else (if x1 = 6 then (some ((M.1 p0 2), M)) else (if x1 = 7 then (some ((M.1 p0 3), M)) else (if x1 = 8 then (some ((M.1 p0 4), M)) else (if x1 = 9 then (some ((M.1 p0 5), M)) else (if x1 = 10 then (some ((M.1 p0 6), M)) else (if x1 = 11 then (bi (f_X5_sumOfKind N p0 0 M) fun r_15 M_13 =>
  some (r_15, M_13)) else (if x1 = 12 then (bi (f_X5_sumOfKind N p0 1 M) fun r_19 M_17 =>
  some (r_19, M_17)) else (bi (f_X5_countFoggy N p0 (p0 + 6) M) fun r_22 M_20 =>
  some (r_22, M_20))))))))))))))
def f_X5_isGate (p0 : Nat) (x1 : Int32) (M : Mem) : Option (Bool × Mem) :=
  if x1 < 0 then (some (false, M)) else (if (M.1 p0 7) ≤ x1 then (some (false, M)) else (some (true, M)))
def f_X5_isHolder (p0 : Nat) (x1 : Int32) (M : Mem) : Option (Bool × Mem) :=
  if x1 < 0 then (some (false, M)) else (if (M.1 p0 8) ≤ x1 then (some (false, M)) else (some (true, M)))
def f_X5_isShip (p0 : Nat) (x1 : Int32) (M : Mem) : Option (Bool × Mem) :=
  if x1 < 0 then (some (false, M)) else (if (M.1 p0 10) ≤ x1 then (some (false, M)) else (some (true, M)))
def f_X5_beside (p0 : Nat) (x1 : Int32) (x2 : Int32) (M : Mem) : Option (Int32 × Mem) :=
  if 0 < (M.1 p0 0) then (cz (M.1 p0 0) (
  ck x2 5 (
  bI ((x1 - x1 / (M.1 p0 0) * (M.1 p0 0)) + (sta 0 (tn x2))) fun y_3 =>
  cz (M.1 p0 0) (
  ck x2 5 (
  bI ((x1 / (M.1 p0 0)) + (sta 1 (tn x2))) fun y_6 =>
  bi (f_X5_isBoard p0 y_3 y_6 M) fun r_9 M_7 =>
  if (b2i r_9) = 0 then (some ((-1), M_7)) else (bi (f_X5_boardAt p0 y_3 y_6 M_7) fun r_12 M_10 =>
  some (r_12, M_10))))))) else (some ((-1), M))
def f_X5_allHolders (p0 : Nat) (M : Mem) : Option (Int32 × Mem) :=
  some (((1 <<< ((M.1 p0 8) &&& 31)) - 1), M)
def f_X5_isHolderSet (p0 : Nat) (x1 : Int32) (M : Mem) : Option (Bool × Mem) :=
  if x1 < 0 then (some (false, M)) else (bi (f_X5_allHolders p0 M) fun r_3 M_1 =>
  if r_3 < x1 then (some (false, M_1)) else (some (true, M_1)))
def f_X5_votesTogether_b30 (N : Nat) (p0 : Nat) (k4 : Int32 × Int32 × Int32 → Mem → Option (Int32 × Mem)) (v1 : Int32) (v2 : Int32) (v3 : Int32) (M : Mem) : Option (Int32 × Mem) :=
  k4 (v1, v2, (v3 + 1)) M
def f_X5_votesTogether_h4 (N : Nat) (p0 : Nat) (k4 : Int32 × Int32 × Int32 → Mem → Option (Int32 × Mem)) (v1 : Int32) (v2 : Int32) (v3 : Int32) (M : Mem) : Option (Int32 × Mem) :=
  if (M.1 p0 8) ≤ v3 then (some (v2, M)) else (if ((v1 >>> (v3 &&& 31)) &&& 1) = 1 then (ck v3 6 (
  bI (v2 + (M.1 (p0 + 3) (tn v3))) fun y_2 =>
  f_X5_votesTogether_b30 N p0 k4 v1 y_2 v3 M)) else (f_X5_votesTogether_b30 N p0 k4 v1 v2 v3 M))
def f_X5_votesTogether (N : Nat) (p0 : Nat) (x1 : Int32) (M : Mem) : Option (Int32 × Mem) :=
  lp (fun k a m => f_X5_votesTogether_h4 N p0 k a.1 a.2.1 a.2.2 m) N (x1, 0, 0) M
def f_X5_quotaOf (p0 : Nat) (x1 : Int32) (M : Mem) : Option (Int32 × Mem) :=
  ck ((x1 * 5) + 4) 30 (
  some ((M.1 (p0 + 1) (tn ((x1 * 5) + 4))), M))
def f_X5_canOpen (N : Nat) (p0 : Nat) (x1 : Int32) (x2 : Int32) (M : Mem) : Option (Bool × Mem) :=
  bi (f_X5_votesTogether N p0 x2 M) fun r_3 M_1 =>
  bi (f_X5_quotaOf p0 x1 M_1) fun r_6 M_4 =>
  if r_3 < r_6 then (some (false, M_4)) else (some (true, M_4))
def f_X5_smallestSet_b37 (N : Nat) (p0 : Nat) (k7 : Int32 × Int32 × Int32 → Mem → Option (Int32 × Mem)) (v1 : Int32) (v2 : Int32) (v3 : Int32) (M : Mem) : Option (Int32 × Mem) :=
  k7 (v1, v2, (v3 + 1)) M
def f_X5_smallestSet_h7 (N : Nat) (p0 : Nat) (k7 : Int32 × Int32 × Int32 → Mem → Option (Int32 × Mem)) (v1 : Int32) (v2 : Int32) (v3 : Int32) (M : Mem) : Option (Int32 × Mem) :=
  bi (f_X5_allHolders p0 M) fun r_6 M_4 =>
  if r_6 < v3 then (some (v2, M_4)) else (bi (f_X5_canOpen N p0 v1 v3 M_4) fun r_9 M_7 =>
  if (b2i r_9) = 0 then (f_X5_smallestSet_b37 N p0 k7 v1 v2 v3 M_7) else (bi (f_J6_bitCount_0f7a4 v3 M_7) fun r_12 M_10 =>
  bi (f_J6_bitCount_0f7a4 v2 M_10) fun r_15 M_13 =>
  if r_15 ≤ r_12 then (f_X5_smallestSet_b37 N p0 k7 v1 v2 v3 M_13) else (f_X5_smallestSet_b37 N p0 k7 v1 v3 v3 M_13)))
def f_X5_smallestSet (N : Nat) (p0 : Nat) (x1 : Int32) (M : Mem) : Option (Int32 × Mem) :=
  bi (f_X5_allHolders p0 M) fun r_3 M_1 =>
  lp (fun k a m => f_X5_smallestSet_h7 N p0 k a.1 a.2.1 a.2.2 m) N (x1, r_3, 0) M_1
def f_X5_decidingOrders_b89 (N : Nat) (p0 : Nat) (k5 : Int32 × Int32 × Int32 × Int32 → Mem → Option (Int32 × Mem)) (v1 : Int32) (v2 : Int32) (v3 : Int32) (v4 : Int32) (M : Mem) : Option (Int32 × Mem) :=
  k5 (v1, v2, v3, (v4 + 1)) M
def f_X5_decidingOrders_b28 (N : Nat) (p0 : Nat) (k5 : Int32 × Int32 × Int32 × Int32 → Mem → Option (Int32 × Mem)) (v1 : Int32) (v2 : Int32) (v3 : Int32) (v4 : Int32) (s0 : Int32) (M : Mem) : Option (Int32 × Mem) :=
  if s0 = 0 then (f_X5_decidingOrders_b89 N p0 k5 v1 v2 v3 v4 M) else (bi (f_X5_canOpen N p0 v1 v4 M) fun r_6 M_4 =>
  if (b2i r_6) = 0 then (bi (f_X5_canOpen N p0 v1 (v4 ||| (1 <<< (v2 &&& 31))) M_4) fun r_9 M_7 =>
  if (b2i r_9) = 0 then (f_X5_decidingOrders_b89 N p0 k5 v1 v2 v3 v4 M_7) else (bi (f_J6_bitCount_0f7a4 v4 M_7) fun r_12 M_10 =>
  ck r_12 7 (
  ck (((M_10.1 p0 8) - r_12) - 1) 7 (
  bI (v3 + ((sta 3 (tn r_12)) * (sta 3 (tn (((M_10.1 p0 8) - r_12) - 1))))) fun y_15 =>
  f_X5_decidingOrders_b89 N p0 k5 v1 v2 y_15 v4 M_10)))) else (f_X5_decidingOrders_b89 N p0 k5 v1 v2 v3 v4 M_4))
def f_X5_decidingOrders_h5 (N : Nat) (p0 : Nat) (k5 : Int32 × Int32 × Int32 × Int32 → Mem → Option (Int32 × Mem)) (v1 : Int32) (v2 : Int32) (v3 : Int32) (v4 : Int32) (M : Mem) : Option (Int32 × Mem) :=
  bi (f_X5_allHolders p0 M) fun r_3 M_1 =>
  if r_3 < v4 then (some (v3, M_1)) else (if ((v4 >>> (v2 &&& 31)) &&& 1) = 0 then (f_X5_decidingOrders_b28 N p0 k5 v1 v2 v3 v4 1 M_1) else (f_X5_decidingOrders_b28 N p0 k5 v1 v2 v3 v4 0 M_1))
def f_X5_decidingOrders (N : Nat) (p0 : Nat) (x1 : Int32) (x2 : Int32) (M : Mem) : Option (Int32 × Mem) :=
  lp (fun k a m => f_X5_decidingOrders_h5 N p0 k a.1 a.2.1 a.2.2.1 a.2.2.2 m) N (x1, x2, 0, 0) M
def f_X5_neededHolders_b36 (N : Nat) (p0 : Nat) (k4 : Int32 × Int32 × Int32 → Mem → Option (Int32 × Mem)) (v1 : Int32) (v2 : Int32) (v3 : Int32) (M : Mem) : Option (Int32 × Mem) :=
  k4 (v1, v2, (v3 + 1)) M
def f_X5_neededHolders_h4 (N : Nat) (p0 : Nat) (k4 : Int32 × Int32 × Int32 → Mem → Option (Int32 × Mem)) (v1 : Int32) (v2 : Int32) (v3 : Int32) (M : Mem) : Option (Int32 × Mem) :=
  if (M.1 p0 8) ≤ v3 then (some (v2, M)) else (bi (f_X5_allHolders p0 M) fun r_3 M_1 =>
  bi (f_X5_canOpen N p0 v1 (r_3 &&& ((1 <<< (v3 &&& 31)) ^^^ (-1))) M_1) fun r_6 M_4 =>
  if (b2i r_6) = 0 then (bI (v2 ||| (1 <<< (v3 &&& 31))) fun y_7 =>
  f_X5_neededHolders_b36 N p0 k4 v1 y_7 v3 M_4) else (f_X5_neededHolders_b36 N p0 k4 v1 v2 v3 M_4))
def f_X5_neededHolders (N : Nat) (p0 : Nat) (x1 : Int32) (M : Mem) : Option (Int32 × Mem) :=
  lp (fun k a m => f_X5_neededHolders_h4 N p0 k a.1 a.2.1 a.2.2 m) N (x1, 0, 0) M
def f_X5_powerlessHolders_b27 (N : Nat) (p0 : Nat) (k4 : Int32 × Int32 × Int32 → Mem → Option (Int32 × Mem)) (v1 : Int32) (v2 : Int32) (v3 : Int32) (M : Mem) : Option (Int32 × Mem) :=
  k4 (v1, v2, (v3 + 1)) M
def f_X5_powerlessHolders_h4 (N : Nat) (p0 : Nat) (k4 : Int32 × Int32 × Int32 → Mem → Option (Int32 × Mem)) (v1 : Int32) (v2 : Int32) (v3 : Int32) (M : Mem) : Option (Int32 × Mem) :=
  if (M.1 p0 8) ≤ v3 then (some (v2, M)) else (bi (f_X5_decidingOrders N p0 v1 v3 M) fun r_3 M_1 =>
  if r_3 = 0 then (bI (v2 ||| (1 <<< (v3 &&& 31))) fun y_4 =>
  f_X5_powerlessHolders_b27 N p0 k4 v1 y_4 v3 M_1) else (f_X5_powerlessHolders_b27 N p0 k4 v1 v2 v3 M_1))
def f_X5_powerlessHolders (N : Nat) (p0 : Nat) (x1 : Int32) (M : Mem) : Option (Int32 × Mem) :=
  lp (fun k a m => f_X5_powerlessHolders_h4 N p0 k a.1 a.2.1 a.2.2 m) N (x1, 0, 0) M
def f_X6_readSize_b75 (N : Nat) (p1 : Nat) (s0 : Int32) (M : Mem) : Option (Bool × Mem) :=
  if s0 = 0 then (some (false, M)) else (ck 0 2 (
  bM (uI M p1 0 (M.1 86 (tn 0))) fun M_7 =>
  ck 1 2 (
  bM (uI M_7 p1 1 (M_7.1 86 (tn 1))) fun M_9 =>
  bi (f_X8_takeSemicolon N M_9) fun r_12 M_10 =>
  some (r_12, M_10))))
def f_X6_readSize_b74 (N : Nat) (p1 : Nat) (M : Mem) : Option (Bool × Mem) :=
  f_X6_readSize_b75 N p1 0 M
def f_X6_readSize (N : Nat) (p1 : Nat) (M : Mem) : Option (Bool × Mem) :=
  if (M.1 p1 0) = 0 then (bv (f_X8_advance N M) fun M_1 =>
  bi (f_X8_takeNumber N 86 0 1 6 M_1) fun r_5 M_3 =>
  if (b2i r_5) = 0 then (f_X6_readSize_b74 N p1 M_3) else (bi (f_X8_takeWord N 1 M_3) fun r_15 M_13 =>
  if (b2i r_15) = 0 then (f_X6_readSize_b74 N p1 M_13) else (bi (f_X8_takeNumber N 86 1 1 5 M_13) fun r_18 M_16 =>
  if (b2i r_18) = 0 then (f_X6_readSize_b74 N p1 M_16) else (f_X6_readSize_b75 N p1 1 M_16)))) else (bi (f_X8_refuse 5 M) fun r_21 M_19 =>
  some (r_21, M_19))
def f_X6_readNewName_h29 (N : Nat) (k29 : Int64 × Int32 → Mem → Option (Bool × Mem)) (v1 : Int64) (v3 : Int32) (M : Mem) : Option (Bool × Mem) :=
  if (M.1 83 4) ≤ v3 then (if 22 ≤ (M.1 83 4) then (bv (f_X8_advance N M) fun M_7 =>
  some (true, M_7)) else (ck (M.1 83 4) 22 (
  bM (uL M 84 (tn (M.1 83 4)) v1) fun M_10 =>
  bM (uI M_10 83 4 ((M_10.1 83 4) + 1)) fun M_11 =>
  bv (f_X8_advance N M_11) fun M_12 =>
  some (true, M_12)))) else (ck v3 22 (
  if (lg_cmp (M.2 84 (tn v3)) v1) = 0 then (bi (f_X8_refuse 3 M) fun r_17 M_15 =>
  some (r_17, M_15)) else (k29 (v1, (v3 + 1)) M)))
def f_X6_readNewName (N : Nat) (M : Mem) : Option (Bool × Mem) :=
  bi (f_X8_isName N M) fun r_3 M_1 =>
  if (b2i r_3) = 0 then (bi (f_X8_refuse 2 M_1) fun r_20 M_18 =>
  some (r_20, M_18)) else (bi (f_X8_nameCode N M_1) fun r_6 M_4 =>
  lp (fun k a m => f_X6_readNewName_h29 N k a.1 a.2 m) N (r_6, 0) M_4)
def f_X6_readBoard (N : Nat) (p1 : Nat) (p2 : Nat) (x3 : Int32) (M : Mem) : Option (Bool × Mem) :=
  bi (f_X8_takeNumber N p2 x3 0 ((M.1 p1 0) - 1) M) fun r_3 M_1 =>
  if (b2i r_3) = 0 then (some (false, M_1)) else (bi (f_X8_takeNumber N p2 (x3 + 1) 0 ((M_1.1 p1 1) - 1) M_1) fun r_6 M_4 =>
  if (b2i r_6) = 0 then (some (false, M_4)) else (some (true, M_4)))
def f_X6_readGate_b186 (N : Nat) (p1 : Nat) (M : Mem) : Option (Bool × Mem) :=
  ck ((M.1 83 4) - 1) 22 (
  ck (M.1 p1 7) 6 (
  bM (uL M (p1 + 2) (tn (M.1 p1 7)) (M.2 84 (tn ((M.1 83 4) - 1)))) fun M_23 =>
  bM (uI M_23 p1 7 ((M_23.1 p1 7) + 1)) fun M_24 =>
  bi (f_X8_takeSemicolon N M_24) fun r_27 M_25 =>
  some (r_27, M_25)))
def f_X6_readGate_b131 (N : Nat) (p1 : Nat) (v3 : Int32) (s0 : Int32) (s1 : Int32) (M : Mem) : Option (Bool × Mem) :=
  ck s1 30 (
  bM (uI M (p1 + 1) (tn s1) s0) fun M_10 =>
  bi (f_X8_tryWord N 7 M_10) fun r_13 M_11 =>
  bv (f_X5_setOpen p1 (M_10.1 p1 7) (b2i r_13) M_11) fun M_14 =>
  ck (v3 + 4) 30 (
  bM (uI M_14 (p1 + 1) (tn (v3 + 4)) 1) fun M_17 =>
  bi (f_X8_tryWord N 8 M_17) fun r_20 M_18 =>
  if (b2i r_20) = 0 then (f_X6_readGate_b186 N p1 M_18) else (bi (f_X8_takeNumber N (p1 + 1) (v3 + 4) 1 99 M_18) fun r_30 M_28 =>
  if (b2i r_30) = 0 then (some (false, M_28)) else (f_X6_readGate_b186 N p1 M_28))))
def f_X6_readGate_b101 (N : Nat) (p1 : Nat) (v3 : Int32) (s0 : Int32) (M : Mem) : Option (Bool × Mem) :=
  if s0 = 0 then (some (false, M)) else (bi (f_X8_tryWord N 6 M) fun r_8 M_6 =>
  if (b2i r_8) = 0 then (f_X6_readGate_b131 N p1 v3 0 (v3 + 3) M_6) else (f_X6_readGate_b131 N p1 v3 1 (v3 + 3) M_6))
def f_X6_readGate_b100 (N : Nat) (p1 : Nat) (v3 : Int32) (M : Mem) : Option (Bool × Mem) :=
  f_X6_readGate_b101 N p1 v3 0 M
def f_X6_readGate (N : Nat) (p1 : Nat) (M : Mem) : Option (Bool × Mem) :=
  if (M.1 p1 7) < 6 then (bv (f_X8_advance N M) fun M_1 =>
  bi (f_X6_readNewName N M_1) fun r_5 M_3 =>
  if (b2i r_5) = 0 then (f_X6_readGate_b100 N p1 ((M.1 p1 7) * 5) M_3) else (bi (f_X8_takeWord N 4 M_3) fun r_33 M_31 =>
  if (b2i r_33) = 0 then (f_X6_readGate_b100 N p1 ((M.1 p1 7) * 5) M_31) else (bi (f_X6_readBoard N p1 (p1 + 1) ((M.1 p1 7) * 5) M_31) fun r_36 M_34 =>
  if (b2i r_36) = 0 then (f_X6_readGate_b100 N p1 ((M.1 p1 7) * 5) M_34) else (bi (f_X8_takeWord N 5 M_34) fun r_39 M_37 =>
  if (b2i r_39) = 0 then (f_X6_readGate_b100 N p1 ((M.1 p1 7) * 5) M_37) else (bi (f_X8_takeNumber N (p1 + 1) (((M.1 p1 7) * 5) + 2) 1 40 M_37) fun r_42 M_40 =>
  if (b2i r_42) = 0 then (f_X6_readGate_b100 N p1 ((M.1 p1 7) * 5) M_40) else (f_X6_readGate_b101 N p1 ((M.1 p1 7) * 5) 1 M_40)))))) else (bi (f_X8_refuse 6 M) fun r_45 M_43 =>
  some (r_45, M_43))
def f_X6_readHolder_b71 (N : Nat) (p1 : Nat) (s0 : Int32) (M : Mem) : Option (Bool × Mem) :=
  if s0 = 0 then (some (false, M)) else (bM (uI M p1 8 ((M.1 p1 8) + 1)) fun M_6 =>
  bi (f_X8_takeSemicolon N M_6) fun r_9 M_7 =>
  some (r_9, M_7))
def f_X6_readHolder_b70 (N : Nat) (p1 : Nat) (M : Mem) : Option (Bool × Mem) :=
  f_X6_readHolder_b71 N p1 0 M
def f_X6_readHolder (N : Nat) (p1 : Nat) (M : Mem) : Option (Bool × Mem) :=
  if (M.1 p1 8) < 6 then (bv (f_X8_advance N M) fun M_1 =>
  bi (f_X6_readNewName N M_1) fun r_5 M_3 =>
  if (b2i r_5) = 0 then (f_X6_readHolder_b70 N p1 M_3) else (bi (f_X8_takeWord N 10 M_3) fun r_12 M_10 =>
  if (b2i r_12) = 0 then (f_X6_readHolder_b70 N p1 M_10) else (bi (f_X8_takeNumber N (p1 + 3) (M_10.1 p1 8) 1 20 M_10) fun r_15 M_13 =>
  if (b2i r_15) = 0 then (f_X6_readHolder_b70 N p1 M_13) else (f_X6_readHolder_b71 N p1 1 M_13)))) else (bi (f_X8_refuse 6 M) fun r_18 M_16 =>
  some (r_18, M_16))
def f_X6_readTrade_b194 (N : Nat) (p1 : Nat) (s0 : Int32) (s1 : Int32) (M : Mem) : Option (Bool × Mem) :=
  ck s1 36 (
  bM (uI M (p1 + 4) (tn s1) s0) fun M_10 =>
  bM (uI M_10 p1 9 ((M_10.1 p1 9) + 1)) fun M_11 =>
  bi (f_X8_takeSemicolon N M_11) fun r_14 M_12 =>
  some (r_14, M_12))
def f_X6_readTrade_b164 (N : Nat) (p1 : Nat) (v3 : Int32) (s0 : Int32) (M : Mem) : Option (Bool × Mem) :=
  if s0 = 0 then (some (false, M)) else (bi (f_X8_tryWord N 15 M) fun r_8 M_6 =>
  if (b2i r_8) = 0 then (f_X6_readTrade_b194 N p1 0 (v3 + 5) M_6) else (f_X6_readTrade_b194 N p1 1 (v3 + 5) M_6))
def f_X6_readTrade_b163 (N : Nat) (p1 : Nat) (v3 : Int32) (M : Mem) : Option (Bool × Mem) :=
  f_X6_readTrade_b164 N p1 v3 0 M
def f_X6_readTrade (N : Nat) (p1 : Nat) (M : Mem) : Option (Bool × Mem) :=
  if (M.1 p1 9) < 6 then (bv (f_X8_advance N M) fun M_1 =>
  bi (f_X6_readNewName N M_1) fun r_5 M_3 =>
  if (b2i r_5) = 0 then (f_X6_readTrade_b163 N p1 ((M.1 p1 9) * 6) M_3) else (bi (f_X8_takeWord N 4 M_3) fun r_17 M_15 =>
  if (b2i r_17) = 0 then (f_X6_readTrade_b163 N p1 ((M.1 p1 9) * 6) M_15) else (bi (f_X6_readBoard N p1 (p1 + 4) ((M.1 p1 9) * 6) M_15) fun r_20 M_18 =>
  if (b2i r_20) = 0 then (f_X6_readTrade_b163 N p1 ((M.1 p1 9) * 6) M_18) else (bi (f_X8_takeWord N 12 M_18) fun r_23 M_21 =>
  if (b2i r_23) = 0 then (f_X6_readTrade_b163 N p1 ((M.1 p1 9) * 6) M_21) else (bi (f_X8_takeNumber N (p1 + 4) (((M.1 p1 9) * 6) + 2) 1 24 M_21) fun r_26 M_24 =>
  if (b2i r_26) = 0 then (f_X6_readTrade_b163 N p1 ((M.1 p1 9) * 6) M_24) else (bi (f_X8_takeWord N 13 M_24) fun r_29 M_27 =>
  if (b2i r_29) = 0 then (f_X6_readTrade_b163 N p1 ((M.1 p1 9) * 6) M_27) else (ck (((M.1 p1 9) * 6) + 2) 36 (
  bi (f_X8_takeNumber N (p1 + 4) (((M.1 p1 9) * 6) + 3) (M_27.1 (p1 + 4) (tn (((M.1 p1 9) * 6) + 2))) 24 M_27) fun r_33 M_31 =>
  if (b2i r_33) = 0 then (f_X6_readTrade_b163 N p1 ((M.1 p1 9) * 6) M_31) else (bi (f_X8_takeWord N 14 M_31) fun r_36 M_34 =>
  if (b2i r_36) = 0 then (f_X6_readTrade_b163 N p1 ((M.1 p1 9) * 6) M_34) else (bi (f_X8_takeNumber N (p1 + 4) (((M.1 p1 9) * 6) + 4) 1 99 M_34) fun r_39 M_37 =>
  if (b2i r_39) = 0 then (f_X6_readTrade_b163 N p1 ((M.1 p1 9) * 6) M_37) else (f_X6_readTrade_b164 N p1 ((M.1 p1 9) * 6) 1 M_37))))))))))) else (bi (f_X8_refuse 6 M) fun r_42 M_40 =>
  some (r_42, M_40))
def f_X6_readShip_b125 (N : Nat) (p1 : Nat) (s0 : Int32) (s1 : Int32) (M : Mem) : Option (Bool × Mem) :=
  ck s1 20 (
  bM (uI M (p1 + 5) (tn s1) s0) fun M_10 =>
  bM (uI M_10 p1 10 ((M_10.1 p1 10) + 1)) fun M_11 =>
  bi (f_X8_takeSemicolon N M_11) fun r_14 M_12 =>
  some (r_14, M_12))
def f_X6_readShip_b95 (N : Nat) (p1 : Nat) (v3 : Int32) (s0 : Int32) (M : Mem) : Option (Bool × Mem) :=
  if s0 = 0 then (some (false, M)) else (bi (f_X8_tryWord N 17 M) fun r_8 M_6 =>
  if (b2i r_8) = 0 then (f_X6_readShip_b125 N p1 0 (v3 + 4) M_6) else (f_X6_readShip_b125 N p1 1 (v3 + 4) M_6))
def f_X6_readShip_b94 (N : Nat) (p1 : Nat) (v3 : Int32) (M : Mem) : Option (Bool × Mem) :=
  f_X6_readShip_b95 N p1 v3 0 M
def f_X6_readShip (N : Nat) (p1 : Nat) (M : Mem) : Option (Bool × Mem) :=
  if (M.1 p1 10) < 4 then (bv (f_X8_advance N M) fun M_1 =>
  bi (f_X6_readNewName N M_1) fun r_5 M_3 =>
  if (b2i r_5) = 0 then (f_X6_readShip_b94 N p1 ((M.1 p1 10) * 5) M_3) else (bi (f_X8_takeWord N 4 M_3) fun r_17 M_15 =>
  if (b2i r_17) = 0 then (f_X6_readShip_b94 N p1 ((M.1 p1 10) * 5) M_15) else (bi (f_X6_readBoard N p1 (p1 + 5) ((M.1 p1 10) * 5) M_15) fun r_20 M_18 =>
  if (b2i r_20) = 0 then (f_X6_readShip_b94 N p1 ((M.1 p1 10) * 5) M_18) else (bi (f_X8_takeWord N 13 M_18) fun r_23 M_21 =>
  if (b2i r_23) = 0 then (f_X6_readShip_b94 N p1 ((M.1 p1 10) * 5) M_21) else (bi (f_X6_readBoard N p1 (p1 + 5) (((M.1 p1 10) * 5) + 2) M_21) fun r_26 M_24 =>
  if (b2i r_26) = 0 then (f_X6_readShip_b94 N p1 ((M.1 p1 10) * 5) M_24) else (f_X6_readShip_b95 N p1 ((M.1 p1 10) * 5) 1 M_24)))))) else (bi (f_X8_refuse 6 M) fun r_29 M_27 =>
  some (r_29, M_27))
def f_X6_readSetting (N : Nat) (x1 : Int32) (x2 : Int32) (x3 : Int32) (M : Mem) : Option (Bool × Mem) :=
  ck x1 3 (
  if (M.1 85 (tn x1)) = (-1) then (bv (f_X8_advance N M) fun M_2 =>
  bi (f_X8_takeNumber N 85 x1 x2 x3 M_2) fun r_6 M_4 =>
  if (b2i r_6) = 0 then (some (false, M_4)) else (bi (f_X8_takeSemicolon N M_4) fun r_9 M_7 =>
  if (b2i r_9) = 0 then (some (false, M_7)) else (some (true, M_7)))) else (bi (f_X8_refuse 5 M) fun r_12 M_10 =>
  some (r_12, M_10)))
def f_X6_readPart (N : Nat) (p1 : Nat) (M : Mem) : Option (Bool × Mem) :=
  bi (f_X8_isWord N 0 M) fun r_3 M_1 =>
  if (b2i r_3) = 0 then (if (M_1.1 p1 0) = 0 then (bi (f_X8_refuse 2 M_1) fun r_51 M_49 =>
  some (r_51, M_49)) else (bi (f_X8_isWord N 2 M_1) fun r_6 M_4 =>
  if (b2i r_6) = 0 then (bi (f_X8_isWord N 9 M_4) fun r_9 M_7 =>
  if (b2i r_9) = 0 then (bi (f_X8_isWord N 11 M_7) fun r_12 M_10 =>
  if (b2i r_12) = 0 then (bi (f_X8_isWord N 16 M_10) fun r_15 M_13 =>
  if (b2i r_15) = 0 then (bi (f_X8_isWord N 18 M_13) fun r_18 M_16 =>
  if (b2i r_18) = 0 then (bi (f_X8_isWord N 19 M_16) fun r_21 M_19 =>
  if (b2i r_21) = 0 then (bi (f_X8_isWord N 20 M_19) fun r_24 M_22 =>
  if (b2i r_24) = 0 then (bi (f_X8_refuse 2 M_22) fun r_27 M_25 =>
  some (r_27, M_25)) else (bi (f_X6_readSetting N 2 1 99 M_22) fun r_30 M_28 =>
  some (r_30, M_28))) else (bi (f_X6_readSetting N 1 0 9 M_19) fun r_33 M_31 =>
  some (r_33, M_31))) else (bi (f_X6_readSetting N 0 0 4 M_16) fun r_36 M_34 =>
  some (r_36, M_34))) else (bi (f_X6_readShip N p1 M_13) fun r_39 M_37 =>
  some (r_39, M_37))) else (bi (f_X6_readTrade N p1 M_10) fun r_42 M_40 =>
  some (r_42, M_40))) else (bi (f_X6_readHolder N p1 M_7) fun r_45 M_43 =>
  some (r_45, M_43))) else (bi (f_X6_readGate N p1 M_4) fun r_48 M_46 =>
  some (r_48, M_46)))) else (bi (f_X6_readSize N p1 M_1) fun r_54 M_52 =>
  some (r_54, M_52))
def f_X6_fill_b126 (N : Nat) (p1 : Nat) (s0 : Int32) (M : Mem) : Option (Bool × Mem) :=
  bM (uI M p1 4 s0) fun M_16 =>
  if (M_16.1 82 6) = 0 then (some (true, M_16)) else (some (false, M_16))
def f_X6_fill_b101 (N : Nat) (p1 : Nat) (s0 : Int32) (M : Mem) : Option (Bool × Mem) :=
  bM (uI M p1 3 s0) fun M_13 =>
  ck 2 3 (
  if (M_13.1 85 (tn 2)) = (-1) then (f_X6_fill_b126 N p1 10 M_13) else (ck 2 3 (
  f_X6_fill_b126 N p1 (M_13.1 85 (tn 2)) M_13)))
def f_X6_fill_b77 (N : Nat) (p1 : Nat) (s0 : Int32) (M : Mem) : Option (Bool × Mem) :=
  bM (uI M p1 2 s0) fun M_10 =>
  ck 1 3 (
  if (M_10.1 85 (tn 1)) = (-1) then (f_X6_fill_b101 N p1 1 M_10) else (ck 1 3 (
  f_X6_fill_b101 N p1 (M_10.1 85 (tn 1)) M_10)))
def f_X6_fill_b56 (N : Nat) (p1 : Nat) (M : Mem) : Option (Bool × Mem) :=
  ck 0 3 (
  if (M.1 85 (tn 0)) = (-1) then (f_X6_fill_b77 N p1 0 M) else (ck 0 3 (
  f_X6_fill_b77 N p1 (M.1 85 (tn 0)) M)))
def f_X6_fill_h27 (N : Nat) (p1 : Nat) (k27 : Int32 → Mem → Option (Bool × Mem)) (v3 : Int32) (M : Mem) : Option (Bool × Mem) :=
  if 900 ≤ v3 then (f_X6_fill_b56 N p1 M) else (bi (f_X8_isGoingOn M) fun r_19 M_17 =>
  if (b2i r_19) = 0 then (f_X6_fill_b56 N p1 M_17) else (bi (f_X6_readPart N p1 M_17) fun r_22 M_20 =>
  k27 (v3 + 1) M_20))
def f_X6_fill (N : Nat) (p1 : Nat) (x2 : Int32) (M : Mem) : Option (Bool × Mem) :=
  bv (f_X5_clear N p1 M) fun M_1 =>
  bM (uI M_1 83 4 0) fun M_3 =>
  bv (f_J7_fill_53178 N 85 (-1) M_3) fun M_4 =>
  bv (f_X8_begin N x2 M_4) fun M_6 =>
  lp (fun k a m => f_X6_fill_h27 N p1 k a m) N 0 M_6
def f_X7_priceOf_b39 (p1 : Nat) (s0 : Int32) (s1 : Int32) (M : Mem) : Option (Int32 × Mem) :=
  if s1 = s0 then (some (1, M)) else (some (1000, M))
def f_X7_priceOf (p1 : Nat) (x2 : Int32) (x3 : Int32) (M : Mem) : Option (Int32 × Mem) :=
  bi (f_X5_isFoggy p1 (p1 + 6) x2 M) fun r_3 M_1 =>
  if x3 = 2 then (if (b2i r_3) = 0 then (some (1, M_1)) else (some (3, M_1))) else (if x3 = 1 then (f_X7_priceOf_b39 p1 1 (b2i r_3) M_1) else (f_X7_priceOf_b39 p1 0 (b2i r_3) M_1))
def f_X7_shortenAll_b92 (N : Nat) (p1 : Nat) (k11 : Int32 × Int32 × Int32 × Int32 → Mem → Option (Bool × Mem)) (k30 : Int32 × Int32 × Int32 × Int32 × Int32 × Int32 → Mem → Option (Bool × Mem)) (v2 : Int32) (v3 : Int32) (v4 : Int32) (v5 : Int32) (v6 : Int32) (v7 : Int32) (M : Mem) : Option (Bool × Mem) :=
  k30 (v2, v3, v4, v5, v6, (v7 + 1)) M
def f_X7_shortenAll_h30 (N : Nat) (p1 : Nat) (k11 : Int32 × Int32 × Int32 × Int32 → Mem → Option (Bool × Mem)) (k30 : Int32 × Int32 × Int32 × Int32 × Int32 × Int32 → Mem → Option (Bool × Mem)) (v2 : Int32) (v3 : Int32) (v4 : Int32) (v5 : Int32) (v6 : Int32) (v7 : Int32) (M : Mem) : Option (Bool × Mem) :=
  if 4 < v7 then (k11 (v2, v3, v4, (v5 + 1)) M) else (bi (f_X5_beside p1 v5 v7 M) fun r_10 M_8 =>
  if r_10 = (-1) then (f_X7_shortenAll_b92 N p1 k11 k30 v2 v3 v4 v5 v6 v7 M_8) else (ck r_10 30 (
  ck v5 30 (
  if (M_8.1 97 (tn v5)) ≤ ((M_8.1 97 (tn r_10)) + v6) then (f_X7_shortenAll_b92 N p1 k11 k30 v2 v3 v4 v5 v6 v7 M_8) else (ck r_10 30 (
  ck v5 30 (
  bM (uI M_8 97 (tn v5) ((M_8.1 97 (tn r_10)) + v6)) fun M_15 =>
  f_X7_shortenAll_b92 N p1 k11 k30 v2 v3 1 v5 v6 v7 M_15)))))))
def f_X7_shortenAll_h11 (N : Nat) (p1 : Nat) (k11 : Int32 × Int32 × Int32 × Int32 → Mem → Option (Bool × Mem)) (v2 : Int32) (v3 : Int32) (v4 : Int32) (v5 : Int32) (M : Mem) : Option (Bool × Mem) :=
  if v3 ≤ v5 then (zb v4 fun b_4 =>
  some (b_4, M)) else (bi (f_X7_priceOf p1 v5 v2 M) fun r_7 M_5 =>
  lp (fun k a m => f_X7_shortenAll_h30 N p1 k11 k a.1 a.2.1 a.2.2.1 a.2.2.2.1 a.2.2.2.2.1 a.2.2.2.2.2 m) N (v2, v3, v4, v5, r_7, 1) M_5)
def f_X7_shortenAll (N : Nat) (p1 : Nat) (x2 : Int32) (M : Mem) : Option (Bool × Mem) :=
  bi (f_X5_boardCount p1 M) fun r_3 M_1 =>
  lp (fun k a m => f_X7_shortenAll_h11 N p1 k a.1 a.2.1 a.2.2.1 a.2.2.2 m) N (x2, r_3, 0, 0) M_1
def f_X7_leastCount_b50 (N : Nat) (p1 : Nat) (v3 : Int32) (M : Mem) : Option (Int32 × Mem) :=
  ck v3 30 (
  if (M.1 97 (tn v3)) < 1000 then (ck v3 30 (
  some ((M.1 97 (tn v3)), M))) else (some ((-1), M)))
def f_X7_leastCount_h23 (N : Nat) (p1 : Nat) (k23 : Int32 × Int32 × Int32 × Int32 → Mem → Option (Int32 × Mem)) (v3 : Int32) (v4 : Int32) (v5 : Int32) (v6 : Int32) (M : Mem) : Option (Int32 × Mem) :=
  if 30 ≤ v6 then (f_X7_leastCount_b50 N p1 v3 M) else (if v5 = 0 then (f_X7_leastCount_b50 N p1 v3 M) else (bi (f_X7_shortenAll N p1 v4 M) fun r_9 M_7 =>
  k23 (v3, v4, (b2i r_9), (v6 + 1)) M_7))
def f_X7_leastCount (N : Nat) (p1 : Nat) (x2 : Int32) (x3 : Int32) (x4 : Int32) (M : Mem) : Option (Int32 × Mem) :=
  bv (f_J7_fill_53178 N 97 1000 M) fun M_1 =>
  ck x2 30 (
  bM (uI M_1 97 (tn x2) 0) fun M_4 =>
  lp (fun k a m => f_X7_leastCount_h23 N p1 k a.1 a.2.1 a.2.2.1 a.2.2.2 m) N (x3, x4, 1, 0) M_4)
def f_X7_isAtOrBeside_b60 (N : Nat) (p1 : Nat) (k19 : Int32 × Int32 × Int32 × Int32 → Mem → Option (Bool × Mem)) (v2 : Int32) (v3 : Int32) (v5 : Int32) (s0 : Int32) (M : Mem) : Option (Bool × Mem) :=
  k19 (v2, v3, s0, (v5 + 1)) M
def f_X7_isAtOrBeside_b59 (N : Nat) (p1 : Nat) (k19 : Int32 × Int32 × Int32 × Int32 → Mem → Option (Bool × Mem)) (v2 : Int32) (v3 : Int32) (v5 : Int32) (M : Mem) : Option (Bool × Mem) :=
  f_X7_isAtOrBeside_b60 N p1 k19 v2 v3 v5 0 M
def f_X7_isAtOrBeside_h19 (N : Nat) (p1 : Nat) (k19 : Int32 × Int32 × Int32 × Int32 → Mem → Option (Bool × Mem)) (v2 : Int32) (v3 : Int32) (v4 : Int32) (v5 : Int32) (M : Mem) : Option (Bool × Mem) :=
  if 4 < v5 then (zb v4 fun b_1 =>
  some (b_1, M)) else (if v4 = 0 then (bi (f_X5_beside p1 v3 v5 M) fun r_5 M_3 =>
  if r_5 = (-1) then (f_X7_isAtOrBeside_b59 N p1 k19 v2 v3 v5 M_3) else (if ((v2 >>> (r_5 &&& 31)) &&& 1) = 1 then (f_X7_isAtOrBeside_b60 N p1 k19 v2 v3 v5 1 M_3) else (f_X7_isAtOrBeside_b59 N p1 k19 v2 v3 v5 M_3))) else (zb v4 fun b_2 =>
  some (b_2, M)))
def f_X7_isAtOrBeside_b14 (N : Nat) (p1 : Nat) (v2 : Int32) (v3 : Int32) (s0 : Int32) (M : Mem) : Option (Bool × Mem) :=
  lp (fun k a m => f_X7_isAtOrBeside_h19 N p1 k a.1 a.2.1 a.2.2.1 a.2.2.2 m) N (v2, v3, s0, 1) M
def f_X7_isAtOrBeside (N : Nat) (p1 : Nat) (x2 : Int32) (x3 : Int32) (M : Mem) : Option (Bool × Mem) :=
  if ((x2 >>> (x3 &&& 31)) &&& 1) = 1 then (f_X7_isAtOrBeside_b14 N p1 x2 x3 1 M) else (f_X7_isAtOrBeside_b14 N p1 x2 x3 0 M)
def f_X7_reachedThen_b53 (N : Nat) (p1 : Nat) (k12 : Int32 × Int32 × Int32 × Int32 × Int32 → Mem → Option (Int32 × Mem)) (v2 : Int32) (v3 : Int32) (v4 : Int32) (v5 : Int32) (v6 : Int32) (M : Mem) : Option (Int32 × Mem) :=
  k12 (v2, v3, v4, v5, (v6 + 1)) M
def f_X7_reachedThen_h12 (N : Nat) (p1 : Nat) (k12 : Int32 × Int32 × Int32 × Int32 × Int32 → Mem → Option (Int32 × Mem)) (v2 : Int32) (v3 : Int32) (v4 : Int32) (v5 : Int32) (v6 : Int32) (M : Mem) : Option (Int32 × Mem) :=
  if v4 ≤ v6 then (some (v5, M)) else (bi (f_X5_isFoggy p1 98 v6 M) fun r_6 M_4 =>
  if (b2i r_6) = v3 then (bi (f_X7_isAtOrBeside N p1 v2 v6 M_4) fun r_9 M_7 =>
  if (b2i r_9) = 0 then (f_X7_reachedThen_b53 N p1 k12 v2 v3 v4 v5 v6 M_7) else (bI (v5 ||| (1 <<< (v6 &&& 31))) fun y_10 =>
  f_X7_reachedThen_b53 N p1 k12 v2 v3 v4 y_10 v6 M_7)) else (f_X7_reachedThen_b53 N p1 k12 v2 v3 v4 v5 v6 M_4))
def f_X7_reachedThen (N : Nat) (p1 : Nat) (x2 : Int32) (x3 : Int32) (M : Mem) : Option (Int32 × Mem) :=
  bi (f_X5_boardCount p1 M) fun r_3 M_1 =>
  lp (fun k a m => f_X7_reachedThen_h12 N p1 k a.1 a.2.1 a.2.2.1 a.2.2.2.1 a.2.2.2.2 m) N (x2, x3, r_3, 0, 0) M_1
def f_X7_leastHours_h89 (N : Nat) (p1 : Nat) (k89 : Int32 × Int32 × Int32 × Int32 → Mem → Option (Int32 × Mem)) (v5 : Int32) (v6 : Int32) (v7 : Int32) (v8 : Int32) (M : Mem) : Option (Int32 × Mem) :=
  if 48 < v8 then (some ((-1), M)) else (if v7 = 0 then (some ((-1), M)) else (if ((v7 >>> (v5 &&& 31)) &&& 1) = 1 then (some (v8, M)) else (bv (f_X10_passHour N p1 98 (M.1 p1 6) M) fun M_13 =>
  bi (f_X7_reachedThen N p1 v7 v6 M_13) fun r_17 M_15 =>
  k89 (v5, v6, r_17, (v8 + 1)) M_15)))
def f_X7_leastHours_b63 (N : Nat) (p1 : Nat) (v4 : Int32) (v5 : Int32) (s0 : Int32) (M : Mem) : Option (Int32 × Mem) :=
  bM (rI M 98 (va_cpy (M.1 (p1 + 6)) (M.1 98) (tn 0) (tn 0) (tn 60))) fun M_12 =>
  lp (fun k a m => f_X7_leastHours_h89 N p1 k a.1 a.2.1 a.2.2.1 a.2.2.2 m) N (v5, s0, (1 <<< (v4 &&& 31)), 0) M_12
def f_X7_leastHours (N : Nat) (p1 : Nat) (x2 : Int32) (M : Mem) : Option (Int32 × Mem) :=
  ck (x2 * 5) 20 (
  ck ((x2 * 5) + 1) 20 (
  bi (f_X5_boardAt p1 (M.1 (p1 + 5) (tn (x2 * 5))) (M.1 (p1 + 5) (tn ((x2 * 5) + 1))) M) fun r_5 M_3 =>
  ck ((x2 * 5) + 2) 20 (
  ck ((x2 * 5) + 3) 20 (
  bi (f_X5_boardAt p1 (M_3.1 (p1 + 5) (tn ((x2 * 5) + 2))) (M_3.1 (p1 + 5) (tn ((x2 * 5) + 3))) M_3) fun r_10 M_8 =>
  ck ((x2 * 5) + 4) 20 (
  if (M_8.1 (p1 + 5) (tn ((x2 * 5) + 4))) = 1 then (f_X7_leastHours_b63 N p1 r_5 r_10 1 M_8) else (f_X7_leastHours_b63 N p1 r_5 r_10 0 M_8))))))
def f_X7_enqueue (x1 : Int32) (x2 : Int32) (M : Mem) : Option (Mem) :=
  ck x1 60 (
  if (M.1 101 (tn x1)) = (-1) then (if 60 ≤ (M.1 96 7) then (some M) else (ck x1 60 (
  bM (uI M 101 (tn x1) x2) fun M_3 =>
  ck (M_3.1 96 7) 60 (
  bM (uI M_3 102 (tn (M_3.1 96 7)) x1) fun M_5 =>
  bM (uI M_5 96 7 ((M_5.1 96 7) + 1)) fun M_6 =>
  some M_6)))) else (some M))
def f_X7_roadPlace (x0 : Int32) (x1 : Int32) (M : Mem) : Option (Int32 × Mem) :=
  some (((x0 * 5) + x1), M)
def f_X7_goOut_b86 (N : Nat) (p1 : Nat) (k3 : Int32 × Int32 × Int32 × Int32 → Mem → Option (Mem)) (v2 : Int32) (v3 : Int32) (v4 : Int32) (v5 : Int32) (M : Mem) : Option (Mem) :=
  k3 (v2, v3, v4, (v5 + 1)) M
def f_X7_goOut_b55 (N : Nat) (p1 : Nat) (k3 : Int32 × Int32 × Int32 × Int32 → Mem → Option (Mem)) (v2 : Int32) (v3 : Int32) (v4 : Int32) (v5 : Int32) (v6 : Int32) (s0 : Int32) (M : Mem) : Option (Mem) :=
  if s0 = 0 then (f_X7_goOut_b86 N p1 k3 v2 v3 v4 v5 M) else (bi (f_X7_roadPlace v2 v5 M) fun r_9 M_7 =>
  ck r_9 150 (
  if (M_7.1 100 (tn r_9)) = 0 then (bv (f_X7_enqueue v6 (30 + v2) M_7) fun M_11 =>
  f_X7_goOut_b86 N p1 k3 v2 v3 v4 v5 M_11) else (f_X7_goOut_b86 N p1 k3 v2 v3 v4 v5 M_7)))
def f_X7_goOut_b54 (N : Nat) (p1 : Nat) (k3 : Int32 × Int32 × Int32 × Int32 → Mem → Option (Mem)) (v2 : Int32) (v3 : Int32) (v4 : Int32) (v5 : Int32) (v6 : Int32) (M : Mem) : Option (Mem) :=
  f_X7_goOut_b55 N p1 k3 v2 v3 v4 v5 v6 0 M
def f_X7_goOut_b50 (N : Nat) (p1 : Nat) (k3 : Int32 × Int32 × Int32 × Int32 → Mem → Option (Mem)) (v2 : Int32) (v3 : Int32) (v4 : Int32) (v5 : Int32) (v6 : Int32) (M : Mem) : Option (Mem) :=
  f_X7_goOut_b55 N p1 k3 v2 v3 v4 v5 v6 1 M
def f_X7_goOut_h3 (N : Nat) (p1 : Nat) (k3 : Int32 × Int32 × Int32 × Int32 → Mem → Option (Mem)) (v2 : Int32) (v3 : Int32) (v4 : Int32) (v5 : Int32) (M : Mem) : Option (Mem) :=
  if 4 < v5 then (ck v2 30 (
  if (M.1 99 (tn v2)) = 1 then (bv (f_X7_enqueue v2 (30 + v2) M) fun M_2 =>
  some M_2) else (some M))) else (bi (f_X5_beside p1 v2 v5 M) fun r_6 M_4 =>
  if r_6 = (-1) then (f_X7_goOut_b54 N p1 k3 v2 v3 v4 v5 r_6 M_4) else (if r_6 = v3 then (f_X7_goOut_b54 N p1 k3 v2 v3 v4 v5 r_6 M_4) else (if r_6 = v4 then (f_X7_goOut_b50 N p1 k3 v2 v3 v4 v5 r_6 M_4) else (bi (f_X5_isFoggy p1 (p1 + 6) r_6 M_4) fun r_15 M_13 =>
  if (b2i r_15) = 0 then (f_X7_goOut_b54 N p1 k3 v2 v3 v4 v5 r_6 M_13) else (f_X7_goOut_b50 N p1 k3 v2 v3 v4 v5 r_6 M_13)))))
def f_X7_goOut (N : Nat) (p1 : Nat) (x2 : Int32) (x3 : Int32) (x4 : Int32) (M : Mem) : Option (Mem) :=
  lp (fun k a m => f_X7_goOut_h3 N p1 k a.1 a.2.1 a.2.2.1 a.2.2.2 m) N (x2, x3, x4, 1) M
def f_X7_goIn_b78 (N : Nat) (p1 : Nat) (k21 : Int32 × Int32 × Int32 → Mem → Option (Mem)) (v2 : Int32) (v3 : Int32) (v4 : Int32) (M : Mem) : Option (Mem) :=
  k21 (v2, v3, (v4 + 1)) M
def f_X7_goIn_h21 (N : Nat) (p1 : Nat) (k21 : Int32 × Int32 × Int32 → Mem → Option (Mem)) (v2 : Int32) (v3 : Int32) (v4 : Int32) (M : Mem) : Option (Mem) :=
  if 4 < v4 then (some M) else (bi (f_X5_beside p1 v2 v4 M) fun r_4 M_2 =>
  if r_4 = (-1) then (f_X7_goIn_b78 N p1 k21 v2 v3 v4 M_2) else (if r_4 = v3 then (f_X7_goIn_b78 N p1 k21 v2 v3 v4 M_2) else (ck v4 5 (
  bi (f_X7_roadPlace r_4 (sta 2 (tn v4)) M_2) fun r_8 M_6 =>
  ck r_8 150 (
  if (M_6.1 100 (tn r_8)) = 1 then (bv (f_X7_enqueue (30 + r_4) v2 M_6) fun M_10 =>
  f_X7_goIn_b78 N p1 k21 v2 v3 v4 M_10) else (f_X7_goIn_b78 N p1 k21 v2 v3 v4 M_6))))))
def f_X7_goIn_b18 (N : Nat) (p1 : Nat) (v2 : Int32) (v3 : Int32) (M : Mem) : Option (Mem) :=
  lp (fun k a m => f_X7_goIn_h21 N p1 k a.1 a.2.1 a.2.2 m) N (v2, v3, 1) M
def f_X7_goIn (N : Nat) (p1 : Nat) (x2 : Int32) (x3 : Int32) (M : Mem) : Option (Mem) :=
  ck x2 30 (
  if (M.1 99 (tn x2)) = 0 then (bv (f_X7_enqueue (30 + x2) x2 M) fun M_12 =>
  f_X7_goIn_b18 N p1 x2 x3 M_12) else (f_X7_goIn_b18 N p1 x2 x3 M))
def f_X7_findRoad_b92 (N : Nat) (p1 : Nat) (v3 : Int32) (M : Mem) : Option (Bool × Mem) :=
  ck v3 60 (
  if (M.1 101 (tn v3)) = (-1) then (some (false, M)) else (some (true, M)))
def f_X7_findRoad_b86 (N : Nat) (p1 : Nat) (k28 : Int32 × Int32 × Int32 → Mem → Option (Bool × Mem)) (v2 : Int32) (v3 : Int32) (v4 : Int32) (M : Mem) : Option (Bool × Mem) :=
  k28 (v2, v3, (v4 + 1)) M
def f_X7_findRoad_h28 (N : Nat) (p1 : Nat) (k28 : Int32 × Int32 × Int32 → Mem → Option (Bool × Mem)) (v2 : Int32) (v3 : Int32) (v4 : Int32) (M : Mem) : Option (Bool × Mem) :=
  if (M.1 96 7) ≤ v4 then (f_X7_findRoad_b92 N p1 v3 M) else (ck v3 60 (
  if (M.1 101 (tn v3)) = (-1) then (ck v4 60 (
  if (M.1 102 (tn v4)) < 30 then (bv (f_X7_goIn N p1 (M.1 102 (tn v4)) v2 M) fun M_9 =>
  f_X7_findRoad_b86 N p1 k28 v2 v3 v4 M_9) else (bv (f_X7_goOut N p1 ((M.1 102 (tn v4)) - 30) v2 v3 M) fun M_11 =>
  f_X7_findRoad_b86 N p1 k28 v2 v3 v4 M_11))) else (f_X7_findRoad_b92 N p1 v3 M)))
def f_X7_findRoad (N : Nat) (p1 : Nat) (x2 : Int32) (x3 : Int32) (M : Mem) : Option (Bool × Mem) :=
  bv (f_J7_fill_53178 N 101 (-1) M) fun M_1 =>
  bM (uI M_1 96 7 0) fun M_3 =>
  bv (f_X7_enqueue (30 + x2) (30 + x2) M_3) fun M_4 =>
  lp (fun k a m => f_X7_findRoad_h28 N p1 k a.1 a.2.1 a.2.2 m) N (x2, x3, 0) M_4
def f_X7_directionTo_h3 (N : Nat) (p1 : Nat) (k3 : Int32 × Int32 × Int32 → Mem → Option (Int32 × Mem)) (v2 : Int32) (v3 : Int32) (v4 : Int32) (M : Mem) : Option (Int32 × Mem) :=
  if 4 < v4 then (some (0, M)) else (bi (f_X5_beside p1 v2 v4 M) fun r_3 M_1 =>
  if r_3 = v3 then (some (v4, M_1)) else (k3 (v2, v3, (v4 + 1)) M_1))
def f_X7_directionTo (N : Nat) (p1 : Nat) (x2 : Int32) (x3 : Int32) (M : Mem) : Option (Int32 × Mem) :=
  lp (fun k a m => f_X7_directionTo_h3 N p1 k a.1 a.2.1 a.2.2 m) N (x2, x3, 1) M
def f_X7_layRoad_b124 (N : Nat) (p1 : Nat) (k6 : Int32 × Int32 × Int32 → Mem → Option (Mem)) (v2 : Int32) (v5 : Int32) (v6 : Int32) (M : Mem) : Option (Mem) :=
  k6 (v2, v6, (v5 + 1)) M
def f_X7_layRoad_b70 (N : Nat) (p1 : Nat) (k6 : Int32 × Int32 × Int32 → Mem → Option (Mem)) (v2 : Int32) (v5 : Int32) (v6 : Int32) (s0 : Int32) (s1 : Int32) (M : Mem) : Option (Mem) :=
  ck s1 30 (
  bM (uI M 99 (tn s1) s0) fun M_20 =>
  f_X7_layRoad_b124 N p1 k6 v2 v5 v6 M_20)
def f_X7_layRoad_h6 (N : Nat) (p1 : Nat) (k6 : Int32 × Int32 × Int32 → Mem → Option (Mem)) (v2 : Int32) (v4 : Int32) (v5 : Int32) (M : Mem) : Option (Mem) :=
  if 60 ≤ v5 then (some M) else (if v4 = (30 + v2) then (some M) else (ck v4 60 (
  bI ((M.1 101 (tn v4)) - (M.1 101 (tn v4)) / 30 * 30) fun y_2 =>
  if (v4 - v4 / 30 * 30) = y_2 then (if v4 < 30 then (f_X7_layRoad_b70 N p1 k6 v2 v5 (M.1 101 (tn v4)) 0 (v4 - v4 / 30 * 30) M) else (f_X7_layRoad_b70 N p1 k6 v2 v5 (M.1 101 (tn v4)) 1 (v4 - v4 / 30 * 30) M)) else (if 30 ≤ v4 then (bi (f_X7_directionTo N p1 (v4 - v4 / 30 * 30) y_2 M) fun r_5 M_3 =>
  bi (f_X7_roadPlace (v4 - v4 / 30 * 30) r_5 M_3) fun r_8 M_6 =>
  ck r_8 150 (
  bM (uI M_6 100 (tn r_8) 0) fun M_10 =>
  f_X7_layRoad_b124 N p1 k6 v2 v5 (M.1 101 (tn v4)) M_10)) else (bi (f_X7_directionTo N p1 y_2 (v4 - v4 / 30 * 30) M) fun r_13 M_11 =>
  bi (f_X7_roadPlace y_2 r_13 M_11) fun r_16 M_14 =>
  ck r_16 150 (
  bM (uI M_14 100 (tn r_16) 1) fun M_18 =>
  f_X7_layRoad_b124 N p1 k6 v2 v5 (M.1 101 (tn v4)) M_18))))))
def f_X7_layRoad (N : Nat) (p1 : Nat) (x2 : Int32) (x3 : Int32) (M : Mem) : Option (Mem) :=
  lp (fun k a m => f_X7_layRoad_h6 N p1 k a.1 a.2.1 a.2.2 m) N (x2, x3, 0) M
def f_X7_leastWatch_h22 (N : Nat) (p1 : Nat) (k22 : Int32 × Int32 × Int32 × Int32 → Mem → Option (Int32 × Mem)) (v2 : Int32) (v3 : Int32) (v4 : Int32) (v5 : Int32) (M : Mem) : Option (Int32 × Mem) :=
  if 4 ≤ v5 then (some (v4, M)) else (bi (f_X7_findRoad N p1 v2 v3 M) fun r_7 M_5 =>
  if (b2i r_7) = 0 then (some (v4, M_5)) else (bv (f_X7_layRoad N p1 v2 v3 M_5) fun M_8 =>
  k22 (v2, v3, (v4 + 1), (v5 + 1)) M_8))
def f_X7_leastWatch (N : Nat) (p1 : Nat) (x2 : Int32) (x3 : Int32) (M : Mem) : Option (Int32 × Mem) :=
  bv (f_J7_fill_53178 N 99 0 M) fun M_1 =>
  bv (f_J7_fill_53178 N 100 0 M_1) fun M_3 =>
  lp (fun k a m => f_X7_leastWatch_h22 N p1 k a.1 a.2.1 a.2.2.1 a.2.2.2 m) N (x2, x3, 0, 0) M_3
def f_X9_isTray (x1 : Int32) (M : Mem) : Option (Bool × Mem) :=
  if x1 < 0 then (some (false, M)) else (if 4 ≤ x1 then (some (false, M)) else (some (true, M)))
def f_J7_fill_d0a16_h6 (N : Nat) (p0 : Nat) (k6 : Int64 × Int32 × Int32 → Mem → Option (Mem)) (v1 : Int64) (v3 : Int32) (v4 : Int32) (M : Mem) : Option (Mem) :=
  if v4 ≤ v3 then (some M) else (ck v3 (ln p0) (
  bM (uL M p0 (tn v3) v1) fun M_2 =>
  k6 (v1, (v3 + 1), v4) M_2))
def f_J7_fill_d0a16 (N : Nat) (p0 : Nat) (x1 : Int64) (M : Mem) : Option (Mem) :=
  lp (fun k a m => f_J7_fill_d0a16_h6 N p0 k a.1 a.2.1 a.2.2 m) N (x1, 0, (Int32.ofNat (ln p0))) M
def f_X9_make (N : Nat) (x1 : Int32) (x2 : Int32) (x3 : Int32) (M : Mem) : Option (Mem) :=
  ck x1 4 (
  bv (f_J7_fill_d0a16 N (4 + tn x1) 0 M) fun M_2 =>
  ck x1 4 (
  bM (uI M_2 8 (tn x1) x2) fun M_5 =>
  ck x1 4 (
  bM (uI M_5 9 (tn x1) x3) fun M_7 =>
  some M_7)))
def f_X9_cut (x0 : Int64) (x2 : Int32) (M : Mem) : Option (Int64 × Mem) :=
  if x2 = 0 then (some ((Int32.toInt64 (i2b (Int64.toInt32 x0))), M)) else (if x2 = 1 then (some ((Int32.toInt64 (i2s (Int64.toInt32 x0))), M)) else (if x2 = 2 then (some ((Int32.toInt64 (Int64.toInt32 x0)), M)) else (some (x0, M))))
def f_X9_put (x1 : Int32) (x2 : Int32) (x3 : Int64) (M : Mem) : Option (Mem) :=
  ck x1 4 (
  ck x1 4 (
  bi (f_X9_cut x3 (M.1 8 (tn x1)) M) fun r_5 M_3 =>
  ck x2 60 (
  bM (uL M_3 (4 + tn x1) (tn x2) r_5) fun M_7 =>
  some M_7)))
def f_X9_codeOfTray (x1 : Int32) (M : Mem) : Option (Int32 × Mem) :=
  bi (f_X9_isTray x1 M) fun r_3 M_1 =>
  if (b2i r_3) = 0 then (some (1, M_1)) else (ck x1 4 (
  if 0 ≤ (M_1.1 9 (tn x1)) then (some (0, M_1)) else (some (3, M_1))))
def f_X9_codeOfPlace (x1 : Int32) (x2 : Int32) (M : Mem) : Option (Int32 × Mem) :=
  bi (f_X9_codeOfTray x1 M) fun r_3 M_1 =>
  if r_3 = 0 then (if x2 < 0 then (some (4, M_1)) else (ck x1 4 (
  if x2 < (M_1.1 9 (tn x1)) then (some (0, M_1)) else (some (4, M_1))))) else (some (r_3, M_1))
def f_X9_codeOfLength (x1 : Int32) (x2 : Int32) (M : Mem) : Option (Int32 × Mem) :=
  bi (f_X9_codeOfTray x1 M) fun r_3 M_1 =>
  if r_3 = 0 then (ck x1 4 (
  if x2 ≤ (M_1.1 9 (tn x1)) then (some (0, M_1)) else (some (4, M_1)))) else (some (r_3, M_1))
def f_X9_hasRange (x1 : Int32) (x2 : Int32) (x3 : Int32) (M : Mem) : Option (Bool × Mem) :=
  if x2 < 0 then (some (false, M)) else (ck x1 4 (
  if (M.1 9 (tn x1)) < x3 then (some (false, M)) else (ck x1 4 (
  if ((M.1 9 (tn x1)) - x3) < x2 then (some (false, M)) else (some (true, M))))))
def f_X9_codeOfPour (x1 : Int32) (x2 : Int32) (x3 : Int32) (x4 : Int32) (x5 : Int32) (M : Mem) : Option (Int32 × Mem) :=
  bi (f_X9_isTray x1 M) fun r_3 M_1 =>
  if (b2i r_3) = 0 then (some (1, M_1)) else (bi (f_X9_isTray x3 M_1) fun r_6 M_4 =>
  if (b2i r_6) = 0 then (some (1, M_4)) else (ck x1 4 (
  if (M_4.1 9 (tn x1)) < 0 then (some (3, M_4)) else (ck x3 4 (
  if 0 ≤ (M_4.1 9 (tn x3)) then (ck x1 4 (
  ck x3 4 (
  if (M_4.1 8 (tn x1)) = (M_4.1 8 (tn x3)) then (if 0 ≤ x5 then (bi (f_X9_hasRange x1 x2 x5 M_4) fun r_13 M_11 =>
  if (b2i r_13) = 0 then (some (4, M_11)) else (bi (f_X9_hasRange x3 x4 x5 M_11) fun r_16 M_14 =>
  if (b2i r_16) = 0 then (some (4, M_14)) else (some (0, M_14)))) else (some (6, M_4))) else (some (11, M_4))))) else (some (3, M_4)))))))
def f_X11_status (M : Mem) : Option (Int32 × Mem) :=
  some ((M.1 0 0), M)
def f_X11_top (M : Mem) : Option (Int64 × Mem) :=
  some ((M.2 0 1), M)
def f_X11_bottom (M : Mem) : Option (Int64 × Mem) :=
  some ((M.2 0 2), M)
def f_X11_refusedFlag (x1 : Int32) (M : Mem) : Option (Bool × Mem) :=
  bM (uI M 0 0 x1) fun M_1 =>
  some (false, M_1)
def f_X11_granted (M : Mem) : Option (Bool × Mem) :=
  bM (uI M 0 0 0) fun M_1 =>
  some (true, M_1)
def f_X11_tray (N : Nat) (x1 : Int32) (x2 : Int32) (x3 : Int32) (M : Mem) : Option (Bool × Mem) :=
  bi (f_X9_isTray x1 M) fun r_3 M_1 =>
  if (b2i r_3) = 0 then (bi (f_X11_refusedFlag 1 M_1) fun r_6 M_4 =>
  some (r_6, M_4)) else (if x2 < 0 then (bi (f_X11_refusedFlag 1 M_1) fun r_9 M_7 =>
  some (r_9, M_7)) else (if x2 ≤ 3 then (if x3 ≤ 60 then (if 0 ≤ x3 then (bv (f_X9_make N x1 x2 x3 M_1) fun M_10 =>
  bi (f_X11_granted M_10) fun r_14 M_12 =>
  some (r_14, M_12)) else (bi (f_X11_refusedFlag 6 M_1) fun r_17 M_15 =>
  some (r_17, M_15))) else (bi (f_X11_refusedFlag 5 M_1) fun r_20 M_18 =>
  some (r_20, M_18))) else (bi (f_X11_refusedFlag 1 M_1) fun r_23 M_21 =>
  some (r_23, M_21))))
def f_X11_write (x1 : Int32) (x2 : Int32) (x3 : Int64) (M : Mem) : Option (Bool × Mem) :=
  bi (f_X9_codeOfPlace x1 x2 M) fun r_3 M_1 =>
  if r_3 = 0 then (bv (f_X9_put x1 x2 x3 M_1) fun M_4 =>
  bi (f_X11_granted M_4) fun r_8 M_6 =>
  some (r_8, M_6)) else (bi (f_X11_refusedFlag r_3 M_1) fun r_11 M_9 =>
  some (r_11, M_9))
def f_X11_refused (x1 : Int32) (M : Mem) : Option (Int32 × Mem) :=
  bM (uI M 0 0 x1) fun M_1 =>
  some ((-1), M_1)
def f_X11_read (x1 : Int32) (x2 : Int32) (M : Mem) : Option (Int64 × Mem) :=
  bi (f_X9_codeOfPlace x1 x2 M) fun r_3 M_1 =>
  if r_3 = 0 then (bM (uI M_1 0 0 0) fun M_4 =>
  ck x1 4 (
  ck x2 60 (
  some ((M_4.2 (4 + tn x1) (tn x2)), M_4)))) else (bi (f_X11_refused r_3 M_1) fun r_9 M_7 =>
  some ((Int32.toInt64 r_9), M_7))
def f_X11_pour (x1 : Int32) (x2 : Int32) (x3 : Int32) (x4 : Int32) (x5 : Int32) (M : Mem) : Option (Bool × Mem) :=
  bi (f_X9_codeOfPour x1 x2 x3 x4 x5 M) fun r_3 M_1 =>
  if r_3 = 0 then (ck x1 4 (
  ck x3 4 (
  acp x2 x4 x5 60 60 (
  bM (rL M_1 (4 + tn x3) (va_cpy (M_1.2 (4 + tn x1)) (M_1.2 (4 + tn x3)) (tn x2) (tn x4) (tn x5))) fun M_6 =>
  bi (f_X11_granted M_6) fun r_10 M_8 =>
  some (r_10, M_8))))) else (bi (f_X11_refusedFlag r_3 M_1) fun r_13 M_11 =>
  some (r_13, M_11))
def f_X11_appendBytes_h3 (N : Nat) (k3 : Int32 × Int32 → Mem → Option (Mem)) (v1 : Int32) (v2 : Int32) (M : Mem) : Option (Mem) :=
  if v2 < 0 then (some M) else (if 900 ≤ (M.1 0 3) then (some M) else (ck (M.1 0 3) 900 (
  bM (uI M 1 (tn (M.1 0 3)) (vp_nar .byte (i2b (ush v1 v2)))) fun M_2 =>
  bM (uI M_2 0 3 ((M_2.1 0 3) + 1)) fun M_3 =>
  k3 (v1, (v2 + (-8))) M_3)))
def f_X11_appendBytes (N : Nat) (x1 : Int32) (M : Mem) : Option (Mem) :=
  lp (fun k a m => f_X11_appendBytes_h3 N k a.1 a.2 m) N (x1, 24) M
def f_X11_feed (N : Nat) (x1 : Int32) (x2 : Int32) (x3 : Int32) (x4 : Int32) (x5 : Int32) (M : Mem) : Option (Int32 × Mem) :=
  if ((M.1 0 3) + 20) ≤ 900 then (bv (f_X11_appendBytes N x1 M) fun M_1 =>
  bv (f_X11_appendBytes N x2 M_1) fun M_3 =>
  bv (f_X11_appendBytes N x3 M_3) fun M_5 =>
  bv (f_X11_appendBytes N x4 M_5) fun M_7 =>
  bv (f_X11_appendBytes N x5 M_7) fun M_9 =>
  some ((M_9.1 0 3), M_9)) else (some ((-1), M))
def f_X11_answered (x1 : Int32) (M : Mem) : Option (Int32 × Mem) :=
  bM (uI M 0 0 0) fun M_1 =>
  some (x1, M_1)
def f_X11_port (N : Nat) (x1 : Int32) (M : Mem) : Option (Int32 × Mem) :=
  if x1 < 0 then (bi (f_X11_refused 5 M) fun r_3 M_1 =>
  some (r_3, M_1)) else (if x1 ≤ (M.1 0 3) then (bi (f_X6_fill N 23 x1 M) fun r_6 M_4 =>
  bM (uI M_4 0 3 0) fun M_7 =>
  if (b2i r_6) = 0 then (bi (f_X11_refused 10 M_7) fun r_15 M_13 =>
  some (r_15, M_13)) else (bv (f_X5_copyFrom 10 23 M_7) fun M_8 =>
  bi (f_X11_answered (M_8.1 10 7) M_8) fun r_12 M_10 =>
  some (r_12, M_10))) else (bi (f_X11_refused 5 M) fun r_18 M_16 =>
  some (r_18, M_16)))
def f_X11_nights (N : Nat) (x1 : Int32) (M : Mem) : Option (Int32 × Mem) :=
  if x1 < 0 then (bi (f_X11_refused 5 M) fun r_3 M_1 =>
  some (r_3, M_1)) else (if (M.1 0 3) < x1 then (bi (f_X11_refused 5 M) fun r_6 M_4 =>
  some (r_6, M_4)) else (if x1 ≤ 300 then (bi (f_X4_fill N 76 10 x1 M) fun r_9 M_7 =>
  bM (uI M_7 0 3 0) fun M_10 =>
  if (b2i r_9) = 0 then (bi (f_X11_refused 10 M_10) fun r_18 M_16 =>
  some (r_18, M_16)) else (bv (f_X3_copyFrom 17 76 M_10) fun M_11 =>
  bi (f_X11_answered (M_11.1 76 2) M_11) fun r_15 M_13 =>
  some (r_15, M_13))) else (bi (f_X11_refused 5 M) fun r_21 M_19 =>
  some (r_21, M_19))))
def f_X11_fault (x1 : Int32) (M : Mem) : Option (Int32 × Mem) :=
  if x1 = 0 then (some ((M.1 82 6), M)) else (if x1 = 1 then (some ((M.1 82 7), M)) else (some ((-1), M)))
def f_X11_many (N : Nat) (x1 : Int32) (M : Mem) : Option (Int32 × Mem) :=
  if x1 < 0 then (bi (f_X11_refused 5 M) fun r_3 M_1 =>
  some (r_3, M_1)) else (if x1 < 14 then (bi (f_X5_factOf N 10 x1 M) fun r_6 M_4 =>
  bi (f_X11_answered r_6 M_4) fun r_9 M_7 =>
  some (r_9, M_7)) else (bi (f_X11_refused 5 M) fun r_12 M_10 =>
  some (r_12, M_10)))
def f_X11_gate (x1 : Int32) (x2 : Int32) (M : Mem) : Option (Int32 × Mem) :=
  bi (f_X5_isGate 10 x1 M) fun r_3 M_1 =>
  if (b2i r_3) = 0 then (bi (f_X11_refused 2 M_1) fun r_16 M_14 =>
  some (r_16, M_14)) else (if x2 < 0 then (bi (f_X11_refused 5 M_1) fun r_6 M_4 =>
  some (r_6, M_4)) else (if x2 < 5 then (ck ((x1 * 5) + x2) 30 (
  bi (f_X11_answered (M_1.1 11 (tn ((x1 * 5) + x2))) M_1) fun r_10 M_8 =>
  some (r_10, M_8))) else (bi (f_X11_refused 5 M_1) fun r_13 M_11 =>
  some (r_13, M_11))))
def f_X11_votes (x1 : Int32) (M : Mem) : Option (Int32 × Mem) :=
  bi (f_X5_isHolder 10 x1 M) fun r_3 M_1 =>
  if (b2i r_3) = 0 then (bi (f_X11_refused 2 M_1) fun r_10 M_8 =>
  some (r_10, M_8)) else (ck x1 6 (
  bi (f_X11_answered (M_1.1 13 (tn x1)) M_1) fun r_7 M_5 =>
  some (r_7, M_5)))
def f_X11_trade (x1 : Int32) (x2 : Int32) (M : Mem) : Option (Int32 × Mem) :=
  if x1 < 0 then (bi (f_X11_refused 2 M) fun r_3 M_1 =>
  some (r_3, M_1)) else (if x1 < (M.1 10 9) then (if x2 < 0 then (bi (f_X11_refused 5 M) fun r_6 M_4 =>
  some (r_6, M_4)) else (if x2 < 6 then (ck ((x1 * 6) + x2) 36 (
  bi (f_X11_answered (M.1 14 (tn ((x1 * 6) + x2))) M) fun r_10 M_8 =>
  some (r_10, M_8))) else (bi (f_X11_refused 5 M) fun r_13 M_11 =>
  some (r_13, M_11)))) else (bi (f_X11_refused 2 M) fun r_16 M_14 =>
  some (r_16, M_14)))
def f_X11_ship (x1 : Int32) (x2 : Int32) (M : Mem) : Option (Int32 × Mem) :=
  bi (f_X5_isShip 10 x1 M) fun r_3 M_1 =>
  if (b2i r_3) = 0 then (bi (f_X11_refused 2 M_1) fun r_16 M_14 =>
  some (r_16, M_14)) else (if x2 < 0 then (bi (f_X11_refused 5 M_1) fun r_6 M_4 =>
  some (r_6, M_4)) else (if x2 < 5 then (ck ((x1 * 5) + x2) 20 (
  bi (f_X11_answered (M_1.1 15 (tn ((x1 * 5) + x2))) M_1) fun r_10 M_8 =>
  some (r_10, M_8))) else (bi (f_X11_refused 5 M_1) fun r_13 M_11 =>
  some (r_13, M_11))))
def f_X11_fog (x1 : Int32) (x2 : Int32) (x3 : Int32) (M : Mem) : Option (Int32 × Mem) :=
  bi (f_X5_isBoard 10 x1 x2 M) fun r_3 M_1 =>
  if (b2i r_3) = 0 then (bi (f_X11_refused 2 M_1) fun r_19 M_17 =>
  some (r_19, M_17)) else (if x3 < 0 then (bi (f_X11_refused 5 M_1) fun r_6 M_4 =>
  some (r_6, M_4)) else (if x3 ≤ 1 then (bi (f_X5_boardAt 10 x1 x2 M_1) fun r_9 M_7 =>
  ck ((x3 * 30) + r_9) 60 (
  bi (f_X11_answered (M_7.1 16 (tn ((x3 * 30) + r_9))) M_7) fun r_13 M_11 =>
  some (r_13, M_11))) else (bi (f_X11_refused 5 M_1) fun r_16 M_14 =>
  some (r_16, M_14))))
def f_X11_foggy (x1 : Int32) (x2 : Int32) (M : Mem) : Option (Int32 × Mem) :=
  bi (f_X5_isBoard 10 x1 x2 M) fun r_3 M_1 =>
  if (b2i r_3) = 0 then (bi (f_X11_refused 2 M_1) fun r_18 M_16 =>
  some (r_18, M_16)) else (bi (f_X5_boardAt 10 x1 x2 M_1) fun r_6 M_4 =>
  bi (f_X5_isFoggy 10 16 r_6 M_4) fun r_9 M_7 =>
  if (b2i r_9) = 0 then (bi (f_X11_answered 0 M_7) fun r_12 M_10 =>
  some (r_12, M_10)) else (bi (f_X11_answered 1 M_7) fun r_15 M_13 =>
  some (r_15, M_13)))
def f_X11_copyFog_h31 (N : Nat) (k31 : Int32 × Int32 × Int32 → Mem → Option (Int32 × Mem)) (v1 : Int32) (v2 : Int32) (v4 : Int32) (M : Mem) : Option (Int32 × Mem) :=
  if v2 ≤ v4 then (bi (f_X11_answered v2 M) fun r_9 M_7 =>
  some (r_9, M_7)) else (bi (f_X5_bothKinds 16 v4 M) fun r_12 M_10 =>
  bv (f_X9_put v1 v4 (Int32.toInt64 r_12) M_10) fun M_13 =>
  k31 (v1, v2, (v4 + 1)) M_13)
def f_X11_copyFog (N : Nat) (x1 : Int32) (M : Mem) : Option (Int32 × Mem) :=
  bi (f_X5_boardCount 10 M) fun r_3 M_1 =>
  bi (f_X9_codeOfLength x1 r_3 M_1) fun r_6 M_4 =>
  if r_6 = 0 then (lp (fun k a m => f_X11_copyFog_h31 N k a.1 a.2.1 a.2.2 m) N (x1, r_3, 0) M_4) else (bi (f_X11_refused r_6 M_4) fun r_17 M_15 =>
  some (r_17, M_15))
def f_X11_hour (N : Nat) (x1 : Int32) (M : Mem) : Option (Int32 × Mem) :=
  if x1 < 1 then (bi (f_X11_refused 5 M) fun r_3 M_1 =>
  some (r_3, M_1)) else (if x1 ≤ 48 then (if ((M.1 10 5) + x1) ≤ 9999 then (bi (f_X10_passHours N 10 x1 M) fun r_6 M_4 =>
  bi (f_X11_answered (M_4.1 10 5) M_4) fun r_9 M_7 =>
  some (r_9, M_7)) else (bi (f_X11_refused 7 M) fun r_12 M_10 =>
  some (r_12, M_10))) else (bi (f_X11_refused 5 M) fun r_15 M_13 =>
  some (r_15, M_13)))
def f_X11_open (x1 : Int32) (x2 : Int32) (M : Mem) : Option (Bool × Mem) :=
  bi (f_X5_isGate 10 x1 M) fun r_3 M_1 =>
  if (b2i r_3) = 0 then (bi (f_X11_refusedFlag 2 M_1) fun r_17 M_15 =>
  some (r_17, M_15)) else (bi (f_X5_isOpen 10 x1 M_1) fun r_6 M_4 =>
  if (b2i r_6) = x2 then (bi (f_X11_refusedFlag 9 M_4) fun r_14 M_12 =>
  some (r_14, M_12)) else (bv (f_X5_setOpen 10 x1 x2 M_4) fun M_7 =>
  bi (f_X11_granted M_7) fun r_11 M_9 =>
  some (r_11, M_9)))
def f_X11_openBy (N : Nat) (x1 : Int32) (x2 : Int32) (M : Mem) : Option (Bool × Mem) :=
  bi (f_X5_isGate 10 x1 M) fun r_3 M_1 =>
  if (b2i r_3) = 0 then (bi (f_X11_refusedFlag 2 M_1) fun r_29 M_27 =>
  some (r_29, M_27)) else (bi (f_X5_isHolderSet 10 x2 M_1) fun r_6 M_4 =>
  if (b2i r_6) = 0 then (bi (f_X11_refusedFlag 5 M_4) fun r_26 M_24 =>
  some (r_26, M_24)) else (bi (f_X5_isOpen 10 x1 M_4) fun r_9 M_7 =>
  if (b2i r_9) = 0 then (bi (f_X5_canOpen N 10 x1 x2 M_7) fun r_15 M_13 =>
  if (b2i r_15) = 0 then (bi (f_X11_refusedFlag 9 M_13) fun r_23 M_21 =>
  some (r_23, M_21)) else (bv (f_X5_setOpen 10 x1 1 M_13) fun M_16 =>
  bi (f_X11_granted M_16) fun r_20 M_18 =>
  some (r_20, M_18))) else (bi (f_X11_refusedFlag 9 M_7) fun r_12 M_10 =>
  some (r_12, M_10))))
def f_X11_wind (x1 : Int32) (M : Mem) : Option (Bool × Mem) :=
  if x1 < 0 then (bi (f_X11_refusedFlag 5 M) fun r_3 M_1 =>
  some (r_3, M_1)) else (if x1 ≤ 4 then (if x1 = (M.1 10 2) then (bi (f_X11_refusedFlag 9 M) fun r_10 M_8 =>
  some (r_10, M_8)) else (bM (uI M 10 2 x1) fun M_4 =>
  bi (f_X11_granted M_4) fun r_7 M_5 =>
  some (r_7, M_5))) else (bi (f_X11_refusedFlag 5 M) fun r_13 M_11 =>
  some (r_13, M_11)))
def f_X11_sweep (x1 : Int32) (x2 : Int32) (M : Mem) : Option (Int32 × Mem) :=
  bi (f_X5_isBoard 10 x1 x2 M) fun r_3 M_1 =>
  if (b2i r_3) = 0 then (bi (f_X11_refused 2 M_1) fun r_19 M_17 =>
  some (r_19, M_17)) else (bi (f_X5_boardAt 10 x1 x2 M_1) fun r_6 M_4 =>
  bi (f_X5_bothKinds 16 r_6 M_4) fun r_9 M_7 =>
  ck r_6 60 (
  bM (uI M_7 16 (tn r_6) 0) fun M_11 =>
  ck (30 + r_6) 60 (
  bM (uI M_11 16 (tn (30 + r_6)) 0) fun M_13 =>
  bi (f_X11_answered r_9 M_13) fun r_16 M_14 =>
  some (r_16, M_14))))
def f_X11_breathe (x1 : Int32) (x2 : Int32) (x3 : Int32) (x4 : Int32) (M : Mem) : Option (Int32 × Mem) :=
  bi (f_X5_isBoard 10 x1 x2 M) fun r_3 M_1 =>
  if (b2i r_3) = 0 then (bi (f_X11_refused 2 M_1) fun r_28 M_26 =>
  some (r_28, M_26)) else (if x3 < 0 then (bi (f_X11_refused 5 M_1) fun r_6 M_4 =>
  some (r_6, M_4)) else (if 1 < x3 then (bi (f_X11_refused 5 M_1) fun r_9 M_7 =>
  some (r_9, M_7)) else (if x4 < 1 then (bi (f_X11_refused 5 M_1) fun r_12 M_10 =>
  some (r_12, M_10)) else (if x4 ≤ 999 then (bi (f_X5_boardAt 10 x1 x2 M_1) fun r_15 M_13 =>
  ck ((x3 * 30) + r_15) 60 (
  ck ((x3 * 30) + r_15) 60 (
  bM (uI M_13 16 (tn ((x3 * 30) + r_15)) (imin 999 ((M_13.1 16 (tn ((x3 * 30) + r_15))) + x4))) fun M_18 =>
  ck ((x3 * 30) + r_15) 60 (
  bi (f_X11_answered (M_18.1 16 (tn ((x3 * 30) + r_15))) M_18) fun r_22 M_20 =>
  some (r_22, M_20))))) else (bi (f_X11_refused 5 M_1) fun r_25 M_23 =>
  some (r_25, M_23))))))
def f_X11_tow_b71 (v2 : Int32) (v3 : Int32) (v4 : Int32) (M : Mem) : Option (Bool × Mem) :=
  ck v4 20 (
  bM (uI M 15 (tn v4) v2) fun M_12 =>
  ck (v4 + 1) 20 (
  bM (uI M_12 15 (tn (v4 + 1)) v3) fun M_14 =>
  bi (f_X11_granted M_14) fun r_17 M_15 =>
  some (r_17, M_15)))
def f_X11_tow (x1 : Int32) (x2 : Int32) (x3 : Int32) (M : Mem) : Option (Bool × Mem) :=
  bi (f_X5_isShip 10 x1 M) fun r_3 M_1 =>
  if (b2i r_3) = 0 then (bi (f_X11_refusedFlag 2 M_1) fun r_6 M_4 =>
  some (r_6, M_4)) else (bi (f_X5_isBoard 10 x2 x3 M_1) fun r_9 M_7 =>
  if (b2i r_9) = 0 then (bi (f_X11_refusedFlag 2 M_7) fun r_24 M_22 =>
  some (r_24, M_22)) else (ck (x1 * 5) 20 (
  if (M_7.1 15 (tn (x1 * 5))) = x2 then (ck ((x1 * 5) + 1) 20 (
  if (M_7.1 15 (tn ((x1 * 5) + 1))) = x3 then (bi (f_X11_refusedFlag 9 M_7) fun r_21 M_19 =>
  some (r_21, M_19)) else (f_X11_tow_b71 x2 x3 (x1 * 5) M_7))) else (f_X11_tow_b71 x2 x3 (x1 * 5) M_7))))
def f_X11_later (N : Nat) (x1 : Int32) (x2 : Int32) (x3 : Int32) (M : Mem) : Option (Int32 × Mem) :=
  bi (f_X5_isBoard 10 x1 x2 M) fun r_3 M_1 =>
  if (b2i r_3) = 0 then (bi (f_X11_refused 2 M_1) fun r_23 M_21 =>
  some (r_23, M_21)) else (if x3 < 0 then (bi (f_X11_refused 5 M_1) fun r_6 M_4 =>
  some (r_6, M_4)) else (if x3 ≤ 48 then (bv (f_X0_look N 10 x3 M_1) fun M_7 =>
  bi (f_X5_boardAt 10 x1 x2 M_7) fun r_11 M_9 =>
  bi (f_X5_bothKinds 94 r_11 M_9) fun r_14 M_12 =>
  bi (f_X11_answered r_14 M_12) fun r_17 M_15 =>
  some (r_17, M_15)) else (bi (f_X11_refused 5 M_1) fun r_20 M_18 =>
  some (r_20, M_18))))
def f_X11_answeredIfAny (x1 : Int32) (M : Mem) : Option (Int32 × Mem) :=
  if x1 = (-1) then (bi (f_X11_refused 8 M) fun r_6 M_4 =>
  some (r_6, M_4)) else (bi (f_X11_answered x1 M) fun r_3 M_1 =>
  some (r_3, M_1))
def f_X11_lifts (N : Nat) (x1 : Int32) (x2 : Int32) (M : Mem) : Option (Int32 × Mem) :=
  bi (f_X5_isBoard 10 x1 x2 M) fun r_3 M_1 =>
  if (b2i r_3) = 0 then (bi (f_X11_refused 2 M_1) fun r_15 M_13 =>
  some (r_15, M_13)) else (bi (f_X5_boardAt 10 x1 x2 M_1) fun r_6 M_4 =>
  bi (f_X0_firstHour N 10 r_6 0 M_4) fun r_9 M_7 =>
  bi (f_X11_answeredIfAny r_9 M_7) fun r_12 M_10 =>
  some (r_12, M_10))
def f_X11_comes (N : Nat) (x1 : Int32) (x2 : Int32) (M : Mem) : Option (Int32 × Mem) :=
  bi (f_X5_isBoard 10 x1 x2 M) fun r_3 M_1 =>
  if (b2i r_3) = 0 then (bi (f_X11_refused 2 M_1) fun r_15 M_13 =>
  some (r_15, M_13)) else (bi (f_X5_boardAt 10 x1 x2 M_1) fun r_6 M_4 =>
  bi (f_X0_firstHour N 10 r_6 1 M_4) fun r_9 M_7 =>
  bi (f_X11_answeredIfAny r_9 M_7) fun r_12 M_10 =>
  some (r_12, M_10))
def f_X11_foggyIn (N : Nat) (x1 : Int32) (M : Mem) : Option (Int32 × Mem) :=
  if x1 < 0 then (bi (f_X11_refused 5 M) fun r_3 M_1 =>
  some (r_3, M_1)) else (if x1 ≤ 48 then (bv (f_X0_look N 10 x1 M) fun M_4 =>
  bi (f_X5_countFoggy N 10 94 M_4) fun r_8 M_6 =>
  bi (f_X11_answered r_8 M_6) fun r_11 M_9 =>
  some (r_11, M_9)) else (bi (f_X11_refused 5 M) fun r_14 M_12 =>
  some (r_14, M_12)))
def f_X11_thickest (N : Nat) (x1 : Int32) (M : Mem) : Option (Int32 × Mem) :=
  if x1 < 1 then (bi (f_X11_refused 5 M) fun r_3 M_1 =>
  some (r_3, M_1)) else (if x1 ≤ 48 then (bi (f_X0_foggiestHour N 10 x1 M) fun r_6 M_4 =>
  bi (f_X11_answered r_6 M_4) fun r_9 M_7 =>
  some (r_9, M_7)) else (bi (f_X11_refused 5 M) fun r_12 M_10 =>
  some (r_12, M_10)))
def f_X11_served (N : Nat) (M : Mem) : Option (Int32 × Mem) :=
  bi (f_X0_servedSet N 10 M) fun r_3 M_1 =>
  bi (f_X11_answered r_3 M_1) fun r_6 M_4 =>
  some (r_6, M_4)
def f_X11_paid (N : Nat) (M : Mem) : Option (Int32 × Mem) :=
  bi (f_X0_servedSet N 10 M) fun r_3 M_1 =>
  bi (f_X5_payOf N 10 r_3 M_1) fun r_6 M_4 =>
  bi (f_X11_answered r_6 M_4) fun r_9 M_7 =>
  some (r_9, M_7)
def f_X11_plan (N : Nat) (M : Mem) : Option (Int32 × Mem) :=
  bv (f_X0_findPlan N 10 M) fun M_1 =>
  bi (f_X11_answered (M_1.1 93 6) M_1) fun r_5 M_3 =>
  some (r_5, M_3)
def f_X11_planSet (N : Nat) (M : Mem) : Option (Int32 × Mem) :=
  bv (f_X0_findPlan N 10 M) fun M_1 =>
  bi (f_X11_answered (M_1.1 93 7) M_1) fun r_5 M_3 =>
  some (r_5, M_3)
def f_X11_turn (N : Nat) (x1 : Int32) (M : Mem) : Option (Int32 × Mem) :=
  if x1 < 1 then (bi (f_X11_refused 5 M) fun r_3 M_1 =>
  some (r_3, M_1)) else (if x1 < 24 then (bv (f_X0_findTurn N 10 x1 M) fun M_4 =>
  bi (f_X11_answered (M_4.1 93 6) M_4) fun r_8 M_6 =>
  some (r_8, M_6)) else (bi (f_X11_refused 5 M) fun r_11 M_9 =>
  some (r_11, M_9)))
def f_X11_turnSet (N : Nat) (x1 : Int32) (x2 : Int32) (M : Mem) : Option (Int32 × Mem) :=
  if x1 < 1 then (bi (f_X11_refused 5 M) fun r_3 M_1 =>
  some (r_3, M_1)) else (if 24 ≤ x1 then (bi (f_X11_refused 5 M) fun r_6 M_4 =>
  some (r_6, M_4)) else (if x2 < 0 then (bi (f_X11_refused 5 M) fun r_9 M_7 =>
  some (r_9, M_7)) else (if x2 ≤ 1 then (bv (f_X0_findTurn N 10 x1 M) fun M_10 =>
  if x2 = 0 then (bi (f_X11_answered (M_10.1 93 7) M_10) fun r_17 M_15 =>
  some (r_17, M_15)) else (bi (f_X11_answered (M_10.1 93 8) M_10) fun r_14 M_12 =>
  some (r_14, M_12))) else (bi (f_X11_refused 5 M) fun r_20 M_18 =>
  some (r_20, M_18)))))
def f_X11_way (N : Nat) (x1 : Int32) (x2 : Int32) (x3 : Int32) (x4 : Int32) (x5 : Int32) (M : Mem) : Option (Int32 × Mem) :=
  bi (f_X5_isBoard 10 x1 x2 M) fun r_3 M_1 =>
  if (b2i r_3) = 0 then (bi (f_X11_refused 2 M_1) fun r_6 M_4 =>
  some (r_6, M_4)) else (bi (f_X5_isBoard 10 x3 x4 M_1) fun r_9 M_7 =>
  if (b2i r_9) = 0 then (bi (f_X11_refused 2 M_7) fun r_30 M_28 =>
  some (r_30, M_28)) else (if x5 < 0 then (bi (f_X11_refused 5 M_7) fun r_12 M_10 =>
  some (r_12, M_10)) else (if x5 ≤ 2 then (bi (f_X5_boardAt 10 x1 x2 M_7) fun r_15 M_13 =>
  bi (f_X5_boardAt 10 x3 x4 M_13) fun r_18 M_16 =>
  bi (f_X7_leastCount N 10 r_15 r_18 x5 M_16) fun r_21 M_19 =>
  bi (f_X11_answeredIfAny r_21 M_19) fun r_24 M_22 =>
  some (r_24, M_22)) else (bi (f_X11_refused 5 M_7) fun r_27 M_25 =>
  some (r_27, M_25)))))
def f_X11_sail (N : Nat) (x1 : Int32) (M : Mem) : Option (Int32 × Mem) :=
  bi (f_X5_isShip 10 x1 M) fun r_3 M_1 =>
  if (b2i r_3) = 0 then (bi (f_X11_refused 2 M_1) fun r_12 M_10 =>
  some (r_12, M_10)) else (bi (f_X7_leastHours N 10 x1 M_1) fun r_6 M_4 =>
  bi (f_X11_answeredIfAny r_6 M_4) fun r_9 M_7 =>
  some (r_9, M_7))
def f_X11_watch (N : Nat) (x1 : Int32) (x2 : Int32) (x3 : Int32) (x4 : Int32) (M : Mem) : Option (Int32 × Mem) :=
  bi (f_X5_isBoard 10 x1 x2 M) fun r_3 M_1 =>
  if (b2i r_3) = 0 then (bi (f_X11_refused 2 M_1) fun r_6 M_4 =>
  some (r_6, M_4)) else (bi (f_X5_isBoard 10 x3 x4 M_1) fun r_9 M_7 =>
  if (b2i r_9) = 0 then (bi (f_X11_refused 2 M_7) fun r_27 M_25 =>
  some (r_27, M_25)) else (if 2 ≤ ((iabs (x1 - x3)) + (iabs (x2 - x4))) then (bi (f_X5_boardAt 10 x1 x2 M_7) fun r_12 M_10 =>
  bi (f_X5_boardAt 10 x3 x4 M_10) fun r_15 M_13 =>
  bi (f_X7_leastWatch N 10 r_12 r_15 M_13) fun r_18 M_16 =>
  bi (f_X11_answered r_18 M_16) fun r_21 M_19 =>
  some (r_21, M_19)) else (bi (f_X11_refused 9 M_7) fun r_24 M_22 =>
  some (r_24, M_22))))
def f_X11_together (N : Nat) (x1 : Int32) (x2 : Int32) (M : Mem) : Option (Int32 × Mem) :=
  bi (f_X5_isGate 10 x1 M) fun r_3 M_1 =>
  if (b2i r_3) = 0 then (bi (f_X11_refused 2 M_1) fun r_21 M_19 =>
  some (r_21, M_19)) else (bi (f_X5_isHolderSet 10 x2 M_1) fun r_6 M_4 =>
  if (b2i r_6) = 0 then (bi (f_X11_refused 5 M_4) fun r_18 M_16 =>
  some (r_18, M_16)) else (bi (f_X5_canOpen N 10 x1 x2 M_4) fun r_9 M_7 =>
  if (b2i r_9) = 0 then (bi (f_X11_answered 0 M_7) fun r_12 M_10 =>
  some (r_12, M_10)) else (bi (f_X11_answered 1 M_7) fun r_15 M_13 =>
  some (r_15, M_13))))
def f_X11_codeOfVoting (N : Nat) (x1 : Int32) (M : Mem) : Option (Int32 × Mem) :=
  bi (f_X5_isGate 10 x1 M) fun r_3 M_1 =>
  if (b2i r_3) = 0 then (some (2, M_1)) else (bi (f_X5_allHolders 10 M_1) fun r_6 M_4 =>
  bi (f_X5_canOpen N 10 x1 r_6 M_4) fun r_9 M_7 =>
  if (b2i r_9) = 0 then (some (8, M_7)) else (some (0, M_7)))
def f_X11_fewest (N : Nat) (x1 : Int32) (M : Mem) : Option (Int32 × Mem) :=
  bi (f_X11_codeOfVoting N x1 M) fun r_3 M_1 =>
  if r_3 = 0 then (bi (f_X5_smallestSet N 10 x1 M_1) fun r_6 M_4 =>
  bi (f_J6_bitCount_0f7a4 r_6 M_4) fun r_9 M_7 =>
  bi (f_X11_answered r_9 M_7) fun r_12 M_10 =>
  some (r_12, M_10)) else (bi (f_X11_refused r_3 M_1) fun r_15 M_13 =>
  some (r_15, M_13))
def f_X11_fewestSet (N : Nat) (x1 : Int32) (M : Mem) : Option (Int32 × Mem) :=
  bi (f_X11_codeOfVoting N x1 M) fun r_3 M_1 =>
  if r_3 = 0 then (bi (f_X5_smallestSet N 10 x1 M_1) fun r_6 M_4 =>
  bi (f_X11_answered r_6 M_4) fun r_9 M_7 =>
  some (r_9, M_7)) else (bi (f_X11_refused r_3 M_1) fun r_12 M_10 =>
  some (r_12, M_10))
def f_X11_tellFraction_b44 (N : Nat) (v1 : Int64) (v3 : Int64) (v5 : Int64) (M : Mem) : Option (Mem) :=
  if 0 < (lg_cmp v5 0) then (czL v5 (
  bM (uL M 0 1 (v1 / v5)) fun M_2 =>
  czL v5 (
  bM (uL M_2 0 2 (v3 / v5)) fun M_4 =>
  some M_4))) else (some M)
def f_X11_tellFraction_h9 (N : Nat) (k9 : Int64 × Int64 × Int64 × Int64 × Int32 → Mem → Option (Mem)) (v1 : Int64) (v3 : Int64) (v5 : Int64) (v7 : Int64) (v9 : Int32) (M : Mem) : Option (Mem) :=
  if 100 ≤ v9 then (f_X11_tellFraction_b44 N v1 v3 v5 M) else (if (lg_cmp v7 0) = 0 then (f_X11_tellFraction_b44 N v1 v3 v5 M) else (czL v7 (
  k9 (v1, v3, v7, (v5 - v5 / v7 * v7), (v9 + 1)) M)))
def f_X11_tellFraction (N : Nat) (x1 : Int64) (x3 : Int64) (M : Mem) : Option (Mem) :=
  lp (fun k a m => f_X11_tellFraction_h9 N k a.1 a.2.1 a.2.2.1 a.2.2.2.1 a.2.2.2.2 m) N (x1, x3, x1, x3, 0) M
def f_X11_power (N : Nat) (x1 : Int32) (x2 : Int32) (M : Mem) : Option (Bool × Mem) :=
  bi (f_X5_isHolder 10 x2 M) fun r_3 M_1 =>
  if (b2i r_3) = 0 then (bi (f_X11_refusedFlag 2 M_1) fun r_21 M_19 =>
  some (r_21, M_19)) else (bi (f_X11_codeOfVoting N x1 M_1) fun r_6 M_4 =>
  if r_6 = 0 then (bi (f_X5_decidingOrders N 10 x1 x2 M_4) fun r_9 M_7 =>
  ck (M_7.1 10 8) 7 (
  bv (f_X11_tellFraction N (Int32.toInt64 r_9) (Int32.toInt64 (sta 3 (tn (M_7.1 10 8)))) M_7) fun M_11 =>
  bi (f_X11_granted M_11) fun r_15 M_13 =>
  some (r_15, M_13))) else (bi (f_X11_refusedFlag r_6 M_4) fun r_18 M_16 =>
  some (r_18, M_16)))
def f_X11_veto (N : Nat) (x1 : Int32) (M : Mem) : Option (Int32 × Mem) :=
  bi (f_X11_codeOfVoting N x1 M) fun r_3 M_1 =>
  if r_3 = 0 then (bi (f_X5_neededHolders N 10 x1 M_1) fun r_6 M_4 =>
  bi (f_X11_answered r_6 M_4) fun r_9 M_7 =>
  some (r_9, M_7)) else (bi (f_X11_refused r_3 M_1) fun r_12 M_10 =>
  some (r_12, M_10))
def f_X11_idle (N : Nat) (x1 : Int32) (M : Mem) : Option (Int32 × Mem) :=
  bi (f_X11_codeOfVoting N x1 M) fun r_3 M_1 =>
  if r_3 = 0 then (bi (f_X5_powerlessHolders N 10 x1 M_1) fun r_6 M_4 =>
  bi (f_X11_answered r_6 M_4) fun r_9 M_7 =>
  some (r_9, M_7)) else (bi (f_X11_refused r_3 M_1) fun r_12 M_10 =>
  some (r_12, M_10))
def f_X11_reach_b50 (N : Nat) (k21 : Int32 × Int32 × Int32 → Mem → Option (Int32 × Mem)) (v1 : Int32) (v2 : Int32) (v3 : Int32) (M : Mem) : Option (Int32 × Mem) :=
  k21 (v1, v2, (v3 + 1)) M
def f_X11_reach_h21 (N : Nat) (k21 : Int32 × Int32 × Int32 → Mem → Option (Int32 × Mem)) (v1 : Int32) (v2 : Int32) (v3 : Int32) (M : Mem) : Option (Int32 × Mem) :=
  if (M.1 10 7) ≤ v3 then (bi (f_X11_answered v2 M) fun r_6 M_4 =>
  some (r_6, M_4)) else (bi (f_X5_canOpen N 10 v3 v1 M) fun r_9 M_7 =>
  if (b2i r_9) = 0 then (f_X11_reach_b50 N k21 v1 v2 v3 M_7) else (bI (v2 ||| (1 <<< (v3 &&& 31))) fun y_10 =>
  f_X11_reach_b50 N k21 v1 y_10 v3 M_7))
def f_X11_reach (N : Nat) (x1 : Int32) (M : Mem) : Option (Int32 × Mem) :=
  bi (f_X5_isHolderSet 10 x1 M) fun r_3 M_1 =>
  if (b2i r_3) = 0 then (bi (f_X11_refused 5 M_1) fun r_13 M_11 =>
  some (r_13, M_11)) else (lp (fun k a m => f_X11_reach_h21 N k a.1 a.2.1 a.2.2 m) N (x1, 0, 0) M_1)
def f_X11_codeOfTries (N : Nat) (x1 : Int32) (x2 : Int32) (M : Mem) : Option (Int32 × Mem) :=
  bi (f_X9_codeOfLength x1 x2 M) fun r_3 M_1 =>
  if r_3 = 0 then (if x2 < 0 then (some (5, M_1)) else (ck x1 4 (
  bi (f_X1_take N (4 + tn x1) x2 (M_1.1 10 7) M_1) fun r_7 M_5 =>
  if (b2i r_7) = 0 then (some (5, M_5)) else (some (0, M_5))))) else (some (r_3, M_1))
def f_X11_fits (N : Nat) (x1 : Int32) (x2 : Int32) (M : Mem) : Option (Int32 × Mem) :=
  bi (f_X11_codeOfTries N x1 x2 M) fun r_3 M_1 =>
  if r_3 = 0 then (bi (f_X11_answered (M_1.1 103 1) M_1) fun r_6 M_4 =>
  some (r_6, M_4)) else (bi (f_X11_refused r_3 M_1) fun r_9 M_7 =>
  some (r_9, M_7))
def f_X11_codeOfKey (N : Nat) (x1 : Int32) (x2 : Int32) (x3 : Int32) (x4 : Int32) (M : Mem) : Option (Int32 × Mem) :=
  bi (f_X9_isTray x3 M) fun r_3 M_1 =>
  if (b2i r_3) = 0 then (some (1, M_1)) else (bi (f_X5_isGate 10 x1 M_1) fun r_6 M_4 =>
  if (b2i r_6) = 0 then (some (2, M_4)) else (bi (f_X5_isGate 10 x2 M_4) fun r_9 M_7 =>
  if (b2i r_9) = 0 then (some (2, M_7)) else (bi (f_X11_codeOfTries N x3 x4 M_7) fun r_12 M_10 =>
  some (r_12, M_10))))
def f_X11_known (N : Nat) (x1 : Int32) (x2 : Int32) (x3 : Int32) (M : Mem) : Option (Int32 × Mem) :=
  bi (f_X11_codeOfKey N x1 x1 x2 x3 M) fun r_3 M_1 =>
  if r_3 = 0 then (bi (f_X1_onlyGate N x1 M_1) fun r_6 M_4 =>
  bi (f_X11_answeredIfAny r_6 M_4) fun r_9 M_7 =>
  some (r_9, M_7)) else (bi (f_X11_refused r_3 M_1) fun r_12 M_10 =>
  some (r_12, M_10))
def f_X11_next (N : Nat) (x1 : Int32) (x2 : Int32) (M : Mem) : Option (Int32 × Mem) :=
  bi (f_X11_codeOfTries N x1 x2 M) fun r_3 M_1 =>
  if r_3 = 0 then (bi (f_X1_bestTry N M_1) fun r_6 M_4 =>
  bi (f_X11_answeredIfAny r_6 M_4) fun r_9 M_7 =>
  some (r_9, M_7)) else (bi (f_X11_refused r_3 M_1) fun r_12 M_10 =>
  some (r_12, M_10))
def f_X11_chance (N : Nat) (x1 : Int32) (x2 : Int32) (x3 : Int32) (x4 : Int32) (M : Mem) : Option (Bool × Mem) :=
  bi (f_X11_codeOfKey N x1 x2 x3 x4 M) fun r_3 M_1 =>
  if r_3 = 0 then (if (M_1.1 103 1) = 0 then (bi (f_X11_refusedFlag 8 M_1) fun r_14 M_12 =>
  some (r_14, M_12)) else (bi (f_X1_waysWith N x1 x2 M_1) fun r_6 M_4 =>
  bv (f_X11_tellFraction N (Int32.toInt64 r_6) (Int32.toInt64 (M_4.1 103 1)) M_4) fun M_7 =>
  bi (f_X11_granted M_7) fun r_11 M_9 =>
  some (r_11, M_9))) else (bi (f_X11_refusedFlag r_3 M_1) fun r_17 M_15 =>
  some (r_17, M_15))
def f_X11_live (N : Nat) (x1 : Int32) (M : Mem) : Option (Int32 × Mem) :=
  if x1 < 0 then (bi (f_X11_refused 5 M) fun r_3 M_1 =>
  some (r_3, M_1)) else (if x1 ≤ 9999 then (if (M.1 17 0) = 0 then (bi (f_X11_refused 8 M) fun r_11 M_9 =>
  some (r_11, M_9)) else (bv (f_X2_run N 107 10 x1 M) fun M_4 =>
  bi (f_X11_answered (M_4.1 107 4) M_4) fun r_8 M_6 =>
  some (r_8, M_6))) else (bi (f_X11_refused 5 M) fun r_14 M_12 =>
  some (r_14, M_12)))
def f_X11_lived (x1 : Int32) (M : Mem) : Option (Int32 × Mem) :=
  if x1 < 0 then (bi (f_X11_refused 5 M) fun r_3 M_1 =>
  some (r_3, M_1)) else (if x1 < 5 then (if (M.1 107 3) = 0 then (bi (f_X11_refused 8 M) fun r_12 M_10 =>
  some (r_12, M_10)) else (bi (f_X2_factOf 107 x1 M) fun r_6 M_4 =>
  bi (f_X11_answered r_6 M_4) fun r_9 M_7 =>
  some (r_9, M_7))) else (bi (f_X11_refused 5 M) fun r_15 M_13 =>
  some (r_15, M_13)))
def f_X11_mean_h64 (N : Nat) (k64 : Int32 × Int32 × Int32 × Int32 → Mem → Option (Bool × Mem)) (v1 : Int32) (v2 : Int32) (v3 : Int32) (v4 : Int32) (M : Mem) : Option (Bool × Mem) :=
  if v2 ≤ v4 then (bv (f_X11_tellFraction N (Int32.toInt64 v3) (Int32.toInt64 v2) M) fun M_13 =>
  bi (f_X11_granted M_13) fun r_17 M_15 =>
  some (r_17, M_15)) else (bv (f_X5_copyFrom 23 10 M) fun M_18 =>
  bv (f_X2_run N 109 23 (v1 + v4) M_18) fun M_20 =>
  bi (f_X5_countFoggy N 23 29 M_20) fun r_24 M_22 =>
  k64 (v1, v2, (v3 + r_24), (v4 + 1)) M_22)
def f_X11_mean (N : Nat) (x1 : Int32) (x2 : Int32) (M : Mem) : Option (Bool × Mem) :=
  if x1 < 0 then (bi (f_X11_refusedFlag 5 M) fun r_3 M_1 =>
  some (r_3, M_1)) else (if 9999 < x1 then (bi (f_X11_refusedFlag 5 M) fun r_6 M_4 =>
  some (r_6, M_4)) else (if x2 < 1 then (bi (f_X11_refusedFlag 5 M) fun r_9 M_7 =>
  some (r_9, M_7)) else (if 20 < x2 then (bi (f_X11_refusedFlag 5 M) fun r_12 M_10 =>
  some (r_12, M_10)) else (if ((x1 + x2) - 1) ≤ 9999 then (if (M.1 17 0) = 0 then (bi (f_X11_refusedFlag 8 M) fun r_27 M_25 =>
  some (r_27, M_25)) else (lp (fun k a m => f_X11_mean_h64 N k a.1 a.2.1 a.2.2.1 a.2.2.2 m) N (x1, x2, 0, 0) M)) else (bi (f_X11_refusedFlag 5 M) fun r_30 M_28 =>
  some (r_30, M_28))))))
def f_X11_mark (M : Mem) : Option (Int32 × Mem) :=
  if (M.1 0 4) < 3 then (ck (M.1 0 4) 3 (
  bv (f_X5_copyFrom (37 + 13 * tn (M.1 0 4)) 10 M) fun M_2 =>
  bM (uI M_2 0 4 ((M_2.1 0 4) + 1)) fun M_4 =>
  bi (f_X11_answered (M_4.1 0 4) M_4) fun r_7 M_5 =>
  some (r_7, M_5))) else (bi (f_X11_refused 7 M) fun r_10 M_8 =>
  some (r_10, M_8))
def f_X11_back (M : Mem) : Option (Int32 × Mem) :=
  if 0 < (M.1 0 4) then (bM (uI M 0 4 ((M.1 0 4) - 1)) fun M_1 =>
  ck (M_1.1 0 4) 3 (
  bv (f_X5_copyFrom 10 (37 + 13 * tn (M_1.1 0 4)) M_1) fun M_3 =>
  bi (f_X11_answered (M_3.1 0 4) M_3) fun r_7 M_5 =>
  some (r_7, M_5))) else (bi (f_X11_refused 8 M) fun r_10 M_8 =>
  some (r_10, M_8))
def f_X12_status (M : Mem) : Option (Int32 × Mem) :=
  bM (uI M 200 1 0) fun M_1 =>
  some ((M_1.1 200 0), M_1)
def f_X12_top (M : Mem) : Option (Int64 × Mem) :=
  bM (uI M 200 1 0) fun M_1 =>
  some ((M_1.2 200 2), M_1)
def f_X12_bottom (M : Mem) : Option (Int64 × Mem) :=
  bM (uI M 200 1 0) fun M_1 =>
  some ((M_1.2 200 3), M_1)
def f_X12_refuse (x1 : Int32) (M : Mem) : Option (Int32 × Mem) :=
  bM (uI M 200 0 x1) fun M_1 =>
  some ((-1), M_1)
def f_X12_no (x1 : Int32) (M : Mem) : Option (Bool × Mem) :=
  bM (uI M 200 0 x1) fun M_1 =>
  some (false, M_1)
def f_X12_isIn (x0 : Int64) (x2 : Int64) (x4 : Int64) (M : Mem) : Option (Bool × Mem) :=
  if (lg_cmp x0 x2) < 0 then (some (false, M)) else (if 0 < (lg_cmp x0 x4) then (some (false, M)) else (some (true, M)))
def f_X12_fraction_h9 (N : Nat) (k9 : Int64 × Int64 × Int64 × Int64 → Mem → Option (Bool × Mem)) (v1 : Int64) (v3 : Int64) (v5 : Int64) (v7 : Int64) (M : Mem) : Option (Bool × Mem) :=
  if (lg_cmp v7 0) = 0 then (czL v5 (
  bM (uL M 200 2 (v1 / v5)) fun M_2 =>
  czL v5 (
  bM (uL M_2 200 3 (v3 / v5)) fun M_4 =>
  some (true, M_4)))) else (czL v7 (
  k9 (v1, v3, v7, (v5 - v5 / v7 * v7)) M))
def f_X12_fraction (N : Nat) (x1 : Int64) (x3 : Int64) (M : Mem) : Option (Bool × Mem) :=
  lp (fun k a m => f_X12_fraction_h9 N k a.1 a.2.1 a.2.2.1 a.2.2.2 m) N (x1, x3, (labs x1), x3) M
def f_X12_cut (x0 : Int32) (x1 : Int64) (M : Mem) : Option (Int64 × Mem) :=
  if x0 = 0 then (some ((Int32.toInt64 (i2b (Int64.toInt32 x1))), M)) else (if x0 = 1 then (some ((Int32.toInt64 (i2s (Int64.toInt32 x1))), M)) else (if x0 = 2 then (some ((Int32.toInt64 (Int64.toInt32 x1)), M)) else (some (x1, M))))
def f_X12_tray_h74 (N : Nat) (k74 : Int32 × Int32 × Int32 → Mem → Option (Bool × Mem)) (v1 : Int32) (v3 : Int32) (v4 : Int32) (M : Mem) : Option (Bool × Mem) :=
  if v3 ≤ v4 then (some (true, M)) else (ck ((60 * v1) + v4) 240 (
  bM (uL M 203 (tn ((60 * v1) + v4)) 0) fun M_17 =>
  k74 (v1, v3, (v4 + 1)) M_17))
def f_X12_tray (N : Nat) (x1 : Int32) (x2 : Int32) (x3 : Int32) (M : Mem) : Option (Bool × Mem) :=
  bM (uI M 200 1 0) fun M_1 =>
  bM (uI M_1 200 0 0) fun M_2 =>
  if x1 < 0 then (bi (f_X12_no 1 M_2) fun r_5 M_3 =>
  some (r_5, M_3)) else (if 4 ≤ x1 then (bi (f_X12_no 1 M_2) fun r_8 M_6 =>
  some (r_8, M_6)) else (if x2 < 0 then (bi (f_X12_no 1 M_2) fun r_11 M_9 =>
  some (r_11, M_9)) else (if x2 ≤ 3 then (if x3 ≤ 60 then (if 0 ≤ x3 then (ck x1 4 (
  bM (uI M_2 201 (tn x1) x2) fun M_13 =>
  ck x1 4 (
  bM (uI M_13 202 (tn x1) x3) fun M_15 =>
  lp (fun k a m => f_X12_tray_h74 N k a.1 a.2.1 a.2.2 m) N (x1, x3, 0) M_15))) else (bi (f_X12_no 6 M_2) fun r_20 M_18 =>
  some (r_20, M_18))) else (bi (f_X12_no 5 M_2) fun r_23 M_21 =>
  some (r_23, M_21))) else (bi (f_X12_no 1 M_2) fun r_26 M_24 =>
  some (r_26, M_24)))))
def f_X12_trayed (x1 : Int32) (M : Mem) : Option (Int32 × Mem) :=
  if x1 < 0 then (some (1, M)) else (if x1 < 4 then (ck x1 4 (
  if 0 ≤ (M.1 202 (tn x1)) then (some (0, M)) else (some (3, M)))) else (some (1, M)))
def f_X12_placed (x1 : Int32) (x2 : Int32) (M : Mem) : Option (Int32 × Mem) :=
  bi (f_X12_trayed x1 M) fun r_3 M_1 =>
  if r_3 ≤ 0 then (if x2 < 0 then (some (4, M_1)) else (ck x1 4 (
  if x2 < (M_1.1 202 (tn x1)) then (some (0, M_1)) else (some (4, M_1))))) else (some (r_3, M_1))
def f_X12_write (x1 : Int32) (x2 : Int32) (x3 : Int64) (M : Mem) : Option (Bool × Mem) :=
  bM (uI M 200 1 0) fun M_1 =>
  bi (f_X12_placed x1 x2 M_1) fun r_4 M_2 =>
  bM (uI M_2 200 0 r_4) fun M_5 =>
  if (M_5.1 200 0) ≤ 0 then (ck x1 4 (
  bi (f_X12_cut (M_5.1 201 (tn x1)) x3 M_5) fun r_9 M_7 =>
  ck ((60 * x1) + x2) 240 (
  bM (uL M_7 203 (tn ((60 * x1) + x2)) r_9) fun M_11 =>
  some (true, M_11)))) else (some (false, M_5))
def f_X12_read (x1 : Int32) (x2 : Int32) (M : Mem) : Option (Int64 × Mem) :=
  bM (uI M 200 1 0) fun M_1 =>
  bi (f_X12_placed x1 x2 M_1) fun r_4 M_2 =>
  bM (uI M_2 200 0 r_4) fun M_5 =>
  if (M_5.1 200 0) ≤ 0 then (ck ((60 * x1) + x2) 240 (
  some ((M_5.2 203 (tn ((60 * x1) + x2))), M_5))) else (some ((-1), M_5))
def f_X12_pour_b182 (N : Nat) (k158 : Int32 × Int32 × Int32 × Int32 × Int32 × Int32 × Int32 → Mem → Option (Bool × Mem)) (v1 : Int32) (v2 : Int32) (v3 : Int32) (v4 : Int32) (v5 : Int32) (v6 : Int32) (v7 : Int32) (s0 : Int32) (M : Mem) : Option (Bool × Mem) :=
  ck (((60 * v1) + v2) + s0) 240 (
  ck (((60 * v3) + v4) + s0) 240 (
  bM (uL M 203 (tn (((60 * v3) + v4) + s0)) (M.2 203 (tn (((60 * v1) + v2) + s0)))) fun M_32 =>
  k158 (v1, v2, v3, v4, v5, v6, (v7 + 1)) M_32))
def f_X12_pour_h158 (N : Nat) (k158 : Int32 × Int32 × Int32 × Int32 × Int32 × Int32 × Int32 → Mem → Option (Bool × Mem)) (v1 : Int32) (v2 : Int32) (v3 : Int32) (v4 : Int32) (v5 : Int32) (v6 : Int32) (v7 : Int32) (M : Mem) : Option (Bool × Mem) :=
  if v5 ≤ v7 then (some (true, M)) else (if v6 = 0 then (f_X12_pour_b182 N k158 v1 v2 v3 v4 v5 v6 v7 v7 M) else (f_X12_pour_b182 N k158 v1 v2 v3 v4 v5 v6 v7 ((v5 - 1) - v7) M))
def f_X12_pour_b153 (N : Nat) (v1 : Int32) (v2 : Int32) (v3 : Int32) (v4 : Int32) (v5 : Int32) (s0 : Int32) (M : Mem) : Option (Bool × Mem) :=
  lp (fun k a m => f_X12_pour_h158 N k a.1 a.2.1 a.2.2.1 a.2.2.2.1 a.2.2.2.2.1 a.2.2.2.2.2.1 a.2.2.2.2.2.2 m) N (v1, v2, v3, v4, v5, s0, 0) M
def f_X12_pour (N : Nat) (x1 : Int32) (x2 : Int32) (x3 : Int32) (x4 : Int32) (x5 : Int32) (M : Mem) : Option (Bool × Mem) :=
  bM (uI M 200 1 0) fun M_1 =>
  bM (uI M_1 200 0 0) fun M_2 =>
  if x1 < 0 then (bi (f_X12_no 1 M_2) fun r_5 M_3 =>
  some (r_5, M_3)) else (if 4 ≤ x1 then (bi (f_X12_no 1 M_2) fun r_8 M_6 =>
  some (r_8, M_6)) else (if x3 < 0 then (bi (f_X12_no 1 M_2) fun r_11 M_9 =>
  some (r_11, M_9)) else (if x3 < 4 then (ck x1 4 (
  if (M_2.1 202 (tn x1)) < 0 then (bi (f_X12_no 3 M_2) fun r_15 M_13 =>
  some (r_15, M_13)) else (ck x3 4 (
  if 0 ≤ (M_2.1 202 (tn x3)) then (ck x1 4 (
  ck x3 4 (
  if (M_2.1 201 (tn x1)) = (M_2.1 201 (tn x3)) then (if 0 ≤ x5 then (if x2 < 0 then (bi (f_X12_no 4 M_2) fun r_21 M_19 =>
  some (r_21, M_19)) else (if x4 < 0 then (bi (f_X12_no 4 M_2) fun r_24 M_22 =>
  some (r_24, M_22)) else (ck x1 4 (
  if 0 < (lg_cmp ((Int32.toInt64 x2) + (Int32.toInt64 x5)) (Int32.toInt64 (M_2.1 202 (tn x1)))) then (bi (f_X12_no 4 M_2) fun r_28 M_26 =>
  some (r_28, M_26)) else (ck x3 4 (
  if (lg_cmp ((Int32.toInt64 x4) + (Int32.toInt64 x5)) (Int32.toInt64 (M_2.1 202 (tn x3)))) ≤ 0 then (if x4 ≤ x2 then (f_X12_pour_b153 N x1 x2 x3 x4 x5 0 M_2) else (f_X12_pour_b153 N x1 x2 x3 x4 x5 1 M_2)) else (bi (f_X12_no 4 M_2) fun r_35 M_33 =>
  some (r_35, M_33)))))))) else (bi (f_X12_no 6 M_2) fun r_38 M_36 =>
  some (r_38, M_36))) else (bi (f_X12_no 11 M_2) fun r_41 M_39 =>
  some (r_41, M_39))))) else (bi (f_X12_no 3 M_2) fun r_44 M_42 =>
  some (r_44, M_42)))))) else (bi (f_X12_no 1 M_2) fun r_47 M_45 =>
  some (r_47, M_45)))))
def f_X12_numberOf (x1 : Int32) (x2 : Int32) (M : Mem) : Option (Int64 × Mem) :=
  ck ((60 * x1) + x2) 240 (
  some ((M.2 203 (tn ((60 * x1) + x2))), M))
def f_X12_isTray (x1 : Int32) (M : Mem) : Option (Bool × Mem) :=
  bi (f_X12_isIn (Int32.toInt64 x1) 0 3 M) fun r_3 M_1 =>
  some (r_3, M_1)
def f_X12_has (x0 : Int32) (x1 : Int32) (M : Mem) : Option (Bool × Mem) :=
  if ((x0 >>> (x1 &&& 31)) &&& 1) = 1 then (some (true, M)) else (some (false, M))
def f_X12_sizeOf_b24 (N : Nat) (k4 : Int32 × Int32 × Int32 → Mem → Option (Int32 × Mem)) (v0 : Int32) (v2 : Int32) (s0 : Int32) (s1 : Int32) (M : Mem) : Option (Int32 × Mem) :=
  k4 (v0, (s1 + s0), (v2 + 1)) M
def f_X12_sizeOf_h4 (N : Nat) (k4 : Int32 × Int32 × Int32 → Mem → Option (Int32 × Mem)) (v0 : Int32) (v1 : Int32) (v2 : Int32) (M : Mem) : Option (Int32 × Mem) :=
  if 6 ≤ v2 then (some (v1, M)) else (bi (f_X12_has v0 v2 M) fun r_3 M_1 =>
  if (b2i r_3) = 0 then (f_X12_sizeOf_b24 N k4 v0 v2 0 v1 M_1) else (f_X12_sizeOf_b24 N k4 v0 v2 1 v1 M_1))
def f_X12_sizeOf (N : Nat) (x0 : Int32) (M : Mem) : Option (Int32 × Mem) :=
  lp (fun k a m => f_X12_sizeOf_h4 N k a.1 a.2.1 a.2.2 m) N (x0, 0, 0) M
def f_X12_look2 (x1 : Int32) (M : Mem) : Option (Int32 × Mem) :=
  if (M.1 200 9) ≤ x1 then (some (0, M)) else (ck x1 900 (
  some (((M.1 204 (tn x1)) &&& 255), M)))
def f_X12_isLetter (x0 : Int32) (M : Mem) : Option (Bool × Mem) :=
  if x0 < 97 then (some (false, M)) else (if 122 < x0 then (some (false, M)) else (some (true, M)))
def f_X12_isDigit (x0 : Int32) (M : Mem) : Option (Bool × Mem) :=
  if x0 < 48 then (some (false, M)) else (if 57 < x0 then (some (false, M)) else (some (true, M)))
def f_X12_isSignByte (x1 : Int32) (M : Mem) : Option (Bool × Mem) :=
  if x1 = 59 then (some (true, M)) else (if x1 = 60 then (some (true, M)) else (if x1 = 62 then (some (true, M)) else (if x1 = 61 then (some (true, M)) else (some (false, M)))))
def f_X12_advance_b260 (N : Nat) (k210 : Unit → Mem → Option (Mem)) (M : Mem) : Option (Mem) :=
  bM (uI M 200 16 ((M.1 200 16) + 1)) fun M_28 =>
  k210 () M_28
def f_X12_advance_h210 (N : Nat) (k210 : Unit → Mem → Option (Mem)) (M : Mem) : Option (Mem) :=
  bi (f_X12_look2 (M.1 200 16) M) fun r_22 M_20 =>
  bi (f_X12_isDigit r_22 M_20) fun r_25 M_23 =>
  if (b2i r_25) = 0 then (if ((M_23.1 200 16) - (M_23.1 200 15)) ≤ 4 then (bM (uI M_23 200 14 2) fun M_26 =>
  some M_26) else (bM (uI M_23 200 14 4) fun M_27 =>
  some M_27)) else (if 4 ≤ ((M_23.1 200 16) - (M_23.1 200 15)) then (f_X12_advance_b260 N k210 M_23) else (bi (f_X12_look2 (M_23.1 200 16) M_23) fun r_31 M_29 =>
  bM (uI M_29 200 17 (((10 * (M_23.1 200 17)) + r_31) - 48)) fun M_32 =>
  f_X12_advance_b260 N k210 M_32))
def f_X12_advance_b166 (N : Nat) (k109 : Unit → Mem → Option (Mem)) (s0 : Int64) (M : Mem) : Option (Mem) :=
  bM (uL M 200 19 s0) fun M_42 =>
  bM (uI M_42 200 16 ((M_42.1 200 16) + 1)) fun M_43 =>
  k109 () M_43
def f_X12_advance_h109 (N : Nat) (k109 : Unit → Mem → Option (Mem)) (M : Mem) : Option (Mem) :=
  bi (f_X12_look2 (M.1 200 16) M) fun r_37 M_35 =>
  bi (f_X12_isLetter r_37 M_35) fun r_40 M_38 =>
  if (b2i r_40) = 0 then (bM (uI M_38 200 18 ((M_38.1 200 16) - (M_38.1 200 15))) fun M_41 =>
  some M_41) else (if 8 ≤ ((M_38.1 200 16) - (M_38.1 200 15)) then (f_X12_advance_b166 N k109 (-1) M_38) else (bi (f_X12_look2 (M_38.1 200 16) M_38) fun r_46 M_44 =>
  f_X12_advance_b166 N k109 ((((M_38.2 200 19) * 32) + (Int32.toInt64 r_46)) - 96) M_44))
def f_X12_advance_b58 (N : Nat) (M : Mem) : Option (Mem) :=
  bM (uI M 200 16 (M.1 200 15)) fun M_2 =>
  if (M_2.1 200 15) < (M_2.1 200 9) then (bi (f_X12_look2 (M_2.1 200 15) M_2) fun r_5 M_3 =>
  bi (f_X12_isLetter r_5 M_3) fun r_8 M_6 =>
  if (b2i r_8) = 0 then (bi (f_X12_isDigit r_5 M_6) fun r_11 M_9 =>
  if (b2i r_11) = 0 then (bM (uI M_9 200 16 ((M_9.1 200 15) + 1)) fun M_12 =>
  bM (uI M_12 200 17 r_5) fun M_13 =>
  bi (f_X12_isSignByte r_5 M_13) fun r_16 M_14 =>
  if (b2i r_16) = 0 then (bM (uI M_14 200 14 4) fun M_17 =>
  some M_17) else (bM (uI M_14 200 14 3) fun M_18 =>
  some M_18)) else (bM (uI M_9 200 17 0) fun M_19 =>
  lp (fun k a m => f_X12_advance_h210 N k m) N () M_19)) else (bM (uI M_6 200 14 1) fun M_33 =>
  bM (uL M_33 200 19 0) fun M_34 =>
  lp (fun k a m => f_X12_advance_h109 N k m) N () M_34)) else (bM (uI M_2 200 14 0) fun M_47 =>
  some M_47)
def f_X12_advance_b45 (N : Nat) (k8 : Unit → Mem → Option (Mem)) (M : Mem) : Option (Mem) :=
  bM (uI M 200 15 ((M.1 200 15) + 1)) fun M_51 =>
  k8 () M_51
def f_X12_advance_h8 (N : Nat) (k8 : Unit → Mem → Option (Mem)) (M : Mem) : Option (Mem) :=
  if (M.1 200 9) ≤ (M.1 200 15) then (f_X12_advance_b58 N M) else (bi (f_X12_look2 (M.1 200 15) M) fun r_50 M_48 =>
  if r_50 = 10 then (f_X12_advance_b45 N k8 M_48) else (bi (f_X12_look2 (M_48.1 200 15) M_48) fun r_54 M_52 =>
  if r_54 = 32 then (f_X12_advance_b45 N k8 M_52) else (f_X12_advance_b58 N M_52)))
def f_X12_advance (N : Nat) (M : Mem) : Option (Mem) :=
  bM (uI M 200 15 (M.1 200 16)) fun M_1 =>
  lp (fun k a m => f_X12_advance_h8 N k m) N () M_1
def f_X12_isSign (x1 : Int32) (M : Mem) : Option (Bool × Mem) :=
  if (M.1 200 14) = 3 then (if (M.1 200 17) = x1 then (some (true, M)) else (some (false, M))) else (some (false, M))
def f_X12_spelled_b91 (v5 : Int32) (s0 : Int64) (M : Mem) : Option (Int64 × Mem) :=
  if v5 ≤ 0 then (some (s0, M)) else (some ((((s0 * 32) + (Int32.toInt64 v5)) - 96), M))
def f_X12_spelled_b65 (v4 : Int32) (v5 : Int32) (s0 : Int64) (M : Mem) : Option (Int64 × Mem) :=
  if v4 ≤ 0 then (f_X12_spelled_b91 v5 s0 M) else (f_X12_spelled_b91 v5 (((s0 * 32) + (Int32.toInt64 v4)) - 96) M)
def f_X12_spelled_b41 (v3 : Int32) (v4 : Int32) (v5 : Int32) (s0 : Int64) (M : Mem) : Option (Int64 × Mem) :=
  if v3 ≤ 0 then (f_X12_spelled_b65 v4 v5 s0 M) else (f_X12_spelled_b65 v4 v5 (((s0 * 32) + (Int32.toInt64 v3)) - 96) M)
def f_X12_spelled (x0 : Int32) (x1 : Int32) (x2 : Int32) (x3 : Int32) (x4 : Int32) (x5 : Int32) (M : Mem) : Option (Int64 × Mem) :=
  bL (((((Int32.toInt64 x0) - 96) * 32) + (Int32.toInt64 x1)) - 96) fun y_1 =>
  if x2 ≤ 0 then (f_X12_spelled_b41 x3 x4 x5 y_1 M) else (f_X12_spelled_b41 x3 x4 x5 (((y_1 * 32) + (Int32.toInt64 x2)) - 96) M)
def f_X12_isWord (x1 : Int64) (M : Mem) : Option (Bool × Mem) :=
  if (M.1 200 14) = 1 then (if (lg_cmp (M.2 200 19) x1) = 0 then (some (true, M)) else (some (false, M))) else (some (false, M))
def f_X12_isPort (M : Mem) : Option (Bool × Mem) :=
  bi (f_X12_spelled 112 111 114 116 0 0 M) fun r_3 M_1 =>
  bi (f_X12_isWord r_3 M_1) fun r_6 M_4 =>
  some (r_6, M_4)
def f_X12_isBy (M : Mem) : Option (Bool × Mem) :=
  bi (f_X12_spelled 98 121 0 0 0 0 M) fun r_3 M_1 =>
  bi (f_X12_isWord r_3 M_1) fun r_6 M_4 =>
  some (r_6, M_4)
def f_X12_isGate (M : Mem) : Option (Bool × Mem) :=
  bi (f_X12_spelled 103 97 116 101 0 0 M) fun r_3 M_1 =>
  bi (f_X12_isWord r_3 M_1) fun r_6 M_4 =>
  some (r_6, M_4)
def f_X12_isAt (M : Mem) : Option (Bool × Mem) :=
  bi (f_X12_spelled 97 116 0 0 0 0 M) fun r_3 M_1 =>
  bi (f_X12_isWord r_3 M_1) fun r_6 M_4 =>
  some (r_6, M_4)
def f_X12_isLets (M : Mem) : Option (Bool × Mem) :=
  bi (f_X12_spelled 108 101 116 115 0 0 M) fun r_3 M_1 =>
  bi (f_X12_isWord r_3 M_1) fun r_6 M_4 =>
  some (r_6, M_4)
def f_X12_isAnswers (M : Mem) : Option (Bool × Mem) :=
  bi (f_X12_spelled 97 110 115 119 101 114 M) fun r_3 M_1 =>
  bi (f_X12_isWord ((r_3 * 32) + 19) M_1) fun r_6 M_4 =>
  some (r_6, M_4)
def f_X12_isOpen (M : Mem) : Option (Bool × Mem) :=
  bi (f_X12_spelled 111 112 101 110 0 0 M) fun r_3 M_1 =>
  bi (f_X12_isWord r_3 M_1) fun r_6 M_4 =>
  some (r_6, M_4)
def f_X12_isQuota (M : Mem) : Option (Bool × Mem) :=
  bi (f_X12_spelled 113 117 111 116 97 0 M) fun r_3 M_1 =>
  bi (f_X12_isWord r_3 M_1) fun r_6 M_4 =>
  some (r_6, M_4)
def f_X12_isHolder (M : Mem) : Option (Bool × Mem) :=
  bi (f_X12_spelled 104 111 108 100 101 114 M) fun r_3 M_1 =>
  bi (f_X12_isWord r_3 M_1) fun r_6 M_4 =>
  some (r_6, M_4)
def f_X12_isVotes (M : Mem) : Option (Bool × Mem) :=
  bi (f_X12_spelled 118 111 116 101 115 0 M) fun r_3 M_1 =>
  bi (f_X12_isWord r_3 M_1) fun r_6 M_4 =>
  some (r_6, M_4)
def f_X12_isTrade (M : Mem) : Option (Bool × Mem) :=
  bi (f_X12_spelled 116 114 97 100 101 0 M) fun r_3 M_1 =>
  bi (f_X12_isWord r_3 M_1) fun r_6 M_4 =>
  some (r_6, M_4)
def f_X12_isFrom (M : Mem) : Option (Bool × Mem) :=
  bi (f_X12_spelled 102 114 111 109 0 0 M) fun r_3 M_1 =>
  bi (f_X12_isWord r_3 M_1) fun r_6 M_4 =>
  some (r_6, M_4)
def f_X12_isTo (M : Mem) : Option (Bool × Mem) :=
  bi (f_X12_spelled 116 111 0 0 0 0 M) fun r_3 M_1 =>
  bi (f_X12_isWord r_3 M_1) fun r_6 M_4 =>
  some (r_6, M_4)
def f_X12_isPays (M : Mem) : Option (Bool × Mem) :=
  bi (f_X12_spelled 112 97 121 115 0 0 M) fun r_3 M_1 =>
  bi (f_X12_isWord r_3 M_1) fun r_6 M_4 =>
  some (r_6, M_4)
def f_X12_isClear (M : Mem) : Option (Bool × Mem) :=
  bi (f_X12_spelled 99 108 101 97 114 0 M) fun r_3 M_1 =>
  bi (f_X12_isWord r_3 M_1) fun r_6 M_4 =>
  some (r_6, M_4)
def f_X12_isShip (M : Mem) : Option (Bool × Mem) :=
  bi (f_X12_spelled 115 104 105 112 0 0 M) fun r_3 M_1 =>
  bi (f_X12_isWord r_3 M_1) fun r_6 M_4 =>
  some (r_6, M_4)
def f_X12_isDark (M : Mem) : Option (Bool × Mem) :=
  bi (f_X12_spelled 100 97 114 107 0 0 M) fun r_3 M_1 =>
  bi (f_X12_isWord r_3 M_1) fun r_6 M_4 =>
  some (r_6, M_4)
def f_X12_isWind (M : Mem) : Option (Bool × Mem) :=
  bi (f_X12_spelled 119 105 110 100 0 0 M) fun r_3 M_1 =>
  bi (f_X12_isWord r_3 M_1) fun r_6 M_4 =>
  some (r_6, M_4)
def f_X12_isThins (M : Mem) : Option (Bool × Mem) :=
  bi (f_X12_spelled 116 104 105 110 115 0 M) fun r_3 M_1 =>
  bi (f_X12_isWord r_3 M_1) fun r_6 M_4 =>
  some (r_6, M_4)
def f_X12_isFoggyWord (M : Mem) : Option (Bool × Mem) :=
  bi (f_X12_spelled 102 111 103 103 121 0 M) fun r_3 M_1 =>
  bi (f_X12_isWord r_3 M_1) fun r_6 M_4 =>
  some (r_6, M_4)
def f_X12_stepWord (M : Mem) : Option (Int32 × Mem) :=
  bi (f_X12_spelled 104 111 117 114 0 0 M) fun r_3 M_1 =>
  bi (f_X12_isWord r_3 M_1) fun r_6 M_4 =>
  if (b2i r_6) = 0 then (bi (f_X12_isOpen M_4) fun r_9 M_7 =>
  if (b2i r_9) = 0 then (bi (f_X12_spelled 115 104 117 116 0 0 M_7) fun r_12 M_10 =>
  bi (f_X12_isWord r_12 M_10) fun r_15 M_13 =>
  if (b2i r_15) = 0 then (bi (f_X12_isWind M_13) fun r_18 M_16 =>
  if (b2i r_18) = 0 then (bi (f_X12_spelled 115 116 111 114 109 0 M_16) fun r_21 M_19 =>
  bi (f_X12_isWord r_21 M_19) fun r_24 M_22 =>
  if (b2i r_24) = 0 then (bi (f_X12_spelled 119 104 101 110 0 0 M_22) fun r_27 M_25 =>
  bi (f_X12_isWord r_27 M_25) fun r_30 M_28 =>
  if (b2i r_30) = 0 then (bi (f_X12_spelled 108 111 111 112 0 0 M_28) fun r_33 M_31 =>
  bi (f_X12_isWord r_33 M_31) fun r_36 M_34 =>
  if (b2i r_36) = 0 then (bi (f_X12_spelled 115 116 111 112 0 0 M_34) fun r_39 M_37 =>
  bi (f_X12_isWord r_39 M_37) fun r_42 M_40 =>
  if (b2i r_42) = 0 then (some ((-1), M_40)) else (some (7, M_40))) else (some (6, M_34))) else (some (5, M_28))) else (some (4, M_22))) else (some (3, M_16))) else (some (2, M_13))) else (some (1, M_7))) else (some (0, M_4))
def f_X12_testWord (M : Mem) : Option (Int32 × Mem) :=
  bi (f_X12_isFoggyWord M) fun r_3 M_1 =>
  if (b2i r_3) = 0 then (bi (f_X12_isOpen M_1) fun r_6 M_4 =>
  if (b2i r_6) = 0 then (bi (f_X12_isLets M_4) fun r_9 M_7 =>
  if (b2i r_9) = 0 then (some ((-1), M_7)) else (some (2, M_7))) else (some (1, M_4))) else (some (0, M_1))
def f_X12_isEnd (M : Mem) : Option (Bool × Mem) :=
  bi (f_X12_spelled 101 110 100 0 0 0 M) fun r_3 M_1 =>
  bi (f_X12_isWord r_3 M_1) fun r_6 M_4 =>
  some (r_6, M_4)
def f_X12_isKept (M : Mem) : Option (Bool × Mem) :=
  bi (f_X12_isPort M) fun r_3 M_1 =>
  if (b2i r_3) = 0 then (bi (f_X12_isBy M_1) fun r_6 M_4 =>
  if (b2i r_6) = 0 then (bi (f_X12_isGate M_4) fun r_9 M_7 =>
  if (b2i r_9) = 0 then (bi (f_X12_isAt M_7) fun r_12 M_10 =>
  if (b2i r_12) = 0 then (bi (f_X12_isAnswers M_10) fun r_15 M_13 =>
  if (b2i r_15) = 0 then (bi (f_X12_isQuota M_13) fun r_18 M_16 =>
  if (b2i r_18) = 0 then (bi (f_X12_isHolder M_16) fun r_21 M_19 =>
  if (b2i r_21) = 0 then (bi (f_X12_isVotes M_19) fun r_24 M_22 =>
  if (b2i r_24) = 0 then (bi (f_X12_isTrade M_22) fun r_27 M_25 =>
  if (b2i r_27) = 0 then (bi (f_X12_isFrom M_25) fun r_30 M_28 =>
  if (b2i r_30) = 0 then (bi (f_X12_isTo M_28) fun r_33 M_31 =>
  if (b2i r_33) = 0 then (bi (f_X12_isPays M_31) fun r_36 M_34 =>
  if (b2i r_36) = 0 then (bi (f_X12_isClear M_34) fun r_39 M_37 =>
  if (b2i r_39) = 0 then (bi (f_X12_isShip M_37) fun r_42 M_40 =>
  if (b2i r_42) = 0 then (bi (f_X12_isDark M_40) fun r_45 M_43 =>
  if (b2i r_45) = 0 then (bi (f_X12_isThins M_43) fun r_48 M_46 =>
  if (b2i r_48) = 0 then (bi (f_X12_stepWord M_46) fun r_51 M_49 =>
  if 0 ≤ r_51 then (some (true, M_49)) else (bi (f_X12_testWord M_49) fun r_54 M_52 =>
  if 0 ≤ r_54 then (some (true, M_52)) else (bi (f_X12_isEnd M_52) fun r_57 M_55 =>
  if (b2i r_57) = 0 then (some (false, M_55)) else (some (true, M_55))))) else (some (true, M_46))) else (some (true, M_43))) else (some (true, M_40))) else (some (true, M_37))) else (some (true, M_34))) else (some (true, M_31))) else (some (true, M_28))) else (some (true, M_25))) else (some (true, M_22))) else (some (true, M_19))) else (some (true, M_16))) else (some (true, M_13))) else (some (true, M_10))) else (some (true, M_7))) else (some (true, M_4))) else (some (true, M_1))
def f_X12_isName (M : Mem) : Option (Bool × Mem) :=
  if (M.1 200 14) = 1 then (if 8 < (M.1 200 18) then (some (false, M)) else (bi (f_X12_isKept M) fun r_3 M_1 =>
  if (b2i r_3) = 0 then (some (true, M_1)) else (some (false, M_1)))) else (some (false, M))
def f_X12_fail (x1 : Int32) (x2 : Int32) (M : Mem) : Option (Mem) :=
  if (M.1 200 12) ≤ 0 then (bM (uI M 200 12 x1) fun M_1 =>
  bM (uI M_1 200 13 x2) fun M_2 =>
  some M_2) else (some M)
def f_X12_amiss (M : Mem) : Option (Mem) :=
  if (M.1 200 14) = 4 then (bv (f_X12_fail 1 (M.1 200 15) M) fun M_3 =>
  some M_3) else (bv (f_X12_fail 2 (M.1 200 15) M) fun M_1 =>
  some M_1)
def f_X12_must (N : Nat) (x1 : Int32) (M : Mem) : Option (Mem) :=
  if (M.1 200 12) ≤ 0 then (if x1 = 0 then (bv (f_X12_amiss M) fun M_1 =>
  some M_1) else (bv (f_X12_advance N M) fun M_3 =>
  some M_3)) else (some M)
def f_X12_count_b50 (N : Nat) (M : Mem) : Option (Int32 × Mem) :=
  if (M.1 200 12) ≤ 0 then (bv (f_X12_advance N M) fun M_1 =>
  some ((M.1 200 17), M_1)) else (some (0, M))
def f_X12_count_b19 (N : Nat) (v1 : Int32) (v2 : Int32) (M : Mem) : Option (Int32 × Mem) :=
  if (M.1 200 12) = 0 then (bi (f_X12_isIn (Int32.toInt64 (M.1 200 17)) (Int32.toInt64 v1) (Int32.toInt64 v2) M) fun r_5 M_3 =>
  if (b2i r_5) = 0 then (bv (f_X12_fail 4 (M_3.1 200 15) M_3) fun M_6 =>
  f_X12_count_b50 N M_6) else (f_X12_count_b50 N M_3)) else (f_X12_count_b50 N M)
def f_X12_count (N : Nat) (x1 : Int32) (x2 : Int32) (M : Mem) : Option (Int32 × Mem) :=
  if (M.1 200 12) = 0 then (if (M.1 200 14) = 2 then (f_X12_count_b19 N x1 x2 M) else (bv (f_X12_amiss M) fun M_8 =>
  f_X12_count_b19 N x1 x2 M_8)) else (f_X12_count_b19 N x1 x2 M)
def f_X12_behindWord (N : Nat) (x1 : Int32) (x2 : Int32) (x3 : Int32) (M : Mem) : Option (Int32 × Mem) :=
  bv (f_X12_must N x1 M) fun M_1 =>
  bi (f_X12_count N x2 x3 M_1) fun r_5 M_3 =>
  some (r_5, M_3)
def f_X12_perhaps (N : Nat) (x1 : Int32) (M : Mem) : Option (Bool × Mem) :=
  if 0 < (M.1 200 12) then (some (false, M)) else (if x1 = 0 then (some (false, M)) else (bv (f_X12_advance N M) fun M_1 =>
  some (true, M_1)))
def f_X12_lay_h2 (N : Nat) (k2 : Int32 × Int32 → Mem → Option (Mem)) (v1 : Int32) (v2 : Int32) (M : Mem) : Option (Mem) :=
  if v2 < 0 then (some M) else (ck (M.1 200 8) 900 (
  bM (uI M 204 (tn (M.1 200 8)) (vp_nar .byte (i2b (v1 >>> ((8 * v2) &&& 31))))) fun M_2 =>
  bM (uI M_2 200 8 ((M_2.1 200 8) + 1)) fun M_3 =>
  k2 (v1, (v2 + (-1))) M_3))
def f_X12_lay (N : Nat) (x1 : Int32) (M : Mem) : Option (Mem) :=
  lp (fun k a m => f_X12_lay_h2 N k a.1 a.2 m) N (x1, 3) M
def f_X12_feed (N : Nat) (x1 : Int32) (x2 : Int32) (x3 : Int32) (x4 : Int32) (x5 : Int32) (M : Mem) : Option (Int32 × Mem) :=
  bM (uI M 200 1 0) fun M_1 =>
  if ((M_1.1 200 8) + 20) ≤ 900 then (bv (f_X12_lay N x1 M_1) fun M_2 =>
  bv (f_X12_lay N x2 M_2) fun M_4 =>
  bv (f_X12_lay N x3 M_4) fun M_6 =>
  bv (f_X12_lay N x4 M_6) fun M_8 =>
  bv (f_X12_lay N x5 M_8) fun M_10 =>
  some ((M_10.1 200 8), M_10)) else (some ((-1), M_1))
def f_X12_starts (N : Nat) (x1 : Int32) (x2 : Int32) (M : Mem) : Option (Bool × Mem) :=
  if x1 < 0 then (bi (f_X12_no 5 M) fun r_3 M_1 =>
  some (r_3, M_1)) else (if (M.1 200 8) < x1 then (bi (f_X12_no 5 M) fun r_6 M_4 =>
  some (r_6, M_4)) else (if x1 ≤ x2 then (bM (uI M 200 9 x1) fun M_7 =>
  bM (uI M_7 200 8 0) fun M_8 =>
  bM (uI M_8 200 16 0) fun M_9 =>
  bM (uI M_9 200 12 0) fun M_10 =>
  bv (f_X12_advance N M_10) fun M_11 =>
  some (true, M_11)) else (bi (f_X12_no 5 M) fun r_15 M_13 =>
  some (r_15, M_13))))
def f_X12_isWell_b24 (s0 : Int32) (M : Mem) : Option (Bool × Mem) :=
  bM (uI M 200 11 s0) fun M_2 =>
  if (M_2.1 200 12) = 0 then (some (true, M_2)) else (bi (f_X12_no 10 M_2) fun r_5 M_3 =>
  if (b2i r_5) = 0 then (some (false, M_3)) else (some (true, M_3)))
def f_X12_isWell (M : Mem) : Option (Bool × Mem) :=
  bM (uI M 200 10 (M.1 200 12)) fun M_1 =>
  if (M_1.1 200 12) = 0 then (f_X12_isWell_b24 (-1) M_1) else (f_X12_isWell_b24 (M_1.1 200 13) M_1)
def f_X12_fault (x1 : Int32) (M : Mem) : Option (Int32 × Mem) :=
  bM (uI M 200 1 0) fun M_1 =>
  if x1 = 0 then (some ((M_1.1 200 10), M_1)) else (if x1 = 1 then (some ((M_1.1 200 11), M_1)) else (some ((-1), M_1)))
def f_X12_fromOf (x0 : Int32) (M : Mem) : Option (Int32 × Mem) :=
  some ((6 * x0), M)
def f_X12_named_h2 (N : Nat) (k2 : Int32 × Int32 × Int32 → Mem → Option (Int32 × Mem)) (v1 : Int32) (v2 : Int32) (v3 : Int32) (M : Mem) : Option (Int32 × Mem) :=
  ck (((435 * v1) + 2) + v2) 2175 (
  if (M.1 205 (tn (((435 * v1) + 2) + v2))) ≤ v3 then (some ((-1), M)) else (bi (f_X12_fromOf v2 M) fun r_4 M_2 =>
  ck (((22 * v1) + r_4) + v3) 110 (
  if (lg_cmp (M_2.2 208 (tn (((22 * v1) + r_4) + v3))) (M_2.2 200 19)) = 0 then (some (v3, M_2)) else (k2 (v1, v2, (v3 + 1)) M_2))))
def f_X12_named (N : Nat) (x1 : Int32) (x2 : Int32) (M : Mem) : Option (Int32 × Mem) :=
  lp (fun k a m => f_X12_named_h2 N k a.1 a.2.1 a.2.2 m) N (x1, x2, 0) M
def f_X12_isTaken (N : Nat) (M : Mem) : Option (Bool × Mem) :=
  bi (f_X12_named N 4 0 M) fun r_3 M_1 =>
  if 0 ≤ r_3 then (some (true, M_1)) else (bi (f_X12_named N 4 1 M_1) fun r_6 M_4 =>
  if 0 ≤ r_6 then (some (true, M_4)) else (bi (f_X12_named N 4 2 M_4) fun r_9 M_7 =>
  if 0 ≤ r_9 then (some (true, M_7)) else (bi (f_X12_named N 4 3 M_7) fun r_12 M_10 =>
  if r_12 < 0 then (some (false, M_10)) else (some (true, M_10)))))
def f_X12_readNew_b73 (N : Nat) (v1 : Int32) (v3 : Int32) (M : Mem) : Option (Int32 × Mem) :=
  if (M.1 200 12) ≤ 0 then (bi (f_X12_fromOf v1 M) fun r_9 M_7 =>
  ck ((88 + r_9) + v3) 110 (
  bM (uL M_7 208 (tn ((88 + r_9) + v3)) (M_7.2 200 19)) fun M_11 =>
  bv (f_X12_advance N M_11) fun M_12 =>
  some (v3, M_12))) else (some (0, M))
def f_X12_readNew_b50 (N : Nat) (v1 : Int32) (v3 : Int32) (M : Mem) : Option (Int32 × Mem) :=
  if (M.1 200 12) = 0 then (bi (f_X12_isTaken N M) fun r_16 M_14 =>
  if (b2i r_16) = 0 then (f_X12_readNew_b73 N v1 v3 M_14) else (bv (f_X12_fail 3 (M_14.1 200 15) M_14) fun M_17 =>
  f_X12_readNew_b73 N v1 v3 M_17)) else (f_X12_readNew_b73 N v1 v3 M)
def f_X12_readNew_b26 (N : Nat) (v1 : Int32) (v3 : Int32) (M : Mem) : Option (Int32 × Mem) :=
  if (M.1 200 12) ≤ 0 then (bv (f_X12_advance N M) fun M_2 =>
  bi (f_X12_isName M_2) fun r_6 M_4 =>
  if (b2i r_6) = 0 then (bv (f_X12_amiss M_4) fun M_19 =>
  f_X12_readNew_b50 N v1 v3 M_19) else (f_X12_readNew_b50 N v1 v3 M_4)) else (some (0, M))
def f_X12_readNew (N : Nat) (x1 : Int32) (x2 : Int32) (M : Mem) : Option (Int32 × Mem) :=
  ck (1742 + x1) 2175 (
  if (M.1 205 (tn (1742 + x1))) = x2 then (bv (f_X12_fail 6 (M.1 200 15) M) fun M_21 =>
  f_X12_readNew_b26 N x1 (M.1 205 (tn (1742 + x1))) M_21) else (f_X12_readNew_b26 N x1 (M.1 205 (tn (1742 + x1))) M))
def f_X12_readPort_b20 (N : Nat) (M : Mem) : Option (Mem) :=
  if (M.1 200 12) ≤ 0 then (bv (f_X12_advance N M) fun M_2 =>
  bi (f_X12_count N 1 6 M_2) fun r_6 M_4 =>
  bi (f_X12_isBy M_4) fun r_9 M_7 =>
  bv (f_X12_must N (b2i r_9) M_7) fun M_10 =>
  bi (f_X12_count N 1 5 M_10) fun r_14 M_12 =>
  if (M_12.1 200 12) ≤ 0 then (ck 1740 2175 (
  bM (uI M_12 205 (tn 1740) r_6) fun M_16 =>
  ck 1741 2175 (
  bM (uI M_16 205 (tn 1741) r_14) fun M_18 =>
  some M_18))) else (some M_12)) else (some M)
def f_X12_readPort (N : Nat) (M : Mem) : Option (Mem) :=
  ck 1740 2175 (
  if (M.1 205 (tn 1740)) ≤ 0 then (f_X12_readPort_b20 N M) else (bv (f_X12_fail 5 (M.1 200 15) M) fun M_19 =>
  f_X12_readPort_b20 N M_19))
def f_X12_readBoard (N : Nat) (x1 : Int32) (x2 : Int32) (x3 : Int32) (M : Mem) : Option (Mem) :=
  ck (435 * x1) 2175 (
  bi (f_X12_count N 0 ((M.1 205 (tn (435 * x1))) - 1) M) fun r_4 M_2 =>
  ck ((435 * x1) + 1) 2175 (
  bi (f_X12_count N 0 ((M_2.1 205 (tn ((435 * x1) + 1))) - 1) M_2) fun r_8 M_6 =>
  ck x2 2175 (
  bM (uI M_6 205 (tn x2) r_4) fun M_10 =>
  ck (x2 + x3) 2175 (
  bM (uI M_10 205 (tn (x2 + x3)) r_8) fun M_12 =>
  some M_12))))
def f_X12_readGate_b135 (N : Nat) (s0 : Int32) (s1 : Int32) (M : Mem) : Option (Mem) :=
  ck s1 2175 (
  bM (uI M 205 (tn s1) s0) fun M_40 =>
  if (M_40.1 200 12) = 0 then (ck 1742 2175 (
  ck 1742 2175 (
  bM (uI M_40 205 (tn 1742) ((M_40.1 205 (tn 1742)) + 1)) fun M_43 =>
  some M_43))) else (some M_40))
def f_X12_readGate_b105 (N : Nat) (v1 : Int32) (M : Mem) : Option (Mem) :=
  bi (f_X12_isQuota M) fun r_35 M_33 =>
  bi (f_X12_perhaps N (b2i r_35) M_33) fun r_38 M_36 =>
  if (b2i r_38) = 0 then (f_X12_readGate_b135 N 1 (v1 + 24) M_36) else (bi (f_X12_count N 1 99 M_36) fun r_46 M_44 =>
  f_X12_readGate_b135 N r_46 (v1 + 24) M_44)
def f_X12_readGate_b72 (N : Nat) (v1 : Int32) (s0 : Int32) (s1 : Int32) (M : Mem) : Option (Mem) :=
  ck s1 2175 (
  bM (uI M 205 (tn s1) s0) fun M_26 =>
  bi (f_X12_isOpen M_26) fun r_29 M_27 =>
  bi (f_X12_perhaps N (b2i r_29) M_27) fun r_32 M_30 =>
  if (b2i r_32) = 0 then (f_X12_readGate_b105 N v1 M_30) else (ck 1750 2175 (
  ck 1750 2175 (
  bM (uI M_30 205 (tn 1750) ((M_30.1 205 (tn 1750)) ||| (1 <<< (((v1 - 1740) - 11) &&& 31)))) fun M_49 =>
  f_X12_readGate_b105 N v1 M_49))))
def f_X12_readGate (N : Nat) (M : Mem) : Option (Mem) :=
  bi (f_X12_readNew N 0 6 M) fun r_3 M_1 =>
  bi (f_X12_isAt M_1) fun r_6 M_4 =>
  bv (f_X12_must N (b2i r_6) M_4) fun M_7 =>
  bv (f_X12_readBoard N 4 (1751 + r_3) 6 M_7) fun M_9 =>
  bi (f_X12_isLets M_9) fun r_13 M_11 =>
  bi (f_X12_behindWord N (b2i r_13) 1 40 M_11) fun r_16 M_14 =>
  ck ((1751 + r_3) + 12) 2175 (
  bM (uI M_14 205 (tn ((1751 + r_3) + 12)) r_16) fun M_18 =>
  bi (f_X12_isAnswers M_18) fun r_21 M_19 =>
  bi (f_X12_perhaps N (b2i r_21) M_19) fun r_24 M_22 =>
  if (b2i r_24) = 0 then (f_X12_readGate_b72 N (1751 + r_3) 0 ((1751 + r_3) + 18) M_22) else (f_X12_readGate_b72 N (1751 + r_3) 1 ((1751 + r_3) + 18) M_22))
def f_X12_readHolder (N : Nat) (M : Mem) : Option (Mem) :=
  bi (f_X12_readNew N 1 6 M) fun r_3 M_1 =>
  bi (f_X12_isVotes M_1) fun r_6 M_4 =>
  bi (f_X12_behindWord N (b2i r_6) 1 20 M_4) fun r_9 M_7 =>
  ck (1781 + r_3) 2175 (
  bM (uI M_7 205 (tn (1781 + r_3)) r_9) fun M_11 =>
  if (M_11.1 200 12) = 0 then (ck 1743 2175 (
  ck 1743 2175 (
  bM (uI M_11 205 (tn 1743) ((M_11.1 205 (tn 1743)) + 1)) fun M_14 =>
  some M_14))) else (some M_11))
def f_X12_readTrade_b114 (N : Nat) (s0 : Int32) (s1 : Int32) (M : Mem) : Option (Mem) :=
  ck s1 2175 (
  bM (uI M 205 (tn s1) s0) fun M_42 =>
  if (M_42.1 200 12) = 0 then (ck 1744 2175 (
  ck 1744 2175 (
  bM (uI M_42 205 (tn 1744) ((M_42.1 205 (tn 1744)) + 1)) fun M_45 =>
  some M_45))) else (some M_42))
def f_X12_readTrade (N : Nat) (M : Mem) : Option (Mem) :=
  bi (f_X12_readNew N 2 6 M) fun r_3 M_1 =>
  bi (f_X12_isAt M_1) fun r_6 M_4 =>
  bv (f_X12_must N (b2i r_6) M_4) fun M_7 =>
  bv (f_X12_readBoard N 4 (1787 + r_3) 6 M_7) fun M_9 =>
  bi (f_X12_isFrom M_9) fun r_13 M_11 =>
  bi (f_X12_behindWord N (b2i r_13) 1 24 M_11) fun r_16 M_14 =>
  ck ((1787 + r_3) + 12) 2175 (
  bM (uI M_14 205 (tn ((1787 + r_3) + 12)) r_16) fun M_18 =>
  bi (f_X12_isTo M_18) fun r_21 M_19 =>
  bi (f_X12_behindWord N (b2i r_21) r_16 24 M_19) fun r_24 M_22 =>
  ck ((1787 + r_3) + 18) 2175 (
  bM (uI M_22 205 (tn ((1787 + r_3) + 18)) r_24) fun M_26 =>
  bi (f_X12_isPays M_26) fun r_29 M_27 =>
  bi (f_X12_behindWord N (b2i r_29) 1 99 M_27) fun r_32 M_30 =>
  ck ((1787 + r_3) + 24) 2175 (
  bM (uI M_30 205 (tn ((1787 + r_3) + 24)) r_32) fun M_34 =>
  bi (f_X12_isClear M_34) fun r_37 M_35 =>
  bi (f_X12_perhaps N (b2i r_37) M_35) fun r_40 M_38 =>
  if (b2i r_40) = 0 then (f_X12_readTrade_b114 N 0 ((1787 + r_3) + 30) M_38) else (f_X12_readTrade_b114 N 1 ((1787 + r_3) + 30) M_38))))
def f_X12_readShip_b68 (N : Nat) (s0 : Int32) (s1 : Int32) (M : Mem) : Option (Mem) :=
  ck s1 2175 (
  bM (uI M 205 (tn s1) s0) fun M_25 =>
  if (M_25.1 200 12) = 0 then (ck 1745 2175 (
  ck 1745 2175 (
  bM (uI M_25 205 (tn 1745) ((M_25.1 205 (tn 1745)) + 1)) fun M_28 =>
  some M_28))) else (some M_25))
def f_X12_readShip (N : Nat) (M : Mem) : Option (Mem) :=
  bi (f_X12_readNew N 3 4 M) fun r_3 M_1 =>
  bi (f_X12_isAt M_1) fun r_6 M_4 =>
  bv (f_X12_must N (b2i r_6) M_4) fun M_7 =>
  bv (f_X12_readBoard N 4 (1823 + r_3) 4 M_7) fun M_9 =>
  bi (f_X12_isTo M_9) fun r_13 M_11 =>
  bv (f_X12_must N (b2i r_13) M_11) fun M_14 =>
  bv (f_X12_readBoard N 4 ((1823 + r_3) + 8) 4 M_14) fun M_16 =>
  bi (f_X12_isDark M_16) fun r_20 M_18 =>
  bi (f_X12_perhaps N (b2i r_20) M_18) fun r_23 M_21 =>
  if (b2i r_23) = 0 then (f_X12_readShip_b68 N 0 ((1823 + r_3) + 16) M_21) else (f_X12_readShip_b68 N 1 ((1823 + r_3) + 16) M_21)
def f_X12_readOnce_b20 (N : Nat) (v1 : Int32) (v2 : Int32) (v3 : Int32) (v4 : Int32) (M : Mem) : Option (Mem) :=
  if (M.1 200 12) ≤ 0 then (bM (uI M 200 25 ((M.1 200 25) ||| (1 <<< (v1 &&& 31)))) fun M_4 =>
  bv (f_X12_advance N M_4) fun M_5 =>
  bi (f_X12_count N v3 v4 M_5) fun r_9 M_7 =>
  ck (1740 + v2) 2175 (
  bM (uI M_7 205 (tn (1740 + v2)) r_9) fun M_11 =>
  some M_11)) else (some M)
def f_X12_readOnce (N : Nat) (x1 : Int32) (x2 : Int32) (x3 : Int32) (x4 : Int32) (M : Mem) : Option (Mem) :=
  bi (f_X12_has (M.1 200 25) x1 M) fun r_3 M_1 =>
  if (b2i r_3) = 0 then (f_X12_readOnce_b20 N x1 x2 x3 x4 M_1) else (bv (f_X12_fail 5 (M_1.1 200 15) M_1) fun M_12 =>
  f_X12_readOnce_b20 N x1 x2 x3 x4 M_12)
def f_X12_readPart (N : Nat) (M : Mem) : Option (Mem) :=
  bi (f_X12_isPort M) fun r_3 M_1 =>
  if (b2i r_3) = 0 then (ck 1740 2175 (
  if (M_1.1 205 (tn 1740)) = 0 then (bv (f_X12_amiss M_1) fun M_42 =>
  some M_42) else (bi (f_X12_isGate M_1) fun r_7 M_5 =>
  if (b2i r_7) = 0 then (bi (f_X12_isHolder M_5) fun r_10 M_8 =>
  if (b2i r_10) = 0 then (bi (f_X12_isTrade M_8) fun r_13 M_11 =>
  if (b2i r_13) = 0 then (bi (f_X12_isShip M_11) fun r_16 M_14 =>
  if (b2i r_16) = 0 then (bi (f_X12_isWind M_14) fun r_19 M_17 =>
  if (b2i r_19) = 0 then (bi (f_X12_isThins M_17) fun r_22 M_20 =>
  if (b2i r_22) = 0 then (bi (f_X12_isFoggyWord M_20) fun r_25 M_23 =>
  if (b2i r_25) = 0 then (bv (f_X12_amiss M_23) fun M_26 =>
  some M_26) else (bv (f_X12_readOnce N 2 8 1 99 M_23) fun M_28 =>
  some M_28)) else (bv (f_X12_readOnce N 1 7 0 9 M_20) fun M_30 =>
  some M_30)) else (bv (f_X12_readOnce N 0 6 0 4 M_17) fun M_32 =>
  some M_32)) else (bv (f_X12_readShip N M_14) fun M_34 =>
  some M_34)) else (bv (f_X12_readTrade N M_11) fun M_36 =>
  some M_36)) else (bv (f_X12_readHolder N M_8) fun M_38 =>
  some M_38)) else (bv (f_X12_readGate N M_5) fun M_40 =>
  some M_40)))) else (bv (f_X12_readPort N M_1) fun M_44 =>
  some M_44)
def f_X12_copy_h41 (N : Nat) (k41 : Int32 × Int32 × Int32 → Mem → Option (Mem)) (v1 : Int32) (v2 : Int32) (v3 : Int32) (M : Mem) : Option (Mem) :=
  if 22 ≤ v3 then (some M) else (ck ((22 * v1) + v3) 110 (
  ck ((22 * v2) + v3) 110 (
  bM (uL M 208 (tn ((22 * v2) + v3)) (M.2 208 (tn ((22 * v1) + v3)))) fun M_3 =>
  k41 (v1, v2, (v3 + 1)) M_3)))
def f_X12_copy_h2 (N : Nat) (k2 : Int32 × Int32 × Int32 → Mem → Option (Mem)) (v1 : Int32) (v2 : Int32) (v3 : Int32) (M : Mem) : Option (Mem) :=
  if 435 ≤ v3 then (lp (fun k a m => f_X12_copy_h41 N k a.1 a.2.1 a.2.2 m) N (v1, v2, 0) M) else (ck ((435 * v1) + v3) 2175 (
  ck ((435 * v2) + v3) 2175 (
  bM (uI M 205 (tn ((435 * v2) + v3)) (M.1 205 (tn ((435 * v1) + v3)))) fun M_6 =>
  k2 (v1, v2, (v3 + 1)) M_6)))
def f_X12_copy (N : Nat) (x1 : Int32) (x2 : Int32) (M : Mem) : Option (Mem) :=
  lp (fun k a m => f_X12_copy_h2 N k a.1 a.2.1 a.2.2 m) N (x1, x2, 0) M
def f_X12_port_b104 (N : Nat) (M : Mem) : Option (Int32 × Mem) :=
  bi (f_X12_isWell M) fun r_13 M_11 =>
  if (b2i r_13) = 0 then (some ((-1), M_11)) else (bv (f_X12_copy N 4 0 M_11) fun M_14 =>
  ck 2 2175 (
  some ((M_14.1 205 (tn 2)), M_14)))
def f_X12_port_h73 (N : Nat) (k73 : Unit → Mem → Option (Int32 × Mem)) (M : Mem) : Option (Int32 × Mem) :=
  if (M.1 200 12) = 0 then (if (M.1 200 14) = 0 then (f_X12_port_b104 N M) else (bv (f_X12_readPart N M) fun M_17 =>
  bi (f_X12_isSign 59 M_17) fun r_21 M_19 =>
  bv (f_X12_must N (b2i r_21) M_19) fun M_22 =>
  k73 () M_22)) else (f_X12_port_b104 N M)
def f_X12_port_h25 (N : Nat) (k25 : Int32 → Mem → Option (Int32 × Mem)) (v2 : Int32) (M : Mem) : Option (Int32 × Mem) :=
  if 435 ≤ v2 then (ck 1747 2175 (
  bM (uI M 205 (tn 1747) 1) fun M_7 =>
  ck 1748 2175 (
  bM (uI M_7 205 (tn 1748) 10) fun M_9 =>
  bM (uI M_9 200 25 0) fun M_10 =>
  lp (fun k a m => f_X12_port_h73 N k m) N () M_10))) else (ck (1740 + v2) 2175 (
  bM (uI M 205 (tn (1740 + v2)) 0) fun M_25 =>
  k25 (v2 + 1) M_25))
def f_X12_port (N : Nat) (x1 : Int32) (M : Mem) : Option (Int32 × Mem) :=
  bM (uI M 200 1 0) fun M_1 =>
  bM (uI M_1 200 0 0) fun M_2 =>
  bi (f_X12_starts N x1 900 M_2) fun r_5 M_3 =>
  if (b2i r_5) = 0 then (some ((-1), M_3)) else (lp (fun k a m => f_X12_port_h25 N k a m) N 0 M_3)
def f_X12_readToldGate_b18 (N : Nat) (M : Mem) : Option (Int32 × Mem) :=
  if (M.1 200 12) ≤ 0 then (bi (f_X12_named N 0 0 M) fun r_3 M_1 =>
  if 0 ≤ r_3 then (bv (f_X12_must N 1 M_1) fun M_4 =>
  some ((imax 0 r_3), M_4)) else (bv (f_X12_fail 3 (M_1.1 200 15) M_1) fun M_6 =>
  bv (f_X12_must N 1 M_6) fun M_8 =>
  some ((imax 0 r_3), M_8))) else (some (0, M))
def f_X12_readToldGate (N : Nat) (M : Mem) : Option (Int32 × Mem) :=
  if (M.1 200 12) = 0 then (bi (f_X12_isName M) fun r_12 M_10 =>
  if (b2i r_12) = 0 then (bv (f_X12_amiss M_10) fun M_13 =>
  f_X12_readToldGate_b18 N M_13) else (f_X12_readToldGate_b18 N M_10)) else (f_X12_readToldGate_b18 N M)
def f_X12_readTest_b125 (N : Nat) (v1 : Int32) (s0 : Int32) (M : Mem) : Option (Mem) :=
  bv (f_X12_must N s0 M) fun M_15 =>
  bi (f_X12_count N 0 999 M_15) fun r_19 M_17 =>
  ck (v1 + 3) 2175 (
  bM (uI M_17 205 (tn (v1 + 3)) r_19) fun M_21 =>
  some M_21)
def f_X12_readTest_b120 (N : Nat) (v1 : Int32) (M : Mem) : Option (Mem) :=
  f_X12_readTest_b125 N v1 1 M
def f_X12_readTest_b91 (N : Nat) (v1 : Int32) (s0 : Int32) (s1 : Int32) (M : Mem) : Option (Mem) :=
  ck s1 2175 (
  bM (uI M 205 (tn s1) s0) fun M_11 =>
  bi (f_X12_isSign 60 M_11) fun r_14 M_12 =>
  if (b2i r_14) = 0 then (bi (f_X12_isSign 62 M_12) fun r_24 M_22 =>
  if (b2i r_24) = 0 then (bi (f_X12_isSign 61 M_22) fun r_27 M_25 =>
  if (b2i r_27) = 0 then (f_X12_readTest_b125 N v1 0 M_25) else (f_X12_readTest_b120 N v1 M_25)) else (f_X12_readTest_b120 N v1 M_22)) else (f_X12_readTest_b120 N v1 M_12))
def f_X12_readTest_b15 (N : Nat) (v1 : Int32) (v2 : Int32) (s0 : Int32) (M : Mem) : Option (Mem) :=
  bv (f_X12_must N s0 M) fun M_4 =>
  ck (v1 + 6) 2175 (
  bM (uI M_4 205 (tn (v1 + 6)) v2) fun M_7 =>
  if v2 = 1 then (bi (f_X12_readToldGate N M_7) fun r_30 M_28 =>
  ck (v1 + 1) 2175 (
  bM (uI M_28 205 (tn (v1 + 1)) r_30) fun M_32 =>
  some M_32)) else (bv (f_X12_readBoard N 0 (v1 + 1) 1 M_7) fun M_8 =>
  if 0 < (M_8.1 200 12) then (some M_8) else (if v2 = 0 then (some M_8) else (if (M_8.1 200 14) = 3 then (f_X12_readTest_b91 N v1 (M_8.1 200 17) (v1 + 7) M_8) else (f_X12_readTest_b91 N v1 0 (v1 + 7) M_8)))))
def f_X12_readTest (N : Nat) (x1 : Int32) (M : Mem) : Option (Mem) :=
  bi (f_X12_testWord M) fun r_3 M_1 =>
  if r_3 < 0 then (f_X12_readTest_b15 N x1 r_3 0 M_1) else (f_X12_readTest_b15 N x1 r_3 1 M_1)
def f_X12_readRest_b98 (N : Nat) (v1 : Int32) (M : Mem) : Option (Mem) :=
  bi (f_X12_readToldGate N M) fun r_4 M_2 =>
  ck (v1 + 1) 2175 (
  bM (uI M_2 205 (tn (v1 + 1)) r_4) fun M_6 =>
  some M_6)
def f_X12_readRest (N : Nat) (x1 : Int32) (M : Mem) : Option (Mem) :=
  ck x1 2175 (
  if (M.1 205 (tn x1)) = 0 then (bi (f_X12_count N 1 24 M) fun r_21 M_19 =>
  ck (x1 + 1) 2175 (
  bM (uI M_19 205 (tn (x1 + 1)) r_21) fun M_23 =>
  some M_23)) else (if (M.1 205 (tn x1)) = 3 then (bi (f_X12_count N 0 4 M) fun r_16 M_14 =>
  ck (x1 + 1) 2175 (
  bM (uI M_14 205 (tn (x1 + 1)) r_16) fun M_18 =>
  some M_18)) else (if (M.1 205 (tn x1)) = 6 then (bi (f_X12_count N 1 99 M) fun r_11 M_9 =>
  ck (x1 + 1) 2175 (
  bM (uI M_9 205 (tn (x1 + 1)) r_11) fun M_13 =>
  some M_13)) else (if (M.1 205 (tn x1)) = 5 then (bv (f_X12_readTest N x1 M) fun M_7 =>
  some M_7) else (if (M.1 205 (tn x1)) = 1 then (f_X12_readRest_b98 N x1 M) else (if (M.1 205 (tn x1)) = 2 then (f_X12_readRest_b98 N x1 M) else (some M)))))))
def f_X12_readStep_b191 (N : Nat) (rc : Int32 → Mem → Option Mem) (v4 : Int32) (M : Mem) : Option (Mem) :=
  ck (v4 + 8) 2175 (
  bM (uI M 205 (tn (v4 + 8)) (M.1 200 26)) fun M_18 =>
  some M_18)
def f_X12_readStep_b169 (N : Nat) (rc : Int32 → Mem → Option Mem) (v3 : Int32) (v4 : Int32) (M : Mem) : Option (Mem) :=
  if v3 = 0 then (f_X12_readStep_b191 N rc v4 M) else (bi (f_X12_isEnd M) fun r_21 M_19 =>
  bv (f_X12_must N (b2i r_21) M_19) fun M_22 =>
  bi (f_X12_isSign 59 M_22) fun r_26 M_24 =>
  bv (f_X12_must N (b2i r_26) M_24) fun M_27 =>
  f_X12_readStep_b191 N rc v4 M_27)
def f_X12_readStep_h141 (N : Nat) (rc : Int32 → Mem → Option Mem) (k141 : Int32 × Int32 × Int32 → Mem → Option (Mem)) (v1 : Int32) (v3 : Int32) (v4 : Int32) (M : Mem) : Option (Mem) :=
  if v3 = 0 then (f_X12_readStep_b169 N rc v3 v4 M) else (if (M.1 200 12) = 0 then (bi (f_X12_isEnd M) fun r_31 M_29 =>
  if (b2i r_31) = 0 then (bv (rc (v1 + 1) M_29) fun M_32 =>
  k141 (v1, v3, v4) M_32) else (f_X12_readStep_b169 N rc v3 v4 M_29)) else (f_X12_readStep_b169 N rc v3 v4 M))
def f_X12_readStep_b82 (N : Nat) (rc : Int32 → Mem → Option Mem) (v1 : Int32) (v2 : Int32) (v3 : Int32) (M : Mem) : Option (Mem) :=
  if (M.1 200 12) ≤ 0 then (bI (1905 + (9 * (M.1 200 26))) fun y_4 =>
  bM (uI M 200 26 ((M.1 200 26) + 1)) fun M_5 =>
  bv (f_X12_advance N M_5) fun M_6 =>
  ck y_4 2175 (
  bM (uI M_6 205 (tn y_4) v2) fun M_9 =>
  bv (f_X12_readRest N y_4 M_9) fun M_10 =>
  bi (f_X12_isSign 59 M_10) fun r_14 M_12 =>
  bv (f_X12_must N (b2i r_14) M_12) fun M_15 =>
  lp (fun k a m => f_X12_readStep_h141 N rc k a.1 a.2.1 a.2.2 m) N (v1, v3, y_4) M_15)) else (some M)
def f_X12_readStep_b56 (N : Nat) (rc : Int32 → Mem → Option Mem) (v1 : Int32) (v2 : Int32) (v3 : Int32) (M : Mem) : Option (Mem) :=
  if (M.1 200 12) = 0 then (if v3 = 0 then (f_X12_readStep_b82 N rc v1 v2 v3 M) else (if v1 = 3 then (bv (f_X12_fail 7 (M.1 200 15) M) fun M_34 =>
  f_X12_readStep_b82 N rc v1 v2 v3 M_34) else (f_X12_readStep_b82 N rc v1 v2 v3 M))) else (f_X12_readStep_b82 N rc v1 v2 v3 M)
def f_X12_readStep_b30 (N : Nat) (rc : Int32 → Mem → Option Mem) (v1 : Int32) (v2 : Int32) (v3 : Int32) (M : Mem) : Option (Mem) :=
  if (M.1 200 12) = 0 then (if (M.1 200 26) = 30 then (bv (f_X12_fail 6 (M.1 200 15) M) fun M_36 =>
  f_X12_readStep_b56 N rc v1 v2 v3 M_36) else (f_X12_readStep_b56 N rc v1 v2 v3 M)) else (f_X12_readStep_b56 N rc v1 v2 v3 M)
def f_X12_readStep_b21 (N : Nat) (rc : Int32 → Mem → Option Mem) (v1 : Int32) (v2 : Int32) (s0 : Int32) (M : Mem) : Option (Mem) :=
  if 0 ≤ v2 then (f_X12_readStep_b30 N rc v1 v2 s0 M) else (bv (f_X12_amiss M) fun M_38 =>
  f_X12_readStep_b30 N rc v1 v2 s0 M_38)
def f_X12_readStep_b16 (N : Nat) (rc : Int32 → Mem → Option Mem) (v1 : Int32) (v2 : Int32) (M : Mem) : Option (Mem) :=
  f_X12_readStep_b21 N rc v1 v2 1 M
def g_X12_readStep (N : Nat) (rc : Int32 → Mem → Option Mem) (x1 : Int32) (M : Mem) : Option (Mem) :=
  bi (f_X12_stepWord M) fun r_3 M_1 =>
  if r_3 = 5 then (f_X12_readStep_b16 N rc x1 r_3 M_1) else (if r_3 = 6 then (f_X12_readStep_b16 N rc x1 r_3 M_1) else (f_X12_readStep_b21 N rc x1 r_3 0 M_1))
def f_X12_readStep (N : Nat) : Nat → Int32 → Mem → Option (Mem)
  | 0 => fun _ _ => none
  | D + 1 => fun x1 M => g_X12_readStep N (f_X12_readStep N D) x1 M
def f_X12_nights_h82 (N : Nat) (k82 : Int32 → Mem → Option (Int32 × Mem)) (v2 : Int32) (M : Mem) : Option (Int32 × Mem) :=
  if (9 * (M.1 200 26)) ≤ v2 then (some ((M.1 200 26), M)) else (ck (1905 + v2) 2175 (
  ck (165 + v2) 2175 (
  bM (uI M 205 (tn (165 + v2)) (M.1 205 (tn (1905 + v2)))) fun M_16 =>
  k82 (v2 + 1) M_16)))
def f_X12_nights_b50 (N : Nat) (M : Mem) : Option (Int32 × Mem) :=
  bi (f_X12_isWell M) fun r_9 M_7 =>
  if (b2i r_9) = 0 then (some ((-1), M_7)) else (ck 163 2175 (
  bM (uI M_7 205 (tn 163) 1) fun M_11 =>
  ck 164 2175 (
  bM (uI M_11 205 (tn 164) (M_11.1 200 26)) fun M_13 =>
  lp (fun k a m => f_X12_nights_h82 N k a m) N 0 M_13)))
def f_X12_nights_h28 (N : Nat) (k28 : Unit → Mem → Option (Int32 × Mem)) (M : Mem) : Option (Int32 × Mem) :=
  if (M.1 200 12) = 0 then (if (M.1 200 14) = 0 then (f_X12_nights_b50 N M) else (bv (f_X12_readStep N 6 0 M) fun M_17 =>
  k28 () M_17)) else (f_X12_nights_b50 N M)
def f_X12_nights (N : Nat) (x1 : Int32) (M : Mem) : Option (Int32 × Mem) :=
  bM (uI M 200 1 0) fun M_1 =>
  bM (uI M_1 200 0 0) fun M_2 =>
  bi (f_X12_starts N x1 300 M_2) fun r_5 M_3 =>
  if (b2i r_5) = 0 then (some ((-1), M_3)) else (bM (uI M_3 200 26 0) fun M_6 =>
  lp (fun k a m => f_X12_nights_h28 N k m) N () M_6)
def f_X12_isBoard (x1 : Int32) (x2 : Int32) (M : Mem) : Option (Bool × Mem) :=
  ck 0 2175 (
  bi (f_X12_isIn (Int32.toInt64 x1) 0 (Int32.toInt64 ((M.1 205 (tn 0)) - 1)) M) fun r_4 M_2 =>
  if (b2i r_4) = 0 then (some (false, M_2)) else (ck 1 2175 (
  bi (f_X12_isIn (Int32.toInt64 x2) 0 (Int32.toInt64 ((M_2.1 205 (tn 1)) - 1)) M_2) fun r_8 M_6 =>
  if (b2i r_8) = 0 then (some (false, M_6)) else (some (true, M_6)))))
def f_X12_board (x1 : Int32) (x2 : Int32) (M : Mem) : Option (Int32 × Mem) :=
  ck 0 2175 (
  some ((((M.1 205 (tn 0)) * x2) + x1), M))
def f_X12_boards (M : Mem) : Option (Int32 × Mem) :=
  ck 0 2175 (
  ck 1 2175 (
  some (((M.1 205 (tn 0)) * (M.1 205 (tn 1))), M)))
def f_X12_isGateAt (x1 : Int32) (M : Mem) : Option (Bool × Mem) :=
  ck 2 2175 (
  bi (f_X12_isIn (Int32.toInt64 x1) 0 (Int32.toInt64 ((M.1 205 (tn 2)) - 1)) M) fun r_4 M_2 =>
  some (r_4, M_2))
def f_X12_isHolderAt (x1 : Int32) (M : Mem) : Option (Bool × Mem) :=
  ck 3 2175 (
  bi (f_X12_isIn (Int32.toInt64 x1) 0 (Int32.toInt64 ((M.1 205 (tn 3)) - 1)) M) fun r_4 M_2 =>
  some (r_4, M_2))
def f_X12_fogOf (x1 : Int32) (M : Mem) : Option (Int32 × Mem) :=
  ck (103 + x1) 2175 (
  ck (133 + x1) 2175 (
  some (((M.1 205 (tn (103 + x1))) + (M.1 205 (tn (133 + x1)))), M)))
def f_X12_isFoggy (x1 : Int32) (M : Mem) : Option (Bool × Mem) :=
  bi (f_X12_fogOf x1 M) fun r_3 M_1 =>
  ck 8 2175 (
  if r_3 < (M_1.1 205 (tn 8)) then (some (false, M_1)) else (some (true, M_1)))
def f_X12_foggyMany_b26 (N : Nat) (k4 : Int32 × Int32 → Mem → Option (Int32 × Mem)) (v2 : Int32) (s0 : Int32) (s1 : Int32) (M : Mem) : Option (Int32 × Mem) :=
  k4 ((s1 + s0), (v2 + 1)) M
def f_X12_foggyMany_h4 (N : Nat) (k4 : Int32 × Int32 → Mem → Option (Int32 × Mem)) (v1 : Int32) (v2 : Int32) (M : Mem) : Option (Int32 × Mem) :=
  bi (f_X12_boards M) fun r_3 M_1 =>
  if r_3 ≤ v2 then (some (v1, M_1)) else (bi (f_X12_isFoggy v2 M_1) fun r_6 M_4 =>
  if (b2i r_6) = 0 then (f_X12_foggyMany_b26 N k4 v2 0 v1 M_4) else (f_X12_foggyMany_b26 N k4 v2 1 v1 M_4))
def f_X12_foggyMany (N : Nat) (M : Mem) : Option (Int32 × Mem) :=
  lp (fun k a m => f_X12_foggyMany_h4 N k a.1 a.2 m) N (0, 0) M
def f_X12_all_h4 (N : Nat) (k4 : Int32 × Int32 × Int32 → Mem → Option (Int32 × Mem)) (v1 : Int32) (v2 : Int32) (v3 : Int32) (M : Mem) : Option (Int32 × Mem) :=
  bi (f_X12_boards M) fun r_3 M_1 =>
  if r_3 ≤ v3 then (some (v2, M_1)) else (ck ((103 + (30 * v1)) + v3) 2175 (
  bI (v2 + (M_1.1 205 (tn ((103 + (30 * v1)) + v3)))) fun y_5 =>
  k4 (v1, y_5, (v3 + 1)) M_1))
def f_X12_all (N : Nat) (x1 : Int32) (M : Mem) : Option (Int32 × Mem) :=
  lp (fun k a m => f_X12_all_h4 N k a.1 a.2.1 a.2.2 m) N (x1, 0, 0) M
def f_X12_many (N : Nat) (x1 : Int32) (M : Mem) : Option (Int32 × Mem) :=
  bM (uI M 200 1 0) fun M_1 =>
  bM (uI M_1 200 0 0) fun M_2 =>
  bi (f_X12_isIn (Int32.toInt64 x1) 0 13 M_2) fun r_5 M_3 =>
  if (b2i r_5) = 0 then (bi (f_X12_refuse 5 M_3) fun r_15 M_13 =>
  some (r_15, M_13)) else (if 11 ≤ x1 then (if 13 ≤ x1 then (bi (f_X12_foggyMany N M_3) fun r_8 M_6 =>
  some (r_8, M_6)) else (bi (f_X12_all N (x1 - 11) M_3) fun r_11 M_9 =>
  some (r_11, M_9))) else (ck x1 2175 (
  some ((M_3.1 205 (tn x1)), M_3))))
def f_X12_gate (x1 : Int32) (x2 : Int32) (M : Mem) : Option (Int32 × Mem) :=
  bM (uI M 200 1 0) fun M_1 =>
  bM (uI M_1 200 0 0) fun M_2 =>
  bi (f_X12_isGateAt x1 M_2) fun r_5 M_3 =>
  if (b2i r_5) = 0 then (bi (f_X12_refuse 2 M_3) fun r_15 M_13 =>
  some (r_15, M_13)) else (bi (f_X12_isIn (Int32.toInt64 x2) 0 4 M_3) fun r_8 M_6 =>
  if (b2i r_8) = 0 then (bi (f_X12_refuse 5 M_6) fun r_11 M_9 =>
  some (r_11, M_9)) else (ck ((11 + (6 * x2)) + x1) 2175 (
  some ((M_6.1 205 (tn ((11 + (6 * x2)) + x1))), M_6))))
def f_X12_votes (x1 : Int32) (M : Mem) : Option (Int32 × Mem) :=
  bM (uI M 200 1 0) fun M_1 =>
  bM (uI M_1 200 0 0) fun M_2 =>
  bi (f_X12_isHolderAt x1 M_2) fun r_5 M_3 =>
  if (b2i r_5) = 0 then (bi (f_X12_refuse 2 M_3) fun r_8 M_6 =>
  some (r_8, M_6)) else (ck (41 + x1) 2175 (
  some ((M_3.1 205 (tn (41 + x1))), M_3)))
def f_X12_trade (x1 : Int32) (x2 : Int32) (M : Mem) : Option (Int32 × Mem) :=
  bM (uI M 200 1 0) fun M_1 =>
  bM (uI M_1 200 0 0) fun M_2 =>
  ck 4 2175 (
  bi (f_X12_isIn (Int32.toInt64 x1) 0 (Int32.toInt64 ((M_2.1 205 (tn 4)) - 1)) M_2) fun r_6 M_4 =>
  if (b2i r_6) = 0 then (bi (f_X12_refuse 2 M_4) fun r_16 M_14 =>
  some (r_16, M_14)) else (bi (f_X12_isIn (Int32.toInt64 x2) 0 5 M_4) fun r_9 M_7 =>
  if (b2i r_9) = 0 then (bi (f_X12_refuse 5 M_7) fun r_12 M_10 =>
  some (r_12, M_10)) else (ck ((47 + (6 * x2)) + x1) 2175 (
  some ((M_7.1 205 (tn ((47 + (6 * x2)) + x1))), M_7)))))
def f_X12_isShipAt (x1 : Int32) (M : Mem) : Option (Bool × Mem) :=
  ck 5 2175 (
  bi (f_X12_isIn (Int32.toInt64 x1) 0 (Int32.toInt64 ((M.1 205 (tn 5)) - 1)) M) fun r_4 M_2 =>
  some (r_4, M_2))
def f_X12_ship (x1 : Int32) (x2 : Int32) (M : Mem) : Option (Int32 × Mem) :=
  bM (uI M 200 1 0) fun M_1 =>
  bM (uI M_1 200 0 0) fun M_2 =>
  bi (f_X12_isShipAt x1 M_2) fun r_5 M_3 =>
  if (b2i r_5) = 0 then (bi (f_X12_refuse 2 M_3) fun r_15 M_13 =>
  some (r_15, M_13)) else (bi (f_X12_isIn (Int32.toInt64 x2) 0 4 M_3) fun r_8 M_6 =>
  if (b2i r_8) = 0 then (bi (f_X12_refuse 5 M_6) fun r_11 M_9 =>
  some (r_11, M_9)) else (ck ((83 + (4 * x2)) + x1) 2175 (
  some ((M_6.1 205 (tn ((83 + (4 * x2)) + x1))), M_6))))
def f_X12_fog (x1 : Int32) (x2 : Int32) (x3 : Int32) (M : Mem) : Option (Int32 × Mem) :=
  bM (uI M 200 1 0) fun M_1 =>
  bM (uI M_1 200 0 0) fun M_2 =>
  bi (f_X12_isBoard x1 x2 M_2) fun r_5 M_3 =>
  if (b2i r_5) = 0 then (bi (f_X12_refuse 2 M_3) fun r_18 M_16 =>
  some (r_18, M_16)) else (bi (f_X12_isIn (Int32.toInt64 x3) 0 1 M_3) fun r_8 M_6 =>
  if (b2i r_8) = 0 then (bi (f_X12_refuse 5 M_6) fun r_11 M_9 =>
  some (r_11, M_9)) else (bi (f_X12_board x1 x2 M_6) fun r_14 M_12 =>
  ck ((103 + (30 * x3)) + r_14) 2175 (
  some ((M_12.1 205 (tn ((103 + (30 * x3)) + r_14))), M_12))))
def f_X12_foggy (x1 : Int32) (x2 : Int32) (M : Mem) : Option (Int32 × Mem) :=
  bM (uI M 200 1 0) fun M_1 =>
  bM (uI M_1 200 0 0) fun M_2 =>
  bi (f_X12_isBoard x1 x2 M_2) fun r_5 M_3 =>
  if (b2i r_5) = 0 then (bi (f_X12_refuse 2 M_3) fun r_14 M_12 =>
  some (r_14, M_12)) else (bi (f_X12_board x1 x2 M_3) fun r_8 M_6 =>
  bi (f_X12_isFoggy r_8 M_6) fun r_11 M_9 =>
  if (b2i r_11) = 0 then (some (0, M_9)) else (some (1, M_9)))
def f_X12_copyFog_b103 (N : Nat) (k60 : Int32 × Int32 → Mem → Option (Int32 × Mem)) (v1 : Int32) (v2 : Int32) (s0 : Int64) (s1 : Int32) (M : Mem) : Option (Int32 × Mem) :=
  ck s1 240 (
  bM (uL M 203 (tn s1) s0) fun M_22 =>
  k60 (v1, (v2 + 1)) M_22)
def f_X12_copyFog_h60 (N : Nat) (k60 : Int32 × Int32 → Mem → Option (Int32 × Mem)) (v1 : Int32) (v2 : Int32) (M : Mem) : Option (Int32 × Mem) :=
  bi (f_X12_boards M) fun r_13 M_11 =>
  if r_13 ≤ v2 then (bi (f_X12_boards M_11) fun r_16 M_14 =>
  some (r_16, M_14)) else (ck v1 4 (
  if (M_11.1 201 (tn v1)) = 0 then (bi (f_X12_fogOf v2 M_11) fun r_25 M_23 =>
  f_X12_copyFog_b103 N k60 v1 v2 (Int32.toInt64 (i2b r_25)) ((60 * v1) + v2) M_23) else (bi (f_X12_fogOf v2 M_11) fun r_20 M_18 =>
  f_X12_copyFog_b103 N k60 v1 v2 (Int32.toInt64 r_20) ((60 * v1) + v2) M_18)))
def f_X12_copyFog (N : Nat) (x1 : Int32) (M : Mem) : Option (Int32 × Mem) :=
  bM (uI M 200 1 0) fun M_1 =>
  bM (uI M_1 200 0 0) fun M_2 =>
  bi (f_X12_isTray x1 M_2) fun r_5 M_3 =>
  if (b2i r_5) = 0 then (bi (f_X12_refuse 1 M_3) fun r_34 M_32 =>
  some (r_34, M_32)) else (ck x1 4 (
  if 0 ≤ (M_3.1 202 (tn x1)) then (ck x1 4 (
  bi (f_X12_boards M_3) fun r_10 M_8 =>
  if r_10 ≤ (M_3.1 202 (tn x1)) then (lp (fun k a m => f_X12_copyFog_h60 N k a.1 a.2 m) N (x1, 0) M_8) else (bi (f_X12_refuse 4 M_8) fun r_28 M_26 =>
  some (r_28, M_26)))) else (bi (f_X12_refuse 3 M_3) fun r_31 M_29 =>
  some (r_31, M_29))))
def f_X12_eastOf (x0 : Int32) (M : Mem) : Option (Int32 × Mem) :=
  if x0 = 1 then (some (1, M)) else (if x0 = 3 then (some ((-1), M)) else (some (0, M)))
def f_X12_southOf (x0 : Int32) (M : Mem) : Option (Int32 × Mem) :=
  if x0 = 2 then (some (1, M)) else (if x0 = 4 then (some ((-1), M)) else (some (0, M)))
def f_X12_beside (x1 : Int32) (x2 : Int32) (M : Mem) : Option (Int32 × Mem) :=
  ck 0 2175 (
  cz (M.1 205 (tn 0)) (
  bi (f_X12_eastOf x2 M) fun r_5 M_3 =>
  bI ((x1 - x1 / (M.1 205 (tn 0)) * (M.1 205 (tn 0))) + r_5) fun y_6 =>
  ck 0 2175 (
  cz (M_3.1 205 (tn 0)) (
  bi (f_X12_southOf x2 M_3) fun r_11 M_9 =>
  bI ((x1 / (M_3.1 205 (tn 0))) + r_11) fun y_12 =>
  bi (f_X12_isBoard y_6 y_12 M_9) fun r_15 M_13 =>
  if (b2i r_15) = 0 then (some ((-1), M_13)) else (bi (f_X12_board y_6 y_12 M_13) fun r_18 M_16 =>
  some (r_18, M_16))))))
def f_X12_lets_b93 (N : Nat) (k2 : Int32 → Mem → Option (Mem)) (v1 : Int32) (M : Mem) : Option (Mem) :=
  k2 (v1 + 1) M
def f_X12_lets_h2 (N : Nat) (k2 : Int32 → Mem → Option (Mem)) (v1 : Int32) (M : Mem) : Option (Mem) :=
  ck 2 2175 (
  if (M.1 205 (tn 2)) ≤ v1 then (some M) else (ck (29 + v1) 2175 (
  ck (11 + v1) 2175 (
  ck (17 + v1) 2175 (
  bi (f_X12_board (M.1 205 (tn (11 + v1))) (M.1 205 (tn (17 + v1))) M) fun r_7 M_5 =>
  bI ((103 + (30 * (M.1 205 (tn (29 + v1))))) + r_7) fun y_8 =>
  ck 10 2175 (
  bi (f_X12_has (M_5.1 205 (tn 10)) v1 M_5) fun r_12 M_10 =>
  if (b2i r_12) = 0 then (f_X12_lets_b93 N k2 v1 M_10) else (ck y_8 2175 (
  ck (23 + v1) 2175 (
  ck y_8 2175 (
  bM (uI M_10 205 (tn y_8) (imin 999 ((M_10.1 205 (tn y_8)) + (M_10.1 205 (tn (23 + v1)))))) fun M_16 =>
  f_X12_lets_b93 N k2 v1 M_16))))))))))
def f_X12_lets (N : Nat) (M : Mem) : Option (Mem) :=
  lp (fun k a m => f_X12_lets_h2 N k a m) N 0 M
def f_X12_drifts_h169 (N : Nat) (k169 : Int32 × Int32 → Mem → Option (Mem)) (v2 : Int32) (v3 : Int32) (M : Mem) : Option (Mem) :=
  bi (f_X12_boards M) fun r_9 M_7 =>
  if r_9 ≤ v3 then (some M_7) else (ck (v2 + v3) 2175 (
  ck (v2 + v3) 2175 (
  bM (uI M_7 205 (tn (v2 + v3)) (imin 999 (M_7.1 205 (tn (v2 + v3))))) fun M_12 =>
  k169 (v2, (v3 + 1)) M_12)))
def f_X12_drifts_b155 (N : Nat) (k40 : Int32 × Int32 → Mem → Option (Mem)) (k51 : Int32 × Int32 × Int32 → Mem → Option (Mem)) (v2 : Int32) (v3 : Int32) (v4 : Int32) (M : Mem) : Option (Mem) :=
  k51 (v2, v3, (v4 + 1)) M
def f_X12_drifts_b121 (N : Nat) (k40 : Int32 × Int32 → Mem → Option (Mem)) (k51 : Int32 × Int32 × Int32 → Mem → Option (Mem)) (v2 : Int32) (v3 : Int32) (v4 : Int32) (v5 : Int32) (s0 : Int32) (M : Mem) : Option (Mem) :=
  ck (v2 + v3) 2175 (
  ck (v2 + v3) 2175 (
  bM (uI M 205 (tn (v2 + v3)) ((M.1 205 (tn (v2 + v3))) - s0)) fun M_20 =>
  if v5 < 0 then (f_X12_drifts_b155 N k40 k51 v2 v3 v4 M_20) else (ck (v2 + v5) 2175 (
  ck (v2 + v5) 2175 (
  bM (uI M_20 205 (tn (v2 + v5)) ((M_20.1 205 (tn (v2 + v5))) + s0)) fun M_23 =>
  f_X12_drifts_b155 N k40 k51 v2 v3 v4 M_23)))))
def f_X12_drifts_h51 (N : Nat) (k40 : Int32 × Int32 → Mem → Option (Mem)) (k51 : Int32 × Int32 × Int32 → Mem → Option (Mem)) (v2 : Int32) (v3 : Int32) (v4 : Int32) (M : Mem) : Option (Mem) :=
  if 4 < v4 then (k40 (v2, (v3 + 1)) M) else (bi (f_X12_beside v3 v4 M) fun r_15 M_13 =>
  ck 6 2175 (
  if (M_13.1 205 (tn 6)) = 0 then (if 0 ≤ r_15 then (ck v3 30 (
  f_X12_drifts_b121 N k40 k51 v2 v3 v4 r_15 ((M_13.1 209 (tn v3)) / 8) M_13)) else (f_X12_drifts_b121 N k40 k51 v2 v3 v4 r_15 0 M_13)) else (ck 6 2175 (
  if v4 = (M_13.1 205 (tn 6)) then (ck v3 30 (
  f_X12_drifts_b121 N k40 k51 v2 v3 v4 r_15 ((M_13.1 209 (tn v3)) / 4) M_13)) else (f_X12_drifts_b121 N k40 k51 v2 v3 v4 r_15 0 M_13)))))
def f_X12_drifts_h40 (N : Nat) (k40 : Int32 × Int32 → Mem → Option (Mem)) (v2 : Int32) (v3 : Int32) (M : Mem) : Option (Mem) :=
  bi (f_X12_boards M) fun r_6 M_4 =>
  if r_6 ≤ v3 then (lp (fun k a m => f_X12_drifts_h169 N k a.1 a.2 m) N (v2, 0) M_4) else (lp (fun k a m => f_X12_drifts_h51 N k40 k a.1 a.2.1 a.2.2 m) N (v2, v3, 1) M_4)
def f_X12_drifts_h10 (N : Nat) (k10 : Int32 × Int32 → Mem → Option (Mem)) (v2 : Int32) (v3 : Int32) (M : Mem) : Option (Mem) :=
  bi (f_X12_boards M) fun r_3 M_1 =>
  if r_3 ≤ v3 then (lp (fun k a m => f_X12_drifts_h40 N k a.1 a.2 m) N (v2, 0) M_1) else (ck (v2 + v3) 2175 (
  ck v3 30 (
  bM (uI M_1 209 (tn v3) (M_1.1 205 (tn (v2 + v3)))) fun M_28 =>
  k10 (v2, (v3 + 1)) M_28)))
def f_X12_drifts (N : Nat) (x1 : Int32) (M : Mem) : Option (Mem) :=
  lp (fun k a m => f_X12_drifts_h10 N k a.1 a.2 m) N ((103 + (30 * x1)), 0) M
def f_X12_goesHour_h16 (N : Nat) (k16 : Int32 → Mem → Option (Mem)) (v1 : Int32) (M : Mem) : Option (Mem) :=
  bi (f_X12_boards M) fun r_9 M_7 =>
  if r_9 ≤ v1 then (ck 9 2175 (
  ck 9 2175 (
  bM (uI M_7 205 (tn 9) ((M_7.1 205 (tn 9)) + 1)) fun M_12 =>
  some M_12))) else (ck (103 + v1) 2175 (
  ck (133 + v1) 2175 (
  ck 7 2175 (
  bI ((imin (M_7.1 205 (tn (103 + v1))) (M_7.1 205 (tn (133 + v1)))) + (M_7.1 205 (tn 7))) fun y_16 =>
  ck (103 + v1) 2175 (
  ck (103 + v1) 2175 (
  bM (uI M_7 205 (tn (103 + v1)) (imax 0 ((M_7.1 205 (tn (103 + v1))) - y_16))) fun M_19 =>
  ck (133 + v1) 2175 (
  ck (133 + v1) 2175 (
  bM (uI M_19 205 (tn (133 + v1)) (imax 0 ((M_19.1 205 (tn (133 + v1))) - y_16))) fun M_22 =>
  k16 (v1 + 1) M_22))))))))
def f_X12_goesHour (N : Nat) (M : Mem) : Option (Mem) :=
  bv (f_X12_lets N M) fun M_1 =>
  bv (f_X12_drifts N 0 M_1) fun M_3 =>
  bv (f_X12_drifts N 1 M_3) fun M_5 =>
  lp (fun k a m => f_X12_goesHour_h16 N k a m) N 0 M_5
def f_X12_hour_h52 (N : Nat) (k52 : Int32 × Int32 → Mem → Option (Int32 × Mem)) (v1 : Int32) (v2 : Int32) (M : Mem) : Option (Int32 × Mem) :=
  if v1 ≤ v2 then (ck 9 2175 (
  some ((M.1 205 (tn 9)), M))) else (bv (f_X12_goesHour N M) fun M_8 =>
  k52 (v1, (v2 + 1)) M_8)
def f_X12_hour (N : Nat) (x1 : Int32) (M : Mem) : Option (Int32 × Mem) :=
  bM (uI M 200 1 0) fun M_1 =>
  bM (uI M_1 200 0 0) fun M_2 =>
  bi (f_X12_isIn (Int32.toInt64 x1) 1 48 M_2) fun r_5 M_3 =>
  if (b2i r_5) = 0 then (bi (f_X12_refuse 5 M_3) fun r_15 M_13 =>
  some (r_15, M_13)) else (ck 9 2175 (
  if ((M_3.1 205 (tn 9)) + x1) ≤ 9999 then (lp (fun k a m => f_X12_hour_h52 N k a.1 a.2 m) N (x1, 0) M_3) else (bi (f_X12_refuse 7 M_3) fun r_12 M_10 =>
  some (r_12, M_10))))
def f_X12_open (x1 : Int32) (x2 : Int32) (M : Mem) : Option (Bool × Mem) :=
  bM (uI M 200 1 0) fun M_1 =>
  bM (uI M_1 200 0 0) fun M_2 =>
  bi (f_X12_isGateAt x1 M_2) fun r_5 M_3 =>
  if (b2i r_5) = 0 then (bi (f_X12_no 2 M_3) fun r_18 M_16 =>
  some (r_18, M_16)) else (ck 10 2175 (
  bi (f_X12_has (M_3.1 205 (tn 10)) x1 M_3) fun r_9 M_7 =>
  if (b2i r_9) = x2 then (bi (f_X12_no 9 M_7) fun r_15 M_13 =>
  some (r_15, M_13)) else (ck 10 2175 (
  ck 10 2175 (
  bM (uI M_7 205 (tn 10) ((M_7.1 205 (tn 10)) ^^^ (1 <<< (x1 &&& 31)))) fun M_12 =>
  some (true, M_12))))))
def f_X12_votesOf_b36 (N : Nat) (k4 : Int32 × Int32 × Int32 → Mem → Option (Int32 × Mem)) (v1 : Int32) (v3 : Int32) (s0 : Int32) (s1 : Int32) (M : Mem) : Option (Int32 × Mem) :=
  k4 (v1, (s1 + s0), (v3 + 1)) M
def f_X12_votesOf_h4 (N : Nat) (k4 : Int32 × Int32 × Int32 → Mem → Option (Int32 × Mem)) (v1 : Int32) (v2 : Int32) (v3 : Int32) (M : Mem) : Option (Int32 × Mem) :=
  ck 3 2175 (
  if (M.1 205 (tn 3)) ≤ v3 then (some (v2, M)) else (bi (f_X12_has v1 v3 M) fun r_4 M_2 =>
  if (b2i r_4) = 0 then (f_X12_votesOf_b36 N k4 v1 v3 0 v2 M_2) else (ck (41 + v3) 2175 (
  f_X12_votesOf_b36 N k4 v1 v3 (M_2.1 205 (tn (41 + v3))) v2 M_2))))
def f_X12_votesOf (N : Nat) (x1 : Int32) (M : Mem) : Option (Int32 × Mem) :=
  lp (fun k a m => f_X12_votesOf_h4 N k a.1 a.2.1 a.2.2 m) N (x1, 0, 0) M
def f_X12_can (N : Nat) (x1 : Int32) (x2 : Int32) (M : Mem) : Option (Bool × Mem) :=
  bi (f_X12_votesOf N x2 M) fun r_3 M_1 =>
  ck (35 + x1) 2175 (
  if r_3 < (M_1.1 205 (tn (35 + x1))) then (some (false, M_1)) else (some (true, M_1)))
def f_X12_allHolders (M : Mem) : Option (Int32 × Mem) :=
  ck 3 2175 (
  some (((1 <<< ((M.1 205 (tn 3)) &&& 31)) - 1), M))
def f_X12_isSet (x1 : Int32) (M : Mem) : Option (Bool × Mem) :=
  bi (f_X12_allHolders M) fun r_3 M_1 =>
  bi (f_X12_isIn (Int32.toInt64 x1) 0 (Int32.toInt64 r_3) M_1) fun r_6 M_4 =>
  some (r_6, M_4)
def f_X12_openBy (N : Nat) (x1 : Int32) (x2 : Int32) (M : Mem) : Option (Bool × Mem) :=
  bM (uI M 200 1 0) fun M_1 =>
  bM (uI M_1 200 0 0) fun M_2 =>
  bi (f_X12_isGateAt x1 M_2) fun r_5 M_3 =>
  if (b2i r_5) = 0 then (bi (f_X12_no 2 M_3) fun r_30 M_28 =>
  some (r_30, M_28)) else (bi (f_X12_isSet x2 M_3) fun r_8 M_6 =>
  if (b2i r_8) = 0 then (bi (f_X12_no 5 M_6) fun r_27 M_25 =>
  some (r_27, M_25)) else (ck 10 2175 (
  bi (f_X12_has (M_6.1 205 (tn 10)) x1 M_6) fun r_12 M_10 =>
  if (b2i r_12) = 0 then (bi (f_X12_can N x1 x2 M_10) fun r_18 M_16 =>
  if (b2i r_18) = 0 then (bi (f_X12_no 9 M_16) fun r_24 M_22 =>
  some (r_24, M_22)) else (ck 10 2175 (
  ck 10 2175 (
  bM (uI M_16 205 (tn 10) ((M_16.1 205 (tn 10)) ||| (1 <<< (x1 &&& 31)))) fun M_21 =>
  some (true, M_21))))) else (bi (f_X12_no 9 M_10) fun r_15 M_13 =>
  some (r_15, M_13)))))
def f_X12_wind (x1 : Int32) (M : Mem) : Option (Bool × Mem) :=
  bM (uI M 200 1 0) fun M_1 =>
  bM (uI M_1 200 0 0) fun M_2 =>
  bi (f_X12_isIn (Int32.toInt64 x1) 0 4 M_2) fun r_5 M_3 =>
  if (b2i r_5) = 0 then (bi (f_X12_no 5 M_3) fun r_14 M_12 =>
  some (r_14, M_12)) else (ck 6 2175 (
  if (M_3.1 205 (tn 6)) = x1 then (bi (f_X12_no 9 M_3) fun r_11 M_9 =>
  some (r_11, M_9)) else (ck 6 2175 (
  bM (uI M_3 205 (tn 6) x1) fun M_8 =>
  some (true, M_8)))))
def f_X12_sweep (x1 : Int32) (x2 : Int32) (M : Mem) : Option (Int32 × Mem) :=
  bM (uI M 200 1 0) fun M_1 =>
  bM (uI M_1 200 0 0) fun M_2 =>
  bi (f_X12_isBoard x1 x2 M_2) fun r_5 M_3 =>
  if (b2i r_5) = 0 then (bi (f_X12_refuse 2 M_3) fun r_18 M_16 =>
  some (r_18, M_16)) else (bi (f_X12_board x1 x2 M_3) fun r_8 M_6 =>
  bi (f_X12_fogOf r_8 M_6) fun r_11 M_9 =>
  ck (103 + r_8) 2175 (
  bM (uI M_9 205 (tn (103 + r_8)) 0) fun M_13 =>
  ck (133 + r_8) 2175 (
  bM (uI M_13 205 (tn (133 + r_8)) 0) fun M_15 =>
  some (r_11, M_15))))
def f_X12_breathe (x1 : Int32) (x2 : Int32) (x3 : Int32) (x4 : Int32) (M : Mem) : Option (Int32 × Mem) :=
  bM (uI M 200 1 0) fun M_1 =>
  bM (uI M_1 200 0 0) fun M_2 =>
  bi (f_X12_isBoard x1 x2 M_2) fun r_5 M_3 =>
  if (b2i r_5) = 0 then (bi (f_X12_refuse 2 M_3) fun r_27 M_25 =>
  some (r_27, M_25)) else (bi (f_X12_isIn (Int32.toInt64 x3) 0 1 M_3) fun r_8 M_6 =>
  if (b2i r_8) = 0 then (bi (f_X12_refuse 5 M_6) fun r_11 M_9 =>
  some (r_11, M_9)) else (bi (f_X12_isIn (Int32.toInt64 x4) 1 999 M_6) fun r_14 M_12 =>
  if (b2i r_14) = 0 then (bi (f_X12_refuse 5 M_12) fun r_24 M_22 =>
  some (r_24, M_22)) else (bi (f_X12_board x1 x2 M_12) fun r_17 M_15 =>
  ck ((103 + (30 * x3)) + r_17) 2175 (
  ck ((103 + (30 * x3)) + r_17) 2175 (
  bM (uI M_15 205 (tn ((103 + (30 * x3)) + r_17)) (imin 999 ((M_15.1 205 (tn ((103 + (30 * x3)) + r_17))) + x4))) fun M_20 =>
  ck ((103 + (30 * x3)) + r_17) 2175 (
  some ((M_20.1 205 (tn ((103 + (30 * x3)) + r_17))), M_20)))))))
def f_X12_tow_b66 (v1 : Int32) (v2 : Int32) (v3 : Int32) (M : Mem) : Option (Bool × Mem) :=
  ck (83 + v1) 2175 (
  bM (uI M 205 (tn (83 + v1)) v2) fun M_14 =>
  ck (87 + v1) 2175 (
  bM (uI M_14 205 (tn (87 + v1)) v3) fun M_16 =>
  some (true, M_16)))
def f_X12_tow (x1 : Int32) (x2 : Int32) (x3 : Int32) (M : Mem) : Option (Bool × Mem) :=
  bM (uI M 200 1 0) fun M_1 =>
  bM (uI M_1 200 0 0) fun M_2 =>
  bi (f_X12_isShipAt x1 M_2) fun r_5 M_3 =>
  if (b2i r_5) = 0 then (bi (f_X12_no 2 M_3) fun r_8 M_6 =>
  some (r_8, M_6)) else (bi (f_X12_isBoard x2 x3 M_3) fun r_11 M_9 =>
  if (b2i r_11) = 0 then (bi (f_X12_no 2 M_9) fun r_23 M_21 =>
  some (r_23, M_21)) else (ck (83 + x1) 2175 (
  if (M_9.1 205 (tn (83 + x1))) = x2 then (ck (87 + x1) 2175 (
  if (M_9.1 205 (tn (87 + x1))) = x3 then (bi (f_X12_no 9 M_9) fun r_20 M_18 =>
  some (r_20, M_18)) else (f_X12_tow_b66 x1 x2 x3 M_9))) else (f_X12_tow_b66 x1 x2 x3 M_9))))
def f_X12_keeps_h2 (N : Nat) (k2 : Int32 → Mem → Option (Mem)) (v1 : Int32) (M : Mem) : Option (Mem) :=
  if 163 ≤ v1 then (some M) else (ck v1 2175 (
  ck v1 163 (
  bM (uI M 206 (tn v1) (M.1 205 (tn v1))) fun M_3 =>
  k2 (v1 + 1) M_3)))
def f_X12_keeps (N : Nat) (M : Mem) : Option (Mem) :=
  lp (fun k a m => f_X12_keeps_h2 N k a m) N 0 M
def f_X12_gives_h2 (N : Nat) (k2 : Int32 → Mem → Option (Mem)) (v1 : Int32) (M : Mem) : Option (Mem) :=
  if 163 ≤ v1 then (some M) else (ck v1 163 (
  ck v1 2175 (
  bM (uI M 205 (tn v1) (M.1 206 (tn v1))) fun M_3 =>
  k2 (v1 + 1) M_3)))
def f_X12_gives (N : Nat) (M : Mem) : Option (Mem) :=
  lp (fun k a m => f_X12_gives_h2 N k a m) N 0 M
def f_X12_later_h50 (N : Nat) (k50 : Int32 × Int32 × Int32 × Int32 → Mem → Option (Int32 × Mem)) (v1 : Int32) (v2 : Int32) (v3 : Int32) (v4 : Int32) (M : Mem) : Option (Int32 × Mem) :=
  if v3 ≤ v4 then (bi (f_X12_board v1 v2 M) fun r_13 M_11 =>
  bi (f_X12_fogOf r_13 M_11) fun r_16 M_14 =>
  bv (f_X12_gives N M_14) fun M_17 =>
  some (r_16, M_17)) else (bv (f_X12_goesHour N M) fun M_19 =>
  k50 (v1, v2, v3, (v4 + 1)) M_19)
def f_X12_later (N : Nat) (x1 : Int32) (x2 : Int32) (x3 : Int32) (M : Mem) : Option (Int32 × Mem) :=
  bM (uI M 200 1 0) fun M_1 =>
  bM (uI M_1 200 0 0) fun M_2 =>
  bi (f_X12_isBoard x1 x2 M_2) fun r_5 M_3 =>
  if (b2i r_5) = 0 then (bi (f_X12_refuse 2 M_3) fun r_26 M_24 =>
  some (r_26, M_24)) else (bi (f_X12_isIn (Int32.toInt64 x3) 0 48 M_3) fun r_8 M_6 =>
  if (b2i r_8) = 0 then (bi (f_X12_refuse 5 M_6) fun r_23 M_21 =>
  some (r_23, M_21)) else (bv (f_X12_keeps N M_6) fun M_9 =>
  lp (fun k a m => f_X12_later_h50 N k a.1 a.2.1 a.2.2.1 a.2.2.2 m) N (x1, x2, x3, 0) M_9))
def f_X12_hourWith_b31 (N : Nat) (v3 : Int32) (M : Mem) : Option (Int32 × Mem) :=
  bv (f_X12_gives N M) fun M_3 =>
  if v3 ≤ 48 then (some (v3, M_3)) else (some ((-1), M_3))
def f_X12_hourWith_h6 (N : Nat) (k6 : Int32 × Int32 × Int32 → Mem → Option (Int32 × Mem)) (v1 : Int32) (v2 : Int32) (v3 : Int32) (M : Mem) : Option (Int32 × Mem) :=
  if 48 < v3 then (f_X12_hourWith_b31 N v3 M) else (bi (f_X12_isFoggy v1 M) fun r_7 M_5 =>
  if (b2i r_7) = v2 then (f_X12_hourWith_b31 N v3 M_5) else (bv (f_X12_goesHour N M_5) fun M_8 =>
  k6 (v1, v2, (v3 + 1)) M_8))
def f_X12_hourWith (N : Nat) (x1 : Int32) (x2 : Int32) (M : Mem) : Option (Int32 × Mem) :=
  bv (f_X12_keeps N M) fun M_1 =>
  lp (fun k a m => f_X12_hourWith_h6 N k a.1 a.2.1 a.2.2 m) N (x1, x2, 0) M_1
def f_X12_lifts (N : Nat) (x1 : Int32) (x2 : Int32) (M : Mem) : Option (Int32 × Mem) :=
  bM (uI M 200 1 0) fun M_1 =>
  bM (uI M_1 200 0 0) fun M_2 =>
  bi (f_X12_isBoard x1 x2 M_2) fun r_5 M_3 =>
  if (b2i r_5) = 0 then (bi (f_X12_refuse 2 M_3) fun r_17 M_15 =>
  some (r_17, M_15)) else (bi (f_X12_board x1 x2 M_3) fun r_8 M_6 =>
  bi (f_X12_hourWith N r_8 0 M_6) fun r_11 M_9 =>
  if 0 ≤ r_11 then (some (r_11, M_9)) else (bi (f_X12_refuse 8 M_9) fun r_14 M_12 =>
  some (r_14, M_12)))
def f_X12_comes (N : Nat) (x1 : Int32) (x2 : Int32) (M : Mem) : Option (Int32 × Mem) :=
  bM (uI M 200 1 0) fun M_1 =>
  bM (uI M_1 200 0 0) fun M_2 =>
  bi (f_X12_isBoard x1 x2 M_2) fun r_5 M_3 =>
  if (b2i r_5) = 0 then (bi (f_X12_refuse 2 M_3) fun r_17 M_15 =>
  some (r_17, M_15)) else (bi (f_X12_board x1 x2 M_3) fun r_8 M_6 =>
  bi (f_X12_hourWith N r_8 1 M_6) fun r_11 M_9 =>
  if 0 ≤ r_11 then (some (r_11, M_9)) else (bi (f_X12_refuse 8 M_9) fun r_14 M_12 =>
  some (r_14, M_12)))
def f_X12_foggyIn_h34 (N : Nat) (k34 : Int32 × Int32 → Mem → Option (Int32 × Mem)) (v1 : Int32) (v2 : Int32) (M : Mem) : Option (Int32 × Mem) :=
  if v1 ≤ v2 then (bi (f_X12_foggyMany N M) fun r_10 M_8 =>
  bv (f_X12_gives N M_8) fun M_11 =>
  some (r_10, M_11)) else (bv (f_X12_goesHour N M) fun M_13 =>
  k34 (v1, (v2 + 1)) M_13)
def f_X12_foggyIn (N : Nat) (x1 : Int32) (M : Mem) : Option (Int32 × Mem) :=
  bM (uI M 200 1 0) fun M_1 =>
  bM (uI M_1 200 0 0) fun M_2 =>
  bi (f_X12_isIn (Int32.toInt64 x1) 0 48 M_2) fun r_5 M_3 =>
  if (b2i r_5) = 0 then (bi (f_X12_refuse 5 M_3) fun r_17 M_15 =>
  some (r_17, M_15)) else (bv (f_X12_keeps N M_3) fun M_6 =>
  lp (fun k a m => f_X12_foggyIn_h34 N k a.1 a.2 m) N (x1, 0) M_6)
def f_X12_thickest_b68 (N : Nat) (k39 : Int32 × Int32 × Int32 × Int32 → Mem → Option (Int32 × Mem)) (v1 : Int32) (v2 : Int32) (v3 : Int32) (v4 : Int32) (M : Mem) : Option (Int32 × Mem) :=
  k39 (v1, v2, v3, (v4 + 1)) M
def f_X12_thickest_h39 (N : Nat) (k39 : Int32 × Int32 × Int32 × Int32 → Mem → Option (Int32 × Mem)) (v1 : Int32) (v2 : Int32) (v3 : Int32) (v4 : Int32) (M : Mem) : Option (Int32 × Mem) :=
  if v1 < v4 then (bv (f_X12_gives N M) fun M_8 =>
  some (v2, M_8)) else (bv (f_X12_goesHour N M) fun M_10 =>
  bi (f_X12_foggyMany N M_10) fun r_14 M_12 =>
  if v3 < r_14 then (bi (f_X12_foggyMany N M_12) fun r_17 M_15 =>
  f_X12_thickest_b68 N k39 v1 v4 r_17 v4 M_15) else (f_X12_thickest_b68 N k39 v1 v2 v3 v4 M_12))
def f_X12_thickest (N : Nat) (x1 : Int32) (M : Mem) : Option (Int32 × Mem) :=
  bM (uI M 200 1 0) fun M_1 =>
  bM (uI M_1 200 0 0) fun M_2 =>
  bi (f_X12_isIn (Int32.toInt64 x1) 1 48 M_2) fun r_5 M_3 =>
  if (b2i r_5) = 0 then (bi (f_X12_refuse 5 M_3) fun r_20 M_18 =>
  some (r_20, M_18)) else (bv (f_X12_keeps N M_3) fun M_6 =>
  lp (fun k a m => f_X12_thickest_h39 N k a.1 a.2.1 a.2.2.1 a.2.2.2 m) N (x1, 0, (-1), 1) M_6)
def f_X12_failing_b102 (N : Nat) (k4 : Int32 × Int32 × Int32 → Mem → Option (Int32 × Mem)) (v1 : Int32) (v2 : Int32) (v3 : Int32) (M : Mem) : Option (Int32 × Mem) :=
  k4 (v1, v2, (v3 + 1)) M
def f_X12_failing_b63 (N : Nat) (k4 : Int32 × Int32 × Int32 → Mem → Option (Int32 × Mem)) (v1 : Int32) (v2 : Int32) (v3 : Int32) (s0 : Int32) (M : Mem) : Option (Int32 × Mem) :=
  ck (47 + v3) 2175 (
  ck (53 + v3) 2175 (
  bi (f_X12_board (M.1 205 (tn (47 + v3))) (M.1 205 (tn (53 + v3))) M) fun r_12 M_10 =>
  bi (f_X12_isFoggy r_12 M_10) fun r_15 M_13 =>
  if (b2i r_15) = s0 then (bI (v2 ||| (1 <<< (v3 &&& 31))) fun y_16 =>
  f_X12_failing_b102 N k4 v1 y_16 v3 M_13) else (f_X12_failing_b102 N k4 v1 v2 v3 M_13)))
def f_X12_failing_h4 (N : Nat) (k4 : Int32 × Int32 × Int32 → Mem → Option (Int32 × Mem)) (v1 : Int32) (v2 : Int32) (v3 : Int32) (M : Mem) : Option (Int32 × Mem) :=
  ck 4 2175 (
  if (M.1 205 (tn 4)) ≤ v3 then (some (v2, M)) else (ck (59 + v3) 2175 (
  ck (65 + v3) 2175 (
  bi (f_X12_isIn (Int32.toInt64 v1) (Int32.toInt64 (M.1 205 (tn (59 + v3)))) (Int32.toInt64 (M.1 205 (tn (65 + v3)))) M) fun r_6 M_4 =>
  if (b2i r_6) = 0 then (f_X12_failing_b102 N k4 v1 v2 v3 M_4) else (ck (77 + v3) 2175 (
  if (M_4.1 205 (tn (77 + v3))) = 1 then (f_X12_failing_b63 N k4 v1 v2 v3 1 M_4) else (f_X12_failing_b63 N k4 v1 v2 v3 0 M_4)))))))
def f_X12_failing (N : Nat) (x1 : Int32) (M : Mem) : Option (Int32 × Mem) :=
  lp (fun k a m => f_X12_failing_h4 N k a.1 a.2.1 a.2.2 m) N (x1, 0, 0) M
def f_X12_fails_h5 (N : Nat) (k5 : Int32 × Int32 × Int32 → Mem → Option (Int32 × Mem)) (v2 : Int32) (v3 : Int32) (v4 : Int32) (M : Mem) : Option (Int32 × Mem) :=
  if v2 < v4 then (some (v3, M)) else (bv (f_X12_goesHour N M) fun M_1 =>
  bi (f_X12_failing N v4 M_1) fun r_5 M_3 =>
  k5 (v2, (v3 ||| r_5), (v4 + 1)) M_3)
def f_X12_fails (N : Nat) (x1 : Int32) (x2 : Int32) (M : Mem) : Option (Int32 × Mem) :=
  lp (fun k a m => f_X12_fails_h5 N k a.1 a.2.1 a.2.2 m) N (x2, 0, x1) M
def f_X12_servedNow (N : Nat) (M : Mem) : Option (Int32 × Mem) :=
  bv (f_X12_keeps N M) fun M_1 =>
  bi (f_X12_fails N 1 24 M_1) fun r_5 M_3 =>
  bv (f_X12_gives N M_3) fun M_6 =>
  ck 4 2175 (
  some ((((1 <<< ((M_6.1 205 (tn 4)) &&& 31)) - 1) &&& (r_5 ^^^ (-1))), M_6))
def f_X12_paidFor_b36 (N : Nat) (k4 : Int32 × Int32 × Int32 → Mem → Option (Int32 × Mem)) (v1 : Int32) (v3 : Int32) (s0 : Int32) (s1 : Int32) (M : Mem) : Option (Int32 × Mem) :=
  k4 (v1, (s1 + s0), (v3 + 1)) M
def f_X12_paidFor_h4 (N : Nat) (k4 : Int32 × Int32 × Int32 → Mem → Option (Int32 × Mem)) (v1 : Int32) (v2 : Int32) (v3 : Int32) (M : Mem) : Option (Int32 × Mem) :=
  ck 4 2175 (
  if (M.1 205 (tn 4)) ≤ v3 then (some (v2, M)) else (bi (f_X12_has v1 v3 M) fun r_4 M_2 =>
  if (b2i r_4) = 0 then (f_X12_paidFor_b36 N k4 v1 v3 0 v2 M_2) else (ck (71 + v3) 2175 (
  f_X12_paidFor_b36 N k4 v1 v3 (M_2.1 205 (tn (71 + v3))) v2 M_2))))
def f_X12_paidFor (N : Nat) (x1 : Int32) (M : Mem) : Option (Int32 × Mem) :=
  lp (fun k a m => f_X12_paidFor_h4 N k a.1 a.2.1 a.2.2 m) N (x1, 0, 0) M
def f_X12_served (N : Nat) (M : Mem) : Option (Int32 × Mem) :=
  bM (uI M 200 1 0) fun M_1 =>
  bM (uI M_1 200 0 0) fun M_2 =>
  bi (f_X12_servedNow N M_2) fun r_5 M_3 =>
  some (r_5, M_3)
def f_X12_paid (N : Nat) (M : Mem) : Option (Int32 × Mem) :=
  bM (uI M 200 1 0) fun M_1 =>
  bM (uI M_1 200 0 0) fun M_2 =>
  bi (f_X12_servedNow N M_2) fun r_5 M_3 =>
  bi (f_X12_paidFor N r_5 M_3) fun r_8 M_6 =>
  some (r_8, M_6)
def f_X12_plans_b87 (N : Nat) (k15 : Int32 × Int32 → Mem → Option (Mem)) (v1 : Int32) (v2 : Int32) (M : Mem) : Option (Mem) :=
  k15 (v1, (v2 + 1)) M
def f_X12_plans_b77 (N : Nat) (k15 : Int32 × Int32 → Mem → Option (Mem)) (v1 : Int32) (v2 : Int32) (v3 : Int32) (M : Mem) : Option (Mem) :=
  bM (uI M 200 28 v3) fun M_14 =>
  bM (uI M_14 200 29 v2) fun M_15 =>
  f_X12_plans_b87 N k15 v1 v2 M_15
def f_X12_plans_h15 (N : Nat) (k15 : Int32 × Int32 → Mem → Option (Mem)) (v1 : Int32) (v2 : Int32) (M : Mem) : Option (Mem) :=
  ck 2 2175 (
  if (1 <<< ((M.1 205 (tn 2)) &&& 31)) ≤ v2 then (ck 10 2175 (
  bM (uI M 205 (tn 10) v1) fun M_5 =>
  some M_5)) else (ck 10 2175 (
  bM (uI M 205 (tn 10) v2) fun M_7 =>
  bi (f_X12_servedNow N M_7) fun r_10 M_8 =>
  bi (f_X12_paidFor N r_10 M_8) fun r_13 M_11 =>
  if r_13 < (M_11.1 200 28) then (f_X12_plans_b87 N k15 v1 v2 M_11) else (if r_13 = (M_11.1 200 28) then (bi (f_X12_sizeOf N v2 M_11) fun r_18 M_16 =>
  bi (f_X12_sizeOf N (M_16.1 200 29) M_16) fun r_21 M_19 =>
  if r_18 < r_21 then (f_X12_plans_b77 N k15 v1 v2 r_13 M_19) else (f_X12_plans_b87 N k15 v1 v2 M_19)) else (f_X12_plans_b77 N k15 v1 v2 r_13 M_11)))))
def f_X12_plans (N : Nat) (M : Mem) : Option (Mem) :=
  ck 10 2175 (
  bM (uI M 200 28 (-1)) fun M_2 =>
  lp (fun k a m => f_X12_plans_h15 N k a.1 a.2 m) N ((M.1 205 (tn 10)), 0) M_2)
def f_X12_plan (N : Nat) (M : Mem) : Option (Int32 × Mem) :=
  bM (uI M 200 1 0) fun M_1 =>
  bM (uI M_1 200 0 0) fun M_2 =>
  bv (f_X12_plans N M_2) fun M_3 =>
  some ((M_3.1 200 28), M_3)
def f_X12_planSet (N : Nat) (M : Mem) : Option (Int32 × Mem) :=
  bM (uI M 200 1 0) fun M_1 =>
  bM (uI M_1 200 0 0) fun M_2 =>
  bv (f_X12_plans N M_2) fun M_3 =>
  some ((M_3.1 200 29), M_3)
def f_X12_turns_h258 (N : Nat) (k258 : Int32 → Mem → Option (Mem)) (v3 : Int32) (M : Mem) : Option (Mem) :=
  if 163 ≤ v3 then (some M) else (ck v3 163 (
  ck v3 2175 (
  bM (uI M 205 (tn v3) (M.1 207 (tn v3))) fun M_7 =>
  k258 (v3 + 1) M_7)))
def f_X12_turns_b244 (N : Nat) (k45 : Int32 × Int32 × Int32 → Mem → Option (Mem)) (k138 : Int32 × Int32 × Int32 × Int32 × Int32 → Mem → Option (Mem)) (v1 : Int32) (v2 : Int32) (v3 : Int32) (v4 : Int32) (v5 : Int32) (M : Mem) : Option (Mem) :=
  k138 (v1, v2, v3, v4, (v5 + 1)) M
def f_X12_turns_h154 (N : Nat) (k45 : Int32 × Int32 × Int32 → Mem → Option (Mem)) (k138 : Int32 × Int32 × Int32 × Int32 × Int32 → Mem → Option (Mem)) (k154 : Int32 × Int32 × Int32 × Int32 × Int32 × Int32 → Mem → Option (Mem)) (v1 : Int32) (v2 : Int32) (v3 : Int32) (v4 : Int32) (v5 : Int32) (v6 : Int32) (M : Mem) : Option (Mem) :=
  if 163 ≤ v6 then (ck 10 2175 (
  bM (uI M 205 (tn 10) v5) fun M_15 =>
  bi (f_X12_fails N (v1 + 1) 24 M_15) fun r_18 M_16 =>
  bi (f_X12_paidFor N ((v2 &&& (v4 ^^^ (-1))) &&& (r_18 ^^^ (-1))) M_16) fun r_21 M_19 =>
  if (M_19.1 200 28) < r_21 then (bM (uI M_19 200 28 r_21) fun M_22 =>
  bM (uI M_22 200 29 v3) fun M_23 =>
  bM (uI M_23 200 30 v5) fun M_24 =>
  f_X12_turns_b244 N k45 k138 v1 v2 v3 v4 v5 M_24) else (f_X12_turns_b244 N k45 k138 v1 v2 v3 v4 v5 M_19))) else (ck v6 163 (
  ck v6 2175 (
  bM (uI M 205 (tn v6) (M.1 210 (tn v6))) fun M_27 =>
  k154 (v1, v2, v3, v4, v5, (v6 + 1)) M_27)))
def f_X12_turns_h138 (N : Nat) (k45 : Int32 × Int32 × Int32 → Mem → Option (Mem)) (k138 : Int32 × Int32 × Int32 × Int32 × Int32 → Mem → Option (Mem)) (v1 : Int32) (v2 : Int32) (v3 : Int32) (v4 : Int32) (v5 : Int32) (M : Mem) : Option (Mem) :=
  ck 2 2175 (
  if (1 <<< ((M.1 205 (tn 2)) &&& 31)) ≤ v5 then (k45 (v1, v2, (v3 + 1)) M) else (lp (fun k a m => f_X12_turns_h154 N k45 k138 k a.1 a.2.1 a.2.2.1 a.2.2.2.1 a.2.2.2.2.1 a.2.2.2.2.2 m) N (v1, v2, v3, v4, v5, 0) M))
def f_X12_turns_h107 (N : Nat) (k45 : Int32 × Int32 × Int32 → Mem → Option (Mem)) (k107 : Int32 × Int32 × Int32 × Int32 × Int32 → Mem → Option (Mem)) (v1 : Int32) (v2 : Int32) (v3 : Int32) (v4 : Int32) (v5 : Int32) (M : Mem) : Option (Mem) :=
  if 163 ≤ v5 then (lp (fun k a m => f_X12_turns_h138 N k45 k a.1 a.2.1 a.2.2.1 a.2.2.2.1 a.2.2.2.2 m) N (v1, v2, v3, v4, 0) M) else (ck v5 2175 (
  ck v5 163 (
  bM (uI M 210 (tn v5) (M.1 205 (tn v5))) fun M_30 =>
  k107 (v1, v2, v3, v4, (v5 + 1)) M_30)))
def f_X12_turns_h60 (N : Nat) (k45 : Int32 × Int32 × Int32 → Mem → Option (Mem)) (k60 : Int32 × Int32 × Int32 × Int32 → Mem → Option (Mem)) (v1 : Int32) (v2 : Int32) (v3 : Int32) (v4 : Int32) (M : Mem) : Option (Mem) :=
  if 163 ≤ v4 then (ck 10 2175 (
  bM (uI M 205 (tn 10) v3) fun M_9 =>
  bi (f_X12_fails N 1 v1 M_9) fun r_12 M_10 =>
  lp (fun k a m => f_X12_turns_h107 N k45 k a.1 a.2.1 a.2.2.1 a.2.2.2.1 a.2.2.2.2 m) N (v1, v2, v3, r_12, 0) M_10)) else (ck v4 163 (
  ck v4 2175 (
  bM (uI M 205 (tn v4) (M.1 207 (tn v4))) fun M_33 =>
  k60 (v1, v2, v3, (v4 + 1)) M_33)))
def f_X12_turns_h45 (N : Nat) (k45 : Int32 × Int32 × Int32 → Mem → Option (Mem)) (v1 : Int32) (v2 : Int32) (v3 : Int32) (M : Mem) : Option (Mem) :=
  ck 2 2175 (
  if (1 <<< ((M.1 205 (tn 2)) &&& 31)) ≤ v3 then (lp (fun k a m => f_X12_turns_h258 N k a m) N 0 M) else (lp (fun k a m => f_X12_turns_h60 N k45 k a.1 a.2.1 a.2.2.1 a.2.2.2 m) N (v1, v2, v3, 0) M))
def f_X12_turns_h18 (N : Nat) (k18 : Int32 × Int32 × Int32 → Mem → Option (Mem)) (v1 : Int32) (v2 : Int32) (v3 : Int32) (M : Mem) : Option (Mem) :=
  if 163 ≤ v3 then (lp (fun k a m => f_X12_turns_h45 N k a.1 a.2.1 a.2.2 m) N (v1, v2, 0) M) else (ck v3 2175 (
  ck v3 163 (
  bM (uI M 207 (tn v3) (M.1 205 (tn v3))) fun M_36 =>
  k18 (v1, v2, (v3 + 1)) M_36)))
def f_X12_turns (N : Nat) (x1 : Int32) (M : Mem) : Option (Mem) :=
  ck 4 2175 (
  bI ((1 <<< ((M.1 205 (tn 4)) &&& 31)) - 1) fun y_2 =>
  bM (uI M 200 28 (-1)) fun M_3 =>
  lp (fun k a m => f_X12_turns_h18 N k a.1 a.2.1 a.2.2 m) N (x1, y_2, 0) M_3)
def f_X12_turn (N : Nat) (x1 : Int32) (M : Mem) : Option (Int32 × Mem) :=
  bM (uI M 200 1 0) fun M_1 =>
  bM (uI M_1 200 0 0) fun M_2 =>
  bi (f_X12_isIn (Int32.toInt64 x1) 1 23 M_2) fun r_5 M_3 =>
  if (b2i r_5) = 0 then (bi (f_X12_refuse 5 M_3) fun r_10 M_8 =>
  some (r_10, M_8)) else (bv (f_X12_turns N x1 M_3) fun M_6 =>
  some ((M_6.1 200 28), M_6))
def f_X12_turnSet (N : Nat) (x1 : Int32) (x2 : Int32) (M : Mem) : Option (Int32 × Mem) :=
  bM (uI M 200 1 0) fun M_1 =>
  bM (uI M_1 200 0 0) fun M_2 =>
  bi (f_X12_isIn (Int32.toInt64 x1) 1 23 M_2) fun r_5 M_3 =>
  if (b2i r_5) = 0 then (bi (f_X12_refuse 5 M_3) fun r_8 M_6 =>
  some (r_8, M_6)) else (bi (f_X12_isIn (Int32.toInt64 x2) 0 1 M_3) fun r_11 M_9 =>
  if (b2i r_11) = 0 then (bi (f_X12_refuse 5 M_9) fun r_16 M_14 =>
  some (r_16, M_14)) else (bv (f_X12_turns N x1 M_9) fun M_12 =>
  if x2 = 0 then (some ((M_12.1 200 29), M_12)) else (some ((M_12.1 200 30), M_12))))
def f_X12_costOf_b34 (s0 : Int32) (s1 : Int32) (M : Mem) : Option (Int32 × Mem) :=
  if s1 = s0 then (some (1, M)) else (some ((-1), M))
def f_X12_costOf (x1 : Int32) (x2 : Int32) (M : Mem) : Option (Int32 × Mem) :=
  if x2 = 2 then (bi (f_X12_isFoggy x1 M) fun r_6 M_4 =>
  if (b2i r_6) = 0 then (some (1, M_4)) else (some (3, M_4))) else (bi (f_X12_isFoggy x1 M) fun r_3 M_1 =>
  if x2 = 1 then (f_X12_costOf_b34 1 (b2i r_3) M_1) else (f_X12_costOf_b34 0 (b2i r_3) M_1))
def f_X12_way_b227 (N : Nat) (k95 : Int32 × Int32 × Int32 × Int32 → Mem → Option (Int32 × Mem)) (k106 : Int32 × Int32 × Int32 × Int32 × Int32 → Mem → Option (Int32 × Mem)) (v3 : Int32) (v4 : Int32) (v5 : Int32) (v6 : Int32) (v7 : Int32) (M : Mem) : Option (Int32 × Mem) :=
  k106 (v3, v4, v5, v6, (v7 + 1)) M
def f_X12_way_b221 (N : Nat) (k95 : Int32 × Int32 × Int32 × Int32 → Mem → Option (Int32 × Mem)) (k106 : Int32 × Int32 × Int32 × Int32 × Int32 → Mem → Option (Int32 × Mem)) (k118 : Int32 × Int32 × Int32 × Int32 × Int32 × Int32 → Mem → Option (Int32 × Mem)) (v3 : Int32) (v4 : Int32) (v5 : Int32) (v6 : Int32) (v7 : Int32) (v8 : Int32) (M : Mem) : Option (Int32 × Mem) :=
  k118 (v3, v4, v5, v6, v7, (v8 + 1)) M
def f_X12_way_b201 (N : Nat) (k95 : Int32 × Int32 × Int32 × Int32 → Mem → Option (Int32 × Mem)) (k106 : Int32 × Int32 × Int32 × Int32 × Int32 → Mem → Option (Int32 × Mem)) (k118 : Int32 × Int32 × Int32 × Int32 × Int32 × Int32 → Mem → Option (Int32 × Mem)) (v3 : Int32) (v4 : Int32) (v5 : Int32) (v7 : Int32) (v8 : Int32) (v9 : Int32) (v10 : Int32) (M : Mem) : Option (Int32 × Mem) :=
  ck v7 30 (
  ck v9 30 (
  bM (uI M 211 (tn v9) ((M.1 211 (tn v7)) + v10)) fun M_43 =>
  f_X12_way_b221 N k95 k106 k118 v3 v4 v5 1 v7 v8 M_43))
def f_X12_way_b161 (N : Nat) (k95 : Int32 × Int32 × Int32 × Int32 → Mem → Option (Int32 × Mem)) (k106 : Int32 × Int32 × Int32 × Int32 × Int32 → Mem → Option (Int32 × Mem)) (k118 : Int32 × Int32 × Int32 × Int32 × Int32 × Int32 → Mem → Option (Int32 × Mem)) (v3 : Int32) (v4 : Int32) (v5 : Int32) (v6 : Int32) (v7 : Int32) (v8 : Int32) (v9 : Int32) (s0 : Int32) (M : Mem) : Option (Int32 × Mem) :=
  if s0 < 0 then (f_X12_way_b221 N k95 k106 k118 v3 v4 v5 v6 v7 v8 M) else (ck v9 30 (
  if (M.1 211 (tn v9)) < 0 then (f_X12_way_b201 N k95 k106 k118 v3 v4 v5 v7 v8 v9 s0 M) else (ck v9 30 (
  ck v7 30 (
  if ((M.1 211 (tn v7)) + s0) < (M.1 211 (tn v9)) then (f_X12_way_b201 N k95 k106 k118 v3 v4 v5 v7 v8 v9 s0 M) else (f_X12_way_b221 N k95 k106 k118 v3 v4 v5 v6 v7 v8 M))))))
def f_X12_way_h118 (N : Nat) (k95 : Int32 × Int32 × Int32 × Int32 → Mem → Option (Int32 × Mem)) (k106 : Int32 × Int32 × Int32 × Int32 × Int32 → Mem → Option (Int32 × Mem)) (k118 : Int32 × Int32 × Int32 × Int32 × Int32 × Int32 → Mem → Option (Int32 × Mem)) (v3 : Int32) (v4 : Int32) (v5 : Int32) (v6 : Int32) (v7 : Int32) (v8 : Int32) (M : Mem) : Option (Int32 × Mem) :=
  if 4 < v8 then (f_X12_way_b227 N k95 k106 v3 v4 v5 v6 v7 M) else (ck v7 30 (
  if (M.1 211 (tn v7)) < 0 then (f_X12_way_b227 N k95 k106 v3 v4 v5 v6 v7 M) else (bi (f_X12_beside v7 v8 M) fun r_36 M_34 =>
  if 0 ≤ r_36 then (bi (f_X12_costOf r_36 v5 M_34) fun r_39 M_37 =>
  f_X12_way_b161 N k95 k106 k118 v3 v4 v5 v6 v7 v8 r_36 r_39 M_37) else (f_X12_way_b161 N k95 k106 k118 v3 v4 v5 v6 v7 v8 r_36 (-1) M_34))))
def f_X12_way_h106 (N : Nat) (k95 : Int32 × Int32 × Int32 × Int32 → Mem → Option (Int32 × Mem)) (k106 : Int32 × Int32 × Int32 × Int32 × Int32 → Mem → Option (Int32 × Mem)) (v3 : Int32) (v4 : Int32) (v5 : Int32) (v6 : Int32) (v7 : Int32) (M : Mem) : Option (Int32 × Mem) :=
  bi (f_X12_boards M) fun r_32 M_30 =>
  if r_32 ≤ v7 then (k95 (v3, v4, v5, v6) M_30) else (lp (fun k a m => f_X12_way_h118 N k95 k106 k a.1 a.2.1 a.2.2.1 a.2.2.2.1 a.2.2.2.2.1 a.2.2.2.2.2 m) N (v3, v4, v5, v6, v7, 1) M_30)
def f_X12_way_h95 (N : Nat) (k95 : Int32 × Int32 × Int32 × Int32 → Mem → Option (Int32 × Mem)) (v3 : Int32) (v4 : Int32) (v5 : Int32) (v6 : Int32) (M : Mem) : Option (Int32 × Mem) :=
  if v6 = 0 then (bi (f_X12_board v3 v4 M) fun r_25 M_23 =>
  ck r_25 30 (
  if 0 ≤ (M_23.1 211 (tn r_25)) then (some ((M_23.1 211 (tn r_25)), M_23)) else (bi (f_X12_refuse 8 M_23) fun r_29 M_27 =>
  some (r_29, M_27)))) else (lp (fun k a m => f_X12_way_h106 N k95 k a.1 a.2.1 a.2.2.1 a.2.2.2.1 a.2.2.2.2 m) N (v3, v4, v5, 0, 0) M)
def f_X12_way_h57 (N : Nat) (k57 : Int32 × Int32 × Int32 × Int32 × Int32 × Int32 → Mem → Option (Int32 × Mem)) (v1 : Int32) (v2 : Int32) (v3 : Int32) (v4 : Int32) (v5 : Int32) (v6 : Int32) (M : Mem) : Option (Int32 × Mem) :=
  bi (f_X12_boards M) fun r_17 M_15 =>
  if r_17 ≤ v6 then (bi (f_X12_board v1 v2 M_15) fun r_20 M_18 =>
  ck r_20 30 (
  bM (uI M_18 211 (tn r_20) 0) fun M_22 =>
  lp (fun k a m => f_X12_way_h95 N k a.1 a.2.1 a.2.2.1 a.2.2.2 m) N (v3, v4, v5, 1) M_22)) else (ck v6 30 (
  bM (uI M_15 211 (tn v6) (-1)) fun M_47 =>
  k57 (v1, v2, v3, v4, v5, (v6 + 1)) M_47))
def f_X12_way (N : Nat) (x1 : Int32) (x2 : Int32) (x3 : Int32) (x4 : Int32) (x5 : Int32) (M : Mem) : Option (Int32 × Mem) :=
  bM (uI M 200 1 0) fun M_1 =>
  bM (uI M_1 200 0 0) fun M_2 =>
  bi (f_X12_isBoard x1 x2 M_2) fun r_5 M_3 =>
  if (b2i r_5) = 0 then (bi (f_X12_refuse 2 M_3) fun r_8 M_6 =>
  some (r_8, M_6)) else (bi (f_X12_isBoard x3 x4 M_3) fun r_11 M_9 =>
  if (b2i r_11) = 0 then (bi (f_X12_refuse 2 M_9) fun r_53 M_51 =>
  some (r_53, M_51)) else (bi (f_X12_isIn (Int32.toInt64 x5) 0 2 M_9) fun r_14 M_12 =>
  if (b2i r_14) = 0 then (bi (f_X12_refuse 5 M_12) fun r_50 M_48 =>
  some (r_50, M_48)) else (lp (fun k a m => f_X12_way_h57 N k a.1 a.2.1 a.2.2.1 a.2.2.2.1 a.2.2.2.2.1 a.2.2.2.2.2 m) N (x1, x2, x3, x4, x5, 0) M_12)))
def f_X12_sail_b314 (N : Nat) (v4 : Int32) (M : Mem) : Option (Int32 × Mem) :=
  bv (f_X12_gives N M) fun M_14 =>
  if v4 ≤ 48 then (some (v4, M_14)) else (bi (f_X12_refuse 8 M_14) fun r_18 M_16 =>
  some (r_18, M_16))
def f_X12_sail_h282 (N : Nat) (k128 : Int32 × Int32 × Int32 → Mem → Option (Int32 × Mem)) (k282 : Int32 × Int32 × Int32 × Int32 → Mem → Option (Int32 × Mem)) (v2 : Int32) (v3 : Int32) (v4 : Int32) (v5 : Int32) (M : Mem) : Option (Int32 × Mem) :=
  bi (f_X12_boards M) fun r_27 M_25 =>
  if r_27 ≤ v5 then (k128 (v2, v3, v4) M_25) else (ck v5 30 (
  ck v5 30 (
  bM (uI M_25 212 (tn v5) (vp_nar .boolean (M_25.1 213 (tn v5)))) fun M_30 =>
  k282 (v2, v3, v4, (v5 + 1)) M_30)))
def f_X12_sail_b272 (N : Nat) (k128 : Int32 × Int32 × Int32 → Mem → Option (Int32 × Mem)) (k154 : Int32 × Int32 × Int32 × Int32 → Mem → Option (Int32 × Mem)) (v2 : Int32) (v3 : Int32) (v4 : Int32) (v5 : Int32) (s0 : Int32) (s1 : Int32) (M : Mem) : Option (Int32 × Mem) :=
  ck s1 30 (
  bM (uI M 213 (tn s1) (vp_nar .boolean s0)) fun M_36 =>
  k154 (v2, v3, v4, (v5 + 1)) M_36)
def f_X12_sail_b271 (N : Nat) (k128 : Int32 × Int32 × Int32 → Mem → Option (Int32 × Mem)) (k154 : Int32 × Int32 × Int32 × Int32 → Mem → Option (Int32 × Mem)) (v2 : Int32) (v3 : Int32) (v4 : Int32) (v5 : Int32) (s0 : Int32) (M : Mem) : Option (Int32 × Mem) :=
  f_X12_sail_b272 N k128 k154 v2 v3 v4 v5 0 s0 M
def f_X12_sail_b234 (N : Nat) (k128 : Int32 × Int32 × Int32 → Mem → Option (Int32 × Mem)) (k154 : Int32 × Int32 × Int32 × Int32 → Mem → Option (Int32 × Mem)) (k180 : Int32 × Int32 × Int32 × Int32 × Int32 → Mem → Option (Int32 × Mem)) (v2 : Int32) (v3 : Int32) (v4 : Int32) (v5 : Int32) (v6 : Int32) (s0 : Int32) (s1 : Int32) (M : Mem) : Option (Int32 × Mem) :=
  ck s1 30 (
  bM (uI M 213 (tn s1) (vp_nar .boolean s0)) fun M_42 =>
  k180 (v2, v3, v4, v5, (v6 + 1)) M_42)
def f_X12_sail_b229 (N : Nat) (k128 : Int32 × Int32 × Int32 → Mem → Option (Int32 × Mem)) (k154 : Int32 × Int32 × Int32 × Int32 → Mem → Option (Int32 × Mem)) (k180 : Int32 × Int32 × Int32 × Int32 × Int32 → Mem → Option (Int32 × Mem)) (v2 : Int32) (v3 : Int32) (v4 : Int32) (v5 : Int32) (v6 : Int32) (s0 : Int32) (M : Mem) : Option (Int32 × Mem) :=
  f_X12_sail_b234 N k128 k154 k180 v2 v3 v4 v5 v6 1 s0 M
def f_X12_sail_b233 (N : Nat) (k128 : Int32 × Int32 × Int32 → Mem → Option (Int32 × Mem)) (k154 : Int32 × Int32 × Int32 × Int32 → Mem → Option (Int32 × Mem)) (k180 : Int32 × Int32 × Int32 × Int32 × Int32 → Mem → Option (Int32 × Mem)) (v2 : Int32) (v3 : Int32) (v4 : Int32) (v5 : Int32) (v6 : Int32) (s0 : Int32) (M : Mem) : Option (Int32 × Mem) :=
  f_X12_sail_b234 N k128 k154 k180 v2 v3 v4 v5 v6 0 s0 M
def f_X12_sail_h180 (N : Nat) (k128 : Int32 × Int32 × Int32 → Mem → Option (Int32 × Mem)) (k154 : Int32 × Int32 × Int32 × Int32 → Mem → Option (Int32 × Mem)) (k180 : Int32 × Int32 × Int32 × Int32 × Int32 → Mem → Option (Int32 × Mem)) (v2 : Int32) (v3 : Int32) (v4 : Int32) (v5 : Int32) (v6 : Int32) (M : Mem) : Option (Int32 × Mem) :=
  if 4 < v6 then (ck v5 30 (
  if (M.1 213 (tn v5)) = 0 then (f_X12_sail_b271 N k128 k154 v2 v3 v4 v5 v5 M) else (bi (f_X12_isFoggy v5 M) fun r_39 M_37 =>
  if (b2i r_39) = v2 then (f_X12_sail_b272 N k128 k154 v2 v3 v4 v5 1 v5 M_37) else (f_X12_sail_b271 N k128 k154 v2 v3 v4 v5 v5 M_37)))) else (ck v5 30 (
  if (M.1 213 (tn v5)) = 0 then (bi (f_X12_beside v5 v6 M) fun r_45 M_43 =>
  if r_45 < 0 then (f_X12_sail_b233 N k128 k154 k180 v2 v3 v4 v5 v6 v5 M_43) else (bi (f_X12_beside v5 v6 M_43) fun r_48 M_46 =>
  ck r_48 30 (
  if (M_46.1 212 (tn r_48)) = 0 then (f_X12_sail_b233 N k128 k154 k180 v2 v3 v4 v5 v6 v5 M_46) else (f_X12_sail_b229 N k128 k154 k180 v2 v3 v4 v5 v6 v5 M_46)))) else (f_X12_sail_b229 N k128 k154 k180 v2 v3 v4 v5 v6 v5 M)))
def f_X12_sail_h154 (N : Nat) (k128 : Int32 × Int32 × Int32 → Mem → Option (Int32 × Mem)) (k154 : Int32 × Int32 × Int32 × Int32 → Mem → Option (Int32 × Mem)) (v2 : Int32) (v3 : Int32) (v4 : Int32) (v5 : Int32) (M : Mem) : Option (Int32 × Mem) :=
  bi (f_X12_boards M) fun r_24 M_22 =>
  if r_24 ≤ v5 then (lp (fun k a m => f_X12_sail_h282 N k128 k a.1 a.2.1 a.2.2.1 a.2.2.2 m) N (v2, v3, v4, 0) M_22) else (ck v5 30 (
  ck v5 30 (
  bM (uI M_22 213 (tn v5) (vp_nar .boolean (M_22.1 212 (tn v5)))) fun M_33 =>
  lp (fun k a m => f_X12_sail_h180 N k128 k154 k a.1 a.2.1 a.2.2.1 a.2.2.2.1 a.2.2.2.2 m) N (v2, v3, v4, v5, 1) M_33)))
def f_X12_sail_h128 (N : Nat) (k128 : Int32 × Int32 × Int32 → Mem → Option (Int32 × Mem)) (v2 : Int32) (v3 : Int32) (v4 : Int32) (M : Mem) : Option (Int32 × Mem) :=
  if 48 < v4 then (f_X12_sail_b314 N v4 M) else (ck v3 30 (
  if (M.1 212 (tn v3)) = 0 then (bv (f_X12_goesHour N M) fun M_20 =>
  lp (fun k a m => f_X12_sail_h154 N k128 k a.1 a.2.1 a.2.2.1 a.2.2.2 m) N (v2, v3, (v4 + 1), 0) M_20) else (f_X12_sail_b314 N v4 M)))
def f_X12_sail_b114 (N : Nat) (k69 : Int32 × Int32 × Int32 × Int32 → Mem → Option (Int32 × Mem)) (v1 : Int32) (v2 : Int32) (v3 : Int32) (v4 : Int32) (s0 : Int32) (s1 : Int32) (M : Mem) : Option (Int32 × Mem) :=
  ck s1 30 (
  bM (uI M 212 (tn s1) (vp_nar .boolean s0)) fun M_56 =>
  k69 (v1, v2, v3, (v4 + 1)) M_56)
def f_X12_sail_h69 (N : Nat) (k69 : Int32 × Int32 × Int32 × Int32 → Mem → Option (Int32 × Mem)) (v1 : Int32) (v2 : Int32) (v3 : Int32) (v4 : Int32) (M : Mem) : Option (Int32 × Mem) :=
  if 30 ≤ v4 then (bv (f_X12_keeps N M) fun M_12 =>
  lp (fun k a m => f_X12_sail_h128 N k a.1 a.2.1 a.2.2 m) N (v2, v3, 0) M_12) else (ck (83 + v1) 2175 (
  ck (87 + v1) 2175 (
  bi (f_X12_board (M.1 205 (tn (83 + v1))) (M.1 205 (tn (87 + v1))) M) fun r_54 M_52 =>
  if v4 = r_54 then (f_X12_sail_b114 N k69 v1 v2 v3 v4 1 v4 M_52) else (f_X12_sail_b114 N k69 v1 v2 v3 v4 0 v4 M_52))))
def f_X12_sail_b42 (N : Nat) (v1 : Int32) (s0 : Int32) (M : Mem) : Option (Int32 × Mem) :=
  ck (91 + v1) 2175 (
  ck (95 + v1) 2175 (
  bi (f_X12_board (M.1 205 (tn (91 + v1))) (M.1 205 (tn (95 + v1))) M) fun r_11 M_9 =>
  lp (fun k a m => f_X12_sail_h69 N k a.1 a.2.1 a.2.2.1 a.2.2.2 m) N (v1, s0, r_11, 0) M_9))
def f_X12_sail (N : Nat) (x1 : Int32) (M : Mem) : Option (Int32 × Mem) :=
  bM (uI M 200 1 0) fun M_1 =>
  bM (uI M_1 200 0 0) fun M_2 =>
  bi (f_X12_isShipAt x1 M_2) fun r_5 M_3 =>
  if (b2i r_5) = 0 then (bi (f_X12_refuse 2 M_3) fun r_59 M_57 =>
  some (r_59, M_57)) else (ck (99 + x1) 2175 (
  if (M_3.1 205 (tn (99 + x1))) = 1 then (f_X12_sail_b42 N x1 1 M_3) else (f_X12_sail_b42 N x1 0 M_3)))
def f_X12_goesOn_b90 (N : Nat) (rc : Int32 → Int32 → Mem → Option (Bool × Mem)) (k16 : Int32 × Int32 × Int32 → Mem → Option (Bool × Mem)) (v1 : Int32) (v2 : Int32) (v3 : Int32) (M : Mem) : Option (Bool × Mem) :=
  k16 (v1, v2, (v3 + 1)) M
def f_X12_goesOn_h16 (N : Nat) (rc : Int32 → Int32 → Mem → Option (Bool × Mem)) (k16 : Int32 × Int32 × Int32 → Mem → Option (Bool × Mem)) (v1 : Int32) (v2 : Int32) (v3 : Int32) (M : Mem) : Option (Bool × Mem) :=
  if 60 ≤ v3 then (some (false, M)) else (ck ((60 * v1) + v3) 3600 (
  if (M.1 214 (tn ((60 * v1) + v3))) = 0 then (f_X12_goesOn_b90 N rc k16 v1 v2 v3 M) else (ck v3 60 (
  if (M.1 215 (tn v3)) = 1 then (f_X12_goesOn_b90 N rc k16 v1 v2 v3 M) else (bi (rc v3 v2 M) fun r_7 M_5 =>
  if (b2i r_7) = 0 then (f_X12_goesOn_b90 N rc k16 v1 v2 v3 M_5) else (ck ((60 * v1) + v3) 3600 (
  ck ((60 * v1) + v3) 3600 (
  bM (uI M_5 214 (tn ((60 * v1) + v3)) ((M_5.1 214 (tn ((60 * v1) + v3))) - 1)) fun M_10 =>
  ck ((60 * v3) + v1) 3600 (
  ck ((60 * v3) + v1) 3600 (
  bM (uI M_10 214 (tn ((60 * v3) + v1)) ((M_10.1 214 (tn ((60 * v3) + v1))) + 1)) fun M_13 =>
  some (true, M_13)))))))))))
def g_X12_goesOn (N : Nat) (rc : Int32 → Int32 → Mem → Option (Bool × Mem)) (x1 : Int32) (x2 : Int32) (M : Mem) : Option (Bool × Mem) :=
  if x1 = x2 then (some (true, M)) else (ck x1 60 (
  bM (uI M 215 (tn x1) 1) fun M_2 =>
  lp (fun k a m => f_X12_goesOn_h16 N rc k a.1 a.2.1 a.2.2 m) N (x1, x2, 0) M_2))
def f_X12_goesOn (N : Nat) : Nat → Int32 → Int32 → Mem → Option (Bool × Mem)
  | 0 => fun _ _ _ => none
  | D + 1 => fun x1 x2 M => g_X12_goesOn N (f_X12_goesOn N D) x1 x2 M
def f_X12_roads_b202 (N : Nat) (k151 : Int32 × Int32 × Int32 × Int32 → Mem → Option (Int32 × Mem)) (v1 : Int32) (v2 : Int32) (v4 : Int32) (s0 : Int32) (s1 : Int32) (M : Mem) : Option (Int32 × Mem) :=
  k151 (v1, v2, (s1 + s0), (v4 + 1)) M
def f_X12_roads_h160 (N : Nat) (k151 : Int32 × Int32 × Int32 × Int32 → Mem → Option (Int32 × Mem)) (k160 : Int32 × Int32 × Int32 × Int32 × Int32 → Mem → Option (Int32 × Mem)) (v1 : Int32) (v2 : Int32) (v3 : Int32) (v4 : Int32) (v5 : Int32) (M : Mem) : Option (Int32 × Mem) :=
  if 60 ≤ v5 then (bi (f_X12_goesOn N 64 ((2 * v1) + 1) (2 * v2) M) fun r_6 M_4 =>
  if (b2i r_6) = 0 then (f_X12_roads_b202 N k151 v1 v2 v4 0 v3 M_4) else (f_X12_roads_b202 N k151 v1 v2 v4 1 v3 M_4)) else (ck v5 60 (
  bM (uI M 215 (tn v5) 0) fun M_8 =>
  k160 (v1, v2, v3, v4, (v5 + 1)) M_8))
def f_X12_roads_h151 (N : Nat) (k151 : Int32 × Int32 × Int32 × Int32 → Mem → Option (Int32 × Mem)) (v1 : Int32) (v2 : Int32) (v3 : Int32) (v4 : Int32) (M : Mem) : Option (Int32 × Mem) :=
  if 5 ≤ v4 then (some (v3, M)) else (lp (fun k a m => f_X12_roads_h160 N k151 k a.1 a.2.1 a.2.2.1 a.2.2.2.1 a.2.2.2.2 m) N (v1, v2, v3, v4, 0) M)
def f_X12_roads_b140 (N : Nat) (k24 : Int32 × Int32 × Int32 → Mem → Option (Int32 × Mem)) (v1 : Int32) (v2 : Int32) (v3 : Int32) (M : Mem) : Option (Int32 × Mem) :=
  k24 (v1, v2, (v3 + 1)) M
def f_X12_roads_b134 (N : Nat) (k24 : Int32 × Int32 × Int32 → Mem → Option (Int32 × Mem)) (k74 : Int32 × Int32 × Int32 × Int32 → Mem → Option (Int32 × Mem)) (v1 : Int32) (v2 : Int32) (v3 : Int32) (v4 : Int32) (M : Mem) : Option (Int32 × Mem) :=
  k74 (v1, v2, v3, (v4 + 1)) M
def f_X12_roads_b115 (N : Nat) (k24 : Int32 × Int32 × Int32 → Mem → Option (Int32 × Mem)) (k74 : Int32 × Int32 × Int32 × Int32 → Mem → Option (Int32 × Mem)) (v1 : Int32) (v2 : Int32) (v3 : Int32) (v4 : Int32) (v5 : Int32) (M : Mem) : Option (Int32 × Mem) :=
  ck ((60 * ((2 * v3) + 1)) + (2 * v5)) 3600 (
  bM (uI M 214 (tn ((60 * ((2 * v3) + 1)) + (2 * v5))) 1) fun M_15 =>
  f_X12_roads_b134 N k24 k74 v1 v2 v3 v4 M_15)
def f_X12_roads_h74 (N : Nat) (k24 : Int32 × Int32 × Int32 → Mem → Option (Int32 × Mem)) (k74 : Int32 × Int32 × Int32 × Int32 → Mem → Option (Int32 × Mem)) (v1 : Int32) (v2 : Int32) (v3 : Int32) (v4 : Int32) (M : Mem) : Option (Int32 × Mem) :=
  if 4 < v4 then (f_X12_roads_b140 N k24 v1 v2 v3 M) else (bi (f_X12_beside v3 v4 M) fun r_13 M_11 =>
  if r_13 < 0 then (f_X12_roads_b134 N k24 k74 v1 v2 v3 v4 M_11) else (if r_13 = v1 then (f_X12_roads_b134 N k24 k74 v1 v2 v3 v4 M_11) else (if r_13 = v2 then (f_X12_roads_b115 N k24 k74 v1 v2 v3 v4 r_13 M_11) else (bi (f_X12_isFoggy r_13 M_11) fun r_18 M_16 =>
  if (b2i r_18) = 0 then (f_X12_roads_b134 N k24 k74 v1 v2 v3 v4 M_16) else (f_X12_roads_b115 N k24 k74 v1 v2 v3 v4 r_13 M_16)))))
def f_X12_roads_b53 (N : Nat) (k24 : Int32 × Int32 × Int32 → Mem → Option (Int32 × Mem)) (v1 : Int32) (v2 : Int32) (v3 : Int32) (M : Mem) : Option (Int32 × Mem) :=
  ck (((60 * (2 * v3)) + (2 * v3)) + 1) 3600 (
  bM (uI M 214 (tn (((60 * (2 * v3)) + (2 * v3)) + 1)) 1) fun M_10 =>
  lp (fun k a m => f_X12_roads_h74 N k24 k a.1 a.2.1 a.2.2.1 a.2.2.2 m) N (v1, v2, v3, 1) M_10)
def f_X12_roads_h24 (N : Nat) (k24 : Int32 × Int32 × Int32 → Mem → Option (Int32 × Mem)) (v1 : Int32) (v2 : Int32) (v3 : Int32) (M : Mem) : Option (Int32 × Mem) :=
  bi (f_X12_boards M) fun r_3 M_1 =>
  if r_3 ≤ v3 then (lp (fun k a m => f_X12_roads_h151 N k a.1 a.2.1 a.2.2.1 a.2.2.2 m) N (v1, v2, 0, 0) M_1) else (if v3 = v2 then (f_X12_roads_b140 N k24 v1 v2 v3 M_1) else (if v3 = v1 then (f_X12_roads_b53 N k24 v1 v2 v3 M_1) else (bi (f_X12_isFoggy v3 M_1) fun r_21 M_19 =>
  if (b2i r_21) = 0 then (f_X12_roads_b140 N k24 v1 v2 v3 M_19) else (f_X12_roads_b53 N k24 v1 v2 v3 M_19))))
def f_X12_roads_h2 (N : Nat) (k2 : Int32 × Int32 × Int32 → Mem → Option (Int32 × Mem)) (v1 : Int32) (v2 : Int32) (v3 : Int32) (M : Mem) : Option (Int32 × Mem) :=
  if 3600 ≤ v3 then (lp (fun k a m => f_X12_roads_h24 N k a.1 a.2.1 a.2.2 m) N (v1, v2, 0) M) else (ck v3 3600 (
  bM (uI M 214 (tn v3) 0) fun M_23 =>
  k2 (v1, v2, (v3 + 1)) M_23))
def f_X12_roads (N : Nat) (x1 : Int32) (x2 : Int32) (M : Mem) : Option (Int32 × Mem) :=
  lp (fun k a m => f_X12_roads_h2 N k a.1 a.2.1 a.2.2 m) N (x1, x2, 0) M
def f_X12_watch (N : Nat) (x1 : Int32) (x2 : Int32) (x3 : Int32) (x4 : Int32) (M : Mem) : Option (Int32 × Mem) :=
  bM (uI M 200 1 0) fun M_1 =>
  bM (uI M_1 200 0 0) fun M_2 =>
  bi (f_X12_isBoard x1 x2 M_2) fun r_5 M_3 =>
  if (b2i r_5) = 0 then (bi (f_X12_refuse 2 M_3) fun r_8 M_6 =>
  some (r_8, M_6)) else (bi (f_X12_isBoard x3 x4 M_3) fun r_11 M_9 =>
  if (b2i r_11) = 0 then (bi (f_X12_refuse 2 M_9) fun r_26 M_24 =>
  some (r_26, M_24)) else (if 2 ≤ ((iabs (x1 - x3)) + (iabs (x2 - x4))) then (bi (f_X12_board x1 x2 M_9) fun r_14 M_12 =>
  bi (f_X12_board x3 x4 M_12) fun r_17 M_15 =>
  bi (f_X12_roads N r_14 r_17 M_15) fun r_20 M_18 =>
  some (r_20, M_18)) else (bi (f_X12_refuse 9 M_9) fun r_23 M_21 =>
  some (r_23, M_21))))
def f_X12_together (N : Nat) (x1 : Int32) (x2 : Int32) (M : Mem) : Option (Int32 × Mem) :=
  bM (uI M 200 1 0) fun M_1 =>
  bM (uI M_1 200 0 0) fun M_2 =>
  bi (f_X12_isGateAt x1 M_2) fun r_5 M_3 =>
  if (b2i r_5) = 0 then (bi (f_X12_refuse 2 M_3) fun r_17 M_15 =>
  some (r_17, M_15)) else (bi (f_X12_isSet x2 M_3) fun r_8 M_6 =>
  if (b2i r_8) = 0 then (bi (f_X12_refuse 5 M_6) fun r_14 M_12 =>
  some (r_14, M_12)) else (bi (f_X12_can N x1 x2 M_6) fun r_11 M_9 =>
  if (b2i r_11) = 0 then (some (0, M_9)) else (some (1, M_9))))
def f_X12_whyNoGate (N : Nat) (x1 : Int32) (M : Mem) : Option (Int32 × Mem) :=
  bi (f_X12_isGateAt x1 M) fun r_3 M_1 =>
  if (b2i r_3) = 0 then (some (2, M_1)) else (bi (f_X12_allHolders M_1) fun r_6 M_4 =>
  bi (f_X12_can N x1 r_6 M_4) fun r_9 M_7 =>
  if (b2i r_9) = 0 then (some (8, M_7)) else (some (0, M_7)))
def f_X12_fewOf_b37 (N : Nat) (k7 : Int32 × Int32 × Int32 → Mem → Option (Int32 × Mem)) (v1 : Int32) (v2 : Int32) (v3 : Int32) (M : Mem) : Option (Int32 × Mem) :=
  k7 (v1, v2, (v3 + 1)) M
def f_X12_fewOf_h7 (N : Nat) (k7 : Int32 × Int32 × Int32 → Mem → Option (Int32 × Mem)) (v1 : Int32) (v2 : Int32) (v3 : Int32) (M : Mem) : Option (Int32 × Mem) :=
  bi (f_X12_allHolders M) fun r_6 M_4 =>
  if r_6 < v3 then (some (v2, M_4)) else (bi (f_X12_can N v1 v3 M_4) fun r_9 M_7 =>
  if (b2i r_9) = 0 then (f_X12_fewOf_b37 N k7 v1 v2 v3 M_7) else (bi (f_X12_sizeOf N v3 M_7) fun r_12 M_10 =>
  bi (f_X12_sizeOf N v2 M_10) fun r_15 M_13 =>
  if r_15 ≤ r_12 then (f_X12_fewOf_b37 N k7 v1 v2 v3 M_13) else (f_X12_fewOf_b37 N k7 v1 v3 v3 M_13)))
def f_X12_fewOf (N : Nat) (x1 : Int32) (M : Mem) : Option (Int32 × Mem) :=
  bi (f_X12_allHolders M) fun r_3 M_1 =>
  lp (fun k a m => f_X12_fewOf_h7 N k a.1 a.2.1 a.2.2 m) N (x1, r_3, 0) M_1
def f_X12_fewest (N : Nat) (x1 : Int32) (M : Mem) : Option (Int32 × Mem) :=
  bM (uI M 200 1 0) fun M_1 =>
  bi (f_X12_whyNoGate N x1 M_1) fun r_4 M_2 =>
  bM (uI M_2 200 0 r_4) fun M_5 =>
  if (M_5.1 200 0) ≤ 0 then (bi (f_X12_fewOf N x1 M_5) fun r_8 M_6 =>
  bi (f_X12_sizeOf N r_8 M_6) fun r_11 M_9 =>
  some (r_11, M_9)) else (some ((-1), M_5))
def f_X12_fewestSet (N : Nat) (x1 : Int32) (M : Mem) : Option (Int32 × Mem) :=
  bM (uI M 200 1 0) fun M_1 =>
  bi (f_X12_whyNoGate N x1 M_1) fun r_4 M_2 =>
  bM (uI M_2 200 0 r_4) fun M_5 =>
  if (M_5.1 200 0) ≤ 0 then (bi (f_X12_fewOf N x1 M_5) fun r_8 M_6 =>
  some (r_8, M_6)) else (some ((-1), M_5))
def f_X12_factorial_h4 (N : Nat) (k4 : Int32 × Int64 × Int32 → Mem → Option (Int64 × Mem)) (v0 : Int32) (v1 : Int64) (v3 : Int32) (M : Mem) : Option (Int64 × Mem) :=
  if v0 < v3 then (some (v1, M)) else (k4 (v0, (v1 * (Int32.toInt64 v3)), (v3 + 1)) M)
def f_X12_factorial (N : Nat) (x0 : Int32) (M : Mem) : Option (Int64 × Mem) :=
  lp (fun k a m => f_X12_factorial_h4 N k a.1 a.2.1 a.2.2 m) N (x0, 1, 2) M
def f_X12_swings_b83 (N : Nat) (k13 : Int32 × Int32 × Int64 × Int32 × Int32 → Mem → Option (Int64 × Mem)) (v1 : Int32) (v2 : Int32) (v3 : Int64) (v5 : Int32) (v6 : Int32) (M : Mem) : Option (Int64 × Mem) :=
  k13 (v1, v2, v3, v5, (v6 + 1)) M
def f_X12_swings_h13 (N : Nat) (k13 : Int32 × Int32 × Int64 × Int32 × Int32 → Mem → Option (Int64 × Mem)) (v1 : Int32) (v2 : Int32) (v3 : Int64) (v5 : Int32) (v6 : Int32) (M : Mem) : Option (Int64 × Mem) :=
  bi (f_X12_allHolders M) fun r_4 M_2 =>
  if r_4 < v6 then (some (v3, M_2)) else (bi (f_X12_has v6 v2 M_2) fun r_7 M_5 =>
  if (b2i r_7) = 0 then (bi (f_X12_can N v1 v6 M_5) fun r_10 M_8 =>
  if (b2i r_10) = 0 then (bi (f_X12_can N v1 (v6 ||| (1 <<< (v2 &&& 31))) M_8) fun r_13 M_11 =>
  if (b2i r_13) = 0 then (f_X12_swings_b83 N k13 v1 v2 v3 v5 v6 M_11) else (bi (f_X12_sizeOf N v6 M_11) fun r_16 M_14 =>
  bi (f_X12_factorial N r_16 M_14) fun r_19 M_17 =>
  bi (f_X12_sizeOf N v6 M_17) fun r_22 M_20 =>
  bi (f_X12_factorial N ((v5 - 1) - r_22) M_20) fun r_25 M_23 =>
  f_X12_swings_b83 N k13 v1 v2 (v3 + (r_19 * r_25)) v5 v6 M_23)) else (f_X12_swings_b83 N k13 v1 v2 v3 v5 v6 M_8)) else (f_X12_swings_b83 N k13 v1 v2 v3 v5 v6 M_5))
def f_X12_swings (N : Nat) (x1 : Int32) (x2 : Int32) (M : Mem) : Option (Int64 × Mem) :=
  ck 3 2175 (
  lp (fun k a m => f_X12_swings_h13 N k a.1 a.2.1 a.2.2.1 a.2.2.2.1 a.2.2.2.2 m) N (x1, x2, 0, (M.1 205 (tn 3)), 0) M)
def f_X12_power (N : Nat) (x1 : Int32) (x2 : Int32) (M : Mem) : Option (Bool × Mem) :=
  bM (uI M 200 1 0) fun M_1 =>
  bM (uI M_1 200 0 0) fun M_2 =>
  bi (f_X12_isGateAt x1 M_2) fun r_5 M_3 =>
  if (b2i r_5) = 0 then (bi (f_X12_no 2 M_3) fun r_8 M_6 =>
  some (r_8, M_6)) else (bi (f_X12_isHolderAt x2 M_3) fun r_11 M_9 =>
  if (b2i r_11) = 0 then (bi (f_X12_no 2 M_9) fun r_33 M_31 =>
  some (r_33, M_31)) else (bi (f_X12_allHolders M_9) fun r_14 M_12 =>
  bi (f_X12_can N x1 r_14 M_12) fun r_17 M_15 =>
  if (b2i r_17) = 0 then (bi (f_X12_no 8 M_15) fun r_30 M_28 =>
  some (r_30, M_28)) else (bi (f_X12_swings N x1 x2 M_15) fun r_20 M_18 =>
  ck 3 2175 (
  bi (f_X12_factorial N (M_18.1 205 (tn 3)) M_18) fun r_24 M_22 =>
  bi (f_X12_fraction N r_20 r_24 M_22) fun r_27 M_25 =>
  some (r_27, M_25)))))
def f_X12_veto_b63 (N : Nat) (k27 : Int32 × Int32 × Int32 → Mem → Option (Int32 × Mem)) (v1 : Int32) (v3 : Int32) (s0 : Int32) (s1 : Int32) (M : Mem) : Option (Int32 × Mem) :=
  k27 (v1, (s1 ||| s0), (v3 + 1)) M
def f_X12_veto_h27 (N : Nat) (k27 : Int32 × Int32 × Int32 → Mem → Option (Int32 × Mem)) (v1 : Int32) (v2 : Int32) (v3 : Int32) (M : Mem) : Option (Int32 × Mem) :=
  ck 3 2175 (
  if (M.1 205 (tn 3)) ≤ v3 then (some (v2, M)) else (bi (f_X12_allHolders M) fun r_9 M_7 =>
  bi (f_X12_can N v1 (r_9 &&& ((1 <<< (v3 &&& 31)) ^^^ (-1))) M_7) fun r_12 M_10 =>
  if (b2i r_12) = 0 then (f_X12_veto_b63 N k27 v1 v3 (1 <<< (v3 &&& 31)) v2 M_10) else (f_X12_veto_b63 N k27 v1 v3 0 v2 M_10)))
def f_X12_veto (N : Nat) (x1 : Int32) (M : Mem) : Option (Int32 × Mem) :=
  bM (uI M 200 1 0) fun M_1 =>
  bi (f_X12_whyNoGate N x1 M_1) fun r_4 M_2 =>
  bM (uI M_2 200 0 r_4) fun M_5 =>
  if (M_5.1 200 0) ≤ 0 then (lp (fun k a m => f_X12_veto_h27 N k a.1 a.2.1 a.2.2 m) N (x1, 0, 0) M_5) else (some ((-1), M_5))
def f_X12_idle_b56 (N : Nat) (k27 : Int32 × Int32 × Int32 → Mem → Option (Int32 × Mem)) (v1 : Int32) (v3 : Int32) (s0 : Int32) (s1 : Int32) (M : Mem) : Option (Int32 × Mem) :=
  k27 (v1, (s1 ||| s0), (v3 + 1)) M
def f_X12_idle_h27 (N : Nat) (k27 : Int32 × Int32 × Int32 → Mem → Option (Int32 × Mem)) (v1 : Int32) (v2 : Int32) (v3 : Int32) (M : Mem) : Option (Int32 × Mem) :=
  ck 3 2175 (
  if (M.1 205 (tn 3)) ≤ v3 then (some (v2, M)) else (bi (f_X12_swings N v1 v3 M) fun r_9 M_7 =>
  if (lg_cmp r_9 0) = 0 then (f_X12_idle_b56 N k27 v1 v3 (1 <<< (v3 &&& 31)) v2 M_7) else (f_X12_idle_b56 N k27 v1 v3 0 v2 M_7)))
def f_X12_idle (N : Nat) (x1 : Int32) (M : Mem) : Option (Int32 × Mem) :=
  bM (uI M 200 1 0) fun M_1 =>
  bi (f_X12_whyNoGate N x1 M_1) fun r_4 M_2 =>
  bM (uI M_2 200 0 r_4) fun M_5 =>
  if (M_5.1 200 0) ≤ 0 then (lp (fun k a m => f_X12_idle_h27 N k a.1 a.2.1 a.2.2 m) N (x1, 0, 0) M_5) else (some ((-1), M_5))
def f_X12_reach_b55 (N : Nat) (k28 : Int32 × Int32 × Int32 → Mem → Option (Int32 × Mem)) (v1 : Int32) (v3 : Int32) (s0 : Int32) (s1 : Int32) (M : Mem) : Option (Int32 × Mem) :=
  k28 (v1, (s1 ||| s0), (v3 + 1)) M
def f_X12_reach_h28 (N : Nat) (k28 : Int32 × Int32 × Int32 → Mem → Option (Int32 × Mem)) (v1 : Int32) (v2 : Int32) (v3 : Int32) (M : Mem) : Option (Int32 × Mem) :=
  ck 2 2175 (
  if (M.1 205 (tn 2)) ≤ v3 then (some (v2, M)) else (bi (f_X12_can N v3 v1 M) fun r_9 M_7 =>
  if (b2i r_9) = 0 then (f_X12_reach_b55 N k28 v1 v3 0 v2 M_7) else (f_X12_reach_b55 N k28 v1 v3 (1 <<< (v3 &&& 31)) v2 M_7)))
def f_X12_reach (N : Nat) (x1 : Int32) (M : Mem) : Option (Int32 × Mem) :=
  bM (uI M 200 1 0) fun M_1 =>
  bM (uI M_1 200 0 0) fun M_2 =>
  bi (f_X12_isSet x1 M_2) fun r_5 M_3 =>
  if (b2i r_5) = 0 then (bi (f_X12_refuse 5 M_3) fun r_12 M_10 =>
  some (r_12, M_10)) else (lp (fun k a m => f_X12_reach_h28 N k a.1 a.2.1 a.2.2 m) N (x1, 0, 0) M_3)
def f_X12_whyNoTries_h49 (N : Nat) (k49 : Int32 × Int32 × Int32 → Mem → Option (Int32 × Mem)) (v1 : Int32) (v2 : Int32) (v3 : Int32) (M : Mem) : Option (Int32 × Mem) :=
  if v2 ≤ v3 then (some (0, M)) else (bi (f_X12_numberOf v1 v3 M) fun r_11 M_9 =>
  bi (f_X12_isIn r_11 0 999 M_9) fun r_14 M_12 =>
  if (b2i r_14) = 0 then (some (5, M_12)) else (bi (f_X12_isGateAt ((Int64.toInt32 r_11) / 100) M_12) fun r_17 M_15 =>
  if (b2i r_17) = 0 then (some (5, M_15)) else (bi (f_X12_isGateAt (((Int64.toInt32 r_11) / 10) - ((Int64.toInt32 r_11) / 10) / 10 * 10) M_15) fun r_20 M_18 =>
  if (b2i r_20) = 0 then (some (5, M_18)) else (if (lg_cmp (r_11 - r_11 / 10 * 10) 1) ≤ 0 then (k49 (v1, v2, (v3 + 1)) M_18) else (some (5, M_18))))))
def f_X12_whyNoTries (N : Nat) (x1 : Int32) (x2 : Int32) (M : Mem) : Option (Int32 × Mem) :=
  bi (f_X12_isTray x1 M) fun r_3 M_1 =>
  if (b2i r_3) = 0 then (some (1, M_1)) else (ck x1 4 (
  if 0 ≤ (M_1.1 202 (tn x1)) then (ck x1 4 (
  if x2 ≤ (M_1.1 202 (tn x1)) then (bi (f_X12_isIn (Int32.toInt64 x2) 0 60 M_1) fun r_8 M_6 =>
  if (b2i r_8) = 0 then (some (5, M_6)) else (lp (fun k a m => f_X12_whyNoTries_h49 N k a.1 a.2.1 a.2.2 m) N (x1, x2, 0) M_6)) else (some (4, M_1)))) else (some (3, M_1))))
def f_X12_laysTries_b74 (N : Nat) (k23 : Int32 × Int32 × Int32 → Mem → Option (Mem)) (v1 : Int32) (v2 : Int32) (v3 : Int32) (s0 : Int32) (s1 : Int32) (s2 : Int32) (M : Mem) : Option (Mem) :=
  ck s2 36 (
  bM (uI M 216 (tn s2) (s1 ||| s0)) fun M_6 =>
  k23 (v1, v2, (v3 + 1)) M_6)
def f_X12_laysTries_h23 (N : Nat) (k23 : Int32 × Int32 × Int32 → Mem → Option (Mem)) (v1 : Int32) (v2 : Int32) (v3 : Int32) (M : Mem) : Option (Mem) :=
  if v2 ≤ v3 then (some M) else (bi (f_X12_numberOf v1 v3 M) fun r_3 M_1 =>
  ck ((6 * ((Int64.toInt32 r_3) / 100)) + (((Int64.toInt32 r_3) / 10) - ((Int64.toInt32 r_3) / 10) / 10 * 10)) 36 (
  if ((Int64.toInt32 r_3) - (Int64.toInt32 r_3) / 10 * 10) = 1 then (f_X12_laysTries_b74 N k23 v1 v2 v3 2 (M_1.1 216 (tn ((6 * ((Int64.toInt32 r_3) / 100)) + (((Int64.toInt32 r_3) / 10) - ((Int64.toInt32 r_3) / 10) / 10 * 10)))) ((6 * ((Int64.toInt32 r_3) / 100)) + (((Int64.toInt32 r_3) / 10) - ((Int64.toInt32 r_3) / 10) / 10 * 10)) M_1) else (f_X12_laysTries_b74 N k23 v1 v2 v3 1 (M_1.1 216 (tn ((6 * ((Int64.toInt32 r_3) / 100)) + (((Int64.toInt32 r_3) / 10) - ((Int64.toInt32 r_3) / 10) / 10 * 10)))) ((6 * ((Int64.toInt32 r_3) / 100)) + (((Int64.toInt32 r_3) / 10) - ((Int64.toInt32 r_3) / 10) / 10 * 10)) M_1)))
def f_X12_laysTries_h2 (N : Nat) (k2 : Int32 × Int32 × Int32 → Mem → Option (Mem)) (v1 : Int32) (v2 : Int32) (v3 : Int32) (M : Mem) : Option (Mem) :=
  if 36 ≤ v3 then (lp (fun k a m => f_X12_laysTries_h23 N k a.1 a.2.1 a.2.2 m) N (v1, v2, 0) M) else (ck v3 36 (
  bM (uI M 216 (tn v3) 0) fun M_8 =>
  k2 (v1, v2, (v3 + 1)) M_8))
def f_X12_laysTries (N : Nat) (x1 : Int32) (x2 : Int32) (M : Mem) : Option (Mem) :=
  lp (fun k a m => f_X12_laysTries_h2 N k a.1 a.2.1 a.2.2 m) N (x1, x2, 0) M
def f_X12_canFit_b49 (N : Nat) (k21 : Int32 × Int32 × Int32 → Mem → Option (Bool × Mem)) (v1 : Int32) (v2 : Int32) (v3 : Int32) (M : Mem) : Option (Bool × Mem) :=
  k21 (v1, v2, (v3 + 1)) M
def f_X12_canFit_h21 (N : Nat) (k21 : Int32 × Int32 × Int32 → Mem → Option (Bool × Mem)) (v1 : Int32) (v2 : Int32) (v3 : Int32) (M : Mem) : Option (Bool × Mem) :=
  if 6 ≤ v3 then (some (true, M)) else (if v3 = v2 then (f_X12_canFit_b49 N k21 v1 v2 v3 M) else (ck ((6 * v1) + v3) 36 (
  if (M.1 216 (tn ((6 * v1) + v3))) ≤ 1 then (f_X12_canFit_b49 N k21 v1 v2 v3 M) else (some (false, M)))))
def f_X12_canFit (N : Nat) (x1 : Int32) (x2 : Int32) (M : Mem) : Option (Bool × Mem) :=
  ck ((6 * x1) + x2) 36 (
  if ((M.1 216 (tn ((6 * x1) + x2))) &&& 1) = 1 then (some (false, M)) else (lp (fun k a m => f_X12_canFit_h21 N k a.1 a.2.1 a.2.2 m) N (x1, x2, 0) M))
def f_X12_waysFrom_b109 (N : Nat) (rc : Int32 → Int32 → Mem → Option (Int32 × Mem)) (k50 : Int32 × Int32 × Int32 × Int32 → Mem → Option (Int32 × Mem)) (v1 : Int32) (v2 : Int32) (v3 : Int32) (v4 : Int32) (M : Mem) : Option (Int32 × Mem) :=
  k50 (v1, v2, v3, (v4 + 1)) M
def f_X12_waysFrom_h50 (N : Nat) (rc : Int32 → Int32 → Mem → Option (Int32 × Mem)) (k50 : Int32 × Int32 × Int32 × Int32 → Mem → Option (Int32 × Mem)) (v1 : Int32) (v2 : Int32) (v3 : Int32) (v4 : Int32) (M : Mem) : Option (Int32 × Mem) :=
  ck 2 2175 (
  if (M.1 205 (tn 2)) ≤ v4 then (some (v3, M)) else (bi (f_X12_has v2 v4 M) fun r_5 M_3 =>
  if (b2i r_5) = 0 then (f_X12_waysFrom_b109 N rc k50 v1 v2 v3 v4 M_3) else (bi (f_X12_canFit N v1 v4 M_3) fun r_8 M_6 =>
  if (b2i r_8) = 0 then (f_X12_waysFrom_b109 N rc k50 v1 v2 v3 v4 M_6) else (ck v1 6 (
  bM (uI M_6 218 (tn v1) v4) fun M_10 =>
  bi (rc (v1 + 1) (v2 &&& ((1 <<< (v4 &&& 31)) ^^^ (-1))) M_10) fun r_13 M_11 =>
  f_X12_waysFrom_b109 N rc k50 v1 v2 (v3 + r_13) v4 M_11)))))
def f_X12_waysFrom_h12 (N : Nat) (rc : Int32 → Int32 → Mem → Option (Int32 × Mem)) (k12 : Int32 × Int32 → Mem → Option (Int32 × Mem)) (v1 : Int32) (v3 : Int32) (M : Mem) : Option (Int32 × Mem) :=
  if v1 ≤ v3 then (some (1, M)) else (ck v3 6 (
  ck ((6 * v3) + (M.1 218 (tn v3))) 36 (
  ck ((6 * v3) + (M.1 218 (tn v3))) 36 (
  bM (uI M 217 (tn ((6 * v3) + (M.1 218 (tn v3)))) ((M.1 217 (tn ((6 * v3) + (M.1 218 (tn v3))))) + 1)) fun M_17 =>
  k12 (v1, (v3 + 1)) M_17))))
def g_X12_waysFrom (N : Nat) (rc : Int32 → Int32 → Mem → Option (Int32 × Mem)) (x1 : Int32) (x2 : Int32) (M : Mem) : Option (Int32 × Mem) :=
  ck 2 2175 (
  if x1 = (M.1 205 (tn 2)) then (lp (fun k a m => f_X12_waysFrom_h12 N rc k a.1 a.2 m) N (x1, 0) M) else (lp (fun k a m => f_X12_waysFrom_h50 N rc k a.1 a.2.1 a.2.2.1 a.2.2.2 m) N (x1, x2, 0, 0) M))
def f_X12_waysFrom (N : Nat) : Nat → Int32 → Int32 → Mem → Option (Int32 × Mem)
  | 0 => fun _ _ _ => none
  | D + 1 => fun x1 x2 M => g_X12_waysFrom N (f_X12_waysFrom N D) x1 x2 M
def f_X12_waysBy_h8 (N : Nat) (k8 : Int32 → Mem → Option (Int32 × Mem)) (v3 : Int32) (M : Mem) : Option (Int32 × Mem) :=
  if 36 ≤ v3 then (ck 2 2175 (
  bi (f_X12_waysFrom N 8 0 ((1 <<< ((M.1 205 (tn 2)) &&& 31)) - 1) M) fun r_6 M_4 =>
  some (r_6, M_4))) else (ck v3 36 (
  bM (uI M 217 (tn v3) 0) fun M_8 =>
  k8 (v3 + 1) M_8))
def f_X12_waysBy (N : Nat) (x1 : Int32) (x2 : Int32) (M : Mem) : Option (Int32 × Mem) :=
  bv (f_X12_laysTries N x1 x2 M) fun M_1 =>
  lp (fun k a m => f_X12_waysBy_h8 N k a m) N 0 M_1
def f_X12_fits (N : Nat) (x1 : Int32) (x2 : Int32) (M : Mem) : Option (Int32 × Mem) :=
  bM (uI M 200 1 0) fun M_1 =>
  bi (f_X12_whyNoTries N x1 x2 M_1) fun r_4 M_2 =>
  bM (uI M_2 200 0 r_4) fun M_5 =>
  if (M_5.1 200 0) ≤ 0 then (bi (f_X12_waysBy N x1 x2 M_5) fun r_8 M_6 =>
  some (r_8, M_6)) else (some ((-1), M_5))
def f_X12_whyNoKey (N : Nat) (x1 : Int32) (x2 : Int32) (x3 : Int32) (M : Mem) : Option (Int32 × Mem) :=
  bi (f_X12_whyNoTries N x2 x3 M) fun r_3 M_1 =>
  if r_3 = 1 then (some (1, M_1)) else (bi (f_X12_isGateAt x1 M_1) fun r_6 M_4 =>
  if (b2i r_6) = 0 then (some (2, M_4)) else (some (r_3, M_4)))
def f_X12_known_b72 (N : Nat) (k36 : Int32 × Int32 × Int32 → Mem → Option (Int32 × Mem)) (v1 : Int32) (v4 : Int32) (v5 : Int32) (M : Mem) : Option (Int32 × Mem) :=
  k36 (v1, v4, (v5 + 1)) M
def f_X12_known_h36 (N : Nat) (k36 : Int32 × Int32 × Int32 → Mem → Option (Int32 × Mem)) (v1 : Int32) (v4 : Int32) (v5 : Int32) (M : Mem) : Option (Int32 × Mem) :=
  ck 2 2175 (
  if (M.1 205 (tn 2)) ≤ v5 then (bi (f_X12_refuse 8 M) fun r_12 M_10 =>
  some (r_12, M_10)) else (if v4 ≤ 0 then (f_X12_known_b72 N k36 v1 v4 v5 M) else (ck ((6 * v1) + v5) 36 (
  if (M.1 217 (tn ((6 * v1) + v5))) = v4 then (some (v5, M)) else (f_X12_known_b72 N k36 v1 v4 v5 M)))))
def f_X12_known (N : Nat) (x1 : Int32) (x2 : Int32) (x3 : Int32) (M : Mem) : Option (Int32 × Mem) :=
  bM (uI M 200 1 0) fun M_1 =>
  bi (f_X12_whyNoKey N x1 x2 x3 M_1) fun r_4 M_2 =>
  bM (uI M_2 200 0 r_4) fun M_5 =>
  if (M_5.1 200 0) ≤ 0 then (bi (f_X12_waysBy N x2 x3 M_5) fun r_8 M_6 =>
  lp (fun k a m => f_X12_known_h36 N k a.1 a.2.1 a.2.2 m) N (x1, r_8, 0) M_6) else (some ((-1), M_5))
def f_X12_next_b139 (N : Nat) (k52 : Int32 × Int32 × Int32 × Int32 → Mem → Option (Int32 × Mem)) (k66 : Int32 × Int32 × Int32 × Int32 × Int32 → Mem → Option (Int32 × Mem)) (v3 : Int32) (v4 : Int32) (v5 : Int32) (v6 : Int32) (v7 : Int32) (M : Mem) : Option (Int32 × Mem) :=
  k66 (v3, v4, v5, v6, (v7 + 1)) M
def f_X12_next_b125 (N : Nat) (k52 : Int32 × Int32 × Int32 × Int32 → Mem → Option (Int32 × Mem)) (k66 : Int32 × Int32 × Int32 × Int32 × Int32 → Mem → Option (Int32 × Mem)) (v3 : Int32) (v6 : Int32) (v7 : Int32) (v8 : Int32) (M : Mem) : Option (Int32 × Mem) :=
  f_X12_next_b139 N k52 k66 v3 ((10 * v6) + v7) v8 v6 v7 M
def f_X12_next_h66 (N : Nat) (k52 : Int32 × Int32 × Int32 × Int32 → Mem → Option (Int32 × Mem)) (k66 : Int32 × Int32 × Int32 × Int32 × Int32 → Mem → Option (Int32 × Mem)) (v3 : Int32) (v4 : Int32) (v5 : Int32) (v6 : Int32) (v7 : Int32) (M : Mem) : Option (Int32 × Mem) :=
  ck 2 2175 (
  if (M.1 205 (tn 2)) ≤ v7 then (k52 (v3, v4, v5, (v6 + 1)) M) else (ck ((6 * v6) + v7) 36 (
  ck ((6 * v6) + v7) 36 (
  bI (imax (M.1 217 (tn ((6 * v6) + v7))) (v3 - (M.1 217 (tn ((6 * v6) + v7))))) fun y_13 =>
  if v4 < 0 then (f_X12_next_b125 N k52 k66 v3 v6 v7 y_13 M) else (if y_13 < v5 then (f_X12_next_b125 N k52 k66 v3 v6 v7 y_13 M) else (f_X12_next_b139 N k52 k66 v3 v4 v5 v6 v7 M))))))
def f_X12_next_h52 (N : Nat) (k52 : Int32 × Int32 × Int32 × Int32 → Mem → Option (Int32 × Mem)) (v3 : Int32) (v4 : Int32) (v5 : Int32) (v6 : Int32) (M : Mem) : Option (Int32 × Mem) :=
  ck 2 2175 (
  if (M.1 205 (tn 2)) ≤ v6 then (some (v4, M)) else (lp (fun k a m => f_X12_next_h66 N k52 k a.1 a.2.1 a.2.2.1 a.2.2.2.1 a.2.2.2.2 m) N (v3, v4, v5, v6, 0) M))
def f_X12_next (N : Nat) (x1 : Int32) (x2 : Int32) (M : Mem) : Option (Int32 × Mem) :=
  bM (uI M 200 1 0) fun M_1 =>
  bi (f_X12_whyNoTries N x1 x2 M_1) fun r_4 M_2 =>
  bM (uI M_2 200 0 r_4) fun M_5 =>
  if (M_5.1 200 0) ≤ 0 then (bi (f_X12_waysBy N x1 x2 M_5) fun r_8 M_6 =>
  if 2 ≤ r_8 then (lp (fun k a m => f_X12_next_h52 N k a.1 a.2.1 a.2.2.1 a.2.2.2 m) N (r_8, (-1), 0, 0) M_6) else (bi (f_X12_refuse 8 M_6) fun r_16 M_14 =>
  some (r_16, M_14))) else (some ((-1), M_5))
def f_X12_chance_b38 (N : Nat) (v1 : Int32) (v2 : Int32) (v3 : Int32) (v4 : Int32) (M : Mem) : Option (Bool × Mem) :=
  if (M.1 200 0) ≤ 0 then (bi (f_X12_waysBy N v3 v4 M) fun r_8 M_6 =>
  if r_8 = 0 then (bi (f_X12_no 8 M_6) fun r_15 M_13 =>
  some (r_15, M_13)) else (ck ((6 * v1) + v2) 36 (
  bi (f_X12_fraction N (Int32.toInt64 (M_6.1 217 (tn ((6 * v1) + v2)))) (Int32.toInt64 r_8) M_6) fun r_12 M_10 =>
  some (r_12, M_10)))) else (some (false, M))
def f_X12_chance (N : Nat) (x1 : Int32) (x2 : Int32) (x3 : Int32) (x4 : Int32) (M : Mem) : Option (Bool × Mem) :=
  bM (uI M 200 1 0) fun M_1 =>
  bi (f_X12_whyNoKey N x1 x3 x4 M_1) fun r_4 M_2 =>
  bM (uI M_2 200 0 r_4) fun M_5 =>
  if (M_5.1 200 0) = 1 then (f_X12_chance_b38 N x1 x2 x3 x4 M_5) else (bi (f_X12_isGateAt x2 M_5) fun r_18 M_16 =>
  if (b2i r_18) = 0 then (bM (uI M_16 200 0 2) fun M_19 =>
  f_X12_chance_b38 N x1 x2 x3 x4 M_19) else (f_X12_chance_b38 N x1 x2 x3 x4 M_16))
def f_X12_draw (x1 : Int32) (M : Mem) : Option (Int32 × Mem) :=
  bM (uI M 200 44 ((((M.1 200 44) * 2971) + 10667) - (((M.1 200 44) * 2971) + 10667) / 65536 * 65536)) fun M_1 =>
  cz x1 (
  some ((((M_1.1 200 44) / 8) - ((M_1.1 200 44) / 8) / x1 * x1), M_1))
def f_X12_anyHours_h19 (N : Nat) (k19 : Int32 × Int32 → Mem → Option (Bool × Mem)) (v1 : Int32) (v2 : Int32) (M : Mem) : Option (Bool × Mem) :=
  if v1 ≤ v2 then (bM (uI M 200 47 ((M.1 200 47) + v1)) fun M_2 =>
  some (true, M_2)) else (bv (f_X12_goesHour N M) fun M_3 =>
  bi (f_X12_foggyMany N M_3) fun r_7 M_5 =>
  bM (uI M_5 200 48 ((M_3.1 200 48) + r_7)) fun M_8 =>
  k19 (v1, (v2 + 1)) M_8)
def f_X12_anyHours (N : Nat) (x1 : Int32) (M : Mem) : Option (Bool × Mem) :=
  ck 9 2175 (
  if ((M.1 205 (tn 9)) + x1) ≤ 9999 then (lp (fun k a m => f_X12_anyHours_h19 N k a.1 a.2 m) N (x1, 0) M) else (some (false, M)))
def f_X12_isStorm_h16 (N : Nat) (k16 : Int32 × Int32 → Mem → Option (Bool × Mem)) (v1 : Int32) (v2 : Int32) (M : Mem) : Option (Bool × Mem) :=
  ck 2 2175 (
  if (M.1 205 (tn 2)) ≤ v2 then (ck 10 2175 (
  bM (uI M 205 (tn 10) v1) fun M_8 =>
  bM (uI M_8 200 49 ((M_8.1 200 49) + 1)) fun M_9 =>
  some (true, M_9))) else (bi (f_X12_draw 2 M) fun r_12 M_10 =>
  bI (v1 ||| (r_12 <<< (v2 &&& 31))) fun y_13 =>
  k16 (y_13, (v2 + 1)) M_10))
def f_X12_isStorm (N : Nat) (M : Mem) : Option (Bool × Mem) :=
  bi (f_X12_draw 5 M) fun r_3 M_1 =>
  ck 6 2175 (
  bM (uI M_1 205 (tn 6) r_3) fun M_5 =>
  lp (fun k a m => f_X12_isStorm_h16 N k a.1 a.2 m) N (0, 0) M_5)
def f_X12_does_b91 (N : Nat) (v3 : Int32) (s0 : Int32) (s1 : Int32) (M : Mem) : Option (Bool × Mem) :=
  if s1 = s0 then (some (false, M)) else (ck 10 2175 (
  ck 10 2175 (
  bM (uI M 205 (tn 10) ((M.1 205 (tn 10)) ^^^ (1 <<< (v3 &&& 31)))) fun M_9 =>
  some (true, M_9))))
def f_X12_does_b57 (N : Nat) (v3 : Int32) (s0 : Int32) (M : Mem) : Option (Bool × Mem) :=
  ck 6 2175 (
  bM (uI M 205 (tn 6) v3) fun M_12 =>
  zb s0 fun b_13 =>
  some (b_13, M_12))
def f_X12_does (N : Nat) (x1 : Int32) (M : Mem) : Option (Bool × Mem) :=
  ck x1 2175 (
  ck (x1 + 1) 2175 (
  if (M.1 205 (tn x1)) = 0 then (bi (f_X12_anyHours N (M.1 205 (tn (x1 + 1))) M) fun r_19 M_17 =>
  some (r_19, M_17)) else (if (M.1 205 (tn x1)) = 4 then (bi (f_X12_isStorm N M) fun r_16 M_14 =>
  some (r_16, M_14)) else (if (M.1 205 (tn x1)) = 3 then (ck 6 2175 (
  if (M.1 205 (tn 6)) = (M.1 205 (tn (x1 + 1))) then (f_X12_does_b57 N (M.1 205 (tn (x1 + 1))) 0 M) else (f_X12_does_b57 N (M.1 205 (tn (x1 + 1))) 1 M))) else (ck 10 2175 (
  bi (f_X12_has (M.1 205 (tn 10)) (M.1 205 (tn (x1 + 1))) M) fun r_6 M_4 =>
  if (M.1 205 (tn x1)) = 1 then (f_X12_does_b91 N (M.1 205 (tn (x1 + 1))) 1 (b2i r_6) M_4) else (f_X12_does_b91 N (M.1 205 (tn (x1 + 1))) 0 (b2i r_6) M_4)))))))
def f_X12_isSo (x1 : Int32) (M : Mem) : Option (Bool × Mem) :=
  ck (x1 + 6) 2175 (
  if (M.1 205 (tn (x1 + 6))) = 1 then (ck 10 2175 (
  ck (x1 + 1) 2175 (
  bi (f_X12_has (M.1 205 (tn 10)) (M.1 205 (tn (x1 + 1))) M) fun r_22 M_20 =>
  some (r_22, M_20)))) else (ck (x1 + 1) 2175 (
  ck (x1 + 2) 2175 (
  bi (f_X12_board (M.1 205 (tn (x1 + 1))) (M.1 205 (tn (x1 + 2))) M) fun r_6 M_4 =>
  if (M.1 205 (tn (x1 + 6))) = 0 then (bi (f_X12_isFoggy r_6 M_4) fun r_17 M_15 =>
  some (r_17, M_15)) else (bi (f_X12_fogOf r_6 M_4) fun r_9 M_7 =>
  ck (x1 + 7) 2175 (
  if (M_7.1 205 (tn (x1 + 7))) = 60 then (ck (x1 + 3) 2175 (
  if (M_7.1 205 (tn (x1 + 3))) ≤ r_9 then (some (false, M_7)) else (some (true, M_7)))) else (ck (x1 + 7) 2175 (
  if (M_7.1 205 (tn (x1 + 7))) = 62 then (ck (x1 + 3) 2175 (
  if r_9 ≤ (M_7.1 205 (tn (x1 + 3))) then (some (false, M_7)) else (some (true, M_7)))) else (ck (x1 + 3) 2175 (
  if r_9 = (M_7.1 205 (tn (x1 + 3))) then (some (true, M_7)) else (some (false, M_7))))))))))))
def f_X12_doOne_h118 (N : Nat) (rc : Int32 → Int32 → Mem → Option Mem) (k118 : Int32 × Int32 × Int32 → Mem → Option (Mem)) (v1 : Int32) (v2 : Int32) (v4 : Int32) (M : Mem) : Option (Mem) :=
  ck (v2 + 1) 2175 (
  if (M.1 205 (tn (v2 + 1))) ≤ v4 then (some M) else (if (M.1 200 43) = 0 then (ck (v2 + 8) 2175 (
  bv (rc (v1 + 1) (M.1 205 (tn (v2 + 8))) M) fun M_7 =>
  k118 (v1, v2, (v4 + 1)) M_7)) else (some M)))
def f_X12_doOne_b109 (N : Nat) (rc : Int32 → Int32 → Mem → Option Mem) (v1 : Int32) (v2 : Int32) (v3 : Int32) (M : Mem) : Option (Mem) :=
  if v3 = 6 then (lp (fun k a m => f_X12_doOne_h118 N rc k a.1 a.2.1 a.2.2 m) N (v1, v2, 0) M) else (if v3 ≤ 6 then (some M) else (bM (uI M 200 43 1) fun M_4 =>
  some M_4))
def f_X12_doOne (N : Nat) (rc : Int32 → Int32 → Mem → Option Mem) (x1 : Int32) (M : Mem) : Option (Mem) :=
  if (M.1 200 45) = 300 then (bM (uI M 200 43 1) fun M_20 =>
  bM (uI M_20 200 50 1) fun M_21 =>
  some M_21) else (bM (uI M 200 45 ((M.1 200 45) + 1)) fun M_1 =>
  ck (165 + (9 * x1)) 2175 (
  bI (M_1.1 205 (tn (165 + (9 * x1)))) fun y_3 =>
  if 5 ≤ y_3 then (if y_3 = 5 then (bi (f_X12_isSo (165 + (9 * x1)) M_1) fun r_11 M_9 =>
  if (b2i r_11) = 0 then (f_X12_doOne_b109 N rc x1 (165 + (9 * x1)) y_3 M_9) else (ck ((165 + (9 * x1)) + 8) 2175 (
  bv (rc (x1 + 1) (M_9.1 205 (tn ((165 + (9 * x1)) + 8))) M_9) fun M_13 =>
  some M_13))) else (f_X12_doOne_b109 N rc x1 (165 + (9 * x1)) y_3 M_1)) else (bi (f_X12_does N (165 + (9 * x1)) M_1) fun r_17 M_15 =>
  if (b2i r_17) = 0 then (bM (uI M_15 200 46 ((M_1.1 200 46) + 1)) fun M_18 =>
  some M_18) else (bM (uI M_15 200 46 ((M_1.1 200 46) + 0)) fun M_19 =>
  some M_19))))
def f_X12_doAll_h2 (N : Nat) (rc : Int32 → Int32 → Mem → Option Mem) (k2 : Int32 × Int32 → Mem → Option (Mem)) (v2 : Int32) (v3 : Int32) (M : Mem) : Option (Mem) :=
  if v2 ≤ v3 then (some M) else (if (M.1 200 43) = 0 then (bv (f_X12_doOne N rc v3 M) fun M_1 =>
  ck ((165 + (9 * v3)) + 8) 2175 (
  bI (M_1.1 205 (tn ((165 + (9 * v3)) + 8))) fun y_4 =>
  k2 (v2, y_4) M_1)) else (some M))
def g_X12_doAll (N : Nat) (rc : Int32 → Int32 → Mem → Option Mem) (x1 : Int32) (x2 : Int32) (M : Mem) : Option (Mem) :=
  lp (fun k a m => f_X12_doAll_h2 N rc k a.1 a.2 m) N (x2, x1) M
def f_X12_doAll (N : Nat) : Nat → Int32 → Int32 → Mem → Option (Mem)
  | 0 => fun _ _ _ => none
  | D + 1 => fun x1 x2 M => g_X12_doAll N (f_X12_doAll N D) x1 x2 M
def f_X12_runsNights (N : Nat) (x1 : Int32) (M : Mem) : Option (Mem) :=
  bM (uI M 200 44 x1) fun M_1 =>
  bM (uI M_1 200 45 0) fun M_2 =>
  bM (uI M_2 200 46 0) fun M_3 =>
  bM (uI M_3 200 47 0) fun M_4 =>
  bM (uI M_4 200 48 0) fun M_5 =>
  bM (uI M_5 200 49 0) fun M_6 =>
  bM (uI M_6 200 50 0) fun M_7 =>
  bM (uI M_7 200 43 0) fun M_8 =>
  ck 164 2175 (
  bv (f_X12_doAll N 6 0 (M_8.1 205 (tn 164)) M_8) fun M_10 =>
  some M_10)
def f_X12_live (N : Nat) (x1 : Int32) (M : Mem) : Option (Int32 × Mem) :=
  bM (uI M 200 1 0) fun M_1 =>
  bM (uI M_1 200 0 0) fun M_2 =>
  bi (f_X12_isIn (Int32.toInt64 x1) 0 9999 M_2) fun r_5 M_3 =>
  if (b2i r_5) = 0 then (bi (f_X12_refuse 5 M_3) fun r_25 M_23 =>
  some (r_25, M_23)) else (ck 163 2175 (
  if (M_3.1 205 (tn 163)) = 0 then (bi (f_X12_refuse 8 M_3) fun r_22 M_20 =>
  some (r_22, M_20)) else (bv (f_X12_runsNights N x1 M_3) fun M_7 =>
  ck 0 5 (
  bM (uI M_7 219 (tn 0) (M_7.1 200 46)) fun M_10 =>
  ck 1 5 (
  bM (uI M_10 219 (tn 1) (M_10.1 200 47)) fun M_12 =>
  ck 2 5 (
  bM (uI M_12 219 (tn 2) (M_12.1 200 48)) fun M_14 =>
  ck 3 5 (
  bM (uI M_14 219 (tn 3) (M_14.1 200 49)) fun M_16 =>
  ck 4 5 (
  bM (uI M_16 219 (tn 4) (M_16.1 200 50)) fun M_18 =>
  bM (uI M_18 200 42 1) fun M_19 =>
  some ((M_19.1 200 45), M_19)))))))))
def f_X12_lived (x1 : Int32) (M : Mem) : Option (Int32 × Mem) :=
  bM (uI M 200 1 0) fun M_1 =>
  bM (uI M_1 200 0 0) fun M_2 =>
  bi (f_X12_isIn (Int32.toInt64 x1) 0 4 M_2) fun r_5 M_3 =>
  if (b2i r_5) = 0 then (bi (f_X12_refuse 5 M_3) fun r_12 M_10 =>
  some (r_12, M_10)) else (if (M_3.1 200 42) = 0 then (bi (f_X12_refuse 8 M_3) fun r_8 M_6 =>
  some (r_8, M_6)) else (ck x1 5 (
  some ((M_3.1 219 (tn x1)), M_3))))
def f_X12_mean_h118 (N : Nat) (k93 : Int32 × Int32 × Int64 × Int32 → Mem → Option (Bool × Mem)) (k118 : Int32 × Int32 × Int64 × Int32 × Int32 → Mem → Option (Bool × Mem)) (v1 : Int32) (v2 : Int32) (v3 : Int64) (v5 : Int32) (v6 : Int32) (M : Mem) : Option (Bool × Mem) :=
  if 163 ≤ v6 then (k93 (v1, v2, v3, (v5 + 1)) M) else (ck v6 163 (
  ck v6 2175 (
  bM (uI M 205 (tn v6) (M.1 220 (tn v6))) fun M_24 =>
  k118 (v1, v2, v3, v5, (v6 + 1)) M_24)))
def f_X12_mean_h93 (N : Nat) (k93 : Int32 × Int32 × Int64 × Int32 → Mem → Option (Bool × Mem)) (v1 : Int32) (v2 : Int32) (v3 : Int64) (v5 : Int32) (M : Mem) : Option (Bool × Mem) :=
  if v2 ≤ v5 then (bi (f_X12_fraction N v3 (Int32.toInt64 v2) M) fun r_15 M_13 =>
  some (r_15, M_13)) else (bv (f_X12_runsNights N (v1 + v5) M) fun M_16 =>
  bi (f_X12_foggyMany N M_16) fun r_20 M_18 =>
  bL (v3 + (Int32.toInt64 r_20)) fun y_21 =>
  lp (fun k a m => f_X12_mean_h118 N k93 k a.1 a.2.1 a.2.2.1 a.2.2.2.1 a.2.2.2.2 m) N (v1, v2, y_21, v5, 0) M_18)
def f_X12_mean_h63 (N : Nat) (k63 : Int32 × Int32 × Int32 → Mem → Option (Bool × Mem)) (v1 : Int32) (v2 : Int32) (v3 : Int32) (M : Mem) : Option (Bool × Mem) :=
  if 163 ≤ v3 then (lp (fun k a m => f_X12_mean_h93 N k a.1 a.2.1 a.2.2.1 a.2.2.2 m) N (v1, v2, 0, 0) M) else (ck v3 2175 (
  ck v3 163 (
  bM (uI M 220 (tn v3) (M.1 205 (tn v3))) fun M_27 =>
  k63 (v1, v2, (v3 + 1)) M_27)))
def f_X12_mean (N : Nat) (x1 : Int32) (x2 : Int32) (M : Mem) : Option (Bool × Mem) :=
  bM (uI M 200 1 0) fun M_1 =>
  bM (uI M_1 200 0 0) fun M_2 =>
  bi (f_X12_isIn (Int32.toInt64 x2) 1 20 M_2) fun r_5 M_3 =>
  if (b2i r_5) = 0 then (bi (f_X12_no 5 M_3) fun r_8 M_6 =>
  some (r_8, M_6)) else (bi (f_X12_isIn (Int32.toInt64 x1) 0 (Int32.toInt64 (10000 - x2)) M_3) fun r_11 M_9 =>
  if (b2i r_11) = 0 then (bi (f_X12_no 5 M_9) fun r_33 M_31 =>
  some (r_33, M_31)) else (ck 163 2175 (
  if (M_9.1 205 (tn 163)) = 0 then (bi (f_X12_no 8 M_9) fun r_30 M_28 =>
  some (r_30, M_28)) else (lp (fun k a m => f_X12_mean_h63 N k a.1 a.2.1 a.2.2 m) N (x1, x2, 0) M_9))))
def f_X12_mark (N : Nat) (M : Mem) : Option (Int32 × Mem) :=
  bM (uI M 200 1 0) fun M_1 =>
  bM (uI M_1 200 0 0) fun M_2 =>
  if (M_2.1 200 24) = 3 then (bi (f_X12_refuse 7 M_2) fun r_8 M_6 =>
  some (r_8, M_6)) else (bM (uI M_2 200 24 ((M_2.1 200 24) + 1)) fun M_3 =>
  bv (f_X12_copy N 0 (M_3.1 200 24) M_3) fun M_4 =>
  some ((M_4.1 200 24), M_4))
def f_X12_back (N : Nat) (M : Mem) : Option (Int32 × Mem) :=
  bM (uI M 200 1 0) fun M_1 =>
  bM (uI M_1 200 0 0) fun M_2 =>
  if (M_2.1 200 24) = 0 then (bi (f_X12_refuse 8 M_2) fun r_8 M_6 =>
  some (r_8, M_6)) else (bv (f_X12_copy N (M_2.1 200 24) 0 M_2) fun M_3 =>
  bM (uI M_3 200 24 ((M_3.1 200 24) - 1)) fun M_5 =>
  some ((M_5.1 200 24), M_5))
