/-! the switch and the loop -/
theorem d_law_33 : decode code 33 = .ok (.tableswitch 1976 0 55 #[239, 252, 266, 280, 323, 396, 430, 493, 556, 579, 602, 625, 648, 681, 704, 737, 770, 813, 846, 869, 892, 941, 974, 997, 1030, 1083, 1126, 1169, 1202, 1235, 1258, 1281, 1294, 1307, 1320, 1333, 1356, 1389, 1452, 1475, 1528, 1561, 1584, 1607, 1640, 1663, 1686, 1709, 1742, 1785, 1818, 1871, 1894, 1917, 1950, 1963], 239) := by decide +kernel
theorem m63 (x : Int32) : ∃ k, k < 64 ∧ x &&& 63 = nI k := ⟨wU x &&& 63, Nat.lt_of_le_of_lt Nat.and_le_right (by decide), by
  have h : x &&& 63 = nI (wU x) &&& nI 63 := by
    rw [nI_wU]
    first | done | rfl
  rw [h, nx_and]⟩
theorem six {N0 i : Nat} (hN : N0 ≤ 3072) (hi : i ≤ 4000) (h : ¬ nI N0 - 6 < nI i) : i + 6 ≤ N0 := by
  by_cases h6 : 6 ≤ N0
  · rw [show (6 : Int32) = nI 6 from rfl, n_sub h6, nI_ltI (by omega) (by omega)] at h
    omega
  · exfalso
    apply h
    refine Int32.lt_of_lt_of_le (b := 0) ?_ (nI_pos' (by omega))
    rcases (show N0 = 0 ∨ N0 = 1 ∨ N0 = 2 ∨ N0 = 3 ∨ N0 = 4 ∨ N0 = 5 by omega) with rfl | rfl | rfl | rfl | rfl | rfl <;> decide +kernel
section LW
variable {b0 N0 : Nat} {xs : Nat → Int32} {MC MS : Mem}
abbrev lv3 (x : Int32) : List (Nat × Value) := [(0, .ref 700), (1, .ref 0), (2, .ref 200), (3, .int x)]
theorem law_switch {i : Nat} (hi : i + 6 ≤ N0) (hN : N0 ≤ 3072) (h : Rel MC MS) (k : ∀ MC2 MS2, Rel MC2 MS2 → Lw b0 N0 xs 2009 (lv3 (nI i)) [] MC2 MS2) {j : Nat} (hj : j < 64) : Lw b0 N0 xs 33 (lv3 (nI i)) [.int (nI j)] MC MS := by
  by_cases h56 : 56 ≤ j
  · exact Lw_tabOut 2009 d_law_33 (Or.inr (by rw [nI_toInt (by omega)]; omega)) (by decide) (k MC MS h)
  match j, hj, h56 with
  | 0, _, _ => exact Lw_tabIn (off := 239) 272 d_law_33 (by decide +kernel) (by decide +kernel) (by decide +kernel) (by decide) (case_0 hi hN h k)
  | 1, _, _ => exact Lw_tabIn (off := 252) 285 d_law_33 (by decide +kernel) (by decide +kernel) (by decide +kernel) (by decide) (case_1 hi hN h k)
  | 2, _, _ => exact Lw_tabIn (off := 266) 299 d_law_33 (by decide +kernel) (by decide +kernel) (by decide +kernel) (by decide) (case_2 hi hN h k)
  | 3, _, _ => exact Lw_tabIn (off := 280) 313 d_law_33 (by decide +kernel) (by decide +kernel) (by decide +kernel) (by decide) (case_3 hi hN h k)
  | 4, _, _ => exact Lw_tabIn (off := 323) 356 d_law_33 (by decide +kernel) (by decide +kernel) (by decide +kernel) (by decide) (case_4 hi hN h k)
  | 5, _, _ => exact Lw_tabIn (off := 396) 429 d_law_33 (by decide +kernel) (by decide +kernel) (by decide +kernel) (by decide) (case_5 hi hN h k)
  | 6, _, _ => exact Lw_tabIn (off := 430) 463 d_law_33 (by decide +kernel) (by decide +kernel) (by decide +kernel) (by decide) (case_6 hi hN h k)
  | 7, _, _ => exact Lw_tabIn (off := 493) 526 d_law_33 (by decide +kernel) (by decide +kernel) (by decide +kernel) (by decide) (case_7 hi hN h k)
  | 8, _, _ => exact Lw_tabIn (off := 556) 589 d_law_33 (by decide +kernel) (by decide +kernel) (by decide +kernel) (by decide) (case_8 hi hN h k)
  | 9, _, _ => exact Lw_tabIn (off := 579) 612 d_law_33 (by decide +kernel) (by decide +kernel) (by decide +kernel) (by decide) (case_9 hi hN h k)
  | 10, _, _ => exact Lw_tabIn (off := 602) 635 d_law_33 (by decide +kernel) (by decide +kernel) (by decide +kernel) (by decide) (case_10 hi hN h k)
  | 11, _, _ => exact Lw_tabIn (off := 625) 658 d_law_33 (by decide +kernel) (by decide +kernel) (by decide +kernel) (by decide) (case_11 hi hN h k)
  | 12, _, _ => exact Lw_tabIn (off := 648) 681 d_law_33 (by decide +kernel) (by decide +kernel) (by decide +kernel) (by decide) (case_12 hi hN h k)
  | 13, _, _ => exact Lw_tabIn (off := 681) 714 d_law_33 (by decide +kernel) (by decide +kernel) (by decide +kernel) (by decide) (case_13 hi hN h k)
  | 14, _, _ => exact Lw_tabIn (off := 704) 737 d_law_33 (by decide +kernel) (by decide +kernel) (by decide +kernel) (by decide) (case_14 hi hN h k)
  | 15, _, _ => exact Lw_tabIn (off := 737) 770 d_law_33 (by decide +kernel) (by decide +kernel) (by decide +kernel) (by decide) (case_15 hi hN h k)
  | 16, _, _ => exact Lw_tabIn (off := 770) 803 d_law_33 (by decide +kernel) (by decide +kernel) (by decide +kernel) (by decide) (case_16 hi hN h k)
  | 17, _, _ => exact Lw_tabIn (off := 813) 846 d_law_33 (by decide +kernel) (by decide +kernel) (by decide +kernel) (by decide) (case_17 hi hN h k)
  | 18, _, _ => exact Lw_tabIn (off := 846) 879 d_law_33 (by decide +kernel) (by decide +kernel) (by decide +kernel) (by decide) (case_18 hi hN h k)
  | 19, _, _ => exact Lw_tabIn (off := 869) 902 d_law_33 (by decide +kernel) (by decide +kernel) (by decide +kernel) (by decide) (case_19 hi hN h k)
  | 20, _, _ => exact Lw_tabIn (off := 892) 925 d_law_33 (by decide +kernel) (by decide +kernel) (by decide +kernel) (by decide) (case_20 hi hN h k)
  | 21, _, _ => exact Lw_tabIn (off := 941) 974 d_law_33 (by decide +kernel) (by decide +kernel) (by decide +kernel) (by decide) (case_21 hi hN h k)
  | 22, _, _ => exact Lw_tabIn (off := 974) 1007 d_law_33 (by decide +kernel) (by decide +kernel) (by decide +kernel) (by decide) (case_22 hi hN h k)
  | 23, _, _ => exact Lw_tabIn (off := 997) 1030 d_law_33 (by decide +kernel) (by decide +kernel) (by decide +kernel) (by decide) (case_23 hi hN h k)
  | 24, _, _ => exact Lw_tabIn (off := 1030) 1063 d_law_33 (by decide +kernel) (by decide +kernel) (by decide +kernel) (by decide) (case_24 hi hN h k)
  | 25, _, _ => exact Lw_tabIn (off := 1083) 1116 d_law_33 (by decide +kernel) (by decide +kernel) (by decide +kernel) (by decide) (case_25 hi hN h k)
  | 26, _, _ => exact Lw_tabIn (off := 1126) 1159 d_law_33 (by decide +kernel) (by decide +kernel) (by decide +kernel) (by decide) (case_26 hi hN h k)
  | 27, _, _ => exact Lw_tabIn (off := 1169) 1202 d_law_33 (by decide +kernel) (by decide +kernel) (by decide +kernel) (by decide) (case_27 hi hN h k)
  | 28, _, _ => exact Lw_tabIn (off := 1202) 1235 d_law_33 (by decide +kernel) (by decide +kernel) (by decide +kernel) (by decide) (case_28 hi hN h k)
  | 29, _, _ => exact Lw_tabIn (off := 1235) 1268 d_law_33 (by decide +kernel) (by decide +kernel) (by decide +kernel) (by decide) (case_29 hi hN h k)
  | 30, _, _ => exact Lw_tabIn (off := 1258) 1291 d_law_33 (by decide +kernel) (by decide +kernel) (by decide +kernel) (by decide) (case_30 hi hN h k)
  | 31, _, _ => exact Lw_tabIn (off := 1281) 1314 d_law_33 (by decide +kernel) (by decide +kernel) (by decide +kernel) (by decide) (case_31 hi hN h k)
  | 32, _, _ => exact Lw_tabIn (off := 1294) 1327 d_law_33 (by decide +kernel) (by decide +kernel) (by decide +kernel) (by decide) (case_32 hi hN h k)
  | 33, _, _ => exact Lw_tabIn (off := 1307) 1340 d_law_33 (by decide +kernel) (by decide +kernel) (by decide +kernel) (by decide) (case_33 hi hN h k)
  | 34, _, _ => exact Lw_tabIn (off := 1320) 1353 d_law_33 (by decide +kernel) (by decide +kernel) (by decide +kernel) (by decide) (case_34 hi hN h k)
  | 35, _, _ => exact Lw_tabIn (off := 1333) 1366 d_law_33 (by decide +kernel) (by decide +kernel) (by decide +kernel) (by decide) (case_35 hi hN h k)
  | 36, _, _ => exact Lw_tabIn (off := 1356) 1389 d_law_33 (by decide +kernel) (by decide +kernel) (by decide +kernel) (by decide) (case_36 hi hN h k)
  | 37, _, _ => exact Lw_tabIn (off := 1389) 1422 d_law_33 (by decide +kernel) (by decide +kernel) (by decide +kernel) (by decide) (case_37 hi hN h k)
  | 38, _, _ => exact Lw_tabIn (off := 1452) 1485 d_law_33 (by decide +kernel) (by decide +kernel) (by decide +kernel) (by decide) (case_38 hi hN h k)
  | 39, _, _ => exact Lw_tabIn (off := 1475) 1508 d_law_33 (by decide +kernel) (by decide +kernel) (by decide +kernel) (by decide) (case_39 hi hN h k)
  | 40, _, _ => exact Lw_tabIn (off := 1528) 1561 d_law_33 (by decide +kernel) (by decide +kernel) (by decide +kernel) (by decide) (case_40 hi hN h k)
  | 41, _, _ => exact Lw_tabIn (off := 1561) 1594 d_law_33 (by decide +kernel) (by decide +kernel) (by decide +kernel) (by decide) (case_41 hi hN h k)
  | 42, _, _ => exact Lw_tabIn (off := 1584) 1617 d_law_33 (by decide +kernel) (by decide +kernel) (by decide +kernel) (by decide) (case_42 hi hN h k)
  | 43, _, _ => exact Lw_tabIn (off := 1607) 1640 d_law_33 (by decide +kernel) (by decide +kernel) (by decide +kernel) (by decide) (case_43 hi hN h k)
  | 44, _, _ => exact Lw_tabIn (off := 1640) 1673 d_law_33 (by decide +kernel) (by decide +kernel) (by decide +kernel) (by decide) (case_44 hi hN h k)
  | 45, _, _ => exact Lw_tabIn (off := 1663) 1696 d_law_33 (by decide +kernel) (by decide +kernel) (by decide +kernel) (by decide) (case_45 hi hN h k)
  | 46, _, _ => exact Lw_tabIn (off := 1686) 1719 d_law_33 (by decide +kernel) (by decide +kernel) (by decide +kernel) (by decide) (case_46 hi hN h k)
  | 47, _, _ => exact Lw_tabIn (off := 1709) 1742 d_law_33 (by decide +kernel) (by decide +kernel) (by decide +kernel) (by decide) (case_47 hi hN h k)
  | 48, _, _ => exact Lw_tabIn (off := 1742) 1775 d_law_33 (by decide +kernel) (by decide +kernel) (by decide +kernel) (by decide) (case_48 hi hN h k)
  | 49, _, _ => exact Lw_tabIn (off := 1785) 1818 d_law_33 (by decide +kernel) (by decide +kernel) (by decide +kernel) (by decide) (case_49 hi hN h k)
  | 50, _, _ => exact Lw_tabIn (off := 1818) 1851 d_law_33 (by decide +kernel) (by decide +kernel) (by decide +kernel) (by decide) (case_50 hi hN h k)
  | 51, _, _ => exact Lw_tabIn (off := 1871) 1904 d_law_33 (by decide +kernel) (by decide +kernel) (by decide +kernel) (by decide) (case_51 hi hN h k)
  | 52, _, _ => exact Lw_tabIn (off := 1894) 1927 d_law_33 (by decide +kernel) (by decide +kernel) (by decide +kernel) (by decide) (case_52 hi hN h k)
  | 53, _, _ => exact Lw_tabIn (off := 1917) 1950 d_law_33 (by decide +kernel) (by decide +kernel) (by decide +kernel) (by decide) (case_53 hi hN h k)
  | 54, _, _ => exact Lw_tabIn (off := 1950) 1983 d_law_33 (by decide +kernel) (by decide +kernel) (by decide +kernel) (by decide) (case_54 hi hN h k)
  | 55, _, _ => exact Lw_tabIn (off := 1963) 1996 d_law_33 (by decide +kernel) (by decide +kernel) (by decide +kernel) (by decide) (case_55 hi hN h k)
  | j + 56, _, h56 => exact absurd (by omega) h56
theorem law_loop (hN : N0 ≤ 3072) : ∀ (n i : Nat) (MC MS : Mem), N0 + 6 ≤ i + n → i ≤ 4000 → Rel MC MS → Lw b0 N0 xs 18 (lv3 (nI i)) [] MC MS := by
  intro n
  induction n with
  | zero =>
    intro i MC MS hn hi h
    refine Lw_iload_n (q := 3) (i := 3) 3 (by decide +kernel) rfl rfl (Lw_pc 19 rfl ?_)
    refine Lw_aload_n (q := 0) (i := 0) 0 (by decide +kernel) rfl rfl (Lw_pc 20 rfl ?_)
    refine Lw_slen (by decide +kernel) (Lw_pc 21 rfl ?_)
    refine Lw_bipush (i := 6) (v := 6) (by decide +kernel) (by decide) (Lw_pc 23 rfl ?_)
    refine Lw_isub (by decide +kernel) (Lw_pc 24 rfl ?_)
    refine Lw_icmp_gt (off := 1991) 2015 (by decide +kernel) (by decide) (fun _ => ?_) (fun hc => ?_)
    · exact Lw_iconst (i := 1) (v := 1) (by decide +kernel) (by decide) (Lw_pc 2016 rfl (Lw_end (by decide +kernel)))
    · have := six hN hi hc
      omega
  | succ n ih =>
    intro i MC MS hn hi h
    refine Lw_iload_n (q := 3) (i := 3) 3 (by decide +kernel) rfl rfl (Lw_pc 19 rfl ?_)
    refine Lw_aload_n (q := 0) (i := 0) 0 (by decide +kernel) rfl rfl (Lw_pc 20 rfl ?_)
    refine Lw_slen (by decide +kernel) (Lw_pc 21 rfl ?_)
    refine Lw_bipush (i := 6) (v := 6) (by decide +kernel) (by decide) (Lw_pc 23 rfl ?_)
    refine Lw_isub (by decide +kernel) (Lw_pc 24 rfl ?_)
    refine Lw_icmp_gt (off := 1991) 2015 (by decide +kernel) (by decide) (fun _ => ?_) (fun hc => ?_)
    · exact Lw_iconst (i := 1) (v := 1) (by decide +kernel) (by decide) (Lw_pc 2016 rfl (Lw_end (by decide +kernel)))
    · have h6 := six hN hi hc
      refine Lw_pc 27 rfl (Lw_aload_n (q := 0) (i := 0) 0 (by decide +kernel) rfl rfl (Lw_pc 28 rfl ?_))
      refine Lw_iload_n (q := 3) (i := 3) 3 (by decide +kernel) rfl rfl (Lw_pc 29 rfl ?_)
      refine Lw_sld (by decide +kernel) (ix0 h6 hN) (Lw_pc 30 rfl ?_)
      refine Lw_bipush (i := 63) (v := 63) (by decide +kernel) (by decide) (Lw_pc 32 rfl ?_)
      refine Lw_iand (by decide +kernel) (Lw_pc 33 rfl ?_)
      obtain ⟨j, hj, e⟩ := m63 (xs (nI i).toNatClampNeg)
      rw [e]
      refine law_switch h6 hN h (fun MC2 MS2 h2 => ?_) hj
      refine Lw_iinc (i := 3) (j := 6) (x := nI i) (v := nI (i + 6)) 3 (by decide +kernel) rfl (by rw [show Int32.ofInt 6 = nI 6 from by decide, nI_add]) (by decide) rfl (Lw_pc 2012 rfl ?_)
      refine Lw_goto (off := -1994) 18 (by decide +kernel) (by decide) ?_
      refine Lw_loc (lv' := lv3 (nI (i + 6))) [1, 2, 3, 0] rfl ?_
      exact ih (i + 6) MC2 MS2 (by omega) (by omega) h2
theorem law_whole (hN : N0 ≤ 3072) (h : Rel MC MS) : Lw b0 N0 xs 16 [(2, .ref 200), (1, .ref 0), (0, .ref 700)] [] MC MS := by
  refine Lw_iconst (i := 0) (v := 0) (by decide +kernel) (by decide) (Lw_pc 17 rfl ?_)
  refine Lw_istore_n (q := 3) (i := 3) (lv' := [(3, .int 0), (2, .ref 200), (1, .ref 0), (0, .ref 700)]) (by decide +kernel) rfl (by decide) rfl (Lw_pc 18 rfl ?_)
  refine Lw_loc (lv' := lv3 (nI 0)) [3, 2, 1, 0] rfl ?_
  exact law_loop hN (N0 + 6) 0 MC MS (by omega) (by decide) h
end LW
