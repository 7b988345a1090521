theorem le_len {a n m : Nat} (h : n = m) (h2 : a ≤ m) : a ≤ n := h ▸ h2
/-! string constants: length, charAt -/
theorem lj_9 : Cond.fieldLink RJ0 9 "java/lang/String" "value" "[B" ∈ TG := tg_10 134 (by decide +kernel) (by decide +kernel)
theorem lj_15 : Cond.fieldLink RJ0 15 "java/lang/String" "coder" "B" ∈ TG := tg_10 135 (by decide +kernel) (by decide +kernel)
theorem lj_38 : Cond.fieldLink RJ0 38 "java/lang/String" "COMPACT_STRINGS" "Z" ∈ TG := tg_3 156 (by decide +kernel) (by decide +kernel)
theorem lj_1053 : Cond.fieldLink RJ0 1053 "jdk/internal/util/Preconditions" "SIOOBE_FORMATTER" "Ljava/util/function/BiFunction;" ∈ TG := tg_3 176 (by decide +kernel) (by decide +kernel)
theorem mj_335 : Cond.methodLink RJ0 335 yJ0_coder_7d493 ∈ TG := tg_3 152 (by decide +kernel) (by decide +kernel)
theorem mj_492 : Cond.methodLink RJ0 492 yJ0_isLatin1_aae02 ∈ TG := tg_3 166 (by decide +kernel) (by decide +kernel)
theorem mj_495 : Cond.methodLink RJ0 495 yJ1_charAt_3b067 ∈ TG := tg_3 170 (by decide +kernel) (by decide +kernel)
theorem mj_1059 : Cond.methodLink RJ0 1059 yJ3_checkIndex_8e157 ∈ TG := tg_3 178 (by decide +kernel) (by decide +kernel)
theorem mj1_9 : Cond.methodLink RJ1 9 yJ0_checkIndex_df160 ∈ TG := tg_3 173 (by decide +kernel) (by decide +kernel)
theorem t_coder {z : Nat} (hz : z < 32) {M : Mem} : Ev 0 111 0 m_J0_coder_7d493 [.ref (400 + z)] M (QI (0, M)) := by
  refine Ev_of_Fr (by decide +kernel) (Nat.le_of_ble_eq_true rfl) ?_
  show Fr 0 111 0 m_J0_coder_7d493 0 [(0, .ref (400 + z))] [] M (QI (0, M))
  refine Fr_getsC (by decide +kernel) lj_38 ?_
  refine Fr_if_eq (off := 10) 13 (by decide +kernel) (by decide) (fun hc => absurd hc (by decide)) (fun _ => ?_)
  refine Fr_aload_n (q := 0) (i := 0) 0 (by decide +kernel) rfl rfl ?_
  refine Fr_strC (by decide +kernel) hz lj_15 ?_
  refine Fr_goto (off := 4) 14 (by decide +kernel) (by decide) ?_
  exact Fr_zret (by decide +kernel) rfl (by decide) ⟨rfl, rfl⟩
theorem t_latin {z : Nat} (hz : z < 32) {M : Mem} : Ev 0 111 0 m_J0_isLatin1_aae02 [.ref (400 + z)] M (QI (1, M)) := by
  refine Ev_of_Fr (by decide +kernel) (Nat.le_of_ble_eq_true rfl) ?_
  show Fr 0 111 0 m_J0_isLatin1_aae02 0 [(0, .ref (400 + z))] [] M (QI (1, M))
  refine Fr_getsC (by decide +kernel) lj_38 ?_
  refine Fr_if_eq (off := 14) 17 (by decide +kernel) (by decide) (fun hc => absurd hc (by decide)) (fun _ => ?_)
  refine Fr_aload_n (q := 0) (i := 0) 0 (by decide +kernel) rfl rfl ?_
  refine Fr_strC (by decide +kernel) hz lj_15 ?_
  refine Fr_if_ne (off := 7) 17 (by decide +kernel) (by decide) (fun hc => absurd rfl hc) (fun _ => ?_)
  refine Fr_iconst (i := 1) (v := 1) (by decide +kernel) (by decide) ?_
  refine Fr_goto (off := 4) 18 (by decide +kernel) (by decide) ?_
  exact Fr_zret (by decide +kernel) rfl (by decide) ⟨rfl, rfl⟩
def f_J0_length_8abf5 (z0 : Nat) (M : Mem) : Option (Int32 × Mem) := some (Int32.ofNat (chL.getD z0 []).length, M)
theorem shr0 (x : Int32) : x >>> ((0 : Int32) &&& 31) = x := by
  apply Int32.toInt_inj.mp
  rw [pk_shr x ((0 : Int32) &&& 31) 0 (by decide)]
  simp
theorem t_J0_length_8abf5 {z0 : Nat} (hz0 : z0 < 32) {M : Mem} {q : Int32 × Mem} (h : f_J0_length_8abf5 z0 M = some q) : Ev 0 111 2 m_J0_length_8abf5 [.ref (400 + z0)] M (QI q) := by
  obtain rfl := Option.some.inj h
  refine Ev_of_Fr (by decide +kernel) (Nat.le_of_ble_eq_true rfl) ?_
  show Fr 0 111 2 m_J0_length_8abf5 0 [(0, .ref (400 + z0))] [] M _
  refine Fr_aload_n (q := 0) (i := 0) 0 (by decide +kernel) rfl rfl ?_
  refine Fr_strV (by decide +kernel) hz0 lj_9 ?_
  refine Fr_strN (by decide +kernel) hz0 rfl ?_
  refine Fr_aload_n (q := 0) (i := 0) 0 (by decide +kernel) rfl rfl ?_
  refine Fr_cTi (ν := m_J0_coder_7d493) (As := []) (st := [.int (Int32.ofNat (chL.getD z0 []).length)]) (d' := 0) (by decide +kernel) mj_335 cv_J0_coder_7d493 rfl hz0 rfl (by decide) (Nat.le_of_ble_eq_true rfl) (t_coder hz0) ?_
  refine Fr_ishr (by decide +kernel) ?_
  refine Fr_topI (shr0 _).symm ?_
  exact Fr_iret (by decide +kernel) rfl ⟨rfl, rfl⟩
theorem t_pre {x m : Int32} {w : Value} (hw : w = .null ∨ w = .ref 600) (h1 : ¬ x < 0) (h2 : x < m) {M : Mem} : Ev 0 111 0 m_J3_checkIndex_8e157 [.int x, .int m, w] M (QI (x, M)) := by
  refine Ev_of_Fr (by decide +kernel) (by rcases hw with rfl | rfl <;> exact Nat.le_of_ble_eq_true rfl) ?_
  show Fr 0 111 0 m_J3_checkIndex_8e157 0 [(0, .int x), (1, .int m), (2, w)] [] M _
  refine Fr_iload_n (q := 0) (i := 0) 0 (by decide +kernel) rfl rfl ?_
  refine Fr_if_lt (off := 8) 9 (by decide +kernel) (by decide) (fun hc => absurd hc h1) (fun _ => ?_)
  refine Fr_iload_n (q := 0) (i := 0) 0 (by decide +kernel) rfl rfl ?_
  refine Fr_iload_n (q := 1) (i := 1) 1 (by decide +kernel) rfl rfl ?_
  refine Fr_icmp_lt (off := 10) 16 (by decide +kernel) (by decide) (fun _ => ?_) (fun hc => absurd h2 hc)
  refine Fr_iload_n (q := 0) (i := 0) 0 (by decide +kernel) rfl rfl ?_
  exact Fr_iret (by decide +kernel) rfl ⟨rfl, rfl⟩
theorem t_ci {x m : Int32} (h1 : ¬ x < 0) (h2 : x < m) {M : Mem} : Ev 0 111 1 m_J0_checkIndex_df160 [.int x, .int m] M (QV M) := by
  refine Ev_of_Fr (by decide +kernel) (Nat.le_of_ble_eq_true rfl) ?_
  show Fr 0 111 1 m_J0_checkIndex_df160 0 [(0, .int x), (1, .int m)] [] M _
  refine Fr_iload_n (q := 0) (i := 0) 0 (by decide +kernel) rfl rfl ?_
  refine Fr_iload_n (q := 1) (i := 1) 1 (by decide +kernel) rfl rfl ?_
  refine Fr_getsQ (by decide +kernel) lj_1053 ?_ ?_
  · refine Fr_cSi (ν := m_J3_checkIndex_8e157) (As := [.int x, .int m, .null]) (st := []) (d' := 0) (by decide +kernel) mj_1059 cs_J3_checkIndex_8e157 rfl (by decide) (Nat.le_of_ble_eq_true rfl) (t_pre (Or.inl rfl) h1 h2) ?_
    refine Fr_pop (by decide +kernel) rfl ?_
    exact Fr_vret (by decide +kernel) rfl ⟨rfl, rfl⟩
  · refine Fr_cSi (ν := m_J3_checkIndex_8e157) (As := [.int x, .int m, .ref 600]) (st := []) (d' := 0) (by decide +kernel) mj_1059 cs_J3_checkIndex_8e157 rfl (by decide) (Nat.le_of_ble_eq_true rfl) (t_pre (Or.inr rfl) h1 h2) ?_
    refine Fr_pop (by decide +kernel) rfl ?_
    exact Fr_vret (by decide +kernel) rfl ⟨rfl, rfl⟩
theorem ch_small : ∀ z, z < 32 → (chL.getD z []).length < 200 := by decide +kernel
abbrev chA (z : Nat) (x : Int32) : Int32 := i2c ((chL.getD z []).getD (tn x) 0 &&& 255)
theorem t_l1 {z : Nat} {x : Int32} (hz : z < 32) (hi : vp_in x (chL.getD z []).length) {M : Mem} : Ev 0 111 2 m_J1_charAt_3b067 [.ref (500 + z), .int x] M (QI (chA z x, M)) := by
  have hb := ch_small z hz
  have h1 : ¬ x < 0 := fun q => hi (Or.inl q)
  have h2 : x < Int32.ofNat (chL.getD z []).length := by
    obtain ⟨j, hj, rfl⟩ := vp_in_of hi (by omega)
    exact nI_lt hj (by omega)
  refine Ev_of_Fr (by decide +kernel) (Nat.le_of_ble_eq_true rfl) ?_
  show Fr 0 111 2 m_J1_charAt_3b067 0 [(0, .ref (500 + z)), (1, .int x)] [] M _
  refine Fr_iload_n (q := 1) (i := 1) 1 (by decide +kernel) rfl rfl ?_
  refine Fr_aload_n (q := 0) (i := 0) 0 (by decide +kernel) rfl rfl ?_
  refine Fr_strN (by decide +kernel) hz rfl ?_
  refine Fr_cSv (ν := m_J0_checkIndex_df160) (As := [.int x, .int (Int32.ofNat (chL.getD z []).length)]) (st := []) (d' := 1) (by decide +kernel) mj1_9 cs_J0_checkIndex_df160 rfl (by decide) (Nat.le_of_ble_eq_true rfl) (t_ci h1 h2) ?_
  refine Fr_aload_n (q := 0) (i := 0) 0 (by decide +kernel) rfl rfl ?_
  refine Fr_iload_n (q := 1) (i := 1) 1 (by decide +kernel) rfl rfl ?_
  refine Fr_strB (by decide +kernel) hz hi ?_
  refine Fr_sipush (i := 255) (v := 255) (by decide +kernel) (by decide) ?_
  refine Fr_iand (by decide +kernel) ?_
  refine Fr_i2c (by decide +kernel) ?_
  exact Fr_zret (by decide +kernel) rfl (pk_nc _) ⟨rfl, rfl⟩
def f_J0_charAt_5068e (z0 : Nat) (x1 : Int32) (M : Mem) : Option (Int32 × Mem) := ck x1 (chL.getD z0 []).length (some (chA z0 x1, M))
theorem t_J0_charAt_5068e {z0 : Nat} {x1 : Int32} (hz0 : z0 < 32) {M : Mem} {q : Int32 × Mem} (h : f_J0_charAt_5068e z0 x1 M = some q) : Ev 0 111 5 m_J0_charAt_5068e [.ref (400 + z0), .int x1] M (QI q) := by
  obtain ⟨hi, h⟩ := ck_elim h
  obtain rfl := Option.some.inj h
  refine Ev_of_Fr (by decide +kernel) (Nat.le_of_ble_eq_true rfl) ?_
  show Fr 0 111 5 m_J0_charAt_5068e 0 [(0, .ref (400 + z0)), (1, .int x1)] [] M _
  refine Fr_aload_n (q := 0) (i := 0) 0 (by decide +kernel) rfl rfl ?_
  refine Fr_cTi (ν := m_J0_isLatin1_aae02) (As := []) (st := []) (d' := 0) (by decide +kernel) mj_492 cv_J0_isLatin1_aae02 rfl hz0 rfl (by decide) (Nat.le_of_ble_eq_true rfl) (t_latin hz0) ?_
  refine Fr_if_eq (off := 12) 16 (by decide +kernel) (by decide) (fun hc => absurd hc (by decide)) (fun _ => ?_)
  refine Fr_aload_n (q := 0) (i := 0) 0 (by decide +kernel) rfl rfl ?_
  refine Fr_strV (by decide +kernel) hz0 lj_9 ?_
  refine Fr_iload_n (q := 1) (i := 1) 1 (by decide +kernel) rfl rfl ?_
  refine Fr_cSi (ν := m_J1_charAt_3b067) (As := [.ref (500 + z0), .int x1]) (st := []) (d' := 2) (by decide +kernel) mj_495 cs_J1_charAt_3b067 rfl (by decide) (Nat.le_of_ble_eq_true rfl) (t_l1 hz0 hi) ?_
  exact Fr_zret (by decide +kernel) rfl (pk_nc _) ⟨rfl, rfl⟩
