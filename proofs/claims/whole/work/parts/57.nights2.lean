def nx (rn : Nat) : Nat := (rn * 2971 + 10667) % 65536
def rk (rn : Nat) : Nat → Nat
  | 0 => rn
  | j + 1 => nx (rk rn j)
theorem rk_lt {rn : Nat} (h : rn < 65536) : ∀ j, rk rn j < 65536
  | 0 => h
  | _ + 1 => Nat.mod_lt _ (by decide)
theorem shl_0 {i : Nat} (hi : i < 32) : (0 : Int32) <<< (nI i &&& 31) = 0 := by
  apply b_ext
  intro k hk
  rw [b_shl i hi 0 hk, b_0, b_0, Bool.and_false]
section G2
variable {N p L : Nat} {C S : Mem} {v : Nat → Nat}
theorem c_draw {rn n : Nat} (h : C.1 L 2 = nI rn) (hr : rn < 65536) (hn : 0 < n ∧ n < 10) : f_X2_draw L (nI n) C = some (nI (nx rn / 8 % n), uI C L 2 (nI (nx rn))) := by
  have l : nx rn < 65536 := Nat.mod_lt _ (by decide)
  unfold f_X2_draw
  rw [bM_e, if_neg (by rw [n_lel (by omega)]; omega), h, cz_e (by rw [n_eql (by omega)]; omega), n_mull, n_addl, show (65536 : Int32) = nI 65536 from rfl, n_mod (by omega), u_at, show (rn * 2971 + 10667) % 65536 = nx rn from rfl, show (8 : Int32) = nI 8 from rfl, n_div (by omega), n_mod (by omega)]
theorem m_draw {rn n : Nat} (h : S.1 200 44 = nI rn) (hr : rn < 65536) (hn : 0 < n ∧ n < 10) : f_X12_draw (nI n) S = some (nI (nx rn / 8 % n), uI S 200 44 (nI (nx rn))) := by
  have l : nx rn < 65536 := Nat.mod_lt _ (by decide)
  unfold f_X12_draw
  rw [bM_e, h, cz_e (by rw [n_eql (by omega)]; omega), n_mull, n_addl, show (65536 : Int32) = nI 65536 from rfl, n_mod (by omega), u_at, show (rn * 2971 + 10667) % 65536 = nx rn from rfl, show (8 : Int32) = nI 8 from rfl, n_div (by omega), n_mod (by omega)]
theorem n_storm {st : Nat} (hN : 200 < N) (hp : pL p L) (h : NR C S p L v st) : ∃ C' S' r, f_X2_rage N L p C = some C' ∧ f_X12_isStorm N S = some (r, S') ∧ NP p L C S v st C' S' r := by
  obtain ⟨hv, h2, hC, hA, h5, h6, h7, ⟨rn, h8, h9, h10⟩, h11, h12, h13, h14⟩ := h
  have hp' := hp
  unfold pL at hp'
  have v2 := hv.1.2.2.1
  have v10 := hv.2.2.2.2.2.1
  have p64 := pow_le64 v2
  have rl := rk_lt h8
  generalize hbt : (fun k => decide (rk rn (k + 2) / 8 % 2 = 1)) = bt'
  have hb : ∀ k, bt' k = decide (rk rn (k + 2) / 8 % 2 = 1) := fun k => by rw [← hbt]
  -- the class
  have c : Ho (f_X2_rage N L p C) (fun C' => KL p L C C' ∧ C'.1 (L + 1) = C.1 (L + 1) ∧ C'.1 p 2 = nI (rk rn 1 / 8 % 5) ∧ C'.1 p 5 = C.1 p 5 ∧ C'.1 p 6 = nI (tfS bt' (v 2)) ∧ C'.1 (p + 6) = C.1 (p + 6) ∧ C'.1 L 2 = nI (rk rn (v 2 + 1)) ∧ C'.1 L 8 = C.1 L 8 + 1 ∧ ∀ j, j ≠ 2 → j ≠ 8 → C'.1 L j = C.1 L j) := by
    unfold f_X2_rage
    rw [bM_e, show (5 : Int32) = nI 5 from rfl, c_draw (rn := rn) (by rw [us_same, g_upd, if_neg (by decide)]; exact h9) h8 (by omega), bi_s, bM_e, show nx rn = rk rn 1 from rfl]
    refine Ho_lp (fun i a C' => a = nI i ∧ KL p L C C' ∧ C'.1 (L + 1) = C.1 (L + 1) ∧ C'.1 p 2 = nI (rk rn 1 / 8 % 5) ∧ C'.1 p 5 = C.1 p 5 ∧ C'.1 p 6 = nI (tfS (fun k => if k < i then bt' k else (v 10).testBit k) (v 2)) ∧ C'.1 (p + 6) = C.1 (p + 6) ∧ C'.1 L 2 = nI (rk rn (i + 1)) ∧ C'.1 L 8 = C.1 L 8 + 1 ∧ ∀ j, j ≠ 2 → j ≠ 8 → C'.1 L j = C.1 L j) (v 2) (by omega) ⟨rfl, ((KL.rf.l hp (by decide)).l hp (by decide)).p hp (by omega), ?_, u_at _ _ _ _, ?_, ?_, ?_, ?_, ?_, fun j j1 j2 => ?_⟩ ?_
    · rw [u_ne (by omega), u_ne (by omega), u_ne (by omega)]
    · rw [us_same, g_upd, if_neg (by decide), u_ne (by omega), u_ne (by omega)]
    · rw [us_same, g_upd, if_neg (by decide), u_ne (by omega), u_ne (by omega), hC.2.2.2.1]
      congr 1
      apply Nat.eq_of_testBit_eq
      intro k
      rw [tf_bit]
      by_cases e : k < v 2
      · simp [e]
      · rw [Nat.testBit_lt_two_pow (Nat.lt_of_lt_of_le v10 (Nat.pow_le_pow_right (by decide) (by omega)))]
        simp [e]
    · rw [u_ne (by omega), u_ne (by omega), u_ne (by omega)]
    · rw [u_ne (by omega), u_at]
    · rw [u_ne (by omega), us_same, g_upd, if_neg (by decide), u_at]
    · rw [u_ne (by omega), us_same, g_upd, if_neg j1, us_same, g_upd, if_neg j2]
    rintro i hi k hk _ C1 ⟨rfl, k1, q1, q2, q3, q4, q5, q6, q7, q8⟩
    unfold f_X2_rage_h21 f_X2_rage_b45 f_X5_setOpen
    have c7 : C1.1 p 7 = nI (v 2) := by rw [k1.2.2.1 7 (by decide) (by decide) (by decide)]; exact hC.1.2.2.2.2.1
    rw [c7]
    by_cases gi : v 2 ≤ i
    · have ei : i = v 2 := by omega
      subst ei
      rw [if_pos (by rw [n_le (by omega)]; exact gi), Ho_some]
      refine ⟨k1, q1, q2, q3, ?_, q5, q6, q7, q8⟩
      rw [q4, tf_cong (q := bt') fun k hk => if_pos hk]
    · rw [if_neg (by rw [n_le (by omega)]; exact gi), show (2 : Int32) = nI 2 from rfl, c_draw (rn := rk rn (i + 1)) q6 (rl _) (by omega), bi_s, show nx (rk rn (i + 1)) = rk rn (i + 2) from rfl]
      have e6 : (uI C1 L 2 (nI (rk rn (i + 2)))).1 p 6 = nI (tfS (fun k => if k < i then bt' k else (v 10).testBit k) (v 2)) := by rw [u_ne (by omega)]; exact q4
      have go : ∀ y, y = tfS (fun k => if k < i + 1 then bt' k else (v 10).testBit k) (v 2) → Ho (k (nI (i + 1)) (uI (uI C1 L 2 (nI (rk rn (i + 2)))) p 6 (nI y))) (fun C' => KL p L C C' ∧ C'.1 (L + 1) = C.1 (L + 1) ∧ C'.1 p 2 = nI (rk rn 1 / 8 % 5) ∧ C'.1 p 5 = C.1 p 5 ∧ C'.1 p 6 = nI (tfS bt' (v 2)) ∧ C'.1 (p + 6) = C.1 (p + 6) ∧ C'.1 L 2 = nI (rk rn (v 2 + 1)) ∧ C'.1 L 8 = C.1 L 8 + 1 ∧ ∀ j, j ≠ 2 → j ≠ 8 → C'.1 L j = C.1 L j) := fun y hy => by
        refine hk (by omega) _ _ ⟨rfl, (k1.l hp (by decide)).p hp (by omega), ?_, ?_, ?_, by rw [u_at, hy], ?_, ?_, ?_, fun j j1 j2 => ?_⟩
        · rw [u_ne (by omega), u_ne (by omega)]; exact q1
        · rw [us_same, g_upd, if_neg (by decide), u_ne (by omega)]; exact q2
        · rw [us_same, g_upd, if_neg (by decide), u_ne (by omega)]; exact q3
        · rw [u_ne (by omega), u_ne (by omega)]; exact q5
        · rw [u_ne (by omega), u_at]
        · rw [u_ne (by omega), us_same, g_upd, if_neg (by decide)]; exact q7
        · rw [u_ne (by omega), us_same, g_upd, if_neg j1]; exact q8 j j1 j2
      by_cases z : rk rn (i + 2) / 8 % 2 = 1
      · rw [if_pos (by rw [z]; rfl), if_neg (by decide), bM_e, bv_s, n_addl, e6, n_shl1 (by omega), fa_or]
        refine go _ ?_
        rw [tf_add _ (by omega)]
        refine tf_cong fun k hk => ?_
        by_cases e : k = i
        · subst e
          rw [if_neg (show ¬ k < k by omega), if_pos (show k < k + 1 by omega), hb, decide_eq_true z]
          simp
        · by_cases e2 : k < i
          · rw [if_pos e2, if_pos (by omega)]; simp [e]
          · rw [if_neg e2, if_neg (by omega)]; simp [e]
      · rw [if_neg (by rw [n_eql (by omega)]; exact z), if_pos rfl, bM_e, bv_s, n_addl, e6, n_shl1 (by omega), tf_drop _ (by omega)]
        refine go _ ?_
        refine tf_cong fun k hk => ?_
        by_cases e : k = i
        · subst e
          rw [if_neg (show ¬ k < k by omega), if_pos (show k < k + 1 by omega), hb, decide_eq_false z]
          simp
        · by_cases e2 : k < i
          · rw [if_pos e2, if_pos (by omega)]; simp [e]
          · rw [if_neg e2, if_neg (by omega)]; simp [e]
  -- the model
  have m : Ho (f_X12_isStorm N S) (fun q => q.1 = true ∧ KM S q.2 ∧ Ar q.2 205 435 (pt (pt v 6 (rk rn 1 / 8 % 5)) 10 (tfS bt' (v 2))) ∧ q.2.1 200 44 = nI (rk rn (v 2 + 1)) ∧ q.2.1 200 49 = S.1 200 49 + 1 ∧ ∀ j, j ≠ 44 → j ≠ 49 → q.2.1 200 j = S.1 200 j) := by
    unfold f_X12_isStorm
    rw [show (5 : Int32) = nI 5 from rfl, m_draw h10 h8 (by omega), bi_s, ck_l (by omega), bM_e, show tn 6 = 6 from rfl, show nx rn = rk rn 1 from rfl]
    refine Ho_lp (fun i a S' => a = (nI (tfS bt' i), nI i) ∧ KM S S' ∧ Ar S' 205 435 (pt v 6 (rk rn 1 / 8 % 5)) ∧ S'.1 200 44 = nI (rk rn (i + 1)) ∧ ∀ j, j ≠ 44 → S'.1 200 j = S.1 200 j) (v 2) (by omega) ⟨rfl, (KM.rf.u (by omega)).c (by omega), (hA.oth (by decide)).put 6 _, by rw [u_ne (by decide), u_at], fun j hj => by rw [u_ne (by decide), us_same, g_upd, if_neg hj]⟩ ?_
    rintro i hi k hk _ S1 ⟨rfl, s1, A1, q1, q2⟩
    unfold f_X12_isStorm_h16
    dsimp only
    have a2 : S1.1 205 2 = nI (v 2) := by rw [A1 2 (by omega), pt_ne (by decide)]
    rw [ck_l (by omega), show tn 2 = 2 from rfl, a2]
    by_cases gi : v 2 ≤ i
    · have ei : i = v 2 := by omega
      subst ei
      rw [if_pos (by rw [n_le (by omega)]; exact gi), ck_l (by omega), show tn 10 = 10 from rfl]
      simp only [bM_e]
      rw [Ho_some]
      refine ⟨rfl, (s1.c (by omega)).u (by omega), (A1.put 10 _).oth (by decide), by rw [us_same, g_upd, if_neg (by decide), u_ne (by decide)]; exact q1, by rw [u_at, u_ne (by decide), q2 49 (by decide)], fun j j1 j2 => by rw [us_same, g_upd, if_neg j2, u_ne (by decide)]; exact q2 j j1⟩
    · rw [if_neg (by rw [n_le (by omega)]; exact gi), show (2 : Int32) = nI 2 from rfl, m_draw q1 (rl _) (by omega), bi_s, bI_e, n_addl, show nx (rk rn (i + 1)) = rk rn (i + 2) from rfl]
      refine hk (by omega) _ _ ⟨?_, s1.u (by omega), A1.oth (by decide), u_at _ _ _ _, fun j hj => by rw [us_same, g_upd, if_neg hj]; exact q2 j hj⟩
      have st' : tfS bt' (i + 1) = if bt' i then tfS bt' i ||| 2 ^ i else tfS bt' i := rfl
      by_cases z : rk rn (i + 2) / 8 % 2 = 1
      · rw [st', hb, decide_eq_true z, if_pos rfl, z, show nI 1 = 1 from rfl, n_shl1 (by omega), fa_or]
      · have z0 : rk rn (i + 2) / 8 % 2 = 0 := by omega
        rw [st', hb, decide_eq_false z, z0, show nI 0 = 0 from rfl, shl_0 (by omega), Int32.or_zero]
        rfl
  obtain ⟨C1, e1, k1, c1, c2, c3, c4, c5, c6, c7, c8⟩ := c
  obtain ⟨⟨r, S1⟩, e2, m0, m1, m2, m3, m4, m5⟩ := m
  dsimp only at m0 m1 m2 m3 m4 m5
  subst m0
  have ev : chN v (pt (pt v 6 (rk rn 1 / 8 % 5)) 10 (tfS bt' (v 2))) := fun k hk => by rw [pt_ne (by omega), pt_ne (by omega)]
  have fe : fogv (pt (pt v 6 (rk rn 1 / 8 % 5)) 10 (tfS bt' (v 2))) = fogv v := by rw [pt_fog (by omega), pt_fog (by omega)]
  have pc := PCN (C' := C1) (v' := pt (pt v 6 (rk rn 1 / 8 % 5)) 10 (tfS bt' (v 2))) hp hv hC k1 ev (by rw [pt_ne (by decide), pt_at]; omega) (by rw [pt_at]; exact tf_lt _ _) (by rw [pt_ne (by decide), pt_at]; exact c2) (by rw [pt_ne (by decide), pt_ne (by decide), c3]; exact hC.2.2.1) (by rw [pt_at]; exact c4) ⟨fun k hk => by rw [pt_ne (by omega), pt_ne (by omega)]; exact hv.2.2.2.2.2.2.2.2.2.2.1 k hk, fun b b1 b2 => by rw [pt_ne (by omega), pt_ne (by omega), pt_ne (by omega), pt_ne (by omega)]; exact hv.2.2.2.2.2.2.2.2.2.2.2 b b1 b2⟩ (by rw [fe]; exact Ar.same hC.2.2.2.2.2.2.2.2.2.2.2.1 c5)
  have eS : ∀ j, j ≠ 46 → (uI S1 200 46 (S.1 200 46 + (if true then 0 else 1))).1 200 j = S1.1 200 j := fun j hj => by rw [us_same, g_upd, if_neg hj]
  refine ⟨C1, S1, true, e1, e2, _, k1, c1, m1, ev, ⟨pc.1, by rw [pt_ne (by decide), pt_ne (by decide)]; exact h2, pc.2, m2.oth (by decide), by rw [c8 4 (by decide) (by decide)]; exact h5, by rw [eS 45 (by decide), m5 45 (by decide) (by decide)]; exact h6, h7, ⟨rk rn (v 2 + 1), rl _, c6, by rw [eS 44 (by decide)]; exact m3⟩, ?_, ?_, ?_, ?_⟩, c8 9 (by decide) (by decide), m5 50 (by decide) (by decide), m5 43 (by decide) (by decide)⟩
  · rw [c8 5 (by decide) (by decide), u_at, h11, if_pos rfl, Int32.add_zero]
  · rw [c8 6 (by decide) (by decide), eS 47 (by decide), m5 47 (by decide) (by decide)]; exact h12
  · rw [c8 7 (by decide) (by decide), eS 48 (by decide), m5 48 (by decide) (by decide)]; exact h13
  · rw [c7, eS 49 (by decide), m4, h14]
/-- a test -/
theorem n_holds {st x a : Nat} (hp : pL p L) (h : NR C S p L v st) (ha : a < 60) (hx : x < 30) (hk : v (165 + 9 * x) = 5) (hs : StOK C (p + 7) v x a) : ∃ b, f_X2_holds L p (nI a) C = some (b, C) ∧ f_X12_isSo (nI (165 + 9 * x)) S = some (b, S) := by
  obtain ⟨hv, h2, hC, hA, -⟩ := h
  have v0 := hv.1.1
  have v1 := hv.1.2.1
  have v2 := hv.1.2.2.1
  have v8 := hv.2.2.2.2.1
  have b30 := bd30 v0 v1
  have v10 := hv.2.2.2.2.2.1
  have p64 := pow_le64 v2
  have hf9 : ∀ q, q < 60 → v (103 + q) ≤ 999 := hv.2.2.2.2.2.2.2.2.2.2.1
  have lp6 : ln (p + 6) = 60 := by
    unfold pL at hp
    rcases hp.1 with rfl | rfl <;> rfl
  have a1 := hA (166 + 9 * x) (by omega)
  have a2 := hA (167 + 9 * x) (by omega)
  have a3 := hA (168 + 9 * x) (by omega)
  have a6 := hA (171 + 9 * x) (by omega)
  have a7 := hA (172 + 9 * x) (by omega)
  have a10 := hA 10 (by omega)
  have n1 : 165 + 9 * x + 1 = 166 + 9 * x := by omega
  have n2 : 165 + 9 * x + 2 = 167 + 9 * x := by omega
  have n3 : 165 + 9 * x + 3 = 168 + 9 * x := by omega
  have n6 : 165 + 9 * x + 6 = 171 + 9 * x := by omega
  have n7 : 165 + 9 * x + 7 = 172 + 9 * x := by omega
  have fogE : ∀ b, b < v 0 * v 1 → f_X5_bothKinds (p + 6) (nI b) C = some (nI (v (103 + b) + v (133 + b)), C) ∧ f_X12_fogOf (nI b) S = some (nI (v (103 + b) + v (133 + b)), S) ∧ v (103 + b) + v (133 + b) ≤ 1998 := fun b hb => by
    have f1 := hC.2.2.2.2.2.2.2.2.2.2.2.1 b (by omega)
    have f2 := hC.2.2.2.2.2.2.2.2.2.2.2.1 (30 + b) (by omega)
    have l1 := hf9 b (by omega)
    have l2 := hf9 (30 + b) (by omega)
    dsimp only at f1 f2
    rw [show 103 + (30 + b) = 133 + b by omega] at f2 l2
    unfold f_X5_bothKinds f_X12_fogOf
    rw [lp6, n_ladd, n_ladd, n_ladd, ck_n (by omega), ck_n (by omega), ck_n (by omega), ck_n (by omega), t_n (by omega), t_n (by omega), t_n (by omega), t_n (by omega), f1, f2, hA (103 + b) (by omega), hA (133 + b) (by omega), nI_add]
    exact ⟨rfl, rfl, by omega⟩
  unfold StOK at hs
  unfold f_X2_holds f_X12_isSo
  rw [ck_n (by omega), t_n (by omega), bI_e, ck_n (by omega), n_addl, n_addl, n_addl, n_addl, n_addl, n1, n2, n3, n6, n7, ck_n (by omega), t_n (by omega), a6]
  have fin : ∀ s, v (165 + 9 * x) = s → s ≠ 5 → False := fun s h1 h2 => h2 (by omega)
  rcases hs with hs | hs | hs | hs | hs | hs | hs | hs | hs | hs
  · exact absurd hs.1 (by omega)
  · exact absurd hs.1 (by omega)
  · exact absurd hs.1 (by omega)
  · exact absurd hs.1 (by omega)
  · exact absurd hs.1 (by omega)
  · exact absurd hs.1 (by omega)
  · exact absurd hs.1 (by omega)
  · obtain ⟨-, s1, s2, s3, s4, s5⟩ := hs
    have hb := bd s4 s5
    have em : v 0 * v (167 + 9 * x) + v (166 + 9 * x) = v (167 + 9 * x) * v 0 + v (166 + 9 * x) := by rw [Nat.mul_comm]
    rw [s1, s2, s3, if_pos (show nI 8 = 8 from rfl), if_neg (show ¬ nI 0 = 1 by decide), ck_n (by omega), ck_n (by omega), t_n (by omega), t_n (by omega), a1, a2, m_board (hA 0 (by omega)), bi_s, if_pos (show nI 0 = 0 from rfl), em, c_foggy (p := p) (q := p + 6) (w := v 8) (F := fogv v) lp6 hC.2.1 hC.2.2.2.2.2.2.2.2.2.2.2.1 (by omega) hf9 (by omega), bi_s, m_foggy hA (by omega) hf9 (by omega), bi_s]
    refine ⟨_, rfl, ?_⟩
    unfold fogv
    rw [show 103 + (30 + (v (167 + 9 * x) * v 0 + v (166 + 9 * x))) = 133 + (v (167 + 9 * x) * v 0 + v (166 + 9 * x)) by omega]
    exact ck_n (by omega)
  · obtain ⟨-, s1, s2, s3, s4⟩ := hs
    rw [s1, s2, s3, if_neg (show ¬ nI 9 = 8 by decide), if_pos (show nI 1 = 1 from rfl), ck_l (by omega), ck_n (by omega), ck_n (by omega), if_pos (show nI 9 = 9 from rfl), show tn 10 = 10 from rfl, a10, t_n (by omega), a1, cc_open hC.2.2.2.1 (by omega), cm_has (by omega), bi_s, bi_s]
    exact ⟨_, rfl, rfl⟩
  · obtain ⟨-, s1, s2, s3, s4, s5, s6, s7, s8, s9, s10⟩ := hs
    have hb := bd s4 s5
    have em : v 0 * v (167 + 9 * x) + v (166 + 9 * x) = v (167 + 9 * x) * v 0 + v (166 + 9 * x) := by rw [Nat.mul_comm]
    obtain ⟨g1, g2, g3⟩ := fogE _ hb
    rw [s1, s2, s3, if_neg (show ¬ nI 10 = 8 by decide), if_neg (show ¬ nI 2 = 1 by decide), ck_n (by omega), ck_n (by omega), ck_n (by omega), t_n (by omega), t_n (by omega), a1, a2, m_board (hA 0 (by omega)), bi_s, if_neg (show ¬ nI 10 = 9 by decide), if_neg (show ¬ nI 2 = 0 by decide), em, g1, bi_s, g2, bi_s, ck_n (by omega), ck_n (by omega), ck_n (by omega), ck_n (by omega), ck_n (by omega), s6, s9, ck_n (by omega), ck_n (by omega), ck_n (by omega), ck_n (by omega), ck_n (by omega), t_n (by omega), t_n (by omega), a7, a3]
    generalize v (103 + (v (167 + 9 * x) * v 0 + v (166 + 9 * x))) + v (133 + (v (167 + 9 * x) * v 0 + v (166 + 9 * x))) = F at *
    by_cases y1 : v (172 + 9 * x) = 60
    · rw [if_pos (show nI (v (172 + 9 * x)) = 60 by rw [y1]; rfl), if_pos (show nI (v (172 + 9 * x)) = 60 by rw [y1]; rfl)]
      by_cases q : nI (v (168 + 9 * x)) ≤ nI F
      · rw [if_pos q, if_pos q]; exact ⟨_, rfl, rfl⟩
      · rw [if_neg q, if_neg q]; exact ⟨_, rfl, rfl⟩
    · have y1' : ¬ nI (v (172 + 9 * x)) = 60 := by rw [n_eql (by omega)]; exact y1
      rw [if_neg y1', if_neg y1']
      by_cases y2 : v (172 + 9 * x) = 62
      · rw [if_pos (show nI (v (172 + 9 * x)) = 62 by rw [y2]; rfl), if_pos (show nI (v (172 + 9 * x)) = 62 by rw [y2]; rfl)]
        by_cases q : nI F ≤ nI (v (168 + 9 * x))
        · rw [if_pos q, if_pos q]; exact ⟨_, rfl, rfl⟩
        · rw [if_neg q, if_neg q]; exact ⟨_, rfl, rfl⟩
      · have y2' : ¬ nI (v (172 + 9 * x)) = 62 := by rw [n_eql (by omega)]; exact y2
        rw [if_neg y2', if_neg y2']
        by_cases q : nI F = nI (v (168 + 9 * x))
        · rw [if_pos q, if_pos q]; exact ⟨_, rfl, rfl⟩
        · rw [if_neg q, if_neg q]; exact ⟨_, rfl, rfl⟩
end G2
