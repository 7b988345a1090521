section Q12
variable {N n : Nat} {C S : Mem} {B : Nat → Nat}
/-- a text read, or refused -/
theorem Re.fin {C' S' : Mem} (h : Re C S) (hc : ∀ c, c ≠ 0 → ¬ (10 ≤ c ∧ c < 37) → ¬ (76 ≤ c ∧ c < 107) → C'.1 c = C.1 c ∧ C'.2 c = C.2 c) (hc0 : ∀ k, k ≠ 0 → k ≠ 3 → C'.1 0 k = C.1 0 k) (hc2 : C'.2 0 = C.2 0) (h3 : C'.1 0 3 = 0) (hs : ∀ c, c ≠ 200 → c ≠ 205 → c ≠ 208 → S'.1 c = S.1 c ∧ S'.2 c = S.2 c) (h205 : ∀ k, 435 ≤ k → k < 1740 → S'.1 205 k = S.1 205 k) (h208 : ∀ k, 22 ≤ k → k < 88 → S'.2 208 k = S.2 208 k) (h24 : S'.1 200 24 = S.1 200 24) (h42 : S'.1 200 42 = S.1 200 42) (hl2 : ∀ j, j ≠ 19 → S'.2 200 j = S.2 200 j) (h8 : S'.1 200 8 = 0) (hst : C'.1 0 0 = S'.1 200 0) (hp : PB C' 10 S' 0) (hx : RX C' S') : Rel C' S' := by
  obtain ⟨a, -, c, -, d, -, f⟩ := h
  have h1 := hc 1 (by omega) (by omega) (by omega)
  have h8' := hc 8 (by omega) (by omega) (by omega)
  have h9 := hc 9 (by omega) (by omega) (by omega)
  have h107 := hc 107 (by omega) (by omega) (by omega)
  exact ⟨hst, a.same (by rw [hc2]) (by rw [hc2]) (hl2 2 (by omega)) (hl2 3 (by omega)), ⟨0, by omega, h3, h8, fun k hk => absurd hk (Nat.not_lt_zero k)⟩, c.same h8'.1 h9.1 (fun t ht => (hc _ (by omega) (by omega) (by omega)).2) (hs 201 (by omega) (by omega) (by omega)).1 (hs 202 (by omega) (by omega) (by omega)).1 (hs 203 (by omega) (by omega) (by omega)).2, hp, d.same (hc0 4 (by omega) (by omega)) h24 (fun c q1 q2 => hc c (by omega) (by omega) (by omega)) h205 h208, hx, f.same h107.1 h42 (hs 219 (by omega) (by omega) (by omega)).1⟩
theorem c_nclear (p : Nat) (M : Mem) : f_X3_clear p M = some (uI (uI (uI M p 0 0) p 1 0) p 2 0) := rfl
theorem c_clear (hN : 300 < N) (M : Mem) : Ho (f_X5_clear N 23 M) (fun M' => (∀ c, c ≠ 23 → c ≠ 29 → c ≠ 30 → M'.1 c = M.1 c) ∧ M'.2 = M.2 ∧ (∀ j, j < 11 → M'.1 23 j = nI (if j = 3 then 1 else if j = 4 then 10 else 0)) ∧ (∀ k, k < 60 → M'.1 29 k = 0) ∧ M'.1 30 0 = 0) := by
  unfold f_X5_clear
  simp only [bM_e]
  rw [Ho_bv]
  refine Ho_mono (c_fillI (p := 23 + 6) hN 0 (by rw [ln_29]; decide)) ?_
  rintro M1 ⟨s1, f1⟩
  rw [c_nclear, bv_s, Ho_some]
  have o : ∀ c, c ≠ 30 → (uI (uI (uI M1 (23 + 7) 0 0) (23 + 7) 1 0) (23 + 7) 2 0).1 c = M1.1 c := fun c hc => by rw [u_ne (by omega), u_ne (by omega), u_ne (by omega)]
  refine ⟨fun c h1 h2 h3 => ?_, s1.1, fun j hj => ?_, fun k hk => ?_, ?_⟩
  · rw [o c h3, s1.2 c (by simp; omega)]
    simp only [u_ne h1]
  · rw [o 23 (by omega), s1.2 23 (by simp)]
    simp only [us_same, g_upd]
    obtain rfl | rfl | rfl | rfl | rfl | rfl | rfl | rfl | rfl | rfl | rfl : j = 0 ∨ j = 1 ∨ j = 2 ∨ j = 3 ∨ j = 4 ∨ j = 5 ∨ j = 6 ∨ j = 7 ∨ j = 8 ∨ j = 9 ∨ j = 10 := by omega
    all_goals rfl
  · rw [o 29 (by omega)]
    exact f1 k (by rw [show ln (23 + 6) = 60 from ln_29]; exact hk)
  · show (uI (uI (uI M1 (23 + 7) 0 0) (23 + 7) 1 0) (23 + 7) 2 0).1 (23 + 7) 0 = 0
    rw [us_same, g_upd, if_neg (by decide), us_same, g_upd, if_neg (by decide), u_at]
/-- the model clears its block -/
theorem m_zero (hN : 1000 < N) (S : Mem) : ∃ S', lp (fun k (a : Int32) m => f_X12_port_h25 N k a m) N 0 S = lp (fun k (_ : Unit) m => f_X12_port_h73 N k m) N () S' ∧ S'.2 = S.2 ∧ (∀ c, c ≠ 200 → c ≠ 205 → S'.1 c = S.1 c) ∧ (∀ j, j ≠ 25 → S'.1 200 j = S.1 200 j) ∧ S'.1 200 25 = 0 ∧ (∀ k, k < 1740 → S'.1 205 k = S.1 205 k) ∧ ∀ k, k < 435 → S'.1 205 (1740 + k) = nI (if k = 7 then 1 else if k = 8 then 10 else 0) := by
  have key : ∀ d i F M, i + d = 435 → d < F → M.2 = S.2 → (∀ c, c ≠ 205 → M.1 c = S.1 c) → (∀ k, k < 1740 → M.1 205 k = S.1 205 k) → (∀ k, k < i → M.1 205 (1740 + k) = 0) → ∃ S', lp (fun k (a : Int32) m => f_X12_port_h25 N k a m) F (nI i) M = lp (fun k (_ : Unit) m => f_X12_port_h73 N k m) N () S' ∧ S'.2 = S.2 ∧ (∀ c, c ≠ 200 → c ≠ 205 → S'.1 c = S.1 c) ∧ (∀ j, j ≠ 25 → S'.1 200 j = S.1 200 j) ∧ S'.1 200 25 = 0 ∧ (∀ k, k < 1740 → S'.1 205 k = S.1 205 k) ∧ ∀ k, k < 435 → S'.1 205 (1740 + k) = nI (if k = 7 then 1 else if k = 8 then 10 else 0) := by
    intro d
    induction d with
    | zero =>
      intro i F M hi hF h2 hc ho hz
      obtain ⟨F, rfl⟩ : ∃ G, F = G + 1 := ⟨F - 1, by omega⟩
      refine ⟨uI (uI (uI M 205 1747 1) 205 1748 10) 200 25 0, ?_, h2, fun c h1 h3 => by rw [u_ne h1, u_ne h3, u_ne h3]; exact hc c h3, fun j hj => by rw [us_same, g_upd, if_neg hj, u_ne (by decide), u_ne (by decide), hc 200 (by decide)], u_at _ _ _ _, fun k hk => by rw [u_ne (by decide), us_same, g_upd, if_neg (by omega), us_same, g_upd, if_neg (by omega)]; exact ho k hk, fun k hk => ?_⟩
      · show f_X12_port_h25 N _ (nI i) M = _
        unfold f_X12_port_h25
        rw [if_pos (by rw [n_lle (by omega)]; show 435 ≤ i; omega), show (1747 : Int32) = nI 1747 from rfl, show (1748 : Int32) = nI 1748 from rfl, ck_n (by omega), bM_e, ck_n (by omega), bM_e, bM_e, t_n (by omega), t_n (by omega)]
      · rw [u_ne (by decide), us_same, g_upd, us_same, g_upd]
        by_cases g8 : k = 8
        · rw [if_pos (by omega), if_neg (by omega), if_pos g8]; rfl
        · by_cases g7 : k = 7
          · rw [if_neg (by omega), if_pos (by omega), if_pos g7]; rfl
          · rw [if_neg (by omega), if_neg (by omega), if_neg g7, if_neg g8]; exact hz k (by omega)
    | succ d ih =>
      intro i F M hi hF h2 hc ho hz
      obtain ⟨F, rfl⟩ : ∃ G, F = G + 1 := ⟨F - 1, by omega⟩
      obtain ⟨S', e, q⟩ := ih (i + 1) F (uI M 205 (1740 + i) 0) (by omega) (by omega) h2 (fun c hc' => by rw [u_ne hc']; exact hc c hc') (fun k hk => by rw [us_same, g_upd, if_neg (by omega)]; exact ho k hk) (fun k hk => by
        rw [us_same, g_upd]
        by_cases g : k = i
        · rw [if_pos (by omega)]
        · rw [if_neg (by omega)]; exact hz k (by omega))
      refine ⟨S', ?_, q⟩
      rw [← e]
      show f_X12_port_h25 N (lp (fun k (a : Int32) m => f_X12_port_h25 N k a m) F) (nI i) M = _
      unfold f_X12_port_h25
      rw [if_neg (by rw [n_lle (by omega)]; show ¬ 435 ≤ i; omega), show (1740 : Int32) + nI i = nI (1740 + i) from n_ladd .., ck_n (by omega), bM_e, t_n (by omega), n_addl]
  exact key 435 0 N S (by omega) (by omega) rfl (fun _ _ => rfl) (fun _ _ => rfl) (fun k hk => absurd hk (Nat.not_lt_zero k))
/-- both begin to read -/
theorem rd_begin (hN : 1000 < N) (hn : n ≤ 900) {A Z : Mem} (ht : ∀ k, k < n → A.1 1 k = Z.1 204 k ∧ ∃ y : Int32, A.1 1 k = i2b y) : ∃ B C' S', f_X8_begin N (nI n) A = some C' ∧ f_X12_advance N (uI (uI (uI (uI Z 200 9 (nI n)) 200 8 0) 200 16 0) 200 12 0) = some S' ∧ St n B 0 C' S' C' S' ∧ C'.2 = A.2 ∧ (∀ c, c ≠ 82 → C'.1 c = A.1 c) ∧ (∀ c, c ≠ 200 → S'.1 c = Z.1 c ∧ S'.2 c = Z.2 c) ∧ (∀ j, j < 8 ∨ (9 < j ∧ j < 12) ∨ 18 < j → S'.1 200 j = Z.1 200 j) ∧ S'.1 200 8 = 0 ∧ ∀ j, j ≠ 19 → S'.2 200 j = Z.2 200 j := by
  obtain ⟨B, tx0⟩ := TxR.of hn ht
  refine ⟨B, ?_⟩
  unfold f_X8_begin
  simp only [bM_e]
  have em : imin (nI n) 900 = nI n := by
    unfold imin
    rw [if_neg (by rw [n_llt (by omega)]; show ¬ 900 < n; omega)]
  rw [em]
  have oA : ∀ c, c ≠ 82 → (uI (uI (uI (uI A 82 1 (nI n)) 82 4 0) 82 6 0) 82 7 (-1)).1 c = A.1 c := fun c hc => by rw [u_ne hc, u_ne hc, u_ne hc, u_ne hc]
  have oZ : ∀ c, c ≠ 200 → (uI (uI (uI (uI Z 200 9 (nI n)) 200 8 0) 200 16 0) 200 12 0).1 c = Z.1 c := fun c hc => by rw [u_ne hc, u_ne hc, u_ne hc, u_ne hc]
  have a1 : (uI (uI (uI (uI A 82 1 (nI n)) 82 4 0) 82 6 0) 82 7 (-1)).1 82 1 = nI n := by rw [us_same, g_upd, if_neg (by decide), us_same, g_upd, if_neg (by decide), us_same, g_upd, if_neg (by decide), u_at]
  have a4 : (uI (uI (uI (uI A 82 1 (nI n)) 82 4 0) 82 6 0) 82 7 (-1)).1 82 4 = nI 0 := by rw [us_same, g_upd, if_neg (by decide), us_same, g_upd, if_neg (by decide), u_at]; rfl
  have a6 : (uI (uI (uI (uI A 82 1 (nI n)) 82 4 0) 82 6 0) 82 7 (-1)).1 82 6 = 0 := by rw [us_same, g_upd, if_neg (by decide), u_at]
  have a7 : (uI (uI (uI (uI A 82 1 (nI n)) 82 4 0) 82 6 0) 82 7 (-1)).1 82 7 = -1 := u_at _ _ _ _
  have z9 : (uI (uI (uI (uI Z 200 9 (nI n)) 200 8 0) 200 16 0) 200 12 0).1 200 9 = nI n := by rw [us_same, g_upd, if_neg (by decide), us_same, g_upd, if_neg (by decide), us_same, g_upd, if_neg (by decide), u_at]
  have z8 : (uI (uI (uI (uI Z 200 9 (nI n)) 200 8 0) 200 16 0) 200 12 0).1 200 8 = 0 := by rw [us_same, g_upd, if_neg (by decide), us_same, g_upd, if_neg (by decide), u_at]
  have z16 : (uI (uI (uI (uI Z 200 9 (nI n)) 200 8 0) 200 16 0) 200 12 0).1 200 16 = nI 0 := by rw [us_same, g_upd, if_neg (by decide), u_at]; rfl
  have z12 : (uI (uI (uI (uI Z 200 9 (nI n)) 200 8 0) 200 16 0) 200 12 0).1 200 12 = 0 := u_at _ _ _ _
  have zo : ∀ j, j < 8 ∨ (9 < j ∧ j < 12) ∨ 18 < j → (uI (uI (uI (uI Z 200 9 (nI n)) 200 8 0) 200 16 0) 200 12 0).1 200 j = Z.1 200 j := fun j hj => by rw [us_same, g_upd, if_neg (by omega), us_same, g_upd, if_neg (by omega), us_same, g_upd, if_neg (by omega), us_same, g_upd, if_neg (by omega)]
  have a2 : (uI (uI (uI (uI A 82 1 (nI n)) 82 4 0) 82 6 0) 82 7 (-1)).2 = A.2 := rfl
  have z2 : (uI (uI (uI (uI Z 200 9 (nI n)) 200 8 0) 200 16 0) 200 12 0).2 = Z.2 := rfl
  generalize uI (uI (uI (uI A 82 1 (nI n)) 82 4 0) 82 6 0) 82 7 (-1) = A1 at *
  generalize uI (uI (uI (uI Z 200 9 (nI n)) 200 8 0) 200 16 0) 200 12 0 = Z1 at *
  have tx : TxR A1 Z1 n B := ⟨hn, fun k hk => by rw [oA 1 (by decide), oZ 204 (by decide)]; exact tx0.2 k hk⟩
  obtain ⟨C', S', e1, e2, fc, fs, ⟨a, l1, l2, l3⟩, tk⟩ := adv hN tx a1 z9 a4 z16 (by omega)
  refine ⟨C', S', by rw [e1, bv_s], e2, ⟨FkC.rf, FkS.rf, tx.fk fc fs, by rw [fc.2.2 1 (by omega)]; exact a1, by rw [fs.2.1 9 (by omega)]; exact z9, by rw [fc.2.2 6 (by omega)]; exact a6, by rw [fs.2.1 12 (by omega)]; exact z12, by rw [fc.2.2 7 (by omega)]; exact a7, ⟨a, l1, l2, l3⟩, tk⟩, by rw [fc.1, a2], fun c hc => by rw [fc.2.1 c hc, oA c hc], fun c hc => ⟨by rw [(fs.1 c hc).1, oZ c hc], by rw [(fs.1 c hc).2, z2]⟩, fun j hj => by rw [fs.2.1 j (by omega), zo j hj], by rw [fs.2.1 8 (by omega)]; exact z8, fun j hj => by rw [fs.2.2 j hj, z2]⟩
end Q12
