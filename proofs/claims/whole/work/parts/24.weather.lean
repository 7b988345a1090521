/-- cell c holds the numbers G at the places below n -/
def Ar (M : Mem) (c n : Nat) (G : Nat → Nat) : Prop := ∀ k, k < n → M.1 c k = nI (G k)
def pt (G : Nat → Nat) (j y : Nat) : Nat → Nat := fun k => if k = j then y else G k
theorem Ar.put {M : Mem} {c n : Nat} {G : Nat → Nat} (h : Ar M c n G) (j y : Nat) : Ar (uI M c j (nI y)) c n (pt G j y) := fun k hk => by
  rw [g_uI, if_pos rfl, g_upd]
  unfold pt
  split
  · rfl
  · exact h k hk
theorem Ar.same {M M' : Mem} {c n : Nat} {G : Nat → Nat} (h : Ar M c n G) (e : M'.1 c = M.1 c) : Ar M' c n G := fun k hk => by rw [e]; exact h k hk
theorem Ar.cong {M : Mem} {c n : Nat} {G G' : Nat → Nat} (h : Ar M c n G) (e : ∀ k, k < n → G k = G' k) : Ar M c n G' := fun k hk => by rw [← e k hk]; exact h k hk
theorem Sm.at {L : List Nat} {M M' : Mem} {c k : Nat} {x : Int32} (h : Sm L M M') (hc : c ∉ L) (e : M.1 c k = x) : M'.1 c k = x := by rw [h.2 c hc]; exact e
theorem nmem1 {p q : Nat} (h : p ≠ q) : p ∉ [q] := by simp [h]
/-! the hour, on plain numbers: v the port, F the fog of both kinds -/
abbrev adj (W D b x : Nat) : Prop := (0 < b % W ∧ x + 1 = b) ∨ (b % W + 1 < W ∧ x = b + 1) ∨ (0 < b / W ∧ x + W = b) ∨ (b / W + 1 < D ∧ x = b + W)
abbrev nbw (W D b w x : Nat) : Prop := (w = 1 ∧ b % W + 1 < W ∧ x = b + 1) ∨ (w = 2 ∧ b / W + 1 < D ∧ x = b + W) ∨ (w = 3 ∧ 0 < b % W ∧ x + 1 = b) ∨ (w = 4 ∧ 0 < b / W ∧ x + W = b)
def deg (W D b : Nat) : Nat := (if 0 < b % W then 1 else 0) + (if b % W + 1 < W then 1 else 0) + (if 0 < b / W then 1 else 0) + (if b / W + 1 < D then 1 else 0)
def tgt (v : Nat → Nat) (b x : Nat) : Bool := if v 6 = 0 then decide (adj (v 0) (v 1) b x) else decide (nbw (v 0) (v 1) b (v 6) x)
def shr (v : Nat → Nat) (y : Nat) : Nat := if v 6 = 0 then y / 8 else y / 4
def outp (v : Nat → Nat) (b s : Nat) : Nat := if v 6 = 0 then s * deg (v 0) (v 1) b else s
def stp (v : Nat → Nat) (f b s : Nat) (F : Nat → Nat) : Nat → Nat := fun k => if k = f + b then F k - outp v b s else if f ≤ k ∧ tgt v b (k - f) = true then F k + s else F k
def drf (v : Nat → Nat) (f : Nat) (Was : Nat → Nat) (F : Nat → Nat) : Nat → Nat → Nat
  | 0 => F
  | n + 1 => stp v f n (shr v (Was (f + n))) (drf v f Was F n)
def gpl (v : Nat → Nat) (g : Nat) : Nat := v (29 + g) * 30 + (v (17 + g) * v 0 + v (11 + g))
def letF (v : Nat → Nat) (gates : Nat) (F : Nat → Nat) : Nat → Nat → Nat
  | 0 => F
  | g + 1 => if gates.testBit g then pt (letF v gates F g) (gpl v g) (min 999 (letF v gates F g (gpl v g) + v (23 + g))) else letF v gates F g
def stl (v : Nat → Nat) (F : Nat → Nat) (n : Nat) : Nat → Nat := fun k =>
  if k < n then min 999 (F k) - min (min 999 (F k)) (min 999 (F (30 + k))) - v 7
  else if 30 ≤ k ∧ k < 30 + n then min 999 (F k) - min (min 999 (F (k - 30))) (min 999 (F k)) - v 7 else F k
def hrF (v : Nat → Nat) (gates : Nat) (F : Nat → Nat) : Nat → Nat :=
  stl v (drf v 30 (letF v gates F (v 2)) (drf v 0 (letF v gates F (v 2)) (letF v gates F (v 2)) (v 0 * v 1)) (v 0 * v 1)) (v 0 * v 1)
/-- the port's numbers that an hour needs, their ranges -/
def VW (v : Nat → Nat) : Prop := v 0 ≤ 6 ∧ v 1 ≤ 5 ∧ v 2 ≤ 6 ∧ v 6 ≤ 4 ∧ v 7 ≤ 9 ∧ (∀ g, g < v 2 → v (11 + g) < v 0 ∧ v (17 + g) < v 1 ∧ v (23 + g) ≤ 40 ∧ v (29 + g) ≤ 1)
/-- where the class keeps them -/
def PW (M : Mem) (p : Nat) (v : Nat → Nat) : Prop := M.1 p 0 = nI (v 0) ∧ M.1 p 1 = nI (v 1) ∧ M.1 p 2 = nI (v 6) ∧ M.1 p 3 = nI (v 7) ∧ M.1 p 7 = nI (v 2) ∧
  (∀ g, g < v 2 → M.1 (p + 1) (g * 5) = nI (v (11 + g)) ∧ M.1 (p + 1) (g * 5 + 1) = nI (v (17 + g)) ∧ M.1 (p + 1) (g * 5 + 2) = nI (v (23 + g)) ∧ M.1 (p + 1) (g * 5 + 3) = nI (v (29 + g)))
theorem PW.same {M M' : Mem} {p : Nat} {v : Nat → Nat} (h : PW M p v) (e : M'.1 p = M.1 p) (e1 : M'.1 (p + 1) = M.1 (p + 1)) : PW M' p v := by
  unfold PW at h ⊢
  rw [e, e1]
  exact h
theorem bd {W D r c : Nat} (hc : c < W) (hr : r < D) : r * W + c < W * D := by
  have := Nat.mul_le_mul_right W (show r + 1 ≤ D from hr)
  rw [Nat.succ_mul, Nat.mul_comm D W] at this
  omega
theorem bd30 {W D : Nat} (hW : W ≤ 6) (hD : D ≤ 5) : W * D ≤ 30 := Nat.mul_le_mul hW hD
theorem gpl_lt {v : Nat → Nat} (hv : VW v) {g : Nat} (hg : g < v 2) : gpl v g < 60 := by
  obtain ⟨h0, h1, -, -, -, h⟩ := hv
  obtain ⟨a, b, -, d⟩ := h g hg
  have := bd a b
  have := bd30 h0 h1
  unfold gpl
  omega
theorem letF_le {v : Nat → Nat} {gates : Nat} {F : Nat → Nat} (h : ∀ k, k < 60 → F k ≤ 999) : ∀ n k, k < 60 → letF v gates F n k ≤ 999
  | 0, k, hk => h k hk
  | n + 1, k, hk => by
    have ih := letF_le (v := v) (gates := gates) h n
    unfold letF
    split
    · unfold pt
      split
      · omega
      · exact ih k hk
    · exact ih k hk
section CW
variable {N p1 p2 gates : Nat} {M : Mem} {F : Nat → Nat} {v : Nat → Nat}
theorem cw_let (hN : 100 < N) (hv : VW v) (hl : ln p2 = 60) (hp : p1 ≠ p2 ∧ p1 + 1 ≠ p2) (hM : PW M p1 v) (hF : Ar M p2 60 F) (hF9 : ∀ k, k < 60 → F k ≤ 999) (hg : gates < 2147483648) :
    Ho (f_X10_letIn N p1 p2 (nI gates) M) (fun M' => Sm [p2] M M' ∧ Ar M' p2 60 (letF v gates F (v 2))) := by
  unfold f_X10_letIn
  refine Ho_lp (fun i a M' => a = (nI gates, nI i) ∧ Sm [p2] M M' ∧ Ar M' p2 60 (letF v gates F i)) (v 2) (by have := hv.2.2.1; omega) ⟨rfl, Sm.rf, hF⟩ ?_
  rintro i hi k hk _ M' ⟨rfl, hS, hA⟩
  have hM' : PW M' p1 v := hM.same (hS.2 _ (nmem1 hp.1)) (hS.2 _ (nmem1 hp.2))
  obtain ⟨h0, h1, h2, h3, h7, hgt⟩ := hM'
  have v2 := hv.2.2.1
  unfold f_X10_letIn_h3 f_X10_letIn_b91 f_X5_boardAt
  by_cases h : v 2 ≤ i
  · have e : i = v 2 := by omega
    subst e
    simp (disch := omega) only [h7, n_tn, n_tl, n_t0, n_lt, n_le, n_eq, n_ltl, n_lel, n_eql, n_llt, n_lle, n_leq, n_m1l, n_m1r, n_addl, n_ladd, nI_add, n_mul, n_mull, n_lmul, n_sub, n_subl, n_div, n_divl, n_modd, true_and, and_true, bi_s, bv_s, bM_e, bI_e, bL_e, ck_n, ck_l, ck_0, Nat.le_refl, if_true, Ho_some]
    exact ⟨hS, hA⟩
  · obtain ⟨g0, g1, g2, g3⟩ := hgt i (by omega)
    have hgp := gpl_lt hv (show i < v 2 by omega)
    have q1 := letF_le (v := v) (gates := gates) hF9 i
    have qr := (hv.2.2.2.2.2 i (by omega)).2.2.1
    have hAp := hA _ hgp
    have q2 := q1 (gpl v i) hgp
    by_cases hb : gates.testBit i = true
    · unfold gpl at hAp hgp q2
      simp (disch := omega) only [h7, h0, g0, g1, g2, g3, hl, hAp, n_tn, n_tl, n_t0, n_lt, n_le, n_eq, n_ltl, n_lel, n_eql, n_llt, n_lle, n_leq, n_m1l, n_m1r, n_addl, n_ladd, nI_add, n_mul, n_mull, n_lmul, n_sub, n_subl, n_div, n_divl, n_modd, true_and, and_true, bi_s, bv_s, bM_e, bI_e, bL_e, ck_n, ck_l, ck_0, n_bit, if_pos hb, if_neg h, n_lmin]
      refine hk (by omega) _ _ ⟨rfl, hS.uI (by simp), ?_⟩
      have := hA.put (gpl v i) (min 999 (letF v gates F i (gpl v i) + v (23 + i)))
      rw [show letF v gates F (i + 1) = _ from by rw [letF, if_pos hb]]
      exact this
    · simp (disch := omega) only [h7, n_tn, n_tl, n_t0, n_lt, n_le, n_eq, n_ltl, n_lel, n_eql, n_llt, n_lle, n_leq, n_m1l, n_m1r, n_addl, n_ladd, nI_add, n_mul, n_mull, n_lmul, n_sub, n_subl, n_div, n_divl, n_modd, true_and, and_true, bi_s, bv_s, bM_e, bI_e, bL_e, ck_n, ck_l, ck_0, n_bit, if_neg hb, if_neg h]
      refine hk (by omega) _ _ ⟨rfl, hS, ?_⟩
      rw [show letF v gates F (i + 1) = _ from by rw [letF, if_neg hb]]
      exact hA
end CW
def addc (c : Prop) [Decidable c] (G : Nat → Nat) (j s : Nat) : Nat → Nat := if c then pt G j (G j + s) else G
theorem addc_at (c : Prop) [Decidable c] (G : Nat → Nat) (j s k : Nat) : addc c G j s k = G k + (if c ∧ k = j then s else 0) := by
  unfold addc pt
  by_cases h : c
  · by_cases g : k = j
    · subst g; simp [h]
    · simp [h, g]
  · simp [h]
section GA
variable {p1 p2 pl col row s d W D : Nat} {M : Mem} {F : Nat → Nat}
theorem ga66 (hl : ln p2 = 60) (h0 : M.1 p1 0 = nI W) (h1 : M.1 p1 1 = nI D) (hF : Ar M p2 60 F) (hD : row < D ∧ D ≤ 5) (hr : row + 1 < D → pl + W < 60) :
    Ho (f_X10_giveAround_b66 p1 p2 (nI pl) (nI row) (nI s) (nI d) M) (fun q => q.1 = nI (d + if row + 1 < D then 1 else 0) ∧ Sm [p2] M q.2 ∧ Ar q.2 p2 60 (addc (row + 1 < D) F (pl + W) s)) := by
  unfold f_X10_giveAround_b66 addc
  by_cases h : row + 1 < D
  · have hr' := hr h
    have e : ¬ (D - 1 ≤ row) := by omega
    have eF := hF (pl + W) hr'
    simp (disch := omega) only [h0, h1, hl, eF, n_tn, n_tl, n_t0, n_lt, n_le, n_eq, n_ltl, n_lel, n_eql, n_llt, n_lle, n_leq, n_m1l, n_m1r, n_addl, n_ladd, nI_add, n_mul, n_mull, n_lmul, n_sub, n_subl, n_div, n_divl, n_modd, true_and, and_true, bi_s, bv_s, bM_e, bI_e, bL_e, ck_n, ck_l, ck_0, if_neg e, if_pos h, Ho_some]
    exact ⟨Sm.rf.uI (by simp), hF.put _ _⟩
  · have e : D - 1 ≤ row := by omega
    simp (disch := omega) only [h0, h1, hl, n_tn, n_tl, n_t0, n_lt, n_le, n_eq, n_ltl, n_lel, n_eql, n_llt, n_lle, n_leq, n_m1l, n_m1r, n_addl, n_ladd, nI_add, n_mul, n_mull, n_lmul, n_sub, n_subl, n_div, n_divl, n_modd, true_and, and_true, bi_s, bv_s, bM_e, bI_e, bL_e, ck_n, ck_l, ck_0, if_pos e, if_neg h, Ho_some, Nat.add_zero]
    exact ⟨Sm.rf, hF⟩
theorem ga45 (hl : ln p2 = 60) (hp : p1 ≠ p2) (h0 : M.1 p1 0 = nI W) (h1 : M.1 p1 1 = nI D) (hF : Ar M p2 60 F) (hD : row < D ∧ D ≤ 5) (hr : row + 1 < D → pl + W < 60) (hr2 : 0 < row → W ≤ pl ∧ pl < 60) :
    Ho (f_X10_giveAround_b45 p1 p2 (nI pl) (nI row) (nI s) (nI d) M) (fun q => q.1 = nI (d + (if 0 < row then 1 else 0) + if row + 1 < D then 1 else 0) ∧ Sm [p2] M q.2 ∧ Ar q.2 p2 60 (addc (row + 1 < D) (addc (0 < row) F (pl - W) s) (pl + W) s)) := by
  unfold f_X10_giveAround_b45
  by_cases h : 0 < row
  · have hr' := hr2 h
    have e : ¬ (row ≤ 0) := by omega
    have eF := hF (pl - W) (by omega)
    simp (disch := omega) only [h0, hl, eF, n_tn, n_tl, n_t0, n_lt, n_le, n_eq, n_ltl, n_lel, n_eql, n_llt, n_lle, n_leq, n_m1l, n_m1r, n_addl, n_ladd, nI_add, n_mul, n_mull, n_lmul, n_sub, n_subl, n_div, n_divl, n_modd, true_and, and_true, bi_s, bv_s, bM_e, bI_e, bL_e, ck_n, ck_l, ck_0, if_neg e, if_pos h]
    refine Ho_mono (ga66 (W := W) (D := D) (F := addc (0 < row) F (pl - W) s) hl ((Sm.rf.uI (L := [p2]) (by simp)).at (nmem1 hp) h0) ((Sm.rf.uI (L := [p2]) (by simp)).at (nmem1 hp) h1) ?_ hD hr) ?_
    · unfold addc
      rw [if_pos h]
      exact hF.put _ _
    · rintro q ⟨a, b, c⟩
      exact ⟨a, (Sm.rf.uI (by simp)).tr b, c⟩
  · have e : row ≤ 0 := by omega
    simp (disch := omega) only [n_tn, n_tl, n_t0, n_lt, n_le, n_eq, n_ltl, n_lel, n_eql, n_llt, n_lle, n_leq, n_m1l, n_m1r, n_addl, n_ladd, nI_add, n_mul, n_mull, n_lmul, n_sub, n_subl, n_div, n_divl, n_modd, true_and, and_true, bi_s, bv_s, bM_e, bI_e, bL_e, ck_n, ck_l, ck_0, if_pos e, if_neg h, Nat.add_zero, addc, if_false]
    exact ga66 hl h0 h1 hF hD hr
theorem ga21 (hl : ln p2 = 60) (hp : p1 ≠ p2) (h0 : M.1 p1 0 = nI W) (h1 : M.1 p1 1 = nI D) (hF : Ar M p2 60 F) (hD : row < D ∧ D ≤ 5) (hr : row + 1 < D → pl + W < 60) (hr2 : 0 < row → W ≤ pl ∧ pl < 60) (hc : col < W ∧ W ≤ 6) (hc1 : col + 1 < W → pl + 1 < 60) :
    Ho (f_X10_giveAround_b21 p1 p2 (nI pl) (nI col) (nI row) (nI s) (nI d) M) (fun q => q.1 = nI (d + (if col + 1 < W then 1 else 0) + (if 0 < row then 1 else 0) + if row + 1 < D then 1 else 0) ∧ Sm [p2] M q.2 ∧ Ar q.2 p2 60 (addc (row + 1 < D) (addc (0 < row) (addc (col + 1 < W) F (pl + 1) s) (pl - W) s) (pl + W) s)) := by
  unfold f_X10_giveAround_b21
  by_cases h : col + 1 < W
  · have hr' := hc1 h
    have e : ¬ (W - 1 ≤ col) := by omega
    have eF := hF (pl + 1) (by omega)
    simp (disch := omega) only [h0, hl, eF, n_tn, n_tl, n_t0, n_lt, n_le, n_eq, n_ltl, n_lel, n_eql, n_llt, n_lle, n_leq, n_m1l, n_m1r, n_addl, n_ladd, nI_add, n_mul, n_mull, n_lmul, n_sub, n_subl, n_div, n_divl, n_modd, true_and, and_true, bi_s, bv_s, bM_e, bI_e, bL_e, ck_n, ck_l, ck_0, if_neg e, if_pos h]
    refine Ho_mono (ga45 (W := W) (D := D) (F := addc (col + 1 < W) F (pl + 1) s) hl hp ((Sm.rf.uI (L := [p2]) (by simp)).at (nmem1 hp) h0) ((Sm.rf.uI (L := [p2]) (by simp)).at (nmem1 hp) h1) ?_ hD hr hr2) ?_
    · unfold addc
      rw [if_pos h]
      exact hF.put _ _
    · rintro q ⟨a, b, c⟩
      exact ⟨a, (Sm.rf.uI (by simp)).tr b, c⟩
  · have e : W - 1 ≤ col := by omega
    simp (disch := omega) only [h0, n_tn, n_tl, n_t0, n_lt, n_le, n_eq, n_ltl, n_lel, n_eql, n_llt, n_lle, n_leq, n_m1l, n_m1r, n_addl, n_ladd, nI_add, n_mul, n_mull, n_lmul, n_sub, n_subl, n_div, n_divl, n_modd, true_and, and_true, bi_s, bv_s, bM_e, bI_e, bL_e, ck_n, ck_l, ck_0, if_pos e, if_neg h, Nat.add_zero]
    have := ga45 (s := s) (d := d) hl hp h0 h1 hF hD hr hr2
    rwa [show addc (col + 1 < W) F (pl + 1) s = F from if_neg h]
theorem ga_all (hl : ln p2 = 60) (hp : p1 ≠ p2) (h0 : M.1 p1 0 = nI W) (h1 : M.1 p1 1 = nI D) (hF : Ar M p2 60 F) (hD : row < D ∧ D ≤ 5) (hr : row + 1 < D → pl + W < 60) (hr2 : 0 < row → W ≤ pl ∧ pl < 60) (hc : col < W ∧ W ≤ 6) (hc1 : col + 1 < W → pl + 1 < 60) (hc0 : 0 < col → 0 < pl ∧ pl < 60) :
    Ho (f_X10_giveAround p1 p2 (nI pl) (nI col) (nI row) (nI s) M) (fun q => q.1 = nI ((if 0 < col then 1 else 0) + (if col + 1 < W then 1 else 0) + (if 0 < row then 1 else 0) + if row + 1 < D then 1 else 0) ∧ Sm [p2] M q.2 ∧ Ar q.2 p2 60 (fun k => F k + (if 0 < col ∧ k = pl - 1 then s else 0) + (if col + 1 < W ∧ k = pl + 1 then s else 0) + (if 0 < row ∧ k = pl - W then s else 0) + (if row + 1 < D ∧ k = pl + W then s else 0))) := by
  have fin : ∀ (G : Nat → Nat) (M' : Mem), Ar M' p2 60 (addc (row + 1 < D) (addc (0 < row) (addc (col + 1 < W) (addc (0 < col) F (pl - 1) s) (pl + 1) s) (pl - W) s) (pl + W) s) → Ar M' p2 60 (fun k => F k + (if 0 < col ∧ k = pl - 1 then s else 0) + (if col + 1 < W ∧ k = pl + 1 then s else 0) + (if 0 < row ∧ k = pl - W then s else 0) + (if row + 1 < D ∧ k = pl + W then s else 0)) := fun G M' h => h.cong fun k _ => by rw [addc_at, addc_at, addc_at, addc_at]
  unfold f_X10_giveAround
  by_cases h : 0 < col
  · have hr' := hc0 h
    have e : ¬ (col ≤ 0) := by omega
    have eF := hF (pl - 1) (by omega)
    simp (disch := omega) only [h0, hl, eF, n_tn, n_tl, n_t0, n_lt, n_le, n_eq, n_ltl, n_lel, n_eql, n_llt, n_lle, n_leq, n_m1l, n_m1r, n_addl, n_ladd, nI_add, n_mul, n_mull, n_lmul, n_sub, n_subl, n_div, n_divl, n_modd, true_and, and_true, bi_s, bv_s, bM_e, bI_e, bL_e, ck_n, ck_l, ck_0, if_neg e, if_pos h]
    refine Ho_mono (ga21 (d := 1) (W := W) (D := D) (F := addc (0 < col) F (pl - 1) s) hl hp ((Sm.rf.uI (L := [p2]) (by simp)).at (nmem1 hp) h0) ((Sm.rf.uI (L := [p2]) (by simp)).at (nmem1 hp) h1) ?_ hD hr hr2 hc hc1) ?_
    · unfold addc
      rw [if_pos h]
      exact hF.put _ _
    · rintro q ⟨a, b, c⟩
      exact ⟨a, (Sm.rf.uI (by simp)).tr b, fin F _ c⟩
  · have e : col ≤ 0 := by omega
    simp (disch := omega) only [n_tn, n_tl, n_t0, n_lt, n_le, n_eq, n_ltl, n_lel, n_eql, n_llt, n_lle, n_leq, n_m1l, n_m1r, n_addl, n_ladd, nI_add, n_mul, n_mull, n_lmul, n_sub, n_subl, n_div, n_divl, n_modd, true_and, and_true, bi_s, bv_s, bM_e, bI_e, bL_e, ck_n, ck_l, ck_0, if_pos e]
    refine Ho_mono (ga21 (d := 0) (s := s) hl hp h0 h1 hF hD hr hr2 hc hc1) ?_
    rintro q ⟨a, b, c⟩
    refine ⟨by rw [a, if_neg h], b, fin F _ ?_⟩
    rwa [show addc (0 < col) F (pl - 1) s = F from if_neg h]
end GA
theorem deg_le (W D b : Nat) : deg W D b ≤ 4 := by
  unfold deg
  repeat' split
  all_goals omega
theorem outp_le {v : Nat → Nat} {b y : Nat} : outp v b (shr v y) ≤ y := by
  unfold outp shr
  split
  · have := Nat.mul_le_mul_left (y / 8) (deg_le (v 0) (v 1) b)
    omega
  · omega
theorem shr_le {v : Nat → Nat} {y : Nat} (h : y ≤ 999) : shr v y ≤ 249 := by
  unfold shr
  split <;> omega
theorem drf_le {v : Nat → Nat} {f : Nat} {Was F : Nat → Nat} {B : Nat} (hW : ∀ k, k < 60 → Was k ≤ 999) (hF : ∀ k, k < 60 → F k ≤ B) : ∀ n, f + n ≤ 60 → ∀ k, k < 60 → drf v f Was F n k ≤ B + 249 * n
  | 0, _, k, hk => by have := hF k hk; unfold drf; omega
  | n + 1, hn, k, hk => by
    have ih := drf_le (f := f) hW hF (v := v) n (by omega) k hk
    have := shr_le (v := v) (hW (f + n) (by omega))
    unfold drf stp
    split
    · omega
    · split <;> omega
theorem drf_ge {v : Nat → Nat} {f : Nat} {Was F : Nat → Nat} : ∀ n b, n ≤ b → F (f + b) ≤ drf v f Was F n (f + b)
  | 0, b, _ => Nat.le_refl _
  | n + 1, b, h => by
    have ih := drf_ge (v := v) (f := f) (Was := Was) (F := F) n b (by omega)
    unfold drf stp
    rw [if_neg (by omega)]
    split <;> omega
theorem dm {W r c : Nat} (hc : c < W) : (r * W + c) % W = c ∧ (r * W + c) / W = r := by
  constructor
  · rw [Nat.mul_comm, Nat.mul_add_mod, Nat.mod_eq_of_lt hc]
  · rw [Nat.mul_comm, Nat.mul_add_div (by omega), Nat.div_eq_of_lt hc, Nat.add_zero]
/-- the class's step of a board without wind -/
theorem stp_0 {v : Nat → Nat} {f s r c : Nat} {F : Nat → Nat} (h6 : v 6 = 0) (hc : c < v 0) (k : Nat) :
    stp v f (r * v 0 + c) s F k = pt (fun k => F k + (if 0 < c ∧ k = (f + (r * v 0 + c)) - 1 then s else 0) + (if c + 1 < v 0 ∧ k = (f + (r * v 0 + c)) + 1 then s else 0) + (if 0 < r ∧ k = (f + (r * v 0 + c)) - v 0 then s else 0) + (if r + 1 < v 1 ∧ k = (f + (r * v 0 + c)) + v 0 then s else 0)) (f + (r * v 0 + c)) (F (f + (r * v 0 + c)) - s * ((if 0 < c then 1 else 0) + (if c + 1 < v 0 then 1 else 0) + (if 0 < r then 1 else 0) + if r + 1 < v 1 then 1 else 0)) k := by
  have e := dm (r := r) hc
  have hr : 0 < r → v 0 ≤ r * v 0 := fun h => Nat.le_mul_of_pos_left (v 0) h
  unfold stp outp tgt pt deg adj
  simp only [h6, if_true, e.1, e.2, decide_eq_true_eq]
  by_cases g : k = f + (r * v 0 + c)
  · rw [if_pos g, if_pos g, g]
  · rw [if_neg g, if_neg g]
    generalize r * v 0 = rw at *
    by_cases g1 : f ≤ k ∧ (0 < c ∧ k - f + 1 = rw + c ∨ c + 1 < v 0 ∧ k - f = rw + c + 1 ∨ 0 < r ∧ k - f + v 0 = rw + c ∨ r + 1 < v 1 ∧ k - f = rw + c + v 0)
    · rw [if_pos g1]
      obtain ⟨q, g1 | g1 | g1 | g1⟩ := g1
      · rw [if_pos (by omega), if_neg (by omega), if_neg (by omega), if_neg (by omega)]; omega
      · rw [if_neg (by omega), if_pos (by omega), if_neg (by omega), if_neg (by omega)]; omega
      · rw [if_neg (by omega), if_neg (by omega), if_pos (by have := hr g1.1; omega), if_neg (by omega)]; omega
      · rw [if_neg (by omega), if_neg (by omega), if_neg (by omega), if_pos (by omega)]; omega
    · rw [if_neg g1, if_neg (by omega), if_neg (by omega), if_neg (by intro z; have := hr z.1; omega), if_neg (by omega)]; omega
theorem stp_z {v : Nat → Nat} {f b : Nat} {F : Nat → Nat} (k : Nat) : stp v f b 0 F k = F k := by
  unfold stp outp
  split
  · split <;> omega
  · split <;> rfl
section CS
variable {N p1 p2 f : Nat} {M : Mem} {F Was : Nat → Nat} {v : Nat → Nat}
theorem cw_spread (hN : 100 < N) (hv : VW v) (h6 : v 6 = 0) (hl : ln p2 = 60) (hp : p1 ≠ p2 ∧ p1 + 1 ≠ p2 ∧ p2 ≠ 91) (hM : PW M p1 v) (hF : Ar M p2 60 F) (hW : Ar M 91 60 Was) (hW9 : ∀ k, k < 60 → Was k ≤ 999) (hF9 : ∀ k, k < 60 → F k ≤ 9000) (hff : f = 0 ∨ f = 30) (hWF : ∀ b, b < 30 → Was (f + b) ≤ F (f + b)) :
    Ho (f_X10_spread N p1 p2 (nI f) M) (fun M' => Sm [p2] M M' ∧ Ar M' p2 60 (drf v f Was F (v 0 * v 1))) := by
  obtain ⟨h0, h1, -⟩ := hM
  have b30 := bd30 hv.1 hv.2.1
  have v0 := hv.1
  have v1 := hv.2.1
  unfold f_X10_spread
  refine Ho_lp (fun r a M' => a = (nI (f + r * v 0), nI r) ∧ Sm [p2] M M' ∧ Ar M' p2 60 (drf v f Was F (r * v 0))) (v 1) (by omega) ⟨by rw [Nat.zero_mul]; rfl, Sm.rf, by rw [Nat.zero_mul]; exact hF⟩ ?_
  rintro r hr k6 hk6 _ M1 ⟨rfl, hS1, hA1⟩
  have g0 := hS1.at (nmem1 hp.1) h0
  have g1 := hS1.at (nmem1 hp.1) h1
  unfold f_X10_spread_h6
  by_cases hre : v 1 ≤ r
  · have e : r = v 1 := by omega
    subst e
    simp (disch := omega) only [g1, n_tn, n_tl, n_t0, n_lt, n_le, n_eq, n_ltl, n_lel, n_eql, n_llt, n_lle, n_leq, n_m1l, n_m1r, n_addl, n_ladd, nI_add, n_mul, n_mull, n_lmul, n_sub, n_subl, n_div, n_divl, n_modd, true_and, and_true, bi_s, bv_s, bM_e, bI_e, bL_e, ck_n, ck_l, ck_0, Nat.le_refl, if_true, Ho_some]
    exact ⟨hS1, by rwa [Nat.mul_comm]⟩
  · simp (disch := omega) only [g1, n_tn, n_tl, n_t0, n_lt, n_le, n_eq, n_ltl, n_lel, n_eql, n_llt, n_lle, n_leq, n_m1l, n_m1r, n_addl, n_ladd, nI_add, n_mul, n_mull, n_lmul, n_sub, n_subl, n_div, n_divl, n_modd, true_and, and_true, bi_s, bv_s, bM_e, bI_e, bL_e, ck_n, ck_l, ck_0, if_neg hre]
    refine Ho_lp (fun c a M' => a = (nI (f + (r * v 0 + c)), nI r, nI c) ∧ Sm [p2] M M' ∧ Ar M' p2 60 (drf v f Was F (r * v 0 + c))) (v 0) (by omega) ⟨rfl, hS1, hA1⟩ ?_
    rintro c hc k18 hk18 _ M2 ⟨rfl, hS2, hA2⟩
    have q0 := hS2.at (nmem1 hp.1) h0
    have q1 := hS2.at (nmem1 hp.1) h1
    unfold f_X10_spread_h18 f_X10_spread_b68
    by_cases hce : v 0 ≤ c
    · have e : c = v 0 := by omega
      subst e
      simp (disch := omega) only [q0, n_tn, n_tl, n_t0, n_lt, n_le, n_eq, n_ltl, n_lel, n_eql, n_llt, n_lle, n_leq, n_m1l, n_m1r, n_addl, n_ladd, nI_add, n_mul, n_mull, n_lmul, n_sub, n_subl, n_div, n_divl, n_modd, true_and, and_true, bi_s, bv_s, bM_e, bI_e, bL_e, ck_n, ck_l, ck_0, Nat.le_refl, if_true]
      refine hk6 (by omega) _ _ ⟨by rw [Nat.succ_mul], hS2, by rwa [Nat.succ_mul]⟩
    · have hb := bd (show c < v 0 by omega) (show r < v 1 by omega)
      have hrm : 0 < r → v 0 ≤ r * v 0 := fun h => Nat.le_mul_of_pos_left (v 0) h
      have hrp : r + 1 < v 1 → r * v 0 + c + v 0 < v 0 * v 1 := fun h => by
        have := bd (show c < v 0 by omega) h
        rw [Nat.succ_mul] at this
        omega
      have hcp : c + 1 < v 0 → r * v 0 + c + 1 < v 0 * v 1 := fun h => by
        have := bd h (show r < v 1 by omega)
        omega
      have w91 : M2.1 91 (f + (r * v 0 + c)) = nI (Was (f + (r * v 0 + c))) := hS2.at (nmem1 (Ne.symm hp.2.2)) (hW _ (by omega))
      have ww := hW9 (f + (r * v 0 + c)) (by omega)
      have fl := drf_le (v := v) (f := f) hW9 hF9 (r * v 0 + c) (by omega) (f + (r * v 0 + c)) (by omega)
      have fg := drf_ge (v := v) (f := f) (Was := Was) (F := F) (r * v 0 + c) (r * v 0 + c) (Nat.le_refl _)
      have wf := hWF (r * v 0 + c) (by omega)
      have a2 := hA2 (f + (r * v 0 + c)) (by omega)
      have next : drf v f Was F (r * v 0 + (c + 1)) = stp v f (r * v 0 + c) (Was (f + (r * v 0 + c)) / 8) (drf v f Was F (r * v 0 + c)) := by
        rw [← Nat.add_assoc, drf]
        unfold shr
        rw [if_pos h6]
      by_cases hs : Was (f + (r * v 0 + c)) / 8 ≤ 0
      · simp (disch := omega) only [q0, w91, n_tn, n_tl, n_t0, n_lt, n_le, n_eq, n_ltl, n_lel, n_eql, n_llt, n_lle, n_leq, n_m1l, n_m1r, n_addl, n_ladd, nI_add, n_mul, n_mull, n_lmul, n_sub, n_subl, n_div, n_divl, n_modd, true_and, and_true, bi_s, bv_s, bM_e, bI_e, bL_e, ck_n, ck_l, ck_0, if_neg hce, if_pos hs]
        refine hk18 (by omega) _ _ ⟨rfl, hS2, ?_⟩
        rw [next, show Was (f + (r * v 0 + c)) / 8 = 0 by omega]
        exact hA2.cong fun k _ => (stp_z k).symm
      · simp (disch := omega) only [q0, w91, a2, hl, n_tn, n_tl, n_t0, n_lt, n_le, n_eq, n_ltl, n_lel, n_eql, n_llt, n_lle, n_leq, n_m1l, n_m1r, n_addl, n_ladd, nI_add, n_mul, n_mull, n_lmul, n_sub, n_subl, n_div, n_divl, n_modd, true_and, and_true, bi_s, bv_s, bM_e, bI_e, bL_e, ck_n, ck_l, ck_0, if_neg hce, if_neg hs, Ho_bi]
        refine Ho_mono (ga_all (s := Was (f + (r * v 0 + c)) / 8) hl hp.1 q0 q1 hA2 (by omega) (fun h => by have := hrp h; omega) (fun h => by have := hrm h; omega) (by omega) (fun h => by have := hcp h; omega) (fun h => by omega)) ?_
        rintro ⟨rr, M3⟩ ⟨e1, hS3, hA3⟩
        dsimp only at e1 hS3 hA3 ⊢
        subst e1
        have od := deg_le (v 0) (v 1) (r * v 0 + c)
        unfold deg at od
        rw [(dm (r := r) (show c < v 0 by omega)).1, (dm (r := r) (show c < v 0 by omega)).2] at od
        have om := Nat.mul_le_mul_left (Was (f + (r * v 0 + c)) / 8) od
        rw [n_mul, n_sub (by omega)]
        refine hk18 (by omega) _ _ ⟨rfl, (hS2.tr hS3).uI (by simp), ?_⟩
        rw [next]
        exact (hA3.put _ _).cong fun k _ => (stp_0 h6 (by omega) k).symm
end CS
theorem n_addm1 {a : Nat} (h : 1 ≤ a) : nI a + (-1) = nI (a - 1) := by
  rw [← Int32.sub_eq_add_neg]
  exact n_sub h
theorem n_addng {a b : Nat} (h : b ≤ a) : nI a + (-1 * nI b + 0) = nI (a - b) := by
  rw [Int32.add_zero, Int32.neg_mul, Int32.one_mul, ← Int32.sub_eq_add_neg]
  exact n_sub h
theorem f_isB {p x y W D : Nat} {M : Mem} (h0 : M.1 p 0 = nI W) (h1 : M.1 p 1 = nI D) (hx : x < 2147483648) (hy : y < 2147483648) (hW : W < 2147483648) (hD : D < 2147483648) : f_X5_isBoard p (nI x) (nI y) M = some (decide (x < W ∧ y < D), M) := by
  unfold f_X5_isBoard
  rw [if_neg (nI_pos hx), h0, h1]
  by_cases a : x < W
  · rw [if_neg (by rw [n_le (by omega)]; omega), if_neg (nI_pos hy)]
    by_cases b : y < D
    · rw [if_neg (by rw [n_le (by omega)]; omega)]
      simp [a, b]
    · rw [if_pos (by rw [n_le (by omega)]; omega)]
      simp [b]
  · rw [if_pos (by rw [n_le (by omega)]; omega)]
    simp [a]
theorem f_isB0 {p : Nat} {x y : Int32} {M : Mem} (h : x < 0) : f_X5_isBoard p x y M = some (false, M) := by
  unfold f_X5_isBoard
  rw [if_pos h]
theorem f_isB1 {p x W : Nat} {y : Int32} {M : Mem} (h0 : M.1 p 0 = nI W) (hx : x < 2147483648) (hW : W < 2147483648) (h : y < 0) : f_X5_isBoard p (nI x) y M = some (false, M) := by
  unfold f_X5_isBoard
  rw [if_neg (nI_pos hx), h0]
  split
  · rfl
  · first | rfl | rw [if_pos h]
abbrev blc (w W D c r : Nat) : Prop := (w = 1 ∧ c + 1 < W) ∨ (w = 2 ∧ r + 1 < D) ∨ (w = 3 ∧ 0 < c) ∨ (w = 4 ∧ 0 < r)
def bltg (w W b : Nat) : Nat := if w = 1 then b + 1 else if w = 2 then b + W else if w = 3 then b - 1 else b - W
theorem bl_is {w p c r W D : Nat} {M : Mem} (hw : 1 ≤ w ∧ w ≤ 4) (h0 : M.1 p 0 = nI W) (h1 : M.1 p 1 = nI D) (hc : c < W ∧ W ≤ 6) (hr : r < D ∧ D ≤ 5) : f_X5_isBoard p (nI c + sta 0 w) (nI r + sta 1 w) M = some (decide (blc w W D c r), M) := by
  obtain h | h | h | h : w = 1 ∨ w = 2 ∨ w = 3 ∨ w = 4 := by omega
  · subst h
    show f_X5_isBoard p (nI c + 1) (nI r + 0) M = _
    rw [nI_1, show nI r + 0 = nI r from Int32.add_zero _, f_isB h0 h1 (by omega) (by omega) (by omega) (by omega)]
    congr 2
    apply decide_eq_decide.mpr
    omega
  · subst h
    show f_X5_isBoard p (nI c + 0) (nI r + 1) M = _
    rw [nI_1, show nI c + 0 = nI c from Int32.add_zero _, f_isB h0 h1 (by omega) (by omega) (by omega) (by omega)]
    congr 2
    apply decide_eq_decide.mpr
    omega
  · subst h
    show f_X5_isBoard p (nI c + (-1)) (nI r + 0) M = _
    rw [show nI r + 0 = nI r from Int32.add_zero _]
    by_cases g : 0 < c
    · rw [n_addm1 g, f_isB h0 h1 (by omega) (by omega) (by omega) (by omega)]
      congr 2
      apply decide_eq_decide.mpr
      omega
    · rw [show c = 0 by omega, f_isB0 (show nI 0 + (-1) < 0 by decide)]
      congr 2
  · subst h
    show f_X5_isBoard p (nI c + 0) (nI r + (-1)) M = _
    rw [show nI c + 0 = nI c from Int32.add_zero _]
    by_cases g : 0 < r
    · rw [n_addm1 g, f_isB h0 h1 (by omega) (by omega) (by omega) (by omega)]
      congr 2
      apply decide_eq_decide.mpr
      omega
    · rw [show r = 0 by omega, f_isB1 h0 (by omega) (by omega) (show nI 0 + (-1) < 0 by decide)]
      congr 2
theorem bl_st {w W D c r f : Nat} (hw : 1 ≤ w ∧ w ≤ 4) (hc : c < W) (hb : blc w W D c r) : nI (f + (r * W + c)) + (sta 1 w * nI W + sta 0 w) = nI (f + bltg w W (r * W + c)) := by
  have hr : 0 < r → W ≤ r * W := fun h => Nat.le_mul_of_pos_left W h
  obtain h | h | h | h : w = 1 ∨ w = 2 ∨ w = 3 ∨ w = 4 := by omega
  · subst h
    show nI (f + (r * W + c)) + (0 * nI W + 1) = _
    rw [Int32.zero_mul, Int32.zero_add, nI_1]
    rfl
  · subst h
    show nI (f + (r * W + c)) + (1 * nI W + 0) = _
    rw [Int32.one_mul, Int32.add_zero, nI_add]
    show _ = nI (f + (r * W + c + W))
    congr 1
    omega
  · subst h
    show nI (f + (r * W + c)) + (0 * nI W + (-1)) = _
    rw [Int32.zero_mul, Int32.zero_add, n_addm1 (by omega)]
    show _ = nI (f + (r * W + c - 1))
    congr 1
    omega
  · subst h
    have := hr (by omega)
    show nI (f + (r * W + c)) + (-1 * nI W + 0) = _
    rw [n_addng (by omega)]
    show _ = nI (f + (r * W + c - W))
    congr 1
    omega
theorem bl_lt {w W D c r : Nat} (hw : 1 ≤ w ∧ w ≤ 4) (hc : c < W) (hr : r < D) (hb : blc w W D c r) : bltg w W (r * W + c) < W * D := by
  have h1 := bd hc hr
  unfold bltg
  repeat' split
  · have := bd (show c + 1 < W by omega) hr
    omega
  · have := bd hc (show r + 1 < D by omega)
    rw [Nat.succ_mul] at this
    omega
  · omega
  · omega
theorem stp_w {v : Nat → Nat} {f s r c : Nat} {F : Nat → Nat} (h6 : 1 ≤ v 6 ∧ v 6 ≤ 4) (hc : c < v 0) (k : Nat) :
    stp v f (r * v 0 + c) s F k = (if blc (v 6) (v 0) (v 1) c r then pt (pt F (f + (r * v 0 + c)) (F (f + (r * v 0 + c)) - s)) (f + bltg (v 6) (v 0) (r * v 0 + c)) (F (f + bltg (v 6) (v 0) (r * v 0 + c)) + s) else pt F (f + (r * v 0 + c)) (F (f + (r * v 0 + c)) - s)) k := by
  have e := dm (r := r) hc
  have hr : 0 < r → v 0 ≤ r * v 0 := fun h => Nat.le_mul_of_pos_left (v 0) h
  have ht : ∀ x, nbw (v 0) (v 1) (r * v 0 + c) (v 6) x ↔ blc (v 6) (v 0) (v 1) c r ∧ x = bltg (v 6) (v 0) (r * v 0 + c) := by
    intro x
    unfold bltg
    simp only [nbw, e.1, e.2]
    obtain h | h | h | h : v 6 = 1 ∨ v 6 = 2 ∨ v 6 = 3 ∨ v 6 = 4 := by omega
    · rw [h]; simp only [blc]; simp
    · rw [h]; simp only [blc]; simp
    · rw [h]; simp only [blc]; simp; omega
    · rw [h]; simp only [blc]; simp
      intro z; have := hr z; omega
  have hne : blc (v 6) (v 0) (v 1) c r → bltg (v 6) (v 0) (r * v 0 + c) ≠ r * v 0 + c := by
    intro z
    unfold bltg
    obtain h | h | h | h : v 6 = 1 ∨ v 6 = 2 ∨ v 6 = 3 ∨ v 6 = 4 := by omega
    · rw [h]; simp
    · rw [h]; simp; omega
    · rw [h]; simp; omega
    · rw [h]; simp
      have := hr (by omega)
      omega
  unfold stp outp tgt
  rw [if_neg (show ¬ v 6 = 0 by omega), if_neg (show ¬ v 6 = 0 by omega)]
  by_cases hb : blc (v 6) (v 0) (v 1) c r
  · have := hne hb
    rw [if_pos hb]
    unfold pt
    by_cases g : k = f + (r * v 0 + c)
    · rw [if_pos g, if_neg (by omega), if_pos g, g]
    · rw [if_neg g]
      by_cases g2 : k = f + bltg (v 6) (v 0) (r * v 0 + c)
      · rw [if_pos ⟨by omega, decide_eq_true ((ht _).mpr ⟨hb, by omega⟩)⟩, if_pos g2, g2]
      · rw [if_neg (fun z => g2 (by have := ((ht _).mp (of_decide_eq_true z.2)).2; omega)), if_neg g2, if_neg g]
  · rw [if_neg hb]
    unfold pt
    by_cases g : k = f + (r * v 0 + c)
    · rw [if_pos g, if_pos g, g]
    · rw [if_neg g, if_neg (fun z => hb ((ht _).mp (of_decide_eq_true z.2)).1), if_neg g]
section CB
variable {N p1 p2 f : Nat} {M : Mem} {F Was : Nat → Nat} {v : Nat → Nat}
theorem cw_blow (hN : 100 < N) (hv : VW v) (h6 : 1 ≤ v 6) (hl : ln p2 = 60) (hp : p1 ≠ p2 ∧ p1 + 1 ≠ p2 ∧ p2 ≠ 91) (hM : PW M p1 v) (hF : Ar M p2 60 F) (hW : Ar M 91 60 Was) (hW9 : ∀ k, k < 60 → Was k ≤ 999) (hF9 : ∀ k, k < 60 → F k ≤ 9000) (hff : f = 0 ∨ f = 30) (hWF : ∀ b, b < 30 → Was (f + b) ≤ F (f + b)) :
    Ho (f_X10_blow N p1 p2 (nI f) M) (fun M' => Sm [p2] M M' ∧ Ar M' p2 60 (drf v f Was F (v 0 * v 1))) := by
  obtain ⟨h0, h1, hw, -⟩ := hM
  have b30 := bd30 hv.1 hv.2.1
  have v0 := hv.1
  have v1 := hv.2.1
  have v6 := hv.2.2.2.1
  unfold f_X10_blow
  simp (disch := omega) only [h0, hw, n_tn, n_tl, n_t0, n_lt, n_le, n_eq, n_ltl, n_lel, n_eql, n_llt, n_lle, n_leq, n_m1l, n_m1r, n_addl, n_ladd, nI_add, n_mul, n_mull, n_lmul, n_sub, n_subl, n_div, n_divl, n_modd, true_and, and_true, bi_s, bv_s, bM_e, bI_e, bL_e, ck_n, ck_l, ck_0]
  refine Ho_lp (fun r a M' => a = (sta 0 (v 6), sta 1 (v 6), sta 1 (v 6) * nI (v 0) + sta 0 (v 6), nI (f + r * v 0), nI r) ∧ Sm [p2] M M' ∧ Ar M' p2 60 (drf v f Was F (r * v 0))) (v 1) (by omega) ⟨by rw [Nat.zero_mul]; rfl, Sm.rf, by rw [Nat.zero_mul]; exact hF⟩ ?_
  rintro r hr k6 hk6 _ M1 ⟨rfl, hS1, hA1⟩
  have g0 := hS1.at (nmem1 hp.1) h0
  have g1 := hS1.at (nmem1 hp.1) h1
  unfold f_X10_blow_h38
  by_cases hre : v 1 ≤ r
  · have e : r = v 1 := by omega
    subst e
    simp (disch := omega) only [g1, n_tn, n_tl, n_t0, n_lt, n_le, n_eq, n_ltl, n_lel, n_eql, n_llt, n_lle, n_leq, n_m1l, n_m1r, n_addl, n_ladd, nI_add, n_mul, n_mull, n_lmul, n_sub, n_subl, n_div, n_divl, n_modd, true_and, and_true, bi_s, bv_s, bM_e, bI_e, bL_e, ck_n, ck_l, ck_0, Nat.le_refl, if_true, Ho_some]
    exact ⟨hS1, by rwa [Nat.mul_comm]⟩
  · simp (disch := omega) only [g1, n_tn, n_tl, n_t0, n_lt, n_le, n_eq, n_ltl, n_lel, n_eql, n_llt, n_lle, n_leq, n_m1l, n_m1r, n_addl, n_ladd, nI_add, n_mul, n_mull, n_lmul, n_sub, n_subl, n_div, n_divl, n_modd, true_and, and_true, bi_s, bv_s, bM_e, bI_e, bL_e, ck_n, ck_l, ck_0, if_neg hre]
    refine Ho_lp (fun c a M' => a = (sta 0 (v 6), sta 1 (v 6), sta 1 (v 6) * nI (v 0) + sta 0 (v 6), nI (f + (r * v 0 + c)), nI r, nI c) ∧ Sm [p2] M M' ∧ Ar M' p2 60 (drf v f Was F (r * v 0 + c))) (v 0) (by omega) ⟨rfl, hS1, hA1⟩ ?_
    rintro c hc k18 hk18 _ M2 ⟨rfl, hS2, hA2⟩
    have q0 := hS2.at (nmem1 hp.1) h0
    have q1 := hS2.at (nmem1 hp.1) h1
    unfold f_X10_blow_h50 f_X10_blow_b113
    by_cases hce : v 0 ≤ c
    · have e : c = v 0 := by omega
      subst e
      simp (disch := omega) only [q0, n_tn, n_tl, n_t0, n_lt, n_le, n_eq, n_ltl, n_lel, n_eql, n_llt, n_lle, n_leq, n_m1l, n_m1r, n_addl, n_ladd, nI_add, n_mul, n_mull, n_lmul, n_sub, n_subl, n_div, n_divl, n_modd, true_and, and_true, bi_s, bv_s, bM_e, bI_e, bL_e, ck_n, ck_l, ck_0, Nat.le_refl, if_true]
      refine hk6 (by omega) _ _ ⟨by rw [Nat.succ_mul], hS2, by rwa [Nat.succ_mul]⟩
    · have hb := bd (show c < v 0 by omega) (show r < v 1 by omega)
      have w91 : M2.1 91 (f + (r * v 0 + c)) = nI (Was (f + (r * v 0 + c))) := hS2.at (nmem1 (Ne.symm hp.2.2)) (hW _ (by omega))
      have ww := hW9 (f + (r * v 0 + c)) (by omega)
      have fl := drf_le (v := v) (f := f) hW9 hF9 (r * v 0 + c) (by omega)
      have fl1 := fl (f + (r * v 0 + c)) (by omega)
      have fg := drf_ge (v := v) (f := f) (Was := Was) (F := F) (r * v 0 + c) (r * v 0 + c) (Nat.le_refl _)
      have wf := hWF (r * v 0 + c) (by omega)
      have a2 := hA2 (f + (r * v 0 + c)) (by omega)
      have next : drf v f Was F (r * v 0 + (c + 1)) = stp v f (r * v 0 + c) (Was (f + (r * v 0 + c)) / 4) (drf v f Was F (r * v 0 + c)) := by
        rw [← Nat.add_assoc, drf]
        unfold shr
        rw [if_neg (by omega)]
      simp (disch := omega) only [q0, w91, a2, hl, n_tn, n_tl, n_t0, n_lt, n_le, n_eq, n_ltl, n_lel, n_eql, n_llt, n_lle, n_leq, n_m1l, n_m1r, n_addl, n_ladd, nI_add, n_mul, n_mull, n_lmul, n_sub, n_subl, n_div, n_divl, n_modd, true_and, and_true, bi_s, bv_s, bM_e, bI_e, bL_e, ck_n, ck_l, ck_0, if_neg hce]
      have hS3 : Sm [p2] M (uI M2 p2 (f + (r * v 0 + c)) (nI (drf v f Was F (r * v 0 + c) (f + (r * v 0 + c)) - Was (f + (r * v 0 + c)) / 4))) := hS2.uI (by simp)
      have hA3 := hA2.put (f + (r * v 0 + c)) (drf v f Was F (r * v 0 + c) (f + (r * v 0 + c)) - Was (f + (r * v 0 + c)) / 4)
      generalize uI M2 p2 (f + (r * v 0 + c)) (nI (drf v f Was F (r * v 0 + c) (f + (r * v 0 + c)) - Was (f + (r * v 0 + c)) / 4)) = M3 at hS3 hA3 ⊢
      by_cases hs : Was (f + (r * v 0 + c)) / 4 ≤ 0
      · simp (disch := omega) only [if_pos hs]
        refine hk18 (by omega) _ _ ⟨rfl, hS3, ?_⟩
        rw [next, show Was (f + (r * v 0 + c)) / 4 = 0 by omega]
        refine hA3.cong fun k _ => ?_
        rw [stp_z]
        unfold pt
        split
        · rename_i e
          rw [e]
          omega
        · rfl
      · rw [if_neg hs, bl_is ⟨h6, v6⟩ (hS3.at (nmem1 hp.1) h0) (hS3.at (nmem1 hp.1) h1) (by omega) (by omega), bi_s]
        by_cases hbl : blc (v 6) (v 0) (v 1) c r
        · have hlt := bl_lt ⟨h6, v6⟩ (show c < v 0 by omega) (show r < v 1 by omega) hbl
          have fl2 := fl (f + bltg (v 6) (v 0) (r * v 0 + c)) (by omega)
          have a3 := hA3 (f + bltg (v 6) (v 0) (r * v 0 + c)) (by omega)
          rw [if_neg (by rw [b2i_0]; simp [hbl]), bl_st (D := v 1) ⟨h6, v6⟩ (show c < v 0 by omega) hbl]
          have hnb : bltg (v 6) (v 0) (r * v 0 + c) ≠ r * v 0 + c := by
            have hr0 : 0 < r → v 0 ≤ r * v 0 := fun h => Nat.le_mul_of_pos_left (v 0) h
            unfold bltg
            repeat' split
            all_goals omega
          have e3 : pt (drf v f Was F (r * v 0 + c)) (f + (r * v 0 + c)) (drf v f Was F (r * v 0 + c) (f + (r * v 0 + c)) - Was (f + (r * v 0 + c)) / 4) (f + bltg (v 6) (v 0) (r * v 0 + c)) = drf v f Was F (r * v 0 + c) (f + bltg (v 6) (v 0) (r * v 0 + c)) := by
            unfold pt
            rw [if_neg (by omega)]
          rw [e3] at a3
          simp (disch := omega) only [a3, hl, n_tn, n_tl, n_t0, n_lt, n_le, n_eq, n_ltl, n_lel, n_eql, n_llt, n_lle, n_leq, n_m1l, n_m1r, n_addl, n_ladd, nI_add, n_mul, n_mull, n_lmul, n_sub, n_subl, n_div, n_divl, n_modd, true_and, and_true, bi_s, bv_s, bM_e, bI_e, bL_e, ck_n, ck_l, ck_0]
          refine hk18 (by omega) _ _ ⟨rfl, hS3.uI (by simp), ?_⟩
          rw [next]
          refine (hA3.put _ _).cong fun k _ => ?_
          rw [stp_w ⟨h6, v6⟩ (by omega) k, if_pos hbl]
        · rw [if_pos (by rw [b2i_0]; simp [hbl])]
          refine hk18 (by omega) _ _ ⟨rfl, hS3, ?_⟩
          rw [next]
          refine hA3.cong fun k _ => ?_
          rw [stp_w ⟨h6, v6⟩ (by omega) k, if_neg hbl]
theorem cw_settle (hN : 100 < N) (hv : VW v) (hl : ln p2 = 60) (hp : p1 ≠ p2 ∧ p1 + 1 ≠ p2 ∧ p2 ≠ 91) (hM : PW M p1 v) (hF : Ar M p2 60 F) (hF9 : ∀ k, k < 60 → F k ≤ 20000) :
    Ho (f_X10_settle N p1 p2 M) (fun M' => Sm [p2] M M' ∧ Ar M' p2 60 (stl v F (v 0 * v 1))) := by
  obtain ⟨h0, h1, -, h3, -⟩ := hM
  have b30 := bd30 hv.1 hv.2.1
  have v0 := hv.1
  have v1 := hv.2.1
  have v7 := hv.2.2.2.2.1
  unfold f_X10_settle f_X5_boardCount
  simp (disch := omega) only [h0, h1, n_tn, n_tl, n_t0, n_lt, n_le, n_eq, n_ltl, n_lel, n_eql, n_llt, n_lle, n_leq, n_m1l, n_m1r, n_addl, n_ladd, nI_add, n_mul, n_mull, n_lmul, n_sub, n_subl, n_div, n_divl, n_modd, true_and, and_true, bi_s, bv_s, bM_e, bI_e, bL_e, ck_n, ck_l, ck_0]
  refine Ho_lp (fun i a M' => a = (nI (v 0 * v 1), nI i) ∧ Sm [p2] M M' ∧ Ar M' p2 60 (stl v F i)) (v 0 * v 1) (by omega) ⟨rfl, Sm.rf, hF.cong fun k hk => by unfold stl; rw [if_neg (by omega), if_neg (by omega)]⟩ ?_
  rintro i hi k8 hk8 _ M1 ⟨rfl, hS1, hA1⟩
  have g3 := hS1.at (nmem1 hp.1) h3
  unfold f_X10_settle_h8
  by_cases hie : v 0 * v 1 ≤ i
  · have e : i = v 0 * v 1 := by omega
    simp (disch := omega) only [n_tn, n_tl, n_t0, n_lt, n_le, n_eq, n_ltl, n_lel, n_eql, n_llt, n_lle, n_leq, n_m1l, n_m1r, n_addl, n_ladd, nI_add, n_mul, n_mull, n_lmul, n_sub, n_subl, n_div, n_divl, n_modd, true_and, and_true, bi_s, bv_s, bM_e, bI_e, bL_e, ck_n, ck_l, ck_0, if_pos hie, Ho_some]
    exact ⟨hS1, e ▸ hA1⟩
  · have a1 := hA1 i (by omega)
    have a2 := hA1 (30 + i) (by omega)
    have e1 : stl v F i i = F i := by unfold stl; rw [if_neg (by omega), if_neg (by omega)]
    have e2 : stl v F i (30 + i) = F (30 + i) := by unfold stl; rw [if_neg (by omega), if_neg (by omega)]
    have l1 := hF9 i (by omega)
    have l2 := hF9 (30 + i) (by omega)
    rw [e1] at a1
    rw [e2] at a2
    simp (disch := omega) only [n_tn, n_tl, n_t0, n_lt, n_le, n_eq, n_ltl, n_lel, n_eql, n_llt, n_lle, n_leq, n_m1l, n_m1r, n_addl, n_ladd, nI_add, n_mul, n_mull, n_lmul, n_sub, n_subl, n_div, n_divl, n_modd, true_and, and_true, bi_s, bv_s, bM_e, bI_e, bL_e, ck_n, ck_l, ck_0, if_neg hie, a1, a2, hl, n_lmin, n_min, n_max0, g3]
    have hS2 : Sm [p2] M (uI M1 p2 i (nI (min 999 (F i) - min (min 999 (F i)) (min 999 (F (30 + i))) - v 7))) := hS1.uI (by simp)
    rw [hS2.at (nmem1 hp.1) h3]
    simp (disch := omega) only [n_max0]
    refine hk8 (by omega) _ _ ⟨rfl, hS2.uI (by simp), ?_⟩
    refine ((hA1.put _ _).put _ _).cong fun k _ => ?_
    unfold pt stl
    by_cases c1 : k = 30 + i
    · rw [if_pos c1, if_neg (by omega), if_pos (by omega), c1, show 30 + i - 30 = i by omega]
    · rw [if_neg c1]
      by_cases c2 : k = i
      · rw [if_pos c2, if_pos (by omega), c2]
      · rw [if_neg c2]
        by_cases c3 : k < i
        · rw [if_pos c3, if_pos (by omega)]
        · rw [if_neg c3, if_neg (show ¬ k < i + 1 by omega)]
          by_cases c4 : 30 ≤ k ∧ k < 30 + i
          · rw [if_pos c4, if_pos (by omega)]
          · rw [if_neg c4, if_neg (by omega)]
/-- an hour of the class -/
theorem cw_hour {gates : Nat} (hN : 100 < N) (hv : VW v) (hl : ln p2 = 60) (hp : p1 ≠ p2 ∧ p1 + 1 ≠ p2 ∧ p2 ≠ 91) (hp9 : p1 ≠ 91 ∧ p1 + 1 ≠ 91) (hM : PW M p1 v) (hF : Ar M p2 60 F) (hF9 : ∀ k, k < 60 → F k ≤ 999) (hg : gates < 2147483648) :
    Ho (f_X10_passHour N p1 p2 (nI gates) M) (fun M' => Sm [p2, 91] M M' ∧ Ar M' p2 60 (hrF v gates F)) := by
  have b30 := bd30 hv.1 hv.2.1
  unfold f_X10_passHour
  rw [Ho_bv]
  refine Ho_mono (cw_let hN hv hl ⟨hp.1, hp.2.1⟩ hM hF hF9 hg) ?_
  rintro M1 ⟨hS1, hA1⟩
  have fl := letF_le (v := v) (gates := gates) hF9 (v 2)
  have hM1 : PW M1 p1 v := hM.same (hS1.2 _ (nmem1 hp.1)) (hS1.2 _ (nmem1 hp.2.1))
  unfold hrF
  generalize letF v gates F (v 2) = F1 at *
  rw [show ∀ k : Option Mem, acp 0 0 60 (ln p2) 60 k = k from fun k => by unfold acp; rw [hl]; exact if_neg (by decide)]
  rw [bM_e]
  have hW2 : Ar (rI M1 91 (va_cpy (M1.1 p2) (M1.1 91) (tn 0) (tn 0) (tn 60))) 91 60 F1 := fun k hk => by
    rw [g_rI, if_pos rfl, g_cpy, if_pos ⟨Nat.zero_le _, by rw [show tn 60 = 60 from rfl]; omega⟩]
    rw [show tn 0 + (k - tn 0) = k by rw [show tn 0 = 0 from rfl]; omega]
    exact hA1 k hk
  have hS2 : Sm [p2, 91] M (rI M1 91 (va_cpy (M1.1 p2) (M1.1 91) (tn 0) (tn 0) (tn 60))) := (hS1.mono (by simp)).rI (by simp)
  have hA2 : Ar (rI M1 91 (va_cpy (M1.1 p2) (M1.1 91) (tn 0) (tn 0) (tn 60))) p2 60 F1 := hA1.same (by rw [g_rI, if_neg hp.2.2])
  have hM2 : PW (rI M1 91 (va_cpy (M1.1 p2) (M1.1 91) (tn 0) (tn 0) (tn 60))) p1 v := hM1.same (by rw [g_rI, if_neg hp9.1]) (by rw [g_rI, if_neg hp9.2])
  generalize rI M1 91 (va_cpy (M1.1 p2) (M1.1 91) (tn 0) (tn 0) (tn 60)) = M2 at *
  have dstep : ∀ (f : Nat) (G : Nat → Nat) (M3 : Mem), (f = 0 ∨ f = 30) → (∀ k, k < 60 → G k ≤ 9000) → (∀ b, b < 30 → F1 (f + b) ≤ G (f + b)) → Sm [p2] M2 M3 → Ar M3 p2 60 G → ∀ {Q : Mem → Prop}, (∀ M4, Sm [p2] M2 M4 → Ar M4 p2 60 (drf v f F1 G (v 0 * v 1)) → Q M4) → (v 6 = 0 → Ho (f_X10_spread N p1 p2 (nI f) M3) Q) ∧ (v 6 ≠ 0 → Ho (f_X10_blow N p1 p2 (nI f) M3) Q) := by
    intro f G M3 hf hG hG2 hS3 hA3 Q hQ
    have hM3 : PW M3 p1 v := hM2.same (hS3.2 _ (nmem1 hp.1)) (hS3.2 _ (nmem1 hp.2.1))
    have hW3 : Ar M3 91 60 F1 := hW2.same (hS3.2 _ (nmem1 (Ne.symm hp.2.2)))
    exact ⟨fun z => Ho_mono (cw_spread hN hv z hl hp hM3 hA3 hW3 fl hG hf hG2) (fun r q => hQ r (hS3.tr q.1) q.2), fun z => Ho_mono (cw_blow hN hv (by omega) hl hp hM3 hA3 hW3 fl hG hf hG2) (fun r q => hQ r (hS3.tr q.1) q.2)⟩
  have hfin : ∀ M3, Sm [p2] M2 M3 → ∀ G, (∀ k, k < 60 → G k ≤ 20000) → Ar M3 p2 60 G → Ho (f_X10_settle N p1 p2 M3) (fun M' => Sm [p2, 91] M M' ∧ Ar M' p2 60 (stl v G (v 0 * v 1))) := by
    intro M3 hS3 G hG hA3
    have hM3 : PW M3 p1 v := hM2.same (hS3.2 _ (nmem1 hp.1)) (hS3.2 _ (nmem1 hp.2.1))
    exact Ho_mono (cw_settle hN hv hl hp hM3 hA3 hG) (fun r q => ⟨hS2.tr ((hS3.tr q.1).mono (by simp)), q.2⟩)
  have d1 := drf_le (v := v) (f := 0) (B := 999) fl fl (v 0 * v 1) (by omega)
  have d1' : ∀ k, k < 60 → drf v 0 F1 F1 (v 0 * v 1) k ≤ 9000 := fun k hk => by have := d1 k hk; omega
  have d2 := drf_le (v := v) (f := 30) (B := 9000) fl d1' (v 0 * v 1) (by omega)
  have d2' : ∀ k, k < 60 → drf v 30 F1 (drf v 0 F1 F1 (v 0 * v 1)) (v 0 * v 1) k ≤ 20000 := fun k hk => by have := d2 k hk; omega
  have d3 : ∀ b, b < 30 → F1 (30 + b) ≤ drf v 0 F1 F1 (v 0 * v 1) (30 + b) := fun b hb => by
    have := drf_ge (v := v) (f := 0) (Was := F1) (F := F1) (v 0 * v 1) (30 + b) (by omega)
    rwa [Nat.zero_add] at this
  refine Ho_lp (fun i a M' => a = nI (30 * i) ∧ Sm [p2] M2 M' ∧ (i = 0 → Ar M' p2 60 F1) ∧ (i = 1 → Ar M' p2 60 (drf v 0 F1 F1 (v 0 * v 1))) ∧ (i = 2 → Ar M' p2 60 (drf v 30 F1 (drf v 0 F1 F1 (v 0 * v 1)) (v 0 * v 1)))) 2 (by omega) ⟨rfl, Sm.rf, fun _ => hA2, fun z => absurd z (by decide), fun z => absurd z (by decide)⟩ ?_
  rintro i hi k hk _ M3 ⟨rfl, hS3, c0, c1, c2⟩
  have hM3 : PW M3 p1 v := hM2.same (hS3.2 _ (nmem1 hp.1)) (hS3.2 _ (nmem1 hp.2.1))
  have hw := hM3.2.2.1
  have v6 := hv.2.2.2.1
  unfold f_X10_passHour_h22 f_X10_passHour_b55
  obtain rfl | rfl | rfl : i = 0 ∨ i = 1 ∨ i = 2 := by omega
  · rw [if_neg (by decide), hw]
    have ds := dstep 0 F1 M3 (Or.inl rfl) (fun k hk => by have := fl k hk; omega) (fun _ _ => Nat.le_refl _) hS3 (c0 rfl) (Q := fun M' => Ho (k (nI (30 * 0) + 30) M') _) (fun M4 s4 a4 => hk (by decide) _ _ ⟨rfl, s4, fun z => absurd z (by decide), fun _ => a4, fun z => absurd z (by decide)⟩)
    by_cases z : v 6 = 0
    · rw [if_pos (by rw [z]; rfl), Ho_bv]
      exact ds.1 z
    · rw [if_neg (by rw [n_eql (by omega)]; exact z), Ho_bv]
      exact ds.2 z
  · rw [if_neg (by decide), hw]
    have ds := dstep 30 _ M3 (Or.inr rfl) d1' d3 hS3 (c1 rfl) (Q := fun M' => Ho (k (nI (30 * 1) + 30) M') _) (fun M4 s4 a4 => hk (by decide) _ _ ⟨rfl, s4, fun z => absurd z (by decide), fun z => absurd z (by decide), fun _ => a4⟩)
    by_cases z : v 6 = 0
    · rw [if_pos (by rw [z]; rfl), Ho_bv]
      exact ds.1 z
    · rw [if_neg (by rw [n_eql (by omega)]; exact z), Ho_bv]
      exact ds.2 z
  · rw [if_pos (by decide), Ho_bv]
    refine Ho_mono (hfin M3 hS3 _ d2' (c2 rfl)) ?_
    intro r q
    rw [Ho_some]
    exact q
end CB
