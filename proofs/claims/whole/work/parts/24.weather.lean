/-- cell c holds the numbers G at the places below n -/
def Ar (M : Mem) (c n : Nat) (G : Nat → Nat) : Prop := ∀ k, k < n → M.1 c k = nI (G k)
def pt (G : Nat → Nat) (j y : Nat) : Nat → Nat := fun k => if k = j then y else G k
theorem Ar.put {M : Mem} {c n : Nat} {G : Nat → Nat} (h : Ar M c n G) (j y : Nat) : Ar (uI M c j (nI y)) c n (pt G j y) := fun k hk => by
  rw [g_uI, if_pos rfl, g_upd]
  unfold pt
  split
  · rfl
  · exact h k hk
theorem Ar.same {M M' : Mem} {c n : Nat} {G : Nat → Nat} (h : Ar M c n G) (e : M'.1 c = M.1 c) : Ar M' c n G := fun k hk => by rw [e]; exact h k hk
theorem Ar.cong {M : Mem} {c n : Nat} {G G' : Nat → Nat} (h : Ar M c n G) (e : ∀ k, k < n → G k = G' k) : Ar M c n G' := fun k hk => by rw [← e k hk]; exact h k hk
theorem Sm.at {L : List Nat} {M M' : Mem} {c k : Nat} {x : Int32} (h : Sm L M M') (hc : c ∉ L) (e : M.1 c k = x) : M'.1 c k = x := by rw [h.2 c hc]; exact e
theorem nmem1 {p q : Nat} (h : p ≠ q) : p ∉ [q] := by simp [h]
/-! the hour, on plain numbers: v the port, F the fog of both kinds -/
abbrev adj (W D b x : Nat) : Prop := (0 < b % W ∧ x + 1 = b) ∨ (b % W + 1 < W ∧ x = b + 1) ∨ (0 < b / W ∧ x + W = b) ∨ (b / W + 1 < D ∧ x = b + W)
abbrev nbw (W D b w x : Nat) : Prop := (w = 1 ∧ b % W + 1 < W ∧ x = b + 1) ∨ (w = 2 ∧ b / W + 1 < D ∧ x = b + W) ∨ (w = 3 ∧ 0 < b % W ∧ x + 1 = b) ∨ (w = 4 ∧ 0 < b / W ∧ x + W = b)
def deg (W D b : Nat) : Nat := (if 0 < b % W then 1 else 0) + (if b % W + 1 < W then 1 else 0) + (if 0 < b / W then 1 else 0) + (if b / W + 1 < D then 1 else 0)
def tgt (v : Nat → Nat) (b x : Nat) : Bool := if v 6 = 0 then decide (adj (v 0) (v 1) b x) else decide (nbw (v 0) (v 1) b (v 6) x)
def shr (v : Nat → Nat) (y : Nat) : Nat := if v 6 = 0 then y / 8 else y / 4
def outp (v : Nat → Nat) (b s : Nat) : Nat := if v 6 = 0 then s * deg (v 0) (v 1) b else s
def stp (v : Nat → Nat) (f b s : Nat) (F : Nat → Nat) : Nat → Nat := fun k => if k = f + b then F k - outp v b s else if f ≤ k ∧ tgt v b (k - f) = true then F k + s else F k
def drf (v : Nat → Nat) (f : Nat) (Was : Nat → Nat) (F : Nat → Nat) : Nat → Nat → Nat
  | 0 => F
  | n + 1 => stp v f n (shr v (Was (f + n))) (drf v f Was F n)
def gpl (v : Nat → Nat) (g : Nat) : Nat := v (29 + g) * 30 + (v (17 + g) * v 0 + v (11 + g))
def letF (v : Nat → Nat) (gates : Nat) (F : Nat → Nat) : Nat → Nat → Nat
  | 0 => F
  | g + 1 => if gates.testBit g then pt (letF v gates F g) (gpl v g) (min 999 (letF v gates F g (gpl v g) + v (23 + g))) else letF v gates F g
def stl (v : Nat → Nat) (F : Nat → Nat) (n : Nat) : Nat → Nat := fun k =>
  if k < n then min 999 (F k) - min (min 999 (F k)) (min 999 (F (30 + k))) - v 7
  else if 30 ≤ k ∧ k < 30 + n then min 999 (F k) - min (min 999 (F (k - 30))) (min 999 (F k)) - v 7 else F k
def hrF (v : Nat → Nat) (gates : Nat) (F : Nat → Nat) : Nat → Nat :=
  stl v (drf v 30 (letF v gates F (v 2)) (drf v 0 (letF v gates F (v 2)) (letF v gates F (v 2)) (v 0 * v 1)) (v 0 * v 1)) (v 0 * v 1)
/-- the port's numbers that an hour needs, their ranges -/
def VW (v : Nat → Nat) : Prop := v 0 ≤ 6 ∧ v 1 ≤ 5 ∧ v 2 ≤ 6 ∧ v 6 ≤ 4 ∧ v 7 ≤ 9 ∧ (∀ g, g < v 2 → v (11 + g) < v 0 ∧ v (17 + g) < v 1 ∧ v (23 + g) ≤ 40 ∧ v (29 + g) ≤ 1)
/-- where the class keeps them -/
def PW (M : Mem) (p : Nat) (v : Nat → Nat) : Prop := M.1 p 0 = nI (v 0) ∧ M.1 p 1 = nI (v 1) ∧ M.1 p 2 = nI (v 6) ∧ M.1 p 3 = nI (v 7) ∧ M.1 p 7 = nI (v 2) ∧
  (∀ g, g < v 2 → M.1 (p + 1) (g * 5) = nI (v (11 + g)) ∧ M.1 (p + 1) (g * 5 + 1) = nI (v (17 + g)) ∧ M.1 (p + 1) (g * 5 + 2) = nI (v (23 + g)) ∧ M.1 (p + 1) (g * 5 + 3) = nI (v (29 + g)))
theorem PW.same {M M' : Mem} {p : Nat} {v : Nat → Nat} (h : PW M p v) (e : M'.1 p = M.1 p) (e1 : M'.1 (p + 1) = M.1 (p + 1)) : PW M' p v := by
  unfold PW at h ⊢
  rw [e, e1]
  exact h
theorem bd {W D r c : Nat} (hc : c < W) (hr : r < D) : r * W + c < W * D := by
  have := Nat.mul_le_mul_right W (show r + 1 ≤ D from hr)
  rw [Nat.succ_mul, Nat.mul_comm D W] at this
  omega
theorem bd30 {W D : Nat} (hW : W ≤ 6) (hD : D ≤ 5) : W * D ≤ 30 := Nat.mul_le_mul hW hD
theorem gpl_lt {v : Nat → Nat} (hv : VW v) {g : Nat} (hg : g < v 2) : gpl v g < 60 := by
  obtain ⟨h0, h1, -, -, -, h⟩ := hv
  obtain ⟨a, b, -, d⟩ := h g hg
  have := bd a b
  have := bd30 h0 h1
  unfold gpl
  omega
theorem letF_le {v : Nat → Nat} {gates : Nat} {F : Nat → Nat} (h : ∀ k, F k ≤ 999) : ∀ n k, letF v gates F n k ≤ 999
  | 0, k => h k
  | n + 1, k => by
    have ih := letF_le (v := v) (gates := gates) h n
    unfold letF
    split
    · unfold pt
      split
      · omega
      · exact ih k
    · exact ih k
section CW
variable {N p1 p2 gates : Nat} {M : Mem} {F : Nat → Nat} {v : Nat → Nat}
theorem cw_let (hN : 100 < N) (hv : VW v) (hl : ln p2 = 60) (hp : p1 ≠ p2 ∧ p1 + 1 ≠ p2) (hM : PW M p1 v) (hF : Ar M p2 60 F) (hF9 : ∀ k, F k ≤ 999) (hg : gates < 2147483648) :
    Ho (f_X10_letIn N p1 p2 (nI gates) M) (fun M' => Sm [p2] M M' ∧ Ar M' p2 60 (letF v gates F (v 2))) := by
  unfold f_X10_letIn
  refine Ho_lp (fun i a M' => a = (nI gates, nI i) ∧ Sm [p2] M M' ∧ Ar M' p2 60 (letF v gates F i)) (v 2) (by have := hv.2.2.1; omega) ⟨rfl, Sm.rf, hF⟩ ?_
  rintro i hi k hk _ M' ⟨rfl, hS, hA⟩
  have hM' : PW M' p1 v := hM.same (hS.2 _ (nmem1 hp.1)) (hS.2 _ (nmem1 hp.2))
  obtain ⟨h0, h1, h2, h3, h7, hgt⟩ := hM'
  have v2 := hv.2.2.1
  unfold f_X10_letIn_h3 f_X10_letIn_b91 f_X5_boardAt
  by_cases h : v 2 ≤ i
  · have e : i = v 2 := by omega
    subst e
    simp (disch := omega) only [h7, n_tn, n_tl, n_t0, n_lt, n_le, n_eq, n_ltl, n_lel, n_eql, n_llt, n_lle, n_leq, n_m1l, n_m1r, n_addl, n_ladd, nI_add, n_mul, n_mull, n_lmul, n_sub, n_subl, n_div, n_divl, true_and, and_true, bi_s, bv_s, bM_e, bI_e, bL_e, ck_n, ck_l, ck_0, Nat.le_refl, if_true, Ho_some]
    exact ⟨hS, hA⟩
  · obtain ⟨g0, g1, g2, g3⟩ := hgt i (by omega)
    have hgp := gpl_lt hv (show i < v 2 by omega)
    have q1 := letF_le (v := v) (gates := gates) hF9 i
    have qr := (hv.2.2.2.2.2 i (by omega)).2.2.1
    have hAp := hA _ hgp
    have q2 := q1 (gpl v i)
    by_cases hb : gates.testBit i = true
    · unfold gpl at hAp hgp q2
      simp (disch := omega) only [h7, h0, g0, g1, g2, g3, hl, hAp, n_tn, n_tl, n_t0, n_lt, n_le, n_eq, n_ltl, n_lel, n_eql, n_llt, n_lle, n_leq, n_m1l, n_m1r, n_addl, n_ladd, nI_add, n_mul, n_mull, n_lmul, n_sub, n_subl, n_div, n_divl, true_and, and_true, bi_s, bv_s, bM_e, bI_e, bL_e, ck_n, ck_l, ck_0, n_bit, if_pos hb, if_neg h, n_lmin]
      refine hk (by omega) _ _ ⟨rfl, hS.uI (by simp), ?_⟩
      have := hA.put (gpl v i) (min 999 (letF v gates F i (gpl v i) + v (23 + i)))
      rw [show letF v gates F (i + 1) = _ from by rw [letF, if_pos hb]]
      exact this
    · simp (disch := omega) only [h7, n_tn, n_tl, n_t0, n_lt, n_le, n_eq, n_ltl, n_lel, n_eql, n_llt, n_lle, n_leq, n_m1l, n_m1r, n_addl, n_ladd, nI_add, n_mul, n_mull, n_lmul, n_sub, n_subl, n_div, n_divl, true_and, and_true, bi_s, bv_s, bM_e, bI_e, bL_e, ck_n, ck_l, ck_0, n_bit, if_neg hb, if_neg h]
      refine hk (by omega) _ _ ⟨rfl, hS, ?_⟩
      rw [show letF v gates F (i + 1) = _ from by rw [letF, if_neg hb]]
      exact hA
end CW
