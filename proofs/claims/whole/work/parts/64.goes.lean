section W1
variable {N t : Nat} {M : Mem} {c R : Nat → Nat → Nat}
theorem cnt_le {K K' : Nat → Bool} : ∀ n, (∀ x, x < n → K x = true → K' x = true) → fa_cnt K n ≤ fa_cnt K' n
  | 0, _ => Nat.le_refl _
  | n + 1, h => by
    have ih := cnt_le n fun x hx => h x (by omega)
    cases e : K n with
    | false =>
      rw [fa_cnt_no e]
      cases e' : K' n with
      | false => rw [fa_cnt_no e']; exact ih
      | true => rw [fa_cnt_yes e']; omega
    | true => rw [fa_cnt_yes e, fa_cnt_yes (h n (by omega) e)]; omega
theorem cnt_lt {K K' : Nat → Bool} {u : Nat} : ∀ n, (∀ x, x < n → K x = true → K' x = true) → u < n → K u = false → K' u = true → fa_cnt K n < fa_cnt K' n
  | 0, _, hu, _, _ => by omega
  | n + 1, h, hu, h1, h2 => by
    by_cases e : u = n
    · subst e
      have := cnt_le u fun x hx => h x (by omega)
      rw [fa_cnt_no h1, fa_cnt_yes h2]; omega
    · have ih := cnt_lt n (fun x hx => h x (by omega)) (by omega) h1 h2
      cases e : K n with
      | false =>
        rw [fa_cnt_no e]
        cases e' : K' n with
        | false => rw [fa_cnt_no e']; exact ih
        | true => rw [fa_cnt_yes e']; omega
      | true => rw [fa_cnt_yes e, fa_cnt_yes (h n (by omega) e)]; omega
def MRs (M : Mem) (R : Nat → Nat → Nat) : Prop := ∀ x y, x < 60 → y < 60 → M.1 214 (60 * x + y) = nI (R x y)
def MKs (M : Mem) (K : Nat → Bool) : Prop := ∀ x, x < 60 → M.1 215 x = b2i (K x)
/-- what a search from u leaves -/
def GoP (c : Nat → Nat → Nat) (t u : Nat) (M : Mem) (R : Nat → Nat → Nat) (K : Nat → Bool) (e : Nat → Int) (q : Bool × Mem) : Prop := Sm [214, 215] M q.2 ∧ ∃ R' K', MRs q.2 R' ∧ MKs q.2 K' ∧ (q.1 = false → R' = R ∧ (∀ x, x < 60 → K x = true → K' x = true) ∧ K' u = true ∧ K' t = false ∧ ∀ x y, x < 60 → y < 60 → K' x = true → K x = false → R x y ≠ 0 → K' y = true) ∧ (q.1 = true → FL c R' (fun a => e a + (if a = u then 1 else 0) - (if a = t then 1 else 0)) ∧ ∀ x y, x < 60 → y < 60 → K x = true ∨ K y = true → R' x y = R x y)
theorem fl2 {e : Nat → Int} (hc : ∀ x y, c x y ≤ 1) (h : FL c R e) {x y : Nat} (hx : x < 60) (hy : y < 60) : R x y ≤ 2 := by
  have := h.1 x y hx hy
  have := hc x y
  have := hc y x
  omega
theorem MRs.ad {M : Mem} {R : Nat → Nat → Nat} {u j : Nat} (h : MRs M R) (hu : u < 60) (hj : j < 60) (hne : u ≠ j) : MRs (uI (uI M 214 (60 * u + j) (nI (R u j - 1))) 214 (60 * j + u) (nI (R j u + 1))) (adR R u j) := by
  intro x y hx hy
  unfold adR
  by_cases g1 : x = u ∧ y = j
  · obtain ⟨rfl, rfl⟩ := g1
    rw [if_pos ⟨rfl, rfl⟩, us_same, g_upd, if_neg (by omega), u_at]
  · by_cases g2 : x = j ∧ y = u
    · obtain ⟨rfl, rfl⟩ := g2
      rw [if_neg (by omega), if_pos ⟨rfl, rfl⟩, u_at]
    · rw [if_neg g1, if_neg g2, us_same, g_upd, if_neg (by omega), us_same, g_upd, if_neg (by omega)]
      exact h x y hx hy
theorem go_is (hN : 200 < N) (ht : t < 60) (hc : ∀ x y, c x y ≤ 1) : ∀ (D : Nat) (M : Mem) (R : Nat → Nat → Nat) (K : Nat → Bool) (e : Nat → Int) (u : Nat), MRs M R → MKs M K → FL c R e → u < 60 → K u = false → K t = false → 61 ≤ D + fa_cnt K 60 → Ho (f_X12_goesOn N D (nI u) (nI t) M) (GoP c t u M R K e) := by
  intro D
  induction D with
  | zero =>
    intro M R K e u _ _ _ _ _ _ hD
    have := fa_cnt_le K 60
    omega
  | succ D ih =>
    intro M R K e u hR hK hF hu hKu hKt hD
    show Ho (g_X12_goesOn N (f_X12_goesOn N D) (nI u) (nI t) M) _
    unfold g_X12_goesOn
    by_cases ut : u = t
    · subst ut
      rw [if_pos rfl, Ho_some]
      refine ⟨Sm.rf, R, K, hR, hK, fun z => (by cases z), fun _ => ⟨?_, fun _ _ _ _ _ => rfl⟩⟩
      have : (fun a => e a + (if a = u then 1 else 0) - (if a = u then 1 else 0)) = e := by
        funext a
        split <;> omega
      rw [this]
      exact hF
    · rw [if_neg (by rw [n_eq (by omega)]; exact ut), ck_n (by omega), bM_e, t_n (by omega)]
      refine Ho_lp (fun i a M' => a = (nI u, nI t, nI i) ∧ Sm [214, 215] M M' ∧ MRs M' R ∧ ∃ Kj, MKs M' Kj ∧ (∀ x, x < 60 → K x = true → Kj x = true) ∧ Kj u = true ∧ Kj t = false ∧ (∀ x y, x < 60 → y < 60 → Kj x = true → K x = false → x ≠ u → R x y ≠ 0 → Kj y = true) ∧ ∀ y, y < i → R u y ≠ 0 → Kj y = true) 60 (by omega) ⟨rfl, Sm.rf.uI (by simp), fun x y hx hy => by rw [u_ne (by decide)]; exact hR x y hx hy, fun x => if x = u then true else K x, fun x hx => ?_, fun x hx h => ?_, if_pos rfl, ?_, fun x y hx hy h1 h2 h3 => ?_, fun y hy => by omega⟩ ?_
      · rw [us_same, g_upd]
        dsimp only
        by_cases g : x = u
        · rw [if_pos g, if_pos g]; rfl
        · rw [if_neg g, if_neg g]; exact hK x hx
      · by_cases g : x = u
        · exact if_pos g
        · exact (if_neg g).trans h
      · exact (if_neg (fun z => ut z.symm)).trans hKt
      · dsimp only at h1
        rw [if_neg h3, h2] at h1
        cases h1
      · rintro j hj k hk _ M1 ⟨rfl, s1, R1, Kj, k1, k2, k3, k4, k5, k6⟩
        unfold f_X12_goesOn_h16 f_X12_goesOn_b90
        dsimp only
        by_cases g : 60 ≤ j
        · have : j = 60 := by omega
          subst this
          rw [if_pos (by decide), Ho_some]
          refine ⟨s1, R, Kj, R1, k1, fun _ => ⟨rfl, k2, k3, k4, fun x y hx hy h1 h2 h3 => ?_⟩, fun z => (by cases z)⟩
          by_cases e : x = u
          · subst e
            exact k6 y hy h3
          · exact k5 x y hx hy h1 h2 e h3
        · have r2 := fl2 hc hF hu (show j < 60 by omega)
          rw [if_neg (by rw [n_lle (by omega)]; exact g), n_lmul, nI_add, ck_n (by omega), t_n (by omega), R1 u j hu (by omega)]
          have nxt : ∀ (M2 : Mem) (K2 : Nat → Bool), Sm [214, 215] M M2 → MRs M2 R → MKs M2 K2 → (∀ x, x < 60 → Kj x = true → K2 x = true) → K2 t = false → (∀ x y, x < 60 → y < 60 → K2 x = true → Kj x = false → R x y ≠ 0 → K2 y = true) → (R u j ≠ 0 → K2 j = true) → Ho (k (nI u, nI t, nI j + 1) M2) (GoP c t u M R K e) := fun M2 K2 a1 a2 a3 a4 a5 a6 a7 => by
            rw [n_addl]
            refine hk (by omega) _ _ ⟨rfl, a1, a2, K2, a3, fun x hx h => a4 x hx (k2 x hx h), a4 u hu k3, a5, fun x y hx hy h1 h2 h3 h4 => ?_, fun y hy h => ?_⟩
            · cases e : Kj x with
              | false => exact a6 x y hx hy h1 e h4
              | true => exact a4 y hy (k5 x y hx hy e h2 h3 h4)
            · by_cases e : y = j
              · subst e
                exact a7 h
              · exact a4 y (by omega) (k6 y (by omega) h)
          by_cases z : R u j = 0
          · rw [if_pos (by rw [n_eql (by omega)]; exact z)]
            exact nxt M1 Kj s1 R1 k1 (fun _ _ h => h) k4 (fun x y _ _ h1 h2 => by rw [h2] at h1; cases h1) (fun h => absurd z h)
          · rw [if_neg (by rw [n_eql (by omega)]; exact z), ck_n (by omega), t_n (by omega), k1 j (by omega)]
            cases ej : Kj j with
            | true =>
              rw [if_pos (by decide)]
              exact nxt M1 Kj s1 R1 k1 (fun _ _ h => h) k4 (fun x y _ _ h1 h2 => by rw [h2] at h1; cases h1) (fun _ => ej)
            | false =>
              rw [if_neg (by decide), Ho_bi]
              have ct := cnt_lt (u := u) 60 k2 hu hKu k3
              refine Ho_mono (ih M1 R Kj e j R1 k1 hF (by omega) ej k4 (by omega)) ?_
              rintro ⟨r, M2⟩ ⟨s2, R2, K2, m1, m2, m3, m4⟩
              dsimp only at s2 m1 m2 m3 m4 ⊢
              cases r with
              | false =>
                rw [if_pos (by decide)]
                obtain ⟨rfl, n2, n3, n4, n5⟩ := m3 rfl
                exact nxt M2 K2 (s1.tr s2) m1 m2 n2 n4 n5 (fun _ => n3)
              | true =>
                obtain ⟨n1, n2⟩ := m4 rfl
                have uj : u ≠ j := fun z => by rw [z, ej] at k3; cases k3
                have e2 := n2 u j hu (by omega) (Or.inl k3)
                have r3 := fl2 hc n1 hu (show j < 60 by omega)
                have r4 := fl2 hc n1 (show j < 60 by omega) hu
                rw [if_neg (by decide), ck_n (by omega), bM_e, n_lmul, nI_add, ck_n (by omega), ck_n (by omega), bM_e, t_n (by omega), m1 u j hu (by omega), n_subl (by omega), us_same, g_upd, if_neg (by omega), m1 j u (by omega) hu, n_addl, ck_n (by omega), Ho_some]
                refine ⟨((s1.tr s2).uI (by simp)).uI (by simp), adR R2 u j, K2, m1.ad hu (by omega) uj, fun x hx => by rw [u_ne (by decide), u_ne (by decide)]; exact m2 x hx, fun z => (by cases z), fun _ => ⟨?_, fun x y hx hy h => ?_⟩⟩
                · have := n1.ad hu (show j < 60 by omega) uj (by omega)
                  have ee : (fun a => e a + (if a = u then 1 else 0) - (if a = t then 1 else 0)) = (fun a => (fun a => e a + (if a = j then 1 else 0) - (if a = t then 1 else 0)) a + (if a = u then 1 else 0) - (if a = j then 1 else 0)) := by
                    funext a
                    dsimp only
                    omega
                  rw [ee]
                  exact this
                · have nu : ∀ w, w < 60 → K w = true → w ≠ u ∧ w ≠ j := fun w hw hk => ⟨fun z => (by rw [z, hKu] at hk; cases hk), fun z => (by have := k2 w hw hk; rw [z, ej] at this; cases this)⟩
                  unfold adR
                  rw [if_neg (by rcases h with h | h; have := nu x hx h; omega; have := nu y hy h; omega), if_neg (by rcases h with h | h; have := nu x hx h; omega; have := nu y hy h; omega)]
                  exact n2 x y hx hy (h.imp (k2 x hx) (k2 y hy))
end W1
