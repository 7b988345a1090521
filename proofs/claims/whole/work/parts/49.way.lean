section E4
variable {N : Nat} {C S M : Mem} {v : Nat → Nat}
theorem Stl_out {W D fr b : Nat} {pr : Nat → Option Nat} {K : Nat → Option Nat} (h : wkH W D fr pr) (hb : W * D ≤ b) : Stl W D fr pr K b := fun c hc => by have := Rch_in h hc; omega
theorem c_least {rd fr to : Nat} (hN : 300 < N) (hv : VV v) (hC : PC M 10 v) (hr : rd ≤ 2) (hf : fr < v 0 * v 1) (hto : to < v 0 * v 1) : Ho (f_X7_leastCount N 10 (nI fr) (nI to) (nI rd) M) (fun q => Sm [97] M q.2 ∧ ∃ r, WyA (v 0) (v 1) fr (prW v rd) to r ∧ q.1 = oI r) := by
  have b30 := bd30 hv.1.1 hv.1.2.1
  have hH : wkH (v 0) (v 1) fr (prW v rd) := ⟨hv.1.1, hv.1.2.1, hf, prW_13⟩
  unfold f_X7_leastCount
  rw [Ho_bv]
  refine Ho_mono (c_fillI hN 1000 (by rw [ln_97]; omega)) ?_
  rintro M0 ⟨s0, a0⟩
  rw [ck_n (by omega), bM_e, t_n (by omega)]
  rw [ln_97] at a0
  have K0 : CK (uI M0 97 fr 0) (ptK (fun _ => none) fr 0) := fun x hx => by
    by_cases e : x = fr
    · subst e
      rw [u_at, ptK_at]
      exact ⟨rfl, fun k hk => by rw [← Option.some.inj hk]; decide⟩
    · rw [us_same, g_upd, if_neg e, ptK_ne e, a0 x hx]
      exact ⟨rfl, fun k hk => by cases hk⟩
  have A0 : Ach (v 0) (v 1) fr (prW v rd) (ptK (fun _ => none) fr 0) := fun x k hx e => by
    by_cases g : x = fr
    · subst g
      rw [ptK_at] at e
      rw [← Option.some.inj e]
      exact ⟨0, rfl, rfl⟩
    · rw [ptK_ne g] at e; cases e
  have f0 : Stl (v 0) (v 1) fr (prW v rd) (ptK (fun _ => none) fr 0) fr := fun c _ => ⟨0, ptK_at _ _ _, Nat.zero_le _⟩
  have C0 : 0 + 1 ≤ fb_ct (fun b => cb (Stl (v 0) (v 1) fr (prW v rd) (ptK (fun _ => none) fr 0) b)) 30 := fb_ct_pos.mpr ⟨fr, by omega, cb_t.mpr f0⟩
  refine Ho_lp (fun r a M' => ∃ (ch : Bool) (K : Nat → Option Nat), a = (nI to, nI rd, b2i ch, nI r) ∧ Sm [97] M M' ∧ CK M' K ∧ Ach (v 0) (v 1) fr (prW v rd) K ∧ K fr = some 0 ∧ ((∀ b, Stl (v 0) (v 1) fr (prW v rd) K b) ∨ r + 1 ≤ fb_ct (fun b => cb (Stl (v 0) (v 1) fr (prW v rd) K b)) 30) ∧ (ch = false → ∀ b, Stl (v 0) (v 1) fr (prW v rd) K b)) 30 (by omega) ⟨true, _, rfl, s0.uI (by simp), K0, A0, ptK_at _ _ _, Or.inr C0, fun z => by cases z⟩ ?_
  rintro r hr' k hk _ M1 ⟨ch, K, rfl, s1, c1, a1, z1, o1, n1⟩
  unfold f_X7_leastCount_h23 f_X7_leastCount_b50
  dsimp only
  have fin : (∀ b, Stl (v 0) (v 1) fr (prW v rd) K b) → Ho (ck (nI to) 30 (if M1.1 97 (tn (nI to)) < 1000 then ck (nI to) 30 (some (M1.1 97 (tn (nI to)), M1)) else some (-1, M1))) (fun q => Sm [97] M q.2 ∧ ∃ r, WyA (v 0) (v 1) fr (prW v rd) to r ∧ q.1 = oI r) := fun hs => by
    have w := WyA_of (to := to) (by omega) a1 hs
    have ct := c1 to (by omega)
    rw [ck_n (by omega), ck_n (by omega), t_n (by omega), ct.1]
    cases e : K to with
    | none =>
      rw [e] at w
      rw [if_neg (show ¬ nI (eC none) < 1000 by decide), Ho_some]
      exact ⟨s1, none, w, rfl⟩
    | some kt =>
      rw [e] at w
      have l := ct.2 kt e
      rw [show eC (some kt) = kt from rfl, if_pos (by rw [n_ltl (by omega)]; exact l), Ho_some]
      exact ⟨s1, some kt, w, rfl⟩
  by_cases g : 30 ≤ r
  · rw [if_pos (by rw [n_lle (by omega)]; exact g)]
    refine fin ?_
    rcases o1 with o1 | o1
    · exact o1
    · have := fb_ct_le (fun b => cb (Stl (v 0) (v 1) fr (prW v rd) K b)) 30
      omega
  · rw [if_neg (by rw [n_lle (by omega)]; exact g)]
    cases ch with
    | false =>
      rw [if_pos (show b2i false = 0 from rfl)]
      exact fin (n1 rfl)
    | true =>
      rw [if_neg (show ¬ b2i true = 0 by decide), Ho_bi]
      refine Ho_mono (c_short (by omega) hv (hC.sm s1 (by simp)) hr hf c1 a1) ?_
      rintro ⟨ch', M2⟩ ⟨s2, K', c2, a2, m2, x2, e2⟩
      dsimp only at s2 c2 e2 ⊢
      rw [n_addl]
      have st := set_step hH z1 m2 x2
      have z2 : K' fr = some 0 := by
        obtain ⟨k0, e0, l0⟩ := m2 fr 0 (by omega) z1
        rw [e0]
        congr 1
        omega
      have up : (∀ b, Stl (v 0) (v 1) fr (prW v rd) K b) → ∀ b, Stl (v 0) (v 1) fr (prW v rd) K' b := fun h b c hc => m2.le (by have := Rch_in hH hc; omega) (h b c hc)
      refine hk (by omega) _ _ ⟨ch', K', rfl, s1.tr s2, c2, a2, z2, ?_, fun hf' => ?_⟩
      · rcases o1 with o1 | o1
        · exact Or.inl (up o1)
        · rcases st with st | st
          · exact Or.inl (up st)
          · right; omega
      · rcases st with st | st
        · exact up st
        · exfalso
          have : fb_ct (fun b => cb (Stl (v 0) (v 1) fr (prW v rd) K' b)) 30 = fb_ct (fun b => cb (Stl (v 0) (v 1) fr (prW v rd) K b)) 30 := fb_ct_cong fun b hb => by
            have : Stl (v 0) (v 1) fr (prW v rd) K' b = Stl (v 0) (v 1) fr (prW v rd) K b := by
              unfold Stl leK
              rw [e2 hf' b hb]
            rw [this]
          omega
/-- the model's row far -/
def MK (M : Mem) (K : Nat → Option Nat) (B : Nat) : Prop := ∀ b, b < 30 → M.1 211 b = oI (K b) ∧ ∀ k, K b = some k → k ≤ B
theorem MK.up {M : Mem} {K : Nat → Option Nat} {B B' : Nat} (h : MK M K B) (hB : B ≤ B') : MK M K B' := fun b hb => ⟨(h b hb).1, fun k hk => Nat.le_trans ((h b hb).2 k hk) hB⟩
def wayP (v : Nat → Nat) (S : Mem) (fr rd to : Nat) (q : Int32 × Mem) : Prop := ∃ r S1, WyA (v 0) (v 1) fr (prW v rd) to r ∧ Sm [211] S S1 ∧ ((r = none ∧ q.1 = -1 ∧ q.2 = uI S1 200 0 8) ∨ (∃ k, r = some k ∧ q.1 = nI k ∧ q.2 = S1))
theorem m_way {rd fr to c2 r2 : Nat} (hN : 300 < N) (hv : VV v) (hA : Ar S 205 435 v) (hr : rd ≤ 2) (hf : fr < v 0 * v 1) (hc2 : c2 < v 0 ∧ r2 < v 1) (hto : to = v 0 * r2 + c2) (hS0 : Sm [211] S M) (hM0 : ∀ b, b < v 0 * v 1 → M.1 211 b = oI (ptK (fun _ => none) fr 0 b)) : Ho (lp (fun k a m => f_X12_way_h95 N k a.1 a.2.1 a.2.2.1 a.2.2.2 m) N (nI c2, nI r2, nI rd, 1) M) (wayP v S fr rd to) := by
  have b30 := bd30 hv.1.1 hv.1.2.1
  have hWD : v 0 ≤ 6 ∧ v 1 ≤ 5 := ⟨hv.1.1, hv.1.2.1⟩
  have hto' : to < v 0 * v 1 := by rw [hto, Nat.mul_comm (v 0) r2]; exact bd hc2.1 hc2.2
  have hH : wkH (v 0) (v 1) fr (prW v rd) := ⟨hv.1.1, hv.1.2.1, hf, prW_13⟩
  have A0 : Ach (v 0) (v 1) fr (prW v rd) (ptK (fun _ => none) fr 0) := fun x k hx e => by
    by_cases g : x = fr
    · subst g
      rw [ptK_at] at e
      rw [← Option.some.inj e]
      exact ⟨0, rfl, rfl⟩
    · rw [ptK_ne g] at e; cases e
  have f0 : Stl (v 0) (v 1) fr (prW v rd) (ptK (fun _ => none) fr 0) fr := fun c _ => ⟨0, ptK_at _ _ _, Nat.zero_le _⟩
  have C0 : 0 + 1 ≤ fb_ct (fun b => cb (Stl (v 0) (v 1) fr (prW v rd) (ptK (fun _ => none) fr 0) b)) 30 := fb_ct_pos.mpr ⟨fr, by omega, cb_t.mpr f0⟩
  have K0 : ∀ b, b < v 0 * v 1 → M.1 211 b = oI (ptK (fun _ => none) fr 0 b) ∧ ∀ k, ptK (fun _ => none) fr 0 b = some k → k ≤ 0 := fun b hb => ⟨hM0 b hb, fun k hk => by
    by_cases g : b = fr
    · subst g; rw [ptK_at] at hk; have := Option.some.inj hk; omega
    · rw [ptK_ne g] at hk; cases hk⟩
  refine Ho_lp (fun r a M' => ∃ (ch : Bool) (K : Nat → Option Nat), a = (nI c2, nI r2, nI rd, b2i ch) ∧ Sm [211] S M' ∧ (∀ b, b < v 0 * v 1 → M'.1 211 b = oI (K b) ∧ ∀ k, K b = some k → k ≤ 400 * r) ∧ Ach (v 0) (v 1) fr (prW v rd) K ∧ K fr = some 0 ∧ (∀ x, v 0 * v 1 ≤ x → K x = none) ∧ (ch = true → r + 1 ≤ fb_ct (fun b => cb (Stl (v 0) (v 1) fr (prW v rd) K b)) 30) ∧ (ch = false → ∀ b, Stl (v 0) (v 1) fr (prW v rd) K b)) 31 (by omega) ⟨true, _, rfl, hS0, K0, A0, ptK_at _ _ _, fun x hx => ptK_ne (by omega), fun _ => C0, fun z => by cases z⟩ ?_
  rintro r hr' k95 hk95 _ M1 ⟨ch, K, rfl, s1, c1, a1, z1, u1, o1, n1⟩
  have A1 : Ar M1 205 435 v := hA.same (s1.2 205 (by simp))
  unfold f_X12_way_h95
  dsimp only
  cases ch with
  | false =>
    have w := WyA_of (to := to) (by omega) a1 (n1 rfl)
    have ct := c1 to hto'
    rw [if_pos (show b2i false = 0 from rfl), m_board (A1 0 (by omega)), bi_s, ← hto, ck_n (by omega), t_n (by omega), ct.1]
    cases e : K to with
    | none =>
      rw [e] at w
      unfold f_X12_refuse
      rw [if_neg (show ¬ (0 : Int32) ≤ oI none by decide), bM_e, bi_s, Ho_some]
      exact ⟨none, M1, w, s1, Or.inl ⟨rfl, rfl, rfl⟩⟩
    | some kt =>
      rw [e] at w
      have l := ct.2 kt e
      rw [show oI (some kt) = nI kt from rfl, if_pos (nI_pos' (show kt < 2147483648 by omega)), Ho_some]
      exact ⟨some kt, M1, w, s1, Or.inr ⟨kt, rfl, rfl, rfl⟩⟩
  | true =>
  have cn := o1 rfl
  have cm := fb_ct_le (fun b => cb (Stl (v 0) (v 1) fr (prW v rd) K b)) 30
  rw [if_neg (show ¬ b2i true = 0 by decide)]
  refine Ho_lp (fun b a M' => ∃ (ch : Bool) (K1 : Nat → Option Nat), a = (nI c2, nI r2, nI rd, b2i ch, nI b) ∧ Sm [211] S M' ∧ (∀ x, x < v 0 * v 1 → M'.1 211 x = oI (K1 x) ∧ ∀ k, K1 x = some k → k ≤ 400 * r + 12 * b) ∧ Ach (v 0) (v 1) fr (prW v rd) K1 ∧ (∀ x, v 0 * v 1 ≤ x → K1 x = none) ∧ moK K K1 ∧ (∀ o w x k p, o < b → 1 ≤ w → w ≤ 4 → nbd (v 0) (v 1) o w = some x → K o = some k → prW v rd x = some p → leK K1 x (k + p)) ∧ (ch = false → ∀ x, x < 30 → K1 x = K x) ∧ (ch = true → ¬ ∀ x, Stl (v 0) (v 1) fr (prW v rd) K x)) (v 0 * v 1) (by omega) ⟨false, K, rfl, s1, fun x hx => ⟨(c1 x hx).1, fun k hk => by have := (c1 x hx).2 k hk; omega⟩, a1, u1, moK.rf, fun o w x k p ho => absurd ho (Nat.not_lt_zero o), fun _ _ _ => rfl, fun z => by cases z⟩ ?_
  rintro b hb k106 hk106 _ M2 ⟨ch, K2, rfl, s2, c2', a2, u2, m2, x2, e2, f2⟩
  have A2 : Ar M2 205 435 v := hA.same (s2.2 205 (by simp))
  unfold f_X12_way_h106
  dsimp only
  rw [m_boards (A2 0 (by omega)) (A2 1 (by omega)), bi_s]
  by_cases gb : v 0 * v 1 ≤ b
  · rw [if_pos (by rw [n_le (by omega)]; exact gb)]
    have hx2 : rlx (v 0) (v 1) (prW v rd) K K2 := fun o w x k p h1 h2 h3 h4 h5 h6 _ => x2 o w x k p (by omega) h2 h3 h4 h5 h6
    have st := set_step hH z1 m2 hx2
    have z2 : K2 fr = some 0 := by
      obtain ⟨k0, e0, l0⟩ := m2 fr 0 (by omega) z1
      rw [e0]
      congr 1
      omega
    refine hk95 (by omega) _ _ ⟨ch, K2, rfl, s2, fun x hx => ⟨(c2' x hx).1, fun k hk => by have := (c2' x hx).2 k hk; omega⟩, a2, z2, u2, fun ht => ?_, fun hf' => ?_⟩
    · rcases st with st | st
      · exact absurd st (f2 ht)
      · omega
    · have sm : ∀ x, x < 30 → K2 x = K x := e2 hf'
      rcases st with st | st
      · exact fun x c hc => m2.le (by have := Rch_in hH hc; omega) (st x c hc)
      · exfalso
        have : fb_ct (fun b => cb (Stl (v 0) (v 1) fr (prW v rd) K2 b)) 30 = fb_ct (fun b => cb (Stl (v 0) (v 1) fr (prW v rd) K b)) 30 := fb_ct_cong fun x hx => by
          have : Stl (v 0) (v 1) fr (prW v rd) K2 x = Stl (v 0) (v 1) fr (prW v rd) K x := by
            unfold Stl leK
            rw [sm x hx]
          rw [this]
        omega
  rw [if_neg (by rw [n_le (by omega)]; exact gb)]
  refine Ho_lp (fun i a M' => ∃ (ch : Bool) (K1 : Nat → Option Nat), a = (nI c2, nI r2, nI rd, b2i ch, nI b, nI (i + 1)) ∧ Sm [211] S M' ∧ (∀ x, x < v 0 * v 1 → M'.1 211 x = oI (K1 x) ∧ ∀ k, K1 x = some k → k ≤ 400 * r + 12 * b + 3 * i) ∧ Ach (v 0) (v 1) fr (prW v rd) K1 ∧ (∀ x, v 0 * v 1 ≤ x → K1 x = none) ∧ moK K K1 ∧ (∀ o w x k p, (o < b ∨ (o = b ∧ w ≤ i)) → 1 ≤ w → w ≤ 4 → nbd (v 0) (v 1) o w = some x → K o = some k → prW v rd x = some p → leK K1 x (k + p)) ∧ (ch = false → ∀ x, x < 30 → K1 x = K x) ∧ (ch = true → ¬ ∀ x, Stl (v 0) (v 1) fr (prW v rd) K x)) 4 (by omega) ⟨ch, K2, rfl, s2, c2', a2, u2, m2, fun o w x k p ho h1 => x2 o w x k p (by omega) h1, e2, f2⟩ ?_
  rintro i hi k118 hk118 _ M3 ⟨ch, K3, rfl, s3, c3, a3, u3, m3, x3, e3, f3⟩
  have A3 : Ar M3 205 435 v := hA.same (s3.2 205 (by simp))
  unfold f_X12_way_h118 f_X12_way_b161 f_X12_way_b201 f_X12_way_b221 f_X12_way_b227
  dsimp only
  by_cases gi : 4 < i + 1
  · rw [if_pos (by rw [n_llt (by omega)]; exact gi), n_addl]
    exact hk106 (by omega) _ _ ⟨ch, K3, rfl, s3, fun x hx => ⟨(c3 x hx).1, fun k hk => by have := (c3 x hx).2 k hk; omega⟩, a3, u3, m3, fun o w x k p ho h1 h2 => x3 o w x k p (by omega) h1 h2, e3, f3⟩
  rw [if_neg (by rw [n_llt (by omega)]; exact gi), ck_n (by omega), t_n (by omega), (c3 b (by omega)).1]
  cases eb : K3 b with
  | none =>
    rw [if_pos (show oI none < 0 by decide), n_addl]
    refine hk106 (by omega) _ _ ⟨ch, K3, rfl, s3, fun x hx => ⟨(c3 x hx).1, fun k hk => by have := (c3 x hx).2 k hk; omega⟩, a3, u3, m3, fun o w x k p ho h1 h2 hn ek => ?_, e3, f3⟩
    by_cases g : o = b
    · subst g
      obtain ⟨k', e', -⟩ := m3 o k (by omega) ek
      rw [eb] at e'
      cases e'
    · exact x3 o w x k p (by omega) h1 h2 hn ek
  | some kb =>
    have lb := (c3 b (by omega)).2 kb eb
    rw [show oI (some kb) = nI kb from rfl, if_neg (nI_pos (n := kb) (by omega)), m_nb (A3 0 (by omega)) (A3 1 (by omega)) (by omega) hWD (show b < v 0 * v 1 by omega), bi_s]
    have skip : (∀ x, nbd (v 0) (v 1) b (i + 1) = some x → ∀ p, prW v rd x = some p → leK K3 x (kb + p)) → Ho (k118 (nI c2, nI r2, nI rd, b2i ch, nI b, nI (i + 1) + 1) M3) (wayP v S fr rd to) := fun hsk => by
      rw [n_addl]
      refine hk118 (by omega) _ _ ⟨ch, K3, rfl, s3, fun x hx => ⟨(c3 x hx).1, fun k hk => by have := (c3 x hx).2 k hk; omega⟩, a3, u3, m3, fun o w x k p ho h1 h2 hn ek ep => ?_, e3, f3⟩
      by_cases g : o = b ∧ w = i + 1
      · obtain ⟨rfl, rfl⟩ := g
        obtain ⟨k', e', l'⟩ := m3 o k (by omega) ek
        rw [eb] at e'
        have := Option.some.inj e'
        obtain ⟨q, q1, q2⟩ := hsk x hn p ep
        exact ⟨q, q1, by omega⟩
      · exact x3 o w x k p (by omega) h1 h2 hn ek ep
    cases en : nbd (v 0) (v 1) b (i + 1) with
    | none =>
      rw [if_neg (show ¬ (0 : Int32) ≤ oI none by decide), if_pos (show (-1 : Int32) < 0 by decide)]
      exact skip fun x hx => by rw [en] at hx; cases hx
    | some x =>
      obtain ⟨i1, i2, i3⟩ := nb_is hWD (show b < v 0 * v 1 by omega) (by omega) en
      rw [show oI (some x) = nI x from rfl, if_pos (nI_pos' (show x < 2147483648 by omega)), m_cost hv A3 (by omega) hr, bi_s]
      cases ep : prW v rd x with
      | none =>
        rw [if_pos (show oI none < 0 by decide)]
        exact skip fun x' hx' p hp => by rw [en] at hx'; rw [← Option.some.inj hx', ep] at hp; cases hp
      | some p =>
        have hp := prW_13 x p ep
        have upd' : (∀ k, K3 x = some k → kb + p < k) → Ho (bM (uI M3 211 (tn (nI x)) (nI kb + nI p)) fun M_43 => k118 (nI c2, nI r2, nI rd, 1, nI b, nI (i + 1) + 1) M_43) (wayP v S fr rd to) := fun hlt => by
          rw [bM_e, t_n (by omega), nI_add, n_addl]
          have rx : Rch (v 0) (v 1) fr (prW v rd) x (kb + p) := Rch_step (show b < v 0 * v 1 by omega) (by omega) en (a3 b kb (by omega) eb) ep
          refine hk118 (by omega) _ _ ⟨true, ptK K3 x (kb + p), rfl, s3.uI (by simp), fun y hy => ?_, a3.pt rx, fun y hy => by rw [ptK_ne (by omega)]; exact u3 y hy, m3.pt fun k hk => by have := hlt k hk; omega, fun o w y k p' ho h1 h2 hn ek ep' => ?_, fun z => (by cases z), fun _ hall => ?_⟩
          · by_cases gy : y = x
            · subst gy
              rw [u_at, ptK_at]
              exact ⟨rfl, fun k hk => by have := Option.some.inj hk; omega⟩
            · rw [us_same, g_upd, if_neg gy, ptK_ne gy]
              exact ⟨(c3 y hy).1, fun k hk => by have := (c3 y hy).2 k hk; omega⟩
          · by_cases g : o = b ∧ w = i + 1
            · obtain ⟨rfl, rfl⟩ := g
              rw [en] at hn
              have e1 := Option.some.inj hn
              subst e1
              obtain ⟨k', e', l'⟩ := m3 o k (by omega) ek
              rw [eb] at e'
              have := Option.some.inj e'
              rw [ep] at ep'
              have := Option.some.inj ep'
              exact ⟨kb + p, ptK_at _ _ _, by omega⟩
            · obtain ⟨q, q1, q2⟩ := x3 o w y k p' (by omega) h1 h2 hn ek ep'
              by_cases gy : y = x
              · subst gy
                exact ⟨kb + p, ptK_at _ _ _, by have := hlt q q1; omega⟩
              · exact ⟨q, by rw [ptK_ne gy]; exact q1, q2⟩
          · obtain ⟨k, e1, l1⟩ := hall x (kb + p) rx
            obtain ⟨k', e2', l2'⟩ := m3 x k (by omega) e1
            have := hlt k' e2'
            omega
        rw [show oI (some p) = nI p from rfl, if_neg (nI_pos (n := p) (by omega)), ck_n (j := x) (by omega), t_n (j := x) (by omega), (c3 x i1).1, ck_n (j := b) (by omega), ck_n (j := x) (by omega), ck_n (j := x) (by omega), ck_n (j := b) (by omega), (c3 b (by omega)).1, eb]
        cases ex : K3 x with
        | none =>
          rw [if_pos (show oI none < 0 by decide)]
          have := upd' (fun k hk => by rw [ex] at hk; cases hk)
          rw [t_n (by omega)] at this
          exact this
        | some kx =>
          have lx := (c3 x i1).2 kx ex
          rw [show oI (some kx) = nI kx from rfl, if_neg (nI_pos (n := kx) (by omega)), show oI (some kb) = nI kb from rfl]
          by_cases g : kb + p < kx
          · rw [if_pos (by rw [nI_add, n_lt (by omega)]; exact g)]
            have := upd' (fun k hk => by rw [ex] at hk; have := Option.some.inj hk; omega)
            rw [t_n (by omega)] at this
            exact this
          · rw [if_neg (by rw [nI_add, n_lt (by omega)]; exact g)]
            exact skip fun x' hx' p' hp' => by
              rw [en] at hx'
              have e1 := Option.some.inj hx'
              subst e1
              rw [ep] at hp'
              have := Option.some.inj hp'
              exact ⟨kx, ex, by omega⟩
theorem scr97 : ∀ c, c ∈ [97] → 83 ≤ c ∧ c < 107 := by intro c hc; simp at hc; omega
theorem scr211 : ∀ c, c ∈ [211] → scrS c := by intro c hc; simp at hc; unfold scrS; omega
theorem e_way (hN : 300 < N) (h : Rel C S) (x y x2 y2 z : Int32) : Same (f_X11_way N x y x2 y2 z C) (f_X12_way N x y x2 y2 z S) := by
  have hR := Re.go h
  have hs := S0_st S 0 0
  unfold f_X11_way f_X12_way f_X11_answeredIfAny f_X11_refused f_X11_answered f_X12_refuse f_X5_boardAt
  simp only [bM_e]
  generalize uI (uI S 200 1 0) 200 0 0 = S at *
  obtain ⟨v, hv, h9, hC, hA, hn⟩ := hR.get
  have v0 := hv.1.1
  have v1 := hv.1.2.1
  have b30 := bd30 v0 v1
  obtain ⟨b, e1, e2, hb⟩ := board_is (v := v) (by omega) hC.1.1 hC.1.2.1 (hA 0 (by omega)) (hA 1 (by omega)) x y
  obtain ⟨b', e1', e2', hb'⟩ := board_is (v := v) (by omega) hC.1.1 hC.1.2.1 (hA 0 (by omega)) (hA 1 (by omega)) x2 y2
  simp only [e1, e2, e1', e2', bi_s, b2i_0]
  cases b with
  | false => exact Same.mk (cl_ref hR _)
  | true =>
    simp only [Bool.true_eq_false, if_false]
    cases b' with
    | false => exact Same.mk (cl_ref hR _)
    | true =>
      obtain ⟨c1, r1, hc1, hr1, rfl, rfl⟩ := hb rfl
      obtain ⟨c2, r2, hc2, hr2, rfl, rfl⟩ := hb' rfl
      simp only [Bool.true_eq_false, if_false]
      have hf : v 0 * r1 + c1 < v 0 * v 1 := by rw [Nat.mul_comm (v 0) r1]; exact bd hc1 hr1
      have ht : v 0 * r2 + c2 < v 0 * v 1 := by rw [Nat.mul_comm (v 0) r2]; exact bd hc2 hr2
      obtain ⟨q, e3, hq⟩ := in_is 0 2 (by omega) S z
      rw [show f_X12_isIn z.toInt64 0 2 S = _ from e3]
      rcases hq with ⟨rfl, rd, -, hrd, rfl⟩ | ⟨rfl, hy | ⟨n, hn, hw, rfl⟩⟩
      · rw [if_neg (nI_pos (n := rd) (by omega)), if_pos (show nI rd ≤ 2 by rw [n_lel (by omega)]; exact hrd), bi_s, if_neg (show ¬ true = false by decide), hC.1.1, n_mul, nI_add, n_mul, nI_add, Nat.mul_comm r1, Nat.mul_comm r2]
        refine Same.two (P := fun q => ∃ r C1, WyA (v 0) (v 1) (v 0 * r1 + c1) (prW v rd) (v 0 * r2 + c2) r ∧ Sm [97] C C1 ∧ ((r = none ∧ q.1 = -1 ∧ q.2 = uI C1 0 0 8) ∨ (∃ k, r = some k ∧ q.1 = nI k ∧ q.2 = uI C1 0 0 0))) (P' := wayP v S (v 0 * r1 + c1) rd (v 0 * r2 + c2)) ?_ ?_ ?_
        · rw [Ho_bi]
          refine Ho_mono (c_least hN hv hC hrd hf ht) ?_
          rintro ⟨rr, C1⟩ ⟨s1, r, w, er⟩
          dsimp only at s1 er ⊢
          subst er
          cases r with
          | none =>
            rw [if_pos (show oI none = -1 from rfl), bi_s, Ho_some]
            exact ⟨none, C1, w, s1, Or.inl ⟨rfl, rfl, rfl⟩⟩
          | some k =>
            have hk : k ≤ 90 := by
              rcases w with ⟨k', e, w1, w2⟩ | ⟨e, -⟩
              · obtain ⟨d, d1, d2⟩ := Rch_90 ⟨v0, v1, hf, prW_13⟩ w1
                have := w2 d d2
                have := Option.some.inj e
                omega
              · cases e
            rw [show oI (some k) = nI k from rfl, if_neg (show ¬ nI k = -1 by rw [n_m1l (by omega)]; exact id), bi_s, Ho_some]
            exact ⟨some k, C1, w, s1, Or.inr ⟨k, rfl, rfl, rfl⟩⟩
        · refine Ho_lp (fun i a S' => a = (nI c1, nI r1, nI c2, nI r2, nI rd, nI i) ∧ Sm [211] S S' ∧ ∀ b, b < i → S'.1 211 b = -1) (v 0 * v 1) (by omega) ⟨rfl, Sm.rf, fun b hb => absurd hb (Nat.not_lt_zero b)⟩ ?_
          rintro i hi k hk _ S1 ⟨rfl, s1, q1⟩
          have A1 : Ar S1 205 435 v := hA.same (s1.2 205 (by simp))
          unfold f_X12_way_h57
          dsimp only
          rw [m_boards (A1 0 (by omega)) (A1 1 (by omega)), bi_s]
          by_cases gi : v 0 * v 1 ≤ i
          · rw [if_pos (by rw [n_le (by omega)]; exact gi), m_board (A1 0 (by omega)), bi_s, ck_n (by omega), t_n (by omega), bM_e]
            refine m_way hN hv hA hrd hf ⟨hc2, hr2⟩ rfl (s1.uI (by simp)) fun b hb => ?_
            by_cases e : b = v 0 * r1 + c1
            · rw [e, u_at, ptK_at]; rfl
            · rw [us_same, g_upd, if_neg e, ptK_ne e]; exact q1 b (by omega)
          · rw [if_neg (by rw [n_le (by omega)]; exact gi), ck_n (by omega), t_n (by omega), bM_e, n_addl]
            refine hk (by omega) _ _ ⟨rfl, s1.uI (by simp), fun b hb => ?_⟩
            rw [us_same, g_upd]
            by_cases e : b = i
            · rw [if_pos e]
            · rw [if_neg e]; exact q1 b (by omega)
        · rintro r C' r' S' ⟨q, C1, w, s1, d⟩ ⟨q', S1, w', s1', d'⟩
          have eq := WyA_one w w'
          subst eq
          dsimp only at d d'
          rcases d with ⟨g1, g2, g3⟩ | ⟨k, g1, g2, g3⟩
          · rcases d' with ⟨f1, f2, f3⟩ | ⟨k', f1, -⟩
            · rw [g2, f2, g3, f3]
              exact ⟨rfl, cl_forR hR s1 scr97 s1' scr211 8⟩
            · rw [g1] at f1; cases f1
          · rcases d' with ⟨f1, -⟩ | ⟨k', f1, f2, f3⟩
            · rw [g1] at f1; cases f1
            · rw [g1] at f1
              have := Option.some.inj f1
              subst this
              rw [g2, f2, g3, f3]
              exact ⟨rfl, cl_for hR hs s1 scr97 s1' scr211⟩
      · rw [if_pos hy, bi_s, if_pos rfl]
        exact Same.mk (cl_ref hR _)
      · rw [if_neg (nI_pos hn), if_neg (show ¬ nI n ≤ 2 by rw [n_lel (by omega)]; omega), bi_s, if_pos rfl]
        exact Same.mk (cl_ref hR _)
end E4
