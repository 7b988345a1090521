/-! ways: walks and what they cost -/
noncomputable def cb (p : Prop) : Bool := @decide p (Classical.propDecidable p)
theorem cb_t {p : Prop} : cb p = true ↔ p := by unfold cb; exact @decide_eq_true_iff p (Classical.propDecidable p)
theorem cb_f {p : Prop} : cb p = false ↔ ¬ p := by unfold cb; exact @decide_eq_false_iff_not p (Classical.propDecidable p)
theorem ct_more {p q : Nat → Bool} {n j : Nat} (h : ∀ k, k < n → p k = true → q k = true) (hj : j < n) (h1 : p j = false) (h2 : q j = true) : fb_ct p n + 1 ≤ fb_ct q n := by
  have e := fb_ct_upd p true hj
  rw [h1] at e
  have s : fb_ct (fun k => if k = j then true else p k) n ≤ fb_ct q n := fb_ct_sub fun k hk z => by
    by_cases g : k = j
    · rw [g]; exact h2
    · rw [if_neg g] at z
      exact h k hk z
  have e' : fb_ct (fun k => if k = j then true else p k) n + 0 = fb_ct p n + 1 := e
  omega
theorem min_ex {P : Nat → Prop} {c : Nat} (h : P c) : ∃ d, P d ∧ d ≤ c ∧ ∀ j, j < d → ¬ P j := by
  obtain ⟨i, h1, h2, h3⟩ := @fb_first P (fun _ => Classical.propDecidable _) (c + 1) ⟨c, by omega, h⟩
  exact ⟨i, h2, by omega, h3⟩
section WK
variable {W D fr : Nat} {pr : Nat → Option Nat}
def wkR (W D fr : Nat) (pr : Nat → Option Nat) : Nat → Nat → Nat → Prop
  | 0, b, c => b = fr ∧ c = 0
  | n + 1, b, c => ∃ o w c' p, o < W * D ∧ 1 ≤ w ∧ w ≤ 4 ∧ nbd W D o w = some b ∧ wkR W D fr pr n o c' ∧ pr b = some p ∧ c = c' + p
def Rch (W D fr : Nat) (pr : Nat → Option Nat) (b c : Nat) : Prop := ∃ n, wkR W D fr pr n b c
/-- what holds of the port, of the start, of prices -/
def wkH (W D fr : Nat) (pr : Nat → Option Nat) : Prop := W ≤ 6 ∧ D ≤ 5 ∧ fr < W * D ∧ ∀ b p, pr b = some p → 1 ≤ p ∧ p ≤ 3
theorem Rch_in (h : wkH W D fr pr) {b c : Nat} (hr : Rch W D fr pr b c) : b < W * D := by
  obtain ⟨n, hn⟩ := hr
  cases n with
  | zero => rw [hn.1]; exact h.2.2.1
  | succ n =>
    obtain ⟨o, w, c', p, h1, h2, h3, h4, -⟩ := hn
    exact (nb_is ⟨h.1, h.2.1⟩ h1 ⟨h2, h3⟩ h4).1
theorem Rch_step {o b w c p : Nat} (ho : o < W * D) (hw : 1 ≤ w ∧ w ≤ 4) (hn : nbd W D o w = some b) (hr : Rch W D fr pr o c) (hp : pr b = some p) : Rch W D fr pr b (c + p) := by
  obtain ⟨n, h⟩ := hr
  exact ⟨n + 1, o, w, c, p, ho, hw.1, hw.2, hn, h, hp, rfl⟩
theorem Rch_cnt (h : wkH W D fr pr) : ∀ d b, Rch W D fr pr b d → (∀ c, Rch W D fr pr b c → d ≤ c) → d ≤ 3 * fb_ct (fun x => cb (∃ c, c < d ∧ Rch W D fr pr x c)) 30 := by
  have b30 := bd30 h.1 h.2.1
  intro d
  induction d using Nat.strongRecOn with
  | ind d ih =>
    intro b hr hm
    obtain ⟨n, hn⟩ := hr
    cases n with
    | zero => rw [hn.2]; exact Nat.zero_le _
    | succ n =>
      obtain ⟨o, w, c', p, h1, h2, h3, h4, h5, h6, h7⟩ := hn
      have hp := h.2.2.2 b p h6
      have mo : ∀ c, Rch W D fr pr o c → c' ≤ c := fun c hc => by
        have := hm _ (Rch_step h1 ⟨h2, h3⟩ h4 hc h6)
        omega
      have i1 := ih c' (by omega) o ⟨n, h5⟩ mo
      have i2 := ct_more (p := fun x => cb (∃ c, c < c' ∧ Rch W D fr pr x c)) (q := fun x => cb (∃ c, c < d ∧ Rch W D fr pr x c)) (n := 30) (j := o) (fun k _ z => by
        rw [cb_t] at z ⊢
        obtain ⟨c, z1, z2⟩ := z
        exact ⟨c, by omega, z2⟩) (by omega) (by
        rw [cb_f]
        rintro ⟨c, z1, z2⟩
        have := mo c z2
        omega) (by
        rw [cb_t]
        exact ⟨c', by omega, n, h5⟩)
      omega
theorem Rch_90 (h : wkH W D fr pr) {b c : Nat} (hr : Rch W D fr pr b c) : ∃ d, d ≤ 90 ∧ Rch W D fr pr b d := by
  obtain ⟨d, h1, -, h3⟩ := min_ex (P := fun c => Rch W D fr pr b c) hr
  have := Rch_cnt h d b h1 (fun c hc => Nat.not_lt.mp fun z => h3 c z hc)
  have := fb_ct_le (fun x => cb (∃ c, c < d ∧ Rch W D fr pr x c)) 30
  exact ⟨d, by omega, h1⟩
/-! rows of counts: none, or some -/
def leK (K : Nat → Option Nat) (b c : Nat) : Prop := ∃ k, K b = some k ∧ k ≤ c
def Stl (W D fr : Nat) (pr : Nat → Option Nat) (K : Nat → Option Nat) (b : Nat) : Prop := ∀ c, Rch W D fr pr b c → leK K b c
def Ach (W D fr : Nat) (pr : Nat → Option Nat) (K : Nat → Option Nat) : Prop := ∀ b k, b < 30 → K b = some k → Rch W D fr pr b k
def moK (K K' : Nat → Option Nat) : Prop := ∀ b k, b < 30 → K b = some k → leK K' b k
theorem moK.rf {K : Nat → Option Nat} : moK K K := fun _ k _ h => ⟨k, h, Nat.le_refl _⟩
theorem moK.tr {K K' K'' : Nat → Option Nat} (h : moK K K') (h2 : moK K' K'') : moK K K'' := fun b k hb e => by
  obtain ⟨k1, e1, l1⟩ := h b k hb e
  obtain ⟨k2, e2, l2⟩ := h2 b k1 hb e1
  exact ⟨k2, e2, by omega⟩
theorem moK.le {K K' : Nat → Option Nat} (h : moK K K') {b c : Nat} (hb : b < 30) (e : leK K b c) : leK K' b c := by
  obtain ⟨k, e1, l1⟩ := e
  obtain ⟨k2, e2, l2⟩ := h b k hb e1
  exact ⟨k2, e2, by omega⟩
/-- each pair of boards side by side was looked at -/
def rlx (W D : Nat) (pr : Nat → Option Nat) (K K' : Nat → Option Nat) : Prop := ∀ o w b k p, o < W * D → 1 ≤ w → w ≤ 4 → nbd W D o w = some b → K o = some k → pr b = some p → k + p < 1000 → leK K' b (k + p)
theorem set_step (h : wkH W D fr pr) {K K' : Nat → Option Nat} (h0 : K fr = some 0) (hm : moK K K') (hx : rlx W D pr K K') : (∀ b, Stl W D fr pr K b) ∨ fb_ct (fun b => cb (Stl W D fr pr K b)) 30 + 1 ≤ fb_ct (fun b => cb (Stl W D fr pr K' b)) 30 := by
  have b30 := bd30 h.1 h.2.1
  rcases Classical.em (∀ b, Stl W D fr pr K b) with g | g
  · exact Or.inl g
  · right
    have ex : ∃ c, ∃ b, Rch W D fr pr b c ∧ ¬ leK K b c := by
      rcases Classical.em (∃ c, ∃ b, Rch W D fr pr b c ∧ ¬ leK K b c) with z | z
      · exact z
      · exact absurd (fun b c hc => Classical.byContradiction fun y => z ⟨c, b, hc, y⟩) g
    obtain ⟨c0, hc0⟩ := ex
    obtain ⟨c, ⟨b, hr, hn⟩, -, hmin⟩ := min_ex (P := fun c => ∃ b, Rch W D fr pr b c ∧ ¬ leK K b c) hc0
    have hmin' : ∀ c2 x, c2 < c → Rch W D fr pr x c2 → leK K x c2 := fun c2 x h1 h2 => Classical.byContradiction fun y => hmin c2 h1 ⟨x, h2, y⟩
    have cD : ∀ c2, Rch W D fr pr b c2 → c ≤ c2 := fun c2 h2 => Nat.not_lt.mp fun z => by
      obtain ⟨k, e, l⟩ := hmin' c2 b z h2
      exact hn ⟨k, e, by omega⟩
    have hbi := Rch_in h hr
    obtain ⟨d, d1, d2⟩ := Rch_90 h hr
    have := cD d d2
    obtain ⟨n, hw⟩ := hr
    cases n with
    | zero => exact absurd ⟨0, by rw [hw.1]; exact h0, Nat.zero_le _⟩ hn
    | succ n =>
      obtain ⟨o, w, c', p, h1, h2, h3, h4, h5, h6, h7⟩ := hw
      have hp := h.2.2.2 b p h6
      obtain ⟨k, e, l⟩ := hmin' c' o (by omega) ⟨n, h5⟩
      obtain ⟨k', e', l'⟩ := hx o w b k p h1 h2 h3 h4 e h6 (by omega)
      exact ct_more (j := b) (fun x hx z => by
        rw [cb_t] at z ⊢
        exact fun c2 h2 => hm.le hx (z c2 h2)) (by omega) (by
        rw [cb_f]
        exact fun z => hn (z c ⟨n + 1, o, w, c', p, h1, h2, h3, h4, h5, h6, h7⟩)) (by
        rw [cb_t]
        exact fun c2 h2 => ⟨k', e', by have := cD c2 h2; omega⟩)
/-- the answer -/
def WyA (W D fr : Nat) (pr : Nat → Option Nat) (to : Nat) (r : Option Nat) : Prop := (∃ k, r = some k ∧ Rch W D fr pr to k ∧ ∀ c, Rch W D fr pr to c → k ≤ c) ∨ (r = none ∧ ∀ c, ¬ Rch W D fr pr to c)
theorem WyA_one {to : Nat} {r r' : Option Nat} (h : WyA W D fr pr to r) (h' : WyA W D fr pr to r') : r = r' := by
  rcases h with ⟨k, rfl, h1, h2⟩ | ⟨rfl, h1⟩
  · rcases h' with ⟨k', rfl, h1', h2'⟩ | ⟨rfl, h1'⟩
    · have := h2 k' h1'
      have := h2' k h1
      congr 1
      omega
    · exact absurd h1 (h1' k)
  · rcases h' with ⟨k', rfl, h1', h2'⟩ | ⟨rfl, h1'⟩
    · exact absurd h1' (h1 k')
    · rfl
theorem WyA_of {to : Nat} {K : Nat → Option Nat} (hto : to < 30) (ha : Ach W D fr pr K) (hs : ∀ b, Stl W D fr pr K b) : WyA W D fr pr to (K to) := by
  cases e : K to with
  | none =>
    refine Or.inr ⟨rfl, fun c hc => ?_⟩
    obtain ⟨k, e1, -⟩ := hs to c hc
    rw [e] at e1
    cases e1
  | some k =>
    refine Or.inl ⟨k, rfl, ha to k hto e, fun c hc => ?_⟩
    obtain ⟨k', e1, l⟩ := hs to c hc
    rw [e] at e1
    have := Option.some.inj e1
    omega
def ptK (K : Nat → Option Nat) (b : Nat) (y : Nat) : Nat → Option Nat := fun x => if x = b then some y else K x
theorem ptK_at (K : Nat → Option Nat) (b y : Nat) : ptK K b y b = some y := if_pos rfl
theorem ptK_ne {K : Nat → Option Nat} {b y x : Nat} (h : x ≠ b) : ptK K b y x = K x := if_neg h
theorem moK.pt {K K1 : Nat → Option Nat} {b y : Nat} (h : moK K K1) (hb : ∀ k, K1 b = some k → y ≤ k) : moK K (ptK K1 b y) := h.tr fun x k hx e => by
  by_cases g : x = b
  · subst g
    exact ⟨y, ptK_at _ _ _, hb k e⟩
  · exact ⟨k, by rw [ptK_ne g]; exact e, Nat.le_refl _⟩
theorem Ach.pt {K1 : Nat → Option Nat} {b y : Nat} (h : Ach W D fr pr K1) (hr : Rch W D fr pr b y) : Ach W D fr pr (ptK K1 b y) := fun x k hx e => by
  by_cases g : x = b
  · subst g
    rw [ptK_at] at e
    rw [← Option.some.inj e]
    exact hr
  · rw [ptK_ne g] at e
    exact h x k hx e
end WK
/-! prices -/
def prW (v : Nat → Nat) (rd b : Nat) : Option Nat := if rd = 2 then some (if fgy v (fogv v) b then 3 else 1) else if fgy v (fogv v) b = decide (rd = 1) then some 1 else none
theorem prW_13 {v : Nat → Nat} {rd : Nat} (b p : Nat) (h : prW v rd b = some p) : 1 ≤ p ∧ p ≤ 3 := by
  unfold prW at h
  split at h
  · split at h
    · have := Option.some.inj h; omega
    · have := Option.some.inj h; omega
  · split at h
    · have := Option.some.inj h; omega
    · cases h
def eC : Option Nat → Nat
  | none => 1000
  | some k => k
section E3
variable {N : Nat} {C S M : Mem} {v : Nat → Nat}
theorem c_price {b rd : Nat} (hv : VV v) (hC : PC M 10 v) (hb : b < 30) (hr : rd ≤ 2) : f_X7_priceOf 10 (nI b) (nI rd) M = some (nI (eC (prW v rd b)), M) := by
  have v8 := hv.2.2.2.2.1
  unfold f_X7_priceOf f_X7_priceOf_b39
  rw [c_foggy (p := 10) (q := 10 + 6) (b := b) (w := v 8) (F := fogv v) rfl hC.2.1 hC.2.2.2.2.2.2.2.2.2.2.2.1 hb hv.2.2.2.2.2.2.2.2.2.2.1 (by omega), bi_s, show decide (v 8 ≤ fogv v b + fogv v (30 + b)) = fgy v (fogv v) b from rfl]
  unfold prW
  obtain rfl | rfl | rfl : rd = 0 ∨ rd = 1 ∨ rd = 2 := by omega
  all_goals
    cases fgy v (fogv v) b <;> rfl
theorem m_cost {b rd : Nat} (hv : VV v) (hA : Ar M 205 435 v) (hb : b < 30) (hr : rd ≤ 2) : f_X12_costOf (nI b) (nI rd) M = some (oI (prW v rd b), M) := by
  have v8 := hv.2.2.2.2.1
  have e : f_X12_isFoggy (nI b) M = some (fgy v (fogv v) b, M) := by
    rw [m_foggy hA hb hv.2.2.2.2.2.2.2.2.2.2.1 (by omega)]
    unfold fgy fogv
    rw [show 103 + (30 + b) = 133 + b by omega]
  unfold f_X12_costOf f_X12_costOf_b34
  simp only [e, bi_s]
  unfold prW
  obtain rfl | rfl | rfl : rd = 0 ∨ rd = 1 ∨ rd = 2 := by omega
  all_goals
    cases fgy v (fogv v) b <;> rfl
/-- the class's counts -/
def CK (M : Mem) (K : Nat → Option Nat) : Prop := ∀ b, b < 30 → M.1 97 b = nI (eC (K b)) ∧ ∀ k, K b = some k → k < 1000
theorem eC_le {K : Nat → Option Nat} {b : Nat} (h : ∀ k, K b = some k → k < 1000) : eC (K b) ≤ 1000 := by
  cases e : K b with
  | none => exact Nat.le_refl _
  | some k => have := h k e; show k ≤ 1000; omega
theorem c_short {rd fr : Nat} {K : Nat → Option Nat} (hN : 200 < N) (hv : VV v) (hC : PC M 10 v) (hr : rd ≤ 2) (hf : fr < v 0 * v 1) (hK : CK M K) (hA : Ach (v 0) (v 1) fr (prW v rd) K) : Ho (f_X7_shortenAll N 10 (nI rd) M) (fun q => Sm [97] M q.2 ∧ ∃ K', CK q.2 K' ∧ Ach (v 0) (v 1) fr (prW v rd) K' ∧ moK K K' ∧ rlx (v 0) (v 1) (prW v rd) K K' ∧ (q.1 = false → ∀ x, x < 30 → K' x = K x)) := by
  have b30 := bd30 hv.1.1 hv.1.2.1
  have hWD : v 0 ≤ 6 ∧ v 1 ≤ 5 := ⟨hv.1.1, hv.1.2.1⟩
  unfold f_X7_shortenAll f_X5_boardCount
  rw [hC.1.1, hC.1.2.1, n_mul, bi_s]
  refine Ho_lp (fun b a M' => ∃ (ch : Bool) (K1 : Nat → Option Nat), a = (nI rd, nI (v 0 * v 1), b2i ch, nI b) ∧ Sm [97] M M' ∧ CK M' K1 ∧ Ach (v 0) (v 1) fr (prW v rd) K1 ∧ moK K K1 ∧ (∀ x w o k p, x < b → 1 ≤ w → w ≤ 4 → nbd (v 0) (v 1) x w = some o → K o = some k → prW v rd x = some p → k + p < 1000 → leK K1 x (k + p)) ∧ (ch = false → ∀ x, x < 30 → K1 x = K x)) (v 0 * v 1) (by omega) ⟨false, K, rfl, Sm.rf, hK, hA, moK.rf, fun x w o k p hx => absurd hx (Nat.not_lt_zero x), fun _ _ _ => rfl⟩ ?_
  rintro b hb k11 hk11 _ M1 ⟨ch, K1, rfl, s1, c1, a1, m1, x1, z1⟩
  unfold f_X7_shortenAll_h11
  dsimp only
  by_cases gb : v 0 * v 1 ≤ b
  · rw [if_pos (by rw [n_le (by omega)]; exact gb), zb_b, Ho_some]
    refine ⟨s1, K1, c1, a1, m1, fun o w x k p ho h1 h2 hn e hp hl => ?_, z1⟩
    obtain ⟨i1, i2, i3⟩ := nb_is hWD ho ⟨h1, h2⟩ hn
    have ow := opw_in ⟨h1, h2⟩
    exact x1 x (opw w) o k p (by omega) ow.1 ow.2 i3 e hp hl
  · rw [if_neg (by rw [n_le (by omega)]; exact gb), c_price hv (hC.sm s1 (by simp)) (by omega) hr, bi_s]
    refine Ho_lp (fun i a M' => ∃ (ch : Bool) (K1 : Nat → Option Nat), a = (nI rd, nI (v 0 * v 1), b2i ch, nI b, nI (eC (prW v rd b)), nI (i + 1)) ∧ Sm [97] M M' ∧ CK M' K1 ∧ Ach (v 0) (v 1) fr (prW v rd) K1 ∧ moK K K1 ∧ (∀ x w o k p, (x < b ∨ (x = b ∧ w ≤ i)) → 1 ≤ w → w ≤ 4 → nbd (v 0) (v 1) x w = some o → K o = some k → prW v rd x = some p → k + p < 1000 → leK K1 x (k + p)) ∧ (ch = false → ∀ x, x < 30 → K1 x = K x)) 4 (by omega) ⟨ch, K1, rfl, s1, c1, a1, m1, fun x w o k p hx h1 h2 => x1 x w o k p (by omega) h1 h2, z1⟩ ?_
    rintro i hi k30 hk30 _ M2 ⟨ch, K2, rfl, s2, c2, a2, m2, x2, z2⟩
    unfold f_X7_shortenAll_h30 f_X7_shortenAll_b92
    dsimp only
    have hC2 := hC.sm s2 (by simp)
    by_cases gi : 4 < i + 1
    · rw [if_pos (by rw [n_llt (by omega)]; exact gi), n_addl]
      exact hk11 (by omega) _ _ ⟨ch, K2, rfl, s2, c2, a2, m2, fun x w o k p hx h1 h2 => x2 x w o k p (by omega) h1 h2, z2⟩
    · rw [if_neg (by rw [n_llt (by omega)]; exact gi), c_nb hC2.1.1 hC2.1.2.1 (by omega) hWD (show b < v 0 * v 1 by omega), bi_s, n_addl]
      cases e : nbd (v 0) (v 1) b (i + 1) with
      | none =>
        rw [if_pos (show oI none = -1 from rfl)]
        refine hk30 (by omega) _ _ ⟨ch, K2, rfl, s2, c2, a2, m2, fun x w o k p hx h1 h2 hn => ?_, z2⟩
        by_cases g : x = b ∧ w = i + 1
        · rw [g.1, g.2, e] at hn; cases hn
        · exact x2 x w o k p (by omega) h1 h2 hn
      | some o =>
        obtain ⟨i1, i2, i3⟩ := nb_is hWD (show b < v 0 * v 1 by omega) (by omega) e
        have ow := opw_in (w := i + 1) (by omega)
        have co := c2 o (by omega)
        have cbb := c2 b (by omega)
        have lo := eC_le co.2
        have lb := eC_le cbb.2
        have lp : eC (prW v rd b) ≤ 1000 := eC_le (K := prW v rd) fun k hk => by have := prW_13 b k hk; omega
        rw [show oI (some o) = nI o from rfl, if_neg (show ¬ nI o = -1 by rw [n_m1l (by omega)]; exact id)]
        simp (disch := omega) only [true_and, and_true, bi_s, bv_s, bM_e, bI_e, bL_e, ck_n, ck_l, ck_0, n_tn, co.1, cbb.1, nI_add]
        by_cases g : eC (K2 b) ≤ eC (K2 o) + eC (prW v rd b)
        · rw [if_pos (by rw [n_le (by omega)]; exact g)]
          refine hk30 (by omega) _ _ ⟨ch, K2, rfl, s2, c2, a2, m2, fun x w o' k p hx h1 h2 hn ek ep hl => ?_, z2⟩
          by_cases g2 : x = b ∧ w = i + 1
          · obtain ⟨rfl, rfl⟩ := g2
            rw [e] at hn
            have eo := Option.some.inj hn
            subst eo
            obtain ⟨k', ek', lk'⟩ := m2 o k (by omega) ek
            rw [ek', ep] at g
            have g' : eC (K2 x) ≤ k' + p := g
            cases eb : K2 x with
            | none => rw [eb] at g'; have g'' : 1000 ≤ k' + p := g'; omega
            | some kb => rw [eb] at g'; exact ⟨kb, eb, by have g'' : kb ≤ k' + p := g'; omega⟩
          · exact x2 x w o' k p (by omega) h1 h2 hn ek ep hl
        · rw [if_neg (by rw [n_le (by omega)]; exact g)]
          cases eo : K2 o with
          | none => rw [eo] at g; exact absurd (show eC (K2 b) ≤ 1000 + eC (prW v rd b) by omega) g
          | some k2 =>
            cases ep : prW v rd b with
            | none => rw [ep] at g; exact absurd (show eC (K2 b) ≤ eC (K2 o) + 1000 by omega) g
            | some p =>
              rw [eo, ep] at g
              have g' : ¬ eC (K2 b) ≤ k2 + p := g
              have hlt : k2 + p < 1000 := by omega
              have rb : Rch (v 0) (v 1) fr (prW v rd) b (k2 + p) := Rch_step i1 ow i3 (a2 o k2 (by omega) eo) ep
              refine hk30 (by omega) _ _ ⟨true, ptK K2 b (k2 + p), ?_, s2.uI (by simp), fun x hx => ?_, a2.pt rb, m2.pt fun k hk => ?_, fun x w o' k p' hx h1 h2 hn ek ep' hl => ?_, fun z => by cases z⟩
              · rw [ep]; rfl
              · by_cases gx : x = b
                · subst gx
                  rw [u_at, ptK_at]
                  exact ⟨rfl, fun k hk => by rw [← Option.some.inj hk]; exact hlt⟩
                · rw [us_same, g_upd, if_neg gx, ptK_ne gx]
                  exact c2 x hx
              · rw [hk] at g'
                have g'' : ¬ k ≤ k2 + p := g'
                omega
              · by_cases g2 : x = b ∧ w = i + 1
                · obtain ⟨rfl, rfl⟩ := g2
                  rw [e] at hn
                  have eo' := Option.some.inj hn
                  subst eo'
                  obtain ⟨k', ek', lk'⟩ := m2 o k (by omega) ek
                  rw [eo] at ek'
                  rw [ep] at ep'
                  have := Option.some.inj ek'
                  have := Option.some.inj ep'
                  exact ⟨k2 + p, ptK_at _ _ _, by omega⟩
                · have old := x2 x w o' k p' (by omega) h1 h2 hn ek ep' hl
                  by_cases gx : x = b
                  · subst gx
                    obtain ⟨kk, e1, l1⟩ := old
                    rw [e1] at g'
                    have g'' : ¬ kk ≤ k2 + p := g'
                    exact ⟨k2 + p, ptK_at _ _ _, by omega⟩
                  · obtain ⟨kk, e1, l1⟩ := old
                    exact ⟨kk, by rw [ptK_ne gx]; exact e1, l1⟩
end E3
