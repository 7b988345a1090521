section W2
variable {N t : Nat} {M S : Mem} {c R : Nat → Nat → Nat}
/-- n is the most that can flow -/
def MxF (c : Nat → Nat → Nat) (s t n : Nat) : Prop := (∃ R, FL c R (net s t n)) ∧ ∀ R (m : Int), FL c R (net s t m) → m ≤ n
theorem MxF.eq {s t n m : Nat} (h : MxF c s t n) (h' : MxF c s t m) : n = m := by
  obtain ⟨R, a⟩ := h.1
  obtain ⟨R', a'⟩ := h'.1
  have := h.2 _ _ a'
  have := h'.2 _ _ a
  omega
theorem net_0 (s t : Nat) : FL c c (net s t 0) := by
  refine ⟨fun _ _ _ _ => rfl, fun x _ => ?_⟩
  have : net s t 0 x = 0 := by unfold net; split <;> split <;> rfl
  rw [this, ← zs_0 60]
  exact zs_cong fun y _ => by omega
theorem net_s (s t : Nat) (n : Nat) : (fun a => net s t n a + (if a = s then 1 else 0) - (if a = t then 1 else 0)) = net s t ((n + 1 : Nat) : Int) := by
  funext a
  unfold net
  split <;> split <;> omega
def RdP (c : Nat → Nat → Nat) (s t : Nat) (M : Mem) (q : Int32 × Mem) : Prop := ∃ n, n ≤ 5 ∧ q.1 = nI n ∧ Sm [214, 215] M q.2 ∧ MxF c s t n
/-- five searches -/
theorem m_rounds {fr to : Nat} {M0 : Mem} (hN : 200 < N) (hf : fr < 30) (ht : to < 30) (hc : ∀ x y, c x y ≤ 1) (h4 : zs (fun y => (c (2 * fr + 1) y : Int)) 60 ≤ 4) (hM : Sm [214, 215] M0 M) (hR : MRs M c) : Ho (lp (fun k a m => f_X12_roads_h151 N k a.1 a.2.1 a.2.2.1 a.2.2.2 m) N (nI fr, nI to, 0, 0) M) (RdP c (2 * fr + 1) (2 * to) M0) := by
  refine Ho_lp (fun i a M' => ∃ n R, a = (nI fr, nI to, nI n, nI i) ∧ Sm [214, 215] M0 M' ∧ MRs M' R ∧ FL c R (net (2 * fr + 1) (2 * to) n) ∧ n ≤ i ∧ (n = i ∨ ∀ R (m : Int), FL c R (net (2 * fr + 1) (2 * to) m) → m ≤ n)) 5 (by omega) ⟨0, c, rfl, hM, hR, net_0 _ _, Nat.le_refl _, Or.inl rfl⟩ ?_
  rintro i hi k hk _ M1 ⟨n, R, rfl, s1, r1, f1, n1, n2⟩
  unfold f_X12_roads_h151
  dsimp only
  by_cases g : 5 ≤ i
  · have : i = 5 := by omega
    subst this
    rw [if_pos (by decide), Ho_some]
    refine ⟨n, n1, rfl, s1, ⟨R, f1⟩, ?_⟩
    rcases n2 with n2 | n2
    · have := fl_out f1 (by omega) (by omega)
      omega
    · exact n2
  · rw [if_neg (by rw [n_lle (by omega)]; exact g)]
    refine Ho_lp (fun j a M' => a = (nI fr, nI to, nI n, nI i, nI j) ∧ Sm [214, 215] M0 M' ∧ MRs M' R ∧ ∀ x, x < j → M'.1 215 x = 0) 60 (by omega) ⟨rfl, s1, r1, fun x hx => by omega⟩ ?_
    rintro j hj k2 hk2 _ M2 ⟨rfl, s2, r2, z2⟩
    unfold f_X12_roads_h160 f_X12_roads_b202
    dsimp only
    by_cases g2 : 60 ≤ j
    · have : j = 60 := by omega
      subst this
      rw [if_pos (by decide), n_lmul, n_addl, n_lmul, Ho_bi]
      refine Ho_mono (go_is (c := c) hN (show 2 * to < 60 by omega) hc 64 M2 R (fun _ => false) (net (2 * fr + 1) (2 * to) n) (2 * fr + 1) r2 (fun x hx => z2 x hx) f1 (by omega) rfl rfl (by omega)) ?_
      rintro ⟨r, M3⟩ ⟨s3, R3, K3, a1, a2, a3, a4⟩
      dsimp only at s3 a1 a2 a3 a4 ⊢
      cases r with
      | false =>
        obtain ⟨rfl, -, b2, b3, b4⟩ := a3 rfl
        rw [if_pos (by decide), Int32.add_zero, n_addl]
        refine hk (by omega) _ _ ⟨n, R3, rfl, s2.tr s3, a1, f1, by omega, Or.inr fun R' m h' => ?_⟩
        exact fl_le (A := K3) f1 h' (by omega) b2 b3 fun x y hx hy h1 h2 => b4 x y hx hy h1 rfl h2
      | true =>
        obtain ⟨b1, -⟩ := a4 rfl
        rw [net_s] at b1
        rw [if_neg (by decide), n_addl, n_addl]
        refine hk (by omega) _ _ ⟨n + 1, R3, rfl, s2.tr s3, a1, b1, by omega, ?_⟩
        rcases n2 with n2 | n2
        · exact Or.inl (by omega)
        · have := n2 _ _ b1
          omega
    · rw [if_neg (by rw [n_lle (by omega)]; exact g2), ck_n (by omega), bM_e, t_n (by omega), n_addl]
      refine hk2 (by omega) _ _ ⟨rfl, s2.uI (by simp), fun x y hx hy => by rw [u_ne (by decide)]; exact r2 x y hx hy, fun x hx => ?_⟩
      rw [us_same, g_upd]
      by_cases e : x = j
      · rw [if_pos e]
      · rw [if_neg e]; exact z2 x (by omega)
/-- the ways at the start, as far as laid: lim b - 1 directions of board b -/
def adN (W D b w : Nat) : Nat → Bool
  | 0 => false
  | d + 1 => adN W D b w d || (nbd W D b (d + 1) == some w)
def vbB (fg : Nat → Bool) (fr to b : Nat) : Bool := decide (b ≠ to) && (decide (b = fr) || fg b)
def vwB (fg : Nat → Bool) (fr to w : Nat) : Bool := decide (w ≠ fr) && (decide (w = to) || fg w)
def capL (W D : Nat) (fg : Nat → Bool) (fr to : Nat) (lim : Nat → Nat) (x y : Nat) : Nat := if x % 2 = 0 then (if (decide (y = x + 1) && vbB fg fr to (x / 2) && decide (0 < lim (x / 2))) = true then 1 else 0) else if (decide (y % 2 = 0) && vbB fg fr to (x / 2) && vwB fg fr to (y / 2) && adN W D (x / 2) (y / 2) (lim (x / 2) - 1)) = true then 1 else 0
theorem capL_1 {W D : Nat} {fg : Nat → Bool} {fr to : Nat} {lim : Nat → Nat} (x y : Nat) : capL W D fg fr to lim x y ≤ 1 := by
  unfold capL
  repeat' split
  all_goals omega
theorem capL_cong {W D : Nat} {fg : Nat → Bool} {fr to : Nat} {lim lim' : Nat → Nat} {x y : Nat} (h : vbB fg fr to (x / 2) = true → lim (x / 2) = lim' (x / 2)) : capL W D fg fr to lim x y = capL W D fg fr to lim' x y := by
  unfold capL
  cases e : vbB fg fr to (x / 2) with
  | false => simp only [Bool.and_false, Bool.false_and]
  | true => rw [h e]
theorem adN_in {W D b w : Nat} : ∀ {d : Nat}, adN W D b w d = true ↔ ∃ k, 1 ≤ k ∧ k ≤ d ∧ nbd W D b k = some w
  | 0 => ⟨fun h => (by cases h), fun ⟨k, a, b, _⟩ => (by omega)⟩
  | d + 1 => by
    unfold adN
    rw [Bool.or_eq_true, adN_in (d := d), beq_iff_eq]
    constructor
    · rintro (⟨k, a, b, e⟩ | e)
      · exact ⟨k, a, by omega, e⟩
      · exact ⟨d + 1, by omega, by omega, e⟩
    · rintro ⟨k, a, b, e⟩
      by_cases g : k = d + 1
      · exact Or.inr (g ▸ e)
      · exact Or.inl ⟨k, a, by omega, e⟩
def i1 (o : Option Nat) (y : Nat) : Int := match o with
  | none => 0
  | some w => if y = 2 * w then 1 else 0
theorem i1_0 (o : Option Nat) (y : Nat) : 0 ≤ i1 o y := by
  unfold i1
  split
  · omega
  · split <;> omega
theorem i1_z (o : Option Nat) : zs (i1 o) 60 ≤ 1 := by
  cases o with
  | none => exact Int.le_trans (Int.le_of_eq (zs_0 60)) (by decide)
  | some w =>
    have := zs_one (2 * w) 1 60
    show zs (fun y => if y = 2 * w then 1 else 0) 60 ≤ 1
    rw [this]
    split <;> omega
theorem cap4 {W D : Nat} {fg : Nat → Bool} {fr to : Nat} {lim : Nat → Nat} (hl : ∀ b, lim b ≤ 5) : zs (fun y => (capL W D fg fr to lim (2 * fr + 1) y : Int)) 60 ≤ 4 := by
  have h : zs (fun y => (capL W D fg fr to lim (2 * fr + 1) y : Int)) 60 ≤ zs (fun y => i1 (nbd W D fr 1) y + (i1 (nbd W D fr 2) y + (i1 (nbd W D fr 3) y + i1 (nbd W D fr 4) y))) 60 := by
    refine zs_le fun y _ => ?_
    have p1 := i1_0 (nbd W D fr 1) y
    have p2 := i1_0 (nbd W D fr 2) y
    have p3 := i1_0 (nbd W D fr 3) y
    have p4 := i1_0 (nbd W D fr 4) y
    unfold capL
    rw [if_neg (by omega), show (2 * fr + 1) / 2 = fr by omega]
    split
    · rename_i h
      simp only [Bool.and_eq_true, decide_eq_true_eq] at h
      obtain ⟨⟨⟨h1, -⟩, -⟩, h4⟩ := h
      obtain ⟨k, k1, k2, e⟩ := adN_in.mp h4
      have := hl fr
      have one : i1 (nbd W D fr k) y = 1 := by rw [e]; exact if_pos (by omega)
      obtain rfl | rfl | rfl | rfl : k = 1 ∨ k = 2 ∨ k = 3 ∨ k = 4 := by omega
      all_goals omega
    · omega
  rw [zs_add, zs_add, zs_add] at h
  have := i1_z (nbd W D fr 1)
  have := i1_z (nbd W D fr 2)
  have := i1_z (nbd W D fr 3)
  have := i1_z (nbd W D fr 4)
  omega
end W2
