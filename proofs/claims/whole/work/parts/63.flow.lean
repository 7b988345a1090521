/-! flows of ones between sixty places -/
def zs (g : Nat → Int) : Nat → Int
  | 0 => 0
  | n + 1 => zs g n + g n
theorem zs_cong {f g : Nat → Int} : ∀ {n : Nat}, (∀ k, k < n → f k = g k) → zs f n = zs g n
  | 0, _ => rfl
  | n + 1, h => by rw [zs, zs, zs_cong fun k hk => h k (by omega), h n (by omega)]
theorem zs_add (f g : Nat → Int) : ∀ n, zs (fun k => f k + g k) n = zs f n + zs g n
  | 0 => rfl
  | n + 1 => by rw [zs, zs, zs, zs_add f g n]; omega
theorem zs_neg (f : Nat → Int) : ∀ n, zs (fun k => - f k) n = - zs f n
  | 0 => rfl
  | n + 1 => by rw [zs, zs, zs_neg f n]; omega
theorem zs_0 : ∀ n, zs (fun _ => 0) n = 0
  | 0 => rfl
  | n + 1 => by rw [zs, zs_0 n]; rfl
theorem zs_le {f g : Nat → Int} : ∀ {n : Nat}, (∀ k, k < n → f k ≤ g k) → zs f n ≤ zs g n
  | 0, _ => Int.le_refl _
  | n + 1, h => by
    have a := zs_le (n := n) fun k hk => h k (by omega)
    have b := h n (by omega)
    rw [zs, zs]
    omega
theorem zs_one (s : Nat) (k : Int) : ∀ n, zs (fun x => if x = s then k else 0) n = if s < n then k else 0
  | 0 => rfl
  | n + 1 => by
    rw [zs, zs_one s k n]
    by_cases a : s < n
    · rw [if_pos a, if_neg (by omega), if_pos (by omega)]; omega
    · by_cases b : n = s
      · rw [if_neg a, if_pos b, if_pos (by omega)]; omega
      · rw [if_neg a, if_neg b, if_neg (by omega)]; rfl
theorem zs_swap (f : Nat → Nat → Int) (m : Nat) : ∀ n, zs (fun x => zs (fun y => f x y) m) n = zs (fun y => zs (fun x => f x y) n) m
  | 0 => (zs_0 m).symm
  | n + 1 => by
    rw [zs, zs_swap f m n, ← zs_add]
    exact zs_cong fun k _ => rfl
theorem zs_anti {f : Nat → Nat → Int} {n : Nat} (h : ∀ x y, x < n → y < n → f x y = - f y x) : zs (fun x => zs (fun y => f x y) n) n = 0 := by
  have a := zs_swap f n n
  have b : zs (fun y => zs (fun x => f x y) n) n = - zs (fun y => zs (fun x => f y x) n) n := by
    rw [← zs_neg]
    refine zs_cong fun y hy => ?_
    rw [← zs_neg]
    exact zs_cong fun x hx => h x y hx hy
  rw [b] at a
  omega
/-- what may still flow: R; c at the start; e: what goes out of each place -/
def FL (c R : Nat → Nat → Nat) (e : Nat → Int) : Prop := (∀ x y, x < 60 → y < 60 → R x y + R y x = c x y + c y x) ∧ ∀ x, x < 60 → zs (fun y => (c x y : Int) - R x y) 60 = e x
def net (s t : Nat) (n : Int) : Nat → Int := fun x => (if x = s then n else 0) - (if x = t then n else 0)
theorem fl_cut {c R : Nat → Nat → Nat} {s t : Nat} {n : Int} {A : Nat → Bool} (h : FL c R (net s t n)) (hs : s < 60) (hA : A s = true) (hB : A t = false) : n = zs (fun x => zs (fun y => if A x && !A y then (c x y : Int) - R x y else 0) 60) 60 := by
  have h1 : zs (fun x => if A x then net s t n x else 0) 60 = n := by
    have e : zs (fun x => if A x then net s t n x else 0) 60 = zs (fun x => if x = s then n else 0) 60 := by
      refine zs_cong fun x _ => ?_
      unfold net
      by_cases a : x = s
      · have ht : ¬ x = t := fun z => by rw [← a, z, hB] at hA; cases hA
        rw [if_pos a, if_neg ht, if_pos (by rw [a]; exact hA)]; omega
      · by_cases b : x = t
        · rw [if_neg (by rw [b, hB]; decide), if_neg a]
        · rw [if_neg a, if_neg b]; split <;> rfl
    rw [e, zs_one, if_pos hs]
  have h2 : zs (fun x => zs (fun y => if A x && A y then (c x y : Int) - R x y else 0) 60) 60 = 0 := by
    refine zs_anti fun x y hx hy => ?_
    have := h.1 x y hx hy
    by_cases a : A x = true
    · by_cases b : A y = true
      · rw [a, b, if_pos (show (true && true) = true from rfl), if_pos (show (true && true) = true from rfl)]; omega
      · rw [Bool.not_eq_true] at b
        rw [a, b, if_neg (by decide), if_neg (by decide)]; rfl
    · rw [Bool.not_eq_true] at a
      rw [a, if_neg (by rw [Bool.false_and]; decide), if_neg (by rw [Bool.and_false]; decide)]; rfl
  rw [← h1]
  have h3 : zs (fun x => if A x then net s t n x else 0) 60 = zs (fun x => zs (fun y => if A x && A y then (c x y : Int) - R x y else 0) 60 + zs (fun y => if A x && !A y then (c x y : Int) - R x y else 0) 60) 60 := by
    refine zs_cong fun x hx => ?_
    rw [← zs_add]
    by_cases a : A x = true
    · rw [if_pos a, ← h.2 x hx]
      refine zs_cong fun y _ => ?_
      rw [a]
      cases A y with
      | false => rw [if_neg (by decide), if_pos (by decide)]; omega
      | true => rw [if_pos (by decide), if_neg (by decide)]; omega
    · rw [if_neg a]
      rw [Bool.not_eq_true] at a
      rw [a, ← zs_0 60]
      exact zs_cong fun y _ => rfl
  rw [h3, zs_add, h2]
  omega
/-- no flow is more than one that a closed set stops -/
theorem fl_le {c R R' : Nat → Nat → Nat} {s t : Nat} {n m : Int} {A : Nat → Bool} (h : FL c R (net s t n)) (h' : FL c R' (net s t m)) (hs : s < 60) (hA : A s = true) (hB : A t = false) (hc : ∀ x y, x < 60 → y < 60 → A x = true → R x y ≠ 0 → A y = true) : m ≤ n := by
  rw [fl_cut h hs hA hB, fl_cut h' hs hA hB]
  refine zs_le fun x hx => zs_le fun y hy => ?_
  by_cases a : (A x && !A y) = true
  · rw [if_pos a, if_pos a]
    have : R x y = 0 := by
      rcases Nat.eq_zero_or_pos (R x y) with z | z
      · exact z
      · rw [Bool.and_eq_true] at a
        rw [hc x y hx hy a.1 (by omega)] at a
        exact absurd a.2 (by decide)
    omega
  · rw [if_neg a, if_neg a]
    exact Int.le_refl _
/-- no flow is more than what goes out of its start -/
theorem fl_out {c R : Nat → Nat → Nat} {s t : Nat} {n : Int} (h : FL c R (net s t n)) (hs : s < 60) (hst : s ≠ t) : n ≤ zs (fun y => (c s y : Int)) 60 := by
  have := h.2 s hs
  have e : net s t n s = n := by unfold net; rw [if_pos rfl, if_neg hst]; omega
  rw [e] at this
  rw [← this]
  exact zs_le fun y _ => by omega
def adR (R : Nat → Nat → Nat) (x y : Nat) : Nat → Nat → Nat := fun a b => if a = x ∧ b = y then R a b - 1 else if a = y ∧ b = x then R a b + 1 else R a b
theorem FL.ad {c R : Nat → Nat → Nat} {e : Nat → Int} {x y : Nat} (h : FL c R e) (hx : x < 60) (hy : y < 60) (hxy : x ≠ y) (hR : 1 ≤ R x y) : FL c (adR R x y) (fun a => e a + (if a = x then 1 else 0) - (if a = y then 1 else 0)) := by
  refine ⟨fun a b ha hb => ?_, fun a ha => ?_⟩
  · have := h.1 a b ha hb
    unfold adR
    by_cases g1 : a = x ∧ b = y
    · obtain ⟨rfl, rfl⟩ := g1
      rw [if_pos ⟨rfl, rfl⟩, if_neg (by omega), if_pos ⟨rfl, rfl⟩]; omega
    · by_cases g2 : a = y ∧ b = x
      · obtain ⟨rfl, rfl⟩ := g2
        rw [if_neg (by omega), if_pos ⟨rfl, rfl⟩, if_pos ⟨rfl, rfl⟩]; omega
      · rw [if_neg g1, if_neg g2, if_neg (by omega), if_neg (by omega)]; exact this
  · have e1 : zs (fun b => (c a b : Int) - adR R x y a b) 60 = zs (fun b => ((c a b : Int) - R a b) + ((if b = y then (if a = x then 1 else 0) else 0) + (if b = x then (if a = y then -1 else 0) else 0))) 60 := by
      refine zs_cong fun b hb => ?_
      unfold adR
      by_cases g1 : a = x
      · subst g1
        by_cases g2 : b = y
        · subst g2
          rw [if_pos ⟨rfl, rfl⟩, if_pos rfl, if_pos rfl, if_neg (fun z => hxy z.symm)]; omega
        · rw [if_neg (by omega), if_neg (by omega), if_neg g2, if_neg hxy]
          split <;> omega
      · by_cases g2 : a = y
        · subst g2
          by_cases g3 : b = x
          · subst g3
            rw [if_neg (by omega), if_pos ⟨rfl, rfl⟩, if_neg hxy, if_pos rfl, if_pos rfl]; omega
          · rw [if_neg (by omega), if_neg (by omega), if_neg g3, if_neg g1]
            split <;> omega
        · rw [if_neg (by omega), if_neg (by omega), if_neg g1, if_neg g2]
          split <;> split <;> omega
    rw [e1, zs_add, zs_add, zs_one, zs_one, if_pos hy, if_pos hx, h.2 a ha]
    dsimp only
    by_cases g1 : a = x
    · rw [if_pos g1, if_neg (by omega), if_neg (by omega)]; omega
    · rw [if_neg g1]; split <;> omega
