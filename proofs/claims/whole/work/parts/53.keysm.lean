def tdT (T : Nat → Nat) : Nat → Nat → Nat → Nat
  | 0 => fun _ _ => 0
  | j + 1 => fun key g => if T j / 100 = key ∧ T j / 10 % 10 = g then tdT T j key g ||| (if T j % 10 = 1 then 2 else 1) else tdT T j key g
theorem tdT_s (T : Nat → Nat) (j key g : Nat) : tdT T (j + 1) key g = if T j / 100 = key ∧ T j / 10 % 10 = g then tdT T j key g ||| (if T j % 10 = 1 then 2 else 1) else tdT T j key g := rfl
theorem or12 : ∀ x, x < 4 → ((x ||| 1) < 4 ∧ (x ||| 1) % 2 = 1 ∧ ((x ||| 1) ≤ 1 ↔ x ≤ 1)) ∧ ((x ||| 2) < 4 ∧ (x ||| 2) % 2 = x % 2 ∧ 1 < (x ||| 2)) := by decide
theorem tdT_lt (T : Nat → Nat) : ∀ j key g, tdT T j key g < 4
  | 0, _, _ => by show 0 < 4; decide
  | j + 1, key, g => by
    have ih := tdT_lt T j key g
    rw [tdT_s]
    split
    · split
      · exact (or12 _ ih).2.1
      · exact (or12 _ ih).1.1
    · exact ih
theorem cn_td {G : Nat} {T : Nat → Nat} (hG : G ≤ 6) : ∀ j, (∀ i, i < j → okT G (T i)) → ∀ key g, g < 6 → (cnT T j key g = true ↔ tdT T j key g % 2 = 0 ∧ ∀ k, k < 6 → k ≠ g → tdT T j key k ≤ 1)
  | 0, _, key, g, _ => ⟨fun _ => ⟨rfl, fun _ _ _ => Nat.zero_le _⟩, fun _ => rfl⟩
  | j + 1, hT, key, g, hg => by
    have ih := cn_td hG j (fun i hi => hT i (by omega)) key g hg
    obtain ⟨o1, o2, o3⟩ := hT j (by omega)
    rw [cnT_s]
    by_cases ek : T j / 100 = key
    · rw [decide_eq_true ek, Bool.true_and]
      have td : ∀ k, tdT T (j + 1) key k = if T j / 10 % 10 = k then tdT T j key k ||| (if T j % 10 = 1 then 2 else 1) else tdT T j key k := fun k => by
        rw [tdT_s]
        by_cases e : T j / 10 % 10 = k
        · rw [if_pos ⟨ek, e⟩, if_pos e]
        · rw [if_neg (fun z => e z.2), if_neg e]
      have q := fun k => or12 _ (tdT_lt T j key k)
      by_cases f : T j % 10 = 1
      · rw [decide_eq_false (show ¬ T j % 10 = 0 by omega)]
        by_cases eg : g = T j / 10 % 10
        · rw [decide_eq_true eg, td g, if_pos eg.symm, if_pos f, (q g).2.2.1]
          simp only [Bool.and_true, Bool.not_false, show (true == false) = false from rfl]
          rw [ih]
          refine and_congr_right fun _ => ⟨fun h k h1 h2 => ?_, fun h k h1 h2 => ?_⟩
          · rw [td k, if_neg (by omega)]; exact h k h1 h2
          · have := h k h1 h2
            rw [td k, if_neg (by omega)] at this
            exact this
        · rw [decide_eq_false eg]
          simp only [Bool.and_false, Bool.not_true, show (false == false) = true from rfl]
          refine ⟨fun z => (by cases z), fun h => ?_⟩
          have := h.2 (T j / 10 % 10) (by omega) (Ne.symm eg)
          rw [td, if_pos rfl, if_pos f] at this
          have := (q (T j / 10 % 10)).2.2.2
          omega
      · rw [decide_eq_true (show T j % 10 = 0 by omega)]
        by_cases eg : g = T j / 10 % 10
        · rw [decide_eq_true eg, td g, if_pos eg.symm, if_neg f, (q g).1.2.1]
          simp
        · rw [decide_eq_false eg, td g, if_neg (Ne.symm eg)]
          simp only [Bool.and_true, Bool.not_false, show (false == true) = false from rfl]
          rw [ih]
          refine and_congr_right fun _ => ⟨fun h k h1 h2 => ?_, fun h k h1 h2 => ?_⟩
          · rw [td k]
            by_cases e : T j / 10 % 10 = k
            · rw [if_pos e, if_neg f, (q k).1.2.2]; exact h k h1 h2
            · rw [if_neg e]; exact h k h1 h2
          · have := h k h1 h2
            rw [td k] at this
            by_cases e : T j / 10 % 10 = k
            · rw [if_pos e, if_neg f, (q k).1.2.2] at this; exact this
            · rw [if_neg e] at this; exact this
    · have td : ∀ k, tdT T (j + 1) key k = tdT T j key k := fun k => by rw [tdT_s, if_neg (fun z => ek z.1)]
      rw [decide_eq_false ek]
      simp only [Bool.false_and, Bool.not_false, Bool.and_true, td]
      exact ih
section F3
variable {N : Nat} {C S M : Mem} {G : Nat} {cn : Nat → Nat → Bool}
/-- the model's row tried tells cn -/
def TdR (M : Mem) (cn : Nat → Nat → Bool) : Prop := ∃ td : Nat → Nat → Nat, (∀ key k, key < 6 → k < 6 → M.1 216 (6 * key + k) = nI (td key k) ∧ td key k < 4) ∧ ∀ key g, key < 6 → g < 6 → (cn key g = true ↔ td key g % 2 = 0 ∧ ∀ k, k < 6 → k ≠ g → td key k ≤ 1)
theorem m_fit {key g : Nat} (hN : 300 < N) (hk : key < 6) (hg : g < 6) (h : TdR M cn) : f_X12_canFit N (nI key) (nI g) M = some (cn key g, M) := by
  obtain ⟨td, h1, h2⟩ := h
  have e := h1 key g hk hg
  have c := h2 key g hk hg
  unfold f_X12_canFit
  rw [n_lmul, nI_add, ck_n (by omega), t_n (by omega), e.1, n_and1]
  by_cases z : td key g % 2 = 1
  · rw [if_pos (by rw [z]; rfl)]
    cases q : cn key g with
    | false => rfl
    | true => have := (c.mp q).1; omega
  · rw [if_neg (by rw [n_eql (by omega)]; exact z)]
    apply Ho_e
    refine Ho_lp (fun i a M' => a = (nI key, nI g, nI i) ∧ M = M' ∧ ∀ k, k < i → k ≠ g → td key k ≤ 1) 6 (by omega) ⟨rfl, rfl, fun k hk => absurd hk (Nat.not_lt_zero k)⟩ ?_
    rintro i hi k21 hk21 _ _ ⟨rfl, rfl, q⟩
    unfold f_X12_canFit_h21 f_X12_canFit_b49
    dsimp only
    by_cases gi : 6 ≤ i
    · have ei : i = 6 := by omega
      subst ei
      rw [if_pos (by rw [n_lle (by omega)]; exact gi), Ho_some, c.mpr ⟨by omega, q⟩]
    · rw [if_neg (by rw [n_lle (by omega)]; exact gi), n_addl]
      by_cases eg : i = g
      · rw [if_pos (by rw [eg])]
        exact hk21 (by omega) _ _ ⟨rfl, rfl, fun k h1 h2 => q k (by omega) h2⟩
      · have ei := h1 key i hk (by omega)
        rw [if_neg (by rw [n_eq (by omega)]; exact eg), n_lmul, nI_add, ck_n (by omega), t_n (by omega), ei.1]
        by_cases g1 : td key i ≤ 1
        · rw [if_pos (by rw [n_lel (by omega)]; exact g1)]
          refine hk21 (by omega) _ _ ⟨rfl, rfl, fun k h1 h2 => ?_⟩
          by_cases e : k = i
          · rw [e]; exact g1
          · exact q k (by omega) h2
        · rw [if_neg (by rw [n_lel (by omega)]; exact g1), Ho_some]
          cases q' : cn key g with
          | false => rfl
          | true => exact absurd ((c.mp q').2 i (by omega) eg) g1
def lfK (G s : Nat) : Nat := tfS (fun i => !s.testBit i) G
theorem m_from (hN : 300 < N) (hG : G ≤ 6) : ∀ (d key s D : Nat) (M : Mem) (γ : Nat → Nat), key + d = G → pop s = key → s < 2 ^ G → d < D → TdR M cn → M.1 205 2 = nI G → (∀ k, k < key → M.1 218 k = nI (γ k) ∧ γ k < G) → Ho (f_X12_waysFrom N D (nI key) (nI (lfK G s)) M) (fun q => q.1 = nI (rwS G cn s) ∧ Sm [217, 218] M q.2 ∧ (∀ k, k < key → q.2.1 218 k = M.1 218 k) ∧ ∀ k x, k < G → x < G → q.2.1 217 (6 * k + x) = M.1 217 (6 * k + x) + nI (if k < key then (if γ k = x then rwS G cn s else 0) else cyS G cn k x s)) := by
  have p64 := pow_le64 hG
  intro d
  induction d with
  | zero =>
    intro key s D M γ hd hp hs hD ht h2 hg
    obtain ⟨D, rfl⟩ : ∃ E, D = E + 1 := ⟨D - 1, by omega⟩
    have ek : key = G := by omega
    subst ek
    have r1 : rwS key cn s = 1 := by
      unfold rwS
      rw [hp, Nat.sub_self]
      rfl
    show Ho (g_X12_waysFrom N (f_X12_waysFrom N D) (nI key) (nI (lfK key s)) M) _
    unfold g_X12_waysFrom
    rw [ck_l (by omega), show tn 2 = 2 from rfl, h2, if_pos rfl, r1]
    refine Ho_lp (fun i a M' => a = (nI key, nI i) ∧ Sm [217] M M' ∧ ∀ k x, k < key → x < key → M'.1 217 (6 * k + x) = M.1 217 (6 * k + x) + nI (if k < i ∧ γ k = x then 1 else 0)) key (by omega) ⟨rfl, Sm.rf, fun k x _ _ => ?_⟩ ?_
    · rw [if_neg (by omega), show nI 0 = 0 from rfl, Int32.add_zero]
    rintro i hi k12 hk12 _ M1 ⟨rfl, s1, q1⟩
    unfold f_X12_waysFrom_h12
    dsimp only
    by_cases gi : key ≤ i
    · have ei : i = key := by omega
      rw [if_pos (by rw [n_le (by omega)]; exact gi), Ho_some]
      refine ⟨rfl, s1.mono (by simp), fun k _ => by rw [s1.2 218 (by simp)], fun k x h1 h2 => ?_⟩
      rw [q1 k x h1 h2, if_pos h1]
      by_cases e : γ k = x
      · rw [if_pos ⟨by omega, e⟩, if_pos e]
      · rw [if_neg (fun z => e z.2), if_neg e]
    · obtain ⟨g1, g2⟩ := hg i (by omega)
      rw [if_neg (by rw [n_le (by omega)]; exact gi), ck_n (by omega), t_n (by omega), s1.2 218 (by simp), g1, n_lmul, nI_add, ck_n (by omega), ck_n (by omega), t_n (by omega), bM_e, q1 i (γ i) (by omega) g2, n_addl, if_neg (by omega), show nI 0 = 0 from rfl, Int32.add_zero]
      refine hk12 (by omega) _ _ ⟨rfl, s1.uI (by simp), fun k x h1 h2 => ?_⟩
      rw [us_same, g_upd]
      by_cases e : 6 * k + x = 6 * i + γ i
      · have e1 : k = i := by omega
        have e2 : x = γ i := by omega
        rw [if_pos e, e1, e2, if_pos ⟨by omega, rfl⟩]
        rfl
      · rw [if_neg e, q1 k x h1 h2]
        congr 2
        by_cases z : k < i ∧ γ k = x
        · rw [if_pos z, if_pos ⟨by omega, z.2⟩]
        · rw [if_neg z, if_neg]
          rintro ⟨z1, z2⟩
          have : k = i := by omega
          subst this
          omega
  | succ d ih =>
    intro key s D M γ hd hp hs hD ht h2 hg
    obtain ⟨D, rfl⟩ : ∃ E, D = E + 1 := ⟨D - 1, by omega⟩
    show Ho (g_X12_waysFrom N (f_X12_waysFrom N D) (nI key) (nI (lfK G s)) M) _
    unfold g_X12_waysFrom
    rw [ck_l (by omega), show tn 2 = 2 from rfl, h2, if_neg (by rw [n_eq (by omega)]; omega)]
    have ll : lfK G s < 64 := Nat.lt_of_lt_of_le (tf_lt _ G) p64
    have rs := rwS_s (cn := cn) hG (show s < 64 by omega) (show pop s < G by omega)
    refine Ho_lp (fun i a M' => a = (nI key, nI (lfK G s), nI (sEK G cn s (fun j => rwS G cn (s ||| 2 ^ j)) i), nI i) ∧ Sm [217, 218] M M' ∧ (∀ k, k < key → M'.1 218 k = M.1 218 k) ∧ ∀ k x, k < G → x < G → M'.1 217 (6 * k + x) = M.1 217 (6 * k + x) + nI (if k < key then (if γ k = x then sEK G cn s (fun j => rwS G cn (s ||| 2 ^ j)) i else 0) else if k = key then (if x < i ∧ cfK G cn s x = true then rwS G cn (s ||| 2 ^ x) else 0) else sEK G cn s (fun j => cyS G cn k x (s ||| 2 ^ j)) i)) G (by omega) ⟨rfl, Sm.rf, fun _ _ => rfl, fun k x _ _ => ?_⟩ ?_
    · have : (if k < key then (if γ k = x then sEK G cn s (fun j => rwS G cn (s ||| 2 ^ j)) 0 else 0) else if k = key then (if x < 0 ∧ cfK G cn s x = true then rwS G cn (s ||| 2 ^ x) else 0) else sEK G cn s (fun j => cyS G cn k x (s ||| 2 ^ j)) 0) = 0 := by
        split
        · split <;> rfl
        · split
          · rw [if_neg (by omega)]
          · rfl
      rw [this, show nI 0 = 0 from rfl, Int32.add_zero]
    rintro i hi k50 hk50 _ M1 ⟨rfl, s1, o1, q1⟩
    have t1 : TdR M1 cn := by
      obtain ⟨td, a1, a2⟩ := ht
      exact ⟨td, fun key k b1 b2 => by rw [s1.2 216 (by simp)]; exact a1 key k b1 b2, a2⟩
    have h21 : M1.1 205 2 = nI G := by rw [s1.2 205 (by simp)]; exact h2
    unfold f_X12_waysFrom_h50 f_X12_waysFrom_b109
    dsimp only
    rw [ck_l (by omega), show tn 2 = 2 from rfl, h21]
    by_cases gi : G ≤ i
    · have ei : i = G := by omega
      subst ei
      rw [if_pos (by rw [n_le (by omega)]; exact gi), Ho_some]
      refine ⟨by rw [rs], s1, o1, fun k x h1 h2 => ?_⟩
      rw [q1 k x h1 h2]
      congr 2
      by_cases c1 : k < key
      · rw [if_pos c1, if_pos c1, ← rs]
      · rw [if_neg c1, if_neg c1]
        by_cases c2 : k = key
        · rw [if_pos c2, cyS_0 (by omega)]
          by_cases c3 : cfK i cn s x = true
          · rw [if_pos ⟨h2, c3⟩, if_pos c3]
          · rw [if_neg (fun z => c3 z.2), if_neg c3]
        · rw [if_neg c2, cyS_s hG (by omega) (by omega)]
    · rw [if_neg (by rw [n_le (by omega)]; exact gi), cm_has (by omega), bi_s, n_addl]
      have lb : (lfK G s).testBit i = !s.testBit i := by
        unfold lfK
        rw [tf_bit]
        simp [show i < G by omega]
      rw [lb]
      simp only [b2i_0]
      have skip : cfK G cn s i = false → Ho (k50 (nI key, nI (lfK G s), nI (sEK G cn s (fun j => rwS G cn (s ||| 2 ^ j)) i), nI (i + 1)) M1) (fun q => q.1 = nI (rwS G cn s) ∧ Sm [217, 218] M q.2 ∧ (∀ k, k < key → q.2.1 218 k = M.1 218 k) ∧ ∀ k x, k < G → x < G → q.2.1 217 (6 * k + x) = M.1 217 (6 * k + x) + nI (if k < key then (if γ k = x then rwS G cn s else 0) else cyS G cn k x s)) := fun cf => by
        refine hk50 (by omega) _ _ ⟨?_, s1, o1, fun k x h1 h2 => ?_⟩
        · rw [sEK_s, cf]; rfl
        · rw [q1 k x h1 h2, sEK_s, sEK_s, cf]
          congr 2
          by_cases c1 : k < key
          · rw [if_pos c1, if_pos c1]; rfl
          · rw [if_neg c1, if_neg c1]
            by_cases c2 : k = key
            · rw [if_pos c2, if_pos c2]
              by_cases c3 : x < i ∧ cfK G cn s x = true
              · rw [if_pos c3, if_pos ⟨by omega, c3.2⟩]
              · rw [if_neg c3, if_neg]
                rintro ⟨z1, z2⟩
                by_cases e : x = i
                · rw [e, cf] at z2; cases z2
                · exact c3 ⟨by omega, z2⟩
            · rw [if_neg c2, if_neg c2]; rfl
      cases sb : s.testBit i with
      | true =>
        rw [if_pos (by rfl)]
        refine skip ?_
        unfold cfK
        rw [sb]
        simp
      | false =>
        rw [if_neg (by decide), m_fit hN (by omega) (by omega) t1, bi_s]
        cases cc : cn key i with
        | false =>
          rw [if_pos rfl]
          refine skip ?_
          unfold cfK
          rw [hp, cc]
          simp
        | true =>
          have cf : cfK G cn s i = true := by
            unfold cfK
            rw [hp, cc, sb, decide_eq_true (by omega)]
            rfl
          rw [if_neg (by decide), ck_n (by omega), t_n (by omega), bM_e, n_addl, n_shl1 (by omega)]
          have el : nI (lfK G s) &&& (nI (2 ^ i) ^^^ (-1)) = nI (lfK G (s ||| 2 ^ i)) := by
            unfold lfK
            rw [tf_drop _ (by omega)]
            congr 1
            refine tf_cong fun k hk => ?_
            rw [fb_bit_set]
            by_cases e : k = i
            · subst e; simp
            · simp [e]
          rw [el, Ho_bi]
          have t1' : TdR (uI M1 218 key (nI i)) cn := by
            obtain ⟨td, a1, a2⟩ := t1
            exact ⟨td, fun key k b1 b2 => by rw [u_ne (by decide)]; exact a1 key k b1 b2, a2⟩
          have po := pop_or s (by omega) i (by omega) sb
          refine Ho_mono (ih (key + 1) (s ||| 2 ^ i) D (uI M1 218 key (nI i)) (fun k => if k = key then i else γ k) (by omega) (by omega) (or_ltG hs (by omega)) (by omega) t1' (by rw [u_ne (by decide)]; exact h21) (fun k hk => ?_)) ?_
          · by_cases e : k = key
            · subst e
              rw [u_at, if_pos rfl]
              exact ⟨rfl, by omega⟩
            · rw [us_same, g_upd, if_neg e, if_neg e, o1 k (by omega)]
              exact hg k (by omega)
          · rintro ⟨r, M2⟩ ⟨e2, s2, o2, q2⟩
            dsimp only at e2 s2 o2 q2 ⊢
            rw [e2, nI_add]
            refine hk50 (by omega) _ _ ⟨by rw [sEK_s, if_pos cf], (s1.uI (by simp)).tr s2, fun k hk => ?_, fun k x h1 h2 => ?_⟩
            · rw [o2 k (by omega), us_same, g_upd, if_neg (by omega)]; exact o1 k hk
            · rw [q2 k x h1 h2, u_ne (by decide), q1 k x h1 h2, sEK_s, sEK_s, if_pos cf, Int32.add_assoc, nI_add]
              congr 2
              by_cases c1 : k < key
              · rw [if_pos c1, if_pos (show k < key + 1 by omega), if_neg (show ¬ k = key by omega), if_pos c1]
                by_cases c4 : γ k = x
                · rw [if_pos c4, if_pos c4, if_pos c4]
                · rw [if_neg c4, if_neg c4, if_neg c4]
              · rw [if_neg c1, if_neg c1]
                by_cases c2 : k = key
                · rw [if_pos c2, if_pos c2, if_pos (show k < key + 1 by omega), if_pos c2]
                  by_cases c5 : i = x
                  · rw [if_pos c5, if_neg (by omega), if_pos ⟨by omega, by rw [← c5]; exact cf⟩, c5]
                    omega
                  · rw [if_neg c5, Nat.add_zero]
                    by_cases c3 : x < i ∧ cfK G cn s x = true
                    · rw [if_pos c3, if_pos ⟨by omega, c3.2⟩]
                    · rw [if_neg c3, if_neg (fun z => c3 ⟨by omega, z.2⟩)]
                · rw [if_neg c2, if_neg c2, if_neg (show ¬ k < key + 1 by omega), if_neg c2, if_pos cf]
theorem m_waysBy {v : Nat → Nat} {t n : Nat} (hN : 300 < N) (hv : VV v) (hA : Ar S 205 435 v) (ht : t < 4) (hn : n ≤ 60) (hT : ∀ i, i < n → vT (v 2) (S.2 203 (60 * t + i))) : Ho (f_X12_waysBy N (nI t) (nI n) S) (fun q => q.1 = nI (rwS (v 2) (cnT (fun i => uT (S.2 203 (60 * t + i))) n) 0) ∧ Sm [216, 217, 218] S q.2 ∧ ∀ k x, k < v 2 → x < v 2 → q.2.1 217 (6 * k + x) = nI (cyS (v 2) (cnT (fun i => uT (S.2 203 (60 * t + i))) n) k x 0)) := by
  have v2 := hv.1.2.2.1
  have p64 := pow_le64 v2
  generalize hTT : (fun i => uT (S.2 203 (60 * t + i))) = T
  have hT' : ∀ i, i < n → S.2 203 (60 * t + i) = lN (T i) ∧ okT (v 2) (T i) := fun i hi => by
    have := hT i hi
    rw [← hTT]
    exact ⟨(uT_l this.1).1, this.2⟩
  unfold f_X12_waysBy
  rw [Ho_bv]
  have L : Ho (f_X12_laysTries N (nI t) (nI n) S) (fun S' => Sm [216] S S' ∧ ∀ key k, key < 6 → k < 6 → S'.1 216 (6 * key + k) = nI (tdT T n key k)) := by
    unfold f_X12_laysTries
    refine Ho_lp (fun i a S' => a = (nI t, nI n, nI i) ∧ Sm [216] S S' ∧ ∀ k, k < i → S'.1 216 k = 0) 36 (by omega) ⟨rfl, Sm.rf, fun k hk => absurd hk (Nat.not_lt_zero k)⟩ ?_
    rintro i hi k2 hk2 _ S1 ⟨rfl, s1, q1⟩
    unfold f_X12_laysTries_h2
    dsimp only
    by_cases gi : 36 ≤ i
    · have ei : i = 36 := by omega
      subst ei
      rw [if_pos (by rw [n_lle (by omega)]; exact gi)]
      refine Ho_lp (fun j a S' => a = (nI t, nI n, nI j) ∧ Sm [216] S S' ∧ ∀ key k, key < 6 → k < 6 → S'.1 216 (6 * key + k) = nI (tdT T j key k)) n (by omega) ⟨rfl, s1, fun key k h1 h2 => q1 _ (by omega)⟩ ?_
      rintro j hj k23 hk23 _ S2 ⟨rfl, s2, q2⟩
      unfold f_X12_laysTries_h23 f_X12_laysTries_b74 f_X12_numberOf
      dsimp only
      by_cases gj : n ≤ j
      · have ej : j = n := by omega
        subst ej
        rw [if_pos (by rw [n_le (by omega)]; exact gj), Ho_some]
        exact ⟨s2, q2⟩
      · obtain ⟨ex, o1, o2, o3⟩ := hT' j (by omega)
        have lu : T j < 600 := by omega
        rw [if_neg (by rw [n_le (by omega)]; exact gj), n_lmul, nI_add, ck_n (by omega), t_n (by omega), bi_s, s2.1, ex, l_i (by omega), dg1 (by omega), dg0 (by omega), dg2 (by omega), n_lmul, nI_add, n_addl]
        have ck36 : 6 * (T j / 100) + T j / 10 % 10 < 36 := by omega
        rw [ck_n (j := 6 * (T j / 100) + T j / 10 % 10) (by omega), ck_n (j := 6 * (T j / 100) + T j / 10 % 10) (by omega), ck_n (j := 6 * (T j / 100) + T j / 10 % 10) (by omega), t_n (j := 6 * (T j / 100) + T j / 10 % 10) (by omega), q2 (T j / 100) (T j / 10 % 10) (by omega) (by omega)]
        simp only [bM_e]
        have step : ∀ y, y = (if T j % 10 = 1 then 2 else 1) → Ho (k23 (nI t, nI n, nI (j + 1)) (uI S2 216 (6 * (T j / 100) + T j / 10 % 10) (nI (tdT T j (T j / 100) (T j / 10 % 10)) ||| nI y))) (fun S' => Sm [216] S S' ∧ ∀ key k, key < 6 → k < 6 → S'.1 216 (6 * key + k) = nI (tdT T n key k)) := fun y hy => by
          refine hk23 (by omega) _ _ ⟨rfl, s2.uI (by simp), fun key k h1 h2 => ?_⟩
          rw [us_same, g_upd, tdT_s]
          by_cases e : 6 * key + k = 6 * (T j / 100) + T j / 10 % 10
          · have e1 : key = T j / 100 := by omega
            have e2 : k = T j / 10 % 10 := by omega
            rw [if_pos e, if_pos ⟨e1.symm, e2.symm⟩, fa_or, hy, e1, e2]
          · rw [if_neg e, if_neg (by omega)]
            exact q2 key k h1 h2
        by_cases f : T j % 10 = 1
        · rw [if_pos (by rw [f]; rfl)]
          exact step 2 (by rw [if_pos f])
        · rw [if_neg (by rw [n_eql (by omega)]; exact f)]
          exact step 1 (by rw [if_neg f])
    · rw [if_neg (by rw [n_lle (by omega)]; exact gi), ck_n (by omega), t_n (by omega), bM_e, n_addl]
      refine hk2 (by omega) _ _ ⟨rfl, s1.uI (by simp), fun k hk => ?_⟩
      rw [us_same, g_upd]
      by_cases e : k = i
      · rw [if_pos e]
      · rw [if_neg e]; exact q1 k (by omega)
  refine Ho_mono L ?_
  rintro S1 ⟨s1, q1⟩
  refine Ho_lp (fun i a S' => a = nI i ∧ Sm [216, 217, 218] S S' ∧ S'.1 216 = S1.1 216 ∧ ∀ k, k < i → S'.1 217 k = 0) 36 (by omega) ⟨rfl, s1.mono (by simp), rfl, fun k hk => absurd hk (Nat.not_lt_zero k)⟩ ?_
  rintro i hi k8 hk8 _ S2 ⟨rfl, s2, e2, q2⟩
  unfold f_X12_waysBy_h8
  by_cases gi : 36 ≤ i
  · have ei : i = 36 := by omega
    subst ei
    have a2 : S2.1 205 2 = nI (v 2) := by rw [s2.2 205 (by simp)]; exact hA 2 (by omega)
    rw [if_pos (by rw [n_lle (by omega)]; exact gi), ck_l (by omega), show tn 2 = 2 from rfl, a2, n_shl1 (by omega), n_subl (pow_ge1 _)]
    have el : 2 ^ v 2 - 1 = lfK (v 2) 0 := by
      unfold lfK
      rw [← tf_all]
      exact tf_cong fun k _ => by simp
    have tr : TdR S2 (cnT T n) := ⟨tdT T n, fun key k h1 h2 => ⟨by rw [e2]; exact q1 key k h1 h2, tdT_lt T n key k⟩, fun key g h1 h2 => cn_td v2 n (fun i hi => (hT' i hi).2) key g h2⟩
    rw [el, Ho_bi]
    refine Ho_mono (m_from hN v2 (v 2) 0 0 8 S2 (fun _ => 0) (by omega) rfl (Nat.two_pow_pos _) (by omega) tr a2 (fun k hk => absurd hk (Nat.not_lt_zero k))) ?_
    rintro ⟨r, S3⟩ ⟨e3, s3, -, q3⟩
    dsimp only at e3 s3 q3 ⊢
    rw [Ho_some]
    refine ⟨e3, s2.tr (s3.mono (by simp)), fun k x h1 h2 => ?_⟩
    dsimp only
    rw [q3 k x h1 h2, q2 _ (by omega), Int32.zero_add, if_neg (by omega)]
  · rw [if_neg (by rw [n_lle (by omega)]; exact gi), ck_n (by omega), t_n (by omega), bM_e, n_addl]
    refine hk8 (by omega) _ _ ⟨rfl, s2.uI (by simp), by rw [u_ne (by decide)]; exact e2, fun k hk => ?_⟩
    rw [us_same, g_upd]
    by_cases e : k = i
    · rw [if_pos e]
    · rw [if_neg e]; exact q2 k (by omega)
end F3
