/-! the nights run, on both sides -/
section G5
variable {N p L : Nat} {C S : Mem} {v : Nat → Nat}
def KLx (p L : Nat) (C C' : Mem) : Prop := C'.2 = C.2 ∧ (∀ c, c ≠ p → c ≠ p + 6 → c ≠ L → c ≠ L + 1 → c ≠ 91 → c ≠ 92 → C'.1 c = C.1 c) ∧ (∀ k, k ≠ 2 → k ≠ 5 → k ≠ 6 → C'.1 p k = C.1 p k) ∧ C'.1 L 3 = 1
theorem run_both {x : Nat} (hN : 40000 < N) (hp : pL p L) (hv : VV v) (h9 : v 9 ≤ 9999) (hC : PC C p v) (hA : Ar S 205 435 v) (hq : v 163 = 1) (hx : x < 65536) : ∃ C' S' v' st' cut, f_X2_run N L p (nI x) C = some C' ∧ f_X12_runsNights N (nI x) S = some S' ∧ NR C' S' p L v' st' ∧ KLx p L C C' ∧ chN v v' ∧ KM S S' ∧ C'.1 L 9 = b2i cut ∧ S'.1 200 50 = b2i cut := by
  have hp' := hp
  unfold pL at hp'
  unfold f_X2_run f_X12_runsNights
  simp only [bM_e]
  have kc : ∀ c, c ≠ L → (uI (uI (uI (uI (uI (uI (uI (uI C L 2 (nI x)) L 3 1) L 4 0) L 5 0) L 6 0) L 7 0) L 8 0) L 9 0).1 c = C.1 c := fun c hc => by simp only [g_uI, if_neg hc]
  have kl : KL p L (uI (uI C L 2 (nI x)) L 3 1) (uI (uI (uI (uI (uI (uI (uI (uI C L 2 (nI x)) L 3 1) L 4 0) L 5 0) L 6 0) L 7 0) L 8 0) L 9 0) := (((((KL.rf.l hp (by decide)).l hp (by decide)).l hp (by decide)).l hp (by decide)).l hp (by decide)).l hp (by decide)
  have ks : KM S (uI (uI (uI (uI (uI (uI (uI (uI S 200 44 (nI x)) 200 45 0) 200 46 0) 200 47 0) 200 48 0) 200 49 0) 200 50 0) 200 43 0) := (((((((KM.rf.u (by decide)).u (by decide)).u (by decide)).u (by decide)).u (by decide)).u (by decide)).u (by decide)).u (by decide)
  have nr : NR (uI (uI (uI (uI (uI (uI (uI (uI C L 2 (nI x)) L 3 1) L 4 0) L 5 0) L 6 0) L 7 0) L 8 0) L 9 0) (uI (uI (uI (uI (uI (uI (uI (uI S 200 44 (nI x)) 200 45 0) 200 46 0) 200 47 0) 200 48 0) 200 49 0) 200 50 0) 200 43 0) p L v 0 := by
    refine ⟨hv, h9, hC.same fun j hj => kc _ (by omega), fun k hk => ?_, ?_, ?_, by omega, ⟨x, hx, ?_, ?_⟩, ?_, ?_, ?_, ?_⟩
    · simp only [g_uI, if_neg (show ¬ (205 : Nat) = 200 by decide)]; exact hA k hk
    all_goals simp only [g_uI, if_true, g_upd]
    all_goals rfl
  have c9 : (uI (uI (uI (uI (uI (uI (uI (uI C L 2 (nI x)) L 3 1) L 4 0) L 5 0) L 6 0) L 7 0) L 8 0) L 9 0).1 L 9 = 0 := u_at _ _ _ _
  have s43 : (uI (uI (uI (uI (uI (uI (uI (uI S 200 44 (nI x)) 200 45 0) 200 46 0) 200 47 0) 200 48 0) 200 49 0) 200 50 0) 200 43 0).1 200 43 = 0 := u_at _ _ _ _
  have s50 : (uI (uI (uI (uI (uI (uI (uI (uI S 200 44 (nI x)) 200 45 0) 200 46 0) 200 47 0) 200 48 0) 200 49 0) 200 50 0) 200 43 0).1 200 50 = 0 := by simp only [g_uI, if_true, g_upd]; rfl
  generalize uI (uI (uI (uI (uI (uI (uI (uI C L 2 (nI x)) L 3 1) L 4 0) L 5 0) L 6 0) L 7 0) L 8 0) L 9 0 = C0 at *
  generalize uI (uI (uI (uI (uI (uI (uI (uI S 200 44 (nI x)) 200 45 0) 200 46 0) 200 47 0) 200 48 0) 200 49 0) 200 50 0) 200 43 0 = S0 at *
  have klx : ∀ C', KL p L C0 C' → KLx p L C C' := fun C' h => by
    obtain ⟨k1, k2, k3, k4⟩ := kl.tr h
    refine ⟨k1, fun c a b d e f g => (k2 c a b d e f g).trans ?_, fun k a b d => (k3 k a b d).trans ?_, k4.trans (u_at _ _ _ _)⟩
    · rw [u_ne d, u_ne d]
    · rw [u_ne (by omega), u_ne (by omega)]
  obtain ⟨-, -, h164⟩ := nr.2.2.1.2.2.2.2.2.2.2.2.2.2.2.2
  obtain ⟨y30, z, hz, hcz, hsq⟩ := h164 hq
  obtain ⟨S', e', hd⟩ := sim_all (p := p) (L := L) (z := z) (N := N) (by omega) hp hz 3 6 (by decide) C0 S0 v 0 0 (v 164) 0 z nr c9 s43 s50 hcz (Nat.le_refl _) y30 hsq
  have a164 := nr.2.2.2.1 164 (by decide)
  rw [ck_l (by decide), show tn 164 = 164 from rfl, a164, show (0 : Int32) = nI 0 from rfl, e', bv_s]
  rcases hd with ⟨n, C', v', st', rn, hn, -⟩ | ⟨n, st', ⟨C', v', o1, o2, o3, o4, o5, ⟨cut, o6, o6'⟩, o7, o8⟩, hn⟩
  · obtain ⟨r1, r2, r3, r4, r5, r6, r7, r8, r9, r10⟩ := rn
    have st3 := r3.2.2.2.2.2.2.1
    refine ⟨C', S', v', st', false, ?_, rfl, r3, klx C' r4, r5, ks.tr r8, r7, r10⟩
    have e := r2 (N - n - 1 + 1) 0 (by omega)
    rw [show N - n - 1 + 1 + n = N by omega, mv_over (z := z) (by rw [kl_c hp r4 (j := 0) (by omega)]; exact hcz) (by omega)] at e
    exact e
  · have st3 := o3.2.2.2.2.2.2.1
    refine ⟨C', S', v', st', cut, ?_, rfl, o3, klx C' o4, o5, ks.tr o7, o6, o6'⟩
    have e := o2 (N - n - 1) 0 (by omega)
    rw [show N - n - 1 + n + 1 = N by omega] at e
    exact e
end G5
