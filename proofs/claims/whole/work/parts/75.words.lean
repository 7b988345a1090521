section P4
variable {N n : Nat} {C S : Mem} {B : Nat → Nat}
/-- the letters of word z of the class -/
def wL (z : Nat) : List Nat := (chL.getD z []).map fun x => x.toInt.toNat
def wOK (z : Nat) : Bool := (chL.getD z []).all fun x => decide (i2c (x &&& 255) = nI x.toInt.toNat) && decide (x.toInt.toNat < 128)
theorem wOK_all : ((List.range 32).all wOK) = true := by decide +kernel
theorem wL_at {z i : Nat} (hz : z < 32) (hi : i < (chL.getD z []).length) : i2c ((chL.getD z []).getD i 0 &&& 255) = nI ((wL z).getD i 0) ∧ (wL z).getD i 0 < 128 := by
  have h := List.all_eq_true.mp (List.all_eq_true.mp wOK_all z (List.mem_range.mpr hz)) _ (List.getElem_mem hi)
  simp only [Bool.and_eq_true, decide_eq_true_eq] at h
  have e : (wL z).getD i 0 = ((chL.getD z [])[i]).toInt.toNat := by
    unfold wL
    rw [List.getD_eq_getElem?_getD, List.getElem?_map, List.getElem?_eq_getElem hi]
    rfl
  rw [e, List.getD_eq_getElem?_getD, List.getElem?_eq_getElem hi]
  exact h
theorem wL_len (z : Nat) : (wL z).length = (chL.getD z []).length := List.length_map ..
/-- the number of a word -/
def wn (L : List Nat) : Nat := L.foldl (fun s x => s * 32 + (x - 96)) 0
theorem wc_inj {a : Nat} : ∀ (i : Nat) (G : Nat → Nat) (g : Nat), (∀ j, j < i → 97 ≤ B (a + j) ∧ B (a + j) ≤ 122) → (∀ j, j < g → 97 ≤ G j ∧ G j ≤ 122) → wc B a i = wc G 0 g → i = g ∧ ∀ j, j < i → B (a + j) = G j := by
  intro i
  induction i with
  | zero =>
    intro G g h1 h2 h
    cases g with
    | zero => exact ⟨rfl, fun j hj => by omega⟩
    | succ g =>
      have := h2 g (by omega)
      rw [wc, wc, Nat.zero_add] at h
      omega
  | succ i ih =>
    intro G g h1 h2 h
    cases g with
    | zero =>
      have := h1 i (by omega)
      rw [wc, wc] at h
      omega
    | succ g =>
      have q1 := h1 i (by omega)
      have q2 := h2 g (by omega)
      rw [wc, wc, Nat.zero_add] at h
      obtain ⟨e1, e2⟩ := ih G g (fun j hj => h1 j (by omega)) (fun j hj => h2 j (by omega)) (by omega)
      subst e1
      refine ⟨rfl, fun j hj => ?_⟩
      by_cases e : j = i
      · subst e; omega
      · exact e2 j (by omega)
theorem wc_cong {a : Nat} {G : Nat → Nat} : ∀ i, (∀ j, j < i → B (a + j) = G j) → wc B a i = wc G 0 i
  | 0, _ => rfl
  | i + 1, h => by rw [wc, wc, wc_cong i fun j hj => h j (by omega), h i (by omega), Nat.zero_add]
/-- the token's letters are those of word z, from off on -/
def smW (z off : Nat) (B : Nat → Nat) (a m : Nat) : Bool := (List.range m).all fun i => decide (off + i < (wL z).length) && decide ((wL z).getD (off + i) 0 = B (a + i))
theorem smW_is {z off a m : Nat} : smW z off B a m = true ↔ ∀ i, i < m → off + i < (wL z).length ∧ (wL z).getD (off + i) 0 = B (a + i) := by
  unfold smW
  rw [List.all_eq_true]
  constructor
  · intro h i hi
    have := h i (List.mem_range.mpr hi)
    simp only [Bool.and_eq_true, decide_eq_true_eq] at this
    exact this
  · intro h i hi
    simp only [Bool.and_eq_true, decide_eq_true_eq]
    exact h i (List.mem_range.mp hi)
theorem c_same {z off a m : Nat} (hN : 1000 < N) (hz : z < 32) (tx : TxR C S n B) (c3 : C.1 82 3 = nI a) (c4 : C.1 82 4 = nI (a + m)) (ham : a + m ≤ n) (hoff : off < 100000) : f_X8_isSameAt N z (nI off) C = some (smW z off B a m, C) := by
  have n9 := tx.1
  have ll := wL_len z
  have key : Ho (f_X8_isSameAt N z (nI off) C) (fun q => q = (smW z off B a m, C)) := by
    unfold f_X8_isSameAt
    refine Ho_lp (fun i s M => s = (nI off, nI i) ∧ C = M ∧ i ≤ m ∧ ∀ j, j < i → off + j < (wL z).length ∧ (wL z).getD (off + j) 0 = B (a + j)) m (by omega) ⟨rfl, rfl, by omega, fun j hj => by omega⟩ ?_
    rintro i hi k hk _ M1 ⟨rfl, e1, him, hm⟩
    rw [← e1]
    unfold f_X8_isSameAt_h2
    dsimp only
    rw [c3, c4, nI_add, nI_add]
    by_cases g : m ≤ i
    · rw [if_pos (by rw [n_le (by omega)]; omega), Ho_some]
      have : i = m := by omega
      subst this
      rw [smW_is.mpr hm]
    · have no : ¬ (off + i < (wL z).length ∧ (wL z).getD (off + i) 0 = B (a + i)) → smW z off B a m = false := fun h => by
        cases e : smW z off B a m with
        | false => rfl
        | true => exact absurd (smW_is.mp e i (by omega)) h
      rw [if_neg (by rw [n_le (by omega)]; omega)]
      unfold f_J0_length_8abf5 f_J0_charAt_5068e
      rw [bi_s]
      have lz : (chL.getD z []).length < 1000 := by
        have : ((List.range 32).all fun z => decide ((chL.getD z []).length < 1000)) = true := by decide +kernel
        have := List.all_eq_true.mp this z (List.mem_range.mpr hz)
        simpa using this
      have lo : Int32.ofNat (chL.getD z []).length = nI (chL.getD z []).length := by
        have : ((List.range 32).all fun z => decide (Int32.ofNat (chL.getD z []).length = nI (chL.getD z []).length)) = true := by decide +kernel
        have := List.all_eq_true.mp this z (List.mem_range.mpr hz)
        simpa using this
      rw [lo]
      by_cases q : off + i < (chL.getD z []).length
      · rw [if_neg (show ¬ nI (chL.getD z []).length ≤ nI (off + i) by rw [n_le (by omega)]; omega), ck_n (by omega), bi_s, c3, nI_add, ck_n (by omega), t_n (by omega)]
        obtain ⟨w1, w2⟩ := wL_at hz q
        have ec : chA z (nI (off + i)) = nI ((wL z).getD (off + i) 0) := by
          rw [← w1]
          show i2c ((chL.getD z []).getD (tn (nI (off + i))) 0 &&& 255) = _
          rw [t_n (by omega)]
        rw [ec]
        by_cases r : (wL z).getD (off + i) 0 = B (a + i)
        · rw [if_pos (show nI ((wL z).getD (off + i) 0) = C.1 1 (a + i) from ((tx.eq (k := a + i) (by omega) (by omega)).mpr r.symm).symm), n_addl]
          refine hk (by omega) _ _ ⟨rfl, rfl, by omega, fun j hj => ?_⟩
          by_cases e : j = i
          · subst e; exact ⟨by omega, r⟩
          · exact hm j (by omega)
        · rw [if_neg (show ¬ nI ((wL z).getD (off + i) 0) = C.1 1 (a + i) from fun y => r ((tx.eq (k := a + i) (by omega) (by omega)).mp y.symm).symm), Ho_some, no fun y => r y.2]
      · rw [if_pos (show nI (chL.getD z []).length ≤ nI (off + i) by rw [n_le (by omega)]; omega), Ho_some, no fun y => q (by omega)]
  obtain ⟨q, e, rfl⟩ := key
  exact e
end P4
