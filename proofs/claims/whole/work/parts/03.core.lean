/-- types of the fields of each of our objects: 0 an int, 3 a boolean, 1 a long, 2 a reference -/
def ftL : List (List Nat) := [[2, 2, 2, 0, 0, 0, 0, 0, 0], [0, 0, 2, 2, 2], [2, 2, 0, 3, 0, 0, 0, 0, 0, 3], [3, 0, 0, 2, 2, 2, 2, 2], [2, 2, 2, 0], [0, 0, 0, 0, 0, 0, 0, 0, 0, 0, 0, 2, 2, 2, 2, 2, 2, 2], [2, 2, 2, 2, 0], [2, 2, 2, 2, 2, 2, 2, 0], [2, 0, 0, 0, 0, 0, 0, 0], [2, 2, 2], [2, 2], [0, 1, 1, 0, 0, 2, 2, 2, 2, 2, 2, 2, 2, 2, 2, 2, 2, 2, 2, 2], [0, 0, 1, 1, 2, 2, 2, 2, 0, 0, 0, 0, 0, 0, 0, 0, 0, 0, 0, 1, 2, 2, 2, 2, 0, 0, 0, 2, 0, 0, 0, 2, 2, 2, 2, 2, 2, 2, 2, 2, 2, 2, 3, 3, 0, 0, 0, 0, 0, 0, 0]]
/-- what each cell is: below 13 an object of that number, 20 int[], 21 long[], 22 byte[], 23 boolean[], 24 Port[], 25 long[][] -/
def kdL : List Nat := [11, 22, 9, 25, 21, 21, 21, 21, 20, 20, 5, 20, 21, 20, 20, 20, 20, 3, 20, 20, 20, 20, 20, 5, 20, 21, 20, 20, 20, 20, 3, 20, 20, 20, 20, 20, 24, 5, 20, 21, 20, 20, 20, 20, 3, 20, 20, 20, 20, 20, 5, 20, 21, 20, 20, 20, 20, 3, 20, 20, 20, 20, 20, 5, 20, 21, 20, 20, 20, 20, 3, 20, 20, 20, 20, 20, 3, 20, 20, 20, 20, 20, 8, 6, 21, 20, 20, 4, 20, 20, 10, 20, 20, 0, 20, 20, 7, 20, 20, 20, 20, 20, 20, 1, 20, 20, 20, 2, 20, 2, 20, 99, 99, 99, 99, 99, 99, 99, 99, 99, 99, 99, 99, 99, 99, 99, 99, 99, 99, 99, 99, 99, 99, 99, 99, 99, 99, 99, 99, 99, 99, 99, 99, 99, 99, 99, 99, 99, 99, 99, 99, 99, 99, 99, 99, 99, 99, 99, 99, 99, 99, 99, 99, 99, 99, 99, 99, 99, 99, 99, 99, 99, 99, 99, 99, 99, 99, 99, 99, 99, 99, 99, 99, 99, 99, 99, 99, 99, 99, 99, 99, 99, 99, 99, 99, 99, 99, 99, 99, 99, 12, 20, 20, 21, 22, 20, 20, 20, 21, 20, 20, 20, 23, 23, 20, 20, 20, 20, 20, 20, 20]
def lnL : List Nat := [0, 900, 0, 4, 60, 60, 60, 60, 4, 4, 0, 30, 6, 6, 36, 20, 60, 0, 60, 60, 60, 60, 60, 0, 30, 6, 6, 36, 20, 60, 0, 60, 60, 60, 60, 60, 3, 0, 30, 6, 6, 36, 20, 60, 0, 60, 60, 60, 60, 60, 0, 30, 6, 6, 36, 20, 60, 0, 60, 60, 60, 60, 60, 0, 30, 6, 6, 36, 20, 60, 0, 60, 60, 60, 60, 60, 0, 60, 60, 60, 60, 60, 0, 0, 22, 3, 2, 0, 3, 2, 0, 60, 60, 0, 60, 60, 0, 30, 60, 30, 150, 60, 60, 0, 36, 64, 64, 0, 60, 0, 60, 0, 0, 0, 0, 0, 0, 0, 0, 0, 0, 0, 0, 0, 0, 0, 0, 0, 0, 0, 0, 0, 0, 0, 0, 0, 0, 0, 0, 0, 0, 0, 0, 0, 0, 0, 0, 0, 0, 0, 0, 0, 0, 0, 0, 0, 0, 0, 0, 0, 0, 0, 0, 0, 0, 0, 0, 0, 0, 0, 0, 0, 0, 0, 0, 0, 0, 0, 0, 0, 0, 0, 0, 0, 0, 0, 0, 0, 0, 0, 0, 0, 0, 0, 0, 0, 0, 0, 0, 0, 0, 4, 4, 240, 900, 2175, 163, 163, 110, 30, 163, 30, 30, 30, 3600, 60, 36, 36, 6, 5, 163]
def rfT : List (List Nat) := [[0, 0, 0, 0, 0, 1, 2, 10, 23, 36, 76, 82, 83, 87, 90, 93, 96, 103, 107, 109], [], [3, 8, 9], [4, 5, 6, 7], [], [], [], [], [], [], [0, 0, 0, 0, 0, 0, 0, 0, 0, 0, 0, 11, 12, 13, 14, 15, 16, 17], [], [], [], [], [], [], [0, 0, 0, 18, 19, 20, 21, 22], [], [], [], [], [], [0, 0, 0, 0, 0, 0, 0, 0, 0, 0, 0, 24, 25, 26, 27, 28, 29, 30], [], [], [], [], [], [], [0, 0, 0, 31, 32, 33, 34, 35], [], [], [], [], [], [37, 50, 63], [0, 0, 0, 0, 0, 0, 0, 0, 0, 0, 0, 38, 39, 40, 41, 42, 43, 44], [], [], [], [], [], [], [0, 0, 0, 45, 46, 47, 48, 49], [], [], [], [], [], [0, 0, 0, 0, 0, 0, 0, 0, 0, 0, 0, 51, 52, 53, 54, 55, 56, 57], [], [], [], [], [], [], [0, 0, 0, 58, 59, 60, 61, 62], [], [], [], [], [], [0, 0, 0, 0, 0, 0, 0, 0, 0, 0, 0, 64, 65, 66, 67, 68, 69, 70], [], [], [], [], [], [], [0, 0, 0, 71, 72, 73, 74, 75], [], [], [], [], [], [0, 0, 0, 77, 78, 79, 80, 81], [], [], [], [], [], [1, 0, 0, 0, 0, 0, 0, 0], [82, 84, 85, 86, 0], [], [], [], [82, 88, 89, 0], [], [], [91, 92], [], [], [90, 94, 95, 0, 0, 0, 0, 0, 0], [], [], [90, 97, 98, 99, 100, 101, 102, 0], [], [], [], [], [], [], [0, 0, 104, 105, 106], [], [], [], [90, 108, 0, 0, 0, 0, 0, 0, 0, 0], [], [90, 110, 0, 0, 0, 0, 0, 0, 0, 0], [], [], [], [], [], [], [], [], [], [], [], [], [], [], [], [], [], [], [], [], [], [], [], [], [], [], [], [], [], [], [], [], [], [], [], [], [], [], [], [], [], [], [], [], [], [], [], [], [], [], [], [], [], [], [], [], [], [], [], [], [], [], [], [], [], [], [], [], [], [], [], [], [], [], [], [], [], [], [], [], [], [], [], [], [], [], [], [], [], [], [0, 0, 0, 0, 201, 202, 203, 204, 0, 0, 0, 0, 0, 0, 0, 0, 0, 0, 0, 0, 205, 206, 207, 208, 0, 0, 0, 209, 0, 0, 0, 210, 211, 212, 213, 214, 215, 216, 217, 218, 219, 220, 0, 0, 0, 0, 0, 0, 0, 0, 0], [], [], [], [], [], [], [], [], [], [], [], [], [], [], [], [], [], [], [], []]
def kd (c : Nat) : Nat := kdL.getD c 99
def ln (c : Nat) : Nat := lnL.getD c 0
def rf (c k : Nat) : Nat := (rfT.getD c []).getD k 0
def ft (i k : Nat) : Nat := (ftL.getD i []).getD k 0
def nf (i : Nat) : Nat := (ftL.getD i []).length
/-- the numbers of all cells: ints and longs -/
abbrev Mem : Type := (Nat → Nat → Int32) × (Nat → Nat → Int64)
def rI (M : Mem) (c : Nat) (f : Nat → Int32) : Mem := (fun a => if a = c then f else M.1 a, M.2)
def rL (M : Mem) (c : Nat) (f : Nat → Int64) : Mem := (M.1, fun a => if a = c then f else M.2 a)
def uI (M : Mem) (c k : Nat) (v : Int32) : Mem := rI M c (upd (M.1 c) k v)
def uL (M : Mem) (c k : Nat) (v : Int64) : Mem := rL M c (vp_updL (M.2 c) k v)
def rv (ad : Nat → Nat) : Value → Value
  | .ref i => .ref (ad i)
  | v => v
def rq (ad : Nat → Nat) (q : Nat × Value) : Nat × Value := (q.1, rv ad q.2)
def fv (ad : Nat → Nat) (M : Mem) (c k : Nat) : Value := if ft (kd c) k = 1 then .long (M.2 c k) else if ft (kd c) k = 2 then .ref (ad (rf c k)) else .int (M.1 c k)
def fvs (ad : Nat → Nat) (M : Mem) (c : Nat) : List Value := (List.range (nf (kd c))).map (fv ad M c)
def cellE (cA : Nat → ClassId) (ad : Nat → Nat) (M : Mem) (c : Nat) : va_E :=
  if kd c < 13 then .inr (kd c, fvs ad M c)
  else if kd c = 21 then .inl (cA 21, ln c, .inr (.inl (M.2 c)))
  else if kd c = 24 ∨ kd c = 25 then .inl (cA (kd c), ln c, .inr (.inr (.inr (.inr (fun j => if j < ln c then some (ad (rf c j)) else none)))))
  else .inl (cA (kd c), ln c, .inl (M.1 c))
def wsM (b n : Nat) (cA : Nat → ClassId) (ad : Nat → Nat) (M : Mem) : va_W := (List.range n).map (fun j => (ad (b + j), cellE cA ad M (b + j)))
def tysA (cA : Nat → ClassId) : List (ClassId × FieldType) := [(cA 20, .int), (cA 21, .long), (cA 22, .byte), (cA 23, .boolean), (cA 24, .object "FogKeys$Port"), (cA 25, .array .long)]
def AA (b n : Nat) (ad : Nat → Nat) (sz : Nat) : Nat → Prop := fun q => (∃ j, j < n ∧ q = ad (b + j)) ∨ sz ≤ q
theorem ws_get {b n : Nat} {cA : Nat → ClassId} {ad : Nat → Nat} {M : Mem} {c : Nat} (h : b ≤ c ∧ c < b + n) : (wsM b n cA ad M)[c - b]? = some (ad c, cellE cA ad M c) := by
  unfold wsM
  rw [List.getElem?_map, List.getElem?_range (by omega)]
  simp [show b + (c - b) = c by omega]
theorem ws_len {b n : Nat} {cA : Nat → ClassId} {ad : Nat → Nat} {M : Mem} : (wsM b n cA ad M).length = n := by simp [wsM]
theorem ws_at {b n : Nat} {cA : Nat → ClassId} {ad : Nat → Nat} {M : Mem} {j : Nat} {q : Nat × va_E} (h : (wsM b n cA ad M)[j]? = some q) : j < n ∧ q = (ad (b + j), cellE cA ad M (b + j)) := by
  have hj : j < n := by
    have := (List.getElem?_eq_some_iff.mp h).1
    rwa [ws_len] at this
  unfold wsM at h
  rw [List.getElem?_map, List.getElem?_range hj] at h
  exact ⟨hj, (Option.some.inj h).symm⟩
theorem ws_D {b n : Nat} {cA : Nat → ClassId} {ad : Nat → Nat} {M M' : Mem} {A : Nat → Prop} (h : va_D A (wsM b n cA ad M)) : va_D A (wsM b n cA ad M') := by
  refine ⟨fun i j p q hi hj e => ?_, fun k q hk => ?_⟩
  · obtain ⟨h1, rfl⟩ := ws_at hi
    obtain ⟨h2, rfl⟩ := ws_at hj
    exact h.1 i j (ad (b + i), cellE cA ad M (b + i)) (ad (b + j), cellE cA ad M (b + j)) (by have := ws_get (b := b) (n := n) (cA := cA) (ad := ad) (M := M) (c := b + i) ⟨by omega, by omega⟩; rwa [show b + i - b = i by omega] at this) (by have := ws_get (b := b) (n := n) (cA := cA) (ad := ad) (M := M) (c := b + j) ⟨by omega, by omega⟩; rwa [show b + j - b = j by omega] at this) e
  · obtain ⟨h1, rfl⟩ := ws_at hk
    exact h.2 k (ad (b + k), cellE cA ad M (b + k)) (by have := ws_get (b := b) (n := n) (cA := cA) (ad := ad) (M := M) (c := b + k) ⟨by omega, by omega⟩; rwa [show b + k - b = k by omega] at this)
theorem ws_set {b n : Nat} {cA : Nat → ClassId} {ad : Nat → Nat} {M M' : Mem} {c : Nat} {e : va_E} (h : b ≤ c ∧ c < b + n) (he : e = cellE cA ad M' c) (ho : ∀ c', c' ≠ c → cellE cA ad M' c' = cellE cA ad M c') : (wsM b n cA ad M).set (c - b) (ad c, e) = wsM b n cA ad M' := by
  subst he
  apply List.ext_getElem?
  intro j
  by_cases hj : j < n
  · have g := ws_get (b := b) (n := n) (cA := cA) (ad := ad) (M := M') (c := b + j) ⟨by omega, by omega⟩
    have g0 := ws_get (b := b) (n := n) (cA := cA) (ad := ad) (M := M) (c := b + j) ⟨by omega, by omega⟩
    rw [show b + j - b = j by omega] at g g0
    rw [g]
    by_cases e : c - b = j
    · rw [List.getElem?_set, if_pos e, if_pos (by rw [ws_len]; omega)]
      rw [show b + j = c by omega]
    · rw [List.getElem?_set, if_neg e, g0, ho (b + j) (by omega)]
  · rw [List.getElem?_eq_none (by rw [List.length_set, ws_len]; omega), List.getElem?_eq_none (by rw [ws_len]; omega)]
theorem rv_cat (ad : Nat → Nat) (v : Value) : (rv ad v).category = v.category := by cases v <;> rfl
theorem rv_cats (ad : Nat → Nat) (st : List Value) : ((st.map (rv ad)).map fun v => v.category).sum = (st.map fun v => v.category).sum := by
  rw [List.map_map]
  congr 1
  apply List.map_congr_left
  intro v _
  exact rv_cat ad v
theorem lv_args_rv (ad : Nat → Nat) : ∀ (i : Nat) (vs : List Value), lv_args i (vs.map (rv ad)) = (lv_args i vs).map (rq ad)
  | _, [] => rfl
  | i, v :: vs => by
    show (i, rv ad v) :: lv_args (if (rv ad v).category = 2 then i + 2 else i + 1) (vs.map (rv ad)) = (i, rv ad v) :: (lv_args _ vs).map (rq ad)
    rw [rv_cat, lv_args_rv]
theorem lg_sl_rv (ad : Nat → Nat) (vs : List Value) : (lg_sl (vs.map (rv ad))).length = (lg_sl vs).length := by
  induction vs with
  | nil => rfl
  | cons v vs ih =>
    simp only [lg_sl, List.map_cons, List.flatMap_cons, List.length_append, rv_cat] at ih ⊢
    rw [ih]
    split <;> rfl
theorem flt1 (ad : Nat → Nat) (i : Nat) (lv : List (Nat × Value)) : (lv.map (rq ad)).filter (fun q => !(q.1 == i) && !(q.1 + 1 == i && q.2.category == 2)) = (lv.filter (fun q => !(q.1 == i) && !(q.1 + 1 == i && q.2.category == 2))).map (rq ad) := by
  rw [List.filter_map]
  congr 1
  apply List.filter_congr
  intro q _
  simp [rq, rv_cat]
theorem flt2 (ad : Nat → Nat) (i : Nat) (lv : List (Nat × Value)) : (lv.map (rq ad)).filter (fun q => !(q.1 == i) && (!(q.1 == i + 1) && !(q.1 + 1 == i && q.2.category == 2))) = (lv.filter (fun q => !(q.1 == i) && (!(q.1 == i + 1) && !(q.1 + 1 == i && q.2.category == 2)))).map (rq ad) := by
  rw [List.filter_map]
  congr 1
  apply List.filter_congr
  intro q _
  simp [rq, rv_cat]
