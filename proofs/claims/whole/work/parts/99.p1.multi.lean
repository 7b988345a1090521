/-! long[4][60], made at once -/
section MW
def rowC (q : ClassId) : Cell := { cls := q, slots := Array.replicate 60 (.long 0), vm := .none }
def outC (c : ClassId) (h0 : Nat) : Nat → Cell
  | 0 => { cls := c, slots := Array.replicate 4 .null, vm := .none }
  | i + 1 => (outC c h0 i).setSlot i (.ref (h0 + 1 + i))
def mwS (s : State) (c q : ClassId) : Nat → State
  | 0 => s.pushCell (outC c s.heap.size 0)
  | i + 1 => ((mwS s c q i).pushCell (rowC q)).setCell s.heap.size (outC c s.heap.size (i + 1))
theorem outC_is (c : ClassId) (h0 : Nat) : ∀ i, (outC c h0 i).cls = c ∧ (outC c h0 i).vm = .none ∧ (outC c h0 i).slots.size = 4
  | 0 => ⟨rfl, rfl, by simp [outC]⟩
  | i + 1 => by
    obtain ⟨a, b, d⟩ := outC_is c h0 i
    exact ⟨by simp [outC, Cell.setSlot, a], by simp [outC, Cell.setSlot, b], by simp [outC, Cell.setSlot, d]⟩
theorem mwS_is (s : State) (c q : ClassId) : ∀ i, (mwS s c q i).heap.size = s.heap.size + 1 + i ∧ (mwS s c q i).heap[s.heap.size]? = some (outC c s.heap.size i) ∧ (mwS s c q i).vm = s.vm ∧ (mwS s c q i).slotsUsed = s.slotsUsed + 4 + i * 60
  | 0 => ⟨by simp [mwS], by simp [mwS], rfl, by simp [mwS, outC]⟩
  | i + 1 => by
    obtain ⟨a, b, d, u⟩ := mwS_is s c q i
    have hlt : s.heap.size < (mwS s c q i).heap.size := by omega
    have hb' : ((mwS s c q i).pushCell (rowC q)).heap[s.heap.size]? = some (outC c s.heap.size i) := by rw [State.heap_pushCell_of_lt (h := hlt)]; exact b
    refine ⟨?_, State.heap_setCell_self hb', by simp [mwS, d], ?_⟩
    · simp [mwS, State.setCell, a]; omega
    · simp [mwS, u, rowC, Nat.succ_mul]; omega
theorem mwS_top (s : State) (f : JFrame) (c q : ClassId) : ∀ i, mwS (s.setTop f) c q i = (mwS s c q i).setTop f
  | 0 => rfl
  | i + 1 => by simp only [mwS, mwS_top s f c q i, State.heap_setTop, State.pushCell_setTop, State.setCell_setTop]
theorem mwS_old (s : State) (c q : ClassId) {a : Addr} (ha : a < s.heap.size) : ∀ i, (mwS s c q i).heap[a]? = s.heap[a]?
  | 0 => State.heap_pushCell_of_lt _ _ ha
  | i + 1 => by
    have f1 := (mwS_is s c q i).1
    have hlt : a < (mwS s c q i).heap.size := Nat.lt_of_lt_of_le ha (by rw [f1]; omega)
    show (((mwS s c q i).pushCell (rowC q)).setCell s.heap.size _).heap[a]? = _
    rw [State.heap_setCell_other (Nat.ne_of_gt ha), State.heap_pushCell_of_lt (h := hlt)]
    exact mwS_old s c q ha i
theorem mwS_row (s : State) (c q : ClassId) : ∀ i j, j < i → (mwS s c q i).heap[s.heap.size + 1 + j]? = some (rowC q)
  | 0, _, h => absurd h (Nat.not_lt_zero _)
  | i + 1, j, h => by
    have f1 := (mwS_is s c q i).1
    show (((mwS s c q i).pushCell (rowC q)).setCell s.heap.size _).heap[s.heap.size + 1 + j]? = _
    rw [State.heap_setCell_other (show s.heap.size ≠ s.heap.size + 1 + j by omega)]
    by_cases hj : j < i
    · have hlt : s.heap.size + 1 + j < (mwS s c q i).heap.size := by rw [f1]; omega
      rw [State.heap_pushCell_of_lt (h := hlt)]
      exact mwS_row s c q i j hj
    · have e : j = i := by omega
      subst e
      rw [← f1]
      exact State.heap_pushCell_size _ _
theorem rowC_V (q : ClassId) : rowC q = arrV q 60 (fun _ => .long 0) := arrV_new q 60 (.long 0)
theorem outC_V (c : ClassId) (h0 : Nat) : outC c h0 4 = arrV c 4 (fun j => .ref (h0 + 1 + j)) := by
  unfold arrV
  have e : (outC c h0 4).slots = Array.ofFn (n := 4) fun j => Value.ref (h0 + 1 + j.val) := by
    simp [outC, Cell.setSlot]
    rfl
  obtain ⟨a, b, -⟩ := outC_is c h0 4
  have hx : outC c h0 4 = { cls := (outC c h0 4).cls, slots := (outC c h0 4).slots, vm := (outC c h0 4).vm } := rfl
  rw [hx, a, b, e]
section
variable {E : CtlPost} {e : Env} {d : Bool} {acts : List Action} {s : State}
theorem wp_row {q cc : ClassId} {kq : Class} (hkq : s.vm.classes[q]? = some kq) (hkind : kq.kind = .array cc .long) (hl : ¬ 60 > e.platform.arrayLengthLimit) (hh : ¬ 60 * componentBytes .long > e.platform.maxHeapBytes) (h1 : s.heap.size < e.platform.maxCells) (h2 : s.slotsUsed + 60 ≤ e.platform.maxSlots)
    {Q : Addr → Pre} (hq : ∀ acts', Q s.heap.size d acts' (s.pushCell (rowC q))) : wp (multianewarray.make q [60]) Q E e d acts s := by
  rw [multianewarray.make]
  simp only [wp_bind', Jvm.W.ite, show ¬ (60 : Int32) < 0 from by decide, if_false, wp_pure', Jvm.W.theClass, hkq, hkind, Option.some.injEq, exists_eq_left']
  exact Jvm.W.newArray_of hkq hkind hl hh h1 h2 rfl hq
theorem wp_rows {c q cc : ClassId} {k kq : Class} {t0 : FieldType} (hk : s.vm.classes[c]? = some k) (hkind : k.kind = .array q t0) (href : ∀ v : Value, (v = .null ∨ ∃ a, v = .ref a) → fits t0 v = true) (hkq : s.vm.classes[q]? = some kq) (hkq2 : kq.kind = .array cc .long)
    (hl1 : ¬ 4 > e.platform.arrayLengthLimit) (hh1 : ¬ 4 * componentBytes t0 > e.platform.maxHeapBytes) (hl : ¬ 60 > e.platform.arrayLengthLimit) (hh : ¬ 60 * componentBytes .long > e.platform.maxHeapBytes) (h1 : s.heap.size + 5 ≤ e.platform.maxCells) (h2 : s.slotsUsed + 244 ≤ e.platform.maxSlots)
    {Q : Addr → Pre} (hq : ∀ d' acts', Q s.heap.size d' acts' (mwS s c q 4)) : wp (multianewarray.make c [4, 60]) Q E e d acts s := by
  have one : ∀ (i : Nat) (d0 : Bool) (acts0 : List Action) (Q0 : ForInStep PUnit → Pre), i < 4 → (∀ d' acts', Q0 (ForInStep.yield PUnit.unit) d' acts' (mwS s c q (i + 1))) → wp (do
      let r ← multianewarray.make q [60]
      writeLoc s.heap.size i (.ref r)
      pure (ForInStep.yield PUnit.unit)) Q0 E e d0 acts0 (mwS s c q i) := fun i d0 acts0 Q0 hi hn => by
    obtain ⟨f1, f2, f3, f4⟩ := mwS_is s c q i
    obtain ⟨o1, o2, o3⟩ := outC_is c s.heap.size i
    have hlt0 : s.heap.size < (mwS s c q i).heap.size := by rw [f1]; omega
    simp only [wp_bind']
    refine wp_row (by rw [f3]; exact hkq) hkq2 hl hh (by rw [f1]; omega) (by rw [f4]; omega) fun acts' => ?_
    simp only [wp_bind', Jvm.W.writeLoc, wp_pure']
    refine ⟨outC c s.heap.size i, by rw [State.heap_pushCell_of_lt (h := hlt0)]; exact f2, by rw [o2]; simp, by rw [o3]; exact hi, ?_, ?_⟩
    · rw [o1, o2]
      simp [State.fitsSlot, State.slotType?, f3, hk, hkind, href _ (Or.inr ⟨_, rfl⟩)]
    · rw [f1]
      exact hn _ _
  rw [multianewarray.make]
  simp only [wp_bind', Jvm.W.ite, show ¬ (4 : Int32) < 0 from by decide, if_false, wp_pure', Jvm.W.theClass, hk, hkind, Option.some.injEq, exists_eq_left']
  refine Jvm.W.newArray_of hk hkind hl1 hh1 (by omega) (by show s.slotsUsed + 4 ≤ _; omega) (href _ (Or.inl rfl)) fun acts' => ?_
  rw [show ((4 : Int32) == 0) = false from by decide]
  simp only [Bool.false_eq_true, if_false]
  rw [wp_bind', Std.Legacy.Range.forIn_eq_forIn_range', show (List.range' 0 (Std.Legacy.Range.size [:(4 : Int32).toNatClampNeg]) 1) = [0, 1, 2, 3] from by decide]
  show wp (forIn [0, 1, 2, 3] PUnit.unit _) _ E e d acts' (mwS s c q 0)
  simp only [List.forIn_cons, List.forIn_nil, wp_bind']
  sorry
end
end MW
