/-! long[4][60], made at once -/
section MW
def rowC (q : ClassId) : Cell := { cls := q, slots := Array.replicate 60 (.long 0), vm := .none }
def outC (c : ClassId) (h0 : Nat) : Nat → Cell
  | 0 => { cls := c, slots := Array.replicate 4 .null, vm := .none }
  | i + 1 => (outC c h0 i).setSlot i (.ref (h0 + 1 + i))
def mwS (s : State) (c q : ClassId) : Nat → State
  | 0 => s.pushCell (outC c s.heap.size 0)
  | i + 1 => ((mwS s c q i).pushCell (rowC q)).setCell s.heap.size (outC c s.heap.size (i + 1))
theorem outC_is (c : ClassId) (h0 : Nat) : ∀ i, (outC c h0 i).cls = c ∧ (outC c h0 i).vm = .none ∧ (outC c h0 i).slots.size = 4
  | 0 => ⟨rfl, rfl, by simp [outC]⟩
  | i + 1 => by
    obtain ⟨a, b, d⟩ := outC_is c h0 i
    exact ⟨by simp [outC, Cell.setSlot, a], by simp [outC, Cell.setSlot, b], by simp [outC, Cell.setSlot, d]⟩
theorem mwS_is (s : State) (c q : ClassId) : ∀ i, (mwS s c q i).heap.size = s.heap.size + 1 + i ∧ (mwS s c q i).heap[s.heap.size]? = some (outC c s.heap.size i) ∧ (mwS s c q i).vm = s.vm ∧ (mwS s c q i).slotsUsed = s.slotsUsed + 4 + i * 60
  | 0 => ⟨by simp [mwS], by simp [mwS], rfl, by simp [mwS, outC]⟩
  | i + 1 => by
    obtain ⟨a, b, d, u⟩ := mwS_is s c q i
    have hlt : s.heap.size < (mwS s c q i).heap.size := by omega
    have hb' : ((mwS s c q i).pushCell (rowC q)).heap[s.heap.size]? = some (outC c s.heap.size i) := by rw [State.heap_pushCell_of_lt (h := hlt)]; exact b
    refine ⟨?_, State.heap_setCell_self hb', by simp [mwS, d], ?_⟩
    · simp [mwS, State.setCell, a]; omega
    · simp [mwS, u, rowC, Nat.succ_mul]; omega
theorem mwS_top (s : State) (f : JFrame) (c q : ClassId) : ∀ i, mwS (s.setTop f) c q i = (mwS s c q i).setTop f
  | 0 => rfl
  | i + 1 => by simp only [mwS, mwS_top s f c q i, State.heap_setTop, State.pushCell_setTop, State.setCell_setTop]
theorem mwS_topJ {s : State} (h : s.topJava?.isSome) (c q : ClassId) : ∀ i, (mwS s c q i).topJava?.isSome
  | 0 => h
  | i + 1 => mwS_topJ h c q i
theorem mwS_old (s : State) (c q : ClassId) {a : Addr} (ha : a < s.heap.size) : ∀ i, (mwS s c q i).heap[a]? = s.heap[a]?
  | 0 => State.heap_pushCell_of_lt _ _ ha
  | i + 1 => by
    have f1 := (mwS_is s c q i).1
    have hlt : a < (mwS s c q i).heap.size := Nat.lt_of_lt_of_le ha (by rw [f1]; omega)
    show (((mwS s c q i).pushCell (rowC q)).setCell s.heap.size _).heap[a]? = _
    rw [State.heap_setCell_other (Nat.ne_of_gt ha), State.heap_pushCell_of_lt (h := hlt)]
    exact mwS_old s c q ha i
theorem mwS_row (s : State) (c q : ClassId) : ∀ i j, j < i → (mwS s c q i).heap[s.heap.size + 1 + j]? = some (rowC q)
  | 0, _, h => absurd h (Nat.not_lt_zero _)
  | i + 1, j, h => by
    have f1 := (mwS_is s c q i).1
    show (((mwS s c q i).pushCell (rowC q)).setCell s.heap.size _).heap[s.heap.size + 1 + j]? = _
    rw [State.heap_setCell_other (show s.heap.size ≠ s.heap.size + 1 + j by omega)]
    by_cases hj : j < i
    · have hlt : s.heap.size + 1 + j < (mwS s c q i).heap.size := by rw [f1]; omega
      rw [State.heap_pushCell_of_lt (h := hlt)]
      exact mwS_row s c q i j hj
    · have e : j = i := by omega
      subst e
      rw [← f1]
      exact State.heap_pushCell_size _ _
theorem rowC_V (q : ClassId) : rowC q = arrV q 60 (fun _ => .long 0) := arrV_new q 60 (.long 0)
theorem outC_V (c : ClassId) (h0 : Nat) : outC c h0 4 = arrV c 4 (fun j => .ref (h0 + 1 + j)) := by
  unfold arrV
  have e : (outC c h0 4).slots = Array.ofFn (n := 4) fun j => Value.ref (h0 + 1 + j.val) := by
    simp [outC, Cell.setSlot]
    rfl
  obtain ⟨a, b, -⟩ := outC_is c h0 4
  have hx : outC c h0 4 = { cls := (outC c h0 4).cls, slots := (outC c h0 4).slots, vm := (outC c h0 4).vm } := rfl
  rw [hx, a, b, e]
section
variable {E : CtlPost} {e : Env} {d : Bool} {acts : List Action} {s : State}
theorem wp_row {q cc : ClassId} {kq : Class} (hkq : s.vm.classes[q]? = some kq) (hkind : kq.kind = .array cc .long) (hl : ¬ 60 > e.platform.arrayLengthLimit) (hh : ¬ 60 * componentBytes .long > e.platform.maxHeapBytes) (h1 : s.heap.size < e.platform.maxCells) (h2 : s.slotsUsed + 60 ≤ e.platform.maxSlots)
    {Q : Addr → Pre} (hq : ∀ acts', Q s.heap.size d acts' (s.pushCell (rowC q))) : wp (multianewarray.make q [60]) Q E e d acts s := by
  rw [multianewarray.make]
  simp only [wp_bind', Jvm.W.ite, show ¬ (60 : Int32) < 0 from by decide, if_false, wp_pure', Jvm.W.theClass, hkq, hkind, Option.some.injEq, exists_eq_left']
  exact Jvm.W.newArray_of hkq hkind hl hh h1 h2 rfl hq
theorem wp_rows {c q cc : ClassId} {k kq : Class} {t0 : FieldType} (hk : s.vm.classes[c]? = some k) (hkind : k.kind = .array q t0) (href : ∀ v : Value, (v = .null ∨ ∃ a, v = .ref a) → fits t0 v = true) (hkq : s.vm.classes[q]? = some kq) (hkq2 : kq.kind = .array cc .long)
    (hl1 : ¬ 4 > e.platform.arrayLengthLimit) (hh1 : ¬ 4 * componentBytes t0 > e.platform.maxHeapBytes) (hl : ¬ 60 > e.platform.arrayLengthLimit) (hh : ¬ 60 * componentBytes .long > e.platform.maxHeapBytes) (h1 : s.heap.size + 5 ≤ e.platform.maxCells) (h2 : s.slotsUsed + 244 ≤ e.platform.maxSlots)
    {Q : Addr → Pre} (hq : ∀ d' acts', Q s.heap.size d' acts' (mwS s c q 4)) : wp (multianewarray.make c [4, 60]) Q E e d acts s := by
  have one : ∀ (i : Nat) (d0 : Bool) (acts0 : List Action) (Q0 : ForInStep PUnit → Pre), i < 4 → (∀ d' acts', Q0 (ForInStep.yield PUnit.unit) d' acts' (mwS s c q (i + 1))) → wp (do
      let r ← multianewarray.make q [60]
      writeLoc s.heap.size i (.ref r)
      Pure.pure (ForInStep.yield PUnit.unit)) Q0 E e d0 acts0 (mwS s c q i) := fun i d0 acts0 Q0 hi hn => by
    obtain ⟨f1, f2, f3, f4⟩ := mwS_is s c q i
    obtain ⟨o1, o2, o3⟩ := outC_is c s.heap.size i
    have hlt0 : s.heap.size < (mwS s c q i).heap.size := by rw [f1]; omega
    simp only [wp_bind']
    refine wp_row (by rw [f3]; exact hkq) hkq2 hl hh (by rw [f1]; omega) (by rw [f4]; omega) fun acts' => ?_
    simp only [wp_bind', Jvm.W.writeLoc, wp_pure']
    refine ⟨outC c s.heap.size i, by rw [State.heap_pushCell_of_lt (h := hlt0)]; exact f2, by rw [o2]; simp, by rw [o3]; exact hi, ?_, ?_⟩
    · rw [o1, o2]
      simp [State.fitsSlot, State.slotType?, f3, hk, hkind, href _ (Or.inr ⟨_, rfl⟩)]
    · rw [f1]
      exact hn _ _
  rw [multianewarray.make]
  simp only [wp_bind', Jvm.W.ite, show ¬ (4 : Int32) < 0 from by decide, if_false, wp_pure', Jvm.W.theClass, hk, hkind, Option.some.injEq, exists_eq_left']
  refine Jvm.W.newArray_of hk hkind hl1 hh1 (by omega) (by show s.slotsUsed + 4 ≤ _; omega) (href _ (Or.inl rfl)) fun acts' => ?_
  rw [show ((4 : Int32) == 0) = false from by decide]
  simp only [Bool.false_eq_true, if_false]
  rw [wp_bind', Std.Legacy.Range.forIn_eq_forIn_range', show (List.range' 0 (Std.Legacy.Range.size [:(4 : Int32).toNatClampNeg]) 1) = [0, 1, 2, 3] from by decide]
  show wp (forIn [0, 1, 2, 3] PUnit.unit _) _ E e d acts' (mwS s c q 0)
  simp only [List.forIn_cons, List.forIn_nil]
  rw [wp_bind']
  refine one 0 _ _ _ (by decide) (fun d1 a1 => ?_)
  dsimp only
  rw [wp_bind']
  refine one 1 _ _ _ (by decide) (fun d2 a2 => ?_)
  dsimp only
  rw [wp_bind']
  refine one 2 _ _ _ (by decide) (fun d3 a3 => ?_)
  dsimp only
  rw [wp_bind']
  refine one 3 _ _ _ (by decide) (fun d4 a4 => ?_)
  dsimp only
  simp only [wp_pure']
  exact hq _ _
theorem wp_multi {f : JFrame} {c q cc : ClassId} {vm₁ : Vm} {index : Nat} {rest : List Value} (hs : s.topJava?.isSome) (hg : (Jvm.resolveClass f.method.cls index).Gives e.toSetting s.vm (.ok c) vm₁) (hsz : vm₁.classes.size ≤ s.vm.classes.size) {k kq : Class} {t0 : FieldType} (hk : vm₁.classes[c]? = some k) (hkind : k.kind = .array q t0) (href : ∀ v : Value, (v = .null ∨ ∃ a, v = .ref a) → fits t0 v = true) (hkq : vm₁.classes[q]? = some kq) (hkq2 : kq.kind = .array cc .long) (hstack : f.stack = .int 60 :: .int 4 :: rest)
    (hl1 : ¬ 4 > e.platform.arrayLengthLimit) (hh1 : ¬ 4 * componentBytes t0 > e.platform.maxHeapBytes) (hl : ¬ 60 > e.platform.arrayLengthLimit) (hh : ¬ 60 * componentBytes .long > e.platform.maxHeapBytes) (h1 : s.heap.size + 5 ≤ e.platform.maxCells) (h2 : s.slotsUsed + 244 ≤ e.platform.maxSlots)
    {Q : Unit → Pre} (hq : ∀ d' acts', Q () d' acts' ((mwS (s.setVm vm₁) c q 4).setTop { f with stack := .ref s.heap.size :: rest })) : wp (multianewarray.sem index 2) Q E e d acts (s.setTop f) := by
  rw [multianewarray.sem]
  simp only [wp_bind', Jvm.W.resolveClassAt_links (State.method?_setTop f hs) hg hsz]
  rw [Jvm.W.popN, if_neg (by decide)]
  refine ⟨f, ?_, [.int 4, .int 60], rest, rfl, by rw [hstack]; rfl, ?_⟩
  · exact State.topJava?_setTop' _ hs
  · simp only [List.mapM_cons, List.mapM_nil, wp_bind', wp_pure']
    rw [State.setVm_setTop, State.setTop_setTop]
    refine wp_rows (s := (s.setVm vm₁).setTop _) hk hkind href hkq hkq2 hl1 hh1 hl hh h1 h2 (fun d' acts' => ?_)
    rw [mwS_top]
    simp only [wp_bind', Jvm.W.mark, Jvm.W.pushRef]
    obtain ⟨-, -, -, -⟩ := mwS_is (s.setVm vm₁) c q 4
    refine ⟨_, State.topJava?_setTop' _ ?_, ?_⟩
    · exact mwS_topJ (s := s.setVm vm₁) hs c q 4
    · rw [State.setTop_setTop]
      exact hq _ _
end
section
variable {p : Program} {l : Launch} {e : Env} {R : Room} {s : State} {m : MethodId} {args : Array Value} {below : List Frame} {meth : Method} {c : Code} {H : Heap} {locs : List Loc} {cells slots : Nat} {Q : State → Prop}
theorem W_multi {cc : ByteArray} (hexec : p.tables.exec = Jvm.exec) (hb : c.code = cc) {own : String} {index : Nat} (hown : s.vm.findClass own = some m.cls) (hclink : (Cond.classLink own index "[[J").before args s = true) (hover : (Cond.arrayOver (.array .long)).before #[] s = true) (harr : (Cond.arrayClass .long).before args s = true)
    {pc : Nat} {ls : Array Slot} {rest : List Value} (hdg : decode cc pc = .ok (.multianewarray index 2, 4)) (hcells : cells + 5 ≤ R.cells) (hslots : slots + 244 ≤ R.slots)
    (kk : ∀ (cA comp : ClassId) (H4 : Heap) (L : List Loc), s.vm.findClass ("[" ++ (FieldType.array .long).toString) = some cA → s.vm.findClass ("[" ++ FieldType.long.toString) = some comp → H4.size = H.size + 5 → H4[H.size]? = some (arrV cA 4 (fun j => .ref (H.size + 1 + j))) → (∀ j, j < 4 → H4[H.size + 1 + j]? = some (arrV comp 60 (fun _ => .long 0))) → (∀ q, q < H.size → H4[q]? = H[q]?) → (∀ x ∈ L, x.base = H.size) →
      W p l e R s m args below meth c H4 (locs ++ L) (cells + 5) (slots + 244) Q (F0 m (pc + 4) ls (.ref H.size :: rest))) : W p l e R s m args below meth c H locs cells slots Q (F0 m pc ls (.int 60 :: .int 4 :: rest)) := by
  intro T hT X
  subst hT; subst hb
  have hpl : e.platform.magicAccessors = ({} : Platform).magicAccessors := by rw [X.admits.platform]
  obtain ⟨comp, cA, kA, hcomp, hidx, hkA, hkindA, hnameA⟩ := ao_spec hover
  obtain ⟨cJ, kJ, cc, hcJ, hkJ, hkindJ⟩ := Cond.arrayClass_spec harr
  have e1 : comp = cJ := Option.some.inj (hcomp.symm.trans hcJ)
  subst e1
  obtain ⟨cc', hfcc, hcl⟩ := Cond.classLink_spec hown hclink e.platform hpl
  have e2 : cc' = cA := Option.some.inj (hfcc.symm.trans hnameA)
  subst e2
  obtain ⟨hg₁, hwarm₁, hready₁⟩ := State.classEntry (e := e) X.warmed hcl
  generalize T.vm.noted m.cls index (.cls cc') = vm₁ at hg₁ hwarm₁ hready₁
  have hal : s.vm.Alike vm₁ := hwarm₁.alike
  obtain ⟨kA₁, hkA₁, heA⟩ := hal.2.2 _ _ hkA
  obtain ⟨kJ₁, hkJ₁, heJ⟩ := hal.2.2 _ _ hkJ
  have hkindA₁ : kA₁.kind = .array comp (.array .long) := by rw [heA]; exact hkindA
  have hkindJ₁ : kJ₁.kind = .array cc .long := by rw [heJ]; exact hkindJ
  have X₁ := X.noted hwarm₁
  obtain ⟨hr1, hr2⟩ := X.roomAbove hcells hslots
  have hsz : vm₁.classes.size ≤ T.vm.classes.size := Vm.Alike.size_le (X.warmed.alike.symm.trans hal)
  have XI : ∀ i, ∃ L : List Loc, (∀ x ∈ L, x.base = T.heap.size) ∧ Stand p l e R s m args below meth c (mwS (T.setVm vm₁) cc' comp i) (locs ++ L) (cells + 1 + i) (slots + 4 + i * 60) := by
    intro i
    induction i with
    | zero =>
      refine ⟨[], fun x hx => (List.not_mem_nil hx).elim, ?_⟩
      have := X₁.pushed (outC cc' T.heap.size 0)
      rw [List.append_nil]
      simpa [outC, mwS] using this
    | succ i ih =>
      obtain ⟨L, hL, Xi⟩ := ih
      obtain ⟨f1, f2, f3, f4⟩ := mwS_is (T.setVm vm₁) cc' comp i
      have hlt : T.heap.size < (mwS (T.setVm vm₁) cc' comp i).heap.size := by rw [f1]; show T.heap.size < T.heap.size + 1 + i; omega
      have X2 := Xi.pushed (rowC comp)
      have X3 := X2.stored (a := T.heap.size) (cell := outC cc' T.heap.size i) (by rw [State.heap_pushCell_of_lt (h := hlt)]; exact f2) i (.ref (T.heap.size + 1 + i))
      refine ⟨L ++ [⟨T.heap.size, i⟩], fun x hx => ?_, ?_⟩
      · rcases List.mem_append.mp hx with h | h
        · exact hL x h
        · rw [List.mem_singleton.mp h]
      · rw [← List.append_assoc]
        have e4 : slots + 4 + (i + 1) * 60 = slots + 4 + i * 60 + (rowC comp).slots.size := by simp [rowC, Nat.succ_mul]; omega
        rw [e4]
        exact X3
  obtain ⟨L, hL, X4⟩ := XI 4
  obtain ⟨f1, f2, f3, f4⟩ := mwS_is (T.setVm vm₁) cc' comp 4
  obtain ⟨t', a1, b1⟩ := kk cc' comp (mwS (T.setVm vm₁) cc' comp 4).heap L hnameA hcJ f1 (by rw [← outC_V]; exact f2) (fun j hj => by rw [← rowC_V]; exact mwS_row (T.setVm vm₁) cc' comp 4 j hj) (fun q hq => mwS_old (T.setVm vm₁) cc' comp hq 4) hL _ rfl X4
  refine ⟨t', ?_, b1⟩
  refine Steps.instr (c := _) (by simpa using X.here) ?_
  simp [jvm, wpRun, exec, X.here.top, hexec, hdg]
  refine wp_multi X.here.top hg₁ hsz hkA₁ hkindA₁ (fun v hv => by rcases hv with rfl | ⟨a, rfl⟩ <;> rfl) hkJ₁ hkindJ₁ rfl (by rw [Launch.admits_arrayLengthLimit X.admits]; decide) (by rw [Launch.admits_maxHeapBytes X.admits]; decide) (by rw [Launch.admits_arrayLengthLimit X.admits]; decide) (by rw [Launch.admits_maxHeapBytes X.admits]; decide) hr1 hr2 (fun d' acts' => ?_)
  intro acts
  simp [jvm]
  exact a1
end
end MW
