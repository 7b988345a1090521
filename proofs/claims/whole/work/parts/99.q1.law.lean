/-! THE CLAIM OUT OF ONE WALK OF THE LAW'S BODY. Your part is whole_start (and what it stands on); all else here is the same for every law, but numbers. -/
def R_law : String := "FogKeysLaw"
def lw_P (b : Addr) (xs : List Int32) (args : Array Value) (s : State) : Prop := args = #[.ref b] ∧ s.IntsAt b xs ∧ xs.length ≤ 3072 ∧ (Jvm.Cond.and given_1 narrow_1).before args s = true
def lw_Q (_ : Array Value) (s : State) (o : Outcome) (t : State) : Prop := o = .returned (some (.int 1)) ∧ Framed s o t [] 600000 7302250
def lw_Z (below : List Frame) (a : Array Value) (s : State) : State → Prop := fun t => ∃ o, t.status = .running ∧ Ended t below o ∧ lw_Q a s o t
/-- the law's own end, with 1 on the stack, nothing written that was there before, its room as the claim has it -/
theorem lw_ret {p : Program} {l : Launch} {e : Env} {s : State} {m : MethodId} {below : List Frame} {meth : Method} {c : Code} {b : Nat} (hx : p.tables.exec = Jvm.exec) (hb : c.code = code) (hr : meth.sig.returnType = ret) (hlocks : meth.locks = false) {pc : Nat} {H : Heap} {ls : Array Slot} (hdg : decode code pc = .ok (.ireturn, 1)) : W p l e room_1 s m #[Value.ref b] below meth c H [] 600000 7302250 (lw_Z below #[Value.ref b] s) (F0 m pc ls [.int 1]) := by
  intro T hT X
  obtain ⟨fs, hret, hrun, hended, hW, hframe⟩ := X.leave (v := some (.int 1)) (hlocks := hlocks) (fun h => by rw [hr] at h; cases h)
  have hmeth' : T.vm.method? m = some meth := X.method'
  refine ⟨T.setFrames fs, ?_, .returned (some (.int 1)), hrun, hended, rfl, ⟨_, rfl⟩, hW, hframe⟩
  jvm_step X.here [X.here.top, hx, hb, hdg, hmeth', hr, ret, narrow_b1]
  (try refine ⟨rfl, ?_⟩); (try refine ⟨rfl, ?_⟩)
  first | (intro acts; rw [hret _ acts rfl rfl rfl]) | rw [hret _ _ rfl rfl rfl]
  exact Steps.refl _
/-- what holds at the law's entry: the machine, the code, the tables' words (any of lw_tbl by 'hts w (by decide +kernel)'), the script of L ints xs at the cell b, what the Statement gives of the start (any of its parts by flat_of_before) -/
def lw_At (p : Program) (s : State) (m : MethodId) (meth : Method) (c : Code) (b L : Nat) (xs : Nat → Int32) : Prop :=
  p.tables.exec = Jvm.exec ∧ c.code = code ∧ meth.sig.returnType = ret ∧ c.maxLocals = 4 ∧ s.vm.findClass R_law = some m.cls ∧ (∀ w ∈ lw_tbl, w.before #[Value.ref b] s = true) ∧ va_X b L xs s s.heap ∧ b < s.heap.size ∧ meth.locks = false ∧ (Jvm.Cond.and given_1 narrow_1).before #[Value.ref b] s = true
/-- the law's walk: what stays, whatever is called -/
def LX (b0 N0 : Nat) (xs : Nat → Int32) (p : Program) (s : State) (m : MethodId) (meth : Method) (c : Code) (dC : Nat → ClassId) (dI : Nat → Nat → Nat) (cA : Nat → ClassId) (ad : Nat → Nat) : Prop :=
  p.tables.exec = Jvm.exec ∧ c.code = code ∧ c.maxLocals = 4 ∧ meth.sig.returnType = ret ∧ meth.locks = false ∧ s.vm.findClass R_law = some m.cls ∧ (∀ w ∈ TG, w.before #[Value.ref b0] s = true) ∧
  va_K (dC, dI) classes (tysA cA) s ∧ (∀ M : Mem, va_D (fun q => s.heap.size ≤ q) (wsM 0 111 cA ad M)) ∧ (∀ M : Mem, va_D (fun q => s.heap.size ≤ q) (wsM 200 21 cA ad M)) ∧ (∀ i j, i < 111 → 200 ≤ j → j < 221 → ad i ≠ ad j) ∧ EnvF ad (fun q => s.heap.size ≤ q) s s.heap ∧ va_X b0 N0 xs s s.heap ∧ b0 < s.heap.size ∧ ad 700 = b0
/-- within the law, at pc, over the numbers MC of the class's object and MS of the model's -/
def Lw (b0 N0 : Nat) (xs : Nat → Int32) (pc : Nat) (lv : List (Nat × Value)) (st : List Value) (MC MS : Mem) : Prop :=
  ∀ (p : Program) (l : Launch) (e : Env) (s : State) (m : MethodId) (below : List Frame) (meth : Method) (c : Code) (H : Heap) (locs : List Loc) (dC : Nat → ClassId) (dI : Nat → Nat → Nat) (cA : Nat → ClassId) (ad : Nat → Nat) (ls : Array Slot),
    LX b0 N0 xs p s m meth c dC dI cA ad → va_P (dC, dI) classes (wsM 0 111 cA ad MC) H → va_P (dC, dI) classes (wsM 200 21 cA ad MS) H → va_S (fun q => s.heap.size ≤ q) s.heap H locs → lv_has ls 4 (lv.map (rq ad)) →
    W p l e room_1 s m #[Value.ref b0] below meth c H locs 600000 7302250 (lw_Z below #[Value.ref b0] s) (F0 m pc ls (st.map (rv ad)))
section LW
variable {b0 N0 : Nat} {xs : Nat → Int32} {pc : Nat} {lv : List (Nat × Value)} {st : List Value} {MC MS : Mem}
theorem Lw_loc {lv' : List (Nat × Value)} (ks : List Nat) (hl' : lv_pick lv ks = lv') (k : Lw b0 N0 xs pc lv' st MC MS) : Lw b0 N0 xs pc lv st MC MS := by
  intro p l e s m below meth c H locs dC dI cA ad ls C hP hQ hS hl
  refine k p l e s m below meth c H locs dC dI cA ad ls C hP hQ hS (lv_sub hl ks ?_)
  rw [← hl']
  unfold lv_pick
  rw [List.map_filterMap]
  congr 1
  funext j
  rw [List.getElem?_map]
theorem Lw_iconst {i : Int} {v : Int32} (hd : decode code pc = .ok (.iconst i, 1)) (hv : Int32.ofInt i = v) (k : Lw b0 N0 xs (pc + 1) lv (.int v :: st) MC MS) : Lw b0 N0 xs pc lv (st) MC MS := by
  intro p l e s m below meth c H locs dC dI cA ad ls C hP hQ hS hl
  exact lv_iconst C.1 C.2.1 hd hv (k p l e s m below meth c H locs dC dI cA ad ls C hP hQ hS hl)
theorem Lw_bipush {i : Int} {v : Int32} (hd : decode code pc = .ok (.bipush i, 2)) (hv : (Int8.ofInt i).toInt32 = v) (k : Lw b0 N0 xs (pc + 2) lv (.int v :: st) MC MS) : Lw b0 N0 xs pc lv (st) MC MS := by
  intro p l e s m below meth c H locs dC dI cA ad ls C hP hQ hS hl
  exact lv_bipush C.1 C.2.1 hd hv (k p l e s m below meth c H locs dC dI cA ad ls C hP hQ hS hl)
theorem Lw_sipush {i : Int} {v : Int32} (hd : decode code pc = .ok (.sipush i, 3)) (hv : (Int16.ofInt i).toInt32 = v) (k : Lw b0 N0 xs (pc + 3) lv (.int v :: st) MC MS) : Lw b0 N0 xs pc lv (st) MC MS := by
  intro p l e s m below meth c H locs dC dI cA ad ls C hP hQ hS hl
  exact lv_sipush C.1 C.2.1 hd hv (k p l e s m below meth c H locs dC dI cA ad ls C hP hQ hS hl)
theorem Lw_iload_n {q : Fin 4} {i : Nat} {x : Int32} (j : Nat) (hd : decode code pc = .ok (.iload_n q, 1)) (hi : (q : Nat) = i) (hj : lv[j]? = some (i, .int x)) (k : Lw b0 N0 xs (pc + 1) lv (.int x :: st) MC MS) : Lw b0 N0 xs pc lv (st) MC MS := by
  intro p l e s m below meth c H locs dC dI cA ad ls C hP hQ hS hl
  exact lv_iload_n C.1 C.2.1 hd hi (lv_at2 hl hj) (k p l e s m below meth c H locs dC dI cA ad ls C hP hQ hS hl)
theorem Lw_iload {i : Nat} {x : Int32} (j : Nat) (hd : decode code pc = .ok (.iload i, 2)) (hj : lv[j]? = some (i, .int x)) (k : Lw b0 N0 xs (pc + 2) lv (.int x :: st) MC MS) : Lw b0 N0 xs pc lv (st) MC MS := by
  intro p l e s m below meth c H locs dC dI cA ad ls C hP hQ hS hl
  exact lv_iload C.1 C.2.1 hd (lv_at2 hl hj) (k p l e s m below meth c H locs dC dI cA ad ls C hP hQ hS hl)
theorem Lw_istore_n {q : Fin 4} {i : Nat} {x : Int32} {lv' : List (Nat × Value)} (hd : decode code pc = .ok (.istore_n q, 1)) (hi : (q : Nat) = i) (hn : i < 4) (hl' : (i, Value.int x) :: lv.filter (fun q => !(q.1 == i) && !(q.1 + 1 == i && q.2.category == 2)) = lv') (k : Lw b0 N0 xs (pc + 1) lv' st MC MS) : Lw b0 N0 xs pc lv (.int x :: st) MC MS := by
  intro p l e s m below meth c H locs dC dI cA ad ls C hP hQ hS hl
  refine lv_istore_n C.1 C.2.1 hd hi hl hn rfl (fun ls' h' => k p l e s m below meth c H locs dC dI cA ad ls' C hP hQ hS ?_)
  rw [flt1] at h'
  rw [← hl']
  exact h'
theorem Lw_istore {i : Nat} {x : Int32} {lv' : List (Nat × Value)} (hd : decode code pc = .ok (.istore i, 2)) (hn : i < 4) (hl' : (i, Value.int x) :: lv.filter (fun q => !(q.1 == i) && !(q.1 + 1 == i && q.2.category == 2)) = lv') (k : Lw b0 N0 xs (pc + 2) lv' st MC MS) : Lw b0 N0 xs pc lv (.int x :: st) MC MS := by
  intro p l e s m below meth c H locs dC dI cA ad ls C hP hQ hS hl
  refine lv_istore C.1 C.2.1 hd hl hn rfl (fun ls' h' => k p l e s m below meth c H locs dC dI cA ad ls' C hP hQ hS ?_)
  rw [flt1] at h'
  rw [← hl']
  exact h'
theorem Lw_aload_n {q : Fin 4} {i : Nat} {x : Nat} (j : Nat) (hd : decode code pc = .ok (.aload_n q, 1)) (hi : (q : Nat) = i) (hj : lv[j]? = some (i, .ref x)) (k : Lw b0 N0 xs (pc + 1) lv (.ref x :: st) MC MS) : Lw b0 N0 xs pc lv (st) MC MS := by
  intro p l e s m below meth c H locs dC dI cA ad ls C hP hQ hS hl
  exact lv_aload_n C.1 C.2.1 hd hi (lv_at2 hl hj) (k p l e s m below meth c H locs dC dI cA ad ls C hP hQ hS hl)
theorem Lw_aload {i : Nat} {x : Nat} (j : Nat) (hd : decode code pc = .ok (.aload i, 2)) (hj : lv[j]? = some (i, .ref x)) (k : Lw b0 N0 xs (pc + 2) lv (.ref x :: st) MC MS) : Lw b0 N0 xs pc lv (st) MC MS := by
  intro p l e s m below meth c H locs dC dI cA ad ls C hP hQ hS hl
  exact lv_aload C.1 C.2.1 hd (lv_at2 hl hj) (k p l e s m below meth c H locs dC dI cA ad ls C hP hQ hS hl)
theorem Lw_astore_n {q : Fin 4} {i : Nat} {x : Nat} {lv' : List (Nat × Value)} (hd : decode code pc = .ok (.astore_n q, 1)) (hi : (q : Nat) = i) (hn : i < 4) (hl' : (i, Value.ref x) :: lv.filter (fun q => !(q.1 == i) && !(q.1 + 1 == i && q.2.category == 2)) = lv') (k : Lw b0 N0 xs (pc + 1) lv' st MC MS) : Lw b0 N0 xs pc lv (.ref x :: st) MC MS := by
  intro p l e s m below meth c H locs dC dI cA ad ls C hP hQ hS hl
  refine lv_astore_n C.1 C.2.1 hd hi hl hn rfl (fun ls' h' => k p l e s m below meth c H locs dC dI cA ad ls' C hP hQ hS ?_)
  rw [flt1] at h'
  rw [← hl']
  exact h'
theorem Lw_iinc {i : Nat} {j : Int} {x v : Int32} {lv' : List (Nat × Value)} (q : Nat) (hd : decode code pc = .ok (.iinc i j, 3)) (hj : lv[q]? = some (i, .int x)) (hv : x + Int32.ofInt j = v) (hn : i < 4) (hl' : (i, Value.int v) :: lv.filter (fun q => !(q.1 == i) && !(q.1 + 1 == i && q.2.category == 2)) = lv') (k : Lw b0 N0 xs (pc + 3) lv' st MC MS) : Lw b0 N0 xs pc lv st MC MS := by
  intro p l e s m below meth c H locs dC dI cA ad ls C hP hQ hS hl
  refine lv_iinc C.1 C.2.1 hd hl (k := q) (x := x) (v := v) (by rw [List.getElem?_map, hj]; rfl) hv hn rfl (fun ls' h' => k p l e s m below meth c H locs dC dI cA ad ls' C hP hQ hS ?_)
  rw [flt1] at h'
  rw [← hl']
  exact h'
theorem Lw_iadd {x y : Int32} (hd : decode code pc = .ok (.iadd, 1)) (k : Lw b0 N0 xs (pc + 1) lv (.int (x + y) :: st) MC MS) : Lw b0 N0 xs pc lv (.int y :: .int x :: st) MC MS := by
  intro p l e s m below meth c H locs dC dI cA ad ls C hP hQ hS hl
  exact lv_iadd C.1 C.2.1 hd  (k p l e s m below meth c H locs dC dI cA ad ls C hP hQ hS hl)
theorem Lw_isub {x y : Int32} (hd : decode code pc = .ok (.isub, 1)) (k : Lw b0 N0 xs (pc + 1) lv (.int (x - y) :: st) MC MS) : Lw b0 N0 xs pc lv (.int y :: .int x :: st) MC MS := by
  intro p l e s m below meth c H locs dC dI cA ad ls C hP hQ hS hl
  exact lv_isub C.1 C.2.1 hd  (k p l e s m below meth c H locs dC dI cA ad ls C hP hQ hS hl)
theorem Lw_imul {x y : Int32} (hd : decode code pc = .ok (.imul, 1)) (k : Lw b0 N0 xs (pc + 1) lv (.int (x * y) :: st) MC MS) : Lw b0 N0 xs pc lv (.int y :: .int x :: st) MC MS := by
  intro p l e s m below meth c H locs dC dI cA ad ls C hP hQ hS hl
  exact lv_imul C.1 C.2.1 hd  (k p l e s m below meth c H locs dC dI cA ad ls C hP hQ hS hl)
theorem Lw_iand {x y : Int32} (hd : decode code pc = .ok (.iand, 1)) (k : Lw b0 N0 xs (pc + 1) lv (.int (x &&& y) :: st) MC MS) : Lw b0 N0 xs pc lv (.int y :: .int x :: st) MC MS := by
  intro p l e s m below meth c H locs dC dI cA ad ls C hP hQ hS hl
  exact lv_iand C.1 C.2.1 hd  (k p l e s m below meth c H locs dC dI cA ad ls C hP hQ hS hl)
theorem Lw_ior {x y : Int32} (hd : decode code pc = .ok (.ior, 1)) (k : Lw b0 N0 xs (pc + 1) lv (.int (x ||| y) :: st) MC MS) : Lw b0 N0 xs pc lv (.int y :: .int x :: st) MC MS := by
  intro p l e s m below meth c H locs dC dI cA ad ls C hP hQ hS hl
  exact lv_ior C.1 C.2.1 hd  (k p l e s m below meth c H locs dC dI cA ad ls C hP hQ hS hl)
theorem Lw_ixor {x y : Int32} (hd : decode code pc = .ok (.ixor, 1)) (k : Lw b0 N0 xs (pc + 1) lv (.int (x ^^^ y) :: st) MC MS) : Lw b0 N0 xs pc lv (.int y :: .int x :: st) MC MS := by
  intro p l e s m below meth c H locs dC dI cA ad ls C hP hQ hS hl
  exact lv_ixor C.1 C.2.1 hd  (k p l e s m below meth c H locs dC dI cA ad ls C hP hQ hS hl)
theorem Lw_ladd {x y : Int64} (hd : decode code pc = .ok (.ladd, 1)) (k : Lw b0 N0 xs (pc + 1) lv (.long (x + y) :: st) MC MS) : Lw b0 N0 xs pc lv (.long y :: .long x :: st) MC MS := by
  intro p l e s m below meth c H locs dC dI cA ad ls C hP hQ hS hl
  exact lv_ladd C.1 C.2.1 hd  (k p l e s m below meth c H locs dC dI cA ad ls C hP hQ hS hl)
theorem Lw_lsub {x y : Int64} (hd : decode code pc = .ok (.lsub, 1)) (k : Lw b0 N0 xs (pc + 1) lv (.long (x - y) :: st) MC MS) : Lw b0 N0 xs pc lv (.long y :: .long x :: st) MC MS := by
  intro p l e s m below meth c H locs dC dI cA ad ls C hP hQ hS hl
  exact lv_lsub C.1 C.2.1 hd  (k p l e s m below meth c H locs dC dI cA ad ls C hP hQ hS hl)
theorem Lw_land {x y : Int64} (hd : decode code pc = .ok (.land, 1)) (k : Lw b0 N0 xs (pc + 1) lv (.long (x &&& y) :: st) MC MS) : Lw b0 N0 xs pc lv (.long y :: .long x :: st) MC MS := by
  intro p l e s m below meth c H locs dC dI cA ad ls C hP hQ hS hl
  exact lv_land C.1 C.2.1 hd  (k p l e s m below meth c H locs dC dI cA ad ls C hP hQ hS hl)
theorem Lw_lor {x y : Int64} (hd : decode code pc = .ok (.lor, 1)) (k : Lw b0 N0 xs (pc + 1) lv (.long (x ||| y) :: st) MC MS) : Lw b0 N0 xs pc lv (.long y :: .long x :: st) MC MS := by
  intro p l e s m below meth c H locs dC dI cA ad ls C hP hQ hS hl
  exact lv_lor C.1 C.2.1 hd  (k p l e s m below meth c H locs dC dI cA ad ls C hP hQ hS hl)
theorem Lw_lshl {x : Int64} {y : Int32} (hd : decode code pc = .ok (.lshl, 1)) (k : Lw b0 N0 xs (pc + 1) lv (.long (x <<< (y.toInt64 &&& 63)) :: st) MC MS) : Lw b0 N0 xs pc lv (.int y :: .long x :: st) MC MS := by
  intro p l e s m below meth c H locs dC dI cA ad ls C hP hQ hS hl
  exact lv_lshl C.1 C.2.1 hd rfl (k p l e s m below meth c H locs dC dI cA ad ls C hP hQ hS hl)
theorem Lw_i2l {x : Int32} (hd : decode code pc = .ok (.i2l, 1)) (k : Lw b0 N0 xs (pc + 1) lv (.long x.toInt64 :: st) MC MS) : Lw b0 N0 xs pc lv (.int x :: st) MC MS := by
  intro p l e s m below meth c H locs dC dI cA ad ls C hP hQ hS hl
  exact lv_i2l C.1 C.2.1 hd rfl (k p l e s m below meth c H locs dC dI cA ad ls C hP hQ hS hl)
theorem Lw_l2i {x : Int64} (hd : decode code pc = .ok (.l2i, 1)) (k : Lw b0 N0 xs (pc + 1) lv (.int x.toInt32 :: st) MC MS) : Lw b0 N0 xs pc lv (.long x :: st) MC MS := by
  intro p l e s m below meth c H locs dC dI cA ad ls C hP hQ hS hl
  exact lv_l2i C.1 C.2.1 hd rfl (k p l e s m below meth c H locs dC dI cA ad ls C hP hQ hS hl)
theorem Lw_lcmp {x y : Int64} (hd : decode code pc = .ok (.lcmp, 1)) (k : Lw b0 N0 xs (pc + 1) lv (.int (lg_cmp x y) :: st) MC MS) : Lw b0 N0 xs pc lv (.long y :: .long x :: st) MC MS := by
  intro p l e s m below meth c H locs dC dI cA ad ls C hP hQ hS hl
  exact W.lcmp C.1 C.2.1 hd  (k p l e s m below meth c H locs dC dI cA ad ls C hP hQ hS hl)
theorem Lw_dup {v : Value} (hd : decode code pc = .ok (.dup, 1)) (hv : v.category = 1) (k : Lw b0 N0 xs (pc + 1) lv (v :: v :: st) MC MS) : Lw b0 N0 xs pc lv (v :: st) MC MS := by
  intro p l e s m below meth c H locs dC dI cA ad ls C hP hQ hS hl
  exact lv_dup C.1 C.2.1 hd (by rw [rv_cat]; exact hv) (k p l e s m below meth c H locs dC dI cA ad ls C hP hQ hS hl)
theorem Lw_if_eq {x : Int32} {off : Int} (tgt : Nat) (hd : decode code pc = .ok (.ifCond .eq off, 3)) (ht : (pc : Int) + off = (tgt : Int)) (kt : x = 0 → Lw b0 N0 xs tgt lv st MC MS) (kf : ¬ x = 0 → Lw b0 N0 xs (pc + 3) lv st MC MS) : Lw b0 N0 xs pc lv (.int x :: st) MC MS := by
  intro p l e s m below meth c H locs dC dI cA ad ls C hP hQ hS hl
  exact lv_if_eq C.1 C.2.1 hd ht (fun h => kt h p l e s m below meth c H locs dC dI cA ad ls C hP hQ hS hl) (fun h => kf h p l e s m below meth c H locs dC dI cA ad ls C hP hQ hS hl)
theorem Lw_if_ne {x : Int32} {off : Int} (tgt : Nat) (hd : decode code pc = .ok (.ifCond .ne off, 3)) (ht : (pc : Int) + off = (tgt : Int)) (kt : ¬ x = 0 → Lw b0 N0 xs tgt lv st MC MS) (kf : x = 0 → Lw b0 N0 xs (pc + 3) lv st MC MS) : Lw b0 N0 xs pc lv (.int x :: st) MC MS := by
  intro p l e s m below meth c H locs dC dI cA ad ls C hP hQ hS hl
  exact lv_if_ne C.1 C.2.1 hd ht (fun h => kt h p l e s m below meth c H locs dC dI cA ad ls C hP hQ hS hl) (fun h => kf h p l e s m below meth c H locs dC dI cA ad ls C hP hQ hS hl)
theorem Lw_if_lt {x : Int32} {off : Int} (tgt : Nat) (hd : decode code pc = .ok (.ifCond .lt off, 3)) (ht : (pc : Int) + off = (tgt : Int)) (kt : x < 0 → Lw b0 N0 xs tgt lv st MC MS) (kf : ¬ x < 0 → Lw b0 N0 xs (pc + 3) lv st MC MS) : Lw b0 N0 xs pc lv (.int x :: st) MC MS := by
  intro p l e s m below meth c H locs dC dI cA ad ls C hP hQ hS hl
  exact lv_if_lt C.1 C.2.1 hd ht (fun h => kt h p l e s m below meth c H locs dC dI cA ad ls C hP hQ hS hl) (fun h => kf h p l e s m below meth c H locs dC dI cA ad ls C hP hQ hS hl)
theorem Lw_if_ge {x : Int32} {off : Int} (tgt : Nat) (hd : decode code pc = .ok (.ifCond .ge off, 3)) (ht : (pc : Int) + off = (tgt : Int)) (kt : 0 ≤ x → Lw b0 N0 xs tgt lv st MC MS) (kf : ¬ 0 ≤ x → Lw b0 N0 xs (pc + 3) lv st MC MS) : Lw b0 N0 xs pc lv (.int x :: st) MC MS := by
  intro p l e s m below meth c H locs dC dI cA ad ls C hP hQ hS hl
  exact lv_if_ge C.1 C.2.1 hd ht (fun h => kt h p l e s m below meth c H locs dC dI cA ad ls C hP hQ hS hl) (fun h => kf h p l e s m below meth c H locs dC dI cA ad ls C hP hQ hS hl)
theorem Lw_if_gt {x : Int32} {off : Int} (tgt : Nat) (hd : decode code pc = .ok (.ifCond .gt off, 3)) (ht : (pc : Int) + off = (tgt : Int)) (kt : 0 < x → Lw b0 N0 xs tgt lv st MC MS) (kf : ¬ 0 < x → Lw b0 N0 xs (pc + 3) lv st MC MS) : Lw b0 N0 xs pc lv (.int x :: st) MC MS := by
  intro p l e s m below meth c H locs dC dI cA ad ls C hP hQ hS hl
  exact lv_if_gt C.1 C.2.1 hd ht (fun h => kt h p l e s m below meth c H locs dC dI cA ad ls C hP hQ hS hl) (fun h => kf h p l e s m below meth c H locs dC dI cA ad ls C hP hQ hS hl)
theorem Lw_if_le {x : Int32} {off : Int} (tgt : Nat) (hd : decode code pc = .ok (.ifCond .le off, 3)) (ht : (pc : Int) + off = (tgt : Int)) (kt : x ≤ 0 → Lw b0 N0 xs tgt lv st MC MS) (kf : ¬ x ≤ 0 → Lw b0 N0 xs (pc + 3) lv st MC MS) : Lw b0 N0 xs pc lv (.int x :: st) MC MS := by
  intro p l e s m below meth c H locs dC dI cA ad ls C hP hQ hS hl
  exact lv_if_le C.1 C.2.1 hd ht (fun h => kt h p l e s m below meth c H locs dC dI cA ad ls C hP hQ hS hl) (fun h => kf h p l e s m below meth c H locs dC dI cA ad ls C hP hQ hS hl)
theorem Lw_icmp_eq {x y : Int32} {off : Int} (tgt : Nat) (hd : decode code pc = .ok (.if_icmp .eq off, 3)) (ht : (pc : Int) + off = (tgt : Int)) (kt : x = y → Lw b0 N0 xs tgt lv st MC MS) (kf : ¬ x = y → Lw b0 N0 xs (pc + 3) lv st MC MS) : Lw b0 N0 xs pc lv (.int y :: .int x :: st) MC MS := by
  intro p l e s m below meth c H locs dC dI cA ad ls C hP hQ hS hl
  exact lv_icmp_eq C.1 C.2.1 hd ht (fun h => kt h p l e s m below meth c H locs dC dI cA ad ls C hP hQ hS hl) (fun h => kf h p l e s m below meth c H locs dC dI cA ad ls C hP hQ hS hl)
theorem Lw_icmp_ne {x y : Int32} {off : Int} (tgt : Nat) (hd : decode code pc = .ok (.if_icmp .ne off, 3)) (ht : (pc : Int) + off = (tgt : Int)) (kt : ¬ x = y → Lw b0 N0 xs tgt lv st MC MS) (kf : x = y → Lw b0 N0 xs (pc + 3) lv st MC MS) : Lw b0 N0 xs pc lv (.int y :: .int x :: st) MC MS := by
  intro p l e s m below meth c H locs dC dI cA ad ls C hP hQ hS hl
  exact lv_icmp_ne C.1 C.2.1 hd ht (fun h => kt h p l e s m below meth c H locs dC dI cA ad ls C hP hQ hS hl) (fun h => kf h p l e s m below meth c H locs dC dI cA ad ls C hP hQ hS hl)
theorem Lw_icmp_lt {x y : Int32} {off : Int} (tgt : Nat) (hd : decode code pc = .ok (.if_icmp .lt off, 3)) (ht : (pc : Int) + off = (tgt : Int)) (kt : x < y → Lw b0 N0 xs tgt lv st MC MS) (kf : ¬ x < y → Lw b0 N0 xs (pc + 3) lv st MC MS) : Lw b0 N0 xs pc lv (.int y :: .int x :: st) MC MS := by
  intro p l e s m below meth c H locs dC dI cA ad ls C hP hQ hS hl
  exact lv_icmp_lt C.1 C.2.1 hd ht (fun h => kt h p l e s m below meth c H locs dC dI cA ad ls C hP hQ hS hl) (fun h => kf h p l e s m below meth c H locs dC dI cA ad ls C hP hQ hS hl)
theorem Lw_icmp_ge {x y : Int32} {off : Int} (tgt : Nat) (hd : decode code pc = .ok (.if_icmp .ge off, 3)) (ht : (pc : Int) + off = (tgt : Int)) (kt : y ≤ x → Lw b0 N0 xs tgt lv st MC MS) (kf : ¬ y ≤ x → Lw b0 N0 xs (pc + 3) lv st MC MS) : Lw b0 N0 xs pc lv (.int y :: .int x :: st) MC MS := by
  intro p l e s m below meth c H locs dC dI cA ad ls C hP hQ hS hl
  exact lv_icmp_ge C.1 C.2.1 hd ht (fun h => kt h p l e s m below meth c H locs dC dI cA ad ls C hP hQ hS hl) (fun h => kf h p l e s m below meth c H locs dC dI cA ad ls C hP hQ hS hl)
theorem Lw_icmp_gt {x y : Int32} {off : Int} (tgt : Nat) (hd : decode code pc = .ok (.if_icmp .gt off, 3)) (ht : (pc : Int) + off = (tgt : Int)) (kt : y < x → Lw b0 N0 xs tgt lv st MC MS) (kf : ¬ y < x → Lw b0 N0 xs (pc + 3) lv st MC MS) : Lw b0 N0 xs pc lv (.int y :: .int x :: st) MC MS := by
  intro p l e s m below meth c H locs dC dI cA ad ls C hP hQ hS hl
  exact lv_icmp_gt C.1 C.2.1 hd ht (fun h => kt h p l e s m below meth c H locs dC dI cA ad ls C hP hQ hS hl) (fun h => kf h p l e s m below meth c H locs dC dI cA ad ls C hP hQ hS hl)
theorem Lw_icmp_le {x y : Int32} {off : Int} (tgt : Nat) (hd : decode code pc = .ok (.if_icmp .le off, 3)) (ht : (pc : Int) + off = (tgt : Int)) (kt : x ≤ y → Lw b0 N0 xs tgt lv st MC MS) (kf : ¬ x ≤ y → Lw b0 N0 xs (pc + 3) lv st MC MS) : Lw b0 N0 xs pc lv (.int y :: .int x :: st) MC MS := by
  intro p l e s m below meth c H locs dC dI cA ad ls C hP hQ hS hl
  exact lv_icmp_le C.1 C.2.1 hd ht (fun h => kt h p l e s m below meth c H locs dC dI cA ad ls C hP hQ hS hl) (fun h => kf h p l e s m below meth c H locs dC dI cA ad ls C hP hQ hS hl)
theorem Lw_goto {off : Int} (tgt : Nat) (hd : decode code pc = .ok (.goto off, 3)) (ht : (pc : Int) + off = (tgt : Int)) (k : Lw b0 N0 xs tgt lv st MC MS) : Lw b0 N0 xs pc lv st MC MS := by
  intro p l e s m below meth c H locs dC dI cA ad ls C hP hQ hS hl
  exact lv_goto C.1 C.2.1 hd ht (k p l e s m below meth c H locs dC dI cA ad ls C hP hQ hS hl)
theorem Lw_tabOut {dflt lo hi : Int} {offs : Array Int} {len : Nat} {x : Int32} (tgt : Nat) (hd : decode code pc = .ok (.tableswitch dflt lo hi offs, len)) (h : x.toInt < lo ∨ hi < x.toInt) (ht : (pc : Int) + dflt = (tgt : Int)) (k : Lw b0 N0 xs tgt lv st MC MS) : Lw b0 N0 xs pc lv (.int x :: st) MC MS := by
  intro p l e s m below meth c H locs dC dI cA ad ls C hP hQ hS hl
  exact lv_tableOut C.1 C.2.1 hd h ht (k p l e s m below meth c H locs dC dI cA ad ls C hP hQ hS hl)
theorem Lw_tabIn {dflt lo hi : Int} {offs : Array Int} {len : Nat} {x : Int32} {off : Int} (tgt : Nat) (hd : decode code pc = .ok (.tableswitch dflt lo hi offs, len)) (h1 : ¬ x.toInt < lo) (h2 : ¬ hi < x.toInt) (ho : offs[(x.toInt - lo).toNat]? = some off) (ht : (pc : Int) + off = (tgt : Int)) (k : Lw b0 N0 xs tgt lv st MC MS) : Lw b0 N0 xs pc lv (.int x :: st) MC MS := by
  intro p l e s m below meth c H locs dC dI cA ad ls C hP hQ hS hl
  exact lv_tableIn C.1 C.2.1 hd h1 h2 ho ht (k p l e s m below meth c H locs dC dI cA ad ls C hP hQ hS hl)
theorem Lw_ldc {idx : Nat} {v : Int32} (hd : decode code pc = .ok (.ldc idx, 2)) (hc : Cond.constant R_law idx v ∈ TG) (k : Lw b0 N0 xs (pc + 2) lv (.int v :: st) MC MS) : Lw b0 N0 xs pc lv st MC MS := by
  intro p l e s m below meth c H locs dC dI cA ad ls C hP hQ hS hl
  exact lv_ldc C.1 C.2.1 C.2.2.2.2.2.1 (C.2.2.2.2.2.2.1 _ hc) hd (k p l e s m below meth c H locs dC dI cA ad ls C hP hQ hS hl)
theorem Lw_ldcw {idx : Nat} {v : Int32} (hd : decode code pc = .ok (.ldc_w idx, 3)) (hc : Cond.constant R_law idx v ∈ TG) (k : Lw b0 N0 xs (pc + 3) lv (.int v :: st) MC MS) : Lw b0 N0 xs pc lv st MC MS := by
  intro p l e s m below meth c H locs dC dI cA ad ls C hP hQ hS hl
  exact lv_ldcw C.1 C.2.1 C.2.2.2.2.2.1 (C.2.2.2.2.2.2.1 _ hc) hd (k p l e s m below meth c H locs dC dI cA ad ls C hP hQ hS hl)
theorem Lw_ldc2 {idx : Nat} {v : Int64} (hd : decode code pc = .ok (.ldc2_w idx, 3)) (hc : Cond.constantLong R_law idx v ∈ TG) (k : Lw b0 N0 xs (pc + 3) lv (.long v :: st) MC MS) : Lw b0 N0 xs pc lv st MC MS := by
  intro p l e s m below meth c H locs dC dI cA ad ls C hP hQ hS hl
  exact lv_ldc2 C.1 C.2.1 C.2.2.2.2.2.1 (C.2.2.2.2.2.2.1 _ hc) hd (k p l e s m below meth c H locs dC dI cA ad ls C hP hQ hS hl)
end LW
