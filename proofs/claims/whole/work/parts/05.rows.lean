def Ob (b n c ci : Nat) : Prop := b ≤ c ∧ c < b + n ∧ kd c = ci
section FR
variable {b n d : Nat} {μ : MI} {pc : Nat} {lv : List (Nat × Value)} {st : List Value} {M : Mem} {Q : Option Value → Mem → Prop}
theorem lv_at2 {ad : Nat → Nat} {ls : Array Slot} {nL k i : Nat} {v : Value} (h : lv_has ls nL (lv.map (rq ad))) (hk : lv[k]? = some (i, v)) : ls[i]? = some (.val (rv ad v)) := lv_at h k (by rw [List.getElem?_map, hk]; rfl)
theorem Fr_loc {lv' : List (Nat × Value)} (ks : List Nat) (hl' : lv_pick lv ks = lv') (k : Fr b n d μ pc lv' st M Q) : Fr b n d μ pc lv st M Q := by
  intro p l e s m args below meth c H locs dC dI cA ad A ls C hP hS hl
  refine k p l e s m args below meth c H locs dC dI cA ad A ls C hP hS (lv_sub hl ks ?_)
  rw [← hl']
  unfold lv_pick
  rw [List.map_filterMap]
  congr 1
  funext j
  rw [List.getElem?_map]
theorem Fr_iconst {i : Int} {v : Int32} (hd : decode μ.2.1 pc = .ok (.iconst i, 1)) (hv : Int32.ofInt i = v) (k : Fr b n d μ (pc + 1) lv (.int v :: st) M Q) : Fr b n d μ pc lv (st) M Q := by
  intro p l e s m args below meth c H locs dC dI cA ad A ls C hP hS hl
  exact lv_iconst C.1 C.2.1 hd hv (k p l e s m args below meth c H locs dC dI cA ad A ls C hP hS hl)
theorem Fr_bipush {i : Int} {v : Int32} (hd : decode μ.2.1 pc = .ok (.bipush i, 2)) (hv : (Int8.ofInt i).toInt32 = v) (k : Fr b n d μ (pc + 2) lv (.int v :: st) M Q) : Fr b n d μ pc lv (st) M Q := by
  intro p l e s m args below meth c H locs dC dI cA ad A ls C hP hS hl
  exact lv_bipush C.1 C.2.1 hd hv (k p l e s m args below meth c H locs dC dI cA ad A ls C hP hS hl)
theorem Fr_sipush {i : Int} {v : Int32} (hd : decode μ.2.1 pc = .ok (.sipush i, 3)) (hv : (Int16.ofInt i).toInt32 = v) (k : Fr b n d μ (pc + 3) lv (.int v :: st) M Q) : Fr b n d μ pc lv (st) M Q := by
  intro p l e s m args below meth c H locs dC dI cA ad A ls C hP hS hl
  exact lv_sipush C.1 C.2.1 hd hv (k p l e s m args below meth c H locs dC dI cA ad A ls C hP hS hl)
theorem Fr_lconst {i : Fin 2} {v : Int64} (hd : decode μ.2.1 pc = .ok (.lconst i, 1)) (hv : Int64.ofNat (i : Nat) = v) (k : Fr b n d μ (pc + 1) lv (.long v :: st) M Q) : Fr b n d μ pc lv (st) M Q := by
  intro p l e s m args below meth c H locs dC dI cA ad A ls C hP hS hl
  exact lv_lconst C.1 C.2.1 hd hv (k p l e s m args below meth c H locs dC dI cA ad A ls C hP hS hl)
theorem Fr_iload_n {q : Fin 4} {i : Nat} {x : Int32} (j : Nat) (hd : decode μ.2.1 pc = .ok (.iload_n q, 1)) (hi : (q : Nat) = i) (hj : lv[j]? = some (i, .int x)) (k : Fr b n d μ (pc + 1) lv (.int x :: st) M Q) : Fr b n d μ pc lv (st) M Q := by
  intro p l e s m args below meth c H locs dC dI cA ad A ls C hP hS hl
  exact lv_iload_n C.1 C.2.1 hd hi (lv_at2 hl hj) (k p l e s m args below meth c H locs dC dI cA ad A ls C hP hS hl)
theorem Fr_iload {i : Nat} {x : Int32} (j : Nat) (hd : decode μ.2.1 pc = .ok (.iload i, 2)) (hj : lv[j]? = some (i, .int x)) (k : Fr b n d μ (pc + 2) lv (.int x :: st) M Q) : Fr b n d μ pc lv (st) M Q := by
  intro p l e s m args below meth c H locs dC dI cA ad A ls C hP hS hl
  exact lv_iload C.1 C.2.1 hd (lv_at2 hl hj) (k p l e s m args below meth c H locs dC dI cA ad A ls C hP hS hl)
theorem Fr_istore_n {q : Fin 4} {i : Nat} {x : Int32} {lv' : List (Nat × Value)} (hd : decode μ.2.1 pc = .ok (.istore_n q, 1)) (hi : (q : Nat) = i) (hn : i < μ.2.2.1) (hl' : (i, Value.int x) :: lv.filter (fun q => !(q.1 == i) && !(q.1 + 1 == i && q.2.category == 2)) = lv') (k : Fr b n d μ (pc + 1) lv' st M Q) : Fr b n d μ pc lv (.int x :: st) M Q := by
  intro p l e s m args below meth c H locs dC dI cA ad A ls C hP hS hl
  refine lv_istore_n C.1 C.2.1 hd hi hl hn rfl (fun ls' h' => k p l e s m args below meth c H locs dC dI cA ad A ls' C hP hS ?_)
  rw [flt1] at h'
  rw [← hl']
  exact h'
theorem Fr_istore {i : Nat} {x : Int32} {lv' : List (Nat × Value)} (hd : decode μ.2.1 pc = .ok (.istore i, 2)) (hn : i < μ.2.2.1) (hl' : (i, Value.int x) :: lv.filter (fun q => !(q.1 == i) && !(q.1 + 1 == i && q.2.category == 2)) = lv') (k : Fr b n d μ (pc + 2) lv' st M Q) : Fr b n d μ pc lv (.int x :: st) M Q := by
  intro p l e s m args below meth c H locs dC dI cA ad A ls C hP hS hl
  refine lv_istore C.1 C.2.1 hd hl hn rfl (fun ls' h' => k p l e s m args below meth c H locs dC dI cA ad A ls' C hP hS ?_)
  rw [flt1] at h'
  rw [← hl']
  exact h'
theorem Fr_lload_n {q : Fin 4} {i : Nat} {x : Int64} (j : Nat) (hd : decode μ.2.1 pc = .ok (.lload_n q, 1)) (hi : (q : Nat) = i) (hj : lv[j]? = some (i, .long x)) (k : Fr b n d μ (pc + 1) lv (.long x :: st) M Q) : Fr b n d μ pc lv (st) M Q := by
  intro p l e s m args below meth c H locs dC dI cA ad A ls C hP hS hl
  exact lv_lload_n C.1 C.2.1 hd hi (lv_at2 hl hj) (k p l e s m args below meth c H locs dC dI cA ad A ls C hP hS hl)
theorem Fr_lload {i : Nat} {x : Int64} (j : Nat) (hd : decode μ.2.1 pc = .ok (.lload i, 2)) (hj : lv[j]? = some (i, .long x)) (k : Fr b n d μ (pc + 2) lv (.long x :: st) M Q) : Fr b n d μ pc lv (st) M Q := by
  intro p l e s m args below meth c H locs dC dI cA ad A ls C hP hS hl
  exact lv_lload C.1 C.2.1 hd (lv_at2 hl hj) (k p l e s m args below meth c H locs dC dI cA ad A ls C hP hS hl)
theorem Fr_lstore_n {q : Fin 4} {i : Nat} {x : Int64} {lv' : List (Nat × Value)} (hd : decode μ.2.1 pc = .ok (.lstore_n q, 1)) (hi : (q : Nat) = i) (hn : i + 1 < μ.2.2.1) (hl' : (i, Value.long x) :: lv.filter (fun q => !(q.1 == i) && (!(q.1 == i + 1) && !(q.1 + 1 == i && q.2.category == 2))) = lv') (k : Fr b n d μ (pc + 1) lv' st M Q) : Fr b n d μ pc lv (.long x :: st) M Q := by
  intro p l e s m args below meth c H locs dC dI cA ad A ls C hP hS hl
  refine lv_lstore_n C.1 C.2.1 hd hi hl hn rfl (fun ls' h' => k p l e s m args below meth c H locs dC dI cA ad A ls' C hP hS ?_)
  rw [flt2] at h'
  rw [← hl']
  exact h'
theorem Fr_lstore {i : Nat} {x : Int64} {lv' : List (Nat × Value)} (hd : decode μ.2.1 pc = .ok (.lstore i, 2)) (hn : i + 1 < μ.2.2.1) (hl' : (i, Value.long x) :: lv.filter (fun q => !(q.1 == i) && (!(q.1 == i + 1) && !(q.1 + 1 == i && q.2.category == 2))) = lv') (k : Fr b n d μ (pc + 2) lv' st M Q) : Fr b n d μ pc lv (.long x :: st) M Q := by
  intro p l e s m args below meth c H locs dC dI cA ad A ls C hP hS hl
  refine lv_lstore C.1 C.2.1 hd hl hn rfl (fun ls' h' => k p l e s m args below meth c H locs dC dI cA ad A ls' C hP hS ?_)
  rw [flt2] at h'
  rw [← hl']
  exact h'
theorem Fr_aload_n {q : Fin 4} {i : Nat} {x : Nat} (j : Nat) (hd : decode μ.2.1 pc = .ok (.aload_n q, 1)) (hi : (q : Nat) = i) (hj : lv[j]? = some (i, .ref x)) (k : Fr b n d μ (pc + 1) lv (.ref x :: st) M Q) : Fr b n d μ pc lv (st) M Q := by
  intro p l e s m args below meth c H locs dC dI cA ad A ls C hP hS hl
  exact lv_aload_n C.1 C.2.1 hd hi (lv_at2 hl hj) (k p l e s m args below meth c H locs dC dI cA ad A ls C hP hS hl)
theorem Fr_aload {i : Nat} {x : Nat} (j : Nat) (hd : decode μ.2.1 pc = .ok (.aload i, 2)) (hj : lv[j]? = some (i, .ref x)) (k : Fr b n d μ (pc + 2) lv (.ref x :: st) M Q) : Fr b n d μ pc lv (st) M Q := by
  intro p l e s m args below meth c H locs dC dI cA ad A ls C hP hS hl
  exact lv_aload C.1 C.2.1 hd (lv_at2 hl hj) (k p l e s m args below meth c H locs dC dI cA ad A ls C hP hS hl)
theorem Fr_astore_n {q : Fin 4} {i : Nat} {x : Nat} {lv' : List (Nat × Value)} (hd : decode μ.2.1 pc = .ok (.astore_n q, 1)) (hi : (q : Nat) = i) (hn : i < μ.2.2.1) (hl' : (i, Value.ref x) :: lv.filter (fun q => !(q.1 == i) && !(q.1 + 1 == i && q.2.category == 2)) = lv') (k : Fr b n d μ (pc + 1) lv' st M Q) : Fr b n d μ pc lv (.ref x :: st) M Q := by
  intro p l e s m args below meth c H locs dC dI cA ad A ls C hP hS hl
  refine lv_astore_n C.1 C.2.1 hd hi hl hn rfl (fun ls' h' => k p l e s m args below meth c H locs dC dI cA ad A ls' C hP hS ?_)
  rw [flt1] at h'
  rw [← hl']
  exact h'
theorem Fr_astore {i : Nat} {x : Nat} {lv' : List (Nat × Value)} (hd : decode μ.2.1 pc = .ok (.astore i, 2)) (hn : i < μ.2.2.1) (hl' : (i, Value.ref x) :: lv.filter (fun q => !(q.1 == i) && !(q.1 + 1 == i && q.2.category == 2)) = lv') (k : Fr b n d μ (pc + 2) lv' st M Q) : Fr b n d μ pc lv (.ref x :: st) M Q := by
  intro p l e s m args below meth c H locs dC dI cA ad A ls C hP hS hl
  refine lv_astore C.1 C.2.1 hd hl hn rfl (fun ls' h' => k p l e s m args below meth c H locs dC dI cA ad A ls' C hP hS ?_)
  rw [flt1] at h'
  rw [← hl']
  exact h'
theorem Fr_iinc {i : Nat} {j : Int} {x v : Int32} {lv' : List (Nat × Value)} (q : Nat) (hd : decode μ.2.1 pc = .ok (.iinc i j, 3)) (hj : lv[q]? = some (i, .int x)) (hv : x + Int32.ofInt j = v) (hn : i < μ.2.2.1) (hl' : (i, Value.int v) :: lv.filter (fun q => !(q.1 == i) && !(q.1 + 1 == i && q.2.category == 2)) = lv') (k : Fr b n d μ (pc + 3) lv' st M Q) : Fr b n d μ pc lv st M Q := by
  intro p l e s m args below meth c H locs dC dI cA ad A ls C hP hS hl
  refine lv_iinc C.1 C.2.1 hd hl (k := q) (x := x) (v := v) (by rw [List.getElem?_map, hj]; rfl) hv hn rfl (fun ls' h' => k p l e s m args below meth c H locs dC dI cA ad A ls' C hP hS ?_)
  rw [flt1] at h'
  rw [← hl']
  exact h'
theorem Fr_iadd {x y : Int32} (hd : decode μ.2.1 pc = .ok (.iadd, 1)) (k : Fr b n d μ (pc + 1) lv (.int (x + y) :: st) M Q) : Fr b n d μ pc lv (.int y :: .int x :: st) M Q := by
  intro p l e s m args below meth c H locs dC dI cA ad A ls C hP hS hl
  exact lv_iadd C.1 C.2.1 hd  (k p l e s m args below meth c H locs dC dI cA ad A ls C hP hS hl)
theorem Fr_isub {x y : Int32} (hd : decode μ.2.1 pc = .ok (.isub, 1)) (k : Fr b n d μ (pc + 1) lv (.int (x - y) :: st) M Q) : Fr b n d μ pc lv (.int y :: .int x :: st) M Q := by
  intro p l e s m args below meth c H locs dC dI cA ad A ls C hP hS hl
  exact lv_isub C.1 C.2.1 hd  (k p l e s m args below meth c H locs dC dI cA ad A ls C hP hS hl)
theorem Fr_imul {x y : Int32} (hd : decode μ.2.1 pc = .ok (.imul, 1)) (k : Fr b n d μ (pc + 1) lv (.int (x * y) :: st) M Q) : Fr b n d μ pc lv (.int y :: .int x :: st) M Q := by
  intro p l e s m args below meth c H locs dC dI cA ad A ls C hP hS hl
  exact lv_imul C.1 C.2.1 hd  (k p l e s m args below meth c H locs dC dI cA ad A ls C hP hS hl)
theorem Fr_iand {x y : Int32} (hd : decode μ.2.1 pc = .ok (.iand, 1)) (k : Fr b n d μ (pc + 1) lv (.int (x &&& y) :: st) M Q) : Fr b n d μ pc lv (.int y :: .int x :: st) M Q := by
  intro p l e s m args below meth c H locs dC dI cA ad A ls C hP hS hl
  exact lv_iand C.1 C.2.1 hd  (k p l e s m args below meth c H locs dC dI cA ad A ls C hP hS hl)
theorem Fr_ior {x y : Int32} (hd : decode μ.2.1 pc = .ok (.ior, 1)) (k : Fr b n d μ (pc + 1) lv (.int (x ||| y) :: st) M Q) : Fr b n d μ pc lv (.int y :: .int x :: st) M Q := by
  intro p l e s m args below meth c H locs dC dI cA ad A ls C hP hS hl
  exact lv_ior C.1 C.2.1 hd  (k p l e s m args below meth c H locs dC dI cA ad A ls C hP hS hl)
theorem Fr_ixor {x y : Int32} (hd : decode μ.2.1 pc = .ok (.ixor, 1)) (k : Fr b n d μ (pc + 1) lv (.int (x ^^^ y) :: st) M Q) : Fr b n d μ pc lv (.int y :: .int x :: st) M Q := by
  intro p l e s m args below meth c H locs dC dI cA ad A ls C hP hS hl
  exact lv_ixor C.1 C.2.1 hd  (k p l e s m args below meth c H locs dC dI cA ad A ls C hP hS hl)
theorem Fr_ishl {x y : Int32} (hd : decode μ.2.1 pc = .ok (.ishl, 1)) (k : Fr b n d μ (pc + 1) lv (.int (x <<< (y &&& 31)) :: st) M Q) : Fr b n d μ pc lv (.int y :: .int x :: st) M Q := by
  intro p l e s m args below meth c H locs dC dI cA ad A ls C hP hS hl
  exact lv_ishl C.1 C.2.1 hd  (k p l e s m args below meth c H locs dC dI cA ad A ls C hP hS hl)
theorem Fr_ishr {x y : Int32} (hd : decode μ.2.1 pc = .ok (.ishr, 1)) (k : Fr b n d μ (pc + 1) lv (.int (x >>> (y &&& 31)) :: st) M Q) : Fr b n d μ pc lv (.int y :: .int x :: st) M Q := by
  intro p l e s m args below meth c H locs dC dI cA ad A ls C hP hS hl
  exact lv_ishr C.1 C.2.1 hd  (k p l e s m args below meth c H locs dC dI cA ad A ls C hP hS hl)
theorem Fr_idiv {x y : Int32} (hd : decode μ.2.1 pc = .ok (.idiv, 1)) (hy : ¬ y = 0) (k : Fr b n d μ (pc + 1) lv (.int (x / y) :: st) M Q) : Fr b n d μ pc lv (.int y :: .int x :: st) M Q := by
  intro p l e s m args below meth c H locs dC dI cA ad A ls C hP hS hl
  exact lv_idiv C.1 C.2.1 hd hy (k p l e s m args below meth c H locs dC dI cA ad A ls C hP hS hl)
theorem Fr_irem {x y : Int32} (hd : decode μ.2.1 pc = .ok (.irem, 1)) (hy : ¬ y = 0) (k : Fr b n d μ (pc + 1) lv (.int (x - x / y * y) :: st) M Q) : Fr b n d μ pc lv (.int y :: .int x :: st) M Q := by
  intro p l e s m args below meth c H locs dC dI cA ad A ls C hP hS hl
  exact lv_irem C.1 C.2.1 hd hy (k p l e s m args below meth c H locs dC dI cA ad A ls C hP hS hl)
theorem Fr_ladd {x y : Int64} (hd : decode μ.2.1 pc = .ok (.ladd, 1)) (k : Fr b n d μ (pc + 1) lv (.long (x + y) :: st) M Q) : Fr b n d μ pc lv (.long y :: .long x :: st) M Q := by
  intro p l e s m args below meth c H locs dC dI cA ad A ls C hP hS hl
  exact lv_ladd C.1 C.2.1 hd  (k p l e s m args below meth c H locs dC dI cA ad A ls C hP hS hl)
theorem Fr_lsub {x y : Int64} (hd : decode μ.2.1 pc = .ok (.lsub, 1)) (k : Fr b n d μ (pc + 1) lv (.long (x - y) :: st) M Q) : Fr b n d μ pc lv (.long y :: .long x :: st) M Q := by
  intro p l e s m args below meth c H locs dC dI cA ad A ls C hP hS hl
  exact lv_lsub C.1 C.2.1 hd  (k p l e s m args below meth c H locs dC dI cA ad A ls C hP hS hl)
theorem Fr_lmul {x y : Int64} (hd : decode μ.2.1 pc = .ok (.lmul, 1)) (k : Fr b n d μ (pc + 1) lv (.long (x * y) :: st) M Q) : Fr b n d μ pc lv (.long y :: .long x :: st) M Q := by
  intro p l e s m args below meth c H locs dC dI cA ad A ls C hP hS hl
  exact lv_lmul C.1 C.2.1 hd  (k p l e s m args below meth c H locs dC dI cA ad A ls C hP hS hl)
theorem Fr_land {x y : Int64} (hd : decode μ.2.1 pc = .ok (.land, 1)) (k : Fr b n d μ (pc + 1) lv (.long (x &&& y) :: st) M Q) : Fr b n d μ pc lv (.long y :: .long x :: st) M Q := by
  intro p l e s m args below meth c H locs dC dI cA ad A ls C hP hS hl
  exact lv_land C.1 C.2.1 hd  (k p l e s m args below meth c H locs dC dI cA ad A ls C hP hS hl)
theorem Fr_lor {x y : Int64} (hd : decode μ.2.1 pc = .ok (.lor, 1)) (k : Fr b n d μ (pc + 1) lv (.long (x ||| y) :: st) M Q) : Fr b n d μ pc lv (.long y :: .long x :: st) M Q := by
  intro p l e s m args below meth c H locs dC dI cA ad A ls C hP hS hl
  exact lv_lor C.1 C.2.1 hd  (k p l e s m args below meth c H locs dC dI cA ad A ls C hP hS hl)
theorem Fr_ldiv {x y : Int64} (hd : decode μ.2.1 pc = .ok (.ldiv, 1)) (hy : ¬ y = 0) (k : Fr b n d μ (pc + 1) lv (.long (x / y) :: st) M Q) : Fr b n d μ pc lv (.long y :: .long x :: st) M Q := by
  intro p l e s m args below meth c H locs dC dI cA ad A ls C hP hS hl
  exact lv_ldiv C.1 C.2.1 hd hy (k p l e s m args below meth c H locs dC dI cA ad A ls C hP hS hl)
theorem Fr_lrem {x y : Int64} (hd : decode μ.2.1 pc = .ok (.lrem, 1)) (hy : ¬ y = 0) (k : Fr b n d μ (pc + 1) lv (.long (x - x / y * y) :: st) M Q) : Fr b n d μ pc lv (.long y :: .long x :: st) M Q := by
  intro p l e s m args below meth c H locs dC dI cA ad A ls C hP hS hl
  exact lv_lrem C.1 C.2.1 hd hy (k p l e s m args below meth c H locs dC dI cA ad A ls C hP hS hl)
theorem Fr_lshl {x : Int64} {y : Int32} (hd : decode μ.2.1 pc = .ok (.lshl, 1)) (k : Fr b n d μ (pc + 1) lv (.long (x <<< (y.toInt64 &&& 63)) :: st) M Q) : Fr b n d μ pc lv (.int y :: .long x :: st) M Q := by
  intro p l e s m args below meth c H locs dC dI cA ad A ls C hP hS hl
  exact lv_lshl C.1 C.2.1 hd rfl (k p l e s m args below meth c H locs dC dI cA ad A ls C hP hS hl)
theorem Fr_iushr {x y : Int32} (hd : decode μ.2.1 pc = .ok (.iushr, 1)) (k : Fr b n d μ (pc + 1) lv (.int ((x.toUInt32 >>> (y.toUInt32 &&& Int32.toUInt32 31)).toInt32) :: st) M Q) : Fr b n d μ pc lv (.int y :: .int x :: st) M Q := by
  intro p l e s m args below meth c H locs dC dI cA ad A ls C hP hS hl
  exact lv_iushr C.1 C.2.1 hd rfl (k p l e s m args below meth c H locs dC dI cA ad A ls C hP hS hl)
theorem Fr_i2l {x : Int32} (hd : decode μ.2.1 pc = .ok (.i2l, 1)) (k : Fr b n d μ (pc + 1) lv (.long x.toInt64 :: st) M Q) : Fr b n d μ pc lv (.int x :: st) M Q := by
  intro p l e s m args below meth c H locs dC dI cA ad A ls C hP hS hl
  exact lv_i2l C.1 C.2.1 hd rfl (k p l e s m args below meth c H locs dC dI cA ad A ls C hP hS hl)
theorem Fr_l2i {x : Int64} (hd : decode μ.2.1 pc = .ok (.l2i, 1)) (k : Fr b n d μ (pc + 1) lv (.int x.toInt32 :: st) M Q) : Fr b n d μ pc lv (.long x :: st) M Q := by
  intro p l e s m args below meth c H locs dC dI cA ad A ls C hP hS hl
  exact lv_l2i C.1 C.2.1 hd rfl (k p l e s m args below meth c H locs dC dI cA ad A ls C hP hS hl)
theorem Fr_i2b {x : Int32} (hd : decode μ.2.1 pc = .ok (.i2b, 1)) (k : Fr b n d μ (pc + 1) lv (.int x.toInt8.toInt32 :: st) M Q) : Fr b n d μ pc lv (.int x :: st) M Q := by
  intro p l e s m args below meth c H locs dC dI cA ad A ls C hP hS hl
  exact lv_i2b C.1 C.2.1 hd rfl (k p l e s m args below meth c H locs dC dI cA ad A ls C hP hS hl)
theorem Fr_i2s {x : Int32} (hd : decode μ.2.1 pc = .ok (.i2s, 1)) (k : Fr b n d μ (pc + 1) lv (.int x.toInt16.toInt32 :: st) M Q) : Fr b n d μ pc lv (.int x :: st) M Q := by
  intro p l e s m args below meth c H locs dC dI cA ad A ls C hP hS hl
  exact lv_i2s C.1 C.2.1 hd rfl (k p l e s m args below meth c H locs dC dI cA ad A ls C hP hS hl)
theorem Fr_i2c {x : Int32} (hd : decode μ.2.1 pc = .ok (.i2c, 1)) (k : Fr b n d μ (pc + 1) lv (.int (x.toUInt32 % 65536).toInt32 :: st) M Q) : Fr b n d μ pc lv (.int x :: st) M Q := by
  intro p l e s m args below meth c H locs dC dI cA ad A ls C hP hS hl
  exact lv_i2c C.1 C.2.1 hd rfl (k p l e s m args below meth c H locs dC dI cA ad A ls C hP hS hl)
theorem Fr_lcmp {x y : Int64} (hd : decode μ.2.1 pc = .ok (.lcmp, 1)) (k : Fr b n d μ (pc + 1) lv (.int (lg_cmp x y) :: st) M Q) : Fr b n d μ pc lv (.long y :: .long x :: st) M Q := by
  intro p l e s m args below meth c H locs dC dI cA ad A ls C hP hS hl
  exact W.lcmp C.1 C.2.1 hd  (k p l e s m args below meth c H locs dC dI cA ad A ls C hP hS hl)
theorem Fr_dup {v : Value} (hd : decode μ.2.1 pc = .ok (.dup, 1)) (hv : v.category = 1) (k : Fr b n d μ (pc + 1) lv (v :: v :: st) M Q) : Fr b n d μ pc lv (v :: st) M Q := by
  intro p l e s m args below meth c H locs dC dI cA ad A ls C hP hS hl
  exact lv_dup C.1 C.2.1 hd (by rw [rv_cat]; exact hv) (k p l e s m args below meth c H locs dC dI cA ad A ls C hP hS hl)
theorem Fr_pop {v : Value} (hd : decode μ.2.1 pc = .ok (.pop, 1)) (hv : v.category = 1) (k : Fr b n d μ (pc + 1) lv (st) M Q) : Fr b n d μ pc lv (v :: st) M Q := by
  intro p l e s m args below meth c H locs dC dI cA ad A ls C hP hS hl
  exact lv_pop C.1 C.2.1 hd (by rw [rv_cat]; exact hv) (k p l e s m args below meth c H locs dC dI cA ad A ls C hP hS hl)
theorem Fr_dup2 {v w : Value} (hd : decode μ.2.1 pc = .ok (.dup2, 1)) (hv : v.category = 1) (hw : w.category = 1) (k : Fr b n d μ (pc + 1) lv (v :: w :: v :: w :: st) M Q) : Fr b n d μ pc lv (v :: w :: st) M Q := by
  intro p l e s m args below meth c H locs dC dI cA ad A ls C hP hS hl
  exact lv_dup2_11 C.1 C.2.1 hd (by rw [rv_cat]; exact hv) (by rw [rv_cat]; exact hw) (k p l e s m args below meth c H locs dC dI cA ad A ls C hP hS hl)
theorem Fr_dup2L {v : Value} (hd : decode μ.2.1 pc = .ok (.dup2, 1)) (hv : v.category = 2) (k : Fr b n d μ (pc + 1) lv (v :: v :: st) M Q) : Fr b n d μ pc lv (v :: st) M Q := by
  intro p l e s m args below meth c H locs dC dI cA ad A ls C hP hS hl
  exact lv_dup2_2 C.1 C.2.1 hd (by rw [rv_cat]; exact hv) (k p l e s m args below meth c H locs dC dI cA ad A ls C hP hS hl)
theorem Fr_if_eq {x : Int32} {off : Int} (tgt : Nat) (hd : decode μ.2.1 pc = .ok (.ifCond .eq off, 3)) (ht : (pc : Int) + off = (tgt : Int)) (kt : x = 0 → Fr b n d μ tgt lv st M Q) (kf : ¬ x = 0 → Fr b n d μ (pc + 3) lv st M Q) : Fr b n d μ pc lv (.int x :: st) M Q := by
  intro p l e s m args below meth c H locs dC dI cA ad A ls C hP hS hl
  exact lv_if_eq C.1 C.2.1 hd ht (fun h => kt h p l e s m args below meth c H locs dC dI cA ad A ls C hP hS hl) (fun h => kf h p l e s m args below meth c H locs dC dI cA ad A ls C hP hS hl)
theorem Fr_if_ne {x : Int32} {off : Int} (tgt : Nat) (hd : decode μ.2.1 pc = .ok (.ifCond .ne off, 3)) (ht : (pc : Int) + off = (tgt : Int)) (kt : ¬ x = 0 → Fr b n d μ tgt lv st M Q) (kf : x = 0 → Fr b n d μ (pc + 3) lv st M Q) : Fr b n d μ pc lv (.int x :: st) M Q := by
  intro p l e s m args below meth c H locs dC dI cA ad A ls C hP hS hl
  exact lv_if_ne C.1 C.2.1 hd ht (fun h => kt h p l e s m args below meth c H locs dC dI cA ad A ls C hP hS hl) (fun h => kf h p l e s m args below meth c H locs dC dI cA ad A ls C hP hS hl)
theorem Fr_if_lt {x : Int32} {off : Int} (tgt : Nat) (hd : decode μ.2.1 pc = .ok (.ifCond .lt off, 3)) (ht : (pc : Int) + off = (tgt : Int)) (kt : x < 0 → Fr b n d μ tgt lv st M Q) (kf : ¬ x < 0 → Fr b n d μ (pc + 3) lv st M Q) : Fr b n d μ pc lv (.int x :: st) M Q := by
  intro p l e s m args below meth c H locs dC dI cA ad A ls C hP hS hl
  exact lv_if_lt C.1 C.2.1 hd ht (fun h => kt h p l e s m args below meth c H locs dC dI cA ad A ls C hP hS hl) (fun h => kf h p l e s m args below meth c H locs dC dI cA ad A ls C hP hS hl)
theorem Fr_if_ge {x : Int32} {off : Int} (tgt : Nat) (hd : decode μ.2.1 pc = .ok (.ifCond .ge off, 3)) (ht : (pc : Int) + off = (tgt : Int)) (kt : 0 ≤ x → Fr b n d μ tgt lv st M Q) (kf : ¬ 0 ≤ x → Fr b n d μ (pc + 3) lv st M Q) : Fr b n d μ pc lv (.int x :: st) M Q := by
  intro p l e s m args below meth c H locs dC dI cA ad A ls C hP hS hl
  exact lv_if_ge C.1 C.2.1 hd ht (fun h => kt h p l e s m args below meth c H locs dC dI cA ad A ls C hP hS hl) (fun h => kf h p l e s m args below meth c H locs dC dI cA ad A ls C hP hS hl)
theorem Fr_if_gt {x : Int32} {off : Int} (tgt : Nat) (hd : decode μ.2.1 pc = .ok (.ifCond .gt off, 3)) (ht : (pc : Int) + off = (tgt : Int)) (kt : 0 < x → Fr b n d μ tgt lv st M Q) (kf : ¬ 0 < x → Fr b n d μ (pc + 3) lv st M Q) : Fr b n d μ pc lv (.int x :: st) M Q := by
  intro p l e s m args below meth c H locs dC dI cA ad A ls C hP hS hl
  exact lv_if_gt C.1 C.2.1 hd ht (fun h => kt h p l e s m args below meth c H locs dC dI cA ad A ls C hP hS hl) (fun h => kf h p l e s m args below meth c H locs dC dI cA ad A ls C hP hS hl)
theorem Fr_if_le {x : Int32} {off : Int} (tgt : Nat) (hd : decode μ.2.1 pc = .ok (.ifCond .le off, 3)) (ht : (pc : Int) + off = (tgt : Int)) (kt : x ≤ 0 → Fr b n d μ tgt lv st M Q) (kf : ¬ x ≤ 0 → Fr b n d μ (pc + 3) lv st M Q) : Fr b n d μ pc lv (.int x :: st) M Q := by
  intro p l e s m args below meth c H locs dC dI cA ad A ls C hP hS hl
  exact lv_if_le C.1 C.2.1 hd ht (fun h => kt h p l e s m args below meth c H locs dC dI cA ad A ls C hP hS hl) (fun h => kf h p l e s m args below meth c H locs dC dI cA ad A ls C hP hS hl)
theorem Fr_icmp_eq {x y : Int32} {off : Int} (tgt : Nat) (hd : decode μ.2.1 pc = .ok (.if_icmp .eq off, 3)) (ht : (pc : Int) + off = (tgt : Int)) (kt : x = y → Fr b n d μ tgt lv st M Q) (kf : ¬ x = y → Fr b n d μ (pc + 3) lv st M Q) : Fr b n d μ pc lv (.int y :: .int x :: st) M Q := by
  intro p l e s m args below meth c H locs dC dI cA ad A ls C hP hS hl
  exact lv_icmp_eq C.1 C.2.1 hd ht (fun h => kt h p l e s m args below meth c H locs dC dI cA ad A ls C hP hS hl) (fun h => kf h p l e s m args below meth c H locs dC dI cA ad A ls C hP hS hl)
theorem Fr_icmp_ne {x y : Int32} {off : Int} (tgt : Nat) (hd : decode μ.2.1 pc = .ok (.if_icmp .ne off, 3)) (ht : (pc : Int) + off = (tgt : Int)) (kt : ¬ x = y → Fr b n d μ tgt lv st M Q) (kf : x = y → Fr b n d μ (pc + 3) lv st M Q) : Fr b n d μ pc lv (.int y :: .int x :: st) M Q := by
  intro p l e s m args below meth c H locs dC dI cA ad A ls C hP hS hl
  exact lv_icmp_ne C.1 C.2.1 hd ht (fun h => kt h p l e s m args below meth c H locs dC dI cA ad A ls C hP hS hl) (fun h => kf h p l e s m args below meth c H locs dC dI cA ad A ls C hP hS hl)
theorem Fr_icmp_lt {x y : Int32} {off : Int} (tgt : Nat) (hd : decode μ.2.1 pc = .ok (.if_icmp .lt off, 3)) (ht : (pc : Int) + off = (tgt : Int)) (kt : x < y → Fr b n d μ tgt lv st M Q) (kf : ¬ x < y → Fr b n d μ (pc + 3) lv st M Q) : Fr b n d μ pc lv (.int y :: .int x :: st) M Q := by
  intro p l e s m args below meth c H locs dC dI cA ad A ls C hP hS hl
  exact lv_icmp_lt C.1 C.2.1 hd ht (fun h => kt h p l e s m args below meth c H locs dC dI cA ad A ls C hP hS hl) (fun h => kf h p l e s m args below meth c H locs dC dI cA ad A ls C hP hS hl)
theorem Fr_icmp_ge {x y : Int32} {off : Int} (tgt : Nat) (hd : decode μ.2.1 pc = .ok (.if_icmp .ge off, 3)) (ht : (pc : Int) + off = (tgt : Int)) (kt : y ≤ x → Fr b n d μ tgt lv st M Q) (kf : ¬ y ≤ x → Fr b n d μ (pc + 3) lv st M Q) : Fr b n d μ pc lv (.int y :: .int x :: st) M Q := by
  intro p l e s m args below meth c H locs dC dI cA ad A ls C hP hS hl
  exact lv_icmp_ge C.1 C.2.1 hd ht (fun h => kt h p l e s m args below meth c H locs dC dI cA ad A ls C hP hS hl) (fun h => kf h p l e s m args below meth c H locs dC dI cA ad A ls C hP hS hl)
theorem Fr_icmp_gt {x y : Int32} {off : Int} (tgt : Nat) (hd : decode μ.2.1 pc = .ok (.if_icmp .gt off, 3)) (ht : (pc : Int) + off = (tgt : Int)) (kt : y < x → Fr b n d μ tgt lv st M Q) (kf : ¬ y < x → Fr b n d μ (pc + 3) lv st M Q) : Fr b n d μ pc lv (.int y :: .int x :: st) M Q := by
  intro p l e s m args below meth c H locs dC dI cA ad A ls C hP hS hl
  exact lv_icmp_gt C.1 C.2.1 hd ht (fun h => kt h p l e s m args below meth c H locs dC dI cA ad A ls C hP hS hl) (fun h => kf h p l e s m args below meth c H locs dC dI cA ad A ls C hP hS hl)
theorem Fr_icmp_le {x y : Int32} {off : Int} (tgt : Nat) (hd : decode μ.2.1 pc = .ok (.if_icmp .le off, 3)) (ht : (pc : Int) + off = (tgt : Int)) (kt : x ≤ y → Fr b n d μ tgt lv st M Q) (kf : ¬ x ≤ y → Fr b n d μ (pc + 3) lv st M Q) : Fr b n d μ pc lv (.int y :: .int x :: st) M Q := by
  intro p l e s m args below meth c H locs dC dI cA ad A ls C hP hS hl
  exact lv_icmp_le C.1 C.2.1 hd ht (fun h => kt h p l e s m args below meth c H locs dC dI cA ad A ls C hP hS hl) (fun h => kf h p l e s m args below meth c H locs dC dI cA ad A ls C hP hS hl)
theorem Fr_goto {off : Int} (tgt : Nat) (hd : decode μ.2.1 pc = .ok (.goto off, 3)) (ht : (pc : Int) + off = (tgt : Int)) (k : Fr b n d μ tgt lv st M Q) : Fr b n d μ pc lv st M Q := by
  intro p l e s m args below meth c H locs dC dI cA ad A ls C hP hS hl
  exact lv_goto C.1 C.2.1 hd ht (k p l e s m args below meth c H locs dC dI cA ad A ls C hP hS hl)
theorem Fr_tabOut {dflt lo hi : Int} {offs : Array Int} {len : Nat} {x : Int32} (tgt : Nat) (hd : decode μ.2.1 pc = .ok (.tableswitch dflt lo hi offs, len)) (h : x.toInt < lo ∨ hi < x.toInt) (ht : (pc : Int) + dflt = (tgt : Int)) (k : Fr b n d μ tgt lv st M Q) : Fr b n d μ pc lv (.int x :: st) M Q := by
  intro p l e s m args below meth c H locs dC dI cA ad A ls C hP hS hl
  exact lv_tableOut C.1 C.2.1 hd h ht (k p l e s m args below meth c H locs dC dI cA ad A ls C hP hS hl)
theorem Fr_tabIn {dflt lo hi : Int} {offs : Array Int} {len : Nat} {x : Int32} {off : Int} (tgt : Nat) (hd : decode μ.2.1 pc = .ok (.tableswitch dflt lo hi offs, len)) (h1 : ¬ x.toInt < lo) (h2 : ¬ hi < x.toInt) (ho : offs[(x.toInt - lo).toNat]? = some off) (ht : (pc : Int) + off = (tgt : Int)) (k : Fr b n d μ tgt lv st M Q) : Fr b n d μ pc lv (.int x :: st) M Q := by
  intro p l e s m args below meth c H locs dC dI cA ad A ls C hP hS hl
  exact lv_tableIn C.1 C.2.1 hd h1 h2 ho ht (k p l e s m args below meth c H locs dC dI cA ad A ls C hP hS hl)
theorem Fr_ldc {idx : Nat} {v : Int32} (hd : decode μ.2.1 pc = .ok (.ldc idx, 2)) (hc : Cond.constant μ.1.cls idx v ∈ TG) (k : Fr b n d μ (pc + 2) lv (.int v :: st) M Q) : Fr b n d μ pc lv st M Q := by
  intro p l e s m args below meth c H locs dC dI cA ad A ls C hP hS hl
  exact lv_ldc C.1 C.2.1 C.2.2.2.2.2.1 (C.2.2.2.2.2.2.1 _ hc) hd (k p l e s m args below meth c H locs dC dI cA ad A ls C hP hS hl)
theorem Fr_ldcw {idx : Nat} {v : Int32} (hd : decode μ.2.1 pc = .ok (.ldc_w idx, 3)) (hc : Cond.constant μ.1.cls idx v ∈ TG) (k : Fr b n d μ (pc + 3) lv (.int v :: st) M Q) : Fr b n d μ pc lv st M Q := by
  intro p l e s m args below meth c H locs dC dI cA ad A ls C hP hS hl
  exact lv_ldcw C.1 C.2.1 C.2.2.2.2.2.1 (C.2.2.2.2.2.2.1 _ hc) hd (k p l e s m args below meth c H locs dC dI cA ad A ls C hP hS hl)
theorem Fr_ldc2 {idx : Nat} {v : Int64} (hd : decode μ.2.1 pc = .ok (.ldc2_w idx, 3)) (hc : Cond.constantLong μ.1.cls idx v ∈ TG) (k : Fr b n d μ (pc + 3) lv (.long v :: st) M Q) : Fr b n d μ pc lv st M Q := by
  intro p l e s m args below meth c H locs dC dI cA ad A ls C hP hS hl
  exact lv_ldc2 C.1 C.2.1 C.2.2.2.2.2.1 (C.2.2.2.2.2.2.1 _ hc) hd (k p l e s m args below meth c H locs dC dI cA ad A ls C hP hS hl)
theorem Fr_ldcS {idx : Nat} (i : Nat) (hd : decode μ.2.1 pc = .ok (.ldc idx, 2)) (hi : i < 32) (h1 : (strL.getD i ("", 0, "")).1 = μ.1.cls) (h2 : (strL.getD i ("", 0, "")).2.1 = idx) (k : Fr b n d μ (pc + 2) lv (.ref (400 + i) :: st) M Q) : Fr b n d μ pc lv st M Q := by
  intro p l e s m args below meth c H locs dC dI cA ad A ls C hP hS hl
  obtain ⟨hx, hb, hml, hr, hlk, hown, hts, hK, hD, hA, hE, hAe⟩ := id C
  have hs := (hE.2.2.1 i hi).1
  rw [h1, h2] at hs
  exact va_ldcS hx hb hown hs hd (k p l e s m args below meth c H locs dC dI cA ad A ls C hP hS hl)
/-! the ends -/
theorem QG_of {ad : Nat → Nat} {dC : Nat → ClassId} {dI : Nat → Nat → Nat} {cA : Nat → ClassId} {A : Nat → Prop} {a : Array Value} {s t : State} {H : Heap} {locs : List Loc} {r : Option Value} {o : Outcome} (ho : o = .returned (r.map (rv ad))) (hq : Q r M) (hP : va_P (dC, dI) classes (wsM b n cA ad M) H) (hS : va_S A s.heap H locs) (ht : t.heap = H) : QG b n dC dI cA ad A Q a s o t := ⟨⟨r, M, ho, hq, by rw [ht]; exact hP⟩, hS.F ht⟩
theorem Fr_iret {v : Int32} (hd : decode μ.2.1 pc = .ok (.ireturn, 1)) (hr : μ.2.2.2 = some .int) (hq : Q (some (.int v)) M) : Fr b n d μ pc lv [.int v] M Q := by
  intro p l e s m args below meth c H locs dC dI cA ad A ls C hP hS hl
  exact W.iret (v := v) C.1 C.2.1 (C.2.2.2.1.trans hr) (fun t ht hW => QG_of (r := some (.int v)) rfl hq hP hS ht) hS.2.2 hd C.2.2.2.2.1
theorem Fr_zret {v : Int32} (hd : decode μ.2.1 pc = .ok (.ireturn, 1)) {ty : FieldType} (hr : μ.2.2.2 = some ty) (hn : narrow ty (.int v) = .int v) (hq : Q (some (.int v)) M) : Fr b n d μ pc lv [.int v] M Q := by
  intro p l e s m args below meth c H locs dC dI cA ad A ls C hP hS hl
  exact W.zret (v := v) C.1 C.2.1 (C.2.2.2.1.trans hr) hn (fun t ht hW => QG_of (r := some (.int v)) rfl hq hP hS ht) hS.2.2 hd C.2.2.2.2.1
theorem Fr_lret {v : Int64} (hd : decode μ.2.1 pc = .ok (.lreturn, 1)) (hr : μ.2.2.2 = some .long) (hq : Q (some (.long v)) M) : Fr b n d μ pc lv [.long v] M Q := by
  intro p l e s m args below meth c H locs dC dI cA ad A ls C hP hS hl
  exact W.lret (v := v) C.1 C.2.1 (C.2.2.2.1.trans hr) (fun t ht hW => QG_of (r := some (.long v)) rfl hq hP hS ht) hS.2.2 hd C.2.2.2.2.1
theorem Fr_vret (hd : decode μ.2.1 pc = .ok (.return_, 1)) (hr : μ.2.2.2 = none) (hq : Q none M) : Fr b n d μ pc lv [] M Q := by
  intro p l e s m args below meth c H locs dC dI cA ad A ls C hP hS hl
  exact W.vret C.1 C.2.1 (C.2.2.2.1.trans hr) (fun t ht hW => QG_of (r := none) rfl hq hP hS ht) hS.2.2 hd C.2.2.2.2.1
end FR
