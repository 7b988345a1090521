theorem arr_I : Cond.arrayClass .int ∈ TG := tg_1 54 (by decide +kernel) (by decide +kernel)
theorem arr_J : Cond.arrayClass .long ∈ TG := tg_1 53 (by decide +kernel) (by decide +kernel)
theorem arr_B : Cond.arrayClass .byte ∈ TG := tg_1 52 (by decide +kernel) (by decide +kernel)
theorem arr_Z : Cond.arrayClass .boolean ∈ TG := tg_7 136 (by decide +kernel) (by decide +kernel)
theorem os_cons {n : Nat} {v : Value} {st : List Value} (hv : okV n v) (h : ∀ w ∈ st, okV n w) : ∀ w ∈ v :: st, okV n w := fun w hw => by
  rcases List.mem_cons.mp hw with rfl | h2
  · exact hv
  · exact h w h2
theorem os_tl {n : Nat} {v : Value} {st : List Value} (h : ∀ w ∈ v :: st, okV n w) : ∀ w ∈ st, okV n w := fun w hw => h w (List.mem_cons_of_mem _ hw)
theorem os_hd {n : Nat} {v : Value} {st : List Value} (h : ∀ w ∈ v :: st, okV n w) : okV n v := h v List.mem_cons_self
section FCR
variable {n0 d mc ms cells slots : Nat} {μ : MI} {pc : Nat} {lv : List (Nat × Value)} {st : List Value} {cs ys : List PE}
theorem Fc_iconst {i : Int} {v : Int32} (hd : decode μ.2.1 pc = .ok (.iconst i, 1)) (hv : Int32.ofInt i = v) (k : Fc n0 d mc ms cells slots μ (pc + 1) lv (.int v :: st) cs ys) : Fc n0 d mc ms cells slots μ pc lv st cs ys := by
  intro p l e s m args below meth c H locs dC dI cA ad0 ad A ls C hag hn0 h3 hok hos hol hP hD hS hl
  exact lv_iconst C.1 C.2.1 hd hv (k p l e s m args below meth c H locs dC dI cA ad0 ad A ls C hag hn0 h3 hok (os_cons trivial hos) hol hP hD hS hl)
theorem Fc_bipush {i : Int} {v : Int32} (hd : decode μ.2.1 pc = .ok (.bipush i, 2)) (hv : (Int8.ofInt i).toInt32 = v) (k : Fc n0 d mc ms cells slots μ (pc + 2) lv (.int v :: st) cs ys) : Fc n0 d mc ms cells slots μ pc lv st cs ys := by
  intro p l e s m args below meth c H locs dC dI cA ad0 ad A ls C hag hn0 h3 hok hos hol hP hD hS hl
  exact lv_bipush C.1 C.2.1 hd hv (k p l e s m args below meth c H locs dC dI cA ad0 ad A ls C hag hn0 h3 hok (os_cons trivial hos) hol hP hD hS hl)
theorem Fc_sipush {i : Int} {v : Int32} (hd : decode μ.2.1 pc = .ok (.sipush i, 3)) (hv : (Int16.ofInt i).toInt32 = v) (k : Fc n0 d mc ms cells slots μ (pc + 3) lv (.int v :: st) cs ys) : Fc n0 d mc ms cells slots μ pc lv st cs ys := by
  intro p l e s m args below meth c H locs dC dI cA ad0 ad A ls C hag hn0 h3 hok hos hol hP hD hS hl
  exact lv_sipush C.1 C.2.1 hd hv (k p l e s m args below meth c H locs dC dI cA ad0 ad A ls C hag hn0 h3 hok (os_cons trivial hos) hol hP hD hS hl)
theorem Fc_lconst {i : Fin 2} {v : Int64} (hd : decode μ.2.1 pc = .ok (.lconst i, 1)) (hv : Int64.ofNat (i : Nat) = v) (k : Fc n0 d mc ms cells slots μ (pc + 1) lv (.long v :: st) cs ys) : Fc n0 d mc ms cells slots μ pc lv st cs ys := by
  intro p l e s m args below meth c H locs dC dI cA ad0 ad A ls C hag hn0 h3 hok hos hol hP hD hS hl
  exact lv_lconst C.1 C.2.1 hd hv (k p l e s m args below meth c H locs dC dI cA ad0 ad A ls C hag hn0 h3 hok (os_cons trivial hos) hol hP hD hS hl)
theorem Fc_aload_n {q : Fin 4} {i x : Nat} (j : Nat) (hd : decode μ.2.1 pc = .ok (.aload_n q, 1)) (hi : (q : Nat) = i) (hj : lv[j]? = some (i, .ref x)) (k : Fc n0 d mc ms cells slots μ (pc + 1) lv (.ref x :: st) cs ys) : Fc n0 d mc ms cells slots μ pc lv st cs ys := by
  intro p l e s m args below meth c H locs dC dI cA ad0 ad A ls C hag hn0 h3 hok hos hol hP hD hS hl
  exact lv_aload_n C.1 C.2.1 hd hi (lv_at2 hl hj) (k p l e s m args below meth c H locs dC dI cA ad0 ad A ls C hag hn0 h3 hok (os_cons (hol _ (List.mem_of_getElem? hj)) hos) hol hP hD hS hl)
theorem Fc_iload_n {q : Fin 4} {i : Nat} {x : Int32} (j : Nat) (hd : decode μ.2.1 pc = .ok (.iload_n q, 1)) (hi : (q : Nat) = i) (hj : lv[j]? = some (i, .int x)) (k : Fc n0 d mc ms cells slots μ (pc + 1) lv (.int x :: st) cs ys) : Fc n0 d mc ms cells slots μ pc lv st cs ys := by
  intro p l e s m args below meth c H locs dC dI cA ad0 ad A ls C hag hn0 h3 hok hos hol hP hD hS hl
  exact lv_iload_n C.1 C.2.1 hd hi (lv_at2 hl hj) (k p l e s m args below meth c H locs dC dI cA ad0 ad A ls C hag hn0 h3 hok (os_cons trivial hos) hol hP hD hS hl)
theorem Fc_istore_n {q : Fin 4} {i : Nat} {x : Int32} {lv' : List (Nat × Value)} (hd : decode μ.2.1 pc = .ok (.istore_n q, 1)) (hi : (q : Nat) = i) (hn : i < μ.2.2.1) (hl' : (i, Value.int x) :: lv.filter (fun q => !(q.1 == i) && !(q.1 + 1 == i && q.2.category == 2)) = lv') (k : Fc n0 d mc ms cells slots μ (pc + 1) lv' st cs ys) : Fc n0 d mc ms cells slots μ pc lv (.int x :: st) cs ys := by
  intro p l e s m args below meth c H locs dC dI cA ad0 ad A ls C hag hn0 h3 hok hos hol hP hD hS hl
  refine lv_istore_n C.1 C.2.1 hd hi hl hn rfl (fun ls' h' => k p l e s m args below meth c H locs dC dI cA ad0 ad A ls' C hag hn0 h3 hok (os_tl hos) ?_ hP hD hS ?_)
  · intro q hq
    rw [← hl'] at hq
    rcases List.mem_cons.mp hq with rfl | h2
    · trivial
    · exact hol q (List.mem_filter.mp h2).1
  · rw [flt1] at h'
    rw [← hl']
    exact h'
theorem Fc_iinc {i : Nat} {j : Int} {x v : Int32} {lv' : List (Nat × Value)} (q : Nat) (hd : decode μ.2.1 pc = .ok (.iinc i j, 3)) (hj : lv[q]? = some (i, .int x)) (hv : x + Int32.ofInt j = v) (hn : i < μ.2.2.1) (hl' : (i, Value.int v) :: lv.filter (fun q => !(q.1 == i) && !(q.1 + 1 == i && q.2.category == 2)) = lv') (k : Fc n0 d mc ms cells slots μ (pc + 3) lv' st cs ys) : Fc n0 d mc ms cells slots μ pc lv st cs ys := by
  intro p l e s m args below meth c H locs dC dI cA ad0 ad A ls C hag hn0 h3 hok hos hol hP hD hS hl
  refine lv_iinc C.1 C.2.1 hd hl (k := q) (x := x) (v := v) (by rw [List.getElem?_map, hj]; rfl) hv hn rfl (fun ls' h' => k p l e s m args below meth c H locs dC dI cA ad0 ad A ls' C hag hn0 h3 hok hos ?_ hP hD hS ?_)
  · intro q hq
    rw [← hl'] at hq
    rcases List.mem_cons.mp hq with rfl | h2
    · trivial
    · exact hol q (List.mem_filter.mp h2).1
  · rw [flt1] at h'
    rw [← hl']
    exact h'
theorem Fc_loc {lv' : List (Nat × Value)} (ks : List Nat) (hl' : lv_pick lv ks = lv') (k : Fc n0 d mc ms cells slots μ pc lv' st cs ys) : Fc n0 d mc ms cells slots μ pc lv st cs ys := by
  intro p l e s m args below meth c H locs dC dI cA ad0 ad A ls C hag hn0 h3 hok hos hol hP hD hS hl
  refine k p l e s m args below meth c H locs dC dI cA ad0 ad A ls C hag hn0 h3 hok hos ?_ hP hD hS (lv_sub hl ks ?_)
  · intro q hq
    rw [← hl'] at hq
    obtain ⟨j, -, hj⟩ := List.mem_filterMap.mp hq
    exact hol q (List.mem_of_getElem? hj)
  · rw [← hl']
    unfold lv_pick
    rw [List.map_filterMap]
    congr 1
    funext j
    rw [List.getElem?_map]
theorem Fc_dup {v : Value} (hd : decode μ.2.1 pc = .ok (.dup, 1)) (hv : v.category = 1) (k : Fc n0 d mc ms cells slots μ (pc + 1) lv (v :: v :: st) cs ys) : Fc n0 d mc ms cells slots μ pc lv (v :: st) cs ys := by
  intro p l e s m args below meth c H locs dC dI cA ad0 ad A ls C hag hn0 h3 hok hos hol hP hD hS hl
  exact lv_dup C.1 C.2.1 hd (by rw [rv_cat]; exact hv) (k p l e s m args below meth c H locs dC dI cA ad0 ad A ls C hag hn0 h3 hok (os_cons (os_hd hos) hos) hol hP hD hS hl)
theorem Fc_icmp_ge {x y : Int32} {off : Int} (tgt : Nat) (hd : decode μ.2.1 pc = .ok (.if_icmp .ge off, 3)) (ht : (pc : Int) + off = (tgt : Int)) (kt : y ≤ x → Fc n0 d mc ms cells slots μ tgt lv st cs ys) (kf : ¬ y ≤ x → Fc n0 d mc ms cells slots μ (pc + 3) lv st cs ys) : Fc n0 d mc ms cells slots μ pc lv (.int y :: .int x :: st) cs ys := by
  intro p l e s m args below meth c H locs dC dI cA ad0 ad A ls C hag hn0 h3 hok hos hol hP hD hS hl
  exact lv_icmp_ge C.1 C.2.1 hd ht (fun h => kt h p l e s m args below meth c H locs dC dI cA ad0 ad A ls C hag hn0 h3 hok (os_tl (os_tl hos)) hol hP hD hS hl) (fun h => kf h p l e s m args below meth c H locs dC dI cA ad0 ad A ls C hag hn0 h3 hok (os_tl (os_tl hos)) hol hP hD hS hl)
theorem Fc_goto {off : Int} (tgt : Nat) (hd : decode μ.2.1 pc = .ok (.goto off, 3)) (ht : (pc : Int) + off = (tgt : Int)) (k : Fc n0 d mc ms cells slots μ tgt lv st cs ys) : Fc n0 d mc ms cells slots μ pc lv st cs ys := by
  intro p l e s m args below meth c H locs dC dI cA ad0 ad A ls C hag hn0 h3 hok hos hol hP hD hS hl
  exact lv_goto C.1 C.2.1 hd ht (k p l e s m args below meth c H locs dC dI cA ad0 ad A ls C hag hn0 h3 hok hos hol hP hD hS hl)
theorem Fc_vret (hd : decode μ.2.1 pc = .ok (.return_, 1)) (hc : cells ≤ mc) (hs : slots ≤ ms) (he : cs = ys) : Fc n0 d mc ms cells slots μ pc lv [] cs ys := by
  intro p l e s m args below meth c H locs dC dI cA ad0 ad A ls C hag hn0 h3 hok hos hol hP hD hS hl
  subst he
  refine W.widen hc hs ?_
  exact W.vret C.1 C.2.1 C.2.2.2.1 (fun t ht hW => ⟨⟨ad, hag, rfl, by rw [ht]; exact hP, hD⟩, hS.F ht⟩) hS.2.2 hd C.2.2.2.2.1
theorem Fc_objInit {idx x : Nat} (hd : decode μ.2.1 pc = .ok (.invokespecial idx, 3)) (hl0 : Cond.methodLink μ.1.cls idx Lib.objectInit ∈ TG) (h1 : Cond.instanceMethod Lib.objectInit ∈ TG) (h2 : Cond.code Lib.objectInit ⟨#[0xb1]⟩ 1 none ∈ TG) (hdd : 0 < d) (hw : (st.map fun v => v.category).sum ≤ 8) (k : Fc n0 d mc ms cells slots μ (pc + 3) lv st cs ys) : Fc n0 d mc ms cells slots μ pc lv (.ref x :: st) cs ys := by
  intro p l e s m args below meth c H locs dC dI cA ad0 ad A ls C hag hn0 h3 hok hos hol hP hD hS hl
  refine W.objInit C.1 C.2.1 C.2.2.2.2.2.1 (C.2.2.2.2.2.2.1 _ hl0) (C.2.2.2.2.2.2.1 _ h1) (C.2.2.2.2.2.2.1 _ h2) rfl (by rw [C.2.2.1]; exact hl.1) rfl hd hdd (by rw [rv_cats]; show 2 * 0 + _ + 12 ≤ 100 * d; omega) (k p l e s m args below meth c H locs dC dI cA ad0 ad A ls C hag hn0 h3 hok (os_tl hos) hol hP hD hS hl)
/-! what is made -/
theorem ag_push {n : Nat} {ad : Nat → Nat} {q : Nat} : ∀ i, i < n → (fun i => if i = n then q else ad i) i = ad i := fun i hi => if_neg (by omega)
theorem Fc_newa {t tk N : Nat} {aty : ArrayType} {ty : FieldType} {v : Int32} {a0 : vp_A} (hd : decode μ.2.1 pc = .ok (.newarray aty, 2)) (hty : newarray.typeOf aty = ty) (htk : ∀ cA, (tysA cA)[tk]? = some (cA t, ty)) (htk6 : tk < 6) (hra : ∀ (U : State) (c : ClassId), va_RA U c ty = (U.vm.findClass ("[" ++ ty.toString) = some c)) (ha : ∀ cA : ClassId, vp_cell cA a0 = arrV cA N (fun _ => defaultValue ty)) (harr : Cond.arrayClass ty ∈ TG) (hre : ∀ ad, reA ad a0 = a0) (hoa : ∀ n, okA n a0) (hn : ¬ v < 0) (hN : v.toNatClampNeg = N) (hb : N * componentBytes ty ≤ 536870912) (hc1 : cells + 1 ≤ mc) (hs1 : slots + N ≤ ms) (h300 : cs.length + 1 < 300) (k : Fc n0 d mc ms (cells + 1) (slots + N) μ (pc + 2) lv (.ref cs.length :: st) (cs ++ [.inl (t, a0)]) ys) : Fc n0 d mc ms cells slots μ pc lv (.int v :: st) cs ys := by
  intro p l e s m args below meth c H locs dC dI cA ad0 ad A ls C hag hn0 h3 hok hos hol hP hD hS hl
  refine va_newa (D := (dC, dI)) C.1 C.2.1 (C.2.2.2.2.2.2.1 _ (by rw [hty]; exact harr)) hty C.2.2.2.2.2.2.2.1 hP hD hS C.2.2.2.2.2.2.2.2.1 ha hn hN hb hc1 hs1 hd (fun q cB H1 hK1 hP1 hD1 hS1 => ?_)
  have hcB : cB = cA t := by
    have e1 := (hK1.2 6 (cB, ty) (by simp [tysA])).2
    have e2 := (C.2.2.2.2.2.2.2.1.2 tk _ (htk cA)).2
    rw [hra] at e1 e2
    exact Option.some.inj (e1.symm.trans e2)
  subst hcB
  have hoe : okE cs.length (.inl (t, a0)) := hoa _
  have hre2 : reE cA ad (.inl (t, a0)) = .inl (cA t, a0) := by show (Sum.inl (cA t, reA ad a0) : va_E) = _; rw [hre]
  rw [← hre2, ← wsC_push hok hoe] at hP1 hD1
  have e3 : (.ref q :: st.map (rv ad)) = ((.ref cs.length :: st).map (rv (fun i => if i = cs.length then q else ad i))) := by
    rw [List.map_cons, st_agree ag_push (os_tl hos)]
    simp [rv]
  rw [e3]
  refine k p l e s m args below meth c H1 locs dC dI cA ad0 _ A ls C (fun i hi => ?_) (by rw [List.length_append]; exact Nat.le_add_right_of_le hn0) (by simp; omega) (hok.push hoe) (os_cons (by rw [List.length_append]; show cs.length < cs.length + 1; omega) (fun w hw => ((os_tl hos) w hw).mono (by simp))) (fun w hw => (hol w hw).mono (by simp)) hP1 hD1 hS1 ?_
  · show (if i = cs.length then q else ad i) = _
    rw [if_neg (by omega)]
    exact hag i hi
  · rw [lv_agree ag_push hol]
    exact hl
theorem Fc_newI {N : Nat} {v : Int32} (hd : decode μ.2.1 pc = .ok (.newarray .int, 2)) (hn : ¬ v < 0) (hN : v.toNatClampNeg = N) (hb : N * 4 ≤ 536870912) (hc1 : cells + 1 ≤ mc) (hs1 : slots + N ≤ ms) (h300 : cs.length + 1 < 300) (k : Fc n0 d mc ms (cells + 1) (slots + N) μ (pc + 2) lv (.ref cs.length :: st) (cs ++ [.inl (20, N, .inl (fun _ => 0))]) ys) : Fc n0 d mc ms cells slots μ pc lv (.int v :: st) cs ys := Fc_newa (a0 := (N, .inl (fun _ => 0))) (tk := 0) (ty := .int) hd rfl (fun _ => rfl) (by decide) (fun _ _ => rfl) (fun _ => rfl) arr_I (fun _ => rfl) (fun _ => trivial) hn hN hb hc1 hs1 h300 k
theorem Fc_newL {N : Nat} {v : Int32} (hd : decode μ.2.1 pc = .ok (.newarray .long, 2)) (hn : ¬ v < 0) (hN : v.toNatClampNeg = N) (hb : N * 8 ≤ 536870912) (hc1 : cells + 1 ≤ mc) (hs1 : slots + N ≤ ms) (h300 : cs.length + 1 < 300) (k : Fc n0 d mc ms (cells + 1) (slots + N) μ (pc + 2) lv (.ref cs.length :: st) (cs ++ [.inl (21, N, .inr (.inl (fun _ => 0)))]) ys) : Fc n0 d mc ms cells slots μ pc lv (.int v :: st) cs ys := Fc_newa (a0 := (N, .inr (.inl (fun _ => 0)))) (tk := 1) (ty := .long) hd rfl (fun _ => rfl) (by decide) (fun _ _ => rfl) (fun _ => rfl) arr_J (fun _ => rfl) (fun _ => trivial) hn hN hb hc1 hs1 h300 k
theorem Fc_newB {N : Nat} {v : Int32} (hd : decode μ.2.1 pc = .ok (.newarray .byte, 2)) (hn : ¬ v < 0) (hN : v.toNatClampNeg = N) (hb : N * 1 ≤ 536870912) (hc1 : cells + 1 ≤ mc) (hs1 : slots + N ≤ ms) (h300 : cs.length + 1 < 300) (k : Fc n0 d mc ms (cells + 1) (slots + N) μ (pc + 2) lv (.ref cs.length :: st) (cs ++ [.inl (22, N, .inl (fun _ => 0))]) ys) : Fc n0 d mc ms cells slots μ pc lv (.int v :: st) cs ys := Fc_newa (a0 := (N, .inl (fun _ => 0))) (tk := 2) (ty := .byte) hd rfl (fun _ => rfl) (by decide) (fun _ _ => rfl) (fun _ => rfl) arr_B (fun _ => rfl) (fun _ => trivial) hn hN hb hc1 hs1 h300 k
theorem Fc_newZ {N : Nat} {v : Int32} (hd : decode μ.2.1 pc = .ok (.newarray .boolean, 2)) (hn : ¬ v < 0) (hN : v.toNatClampNeg = N) (hb : N * 1 ≤ 536870912) (hc1 : cells + 1 ≤ mc) (hs1 : slots + N ≤ ms) (h300 : cs.length + 1 < 300) (k : Fc n0 d mc ms (cells + 1) (slots + N) μ (pc + 2) lv (.ref cs.length :: st) (cs ++ [.inl (23, N, .inl (fun _ => 0))]) ys) : Fc n0 d mc ms cells slots μ pc lv (.int v :: st) cs ys := Fc_newa (a0 := (N, .inl (fun _ => 0))) (tk := 3) (ty := .boolean) hd rfl (fun _ => rfl) (by decide) (fun _ _ => rfl) (fun _ => rfl) arr_Z (fun _ => rfl) (fun _ => trivial) hn hN hb hc1 hs1 h300 k
theorem Fc_new {ci idx N : Nat} {C0 : String} {T : u_T} {fs : List Value} (hd : decode μ.2.1 pc = .ok (.new idx, 3)) (hc : classes[ci]? = some (C0, T, N)) (hin : ∀ w ∈ u_ws C0 T N, w ∈ TG) (ty0 : Nat → FieldType) (hty : ∀ k, k < N → parseFieldDescriptor (T k).2.2.1 = some (ty0 k)) (hcl : Cond.classLink μ.1.cls idx C0 ∈ TG) (hins : Cond.instantiable C0 N ∈ TG) (hini : Cond.initialized C0 ∈ TG) (hfs : ∀ j, j < N → defaultValue (ty0 j) = vp_V fs j) (hnr : ∀ v ∈ fs, okV 0 v) (hc1 : cells + 1 ≤ mc) (hs1 : slots + N ≤ ms) (h300 : cs.length + 1 < 300) (k : Fc n0 d mc ms (cells + 1) (slots + N) μ (pc + 3) lv (.ref cs.length :: st) (cs ++ [.inr (ci, fs)]) ys) : Fc n0 d mc ms cells slots μ pc lv st cs ys := by
  intro p l e s m args below meth c H locs dC dI cA ad0 ad A ls C hag hn0 h3 hok hos hol hP hD hS hl
  refine va_new (D := (dC, dI)) (ci := ci) (fs := fs) C.1 C.2.1 C.2.2.2.2.2.2.1 hin ty0 hty C.2.2.2.2.2.1 (C.2.2.2.2.2.2.1 _ hcl) (C.2.2.2.2.2.2.1 _ hins) (C.2.2.2.2.2.2.1 _ hini) C.2.2.2.2.2.2.2.1 hP hD hS C.2.2.2.2.2.2.2.2.1 hc hfs hc1 hs1 hd (fun q H1 hP1 hD1 hS1 => ?_)
  have hoe : okE cs.length (.inr (ci, fs)) := fun v hv => (hnr v hv).mono (Nat.zero_le _)
  have hre2 : reE cA ad (.inr (ci, fs)) = .inr (ci, fs) := by
    show (Sum.inr (ci, fs.map (rv ad)) : va_E) = _
    have : fs.map (rv ad) = fs := by
      have h9 : fs.map (rv ad) = fs.map id := List.map_congr_left (fun v hv => by
        have := hnr v hv
        cases v <;> first | rfl | exact absurd this (Nat.not_lt_zero _))
      rw [h9, List.map_id]
    rw [this]
  rw [← hre2, ← wsC_push hok hoe] at hP1 hD1
  have e3 : (.ref q :: st.map (rv ad)) = ((.ref cs.length :: st).map (rv (fun i => if i = cs.length then q else ad i))) := by
    rw [List.map_cons, st_agree ag_push hos]
    simp [rv]
  rw [e3]
  refine k p l e s m args below meth c H1 locs dC dI cA ad0 _ A ls C (fun i hi => ?_) (by rw [List.length_append]; exact Nat.le_add_right_of_le hn0) (by simp; omega) (hok.push hoe) (os_cons (by rw [List.length_append]; show cs.length < cs.length + 1; omega) (fun w hw => (hos w hw).mono (by simp))) (fun w hw => (hol w hw).mono (by simp)) hP1 hD1 hS1 ?_
  · show (if i = cs.length then q else ad i) = _
    rw [if_neg (by omega)]
    exact hag i hi
  · rw [lv_agree ag_push hol]
    exact hl
theorem Fc_put {i ci kf idx N : Nat} {C0 : String} {T : u_T} {ty0 : Nat → FieldType} {ty : FieldType} {v : Value} {fs : List Value} (hd : decode μ.2.1 pc = .ok (.putfield idx, 3)) (he : cs[i]? = some (.inr (ci, fs))) (hc : classes[ci]? = some (C0, T, N)) (hin : ∀ w ∈ u_ws C0 T N, w ∈ TG) (hty : ∀ k, k < N → parseFieldDescriptor (T k).2.2.1 = some (ty0 k)) (hnm : ∀ a, a < N → ∀ b, b < N → a ≠ b → (T a).2.1 ≠ (T b).2.1) (hk : kf < N) (hlink : Cond.fieldLink μ.1.cls idx (T kf).1 (T kf).2.1 (T kf).2.2.1 ∈ TG) (hfin : (T kf).2.2.2 = false) (hpd : parseFieldDescriptor (T kf).2.2.1 = some ty) (hn : ∀ ad, narrow ty (rv ad v) = rv ad v) (hfit : ∀ ad, fits ty (rv ad v) = true) (hlen : kf < fs.length) (k : Fc n0 d mc ms cells slots μ (pc + 3) lv st (cs.set i (.inr (ci, fs.set kf v))) ys) : Fc n0 d mc ms cells slots μ pc lv (v :: .ref i :: st) cs ys := by
  intro p l e s m args below meth c H locs dC dI cA ad0 ad A ls C hag hn0 h3 hok hos hol hP hD hS hl
  have hi : i < cs.length := (List.getElem?_eq_some_iff.mp he).1
  refine va_put (D := (dC, dI)) (ci := ci) (v := rv ad v) (ty := ty) (C := C0) (T := T) (N := N) C.1 C.2.1 C.2.2.2.2.2.2.1 hin ty0 hty hnm C.2.2.2.2.2.1 C.2.2.2.2.2.2.2.1 hP hD hS i (fs := fs.map (rv ad)) (wsC_get he) hc kf hk (C.2.2.2.2.2.2.1 _ hlink) (fun _ h9 => h9) hfin hpd (hn ad) (hfit ad) (by simp; exact hlen) hd (fun H1 locs1 hP1 hD1 hS1 => ?_)
  rw [wsC_set (e' := .inr (ci, fs.set kf v)) hi (by show _ = (Sum.inr (ci, (fs.set kf v).map (rv ad)) : va_E); rw [List.map_set])] at hP1 hD1
  have hoe : okE cs.length (.inr (ci, fs.set kf v)) := fun w hw => by
    rcases List.mem_or_eq_of_mem_set hw with h | h
    · exact hok _ (List.mem_of_getElem? he) w h
    · rw [h]; exact os_hd hos
  exact k p l e s m args below meth c H1 locs1 dC dI cA ad0 ad A ls C hag (by rw [List.length_set]; exact hn0) (by rw [List.length_set]; exact h3) (hok.set hoe) (fun w hw => by rw [List.length_set]; exact os_tl (os_tl hos) w hw) (fun w hw => by rw [List.length_set]; exact hol w hw) hP1 hD1 hS1 hl
theorem Fc_putF {i ci kf idx N : Nat} {C0 : String} {T : u_T} {ty0 : Nat → FieldType} {ty : FieldType} {v : Value} {fs : List Value} (hd : decode μ.2.1 pc = .ok (.putfield idx, 3)) (he : cs[i]? = some (.inr (ci, fs))) (hc : classes[ci]? = some (C0, T, N)) (hin : ∀ w ∈ u_ws C0 T N, w ∈ TG) (hty : ∀ k, k < N → parseFieldDescriptor (T k).2.2.1 = some (ty0 k)) (hnm : ∀ a, a < N → ∀ b, b < N → a ≠ b → (T a).2.1 ≠ (T b).2.1) (hk : kf < N) (hlink : Cond.fieldLink μ.1.cls idx (T kf).1 (T kf).2.1 (T kf).2.2.1 ∈ TG) (hfin : (T kf).2.2.2 = true) (hdc : (T kf).1 = μ.1.cls) (hpd : parseFieldDescriptor (T kf).2.2.1 = some ty) (hn : ∀ ad, narrow ty (rv ad v) = rv ad v) (hfit : ∀ ad, fits ty (rv ad v) = true) (hlen : kf < fs.length) (k : Fc n0 d mc ms cells slots μ (pc + 3) lv st (cs.set i (.inr (ci, fs.set kf v))) ys) : Fc n0 d mc ms cells slots μ pc lv (v :: .ref i :: st) cs ys := by
  intro p l e s m args below meth c H locs dC dI cA ad0 ad A ls C hag hn0 h3 hok hos hol hP hD hS hl
  have hi : i < cs.length := (List.getElem?_eq_some_iff.mp he).1
  refine va_putF (D := (dC, dI)) (ci := ci) (v := rv ad v) (ty := ty) (C := C0) (T := T) (N := N) C.1 C.2.1 C.2.2.2.2.2.2.1 hin ty0 hty hnm C.2.2.2.2.2.1 C.2.2.2.2.2.2.2.1 hP hD hS i (fs := fs.map (rv ad)) (wsC_get he) hc kf hk (C.2.2.2.2.2.2.1 _ hlink) (fun _ h9 => h9) hfin C.2.2.2.2.2.2.2.2.2.2.2.2 hdc hpd (hn ad) (hfit ad) (by simp; exact hlen) hd (fun H1 locs1 hP1 hD1 hS1 => ?_)
  rw [wsC_set (e' := .inr (ci, fs.set kf v)) hi (by show _ = (Sum.inr (ci, (fs.set kf v).map (rv ad)) : va_E); rw [List.map_set])] at hP1 hD1
  have hoe : okE cs.length (.inr (ci, fs.set kf v)) := fun w hw => by
    rcases List.mem_or_eq_of_mem_set hw with h | h
    · exact hok _ (List.mem_of_getElem? he) w h
    · rw [h]; exact os_hd hos
  exact k p l e s m args below meth c H1 locs1 dC dI cA ad0 ad A ls C hag (by rw [List.length_set]; exact hn0) (by rw [List.length_set]; exact h3) (hok.set hoe) (fun w hw => by rw [List.length_set]; exact os_tl (os_tl hos) w hw) (fun w hw => by rw [List.length_set]; exact hol w hw) hP1 hD1 hS1 hl
theorem Fc_get {i ci kf idx N : Nat} {C0 : String} {T : u_T} {v : Value} {fs : List Value} (hd : decode μ.2.1 pc = .ok (.getfield idx, 3)) (he : cs[i]? = some (.inr (ci, fs))) (hc : classes[ci]? = some (C0, T, N)) (hin : ∀ w ∈ u_ws C0 T N, w ∈ TG) (hk : kf < N) (hlink : Cond.fieldLink μ.1.cls idx (T kf).1 (T kf).2.1 (T kf).2.2.1 ∈ TG) (hv : fs[kf]? = some v) (k : Fc n0 d mc ms cells slots μ (pc + 3) lv (v :: st) cs ys) : Fc n0 d mc ms cells slots μ pc lv (.ref i :: st) cs ys := by
  intro p l e s m args below meth c H locs dC dI cA ad0 ad A ls C hag hn0 h3 hok hos hol hP hD hS hl
  refine va_get (D := (dC, dI)) (ci := ci) (v := rv ad v) (C := C0) (T := T) (N := N) C.1 C.2.1 C.2.2.2.2.2.2.1 hin C.2.2.2.2.2.1 C.2.2.2.2.2.2.2.1 hP i (fs := fs.map (rv ad)) (wsC_get he) hc kf hk (C.2.2.2.2.2.2.1 _ hlink) (fun _ h9 => h9) (by rw [List.getElem?_map, hv]; rfl) hd (k p l e s m args below meth c H locs dC dI cA ad0 ad A ls C hag hn0 h3 hok (os_cons (hok _ (List.mem_of_getElem? he) v (List.mem_of_getElem? hv)) (os_tl hos)) hol hP hD hS hl)
theorem Fc_iast {i N : Nat} {f : Nat → Int32} {j x : Int32} (hd : decode μ.2.1 pc = .ok (.iastore, 1)) (he : cs[i]? = some (.inl (20, N, .inl f))) (hj : vp_in j N) (k : Fc n0 d mc ms cells slots μ (pc + 1) lv st (cs.set i (.inl (20, N, .inl (upd f j.toNatClampNeg x)))) ys) : Fc n0 d mc ms cells slots μ pc lv (.int x :: .int j :: .ref i :: st) cs ys := by
  intro p l e s m args below meth c H locs dC dI cA ad0 ad A ls C hag hn0 h3 hok hos hol hP hD hS hl
  have hi : i < cs.length := (List.getElem?_eq_some_iff.mp he).1
  refine va_iast (D := (dC, dI)) C.1 C.2.1 C.2.2.2.2.2.2.2.1 hP hD hS i 0 (cA := cA 20) (n := N) (f := f) (wsC_get he) rfl hj hd (fun H1 locs1 hP1 hD1 hS1 => ?_)
  rw [wsC_set (cA := cA) (ad := ad) (x := Sum.inl (cA 20, N, Sum.inl (upd f j.toNatClampNeg x))) (e' := .inl (20, N, .inl (upd f j.toNatClampNeg x))) hi rfl] at hP1 hD1
  exact k p l e s m args below meth c H1 locs1 dC dI cA ad0 ad A ls C hag (by rw [List.length_set]; exact hn0) (by rw [List.length_set]; exact h3) (hok.set trivial) (fun w hw => by rw [List.length_set]; exact os_tl (os_tl (os_tl hos)) w hw) (fun w hw => by rw [List.length_set]; exact hol w hw) hP1 hD1 hS1 hl
theorem Fc_aast {i N ei : Nat} {f : Nat → Option Nat} {vs : List Value} {j : Int32} (hd : decode μ.2.1 pc = .ok (.aastore, 1)) (he : cs[i]? = some (.inl (24, N, .inr (.inr (.inr (.inr f)))))) (hv : cs[ei]? = some (.inr (5, vs))) (hj : vp_in j N) (k : Fc n0 d mc ms cells slots μ (pc + 1) lv st (cs.set i (.inl (24, N, .inr (.inr (.inr (.inr (va_up f j.toNatClampNeg (some ei)))))))) ys) : Fc n0 d mc ms cells slots μ pc lv (.ref ei :: .int j :: .ref i :: st) cs ys := by
  intro p l e s m args below meth c H locs dC dI cA ad0 ad A ls C hag hn0 h3 hok hos hol hP hD hS hl
  have hi : i < cs.length := (List.getElem?_eq_some_iff.mp he).1
  have hei : ei < cs.length := (List.getElem?_eq_some_iff.mp hv).1
  refine va_astq (D := (dC, dI)) C.1 C.2.1 C.2.2.2.2.2.2.2.1 hP hD hS i 4 ei 5 (cA := cA 24) (r := (RX5, TX5, 18)) (n := N) (f := fun j => (f j).map ad) (wsC_get he) rfl (wsC_get hv) rfl hj hd (fun H1 locs1 hP1 hD1 hS1 => ?_)
  have hx : (Sum.inl (cA 24, N, Sum.inr (Sum.inr (Sum.inr (Sum.inr (va_up (fun j => (f j).map ad) j.toNatClampNeg (some (ad ei))))))) : va_E) = reE cA ad (.inl (24, N, .inr (.inr (.inr (.inr (va_up f j.toNatClampNeg (some ei))))))) := by
    show _ = (Sum.inl (cA 24, N, Sum.inr (Sum.inr (Sum.inr (Sum.inr (fun z => (va_up f j.toNatClampNeg (some ei) z).map ad))))) : va_E)
    congr 7
    funext z
    by_cases h : z = j.toNatClampNeg
    · simp [va_up, h]
    · simp [va_up, h]
  rw [wsC_set hi hx] at hP1 hD1
  have hoe : okE cs.length (.inl (24, N, .inr (.inr (.inr (.inr (va_up f j.toNatClampNeg (some ei))))))) := by
    intro z y hz
    change va_up f j.toNatClampNeg (some ei) z = some y at hz
    by_cases h : z = j.toNatClampNeg
    · simp [va_up, h] at hz
      omega
    · simp [va_up, h] at hz
      exact hok _ (List.mem_of_getElem? he) z y hz
  exact k p l e s m args below meth c H1 locs1 dC dI cA ad0 ad A ls C hag (by rw [List.length_set]; exact hn0) (by rw [List.length_set]; exact h3) (hok.set hoe) (fun w hw => by rw [List.length_set]; exact os_tl (os_tl (os_tl hos)) w hw) (fun w hw => by rw [List.length_set]; exact hol w hw) hP1 hD1 hS1 hl
end FCR
