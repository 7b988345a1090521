/-! the law's entry: both objects made -/
def LK (b0 N0 : Nat) (xs : Nat → Int32) (p : Program) (s : State) (m : MethodId) (meth : Method) (c : Code) (dC : Nat → ClassId) (dI : Nat → Nat → Nat) (cA : Nat → ClassId) (ad0 : Nat → Nat) : Prop :=
  p.tables.exec = Jvm.exec ∧ c.code = code ∧ c.maxLocals = 4 ∧ meth.sig.returnType = ret ∧ meth.locks = false ∧ s.vm.findClass R_law = some m.cls ∧ (∀ w ∈ TG, w.before #[Value.ref b0] s = true) ∧
  va_K (dC, dI) classes (tysA cA) s ∧ EnvC s ∧ EnvF ad0 (fun q => s.heap.size ≤ q) s s.heap ∧ va_X b0 N0 xs s s.heap ∧ b0 < s.heap.size ∧ ad0 700 = b0
/-- within the law, the cells cs made so far -/
def Lc (b0 N0 : Nat) (xs : Nat → Int32) (cells slots pc : Nat) (lv : List (Nat × Value)) (st : List Value) (cs : List PE) : Prop :=
  ∀ (p : Program) (l : Launch) (e : Env) (s : State) (m : MethodId) (below : List Frame) (meth : Method) (c : Code) (H : Heap) (locs : List Loc) (dC : Nat → ClassId) (dI : Nat → Nat → Nat) (cA : Nat → ClassId) (ad0 ad : Nat → Nat) (ls : Array Slot),
    LK b0 N0 xs p s m meth c dC dI cA ad0 → (∀ i, 300 ≤ i → ad i = ad0 i) → cs.length < 300 → okC cs → (∀ v ∈ st, okV cs.length v) → (∀ q ∈ lv, okV cs.length q.2 ∨ q.2 = .ref 700) → va_P (dC, dI) classes (wsC cA ad cs) H → va_D (fun q => s.heap.size ≤ q) (wsC cA ad cs) → va_S (fun q => s.heap.size ≤ q) s.heap H locs → lv_has ls 4 (lv.map (rq ad)) →
    W p l e room_1 s m #[Value.ref b0] below meth c H locs cells slots (lw_Z below #[Value.ref b0] s) (F0 m pc ls (st.map (rv ad)))
theorem lv_agree7 {n : Nat} {ad ad' : Nat → Nat} (h : ∀ i, i < n ∨ 300 ≤ i → ad' i = ad i) {lv : List (Nat × Value)} (hv : ∀ q ∈ lv, okV n q.2 ∨ q.2 = .ref 700) : lv.map (rq ad') = lv.map (rq ad) := by
  apply List.map_congr_left
  intro q hq
  show (q.1, rv ad' q.2) = (q.1, rv ad q.2)
  rcases hv q hq with g | g
  · rw [rv_agree (fun i hi => h i (Or.inl hi)) g]
  · rw [g]
    show (q.1, Value.ref (ad' 700)) = (q.1, Value.ref (ad 700))
    rw [h 700 (Or.inr (by decide))]
theorem ok7.mono {n k : Nat} (h : n ≤ k) {v : Value} (hv : okV n v ∨ v = .ref 700) : okV k v ∨ v = .ref 700 := by
  rcases hv with g | g
  · exact Or.inl (g.mono h)
  · exact Or.inr g
section LC
variable {b0 N0 : Nat} {xs : Nat → Int32} {cells slots pc : Nat} {lv : List (Nat × Value)} {st : List Value} {cs : List PE}
theorem Lc_dup {v : Value} (hd : decode code pc = .ok (.dup, 1)) (hv : v.category = 1) (k : Lc b0 N0 xs cells slots (pc + 1) lv (v :: v :: st) cs) : Lc b0 N0 xs cells slots pc lv (v :: st) cs := by
  intro p l e s m below meth c H locs dC dI cA ad0 ad ls C hag h3 hok hos hol hP hD hS hl
  exact lv_dup C.1 C.2.1 hd (by rw [rv_cat]; exact hv) (k p l e s m below meth c H locs dC dI cA ad0 ad ls C hag h3 hok (os_cons (os_hd hos) hos) hol hP hD hS hl)
theorem Lc_astore_n {q : Fin 4} {i : Nat} {x : Nat} {lv' : List (Nat × Value)} (hd : decode code pc = .ok (.astore_n q, 1)) (hi : (q : Nat) = i) (hn : i < 4) (hl' : (i, Value.ref x) :: lv.filter (fun q => !(q.1 == i) && !(q.1 + 1 == i && q.2.category == 2)) = lv') (k : Lc b0 N0 xs cells slots (pc + 1) lv' st cs) : Lc b0 N0 xs cells slots pc lv (.ref x :: st) cs := by
  intro p l e s m below meth c H locs dC dI cA ad0 ad ls C hag h3 hok hos hol hP hD hS hl
  refine lv_astore_n C.1 C.2.1 hd hi hl hn rfl (fun ls' h' => k p l e s m below meth c H locs dC dI cA ad0 ad ls' C hag h3 hok (os_tl hos) ?_ hP hD hS ?_)
  · subst hl'
    intro q hq
    rcases List.mem_cons.mp hq with h | h
    · rw [h]; exact Or.inl (os_hd hos)
    · exact hol q (List.mem_filter.mp h).1
  · rw [flt1] at h'
    rw [← hl']
    exact h'
theorem Lc_cs {cs' : List PE} (h : cs = cs') (k : Lc b0 N0 xs cells slots pc lv st cs') : Lc b0 N0 xs cells slots pc lv st cs := h ▸ k
theorem Lc_nums {c2 s2 : Nat} (h1 : cells = c2) (h2 : slots = s2) (k : Lc b0 N0 xs c2 s2 pc lv st cs) : Lc b0 N0 xs cells slots pc lv st cs := h1 ▸ h2 ▸ k
theorem Lc_pc (pc' : Nat) (h : pc = pc') (k : Lc b0 N0 xs cells slots pc' lv st cs) : Lc b0 N0 xs cells slots pc lv st cs := h ▸ k
theorem Lc_new {ci idx N : Nat} {C0 : String} {T : u_T} {fs : List Value} (hd : decode code pc = .ok (.new idx, 3)) (hc : classes[ci]? = some (C0, T, N)) (hin : ∀ w ∈ u_ws C0 T N, w ∈ TG) (ty0 : Nat → FieldType) (hty : ∀ k, k < N → parseFieldDescriptor (T k).2.2.1 = some (ty0 k)) (hcl : Cond.classLink R_law idx C0 ∈ TG) (hins : Cond.instantiable C0 N ∈ TG) (hini : Cond.initialized C0 ∈ TG) (hfs : ∀ j, j < N → defaultValue (ty0 j) = vp_V fs j) (hnr : ∀ v ∈ fs, okV 0 v) (hc1 : cells + 1 ≤ 600000) (hs1 : slots + N ≤ 7302250) (h300 : cs.length + 1 < 300) (k : Lc b0 N0 xs (cells + 1) (slots + N) (pc + 3) lv (.ref cs.length :: st) (cs ++ [.inr (ci, fs)])) : Lc b0 N0 xs cells slots pc lv st cs := by
  intro p l e s m below meth c H locs dC dI cA ad0 ad ls C hag h3 hok hos hol hP hD hS hl
  refine va_new (D := (dC, dI)) (ci := ci) (fs := fs) C.1 C.2.1 C.2.2.2.2.2.2.1 hin ty0 hty C.2.2.2.2.2.1 (C.2.2.2.2.2.2.1 _ hcl) (C.2.2.2.2.2.2.1 _ hins) (C.2.2.2.2.2.2.1 _ hini) C.2.2.2.2.2.2.2.1 hP hD hS (fun _ h => h) hc hfs hc1 hs1 hd (fun q H1 hP1 hD1 hS1 => ?_)
  have hoe : okE cs.length (.inr (ci, fs)) := fun v hv => (hnr v hv).mono (Nat.zero_le _)
  have hre2 : reE cA ad (.inr (ci, fs)) = .inr (ci, fs) := by
    show (Sum.inr (ci, fs.map (rv ad)) : va_E) = _
    have : fs.map (rv ad) = fs := by
      have h9 : fs.map (rv ad) = fs.map id := List.map_congr_left (fun v hv => by
        have := hnr v hv
        cases v <;> first | rfl | exact absurd this (Nat.not_lt_zero _))
      rw [h9, List.map_id]
    rw [this]
  rw [← hre2, ← wsC_push hok hoe] at hP1 hD1
  have hag7 : ∀ i, i < cs.length ∨ 300 ≤ i → (fun i => if i = cs.length then q else ad i) i = ad i := fun i hi => if_neg (by omega)
  have e3 : (.ref q :: st.map (rv ad)) = ((.ref cs.length :: st).map (rv (fun i => if i = cs.length then q else ad i))) := by
    rw [List.map_cons, st_agree ag_push hos]
    simp [rv]
  rw [e3]
  refine k p l e s m below meth c H1 locs dC dI cA ad0 _ ls C (fun i hi => ?_) (by simp; omega) (hok.push hoe) (os_cons (by rw [List.length_append]; show cs.length < cs.length + 1; omega) (fun w hw => (hos w hw).mono (by simp))) (fun w hw => ok7.mono (by simp) (hol w hw)) hP1 hD1 hS1 ?_
  · show (if i = cs.length then q else ad i) = _
    rw [if_neg (by omega)]
    exact hag i hi
  · rw [lv_agree7 hag7 hol]
    exact hl
theorem Lc_ctor {ν : MI} {d' mc' ms' idx i : Nat} {As stk : List Value} {zs : List PE} (hd : decode code pc = .ok (.invokespecial idx, 3)) (hl0 : Cond.methodLink R_law idx ν.1 ∈ TG) (hν : CalleeB ν As.length) (hin : Cond.instanceMethod ν.1 ∈ TG) (hnm : ν.1.name = "<init>") (hret : ν.2.2.2 = none) (hstk : stk = As.reverse ++ .ref i :: st) (hdd : d' ≤ 800) (hw : (st.map fun v => v.category).sum ≤ 8) (hc1 : cells + mc' ≤ 600000) (hs1 : slots + ms' ≤ 7302250) (hEv : EvC d' mc' ms' ν (.ref i :: As) cs zs) (hzl : cs.length ≤ zs.length) (hz3 : zs.length < 300) (hzok : okC zs) (k : Lc b0 N0 xs (cells + mc') (slots + ms') (pc + 3) lv st zs) : Lc b0 N0 xs cells slots pc lv stk cs := by
  subst hstk
  intro p l e s m below meth c H locs dC dI cA ad0 ad ls C hag h3 hok hos hol hP hD hS hlv
  obtain ⟨hx, hb, hml, hr, hlk, hown, hts, hK, hEc, hE, hX, hbl, h7⟩ := id C
  have hM := hEv l dC dI cA ad H.size
  have hG : GoodIn TG (wsE ν) := by
    intro w hw'
    have hin : w ∈ TG := by
      simp only [wsE, List.mem_cons] at hw'
      rcases hw' with rfl | h
      · exact hν.1
      · exact h
    exact tg_good w hin
  have hR : (roomC d' mc' ms').frames + 1 ≤ room_1.frames ∧ 8 + (ν.2.2.1 + 11) + (roomC d' mc' ms').locals ≤ room_1.locals := by
    have := hν.2.2.2
    constructor
    · show d' + 1 ≤ 2048; omega
    · show 8 + (ν.2.2.1 + 11) + 100 * d' ≤ 84000; omega
  have cw := cwI (R := room_1) (rm := roomC d' mc' ms') (mc := mc') (ms := ms') (bytes := ν.2.1) (maxL := ν.2.2.1) (ws' := TG) As.length hts hG (by unfold wsE; rw [hret]) rfl rfl (hts _ hν.2.1) (hts _ hl0) (hts _ hin) hnm hν.2.2.1 hR
  have hos' : ∀ v ∈ st, okV cs.length v := fun v hv => hos v (List.mem_append_right _ (List.mem_cons_of_mem _ hv))
  have hf : ∀ q, AC cs.length ad H.size q → s.heap.size ≤ q := AC_sub (n0 := 0) (ad0 := ad0) (sz := 0) (A := fun q => s.heap.size ≤ q) hD hS (fun _ h => h)
  have hin' : ∀ U : State, U.heap = H → s.WarmedH U.vm → PCc dC dI cA ad H.size cs U := fun U hU hW => by
    refine ⟨by rw [hU], by rw [hU]; exact hP, va_K.moved hW.alike hK, hD.weaken (fun _ _ _ _ => trivial), hEc.warm hW, ?_⟩
    rw [hU]
    exact EnvF.warm hW (((EnvF.ad hag hE).kept hS.2.1).narrow hf)
  have hrun : va_Run p l e room_1 s m #[Value.ref b0] below meth c H locs cells slots mc' ms' (F0 m pc ls ((As.reverse ++ .ref i :: st).map (rv ad))) (st.map (rv ad)) (QC cs.length dC dI cA ad (AC cs.length ad H.size) zs (Value.ref (ad i) :: As.map (rv ad)).toArray) (AC cs.length ad H.size) :=
    va_runI (As := As.map (rv ad)) (b := ad i) (rest := st.map (rv ad)) ⟨hx, hb, hml, hown, hts⟩ hM cw ⟨PCc_blind, fun U hU hW => ⟨rfl, hin' U hU hW⟩⟩ rfl (by simp) hlv.1 (by simp [rv]) (lv_room (by rw [rv_cats]; exact hw)) hd ⟨hc1, hs1⟩
  intro T hT X
  obtain ⟨v, st₀, t, T', L, h0, X', hL, e1, e2, ⟨⟨ad', hag', hv, hP1, hD1⟩, hz, hk1⟩, stp⟩ := hrun T hT X
  rw [h0] at hz hk1
  have hv' : v = none := by cases hv; rfl
  subst hv'
  have hS' : va_S (fun q => s.heap.size ≤ q) s.heap T'.heap (locs ++ L) := ⟨Nat.le_trans hS.1 (by rw [e1]; exact hz), fun q h1 h2 => by rw [e1, hk1 q (Nat.lt_of_lt_of_le h1 hS.1) (fun z => h2 (hf q z))]; exact hS.2.1 q h1 h2, fun q hq => by
      rcases List.mem_append.mp hq with h | h
      · exact hS.2.2 q h
      · exact hf _ (hL q h)⟩
  obtain ⟨t2, a1, b1⟩ := k p l e s m below meth c T'.heap (locs ++ L) dC dI cA ad0 ad' ls C (fun i hi => by rw [hag' i (Or.inr hi)]; exact hag i hi) hz3 hzok (fun v hv => (hos' v hv).mono hzl) (fun v hv => ok7.mono hzl (hol v hv)) (by rw [e1]; exact hP1) (hD1.weaken (fun _ q _ h => hf q.1 h)) hS' (by rw [lv_agree7 hag' hol]; exact hlv) T' rfl X'
  refine ⟨t2, stp t2 ?_, b1⟩
  show Steps p.tables e below (T'.setTop (F0 m (pc + 3) ls (st.map (rv ad)))) t2
  rw [← st_agree (fun i hi => hag' i (Or.inl hi)) hos']
  exact a1
end LC
