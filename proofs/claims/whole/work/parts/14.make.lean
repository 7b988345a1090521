/-! CONSTRUCTORS: the cells that are there as a list; what an instruction makes comes behind it -/
abbrev PE : Type := (Nat × vp_A) ⊕ (Nat × List Value)
def reA (ad : Nat → Nat) (a : vp_A) : vp_A := (a.1, match a.2 with
  | .inr (.inr (.inr (.inr f))) => .inr (.inr (.inr (.inr (fun j => (f j).map ad))))
  | x => x)
def reE (cA : Nat → ClassId) (ad : Nat → Nat) : PE → va_E
  | .inl (t, a) => .inl (cA t, reA ad a)
  | .inr (ci, fs) => .inr (ci, fs.map (rv ad))
abbrev e0 : PE := .inr (0, [])
def wsC (cA : Nat → ClassId) (ad : Nat → Nat) (cs : List PE) : va_W := (List.range cs.length).map (fun j => (ad j, reE cA ad (cs.getD j e0)))
def okV (n : Nat) : Value → Prop
  | .ref i => i < n
  | _ => True
def okA (n : Nat) (a : vp_A) : Prop := match a.2 with
  | .inr (.inr (.inr (.inr f))) => ∀ j i, f j = some i → i < n
  | _ => True
def okE (n : Nat) : PE → Prop
  | .inl (_, a) => okA n a
  | .inr (_, fs) => ∀ v ∈ fs, okV n v
def okC (cs : List PE) : Prop := ∀ e ∈ cs, okE cs.length e
theorem okV.mono {n m : Nat} (h : n ≤ m) {v : Value} (hv : okV n v) : okV m v := by
  cases v <;> first | trivial | exact Nat.lt_of_lt_of_le hv h
theorem okE.mono {n m : Nat} (h : n ≤ m) {e : PE} (he : okE n e) : okE m e := by
  rcases e with ⟨t, n0, f | f | f | f | f⟩ | ⟨ci, fs⟩
  · trivial
  · trivial
  · trivial
  · trivial
  · exact fun j i hj => Nat.lt_of_lt_of_le (he j i hj) h
  · exact fun v hv => (he v hv).mono h
theorem rv_agree {n : Nat} {ad ad' : Nat → Nat} (h : ∀ i, i < n → ad' i = ad i) {v : Value} (hv : okV n v) : rv ad' v = rv ad v := by
  cases v <;> first | rfl | (show Value.ref _ = Value.ref _; rw [h _ hv])
theorem reE_agree {n : Nat} {cA : Nat → ClassId} {ad ad' : Nat → Nat} (h : ∀ i, i < n → ad' i = ad i) {e : PE} (he : okE n e) : reE cA ad' e = reE cA ad e := by
  rcases e with ⟨t, n0, f | f | f | f | f⟩ | ⟨ci, fs⟩
  · rfl
  · rfl
  · rfl
  · rfl
  · show (Sum.inl _ : va_E) = Sum.inl _
    congr 1
    show (cA t, reA ad' (n0, _)) = (cA t, reA ad (n0, _))
    congr 1
    show (n0, _) = (n0, _)
    congr 1
    show (Sum.inr (Sum.inr (Sum.inr (Sum.inr (fun j => (f j).map ad')))) : _ ⊕ _) = Sum.inr (Sum.inr (Sum.inr (Sum.inr (fun j => (f j).map ad))))
    congr 4
    funext j
    cases hf : f j with
    | none => rfl
    | some i => simp [h i (he j i hf)]
  · show (Sum.inr _ : va_E) = Sum.inr _
    congr 2
    apply List.map_congr_left
    intro v hv
    exact rv_agree h (he v hv)
theorem wsC_len {cA : Nat → ClassId} {ad : Nat → Nat} {cs : List PE} : (wsC cA ad cs).length = cs.length := by simp [wsC]
theorem wsC_get {cA : Nat → ClassId} {ad : Nat → Nat} {cs : List PE} {k : Nat} {e : PE} (h : cs[k]? = some e) : (wsC cA ad cs)[k]? = some (ad k, reE cA ad e) := by
  have hk : k < cs.length := (List.getElem?_eq_some_iff.mp h).1
  unfold wsC
  rw [List.getElem?_map, List.getElem?_range hk]
  simp [List.getD_eq_getElem?_getD, h]
theorem wsC_at {cA : Nat → ClassId} {ad : Nat → Nat} {cs : List PE} {k : Nat} {q : Nat × va_E} (h : (wsC cA ad cs)[k]? = some q) : ∃ e, cs[k]? = some e ∧ q = (ad k, reE cA ad e) := by
  have hk : k < cs.length := by
    have := (List.getElem?_eq_some_iff.mp h).1
    rwa [wsC_len] at this
  obtain ⟨e, he⟩ : ∃ e, cs[k]? = some e := ⟨cs[k], List.getElem?_eq_getElem hk⟩
  rw [wsC_get he] at h
  exact ⟨e, he, (Option.some.inj h).symm⟩
theorem wsC_push {cA : Nat → ClassId} {ad : Nat → Nat} {cs : List PE} {e : PE} {q : Nat} (hc : okC cs) (he : okE cs.length e) : wsC cA (fun i => if i = cs.length then q else ad i) (cs ++ [e]) = wsC cA ad cs ++ [(q, reE cA ad e)] := by
  have hag : ∀ i, i < cs.length → (fun i => if i = cs.length then q else ad i) i = ad i := fun i hi => if_neg (by omega)
  apply List.ext_getElem?
  intro j
  by_cases h1 : j < cs.length
  · rw [List.getElem?_append_left (by rw [wsC_len]; exact h1)]
    have h2 : cs[j]? = some cs[j] := List.getElem?_eq_getElem h1
    rw [wsC_get (e := cs[j]) (by rw [List.getElem?_append_left h1]; exact h2), wsC_get h2, if_neg (by omega : ¬ j = cs.length), reE_agree hag (hc _ (List.mem_of_getElem? h2))]
  · by_cases h2 : j = cs.length
    · subst h2
      rw [wsC_get (e := e) (by simp), List.getElem?_append_right (by rw [wsC_len]; exact Nat.le_refl _), wsC_len, reE_agree hag he]
      simp
    · rw [List.getElem?_eq_none (by rw [wsC_len]; simp; omega), List.getElem?_eq_none (by simp [wsC_len]; omega)]
theorem wsC_set {cA : Nat → ClassId} {ad : Nat → Nat} {cs : List PE} {k : Nat} {e' : PE} {x : va_E} (hk : k < cs.length) (hx : x = reE cA ad e') : (wsC cA ad cs).set k (ad k, x) = wsC cA ad (cs.set k e') := by
  subst hx
  apply List.ext_getElem?
  intro j
  by_cases h1 : j < cs.length
  · have h2 : cs[j]? = some cs[j] := List.getElem?_eq_getElem h1
    rw [List.getElem?_set]
    by_cases e : k = j
    · subst e
      rw [if_pos rfl, if_pos (by rw [wsC_len]; exact hk), wsC_get (e := e') (by rw [List.getElem?_set, if_pos rfl, if_pos hk])]
    · rw [if_neg e, wsC_get h2, wsC_get (e := cs[j]) (by rw [List.getElem?_set, if_neg e]; exact h2)]
  · rw [List.getElem?_eq_none (by rw [List.length_set, wsC_len]; omega), List.getElem?_eq_none (by rw [wsC_len, List.length_set]; omega)]
theorem okC.push {cs : List PE} {e : PE} (hc : okC cs) (he : okE cs.length e) : okC (cs ++ [e]) := by
  intro x hx
  rw [List.length_append]
  rcases List.mem_append.mp hx with h | h
  · exact (hc x h).mono (by simp)
  · rw [List.mem_singleton.mp h]
    exact he.mono (by simp)
theorem okC.set {cs : List PE} {k : Nat} {e : PE} (hc : okC cs) (he : okE cs.length e) : okC (cs.set k e) := by
  intro x hx
  rw [List.length_set]
  rcases List.mem_or_eq_of_mem_set hx with h | h
  · exact hc x h
  · rw [h]; exact he
def roomC (d mc ms : Nat) : Room := { frames := d, cells := mc, slots := ms, locals := 100 * d }
def nestM : List Cond := [.methodLinkNest "FogKeys$Port" 33 ⟨"FogKeys$Nights", "<init>", "()V"⟩ "FogKeys", .methodLinkNest "FogKeys" 47 ⟨"FogKeys$Nights", "<init>", "()V"⟩ "FogKeys", .methodLinkNest "FogKeys" 79 ⟨"FogKeys$Weather", "<init>", "()V"⟩ "FogKeys", .methodLinkNest "FogKeys" 102 ⟨"FogKeys$Keyring", "<init>", "()V"⟩ "FogKeys"]
def overW : List Cond := [.arrayOver (.object "FogKeys$Port"), .arrayOver (.array .long)]
/-- what a constructor needs of what surrounds it -/
def EnvC (U : State) : Prop := (∀ w ∈ nestM, va_Nw w U) ∧ (∀ w ∈ overW, w.before #[] U = true)
/-- behind a constructor: the cells ys, the old ones where they were -/
def QC (n0 : Nat) (dC : Nat → ClassId) (dI : Nat → Nat → Nat) (cA : Nat → ClassId) (ad : Nat → Nat) (A : Nat → Prop) (ys : List PE) : Array Value → State → Outcome → State → Prop := fun _ st oc t =>
  (∃ ad' : Nat → Nat, (∀ i, i < n0 ∨ 300 ≤ i → ad' i = ad i) ∧ oc = .returned none ∧ va_P (dC, dI) classes (wsC cA ad' ys) t.heap ∧ va_D A (wsC cA ad' ys)) ∧ va_F A st t
def AC (n : Nat) (ad : Nat → Nat) (sz : Nat) : Nat → Prop := fun q => (∃ j, j < n ∧ q = ad j) ∨ sz ≤ q
def PCc (dC : Nat → ClassId) (dI : Nat → Nat → Nat) (cA : Nat → ClassId) (ad : Nat → Nat) (sz : Nat) (cs : List PE) (U : State) : Prop :=
  U.heap.size = sz ∧ va_P (dC, dI) classes (wsC cA ad cs) U.heap ∧ va_K (dC, dI) classes (tysA cA) U ∧ va_D (fun _ => True) (wsC cA ad cs) ∧ EnvC U ∧ EnvF ad (AC cs.length ad sz) U U.heap
/-- a constructor, called with as where the cells cs are there: it returns, the cells are ys then; mc cells of ms slots are new -/
def EvC (d mc ms : Nat) (μ : MI) (as : List Value) (cs ys : List PE) : Prop :=
  ∀ (l : Launch) (dC : Nat → ClassId) (dI : Nat → Nat → Nat) (cA : Nat → ClassId) (ad : Nat → Nat) (sz : Nat),
    Met l μ.1 (wsE μ) (roomC d mc ms) (va_Pc (as.map (rv ad)) (PCc dC dI cA ad sz cs)) (QC cs.length dC dI cA ad (AC cs.length ad sz) ys) mc ms (AC cs.length ad sz)
def CXc (n0 : Nat) (μ : MI) (p : Program) (s : State) (m : MethodId) (args : Array Value) (meth : Method) (c : Code) (dC : Nat → ClassId) (dI : Nat → Nat → Nat) (cA : Nat → ClassId) (ad0 : Nat → Nat) (A : Nat → Prop) : Prop :=
  p.tables.exec = Jvm.exec ∧ c.code = μ.2.1 ∧ c.maxLocals = μ.2.2.1 ∧ meth.sig.returnType = none ∧ meth.locks = false ∧ s.vm.findClass μ.1.cls = some m.cls ∧ (∀ w ∈ TG, w.before args s = true) ∧
  va_K (dC, dI) classes (tysA cA) s ∧ (∀ q, s.heap.size ≤ q → A q) ∧ EnvC s ∧ EnvF ad0 A s s.heap ∧ A = AC n0 ad0 s.heap.size ∧ meth.name = "<init>"
def Fc (n0 d mc ms cells slots : Nat) (μ : MI) (pc : Nat) (lv : List (Nat × Value)) (st : List Value) (cs ys : List PE) : Prop :=
  ∀ (p : Program) (l : Launch) (e : Env) (s : State) (m : MethodId) (args : Array Value) (below : List Frame) (meth : Method) (c : Code) (H : Heap) (locs : List Loc) (dC : Nat → ClassId) (dI : Nat → Nat → Nat) (cA : Nat → ClassId) (ad0 ad : Nat → Nat) (A : Nat → Prop) (ls : Array Slot),
    CXc n0 μ p s m args meth c dC dI cA ad0 A → (∀ i, i < n0 ∨ 300 ≤ i → ad i = ad0 i) → n0 ≤ cs.length → cs.length < 300 → okC cs → (∀ v ∈ st, okV cs.length v) → (∀ q ∈ lv, okV cs.length q.2) → va_P (dC, dI) classes (wsC cA ad cs) H → va_D A (wsC cA ad cs) → va_S A s.heap H locs → lv_has ls μ.2.2.1 (lv.map (rq ad)) →
    W p l e (roomC d mc ms) s m args below meth c H locs cells slots (MQ below (QC n0 dC dI cA ad0 A ys) args s mc ms A) (F0 m pc ls (st.map (rv ad)))
theorem lv_agree {n : Nat} {ad ad' : Nat → Nat} (h : ∀ i, i < n → ad' i = ad i) {lv : List (Nat × Value)} (hv : ∀ q ∈ lv, okV n q.2) : lv.map (rq ad') = lv.map (rq ad) := by
  apply List.map_congr_left
  intro q hq
  show (q.1, rv ad' q.2) = (q.1, rv ad q.2)
  rw [rv_agree h (hv q hq)]
theorem st_agree {n : Nat} {ad ad' : Nat → Nat} (h : ∀ i, i < n → ad' i = ad i) {st : List Value} (hv : ∀ v ∈ st, okV n v) : st.map (rv ad') = st.map (rv ad) := by
  apply List.map_congr_left
  intro v hq
  exact rv_agree h (hv v hq)
set_option maxHeartbeats 4000000 in
theorem EvC_of_Fc {d mc ms : Nat} {μ : MI} {as : List Value} {cs ys : List PE} (hp : plainName μ.1.cls = true) (hr : μ.2.2.2 = none) (hn : μ.1.name = "<init>") (hf : (lg_sl as).length ≤ μ.2.2.1) (hl3 : cs.length < 300) (hok : okC cs) (hoka : ∀ q ∈ lv_args 0 as, okV cs.length q.2) (h : Fc cs.length d mc ms 0 0 μ 0 (lv_args 0 as) [] cs ys) : EvC d mc ms μ as cs ys := by
  intro l dC dI cA ad sz
  refine Met.ofW (cc := μ.2.1) (maxL := μ.2.2.1) (ret := μ.2.2.2) hp rfl ?_
  intro p e s m args below meth c s₁ B hml hv
  obtain ⟨rfl, rfl, hP, hK, hD, hEc, hE⟩ := hv
  have hts := atoms_spec (ws := wsE μ) B.pre
  have hown : s.vm.findClass μ.1.cls = some m.cls := findClass_of_methodNamed B.named
  have hin : meth.name = "<init>" := by rw [← hn]; exact (name_of_methodNamed B.named B.method).1
  have hD2 : va_D (AC cs.length ad s.heap.size) (wsC cA ad cs) := ⟨hD.1, fun k q hk => by
    obtain ⟨e, h1, rfl⟩ := wsC_at hk
    exact Or.inl ⟨k, (List.getElem?_eq_some_iff.mp h1).1, rfl⟩⟩
  have hl := lv_entry (as.map (rv ad)) (n := μ.2.2.1) (by rw [lg_sl_rv]; exact hf)
  rw [lg_entry_eq]
  generalize (lg_sl (as.map (rv ad)) ++ List.replicate (μ.2.2.1 - (lg_sl (as.map (rv ad))).length) Slot.unset).toArray = ls at hl ⊢
  rw [lv_args_rv] at hl
  exact h p l e s m (as.map (rv ad)).toArray below meth c s.heap [] dC dI cA ad ad (AC cs.length ad s.heap.size) ls ⟨B.exec, B.bytes, hml, B.returns.trans hr, B.notSynchronized, hown, fun w hw => hts w (List.mem_cons_of_mem _ hw), hK, fun q hq => Or.inr hq, hEc, hE, rfl, hin⟩ (fun _ _ => rfl) (Nat.le_refl _) hl3 hok (fun v hv => by cases hv) hoka hP hD2 va_S.rf hl
