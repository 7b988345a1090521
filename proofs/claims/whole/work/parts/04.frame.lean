def strL : List (String × Nat × String) := [("FogKeys$PortReader", 67, "port"), ("FogKeys$PortReader", 120, "by"), ("FogKeys$PortReader", 83, "gate"), ("FogKeys$Scanner", 67, " port by gate at lets answers open quota holder votes trade from to pays clear ship dark wind thins foggy hour shut storm when loop end stop "), ("FogKeys$PortReader", 140, "at"), ("FogKeys$PortReader", 146, "lets"), ("FogKeys$PortReader", 148, "answers"), ("FogKeys$PortReader", 153, "open"), ("FogKeys$PortReader", 159, "quota"), ("FogKeys$PortReader", 88, "holder"), ("FogKeys$PortReader", 167, "votes"), ("FogKeys$PortReader", 93, "trade"), ("FogKeys$PortReader", 178, "from"), ("FogKeys$PortReader", 180, "to"), ("FogKeys$PortReader", 182, "pays"), ("FogKeys$PortReader", 184, "clear"), ("FogKeys$PortReader", 98, "ship"), ("FogKeys$PortReader", 191, "dark"), ("FogKeys$PortReader", 103, "wind"), ("FogKeys$PortReader", 109, "thins"), ("FogKeys$PortReader", 111, "foggy"), ("FogKeys$NightsReader", 45, "end"), ("FogKeys$NightsReader", 98, "hour"), ("FogKeys$NightsReader", 100, "open"), ("FogKeys$NightsReader", 102, "shut"), ("FogKeys$NightsReader", 104, "wind"), ("FogKeys$NightsReader", 106, "storm"), ("FogKeys$NightsReader", 108, "when"), ("FogKeys$NightsReader", 110, "loop"), ("FogKeys$NightsReader", 112, "stop"), ("FogKeys$NightsReader", 124, "foggy"), ("FogKeys$NightsReader", 132, "lets")]
def chL : List (List Int32) := [[112, 111, 114, 116], [98, 121], [103, 97, 116, 101], [32, 112, 111, 114, 116, 32, 98, 121, 32, 103, 97, 116, 101, 32, 97, 116, 32, 108, 101, 116, 115, 32, 97, 110, 115, 119, 101, 114, 115, 32, 111, 112, 101, 110, 32, 113, 117, 111, 116, 97, 32, 104, 111, 108, 100, 101, 114, 32, 118, 111, 116, 101, 115, 32, 116, 114, 97, 100, 101, 32, 102, 114, 111, 109, 32, 116, 111, 32, 112, 97, 121, 115, 32, 99, 108, 101, 97, 114, 32, 115, 104, 105, 112, 32, 100, 97, 114, 107, 32, 119, 105, 110, 100, 32, 116, 104, 105, 110, 115, 32, 102, 111, 103, 103, 121, 32, 104, 111, 117, 114, 32, 115, 104, 117, 116, 32, 115, 116, 111, 114, 109, 32, 119, 104, 101, 110, 32, 108, 111, 111, 112, 32, 101, 110, 100, 32, 115, 116, 111, 112, 32], [97, 116], [108, 101, 116, 115], [97, 110, 115, 119, 101, 114, 115], [111, 112, 101, 110], [113, 117, 111, 116, 97], [104, 111, 108, 100, 101, 114], [118, 111, 116, 101, 115], [116, 114, 97, 100, 101], [102, 114, 111, 109], [116, 111], [112, 97, 121, 115], [99, 108, 101, 97, 114], [115, 104, 105, 112], [100, 97, 114, 107], [119, 105, 110, 100], [116, 104, 105, 110, 115], [102, 111, 103, 103, 121], [101, 110, 100], [104, 111, 117, 114], [111, 112, 101, 110], [115, 104, 117, 116], [119, 105, 110, 100], [115, 116, 111, 114, 109], [119, 104, 101, 110], [108, 111, 111, 112], [115, 116, 111, 112], [102, 111, 103, 103, 121], [108, 101, 116, 115]]
def nestW : List Cond := [.fieldLinkNest "FogKeys$Weather" 89 "FogKeys" "COLUMN_STEPS" "[I" "FogKeys", .fieldLinkNest "FogKeys$Weather" 92 "FogKeys" "ROW_STEPS" "[I" "FogKeys", .fieldLinkNest "FogKeys$Port" 99 "FogKeys" "COLUMN_STEPS" "[I" "FogKeys", .fieldLinkNest "FogKeys$Port" 102 "FogKeys" "ROW_STEPS" "[I" "FogKeys", .fieldLinkNest "FogKeys$Roads" 119 "FogKeys" "OPPOSITES" "[I" "FogKeys", .fieldLinkNest "FogKeys$Port" 138 "FogKeys" "FACTORIALS" "[I" "FogKeys"]
def stN : List String := ["COLUMN_STEPS", "ROW_STEPS", "OPPOSITES", "FACTORIALS"]
def stA : List (List Int32) := [[0, 1, 0, -1, 0], [0, 0, 1, 0, -1], [0, 3, 4, 1, 2], [1, 1, 2, 6, 24, 120, 720]]
def EnvS (ad : Nat → Nat) (A : Nat → Prop) (U : State) (H : Heap) (k : Nat) : Prop :=
  vk_R (strL.getD k ("", 0, "")).1 (strL.getD k ("", 0, "")).2.1 (strL.getD k ("", 0, "")).2.2 (ad (400 + k)) U ∧ va_O "java/lang/String" (ad (400 + k)) A U H ∧ va_OF "java/lang/String" "coder" "B" (.int 0) (ad (400 + k)) A U H ∧ va_OF "java/lang/String" "value" "[B" (.ref (ad (500 + k))) (ad (400 + k)) A U H ∧ va_T .byte (ad (500 + k)) (chL.getD k []).length (fun j => .int ((chL.getD k []).getD j 0)) A U H
/-- what surrounds our objects and stays as it is: static arrays, string constants -/
def EnvF (ad : Nat → Nat) (A : Nat → Prop) (U : State) (H : Heap) : Prop :=
  (∀ k, k < 4 → va_Z "FogKeys" (stN.getD k "") "[I" (.ref (ad (300 + k))) A U H ∧ va_T .int (ad (300 + k)) (stA.getD k []).length (fun j => .int ((stA.getD k []).getD j 0)) A U H) ∧
  (∀ w ∈ nestW, va_Nw w U) ∧ (∀ k, k < 32 → EnvS ad A U H k) ∧ va_Z "java/lang/String" "COMPACT_STRINGS" "Z" (.int 1) A U H ∧
  (va_Z "jdk/internal/util/Preconditions" "SIOOBE_FORMATTER" "Ljava/util/function/BiFunction;" .null A U H ∨ va_Z "jdk/internal/util/Preconditions" "SIOOBE_FORMATTER" "Ljava/util/function/BiFunction;" (.ref (ad 600)) A U H)
theorem EnvF.warm {ad : Nat → Nat} {A : Nat → Prop} {s U : State} {H : Heap} (hW : s.WarmedH U.vm) (h : EnvF ad A s H) : EnvF ad A U H := by
  have ha := hW.alike
  obtain ⟨h1, h2, h3, h4, h5⟩ := h
  refine ⟨fun k hk => ⟨(h1 k hk).1.moved ha, (h1 k hk).2.moved ha⟩, fun w hw => ?_, fun k hk => ?_, h4.moved ha, ?_⟩
  · have := h2 w hw
    simp only [nestW, List.mem_cons, List.not_mem_nil, or_false] at hw
    rcases hw with rfl | rfl | rfl | rfl | rfl | rfl <;> exact va_Nw.warmF hW this
  · obtain ⟨a, b, c, d, e⟩ := h3 k hk
    exact ⟨a.warm hW, b.moved ha, c.moved ha, d.moved ha, e.moved ha⟩
  · rcases h5 with h | h
    · exact Or.inl (h.moved ha)
    · exact Or.inr (h.moved ha)
theorem EnvF.same {ad : Nat → Nat} {A : Nat → Prop} {s U : State} {H : Heap} (hv : U.vm = s.vm) (h : EnvF ad A s H) : EnvF ad A U H := by
  have ha : s.vm.Alike U.vm := by rw [hv]; exact Vm.Alike.refl _
  obtain ⟨h1, h2, h3, h4, h5⟩ := h
  refine ⟨fun k hk => ⟨(h1 k hk).1.moved ha, (h1 k hk).2.moved ha⟩, fun w hw => ?_, fun k hk => ?_, h4.moved ha, ?_⟩
  · have := h2 w hw
    simp only [nestW, List.mem_cons, List.not_mem_nil, or_false] at hw
    rcases hw with rfl | rfl | rfl | rfl | rfl | rfl <;> exact va_Nw.same rfl hv.symm this
  · obtain ⟨a, b, c, d, e⟩ := h3 k hk
    exact ⟨a.same hv, b.moved ha, c.moved ha, d.moved ha, e.moved ha⟩
  · rcases h5 with h | h
    · exact Or.inl (h.moved ha)
    · exact Or.inr (h.moved ha)
theorem EnvF.kept {ad : Nat → Nat} {A : Nat → Prop} {U : State} {H H1 : Heap} (hq : ∀ a : Nat, a < H.size → ¬ A a → H1[a]? = H[a]?) (h : EnvF ad A U H) : EnvF ad A U H1 := by
  obtain ⟨h1, h2, h3, h4, h5⟩ := h
  refine ⟨fun k hk => ⟨(h1 k hk).1.kept hq, (h1 k hk).2.kept hq⟩, h2, fun k hk => ?_, h4.kept hq, ?_⟩
  · obtain ⟨a, b, c, d, e⟩ := h3 k hk
    exact ⟨a, b.kept hq, c.kept hq, d.kept hq, e.kept hq⟩
  · rcases h5 with h | h
    · exact Or.inl (h.kept hq)
    · exact Or.inr (h.kept hq)
theorem EnvF.narrow {ad : Nat → Nat} {A B : Nat → Prop} {U : State} {H : Heap} (hq : ∀ q, B q → A q) (h : EnvF ad A U H) : EnvF ad B U H := by
  obtain ⟨h1, h2, h3, h4, h5⟩ := h
  refine ⟨fun k hk => ⟨(h1 k hk).1.narrow hq, (h1 k hk).2.narrow hq⟩, h2, fun k hk => ?_, h4.narrow hq, ?_⟩
  · obtain ⟨a, b, c, d, e⟩ := h3 k hk
    exact ⟨a, b.narrow hq, c.narrow hq, d.narrow hq, e.narrow hq⟩
  · rcases h5 with h | h
    · exact Or.inl (h.narrow hq)
    · exact Or.inr (h.narrow hq)
/-- room of d calls within each other -/
def roomD (d : Nat) : Room := { frames := d, cells := 0, slots := 0, locals := 100 * d }
/-- a method: its name, its bytes, its locals, what it answers -/
abbrev MI : Type := MethodName × ByteArray × Nat × Option FieldType
def wsE (μ : MI) : List Cond := Cond.code μ.1 μ.2.1 μ.2.2.1 μ.2.2.2 :: TG
/-- behind a method: the answer r and the numbers M' with Q -/
def QG (b n : Nat) (dC : Nat → ClassId) (dI : Nat → Nat → Nat) (cA : Nat → ClassId) (ad : Nat → Nat) (A : Nat → Prop) (Q : Option Value → Mem → Prop) : Array Value → State → Outcome → State → Prop := fun _ st oc t =>
  (∃ (r : Option Value) (M' : Mem), oc = .returned (r.map (rv ad)) ∧ Q r M' ∧ va_P (dC, dI) classes (wsM b n cA ad M') t.heap) ∧ va_F A st t
/-- what holds at a method's start -/
def PG (b n : Nat) (dC : Nat → ClassId) (dI : Nat → Nat → Nat) (cA : Nat → ClassId) (ad : Nat → Nat) (sz : Nat) (M : Mem) (U : State) : Prop :=
  U.heap.size = sz ∧ va_P (dC, dI) classes (wsM b n cA ad M) U.heap ∧ va_K (dC, dI) classes (tysA cA) U ∧ va_D (fun _ => True) (wsM b n cA ad M) ∧ EnvF ad (AA b n ad sz) U U.heap
/-- the method, called with as over the numbers M in the cells b .. b + n - 1: it returns, with Q -/
def Ev (b n d : Nat) (μ : MI) (as : List Value) (M : Mem) (Q : Option Value → Mem → Prop) : Prop :=
  ∀ (l : Launch) (dC : Nat → ClassId) (dI : Nat → Nat → Nat) (cA : Nat → ClassId) (ad : Nat → Nat) (sz : Nat),
    Met l μ.1 (wsE μ) (roomD d) (va_Pc (as.map (rv ad)) (PG b n dC dI cA ad sz M)) (QG b n dC dI cA ad (AA b n ad sz) Q) 0 0 (AA b n ad sz)
def CX (b n : Nat) (μ : MI) (p : Program) (s : State) (m : MethodId) (args : Array Value) (meth : Method) (c : Code) (dC : Nat → ClassId) (dI : Nat → Nat → Nat) (cA : Nat → ClassId) (ad : Nat → Nat) (A : Nat → Prop) : Prop :=
  p.tables.exec = Jvm.exec ∧ c.code = μ.2.1 ∧ c.maxLocals = μ.2.2.1 ∧ meth.sig.returnType = μ.2.2.2 ∧ meth.locks = false ∧ s.vm.findClass μ.1.cls = some m.cls ∧ (∀ w ∈ TG, w.before args s = true) ∧
  va_K (dC, dI) classes (tysA cA) s ∧ (∀ M : Mem, va_D A (wsM b n cA ad M)) ∧ (∀ q, s.heap.size ≤ q → A q) ∧ EnvF ad A s s.heap ∧ A = AA b n ad s.heap.size
/-- within a method, at pc with the locals lv and the stack st over the numbers M: it comes to its end, with Q -/
def Fr (b n d : Nat) (μ : MI) (pc : Nat) (lv : List (Nat × Value)) (st : List Value) (M : Mem) (Q : Option Value → Mem → Prop) : Prop :=
  ∀ (p : Program) (l : Launch) (e : Env) (s : State) (m : MethodId) (args : Array Value) (below : List Frame) (meth : Method) (c : Code) (H : Heap) (locs : List Loc) (dC : Nat → ClassId) (dI : Nat → Nat → Nat) (cA : Nat → ClassId) (ad : Nat → Nat) (A : Nat → Prop) (ls : Array Slot),
    CX b n μ p s m args meth c dC dI cA ad A → va_P (dC, dI) classes (wsM b n cA ad M) H → va_S A s.heap H locs → lv_has ls μ.2.2.1 (lv.map (rq ad)) →
    W p l e (roomD d) s m args below meth c H locs 0 0 (MQ below (QG b n dC dI cA ad A Q) args s 0 0 A) (F0 m pc ls (st.map (rv ad)))
set_option maxHeartbeats 4000000 in
theorem Ev_of_Fr {b n d : Nat} {μ : MI} {as : List Value} {M : Mem} {Q : Option Value → Mem → Prop} (hp : plainName μ.1.cls = true) (hf : (lg_sl as).length ≤ μ.2.2.1) (h : Fr b n d μ 0 (lv_args 0 as) [] M Q) : Ev b n d μ as M Q := by
  intro l dC dI cA ad sz
  refine Met.ofW (cc := μ.2.1) (maxL := μ.2.2.1) (ret := μ.2.2.2) hp rfl ?_
  intro p e s m args below meth c s₁ B hml hv
  obtain ⟨rfl, rfl, hP, hK, hD, hE⟩ := hv
  have hts := atoms_spec (ws := wsE μ) B.pre
  have hown : s.vm.findClass μ.1.cls = some m.cls := findClass_of_methodNamed B.named
  have hD2 : va_D (AA b n ad s.heap.size) (wsM b n cA ad M) := ⟨hD.1, fun k q hk => by
    obtain ⟨h1, rfl⟩ := ws_at hk
    exact Or.inl ⟨k, h1, rfl⟩⟩
  have hl := lv_entry (as.map (rv ad)) (n := μ.2.2.1) (by rw [lg_sl_rv]; exact hf)
  rw [lg_entry_eq]
  generalize (lg_sl (as.map (rv ad)) ++ List.replicate (μ.2.2.1 - (lg_sl (as.map (rv ad))).length) Slot.unset).toArray = ls at hl ⊢
  rw [lv_args_rv] at hl
  exact h p l e s m (as.map (rv ad)).toArray below meth c s.heap [] dC dI cA ad (AA b n ad s.heap.size) ls ⟨B.exec, B.bytes, hml, B.returns, B.notSynchronized, hown, fun w hw => hts w (List.mem_cons_of_mem _ hw), hK, fun M' => ws_D hD2, fun q hq => Or.inr hq, hE, rfl⟩ hP va_S.rf hl
theorem PG_blind {b n : Nat} {as : List Value} {dC : Nat → ClassId} {dI : Nat → Nat → Nat} {cA : Nat → ClassId} {ad : Nat → Nat} {sz : Nat} {M : Mem} : FrameBlind (va_Pc (as.map (rv ad)) (PG b n dC dI cA ad sz M)) := by
  intro a U g mk q
  obtain ⟨q0, q1, qP, qK, qD, qE⟩ := q
  exact ⟨q0, q1, qP, va_K.moved (u := U) (U := U.calling g mk a) (Vm.Alike.refl U.vm) qK, qD, EnvF.same (s := U) (U := U.calling g mk a) rfl qE⟩
