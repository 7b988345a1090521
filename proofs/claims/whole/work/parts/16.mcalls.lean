theorem ao_spec {u : State} (h : (Cond.arrayOver (.array .long)).before #[] u = true) : ∃ comp c k, u.vm.findClass (FieldType.array .long).toString = some comp ∧ (u.vm.classes.findIdx? fun x => match x.kind with | .array component _ => component == comp | _ => false) = some c ∧ u.vm.classes[c]? = some k ∧ k.kind = .array comp (.array .long) ∧ u.vm.findClass ("[" ++ (FieldType.array .long).toString) = some c := by
  simp only [Cond.before, Cond.holds, Cond.value, beq_iff_eq] at h
  cases hc : u.vm.findClass (FieldType.array .long).toString with
  | none => simp [hc] at h
  | some comp =>
    simp only [hc, Option.bind_some, Option.bind_eq_some_iff, Option.map_eq_some_iff] at h
    obtain ⟨c, hi, k, hk, hb⟩ := h
    obtain ⟨hlt, hp, -⟩ := Array.findIdx?_eq_some_iff_getElem.mp hi
    have hkk : u.vm.classes[c] = k := (Array.getElem?_eq_some_iff.mp hk).2
    rw [hkk] at hp
    cases hkind : k.kind with
    | array component ty =>
      rw [hkind] at hb hp
      simp at hb hp
      exact ⟨comp, c, k, rfl, hi, hk, by rw [hkind, hp, hb.1], hb.2⟩
    | _ => rw [hkind] at hb; simp at hb
theorem ao_moved {u U : State} (hvm : u.vm.Alike U.vm) (h : (Cond.arrayOver (.array .long)).before #[] u = true) : (Cond.arrayOver (.array .long)).before #[] U = true := by
  obtain ⟨comp, c, k, h1, h2, h3, h4, h5⟩ := ao_spec h
  obtain ⟨k', hk', he⟩ := hvm.2.2 _ _ h3
  have e1 := va_idx_bare U.vm comp
  have e2 := va_idx_bare u.vm comp
  have e3 : u.vm.bare = U.vm.bare := by first | exact hvm.bare_eq | exact hvm.bare_eq.symm
  rw [e3] at e2
  have hi : (U.vm.classes.findIdx? fun (x : Class) => match x.kind with | .array component _ => component == comp | _ => false) = some c := e1.symm.trans (e2.trans h2)
  have hkind : k'.kind = .array comp (.array .long) := by rw [he]; exact h4
  have f1 : U.vm.findClass (FieldType.array .long).toString = some comp := by rw [hvm.findClass]; exact h1
  have f2 : U.vm.findClass ("[" ++ (FieldType.array .long).toString) = some c := by rw [hvm.findClass]; exact h5
  unfold Cond.before Cond.holds
  simp only [Cond.value]
  rw [f1, Option.bind_some]
  refine (congrArg (fun o : Option Nat => (o.bind (fun c => (U.vm.classes[c]?).map fun (k : Class) => match k.kind with | .array _ ty => decide (ty = FieldType.array .long) && decide (U.vm.findClass ("[" ++ (FieldType.array .long).toString) = some c) | _ => false) == some true)) hi).trans ?_
  simp [hk', hkind, f2]
theorem EnvC.warm {s U : State} (hW : s.WarmedH U.vm) (h : EnvC s) : EnvC U := by
  refine ⟨fun w hw => ?_, fun w hw => ?_⟩
  · have := h.1 w hw
    simp only [nestM, List.mem_cons, List.not_mem_nil, or_false] at hw
    rcases hw with rfl | rfl | rfl | rfl <;> exact va_Nw.warmM hW this
  · have := h.2 w hw
    simp only [overW, List.mem_cons, List.not_mem_nil, or_false] at hw
    rcases hw with rfl | rfl
    · exact va_AO.moved hW.alike this
    · exact ao_moved hW.alike this
theorem EnvC.same {s U : State} (hv : U.vm = s.vm) (h : EnvC s) : EnvC U := by
  have ha : s.vm.Alike U.vm := by rw [hv]; exact Vm.Alike.refl _
  refine ⟨fun w hw => ?_, fun w hw => ?_⟩
  · have := h.1 w hw
    simp only [nestM, List.mem_cons, List.not_mem_nil, or_false] at hw
    rcases hw with rfl | rfl | rfl | rfl <;> exact va_Nw.same rfl hv.symm this
  · have := h.2 w hw
    simp only [overW, List.mem_cons, List.not_mem_nil, or_false] at hw
    rcases hw with rfl | rfl
    · exact va_AO.moved ha this
    · exact ao_moved ha this
theorem PCc_blind {as : List Value} {dC : Nat → ClassId} {dI : Nat → Nat → Nat} {cA : Nat → ClassId} {ad : Nat → Nat} {sz : Nat} {cs : List PE} : FrameBlind (va_Pc (as.map (rv ad)) (PCc dC dI cA ad sz cs)) := by
  intro a U g mk q
  obtain ⟨q0, q1, qP, qK, qD, qC, qE⟩ := q
  exact ⟨q0, q1, qP, va_K.moved (u := U) (U := U.calling g mk a) (Vm.Alike.refl U.vm) qK, qD, EnvC.same (s := U) (U := U.calling g mk a) rfl qC, EnvF.same (s := U) (U := U.calling g mk a) rfl qE⟩
theorem EnvF.ad {ad ad' : Nat → Nat} (h : ∀ i, 300 ≤ i → ad' i = ad i) {A : Nat → Prop} {U : State} {H : Heap} (hE : EnvF ad A U H) : EnvF ad' A U H := by
  obtain ⟨h1, h2, h3, h4, h5⟩ := hE
  refine ⟨fun k hk => ?_, h2, fun k hk => ?_, h4, ?_⟩
  · rw [h (300 + k) (by omega)]; exact h1 k hk
  · have := h3 k hk
    unfold EnvS at this ⊢
    rw [h (400 + k) (by omega), h (500 + k) (by omega)]
    exact this
  · rw [h 600 (by omega)]; exact h5
theorem AC_sub {n0 : Nat} {ad0 ad : Nat → Nat} {cs : List PE} {cA : Nat → ClassId} {sz : Nat} {A : Nat → Prop} {H0 H : Heap} {locs : List Loc} (hD : va_D A (wsC cA ad cs)) (hS : va_S A H0 H locs) (hA : ∀ q, H0.size ≤ q → A q) : ∀ q, AC cs.length ad H.size q → A q := fun q hq => by
  rcases hq with ⟨j, hj, rfl⟩ | h
  · exact hD.2 j (ad j, reE cA ad cs[j]) (wsC_get (List.getElem?_eq_getElem hj))
  · exact hA q (Nat.le_trans hS.1 h)
section FCC
variable {n0 d mc ms cells slots : Nat} {μ : MI} {pc : Nat} {lv : List (Nat × Value)} {st : List Value} {cs ys : List PE}
theorem PCc_in {p : Program} {s U : State} {m : MethodId} {args : Array Value} {meth : Method} {c : Code} {dC : Nat → ClassId} {dI : Nat → Nat → Nat} {cA : Nat → ClassId} {ad0 ad : Nat → Nat} {A : Nat → Prop} {H : Heap} {locs : List Loc} (C : CXc n0 μ p s m args meth c dC dI cA ad0 A) (hag : ∀ i, i < n0 ∨ 300 ≤ i → ad i = ad0 i) (hP : va_P (dC, dI) classes (wsC cA ad cs) H) (hD : va_D A (wsC cA ad cs)) (hS : va_S A s.heap H locs) (hU : U.heap = H) (hW : s.WarmedH U.vm) : PCc dC dI cA ad H.size cs U := by
  obtain ⟨hx, hb, hml, hr, hlk, hown, hts, hK, hA, hEc, hE, hAe, hin⟩ := C
  refine ⟨by rw [hU], by rw [hU]; exact hP, va_K.moved hW.alike hK, hD.weaken (fun _ _ _ _ => trivial), hEc.warm hW, ?_⟩
  rw [hU]
  exact EnvF.warm hW (((EnvF.ad (fun i hi => hag i (Or.inr hi)) hE).kept hS.2.1).narrow (AC_sub (n0 := n0) (ad0 := ad0) (sz := 0) hD hS hA))
theorem ctorGo {d' mc' ms' : Nat} {zs : List PE} {p : Program} {l : Launch} {e : Env} {s : State} {m : MethodId} {args a : Array Value} {below : List Frame} {meth : Method} {c : Code} {H : Heap} {locs : List Loc} {dC : Nat → ClassId} {dI : Nat → Nat → Nat} {cA : Nat → ClassId} {ad0 ad : Nat → Nat} {A : Nat → Prop} {ls : Array Slot} {g0 : List Value}
    (C : CXc n0 μ p s m args meth c dC dI cA ad0 A) (hag : ∀ i, i < n0 ∨ 300 ≤ i → ad i = ad0 i) (hn0 : n0 ≤ cs.length) (hos : ∀ v ∈ st, okV cs.length v) (hol : ∀ q ∈ lv, okV cs.length q.2) (hD : va_D A (wsC cA ad cs)) (hS : va_S A s.heap H locs) (hl : lv_has ls μ.2.2.1 (lv.map (rq ad))) (hzl : cs.length ≤ zs.length) (hz3 : zs.length < 300) (hzok : okC zs)
    (hrun : va_Run p l e (roomC d mc ms) s m args below meth c H locs cells slots mc' ms' (F0 m pc ls g0) (st.map (rv ad)) (QC cs.length dC dI cA ad (AC cs.length ad H.size) zs a) (AC cs.length ad H.size))
    (k : Fc n0 d mc ms (cells + mc') (slots + ms') μ (pc + 3) lv st zs ys) : W p l e (roomC d mc ms) s m args below meth c H locs cells slots (MQ below (QC n0 dC dI cA ad0 A ys) args s mc ms A) (F0 m pc ls g0) := by
  intro T hT X
  obtain ⟨v, st₀, t, T', L, h0, X', hL, e1, e2, ⟨⟨ad', hag', hv, hP1, hD1⟩, hz, hk1⟩, stp⟩ := hrun T hT X
  rw [h0] at hz hk1
  have hf := AC_sub (n0 := n0) (ad0 := ad0) (sz := 0) hD hS C.2.2.2.2.2.2.2.2.1
  have hv' : v = none := by cases hv; rfl
  subst hv'
  have hS' : va_S A s.heap T'.heap (locs ++ L) := ⟨Nat.le_trans hS.1 (by rw [e1]; exact hz), fun q h1 h2 => by rw [e1, hk1 q (Nat.lt_of_lt_of_le h1 hS.1) (fun z => h2 (hf q z))]; exact hS.2.1 q h1 h2, fun q hq => by
      rcases List.mem_append.mp hq with h | h
      · exact hS.2.2 q h
      · exact hf _ (hL q h)⟩
  have ha1 : ∀ i, i < cs.length → ad' i = ad i := fun i hi => hag' i (Or.inl hi)
  obtain ⟨t2, a1, b1⟩ := k p l e s m args below meth c T'.heap (locs ++ L) dC dI cA ad0 ad' A ls C (fun i hi => by
      rcases hi with h | h
      · rw [hag' i (Or.inl (by omega))]; exact hag i (Or.inl h)
      · rw [hag' i (Or.inr h)]; exact hag i (Or.inr h)) (Nat.le_trans hn0 hzl) hz3 hzok (fun v hv => (hos v hv).mono hzl) (fun v hv => (hol v hv).mono hzl) (by rw [e1]; exact hP1) (hD1.weaken (fun _ q _ h => hf q.1 h)) hS' (by rw [lv_agree ha1 hol]; exact hl) T' rfl X'
  refine ⟨t2, stp t2 ?_, b1⟩
  show Steps p.tables e below (T'.setTop (F0 m (pc + 3) ls (st.map (rv ad)))) t2
  rw [← st_agree ha1 hos]
  exact a1
theorem Fc_ctor {ν : MI} {d' mc' ms' idx i : Nat} {As stk : List Value} {zs : List PE} (hd : decode μ.2.1 pc = .ok (.invokespecial idx, 3)) (hl0 : Cond.methodLink μ.1.cls idx ν.1 ∈ TG) (hν : CalleeB ν As.length) (hin : Cond.instanceMethod ν.1 ∈ TG) (hnm : ν.1.name = "<init>") (hret : ν.2.2.2 = none) (hstk : stk = As.reverse ++ .ref i :: st) (hdd : d' < d) (hw : (st.map fun v => v.category).sum ≤ 8) (hc1 : cells + mc' ≤ mc) (hs1 : slots + ms' ≤ ms) (hEv : EvC d' mc' ms' ν (.ref i :: As) cs zs) (hzl : cs.length ≤ zs.length) (hz3 : zs.length < 300) (hzok : okC zs) (k : Fc n0 d mc ms (cells + mc') (slots + ms') μ (pc + 3) lv st zs ys) : Fc n0 d mc ms cells slots μ pc lv stk cs ys := by
  subst hstk
  intro p l e s m args below meth c H locs dC dI cA ad0 ad A ls C hag hn0 h3 hok hos hol hP hD hS hlv
  obtain ⟨hx, hb, hml, hr, hlk, hown, hts, hK, hA, hEc, hE, hAe, hinn⟩ := id C
  have hM := hEv l dC dI cA ad H.size
  have hG : GoodIn TG (wsE ν) := by
    intro w hw'
    have hin : w ∈ TG := by
      simp only [wsE, List.mem_cons] at hw'
      rcases hw' with rfl | h
      · exact hν.1
      · exact h
    exact tg_good w hin
  have hR : (roomC d' mc' ms').frames + 1 ≤ (roomC d mc ms).frames ∧ 8 + (ν.2.2.1 + 11) + (roomC d' mc' ms').locals ≤ (roomC d mc ms).locals := by
    have := hν.2.2.2
    refine ⟨hdd, ?_⟩
    show 8 + (ν.2.2.1 + 11) + 100 * d' ≤ 100 * d
    omega
  have cw := cwI (R := roomC d mc ms) (rm := roomC d' mc' ms') (mc := mc') (ms := ms') (bytes := ν.2.1) (maxL := ν.2.2.1) (ws' := TG) As.length hts hG (by unfold wsE; rw [hret]) rfl rfl (hts _ hν.2.1) (hts _ hl0) (hts _ hin) hnm hν.2.2.1 hR
  have hos' : ∀ v ∈ st, okV cs.length v := fun v hv => hos v (List.mem_append_right _ (List.mem_cons_of_mem _ hv))
  refine ctorGo (a := (Value.ref (ad i) :: As.map (rv ad)).toArray) (d' := d') C hag hn0 hos' hol hD hS hlv hzl hz3 hzok ?_ k
  exact va_runI (As := As.map (rv ad)) (b := ad i) (rest := st.map (rv ad)) ⟨hx, hb, hml, hown, hts⟩ hM cw ⟨PCc_blind, fun U hU hW => ⟨rfl, PCc_in C hag hP hD hS hU hW⟩⟩ rfl (by simp) hlv.1 (by simp [rv]) (lv_room (by rw [rv_cats]; exact hw)) hd ⟨hc1, hs1⟩
theorem Fc_ctorN {ν : MI} {d' mc' ms' idx i : Nat} {As stk : List Value} {zs : List PE} (hd : decode μ.2.1 pc = .ok (.invokespecial idx, 3)) (hl0 : Cond.methodLinkNest μ.1.cls idx ν.1 "FogKeys" ∈ nestM) (hν : CalleeB ν As.length) (hin : Cond.instanceMethod ν.1 ∈ TG) (hnm : ν.1.name = "<init>") (hret : ν.2.2.2 = none) (hstk : stk = As.reverse ++ .ref i :: st) (hdd : d' < d) (hw : (st.map fun v => v.category).sum ≤ 8) (hc1 : cells + mc' ≤ mc) (hs1 : slots + ms' ≤ ms) (hEv : EvC d' mc' ms' ν (.ref i :: As) cs zs) (hzl : cs.length ≤ zs.length) (hz3 : zs.length < 300) (hzok : okC zs) (k : Fc n0 d mc ms (cells + mc') (slots + ms') μ (pc + 3) lv st zs ys) : Fc n0 d mc ms cells slots μ pc lv stk cs ys := by
  subst hstk
  intro p l e s m args below meth c H locs dC dI cA ad0 ad A ls C hag hn0 h3 hok hos hol hP hD hS hlv
  obtain ⟨hx, hb, hml, hr, hlk, hown, hts, hK, hA, hEc, hE, hAe, hinn⟩ := id C
  have hM := hEv l dC dI cA ad H.size
  have hG : GoodIn TG (wsE ν) := by
    intro w hw'
    have hin : w ∈ TG := by
      simp only [wsE, List.mem_cons] at hw'
      rcases hw' with rfl | h
      · exact hν.1
      · exact h
    exact tg_good w hin
  have hR : (roomC d' mc' ms').frames + 1 ≤ (roomC d mc ms).frames ∧ 8 + (ν.2.2.1 + 11) + (roomC d' mc' ms').locals ≤ (roomC d mc ms).locals := by
    have := hν.2.2.2
    refine ⟨hdd, ?_⟩
    show 8 + (ν.2.2.1 + 11) + 100 * d' ≤ 100 * d
    omega
  have cw := va_cnB (R := roomC d mc ms) (rm := roomC d' mc' ms') (mc := mc') (ms := ms') (bytes := ν.2.1) (maxL := ν.2.2.1) (ret := none) (ws' := TG) As.length hts hG (by unfold wsE; rw [hret]) rfl rfl (hEc.1 _ hl0) (hts _ hν.2.1) hν.2.2.1 hR
  have hos' : ∀ v ∈ st, okV cs.length v := fun v hv => hos v (List.mem_append_right _ (List.mem_cons_of_mem _ hv))
  refine ctorGo (a := (Value.ref (ad i) :: As.map (rv ad)).toArray) (d' := d') C hag hn0 hos' hol hD hS hlv hzl hz3 hzok ?_ k
  exact va_runIN (As := As.map (rv ad)) (b := ad i) (rest := st.map (rv ad)) ⟨hx, hb, hml, hown, hts⟩ hM ⟨cw, hnm, hts _ hin⟩ ⟨PCc_blind, fun U hU hW => ⟨rfl, PCc_in C hag hP hD hS hU hW⟩⟩ rfl (by simp) hlv.1 (by simp [rv]) (lv_room (by rw [rv_cats]; exact hw)) hd ⟨hc1, hs1⟩
theorem Fc_anew {idx N : Nat} {v : Int32} (hd : decode μ.2.1 pc = .ok (.anewarray idx, 3)) (hcl : Cond.classLink μ.1.cls idx "FogKeys$Port" ∈ TG) (hn : ¬ v < 0) (hN : v.toNatClampNeg = N) (hb : N * 4 ≤ 536870912) (hc1 : cells + 1 ≤ mc) (hs1 : slots + N ≤ ms) (h300 : cs.length + 1 < 300) (k : Fc n0 d mc ms (cells + 1) (slots + N) μ (pc + 3) lv (.ref cs.length :: st) (cs ++ [.inl (24, N, .inr (.inr (.inr (.inr (fun _ => none)))))]) ys) : Fc n0 d mc ms cells slots μ pc lv (.int v :: st) cs ys := by
  intro p l e s m args below meth c H locs dC dI cA ad0 ad A ls C hag hn0 h3 hok hos hol hP hD hS hl
  obtain ⟨hx, hb', hml, hr, hlk, hown, hts, hK, hA, hEc, hE, hAe, hinn⟩ := id C
  refine va_newq (D := (dC, dI)) hx hb' hown (hts _ hcl) (hEc.2 (.arrayOver (.object "FogKeys$Port")) (by simp [overW])) hK hP hD hS hA hn hN hb hc1 hs1 hd (fun q cB H1 hK1 hP1 hD1 hS1 => ?_)
  have hcB : cB = cA 24 := by
    obtain ⟨_, _, -, -, -, e1⟩ := (hK1.2 6 (cB, .object "FogKeys$Port") (by simp [tysA])).2
    obtain ⟨_, _, -, -, -, e2⟩ := (hK.2 4 (cA 24, .object "FogKeys$Port") rfl).2
    exact Option.some.inj (e1.symm.trans e2)
  subst hcB
  have hoe : okE cs.length (.inl (24, N, .inr (.inr (.inr (.inr (fun _ => none)))))) := fun _ _ h => by cases h
  have hre2 : reE cA ad (.inl (24, N, .inr (.inr (.inr (.inr (fun _ => none)))))) = .inl (cA 24, N, .inr (.inr (.inr (.inr (fun _ => none))))) := rfl
  rw [← hre2, ← wsC_push hok hoe] at hP1 hD1
  have e3 : (.ref q :: st.map (rv ad)) = ((.ref cs.length :: st).map (rv (fun i => if i = cs.length then q else ad i))) := by
    rw [List.map_cons, st_agree ag_push (os_tl hos)]
    simp [rv]
  rw [e3]
  refine k p l e s m args below meth c H1 locs dC dI cA ad0 _ A ls C (fun i hi => ?_) (by rw [List.length_append]; exact Nat.le_add_right_of_le hn0) (by simp; omega) (hok.push hoe) (os_cons (by rw [List.length_append]; show cs.length < cs.length + 1; omega) (fun w hw => ((os_tl hos) w hw).mono (by simp))) (fun w hw => (hol w hw).mono (by simp)) hP1 hD1 hS1 ?_
  · show (if i = cs.length then q else ad i) = _
    rw [if_neg (by omega)]
    exact hag i hi
  · rw [lv_agree ag_push hol]
    exact hl
end FCC
