/-! Arrays.fill in a constructor -/
set_option maxRecDepth 20000 in
theorem fill9_h {N : Nat} {p0 : Nat} (hp0 : Ob 9 1 p0 20) {q : Mem} {k5 : Int32 × Int32 × Int32 → Mem → Option (Mem)} (hk5 : ∀ (a : Int32 × Int32 × Int32) (M : Mem), k5 a M = some q → Fr 9 1 0 m_J7_fill_53178 5 [(0, .ref p0), (1, .int a.1), (2, .int a.2.1), (3, .int a.2.2)] [] M (QV q)) {v1 : Int32} {v2 : Int32} {v3 : Int32} {M : Mem} (h : f_J7_fill_53178_h5 N p0 k5 v1 v2 v3 M = some q) : Fr 9 1 0 m_J7_fill_53178 5 [(0, .ref p0), (1, .int v1), (2, .int v2), (3, .int v3)] [] M (QV q) := by
  unfold f_J7_fill_53178_h5 at h
  refine Fr_iload_n (q := 2) (i := 2) 2 (by decide +kernel) rfl rfl ?_
  refine Fr_iload_n (q := 3) (i := 3) 3 (by decide +kernel) rfl rfl ?_
  refine Fr_icmp_ge (off := 13) 20 (by decide +kernel) (by decide) (fun hc => ?_) (fun hc => ?_)
  · have h := iT hc h
    obtain rfl := Option.some.inj h
    exact Fr_vret (by decide +kernel) rfl ⟨rfl, rfl⟩
  · have h := iF hc h
    refine Fr_aload_n (q := 0) (i := 0) 0 (by decide +kernel) rfl rfl ?_
    refine Fr_iload_n (q := 2) (i := 2) 2 (by decide +kernel) rfl rfl ?_
    refine Fr_iload_n (q := 1) (i := 1) 1 (by decide +kernel) rfl rfl ?_
    obtain ⟨hi_1, h⟩ := ck_elim h
    refine Fr_iast (by decide +kernel) hp0 (vp_of rfl hi_1) ?_
    obtain ⟨M_2, eM_2, h⟩ := bM_elim h
    refine Fr_mem eM_2 ?_
    refine Fr_iinc (i := 2) (j := 1) (v := (v2 + 1)) (lv' := [(2, .int (v2 + 1)), (0, .ref p0), (1, .int v1), (3, .int v3)]) 2 (by decide +kernel) rfl rfl (by decide) rfl ?_
    refine Fr_goto (off := (-12)) 5 (by decide +kernel) (by decide) ?_
    refine Fr_loc [1, 2, 0, 3] rfl ?_
    exact hk5 (v1, (v2 + 1), v3) M_2 h
set_option maxRecDepth 20000 in
theorem fill9 {N : Nat} {p0 : Nat} {x1 : Int32} (hp0 : Ob 9 1 p0 20) {M : Mem} {q : Mem} (h : f_J7_fill_53178 N p0 x1 M = some q) : Ev 9 1 0 m_J7_fill_53178 [.ref p0, .int x1] M (QV q) := by
  refine Ev_of_Fr (by decide +kernel) (Nat.le_of_ble_eq_true rfl) ?_
  show Fr 9 1 0 m_J7_fill_53178 0 [(0, .ref p0), (1, .int x1)] [] M (QV q)
  unfold f_J7_fill_53178 at h
  refine Fr_iconst (i := 0) (v := 0) (by decide +kernel) (by decide) ?_
  refine Fr_istore_n (q := 2) (i := 2) (lv' := [(2, .int 0), (0, .ref p0), (1, .int x1)]) (by decide +kernel) rfl (by decide) rfl ?_
  refine Fr_aload_n (q := 0) (i := 0) 1 (by decide +kernel) rfl rfl ?_
  refine Fr_alen (by decide +kernel) hp0 (by decide) rfl ?_
  refine Fr_istore_n (q := 3) (i := 3) (lv' := [(3, .int (Int32.ofNat (ln p0))), (2, .int 0), (0, .ref p0), (1, .int x1)]) (by decide +kernel) rfl (by decide) rfl ?_
  refine Fr_loc [2, 3, 1, 0] rfl ?_
  exact lp_sound (body := fun k a m => f_J7_fill_53178_h5 N p0 k a.1 a.2.1 a.2.2 m) (P := fun a M => Fr 9 1 0 m_J7_fill_53178 5 [(0, .ref p0), (1, .int a.1), (2, .int a.2.1), (3, .int a.2.2)] [] M (QV q)) (fun k hk a m h => fill9_h hp0 hk h) N (x1, 0, (Int32.ofNat (ln p0))) M h
section FCF
variable {n0 d mc ms cells slots : Nat} {μ : MI} {pc : Nat} {lv : List (Nat × Value)} {st : List Value} {cs ys : List PE}
theorem Fc_fill {idx i : Nat} {x : Int32} {f g : Nat → Int32} (hd : decode μ.2.1 pc = .ok (.invokestatic idx, 3)) (hl0 : Cond.methodLink μ.1.cls idx m_J7_fill_53178.1 ∈ TG) (h0d : 0 < d) (hw : (st.map fun v => v.category).sum ≤ 8) (hc1 : cells ≤ mc) (hs1 : slots ≤ ms) (hi : cs[i]? = some (.inl (20, 4, .inl f))) (hg : ∀ k, k < 4 → g k = x) (k : Fc n0 d mc ms cells slots μ (pc + 3) lv st (cs.set i (.inl (20, 4, .inl g))) ys) : Fc n0 d mc ms cells slots μ pc lv (.int x :: .ref i :: st) cs ys := by
  intro p l e s m args below meth c H locs dC dI cA ad0 ad A ls C hag hn0 h3 hok hos hol hP hD hS hl
  obtain ⟨hx, hb', hml, hr, hlk, hown, hts, hK, hA, hEc, hE, hAe, hinn⟩ := id C
  have hos' : ∀ v ∈ st, okV cs.length v := fun v hv => hos v (List.mem_cons_of_mem _ (List.mem_cons_of_mem _ hv))
  have hil : i < cs.length := (List.getElem?_eq_some_iff.mp hi).1
  let adF : Nat → Nat := fun j => if j = 9 then ad i else ad j
  have hF9 : adF 9 = ad i := if_pos rfl
  let M : Mem := (fun _ => f, fun _ _ => 0)
  obtain ⟨q, eq, -, hq⟩ := c_fillI (N := 301) (p := 9) (M := M) (by omega) x (by decide)
  have hEv : Ev 9 1 0 m_J7_fill_53178 [.ref 9, .int x] M (QV q) := fill9 ⟨by decide, by decide, by decide⟩ eq
  have hM := hEv l dC dI cA adF H.size
  have hν := cs_J7_fill_53178
  have hgood : GoodIn TG (va_wsS μ.1.cls idx m_J7_fill_53178.1 (wsE m_J7_fill_53178)) := by
    intro w hw'
    have hin : w ∈ TG := by
      simp only [va_wsS, wsE, List.cons_append, List.nil_append, List.mem_cons] at hw'
      rcases hw' with rfl | rfl | rfl | rfl | h
      · exact hl0
      · exact hν.2
      · exact hν.1.2.1
      · exact hν.1.1
      · exact h
    exact tg_good w hin
  have hcell : ∀ M' : Mem, cellE cA adF M' 9 = .inl (cA 20, 4, .inl (M'.1 9)) := fun M' => rfl
  have hws : ∀ M' : Mem, wsM 9 1 cA adF M' = [(ad i, .inl (cA 20, 4, .inl (M'.1 9)))] := fun M' => rfl
  have hP9 : va_P (dC, dI) classes (wsM 9 1 cA adF M) H := by
    rw [hws]
    intro k q hk
    have hk0 : k < 1 := (List.getElem?_eq_some_iff.mp hk).1
    rw [show k = 0 by omega] at hk
    cases hk
    exact hP i _ (wsC_get hi)
  have hD9 : va_D (fun _ => True) (wsM 9 1 cA adF M) := by
    rw [hws]
    refine ⟨fun i j p q h1 h2 _ => ?_, fun _ _ _ => trivial⟩
    have b1 : i < 1 := (List.getElem?_eq_some_iff.mp h1).1
    have b2 : j < 1 := (List.getElem?_eq_some_iff.mp h2).1
    omega
  have hAi : A (ad i) := hD.2 i _ (wsC_get hi)
  have hsub : ∀ q, AA 9 1 adF H.size q → A q := fun q hq => by
    rcases hq with ⟨j, hj, rfl⟩ | h
    · rw [show j = 0 by omega]; exact hAi
    · exact hA _ (Nat.le_trans hS.1 h)
  have hEF : EnvF adF A s s.heap := EnvF.ad (fun j hj => by
    show (if j = 9 then ad i else ad j) = _
    rw [if_neg (by omega)]
    exact hag j (Or.inr hj)) hE
  have hR : (roomD 0).frames + 1 ≤ (roomC d mc ms).frames ∧ 8 + (m_J7_fill_53178.2.2.1 + 11) + (roomD 0).locals ≤ (roomC d mc ms).locals := by
    refine ⟨h0d, ?_⟩
    show 8 + (4 + 11) + 100 * 0 ≤ 100 * d
    omega
  have cw := va_cwS (R := roomC d mc ms) (bytes := m_J7_fill_53178.2.1) (maxL := m_J7_fill_53178.2.2.1) (ret := m_J7_fill_53178.2.2.2) (rm := roomD 0) (mc := 0) (ms := 0) 2 hts hgood rfl rfl rfl hν.1.2.2.1 hR
  have hrun : va_Run p l e (roomC d mc ms) s m args below meth c H locs cells slots 0 0 (F0 m pc ls ((.int x :: .ref i :: st).map (rv ad))) (st.map (rv ad)) (QG 9 1 dC dI cA adF (AA 9 1 adF H.size) (QV q) ([.ref (ad i), .int x] : List Value).toArray) (AA 9 1 adF H.size) :=
    va_runS (As := [.ref (ad i), .int x]) (rest := st.map (rv ad)) ⟨hx, hb', hml, hown, hts⟩ hM cw ⟨PG_blind, fun U hU hW => ⟨rfl, by rw [hU], by rw [hU]; exact hP9, va_K.moved hW.alike hK, hD9, by rw [hU]; exact EnvF.warm hW ((hEF.kept hS.2.1).narrow hsub)⟩⟩ rfl (by simp) hl.1 (by simp [rv]) (lv_room (by rw [rv_cats]; exact hw)) hd ⟨hc1, hs1⟩
  intro T hT X
  obtain ⟨v, st₀, t, T', L, h0, X', hL, e1, e2, ⟨⟨r1, M1, hv, hQ, hP1⟩, hz, hk1⟩, stp⟩ := hrun T hT X
  rw [h0] at hz hk1
  obtain ⟨rfl, rfl⟩ := hQ
  have hv' : v = none := by cases hv; rfl
  subst hv'
  have hS' : va_S A s.heap T'.heap (locs ++ L) := ⟨Nat.le_trans hS.1 (by rw [e1]; exact hz), fun q h1 h2 => by rw [e1, hk1 q (Nat.lt_of_lt_of_le h1 hS.1) (fun z => h2 (hsub q z))]; exact hS.2.1 q h1 h2, fun q hq => by
      rcases List.mem_append.mp hq with h | h
      · exact hS.2.2 q h
      · exact hsub _ (hL q h)⟩
  have hlt : ∀ i, i < cs.length → ad i < H.size := fun i hi => (hP i _ (wsC_get (List.getElem?_eq_getElem hi))).lt
  have hP' : va_P (dC, dI) classes (wsC cA ad (cs.set i (.inl (20, 4, .inl g)))) T'.heap := by
    rw [e1]
    intro w y hk
    obtain ⟨z, hz1, rfl⟩ := wsC_at hk
    by_cases h1 : w = i
    · subst h1
      rw [List.getElem?_set_self hil] at hz1
      cases hz1
      have := hP1 0 (ad w, .inl (cA 20, 4, .inl (M1.1 9))) rfl
      have h5 : t.heap[ad w]? = some (vp_cell (cA 20) (4, .inl (M1.1 9))) := this
      show t.heap[ad w]? = some (vp_cell (cA 20) (4, .inl g))
      rw [h5, vp_cell_i, vp_cell_i]
      congr 1
      unfold arrV
      congr 2
      funext j
      show Value.int (M1.1 9 j.val) = Value.int (g j.val)
      rw [hg _ j.isLt, hq _ j.isLt]
    · rw [List.getElem?_set_ne (Ne.symm h1)] at hz1
      have b1 := (List.getElem?_eq_some_iff.mp hz1).1
      refine (hP w _ (wsC_get hz1)).kept (hk1 _ (hlt w b1) (fun hA9 => ?_))
      rcases hA9 with ⟨j, hj, e⟩ | h
      · rw [show j = 0 by omega] at e
        exact h1 (hD.1 w i _ _ (wsC_get hz1) (wsC_get hi) e)
      · have := hlt w b1; omega
  have hD' : va_D A (wsC cA ad (cs.set i (.inl (20, 4, .inl g)))) := by
    refine ⟨fun a b y z ha hb e => ?_, fun a y ha => ?_⟩
    · obtain ⟨u, hu, rfl⟩ := wsC_at ha
      obtain ⟨w, hw, rfl⟩ := wsC_at hb
      have b1 := (List.getElem?_eq_some_iff.mp hu).1
      have b2 := (List.getElem?_eq_some_iff.mp hw).1
      rw [List.length_set] at b1 b2
      exact hD.1 a b _ _ (wsC_get (List.getElem?_eq_getElem b1)) (wsC_get (List.getElem?_eq_getElem b2)) e
    · obtain ⟨u, hu, rfl⟩ := wsC_at ha
      have b1 := (List.getElem?_eq_some_iff.mp hu).1
      rw [List.length_set] at b1
      exact hD.2 a (ad a, reE cA ad cs[a]) (wsC_get (List.getElem?_eq_getElem b1))
  obtain ⟨t2, a1, b1⟩ := k p l e s m args below meth c T'.heap (locs ++ L) dC dI cA ad0 ad A ls C hag (by rw [List.length_set]; exact hn0) (by rw [List.length_set]; exact h3) (hok.set trivial) (fun v hv => by rw [List.length_set]; exact hos' v hv) (fun v hv => by rw [List.length_set]; exact hol v hv) hP' hD' hS' hl T' rfl X'
  exact ⟨t2, stp t2 a1, b1⟩
end FCF
