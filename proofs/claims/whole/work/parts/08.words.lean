/-! the words of the plain functions -/
abbrev tn (i : Int32) : Nat := i.toNatClampNeg
abbrev i2b (x : Int32) : Int32 := x.toInt8.toInt32
abbrev i2s (x : Int32) : Int32 := x.toInt16.toInt32
abbrev i2c (x : Int32) : Int32 := (x.toUInt32 % 65536).toInt32
abbrev ush (x y : Int32) : Int32 := (x.toUInt32 >>> (y.toUInt32 &&& Int32.toUInt32 31)).toInt32
abbrev imax (x y : Int32) : Int32 := if x < y then y else x
abbrev imin (x y : Int32) : Int32 := if y < x then y else x
abbrev iabs (x : Int32) : Int32 := if 0 ≤ x then x else 0 - x
abbrev labs (x : Int64) : Int64 := if 0 < x then x else -x
abbrev sta (i j : Nat) : Int32 := (stA.getD i []).getD j 0
def b2i (b : Bool) : Int32 := if b then 1 else 0
theorem nz_b (b : Bool) : narrow .boolean (.int (b2i b)) = .int (b2i b) := by cases b <;> decide
section CO
variable {β α : Type}
def bI (x : Int32) (f : Int32 → Option β) : Option β := f x
def bL (x : Int64) (f : Int64 → Option β) : Option β := f x
def bM (x : Mem) (f : Mem → Option β) : Option β := f x
def bi (o : Option (α × Mem)) (k : α → Mem → Option β) : Option β := o.bind (fun q => k q.1 q.2)
def bv (o : Option Mem) (k : Mem → Option β) : Option β := o.bind k
def ck (i : Int32) (n : Nat) (k : Option β) : Option β := if i < 0 ∨ n ≤ i.toNatClampNeg then none else k
def cz (y : Int32) (k : Option β) : Option β := if y = 0 then none else k
def czL (y : Int64) (k : Option β) : Option β := if y = 0 then none else k
def zb (x : Int32) (k : Bool → Option β) : Option β := if x = 0 then k false else if x = 1 then k true else none
def acp (sp dp n : Int32) (ns nd : Nat) (k : Option β) : Option β := if sp < 0 ∨ dp < 0 ∨ n < 0 ∨ ns < tn sp + tn n ∨ nd < tn dp + tn n then none else k
/-- a loop: at most so many rounds -/
def lp (body : (α → Mem → Option β) → α → Mem → Option β) : Nat → α → Mem → Option β
  | 0 => fun _ _ => none
  | F + 1 => fun a M => body (lp body F) a M
theorem bI_elim {x : Int32} {f : Int32 → Option β} {q : β} (h : bI x f = some q) : ∃ y, y = x ∧ f y = some q := ⟨x, rfl, h⟩
theorem bL_elim {x : Int64} {f : Int64 → Option β} {q : β} (h : bL x f = some q) : ∃ y, y = x ∧ f y = some q := ⟨x, rfl, h⟩
theorem bM_elim {x : Mem} {f : Mem → Option β} {q : β} (h : bM x f = some q) : ∃ y, y = x ∧ f y = some q := ⟨x, rfl, h⟩
theorem bi_elim {o : Option (α × Mem)} {k : α → Mem → Option β} {q : β} (h : bi o k = some q) : ∃ v M1, o = some (v, M1) ∧ k v M1 = some q := by
  obtain ⟨⟨v, M1⟩, h1, h2⟩ := Option.bind_eq_some_iff.mp h
  exact ⟨v, M1, h1, h2⟩
theorem bv_elim {o : Option Mem} {k : Mem → Option β} {q : β} (h : bv o k = some q) : ∃ M1, o = some M1 ∧ k M1 = some q := Option.bind_eq_some_iff.mp h
theorem ck_elim {i : Int32} {n : Nat} {k : Option β} {q : β} (h : ck i n k = some q) : vp_in i n ∧ k = some q := by
  unfold ck at h
  split at h
  · cases h
  · exact ⟨by assumption, h⟩
theorem cz_elim {y : Int32} {k : Option β} {q : β} (h : cz y k = some q) : ¬ y = 0 ∧ k = some q := by
  unfold cz at h
  split at h
  · cases h
  · exact ⟨by assumption, h⟩
theorem czL_elim {y : Int64} {k : Option β} {q : β} (h : czL y k = some q) : ¬ y = 0 ∧ k = some q := by
  unfold czL at h
  split at h
  · cases h
  · exact ⟨by assumption, h⟩
theorem zb_elim {x : Int32} {k : Bool → Option β} {q : β} (h : zb x k = some q) : ∃ b, x = b2i b ∧ k b = some q := by
  unfold zb at h
  split at h
  · exact ⟨false, by assumption, h⟩
  · split at h
    · exact ⟨true, by assumption, h⟩
    · cases h
theorem acp_elim {sp dp n : Int32} {ns nd : Nat} {k : Option β} {q : β} (h : acp sp dp n ns nd k = some q) : ¬ sp < 0 ∧ ¬ dp < 0 ∧ ¬ n < 0 ∧ sp.toNatClampNeg + n.toNatClampNeg ≤ ns ∧ dp.toNatClampNeg + n.toNatClampNeg ≤ nd ∧ k = some q := by
  unfold acp at h
  split at h
  · cases h
  · rename_i g
    refine ⟨fun z => g (Or.inl z), fun z => g (Or.inr (Or.inl z)), fun z => g (Or.inr (Or.inr (Or.inl z))), ?_, ?_, h⟩
    · exact Nat.not_lt.mp fun z => g (Or.inr (Or.inr (Or.inr (Or.inl z))))
    · exact Nat.not_lt.mp fun z => g (Or.inr (Or.inr (Or.inr (Or.inr z))))
theorem iT {c : Prop} [Decidable c] {a b r : Option β} (hc : c) (h : (if c then a else b) = r) : a = r := by rw [if_pos hc] at h; exact h
theorem iF {c : Prop} [Decidable c] {a b r : Option β} (hc : ¬ c) (h : (if c then a else b) = r) : b = r := by rw [if_neg hc] at h; exact h
theorem lp_sound {body : (α → Mem → Option β) → α → Mem → Option β} {q : β} {P : α → Mem → Prop} (hb : ∀ (k : α → Mem → Option β), (∀ a M, k a M = some q → P a M) → ∀ a M, body k a M = some q → P a M) : ∀ (F : Nat) (a : α) (M : Mem), lp body F a M = some q → P a M
  | 0, _, _, h => by cases h
  | F + 1, a, M, h => hb (lp body F) (lp_sound hb F) a M h
end CO
def QI (q : Int32 × Mem) : Option Value → Mem → Prop := fun r M' => r = some (.int q.1) ∧ M' = q.2
def QB (q : Bool × Mem) : Option Value → Mem → Prop := fun r M' => r = some (.int (b2i q.1)) ∧ M' = q.2
def QJ (q : Int64 × Mem) : Option Value → Mem → Prop := fun r M' => r = some (.long q.1) ∧ M' = q.2
def QV (q : Mem) : Option Value → Mem → Prop := fun r M' => r = none ∧ M' = q
theorem vp_of {i : Int32} {n m : Nat} (h : n = m) (hi : vp_in i m) : vp_in i n := h ▸ hi
section FT
variable {b n d : Nat} {μ : MI} {pc : Nat} {lv : List (Nat × Value)} {st : List Value} {M : Mem} {Q : Option Value → Mem → Prop}
theorem Fr_topI {x y : Int32} (h : y = x) (k : Fr b n d μ pc lv (.int y :: st) M Q) : Fr b n d μ pc lv (.int x :: st) M Q := h ▸ k
theorem Fr_topL {x y : Int64} (h : y = x) (k : Fr b n d μ pc lv (.long y :: st) M Q) : Fr b n d μ pc lv (.long x :: st) M Q := h ▸ k
theorem Fr_mem {M' : Mem} (h : M' = M) (k : Fr b n d μ pc lv st M' Q) : Fr b n d μ pc lv st M Q := h ▸ k
theorem Fr_cVi {ν : MI} {d' idx : Nat} {rc ci : Nat} {q : vw_C} {As stk : List Value} {v : Int32} {M1 : Mem} (hd : decode μ.2.1 pc = .ok (.invokevirtual idx, 3)) (hl : Cond.methodLink μ.1.cls idx ν.1 ∈ TG) (hν : CalleeV ν As.length) (hc : classes[ci]? = some q) (h13 : ci < 13) (hq : q.1 = ν.1.cls) (ho : Ob b n rc ci) (hstk : stk = As.reverse ++ .ref rc :: st) (hdd : d' < d) (hw : (st.map fun v => v.category).sum ≤ 8) (hEv : Ev b n d' ν (.ref rc :: As) M (QI (v, M1))) (k : Fr b n d μ (pc + 3) lv (.int v :: st) M1 Q) : Fr b n d μ pc lv stk M Q := Fr_callV hd hl hν hc h13 hq ho hstk hdd hw hEv (fun r M' e => by obtain ⟨rfl, rfl⟩ := e; exact k)
theorem Fr_cVb {ν : MI} {d' idx : Nat} {rc ci : Nat} {q : vw_C} {As stk : List Value} {v : Bool} {M1 : Mem} (hd : decode μ.2.1 pc = .ok (.invokevirtual idx, 3)) (hl : Cond.methodLink μ.1.cls idx ν.1 ∈ TG) (hν : CalleeV ν As.length) (hc : classes[ci]? = some q) (h13 : ci < 13) (hq : q.1 = ν.1.cls) (ho : Ob b n rc ci) (hstk : stk = As.reverse ++ .ref rc :: st) (hdd : d' < d) (hw : (st.map fun v => v.category).sum ≤ 8) (hEv : Ev b n d' ν (.ref rc :: As) M (QB (v, M1))) (k : Fr b n d μ (pc + 3) lv (.int (b2i v) :: st) M1 Q) : Fr b n d μ pc lv stk M Q := Fr_callV hd hl hν hc h13 hq ho hstk hdd hw hEv (fun r M' e => by obtain ⟨rfl, rfl⟩ := e; exact k)
theorem Fr_cVj {ν : MI} {d' idx : Nat} {rc ci : Nat} {q : vw_C} {As stk : List Value} {v : Int64} {M1 : Mem} (hd : decode μ.2.1 pc = .ok (.invokevirtual idx, 3)) (hl : Cond.methodLink μ.1.cls idx ν.1 ∈ TG) (hν : CalleeV ν As.length) (hc : classes[ci]? = some q) (h13 : ci < 13) (hq : q.1 = ν.1.cls) (ho : Ob b n rc ci) (hstk : stk = As.reverse ++ .ref rc :: st) (hdd : d' < d) (hw : (st.map fun v => v.category).sum ≤ 8) (hEv : Ev b n d' ν (.ref rc :: As) M (QJ (v, M1))) (k : Fr b n d μ (pc + 3) lv (.long v :: st) M1 Q) : Fr b n d μ pc lv stk M Q := Fr_callV hd hl hν hc h13 hq ho hstk hdd hw hEv (fun r M' e => by obtain ⟨rfl, rfl⟩ := e; exact k)
theorem Fr_cVv {ν : MI} {d' idx : Nat} {rc ci : Nat} {q : vw_C} {As stk : List Value} {M1 : Mem} (hd : decode μ.2.1 pc = .ok (.invokevirtual idx, 3)) (hl : Cond.methodLink μ.1.cls idx ν.1 ∈ TG) (hν : CalleeV ν As.length) (hc : classes[ci]? = some q) (h13 : ci < 13) (hq : q.1 = ν.1.cls) (ho : Ob b n rc ci) (hstk : stk = As.reverse ++ .ref rc :: st) (hdd : d' < d) (hw : (st.map fun v => v.category).sum ≤ 8) (hEv : Ev b n d' ν (.ref rc :: As) M (QV M1)) (k : Fr b n d μ (pc + 3) lv (st) M1 Q) : Fr b n d μ pc lv stk M Q := Fr_callV hd hl hν hc h13 hq ho hstk hdd hw hEv (fun r M' e => by obtain ⟨rfl, rfl⟩ := e; exact k)
theorem Fr_cSi {ν : MI} {d' idx : Nat} {As stk : List Value} {v : Int32} {M1 : Mem} (hd : decode μ.2.1 pc = .ok (.invokestatic idx, 3)) (hl : Cond.methodLink μ.1.cls idx ν.1 ∈ TG) (hν : CalleeS ν As.length) (hstk : stk = As.reverse ++ st) (hdd : d' < d) (hw : (st.map fun v => v.category).sum ≤ 8) (hEv : Ev b n d' ν As M (QI (v, M1))) (k : Fr b n d μ (pc + 3) lv (.int v :: st) M1 Q) : Fr b n d μ pc lv stk M Q := Fr_callS hd hl hν hstk hdd hw hEv (fun r M' e => by obtain ⟨rfl, rfl⟩ := e; exact k)
theorem Fr_cSb {ν : MI} {d' idx : Nat} {As stk : List Value} {v : Bool} {M1 : Mem} (hd : decode μ.2.1 pc = .ok (.invokestatic idx, 3)) (hl : Cond.methodLink μ.1.cls idx ν.1 ∈ TG) (hν : CalleeS ν As.length) (hstk : stk = As.reverse ++ st) (hdd : d' < d) (hw : (st.map fun v => v.category).sum ≤ 8) (hEv : Ev b n d' ν As M (QB (v, M1))) (k : Fr b n d μ (pc + 3) lv (.int (b2i v) :: st) M1 Q) : Fr b n d μ pc lv stk M Q := Fr_callS hd hl hν hstk hdd hw hEv (fun r M' e => by obtain ⟨rfl, rfl⟩ := e; exact k)
theorem Fr_cSj {ν : MI} {d' idx : Nat} {As stk : List Value} {v : Int64} {M1 : Mem} (hd : decode μ.2.1 pc = .ok (.invokestatic idx, 3)) (hl : Cond.methodLink μ.1.cls idx ν.1 ∈ TG) (hν : CalleeS ν As.length) (hstk : stk = As.reverse ++ st) (hdd : d' < d) (hw : (st.map fun v => v.category).sum ≤ 8) (hEv : Ev b n d' ν As M (QJ (v, M1))) (k : Fr b n d μ (pc + 3) lv (.long v :: st) M1 Q) : Fr b n d μ pc lv stk M Q := Fr_callS hd hl hν hstk hdd hw hEv (fun r M' e => by obtain ⟨rfl, rfl⟩ := e; exact k)
theorem Fr_cSv {ν : MI} {d' idx : Nat} {As stk : List Value} {M1 : Mem} (hd : decode μ.2.1 pc = .ok (.invokestatic idx, 3)) (hl : Cond.methodLink μ.1.cls idx ν.1 ∈ TG) (hν : CalleeS ν As.length) (hstk : stk = As.reverse ++ st) (hdd : d' < d) (hw : (st.map fun v => v.category).sum ≤ 8) (hEv : Ev b n d' ν As M (QV M1)) (k : Fr b n d μ (pc + 3) lv (st) M1 Q) : Fr b n d μ pc lv stk M Q := Fr_callS hd hl hν hstk hdd hw hEv (fun r M' e => by obtain ⟨rfl, rfl⟩ := e; exact k)
theorem Fr_cTi {ν : MI} {d' idx : Nat} {i : Nat} {As stk : List Value} {v : Int32} {M1 : Mem} (hd : decode μ.2.1 pc = .ok (.invokevirtual idx, 3)) (hl : Cond.methodLink μ.1.cls idx ν.1 ∈ TG) (hν : CalleeV ν As.length) (hq : "java/lang/String" = ν.1.cls) (hi : i < 32) (hstk : stk = As.reverse ++ .ref (400 + i) :: st) (hdd : d' < d) (hw : (st.map fun v => v.category).sum ≤ 8) (hEv : Ev b n d' ν (.ref (400 + i) :: As) M (QI (v, M1))) (k : Fr b n d μ (pc + 3) lv (.int v :: st) M1 Q) : Fr b n d μ pc lv stk M Q := Fr_callT hd hl hν hq hi hstk hdd hw hEv (fun r M' e => by obtain ⟨rfl, rfl⟩ := e; exact k)
theorem Fr_cTb {ν : MI} {d' idx : Nat} {i : Nat} {As stk : List Value} {v : Bool} {M1 : Mem} (hd : decode μ.2.1 pc = .ok (.invokevirtual idx, 3)) (hl : Cond.methodLink μ.1.cls idx ν.1 ∈ TG) (hν : CalleeV ν As.length) (hq : "java/lang/String" = ν.1.cls) (hi : i < 32) (hstk : stk = As.reverse ++ .ref (400 + i) :: st) (hdd : d' < d) (hw : (st.map fun v => v.category).sum ≤ 8) (hEv : Ev b n d' ν (.ref (400 + i) :: As) M (QB (v, M1))) (k : Fr b n d μ (pc + 3) lv (.int (b2i v) :: st) M1 Q) : Fr b n d μ pc lv stk M Q := Fr_callT hd hl hν hq hi hstk hdd hw hEv (fun r M' e => by obtain ⟨rfl, rfl⟩ := e; exact k)
theorem Fr_cTj {ν : MI} {d' idx : Nat} {i : Nat} {As stk : List Value} {v : Int64} {M1 : Mem} (hd : decode μ.2.1 pc = .ok (.invokevirtual idx, 3)) (hl : Cond.methodLink μ.1.cls idx ν.1 ∈ TG) (hν : CalleeV ν As.length) (hq : "java/lang/String" = ν.1.cls) (hi : i < 32) (hstk : stk = As.reverse ++ .ref (400 + i) :: st) (hdd : d' < d) (hw : (st.map fun v => v.category).sum ≤ 8) (hEv : Ev b n d' ν (.ref (400 + i) :: As) M (QJ (v, M1))) (k : Fr b n d μ (pc + 3) lv (.long v :: st) M1 Q) : Fr b n d μ pc lv stk M Q := Fr_callT hd hl hν hq hi hstk hdd hw hEv (fun r M' e => by obtain ⟨rfl, rfl⟩ := e; exact k)
theorem Fr_cTv {ν : MI} {d' idx : Nat} {i : Nat} {As stk : List Value} {M1 : Mem} (hd : decode μ.2.1 pc = .ok (.invokevirtual idx, 3)) (hl : Cond.methodLink μ.1.cls idx ν.1 ∈ TG) (hν : CalleeV ν As.length) (hq : "java/lang/String" = ν.1.cls) (hi : i < 32) (hstk : stk = As.reverse ++ .ref (400 + i) :: st) (hdd : d' < d) (hw : (st.map fun v => v.category).sum ≤ 8) (hEv : Ev b n d' ν (.ref (400 + i) :: As) M (QV M1)) (k : Fr b n d μ (pc + 3) lv (st) M1 Q) : Fr b n d μ pc lv stk M Q := Fr_callT hd hl hν hq hi hstk hdd hw hEv (fun r M' e => by obtain ⟨rfl, rfl⟩ := e; exact k)
end FT
theorem ob_0 : Ob 0 111 0 11 := ⟨by decide, by decide, by decide⟩
theorem ob_1 : Ob 0 111 1 22 := ⟨by decide, by decide, by decide⟩
theorem ln_1 : ln 1 = 900 := by decide
theorem ob_2 : Ob 0 111 2 9 := ⟨by decide, by decide, by decide⟩
theorem ob_3 : Ob 0 111 3 25 := ⟨by decide, by decide, by decide⟩
theorem ln_3 : ln 3 = 4 := by decide
theorem ob_4 : Ob 0 111 4 21 := ⟨by decide, by decide, by decide⟩
theorem ln_4 : ln 4 = 60 := by decide
theorem ob_5 : Ob 0 111 5 21 := ⟨by decide, by decide, by decide⟩
theorem ln_5 : ln 5 = 60 := by decide
theorem ob_6 : Ob 0 111 6 21 := ⟨by decide, by decide, by decide⟩
theorem ln_6 : ln 6 = 60 := by decide
theorem ob_7 : Ob 0 111 7 21 := ⟨by decide, by decide, by decide⟩
theorem ln_7 : ln 7 = 60 := by decide
theorem ob_8 : Ob 0 111 8 20 := ⟨by decide, by decide, by decide⟩
theorem ln_8 : ln 8 = 4 := by decide
theorem ob_9 : Ob 0 111 9 20 := ⟨by decide, by decide, by decide⟩
theorem ln_9 : ln 9 = 4 := by decide
theorem ob_10 : Ob 0 111 10 5 := ⟨by decide, by decide, by decide⟩
theorem ob_11 : Ob 0 111 11 20 := ⟨by decide, by decide, by decide⟩
theorem ln_11 : ln 11 = 30 := by decide
theorem ob_12 : Ob 0 111 12 21 := ⟨by decide, by decide, by decide⟩
theorem ln_12 : ln 12 = 6 := by decide
theorem ob_13 : Ob 0 111 13 20 := ⟨by decide, by decide, by decide⟩
theorem ln_13 : ln 13 = 6 := by decide
theorem ob_14 : Ob 0 111 14 20 := ⟨by decide, by decide, by decide⟩
theorem ln_14 : ln 14 = 36 := by decide
theorem ob_15 : Ob 0 111 15 20 := ⟨by decide, by decide, by decide⟩
theorem ln_15 : ln 15 = 20 := by decide
theorem ob_16 : Ob 0 111 16 20 := ⟨by decide, by decide, by decide⟩
theorem ln_16 : ln 16 = 60 := by decide
theorem ob_17 : Ob 0 111 17 3 := ⟨by decide, by decide, by decide⟩
theorem ob_18 : Ob 0 111 18 20 := ⟨by decide, by decide, by decide⟩
theorem ln_18 : ln 18 = 60 := by decide
theorem ob_19 : Ob 0 111 19 20 := ⟨by decide, by decide, by decide⟩
theorem ln_19 : ln 19 = 60 := by decide
theorem ob_20 : Ob 0 111 20 20 := ⟨by decide, by decide, by decide⟩
theorem ln_20 : ln 20 = 60 := by decide
theorem ob_21 : Ob 0 111 21 20 := ⟨by decide, by decide, by decide⟩
theorem ln_21 : ln 21 = 60 := by decide
theorem ob_22 : Ob 0 111 22 20 := ⟨by decide, by decide, by decide⟩
theorem ln_22 : ln 22 = 60 := by decide
theorem ob_23 : Ob 0 111 23 5 := ⟨by decide, by decide, by decide⟩
theorem ob_24 : Ob 0 111 24 20 := ⟨by decide, by decide, by decide⟩
theorem ln_24 : ln 24 = 30 := by decide
theorem ob_25 : Ob 0 111 25 21 := ⟨by decide, by decide, by decide⟩
theorem ln_25 : ln 25 = 6 := by decide
theorem ob_26 : Ob 0 111 26 20 := ⟨by decide, by decide, by decide⟩
theorem ln_26 : ln 26 = 6 := by decide
theorem ob_27 : Ob 0 111 27 20 := ⟨by decide, by decide, by decide⟩
theorem ln_27 : ln 27 = 36 := by decide
theorem ob_28 : Ob 0 111 28 20 := ⟨by decide, by decide, by decide⟩
theorem ln_28 : ln 28 = 20 := by decide
theorem ob_29 : Ob 0 111 29 20 := ⟨by decide, by decide, by decide⟩
theorem ln_29 : ln 29 = 60 := by decide
theorem ob_30 : Ob 0 111 30 3 := ⟨by decide, by decide, by decide⟩
theorem ob_31 : Ob 0 111 31 20 := ⟨by decide, by decide, by decide⟩
theorem ln_31 : ln 31 = 60 := by decide
theorem ob_32 : Ob 0 111 32 20 := ⟨by decide, by decide, by decide⟩
theorem ln_32 : ln 32 = 60 := by decide
theorem ob_33 : Ob 0 111 33 20 := ⟨by decide, by decide, by decide⟩
theorem ln_33 : ln 33 = 60 := by decide
theorem ob_34 : Ob 0 111 34 20 := ⟨by decide, by decide, by decide⟩
theorem ln_34 : ln 34 = 60 := by decide
theorem ob_35 : Ob 0 111 35 20 := ⟨by decide, by decide, by decide⟩
theorem ln_35 : ln 35 = 60 := by decide
theorem ob_36 : Ob 0 111 36 24 := ⟨by decide, by decide, by decide⟩
theorem ln_36 : ln 36 = 3 := by decide
theorem ob_37 : Ob 0 111 37 5 := ⟨by decide, by decide, by decide⟩
theorem ob_38 : Ob 0 111 38 20 := ⟨by decide, by decide, by decide⟩
theorem ln_38 : ln 38 = 30 := by decide
theorem ob_39 : Ob 0 111 39 21 := ⟨by decide, by decide, by decide⟩
theorem ln_39 : ln 39 = 6 := by decide
theorem ob_40 : Ob 0 111 40 20 := ⟨by decide, by decide, by decide⟩
theorem ln_40 : ln 40 = 6 := by decide
theorem ob_41 : Ob 0 111 41 20 := ⟨by decide, by decide, by decide⟩
theorem ln_41 : ln 41 = 36 := by decide
theorem ob_42 : Ob 0 111 42 20 := ⟨by decide, by decide, by decide⟩
theorem ln_42 : ln 42 = 20 := by decide
theorem ob_43 : Ob 0 111 43 20 := ⟨by decide, by decide, by decide⟩
theorem ln_43 : ln 43 = 60 := by decide
theorem ob_44 : Ob 0 111 44 3 := ⟨by decide, by decide, by decide⟩
theorem ob_45 : Ob 0 111 45 20 := ⟨by decide, by decide, by decide⟩
theorem ln_45 : ln 45 = 60 := by decide
theorem ob_46 : Ob 0 111 46 20 := ⟨by decide, by decide, by decide⟩
theorem ln_46 : ln 46 = 60 := by decide
theorem ob_47 : Ob 0 111 47 20 := ⟨by decide, by decide, by decide⟩
theorem ln_47 : ln 47 = 60 := by decide
theorem ob_48 : Ob 0 111 48 20 := ⟨by decide, by decide, by decide⟩
theorem ln_48 : ln 48 = 60 := by decide
theorem ob_49 : Ob 0 111 49 20 := ⟨by decide, by decide, by decide⟩
theorem ln_49 : ln 49 = 60 := by decide
theorem ob_50 : Ob 0 111 50 5 := ⟨by decide, by decide, by decide⟩
theorem ob_51 : Ob 0 111 51 20 := ⟨by decide, by decide, by decide⟩
theorem ln_51 : ln 51 = 30 := by decide
theorem ob_52 : Ob 0 111 52 21 := ⟨by decide, by decide, by decide⟩
theorem ln_52 : ln 52 = 6 := by decide
theorem ob_53 : Ob 0 111 53 20 := ⟨by decide, by decide, by decide⟩
theorem ln_53 : ln 53 = 6 := by decide
theorem ob_54 : Ob 0 111 54 20 := ⟨by decide, by decide, by decide⟩
theorem ln_54 : ln 54 = 36 := by decide
theorem ob_55 : Ob 0 111 55 20 := ⟨by decide, by decide, by decide⟩
theorem ln_55 : ln 55 = 20 := by decide
theorem ob_56 : Ob 0 111 56 20 := ⟨by decide, by decide, by decide⟩
theorem ln_56 : ln 56 = 60 := by decide
theorem ob_57 : Ob 0 111 57 3 := ⟨by decide, by decide, by decide⟩
theorem ob_58 : Ob 0 111 58 20 := ⟨by decide, by decide, by decide⟩
theorem ln_58 : ln 58 = 60 := by decide
theorem ob_59 : Ob 0 111 59 20 := ⟨by decide, by decide, by decide⟩
theorem ln_59 : ln 59 = 60 := by decide
theorem ob_60 : Ob 0 111 60 20 := ⟨by decide, by decide, by decide⟩
theorem ln_60 : ln 60 = 60 := by decide
theorem ob_61 : Ob 0 111 61 20 := ⟨by decide, by decide, by decide⟩
theorem ln_61 : ln 61 = 60 := by decide
theorem ob_62 : Ob 0 111 62 20 := ⟨by decide, by decide, by decide⟩
theorem ln_62 : ln 62 = 60 := by decide
theorem ob_63 : Ob 0 111 63 5 := ⟨by decide, by decide, by decide⟩
theorem ob_64 : Ob 0 111 64 20 := ⟨by decide, by decide, by decide⟩
theorem ln_64 : ln 64 = 30 := by decide
theorem ob_65 : Ob 0 111 65 21 := ⟨by decide, by decide, by decide⟩
theorem ln_65 : ln 65 = 6 := by decide
theorem ob_66 : Ob 0 111 66 20 := ⟨by decide, by decide, by decide⟩
theorem ln_66 : ln 66 = 6 := by decide
theorem ob_67 : Ob 0 111 67 20 := ⟨by decide, by decide, by decide⟩
theorem ln_67 : ln 67 = 36 := by decide
theorem ob_68 : Ob 0 111 68 20 := ⟨by decide, by decide, by decide⟩
theorem ln_68 : ln 68 = 20 := by decide
theorem ob_69 : Ob 0 111 69 20 := ⟨by decide, by decide, by decide⟩
theorem ln_69 : ln 69 = 60 := by decide
theorem ob_70 : Ob 0 111 70 3 := ⟨by decide, by decide, by decide⟩
theorem ob_71 : Ob 0 111 71 20 := ⟨by decide, by decide, by decide⟩
theorem ln_71 : ln 71 = 60 := by decide
theorem ob_72 : Ob 0 111 72 20 := ⟨by decide, by decide, by decide⟩
theorem ln_72 : ln 72 = 60 := by decide
theorem ob_73 : Ob 0 111 73 20 := ⟨by decide, by decide, by decide⟩
theorem ln_73 : ln 73 = 60 := by decide
theorem ob_74 : Ob 0 111 74 20 := ⟨by decide, by decide, by decide⟩
theorem ln_74 : ln 74 = 60 := by decide
theorem ob_75 : Ob 0 111 75 20 := ⟨by decide, by decide, by decide⟩
theorem ln_75 : ln 75 = 60 := by decide
theorem ob_76 : Ob 0 111 76 3 := ⟨by decide, by decide, by decide⟩
theorem ob_77 : Ob 0 111 77 20 := ⟨by decide, by decide, by decide⟩
theorem ln_77 : ln 77 = 60 := by decide
theorem ob_78 : Ob 0 111 78 20 := ⟨by decide, by decide, by decide⟩
theorem ln_78 : ln 78 = 60 := by decide
theorem ob_79 : Ob 0 111 79 20 := ⟨by decide, by decide, by decide⟩
theorem ln_79 : ln 79 = 60 := by decide
theorem ob_80 : Ob 0 111 80 20 := ⟨by decide, by decide, by decide⟩
theorem ln_80 : ln 80 = 60 := by decide
theorem ob_81 : Ob 0 111 81 20 := ⟨by decide, by decide, by decide⟩
theorem ln_81 : ln 81 = 60 := by decide
theorem ob_82 : Ob 0 111 82 8 := ⟨by decide, by decide, by decide⟩
theorem ob_83 : Ob 0 111 83 6 := ⟨by decide, by decide, by decide⟩
theorem ob_84 : Ob 0 111 84 21 := ⟨by decide, by decide, by decide⟩
theorem ln_84 : ln 84 = 22 := by decide
theorem ob_85 : Ob 0 111 85 20 := ⟨by decide, by decide, by decide⟩
theorem ln_85 : ln 85 = 3 := by decide
theorem ob_86 : Ob 0 111 86 20 := ⟨by decide, by decide, by decide⟩
theorem ln_86 : ln 86 = 2 := by decide
theorem ob_87 : Ob 0 111 87 4 := ⟨by decide, by decide, by decide⟩
theorem ob_88 : Ob 0 111 88 20 := ⟨by decide, by decide, by decide⟩
theorem ln_88 : ln 88 = 3 := by decide
theorem ob_89 : Ob 0 111 89 20 := ⟨by decide, by decide, by decide⟩
theorem ln_89 : ln 89 = 2 := by decide
theorem ob_90 : Ob 0 111 90 10 := ⟨by decide, by decide, by decide⟩
theorem ob_91 : Ob 0 111 91 20 := ⟨by decide, by decide, by decide⟩
theorem ln_91 : ln 91 = 60 := by decide
theorem ob_92 : Ob 0 111 92 20 := ⟨by decide, by decide, by decide⟩
theorem ln_92 : ln 92 = 60 := by decide
theorem ob_93 : Ob 0 111 93 0 := ⟨by decide, by decide, by decide⟩
theorem ob_94 : Ob 0 111 94 20 := ⟨by decide, by decide, by decide⟩
theorem ln_94 : ln 94 = 60 := by decide
theorem ob_95 : Ob 0 111 95 20 := ⟨by decide, by decide, by decide⟩
theorem ln_95 : ln 95 = 60 := by decide
theorem ob_96 : Ob 0 111 96 7 := ⟨by decide, by decide, by decide⟩
theorem ob_97 : Ob 0 111 97 20 := ⟨by decide, by decide, by decide⟩
theorem ln_97 : ln 97 = 30 := by decide
theorem ob_98 : Ob 0 111 98 20 := ⟨by decide, by decide, by decide⟩
theorem ln_98 : ln 98 = 60 := by decide
theorem ob_99 : Ob 0 111 99 20 := ⟨by decide, by decide, by decide⟩
theorem ln_99 : ln 99 = 30 := by decide
theorem ob_100 : Ob 0 111 100 20 := ⟨by decide, by decide, by decide⟩
theorem ln_100 : ln 100 = 150 := by decide
theorem ob_101 : Ob 0 111 101 20 := ⟨by decide, by decide, by decide⟩
theorem ln_101 : ln 101 = 60 := by decide
theorem ob_102 : Ob 0 111 102 20 := ⟨by decide, by decide, by decide⟩
theorem ln_102 : ln 102 = 60 := by decide
theorem ob_103 : Ob 0 111 103 1 := ⟨by decide, by decide, by decide⟩
theorem ob_104 : Ob 0 111 104 20 := ⟨by decide, by decide, by decide⟩
theorem ln_104 : ln 104 = 36 := by decide
theorem ob_105 : Ob 0 111 105 20 := ⟨by decide, by decide, by decide⟩
theorem ln_105 : ln 105 = 64 := by decide
theorem ob_106 : Ob 0 111 106 20 := ⟨by decide, by decide, by decide⟩
theorem ln_106 : ln 106 = 64 := by decide
theorem ob_107 : Ob 0 111 107 2 := ⟨by decide, by decide, by decide⟩
theorem ob_108 : Ob 0 111 108 20 := ⟨by decide, by decide, by decide⟩
theorem ln_108 : ln 108 = 60 := by decide
theorem ob_109 : Ob 0 111 109 2 := ⟨by decide, by decide, by decide⟩
theorem ob_110 : Ob 0 111 110 20 := ⟨by decide, by decide, by decide⟩
theorem ln_110 : ln 110 = 60 := by decide
theorem ob_200 : Ob 200 21 200 12 := ⟨by decide, by decide, by decide⟩
theorem ob_201 : Ob 200 21 201 20 := ⟨by decide, by decide, by decide⟩
theorem ln_201 : ln 201 = 4 := by decide
theorem ob_202 : Ob 200 21 202 20 := ⟨by decide, by decide, by decide⟩
theorem ln_202 : ln 202 = 4 := by decide
theorem ob_203 : Ob 200 21 203 21 := ⟨by decide, by decide, by decide⟩
theorem ln_203 : ln 203 = 240 := by decide
theorem ob_204 : Ob 200 21 204 22 := ⟨by decide, by decide, by decide⟩
theorem ln_204 : ln 204 = 900 := by decide
theorem ob_205 : Ob 200 21 205 20 := ⟨by decide, by decide, by decide⟩
theorem ln_205 : ln 205 = 2175 := by decide
theorem ob_206 : Ob 200 21 206 20 := ⟨by decide, by decide, by decide⟩
theorem ln_206 : ln 206 = 163 := by decide
theorem ob_207 : Ob 200 21 207 20 := ⟨by decide, by decide, by decide⟩
theorem ln_207 : ln 207 = 163 := by decide
theorem ob_208 : Ob 200 21 208 21 := ⟨by decide, by decide, by decide⟩
theorem ln_208 : ln 208 = 110 := by decide
theorem ob_209 : Ob 200 21 209 20 := ⟨by decide, by decide, by decide⟩
theorem ln_209 : ln 209 = 30 := by decide
theorem ob_210 : Ob 200 21 210 20 := ⟨by decide, by decide, by decide⟩
theorem ln_210 : ln 210 = 163 := by decide
theorem ob_211 : Ob 200 21 211 20 := ⟨by decide, by decide, by decide⟩
theorem ln_211 : ln 211 = 30 := by decide
theorem ob_212 : Ob 200 21 212 23 := ⟨by decide, by decide, by decide⟩
theorem ln_212 : ln 212 = 30 := by decide
theorem ob_213 : Ob 200 21 213 23 := ⟨by decide, by decide, by decide⟩
theorem ln_213 : ln 213 = 30 := by decide
theorem ob_214 : Ob 200 21 214 20 := ⟨by decide, by decide, by decide⟩
theorem ln_214 : ln 214 = 3600 := by decide
theorem ob_215 : Ob 200 21 215 20 := ⟨by decide, by decide, by decide⟩
theorem ln_215 : ln 215 = 60 := by decide
theorem ob_216 : Ob 200 21 216 20 := ⟨by decide, by decide, by decide⟩
theorem ln_216 : ln 216 = 36 := by decide
theorem ob_217 : Ob 200 21 217 20 := ⟨by decide, by decide, by decide⟩
theorem ln_217 : ln 217 = 36 := by decide
theorem ob_218 : Ob 200 21 218 20 := ⟨by decide, by decide, by decide⟩
theorem ln_218 : ln 218 = 6 := by decide
theorem ob_219 : Ob 200 21 219 20 := ⟨by decide, by decide, by decide⟩
theorem ln_219 : ln 219 = 5 := by decide
theorem ob_220 : Ob 200 21 220 20 := ⟨by decide, by decide, by decide⟩
theorem ln_220 : ln 220 = 163 := by decide
theorem ca_5 {p : Nat} (h : Ob 0 111 p 5) : p = 10 ∨ p = 23 ∨ p = 37 ∨ p = 50 ∨ p = 63 := by
  have h2 : ∀ p, p < 111 → kd p = 5 → p = 10 ∨ p = 23 ∨ p = 37 ∨ p = 50 ∨ p = 63 := by decide +kernel
  exact h2 p (by have := h.2.1; omega) h.2.2
theorem o5_1 {p : Nat} (h : Ob 0 111 p 5) : Ob 0 111 (p + 1) 20 := by
  rcases ca_5 h with rfl | rfl | rfl | rfl | rfl <;> exact ⟨by decide, by decide, by decide⟩
theorem n5_1 {p : Nat} (h : Ob 0 111 p 5) : ln (p + 1) = 30 := by
  rcases ca_5 h with rfl | rfl | rfl | rfl | rfl <;> decide
theorem o5_2 {p : Nat} (h : Ob 0 111 p 5) : Ob 0 111 (p + 2) 21 := by
  rcases ca_5 h with rfl | rfl | rfl | rfl | rfl <;> exact ⟨by decide, by decide, by decide⟩
theorem n5_2 {p : Nat} (h : Ob 0 111 p 5) : ln (p + 2) = 6 := by
  rcases ca_5 h with rfl | rfl | rfl | rfl | rfl <;> decide
theorem o5_3 {p : Nat} (h : Ob 0 111 p 5) : Ob 0 111 (p + 3) 20 := by
  rcases ca_5 h with rfl | rfl | rfl | rfl | rfl <;> exact ⟨by decide, by decide, by decide⟩
theorem n5_3 {p : Nat} (h : Ob 0 111 p 5) : ln (p + 3) = 6 := by
  rcases ca_5 h with rfl | rfl | rfl | rfl | rfl <;> decide
theorem o5_4 {p : Nat} (h : Ob 0 111 p 5) : Ob 0 111 (p + 4) 20 := by
  rcases ca_5 h with rfl | rfl | rfl | rfl | rfl <;> exact ⟨by decide, by decide, by decide⟩
theorem n5_4 {p : Nat} (h : Ob 0 111 p 5) : ln (p + 4) = 36 := by
  rcases ca_5 h with rfl | rfl | rfl | rfl | rfl <;> decide
theorem o5_5 {p : Nat} (h : Ob 0 111 p 5) : Ob 0 111 (p + 5) 20 := by
  rcases ca_5 h with rfl | rfl | rfl | rfl | rfl <;> exact ⟨by decide, by decide, by decide⟩
theorem n5_5 {p : Nat} (h : Ob 0 111 p 5) : ln (p + 5) = 20 := by
  rcases ca_5 h with rfl | rfl | rfl | rfl | rfl <;> decide
theorem o5_6 {p : Nat} (h : Ob 0 111 p 5) : Ob 0 111 (p + 6) 20 := by
  rcases ca_5 h with rfl | rfl | rfl | rfl | rfl <;> exact ⟨by decide, by decide, by decide⟩
theorem n5_6 {p : Nat} (h : Ob 0 111 p 5) : ln (p + 6) = 60 := by
  rcases ca_5 h with rfl | rfl | rfl | rfl | rfl <;> decide
theorem o5_7 {p : Nat} (h : Ob 0 111 p 5) : Ob 0 111 (p + 7) 3 := by
  rcases ca_5 h with rfl | rfl | rfl | rfl | rfl <;> exact ⟨by decide, by decide, by decide⟩
theorem o5_8 {p : Nat} (h : Ob 0 111 p 5) : Ob 0 111 (p + 8) 20 := by
  rcases ca_5 h with rfl | rfl | rfl | rfl | rfl <;> exact ⟨by decide, by decide, by decide⟩
theorem n5_8 {p : Nat} (h : Ob 0 111 p 5) : ln (p + 8) = 60 := by
  rcases ca_5 h with rfl | rfl | rfl | rfl | rfl <;> decide
theorem o5_9 {p : Nat} (h : Ob 0 111 p 5) : Ob 0 111 (p + 9) 20 := by
  rcases ca_5 h with rfl | rfl | rfl | rfl | rfl <;> exact ⟨by decide, by decide, by decide⟩
theorem n5_9 {p : Nat} (h : Ob 0 111 p 5) : ln (p + 9) = 60 := by
  rcases ca_5 h with rfl | rfl | rfl | rfl | rfl <;> decide
theorem o5_10 {p : Nat} (h : Ob 0 111 p 5) : Ob 0 111 (p + 10) 20 := by
  rcases ca_5 h with rfl | rfl | rfl | rfl | rfl <;> exact ⟨by decide, by decide, by decide⟩
theorem n5_10 {p : Nat} (h : Ob 0 111 p 5) : ln (p + 10) = 60 := by
  rcases ca_5 h with rfl | rfl | rfl | rfl | rfl <;> decide
theorem o5_11 {p : Nat} (h : Ob 0 111 p 5) : Ob 0 111 (p + 11) 20 := by
  rcases ca_5 h with rfl | rfl | rfl | rfl | rfl <;> exact ⟨by decide, by decide, by decide⟩
theorem n5_11 {p : Nat} (h : Ob 0 111 p 5) : ln (p + 11) = 60 := by
  rcases ca_5 h with rfl | rfl | rfl | rfl | rfl <;> decide
theorem o5_12 {p : Nat} (h : Ob 0 111 p 5) : Ob 0 111 (p + 12) 20 := by
  rcases ca_5 h with rfl | rfl | rfl | rfl | rfl <;> exact ⟨by decide, by decide, by decide⟩
theorem n5_12 {p : Nat} (h : Ob 0 111 p 5) : ln (p + 12) = 60 := by
  rcases ca_5 h with rfl | rfl | rfl | rfl | rfl <;> decide
theorem ca_3 {p : Nat} (h : Ob 0 111 p 3) : p = 17 ∨ p = 30 ∨ p = 44 ∨ p = 57 ∨ p = 70 ∨ p = 76 := by
  have h2 : ∀ p, p < 111 → kd p = 3 → p = 17 ∨ p = 30 ∨ p = 44 ∨ p = 57 ∨ p = 70 ∨ p = 76 := by decide +kernel
  exact h2 p (by have := h.2.1; omega) h.2.2
theorem o3_1 {p : Nat} (h : Ob 0 111 p 3) : Ob 0 111 (p + 1) 20 := by
  rcases ca_3 h with rfl | rfl | rfl | rfl | rfl | rfl <;> exact ⟨by decide, by decide, by decide⟩
theorem n3_1 {p : Nat} (h : Ob 0 111 p 3) : ln (p + 1) = 60 := by
  rcases ca_3 h with rfl | rfl | rfl | rfl | rfl | rfl <;> decide
theorem o3_2 {p : Nat} (h : Ob 0 111 p 3) : Ob 0 111 (p + 2) 20 := by
  rcases ca_3 h with rfl | rfl | rfl | rfl | rfl | rfl <;> exact ⟨by decide, by decide, by decide⟩
theorem n3_2 {p : Nat} (h : Ob 0 111 p 3) : ln (p + 2) = 60 := by
  rcases ca_3 h with rfl | rfl | rfl | rfl | rfl | rfl <;> decide
theorem o3_3 {p : Nat} (h : Ob 0 111 p 3) : Ob 0 111 (p + 3) 20 := by
  rcases ca_3 h with rfl | rfl | rfl | rfl | rfl | rfl <;> exact ⟨by decide, by decide, by decide⟩
theorem n3_3 {p : Nat} (h : Ob 0 111 p 3) : ln (p + 3) = 60 := by
  rcases ca_3 h with rfl | rfl | rfl | rfl | rfl | rfl <;> decide
theorem o3_4 {p : Nat} (h : Ob 0 111 p 3) : Ob 0 111 (p + 4) 20 := by
  rcases ca_3 h with rfl | rfl | rfl | rfl | rfl | rfl <;> exact ⟨by decide, by decide, by decide⟩
theorem n3_4 {p : Nat} (h : Ob 0 111 p 3) : ln (p + 4) = 60 := by
  rcases ca_3 h with rfl | rfl | rfl | rfl | rfl | rfl <;> decide
theorem o3_5 {p : Nat} (h : Ob 0 111 p 3) : Ob 0 111 (p + 5) 20 := by
  rcases ca_3 h with rfl | rfl | rfl | rfl | rfl | rfl <;> exact ⟨by decide, by decide, by decide⟩
theorem n3_5 {p : Nat} (h : Ob 0 111 p 3) : ln (p + 5) = 60 := by
  rcases ca_3 h with rfl | rfl | rfl | rfl | rfl | rfl <;> decide
theorem ca_2 {p : Nat} (h : Ob 0 111 p 2) : p = 107 ∨ p = 109 := by
  have h2 : ∀ p, p < 111 → kd p = 2 → p = 107 ∨ p = 109 := by decide +kernel
  exact h2 p (by have := h.2.1; omega) h.2.2
theorem o2_1 {p : Nat} (h : Ob 0 111 p 2) : Ob 0 111 (p + 1) 20 := by
  rcases ca_2 h with rfl | rfl <;> exact ⟨by decide, by decide, by decide⟩
theorem n2_1 {p : Nat} (h : Ob 0 111 p 2) : ln (p + 1) = 60 := by
  rcases ca_2 h with rfl | rfl <;> decide
theorem tn_lt {i : Int32} {m : Nat} (h : vp_in i m) : tn i < m := Nat.not_le.mp fun q => h (Or.inr q)
theorem ra3 {i : Int32} (h : vp_in i 4) : rf 3 i.toNatClampNeg = 4 + tn i := by
  have h2 : ∀ j, j < 4 → rf 3 j = 4 + j := by decide
  exact h2 _ (tn_lt h)
theorem oa3 {i : Int32} (h : vp_in i 4) : Ob 0 111 (4 + tn i) 21 := by
  have h2 : ∀ j, j < 4 → 0 ≤ 4 + j ∧ 4 + j < 0 + 111 ∧ kd (4 + j) = 21 := by decide
  exact h2 _ (tn_lt h)
theorem na3 {i : Int32} (h : vp_in i 4) : ln (4 + tn i) = 60 := by
  have h2 : ∀ j, j < 4 → ln (4 + j) = 60 := by decide
  exact h2 _ (tn_lt h)
theorem ra36 {i : Int32} (h : vp_in i 3) : rf 36 i.toNatClampNeg = 37 + 13 * tn i := by
  have h2 : ∀ j, j < 3 → rf 36 j = 37 + 13 * j := by decide
  exact h2 _ (tn_lt h)
theorem oa36 {i : Int32} (h : vp_in i 3) : Ob 0 111 (37 + 13 * tn i) 5 := by
  have h2 : ∀ j, j < 3 → 0 ≤ 37 + 13 * j ∧ 37 + 13 * j < 0 + 111 ∧ kd (37 + 13 * j) = 5 := by decide
  exact h2 _ (tn_lt h)
