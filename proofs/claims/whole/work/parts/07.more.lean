theorem acp_link : Cond.native arraycopyName ∈ TG ∧ Cond.static arraycopyName ∈ TG ∧ Cond.initialized "java/lang/System" ∈ TG := ⟨tg_of 750 (by decide +kernel) (by decide +kernel), tg_of 749 (by decide +kernel) (by decide +kernel), tg_of 188 (by decide +kernel) (by decide +kernel)⟩
theorem math_ini : Cond.initialized "java/lang/Math" ∈ TG := tg_of 189 (by decide +kernel) (by decide +kernel)
theorem math_max : Cond.static Lib.Math.max.name ∈ TG ∧ Cond.code Lib.Math.max.name Lib.Math.max.code 2 (some .int) ∈ TG := ⟨tg_of 1152 (by decide +kernel) (by decide +kernel), tg_of 1153 (by decide +kernel) (by decide +kernel)⟩
theorem math_min : Cond.static Lib.Math.min.name ∈ TG ∧ Cond.code Lib.Math.min.name Lib.Math.min.code 2 (some .int) ∈ TG := ⟨tg_of 782 (by decide +kernel) (by decide +kernel), tg_of 783 (by decide +kernel) (by decide +kernel)⟩
theorem math_abs : Cond.static Lib.Math.abs.name ∈ TG ∧ Cond.code Lib.Math.abs.name Lib.Math.abs.code 1 (some .int) ∈ TG := ⟨tg_of 1370 (by decide +kernel) (by decide +kernel), tg_of 1371 (by decide +kernel) (by decide +kernel)⟩
theorem math_absL : Cond.static Lib.MathLoose.abs_long.x ∈ TG ∧ Cond.code Lib.MathLoose.abs_long.x Lib.MathLoose.abs_long.code 2 (some .long) ∈ TG := ⟨tg_of 2351 (by decide +kernel) (by decide +kernel), tg_of 2352 (by decide +kernel) (by decide +kernel)⟩
section FJ
variable {b n d : Nat} {μ : MI} {pc : Nat} {lv : List (Nat × Value)} {st : List Value} {M : Mem} {Q : Option Value → Mem → Prop}
theorem Fr_acopyI {idx cs cd : Nat} {sp dp nn : Int32} (hd : decode μ.2.1 pc = .ok (.invokestatic idx, 3)) (hl : Cond.methodLink μ.1.cls idx arraycopyName ∈ TG) (o1 : Ob b n cs 20) (o2 : Ob b n cd 20) (h1 : ¬ sp < 0) (h2 : ¬ dp < 0) (h3 : ¬ nn < 0) (h4 : sp.toNatClampNeg + nn.toNatClampNeg ≤ ln cs) (h5 : dp.toNatClampNeg + nn.toNatClampNeg ≤ ln cd) (hdd : 0 < d) (hw : (st.map fun v => v.category).sum ≤ 8) (kk : Fr b n d μ (pc + 3) lv st (rI M cd (va_cpy (M.1 cs) (M.1 cd) sp.toNatClampNeg dp.toNatClampNeg nn.toNatClampNeg)) Q) : Fr b n d μ pc lv (.int nn :: .int dp :: .ref cd :: .int sp :: .ref cs :: st) M Q := by
  intro p l e s m args below meth c0 H locs dC dI cA ad A ls C0 hP hS hlv
  obtain ⟨hx, hb, hml, hr, hlk, hown, hts, hK, hD, hA, hE, hAe⟩ := id C0
  obtain ⟨p1, p2, p3⟩ := o1
  obtain ⟨q1, q2, q3⟩ := o2
  refine va_copyi (D := (dC, dI)) hx hb (by rw [hml]; exact hlv.1.symm) hown (hts _ hl) (hts _ acp_link.1) (hts _ acp_link.2.1) (hts _ acp_link.2.2) hK hP (hD M) hS (cs - b) (cd - b) 0 0 (c0 := cA 20) (c1 := cA 20) (n0 := ln cs) (n1 := ln cd) (f := M.1 cs) (g := M.1 cd) (ty := .int) ?_ ?_ rfl rfl rfl h1 h2 h3 h4 h5 (fun _ _ => rfl) hdd ?_ hd (fun H1 locs1 hP1 hD1 hS1 => ?_)
  · rw [ws_get ⟨p1, p2⟩, cell_int (Or.inl p3), p3]
  · rw [ws_get ⟨q1, q2⟩, cell_int (Or.inl q3), q3]
  · rw [rv_cats]
    have h9 : nativeFrameWords "java/lang/System" "arraycopy" 5 ≤ 60 := by decide +kernel
    show _ ≤ 100 * d
    omega
  · rw [ws_set (M' := rI M cd (va_cpy (M.1 cs) (M.1 cd) sp.toNatClampNeg dp.toNatClampNeg nn.toNatClampNeg)) ⟨q1, q2⟩ (by rw [cell_int (Or.inl q3), q3]; simp [rI]) (fun c' h => cell_oI h)] at hP1
    exact kk p l e s m args below meth c0 H1 locs1 dC dI cA ad A ls C0 hP1 hS1 hlv
theorem Fr_acopyL {idx cs cd : Nat} {sp dp nn : Int32} (hd : decode μ.2.1 pc = .ok (.invokestatic idx, 3)) (hl : Cond.methodLink μ.1.cls idx arraycopyName ∈ TG) (o1 : Ob b n cs 21) (o2 : Ob b n cd 21) (h1 : ¬ sp < 0) (h2 : ¬ dp < 0) (h3 : ¬ nn < 0) (h4 : sp.toNatClampNeg + nn.toNatClampNeg ≤ ln cs) (h5 : dp.toNatClampNeg + nn.toNatClampNeg ≤ ln cd) (hdd : 0 < d) (hw : (st.map fun v => v.category).sum ≤ 8) (kk : Fr b n d μ (pc + 3) lv st (rL M cd (va_cpy (M.2 cs) (M.2 cd) sp.toNatClampNeg dp.toNatClampNeg nn.toNatClampNeg)) Q) : Fr b n d μ pc lv (.int nn :: .int dp :: .ref cd :: .int sp :: .ref cs :: st) M Q := by
  intro p l e s m args below meth c0 H locs dC dI cA ad A ls C0 hP hS hlv
  obtain ⟨hx, hb, hml, hr, hlk, hown, hts, hK, hD, hA, hE, hAe⟩ := id C0
  obtain ⟨p1, p2, p3⟩ := o1
  obtain ⟨q1, q2, q3⟩ := o2
  refine va_copyl (D := (dC, dI)) hx hb (by rw [hml]; exact hlv.1.symm) hown (hts _ hl) (hts _ acp_link.1) (hts _ acp_link.2.1) (hts _ acp_link.2.2) hK hP (hD M) hS (cs - b) (cd - b) 1 1 (c0 := cA 21) (c1 := cA 21) (n0 := ln cs) (n1 := ln cd) (f := M.2 cs) (g := M.2 cd) (ty := .long) ?_ ?_ rfl rfl rfl h1 h2 h3 h4 h5 (fun _ _ => rfl) hdd ?_ hd (fun H1 locs1 hP1 hD1 hS1 => ?_)
  · rw [ws_get ⟨p1, p2⟩, cell_long p3]
  · rw [ws_get ⟨q1, q2⟩, cell_long q3]
  · rw [rv_cats]
    have h9 : nativeFrameWords "java/lang/System" "arraycopy" 5 ≤ 60 := by decide +kernel
    show _ ≤ 100 * d
    omega
  · rw [ws_set (M' := rL M cd (va_cpy (M.2 cs) (M.2 cd) sp.toNatClampNeg dp.toNatClampNeg nn.toNatClampNeg)) ⟨q1, q2⟩ (by rw [cell_long q3]; simp [rL]) (fun c' h => cell_oL h)] at hP1
    exact kk p l e s m args below meth c0 H1 locs1 dC dI cA ad A ls C0 hP1 hS1 hlv
theorem Fr_max {idx : Nat} {x y : Int32} (hd : decode μ.2.1 pc = .ok (.invokestatic idx, 3)) (hl : Cond.methodLink μ.1.cls idx Lib.Math.max.name ∈ TG) (hdd : 0 < d) (hw : (st.map fun v => v.category).sum ≤ 8) (kk : Fr b n d μ (pc + 3) lv (.int (if x < y then y else x) :: st) M Q) : Fr b n d μ pc lv (.int y :: .int x :: st) M Q := by
  intro p l e s m args below meth c0 H locs dC dI cA ad A ls C0 hP hS hlv
  obtain ⟨hx, hb, hml, hr, hlk, hown, hts, hK, hD, hA, hE, hAe⟩ := id C0
  exact va_mmax (R := roomD d) hx hb (by rw [hml]; exact hlv.1.symm) hown (hts _ hl) (hts _ math_max.1) (hts _ math_ini) (hts _ math_max.2) hdd (by rw [rv_cats]; show _ ≤ 100 * d; omega) (Nat.le_refl _) (Nat.le_refl _) hd (kk p l e s m args below meth c0 H locs dC dI cA ad A ls C0 hP hS hlv)
theorem Fr_min {idx : Nat} {x y : Int32} (hd : decode μ.2.1 pc = .ok (.invokestatic idx, 3)) (hl : Cond.methodLink μ.1.cls idx Lib.Math.min.name ∈ TG) (hdd : 0 < d) (hw : (st.map fun v => v.category).sum ≤ 8) (kk : Fr b n d μ (pc + 3) lv (.int (if y < x then y else x) :: st) M Q) : Fr b n d μ pc lv (.int y :: .int x :: st) M Q := by
  intro p l e s m args below meth c0 H locs dC dI cA ad A ls C0 hP hS hlv
  obtain ⟨hx, hb, hml, hr, hlk, hown, hts, hK, hD, hA, hE, hAe⟩ := id C0
  exact va_mmin (R := roomD d) hx hb (by rw [hml]; exact hlv.1.symm) hown (hts _ hl) (hts _ math_min.1) (hts _ math_ini) (hts _ math_min.2) hdd (by rw [rv_cats]; show _ ≤ 100 * d; omega) (Nat.le_refl _) (Nat.le_refl _) hd (kk p l e s m args below meth c0 H locs dC dI cA ad A ls C0 hP hS hlv)
theorem Fr_abs {idx : Nat} {x : Int32} (hd : decode μ.2.1 pc = .ok (.invokestatic idx, 3)) (hl : Cond.methodLink μ.1.cls idx Lib.Math.abs.name ∈ TG) (hdd : 0 < d) (hw : (st.map fun v => v.category).sum ≤ 8) (kk : Fr b n d μ (pc + 3) lv (.int (if 0 ≤ x then x else 0 - x) :: st) M Q) : Fr b n d μ pc lv (.int x :: st) M Q := by
  intro p l e s m args below meth c0 H locs dC dI cA ad A ls C0 hP hS hlv
  obtain ⟨hx, hb, hml, hr, hlk, hown, hts, hK, hD, hA, hE, hAe⟩ := id C0
  exact va_mabs (R := roomD d) hx hb (by rw [hml]; exact hlv.1.symm) hown (hts _ hl) (hts _ math_abs.1) (hts _ math_ini) (hts _ math_abs.2) hdd (by rw [rv_cats]; show _ ≤ 100 * d; omega) (Nat.le_refl _) (Nat.le_refl _) hd (kk p l e s m args below meth c0 H locs dC dI cA ad A ls C0 hP hS hlv)
theorem Fr_absL {idx : Nat} {x : Int64} (hd : decode μ.2.1 pc = .ok (.invokestatic idx, 3)) (hl : Cond.methodLink μ.1.cls idx Lib.MathLoose.abs_long.x ∈ TG) (hdd : 0 < d) (hw : (st.map fun v => v.category).sum ≤ 8) (kk : Fr b n d μ (pc + 3) lv (.long (if 0 < x then x else -x) :: st) M Q) : Fr b n d μ pc lv (.long x :: st) M Q := by
  intro p l e s m args below meth c0 H locs dC dI cA ad A ls C0 hP hS hlv
  obtain ⟨hx, hb, hml, hr, hlk, hown, hts, hK, hD, hA, hE, hAe⟩ := id C0
  exact va_mabs_long (R := roomD d) hx hb (by rw [hml]; exact hlv.1.symm) hown (hts _ hl) (hts _ math_absL.1) (hts _ math_ini) (hts _ math_absL.2) hdd (by rw [rv_cats]; show _ ≤ 100 * d; omega) (Nat.le_refl _) (Nat.le_refl _) hd (kk p l e s m args below meth c0 H locs dC dI cA ad A ls C0 hP hS hlv)
/-! static arrays -/
theorem Fr_gets {idx : Nat} (i : Nat) (hd : decode μ.2.1 pc = .ok (.getstatic idx, 3)) (hi : i < 4) (hl : Cond.fieldLink μ.1.cls idx "FogKeys" (stN.getD i "") "[I" ∈ TG) (kk : Fr b n d μ (pc + 3) lv (.ref (300 + i) :: st) M Q) : Fr b n d μ pc lv st M Q := by
  intro p l e s m args below meth c0 H locs dC dI cA ad A ls C0 hP hS hlv
  obtain ⟨hx, hb, hml, hr, hlk, hown, hts, hK, hD, hA, hE, hAe⟩ := id C0
  exact va_gets hx hb (hE.1 i hi).1 hS hown (hts _ hl) (fun _ h => h) hd (kk p l e s m args below meth c0 H locs dC dI cA ad A ls C0 hP hS hlv)
theorem Fr_getsN {idx : Nat} (i : Nat) (hd : decode μ.2.1 pc = .ok (.getstatic idx, 3)) (hi : i < 4) (hl : Cond.fieldLinkNest μ.1.cls idx "FogKeys" (stN.getD i "") "[I" "FogKeys" ∈ nestW) (kk : Fr b n d μ (pc + 3) lv (.ref (300 + i) :: st) M Q) : Fr b n d μ pc lv st M Q := by
  intro p l e s m args below meth c0 H locs dC dI cA ad A ls C0 hP hS hlv
  obtain ⟨hx, hb, hml, hr, hlk, hown, hts, hK, hD, hA, hE, hAe⟩ := id C0
  exact va_getsN hx hb (hE.1 i hi).1 hS hown (va_Nw.use rfl (hE.2.1 _ hl)) (fun _ h => h) hd (kk p l e s m args below meth c0 H locs dC dI cA ad A ls C0 hP hS hlv)
theorem Fr_tald {i : Nat} {j : Int32} (hd : decode μ.2.1 pc = .ok (.iaload, 1)) (hi : i < 4) (hj : vp_in j (stA.getD i []).length) (kk : Fr b n d μ (pc + 1) lv (.int ((stA.getD i []).getD j.toNatClampNeg 0) :: st) M Q) : Fr b n d μ pc lv (.int j :: .ref (300 + i) :: st) M Q := by
  intro p l e s m args below meth c0 H locs dC dI cA ad A ls C0 hP hS hlv
  obtain ⟨hx, hb, hml, hr, hlk, hown, hts, hK, hD, hA, hE, hAe⟩ := id C0
  exact va_ti hx hb (hE.1 i hi).2 hS hj rfl hd (kk p l e s m args below meth c0 H locs dC dI cA ad A ls C0 hP hS hlv)
/-! string constants -/
theorem Fr_strV {idx i : Nat} (hd : decode μ.2.1 pc = .ok (.getfield idx, 3)) (hi : i < 32) (hl : Cond.fieldLink μ.1.cls idx "java/lang/String" "value" "[B" ∈ TG) (kk : Fr b n d μ (pc + 3) lv (.ref (500 + i) :: st) M Q) : Fr b n d μ pc lv (.ref (400 + i) :: st) M Q := by
  intro p l e s m args below meth c0 H locs dC dI cA ad A ls C0 hP hS hlv
  obtain ⟨hx, hb, hml, hr, hlk, hown, hts, hK, hD, hA, hE, hAe⟩ := id C0
  exact vk_getf hx hb (hE.2.2.1 i hi).2.2.2.1 hS hown (hts _ hl) (fun _ h => h) hd (kk p l e s m args below meth c0 H locs dC dI cA ad A ls C0 hP hS hlv)
theorem Fr_strC {idx i : Nat} (hd : decode μ.2.1 pc = .ok (.getfield idx, 3)) (hi : i < 32) (hl : Cond.fieldLink μ.1.cls idx "java/lang/String" "coder" "B" ∈ TG) (kk : Fr b n d μ (pc + 3) lv (.int 0 :: st) M Q) : Fr b n d μ pc lv (.ref (400 + i) :: st) M Q := by
  intro p l e s m args below meth c0 H locs dC dI cA ad A ls C0 hP hS hlv
  obtain ⟨hx, hb, hml, hr, hlk, hown, hts, hK, hD, hA, hE, hAe⟩ := id C0
  exact vk_getf hx hb (hE.2.2.1 i hi).2.2.1 hS hown (hts _ hl) (fun _ h => h) hd (kk p l e s m args below meth c0 H locs dC dI cA ad A ls C0 hP hS hlv)
theorem Fr_strN {i : Nat} {v : Int32} (hd : decode μ.2.1 pc = .ok (.arraylength, 1)) (hi : i < 32) (hv : Int32.ofNat (chL.getD i []).length = v) (kk : Fr b n d μ (pc + 1) lv (.int v :: st) M Q) : Fr b n d μ pc lv (.ref (500 + i) :: st) M Q := by
  intro p l e s m args below meth c0 H locs dC dI cA ad A ls C0 hP hS hlv
  obtain ⟨hx, hb, hml, hr, hlk, hown, hts, hK, hD, hA, hE, hAe⟩ := id C0
  exact va_tlen hx hb (hE.2.2.1 i hi).2.2.2.2 hS hv hd (kk p l e s m args below meth c0 H locs dC dI cA ad A ls C0 hP hS hlv)
theorem Fr_strB {i : Nat} {j : Int32} (hd : decode μ.2.1 pc = .ok (.baload, 1)) (hi : i < 32) (hj : vp_in j (chL.getD i []).length) (kk : Fr b n d μ (pc + 1) lv (.int ((chL.getD i []).getD j.toNatClampNeg 0) :: st) M Q) : Fr b n d μ pc lv (.int j :: .ref (500 + i) :: st) M Q := by
  intro p l e s m args below meth c0 H locs dC dI cA ad A ls C0 hP hS hlv
  obtain ⟨hx, hb, hml, hr, hlk, hown, hts, hK, hD, hA, hE, hAe⟩ := id C0
  exact va_tb hx hb (hE.2.2.1 i hi).2.2.2.2 hS hj rfl hd (kk p l e s m args below meth c0 H locs dC dI cA ad A ls C0 hP hS hlv)
theorem Fr_getsC {idx : Nat} (hd : decode μ.2.1 pc = .ok (.getstatic idx, 3)) (hl : Cond.fieldLink μ.1.cls idx "java/lang/String" "COMPACT_STRINGS" "Z" ∈ TG) (kk : Fr b n d μ (pc + 3) lv (.int 1 :: st) M Q) : Fr b n d μ pc lv st M Q := by
  intro p l e s m args below meth c0 H locs dC dI cA ad A ls C0 hP hS hlv
  obtain ⟨hx, hb, hml, hr, hlk, hown, hts, hK, hD, hA, hE, hAe⟩ := id C0
  exact va_gets hx hb hE.2.2.2.1 hS hown (hts _ hl) (fun _ h => h) hd (kk p l e s m args below meth c0 H locs dC dI cA ad A ls C0 hP hS hlv)
theorem Fr_getsQ {idx : Nat} (hd : decode μ.2.1 pc = .ok (.getstatic idx, 3)) (hl : Cond.fieldLink μ.1.cls idx "jdk/internal/util/Preconditions" "SIOOBE_FORMATTER" "Ljava/util/function/BiFunction;" ∈ TG) (k1 : Fr b n d μ (pc + 3) lv (.null :: st) M Q) (k2 : Fr b n d μ (pc + 3) lv (.ref 600 :: st) M Q) : Fr b n d μ pc lv st M Q := by
  intro p l e s m args below meth c0 H locs dC dI cA ad A ls C0 hP hS hlv
  obtain ⟨hx, hb, hml, hr, hlk, hown, hts, hK, hD, hA, hE, hAe⟩ := id C0
  rcases hE.2.2.2.2 with h | h
  · exact va_gets hx hb h hS hown (hts _ hl) (fun _ h => h) hd (k1 p l e s m args below meth c0 H locs dC dI cA ad A ls C0 hP hS hlv)
  · exact va_gets hx hb h hS hown (hts _ hl) (fun _ h => h) hd (k2 p l e s m args below meth c0 H locs dC dI cA ad A ls C0 hP hS hlv)
theorem Fr_callT {ν : MI} {d' idx i : Nat} {As stk : List Value} {Q' : Option Value → Mem → Prop} (hd : decode μ.2.1 pc = .ok (.invokevirtual idx, 3)) (hl : Cond.methodLink μ.1.cls idx ν.1 ∈ TG) (hν : CalleeV ν As.length) (hq : "java/lang/String" = ν.1.cls) (hi : i < 32) (hstk : stk = As.reverse ++ .ref (400 + i) :: st) (hdd : d' < d) (hw : (st.map fun v => v.category).sum ≤ 8) (hEv : Ev b n d' ν (.ref (400 + i) :: As) M Q') (k : ∀ (r1 : Option Value) (M1 : Mem), Q' r1 M1 → Fr b n d μ (pc + 3) lv (r1.toList ++ st) M1 Q) : Fr b n d μ pc lv stk M Q := by
  subst hstk
  intro p l e s m args below meth c H locs dC dI cA ad A ls C hP hS hlv
  obtain ⟨hx, hb, hml, hr, hlk, hown, hts, hK, hD, hA, hE, hAe⟩ := id C
  have hM := hEv l dC dI cA ad H.size
  have hgood : GoodIn TG (wsV μ.1.cls idx ν.1.cls ν.1 (wsE ν)) := by
    intro w hw'
    have hin : w ∈ TG := by
      simp only [wsV, wsE, List.cons_append, List.nil_append, List.mem_cons] at hw'
      rcases hw' with rfl | rfl | rfl | rfl | rfl | h
      · exact hl
      · exact hν.2.1
      · exact hν.2.2
      · exact hν.1.2.1
      · exact hν.1.1
      · exact h
    exact tg_good w hin
  have cw : CallW (roomD d) s args μ.1.cls ν.1.cls idx ν.1 ν.2.1 ν.2.2.1 ν.2.2.2 (wsE ν) (roomD d') 0 0 As.length := cwV As.length hts hgood rfl rfl rfl ⟨rfl, hν.1.2.2.1⟩ (roomD_le hdd hν.1.2.2.2)
  have hrv : ∃ cell : Cell, H[ad (400 + i)]? = some cell ∧ cell.vm.isStatics = false ∧ s.vm.findClass ν.1.cls = some cell.cls := by
    obtain ⟨cell, h1, h2, h3, -⟩ := (hE.2.2.1 i hi).2.1.kept hS.2.1
    exact ⟨cell, h1, h2, by rw [← hq]; exact h3⟩
  refine callGo (a := (Value.ref (ad (400 + i)) :: As.map (rv ad)).toArray) (Q' := Q') (d' := d') C hS hlv ?_ k
  exact va_runV (As := As.map (rv ad)) (b := ad (400 + i)) (rest := st.map (rv ad)) ⟨hx, hb, hml, hown, hts⟩ hM cw ⟨PG_blind, hrv, fun U hU hW => ⟨rfl, PG_in C hP hS hU hW⟩⟩ rfl (by simp) hlv.1 (by simp [rv]) (lv_room (by rw [rv_cats]; exact hw)) hd ⟨Nat.le_refl _, Nat.le_refl _⟩
/-! rows of references -/
theorem Fr_aald {c t : Nat} {i : Int32} (hd : decode μ.2.1 pc = .ok (.aaload, 1)) (ho : Ob b n c t) (ht : t = 24 ∨ t = 25) (hi : vp_in i (ln c)) {r : Nat} (hr : rf c i.toNatClampNeg = r) (kk : Fr b n d μ (pc + 1) lv (.ref r :: st) M Q) : Fr b n d μ pc lv (.int i :: .ref c :: st) M Q := by
  intro p l e s m args below meth c0 H locs dC dI cA ad A ls C0 hP hS hlv
  obtain ⟨hx, hb, hml, hrt, hlk, hown, hts, hK, hD, hA, hE, hAe⟩ := id C0
  obtain ⟨o1, o2, o3⟩ := ho
  subst o3
  subst hr
  have hlt : i.toNatClampNeg < ln c := Nat.not_le.mp fun q => hi (Or.inr q)
  have hcell := hP (c - b) _ (ws_get ⟨o1, o2⟩)
  rw [cell_ref ht] at hcell
  have hka : ∃ ty : FieldType, ty.isReference = true ∧ ArrOfT s (cA (kd c)) ty := by
    rcases ht with h | h
    · rw [h]; exact ⟨.object "FogKeys$Port", rfl, (hK.2 4 _ rfl).1⟩
    · rw [h]; exact ⟨.array .long, rfl, (hK.2 5 _ rfl).1⟩
  obtain ⟨ty, hty, hAr⟩ := hka
  refine W.aald (v := .ref (ad (rf c i.toNatClampNeg))) (ty := ty) hx hb hcell (hAr (ln c) (fun j => va_rf (if j < ln c then some (ad (rf c j)) else none))) hty (fun q => by cases q) (by show ¬ (i < 0 ∨ (arrV _ _ _).slots.size ≤ _); rw [arrV_size]; exact hi) (by show (arrV _ _ _).slots[_]? = _; rw [arrV_read _ _ hlt]; show some (va_rf (if i.toNatClampNeg < ln c then some (ad (rf c i.toNatClampNeg)) else none)) = _; rw [if_pos hlt]; rfl) rfl rfl hd (kk p l e s m args below meth c0 H locs dC dI cA ad A ls C0 hP hS hlv)
end FJ
