/-! what is made -/
theorem SLT_succ {n : Nat} {q : Nat × Nat × Nat} (hs : SHL[n]? = some q) : SLT (n + 1) = SLT n + slotsOf q := by
  unfold SLT
  rw [List.take_succ, hs]
  simp
theorem rNew_old (E : Ev) (h : HP) {k : Nat} (hk : k < h.1) : cellOf E (rNew h) k = cellOf E h k := by
  have hn : k ≠ h.1 := by omega
  exact cell_same (if_neg hn) (if_neg hn) (if_neg hn)
theorem rNew_fval (E : Ev) (h : HP) (j t : Nat) : fval E (rNew h) h.1 j t = dfl t := by
  have a1 : hI (rNew h) h.1 = fun _ => 0 := if_pos rfl
  have a2 : hL (rNew h) h.1 = fun _ => 0 := if_pos rfl
  have a3 : hR (rNew h) h.1 = fun _ => NUL := if_pos rfl
  unfold fval dfl
  rw [a1, a2, a3]
  have e : cr E NUL = .null := by simp [cr]
  rw [e]
section VNEW
variable {cc : ByteArray} {mi : Mi} {Z : Zt} {n0 pc : Nat} {ls st : List Value} {h : HP}
theorem V.new {idx ci z : Nat} {q : vw_C} (hd : decode cc pc = .ok (.new idx, 3)) (hq : wCl[ci]? = some q) (hok : ClOK ci q) (hlk : Cond.classLink mi.1 idx q.1 ∈ lw_tbl) (hs : SHL[h.1]? = some (0, ci, z)) (hfit : h.1 - n0 + 1 ≤ mi.2.2.2.1.cells ∧ SLT h.1 - SLT n0 + q.2.2 ≤ mi.2.2.2.1.slots) (hn : SLT n0 ≤ SLT h.1)
    (k : V cc mi Z n0 (pc + 3) ls (.ref h.1 :: st) (rNew h)) : V cc mi Z n0 pc ls st h := by
  intro p l e s m args below meth c E H locs la hc hr hl
  refine W_sized fun hz => ?_
  have hsz := Rp_size hr hc.2.2.2.2.2.2.2.2.1 hz
  have hG := hc.2.2.2.2.2.2.2.1
  have hin : ∀ w ∈ u_ws q.1 q.2.1 q.2.2, w ∈ u_ws q.1 q.2.1 q.2.2 := fun _ h => h
  have hts : ∀ w ∈ u_ws q.1 q.2.1 q.2.2, w.before args s = true := fun w h => hG.2.1.use (hok.1 w h) (lay_ok h) args
  have hKn := hG.1.1 ci _ hq
  refine W.newcK hc.1 hc.2.1 hc.2.2.2.1 (hG.2.1.use hlk rfl args) (hG.2.1.use hok.2.2.2.2.1 rfl args) (hG.2.1.use hok.2.2.2.2.2.1 rfl args) rfl hd hfit.1 hfit.2 hKn.2.1 hsz fun H1 kC hkC e1 z1 o1 => ?_
  have hP1 : va_P E.1 wCl (ws E (rNew h)) H1 := by
    rw [← ws_push (E := E) (h := h) (h' := rNew h) rfl (fun j hj => rNew_old E h hj), cell_obj hs]
    refine (hr.1.kept (fun k x hx => o1 x.1 (by have := (hr.1 k x hx).lt; omega))).app (fun k x hx => ?_)
    have hk : k < 1 := (List.getElem?_eq_some_iff.mp hx).1
    rw [show k = 0 by omega] at hx
    cases hx
    refine ⟨_, hq, (u_born (tyOf ci) hts hin hKn hkC e1 hok.2.2.1).to (fun j hj => ?_)⟩
    rw [hok.2.2.2.2.2.2 j hj]
    simp only [vp_V, List.getD_eq_getElem?_getD]
    rw [flds_at (by rw [nF_of hq]; exact hj), rNew_fval]
    rfl
  have hS := hr.2.1
  have kk := k p l e s m args below meth c E H1 locs la hc ⟨hP1, ⟨by have := hS.1; omega, fun x h1 h2 => (o1 x (by have := hS.1; omega)).trans (hS.2.1 x h1 h2), hS.2.2⟩, Nat.le_succ_of_le hr.2.2.1, fun x => absurd x (by omega)⟩ hl
  have hn1 := hr.2.2.1
  rw [show (rNew h).1 = h.1 + 1 from rfl, SLT_succ hs, show slotsOf (0, ci, z) = q.2.2 from nF_of hq, show h.1 + 1 - n0 = h.1 - n0 + 1 by omega, show SLT h.1 + q.2.2 - SLT n0 = SLT h.1 - SLT n0 + q.2.2 by omega, show cS E (.ref h.1 :: st) = .ref (eb E + h.1) :: cS E st by rw [← cv_lt (E := E) hs]; rfl] at kk
  exact kk
theorem arW_new (E : Ev) (h : HP) {t n : Nat} (ht : t ≤ 3) (cA : ClassId) (hc : cA = E.2.1 t) : vp_cell cA (n, acon E (rNew h) h.1 t) = arrV cA n (fun _ => defaultValue (ATY t)) := by
  have a1 : hI (rNew h) h.1 = fun _ => 0 := if_pos rfl
  have a2 : hL (rNew h) h.1 = fun _ => 0 := if_pos rfl
  rcases (show t = 0 ∨ t = 1 ∨ t = 2 ∨ t = 3 by omega) with rfl | rfl | rfl | rfl <;> simp [acon, a1, a2, vp_cell, ATY, defaultValue]
theorem V.newarray {atype : ArrayType} {t N : Nat} {n : Int32} (hd : decode cc pc = .ok (.newarray atype, 2)) (hty : newarray.typeOf atype = ATY t) (ht : t ≤ 3) (hw : Cond.arrayClass (ATY t) ∈ lw_tbl) (hs : SHL[h.1]? = some (1, t, N)) (hn : ¬ n < 0) (hN : n.toNatClampNeg = N) (hby : N * componentBytes (ATY t) ≤ 536870912)
    (hfit : h.1 - n0 + 1 ≤ mi.2.2.2.1.cells ∧ SLT h.1 - SLT n0 + N ≤ mi.2.2.2.1.slots) (hn2 : SLT n0 ≤ SLT h.1)
    (k : V cc mi Z n0 (pc + 2) ls (.ref h.1 :: st) (rNew h)) : V cc mi Z n0 pc ls (.int n :: st) h := by
  intro p l e s m args below meth c E H locs la hc hr hl
  refine W_sized fun hz => ?_
  have hsz := Rp_size hr hc.2.2.2.2.2.2.2.2.1 hz
  have hG := hc.2.2.2.2.2.2.2.1
  refine va_newaK hc.1 hc.2.1 (by rw [hty]; exact hG.2.1.use hw rfl args) rfl hd rfl hn hN (by rw [hty]; exact hby) hfit.1 hfit.2 hsz fun H1 cA e1 z1 o1 hAr hNm => ?_
  have hcA : cA = E.2.1 t := by
    have h2 := (hG.1.2 t _ (tysL_at E (by omega))).2
    rw [hty] at hNm
    have h3 : s.vm.findClass ("[" ++ (ATY t).toString) = some (E.2.1 t) := by
      rcases (show t = 0 ∨ t = 1 ∨ t = 2 ∨ t = 3 by omega) with rfl | rfl | rfl | rfl <;> exact h2
    exact Option.some.inj (hNm.symm.trans h3)
  have hP1 : va_P E.1 wCl (ws E (rNew h)) H1 := by
    rw [← ws_push (E := E) (h := h) (h' := rNew h) rfl (fun j hj => rNew_old E h hj), cell_arr hs]
    refine (hr.1.kept (fun k x hx => o1 x.1 (by have := (hr.1 k x hx).lt; omega))).app (fun k x hx => ?_)
    have hk : k < 1 := (List.getElem?_eq_some_iff.mp hx).1
    rw [show k = 0 by omega] at hx
    cases hx
    show H1[eb E + h.1]? = some (vp_cell _ _)
    rw [e1, ← hcA, arW_new E h ht cA hcA, hty]
  have hS := hr.2.1
  have kk := k p l e s m args below meth c E H1 locs la hc ⟨hP1, ⟨by have := hS.1; omega, fun x h1 h2 => (o1 x (by have := hS.1; omega)).trans (hS.2.1 x h1 h2), hS.2.2⟩, Nat.le_succ_of_le hr.2.2.1, fun x => absurd x (by omega)⟩ hl
  have hn1 := hr.2.2.1
  rw [show (rNew h).1 = h.1 + 1 from rfl, SLT_succ hs, show slotsOf (1, t, N) = N from rfl, show h.1 + 1 - n0 = h.1 - n0 + 1 by omega, show SLT h.1 + N - SLT n0 = SLT h.1 - SLT n0 + N by omega, show cS E (.ref h.1 :: st) = .ref (eb E + h.1) :: cS E st by rw [← cv_lt (E := E) hs]; rfl] at kk
  exact kk
theorem V.anewarray {idx N : Nat} {n : Int32} (hd : decode cc pc = .ok (.anewarray idx, 3)) (hlk : Cond.classLink mi.1 idx "WindowHill$Town" ∈ lw_tbl) (hov : Cond.arrayOver (.object "WindowHill$Town") ∈ lw_tbl) (hs : SHL[h.1]? = some (1, 4, N)) (hn : ¬ n < 0) (hN : n.toNatClampNeg = N) (hby : N * 4 ≤ 536870912)
    (hfit : h.1 - n0 + 1 ≤ mi.2.2.2.1.cells ∧ SLT h.1 - SLT n0 + N ≤ mi.2.2.2.1.slots) (hn2 : SLT n0 ≤ SLT h.1)
    (k : V cc mi Z n0 (pc + 3) ls (.ref h.1 :: st) (rNew h)) : V cc mi Z n0 pc ls (.int n :: st) h := by
  intro p l e s m args below meth c E H locs la hc hr hl
  refine W_sized fun hz => ?_
  have hsz := Rp_size hr hc.2.2.2.2.2.2.2.2.1 hz
  have hG := hc.2.2.2.2.2.2.2.1
  subst hN
  refine W.anew hc.1 hc.2.1 hc.2.2.2.1 (hG.2.1.use hlk rfl args) (hG.2.1.use hov rfl args) rfl hd rfl hn hby hfit.1 hfit.2 fun cA kA comp f1 f2 f3 f4 => ?_
  generalize hH1 : H.push ({ cls := cA, slots := Array.replicate n.toNatClampNeg .null, vm := .none } : Cell) = H1
  have z1 : H1.size = H.size + 1 := by rw [← hH1, Array.size_push]
  have e1 : H1[H.size]? = some (arrV cA n.toNatClampNeg (fun _ => .null)) := by rw [← hH1, Array.getElem?_push_size, ← arrV_new]
  have o1 : ∀ q : Nat, q < H.size → H1[q]? = H[q]? := fun q hq => by rw [← hH1, Array.getElem?_push, if_neg (Nat.ne_of_lt hq)]
  have hcA : cA = E.2.1 4 := by
    obtain ⟨_, _, -, -, -, h3⟩ := (hG.1.2 4 _ (tysL_at E (by omega))).2
    exact Option.some.inj (f1.symm.trans h3)
  rw [hsz] at e1
  have hP1 : va_P E.1 wCl (ws E (rNew h)) H1 := by
    rw [← ws_push (E := E) (h := h) (h' := rNew h) rfl (fun j hj => rNew_old E h hj), cell_arr hs]
    refine (hr.1.kept (fun k x hx => o1 x.1 ((hr.1 k x hx).lt))).app (fun k x hx => ?_)
    have hk : k < 1 := (List.getElem?_eq_some_iff.mp hx).1
    rw [show k = 0 by omega] at hx
    cases hx
    show H1[eb E + h.1]? = some (vp_cell _ _)
    have a3 : hR (rNew h) h.1 = fun _ => NUL := if_pos rfl
    rw [e1, ← hcA]
    simp [acon, a3, vp_cell, rOpt, va_rf]
  have hS := hr.2.1
  have kk := k p l e s m args below meth c E H1 locs la hc ⟨hP1, ⟨by have := hS.1; omega, fun x h1 h2 => (o1 x (by have := hS.1; omega)).trans (hS.2.1 x h1 h2), hS.2.2⟩, Nat.le_succ_of_le hr.2.2.1, fun x => absurd x (by omega)⟩ hl
  have hn1 := hr.2.2.1
  rw [show (rNew h).1 = h.1 + 1 from rfl, SLT_succ hs, show slotsOf (1, 4, n.toNatClampNeg) = n.toNatClampNeg from rfl, show h.1 + 1 - n0 = h.1 - n0 + 1 by omega, show SLT h.1 + n.toNatClampNeg - SLT n0 = SLT h.1 - SLT n0 + n.toNatClampNeg by omega, show cS E (.ref h.1 :: st) = .ref (eb E + h.1) :: cS E st by rw [← cv_lt (E := E) hs]; rfl] at kk
  rw [hsz]
  exact kk
theorem V.objInit {idx a : Nat} {q : Nat × Nat × Nat} (hd : decode cc pc = .ok (.invokespecial idx, 3)) (hlk : Cond.methodLink mi.1 idx Lib.objectInit ∈ lw_tbl) (hin : Cond.instanceMethod Lib.objectInit ∈ lw_tbl) (hco : Cond.code Lib.objectInit ⟨#[0xb1]⟩ 1 none ∈ lw_tbl) (hs : SHL[a]? = some q) (hR : 1 ≤ mi.2.2.2.1.frames ∧ (st.map fun v => v.category).sum + 12 ≤ mi.2.2.2.1.locals)
    (k : V cc mi Z n0 (pc + 3) ls st h) : V cc mi Z n0 pc ls (.ref a :: st) h := by
  intro p l e s m args below meth c E H locs la hc hr hl
  have hG := hc.2.2.2.2.2.2.2.1
  have hT := hG.2.1
  rw [show cS E (.ref a :: st) = .ref (eb E + a) :: cS E st by rw [← cv_lt (E := E) hs]; rfl]
  refine W.objInit hc.1 hc.2.1 hc.2.2.2.1 (hT.use hlk rfl args) (hT.use hin rfl args) (hT.use hco rfl args) rfl (hl.1.trans hc.2.2.1.symm) rfl hd hR.1 ?_ (k p l e s m args below meth c E H locs la hc hr hl)
  rw [cS_cat]
  show 2 * 0 + _ + 12 ≤ _
  omega
theorem V.max {idx : Nat} {x y : Int32} (hd : decode cc pc = .ok (.invokestatic idx, 3)) (hlk : Cond.methodLink mi.1 idx Lib.Math.max.name ∈ lw_tbl) (hw : MaxW Lib.Math.max.name Lib.Math.max.code) (hz : mi.2.2.2.1.cells = 0) (hR : 1 ≤ mi.2.2.2.1.frames ∧ (st.map fun v => v.category).sum + 13 ≤ mi.2.2.2.1.locals)
    (k : V cc mi Z n0 (pc + 3) ls (.int (if x < y then y else x) :: st) h) : V cc mi Z n0 pc ls (.int y :: .int x :: st) h := by
  intro p l e s m args below meth c E H locs la hc hr hl
  have hT := hc.2.2.2.2.2.2.2.1.2.1
  have h1 := hr.2.2.2 hz
  exact va_mmax hc.1 hc.2.1 (hc.2.2.1.trans hl.1.symm) hc.2.2.2.1 (hT.use hlk rfl args) (hT.use hw.1 rfl args) (hT.use hw.2.1 rfl args) (hT.use hw.2.2 rfl args) hR.1 (by have := cS_cat E st; unfold cS at this; rw [this]; exact hR.2) (by omega) (by rw [h1]; omega) hd (k p l e s m args below meth c E H locs la hc hr hl)
theorem V.min {idx : Nat} {x y : Int32} (hd : decode cc pc = .ok (.invokestatic idx, 3)) (hlk : Cond.methodLink mi.1 idx Lib.Math.min.name ∈ lw_tbl) (hw : MaxW Lib.Math.min.name Lib.Math.min.code) (hz : mi.2.2.2.1.cells = 0) (hR : 1 ≤ mi.2.2.2.1.frames ∧ (st.map fun v => v.category).sum + 13 ≤ mi.2.2.2.1.locals)
    (k : V cc mi Z n0 (pc + 3) ls (.int (if y < x then y else x) :: st) h) : V cc mi Z n0 pc ls (.int y :: .int x :: st) h := by
  intro p l e s m args below meth c E H locs la hc hr hl
  have hT := hc.2.2.2.2.2.2.2.1.2.1
  have h1 := hr.2.2.2 hz
  exact va_mmin hc.1 hc.2.1 (hc.2.2.1.trans hl.1.symm) hc.2.2.2.1 (hT.use hlk rfl args) (hT.use hw.1 rfl args) (hT.use hw.2.1 rfl args) (hT.use hw.2.2 rfl args) hR.1 (by have := cS_cat E st; unfold cS at this; rw [this]; exact hR.2) (by omega) (by rw [h1]; omega) hd (k p l e s m args below meth c E H locs la hc hr hl)
theorem V.copyI {idx a b n0' n1' : Nat} {sp dp n : Int32} (hd : decode cc pc = .ok (.invokestatic idx, 3)) (hlk : Cond.methodLink mi.1 idx arraycopyName ∈ lw_tbl) (hw : CopyW) (hs0 : SHL[a]? = some (1, 0, n0')) (hs1 : SHL[b]? = some (1, 0, n1')) (hw0 : mi.2.2.2.1.cells = 0 ∧ a < n0 ∨ a < h.1) (hw1 : mi.2.2.2.1.cells = 0 ∧ b < n0 ∨ b < h.1)
    (h1 : ¬ sp < 0) (h2 : ¬ dp < 0) (h3 : ¬ n < 0) (h4 : sp.toNatClampNeg + n.toNatClampNeg ≤ n0') (h5 : dp.toNatClampNeg + n.toNatClampNeg ≤ n1') (hR : 1 ≤ mi.2.2.2.1.frames ∧ (st.map fun v => v.category).sum + (nativeFrameWords "java/lang/System" "arraycopy" 5 + 11) ≤ mi.2.2.2.1.locals)
    (k : V cc mi Z n0 (pc + 3) ls st (rI h b (va_cpy (hI h a) (hI h b) sp.toNatClampNeg dp.toNatClampNeg n.toNatClampNeg))) : V cc mi Z n0 pc ls (.int n :: .int dp :: .ref b :: .int sp :: .ref a :: st) h := by
  intro p l e s m args below meth c E H locs la hc hr hl
  have hw0 := hwOf hr hw0
  have hw1 := hwOf hr hw1
  have hG := hc.2.2.2.2.2.2.2.1
  have hT := hG.2.1
  rw [show cS E (.int n :: .int dp :: .ref b :: .int sp :: .ref a :: st) = .int n :: .int dp :: .ref (eb E + b) :: .int sp :: .ref (eb E + a) :: cS E st by rw [← cv_lt (E := E) hs0, ← cv_lt (E := E) hs1]; rfl]
  refine va_copyi hc.1 hc.2.1 (hc.2.2.1.trans hl.1.symm) hc.2.2.2.1 (hT.use hlk rfl args) (hT.use hw.1 rfl args) (hT.use hw.2.1 rfl args) (hT.use hw.2.2 rfl args) hG.1 hr.1 (ws_D E h) hr.2.1 a b 0 0 (arW_at E hs0 hw0) (arW_at E hs1 hw1) rfl rfl rfl h1 h2 h3 h4 h5 (fun _ _ => rfl) hR.1 (by rw [cS_cat]; exact hR.2) hd (fun H1 locs1 P1 _ S1 => ?_)
  rw [arW_set (E := E) (h := h) (h' := rI h b (va_cpy (hI h a) (hI h b) sp.toNatClampNeg dp.toNatClampNeg n.toNatClampNeg)) hs1 rfl (by simp [acon, hI_rI_s]) (fun b hb => cell_same (hI_rI_n h _ hb) rfl rfl)] at P1
  exact V.wrote (h := h) (h' := rI h b _) rfl k hc hr hl P1 S1
theorem V.copyL {idx a b n0' n1' : Nat} {sp dp n : Int32} (hd : decode cc pc = .ok (.invokestatic idx, 3)) (hlk : Cond.methodLink mi.1 idx arraycopyName ∈ lw_tbl) (hw : CopyW) (hs0 : SHL[a]? = some (1, 1, n0')) (hs1 : SHL[b]? = some (1, 1, n1')) (hw0 : mi.2.2.2.1.cells = 0 ∧ a < n0 ∨ a < h.1) (hw1 : mi.2.2.2.1.cells = 0 ∧ b < n0 ∨ b < h.1)
    (h1 : ¬ sp < 0) (h2 : ¬ dp < 0) (h3 : ¬ n < 0) (h4 : sp.toNatClampNeg + n.toNatClampNeg ≤ n0') (h5 : dp.toNatClampNeg + n.toNatClampNeg ≤ n1') (hR : 1 ≤ mi.2.2.2.1.frames ∧ (st.map fun v => v.category).sum + (nativeFrameWords "java/lang/System" "arraycopy" 5 + 11) ≤ mi.2.2.2.1.locals)
    (k : V cc mi Z n0 (pc + 3) ls st (rL h b (va_cpy (hL h a) (hL h b) sp.toNatClampNeg dp.toNatClampNeg n.toNatClampNeg))) : V cc mi Z n0 pc ls (.int n :: .int dp :: .ref b :: .int sp :: .ref a :: st) h := by
  intro p l e s m args below meth c E H locs la hc hr hl
  have hw0 := hwOf hr hw0
  have hw1 := hwOf hr hw1
  have hG := hc.2.2.2.2.2.2.2.1
  have hT := hG.2.1
  rw [show cS E (.int n :: .int dp :: .ref b :: .int sp :: .ref a :: st) = .int n :: .int dp :: .ref (eb E + b) :: .int sp :: .ref (eb E + a) :: cS E st by rw [← cv_lt (E := E) hs0, ← cv_lt (E := E) hs1]; rfl]
  refine va_copyl hc.1 hc.2.1 (hc.2.2.1.trans hl.1.symm) hc.2.2.2.1 (hT.use hlk rfl args) (hT.use hw.1 rfl args) (hT.use hw.2.1 rfl args) (hT.use hw.2.2 rfl args) hG.1 hr.1 (ws_D E h) hr.2.1 a b 1 1 (arW_at E hs0 hw0) (arW_at E hs1 hw1) rfl rfl rfl h1 h2 h3 h4 h5 (fun _ _ => rfl) hR.1 (by rw [cS_cat]; exact hR.2) hd (fun H1 locs1 P1 _ S1 => ?_)
  rw [arW_set (E := E) (h := h) (h' := rL h b (va_cpy (hL h a) (hL h b) sp.toNatClampNeg dp.toNatClampNeg n.toNatClampNeg)) hs1 rfl (by simp [acon, hL_rL_s]) (fun b hb => cell_same rfl (hL_rL_n h _ hb) rfl)] at P1
  exact V.wrote (h := h) (h' := rL h b _) rfl k hc hr hl P1 S1
end VNEW
/-! ===== the two literals: their characters ===== -/
theorem SLEN_at : ∀ i, i < 2 → SLEN.getD i 0 = (sBy i).length ∧ SLEN.getD i 0 < 200 ∧ SBYT.getD i [] = sBy i := by decide +kernel
theorem cr_sp {E : Ev} {j x : Nat} (hj : 0 < j) (h : E.2.2.2 j = some x) : cv E (.ref (NUL + j)) = .ref x := by
  show cr E (NUL + j) = _
  unfold cr
  rw [if_neg (by omega), if_neg (by omega), Nat.add_sub_cancel_left, h]; rfl
section VSTR
variable {cc : ByteArray} {mi : Mi} {Z : Zt} {n0 pc : Nat} {ls st : List Value} {h : HP}
theorem V.ldcS {i idx : Nat} (hi : i < 2) (hd : decode cc pc = .ok (.ldc idx, 2)) (ho : mi.1 = (sTx i).1) (hx : idx = (sTx i).2.1) (k : V cc mi Z n0 (pc + 2) ls (.ref (NUL + (i + 2)) :: st) h) : V cc mi Z n0 pc ls st h := by
  intro p l e s m args below meth c E H locs la hc hr hl
  subst hx
  obtain ⟨adK, adV, h1, -⟩ := hc.2.2.2.2.2.2.2.1.2.2
  have kk := k p l e s m args below meth c E H locs la hc hr hl
  rw [show cS E (.ref (NUL + (i + 2)) :: st) = .ref (adK i) :: cS E st by rw [← cr_sp (E := E) (by omega) (h1 i hi).1]; rfl] at kk
  exact va_ldcS hc.1 hc.2.1 (by rw [← ho]; exact hc.2.2.2.1) (h1 i hi).2.2 hd kk
theorem V.aload_nS {f : Fin 4} {i j : Nat} (hd : decode cc pc = .ok (.aload_n f, 1)) (hf : (f : Nat) = i) (hx : ls[i]? = some (.ref (NUL + j))) (h2 : 2 ≤ j) (h5 : j ≤ 5) (k : V cc mi Z n0 (pc + 1) ls (.ref (NUL + j) :: st) h) : V cc mi Z n0 pc ls st h := by
  intro p l e s m args below meth c E H locs la hc hr hl
  obtain ⟨adK, adV, h1, -⟩ := hc.2.2.2.2.2.2.2.1.2.2
  obtain ⟨x, hj⟩ : ∃ x, E.2.2.2 j = some x := by
    rcases (show j = 2 ∨ j = 3 ∨ j = 4 ∨ j = 5 by omega) with rfl | rfl | rfl | rfl
    · exact ⟨_, (h1 0 (by omega)).1⟩
    · exact ⟨_, (h1 1 (by omega)).1⟩
    · exact ⟨_, (h1 0 (by omega)).2.1⟩
    · exact ⟨_, (h1 1 (by omega)).2.1⟩
  have e1 := cr_sp (E := E) (j := j) (by omega) hj
  have g := lv_get hl hx (by simp)
  rw [e1] at g
  have kk := k p l e s m args below meth c E H locs la hc hr hl
  rw [show cS E (.ref (NUL + j) :: st) = .ref x :: cS E st by rw [← e1]; rfl] at kk
  exact lv_aload_n hc.1 hc.2.1 hd hf g kk
theorem V.getSv {i idx : Nat} (hi : i < 2) (hd : decode cc pc = .ok (.getfield idx, 3)) (hlk : Cond.fieldLink mi.1 idx "java/lang/String" "value" "[B" ∈ lw_tbl) (k : V cc mi Z n0 (pc + 3) ls (.ref (NUL + (i + 4)) :: st) h) : V cc mi Z n0 pc ls (.ref (NUL + (i + 2)) :: st) h := by
  intro p l e s m args below meth c E H locs la hc hr hl
  have hG := hc.2.2.2.2.2.2.2.1
  obtain ⟨adK, adV, h1, h2, -⟩ := hG.2.2
  have kk := k p l e s m args below meth c E H locs la hc hr hl
  rw [show cS E (.ref (NUL + (i + 4)) :: st) = .ref (adV i) :: cS E st by rw [← cr_sp (E := E) (by omega) (h1 i hi).2.1]; rfl] at kk
  rw [show cS E (.ref (NUL + (i + 2)) :: st) = .ref (adK i) :: cS E st by rw [← cr_sp (E := E) (by omega) (h1 i hi).1]; rfl]
  exact vk_getf hc.1 hc.2.1 (h2.1 i hi).2.2.1 hr.2.1 hc.2.2.2.1 (hG.2.1.use hlk rfl args) (fun _ h => h) hd kk
theorem V.getSc {i idx : Nat} (hi : i < 2) (hd : decode cc pc = .ok (.getfield idx, 3)) (hlk : Cond.fieldLink mi.1 idx "java/lang/String" "coder" "B" ∈ lw_tbl) (k : V cc mi Z n0 (pc + 3) ls (.int 0 :: st) h) : V cc mi Z n0 pc ls (.ref (NUL + (i + 2)) :: st) h := by
  intro p l e s m args below meth c E H locs la hc hr hl
  have hG := hc.2.2.2.2.2.2.2.1
  obtain ⟨adK, adV, h1, h2, -⟩ := hG.2.2
  rw [show cS E (.ref (NUL + (i + 2)) :: st) = .ref (adK i) :: cS E st by rw [← cr_sp (E := E) (by omega) (h1 i hi).1]; rfl]
  exact vk_getf hc.1 hc.2.1 (h2.1 i hi).2.1 hr.2.1 hc.2.2.2.1 (hG.2.1.use hlk rfl args) (fun _ h => h) hd (k p l e s m args below meth c E H locs la hc hr hl)
theorem V.getsCS {idx : Nat} (hd : decode cc pc = .ok (.getstatic idx, 3)) (hlk : Cond.fieldLink mi.1 idx "java/lang/String" "COMPACT_STRINGS" "Z" ∈ lw_tbl) (k : V cc mi Z n0 (pc + 3) ls (.int 1 :: st) h) : V cc mi Z n0 pc ls st h := by
  intro p l e s m args below meth c E H locs la hc hr hl
  have hG := hc.2.2.2.2.2.2.2.1
  obtain ⟨adK, adV, h1, h2, h3, -⟩ := hG.2.2
  exact va_gets hc.1 hc.2.1 h3 hr.2.1 hc.2.2.2.1 (hG.2.1.use hlk rfl args) (fun _ h => h) hd (k p l e s m args below meth c E H locs la hc hr hl)
theorem V.getsFm {idx : Nat} (hd : decode cc pc = .ok (.getstatic idx, 3)) (hlk : Cond.fieldLink mi.1 idx "jdk/internal/util/Preconditions" "SIOOBE_FORMATTER" "Ljava/util/function/BiFunction;" ∈ lw_tbl) (k : V cc mi Z n0 (pc + 3) ls (.ref (NUL + 6) :: st) h) : V cc mi Z n0 pc ls st h := by
  intro p l e s m args below meth c E H locs la hc hr hl
  have hG := hc.2.2.2.2.2.2.2.1
  obtain ⟨adK, adV, h1, h2, h3, h4⟩ := hG.2.2
  have kk := k p l e s m args below meth c E H locs la hc hr hl
  rw [show cS E (.ref (NUL + 6) :: st) = va_rf (E.2.2.2 6) :: cS E st by
    show cr E (NUL + 6) :: _ = _
    unfold cr NUL; rw [if_neg (by omega), if_neg (by omega)]; rfl] at kk
  exact va_gets hc.1 hc.2.1 h4 hr.2.1 hc.2.2.2.1 (hG.2.1.use hlk rfl args) (fun _ h => h) hd kk
theorem V.baloadS {i k0 : Nat} {x : Int32} (hi : i < 2) (hd : decode cc pc = .ok (.baload, 1)) (hk : k0 < (sBy i).length) (hx : (sBy i).getD k0 0 = x) (k : V cc mi Z n0 (pc + 1) ls (.int x :: st) h) : V cc mi Z n0 pc ls (.int (nI k0) :: .ref (NUL + (i + 4)) :: st) h := by
  intro p l e s m args below meth c E H locs la hc hr hl
  have hG := hc.2.2.2.2.2.2.2.1
  obtain ⟨adK, adV, h1, h2, -⟩ := hG.2.2
  obtain ⟨l1, l2, l3⟩ := SLEN_at i hi
  rw [show cS E (.int (nI k0) :: .ref (NUL + (i + 4)) :: st) = .int (nI k0) :: .ref (adV i) :: cS E st by rw [← cr_sp (E := E) (by omega) (h1 i hi).2.1]; rfl]
  exact va_tb hc.1 hc.2.1 (h2.1 i hi).2.2.2 hr.2.1 (i := nI k0) (by rw [l1]; exact vp_in_nI hk (by omega)) (v := .int x) (by rw [nI_clamp (by omega), l3, hx]) hd (k p l e s m args below meth c E H locs la hc hr hl)
theorem V.alenS {i : Nat} (hi : i < 2) (hd : decode cc pc = .ok (.arraylength, 1)) (k : V cc mi Z n0 (pc + 1) ls (.int (nI (sBy i).length) :: st) h) : V cc mi Z n0 pc ls (.ref (NUL + (i + 4)) :: st) h := by
  intro p l e s m args below meth c E H locs la hc hr hl
  have hG := hc.2.2.2.2.2.2.2.1
  obtain ⟨adK, adV, h1, h2, -⟩ := hG.2.2
  obtain ⟨l1, l2, l3⟩ := SLEN_at i hi
  rw [show cS E (.ref (NUL + (i + 4)) :: st) = .ref (adV i) :: cS E st by rw [← cr_sp (E := E) (by omega) (h1 i hi).2.1]; rfl]
  exact va_tlen hc.1 hc.2.1 (h2.1 i hi).2.2.2 hr.2.1 (v := nI (sBy i).length) (by rw [l1]; rfl) hd (k p l e s m args below meth c E H locs la hc hr hl)
/-- a call of one of String's own methods on a literal -/
theorem V.callVS {y : MethodName} {cc' : ByteArray} {mi' : Mi} {idx i n : Nat} {As rest : List Value} {post : Option Value → HP → Prop} (hi : i < 2) (hd : decode cc pc = .ok (.invokevirtual idx, 3)) (hlk : Cond.methodLink mi.1 idx y ∈ lw_tbl) (hm : MOK y cc' mi' n) (hv : MOKv y) (hcl : y.cls = "java/lang/String")
    (hS : Spec y cc' mi' (.ref (NUL + (i + 2)) :: As) h post) (hst : st = As.reverse ++ .ref (NUL + (i + 2)) :: rest) (hn : As.length = n) (hR : RmOK mi.2.2.2.1 mi'.2.2.2.1 mi'.2.1) (hcat : (rest.map fun v => v.category).sum ≤ 8)
    (hfit0 : mi.2.2.2.1.cells = 0 ∨ ((h.1 - n0 + mi'.2.2.2.1.cells ≤ mi.2.2.2.1.cells ∧ SLT h.1 - SLT n0 + mi'.2.2.2.1.slots ≤ mi.2.2.2.1.slots) ∧ SLT (h.1 + mi'.2.2.2.1.cells) = SLT h.1 + mi'.2.2.2.1.slots))
    (k : ∀ (v : Option Value) (h' : HP), post v h' → V cc mi Z n0 (pc + 3) ls (v.toList ++ rest) h') : V cc mi Z n0 pc ls st h := by
  intro p l e s m args below meth c E H locs la hc hr hl
  refine W_sized fun hz => ?_
  have hG := hc.2.2.2.2.2.2.2.1
  obtain ⟨hfit, hslots⟩ := V.fits (mi' := mi') hr hR.2.2 hfit0
  obtain ⟨adK, adV, h1, h2, -⟩ := hG.2.2
  have e1 := cr_sp (E := E) (j := i + 2) (by omega) (h1 i hi).1
  have hrecv := vk_recv h2 hi hr.2.1
  rw [← hcl] at hrecv
  have hts : ∀ w ∈ [Cond.code y cc' mi'.2.1 mi'.2.2.1], w.before args s = true := fun w hw => by rw [List.mem_singleton.mp hw]; exact hG.2.1.use hm.1 rfl args
  have hfix : CallFix p m c cc mi.2.1 s args [Cond.code y cc' mi'.2.1 mi'.2.2.1] mi.1 := ⟨hc.1, hc.2.1, hc.2.2.1, hc.2.2.2.1, hts⟩
  have hpre : ∀ U : State, U.heap = H → s.WarmedH U.vm → PcS E (.ref (NUL + (i + 2)) :: As) h (Value.ref (adK i) :: cS E As).toArray U := by
    have := V.call_pre (args' := .ref (NUL + (i + 2)) :: As) (fun _ _ _ _ => trivial) hc hr hz
    rw [show cS E (.ref (NUL + (i + 2)) :: As) = Value.ref (adK i) :: cS E As by rw [← e1]; rfl] at this
    exact this
  have hstk : cS E st = (cS E As).reverse ++ Value.ref (adK i) :: cS E rest := by
    rw [hst, cS_app, cS_rev, ← e1]; rfl
  refine V.back (mi' := mi') (post := post) (rest := rest) (cc' := cc') (y := y) (args' := []) hR.2.2 hslots k hc hr hl (a := (Value.ref (adK i) :: cS E As).toArray) ?_
  exact va_runV hfix (hS l E) ⟨callB_of n hts goodIn_code rfl rfl rfl (hG.2.1.use hm.2.1 rfl args) (hG.2.1.use hlk rfl args) hm.2.2.1 ⟨hR.1, hR.2.1⟩, hG.2.1.use hv.1 rfl args, hG.2.1.use hv.2 rfl args⟩
    ⟨PcS_blind _ _ _, hrecv, hpre⟩ rfl (by simp [cS, hn]) hl.1 hstk (lv_room (by rw [cS_cat]; exact hcat)) hd hfit
end VSTR
