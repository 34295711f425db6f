/-! ===== the law: its frame, its script, its end ===== -/
abbrev miL_law : Mi := (RL, 4, ret, room_1, "law")
/-- what the law's frame knows: its script lies at b; special reference 1 is b -/
def ZL (b L : Nat) (xs : Nat → Int32) : Zt :=
  (fun E s args => args = #[.ref b] ∧ E.2.2.2 1 = some b ∧ va_X b L xs s s.heap ∧ b < s.heap.size, fun _ s args below => lw_Z below args s)
theorem SLT_130 : SLT 130 = 29941 := by decide +kernel
theorem SLT_0 : SLT 0 = 0 := by decide +kernel
theorem lg_cmp_self {x : Int64} : lg_cmp x x = 0 := (lg_cmp_eq x x).mpr rfl
section VLAW
variable {b L : Nat} {xs : Nat → Int32} {pc : Nat} {ls st : List Value} {h : HP}
theorem V.aload_x {f : Fin 4} (hd : decode cL_law pc = .ok (.aload_n f, 1)) (hf : (f : Nat) = 0) (hx : ls[0]? = some (.ref (NUL + 1))) (k : V cL_law miL_law (ZL b L xs) 0 (pc + 1) ls (.ref (NUL + 1) :: st) h) : V cL_law miL_law (ZL b L xs) 0 pc ls st h := by
  intro p l e s m args below meth c E H locs la hc hr hl
  obtain ⟨z1, z2, z3, z4⟩ := hc.2.2.2.2.2.2.2.2.2
  have e1 := cr_sp (E := E) (j := 1) (by omega) z2
  have g := lv_get hl hx (by simp)
  rw [e1] at g
  have kk := k p l e s m args below meth c E H locs la hc hr hl
  rw [show cS E (.ref (NUL + 1) :: st) = .ref b :: cS E st by rw [← e1]; rfl] at kk
  exact lv_aload_n hc.1 hc.2.1 hd hf g kk
theorem V.slen (hd : decode cL_law pc = .ok (.arraylength, 1)) (k : V cL_law miL_law (ZL b L xs) 0 (pc + 1) ls (.int (nI L) :: st) h) : V cL_law miL_law (ZL b L xs) 0 pc ls (.ref (NUL + 1) :: st) h := by
  intro p l e s m args below meth c E H locs la hc hr hl
  obtain ⟨z1, z2, z3, z4⟩ := hc.2.2.2.2.2.2.2.2.2
  have hsz : s.heap.size = eb E + 0 := hc.2.2.2.2.2.2.2.2.1
  rw [show cS E (.ref (NUL + 1) :: st) = .ref b :: cS E st by rw [← cr_sp (E := E) (j := 1) (by omega) z2]; rfl]
  exact va_slen hc.1 hc.2.1 z3 z4 (A := fun q => eb E ≤ q) (Nat.not_le.mpr (by omega)) hr.2.1 hd (k p l e s m args below meth c E H locs la hc hr hl)
theorem V.sld {i : Nat} (hd : decode cL_law pc = .ok (.iaload, 1)) (hi : i < L) (hL : L ≤ 3072) (k : V cL_law miL_law (ZL b L xs) 0 (pc + 1) ls (.int (xs i) :: st) h) : V cL_law miL_law (ZL b L xs) 0 pc ls (.int (nI i) :: .ref (NUL + 1) :: st) h := by
  intro p l e s m args below meth c E H locs la hc hr hl
  obtain ⟨z1, z2, z3, z4⟩ := hc.2.2.2.2.2.2.2.2.2
  have hsz : s.heap.size = eb E + 0 := hc.2.2.2.2.2.2.2.2.1
  rw [show cS E (.int (nI i) :: .ref (NUL + 1) :: st) = .int (nI i) :: .ref b :: cS E st by rw [← cr_sp (E := E) (j := 1) (by omega) z2]; rfl]
  refine va_sld hc.1 hc.2.1 z3 z4 (A := fun q => eb E ≤ q) (Nat.not_le.mpr (by omega)) hr.2.1 (vp_in_nI hi (by omega)) hd ?_
  rw [nI_clamp (by omega)]
  exact k p l e s m args below meth c E H locs la hc hr hl
theorem V.lend (hd : decode cL_law pc = .ok (.ireturn, 1)) (n0 : h.1 = 130) : V cL_law miL_law (ZL b L xs) 0 pc ls [.int 1] h := by
  intro p l e s m args below meth c E H locs la hc hr hl
  obtain ⟨z1, z2, z3, z4⟩ := hc.2.2.2.2.2.2.2.2.2
  have hsz : s.heap.size = eb E + 0 := hc.2.2.2.2.2.2.2.2.1
  subst z1
  refine va_forget (fun q hq => ?_) ?_
  · have h9 : eb E ≤ q.base := hr.2.1.2.2 q hq
    omega
  · rw [n0, SLT_130, SLT_0]
    show W p l e room_1 s m _ below meth c H [] 130 29941 _ _
    exact lw_ret hc.1 hc.2.1 hc.2.2.2.2.2.1 hc.2.2.2.2.1 hd
/-- one int of the script, i places on, onto the stack -/
theorem V.larg {i j : Nat} {n : Int} (d0 : decode cL_law pc = .ok (.aload_n 0, 1)) (d1 : decode cL_law (pc + 1) = .ok (.iload_n 3, 1)) (d2 : decode cL_law (pc + 1 + 1) = .ok (.iconst n, 1)) (d3 : decode cL_law (pc + 1 + 1 + 1) = .ok (.iadd, 1)) (d4 : decode cL_law (pc + 1 + 1 + 1 + 1) = .ok (.iaload, 1)) (hn : Int32.ofInt n = nI j) (hL : L ≤ 3072) (hi : i + j < L)
    (k : V cL_law miL_law (ZL b L xs) 0 (pc + 1 + 1 + 1 + 1 + 1) [.ref (NUL + 1), .ref 0, .ref 113, .int (nI i)] (.int (xs (i + j)) :: st) h) : V cL_law miL_law (ZL b L xs) 0 pc [.ref (NUL + 1), .ref 0, .ref 113, .int (nI i)] st h := by
  refine V.aload_x d0 rfl rfl ?_
  refine V.iload_n d1 rfl rfl ?_
  refine V.iconst d2 hn ?_
  refine V.iadd d3 ?_
  rw [nI_add]
  exact V.sld d4 hi hL k
/-- a call of the class or of the reference, which makes nothing -/
theorem V.lcall {y : MethodName} {cc' : ByteArray} {mi' : Mi} {idx a n ci z : Nat} {As rest : List Value} {post : Option Value → HP → Prop} (ly : Lay h) (hd : decode cL_law pc = .ok (.invokevirtual idx, 3)) (hlk : MLk RL idx y) (hm : MOK y cc' mi' n) (hv : MOKv y)
    (hs : SHL[a]? = some (0, ci, z)) (hcl : ∀ q, wCl[ci]? = some q → q.1 = y.cls) (hci : ci < 11) (hS : Spec y cc' mi' (.ref a :: As) h post) (hst : st = As.reverse ++ .ref a :: rest) (hn : As.length = n) (hR : mi'.2.2.2.1.frames + 1 ≤ 13 ∧ 8 + (mi'.2.1 + 11) + mi'.2.2.2.1.locals ≤ 492) (hz : mi'.2.2.2.1.cells = 0 ∧ mi'.2.2.2.1.slots = 0)
    (hcat : (rest.map fun v => v.category).sum ≤ 8) (k : ∀ (v : Option Value) (h' : HP), post v h' → V cL_law miL_law (ZL b L xs) 0 (pc + 3) ls (v.toList ++ rest) h') : V cL_law miL_law (ZL b L xs) 0 pc ls st h :=
  V.callV hd hlk hm hv hs hcl hci (Or.inr (by rw [ly.1]; exact SHL_lt hs)) hS hst hn ⟨hR.1, hR.2, fun h9 => absurd h9 (by decide)⟩ hcat
    (Or.inr ⟨⟨by rw [ly.1, hz.1]; decide, by rw [ly.1, hz.2, SLT_130, SLT_0]; decide⟩, by rw [hz.1, hz.2]; rfl⟩) k
/-- the loop's head: on, or the end -/
theorem law_head {i : Nat} (hL : L ≤ 3072) (hi : i ≤ 4000) (n0 : h.1 = 130) (k : i + 6 ≤ L → V cL_law miL_law (ZL b L xs) 0 27 [.ref (NUL + 1), .ref 0, .ref 113, .int (nI i)] [] h) : V cL_law miL_law (ZL b L xs) 0 18 [.ref (NUL + 1), .ref 0, .ref 113, .int (nI i)] [] h := by
  refine V.iload_n dL_law_18 rfl rfl ?_
  refine V.aload_x dL_law_19 rfl rfl ?_
  refine V.slen dL_law_20 ?_
  refine V.bipush (v := nI 6) dL_law_21 rfl ?_
  refine V.isub dL_law_23 ?_
  have e : (nI L - nI 6).toInt = (L : Int) - 6 := sbI (by omega) (by omega)
  have e2 : (nI i).toInt = (i : Int) := nI_toInt (by omega)
  refine V.icmp_gt (tgt := 1898) dL_law_24 (by decide) (fun _ => ?_) (fun q => ?_)
  · refine V.iconst (v := 1) dL_law_1898 rfl ?_
    exact V.lend dL_law_1899 n0
  · refine k ?_
    have q1 : ¬ ((L : Int) - 6 < i) := fun z => q (Int32.lt_iff_toInt_lt.mpr (by rw [e, e2]; exact z))
    omega
theorem and63 (x : Int32) : ∃ k, k < 64 ∧ x &&& 63 = nI k := by
  have h1 : (x &&& 63).toBitVec.toNat ≤ 63 := by
    rw [Int32.toBitVec_and, BitVec.toNat_and]
    exact Nat.and_le_right
  refine ⟨(x &&& 63).toBitVec.toNat, by omega, ?_⟩
  have h2 : (x &&& 63).toInt = ((x &&& 63).toBitVec.toNat : Int) := BitVec.toInt_eq_toNat_of_lt (by omega)
  have h3 := nI_toNat (x := x &&& 63) (by omega)
  rw [h2] at h3
  exact h3
end VLAW
