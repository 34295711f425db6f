/-! ===== the law's entry: what its tables and its start say ===== -/
def nw : List Cond := flatC (Jvm.Cond.and given_1 narrow_1)
def tmS (i : Nat) : Term := Term.string (sTx i).1 (sTx i).2.1
theorem nw_ex : ∀ i, i < 2 → nw[9 + 118 * i]? = some (Cond.exactly (tmS i) "java/lang/String") := by decide +kernel
theorem nw_co : ∀ i, i < 2 → nw[10 + 118 * i]? = some (Cond.eq (.field (tmS i) "java/lang/String" "coder" "B") (.int 0)) := by decide +kernel
theorem nw_ar : ∀ i, i < 2 → nw[11 + 118 * i]? = some (Cond.arrayOf (.field (tmS i) "java/lang/String" "value" "[B") .byte) := by decide +kernel
theorem nw_le : ∀ i, i < 2 → nw[12 + 118 * i]? = some (Cond.eq (.length (.field (tmS i) "java/lang/String" "value" "[B")) (.int (Int32.ofNat (SLEN.getD i 0)))) := by decide +kernel
theorem nw_el : ∀ i, i < 2 → ∀ j, j < SLEN.getD i 0 → nw[13 + 118 * i + j]? = some (Cond.eq (.elem (.field (tmS i) "java/lang/String" "value" "[B") (.int (Int32.ofNat j))) (.int ((SBYT.getD i []).getD j 0))) := by decide +kernel
theorem nw_ne : nw[247]? = some (Cond.not (Cond.eq (tmS 0) (tmS 1))) := by decide +kernel
theorem nw_cs : nw[4]? = some (Cond.eq (.static "java/lang/String" "COMPACT_STRINGS" "Z") (.int 1)) := by decide +kernel
theorem nw_fm : nw[5]? = some (Cond.isRef (.static "jdk/internal/util/Preconditions" "SIOOBE_FORMATTER" "Ljava/util/function/BiFunction;")) := by decide +kernel
theorem lw_s0 : Cond.stringRef (sTx 0).1 (sTx 0).2.1 (sTx 0).2.2 ∈ lw_tbl := lw1 (List.mem_of_getElem? (i := 54) (by decide +kernel))
theorem lw_s1 : Cond.stringRef (sTx 1).1 (sTx 1).2.1 (sTx 1).2.2 ∈ lw_tbl := lw7 (List.mem_of_getElem? (i := 148) (by decide +kernel))
theorem lw_st0 : Cond.initialized "java/lang/String" ∈ lw_tbl := lw1 (List.mem_of_getElem? (i := 4) (by decide +kernel))
theorem lw_st1 : Cond.initialized "jdk/internal/util/Preconditions" ∈ lw_tbl := lw1 (List.mem_of_getElem? (i := 6) (by decide +kernel))
theorem lw_st2 : Cond.laysStatic "java/lang/String" "COMPACT_STRINGS" "Z" ∈ lw_tbl := lw1 (List.mem_of_getElem? (i := 64) (by decide +kernel))
theorem lw_st3 : Cond.laysStatic "jdk/internal/util/Preconditions" "SIOOBE_FORMATTER" "Ljava/util/function/BiFunction;" ∈ lw_tbl := lw1 (List.mem_of_getElem? (i := 80) (by decide +kernel))
theorem cl_ok : ∀ {ci : Nat} {q : vw_C}, wCl[ci]? = some q → ClOK ci q
  | 0, _, h => by cases h; exact cok_X0
  | 1, _, h => by cases h; exact cok_X1
  | 2, _, h => by cases h; exact cok_X2
  | 3, _, h => by cases h; exact cok_X3
  | 4, _, h => by cases h; exact cok_X4
  | 5, _, h => by cases h; exact cok_X5
  | 6, _, h => by cases h; exact cok_X7
  | 7, _, h => by cases h; exact cok_X8
  | 8, _, h => by cases h; exact cok_X9
  | 9, _, h => by cases h; exact cok_X11
  | 10, _, h => by cases h; exact cok_X12
  | n + 11, _, h => absurd (List.getElem?_eq_some_iff.mp h).1 (by show ¬ n + 11 < 11; omega)
/-- an array class of ints, longs, bytes, shorts -/
theorem arr_of {s : State} {args : Array Value} {ty : FieldType} (h : (Cond.arrayClass ty).before args s = true) : ∃ c : ClassId, ArrOfT s c ty ∧ s.vm.findClass ("[" ++ ty.toString) = some c := by
  obtain ⟨c, k, comp, h1, h2, h3⟩ := Cond.arrayClass_spec h
  exact ⟨c, fun n z => ⟨fun k h => (by cases h), k, h2, comp, h3⟩, h1⟩
theorem law_K {s : State} {args : Array Value} (hts : ∀ w ∈ lw_tbl, w.before args s = true) : ∃ (D : va_G) (ar : Nat → ClassId), va_K D wCl [(ar 0, .int), (ar 1, .long), (ar 2, .byte), (ar 3, .short), (ar 4, .object "WindowHill$Town")] s := by
  have hK0 : ∀ ci : Nat, ∃ q : ClassId × (Nat → Nat), ∀ x, wCl[ci]? = some x → u_Kn s x.1 x.2.1 x.2.2 q.1 q.2 := by
    intro ci
    by_cases hci : ci < 11
    · obtain ⟨x, hx⟩ : ∃ x, wCl[ci]? = some x := ⟨wCl[ci]'(by simpa using hci), List.getElem?_eq_getElem _⟩
      have hok : ClOK ci x := cl_ok hx
      obtain ⟨cC, iS, hk⟩ := u_known (ws := u_ws x.1 x.2.1 x.2.2) (s := s) (args := args) (C := x.1) (T := x.2.1) (N := x.2.2) (n := x.2.2) (fun w hw => hts w (hok.1 w hw)) (fun w hw => hw) (hts _ hok.2.2.2.2.1)
      exact ⟨(cC, iS), fun y hy => by cases hx.symm.trans hy; exact hk⟩
    · exact ⟨(0, fun _ => 0), fun x hx => absurd (List.getElem?_eq_some_iff.mp hx).1 hci⟩
  obtain ⟨ad, had⟩ := Classical.axiomOfChoice hK0
  obtain ⟨a0, p0, q0⟩ := arr_of (hts _ ac_int)
  obtain ⟨a1, p1, q1⟩ := arr_of (hts _ ac_long)
  obtain ⟨a2, p2, q2⟩ := arr_of (hts _ ac_byte)
  obtain ⟨a3, p3, q3⟩ := arr_of (hts _ ac_short)
  obtain ⟨comp, a4, kT, h1, h2, h3, h4, h5⟩ := Cond.arrayOver_spec (hts _ ao_Town)
  refine ⟨(fun k => (ad k).1, fun k => (ad k).2), (fun k => match k with | 0 => a0 | 1 => a1 | 2 => a2 | 3 => a3 | _ => a4), fun c q hq => had c q hq, fun k q hk => ?_⟩
  match k, hk with
  | 0, hk => cases hk; exact ⟨p0, q0⟩
  | 1, hk => cases hk; exact ⟨p1, q1⟩
  | 2, hk => cases hk; exact ⟨p2, q2⟩
  | 3, hk => cases hk; exact ⟨p3, q3⟩
  | 4, hk => cases hk; exact ⟨fun n z => ⟨fun k h => (by cases h), kT, h3, comp, h4⟩, kT, comp, h3, h4, h1, h5⟩
  | n + 5, hk => exact absurd (List.getElem?_eq_some_iff.mp hk).1 (by show ¬ n + 5 < 5; omega)
theorem law_Tab {s : State} {args : Array Value} (hts : ∀ w ∈ lw_tbl, w.before args s = true) : Tab s := by
  intro w hw hk
  rcases wOK_cases hk with hg | hn | ⟨C, rfl⟩
  · exact word_at (State.WarmedH.refl s) (good_of_word hg) (hts w hw)
  · exact va_Nw.of (nest_on hn) (hts w hw)
  · exact va_AO.of (hts _ hw)
theorem law_Gd {b : Nat} {s : State} (hts : ∀ w ∈ lw_tbl, w.before #[Value.ref b] s = true) (hgv : (Jvm.Cond.and given_1 narrow_1).before #[Value.ref b] s = true) : ∃ E : Ev, eb E = s.heap.size ∧ E.2.2.2 1 = some b ∧ Gd E s := by
  have hs : ∀ {i : Nat} {c : Cond}, nw[i]? = some c → c.before #[Value.ref b] s = true := fun h => flat_of_before _ hgv _ (List.mem_of_getElem? h)
  obtain ⟨D, ar, hK⟩ := law_K hts
  have hA : ∀ a : Nat, a < s.heap.size → ¬ (fun q => s.heap.size ≤ q) a := fun a h z => Nat.not_le.mpr h z
  obtain ⟨adK, adV, hS, hE⟩ := vk_Sof (args := #[Value.ref b]) (s := s) (N := 2) (tm := tmS) (len := SLEN) (byt := SBYT) (A := fun q => s.heap.size ≤ q) (fun i hi => by have := (SLEN_at i hi).2.1; omega)
    (fun i hi => hs (nw_ex i hi)) (fun i hi => hs (nw_co i hi)) (fun i hi => hs (nw_ar i hi)) (fun i hi => hs (nw_le i hi)) (fun i hi j hj => hs (nw_el i hi j hj))
    (fun i j hi hj hij => by
      rcases (show i = 0 ∧ j = 1 ∨ i = 1 ∧ j = 0 by omega) with ⟨rfl, rfl⟩ | ⟨rfl, rfl⟩
      · exact Or.inl (hs nw_ne)
      · exact Or.inr (hs nw_ne)) hA
  have Z1 := va_Zof (A := fun q => s.heap.size ≤ q) (hts _ lw_st2) (hts _ lw_st0) (va_eqi (hs nw_cs)) hA
  obtain ⟨v, hv, hr⟩ := Cond.isRef_spec (hs nw_fm)
  obtain ⟨o, ho⟩ : ∃ o, v = va_rf o := by
    cases v with
    | null => exact ⟨none, rfl⟩
    | ref a => exact ⟨some a, rfl⟩
    | _ => simp [Value.isRef] at hr
  have Z2 := va_Zof (A := fun q => s.heap.size ≤ q) (hts _ lw_st3) (hts _ lw_st1) hv hA
  rw [ho] at Z2
  refine ⟨(D, ar, s.heap.size, (fun j => match j with | 1 => some b | 2 => some (adK 0) | 3 => some (adK 1) | 4 => some (adV 0) | 5 => some (adV 1) | 6 => o | _ => none)), rfl, rfl, hK, law_Tab hts, adK, adV, fun i hi => ?_, hS, Z1, Z2⟩
  rcases (show i = 0 ∨ i = 1 by omega) with rfl | rfl
  · exact ⟨rfl, rfl, vk_R.of (hts _ lw_s0) (hE 0 (by decide))⟩
  · exact ⟨rfl, rfl, vk_R.of (hts _ lw_s1) (hE 1 (by decide))⟩
