/-! ===== a row of the new town ===== -/
def oR (X B : Int32) (c : Bool) : Int32 := if c = true then X ||| B else X
theorem oR_b {X B : Int32} {c : Bool} {q : Nat} (hB : ∀ i, i < 32 → bt B i = decide (i = q)) {i : Nat} (hi : i < 32) : bt (oR X B c) i = (bt X i || (c && decide (i = q))) := by
  unfold oR
  cases c
  · rw [if_neg (by decide), Bool.false_and, Bool.or_false]
  · rw [if_pos rfl, b_or, hB i hi, Bool.true_and]
theorem hstep {X2 X3 X4 Y5 Y6 B : Int32} {q : Nat} (hB : ∀ i, i < 32 → bt B i = decide (i = q))
    (h : ∀ i, i < 32 → (bt Y5 i = (bt X2 i && !bt X4 i)) ∧ bt Y6 i = (bt X3 i && bt X4 i))
    (h2 : ∀ i, i < 32 → (bt X2 i = true → i < q) ∧ (bt X3 i = true → bt X2 i = true) ∧ (bt X4 i = true → bt X2 i = true))
    {n l x d m : Bool} (ed : d = (n && !x)) (em : m = (l && x)) (e1 : l = true → n = true) (e2 : x = true → n = true) :
    (∀ i, i < 32 → (bt (oR Y5 B d) i = (bt (oR X2 B n) i && !bt (oR X4 B x) i)) ∧ bt (oR Y6 B m) i = (bt (oR X3 B l) i && bt (oR X4 B x) i)) ∧
    (∀ i, i < 32 → (bt (oR X2 B n) i = true → i < q + 1) ∧ (bt (oR X3 B l) i = true → bt (oR X2 B n) i = true) ∧ (bt (oR X4 B x) i = true → bt (oR X2 B n) i = true)) := by
  have z : ∀ i, i < 32 → i = q → bt X2 i = false ∧ bt X3 i = false ∧ bt X4 i = false := fun i hi e => by
    have a := h2 i hi
    have c2 : bt X2 i = false := by
      cases hq : bt X2 i
      · rfl
      · have := a.1 hq; omega
    refine ⟨c2, ?_, ?_⟩
    · cases hq : bt X3 i
      · rfl
      · have := a.2.1 hq; rw [c2] at this; cases this
    · cases hq : bt X4 i
      · rfl
      · have := a.2.2 hq; rw [c2] at this; cases this
  constructor
  · intro i hi
    rw [oR_b hB hi, oR_b hB hi, oR_b hB hi, oR_b hB hi, oR_b hB hi, (h i hi).1, (h i hi).2]
    by_cases e : i = q
    · obtain ⟨z1, z2, z3⟩ := z i hi e
      rw [z1, z2, z3, decide_eq_true e, ed, em]
      cases n <;> cases l <;> cases x <;> first | exact ⟨rfl, rfl⟩ | exact absurd (e1 rfl) (by decide) | exact absurd (e2 rfl) (by decide)
    · rw [decide_eq_false e]
      simp only [Bool.and_false, Bool.or_false, and_self]
  · intro i hi
    rw [oR_b hB hi, oR_b hB hi, oR_b hB hi]
    have a := h2 i hi
    by_cases e : i = q
    · obtain ⟨z1, z2, z3⟩ := z i hi e
      rw [z1, z2, z3, decide_eq_true e]
      refine ⟨fun _ => by omega, ?_, ?_⟩
      · cases l <;> cases n <;> first | exact fun h => h | exact fun h => absurd h (by decide) | exact fun _ => rfl | exact absurd (e1 rfl) (by decide)
      · cases x <;> cases n <;> first | exact fun h => h | exact fun h => absurd h (by decide) | exact fun _ => rfl | exact absurd (e2 rfl) (by decide)
    · rw [decide_eq_false e]
      simp only [Bool.and_false, Bool.or_false]
      exact ⟨fun h => by have := a.1 h; omega, a.2.1, a.2.2⟩
/-- what a letter says -/
def vN (v : Int32) : Bool := decide (v ≠ 110)
def vL (v : Int32) : Bool := decide (v = 108 ∨ v = 119)
def vX (v : Int32) : Bool := decide (v = 119 ∨ v = 120)
def vD (v : Int32) : Bool := decide (v = 100 ∨ v = 108)
def vM (v : Int32) : Bool := decide (v = 119)
theorem oR_t {X B : Int32} {c : Bool} (h : c = true) : oR X B c = X ||| B := by unfold oR; rw [if_pos h]
theorem oR_f {X B : Int32} {c : Bool} (h : c = false) : oR X B c = X := by unfold oR; rw [if_neg (by rw [h]; decide)]
theorem addHH_c (h : HP) (u : Nat) (B v : Int32) (c j : Nat) : hI (addHH h u B v) c j = if c = u + 1 ∧ j = 4 then oR (hI h (u + 1) 4) B (vN v) else if c = u + 1 ∧ j = 5 then oR (hI h (u + 1) 5) B (vD v) else if c = u + 1 ∧ j = 6 then oR (hI h (u + 1) 6) B (vM v) else if c = u ∧ j = 13 then oR (hI h u 13) B (vL v) else hI h c j := by
  have a1 : ∀ (g : HP) c j, hI (addH1 g u B v) c j = if c = u + 1 ∧ j = 4 then oR (hI g (u + 1) 4) B (vN v) else hI g c j := fun g c j => by
    unfold addH1
    by_cases q : v = 110
    · rw [if_pos q, oR_f (show vN v = false from decide_eq_false (fun z => z q))]
      by_cases z : c = u + 1 ∧ j = 4
      · rw [if_pos z, z.1, z.2]
      · rw [if_neg z]
    · rw [if_neg q, oR_t (show vN v = true from decide_eq_true q), hI_uI]
  have a2 : ∀ (g : HP) c j, hI (addH2 g u B v) c j = if c = u + 1 ∧ j = 5 then oR (hI g (u + 1) 5) B (vD v) else hI g c j := fun g c j => by
    unfold addH2
    by_cases q : v = 100 ∨ v = 108
    · rw [if_pos q, oR_t (show vD v = true from decide_eq_true q), hI_uI]
    · rw [if_neg q, oR_f (show vD v = false from decide_eq_false q)]
      by_cases z : c = u + 1 ∧ j = 5
      · rw [if_pos z, z.1, z.2]
      · rw [if_neg z]
  have a3 : ∀ (g : HP) c j, hI (addH3 g u B v) c j = if c = u + 1 ∧ j = 6 then oR (hI g (u + 1) 6) B (vM v) else hI g c j := fun g c j => by
    unfold addH3
    by_cases q : v = 119
    · rw [if_pos q, oR_t (show vM v = true from decide_eq_true q), hI_uI]
    · rw [if_neg q, oR_f (show vM v = false from decide_eq_false q)]
      by_cases z : c = u + 1 ∧ j = 6
      · rw [if_pos z, z.1, z.2]
      · rw [if_neg z]
  have a4 : ∀ (g : HP) c j, hI (addH4 g u B v) c j = if c = u ∧ j = 13 then oR (hI g u 13) B (vL v) else hI g c j := fun g c j => by
    unfold addH4
    by_cases q : v = 108 ∨ v = 119
    · rw [if_pos q, oR_t (show vL v = true from decide_eq_true q), hI_uI]
    · rw [if_neg q, oR_f (show vL v = false from decide_eq_false q)]
      by_cases z : c = u ∧ j = 13
      · rw [if_pos z, z.1, z.2]
      · rw [if_neg z]
  have nn : ¬ (u = u + 1) := by omega
  unfold addHH
  rw [a4, a3, a3, a2, a2, a2, a1, a1, a1, a1]
  simp only [nn, false_and, if_false, and_true, true_and, Nat.reduceEqDiff, and_false]
  by_cases z4 : c = u + 1 ∧ j = 4
  · rw [if_neg (by omega), if_neg (by omega), if_neg (by omega), if_pos z4, if_pos z4]
  · rw [if_neg z4, if_neg z4]
    by_cases z5 : c = u + 1 ∧ j = 5
    · rw [if_neg (by omega), if_neg (by omega), if_pos z5, if_pos z5]
    · rw [if_neg z5, if_neg z5]
      by_cases z6 : c = u + 1 ∧ j = 6
      · rw [if_neg (by omega), if_pos z6, if_pos z6]
      · rw [if_neg z6, if_neg z6]
/-- the reference's three -/
def rA2 (b : HP) (B v : Int32) : HP := if v = 110 then b else uI b 114 1642 (hI b 114 1642 ||| B)
def rA3 (b : HP) (B v : Int32) : HP := if v = 108 ∨ v = 119 then uI b 114 1643 (hI b 114 1643 ||| B) else b
def rA4 (b : HP) (B v : Int32) : HP := if v = 119 ∨ v = 120 then uI b 114 1644 (hI b 114 1644 ||| B) else b
def rAA (b : HP) (B v : Int32) : HP := rA4 (rA3 (rA2 b B v) B v) B v
theorem rAA_c (b : HP) (B v : Int32) (j : Nat) : hI (rAA b B v) 114 j = if j = 1642 then oR (hI b 114 1642) B (vN v) else if j = 1643 then oR (hI b 114 1643) B (vL v) else if j = 1644 then oR (hI b 114 1644) B (vX v) else hI b 114 j := by
  have a1 : ∀ (g : HP) j, hI (rA2 g B v) 114 j = if j = 1642 then oR (hI g 114 1642) B (vN v) else hI g 114 j := fun g j => by
    unfold rA2
    by_cases q : v = 110
    · rw [if_pos q, oR_f (show vN v = false from decide_eq_false (fun z => z q))]
      by_cases z : j = 1642
      · rw [if_pos z, z]
      · rw [if_neg z]
    · rw [if_neg q, oR_t (show vN v = true from decide_eq_true q), hI_uI]
      simp only [true_and]
  have a2 : ∀ (g : HP) j, hI (rA3 g B v) 114 j = if j = 1643 then oR (hI g 114 1643) B (vL v) else hI g 114 j := fun g j => by
    unfold rA3
    by_cases q : v = 108 ∨ v = 119
    · rw [if_pos q, oR_t (show vL v = true from decide_eq_true q), hI_uI]
      simp only [true_and]
    · rw [if_neg q, oR_f (show vL v = false from decide_eq_false q)]
      by_cases z : j = 1643
      · rw [if_pos z, z]
      · rw [if_neg z]
  have a3 : ∀ (g : HP) j, hI (rA4 g B v) 114 j = if j = 1644 then oR (hI g 114 1644) B (vX v) else hI g 114 j := fun g j => by
    unfold rA4
    by_cases q : v = 119 ∨ v = 120
    · rw [if_pos q, oR_t (show vX v = true from decide_eq_true q), hI_uI]
      simp only [true_and]
    · rw [if_neg q, oR_f (show vX v = false from decide_eq_false q)]
      by_cases z : j = 1644
      · rw [if_pos z, z]
      · rw [if_neg z]
  unfold rAA
  rw [a3, a2, a2, a1, a1, a1]
  by_cases z4 : j = 1642
  · rw [if_neg (by omega), if_neg (by omega), if_pos z4, if_pos z4]
  · rw [if_neg z4, if_neg z4]
    by_cases z5 : j = 1643
    · rw [if_neg (by omega), if_pos z5, if_pos z5, if_neg (by decide)]
    · rw [if_neg z5, if_neg z5]
      by_cases z6 : j = 1644
      · rw [if_pos z6, if_pos z6, if_neg (by decide), if_neg (by decide)]
      · rw [if_neg z6, if_neg z6]
theorem rAA_W (b : HP) (B v : Int32) : FW b (rAA b B v) ∧ hI (rAA b B v) 113 = hI b 113 ∧ hI (rAA b B v) 120 = hI b 120 := by
  have s : ∀ (g : HP) (j : Nat) (x : Int32), 1640 ≤ j → FW g (uI g 114 j x) ∧ hI (uI g 114 j x) 113 = hI g 113 ∧ hI (uI g 114 j x) 120 = hI g 120 := fun g j x hj => ⟨(FW.refl g).u4 x hj, hI_uI_n' (by decide), hI_uI_n' (by decide)⟩
  have r : ∀ g : HP, FW g g ∧ hI g 113 = hI g 113 ∧ hI g 120 = hI g 120 := fun g => ⟨FW.refl g, rfl, rfl⟩
  have t : ∀ {x y z : HP}, (FW x y ∧ hI y 113 = hI x 113 ∧ hI y 120 = hI x 120) → (FW y z ∧ hI z 113 = hI y 113 ∧ hI z 120 = hI y 120) → (FW x z ∧ hI z 113 = hI x 113 ∧ hI z 120 = hI x 120) := fun p q => ⟨p.1.trans q.1, q.2.1.trans p.2.1, q.2.2.trans p.2.2⟩
  unfold rAA
  refine t (y := rA3 (rA2 b B v) B v) (t (y := rA2 b B v) ?_ ?_) ?_
  · unfold rA2; split
    · exact r _
    · exact s _ _ _ (by decide)
  · unfold rA3; split
    · exact s _ _ _ (by decide)
    · exact r _
  · unfold rA4; split
    · exact s _ _ _ (by decide)
    · exact r _
theorem let_v {v : Int32} (h : isLet v) : vD v = (vN v && !vX v) ∧ vM v = (vL v && vX v) ∧ (vL v = true → vN v = true) ∧ (vX v = true → vN v = true) := by
  rcases h with h | h | h | h | h <;> rw [h] <;> decide
theorem HH.step {a b : HP} {u w r k : Nat} (hu : u = 79 ∨ u = 96) (H : HH a b u w r k) (hk : k < w) (hr : r < 6) {v B : Int32} (hv : isLet v) (hB : ∀ i, i < 32 → bt B i = decide (i = w * r + k)) : HH (addHH a u B v) (rAA b B v) u w r (k + 1) := by
  obtain ⟨⟨h1, h2, h3, h4⟩, ⟨h5, h6, h7⟩, ⟨h8, h9⟩, h10, ⟨h11, h12⟩, h13, h14⟩ := H
  obtain ⟨v1, v2, v3, v4⟩ := let_v hv
  have q := hstep hB h13 h14 v1 v2 v3 v4
  have o : ∀ j, j ≠ 4 → j ≠ 5 → j ≠ 6 → hI (addHH a u B v) (u + 1) j = hI a (u + 1) j := fun j z1 z2 z3 => by
    rw [addHH_c, if_neg (by omega), if_neg (by omega), if_neg (by omega), if_neg (by omega)]
  have p : ∀ j, j ≠ 1642 → j ≠ 1643 → j ≠ 1644 → hI (rAA b B v) 114 j = hI b 114 j := fun j z1 z2 z3 => by
    rw [rAA_c, if_neg z1, if_neg z2, if_neg z3]
  have c4 : hI (addHH a u B v) (u + 1) 4 = oR (hI a (u + 1) 4) B (vN v) := by rw [addHH_c, if_pos ⟨rfl, rfl⟩]
  have c5 : hI (addHH a u B v) (u + 1) 5 = oR (hI a (u + 1) 5) B (vD v) := by rw [addHH_c, if_neg (by omega), if_pos ⟨rfl, rfl⟩]
  have c6 : hI (addHH a u B v) (u + 1) 6 = oR (hI a (u + 1) 6) B (vM v) := by rw [addHH_c, if_neg (by omega), if_neg (by omega), if_pos ⟨rfl, rfl⟩]
  have c13 : hI (addHH a u B v) u 13 = oR (hI a u 13) B (vL v) := by rw [addHH_c, if_neg (by omega), if_neg (by omega), if_neg (by omega), if_pos ⟨rfl, rfl⟩]
  have d2 : hI (rAA b B v) 114 1642 = oR (hI b 114 1642) B (vN v) := by rw [rAA_c, if_pos rfl]
  have d3 : hI (rAA b B v) 114 1643 = oR (hI b 114 1643) B (vL v) := by rw [rAA_c, if_neg (by decide), if_pos rfl]
  have d4 : hI (rAA b B v) 114 1644 = oR (hI b 114 1644) B (vX v) := by rw [rAA_c, if_neg (by decide), if_neg (by decide), if_pos rfl]
  unfold HH
  rw [o 0 (by decide) (by decide) (by decide), o 1 (by decide) (by decide) (by decide), o 2 (by decide) (by decide) (by decide), o 3 (by decide) (by decide) (by decide), o 7 (by decide) (by decide) (by decide), o 8 (by decide) (by decide) (by decide), c4, c5, c6, c13, d2, d3, d4, p 1640 (by decide) (by decide) (by decide), p 1641 (by decide) (by decide) (by decide), p 1649 (by decide) (by decide) (by decide), h11, h12]
  exact ⟨⟨h1, h2, h3, h4⟩, ⟨h5, h6, h7⟩, ⟨h8, h9⟩, h10, ⟨rfl, rfl⟩, q.1, q.2⟩
theorem HH.row {a b : HP} {u w r : Nat} (hu : u = 79 ∨ u = 96) (H : HH a b u w r w) (hr : r < 6) : HH (rI a (u + 1) (addRowF (hI a (u + 1)))) (uI b 114 1641 (hI b 114 1641 + 1)) u w (r + 1) 0 := by
  obtain ⟨⟨h1, h2, h3, h4⟩, ⟨h5, h6, h7⟩, ⟨h8, h9⟩, h10, ⟨h11, h12⟩, h13, h14⟩ := H
  have hwr : w * (r + 1) = w * r + w := Nat.mul_succ w r
  have hw30 : w * r + w ≤ 30 := by
    have : w * (r + 1) ≤ 5 * 6 := Nat.mul_le_mul h2 (by omega)
    omega
  have p : ∀ j, j ≠ 1641 → hI (uI b 114 1641 (hI b 114 1641 + 1)) 114 j = hI b 114 j := fun j z1 => hI_uI_n (by omega)
  have c : hI (rI a (u + 1) (addRowF (hI a (u + 1)))) (u + 1) = addRowF (hI a (u + 1)) := hI_rI_s _ _ _
  have c0 : hI (rI a (u + 1) (addRowF (hI a (u + 1)))) u = hI a u := hI_rI_n _ _ (by omega)
  have o : ∀ j, j ≠ 7 → j ≠ 8 → j ≠ 1 → j ≠ 3 → addRowF (hI a (u + 1)) j = hI a (u + 1) j := fun j z1 z2 z3 z4 => by
    unfold addRowF; rw [if_neg z1, if_neg z2, if_neg z3, if_neg z4]
  have f0 : hI a (u + 1) 1 * hI a (u + 1) 0 = nI (w * r) := by rw [h7, h4, nI_mul, Nat.mul_comm]
  have b7 : ∀ i, i < 32 → bt (shl 1 (nI (w * r))) i = decide (i = w * r) := fun i hi => b_bit (by omega) hi
  have b8 : ∀ i, i < 32 → bt (shl 1 (nI (w * r + w - 1))) i = decide (i = w * r + w - 1) := fun i hi => b_bit (by omega) hi
  unfold HH
  rw [c, c0, p 1640 (by decide), p 1642 (by decide), p 1643 (by decide), p 1644 (by decide), p 1649 (by decide), hI_uI_s, o 0 (by decide) (by decide) (by decide) (by decide), o 2 (by decide) (by decide) (by decide) (by decide), o 4 (by decide) (by decide) (by decide) (by decide), o 5 (by decide) (by decide) (by decide) (by decide), o 6 (by decide) (by decide) (by decide) (by decide)]
  refine ⟨⟨h1, h2, h3, h4⟩, ⟨by omega, by rw [h6, nI_1], ?_⟩, ⟨h8, h9⟩, fun i hi => ⟨?_, ?_, ?_⟩, ⟨h11, h12⟩, h13, fun i hi => ?_⟩
  · show hI a (u + 1) 1 + 1 = _
    rw [h7, nI_1]
  · show bt (shl 1 ((hI a (u + 1) 1 + 1) * hI a (u + 1) 0) - 1) i = _
    rw [h7, nI_1, h4, nI_mul, Nat.mul_comm]
    exact mask_b _ (by omega) i hi
  · show bt (hI a (u + 1) 7 ||| shl 1 (hI a (u + 1) 1 * hI a (u + 1) 0)) i = _
    rw [b_or, f0, b7 i hi, (h10 i hi).2.1, hwr, ← Bool.decide_or]
    refine decide_eq_decide.mpr ⟨fun z => ?_, fun z => ?_⟩
    · rcases z with z | z
      · exact ⟨by omega, z.2⟩
      · rw [z]; exact ⟨by omega, Nat.mul_mod_right w r⟩
    · by_cases y : i < w * r
      · exact Or.inl ⟨y, z.2⟩
      · right
        obtain ⟨t, rfl⟩ : ∃ t, i = w * r + t := ⟨i - w * r, by omega⟩
        rw [Nat.mul_add_mod, Nat.mod_eq_of_lt (by omega)] at z
        omega
  · show bt (hI a (u + 1) 8 ||| shl 1 (hI a (u + 1) 1 * hI a (u + 1) 0 + hI a (u + 1) 0 - 1)) i = _
    rw [b_or, f0, h4, nI_add, show nI (w * r + w) - 1 = nI (w * r + w - 1) from nI_sub (a := w * r + w) (b := 1) (by omega), b8 i hi, (h10 i hi).2.2, hwr, ← Bool.decide_or]
    refine decide_eq_decide.mpr ⟨fun z => ?_, fun z => ?_⟩
    · rcases z with z | z
      · exact ⟨by omega, z.2⟩
      · rw [z]
        refine ⟨by omega, ?_⟩
        rw [show w * r + w - 1 = w * r + (w - 1) by omega, Nat.mul_add_mod, Nat.mod_eq_of_lt (by omega)]
    · by_cases y : i < w * r
      · exact Or.inl ⟨y, z.2⟩
      · right
        obtain ⟨t, rfl⟩ : ∃ t, i = w * r + t := ⟨i - w * r, by omega⟩
        rw [Nat.mul_add_mod, Nat.mod_eq_of_lt (by omega)] at z
        omega
  · rw [hwr]
    exact ⟨fun z => by have := (h14 i hi).1 z; omega, (h14 i hi).2⟩
