/-! ===== what a method does, said by a function of the heap: its words ===== -/
def ltv {α β : Type} (v : α) (k : α → β) : β := k v
def gdv {β : Type} (c : Prop) [Decidable c] (k : Option β) : Option β := if c then k else none
noncomputable def gdc {β : Type} (c : Prop) (k : Option β) : Option β := @ite _ c (Classical.propDecidable c) k none
def bd1 {α β : Type} (x : Option α) (k : α → Option β) : Option β := match x with
  | some a => k a
  | none => none
def bd2 {α β : Type} (x : Option (α × HP)) (k : α → HP → Option β) : Option β := match x with
  | some a => k a.1 a.2
  | none => none
theorem lt_el {α β : Type} {v : α} {k : α → β} {y : β} (h : ltv v k = y) (x : α) (e : x = v) : k x = y := by rw [e]; exact h
theorem gd_el {β : Type} {c : Prop} [Decidable c] {k : Option β} {y : β} (h : gdv c k = some y) : c ∧ k = some y := by
  unfold gdv at h
  by_cases q : c
  · rw [if_pos q] at h; exact ⟨q, h⟩
  · rw [if_neg q] at h; cases h
theorem gdc_el {β : Type} {c : Prop} {k : Option β} {y : β} (h : gdc c k = some y) : c ∧ k = some y := by
  unfold gdc at h
  by_cases q : c
  · rw [if_pos q] at h; exact ⟨q, h⟩
  · rw [if_neg q] at h; cases h
theorem gdv_t {β : Type} {c : Prop} [Decidable c] (hc : c) (k : Option β) : gdv c k = k := if_pos hc
theorem gdc_t {β : Type} {c : Prop} (hc : c) (k : Option β) : gdc c k = k := by unfold gdc; exact if_pos hc
theorem bd_el {α β : Type} {x : Option α} {k : α → Option β} {y : β} (h : bd1 x k = some y) : ∃ a, x = some a ∧ k a = some y := by
  cases x with
  | none => cases h
  | some a => exact ⟨a, rfl, h⟩
theorem bd2_el {α β : Type} {x : Option (α × HP)} {k : α → HP → Option β} {y : β} (h : bd2 x k = some y) : ∃ a g, x = some (a, g) ∧ k a g = some y := by
  cases x with
  | none => cases h
  | some a => exact ⟨a.1, a.2, rfl, h⟩
theorem ite_p {c : Prop} [Decidable c] {α : Type} {a b y : α} (h : (if c then a else b) = y) (hc : c) : a = y := by rw [if_pos hc] at h; exact h
theorem ite_n {c : Prop} [Decidable c] {α : Type} {a b y : α} (h : (if c then a else b) = y) (hc : ¬ c) : b = y := by rw [if_neg hc] at h; exact h
def SR (h g : HP) : Prop := g.1 = h.1 ∧ hR g = hR h
theorem SR.refl (h : HP) : SR h h := ⟨rfl, rfl⟩
theorem SR.trans {h g k : HP} (a : SR h g) (b : SR g k) : SR h k := ⟨b.1.trans a.1, b.2.trans a.2⟩
theorem SR.I {h g : HP} (s : SR h g) (a j : Nat) (x : Int32) : SR h (uI g a j x) := ⟨s.1, s.2⟩
theorem SR.L {h g : HP} (s : SR h g) (a j : Nat) (x : Int64) : SR h (uL g a j x) := ⟨s.1, s.2⟩
theorem SR.ly {h g : HP} (s : SR h g) (l : Lay h) : Lay g := l.keep s.1 s.2
theorem SR.pr {h g : HP} (s : SR h g) {a j t : Nat} (e : hR h a j = t) : hR g a j = t := by rw [s.2]; exact e
abbrev is01 (v : Int32) : Prop := v = 0 ∨ v = 1
theorem narB {v : Int32} (h : is01 v) : narrow .boolean (.int v) = .int v := by rcases h with rfl | rfl <;> rfl
theorem putB {v : Int32} (h : is01 v) : narrow .boolean (.int v) = .int v ∧ fits .boolean (.int v) = true := by rcases h with rfl | rfl <;> exact ⟨rfl, rfl⟩
theorem vp_lit {i : Int32} {n : Nat} (h : decide (i < 0 ∨ n ≤ i.toNatClampNeg) = false) : vp_in i n := of_decide_eq_false h
def gdi {β : Type} (i : Int32) (n : Nat) (k : Option β) : Option β := if i < 0 ∨ n ≤ i.toNatClampNeg then none else k
theorem gdi_el {β : Type} {i : Int32} {n : Nat} {k : Option β} {y : β} (h : gdi i n k = some y) : vp_in i n ∧ k = some y := by
  unfold gdi at h
  by_cases q : i < 0 ∨ n ≤ i.toNatClampNeg
  · rw [if_pos q] at h; cases h
  · rw [if_neg q] at h; exact ⟨q, h⟩
theorem gdi_t {β : Type} {i : Int32} {n : Nat} (hi : vp_in i n) (k : Option β) : gdi i n k = k := if_neg hi
/-- how many rounds a loop may take, far above what any takes -/
def FU : Nat := 1000000
abbrev ZI (h0 : HP) (mi : Mi) (r : Int32) (h2 : HP) : Zt := ZM h0 mi.2.2.2.1 (pI fun r' h' => (r' = r ∧ h' = h2) ∧ SR h0 h2)
abbrev ZJ (h0 : HP) (mi : Mi) (r : Int64) (h2 : HP) : Zt := ZM h0 mi.2.2.2.1 (pL fun r' h' => (r' = r ∧ h' = h2) ∧ SR h0 h2)
abbrev ZV (h0 : HP) (mi : Mi) (h2 : HP) : Zt := ZM h0 mi.2.2.2.1 (pV fun h' => h' = h2 ∧ SR h0 h2)
theorem ret_I {x r : Int32} {h0 h h2 : HP} (e : (some (x, h) : Option (Int32 × HP)) = some (r, h2)) (s : SR h0 h) : (x = r ∧ h = h2) ∧ SR h0 h2 := by cases e; exact ⟨⟨rfl, rfl⟩, s⟩
theorem ret_L {x r : Int64} {h0 h h2 : HP} (e : (some (x, h) : Option (Int64 × HP)) = some (r, h2)) (s : SR h0 h) : (x = r ∧ h = h2) ∧ SR h0 h2 := by cases e; exact ⟨⟨rfl, rfl⟩, s⟩
theorem ret_V {h0 h h2 : HP} (e : (some h : Option HP) = some h2) (s : SR h0 h) : h = h2 ∧ SR h0 h2 := by cases e; exact ⟨rfl, s⟩
theorem post_I {Q : Int32 → HP → Prop} {h h2 : HP} {r : Int32} (k : SR h h2 → Q r h2) : ∀ (r' : Int32) (h' : HP), ((r' = r ∧ h' = h2) ∧ SR h h2) → Q r' h' := by
  rintro r' h' ⟨⟨rfl, rfl⟩, s⟩; exact k s
theorem post_L {Q : Int64 → HP → Prop} {h h2 : HP} {r : Int64} (k : SR h h2 → Q r h2) : ∀ (r' : Int64) (h' : HP), ((r' = r ∧ h' = h2) ∧ SR h h2) → Q r' h' := by
  rintro r' h' ⟨⟨rfl, rfl⟩, s⟩; exact k s
theorem post_V {Q : HP → Prop} {h h2 : HP} (k : SR h h2 → Q h2) : ∀ (h' : HP), (h' = h2 ∧ SR h h2) → Q h' := by
  rintro h' ⟨rfl, s⟩; exact k s
def f_J0_length_8abf5 (h : HP) : Option (Int32 × HP) := some (nI (sBy 1).length, h)
def f_J0_charAt_5068e (h : HP) (k : Int32) : Option (Int32 × HP) := gdi k (sBy 1).length <| some ((sBy 1).getD k.toNatClampNeg 0, h)
noncomputable def f_X12_plain_2   : Nat → Int32 → Int32 → HP → Option HP
  | 0, _, _, _ => none
  | n + 1, l1, l2, h =>
    if 410 ≤ l2 then
    (gdi (l1 + 10) 2460 <|
    ltv (uI h 114 (Int32.toNatClampNeg (l1 + 10)) (-1)) fun g3 =>
    gdi (l1 + 11) 2460 <|
    ltv (uI g3 114 (Int32.toNatClampNeg (l1 + 11)) (-1)) fun g5 =>
    some g5)
    else
    gdi (l1 + l2) 2460 <|
    ltv (uI h 114 (Int32.toNatClampNeg (l1 + l2)) 0) fun g7 =>
    ltv (l2 + 1 : Int32) fun x8 =>
    f_X12_plain_2 n l1 x8 g7
noncomputable def f_X12_plain (h : HP)  (a1 : Int32) : Option HP :=
  f_X12_plain_2 FU a1 0 h
noncomputable def f_X12_status (h : HP)   : Option (Int32 × HP) :=
  some ((hI h 113 2), h)
noncomputable def f_X12_top (h : HP)   : Option (Int64 × HP) :=
  some ((hL h 113 3), h)
noncomputable def f_X12_bottom (h : HP)   : Option (Int64 × HP) :=
  some ((hL h 113 4), h)
noncomputable def f_X12_is (h : HP)  (a1 : Int32) : Option (Int32 × HP) :=
  ltv (uI h 113 2 a1) fun g1 =>
  if a1 = (0 : Int32) then
  (some (1, g1))
  else
  some (0, g1)
noncomputable def f_X12_refuse (h : HP)  (a1 : Int32) : Option (Int32 × HP) :=
  ltv (uI h 113 2 a1) fun g1 =>
  some ((-1), g1)
noncomputable def f_X12_gives (h : HP)  (a1 : Int32) : Option (Int32 × HP) :=
  ltv (uI h 113 2 0) fun g1 =>
  some (a1, g1)
noncomputable def f_X12_givesLong (h : HP)  (a1 : Int64) : Option (Int64 × HP) :=
  ltv (uI h 113 2 0) fun g1 =>
  some (a1, g1)
noncomputable def f_X12_orNone (h : HP)  (a1 : Int32) : Option (Int32 × HP) :=
  if a1 = (-1) then
  (bd2 (f_X12_refuse h 6) fun r7 h6 =>
  some (r7, h6))
  else
  bd2 (f_X12_gives h a1) fun r4 h3 =>
  some (r4, h3)
noncomputable def f_X12_tellsBy_6   : Nat → Int64 → Int64 → Int64 → Int64 → HP → Option (Int32 × HP)
  | 0, _, _, _, _, _ => none
  | n + 1, l1, l3, l5, l7, h =>
    if (lg_cmp l7 0) = (0 : Int32) then
    (gdv (¬ l5 = (0 : Int64)) <|
    ltv (uL h 113 3 (l1 / l5)) fun g3 =>
    gdv (¬ l5 = (0 : Int64)) <|
    ltv (uL g3 113 4 (l3 / l5)) fun g5 =>
    bd2 (f_X12_is g5 0) fun r8 h7 =>
    gdv (is01 r8) <|
    some (r8, h7))
    else
    gdv (¬ l7 = (0 : Int64)) <|
    ltv ((l5 - l5 / l7 * l7) : Int64) fun x11 =>
    f_X12_tellsBy_6 n l1 l3 l7 x11 h
noncomputable def f_X12_tellsBy (h : HP)  (a1 : Int64) (a3 : Int64) : Option (Int32 × HP) :=
  f_X12_tellsBy_6 FU a1 a3 a1 a3 h
noncomputable def f_X12_isTray (h : HP)  (a0 : Int32) : Option (Int32 × HP) :=
  if a0 < (0 : Int32) then
  (some (0, h))
  else
  if 4 ≤ a0 then
  (some (0, h))
  else
  some (1, h)
noncomputable def f_X12_cut (h : HP)  (a0 : Int64) (a2 : Int32) : Option (Int64 × HP) :=
  if a2 = (0 : Int32) then
  (some ((Int32.toInt64 (Int8.toInt32 (Int32.toInt8 (Int64.toInt32 a0)))), h))
  else
  if a2 = 1 then
  (some ((Int32.toInt64 (Int16.toInt32 (Int32.toInt16 (Int64.toInt32 a0)))), h))
  else
  if a2 = 2 then
  (some ((Int32.toInt64 (Int64.toInt32 a0)), h))
  else
  some (a0, h)
noncomputable def f_X12_tray_26    (h : HP) : Option (Int32 × HP) :=
  bd2 (f_X12_is h 1) fun r23 h22 =>
  gdv (is01 r23) <|
  some (r23, h22)
noncomputable def f_X12_tray_49   : Nat → Int32 → Int32 → Int32 → HP → Option (Int32 × HP)
  | 0, _, _, _, _ => none
  | n + 1, l1, l3, l4, h =>
    if l3 ≤ l4 then
    (bd2 (f_X12_is h 0) fun r16 h15 =>
    gdv (is01 r16) <|
    some (r16, h15))
    else
    gdi (((60 : Int32) * l1) + l4) 240 <|
    ltv (uL h 118 (Int32.toNatClampNeg (((60 : Int32) * l1) + l4)) 0) fun g19 =>
    ltv (l4 + 1 : Int32) fun x20 =>
    f_X12_tray_49 n l1 l3 x20 g19
noncomputable def f_X12_tray (h : HP)  (a1 : Int32) (a2 : Int32) (a3 : Int32) : Option (Int32 × HP) :=
  bd2 (f_X12_isTray h a1) fun r3 h2 =>
  if r3 = (0 : Int32) then
  (f_X12_tray_26 h2)
  else
  if a2 < (0 : Int32) then
  (f_X12_tray_26 h2)
  else
  if 3 < a2 then
  (f_X12_tray_26 h2)
  else
  if a3 < (0 : Int32) then
  (f_X12_tray_26 h2)
  else
  if a3 ≤ 60 then
  (gdi a1 4 <|
  ltv (uI h2 116 (Int32.toNatClampNeg a1) a2) fun g10 =>
  gdi a1 4 <|
  ltv (uI g10 117 (Int32.toNatClampNeg a1) a3) fun g12 =>
  f_X12_tray_49 FU a1 a3 0 g12)
  else
  f_X12_tray_26 h2
noncomputable def f_X12_wrongPlace (h : HP)  (a1 : Int32) (a2 : Int32) : Option (Int32 × HP) :=
  bd2 (f_X12_isTray h a1) fun r3 h2 =>
  if r3 = (0 : Int32) then
  (some (1, h2))
  else
  gdi a1 4 <|
  if (hI h2 117 (Int32.toNatClampNeg a1)) = (-1) then
  (some (2, h2))
  else
  if a2 < (0 : Int32) then
  (some (3, h2))
  else
  gdi a1 4 <|
  if a2 < (hI h2 117 (Int32.toNatClampNeg a1)) then
  (some (0, h2))
  else
  some (3, h2)
noncomputable def f_X12_write (h : HP)  (a1 : Int32) (a2 : Int32) (a3 : Int64) : Option (Int32 × HP) :=
  bd2 (f_X12_wrongPlace h a1 a2) fun r3 h2 =>
  if r3 = (0 : Int32) then
  (gdi a1 4 <|
  bd2 (f_X12_cut h2 a3 (hI h2 116 (Int32.toNatClampNeg a1))) fun r12 h11 =>
  gdi (((60 : Int32) * a1) + a2) 240 <|
  ltv (uL h11 118 (Int32.toNatClampNeg (((60 : Int32) * a1) + a2)) r12) fun g14 =>
  bd2 (f_X12_is g14 r3) fun r17 h16 =>
  gdv (is01 r17) <|
  some (r17, h16))
  else
  bd2 (f_X12_is h2 r3) fun r7 h6 =>
  gdv (is01 r7) <|
  some (r7, h6)
noncomputable def f_X12_read (h : HP)  (a1 : Int32) (a2 : Int32) : Option (Int64 × HP) :=
  bd2 (f_X12_wrongPlace h a1 a2) fun r3 h2 =>
  ltv (uI h2 113 2 r3) fun g4 =>
  if (hI g4 113 2) ≤ (0 : Int32) then
  (gdi (((60 : Int32) * a1) + a2) 240 <|
  some ((hL g4 118 (Int32.toNatClampNeg (((60 : Int32) * a1) + a2))), g4))
  else
  some ((-1), g4)
noncomputable def f_X12_pour_28    (h : HP) : Option (Int32 × HP) :=
  bd2 (f_X12_is h 1) fun r55 h54 =>
  gdv (is01 r55) <|
  some (r55, h54)
noncomputable def f_X12_pour_143  (K118 : Int32 → Int32 → Int32 → Int32 → Int32 → Int32 → HP → Option (Int32 × HP)) (l1 : Int32) (l2 : Int32) (l3 : Int32) (l4 : Int32) (l5 : Int32) (l6 : Int32) (s0 : Int32) (h : HP) : Option (Int32 × HP) :=
  gdi ((((60 : Int32) * l1) + l2) + s0) 240 <|
  gdi ((((60 : Int32) * l3) + l4) + s0) 240 <|
  ltv (uL h 118 (Int32.toNatClampNeg ((((60 : Int32) * l3) + l4) + s0)) (hL h 118 (Int32.toNatClampNeg ((((60 : Int32) * l1) + l2) + s0)))) fun g51 =>
  ltv (l6 + 1 : Int32) fun x52 =>
  K118 l1 l2 l3 l4 l5 x52 g51
noncomputable def f_X12_pour_118   : Nat → Int32 → Int32 → Int32 → Int32 → Int32 → Int32 → HP → Option (Int32 × HP)
  | 0, _, _, _, _, _, _, _ => none
  | n + 1, l1, l2, l3, l4, l5, l6, h =>
    if l5 ≤ l6 then
    (bd2 (f_X12_is h 0) fun r46 h45 =>
    gdv (is01 r46) <|
    some (r46, h45))
    else
    if l4 ≤ l2 then
    (f_X12_pour_143 (f_X12_pour_118 n) l1 l2 l3 l4 l5 l6 l6 h)
    else
    f_X12_pour_143 (f_X12_pour_118 n) l1 l2 l3 l4 l5 l6 ((l5 - 1) - l6) h
noncomputable def f_X12_pour (h : HP)  (a1 : Int32) (a2 : Int32) (a3 : Int32) (a4 : Int32) (a5 : Int32) : Option (Int32 × HP) :=
  bd2 (f_X12_isTray h a1) fun r3 h2 =>
  if r3 = (0 : Int32) then
  (f_X12_pour_28 h2)
  else
  bd2 (f_X12_isTray h2 a3) fun r7 h6 =>
  if r7 = (0 : Int32) then
  (f_X12_pour_28 h6)
  else
  if a2 < (0 : Int32) then
  (f_X12_pour_28 h6)
  else
  if a4 < (0 : Int32) then
  (f_X12_pour_28 h6)
  else
  if (0 : Int32) ≤ a5 then
  (gdi a1 4 <|
  if (hI h6 117 (Int32.toNatClampNeg a1)) = (-1) then
  (bd2 (f_X12_is h6 2) fun r16 h15 =>
  gdv (is01 r16) <|
  some (r16, h15))
  else
  gdi a3 4 <|
  if (hI h6 117 (Int32.toNatClampNeg a3)) = (-1) then
  (bd2 (f_X12_is h6 2) fun r41 h40 =>
  gdv (is01 r41) <|
  some (r41, h40))
  else
  gdi a1 4 <|
  gdi a3 4 <|
  if (hI h6 116 (Int32.toNatClampNeg a1)) = (hI h6 116 (Int32.toNatClampNeg a3)) then
  (gdi a1 4 <|
  if ((hI h6 117 (Int32.toNatClampNeg a1)) - a2) < a5 then
  (bd2 (f_X12_is h6 3) fun r27 h26 =>
  gdv (is01 r27) <|
  some (r27, h26))
  else
  gdi a3 4 <|
  if a5 ≤ ((hI h6 117 (Int32.toNatClampNeg a3)) - a4) then
  (f_X12_pour_118 FU a1 a2 a3 a4 a5 0 h6)
  else
  bd2 (f_X12_is h6 3) fun r33 h32 =>
  gdv (is01 r33) <|
  some (r33, h32))
  else
  bd2 (f_X12_is h6 8) fun r37 h36 =>
  gdv (is01 r37) <|
  some (r37, h36))
  else
  f_X12_pour_28 h6
noncomputable def f_X12_isFrom (h : HP)  (a0 : Int64) (a2 : Int64) (a4 : Int64) : Option (Int32 × HP) :=
  if (lg_cmp a0 a2) < (0 : Int32) then
  (some (0, h))
  else
  if (0 : Int32) < (lg_cmp a0 a4) then
  (some (0, h))
  else
  some (1, h)
noncomputable def f_X12_four_3   : Nat → Int32 → Int32 → HP → Option HP
  | 0, _, _, _ => none
  | n + 1, l1, l2, h =>
    if l2 < (0 : Int32) then
    (some h)
    else
    gdi (hI h 113 10) 900 <|
    ltv (uI h 119 (Int32.toNatClampNeg (hI h 113 10)) (Int8.toInt32 (Int32.toInt8 (Int8.toInt32 (Int32.toInt8 (l1 >>> (l2 &&& 31))))))) fun g3 =>
    ltv (uI g3 113 10 ((hI g3 113 10) + 1)) fun g4 =>
    ltv (l2 + (-8) : Int32) fun x5 =>
    f_X12_four_3 n l1 x5 g4
noncomputable def f_X12_four (h : HP)  (a1 : Int32) : Option HP :=
  f_X12_four_3 FU a1 24 h
noncomputable def f_X12_feed (h : HP)  (a1 : Int32) (a2 : Int32) (a3 : Int32) (a4 : Int32) (a5 : Int32) : Option (Int32 × HP) :=
  if ((hI h 113 10) + 20) ≤ 900 then
  (bd1 (f_X12_four h a1) fun h3 =>
  bd1 (f_X12_four h3 a2) fun h5 =>
  bd1 (f_X12_four h5 a3) fun h7 =>
  bd1 (f_X12_four h7 a4) fun h9 =>
  bd1 (f_X12_four h9 a5) fun h11 =>
  some ((hI h11 113 10), h11))
  else
  some ((-1), h)
noncomputable def f_X12_byteAt (h : HP)  (a1 : Int32) : Option (Int32 × HP) :=
  if (hI h 113 11) ≤ a1 then
  (some ((-1), h))
  else
  gdi a1 900 <|
  some (((hI h 120 (Int32.toNatClampNeg a1)) &&& 255), h)
noncomputable def f_X12_isSmall (h : HP)  (a0 : Int32) : Option (Int32 × HP) :=
  if a0 < 97 then
  (some (0, h))
  else
  if 122 < a0 then
  (some (0, h))
  else
  some (1, h)
noncomputable def f_X12_isDigit (h : HP)  (a0 : Int32) : Option (Int32 × HP) :=
  if a0 < 48 then
  (some (0, h))
  else
  if 57 < a0 then
  (some (0, h))
  else
  some (1, h)
noncomputable def f_X12_onward_81   : Nat → HP → Option HP
  | 0, _ => none
  | n + 1, h =>
    bd2 (f_X12_byteAt h (hI h 113 14)) fun r35 h34 =>
    bd2 (f_X12_isSmall h34 r35) fun r38 h37 =>
    if r38 = (0 : Int32) then
    (ltv (uI h37 113 12 2) fun g40 =>
    some g40)
    else
    ltv (uI h37 113 14 ((hI h37 113 14) + 1)) fun g41 =>
    f_X12_onward_81 n g41
noncomputable def f_X12_onward_128   : Nat → HP → Option HP
  | 0, _ => none
  | n + 1, h =>
    bd2 (f_X12_byteAt h (hI h 113 14)) fun r44 h43 =>
    bd2 (f_X12_isDigit h43 r44) fun r47 h46 =>
    if r47 = (0 : Int32) then
    (if ((hI h46 113 14) - (hI h46 113 13)) ≤ 4 then
    (ltv (uI h46 113 12 3) fun g50 =>
    some g50)
    else
    ltv (uI h46 113 12 1) fun g51 =>
    some g51)
    else
    bd2 (f_X12_byteAt h46 (hI h46 113 14)) fun r54 h53 =>
    ltv (uI h53 113 15 (if ((((10 : Int32) * (hI h46 113 15)) + r54) - 48) < 100000 then ((((10 : Int32) * (hI h46 113 15)) + r54) - 48) else 100000)) fun g55 =>
    ltv (uI g55 113 14 ((hI g55 113 14) + 1)) fun g56 =>
    f_X12_onward_128 n g56
noncomputable def f_X12_onward_243    (h : HP) : Option HP :=
  ltv (uI h 113 12 4) fun g57 =>
  some g57
noncomputable def f_X12_onward_0   : Nat → HP → Option HP
  | 0, _ => none
  | n + 1, h =>
    bd2 (f_X12_byteAt h (hI h 113 14)) fun r3 h2 =>
    if r3 = 32 then
    (ltv (uI h2 113 14 ((hI h2 113 14) + 1)) fun g5 =>
    f_X12_onward_0 n g5)
    else
    bd2 (f_X12_byteAt h2 (hI h2 113 14)) fun r8 h7 =>
    if r8 = 10 then
    (ltv (uI h7 113 14 ((hI h7 113 14) + 1)) fun g32 =>
    f_X12_onward_0 n g32)
    else
    ltv (uI h7 113 13 (hI h7 113 14)) fun g10 =>
    bd2 (f_X12_byteAt g10 (hI g10 113 14)) fun r13 h12 =>
    ltv (uI h12 113 15 r13) fun g14 =>
    if r13 = (-1) then
    (ltv (uI g14 113 12 0) fun g31 =>
    some g31)
    else
    bd2 (f_X12_isSmall g14 r13) fun r18 h17 =>
    if r18 = (0 : Int32) then
    (bd2 (f_X12_isDigit h17 r13) fun r22 h21 =>
    if r22 = (0 : Int32) then
    (ltv (uI h21 113 14 ((hI h21 113 14) + 1)) fun g24 =>
    if r13 = 59 then
    (f_X12_onward_243 g24)
    else
    if r13 = 60 then
    (f_X12_onward_243 g24)
    else
    if r13 = 62 then
    (f_X12_onward_243 g24)
    else
    if r13 = 61 then
    (f_X12_onward_243 g24)
    else
    ltv (uI g24 113 12 1) fun g29 =>
    some g29)
    else
    ltv (uI h21 113 15 0) fun g30 =>
    f_X12_onward_128 FU g30)
    else
    f_X12_onward_81 FU h17
noncomputable def f_X12_onward (h : HP)   : Option HP :=
  f_X12_onward_0 FU h
noncomputable def f_X12_isSign (h : HP)  (a1 : Int32) : Option (Int32 × HP) :=
  if (hI h 113 12) = 4 then
  (if (hI h 113 15) = a1 then
  (some (1, h))
  else
  some (0, h))
  else
  some (0, h)
noncomputable def f_X12_inWords_68  (K14 : Int32 → Int32 → HP → Option (Int32 × HP)) : Nat → Int32 → Int32 → Int32 → Int32 → Int32 → HP → Option (Int32 × HP)
  | 0, _, _, _, _, _, _ => none
  | n + 1, l2, l3, l4, l5, l6, h =>
    if l4 ≤ l6 then
    (if l5 = (0 : Int32) then
    (ltv (l2 + 1 : Int32) fun x14 =>
    ltv ((l4 + 1) : Int32) fun x15 =>
    K14 x14 x15 h)
    else
    some (l2, h))
    else
    if l5 = (0 : Int32) then
    (if l5 = (0 : Int32) then
    (ltv (l2 + 1 : Int32) fun x18 =>
    ltv ((l4 + 1) : Int32) fun x19 =>
    K14 x18 x19 h)
    else
    some (l2, h))
    else
    bd2 (f_J0_charAt_5068e h l6) fun r22 h21 =>
    bd2 (f_X12_byteAt h21 (((hI h21 113 13) + l6) - l3)) fun r25 h24 =>
    if r22 = r25 then
    (ltv (l6 + 1 : Int32) fun x28 =>
    f_X12_inWords_68 K14 n l2 l3 l4 1 x28 h24)
    else
    ltv (l6 + 1 : Int32) fun x27 =>
    f_X12_inWords_68 K14 n l2 l3 l4 0 x27 h24
noncomputable def f_X12_inWords_25  (K14 : Int32 → Int32 → HP → Option (Int32 × HP)) : Nat → Int32 → Int32 → Int32 → HP → Option (Int32 × HP)
  | 0, _, _, _, _ => none
  | n + 1, l2, l3, l4, h =>
    bd2 (f_J0_charAt_5068e h l4) fun r8 h7 =>
    if r8 = 32 then
    (if (l4 - l3) = ((hI h7 113 14) - (hI h7 113 13)) then
    (f_X12_inWords_68 K14 FU l2 l3 l4 1 l3 h7)
    else
    f_X12_inWords_68 K14 FU l2 l3 l4 0 l3 h7)
    else
    ltv (l4 + 1 : Int32) fun x11 =>
    f_X12_inWords_25 K14 n l2 l3 x11 h7
noncomputable def f_X12_inWords_14   : Nat → Int32 → Int32 → HP → Option (Int32 × HP)
  | 0, _, _, _ => none
  | n + 1, l2, l3, h =>
    bd2 (f_J0_length_8abf5 h) fun r4 h3 =>
    if r4 ≤ l3 then
    (some ((-1), h3))
    else
    f_X12_inWords_25 (f_X12_inWords_14 n) FU l2 l3 l3 h3
noncomputable def f_X12_inWords (h : HP)   : Option (Int32 × HP) :=
  if (hI h 113 12) = 2 then
  (f_X12_inWords_14 FU 0 1 h)
  else
  some ((-1), h)
noncomputable def f_X12_fails (h : HP)  (a1 : Int32) : Option (Int32 × HP) :=
  if (hI h 113 18) = (0 : Int32) then
  (if (hI h 113 12) = 1 then
  (ltv (uI h 113 18 1) fun g5 =>
  ltv (uI g5 113 17 (hI g5 113 13)) fun g6 =>
  some (0, g6))
  else
  ltv (uI h 113 18 a1) fun g3 =>
  ltv (uI g3 113 17 (hI g3 113 13)) fun g4 =>
  some (0, g4))
  else
  some (0, h)
noncomputable def f_X12_begins_26   : Nat → Int32 → Int32 → HP → Option (Int32 × HP)
  | 0, _, _, _ => none
  | n + 1, l1, l3, h =>
    if l1 ≤ l3 then
    (ltv (uI h 113 10 0) fun g6 =>
    ltv (uI g6 113 18 0) fun g7 =>
    ltv (uI g7 113 17 (-1)) fun g8 =>
    ltv (uI g8 113 14 0) fun g9 =>
    ltv (uI g9 113 19 0) fun g10 =>
    bd1 (f_X12_onward g10) fun h12 =>
    some (1, h12))
    else
    gdi l3 900 <|
    gdi l3 900 <|
    ltv (uI h 120 (Int32.toNatClampNeg l3) (Int8.toInt32 (Int32.toInt8 (hI h 119 (Int32.toNatClampNeg l3))))) fun g15 =>
    ltv (l3 + 1 : Int32) fun x16 =>
    f_X12_begins_26 n l1 x16 g15
noncomputable def f_X12_begins (h : HP)  (a1 : Int32) (a2 : Int32) : Option (Int32 × HP) :=
  if a1 < (0 : Int32) then
  (some (0, h))
  else
  if (hI h 113 10) < a1 then
  (some (0, h))
  else
  if a1 ≤ a2 then
  (ltv (uI h 113 11 a1) fun g4 =>
  f_X12_begins_26 FU a1 0 g4)
  else
  some (0, h)
noncomputable def f_X12_wantSign (h : HP)  (a1 : Int32) : Option (Int32 × HP) :=
  bd2 (f_X12_isSign h a1) fun r3 h2 =>
  if r3 = (0 : Int32) then
  (bd2 (f_X12_fails h2 2) fun r9 h8 =>
  gdv (is01 r9) <|
  some (r9, h8))
  else
  bd1 (f_X12_onward h2) fun h6 =>
  some (1, h6)
noncomputable def f_X12_wantWord (h : HP)  (a2 : Int32) : Option (Int32 × HP) :=
  bd2 (f_X12_inWords h) fun r3 h2 =>
  if r3 = a2 then
  (bd1 (f_X12_onward h2) fun h6 =>
  some (1, h6))
  else
  bd2 (f_X12_fails h2 2) fun r9 h8 =>
  gdv (is01 r9) <|
  some (r9, h8)
noncomputable def f_X12_number (h : HP)  (a1 : Int32) (a2 : Int32) (a3 : Int32) : Option (Int32 × HP) :=
  if (hI h 113 12) = 3 then
  (if (hI h 113 15) < a2 then
  (bd2 (f_X12_fails h 4) fun r5 h4 =>
  gdv (is01 r5) <|
  some (r5, h4))
  else
  if (hI h 113 15) ≤ a3 then
  (gdi a1 2460 <|
  ltv (uI h 114 (Int32.toNatClampNeg a1) (hI h 113 15)) fun g9 =>
  bd1 (f_X12_onward g9) fun h11 =>
  some (1, h11))
  else
  bd2 (f_X12_fails h 4) fun r14 h13 =>
  gdv (is01 r14) <|
  some (r14, h13))
  else
  bd2 (f_X12_fails h 2) fun r18 h17 =>
  gdv (is01 r18) <|
  some (r18, h17)
noncomputable def f_X12_isName (h : HP)   : Option (Int32 × HP) :=
  if (hI h 113 12) = 2 then
  (if 8 < ((hI h 113 14) - (hI h 113 13)) then
  (some (0, h))
  else
  bd2 (f_X12_inWords h) fun r5 h4 =>
  if r5 = (-1) then
  (some (1, h4))
  else
  some (0, h4))
  else
  some (0, h)
noncomputable def f_X12_nameHere_7   : Nat → Int64 → Int32 → HP → Option (Int64 × HP)
  | 0, _, _, _ => none
  | n + 1, l1, l3, h =>
    if (hI h 113 14) ≤ l3 then
    (some (l1, h))
    else
    bd2 (f_X12_byteAt h l3) fun r5 h4 =>
    ltv (((l1 <<< (Int32.toInt64 8 &&& 63)) ||| (Int32.toInt64 r5)) : Int64) fun x6 =>
    ltv (l3 + 1 : Int32) fun x7 =>
    f_X12_nameHere_7 n x6 x7 h4
noncomputable def f_X12_nameHere (h : HP)   : Option (Int64 × HP) :=
  ltv ((hI h 113 13) : Int32) fun x1 =>
  f_X12_nameHere_7 FU 0 x1 h
noncomputable def f_X12_findHere_2   : Nat → Int32 → Int32 → Int32 → HP → Option (Int32 × HP)
  | 0, _, _, _, _ => none
  | n + 1, l1, l2, l3, h =>
    if l2 ≤ l3 then
    (some ((-1), h))
    else
    gdi (l1 + l3) 60 <|
    bd2 (f_X12_nameHere h) fun r5 h4 =>
    if (lg_cmp (hL h 115 (Int32.toNatClampNeg (l1 + l3))) r5) = (0 : Int32) then
    (some (l3, h4))
    else
    ltv (l3 + 1 : Int32) fun x7 =>
    f_X12_findHere_2 n l1 l2 x7 h4
noncomputable def f_X12_findHere (h : HP)  (a1 : Int32) (a2 : Int32) : Option (Int32 × HP) :=
  f_X12_findHere_2 FU a1 a2 0 h
noncomputable def f_X12_fault (h : HP)  (a1 : Int32) : Option (Int32 × HP) :=
  if a1 = (0 : Int32) then
  (some ((hI h 113 16), h))
  else
  if a1 = 1 then
  (some ((hI h 113 17), h))
  else
  some ((-1), h)
noncomputable def f_X12_taken (h : HP)  (a1 : Int32) : Option (Int32 × HP) :=
  ltv (uI h 113 16 (hI h 113 18)) fun g1 =>
  if (hI g1 113 18) ≤ (0 : Int32) then
  (bd2 (f_X12_gives g1 a1) fun r5 h4 =>
  some (r5, h4))
  else
  bd2 (f_X12_refuse g1 9) fun r8 h7 =>
  some (r8, h7)
noncomputable def f_X12_oldRule (h : HP)  (a1 : Int32) : Option (Int32 × HP) :=
  bd2 (f_X12_isName h) fun r3 h2 =>
  if r3 = (0 : Int32) then
  (bd2 (f_X12_fails h2 2) fun r20 h19 =>
  gdv (is01 r20) <|
  some (r20, h19))
  else
  bd2 (f_X12_findHere h2 0 (hI h2 114 5)) fun r7 h6 =>
  gdi a1 2460 <|
  ltv (uI h6 114 (Int32.toNatClampNeg a1) r7) fun g9 =>
  gdi a1 2460 <|
  if (hI g9 114 (Int32.toNatClampNeg a1)) = (-1) then
  (bd2 (f_X12_fails g9 3) fun r16 h15 =>
  gdv (is01 r16) <|
  some (r16, h15))
  else
  bd1 (f_X12_onward g9) fun h13 =>
  some (1, h13)
noncomputable def f_X12_isThere (h : HP)  (a1 : Int32) : Option (Int32 × HP) :=
  bd2 (f_X12_inWords h) fun r3 h2 =>
  if r3 = a1 then
  (bd1 (f_X12_onward h2) fun h6 =>
  some (1, h6))
  else
  some (0, h2)
noncomputable def f_X12_newOne (h : HP)  (a1 : Int32) (a2 : Int32) (a3 : Int32) : Option (Int32 × HP) :=
  gdi ((1640 : Int32) + a1) 2460 <|
  if (hI h 114 (Int32.toNatClampNeg ((1640 : Int32) + a1))) = a2 then
  (bd2 (f_X12_fails h 6) fun r39 h38 =>
  gdv (is01 r39) <|
  some (r39, h38))
  else
  bd1 (f_X12_onward h) fun h4 =>
  bd2 (f_X12_isName h4) fun r7 h6 =>
  if r7 = (0 : Int32) then
  (bd2 (f_X12_fails h6 2) fun r35 h34 =>
  gdv (is01 r35) <|
  some (r35, h34))
  else
  bd2 (f_X12_findHere h6 40 (hI h6 114 1645)) fun r11 h10 =>
  if r11 = (-1) then
  (bd2 (f_X12_findHere h10 44 (hI h10 114 1646)) fun r19 h18 =>
  if r19 = (-1) then
  (gdi ((1640 : Int32) + a1) 2460 <|
  bd2 (f_X12_nameHere h18) fun r24 h23 =>
  gdi (((40 : Int32) + a3) + (hI h18 114 (Int32.toNatClampNeg ((1640 : Int32) + a1)))) 60 <|
  ltv (uL h23 115 (Int32.toNatClampNeg (((40 : Int32) + a3) + (hI h18 114 (Int32.toNatClampNeg ((1640 : Int32) + a1))))) r24) fun g26 =>
  bd1 (f_X12_onward g26) fun h28 =>
  some (1, h28))
  else
  bd2 (f_X12_fails h18 3) fun r31 h30 =>
  gdv (is01 r31) <|
  some (r31, h30))
  else
  bd2 (f_X12_fails h10 3) fun r15 h14 =>
  gdv (is01 r15) <|
  some (r15, h14)
noncomputable def f_X12_first (h : HP)   : Option (Int32 × HP) :=
  bd2 (f_X12_wantWord h 0) fun r3 h2 =>
  if r3 = (0 : Int32) then
  (some (0, h2))
  else
  bd2 (f_X12_number h2 1640 1 5) fun r7 h6 =>
  if r7 = (0 : Int32) then
  (some (0, h6))
  else
  bd2 (f_X12_isThere h6 4) fun r11 h10 =>
  if r11 = (0 : Int32) then
  (ltv (uI h10 114 1649 0) fun g13 =>
  bd2 (f_X12_wantSign g13 59) fun r16 h15 =>
  gdv (is01 r16) <|
  some (r16, h15))
  else
  if (hI h10 114 1640) ≤ 2 then
  (ltv (uI h10 114 1649 0) fun g19 =>
  bd2 (f_X12_wantSign g19 59) fun r22 h21 =>
  gdv (is01 r22) <|
  some (r22, h21))
  else
  ltv (uI h10 114 1649 1) fun g24 =>
  bd2 (f_X12_wantSign g24 59) fun r27 h26 =>
  gdv (is01 r27) <|
  some (r27, h26)
noncomputable def f_X12_isLamp_30    (h : HP) : Option (Int32 × HP) :=
  some (1, h)
noncomputable def f_X12_isLamp (h : HP)  (a0 : Int32) : Option (Int32 × HP) :=
  if a0 = 100 then
  (f_X12_isLamp_30 h)
  else
  if a0 = 108 then
  (f_X12_isLamp_30 h)
  else
  if a0 = 110 then
  (f_X12_isLamp_30 h)
  else
  if a0 = 119 then
  (f_X12_isLamp_30 h)
  else
  if a0 = 120 then
  (f_X12_isLamp_30 h)
  else
  some (0, h)
noncomputable def f_X12_aRow_182  (K99 : Int32 → HP → Option (Int32 × HP)) (l1 : Int32) (l2 : Int32) (l3 : Int32) (h : HP) : Option (Int32 × HP) :=
  if l3 = 119 then
  (ltv (uI h 114 1644 ((hI h 114 1644) ||| l2)) fun g52 =>
  ltv (l1 + 1 : Int32) fun x53 =>
  K99 x53 g52)
  else
  if l3 = 120 then
  (ltv (uI h 114 1644 ((hI h 114 1644) ||| l2)) fun g56 =>
  ltv (l1 + 1 : Int32) fun x57 =>
  K99 x57 g56)
  else
  ltv (l1 + 1 : Int32) fun x55 =>
  K99 x55 h
noncomputable def f_X12_aRow_158  (K99 : Int32 → HP → Option (Int32 × HP)) (l1 : Int32) (l2 : Int32) (l3 : Int32) (h : HP) : Option (Int32 × HP) :=
  if l3 = 108 then
  (ltv (uI h 114 1643 ((hI h 114 1643) ||| l2)) fun g48 =>
  f_X12_aRow_182 K99 l1 l2 l3 g48)
  else
  if l3 = 119 then
  (ltv (uI h 114 1643 ((hI h 114 1643) ||| l2)) fun g50 =>
  f_X12_aRow_182 K99 l1 l2 l3 g50)
  else
  f_X12_aRow_182 K99 l1 l2 l3 h
noncomputable def f_X12_aRow_99   : Nat → Int32 → HP → Option (Int32 × HP)
  | 0, _, _ => none
  | n + 1, l1, h =>
    if (hI h 113 14) ≤ l1 then
    (ltv (uI h 114 1641 ((hI h 114 1641) + 1)) fun g34 =>
    bd1 (f_X12_onward g34) fun h36 =>
    bd2 (f_X12_wantSign h36 59) fun r39 h38 =>
    gdv (is01 r39) <|
    some (r39, h38))
    else
    ltv (((1 : Int32) <<< (((((hI h 114 1640) * (hI h 114 1641)) + l1) - (hI h 113 13)) &&& 31)) : Int32) fun x41 =>
    bd2 (f_X12_byteAt h l1) fun r44 h43 =>
    if r44 = 110 then
    (f_X12_aRow_158 (f_X12_aRow_99 n) l1 x41 r44 h43)
    else
    ltv (uI h43 114 1642 ((hI h43 114 1642) ||| x41)) fun g46 =>
    f_X12_aRow_158 (f_X12_aRow_99 n) l1 x41 r44 g46
noncomputable def f_X12_aRow_63   : Nat → Int32 → HP → Option (Int32 × HP)
  | 0, _, _ => none
  | n + 1, l1, h =>
    if (hI h 113 14) ≤ l1 then
    (ltv ((hI h 113 13) : Int32) fun x20 =>
    f_X12_aRow_99 FU x20 h)
    else
    bd2 (f_X12_byteAt h l1) fun r23 h22 =>
    bd2 (f_X12_isLamp h22 r23) fun r26 h25 =>
    if r26 = (0 : Int32) then
    (bd2 (f_X12_fails h25 2) fun r31 h30 =>
    gdv (is01 r31) <|
    some (r31, h30))
    else
    ltv (l1 + 1 : Int32) fun x28 =>
    f_X12_aRow_63 n x28 h25
noncomputable def f_X12_aRow (h : HP)   : Option (Int32 × HP) :=
  if (hI h 114 1641) = 6 then
  (bd2 (f_X12_fails h 6) fun r17 h16 =>
  gdv (is01 r17) <|
  some (r17, h16))
  else
  bd1 (f_X12_onward h) fun h3 =>
  if (hI h3 113 12) = 2 then
  (if ((hI h3 113 14) - (hI h3 113 13)) = (hI h3 114 1640) then
  (ltv ((hI h3 113 13) : Int32) fun x10 =>
  f_X12_aRow_63 FU x10 h3)
  else
  bd2 (f_X12_fails h3 2) fun r13 h12 =>
  gdv (is01 r13) <|
  some (r13, h12))
  else
  bd2 (f_X12_fails h3 2) fun r7 h6 =>
  gdv (is01 r7) <|
  some (r7, h6)
noncomputable def f_X12_neighbours_14   : Nat → Int32 → HP → Option (Int32 × HP)
  | 0, _, _ => none
  | n + 1, l1, h =>
    if (hI h 113 12) = 3 then
    (if (hI h 113 15) ≤ 4 then
    (gdi l1 2460 <|
    if (((hI h 114 (Int32.toNatClampNeg l1)) >>> ((hI h 113 15) &&& 31)) &&& 1) = 1 then
    (bd2 (f_X12_fails h 5) fun r17 h16 =>
    gdv (is01 r17) <|
    some (r17, h16))
    else
    gdi l1 2460 <|
    gdi l1 2460 <|
    ltv (uI h 114 (Int32.toNatClampNeg l1) ((hI h 114 (Int32.toNatClampNeg l1)) ||| ((1 : Int32) <<< ((hI h 113 15) &&& 31)))) fun g12 =>
    bd1 (f_X12_onward g12) fun h14 =>
    f_X12_neighbours_14 n l1 h14)
    else
    bd2 (f_X12_fails h 4) fun r21 h20 =>
    gdv (is01 r21) <|
    some (r21, h20))
    else
    some (1, h)
noncomputable def f_X12_neighbours (h : HP)  (a1 : Int32) : Option (Int32 × HP) :=
  if (hI h 113 12) = 3 then
  (f_X12_neighbours_14 FU a1 h)
  else
  bd2 (f_X12_fails h 2) fun r4 h3 =>
  gdv (is01 r4) <|
  some (r4, h3)
noncomputable def f_X12_aRule_66    (h : HP) : Option (Int32 × HP) :=
  ltv (uI h 114 1645 ((hI h 114 1645) + 1)) fun g22 =>
  ltv (uI g22 114 1650 0) fun g23 =>
  some (1, g23)
noncomputable def f_X12_aRule_45   (l1 : Int32) (h : HP) : Option (Int32 × HP) :=
  bd2 (f_X12_isThere h 6) fun r16 h15 =>
  if r16 = (0 : Int32) then
  (f_X12_aRule_66 h15)
  else
  bd2 (f_X12_neighbours h15 (l1 + 1)) fun r20 h19 =>
  if r20 = (0 : Int32) then
  (some (0, h19))
  else
  f_X12_aRule_66 h19
noncomputable def f_X12_aRule (h : HP)   : Option (Int32 × HP) :=
  ltv (((1652 : Int32) + ((2 : Int32) * (hI h 114 1645))) : Int32) fun x1 =>
  bd2 (f_X12_newOne h 5 4 0) fun r4 h3 =>
  if r4 = (0 : Int32) then
  (some (0, h3))
  else
  bd2 (f_X12_isThere h3 5) fun r8 h7 =>
  if r8 = (0 : Int32) then
  (f_X12_aRule_45 x1 h7)
  else
  bd2 (f_X12_neighbours h7 x1) fun r12 h11 =>
  if r12 = (0 : Int32) then
  (some (0, h11))
  else
  f_X12_aRule_45 x1 h11
noncomputable def f_X12_aCitizen (h : HP)   : Option (Int32 × HP) :=
  ltv (((1660 : Int32) + ((2 : Int32) * (hI h 114 1646))) : Int32) fun x1 =>
  bd2 (f_X12_newOne h 6 6 4) fun r4 h3 =>
  if r4 = (0 : Int32) then
  (some (0, h3))
  else
  bd2 (f_X12_wantWord h3 7) fun r8 h7 =>
  if r8 = (0 : Int32) then
  (some (0, h7))
  else
  bd2 (f_X12_number h7 x1 0 30) fun r12 h11 =>
  if r12 = (0 : Int32) then
  (some (0, h11))
  else
  bd2 (f_X12_wantWord h11 8) fun r16 h15 =>
  if r16 = (0 : Int32) then
  (some (0, h15))
  else
  gdi x1 2460 <|
  bd2 (f_X12_number h15 (x1 + 1) (hI h15 114 (Int32.toNatClampNeg x1)) 30) fun r21 h20 =>
  if r21 = (0 : Int32) then
  (some (0, h20))
  else
  ltv (uI h20 114 1646 ((hI h20 114 1646) + 1)) fun g23 =>
  some (1, g23)
noncomputable def f_X12_townPart_23   (l1 : Int32) (h : HP) : Option (Int32 × HP) :=
  if l1 = 2 then
  (bd2 (f_X12_aRule h) fun r21 h20 =>
  if r21 = (0 : Int32) then
  (some (0, h20))
  else
  bd2 (f_X12_wantSign h20 59) fun r25 h24 =>
  if r25 = (0 : Int32) then
  (some (0, h24))
  else
  some (1, h24))
  else
  bd2 (f_X12_aCitizen h) fun r13 h12 =>
  if r13 = (0 : Int32) then
  (some (0, h12))
  else
  bd2 (f_X12_wantSign h12 59) fun r17 h16 =>
  if r17 = (0 : Int32) then
  (some (0, h16))
  else
  some (1, h16)
noncomputable def f_X12_townPart (h : HP)   : Option (Int32 × HP) :=
  bd2 (f_X12_inWords h) fun r3 h2 =>
  if r3 = 2 then
  (f_X12_townPart_23 r3 h2)
  else
  if r3 = 3 then
  (f_X12_townPart_23 r3 h2)
  else
  bd2 (f_X12_fails h2 2) fun r8 h7 =>
  gdv (is01 r8) <|
  some (r8, h7)
noncomputable def f_X12_bits_4   : Nat → Int32 → Int32 → HP → Option (Int32 × HP)
  | 0, _, _, _ => none
  | n + 1, l1, l2, h =>
    if l2 = (0 : Int32) then
    (some (l1, h))
    else
    ltv (l1 + 1 : Int32) fun x2 =>
    ltv ((l2 &&& (l2 - 1)) : Int32) fun x3 =>
    f_X12_bits_4 n x2 x3 h
noncomputable def f_X12_bits (h : HP)  (a0 : Int32) : Option (Int32 × HP) :=
  f_X12_bits_4 FU 0 a0 h
noncomputable def f_X12_town_131   : Nat → Int32 → HP → Option (Int32 × HP)
  | 0, _, _ => none
  | n + 1, l3, h =>
    if 10 ≤ l3 then
    (bd2 (f_X12_bits h (hI h 114 2)) fun r46 h45 =>
    bd2 (f_X12_taken h45 r46) fun r49 h48 =>
    some (r49, h48))
    else
    gdi ((40 : Int32) + l3) 60 <|
    gdi l3 60 <|
    ltv (uL h 115 (Int32.toNatClampNeg l3) (hL h 115 (Int32.toNatClampNeg ((40 : Int32) + l3)))) fun g52 =>
    ltv (l3 + 1 : Int32) fun x53 =>
    f_X12_town_131 n x53 g52
noncomputable def f_X12_town_100   : Nat → Int32 → HP → Option (Int32 × HP)
  | 0, _, _ => none
  | n + 1, l3, h =>
    if 410 ≤ l3 then
    (f_X12_town_131 FU 0 h)
    else
    gdi ((1640 : Int32) + l3) 2460 <|
    gdi l3 2460 <|
    ltv (uI h 114 (Int32.toNatClampNeg l3) (hI h 114 (Int32.toNatClampNeg ((1640 : Int32) + l3)))) fun g41 =>
    ltv (l3 + 1 : Int32) fun x42 =>
    f_X12_town_100 n x42 g41
noncomputable def f_X12_town_91    (h : HP) : Option (Int32 × HP) :=
  if (hI h 113 18) = (0 : Int32) then
  (f_X12_town_100 FU 0 h)
  else
  bd2 (f_X12_bits h (hI h 114 2)) fun r34 h33 =>
  bd2 (f_X12_taken h33 r34) fun r37 h36 =>
  some (r37, h36)
noncomputable def f_X12_town_72   : Nat → Int32 → HP → Option (Int32 × HP)
  | 0, _, _ => none
  | n + 1, l2, h =>
    if l2 = (0 : Int32) then
    (f_X12_town_91 h)
    else
    if (hI h 113 12) = (0 : Int32) then
    (f_X12_town_91 h)
    else
    bd2 (f_X12_townPart h) fun r30 h29 =>
    f_X12_town_72 n r30 h29
noncomputable def f_X12_town_51   (l2 : Int32) (h : HP) : Option (Int32 × HP) :=
  if l2 = (0 : Int32) then
  (f_X12_town_72 FU l2 h)
  else
  if (hI h 114 1641) = (0 : Int32) then
  (bd2 (f_X12_fails h 2) fun r25 h24 =>
  f_X12_town_72 FU r25 h24)
  else
  f_X12_town_72 FU l2 h
noncomputable def f_X12_town_29   : Nat → Int32 → HP → Option (Int32 × HP)
  | 0, _, _ => none
  | n + 1, l2, h =>
    if l2 = (0 : Int32) then
    (f_X12_town_51 l2 h)
    else
    bd2 (f_X12_inWords h) fun r16 h15 =>
    if r16 = 1 then
    (bd2 (f_X12_aRow h15) fun r20 h19 =>
    f_X12_town_29 n r20 h19)
    else
    f_X12_town_51 l2 h15
noncomputable def f_X12_town (h : HP)  (a1 : Int32) : Option (Int32 × HP) :=
  bd2 (f_X12_begins h a1 900) fun r3 h2 =>
  if r3 = (0 : Int32) then
  (bd2 (f_X12_refuse h2 1) fun r12 h11 =>
  some (r12, h11))
  else
  bd1 (f_X12_plain h2 1640) fun h6 =>
  bd2 (f_X12_first h6) fun r9 h8 =>
  f_X12_town_29 FU r9 h8
noncomputable def f_X12_placeTo (h : HP)  (a1 : Int32) : Option (Int32 × HP) :=
  bd2 (f_X12_number h a1 0 ((hI h 114 0) - 1)) fun r3 h2 =>
  if r3 = (0 : Int32) then
  (some (0, h2))
  else
  bd2 (f_X12_number h2 (a1 + 1) 0 ((hI h2 114 1) - 1)) fun r7 h6 =>
  if r7 = (0 : Int32) then
  (some (0, h6))
  else
  some (1, h6)
noncomputable def f_X12_test_89   (l1 : Int32) (h : HP) : Option (Int32 × HP) :=
  gdi (l1 + 5) 2460 <|
  ltv (uI h 114 (Int32.toNatClampNeg (l1 + 5)) (hI h 113 15)) fun g36 =>
  bd1 (f_X12_onward g36) fun h38 =>
  bd2 (f_X12_number h38 (l1 + 1) 0 30) fun r41 h40 =>
  gdv (is01 r41) <|
  some (r41, h40)
noncomputable def f_X12_test (h : HP)  (a1 : Int32) : Option (Int32 × HP) :=
  bd2 (f_X12_inWords h) fun r3 h2 =>
  if 19 ≤ r3 then
  (gdi a1 2460 <|
  ltv (uI h2 114 (Int32.toNatClampNeg a1) ((1500 : Int32) + r3)) fun g6 =>
  bd1 (f_X12_onward g6) fun h8 =>
  if r3 = 21 then
  (some (1, h8))
  else
  if r3 = 20 then
  (bd2 (f_X12_placeTo h8 (a1 + 1)) fun r29 h28 =>
  gdv (is01 r29) <|
  some (r29, h28))
  else
  bd2 (f_X12_isSign h8 60) fun r13 h12 =>
  if r13 = (0 : Int32) then
  (bd2 (f_X12_isSign h12 62) fun r17 h16 =>
  if r17 = (0 : Int32) then
  (bd2 (f_X12_isSign h16 61) fun r21 h20 =>
  if r21 = (0 : Int32) then
  (bd2 (f_X12_fails h20 2) fun r25 h24 =>
  gdv (is01 r25) <|
  some (r25, h24))
  else
  f_X12_test_89 a1 h20)
  else
  f_X12_test_89 a1 h16)
  else
  f_X12_test_89 a1 h12)
  else
  bd2 (f_X12_fails h2 2) fun r33 h32 =>
  gdv (is01 r33) <|
  some (r33, h32)
noncomputable def f_X12_yearOrder (h : HP)  (a1 : Int32) (a2 : Int32) : Option (Int32 × HP) :=
  if a1 = 9 then
  (bd2 (f_X12_number h (a2 + 1) 1 99) fun r4 h3 =>
  gdv (is01 r4) <|
  some (r4, h3))
  else
  if a1 = 10 then
  (bd2 (f_X12_placeTo h (a2 + 1)) fun r9 h8 =>
  gdv (is01 r9) <|
  some (r9, h8))
  else
  if a1 = 11 then
  (bd2 (f_X12_oldRule h (a2 + 1)) fun r14 h13 =>
  gdv (is01 r14) <|
  some (r14, h13))
  else
  if a1 = 12 then
  (some (1, h))
  else
  if a1 = 13 then
  (bd2 (f_X12_number h (a2 + 1) 0 16) fun r20 h19 =>
  gdv (is01 r20) <|
  some (r20, h19))
  else
  if a1 = 14 then
  (some (1, h))
  else
  if a1 = 15 then
  (bd2 (f_X12_test h a2) fun r26 h25 =>
  gdv (is01 r26) <|
  some (r26, h25))
  else
  if a1 = 16 then
  (bd2 (f_X12_number h (a2 + 1) 1 99) fun r31 h30 =>
  gdv (is01 r31) <|
  some (r31, h30))
  else
  some (1, h)
noncomputable def f_X12_yearStep_222   (l1 : Int32) (l2 : Int32) (l3 : Int32) (h : HP) : Option (Int32 × HP) :=
  if l1 = 17 then
  (ltv (uI h 113 21 ((hI h 113 21) - 1)) fun g69 =>
  gdi (hI g69 113 21) 3 <|
  gdi (l3 + 4) 2460 <|
  ltv (uI g69 114 (Int32.toNatClampNeg (l3 + 4)) (hI g69 121 (Int32.toNatClampNeg (hI g69 113 21)))) fun g72 =>
  gdi (hI g72 113 21) 3 <|
  gdi (((1684 : Int32) + ((6 : Int32) * (hI g72 121 (Int32.toNatClampNeg (hI g72 113 21))))) + 4) 2460 <|
  ltv (uI g72 114 (Int32.toNatClampNeg (((1684 : Int32) + ((6 : Int32) * (hI g72 121 (Int32.toNatClampNeg (hI g72 113 21))))) + 4)) l2) fun g75 =>
  bd2 (f_X12_wantSign g75 59) fun r78 h77 =>
  gdv (is01 r78) <|
  some (r78, h77))
  else
  bd2 (f_X12_wantSign h 59) fun r67 h66 =>
  gdv (is01 r67) <|
  some (r67, h66)
noncomputable def f_X12_yearStep_147   : Nat → Int32 → Int32 → Int32 → Int32 → Int32 → HP → Option (Int32 × HP)
  | 0, _, _, _, _, _, _ => none
  | n + 1, l1, l2, l3, l4, l5, h =>
    if 6 ≤ l5 then
    (ltv (uI h 114 1651 ((hI h 114 1651) + 1)) fun g50 =>
    bd1 (f_X12_onward g50) fun h52 =>
    bd2 (f_X12_yearOrder h52 l1 l3) fun r55 h54 =>
    if r55 = (0 : Int32) then
    (some (0, h54))
    else
    if l4 = (0 : Int32) then
    (f_X12_yearStep_222 l1 l2 l3 h54)
    else
    gdi (hI h54 113 21) 3 <|
    ltv (uI h54 121 (Int32.toNatClampNeg (hI h54 113 21)) l2) fun g59 =>
    ltv (uI g59 113 21 ((hI g59 113 21) + 1)) fun g60 =>
    f_X12_yearStep_222 l1 l2 l3 g60)
    else
    gdi (l3 + l5) 2460 <|
    ltv (uI h 114 (Int32.toNatClampNeg (l3 + l5)) 0) fun g62 =>
    ltv (l5 + 1 : Int32) fun x63 =>
    f_X12_yearStep_147 n l1 l2 l3 l4 x63 g62
noncomputable def f_X12_yearStep_117   (l1 : Int32) (l2 : Int32) (l3 : Int32) (l4 : Int32) (h : HP) : Option (Int32 × HP) :=
  if l1 = 17 then
  (ltv (uI h 113 22 ((hI h 113 22) + 0)) fun g46 =>
  gdi l3 2460 <|
  ltv (uI g46 114 (Int32.toNatClampNeg l3) l1) fun g48 =>
  f_X12_yearStep_147 FU l1 l2 l3 l4 1 g48)
  else
  ltv (uI h 113 22 ((hI h 113 22) + 1)) fun g43 =>
  gdi l3 2460 <|
  ltv (uI g43 114 (Int32.toNatClampNeg l3) l1) fun g45 =>
  f_X12_yearStep_147 FU l1 l2 l3 l4 1 g45
noncomputable def f_X12_yearStep_75   (l1 : Int32) (l2 : Int32) (l3 : Int32) (l4 : Int32) (h : HP) : Option (Int32 × HP) :=
  if l1 = 17 then
  (if l4 = (0 : Int32) then
  (f_X12_yearStep_117 l1 l2 l3 l4 h)
  else
  if (hI h 113 21) = 3 then
  (bd2 (f_X12_fails h 7) fun r29 h28 =>
  gdv (is01 r29) <|
  some (r29, h28))
  else
  f_X12_yearStep_117 l1 l2 l3 l4 h)
  else
  if (hI h 113 22) = 30 then
  (bd2 (f_X12_fails h 6) fun r40 h39 =>
  gdv (is01 r40) <|
  some (r40, h39))
  else
  if l4 = (0 : Int32) then
  (f_X12_yearStep_117 l1 l2 l3 l4 h)
  else
  if (hI h 113 21) = 3 then
  (bd2 (f_X12_fails h 7) fun r36 h35 =>
  gdv (is01 r36) <|
  some (r36, h35))
  else
  f_X12_yearStep_117 l1 l2 l3 l4 h
noncomputable def f_X12_yearStep_42   (l1 : Int32) (l2 : Int32) (l3 : Int32) (s0 : Int32) (h : HP) : Option (Int32 × HP) :=
  if l1 < 9 then
  (bd2 (f_X12_fails h 2) fun r11 h10 =>
  gdv (is01 r11) <|
  some (r11, h10))
  else
  if 18 < l1 then
  (bd2 (f_X12_fails h 2) fun r16 h15 =>
  gdv (is01 r16) <|
  some (r16, h15))
  else
  if l1 = 17 then
  (if (hI h 113 21) = (0 : Int32) then
  (bd2 (f_X12_fails h 2) fun r22 h21 =>
  gdv (is01 r22) <|
  some (r22, h21))
  else
  f_X12_yearStep_75 l1 l2 l3 s0 h)
  else
  f_X12_yearStep_75 l1 l2 l3 s0 h
noncomputable def f_X12_yearStep (h : HP)   : Option (Int32 × HP) :=
  bd2 (f_X12_inWords h) fun r3 h2 =>
  ltv ((hI h2 114 1651) : Int32) fun x4 =>
  ltv (((1684 : Int32) + ((6 : Int32) * x4)) : Int32) fun x5 =>
  if r3 = 15 then
  (f_X12_yearStep_42 r3 x4 x5 1 h2)
  else
  if r3 = 16 then
  (f_X12_yearStep_42 r3 x4 x5 1 h2)
  else
  f_X12_yearStep_42 r3 x4 x5 0 h2
noncomputable def f_X12_year_102   : Nat → Int32 → HP → Option (Int32 × HP)
  | 0, _, _ => none
  | n + 1, l3, h =>
    if 405 ≤ l3 then
    (bd2 (f_X12_taken h (hI h 113 22)) fun r34 h33 =>
    some (r34, h33))
    else
    gdi ((1640 : Int32) + l3) 2460 <|
    gdi l3 2460 <|
    ltv (uI h 114 (Int32.toNatClampNeg l3) (hI h 114 (Int32.toNatClampNeg ((1640 : Int32) + l3)))) fun g37 =>
    ltv (l3 + 1 : Int32) fun x38 =>
    f_X12_year_102 n x38 g37
noncomputable def f_X12_year_77    (h : HP) : Option (Int32 × HP) :=
  if (hI h 113 18) = (0 : Int32) then
  (ltv (uI h 114 11 (hI h 114 1651)) fun g30 =>
  f_X12_year_102 FU 44 g30)
  else
  bd2 (f_X12_taken h (hI h 113 22)) fun r29 h28 =>
  some (r29, h28)
noncomputable def f_X12_year_38   : Nat → Int32 → HP → Option (Int32 × HP)
  | 0, _, _ => none
  | n + 1, l2, h =>
    if l2 = (0 : Int32) then
    (if (hI h 113 18) = (0 : Int32) then
    (if (hI h 113 21) ≤ (0 : Int32) then
    (f_X12_year_77 h)
    else
    bd2 (f_X12_fails h 2) fun r16 h15 =>
    f_X12_year_77 h15)
    else
    f_X12_year_77 h)
    else
    if (hI h 113 12) = (0 : Int32) then
    (if (hI h 113 18) = (0 : Int32) then
    (if (hI h 113 21) ≤ (0 : Int32) then
    (f_X12_year_77 h)
    else
    bd2 (f_X12_fails h 2) fun r22 h21 =>
    f_X12_year_77 h21)
    else
    f_X12_year_77 h)
    else
    bd2 (f_X12_yearStep h) fun r25 h24 =>
    f_X12_year_38 n r25 h24
noncomputable def f_X12_year (h : HP)  (a1 : Int32) : Option (Int32 × HP) :=
  bd2 (f_X12_begins h a1 300) fun r3 h2 =>
  if r3 = (0 : Int32) then
  (bd2 (f_X12_refuse h2 1) fun r10 h9 =>
  some (r10, h9))
  else
  ltv (uI h2 114 1651 0) fun g5 =>
  ltv (uI g5 113 21 0) fun g6 =>
  ltv (uI g6 113 22 0) fun g7 =>
  f_X12_year_38 FU 1 g7
noncomputable def f_X12_isPlace (h : HP)  (a1 : Int32) (a2 : Int32) : Option (Int32 × HP) :=
  if a1 < (0 : Int32) then
  (some (0, h))
  else
  if (hI h 114 0) ≤ a1 then
  (some (0, h))
  else
  if a2 < (0 : Int32) then
  (some (0, h))
  else
  if (hI h 114 1) ≤ a2 then
  (some (0, h))
  else
  some (1, h)
noncomputable def f_X12_bitOf (h : HP)  (a1 : Int32) (a2 : Int32) : Option (Int32 × HP) :=
  some (((1 : Int32) <<< ((((hI h 114 0) * a2) + a1) &&& 31)), h)
noncomputable def f_X12_wrongHouse (h : HP)  (a1 : Int32) (a2 : Int32) : Option (Int32 × HP) :=
  bd2 (f_X12_isPlace h a1 a2) fun r3 h2 =>
  if r3 = (0 : Int32) then
  (some (1, h2))
  else
  bd2 (f_X12_bitOf h2 a1 a2) fun r7 h6 =>
  if ((hI h2 114 2) &&& r7) = (0 : Int32) then
  (some (7, h6))
  else
  some (0, h6)
noncomputable def f_X12_wrongLamp (h : HP)  (a1 : Int32) (a2 : Int32) : Option (Int32 × HP) :=
  bd2 (f_X12_wrongHouse h a1 a2) fun r3 h2 =>
  if r3 ≤ (0 : Int32) then
  (bd2 (f_X12_bitOf h2 a1 a2) fun r7 h6 =>
  if ((hI h2 114 4) &&& r7) = (0 : Int32) then
  (some (0, h6))
  else
  some (7, h6))
  else
  bd2 (f_X12_wrongHouse h2 a1 a2) fun r11 h10 =>
  some (r11, h10)
noncomputable def f_X12_places (h : HP)   : Option (Int32 × HP) :=
  some (((hI h 114 0) * (hI h 114 1)), h)
noncomputable def f_X12_free (h : HP)   : Option (Int32 × HP) :=
  some (((hI h 114 2) &&& ((hI h 114 4) ^^^ (-1))), h)
noncomputable def f_X12_whole (h : HP)   : Option (Int32 × HP) :=
  bd2 (f_X12_places h) fun r3 h2 =>
  some ((((1 : Int32) <<< (r3 &&& 31)) - 1), h2)
noncomputable def f_X12_near_132   (l4 : Int32) (h : HP) : Option (Int32 × HP) :=
  some ((l4 &&& (hI h 114 2)), h)
noncomputable def f_X12_near_89   (l1 : Int32) (l2 : Int32) (l3 : Int32) (l4 : Int32) (h : HP) : Option (Int32 × HP) :=
  if l2 ≤ (l3 + 1) then
  (if (hI h 114 9) = 1 then
  (ltv ((l4 ||| ((1 : Int32) <<< (((l1 - l2) + 1) &&& 31))) : Int32) fun x17 =>
  f_X12_near_132 x17 h)
  else
  f_X12_near_132 l4 h)
  else
  ltv ((l4 ||| ((1 : Int32) <<< ((l1 + 1) &&& 31))) : Int32) fun x18 =>
  f_X12_near_132 x18 h
noncomputable def f_X12_near_49   (l1 : Int32) (l2 : Int32) (l3 : Int32) (l4 : Int32) (h : HP) : Option (Int32 × HP) :=
  if l3 ≤ (0 : Int32) then
  (if (hI h 114 9) = 1 then
  (ltv ((l4 ||| ((1 : Int32) <<< (((l1 + l2) - 1) &&& 31))) : Int32) fun x13 =>
  f_X12_near_89 l1 l2 l3 x13 h)
  else
  f_X12_near_89 l1 l2 l3 l4 h)
  else
  ltv ((l4 ||| ((1 : Int32) <<< ((l1 - 1) &&& 31))) : Int32) fun x14 =>
  f_X12_near_89 l1 l2 l3 x14 h
noncomputable def f_X12_near_29   (l1 : Int32) (l2 : Int32) (l3 : Int32) (l4 : Int32) (h : HP) : Option (Int32 × HP) :=
  bd2 (f_X12_places h) fun r8 h7 =>
  if r8 ≤ (l1 + l2) then
  (f_X12_near_49 l1 l2 l3 l4 h7)
  else
  ltv ((l4 ||| ((1 : Int32) <<< ((l1 + l2) &&& 31))) : Int32) fun x10 =>
  f_X12_near_49 l1 l2 l3 x10 h7
noncomputable def f_X12_near (h : HP)  (a1 : Int32) : Option (Int32 × HP) :=
  ltv ((hI h 114 0) : Int32) fun x1 =>
  gdv (¬ x1 = (0 : Int32)) <|
  ltv ((a1 - a1 / x1 * x1) : Int32) fun x3 =>
  if a1 < x1 then
  (f_X12_near_29 a1 x1 x3 0 h)
  else
  ltv (((0 : Int32) ||| ((1 : Int32) <<< ((a1 - x1) &&& 31))) : Int32) fun x5 =>
  f_X12_near_29 a1 x1 x3 x5 h
noncomputable def f_X12_laysNear_2   : Nat → Int32 → HP → Option HP
  | 0, _, _ => none
  | n + 1, l1, h =>
    bd2 (f_X12_places h) fun r3 h2 =>
    if r3 ≤ l1 then
    (some h2)
    else
    bd2 (f_X12_near h2 l1) fun r7 h6 =>
    gdi l1 30 <|
    ltv (uI h6 122 (Int32.toNatClampNeg l1) r7) fun g9 =>
    ltv (l1 + 1 : Int32) fun x10 =>
    f_X12_laysNear_2 n x10 g9
noncomputable def f_X12_laysNear (h : HP)   : Option HP :=
  f_X12_laysNear_2 FU 0 h
noncomputable def f_X12_becomes_30   : Nat → Int32 → Int32 → Int32 → Int32 → Int32 → HP → Option (Int32 × HP)
  | 0, _, _, _, _, _, _ => none
  | n + 1, l1, l2, l3, l4, l5, h =>
    bd2 (f_X12_places h) fun r8 h7 =>
    if r8 ≤ l5 then
    (some (l3, h7))
    else
    if ((l4 >>> (l5 &&& 31)) &&& 1) = (0 : Int32) then
    (ltv (l5 + 1 : Int32) fun x19 =>
    f_X12_becomes_30 n l1 l2 l3 l4 x19 h7)
    else
    gdi (((12 : Int32) + ((2 : Int32) * l2)) + ((l1 >>> (l5 &&& 31)) &&& 1)) 2460 <|
    ltv ((hI h7 114 (Int32.toNatClampNeg (((12 : Int32) + ((2 : Int32) * l2)) + ((l1 >>> (l5 &&& 31)) &&& 1)))) : Int32) fun x12 =>
    gdi l5 30 <|
    bd2 (f_X12_bits h7 ((hI h7 122 (Int32.toNatClampNeg l5)) &&& l1)) fun r16 h15 =>
    ltv ((l3 ||| (((x12 >>> (r16 &&& 31)) &&& 1) <<< (l5 &&& 31))) : Int32) fun x17 =>
    ltv (l5 + 1 : Int32) fun x18 =>
    f_X12_becomes_30 n l1 l2 x17 l4 x18 h15
noncomputable def f_X12_becomes (h : HP)  (a1 : Int32) (a2 : Int32) : Option (Int32 × HP) :=
  ltv (((hI h 114 3) &&& (hI h 114 4)) : Int32) fun x1 =>
  if a2 = (-1) then
  (some (x1, h))
  else
  bd2 (f_X12_free h) fun r5 h4 =>
  f_X12_becomes_30 FU a1 a2 x1 r5 0 h4
noncomputable def f_X12_after_9   : Nat → Int32 → Int32 → Int32 → HP → Option (Int32 × HP)
  | 0, _, _, _, _ => none
  | n + 1, l2, l3, l4, h =>
    if l2 ≤ l4 then
    (some (l3, h))
    else
    bd2 (f_X12_becomes h l3 (hI h 114 10)) fun r6 h5 =>
    ltv (l4 + 1 : Int32) fun x7 =>
    f_X12_after_9 n l2 r6 x7 h5
noncomputable def f_X12_after (h : HP)  (a1 : Int32) (a2 : Int32) : Option (Int32 × HP) :=
  bd1 (f_X12_laysNear h) fun h2 =>
  f_X12_after_9 FU a2 a1 0 h2
noncomputable def f_X12_told (h : HP)  (a1 : Int32) : Option (Int32 × HP) :=
  if a1 < (0 : Int32) then
  (bd2 (f_X12_refuse h 1) fun r4 h3 =>
  some (r4, h3))
  else
  if a1 ≤ 10 then
  (if a1 = 10 then
  (bd2 (f_X12_orNone h (hI h 114 10)) fun r26 h25 =>
  some (r26, h25))
  else
  if a1 < 2 then
  (gdi a1 2460 <|
  bd2 (f_X12_gives h (hI h 114 (Int32.toNatClampNeg a1))) fun r11 h10 =>
  some (r11, h10))
  else
  if 4 < a1 then
  (gdi a1 2460 <|
  bd2 (f_X12_gives h (hI h 114 (Int32.toNatClampNeg a1))) fun r16 h15 =>
  some (r16, h15))
  else
  gdi a1 2460 <|
  bd2 (f_X12_bits h (hI h 114 (Int32.toNatClampNeg a1))) fun r20 h19 =>
  bd2 (f_X12_gives h19 r20) fun r23 h22 =>
  some (r23, h22))
  else
  bd2 (f_X12_refuse h 1) fun r29 h28 =>
  some (r29, h28)
noncomputable def f_X12_picture (h : HP)   : Option (Int64 × HP) :=
  bd2 (f_X12_givesLong h (Int32.toInt64 (hI h 114 3))) fun r3 h2 =>
  some (r3, h2)
noncomputable def f_X12_lamp_19   (l1 : Int32) (l2 : Int32) (l3 : Int32) (s0 : Int32) (h : HP) : Option (Int32 × HP) :=
  if s0 ≤ (0 : Int32) then
  (bd2 (f_X12_near h (((hI h 114 0) * l2) + l1)) fun r9 h8 =>
  bd2 (f_X12_bitOf h8 l1 l2) fun r12 h11 =>
  if l3 = (0 : Int32) then
  (if ((hI h11 114 3) &&& r12) = (0 : Int32) then
  (bd2 (f_X12_gives h11 0) fun r41 h40 =>
  some (r41, h40))
  else
  bd2 (f_X12_gives h11 1) fun r38 h37 =>
  some (r38, h37))
  else
  if l3 = 1 then
  (bd2 (f_X12_bits h11 r9) fun r31 h30 =>
  bd2 (f_X12_gives h30 r31) fun r34 h33 =>
  some (r34, h33))
  else
  if l3 = 2 then
  (bd2 (f_X12_bits h11 (r9 &&& (hI h11 114 3))) fun r25 h24 =>
  bd2 (f_X12_gives h24 r25) fun r28 h27 =>
  some (r28, h27))
  else
  if ((hI h11 114 4) &&& r12) = (0 : Int32) then
  (bd2 (f_X12_gives h11 0) fun r22 h21 =>
  some (r22, h21))
  else
  bd2 (f_X12_gives h11 1) fun r19 h18 =>
  some (r19, h18))
  else
  bd2 (f_X12_refuse h s0) fun r44 h43 =>
  some (r44, h43)
noncomputable def f_X12_lamp (h : HP)  (a1 : Int32) (a2 : Int32) (a3 : Int32) : Option (Int32 × HP) :=
  if a3 < (0 : Int32) then
  (f_X12_lamp_19 a1 a2 a3 1 h)
  else
  if a3 ≤ 3 then
  (bd2 (f_X12_wrongHouse h a1 a2) fun r5 h4 =>
  f_X12_lamp_19 a1 a2 a3 r5 h4)
  else
  f_X12_lamp_19 a1 a2 a3 1 h
noncomputable def f_X12_isRule (h : HP)  (a1 : Int32) : Option (Int32 × HP) :=
  if a1 < (0 : Int32) then
  (some (0, h))
  else
  if (hI h 114 5) ≤ a1 then
  (some (0, h))
  else
  some (1, h)
noncomputable def f_X12_rule (h : HP)  (a1 : Int32) (a2 : Int32) : Option (Int32 × HP) :=
  bd2 (f_X12_isRule h a1) fun r3 h2 =>
  if r3 = (0 : Int32) then
  (bd2 (f_X12_refuse h2 1) fun r7 h6 =>
  some (r7, h6))
  else
  if a2 < (0 : Int32) then
  (bd2 (f_X12_refuse h2 1) fun r11 h10 =>
  some (r11, h10))
  else
  if 1 < a2 then
  (bd2 (f_X12_refuse h2 1) fun r15 h14 =>
  some (r15, h14))
  else
  gdi (((12 : Int32) + ((2 : Int32) * a1)) + a2) 2460 <|
  bd2 (f_X12_gives h2 (hI h2 114 (Int32.toNatClampNeg (((12 : Int32) + ((2 : Int32) * a1)) + a2)))) fun r19 h18 =>
  some (r19, h18)
noncomputable def f_X12_isCitizen (h : HP)  (a1 : Int32) : Option (Int32 × HP) :=
  if a1 < (0 : Int32) then
  (some (0, h))
  else
  if (hI h 114 6) ≤ a1 then
  (some (0, h))
  else
  some (1, h)
noncomputable def f_X12_citizen (h : HP)  (a1 : Int32) (a2 : Int32) : Option (Int32 × HP) :=
  bd2 (f_X12_isCitizen h a1) fun r3 h2 =>
  if r3 = (0 : Int32) then
  (bd2 (f_X12_refuse h2 1) fun r7 h6 =>
  some (r7, h6))
  else
  if a2 < (0 : Int32) then
  (bd2 (f_X12_refuse h2 1) fun r11 h10 =>
  some (r11, h10))
  else
  if 1 < a2 then
  (bd2 (f_X12_refuse h2 1) fun r15 h14 =>
  some (r15, h14))
  else
  gdi (((20 : Int32) + ((2 : Int32) * a1)) + a2) 2460 <|
  bd2 (f_X12_gives h2 (hI h2 114 (Int32.toNatClampNeg (((20 : Int32) + ((2 : Int32) * a1)) + a2)))) fun r19 h18 =>
  some (r19, h18)
noncomputable def f_X12_turn (h : HP)  (a1 : Int32) (a2 : Int32) : Option (Int32 × HP) :=
  bd2 (f_X12_wrongLamp h a1 a2) fun r3 h2 =>
  if r3 ≤ (0 : Int32) then
  (bd2 (f_X12_bitOf h2 a1 a2) fun r7 h6 =>
  ltv (uI h6 114 3 ((hI h2 114 3) ^^^ r7)) fun g8 =>
  bd2 (f_X12_bitOf g8 a1 a2) fun r11 h10 =>
  if ((hI g8 114 3) &&& r11) = (0 : Int32) then
  (bd2 (f_X12_gives h10 0) fun r18 h17 =>
  some (r18, h17))
  else
  bd2 (f_X12_gives h10 1) fun r15 h14 =>
  some (r15, h14))
  else
  bd2 (f_X12_refuse h2 r3) fun r21 h20 =>
  some (r21, h20)
noncomputable def f_X12_paints (h : HP)  (a1 : Int32) : Option (Int32 × HP) :=
  bd2 (f_X12_free h) fun r3 h2 =>
  ltv (uI h2 114 3 (((hI h 114 3) &&& (hI h 114 4)) ||| (a1 &&& r3))) fun g4 =>
  bd2 (f_X12_bits g4 (hI g4 114 3)) fun r7 h6 =>
  some (r7, h6)
noncomputable def f_X12_paint (h : HP)  (a1 : Int64) : Option (Int32 × HP) :=
  bd2 (f_X12_isFrom h a1 0 1073741823) fun r3 h2 =>
  if r3 = (0 : Int32) then
  (bd2 (f_X12_refuse h2 1) fun r7 h6 =>
  some (r7, h6))
  else
  bd2 (f_X12_paints h2 (Int64.toInt32 a1)) fun r10 h9 =>
  bd2 (f_X12_gives h9 r10) fun r13 h12 =>
  some (r13, h12)
noncomputable def f_X12_paintRows_54   : Nat → Int32 → Int32 → Int32 → HP → Option (Int32 × HP)
  | 0, _, _, _, _ => none
  | n + 1, l1, l2, l3, h =>
    if (hI h 114 1) ≤ l3 then
    (bd2 (f_X12_paints h l2) fun r21 h20 =>
    bd2 (f_X12_gives h20 r21) fun r24 h23 =>
    some (r24, h23))
    else
    gdi (((60 : Int32) * l1) + l3) 240 <|
    bd2 (f_X12_isFrom h (hL h 118 (Int32.toNatClampNeg (((60 : Int32) * l1) + l3))) 0 31) fun r28 h27 =>
    if r28 = (0 : Int32) then
    (bd2 (f_X12_refuse h27 5) fun r35 h34 =>
    some (r35, h34))
    else
    gdi (((60 : Int32) * l1) + l3) 240 <|
    ltv ((l2 ||| (((Int64.toInt32 (hL h27 118 (Int32.toNatClampNeg (((60 : Int32) * l1) + l3)))) &&& (((1 : Int32) <<< ((hI h27 114 0) &&& 31)) - 1)) <<< (((hI h27 114 0) * l3) &&& 31))) : Int32) fun x31 =>
    ltv (l3 + 1 : Int32) fun x32 =>
    f_X12_paintRows_54 n l1 x31 x32 h27
noncomputable def f_X12_paintRows (h : HP)  (a1 : Int32) : Option (Int32 × HP) :=
  bd2 (f_X12_isTray h a1) fun r3 h2 =>
  if r3 = (0 : Int32) then
  (bd2 (f_X12_refuse h2 1) fun r17 h16 =>
  some (r17, h16))
  else
  gdi a1 4 <|
  if (hI h2 117 (Int32.toNatClampNeg a1)) = (-1) then
  (bd2 (f_X12_refuse h2 2) fun r14 h13 =>
  some (r14, h13))
  else
  gdi a1 4 <|
  if (hI h2 114 1) ≤ (hI h2 117 (Int32.toNatClampNeg a1)) then
  (f_X12_paintRows_54 FU a1 0 0 h2)
  else
  bd2 (f_X12_refuse h2 3) fun r11 h10 =>
  some (r11, h10)
noncomputable def f_X12_rowOf (h : HP)  (a1 : Int32) (a2 : Int32) : Option (Int32 × HP) :=
  some (((a1 >>> (((hI h 114 0) * a2) &&& 31)) &&& (((1 : Int32) <<< ((hI h 114 0) &&& 31)) - 1)), h)
noncomputable def f_X12_copyRows_52   : Nat → Int32 → Int32 → HP → Option (Int32 × HP)
  | 0, _, _, _ => none
  | n + 1, l1, l2, h =>
    if (hI h 114 1) ≤ l2 then
    (bd2 (f_X12_gives h (hI h 114 1)) fun r21 h20 =>
    some (r21, h20))
    else
    bd2 (f_X12_rowOf h (hI h 114 3) l2) fun r24 h23 =>
    gdi (((60 : Int32) * l1) + l2) 240 <|
    ltv (uL h23 118 (Int32.toNatClampNeg (((60 : Int32) * l1) + l2)) (Int32.toInt64 r24)) fun g26 =>
    ltv (l2 + 1 : Int32) fun x27 =>
    f_X12_copyRows_52 n l1 x27 g26
noncomputable def f_X12_copyRows (h : HP)  (a1 : Int32) : Option (Int32 × HP) :=
  bd2 (f_X12_isTray h a1) fun r3 h2 =>
  if r3 = (0 : Int32) then
  (bd2 (f_X12_refuse h2 1) fun r17 h16 =>
  some (r17, h16))
  else
  gdi a1 4 <|
  if (hI h2 117 (Int32.toNatClampNeg a1)) = (-1) then
  (bd2 (f_X12_refuse h2 2) fun r14 h13 =>
  some (r14, h13))
  else
  gdi a1 4 <|
  if (hI h2 114 1) ≤ (hI h2 117 (Int32.toNatClampNeg a1)) then
  (f_X12_copyRows_52 FU a1 0 h2)
  else
  bd2 (f_X12_refuse h2 3) fun r11 h10 =>
  some (r11, h10)
noncomputable def f_X12_mayor (h : HP)  (a1 : Int32) : Option (Int32 × HP) :=
  bd2 (f_X12_isRule h a1) fun r3 h2 =>
  if r3 = (0 : Int32) then
  (bd2 (f_X12_is h2 1) fun r12 h11 =>
  gdv (is01 r12) <|
  some (r12, h11))
  else
  ltv (uI h2 114 10 a1) fun g5 =>
  bd2 (f_X12_is g5 0) fun r8 h7 =>
  gdv (is01 r8) <|
  some (r8, h7)
noncomputable def f_X12_bend (h : HP)  (a1 : Int32) (a2 : Int32) (a3 : Int32) : Option (Int32 × HP) :=
  bd2 (f_X12_isRule h a1) fun r3 h2 =>
  if r3 = (0 : Int32) then
  (bd2 (f_X12_is h2 1) fun r7 h6 =>
  gdv (is01 r7) <|
  some (r7, h6))
  else
  bd2 (f_X12_isFrom h2 (Int32.toInt64 a2) 0 31) fun r11 h10 =>
  if r11 = (0 : Int32) then
  (bd2 (f_X12_is h10 1) fun r15 h14 =>
  gdv (is01 r15) <|
  some (r15, h14))
  else
  bd2 (f_X12_isFrom h10 (Int32.toInt64 a3) 0 31) fun r19 h18 =>
  if r19 = (0 : Int32) then
  (bd2 (f_X12_is h18 1) fun r31 h30 =>
  gdv (is01 r31) <|
  some (r31, h30))
  else
  gdi ((12 : Int32) + ((2 : Int32) * a1)) 2460 <|
  ltv (uI h18 114 (Int32.toNatClampNeg ((12 : Int32) + ((2 : Int32) * a1))) a2) fun g22 =>
  gdi (((12 : Int32) + ((2 : Int32) * a1)) + 1) 2460 <|
  ltv (uI g22 114 (Int32.toNatClampNeg (((12 : Int32) + ((2 : Int32) * a1)) + 1)) a3) fun g24 =>
  bd2 (f_X12_is g24 0) fun r27 h26 =>
  gdv (is01 r27) <|
  some (r27, h26)
noncomputable def f_X12_goes_24   : Nat → Int32 → Int32 → HP → Option HP
  | 0, _, _, _ => none
  | n + 1, l1, l2, h =>
    bd2 (f_X12_places h) fun r8 h7 =>
    if r8 ≤ l2 then
    (bd2 (f_X12_bits h7 (hI h7 114 3)) fun r12 h11 =>
    ltv (uI h11 114 8 ((hI h7 114 8) + r12)) fun g13 =>
    ltv (uI g13 114 3 l1) fun g14 =>
    ltv (uI g14 114 7 ((hI g14 114 7) + 1)) fun g15 =>
    some g15)
    else
    bd2 (f_X12_free h7) fun r18 h17 =>
    if ((r18 >>> (l2 &&& 31)) &&& 1) = (0 : Int32) then
    (ltv (l2 + 1 : Int32) fun x29 =>
    f_X12_goes_24 n l1 x29 h17)
    else
    gdi l2 30 <|
    bd2 (f_X12_bits h17 ((hI h17 122 (Int32.toNatClampNeg l2)) &&& (hI h17 114 3))) fun r23 h22 =>
    ltv ((((32 : Int32) + ((5 : Int32) * (((hI h17 114 3) >>> (l2 &&& 31)) &&& 1))) + r23) : Int32) fun x24 =>
    gdi x24 2460 <|
    gdi x24 2460 <|
    ltv (uI h22 114 (Int32.toNatClampNeg x24) ((hI h22 114 (Int32.toNatClampNeg x24)) ||| ((1 : Int32) <<< (((l1 >>> (l2 &&& 31)) &&& 1) &&& 31)))) fun g27 =>
    ltv (l2 + 1 : Int32) fun x28 =>
    f_X12_goes_24 n l1 x28 g27
noncomputable def f_X12_goes (h : HP)   : Option HP :=
  bd1 (f_X12_laysNear h) fun h2 =>
  bd2 (f_X12_becomes h2 (hI h2 114 3) (hI h2 114 10)) fun r5 h4 =>
  f_X12_goes_24 FU r5 0 h4
noncomputable def f_X12_night_20   : Nat → Int32 → Int32 → HP → Option (Int32 × HP)
  | 0, _, _, _ => none
  | n + 1, l1, l2, h =>
    if l1 ≤ l2 then
    (bd2 (f_X12_bits h (hI h 114 3)) fun r11 h10 =>
    bd2 (f_X12_gives h10 r11) fun r14 h13 =>
    some (r14, h13))
    else
    bd1 (f_X12_goes h) fun h16 =>
    ltv (l2 + 1 : Int32) fun x17 =>
    f_X12_night_20 n l1 x17 h16
noncomputable def f_X12_night (h : HP)  (a1 : Int32) : Option (Int32 × HP) :=
  bd2 (f_X12_isFrom h (Int32.toInt64 a1) 1 999) fun r3 h2 =>
  if r3 = (0 : Int32) then
  (bd2 (f_X12_refuse h2 1) fun r7 h6 =>
  some (r7, h6))
  else
  f_X12_night_20 FU a1 0 h2
noncomputable def f_X12_ahead (h : HP)  (a1 : Int32) : Option (Int64 × HP) :=
  bd2 (f_X12_isFrom h (Int32.toInt64 a1) 0 999) fun r3 h2 =>
  if r3 = (0 : Int32) then
  (bd2 (f_X12_refuse h2 1) fun r7 h6 =>
  some ((Int32.toInt64 r7), h6))
  else
  bd2 (f_X12_after h2 (hI h2 114 3) a1) fun r10 h9 =>
  bd2 (f_X12_givesLong h9 (Int32.toInt64 r10)) fun r13 h12 =>
  some (r13, h12)
noncomputable def f_X12_comesAgain_52  (K18 : Int32 → HP → Option (Int32 × HP)) : Nat → Int32 → Int32 → HP → Option (Int32 × HP)
  | 0, _, _, _ => none
  | n + 1, l1, l2, h =>
    if l1 ≤ l2 then
    (ltv (l1 + 1 : Int32) fun x12 =>
    K18 x12 h)
    else
    gdi l2 2001 <|
    gdi l1 2001 <|
    if (hI h 123 (Int32.toNatClampNeg l2)) = (hI h 123 (Int32.toNatClampNeg l1)) then
    (ltv (uI h 113 25 l2) fun g16 =>
    ltv (uI g16 113 26 (l1 - l2)) fun g17 =>
    some (1, g17))
    else
    ltv (l2 + 1 : Int32) fun x18 =>
    f_X12_comesAgain_52 K18 n l1 x18 h
noncomputable def f_X12_comesAgain_18   : Nat → Int32 → HP → Option (Int32 × HP)
  | 0, _, _ => none
  | n + 1, l1, h =>
    if 2000 < l1 then
    (some (0, h))
    else
    gdi (l1 - 1) 2001 <|
    bd2 (f_X12_becomes h (hI h 123 (Int32.toNatClampNeg (l1 - 1))) (hI h 114 10)) fun r8 h7 =>
    gdi l1 2001 <|
    ltv (uI h7 123 (Int32.toNatClampNeg l1) r8) fun g10 =>
    f_X12_comesAgain_52 (f_X12_comesAgain_18 n) FU l1 0 g10
noncomputable def f_X12_comesAgain (h : HP)   : Option (Int32 × HP) :=
  bd1 (f_X12_laysNear h) fun h2 =>
  ltv (uI h2 123 0 (hI h2 114 3)) fun g3 =>
  f_X12_comesAgain_18 FU 1 g3
noncomputable def f_X12_again (h : HP)  (a1 : Int32) : Option (Int32 × HP) :=
  if a1 < (0 : Int32) then
  (bd2 (f_X12_refuse h 1) fun r4 h3 =>
  some (r4, h3))
  else
  if a1 ≤ 1 then
  (bd2 (f_X12_comesAgain h) fun r8 h7 =>
  if r8 = (0 : Int32) then
  (bd2 (f_X12_refuse h7 7) fun r12 h11 =>
  some (r12, h11))
  else
  if a1 = (0 : Int32) then
  (bd2 (f_X12_gives h7 (hI h7 113 25)) fun r19 h18 =>
  some (r19, h18))
  else
  bd2 (f_X12_gives h7 (hI h7 113 26)) fun r16 h15 =>
  some (r16, h15))
  else
  bd2 (f_X12_refuse h 1) fun r22 h21 =>
  some (r22, h21)
noncomputable def f_X12_far (h : HP)  (a1 : Int32) : Option (Int64 × HP) :=
  bd2 (f_X12_isFrom h (Int32.toInt64 a1) 0 999999999) fun r3 h2 =>
  if r3 = (0 : Int32) then
  (bd2 (f_X12_refuse h2 1) fun r24 h23 =>
  some ((Int32.toInt64 r24), h23))
  else
  bd2 (f_X12_comesAgain h2) fun r7 h6 =>
  if r7 = (0 : Int32) then
  (bd2 (f_X12_refuse h6 7) fun r21 h20 =>
  some ((Int32.toInt64 r21), h20))
  else
  if (hI h6 113 25) ≤ a1 then
  (gdv (¬ (hI h6 113 26) = (0 : Int32)) <|
  gdi ((hI h6 113 25) + ((a1 - (hI h6 113 25)) - (a1 - (hI h6 113 25)) / (hI h6 113 26) * (hI h6 113 26))) 2001 <|
  bd2 (f_X12_givesLong h6 (Int32.toInt64 (hI h6 123 (Int32.toNatClampNeg ((hI h6 113 25) + ((a1 - (hI h6 113 25)) - (a1 - (hI h6 113 25)) / (hI h6 113 26) * (hI h6 113 26))))))) fun r14 h13 =>
  some (r14, h13))
  else
  gdi a1 2001 <|
  bd2 (f_X12_givesLong h6 (Int32.toInt64 (hI h6 123 (Int32.toNatClampNeg a1)))) fun r18 h17 =>
  some (r18, h17)
noncomputable def f_X12_moved_6   : Nat → Int32 → Int32 → Int32 → Int32 → Int32 → HP → Option (Int32 × HP)
  | 0, _, _, _, _, _, _ => none
  | n + 1, l1, l2, l3, l4, l5, h =>
    bd2 (f_X12_places h) fun r3 h2 =>
    if r3 ≤ l5 then
    (some (l4, h2))
    else
    if ((l1 >>> (l5 &&& 31)) &&& 1) = (0 : Int32) then
    (ltv (l5 + 1 : Int32) fun x19 =>
    f_X12_moved_6 n l1 l2 l3 l4 x19 h2)
    else
    gdv (¬ (hI h2 114 0) = (0 : Int32)) <|
    ltv (((l5 - l5 / (hI h2 114 0) * (hI h2 114 0)) + l2) : Int32) fun x7 =>
    gdv (¬ (hI h2 114 0) = (0 : Int32)) <|
    ltv (((l5 / (hI h2 114 0)) + l3) : Int32) fun x9 =>
    bd2 (f_X12_isPlace h2 x7 x9) fun r12 h11 =>
    if r12 = (0 : Int32) then
    (some ((-1), h11))
    else
    bd2 (f_X12_bitOf h11 x7 x9) fun r16 h15 =>
    ltv ((l4 ||| r16) : Int32) fun x17 =>
    ltv (l5 + 1 : Int32) fun x18 =>
    f_X12_moved_6 n l1 l2 l3 x17 x18 h15
noncomputable def f_X12_moved (h : HP)  (a1 : Int32) (a2 : Int32) (a3 : Int32) : Option (Int32 × HP) :=
  f_X12_moved_6 FU a1 a2 a3 0 0 h
noncomputable def f_X12_walks_77  (K67 : Int32 → Int32 → Int32 → Int32 → HP → Option (Int32 × HP)) : Nat → Int32 → Int32 → Int32 → Int32 → Int32 → HP → Option (Int32 × HP)
  | 0, _, _, _, _, _, _ => none
  | n + 1, l1, l2, l3, l4, l5, h =>
    if 4 < l5 then
    (ltv (l4 + 1 : Int32) fun x26 =>
    K67 l1 l2 l3 x26 h)
    else
    bd2 (f_X12_moved h (hI h 114 3) l5 l4) fun r29 h28 =>
    if r29 = l2 then
    (if l1 = (0 : Int32) then
    (bd2 (f_X12_gives h28 l3) fun r42 h41 =>
    some (r42, h41))
    else
    if l1 = 1 then
    (bd2 (f_X12_gives h28 l5) fun r39 h38 =>
    some (r39, h38))
    else
    bd2 (f_X12_gives h28 l4) fun r36 h35 =>
    some (r36, h35))
    else
    ltv (l5 + 1 : Int32) fun x31 =>
    f_X12_walks_77 K67 n l1 l2 l3 l4 x31 h28
noncomputable def f_X12_walks_67  (K44 : Int32 → Int32 → Int32 → HP → Option (Int32 × HP)) : Nat → Int32 → Int32 → Int32 → Int32 → HP → Option (Int32 × HP)
  | 0, _, _, _, _, _ => none
  | n + 1, l1, l2, l3, l4, h =>
    if 5 < l4 then
    (ltv (l3 + 1 : Int32) fun x24 =>
    K44 l1 l2 x24 h)
    else
    f_X12_walks_77 (f_X12_walks_67 K44 n) FU l1 l2 l3 l4 (-4) h
noncomputable def f_X12_walks_44   : Nat → Int32 → Int32 → Int32 → HP → Option (Int32 × HP)
  | 0, _, _, _, _ => none
  | n + 1, l1, l2, l3, h =>
    if 60 < l3 then
    (bd2 (f_X12_refuse h 6) fun r19 h18 =>
    some (r19, h18))
    else
    bd2 (f_X12_becomes h l2 (hI h 114 10)) fun r22 h21 =>
    f_X12_walks_67 (f_X12_walks_44 n) FU l1 r22 l3 (-5) h21
noncomputable def f_X12_walks (h : HP)  (a1 : Int32) : Option (Int32 × HP) :=
  if a1 < (0 : Int32) then
  (bd2 (f_X12_refuse h 1) fun r4 h3 =>
  some (r4, h3))
  else
  if a1 ≤ 2 then
  (if (hI h 114 3) = (0 : Int32) then
  (bd2 (f_X12_refuse h 6) fun r12 h11 =>
  some (r12, h11))
  else
  bd1 (f_X12_laysNear h) fun h8 =>
  ltv ((hI h8 114 3) : Int32) fun x9 =>
  f_X12_walks_44 FU a1 x9 1 h8)
  else
  bd2 (f_X12_refuse h 1) fun r15 h14 =>
  some (r15, h14)
noncomputable def f_X12_isStill (h : HP)   : Option (Int32 × HP) :=
  bd2 (f_X12_after h (hI h 114 3) 1) fun r3 h2 =>
  if r3 = (hI h2 114 3) then
  (some (1, h2))
  else
  some (0, h2)
noncomputable def f_X12_still (h : HP)   : Option (Int32 × HP) :=
  bd2 (f_X12_isStill h) fun r3 h2 =>
  if r3 = (0 : Int32) then
  (bd2 (f_X12_gives h2 0) fun r7 h6 =>
  some (r7, h6))
  else
  bd2 (f_X12_gives h2 1) fun r10 h9 =>
  some (r10, h9)
noncomputable def f_X12_next (h : HP)  (a1 : Int32) : Option (Int32 × HP) :=
  if a1 < (0 : Int32) then
  (bd2 (f_X12_refuse h 1) fun r4 h3 =>
  some (r4, h3))
  else
  if a1 ≤ 2 then
  (bd2 (f_X12_after h (hI h 114 3) 1) fun r8 h7 =>
  if a1 = (0 : Int32) then
  (bd2 (f_X12_bits h7 (r8 &&& ((hI h7 114 3) ^^^ (-1)))) fun r25 h24 =>
  bd2 (f_X12_gives h24 r25) fun r28 h27 =>
  some (r28, h27))
  else
  if a1 = 1 then
  (bd2 (f_X12_bits h7 ((hI h7 114 3) &&& (r8 ^^^ (-1)))) fun r19 h18 =>
  bd2 (f_X12_gives h18 r19) fun r22 h21 =>
  some (r22, h21))
  else
  bd2 (f_X12_bits h7 ((hI h7 114 3) &&& r8)) fun r13 h12 =>
  bd2 (f_X12_gives h12 r13) fun r16 h15 =>
  some (r16, h15))
  else
  bd2 (f_X12_refuse h 1) fun r31 h30 =>
  some (r31, h30)
noncomputable def f_X12_oil_34   : Nat → Int32 → Int32 → Int32 → HP → Option (Int32 × HP)
  | 0, _, _, _, _ => none
  | n + 1, l2, l3, l4, h =>
    if 999 ≤ l4 then
    (bd2 (f_X12_gives h l4) fun r14 h13 =>
    some (r14, h13))
    else
    bd2 (f_X12_bits h l2) fun r17 h16 =>
    if l3 < r17 then
    (bd2 (f_X12_gives h16 l4) fun r21 h20 =>
    some (r21, h20))
    else
    bd2 (f_X12_bits h16 l2) fun r24 h23 =>
    ltv ((l3 - r24) : Int32) fun x25 =>
    bd2 (f_X12_becomes h23 l2 (hI h23 114 10)) fun r28 h27 =>
    ltv (l4 + 1 : Int32) fun x29 =>
    f_X12_oil_34 n r28 x25 x29 h27
noncomputable def f_X12_oil (h : HP)  (a1 : Int32) : Option (Int32 × HP) :=
  bd2 (f_X12_isFrom h (Int32.toInt64 a1) 0 9999) fun r3 h2 =>
  if r3 = (0 : Int32) then
  (bd2 (f_X12_refuse h2 1) fun r10 h9 =>
  some (r10, h9))
  else
  bd1 (f_X12_laysNear h2) fun h6 =>
  ltv ((hI h6 114 3) : Int32) fun x7 =>
  f_X12_oil_34 FU x7 a1 0 h6
noncomputable def f_X12_brightest_37   : Nat → Int32 → Int32 → Int32 → Int32 → HP → Option (Int32 × HP)
  | 0, _, _, _, _, _ => none
  | n + 1, l1, l2, l3, l4, h =>
    if l1 ≤ l4 then
    (bd2 (f_X12_gives h l3) fun r17 h16 =>
    some (r17, h16))
    else
    bd2 (f_X12_becomes h l2 (hI h 114 10)) fun r20 h19 =>
    bd2 (f_X12_bits h19 r20) fun r23 h22 =>
    ltv ((if l3 < r23 then r23 else l3) : Int32) fun x24 =>
    ltv (l4 + 1 : Int32) fun x25 =>
    f_X12_brightest_37 n l1 r20 x24 x25 h22
noncomputable def f_X12_brightest (h : HP)  (a1 : Int32) : Option (Int32 × HP) :=
  bd2 (f_X12_isFrom h (Int32.toInt64 a1) 0 999) fun r3 h2 =>
  if r3 = (0 : Int32) then
  (bd2 (f_X12_refuse h2 1) fun r13 h12 =>
  some (r13, h12))
  else
  bd1 (f_X12_laysNear h2) fun h6 =>
  ltv ((hI h6 114 3) : Int32) fun x7 =>
  bd2 (f_X12_bits h6 x7) fun r10 h9 =>
  f_X12_brightest_37 FU a1 x7 r10 0 h9
noncomputable def f_X12_fitsRow (h : HP)  (a1 : Int32) (a2 : Int32) : Option (Int32 × HP) :=
  bd2 (f_X12_rowOf h (hI h 114 2) a2) fun r3 h2 =>
  bd2 (f_X12_rowOf h2 (hI h2 114 4) a2) fun r6 h5 =>
  if (a1 &&& (r3 ^^^ (-1))) = (0 : Int32) then
  (bd2 (f_X12_rowOf h5 (hI h5 114 3) a2) fun r10 h9 =>
  if (a1 &&& r6) = (r10 &&& r6) then
  (some (1, h9))
  else
  some (0, h9))
  else
  some (0, h5)
noncomputable def f_X12_rowBecomes_196  (K56 : Int32 → Int32 → Int32 → Int32 → Int32 → Int32 → Int32 → Int32 → HP → Option (Int32 × HP)) (l1 : Int32) (l2 : Int32) (l3 : Int32) (l5 : Int32) (l6 : Int32) (l7 : Int32) (l8 : Int32) (l9 : Int32) (l10 : Int32) (h : HP) : Option (Int32 × HP) :=
  gdi (((12 : Int32) + ((2 : Int32) * (hI h 114 10))) + ((l2 >>> (l9 &&& 31)) &&& 1)) 2460 <|
  ltv ((l8 ||| ((((hI h 114 (Int32.toNatClampNeg (((12 : Int32) + ((2 : Int32) * (hI h 114 10))) + ((l2 >>> (l9 &&& 31)) &&& 1)))) >>> (l10 &&& 31)) &&& 1) <<< (l9 &&& 31))) : Int32) fun x26 =>
  ltv (l9 + 1 : Int32) fun x27 =>
  K56 l1 l2 l3 l5 l6 l7 x26 x27 h
noncomputable def f_X12_rowBecomes_152  (K56 : Int32 → Int32 → Int32 → Int32 → Int32 → Int32 → Int32 → Int32 → HP → Option (Int32 × HP)) (l1 : Int32) (l2 : Int32) (l3 : Int32) (l5 : Int32) (l6 : Int32) (l7 : Int32) (l8 : Int32) (l9 : Int32) (l10 : Int32) (h : HP) : Option (Int32 × HP) :=
  if l5 ≤ (l9 + 1) then
  (if (hI h 114 9) = 1 then
  (ltv ((l10 + (l2 &&& 1)) : Int32) fun x23 =>
  f_X12_rowBecomes_196 K56 l1 l2 l3 l5 l6 l7 l8 l9 x23 h)
  else
  f_X12_rowBecomes_196 K56 l1 l2 l3 l5 l6 l7 l8 l9 l10 h)
  else
  ltv ((l10 + ((l2 >>> ((l9 + 1) &&& 31)) &&& 1)) : Int32) fun x24 =>
  f_X12_rowBecomes_196 K56 l1 l2 l3 l5 l6 l7 l8 l9 x24 h
noncomputable def f_X12_rowBecomes_56   : Nat → Int32 → Int32 → Int32 → Int32 → Int32 → Int32 → Int32 → Int32 → HP → Option (Int32 × HP)
  | 0, _, _, _, _, _, _, _, _, _ => none
  | n + 1, l1, l2, l3, l5, l6, l7, l8, l9, h =>
    if l5 ≤ l9 then
    (some (l8, h))
    else
    if (hI h 114 10) = (-1) then
    (some (l8, h))
    else
    if ((l7 &&& (l6 ^^^ (-1))) &&& ((1 : Int32) <<< (l9 &&& 31))) = (0 : Int32) then
    (ltv (l9 + 1 : Int32) fun x20 =>
    f_X12_rowBecomes_56 n l1 l2 l3 l5 l6 l7 l8 x20 h)
    else
    ltv ((((l1 >>> (l9 &&& 31)) &&& 1) + ((l3 >>> (l9 &&& 31)) &&& 1)) : Int32) fun x15 =>
    if l9 ≤ (0 : Int32) then
    (if (hI h 114 9) = 1 then
    (ltv ((x15 + ((l2 >>> ((l5 - 1) &&& 31)) &&& 1)) : Int32) fun x18 =>
    f_X12_rowBecomes_152 (f_X12_rowBecomes_56 n) l1 l2 l3 l5 l6 l7 l8 l9 x18 h)
    else
    f_X12_rowBecomes_152 (f_X12_rowBecomes_56 n) l1 l2 l3 l5 l6 l7 l8 l9 x15 h)
    else
    ltv ((x15 + ((l2 >>> ((l9 - 1) &&& 31)) &&& 1)) : Int32) fun x19 =>
    f_X12_rowBecomes_152 (f_X12_rowBecomes_56 n) l1 l2 l3 l5 l6 l7 l8 l9 x19 h
noncomputable def f_X12_rowBecomes (h : HP)  (a1 : Int32) (a2 : Int32) (a3 : Int32) (a4 : Int32) : Option (Int32 × HP) :=
  ltv ((hI h 114 0) : Int32) fun x1 =>
  bd2 (f_X12_rowOf h (hI h 114 4) a4) fun r4 h3 =>
  bd2 (f_X12_rowOf h3 (hI h3 114 2) a4) fun r7 h6 =>
  bd2 (f_X12_rowOf h6 (hI h6 114 3) a4) fun r10 h9 =>
  ltv ((r10 &&& r4) : Int32) fun x11 =>
  f_X12_rowBecomes_56 FU a1 a2 a3 x1 r4 r7 x11 0 h9
noncomputable def f_X12_isGood (h : HP)  (a1 : Int32) (a2 : Int32) (a3 : Int32) (a4 : Int32) (a5 : Int32) : Option (Int32 × HP) :=
  bd2 (f_X12_rowBecomes h a1 a2 a3 a4) fun r3 h2 =>
  if a5 = (0 : Int32) then
  (bd2 (f_X12_rowOf h2 (hI h2 114 3) a4) fun r7 h6 =>
  if r3 = r7 then
  (some (1, h6))
  else
  some (0, h6))
  else
  if r3 = a2 then
  (some (1, h2))
  else
  some (0, h2)
noncomputable def f_X12_reckons_180  (K150 : Int32 → Int32 → Int32 → Int32 → Int32 → HP → Option (Int64 × HP)) : Nat → Int32 → Int32 → Int32 → Int32 → Int32 → Int32 → HP → Option (Int64 × HP)
  | 0, _, _, _, _, _, _, _ => none
  | n + 1, l1, l2, l3, l4, l5, l6, h =>
    if l2 ≤ l6 then
    (ltv (l5 + 1 : Int32) fun x38 =>
    K150 l1 l2 l3 l4 x38 h)
    else
    bd2 (f_X12_fitsRow h l6 l3) fun r41 h40 =>
    if r41 = (0 : Int32) then
    (ltv (l6 + 1 : Int32) fun x43 =>
    f_X12_reckons_180 K150 n l1 l2 l3 l4 l5 x43 h40)
    else
    bd2 (f_X12_isGood h40 l4 l5 l6 (l3 - 1) l1) fun r46 h45 =>
    if r46 = (0 : Int32) then
    (ltv (l6 + 1 : Int32) fun x48 =>
    f_X12_reckons_180 K150 n l1 l2 l3 l4 l5 x48 h45)
    else
    ltv ((((32 : Int32) * l5) + l6) : Int32) fun x49 =>
    gdi x49 1024 <|
    gdi (((32 : Int32) * l4) + l5) 1024 <|
    gdi x49 1024 <|
    ltv (uL h45 125 (Int32.toNatClampNeg x49) ((hL h45 125 (Int32.toNatClampNeg x49)) + (hL h45 124 (Int32.toNatClampNeg (((32 : Int32) * l4) + l5))))) fun g53 =>
    ltv (l6 + 1 : Int32) fun x54 =>
    f_X12_reckons_180 K150 n l1 l2 l3 l4 l5 x54 g53
noncomputable def f_X12_reckons_150  (K141 : Int32 → Int32 → Int32 → Int32 → HP → Option (Int64 × HP)) : Nat → Int32 → Int32 → Int32 → Int32 → Int32 → HP → Option (Int64 × HP)
  | 0, _, _, _, _, _, _ => none
  | n + 1, l1, l2, l3, l4, l5, h =>
    if l2 ≤ l5 then
    (ltv (l4 + 1 : Int32) fun x33 =>
    K141 l1 l2 l3 x33 h)
    else
    gdi (((32 : Int32) * l4) + l5) 1024 <|
    if (lg_cmp (hL h 124 (Int32.toNatClampNeg (((32 : Int32) * l4) + l5))) 0) = (0 : Int32) then
    (ltv (l5 + 1 : Int32) fun x36 =>
    f_X12_reckons_150 K141 n l1 l2 l3 l4 x36 h)
    else
    f_X12_reckons_180 (f_X12_reckons_150 K141 n) FU l1 l2 l3 l4 l5 0 h
noncomputable def f_X12_reckons_263  (K103 : Int32 → Int32 → Int32 → HP → Option (Int64 × HP)) : Nat → Int32 → Int32 → Int32 → Int32 → HP → Option (Int64 × HP)
  | 0, _, _, _, _, _ => none
  | n + 1, l1, l2, l3, l4, h =>
    if 1024 ≤ l4 then
    (ltv (l3 + 1 : Int32) fun x56 =>
    K103 l1 l2 x56 h)
    else
    gdi l4 1024 <|
    gdi l4 1024 <|
    ltv (uL h 124 (Int32.toNatClampNeg l4) (hL h 125 (Int32.toNatClampNeg l4))) fun g59 =>
    gdi l4 1024 <|
    if (lg_cmp (hL g59 124 (Int32.toNatClampNeg l4)) 0) ≤ (0 : Int32) then
    (gdi (((1024 : Int32) * l3) + l4) 6144 <|
    ltv (uI g59 126 (Int32.toNatClampNeg (((1024 : Int32) * l3) + l4)) 0) fun g63 =>
    ltv (l4 + 1 : Int32) fun x64 =>
    f_X12_reckons_263 K103 n l1 l2 l3 x64 g63)
    else
    gdi (((1024 : Int32) * l3) + l4) 6144 <|
    ltv (uI g59 126 (Int32.toNatClampNeg (((1024 : Int32) * l3) + l4)) 1) fun g66 =>
    ltv (l4 + 1 : Int32) fun x67 =>
    f_X12_reckons_263 K103 n l1 l2 l3 x67 g66
noncomputable def f_X12_reckons_141  (K103 : Int32 → Int32 → Int32 → HP → Option (Int64 × HP)) : Nat → Int32 → Int32 → Int32 → Int32 → HP → Option (Int64 × HP)
  | 0, _, _, _, _, _ => none
  | n + 1, l1, l2, l3, l4, h =>
    if l2 ≤ l4 then
    (f_X12_reckons_263 K103 FU l1 l2 l3 0 h)
    else
    f_X12_reckons_150 (f_X12_reckons_141 K103 n) FU l1 l2 l3 l4 0 h
noncomputable def f_X12_reckons_116  (K103 : Int32 → Int32 → Int32 → HP → Option (Int64 × HP)) : Nat → Int32 → Int32 → Int32 → Int32 → HP → Option (Int64 × HP)
  | 0, _, _, _, _, _ => none
  | n + 1, l1, l2, l3, l4, h =>
    if 1024 ≤ l4 then
    (f_X12_reckons_141 K103 FU l1 l2 l3 0 h)
    else
    gdi l4 1024 <|
    ltv (uL h 125 (Int32.toNatClampNeg l4) 0) fun g29 =>
    ltv (l4 + 1 : Int32) fun x30 =>
    f_X12_reckons_116 K103 n l1 l2 l3 x30 g29
noncomputable def f_X12_reckons_341  (K332 : Int32 → Int32 → Int64 → Int32 → HP → Option (Int64 × HP)) : Nat → Int32 → Int32 → Int64 → Int32 → Int32 → HP → Option (Int64 × HP)
  | 0, _, _, _, _, _, _ => none
  | n + 1, l1, l2, l3, l5, l6, h =>
    if l2 ≤ l6 then
    (ltv (l5 + 1 : Int32) fun x70 =>
    K332 l1 l2 l3 x70 h)
    else
    gdi (((32 : Int32) * l5) + l6) 1024 <|
    if (lg_cmp (hL h 124 (Int32.toNatClampNeg (((32 : Int32) * l5) + l6))) 0) ≤ (0 : Int32) then
    (ltv ((l3 + 0) : Int64) fun x73 =>
    ltv (l6 + 1 : Int32) fun x74 =>
    f_X12_reckons_341 K332 n l1 l2 x73 l5 x74 h)
    else
    bd2 (f_X12_isGood h l5 l6 0 ((hI h 114 1) - 1) l1) fun r77 h76 =>
    if r77 = (0 : Int32) then
    (ltv ((l3 + 0) : Int64) fun x79 =>
    ltv (l6 + 1 : Int32) fun x80 =>
    f_X12_reckons_341 K332 n l1 l2 x79 l5 x80 h76)
    else
    gdi (((32 : Int32) * l5) + l6) 1024 <|
    ltv ((l3 + (hL h76 124 (Int32.toNatClampNeg (((32 : Int32) * l5) + l6)))) : Int64) fun x82 =>
    ltv (l6 + 1 : Int32) fun x83 =>
    f_X12_reckons_341 K332 n l1 l2 x82 l5 x83 h76
noncomputable def f_X12_reckons_332   : Nat → Int32 → Int32 → Int64 → Int32 → HP → Option (Int64 × HP)
  | 0, _, _, _, _, _ => none
  | n + 1, l1, l2, l3, l5, h =>
    if l2 ≤ l5 then
    (some (l3, h))
    else
    f_X12_reckons_341 (f_X12_reckons_332 n) FU l1 l2 l3 l5 0 h
noncomputable def f_X12_reckons_103   : Nat → Int32 → Int32 → Int32 → HP → Option (Int64 × HP)
  | 0, _, _, _, _ => none
  | n + 1, l1, l2, l3, h =>
    if (hI h 114 1) ≤ l3 then
    (f_X12_reckons_332 FU l1 l2 0 0 h)
    else
    f_X12_reckons_116 (f_X12_reckons_103 n) FU l1 l2 l3 0 h
noncomputable def f_X12_reckons_66   : Nat → Int32 → Int32 → Int32 → HP → Option (Int64 × HP)
  | 0, _, _, _, _ => none
  | n + 1, l1, l2, l3, h =>
    if 1024 ≤ l3 then
    (f_X12_reckons_103 FU l1 l2 1 h)
    else
    gdi l3 1024 <|
    if (lg_cmp (hL h 124 (Int32.toNatClampNeg l3)) 0) ≤ (0 : Int32) then
    (gdi l3 6144 <|
    ltv (uI h 126 (Int32.toNatClampNeg l3) 0) fun g21 =>
    ltv (l3 + 1 : Int32) fun x22 =>
    f_X12_reckons_66 n l1 l2 x22 g21)
    else
    gdi l3 6144 <|
    ltv (uI h 126 (Int32.toNatClampNeg l3) 1) fun g24 =>
    ltv (l3 + 1 : Int32) fun x25 =>
    f_X12_reckons_66 n l1 l2 x25 g24
noncomputable def f_X12_reckons_33   : Nat → Int32 → Int32 → Int32 → HP → Option (Int64 × HP)
  | 0, _, _, _, _ => none
  | n + 1, l1, l2, l3, h =>
    if l2 ≤ l3 then
    (f_X12_reckons_66 FU l1 l2 0 h)
    else
    bd2 (f_X12_fitsRow h l3 0) fun r9 h8 =>
    if r9 = (0 : Int32) then
    (gdi l3 1024 <|
    ltv (uL h8 124 (Int32.toNatClampNeg l3) 0) fun g12 =>
    ltv (l3 + 1 : Int32) fun x13 =>
    f_X12_reckons_33 n l1 l2 x13 g12)
    else
    gdi l3 1024 <|
    ltv (uL h8 124 (Int32.toNatClampNeg l3) 1) fun g15 =>
    ltv (l3 + 1 : Int32) fun x16 =>
    f_X12_reckons_33 n l1 l2 x16 g15
noncomputable def f_X12_reckons_11   : Nat → Int32 → Int32 → Int32 → HP → Option (Int64 × HP)
  | 0, _, _, _, _ => none
  | n + 1, l1, l2, l3, h =>
    if 1024 ≤ l3 then
    (f_X12_reckons_33 FU l1 l2 0 h)
    else
    gdi l3 1024 <|
    ltv (uL h 124 (Int32.toNatClampNeg l3) 0) fun g4 =>
    ltv (l3 + 1 : Int32) fun x5 =>
    f_X12_reckons_11 n l1 l2 x5 g4
noncomputable def f_X12_reckons (h : HP)  (a1 : Int32) : Option (Int64 × HP) :=
  ltv (((1 : Int32) <<< ((hI h 114 0) &&& 31)) : Int32) fun x1 =>
  f_X12_reckons_11 FU a1 x1 0 h
noncomputable def f_X12_aboveOf_21  (K3 : Int32 → Int32 → Int32 → Int32 → Int32 → HP → Option (Int32 × HP)) (l1 : Int32) (l2 : Int32) (l3 : Int32) (l4 : Int32) (l5 : Int32) (s0 : Int32) (s1 : Int32) (h : HP) : Option (Int32 × HP) :=
  if s1 ≤ s0 then
  (some ((-1), h))
  else
  gdi ((((1024 : Int32) * l3) + ((32 : Int32) * l5)) + l1) 6144 <|
  if (hI h 126 (Int32.toNatClampNeg ((((1024 : Int32) * l3) + ((32 : Int32) * l5)) + l1))) = 1 then
  (bd2 (f_X12_isGood h l5 l1 l2 l3 l4) fun r8 h7 =>
  if r8 = (0 : Int32) then
  (ltv (l5 + 1 : Int32) fun x10 =>
  K3 l1 l2 l3 l4 x10 h7)
  else
  some (l5, h7))
  else
  ltv (l5 + 1 : Int32) fun x5 =>
  K3 l1 l2 l3 l4 x5 h
noncomputable def f_X12_aboveOf_3   : Nat → Int32 → Int32 → Int32 → Int32 → Int32 → HP → Option (Int32 × HP)
  | 0, _, _, _, _, _, _ => none
  | n + 1, l1, l2, l3, l4, l5, h =>
    if l3 = (0 : Int32) then
    (f_X12_aboveOf_21 (f_X12_aboveOf_3 n) l1 l2 l3 l4 l5 l5 1 h)
    else
    f_X12_aboveOf_21 (f_X12_aboveOf_3 n) l1 l2 l3 l4 l5 l5 ((1 : Int32) <<< ((hI h 114 0) &&& 31)) h
noncomputable def f_X12_aboveOf (h : HP)  (a1 : Int32) (a2 : Int32) (a3 : Int32) (a4 : Int32) : Option (Int32 × HP) :=
  f_X12_aboveOf_3 FU a1 a2 a3 a4 0 h
noncomputable def f_X12_least_66   : Nat → Int32 → Int32 → Int32 → Int32 → Int32 → HP → Option (Int64 × HP)
  | 0, _, _, _, _, _, _ => none
  | n + 1, l1, l2, l4, l5, l6, h =>
    if l2 ≤ (0 : Int32) then
    (some ((Int32.toInt64 l6), h))
    else
    ltv (l2 + (-1) : Int32) fun x11 =>
    ltv ((l6 ||| (l5 <<< (((hI h 114 0) * x11) &&& 31))) : Int32) fun x12 =>
    bd2 (f_X12_aboveOf h l5 l4 x11 l1) fun r15 h14 =>
    f_X12_least_66 n l1 x11 l5 r15 x12 h14
noncomputable def f_X12_least_17   : Nat → Int32 → Int32 → Int32 → Int32 → Int32 → HP → Option (Int64 × HP)
  | 0, _, _, _, _, _, _ => none
  | n + 1, l1, l2, l3, l4, l5, h =>
    if l5 = (-1) then
    (bd2 (f_X12_aboveOf h l4 l3 l2 l1) fun r6 h5 =>
    if r6 = (-1) then
    (ltv ((l4 + 1) : Int32) fun x9 =>
    f_X12_least_17 n l1 l2 l3 x9 r6 h5)
    else
    ltv ((l4 + 0) : Int32) fun x8 =>
    f_X12_least_17 n l1 l2 l3 x8 r6 h5)
    else
    ltv ((l4 <<< (((hI h 114 0) * l2) &&& 31)) : Int32) fun x3 =>
    f_X12_least_66 FU l1 l2 l4 l5 x3 h
noncomputable def f_X12_least (h : HP)  (a1 : Int32) : Option (Int64 × HP) :=
  ltv (((hI h 114 1) - 1) : Int32) fun x1 =>
  f_X12_least_17 FU a1 x1 0 0 (-1) h
noncomputable def f_X12_ancestors (h : HP)   : Option (Int64 × HP) :=
  bd2 (f_X12_reckons h 0) fun r3 h2 =>
  bd2 (f_X12_givesLong h2 r3) fun r6 h5 =>
  some (r6, h5)
noncomputable def f_X12_ancestor (h : HP)   : Option (Int64 × HP) :=
  bd2 (f_X12_reckons h 0) fun r3 h2 =>
  if (lg_cmp r3 0) = (0 : Int32) then
  (bd2 (f_X12_refuse h2 6) fun r13 h12 =>
  some ((Int32.toInt64 r13), h12))
  else
  bd2 (f_X12_least h2 0) fun r7 h6 =>
  bd2 (f_X12_givesLong h6 r7) fun r10 h9 =>
  some (r10, h9)
noncomputable def f_X12_stills (h : HP)   : Option (Int64 × HP) :=
  bd2 (f_X12_reckons h 1) fun r3 h2 =>
  bd2 (f_X12_givesLong h2 r3) fun r6 h5 =>
  some (r6, h5)
noncomputable def f_X12_firstStill (h : HP)   : Option (Int64 × HP) :=
  bd2 (f_X12_reckons h 1) fun r3 h2 =>
  if (lg_cmp r3 0) = (0 : Int32) then
  (bd2 (f_X12_refuse h2 6) fun r13 h12 =>
  some ((Int32.toInt64 r13), h12))
  else
  bd2 (f_X12_least h2 1) fun r7 h6 =>
  bd2 (f_X12_givesLong h6 r7) fun r10 h9 =>
  some (r10, h9)
noncomputable def f_X12_pictures (h : HP)   : Option (Int64 × HP) :=
  bd2 (f_X12_free h) fun r3 h2 =>
  bd2 (f_X12_bits h2 r3) fun r6 h5 =>
  bd2 (f_X12_givesLong h5 ((1 : Int64) <<< (Int32.toInt64 r6 &&& 63))) fun r9 h8 =>
  some (r9, h8)
noncomputable def f_X12_tries_46   : Nat → Int32 → Int32 → Int32 → Int32 → Int32 → Int32 → HP → Option HP
  | 0, _, _, _, _, _, _, _ => none
  | n + 1, l1, l2, l3, l4, l5, l6, h =>
    if l4 ≤ l6 then
    (if (l5 &&& l3) = (0 : Int32) then
    (some h)
    else
    ltv (uI h 113 30 l1) fun g8 =>
    ltv (uI g8 113 31 l2) fun g9 =>
    some g9)
    else
    bd2 (f_X12_becomes h l5 (hI h 114 10)) fun r12 h11 =>
    ltv (l6 + 1 : Int32) fun x13 =>
    f_X12_tries_46 n l1 l2 l3 l4 r12 x13 h11
noncomputable def f_X12_tries_33   (l1 : Int32) (l2 : Int32) (l3 : Int32) (l4 : Int32) (h : HP) : Option HP :=
  ltv (((hI h 114 3) ^^^ l1) : Int32) fun x5 =>
  f_X12_tries_46 FU l1 l2 l3 l4 x5 0 h
noncomputable def f_X12_tries (h : HP)  (a1 : Int32) (a2 : Int32) (a3 : Int32) (a4 : Int32) : Option HP :=
  if (hI h 113 30) = (-1) then
  (f_X12_tries_33 a1 a2 a3 a4 h)
  else
  if (hI h 113 31) < a2 then
  (some h)
  else
  if a2 = (hI h 113 31) then
  (if a1 < (hI h 113 30) then
  (f_X12_tries_33 a1 a2 a3 a4 h)
  else
  some h)
  else
  f_X12_tries_33 a1 a2 a3 a4 h
noncomputable def f_X12_signal_167  (K122 : Int32 → Int32 → Int32 → Int32 → Int32 → Int32 → HP → Option (Int32 × HP)) : Nat → Int32 → Int32 → Int32 → Int32 → Int32 → Int32 → Int32 → HP → Option (Int32 × HP)
  | 0, _, _, _, _, _, _, _, _ => none
  | n + 1, l3, l4, l6, l7, l8, l9, l10, h =>
    bd2 (f_X12_places h) fun r57 h56 =>
    if r57 ≤ l10 then
    (ltv (l9 + 1 : Int32) fun x59 =>
    K122 l3 l4 l6 l7 l8 x59 h56)
    else
    if ((l7 >>> (l10 &&& 31)) &&& 1) = 1 then
    (bd1 (f_X12_tries h56 ((((1 : Int32) <<< (l8 &&& 31)) ||| ((1 : Int32) <<< (l9 &&& 31))) ||| ((1 : Int32) <<< (l10 &&& 31))) 3 l6 l3) fun h63 =>
    ltv (l10 + 1 : Int32) fun x64 =>
    f_X12_signal_167 K122 n l3 l4 l6 l7 l8 l9 x64 h63)
    else
    ltv (l10 + 1 : Int32) fun x61 =>
    f_X12_signal_167 K122 n l3 l4 l6 l7 l8 l9 x61 h56
noncomputable def f_X12_signal_122  (K82 : Int32 → Int32 → Int32 → Int32 → Int32 → HP → Option (Int32 × HP)) : Nat → Int32 → Int32 → Int32 → Int32 → Int32 → Int32 → HP → Option (Int32 × HP)
  | 0, _, _, _, _, _, _, _ => none
  | n + 1, l3, l4, l6, l7, l8, l9, h =>
    bd2 (f_X12_places h) fun r47 h46 =>
    if r47 ≤ l9 then
    (ltv (l8 + 1 : Int32) fun x49 =>
    K82 l3 l4 l6 l7 x49 h46)
    else
    if ((l7 >>> (l9 &&& 31)) &&& 1) = (0 : Int32) then
    (ltv (l9 + 1 : Int32) fun x54 =>
    f_X12_signal_122 K82 n l3 l4 l6 l7 l8 x54 h46)
    else
    bd1 (f_X12_tries h46 (((1 : Int32) <<< (l8 &&& 31)) ||| ((1 : Int32) <<< (l9 &&& 31))) 2 l6 l3) fun h52 =>
    ltv ((l9 + 1) : Int32) fun x53 =>
    f_X12_signal_167 (f_X12_signal_122 K82 n) FU l3 l4 l6 l7 l8 l9 x53 h52
noncomputable def f_X12_signal_82   : Nat → Int32 → Int32 → Int32 → Int32 → Int32 → HP → Option (Int32 × HP)
  | 0, _, _, _, _, _, _ => none
  | n + 1, l3, l4, l6, l7, l8, h =>
    bd2 (f_X12_places h) fun r27 h26 =>
    if r27 ≤ l8 then
    (if (hI h26 113 30) = (-1) then
    (bd2 (f_X12_refuse h26 6) fun r39 h38 =>
    some (r39, h38))
    else
    if l4 = (0 : Int32) then
    (bd2 (f_X12_gives h26 (hI h26 113 31)) fun r36 h35 =>
    some (r36, h35))
    else
    bd2 (f_X12_gives h26 (hI h26 113 30)) fun r33 h32 =>
    some (r33, h32))
    else
    if ((l7 >>> (l8 &&& 31)) &&& 1) = (0 : Int32) then
    (ltv (l8 + 1 : Int32) fun x44 =>
    f_X12_signal_82 n l3 l4 l6 l7 x44 h26)
    else
    bd1 (f_X12_tries h26 ((1 : Int32) <<< (l8 &&& 31)) 1 l6 l3) fun h42 =>
    ltv ((l8 + 1) : Int32) fun x43 =>
    f_X12_signal_122 (f_X12_signal_82 n) FU l3 l4 l6 l7 l8 x43 h42
noncomputable def f_X12_signal_33   (l1 : Int32) (l2 : Int32) (l3 : Int32) (l4 : Int32) (s0 : Int32) (h : HP) : Option (Int32 × HP) :=
  if s0 ≤ (0 : Int32) then
  (bd1 (f_X12_laysNear h) fun h12 =>
  bd2 (f_X12_bitOf h12 l1 l2) fun r15 h14 =>
  bd2 (f_X12_free h14) fun r18 h17 =>
  ltv (uI h17 113 30 (-1)) fun g19 =>
  bd1 (f_X12_tries g19 0 0 r15 l3) fun h21 =>
  f_X12_signal_82 FU l3 l4 r15 r18 0 h21)
  else
  bd2 (f_X12_refuse h s0) fun r24 h23 =>
  some (r24, h23)
noncomputable def f_X12_signal (h : HP)  (a1 : Int32) (a2 : Int32) (a3 : Int32) (a4 : Int32) : Option (Int32 × HP) :=
  bd2 (f_X12_isFrom h (Int32.toInt64 a3) 0 30) fun r3 h2 =>
  if r3 = (0 : Int32) then
  (f_X12_signal_33 a1 a2 a3 a4 1 h2)
  else
  if a4 < (0 : Int32) then
  (f_X12_signal_33 a1 a2 a3 a4 1 h2)
  else
  if a4 ≤ 1 then
  (bd2 (f_X12_wrongHouse h2 a1 a2) fun r9 h8 =>
  f_X12_signal_33 a1 a2 a3 a4 r9 h8)
  else
  f_X12_signal_33 a1 a2 a3 a4 1 h2
noncomputable def f_X12_spoilsBy (h : HP)  (a1 : Int32) (a2 : Int32) : Option (Int32 × HP) :=
  bd2 (f_X12_after h (hI h 114 3) a2) fun r3 h2 =>
  bd2 (f_X12_after h2 ((hI h2 114 3) ^^^ a1) a2) fun r6 h5 =>
  bd2 (f_X12_bits h5 (r3 ^^^ r6)) fun r9 h8 =>
  some (r9, h8)
noncomputable def f_X12_spoils_22   (l1 : Int32) (l2 : Int32) (l3 : Int32) (s0 : Int32) (h : HP) : Option (Int32 × HP) :=
  if s0 ≤ (0 : Int32) then
  (bd2 (f_X12_bitOf h l1 l2) fun r11 h10 =>
  bd2 (f_X12_spoilsBy h10 r11 l3) fun r14 h13 =>
  bd2 (f_X12_gives h13 r14) fun r17 h16 =>
  some (r17, h16))
  else
  bd2 (f_X12_refuse h s0) fun r20 h19 =>
  some (r20, h19)
noncomputable def f_X12_spoils (h : HP)  (a1 : Int32) (a2 : Int32) (a3 : Int32) : Option (Int32 × HP) :=
  bd2 (f_X12_isFrom h (Int32.toInt64 a3) 0 30) fun r3 h2 =>
  if r3 = (0 : Int32) then
  (f_X12_spoils_22 a1 a2 a3 1 h2)
  else
  bd2 (f_X12_wrongLamp h2 a1 a2) fun r7 h6 =>
  f_X12_spoils_22 a1 a2 a3 r7 h6
noncomputable def f_X12_worst_35   : Nat → Int32 → Int32 → Int32 → Int32 → Int32 → HP → Option (Int32 × HP)
  | 0, _, _, _, _, _, _ => none
  | n + 1, l1, l2, l3, l4, l5, h =>
    bd2 (f_X12_places h) fun r18 h17 =>
    if r18 ≤ l5 then
    (if l2 = (0 : Int32) then
    (bd2 (f_X12_orNone h17 l3) fun r26 h25 =>
    some (r26, h25))
    else
    bd2 (f_X12_orNone h17 l4) fun r23 h22 =>
    some (r23, h22))
    else
    bd2 (f_X12_free h17) fun r29 h28 =>
    if ((r29 >>> (l5 &&& 31)) &&& 1) = (0 : Int32) then
    (ltv (l5 + 1 : Int32) fun x37 =>
    f_X12_worst_35 n l1 l2 l3 l4 x37 h28)
    else
    bd2 (f_X12_spoilsBy h28 ((1 : Int32) <<< (l5 &&& 31)) l1) fun r33 h32 =>
    if l4 < r33 then
    (ltv (l5 + 1 : Int32) fun x35 =>
    f_X12_worst_35 n l1 l2 l5 r33 x35 h32)
    else
    ltv (l5 + 1 : Int32) fun x36 =>
    f_X12_worst_35 n l1 l2 l3 l4 x36 h32
noncomputable def f_X12_worst (h : HP)  (a1 : Int32) (a2 : Int32) : Option (Int32 × HP) :=
  bd2 (f_X12_isFrom h (Int32.toInt64 a1) 0 30) fun r3 h2 =>
  if r3 = (0 : Int32) then
  (bd2 (f_X12_refuse h2 1) fun r7 h6 =>
  some (r7, h6))
  else
  if a2 < (0 : Int32) then
  (bd2 (f_X12_refuse h2 1) fun r11 h10 =>
  some (r11, h10))
  else
  if a2 ≤ 1 then
  (f_X12_worst_35 FU a1 a2 (-1) (-1) 0 h2)
  else
  bd2 (f_X12_refuse h2 1) fun r15 h14 =>
  some (r15, h14)
noncomputable def f_X12_mend_199  (K92 : Int32 → Int32 → Int32 → Int32 → Int32 → Int32 → Int32 → Int32 → HP → Option (Int32 × HP)) (l3 : Int32) (l4 : Int32) (l5 : Int32) (l6 : Int32) (l7 : Int32) (l8 : Int32) (l9 : Int32) (l10 : Int32) (l11 : Int32) (l12 : Int32) (s0 : Int32) (h : HP) : Option (Int32 × HP) :=
  if s0 = (0 : Int32) then
  (ltv (l10 + 1 : Int32) fun x72 =>
  K92 l3 l4 l5 l6 l7 l8 l9 x72 h)
  else
  bd2 (f_X12_bits h l11) fun r70 h69 =>
  ltv (l10 + 1 : Int32) fun x71 =>
  K92 l3 l4 l5 l11 l12 r70 l9 x71 h69
noncomputable def f_X12_mend_92  (K79 : Int32 → Int32 → Int32 → Int32 → Int32 → Int32 → Int32 → HP → Option (Int32 × HP)) : Nat → Int32 → Int32 → Int32 → Int32 → Int32 → Int32 → Int32 → Int32 → HP → Option (Int32 × HP)
  | 0, _, _, _, _, _, _, _, _, _ => none
  | n + 1, l3, l4, l5, l6, l7, l8, l9, l10, h =>
    bd2 (f_X12_places h) fun r44 h43 =>
    if r44 ≤ l10 then
    (ltv (l9 + 1 : Int32) fun x46 =>
    K79 l3 l4 l5 l6 l7 l8 x46 h43)
    else
    ltv ((((1 : Int32) <<< (l9 &&& 31)) ||| ((1 : Int32) <<< (l10 &&& 31))) : Int32) fun x47 =>
    if (x47 &&& (l5 ^^^ (-1))) = (0 : Int32) then
    (bd2 (f_X12_becomes h43 ((hI h43 114 3) ^^^ x47) (hI h43 114 10)) fun r51 h50 =>
    bd2 (f_X12_bits h50 (r51 ^^^ l4)) fun r54 h53 =>
    if r54 < l7 then
    (f_X12_mend_199 (f_X12_mend_92 K79 n) l3 l4 l5 l6 l7 l8 l9 l10 x47 r54 1 h53)
    else
    if r54 = l7 then
    (bd2 (f_X12_bits h53 x47) fun r59 h58 =>
    if r59 < l8 then
    (f_X12_mend_199 (f_X12_mend_92 K79 n) l3 l4 l5 l6 l7 l8 l9 l10 x47 r54 1 h58)
    else
    bd2 (f_X12_bits h58 x47) fun r63 h62 =>
    if r63 = l8 then
    (if l6 ≤ x47 then
    (f_X12_mend_199 (f_X12_mend_92 K79 n) l3 l4 l5 l6 l7 l8 l9 l10 x47 r54 0 h62)
    else
    f_X12_mend_199 (f_X12_mend_92 K79 n) l3 l4 l5 l6 l7 l8 l9 l10 x47 r54 1 h62)
    else
    f_X12_mend_199 (f_X12_mend_92 K79 n) l3 l4 l5 l6 l7 l8 l9 l10 x47 r54 0 h62)
    else
    f_X12_mend_199 (f_X12_mend_92 K79 n) l3 l4 l5 l6 l7 l8 l9 l10 x47 r54 0 h53)
    else
    ltv (l10 + 1 : Int32) fun x66 =>
    f_X12_mend_92 K79 n l3 l4 l5 l6 l7 l8 l9 x66 h43
noncomputable def f_X12_mend_79   : Nat → Int32 → Int32 → Int32 → Int32 → Int32 → Int32 → Int32 → HP → Option (Int32 × HP)
  | 0, _, _, _, _, _, _, _, _ => none
  | n + 1, l3, l4, l5, l6, l7, l8, l9, h =>
    bd2 (f_X12_places h) fun r33 h32 =>
    if r33 ≤ l9 then
    (if l3 = (0 : Int32) then
    (bd2 (f_X12_gives h32 l7) fun r41 h40 =>
    some (r41, h40))
    else
    bd2 (f_X12_gives h32 l6) fun r38 h37 =>
    some (r38, h37))
    else
    f_X12_mend_92 (f_X12_mend_79 n) FU l3 l4 l5 l6 l7 l8 l9 l9 h32
noncomputable def f_X12_mend (h : HP)  (a1 : Int64) (a3 : Int32) : Option (Int32 × HP) :=
  bd2 (f_X12_isFrom h a1 0 1073741823) fun r3 h2 =>
  if r3 = (0 : Int32) then
  (bd2 (f_X12_refuse h2 1) fun r7 h6 =>
  some (r7, h6))
  else
  if a3 < (0 : Int32) then
  (bd2 (f_X12_refuse h2 1) fun r11 h10 =>
  some (r11, h10))
  else
  if a3 ≤ 1 then
  (bd1 (f_X12_laysNear h2) fun h14 =>
  bd2 (f_X12_whole h14) fun r17 h16 =>
  ltv (((Int64.toInt32 a1) &&& r17) : Int32) fun x18 =>
  bd2 (f_X12_free h16) fun r21 h20 =>
  bd2 (f_X12_becomes h20 (hI h20 114 3) (hI h20 114 10)) fun r24 h23 =>
  bd2 (f_X12_bits h23 (r24 ^^^ x18)) fun r27 h26 =>
  f_X12_mend_79 FU a3 x18 r21 0 r27 0 0 h26)
  else
  bd2 (f_X12_refuse h2 1) fun r30 h29 =>
  some (r30, h29)
noncomputable def f_X12_unlike (h : HP)  (a1 : Int64) : Option (Int32 × HP) :=
  bd2 (f_X12_isFrom h a1 0 1073741823) fun r3 h2 =>
  if r3 = (0 : Int32) then
  (bd2 (f_X12_refuse h2 1) fun r7 h6 =>
  some (r7, h6))
  else
  bd2 (f_X12_whole h2) fun r10 h9 =>
  bd2 (f_X12_bits h9 (((hI h2 114 3) ^^^ (Int64.toInt32 a1)) &&& r10)) fun r13 h12 =>
  bd2 (f_X12_gives h12 r13) fun r16 h15 =>
  some (r16, h15)
noncomputable def f_X12_seen (h : HP)  (a1 : Int32) (a2 : Int32) : Option (Int32 × HP) :=
  bd2 (f_X12_isFrom h (Int32.toInt64 a1) 0 1) fun r3 h2 =>
  if r3 = (0 : Int32) then
  (bd2 (f_X12_refuse h2 1) fun r7 h6 =>
  some (r7, h6))
  else
  bd2 (f_X12_isFrom h2 (Int32.toInt64 a2) 0 4) fun r10 h9 =>
  if r10 = (0 : Int32) then
  (bd2 (f_X12_refuse h9 1) fun r14 h13 =>
  some (r14, h13))
  else
  gdi (((32 : Int32) + ((5 : Int32) * a1)) + a2) 2460 <|
  bd2 (f_X12_gives h9 (hI h9 114 (Int32.toNatClampNeg (((32 : Int32) + ((5 : Int32) * a1)) + a2)))) fun r18 h17 =>
  some (r18, h17)
noncomputable def f_X12_rulesLeft_4   : Nat → Int32 → Int32 → HP → Option (Int32 × HP)
  | 0, _, _, _ => none
  | n + 1, l1, l2, h =>
    if 10 ≤ l2 then
    (bd2 (f_X12_gives h l1) fun r4 h3 =>
    some (r4, h3))
    else
    gdi ((32 : Int32) + l2) 2460 <|
    if (hI h 114 (Int32.toNatClampNeg ((32 : Int32) + l2))) = (0 : Int32) then
    (ltv ((l1 * 2) : Int32) fun x13 =>
    ltv (l2 + 1 : Int32) fun x14 =>
    f_X12_rulesLeft_4 n x13 x14 h)
    else
    gdi ((32 : Int32) + l2) 2460 <|
    if (hI h 114 (Int32.toNatClampNeg ((32 : Int32) + l2))) = 3 then
    (ltv ((l1 * 0) : Int32) fun x11 =>
    ltv (l2 + 1 : Int32) fun x12 =>
    f_X12_rulesLeft_4 n x11 x12 h)
    else
    ltv ((l1 * 1) : Int32) fun x9 =>
    ltv (l2 + 1 : Int32) fun x10 =>
    f_X12_rulesLeft_4 n x9 x10 h
noncomputable def f_X12_rulesLeft (h : HP)   : Option (Int32 × HP) :=
  f_X12_rulesLeft_4 FU 1 0 h
noncomputable def f_X12_fits_19  (K4 : Int32 → Int32 → HP → Option (Int32 × HP)) : Nat → Int32 → Int32 → Int32 → Int32 → HP → Option (Int32 × HP)
  | 0, _, _, _, _, _ => none
  | n + 1, l1, l2, l3, l4, h =>
    if 10 ≤ l4 then
    (if l3 = (0 : Int32) then
    (ltv ((l1 ||| 0) : Int32) fun x7 =>
    ltv (l2 + 1 : Int32) fun x8 =>
    K4 x7 x8 h)
    else
    ltv ((l1 ||| ((1 : Int32) <<< (l2 &&& 31))) : Int32) fun x9 =>
    ltv (l2 + 1 : Int32) fun x10 =>
    K4 x9 x10 h)
    else
    gdi (((12 : Int32) + ((2 : Int32) * l2)) + (l4 / 5)) 2460 <|
    ltv ((((hI h 114 (Int32.toNatClampNeg (((12 : Int32) + ((2 : Int32) * l2)) + (l4 / 5)))) >>> ((l4 - l4 / 5 * 5) &&& 31)) &&& 1) : Int32) fun x12 =>
    if l3 = (0 : Int32) then
    (ltv (l4 + 1 : Int32) fun x14 =>
    f_X12_fits_19 K4 n l1 l2 0 x14 h)
    else
    gdi ((32 : Int32) + l4) 2460 <|
    if ((hI h 114 (Int32.toNatClampNeg ((32 : Int32) + l4))) &&& (((1 : Int32) <<< (x12 &&& 31)) ^^^ (-1))) = (0 : Int32) then
    (ltv (l4 + 1 : Int32) fun x18 =>
    f_X12_fits_19 K4 n l1 l2 1 x18 h)
    else
    ltv (l4 + 1 : Int32) fun x17 =>
    f_X12_fits_19 K4 n l1 l2 0 x17 h
noncomputable def f_X12_fits_4   : Nat → Int32 → Int32 → HP → Option (Int32 × HP)
  | 0, _, _, _ => none
  | n + 1, l1, l2, h =>
    if (hI h 114 5) ≤ l2 then
    (bd2 (f_X12_gives h l1) fun r4 h3 =>
    some (r4, h3))
    else
    f_X12_fits_19 (f_X12_fits_4 n) FU l1 l2 1 0 h
noncomputable def f_X12_fits (h : HP)   : Option (Int32 × HP) :=
  f_X12_fits_4 FU 0 0 h
noncomputable def f_X12_forget_28  (K4 : Int32 → Int32 → HP → Option (Int32 × HP)) (l2 : Int32) (s0 : Int32) (s1 : Int32) (h : HP) : Option (Int32 × HP) :=
  ltv ((s0 + s1) : Int32) fun x7 =>
  gdi ((32 : Int32) + l2) 2460 <|
  ltv (uI h 114 (Int32.toNatClampNeg ((32 : Int32) + l2)) 0) fun g9 =>
  ltv (l2 + 1 : Int32) fun x10 =>
  K4 x7 x10 g9
noncomputable def f_X12_forget_4   : Nat → Int32 → Int32 → HP → Option (Int32 × HP)
  | 0, _, _, _ => none
  | n + 1, l1, l2, h =>
    if 10 ≤ l2 then
    (bd2 (f_X12_gives h l1) fun r4 h3 =>
    some (r4, h3))
    else
    gdi ((32 : Int32) + l2) 2460 <|
    if (hI h 114 (Int32.toNatClampNeg ((32 : Int32) + l2))) = (0 : Int32) then
    (f_X12_forget_28 (f_X12_forget_4 n) l2 l1 0 h)
    else
    f_X12_forget_28 (f_X12_forget_4 n) l2 l1 1 h
noncomputable def f_X12_forget (h : HP)   : Option (Int32 × HP) :=
  f_X12_forget_4 FU 0 0 h
noncomputable def f_X12_shows_8   : Nat → Int32 → Int32 → HP → Option (Int32 × HP)
  | 0, _, _, _ => none
  | n + 1, l1, l2, h =>
    bd2 (f_X12_places h) fun r5 h4 =>
    if r5 ≤ l2 then
    (bd2 (f_X12_bits h4 l1) fun r9 h8 =>
    bd2 (f_X12_gives h8 r9) fun r12 h11 =>
    some (r12, h11))
    else
    bd2 (f_X12_free h4) fun r15 h14 =>
    if ((r15 >>> (l2 &&& 31)) &&& 1) = (0 : Int32) then
    (ltv (l2 + 1 : Int32) fun x28 =>
    f_X12_shows_8 n l1 x28 h14)
    else
    gdi l2 30 <|
    bd2 (f_X12_bits h14 ((hI h14 122 (Int32.toNatClampNeg l2)) &&& (hI h14 114 3))) fun r20 h19 =>
    ltv ((((5 : Int32) * (((hI h14 114 3) >>> (l2 &&& 31)) &&& 1)) + r20) : Int32) fun x21 =>
    gdi ((32 : Int32) + x21) 2460 <|
    if (hI h19 114 (Int32.toNatClampNeg ((32 : Int32) + x21))) = (0 : Int32) then
    (ltv ((l1 ||| ((1 : Int32) <<< (x21 &&& 31))) : Int32) fun x26 =>
    ltv (l2 + 1 : Int32) fun x27 =>
    f_X12_shows_8 n x26 x27 h19)
    else
    ltv ((l1 ||| 0) : Int32) fun x24 =>
    ltv (l2 + 1 : Int32) fun x25 =>
    f_X12_shows_8 n x24 x25 h19
noncomputable def f_X12_shows (h : HP)   : Option (Int32 × HP) :=
  bd1 (f_X12_laysNear h) fun h2 =>
  f_X12_shows_8 FU 0 0 h2
noncomputable def f_X12_dislikes (h : HP)  (a1 : Int32) (a2 : Int32) : Option (Int32 × HP) :=
  ltv (((20 : Int32) + ((2 : Int32) * a1)) : Int32) fun x1 =>
  gdi x1 2460 <|
  if (hI h 114 (Int32.toNatClampNeg x1)) ≤ a2 then
  (gdi (x1 + 1) 2460 <|
  if a2 ≤ (hI h 114 (Int32.toNatClampNeg (x1 + 1))) then
  (some (0, h))
  else
  gdi (x1 + 1) 2460 <|
  some ((a2 - (hI h 114 (Int32.toNatClampNeg (x1 + 1)))), h))
  else
  gdi x1 2460 <|
  some (((hI h 114 (Int32.toNatClampNeg x1)) - a2), h)
noncomputable def f_X12_voteOf_11   : Nat → Int32 → Int32 → Int32 → Int32 → HP → Option (Int32 × HP)
  | 0, _, _, _, _, _ => none
  | n + 1, l1, l2, l3, l4, h =>
    if (hI h 114 5) ≤ l4 then
    (some (l2, h))
    else
    bd2 (f_X12_becomes h (hI h 114 3) l4) fun r6 h5 =>
    bd2 (f_X12_bits h5 r6) fun r9 h8 =>
    bd2 (f_X12_dislikes h8 l1 r9) fun r12 h11 =>
    if l2 = (-1) then
    (ltv (l4 + 1 : Int32) fun x14 =>
    f_X12_voteOf_11 n l1 l4 r12 x14 h11)
    else
    if r12 < l3 then
    (ltv (l4 + 1 : Int32) fun x16 =>
    f_X12_voteOf_11 n l1 l4 r12 x16 h11)
    else
    ltv (l4 + 1 : Int32) fun x17 =>
    f_X12_voteOf_11 n l1 l2 l3 x17 h11
noncomputable def f_X12_voteOf (h : HP)  (a1 : Int32) : Option (Int32 × HP) :=
  bd1 (f_X12_laysNear h) fun h2 =>
  f_X12_voteOf_11 FU a1 (-1) 0 0 h2
noncomputable def f_X12_vote (h : HP)  (a1 : Int32) : Option (Int32 × HP) :=
  bd2 (f_X12_isCitizen h a1) fun r3 h2 =>
  if r3 = (0 : Int32) then
  (bd2 (f_X12_refuse h2 1) fun r7 h6 =>
  some (r7, h6))
  else
  bd2 (f_X12_voteOf h2 a1) fun r10 h9 =>
  bd2 (f_X12_orNone h9 r10) fun r13 h12 =>
  some (r13, h12)
noncomputable def f_X12_votesFor_4   : Nat → Int32 → Int32 → Int32 → HP → Option (Int32 × HP)
  | 0, _, _, _, _ => none
  | n + 1, l1, l2, l3, h =>
    if (hI h 114 6) ≤ l3 then
    (some (l2, h))
    else
    bd2 (f_X12_voteOf h l3) fun r4 h3 =>
    if r4 = l1 then
    (ltv ((l2 + 1) : Int32) fun x8 =>
    ltv (l3 + 1 : Int32) fun x9 =>
    f_X12_votesFor_4 n l1 x8 x9 h3)
    else
    ltv ((l2 + 0) : Int32) fun x6 =>
    ltv (l3 + 1 : Int32) fun x7 =>
    f_X12_votesFor_4 n l1 x6 x7 h3
noncomputable def f_X12_votesFor (h : HP)  (a1 : Int32) : Option (Int32 × HP) :=
  f_X12_votesFor_4 FU a1 0 0 h
noncomputable def f_X12_votes (h : HP)  (a1 : Int32) : Option (Int32 × HP) :=
  bd2 (f_X12_isRule h a1) fun r3 h2 =>
  if r3 = (0 : Int32) then
  (bd2 (f_X12_refuse h2 1) fun r7 h6 =>
  some (r7, h6))
  else
  bd2 (f_X12_votesFor h2 a1) fun r10 h9 =>
  bd2 (f_X12_gives h9 r10) fun r13 h12 =>
  some (r13, h12)
noncomputable def f_X12_elects_25   : Nat → Int32 → Int32 → HP → Option (Int32 × HP)
  | 0, _, _, _ => none
  | n + 1, l1, l2, h =>
    if (hI h 114 5) ≤ l2 then
    (ltv (uI h 114 10 l1) fun g4 =>
    some (1, g4))
    else
    bd2 (f_X12_votesFor h l2) fun r7 h6 =>
    bd2 (f_X12_votesFor h6 l1) fun r10 h9 =>
    if r7 ≤ r10 then
    (ltv (l2 + 1 : Int32) fun x12 =>
    f_X12_elects_25 n l1 x12 h9)
    else
    ltv (l2 + 1 : Int32) fun x13 =>
    f_X12_elects_25 n l2 x13 h9
noncomputable def f_X12_elects (h : HP)   : Option (Int32 × HP) :=
  if (hI h 114 5) = (0 : Int32) then
  (some (0, h))
  else
  if (hI h 114 6) = (0 : Int32) then
  (some (0, h))
  else
  f_X12_elects_25 FU 0 1 h
noncomputable def f_X12_elect (h : HP)   : Option (Int32 × HP) :=
  bd2 (f_X12_elects h) fun r3 h2 =>
  if r3 = (0 : Int32) then
  (bd2 (f_X12_refuse h2 6) fun r7 h6 =>
  some (r7, h6))
  else
  bd2 (f_X12_gives h2 (hI h2 114 10)) fun r10 h9 =>
  some (r10, h9)
noncomputable def f_X12_reads_36    (h : HP) : Option (Int32 × HP) :=
  bd2 (f_X12_refuse h 1) fun r21 h20 =>
  some (r21, h20)
noncomputable def f_X12_reads_67   : Nat → Int32 → Int32 → Int32 → HP → Option (Int32 × HP)
  | 0, _, _, _, _ => none
  | n + 1, l1, l3, l4, h =>
    if (hI h 114 1) ≤ l4 then
    (bd2 (f_X12_gives h l3) fun r16 h15 =>
    some (r16, h15))
    else
    ltv ((l3 ||| ((((hI h 114 3) >>> ((((hI h 114 0) * l4) + l1) &&& 31)) &&& 1) <<< (l4 &&& 31))) : Int32) fun x17 =>
    ltv (l4 + 1 : Int32) fun x18 =>
    f_X12_reads_67 n l1 x17 x18 h
noncomputable def f_X12_reads_33   (l1 : Int32) (l2 : Int32) (s0 : Int32) (s1 : Int32) (h : HP) : Option (Int32 × HP) :=
  if s0 < s1 then
  (if l2 = (0 : Int32) then
  (bd2 (f_X12_rowOf h (hI h 114 3) l1) fun r9 h8 =>
  bd2 (f_X12_gives h8 r9) fun r12 h11 =>
  some (r12, h11))
  else
  f_X12_reads_67 FU l1 0 0 h)
  else
  f_X12_reads_36 h
noncomputable def f_X12_reads (h : HP)  (a1 : Int32) (a2 : Int32) : Option (Int32 × HP) :=
  if a2 < (0 : Int32) then
  (f_X12_reads_36 h)
  else
  if 1 < a2 then
  (f_X12_reads_36 h)
  else
  if a1 < (0 : Int32) then
  (f_X12_reads_36 h)
  else
  if a2 = (0 : Int32) then
  (f_X12_reads_33 a1 a2 a1 (hI h 114 1) h)
  else
  f_X12_reads_33 a1 a2 a1 (hI h 114 0) h
noncomputable def f_X12_mirror_29  (K4 : Int32 → Int32 → HP → Option (Int32 × HP)) : Nat → Int32 → Int32 → Int32 → Int32 → HP → Option (Int32 × HP)
  | 0, _, _, _, _, _ => none
  | n + 1, l1, l2, l3, l4, h =>
    if (hI h 114 0) ≤ l4 then
    (ltv (l2 + 1 : Int32) fun x13 =>
    K4 l1 x13 h)
    else
    if l1 = (0 : Int32) then
    (ltv (l4 + 1 : Int32) fun x15 =>
    f_X12_mirror_29 K4 n 0 l2 l3 x15 h)
    else
    if ((l3 >>> (l4 &&& 31)) &&& 1) = ((l3 >>> ((((hI h 114 0) - 1) - l4) &&& 31)) &&& 1) then
    (ltv (l4 + 1 : Int32) fun x18 =>
    f_X12_mirror_29 K4 n 1 l2 l3 x18 h)
    else
    ltv (l4 + 1 : Int32) fun x17 =>
    f_X12_mirror_29 K4 n 0 l2 l3 x17 h
noncomputable def f_X12_mirror_4   : Nat → Int32 → Int32 → HP → Option (Int32 × HP)
  | 0, _, _, _ => none
  | n + 1, l1, l2, h =>
    if (hI h 114 1) ≤ l2 then
    (if l1 = (0 : Int32) then
    (bd2 (f_X12_gives h 0) fun r5 h4 =>
    some (r5, h4))
    else
    bd2 (f_X12_gives h 1) fun r8 h7 =>
    some (r8, h7))
    else
    bd2 (f_X12_rowOf h (hI h 114 3) l2) fun r11 h10 =>
    f_X12_mirror_29 (f_X12_mirror_4 n) FU l1 l2 r11 0 h10
noncomputable def f_X12_mirror (h : HP)   : Option (Int32 × HP) :=
  f_X12_mirror_4 FU 1 0 h
noncomputable def f_X12_heapOf_23  (K13 : Int32 → Int32 → HP → Option (Int32 × HP)) : Nat → Int32 → Int32 → Int32 → HP → Option (Int32 × HP)
  | 0, _, _, _, _ => none
  | n + 1, l2, l3, l4, h =>
    bd2 (f_X12_places h) fun r5 h4 =>
    if r5 ≤ l4 then
    (K13 l2 l3 h4)
    else
    if ((l2 >>> (l4 &&& 31)) &&& 1) = 1 then
    (gdi l4 30 <|
    ltv ((l2 ||| ((hI h4 122 (Int32.toNatClampNeg l4)) &&& (hI h4 114 3))) : Int32) fun x10 =>
    ltv (l4 + 1 : Int32) fun x11 =>
    f_X12_heapOf_23 K13 n x10 l3 x11 h4)
    else
    ltv (l4 + 1 : Int32) fun x8 =>
    f_X12_heapOf_23 K13 n l2 l3 x8 h4
noncomputable def f_X12_heapOf_13   : Nat → Int32 → Int32 → HP → Option (Int32 × HP)
  | 0, _, _, _ => none
  | n + 1, l2, l3, h =>
    if l2 = l3 then
    (some (l2, h))
    else
    f_X12_heapOf_23 (f_X12_heapOf_13 n) FU l2 l2 0 h
noncomputable def f_X12_heapOf (h : HP)  (a1 : Int32) : Option (Int32 × HP) :=
  ltv (((hI h 114 3) &&& ((1 : Int32) <<< (a1 &&& 31))) : Int32) fun x1 =>
  f_X12_heapOf_13 FU x1 0 h
noncomputable def f_X12_heaps_26   : Nat → Int32 → Int32 → Int32 → Int32 → HP → Option (Int32 × HP)
  | 0, _, _, _, _, _ => none
  | n + 1, l1, l2, l3, l4, h =>
    bd2 (f_X12_places h) fun r13 h12 =>
    if r13 ≤ l4 then
    (if l1 = (0 : Int32) then
    (bd2 (f_X12_gives h12 l2) fun r21 h20 =>
    some (r21, h20))
    else
    bd2 (f_X12_gives h12 l3) fun r18 h17 =>
    some (r18, h17))
    else
    bd2 (f_X12_heapOf h12 l4) fun r24 h23 =>
    bd2 (f_X12_bits h23 r24) fun r27 h26 =>
    ltv ((if l3 < r27 then r27 else l3) : Int32) fun x28 =>
    if r24 = (0 : Int32) then
    (ltv ((l2 + 0) : Int32) fun x30 =>
    ltv (l4 + 1 : Int32) fun x31 =>
    f_X12_heaps_26 n l1 x30 x28 x31 h26)
    else
    if (r24 &&& (((1 : Int32) <<< (l4 &&& 31)) - 1)) = (0 : Int32) then
    (ltv ((l2 + 1) : Int32) fun x35 =>
    ltv (l4 + 1 : Int32) fun x36 =>
    f_X12_heaps_26 n l1 x35 x28 x36 h26)
    else
    ltv ((l2 + 0) : Int32) fun x33 =>
    ltv (l4 + 1 : Int32) fun x34 =>
    f_X12_heaps_26 n l1 x33 x28 x34 h26
noncomputable def f_X12_heaps (h : HP)  (a1 : Int32) : Option (Int32 × HP) :=
  if a1 < (0 : Int32) then
  (bd2 (f_X12_refuse h 1) fun r4 h3 =>
  some (r4, h3))
  else
  if a1 ≤ 1 then
  (bd1 (f_X12_laysNear h) fun h7 =>
  f_X12_heaps_26 FU a1 0 0 0 h7)
  else
  bd2 (f_X12_refuse h 1) fun r10 h9 =>
  some (r10, h9)
noncomputable def f_X12_heap (h : HP)  (a1 : Int32) (a2 : Int32) : Option (Int32 × HP) :=
  bd2 (f_X12_wrongHouse h a1 a2) fun r3 h2 =>
  if r3 ≤ (0 : Int32) then
  (bd1 (f_X12_laysNear h2) fun h6 =>
  bd2 (f_X12_heapOf h6 (((hI h6 114 0) * a2) + a1)) fun r9 h8 =>
  bd2 (f_X12_bits h8 r9) fun r12 h11 =>
  bd2 (f_X12_gives h11 r12) fun r15 h14 =>
  some (r15, h14))
  else
  bd2 (f_X12_refuse h2 r3) fun r18 h17 =>
  some (r18, h17)
noncomputable def f_X12_company_24   : Nat → Int32 → Int32 → HP → Option (Int32 × HP)
  | 0, _, _, _ => none
  | n + 1, l1, l2, h =>
    bd2 (f_X12_places h) fun r10 h9 =>
    if r10 ≤ l2 then
    (bd2 (f_X12_bits h9 (hI h9 114 3)) fun r14 h13 =>
    bd2 (f_X12_tellsBy h13 (Int32.toInt64 l1) (Int32.toInt64 r14)) fun r17 h16 =>
    gdv (is01 r17) <|
    some (r17, h16))
    else
    if (((hI h9 114 3) >>> (l2 &&& 31)) &&& 1) = 1 then
    (gdi l2 30 <|
    bd2 (f_X12_bits h9 ((hI h9 122 (Int32.toNatClampNeg l2)) &&& (hI h9 114 3))) fun r25 h24 =>
    ltv ((l1 + r25) : Int32) fun x26 =>
    ltv (l2 + 1 : Int32) fun x27 =>
    f_X12_company_24 n x26 x27 h24)
    else
    ltv ((l1 + 0) : Int32) fun x20 =>
    ltv (l2 + 1 : Int32) fun x21 =>
    f_X12_company_24 n x20 x21 h9
noncomputable def f_X12_company (h : HP)   : Option (Int32 × HP) :=
  if (hI h 114 3) = (0 : Int32) then
  (bd2 (f_X12_is h 6) fun r6 h5 =>
  gdv (is01 r6) <|
  some (r6, h5))
  else
  bd1 (f_X12_laysNear h) fun h3 =>
  f_X12_company_24 FU 0 0 h3
noncomputable def f_X12_draw (h : HP)  (a1 : Int32) : Option (Int32 × HP) :=
  ltv (uI h 113 32 ((((hI h 113 32) * 2879) + 11083) - (((hI h 113 32) * 2879) + 11083) / 65536 * 65536)) fun g1 =>
  gdv (¬ a1 = (0 : Int32)) <|
  some ((((hI g1 113 32) / 8) - ((hI g1 113 32) / 8) / a1 * a1), g1)
noncomputable def f_X12_storms_18   : Nat → Int32 → Int32 → Int32 → HP → Option (Int32 × HP)
  | 0, _, _, _, _ => none
  | n + 1, l1, l2, l3, h =>
    bd2 (f_X12_places h) fun r4 h3 =>
    if r4 ≤ l3 then
    (some (1, h3))
    else
    if ((l2 >>> (l3 &&& 31)) &&& 1) = (0 : Int32) then
    (ltv (l3 + 1 : Int32) fun x7 =>
    f_X12_storms_18 n l1 l2 x7 h3)
    else
    bd2 (f_X12_draw h3 16) fun r10 h9 =>
    if r10 < l1 then
    (ltv (uI h9 114 3 ((hI h9 114 3) &&& (((1 : Int32) <<< (l3 &&& 31)) ^^^ (-1)))) fun g12 =>
    ltv (uI g12 128 2 ((hI g12 128 2) + 1)) fun g13 =>
    ltv (l3 + 1 : Int32) fun x14 =>
    f_X12_storms_18 n l1 l2 x14 g13)
    else
    ltv (l3 + 1 : Int32) fun x15 =>
    f_X12_storms_18 n l1 l2 x15 h9
noncomputable def f_X12_storms (h : HP)  (a1 : Int32) : Option (Int32 × HP) :=
  ltv (((hI h 114 3) &&& ((hI h 114 4) ^^^ (-1))) : Int32) fun x1 =>
  f_X12_storms_18 FU a1 x1 0 h
noncomputable def f_X12_isBorn (h : HP)   : Option (Int32 × HP) :=
  bd2 (f_X12_draw h (hI h 114 0)) fun r3 h2 =>
  bd2 (f_X12_draw h2 (hI h2 114 1)) fun r6 h5 =>
  bd2 (f_X12_bitOf h5 r3 r6) fun r9 h8 =>
  bd2 (f_X12_free h8) fun r12 h11 =>
  if ((r12 &&& ((hI h11 114 3) ^^^ (-1))) &&& r9) = (0 : Int32) then
  (some (0, h11))
  else
  ltv (uI h11 114 3 ((hI h11 114 3) ||| r9)) fun g14 =>
  ltv (uI g14 128 3 ((hI g14 128 3) + 1)) fun g15 =>
  some (1, g15)
noncomputable def f_X12_does_54   : Nat → Int32 → Int32 → HP → Option (Int32 × HP)
  | 0, _, _, _ => none
  | n + 1, l2, l3, h =>
    if l2 ≤ l3 then
    (ltv (uI h 128 1 ((hI h 128 1) + l2)) fun g35 =>
    some (1, g35))
    else
    bd1 (f_X12_goes h) fun h37 =>
    ltv (l3 + 1 : Int32) fun x38 =>
    f_X12_does_54 n l2 x38 h37
noncomputable def f_X12_does (h : HP)  (a1 : Int32) : Option (Int32 × HP) :=
  gdi (a1 + 1) 2460 <|
  ltv ((hI h 114 (Int32.toNatClampNeg (a1 + 1))) : Int32) fun x2 =>
  gdi a1 2460 <|
  ltv ((hI h 114 (Int32.toNatClampNeg a1)) : Int32) fun x4 =>
  if x4 = 9 then
  (f_X12_does_54 FU x2 0 h)
  else
  if x4 = 10 then
  (gdi (a1 + 2) 2460 <|
  bd2 (f_X12_wrongLamp h x2 (hI h 114 (Int32.toNatClampNeg (a1 + 2)))) fun r10 h9 =>
  if r10 ≤ (0 : Int32) then
  (gdi (a1 + 2) 2460 <|
  bd2 (f_X12_bitOf h9 x2 (hI h9 114 (Int32.toNatClampNeg (a1 + 2)))) fun r15 h14 =>
  ltv (uI h14 114 3 ((hI h9 114 3) ^^^ r15)) fun g16 =>
  some (1, g16))
  else
  some (0, h9))
  else
  if x4 = 11 then
  (ltv (uI h 114 10 x2) fun g18 =>
  some (1, g18))
  else
  if x4 = 12 then
  (bd2 (f_X12_elects h) fun r22 h21 =>
  gdv (is01 r22) <|
  some (r22, h21))
  else
  if x4 = 13 then
  (bd2 (f_X12_storms h x2) fun r27 h26 =>
  gdv (is01 r27) <|
  some (r27, h26))
  else
  if x4 = 14 then
  (bd2 (f_X12_isBorn h) fun r32 h31 =>
  gdv (is01 r32) <|
  some (r32, h31))
  else
  some (1, h)
noncomputable def f_X12_holds (h : HP)  (a1 : Int32) : Option (Int32 × HP) :=
  gdi a1 2460 <|
  ltv (((hI h 114 (Int32.toNatClampNeg a1)) - 1500) : Int32) fun x2 =>
  if x2 = 21 then
  (bd2 (f_X12_isStill h) fun r26 h25 =>
  gdv (is01 r26) <|
  some (r26, h25))
  else
  if x2 = 20 then
  (gdi (a1 + 1) 2460 <|
  gdi (a1 + 2) 2460 <|
  bd2 (f_X12_bitOf h (hI h 114 (Int32.toNatClampNeg (a1 + 1))) (hI h 114 (Int32.toNatClampNeg (a1 + 2)))) fun r22 h21 =>
  if ((hI h 114 3) &&& r22) = (0 : Int32) then
  (some (0, h21))
  else
  some (1, h21))
  else
  bd2 (f_X12_bits h (hI h 114 3)) fun r7 h6 =>
  gdi (a1 + 5) 2460 <|
  if (hI h6 114 (Int32.toNatClampNeg (a1 + 5))) = 60 then
  (gdi (a1 + 1) 2460 <|
  if (hI h6 114 (Int32.toNatClampNeg (a1 + 1))) ≤ r7 then
  (some (0, h6))
  else
  some (1, h6))
  else
  gdi (a1 + 5) 2460 <|
  if (hI h6 114 (Int32.toNatClampNeg (a1 + 5))) = 62 then
  (gdi (a1 + 1) 2460 <|
  if r7 ≤ (hI h6 114 (Int32.toNatClampNeg (a1 + 1))) then
  (some (0, h6))
  else
  some (1, h6))
  else
  gdi (a1 + 1) 2460 <|
  if r7 = (hI h6 114 (Int32.toNatClampNeg (a1 + 1))) then
  (some (1, h6))
  else
  some (0, h6)
noncomputable def f_X12_behindEnds_95  (K2 : Int32 → HP → Option (Int32 × HP)) (l2 : Int32) (l3 : Int32) (l4 : Int32) (s1 : Int32) (s2 : Int32) (s3 : Int32) (h : HP) : Option (Int32 × HP) :=
  gdi s1 80 <|
  ltv (uI h 127 (Int32.toNatClampNeg s1) (s2 - s3)) fun g13 =>
  if l4 = (0 : Int32) then
  (ltv ((l2 + 1) : Int32) fun x15 =>
  K2 x15 g13)
  else
  ltv ((l3 + 1) : Int32) fun x16 =>
  K2 x16 g13
noncomputable def f_X12_behindEnds_76  (K2 : Int32 → HP → Option (Int32 × HP)) (l2 : Int32) (l3 : Int32) (s0 : Int32) (h : HP) : Option (Int32 × HP) :=
  gdi l3 80 <|
  if s0 = (0 : Int32) then
  (f_X12_behindEnds_95 K2 l2 l3 s0 l3 (hI h 127 (Int32.toNatClampNeg l3)) 0 h)
  else
  f_X12_behindEnds_95 K2 l2 l3 s0 l3 (hI h 127 (Int32.toNatClampNeg l3)) 1 h
noncomputable def f_X12_behindEnds_2   : Nat → Int32 → HP → Option (Int32 × HP)
  | 0, _, _ => none
  | n + 1, l2, h =>
    if (hI h 114 11) ≤ l2 then
    (some (l2, h))
    else
    gdi ((44 : Int32) + ((6 : Int32) * l2)) 2460 <|
    if (hI h 114 (Int32.toNatClampNeg ((44 : Int32) + ((6 : Int32) * l2)))) = 17 then
    (gdi (((44 : Int32) + ((6 : Int32) * l2)) + 4) 2460 <|
    ltv ((hI h 114 (Int32.toNatClampNeg (((44 : Int32) + ((6 : Int32) * l2)) + 4))) : Int32) fun x5 =>
    gdi ((44 : Int32) + ((6 : Int32) * x5)) 2460 <|
    if (hI h 114 (Int32.toNatClampNeg ((44 : Int32) + ((6 : Int32) * x5)))) = 16 then
    (gdi x5 80 <|
    if (hI h 127 (Int32.toNatClampNeg x5)) ≤ (0 : Int32) then
    (f_X12_behindEnds_76 (f_X12_behindEnds_2 n) l2 x5 0 h)
    else
    f_X12_behindEnds_76 (f_X12_behindEnds_2 n) l2 x5 1 h)
    else
    f_X12_behindEnds_76 (f_X12_behindEnds_2 n) l2 x5 0 h)
    else
    some (l2, h)
noncomputable def f_X12_behindEnds (h : HP)  (a1 : Int32) : Option (Int32 × HP) :=
  f_X12_behindEnds_2 FU a1 h
noncomputable def f_X12_lives_140  (K32 : Int32 → HP → Option HP) (l2 : Int32) (l3 : Int32) (h : HP) : Option HP :=
  gdi l3 2460 <|
  if (hI h 114 (Int32.toNatClampNeg l3)) < 1500 then
  (bd2 (f_X12_behindEnds h (l2 + 1)) fun r29 h28 =>
  K32 r29 h28)
  else
  bd2 (f_X12_holds h l3) fun r32 h31 =>
  if r32 = (0 : Int32) then
  (gdi (l3 + 4) 2460 <|
  bd2 (f_X12_behindEnds h31 ((hI h31 114 (Int32.toNatClampNeg (l3 + 4))) + 1)) fun r40 h39 =>
  K32 r40 h39)
  else
  bd2 (f_X12_behindEnds h31 (l2 + 1)) fun r36 h35 =>
  K32 r36 h35
noncomputable def f_X12_lives_111  (K32 : Int32 → HP → Option HP) (l2 : Int32) (l3 : Int32) (s1 : Int32) (s2 : Int32) (s3 : Int32) (h : HP) : Option HP :=
  gdi s1 5 <|
  ltv (uI h 128 (Int32.toNatClampNeg s1) (s2 + s3)) fun g19 =>
  gdi l3 2460 <|
  if (hI g19 114 (Int32.toNatClampNeg l3)) = 16 then
  (gdi (l3 + 1) 2460 <|
  gdi l2 80 <|
  ltv (uI g19 127 (Int32.toNatClampNeg l2) ((hI g19 114 (Int32.toNatClampNeg (l3 + 1))) - 1)) fun g24 =>
  f_X12_lives_140 K32 l2 l3 g24)
  else
  f_X12_lives_140 K32 l2 l3 g19
noncomputable def f_X12_lives_32   : Nat → Int32 → HP → Option HP
  | 0, _, _ => none
  | n + 1, l2, h =>
    if (hI h 114 11) ≤ l2 then
    (some h)
    else
    if (hI h 113 33) = 300 then
    (ltv (uI h 128 4 1) fun g17 =>
    some g17)
    else
    ltv (((44 : Int32) + ((6 : Int32) * l2)) : Int32) fun x9 =>
    ltv (uI h 113 33 ((hI h 113 33) + 1)) fun g10 =>
    gdi x9 2460 <|
    if (hI g10 114 (Int32.toNatClampNeg x9)) = 18 then
    (some g10)
    else
    bd2 (f_X12_does g10 x9) fun r15 h14 =>
    if r15 = (0 : Int32) then
    (f_X12_lives_111 (f_X12_lives_32 n) l2 x9 0 (hI g10 128 0) 1 h14)
    else
    f_X12_lives_111 (f_X12_lives_32 n) l2 x9 0 (hI g10 128 0) 0 h14
noncomputable def f_X12_lives_12   : Nat → Int32 → HP → Option HP
  | 0, _, _ => none
  | n + 1, l2, h =>
    if 5 ≤ l2 then
    (f_X12_lives_32 FU 0 h)
    else
    gdi l2 5 <|
    ltv (uI h 128 (Int32.toNatClampNeg l2) 0) fun g5 =>
    ltv (l2 + 1 : Int32) fun x6 =>
    f_X12_lives_12 n x6 g5
noncomputable def f_X12_lives (h : HP)  (a1 : Int32) : Option HP :=
  ltv (uI h 113 32 a1) fun g1 =>
  ltv (uI g1 113 33 0) fun g2 =>
  f_X12_lives_12 FU 0 g2
noncomputable def f_X12_live_43   : Nat → Int32 → HP → Option (Int32 × HP)
  | 0, _, _ => none
  | n + 1, l2, h =>
    if 5 ≤ l2 then
    (ltv (uI h 113 37 1) fun g15 =>
    bd2 (f_X12_gives g15 (hI g15 113 33)) fun r18 h17 =>
    some (r18, h17))
    else
    gdi l2 5 <|
    gdi l2 5 <|
    ltv (uI h 129 (Int32.toNatClampNeg l2) (hI h 128 (Int32.toNatClampNeg l2))) fun g21 =>
    ltv (l2 + 1 : Int32) fun x22 =>
    f_X12_live_43 n x22 g21
noncomputable def f_X12_live (h : HP)  (a1 : Int32) : Option (Int32 × HP) :=
  bd2 (f_X12_isFrom h (Int32.toInt64 a1) 0 9999) fun r3 h2 =>
  if r3 = (0 : Int32) then
  (bd2 (f_X12_refuse h2 1) fun r13 h12 =>
  some (r13, h12))
  else
  if (hI h2 114 11) = (-1) then
  (bd2 (f_X12_refuse h2 6) fun r10 h9 =>
  some (r10, h9))
  else
  bd1 (f_X12_lives h2 a1) fun h7 =>
  f_X12_live_43 FU 0 h7
noncomputable def f_X12_lived (h : HP)  (a1 : Int32) : Option (Int32 × HP) :=
  if a1 < (0 : Int32) then
  (bd2 (f_X12_refuse h 1) fun r4 h3 =>
  some (r4, h3))
  else
  if a1 ≤ 4 then
  (if (hI h 113 37) = (0 : Int32) then
  (bd2 (f_X12_refuse h 6) fun r9 h8 =>
  some (r9, h8))
  else
  gdi a1 5 <|
  bd2 (f_X12_gives h (hI h 129 (Int32.toNatClampNeg a1))) fun r13 h12 =>
  some (r13, h12))
  else
  bd2 (f_X12_refuse h 1) fun r16 h15 =>
  some (r16, h15)
noncomputable def f_X12_mean_124  (K94 : Int32 → Int32 → Int64 → Int32 → HP → Option (Int32 × HP)) : Nat → Int32 → Int32 → Int64 → Int32 → Int32 → HP → Option (Int32 × HP)
  | 0, _, _, _, _, _, _ => none
  | n + 1, l1, l2, l3, l5, l6, h =>
    if 44 ≤ l6 then
    (ltv (l5 + 1 : Int32) fun x44 =>
    K94 l1 l2 l3 x44 h)
    else
    gdi ((2050 : Int32) + l6) 2460 <|
    gdi l6 2460 <|
    ltv (uI h 114 (Int32.toNatClampNeg l6) (hI h 114 (Int32.toNatClampNeg ((2050 : Int32) + l6)))) fun g47 =>
    ltv (l6 + 1 : Int32) fun x48 =>
    f_X12_mean_124 K94 n l1 l2 l3 l5 x48 g47
noncomputable def f_X12_mean_94   : Nat → Int32 → Int32 → Int64 → Int32 → HP → Option (Int32 × HP)
  | 0, _, _, _, _, _ => none
  | n + 1, l1, l2, l3, l5, h =>
    if l2 ≤ l5 then
    (bd2 (f_X12_tellsBy h l3 (Int32.toInt64 l2)) fun r35 h34 =>
    gdv (is01 r35) <|
    some (r35, h34))
    else
    bd1 (f_X12_lives h (l1 + l5)) fun h38 =>
    bd2 (f_X12_bits h38 (hI h38 114 3)) fun r41 h40 =>
    ltv ((l3 + (Int32.toInt64 r41)) : Int64) fun x42 =>
    f_X12_mean_124 (f_X12_mean_94 n) FU l1 l2 x42 l5 0 h40
noncomputable def f_X12_mean_61   : Nat → Int32 → Int32 → Int32 → HP → Option (Int32 × HP)
  | 0, _, _, _, _ => none
  | n + 1, l1, l2, l3, h =>
    if 44 ≤ l3 then
    (f_X12_mean_94 FU l1 l2 0 0 h)
    else
    gdi l3 2460 <|
    gdi ((2050 : Int32) + l3) 2460 <|
    ltv (uI h 114 (Int32.toNatClampNeg ((2050 : Int32) + l3)) (hI h 114 (Int32.toNatClampNeg l3))) fun g30 =>
    ltv (l3 + 1 : Int32) fun x31 =>
    f_X12_mean_61 n l1 l2 x31 g30
noncomputable def f_X12_mean (h : HP)  (a1 : Int32) (a2 : Int32) : Option (Int32 × HP) :=
  bd2 (f_X12_isFrom h (Int32.toInt64 a1) 0 9999) fun r3 h2 =>
  if r3 = (0 : Int32) then
  (bd2 (f_X12_is h2 1) fun r7 h6 =>
  gdv (is01 r7) <|
  some (r7, h6))
  else
  bd2 (f_X12_isFrom h2 (Int32.toInt64 a2) 1 20) fun r11 h10 =>
  if r11 = (0 : Int32) then
  (bd2 (f_X12_is h10 1) fun r15 h14 =>
  gdv (is01 r15) <|
  some (r15, h14))
  else
  if ((a1 + a2) - 1) ≤ 9999 then
  (if (hI h10 114 11) = (-1) then
  (bd2 (f_X12_is h10 6) fun r21 h20 =>
  gdv (is01 r21) <|
  some (r21, h20))
  else
  f_X12_mean_61 FU a1 a2 0 h10)
  else
  bd2 (f_X12_is h10 1) fun r25 h24 =>
  gdv (is01 r25) <|
  some (r25, h24)
noncomputable def f_X12_copies_41   : Nat → Int32 → Int32 → Int32 → HP → Option HP
  | 0, _, _, _, _ => none
  | n + 1, l1, l2, l3, h =>
    if 10 ≤ l3 then
    (some h)
    else
    gdi (((10 : Int32) * l1) + l3) 60 <|
    gdi (((10 : Int32) * l2) + l3) 60 <|
    ltv (uL h 115 (Int32.toNatClampNeg (((10 : Int32) * l2) + l3)) (hL h 115 (Int32.toNatClampNeg (((10 : Int32) * l1) + l3)))) fun g9 =>
    ltv (l3 + 1 : Int32) fun x10 =>
    f_X12_copies_41 n l1 l2 x10 g9
noncomputable def f_X12_copies_2   : Nat → Int32 → Int32 → Int32 → HP → Option HP
  | 0, _, _, _, _ => none
  | n + 1, l1, l2, l3, h =>
    if 410 ≤ l3 then
    (f_X12_copies_41 FU l1 l2 0 h)
    else
    gdi (((410 : Int32) * l1) + l3) 2460 <|
    gdi (((410 : Int32) * l2) + l3) 2460 <|
    ltv (uI h 114 (Int32.toNatClampNeg (((410 : Int32) * l2) + l3)) (hI h 114 (Int32.toNatClampNeg (((410 : Int32) * l1) + l3)))) fun g4 =>
    ltv (l3 + 1 : Int32) fun x5 =>
    f_X12_copies_2 n l1 l2 x5 g4
noncomputable def f_X12_copies (h : HP)  (a1 : Int32) (a2 : Int32) : Option HP :=
  f_X12_copies_2 FU a1 a2 0 h
noncomputable def f_X12_mark (h : HP)   : Option (Int32 × HP) :=
  if (hI h 113 38) = 3 then
  (bd2 (f_X12_refuse h 4) fun r10 h9 =>
  some (r10, h9))
  else
  ltv (uI h 113 38 ((hI h 113 38) + 1)) fun g2 =>
  bd1 (f_X12_copies g2 0 (hI g2 113 38)) fun h4 =>
  bd2 (f_X12_gives h4 (hI h4 113 38)) fun r7 h6 =>
  some (r7, h6)
noncomputable def f_X12_back (h : HP)   : Option (Int32 × HP) :=
  if (hI h 113 38) = (0 : Int32) then
  (bd2 (f_X12_refuse h 6) fun r10 h9 =>
  some (r10, h9))
  else
  bd1 (f_X12_copies h (hI h 113 38) 0) fun h3 =>
  ltv (uI h3 113 38 ((hI h3 113 38) - 1)) fun g4 =>
  bd2 (f_X12_gives g4 (hI g4 113 38)) fun r7 h6 =>
  some (r7, h6)
