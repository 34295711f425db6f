/-! ===== neighbours: the class's sums of sets, place by place ===== -/
def nbL (w : Nat) (j : Bool) (L : Nat → Bool) (k : Nat) : Bool := if k % w ≠ 0 then L (k - 1) else j && L (k + w - 1)
def nbR (w : Nat) (j : Bool) (L : Nat → Bool) (k : Nat) : Bool := if k % w ≠ w - 1 then L (k + 1) else j && L (k + 1 - w)
def nbU (w : Nat) (L : Nat → Bool) (k : Nat) : Bool := decide (w ≤ k) && L (k - w)
def nbD (w : Nat) (L : Nat → Bool) (k : Nat) : Bool := L (k + w)
def b2 (b : Bool) : Nat := if b then 1 else 0
def nbC (w : Nat) (j : Bool) (L : Nat → Bool) (k : Nat) : Nat := b2 (nbL w j L k) + b2 (nbR w j L k) + b2 (nbU w L k) + b2 (nbD w L k)
/-- a hill's row, as its town's size says it -/
def HillOK (f : Nat → Int32) (w r : Nat) (j : Bool) : Prop :=
  (1 ≤ w ∧ w ≤ 5 ∧ f 0 = nI w) ∧ (1 ≤ r ∧ r ≤ 6) ∧ (f 2 = if j then 1 else 0) ∧ ∀ i, i < 32 → (bt (f 3) i = decide (i < w * r) ∧ bt (f 7) i = decide (i < w * r ∧ i % w = 0) ∧ bt (f 8) i = decide (i < w * r ∧ i % w = w - 1))
theorem shlb {x : Int32} {n i : Nat} (hn : n < 32) (hi : i < 32) : bt (shl x (nI n)) i = (decide (n ≤ i) && bt x (i - n)) := b_shl n hn x hi
theorem shrb {x : Int32} {n i : Nat} (hn : n < 32) (hi : i < 32) (h31 : bt x 31 = false) : bt (shr x (nI n)) i = bt x (n + i) := by
  unfold shr
  rw [b_sshr n hn x hi]
  by_cases h : n + i < 32
  · rw [if_pos h]
  · rw [if_neg h, h31, b_big (by omega)]
theorem mod_succ0 {k w : Nat} (hw : 0 < w) : (k + 1) % w = if k % w = w - 1 then 0 else k % w + 1 := by
  have h2 : k % w < w := Nat.mod_lt _ hw
  rw [← Nat.mod_add_mod]
  by_cases h : k % w = w - 1
  · rw [if_pos h, show k % w + 1 = w by omega, Nat.mod_self]
  · rw [if_neg h, Nat.mod_eq_of_lt (by omega)]
theorem mod_pred {k w : Nat} (hw : 0 < w) (hk : k % w ≠ 0) : (k - 1) % w = k % w - 1 := by
  have h1 : k ≠ 0 := fun e => hk (by rw [e]; exact Nat.zero_mod w)
  have h2 := mod_succ0 (k := k - 1) (w := w) hw
  rw [show k - 1 + 1 = k by omega] at h2
  by_cases h : (k - 1) % w = w - 1
  · rw [if_pos h] at h2; exact absurd h2 hk
  · rw [if_neg h] at h2; omega
theorem row_in {k w r : Nat} (hw : 0 < w) (hk : k < w * r) (h0 : k % w = 0) : k + w - 1 < w * r := by
  have h1 := Nat.div_add_mod k w
  rw [h0, Nat.add_zero] at h1
  have h2 : k / w < r := by rw [Nat.div_lt_iff_lt_mul hw, Nat.mul_comm]; exact hk
  have h3 : w * (k / w + 1) ≤ w * r := Nat.mul_le_mul_left w h2
  rw [Nat.mul_add, Nat.mul_one] at h3
  omega
theorem left_b {f : Nat → Int32} {w r : Nat} {j : Bool} (H : HillOK f w r j) {x : Int32} (hx : ∀ i, i < 32 → bt x i = true → i < w * r) {k : Nat} (hk : k < w * r) : bt (leftF f x) k = nbL w j (bt x) k := by
  obtain ⟨⟨w1, w5, hw⟩, ⟨r1, r6⟩, hj, hb⟩ := H
  have h30 := wr_le w5 r6
  have base : bt (shl (x &&& (f 8 ^^^ -1)) 1) k = (decide (k % w ≠ 0) && bt x (k - 1)) := by
    show bt (shl _ (nI 1)) k = _
    rw [shlb (by decide) (by omega)]
    by_cases h1 : 1 ≤ k
    · rw [decide_eq_true h1, Bool.true_and, b_and, b_xor, b_m1 _ (by omega), (hb (k - 1) (by omega)).2.2]
      by_cases h0 : k % w = 0
      · have : (k - 1) % w = w - 1 := by
          have h2 := mod_succ0 (k := k - 1) (w := w) (by omega)
          rw [show k - 1 + 1 = k by omega, h0] at h2
          by_cases h : (k - 1) % w = w - 1
          · exact h
          · rw [if_neg h] at h2; omega
        rw [decide_eq_true (show k - 1 < w * r ∧ (k - 1) % w = w - 1 from ⟨by omega, this⟩), decide_eq_false (by simp [h0])]; simp
      · have h2 := mod_pred (by omega) h0
        have h3 : k % w < w := Nat.mod_lt _ (by omega)
        rw [decide_eq_false (by omega), decide_eq_true h0]; simp
    · have : k = 0 := by omega
      subst this
      rw [decide_eq_false h1, Nat.zero_mod, decide_eq_false (by simp)]; rfl
  have wrap : bt (shr (x &&& f 8) (f 0 - 1)) k = (decide (k % w = 0) && bt x (k + w - 1)) := by
    rw [hw, show (1 : Int32) = nI 1 from rfl, nI_sub w1, shrb (by omega) (by omega) (by rw [b_and, (hb 31 (by decide)).2.2, decide_eq_false (by omega), Bool.and_false]), b_and, show w - 1 + k = k + w - 1 by omega]
    by_cases h0 : k % w = 0
    · have h1 := row_in (r := r) (by omega) hk h0
      have h2 : (k + w - 1) % w = w - 1 := by
        rw [show k + w - 1 = (w - 1) + k by omega, ← Nat.add_mod_mod, h0, Nat.add_zero, Nat.mod_eq_of_lt (by omega)]
      rw [(hb _ (by omega)).2.2, decide_eq_true ⟨h1, h2⟩, decide_eq_true h0, Bool.and_true, Bool.true_and]
    · rw [decide_eq_false h0, Bool.false_and]
      by_cases hl : k + w - 1 < 32
      · rw [(hb _ hl).2.2, decide_eq_false, Bool.and_false]
        rintro ⟨-, q⟩
        have h3 : (k + w - 1 + 1) % w = 0 := by rw [mod_succ0 (by omega), if_pos q]
        rw [show k + w - 1 + 1 = k + w by omega, Nat.add_mod_right] at h3
        exact h0 h3
      · rw [b_big (by omega)]; rfl
  unfold leftF nbL
  cases j
  · rw [if_pos (by rw [hj]; rfl), base]
    by_cases h0 : k % w = 0
    · rw [if_neg (by simp [h0]), decide_eq_false (by simp [h0])]; rfl
    · rw [if_pos h0, decide_eq_true h0, Bool.true_and]
  · rw [if_neg (by rw [hj]; decide), b_or, base, wrap]
    by_cases h0 : k % w = 0
    · rw [if_neg (by simp [h0]), decide_eq_false (by simp [h0]), decide_eq_true h0]; rfl
    · rw [if_pos h0, decide_eq_true h0, decide_eq_false h0]; simp
theorem right_b {f : Nat → Int32} {w r : Nat} {j : Bool} (H : HillOK f w r j) {x : Int32} (hx : ∀ i, i < 32 → bt x i = true → i < w * r) {k : Nat} (hk : k < w * r) : bt (rightF f x) k = nbR w j (bt x) k := by
  obtain ⟨⟨w1, w5, hw⟩, ⟨r1, r6⟩, hj, hb⟩ := H
  have h30 := wr_le w5 r6
  have h31 : bt x 31 = false := by
    cases q : bt x 31
    · rfl
    · have := hx 31 (by decide) q; omega
  have base : bt (shr (x &&& (f 7 ^^^ -1)) 1) k = (decide (k % w ≠ w - 1) && bt x (k + 1)) := by
    show bt (shr _ (nI 1)) k = _
    rw [shrb (by decide) (by omega) (by rw [b_and, h31, Bool.false_and]), b_and, b_xor, b_m1 _ (by omega), (hb _ (by omega)).2.1, Nat.add_comm 1 k, mod_succ0 (by omega)]
    by_cases h0 : k % w = w - 1
    · rw [if_pos h0]
      by_cases hp : k + 1 < w * r
      · rw [decide_eq_true ⟨hp, rfl⟩, decide_eq_false (by simp [h0])]; simp
      · have : bt x (k + 1) = false := by
          cases q : bt x (k + 1)
          · rfl
          · exact absurd (hx _ (by omega) q) hp
        rw [this]; simp
    · rw [if_neg h0, decide_eq_false (by omega), decide_eq_true h0]; simp
  have wrap : bt (shl (x &&& f 7) (f 0 - 1)) k = (decide (k % w = w - 1) && bt x (k + 1 - w)) := by
    rw [hw, show (1 : Int32) = nI 1 from rfl, nI_sub w1, shlb (by omega) (by omega), b_and]
    by_cases h1 : w - 1 ≤ k
    · rw [decide_eq_true h1, Bool.true_and, (hb _ (by omega)).2.1, show k - (w - 1) = k + 1 - w by omega]
      have h3 := mod_succ0 (k := k) (w := w) (by omega)
      have h4 : (k + 1) % w = (k + 1 - w) % w := by
        conv => lhs; rw [show k + 1 = (k + 1 - w) + w by omega, Nat.add_mod_right]
      by_cases h0 : k % w = w - 1
      · rw [if_pos h0, h4] at h3
        rw [decide_eq_true ⟨by omega, h3⟩, decide_eq_true h0]; simp
      · rw [if_neg h0, h4] at h3
        rw [decide_eq_false (by omega), decide_eq_false h0]; simp
    · have : k % w = k := Nat.mod_eq_of_lt (by omega)
      rw [decide_eq_false h1, decide_eq_false (by omega)]; rfl
  unfold rightF nbR
  cases j
  · rw [if_pos (by rw [hj]; rfl), base]
    by_cases h0 : k % w = w - 1
    · rw [if_neg (by simp [h0]), decide_eq_false (by simp [h0])]; rfl
    · rw [if_pos h0, decide_eq_true h0, Bool.true_and]
  · rw [if_neg (by rw [hj]; decide), b_or, base, wrap]
    by_cases h0 : k % w = w - 1
    · rw [if_neg (by simp [h0]), decide_eq_false (by simp [h0]), decide_eq_true h0]; rfl
    · rw [if_pos h0, decide_eq_true h0, decide_eq_false h0]; simp
theorem above_b {f : Nat → Int32} {w r : Nat} {j : Bool} (H : HillOK f w r j) (x : Int32) {k : Nat} (hk : k < w * r) : bt (aboveF f x) k = nbU w (bt x) k := by
  obtain ⟨⟨w1, w5, hw⟩, ⟨r1, r6⟩, hj, hb⟩ := H
  have h30 := wr_le w5 r6
  unfold aboveF nbU
  rw [hw, b_and, shlb (by omega) (by omega), (hb _ (by omega)).1, decide_eq_true hk, Bool.and_true]
theorem below_b {f : Nat → Int32} {w r : Nat} {j : Bool} (H : HillOK f w r j) {x : Int32} (hx : ∀ i, i < 32 → bt x i = true → i < w * r) {k : Nat} (hk : k < w * r) : bt (belowF f x) k = nbD w (bt x) k := by
  obtain ⟨⟨w1, w5, hw⟩, ⟨r1, r6⟩, hj, hb⟩ := H
  have h30 := wr_le w5 r6
  have h31 : bt x 31 = false := by
    cases q : bt x 31
    · rfl
    · have := hx 31 (by decide) q; omega
  unfold belowF nbD
  rw [hw, shrb (by omega) (by omega) h31, Nat.add_comm]
/-- the places with m lit neighbours -/
theorem lit_b {f : Nat → Int32} {w r : Nat} {j : Bool} (H : HillOK f w r j) {x : Int32} (hx : ∀ i, i < 32 → bt x i = true → i < w * r) {k : Nat} (hk : k < w * r) {m : Nat} (hm : m < 5) : bt (litF f x m) k = decide (nbC w j (bt x) k = m) := by
  have h30 := wr_le H.1.2.1 H.2.1.2
  have a := left_b H hx hk
  have b := right_b H hx hk
  have c := above_b H x hk
  have d := below_b H hx hk
  unfold nbC
  rw [← a, ← b, ← c, ← d]
  have hkm := b_m1 k (by omega)
  unfold litF
  generalize leftF f x = l
  generalize rightF f x = r'
  generalize aboveF f x = a'
  generalize belowF f x = b'
  rcases (show m = 0 ∨ m = 1 ∨ m = 2 ∨ m = 3 ∨ m = 4 by omega) with rfl | rfl | rfl | rfl | rfl
  all_goals
    simp only [onesF, twosF, foursF, b_xor, b_and, b_or, hkm]
    cases bt l k <;> cases bt r' k <;> cases bt a' k <;> cases bt b' k <;> decide
