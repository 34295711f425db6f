/-! ===== numbers, rows ===== -/
def bI (b : Bool) : Int32 := if b then 1 else 0
theorem bI_t {p : Prop} [Decidable p] (h : p) : 1 = bI (decide p) := by simp [bI, h]
theorem bI_f {p : Prop} [Decidable p] (h : ¬ p) : 0 = bI (decide p) := by simp [bI, h]
theorem bI_01 (b : Bool) : narrow .boolean (.int (bI b)) = .int (bI b) := by cases b <;> rfl
theorem bI_0 {p : Prop} [Decidable p] : bI (decide p) = 0 ↔ ¬ p := by by_cases h : p <;> simp [bI, h]
theorem bI_1 {p : Prop} [Decidable p] : bI (decide p) = 1 ↔ p := by by_cases h : p <;> simp [bI, h]
theorem nI_mul (a b : Nat) : nI a * nI b = nI (a * b) := (Int32.ofNat_mul a b).symm
theorem nI_inj {a b : Nat} (ha : a < 2 ^ 31) (hb : b < 2 ^ 31) (h : nI a = nI b) : a = b := (nI_eq ha hb).mp h
theorem toInt_add {a b : Int32} (h1 : -2147483648 ≤ a.toInt + b.toInt) (h2 : a.toInt + b.toInt < 2147483648) : (a + b).toInt = a.toInt + b.toInt := by
  rw [Int32.toInt_add, Int.bmod_def]; split <;> omega
theorem toInt_sub {a b : Int32} (h1 : -2147483648 ≤ a.toInt - b.toInt) (h2 : a.toInt - b.toInt < 2147483648) : (a - b).toInt = a.toInt - b.toInt := by
  rw [Int32.toInt_sub, Int.bmod_def]; split <;> omega
theorem toInt_mul {a b : Int32} (h1 : -2147483648 ≤ a.toInt * b.toInt) (h2 : a.toInt * b.toInt < 2147483648) : (a * b).toInt = a.toInt * b.toInt := by
  rw [Int32.toInt_mul, Int.bmod_def]; split <;> omega
theorem toInt_lo (a : Int32) : -2147483648 ≤ a.toInt := Int32.le_toInt a
theorem toInt_hi (a : Int32) : a.toInt < 2147483648 := by have := Int32.toInt_lt a; omega
theorem toInt64_toInt (a : Int32) : a.toInt64.toInt = a.toInt := Int32.toInt_toInt64 a
theorem toInt_addL {a b : Int64} (h1 : -9223372036854775808 ≤ a.toInt + b.toInt) (h2 : a.toInt + b.toInt < 9223372036854775808) : (a + b).toInt = a.toInt + b.toInt := by
  rw [Int64.toInt_add, Int.bmod_def]; split <;> omega
/-- in range, by the number itself -/
theorem nI_toNat {x : Int32} (h : 0 ≤ x.toInt) : x = nI x.toInt.toNat := by
  apply Int32.toInt_inj.mp
  have := toInt_hi x
  rw [nI_toInt (by omega)]; omega
theorem rL_rL (h : HP) (a : Nat) (f g : Nat → Int64) : rL (rL h a f) a g = rL h a g := by
  unfold rL; congr 3; funext b; by_cases hb : b = a <;> simp [hb]
theorem rI_rI (h : HP) (a : Nat) (f g : Nat → Int32) : rI (rI h a f) a g = rI h a g := by
  unfold rI; congr 2; funext b; by_cases hb : b = a <;> simp [hb]
theorem rI_self (h : HP) (a : Nat) : rI h a (hI h a) = h := by
  obtain ⟨n, i, l, r⟩ := h
  unfold rI hI
  congr 2; funext b; by_cases hb : b = a <;> simp [hb]
theorem rL_self (h : HP) (a : Nat) : rL h a (hL h a) = h := by
  obtain ⟨n, i, l, r⟩ := h
  unfold rL hL
  congr 3; funext b; by_cases hb : b = a <;> simp [hb]
/-- a row of which k places from lo on are as g says -/
def rowI (f g : Nat → Int32) (lo k : Nat) : Nat → Int32 := fun j => if lo ≤ j ∧ j < lo + k then g (j - lo) else f j
def rowL (f g : Nat → Int64) (lo k : Nat) : Nat → Int64 := fun j => if lo ≤ j ∧ j < lo + k then g (j - lo) else f j
theorem rowI_0 (f g : Nat → Int32) (lo : Nat) : rowI f g lo 0 = f := by funext j; unfold rowI; rw [if_neg (by omega)]
theorem rowL_0 (f g : Nat → Int64) (lo : Nat) : rowL f g lo 0 = f := by funext j; unfold rowL; rw [if_neg (by omega)]
theorem rowI_step (f g : Nat → Int32) (lo k : Nat) : upd (rowI f g lo k) (lo + k) (g k) = rowI f g lo (k + 1) := by
  funext j; unfold upd rowI
  by_cases h : j = lo + k
  · subst h; rw [if_pos rfl, if_pos (by omega)]; congr 1; omega
  · rw [if_neg h]
    by_cases h2 : lo ≤ j ∧ j < lo + k
    · rw [if_pos h2, if_pos (by omega)]
    · rw [if_neg h2, if_neg (by omega)]
theorem rowL_step (f g : Nat → Int64) (lo k : Nat) : vp_updL (rowL f g lo k) (lo + k) (g k) = rowL f g lo (k + 1) := by
  funext j; unfold vp_updL rowL
  by_cases h : j = lo + k
  · subst h; rw [if_pos rfl, if_pos (by omega)]; congr 1; omega
  · rw [if_neg h]
    by_cases h2 : lo ≤ j ∧ j < lo + k
    · rw [if_pos h2, if_pos (by omega)]
    · rw [if_neg h2, if_neg (by omega)]
theorem uL_row (h : HP) (a : Nat) (f g : Nat → Int64) (lo k : Nat) : uL (rL h a (rowL f g lo k)) a (lo + k) (g k) = rL h a (rowL f g lo (k + 1)) := by
  show rL (rL h a (rowL f g lo k)) a (vp_updL (hL (rL h a (rowL f g lo k)) a) (lo + k) (g k)) = _
  rw [hL_rL_s, rL_rL, rowL_step]
theorem uI_row (h : HP) (a : Nat) (f g : Nat → Int32) (lo k : Nat) : uI (rI h a (rowI f g lo k)) a (lo + k) (g k) = rI h a (rowI f g lo (k + 1)) := by
  show rI (rI h a (rowI f g lo k)) a (upd (hI (rI h a (rowI f g lo k)) a) (lo + k) (g k)) = _
  rw [hI_rI_s, rI_rI, rowI_step]
