/-! ===== small helpers of both, in closed form ===== -/
theorem lgc_lt {a b : Int64} : lg_cmp a b < 0 ↔ a.toInt < b.toInt := by rw [lg_cmp_lt, Int64.lt_iff_toInt_lt]
theorem lgc_le {a b : Int64} : lg_cmp a b ≤ 0 ↔ a.toInt ≤ b.toInt := by rw [lg_cmp_le, Int64.le_iff_toInt_le]
theorem isFrom_e (h : HP) (a lo hi : Int64) : f_X12_isFrom h a lo hi = some (bI (decide (lo.toInt ≤ a.toInt ∧ a.toInt ≤ hi.toInt)), h) := by
  unfold f_X12_isFrom
  by_cases h1 : lg_cmp a lo < 0
  · rw [if_pos h1]; rw [lgc_lt] at h1
    rw [decide_eq_false (by omega)]; rfl
  · rw [if_neg h1]; rw [lgc_lt] at h1
    by_cases h2 : 0 < lg_cmp a hi
    · rw [if_pos h2]; rw [← Int32.not_le, lgc_le] at h2
      rw [decide_eq_false (by omega)]; rfl
    · rw [if_neg h2]; rw [Int32.not_lt, lgc_le] at h2
      rw [decide_eq_true (by omega)]; rfl
theorem isPicture_e (h : HP) (a : Int64) : f_X11_isPicture h a = some (bI (decide (0 ≤ a.toInt ∧ a.toInt ≤ 1073741823)), h) := isFrom_e h a 0 1073741823
theorem isRule_e (h : HP) (a : Int32) : f_X12_isRule h a = some (bI (decide (0 ≤ a.toInt ∧ a.toInt < (hI h 114 5).toInt)), h) := by
  unfold f_X12_isRule
  simp only [Int32.lt_iff_toInt_lt, Int32.le_iff_toInt_le, Int32.reduceToInt]
  by_cases h1 : a.toInt < 0
  · rw [if_pos h1, decide_eq_false (by omega)]; rfl
  · rw [if_neg h1]
    by_cases h2 : (hI h 114 5).toInt ≤ a.toInt
    · rw [if_pos h2, decide_eq_false (by omega)]; rfl
    · rw [if_neg h2, decide_eq_true (by omega)]; rfl
theorem isCitizen_e (h : HP) (a : Int32) : f_X12_isCitizen h a = some (bI (decide (0 ≤ a.toInt ∧ a.toInt < (hI h 114 6).toInt)), h) := by
  unfold f_X12_isCitizen
  simp only [Int32.lt_iff_toInt_lt, Int32.le_iff_toInt_le, Int32.reduceToInt]
  by_cases h1 : a.toInt < 0
  · rw [if_pos h1, decide_eq_false (by omega)]; rfl
  · rw [if_neg h1]
    by_cases h2 : (hI h 114 6).toInt ≤ a.toInt
    · rw [if_pos h2, decide_eq_false (by omega)]; rfl
    · rw [if_neg h2, decide_eq_true (by omega)]; rfl
theorem isPlace_e (h : HP) (x y : Int32) : f_X12_isPlace h x y = some (bI (decide (0 ≤ x.toInt ∧ x.toInt < (hI h 114 0).toInt ∧ 0 ≤ y.toInt ∧ y.toInt < (hI h 114 1).toInt)), h) := by
  unfold f_X12_isPlace
  simp only [Int32.lt_iff_toInt_lt, Int32.le_iff_toInt_le, Int32.reduceToInt]
  by_cases h1 : x.toInt < 0
  · rw [if_pos h1, decide_eq_false (by omega)]; rfl
  · rw [if_neg h1]
    by_cases h2 : (hI h 114 0).toInt ≤ x.toInt
    · rw [if_pos h2, decide_eq_false (by omega)]; rfl
    · rw [if_neg h2]
      by_cases h3 : y.toInt < 0
      · rw [if_pos h3, decide_eq_false (by omega)]; rfl
      · rw [if_neg h3]
        by_cases h4 : (hI h 114 1).toInt ≤ y.toInt
        · rw [if_pos h4, decide_eq_false (by omega)]; rfl
        · rw [if_neg h4, decide_eq_true (by omega)]; rfl
theorem bI_dt {p : Prop} [Decidable p] (h : p) : bI (decide p) = 1 := (bI_t h).symm
theorem bI_df {p : Prop} [Decidable p] (h : ¬ p) : bI (decide p) = 0 := (bI_f h).symm
theorem b_one : ∀ i, i < 32 → bt 1 i = decide (i = 0) := by decide +kernel
theorem b_bit {k i : Nat} (hk : k < 32) (hi : i < 32) : bt ((1 : Int32) <<< (nI k &&& 31)) i = decide (i = k) := by
  rw [b_shl k hk 1 hi]
  by_cases h : k ≤ i
  · rw [b_one (i - k) (by omega), decide_eq_true h, Bool.true_and]
    by_cases e : i = k
    · rw [decide_eq_true (by omega), decide_eq_true e]
    · rw [decide_eq_false (by omega), decide_eq_false e]
  · rw [decide_eq_false h, Bool.false_and, decide_eq_false (by omega)]
theorem and_bit {x : Int32} {k : Nat} (hk : k < 32) : x &&& ((1 : Int32) <<< (nI k &&& 31)) = 0 ↔ bt x k = false := by
  constructor
  · intro e
    have := congrArg (fun z => bt z k) e
    simp only [b_and, b_bit hk hk, b_0, decide_true, Bool.and_true] at this
    exact this
  · intro e
    refine b_ext (fun i hi => ?_)
    rw [b_and, b_bit hk hi, b_0]
    by_cases q : i = k
    · rw [q, e]; rfl
    · rw [decide_eq_false q, Bool.and_false]
theorem pl_cases {w r : Nat} (hw : w < 2 ^ 31) (hr : r < 2 ^ 31) (x y : Int32) : (∃ a b, a < w ∧ b < r ∧ x = nI a ∧ y = nI b) ∨ ¬ (0 ≤ x.toInt ∧ x.toInt < (nI w).toInt ∧ 0 ≤ y.toInt ∧ y.toInt < (nI r).toInt) := by
  rw [nI_t hw, nI_t hr]
  by_cases h : 0 ≤ x.toInt ∧ x.toInt < (w : Int) ∧ 0 ≤ y.toInt ∧ y.toInt < (r : Int)
  · exact Or.inl ⟨x.toInt.toNat, y.toInt.toNat, by omega, by omega, nI_toNat h.1, nI_toNat h.2.2.1⟩
  · exact Or.inr h
theorem pl_lt {w r a b : Nat} (ha : a < w) (hb : b < r) : b * w + a < w * r := by
  have h1 : (b + 1) * w ≤ r * w := Nat.mul_le_mul_right w hb
  have h2 : (b + 1) * w = b * w + w := Nat.succ_mul b w
  have h3 : r * w = w * r := Nat.mul_comm r w
  omega
theorem wr_le {w r : Nat} (hw : w ≤ 5) (hr : r ≤ 6) : w * r ≤ 30 := Nat.mul_le_mul hw hr
theorem pl_nI {w a b : Nat} : nI b * nI w + nI a = nI (b * w + a) := by rw [nI_mul, nI_add]
/-- what is wrong with a house, a lamp -/
def whF (h : HP) (w r : Nat) (x y : Int32) : Int32 := if 0 ≤ x.toInt ∧ x.toInt < (w : Int) ∧ 0 ≤ y.toInt ∧ y.toInt < (r : Int) then (if bt (hI h 114 2) (y.toInt.toNat * w + x.toInt.toNat) = true then 0 else 7) else 1
theorem wh_in {h : HP} {w r a b : Nat} (w5 : w ≤ 5) (r6 : r ≤ 6) (hw : hI h 114 0 = nI w) (hr : hI h 114 1 = nI r) (ha : a < w) (hb : b < r) :
    f_X12_wrongHouse h (nI a) (nI b) = some ((if bt (hI h 114 2) (b * w + a) = true then 0 else 7), h) := by
  have h30 := wr_le w5 r6
  have hpl := pl_lt ha hb
  unfold f_X12_wrongHouse
  rw [isPlace_e, bd2_s, hw, hr, nI_t (by omega), nI_t (by omega), nI_t (by omega), nI_t (by omega), bI_dt (by omega), if_neg (by decide)]
  unfold f_X12_bitOf
  rw [bd2_s, hw, Int32.mul_comm, pl_nI]
  by_cases hb : bt (hI h 114 2) (b * w + a) = true
  · rw [if_pos hb, if_neg (fun q => by rw [(and_bit (by omega)).mp q] at hb; cases hb)]
  · rw [if_neg hb, if_pos ((and_bit (by omega)).mpr (by simpa using hb))]
theorem wh_out {h : HP} {x y : Int32} (hn : ¬ (0 ≤ x.toInt ∧ x.toInt < (hI h 114 0).toInt ∧ 0 ≤ y.toInt ∧ y.toInt < (hI h 114 1).toInt)) : f_X12_wrongHouse h x y = some (1, h) := by
  unfold f_X12_wrongHouse
  rw [isPlace_e, bd2_s, bI_df hn, if_pos rfl]
theorem wl_in {h : HP} {w r a b : Nat} (w5 : w ≤ 5) (r6 : r ≤ 6) (hw : hI h 114 0 = nI w) (hr : hI h 114 1 = nI r) (ha : a < w) (hb : b < r) :
    f_X12_wrongLamp h (nI a) (nI b) = some ((if (bt (hI h 114 2) (b * w + a) && !bt (hI h 114 4) (b * w + a)) = true then 0 else 7), h) := by
  have h30 := wr_le w5 r6
  have hpl := pl_lt ha hb
  unfold f_X12_wrongLamp
  rw [wh_in w5 r6 hw hr ha hb]
  unfold f_X12_bitOf
  simp only [bd2_s]
  rw [hw, Int32.mul_comm, pl_nI]
  by_cases h1 : bt (hI h 114 2) (b * w + a) = true
  · rw [if_pos h1, if_pos (by decide), h1, Bool.true_and]
    by_cases h2 : bt (hI h 114 4) (b * w + a) = true
    · rw [if_neg (fun q => by rw [(and_bit (by omega)).mp q] at h2; cases h2), h2]; rfl
    · have h2 : bt (hI h 114 4) (b * w + a) = false := by simpa using h2
      rw [if_pos ((and_bit (by omega)).mpr h2), h2]; rfl
  · have h1 : bt (hI h 114 2) (b * w + a) = false := by simpa using h1
    rw [h1, if_neg (show ¬ (false = true) by decide), if_neg (show ¬ (7 : Int32) ≤ 0 by decide), wh_in w5 r6 hw hr ha hb, bd2_s, h1]; rfl
theorem wl_out {h : HP} {x y : Int32} (hn : ¬ (0 ≤ x.toInt ∧ x.toInt < (hI h 114 0).toInt ∧ 0 ≤ y.toInt ∧ y.toInt < (hI h 114 1).toInt)) : f_X12_wrongLamp h x y = some (1, h) := by
  unfold f_X12_wrongLamp
  rw [wh_out hn, bd2_s, if_neg (by decide), wh_out hn, bd2_s]
theorem wf_in {h : HP} {t w r a b : Nat} (w5 : w ≤ 5) (r6 : r ≤ 6) (hw : hI h (t + 1) 0 = nI w) (hr : hI h (t + 1) 1 = nI r) (ha : a < w) (hb : b < r) :
    f_X11_whyNotFree h t (nI a) (nI b) = some ((if bt (hI h (t + 1) 5) (b * w + a) = true then 0 else 7), h) := by
  have h30 := wr_le w5 r6
  have hpl := pl_lt ha hb
  unfold f_X11_whyNotFree f_X1_placeOf placeF
  have hc : 0 ≤ (a : Int) ∧ (a : Int) < (w : Int) ∧ 0 ≤ (b : Int) ∧ (b : Int) < (r : Int) := by omega
  have hc2 : (0 : Int32) ≤ nI (b * w + a) := by rw [show (0 : Int32) = nI 0 from rfl, nI_leI (by omega) (by omega)]; omega
  rw [bd2_s, hw, hr, nI_t (by omega), nI_t (by omega), nI_t (by omega), nI_t (by omega), if_pos hc, pl_nI, if_pos hc2]
  by_cases hb : bt (hI h (t + 1) 5) (b * w + a) = true
  · rw [if_pos hb, if_neg (fun q => by rw [(and_bit (by omega)).mp q] at hb; cases hb)]
  · rw [if_neg hb, if_pos ((and_bit (by omega)).mpr (by simpa using hb))]
theorem wf_out {h : HP} {t : Nat} {x y : Int32} (hn : ¬ (0 ≤ x.toInt ∧ x.toInt < (hI h (t + 1) 0).toInt ∧ 0 ≤ y.toInt ∧ y.toInt < (hI h (t + 1) 1).toInt)) : f_X11_whyNotFree h t x y = some (1, h) := by
  unfold f_X11_whyNotFree f_X1_placeOf placeF
  rw [bd2_s, if_neg hn, if_neg (by decide)]
