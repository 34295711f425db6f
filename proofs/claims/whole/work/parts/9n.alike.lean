/-! ===== the reference's reader: one token on the fly ===== -/
def BY (x : Int32) : Prop := ∃ c : Int8, x = c.toInt32
theorem by_all : ∀ k, k < 256 → (k < 128 → (Int8.ofNat k).toInt32 = nI k ∧ (nI k) &&& 255 = nI k) ∧ (128 ≤ k → (Int8.ofNat k).toInt32 < 0 ∧ 128 ≤ (Int8.ofNat k).toInt32 &&& 255 ∧ (Int8.ofNat k).toInt32 &&& 255 ≤ 255) := by decide +kernel
theorem by_c {x : Int32} (h : BY x) : (∃ c, c < 128 ∧ x = nI c ∧ x &&& 255 = nI c) ∨ (x < 0 ∧ 128 ≤ x &&& 255 ∧ x &&& 255 ≤ 255) := by
  obtain ⟨c, e⟩ := h
  obtain ⟨k, hk, ek⟩ : ∃ k, k < 256 ∧ c = Int8.ofNat k := by
    refine ⟨c.toBitVec.toNat, by have := c.toBitVec.isLt; omega, ?_⟩
    apply Int8.toBitVec_inj.mp
    rw [show (Int8.ofNat c.toBitVec.toNat).toBitVec = BitVec.ofNat 8 c.toBitVec.toNat from rfl, BitVec.ofNat_toNat, BitVec.setWidth_eq]
  have q := by_all k hk
  by_cases h1 : k < 128
  · refine Or.inl ⟨k, h1, ?_, ?_⟩
    · rw [e, ek]; exact (q.1 h1).1
    · rw [e, ek, (q.1 h1).1]; exact (q.1 h1).2
  · refine Or.inr ?_
    rw [e, ek]; exact q.2 (by omega)
/-- a text: L bytes -/
def TX (T : Nat → Int32) (L : Nat) : Prop := L ≤ 900 ∧ ∀ j, j < L → BY (T j)
/-- the reference has it -/
def RTx (b : HP) (T : Nat → Int32) (L : Nat) : Prop := hI b 113 11 = nI L ∧ ∀ j, j < L → hI b 120 j = T j
def ub (T : Nat → Int32) (L p : Nat) : Int32 := if p < L then T p &&& 255 else -1
theorem f_byteAt {b : HP} {T : Nat → Int32} {L : Nat} (x : RTx b T L) (hL : L ≤ 900) {p : Nat} (hp : p < 2 ^ 31) : f_X12_byteAt b (nI p) = some (ub T L p, b) := by
  unfold f_X12_byteAt ub
  rw [x.1]
  by_cases h : p < L
  · rw [if_neg (by rw [nI_leI (by omega) hp]; omega), if_pos h, gdi_nI (by omega) (by decide), nI_clamp hp, x.2 p h]
  · rw [if_pos (by rw [nI_leI (by omega) hp]; omega), if_neg h]
theorem ub_ch {T : Nat → Int32} {L p c : Nat} (tx : TX T L) (hp : p < L) (hc : c < 128) : ub T L p = nI c ↔ T p = nI c := by
  unfold ub
  rw [if_pos hp]
  rcases by_c (tx.2 p hp) with ⟨d, hd, e1, e2⟩ | ⟨e1, e2, e3⟩
  · rw [e1] at e2 ⊢; rw [e2]
  · constructor
    · intro q; rw [q] at e2
      exact absurd e2 (by rw [show (128 : Int32) = nI 128 from rfl, nI_leI (by omega) (by omega)]; omega)
    · intro q; rw [q] at e1
      exact absurd e1 (by rw [show (0 : Int32) = nI 0 from rfl, nI_ltI (by omega) (by omega)]; omega)
theorem ub_m1 {T : Nat → Int32} {L p : Nat} (tx : TX T L) : ub T L p = -1 ↔ ¬ p < L := by
  unfold ub
  by_cases hp : p < L
  · rw [if_pos hp]
    refine ⟨fun q => ?_, fun q => absurd hp q⟩
    rcases by_c (tx.2 p hp) with ⟨d, hd, e1, e2⟩ | ⟨e1, e2, e3⟩
    · rw [e2] at q
      exact absurd (congrArg Int32.toInt q) (by rw [nI_toInt (by omega)]; intro q; have : ((-1 : Int32).toInt) = -1 := rfl; omega)
    · rw [q] at e2; exact absurd e2 (by decide)
  · rw [if_neg hp]; exact ⟨fun _ => hp, fun _ => rfl⟩
theorem rng_b {T : Nat → Int32} {L p : Nat} (tx : TX T L) (hp : p < L) {lo hi : Nat} (hh : hi < 128) (hlo : lo < 128) : (nI lo ≤ T p &&& 255 ∧ T p &&& 255 ≤ nI hi) ↔ (nI lo ≤ T p ∧ T p ≤ nI hi) := by
  rcases by_c (tx.2 p hp) with ⟨d, hd, e1, e2⟩ | ⟨e1, e2, e3⟩
  · rw [e1] at e2 ⊢; rw [e2]
  · constructor
    · intro q
      have := Int32.le_trans e2 q.2
      rw [show (128 : Int32) = nI 128 from rfl, nI_leI (by omega) (by omega)] at this; omega
    · intro q
      have := Int32.lt_of_le_of_lt q.1 e1
      rw [show (0 : Int32) = nI 0 from rfl, nI_ltI (by omega) (by omega)] at this; omega
theorem f_small {b : HP} {T : Nat → Int32} {L : Nat} (tx : TX T L) (p : Nat) : f_X12_isSmall b (ub T L p) = some (bI (decide (p < L) && isLo T p), b) := by
  unfold f_X12_isSmall
  rw [show (97 : Int32) = nI 97 from rfl, show (122 : Int32) = nI 122 from rfl]
  by_cases hp : p < L
  · have r := rng_b tx hp (lo := 97) (hi := 122) (by decide) (by decide)
    have e : ub T L p = T p &&& 255 := if_pos hp
    rw [e]
    by_cases q : nI 97 ≤ T p &&& 255 ∧ T p &&& 255 ≤ nI 122
    · rw [if_neg (Int32.not_lt.mpr q.1), if_neg (Int32.not_lt.mpr q.2)]
      have : isLo T p = true := by unfold isLo; exact decide_eq_true (r.mp q)
      rw [this, decide_eq_true hp]; rfl
    · have : isLo T p = false := by unfold isLo; exact decide_eq_false (fun z => q (r.mpr z))
      rw [this, Bool.and_false]
      by_cases q1 : T p &&& 255 < nI 97
      · rw [if_pos q1]; rfl
      · rw [if_neg q1, if_pos (Int32.not_le.mp (fun z => q ⟨Int32.not_lt.mp q1, z⟩))]; rfl
  · rw [show ub T L p = -1 from if_neg hp, if_pos (by decide), decide_eq_false hp]; rfl
theorem f_digit {b : HP} {T : Nat → Int32} {L : Nat} (tx : TX T L) (p : Nat) : f_X12_isDigit b (ub T L p) = some (bI (decide (p < L) && isDi T p), b) := by
  unfold f_X12_isDigit
  rw [show (48 : Int32) = nI 48 from rfl, show (57 : Int32) = nI 57 from rfl]
  by_cases hp : p < L
  · have r := rng_b tx hp (lo := 48) (hi := 57) (by decide) (by decide)
    have e : ub T L p = T p &&& 255 := if_pos hp
    rw [e]
    by_cases q : nI 48 ≤ T p &&& 255 ∧ T p &&& 255 ≤ nI 57
    · rw [if_neg (Int32.not_lt.mpr q.1), if_neg (Int32.not_lt.mpr q.2)]
      have : isDi T p = true := by unfold isDi; exact decide_eq_true (r.mp q)
      rw [this, decide_eq_true hp]; rfl
    · have : isDi T p = false := by unfold isDi; exact decide_eq_false (fun z => q (r.mpr z))
      rw [this, Bool.and_false]
      by_cases q1 : T p &&& 255 < nI 48
      · rw [if_pos q1]; rfl
      · rw [if_neg q1, if_pos (Int32.not_le.mp (fun z => q ⟨Int32.not_lt.mp q1, z⟩))]; rfl
  · rw [show ub T L p = -1 from if_neg hp, if_pos (by decide), decide_eq_false hp]; rfl
theorem uI_idm {h : HP} {a j : Nat} {x : Int32} (e : hI h a j = x) : uI h a j x = h := by
  subst e
  exact rI_same (funext fun k => by unfold upd; by_cases q : k = j; rw [if_pos q, q]; rw [if_neg q])
theorem RTx.u {b : HP} {T : Nat → Int32} {L : Nat} (x : RTx b T L) {c j : Nat} (v : Int32) (h : c ≠ 120 ∧ (c = 113 → j ≠ 11)) : RTx (uI b c j v) T L := by
  refine ⟨?_, fun k hk => ?_⟩
  · rw [hI_uI_n (by by_cases q : c = 113; right; exact fun z => h.2 q z.symm; left; exact fun z => q z.symm)]; exact x.1
  · rw [hI_uI_n (by left; exact fun z => h.1 z.symm)]; exact x.2 k hk
theorem on81 {T : Nat → Int32} {L : Nat} (tx : TX T L) : ∀ d p f b, RTx b T L → L - p ≤ d → p ≤ L → d < f → hI b 113 14 = nI p → f_X12_onward_81 f b = some (uI (uI b 113 14 (nI (wEnd T L p))) 113 12 2)
  | d, p, 0, b, x, hd, hp, hf, e => absurd hf (by omega)
  | d, p, f + 1, b, x, hd, hp, hf, e => by
    have hL := tx.1
    show (bd2 (f_X12_byteAt b (hI b 113 14)) fun r35 h34 => bd2 (f_X12_isSmall h34 r35) fun r38 h37 => if r38 = (0 : Int32) then (ltv (uI h37 113 12 2) fun g40 => some g40) else ltv (uI h37 113 14 ((hI h37 113 14) + 1)) fun g41 => f_X12_onward_81 f g41) = _
    rw [e, f_byteAt x hL (by omega), bd2_s, f_small tx, bd2_s]
    by_cases q : (decide (p < L) && isLo T p) = true
    · rw [q, if_neg (by decide), ltv_e, e, nI_1]
      have q' := Bool.and_eq_true_iff.mp q
      have hpL : p < L := of_decide_eq_true q'.1
      match d, hd, hf with
      | d + 1, hd, hf =>
        rw [on81 tx d (p + 1) f _ (x.u _ (by decide)) (by omega) (by omega) (by omega) (hI_uI_s _ _ _ _), uI_twice]
        unfold wEnd
        rw [← runN_step hpL q'.2]
      | 0, hd, hf => exact absurd hd (by omega)
    · have q0 : (decide (p < L) && isLo T p) = false := by simpa using q
      rw [q0, if_pos (by rfl), ltv_e]
      have : wEnd T L p = p := by
        unfold wEnd
        refine runN_stop ?_
        rcases Bool.and_eq_false_iff.mp q0 with h | h
        · exact Or.inl (by have := of_decide_eq_false h; omega)
        · exact Or.inr h
      rw [this, uI_idm (h := b) e]
/-- the digits as a number, as the reference has it -/
def rN (T : Nat → Int32) (s : Nat) : Nat → Int32
  | 0 => 0
  | k + 1 => if 10 * rN T s k + T (s + k) - 48 < 100000 then 10 * rN T s k + T (s + k) - 48 else 100000
theorem rN_s (T : Nat → Int32) (s k : Nat) : rN T s (k + 1) = if 10 * rN T s k + T (s + k) - 48 < 100000 then 10 * rN T s k + T (s + k) - 48 else 100000 := rfl
theorem di_d {T : Nat → Int32} {p : Nat} (h : isDi T p = true) : ∃ c, c ≤ 9 ∧ T p = nI (48 + c) := by
  have q := of_decide_eq_true h
  obtain ⟨k, hk, ek⟩ := nat_is (x := T p) (by have := Int32.le_iff_toInt_le.mp q.1; have : ((48 : Int32).toInt) = 48 := rfl; omega)
  rw [ek, show (48 : Int32) = nI 48 from rfl, show (57 : Int32) = nI 57 from rfl, nI_leI (by omega) (by omega), nI_leI (by omega) (by omega)] at q
  exact ⟨k - 48, by omega, by rw [ek]; congr 1; omega⟩
theorem rN_num {T : Nat → Int32} {s : Nat} : ∀ k, k ≤ 4 → (∀ j, j < k → isDi T (s + j) = true) → ∃ v, v < 10 ^ k ∧ rN T s k = nI v ∧ numN T s k = nI v
  | 0, _, _ => ⟨0, by decide, rfl, rfl⟩
  | k + 1, hk, h => by
    obtain ⟨v, hv, e1, e2⟩ := rN_num k (by omega) (fun j hj => h j (by omega))
    obtain ⟨c, hc, ec⟩ := di_d (h k (by omega))
    have hp : 10 ^ k ≤ 10 ^ 3 := Nat.pow_le_pow_right (by decide) (by omega)
    have hv2 : 10 * v + c < 10 ^ (k + 1) := by rw [Nat.pow_succ]; omega
    refine ⟨10 * v + c, hv2, ?_, ?_⟩
    · have e : (10 : Int32) * rN T s k + T (s + k) - 48 = nI (10 * v + c) := by
        rw [e1, ec, show (10 : Int32) = nI 10 from rfl, show (48 : Int32) = nI 48 from rfl, nI_mul, nI_add, nI_sub (by omega)]; congr 1; omega
      unfold rN
      rw [e, if_pos (by rw [show (100000 : Int32) = nI 100000 from rfl, nI_ltI (by omega) (by omega)]; omega)]
    · unfold numN
      rw [if_pos (by omega), e2, ec, show (10 : Int32) = nI 10 from rfl, show (48 : Int32) = nI 48 from rfl, nI_mul, nI_sub (by omega), nI_add]; congr 1; omega
theorem uI_uI {h : HP} {a i j : Nat} (hij : i ≠ j) {x y : Int32} : uI (uI h a i x) a j y = uI (uI h a j y) a i x := by
  unfold uI
  rw [hI_rI_s, hI_rI_s, rI_rI, rI_rI]
  congr 1
  funext k
  unfold upd
  by_cases q : k = j
  · rw [if_pos q, if_neg (by omega), if_pos q]
  · rw [if_neg q, if_neg q]
theorem on128 {T : Nat → Int32} {L : Nat} (tx : TX T L) {s : Nat} : ∀ d p f b, RTx b T L → L - p ≤ d → p ≤ L → s ≤ p → d < f → hI b 113 13 = nI s → hI b 113 14 = nI p → hI b 113 15 = rN T s (p - s) → f_X12_onward_128 f b = some (uI (uI (uI b 113 15 (rN T s (dEnd T L p - s))) 113 14 (nI (dEnd T L p))) 113 12 (if 4 < dEnd T L p - s then 1 else 3))
  | d, p, 0, b, x, hd, hp, hs, hf, e13, e14, e15 => absurd hf (by omega)
  | d, p, f + 1, b, x, hd, hp, hs, hf, e13, e14, e15 => by
    have hL := tx.1
    show (bd2 (f_X12_byteAt b (hI b 113 14)) fun r44 h43 =>
    bd2 (f_X12_isDigit h43 r44) fun r47 h46 =>
    if r47 = (0 : Int32) then
    (if ((hI h46 113 14) - (hI h46 113 13)) ≤ 4 then
    (ltv (uI h46 113 12 3) fun g50 =>
    some g50)
    else
    ltv (uI h46 113 12 1) fun g51 =>
    some g51)
    else
    bd2 (f_X12_byteAt h46 (hI h46 113 14)) fun r54 h53 =>
    ltv (uI h53 113 15 (if ((((10 : Int32) * (hI h46 113 15)) + r54) - 48) < 100000 then ((((10 : Int32) * (hI h46 113 15)) + r54) - 48) else 100000)) fun g55 =>
    ltv (uI g55 113 14 ((hI g55 113 14) + 1)) fun g56 =>
    f_X12_onward_128 f g56) = _
    rw [e14, f_byteAt x hL (by omega), bd2_s, f_digit tx, bd2_s]
    by_cases q : (decide (p < L) && isDi T p) = true
    · rw [q, if_neg (by decide), e14, f_byteAt x hL (by omega), bd2_s, ltv_e, ltv_e, hI_uI_n (by decide), e14, nI_1]
      have q' := Bool.and_eq_true_iff.mp q
      have hpL : p < L := of_decide_eq_true q'.1
      obtain ⟨c, hc, ec⟩ := di_d q'.2
      have eu : ub T L p = T p := by rw [ec]; exact (ub_ch tx hpL (by omega)).mpr ec
      have e9 : (if ((((10 : Int32) * (hI b 113 15)) + ub T L p) - 48) < 100000 then ((((10 : Int32) * (hI b 113 15)) + ub T L p) - 48) else 100000) = rN T s (p + 1 - s) := by
        rw [show p + 1 - s = (p - s) + 1 by omega, eu, e15]
        rw [rN_s, show s + (p - s) = p by omega]
      rw [e9]
      match d, hd, hf with
      | d + 1, hd, hf =>
        rw [on128 tx (s := s) d (p + 1) f _ ((x.u _ (by decide)).u _ (by decide)) (by omega) (by omega) (by omega) (by omega) (by rw [hI_uI_n (by decide), hI_uI_n (by decide)]; exact e13) (hI_uI_s _ _ _ _) (by rw [hI_uI_n (by decide)]; exact hI_uI_s _ _ _ _)]
        rw [uI_uI (show (14 : Nat) ≠ 15 by decide), uI_twice, uI_twice]
        unfold dEnd
        rw [← runN_step hpL q'.2]
      | 0, hd, hf => exact absurd hd (by omega)
    · have q0 : (decide (p < L) && isDi T p) = false := by simpa using q
      have : dEnd T L p = p := by
        unfold dEnd
        refine runN_stop ?_
        rcases Bool.and_eq_false_iff.mp q0 with h | h
        · exact Or.inl (by have := of_decide_eq_false h; omega)
        · exact Or.inr h
      rw [q0, if_pos (by rfl), e14, e13, nI_sub hs, this, uI_idm (h := b) e15, uI_idm (h := b) e14]
      have h5 : nI (p - s) ≤ 4 ↔ p - s ≤ 4 := by rw [show (4 : Int32) = nI 4 from rfl]; exact nI_leI (by omega) (by omega)
      by_cases h4 : p - s ≤ 4
      · rw [if_pos (h5.mpr h4), if_neg (show ¬ 4 < p - s by omega)]; rfl
      · rw [if_neg (fun z => h4 (h5.mp z)), if_pos (show 4 < p - s by omega)]; rfl
/-- the kind of the token at s, as the reference has it -/
def rK (T : Nat → Int32) (L s : Nat) : Int32 := if s < L then (if isLo T s then 2 else if isDi T s then (if 4 < lenT T L s then 1 else 3) else if isSg T s then 4 else 1) else 0
/-- the token at s in the reference's hands -/
def RT (b : HP) (T : Nat → Int32) (L s : Nat) : Prop :=
  hI b 113 13 = nI s ∧ hI b 113 14 = nI (if s < L then s + lenT T L s else L) ∧ hI b 113 12 = rK T L s ∧
  (s < L → isLo T s = false → isDi T s = true → hI b 113 15 = rN T s (lenT T L s)) ∧ (s < L → isLo T s = false → isDi T s = false → isSg T s = true → hI b 113 15 = T s)
/-- what the reader changes -/
def FR (b b' : HP) : Prop := ∃ f, b' = rI b 113 f ∧ ∀ j, ¬ (12 ≤ j ∧ j ≤ 15) → f j = hI b 113 j
theorem FR.refl (b : HP) : FR b b := ⟨hI b 113, (rI_self b 113).symm, fun _ _ => rfl⟩
theorem FR.trans {a b c : HP} (p : FR a b) (q : FR b c) : FR a c := by
  obtain ⟨f, e, hf⟩ := p
  obtain ⟨g, e2, hg⟩ := q
  refine ⟨g, by rw [e2, e, rI_rI], fun j hj => ?_⟩
  rw [hg j hj, e, hI_rI_s, hf j hj]
theorem FR.u {a b : HP} (p : FR a b) {j : Nat} (x : Int32) (hj : 12 ≤ j ∧ j ≤ 15) : FR a (uI b 113 j x) := by
  refine p.trans ⟨upd (hI b 113) j x, rfl, fun k hk => ?_⟩
  unfold upd
  rw [if_neg (by omega)]
theorem FR.I {a b : HP} (p : FR a b) {c : Nat} (hc : c ≠ 113) : hI b c = hI a c := by
  obtain ⟨f, e, _⟩ := p
  rw [e, hI_rI_n _ _ hc]
theorem FR.L {a b : HP} (p : FR a b) : hL b = hL a := by obtain ⟨f, e, _⟩ := p; rw [e]; rfl
theorem FR.c {a b : HP} (p : FR a b) {j : Nat} (hj : ¬ (12 ≤ j ∧ j ≤ 15)) : hI b 113 j = hI a 113 j := by
  obtain ⟨f, e, hf⟩ := p
  rw [e, hI_rI_s, hf j hj]
theorem FR.x {a b : HP} (p : FR a b) {T : Nat → Int32} {L : Nat} (x : RTx a T L) : RTx b T L := ⟨by rw [p.c (by decide)]; exact x.1, fun j hj => by rw [p.I (by decide)]; exact x.2 j hj⟩
theorem lenT_lo {T : Nat → Int32} {L s : Nat} (h : isLo T s = true) : lenT T L s = wEnd T L s - s := by unfold lenT; rw [if_pos h]
theorem lenT_di {T : Nat → Int32} {L s : Nat} (h : ¬ isLo T s = true) (h2 : isDi T s = true) : lenT T L s = dEnd T L s - s := by unfold lenT; rw [if_neg h, if_pos h2]
theorem lenT_1 {T : Nat → Int32} {L s : Nat} (h : ¬ isLo T s = true) (h2 : ¬ isDi T s = true) : lenT T L s = 1 := by unfold lenT; rw [if_neg h, if_neg h2]
theorem sg_n {T : Nat → Int32} {s : Nat} : isSg T s = true ↔ (T s = nI 59 ∨ T s = nI 60 ∨ T s = nI 62 ∨ T s = nI 61) := decide_eq_true_iff
theorem on_0 {T : Nat → Int32} {L : Nat} (tx : TX T L) : ∀ d p f b, RTx b T L → L - p ≤ d → p ≤ L → d < f → hI b 113 14 = nI p → ∃ b', f_X12_onward_0 f b = some b' ∧ FR b b' ∧ RT b' T L (skipT T L p)
  | d, p, 0, b, x, hd, hp, hf, e => absurd hf (by omega)
  | d, p, f + 1, b, x, hd, hp, hf, e => by
    have hL := tx.1
    unfold f_X12_onward_0
    rw [e, f_byteAt x hL (by omega), bd2_s, e, f_byteAt x hL (by omega), bd2_s, e]
    by_cases q : p < L ∧ isBl T p = true
    · have qb := of_decide_eq_true q.2
      have go : ∃ b', f_X12_onward_0 f (uI b 113 14 (hI b 113 14 + 1)) = some b' ∧ FR b b' ∧ RT b' T L (skipT T L p) := by
        match d, hd, hf with
        | d + 1, hd, hf =>
          obtain ⟨b', e1, e2, e3⟩ := on_0 tx d (p + 1) f (uI b 113 14 (hI b 113 14 + 1)) (x.u _ (by decide)) (by omega) (by omega) (by omega) (by rw [hI_uI_s, e, nI_1])
          refine ⟨b', e1, ((FR.refl b).u _ (by decide)).trans e2, ?_⟩
          rw [show skipT T L p = skipT T L (p + 1) from runN_step q.1 q.2]; exact e3
        | 0, hd, hf => exact absurd hd (by omega)
      by_cases q1 : ub T L p = 32
      · rw [if_pos q1]; rw [e] at go; exact go
      · rw [if_neg q1, if_pos (show ub T L p = 10 from qb.elim (fun z => absurd ((ub_ch tx q.1 (by decide)).mpr z) q1) (fun z => (ub_ch tx q.1 (by decide)).mpr z))]
        rw [e] at go; exact go
    · have sk : skipT T L p = p := runN_stop (by by_cases h : p < L; right; simpa using fun z => q ⟨h, z⟩; left; omega)
      rw [sk]
      have n32 : ¬ ub T L p = 32 := fun z => by
        by_cases h : p < L
        · exact q ⟨h, decide_eq_true (Or.inl ((ub_ch tx h (by decide : 32 < 128)).mp z))⟩
        · rw [(ub_m1 tx).mpr h] at z; exact absurd z (by decide)
      have n10 : ¬ ub T L p = 10 := fun z => by
        by_cases h : p < L
        · exact q ⟨h, decide_eq_true (Or.inr ((ub_ch tx h (by decide : 10 < 128)).mp z))⟩
        · rw [(ub_m1 tx).mpr h] at z; exact absurd z (by decide)
      rw [if_neg n32, if_neg n10, ltv_e, hI_uI_n (by decide), e, f_byteAt (x.u _ (by decide)) hL (by omega), bd2_s, ltv_e]
      have x1 : RTx (uI (uI b 113 13 (nI p)) 113 15 (ub T L p)) T L := (x.u _ (by decide)).u _ (by decide)
      have F1 : FR b (uI (uI b 113 13 (nI p)) 113 15 (ub T L p)) := ((FR.refl b).u _ (by decide)).u _ (by decide)
      have c13 : hI (uI (uI b 113 13 (nI p)) 113 15 (ub T L p)) 113 13 = nI p := by rw [hI_uI_n (by decide)]; exact hI_uI_s _ _ _ _
      have c14 : hI (uI (uI b 113 13 (nI p)) 113 15 (ub T L p)) 113 14 = nI p := by rw [hI_uI_n (by decide), hI_uI_n (by decide)]; exact e
      have c15 : hI (uI (uI b 113 13 (nI p)) 113 15 (ub T L p)) 113 15 = ub T L p := hI_uI_s _ _ _ _
      generalize uI (uI b 113 13 (nI p)) 113 15 (ub T L p) = b1 at x1 F1 c13 c14 c15 ⊢
      by_cases hpL : p < L
      · rw [if_neg (fun z => (ub_m1 tx).mp z hpL), f_small tx, bd2_s]
        by_cases hlo : isLo T p = true
        · rw [hlo, decide_eq_true hpL, if_neg (by decide), on81 tx (L - p) p FU b1 x1 (Nat.le_refl _) (by omega) (FU_gt (by omega)) c14]
          refine ⟨_, rfl, (F1.u _ (by decide)).u _ (by decide), ?_, ?_, ?_, ?_, ?_⟩
          · rw [hI_uI_n (by decide), hI_uI_n (by decide)]; exact c13
          · rw [hI_uI_n (by decide), hI_uI_s, if_pos hpL, lenT_lo hlo]; congr 1; have := wEnd_ge T L p; omega
          · rw [hI_uI_s]; unfold rK; rw [if_pos hpL, if_pos hlo]
          · intro _ h; rw [hlo] at h; cases h
          · intro _ h; rw [hlo] at h; cases h
        · have hlo' : isLo T p = false := by simpa using hlo
          rw [hlo', Bool.and_false, if_pos (by rfl), f_digit tx, bd2_s]
          by_cases hdi : isDi T p = true
          · rw [hdi, decide_eq_true hpL, if_neg (by decide), ltv_e, on128 tx (s := p) (L - p) p FU (uI b1 113 15 0) (x1.u _ (by decide)) (Nat.le_refl _) (by omega) (Nat.le_refl _) (FU_gt (by omega)) (by rw [hI_uI_n (by decide)]; exact c13) (by rw [hI_uI_n (by decide)]; exact c14) (by rw [hI_uI_s, Nat.sub_self]; rfl)]
            refine ⟨_, rfl, (((F1.u _ (by decide)).u _ (by decide)).u _ (by decide)).u _ (by decide), ?_, ?_, ?_, ?_, ?_⟩
            · rw [hI_uI_n (by decide), hI_uI_n (by decide), hI_uI_n (by decide), hI_uI_n (by decide)]; exact c13
            · rw [hI_uI_n (by decide), hI_uI_s, if_pos hpL, lenT_di hlo hdi]; congr 1; have := dEnd_ge T L p; omega
            · rw [hI_uI_s]; unfold rK; rw [if_pos hpL, if_neg hlo, if_pos hdi, lenT_di hlo hdi]
            · intro _ _ _; rw [hI_uI_n (by decide), hI_uI_n (by decide), hI_uI_s, lenT_di hlo hdi]
            · intro _ _ h; rw [hdi] at h; cases h
          · have hdi' : isDi T p = false := by simpa using hdi
            rw [hdi', Bool.and_false, if_pos (by rfl), ltv_e]
            have c14' : hI (uI b1 113 14 (hI b1 113 14 + 1)) 113 14 = nI (p + 1) := by rw [hI_uI_s, c14, nI_1]
            have c13' : hI (uI b1 113 14 (hI b1 113 14 + 1)) 113 13 = nI p := by rw [hI_uI_n (by decide)]; exact c13
            have c15' : hI (uI b1 113 14 (hI b1 113 14 + 1)) 113 15 = ub T L p := by rw [hI_uI_n (by decide)]; exact c15
            have F2 := F1.u (hI b1 113 14 + 1) (show 12 ≤ 14 ∧ 14 ≤ 15 by decide)
            generalize uI b1 113 14 (hI b1 113 14 + 1) = b2 at c14' c13' c15' F2 ⊢
            have fin : ∀ k, (isSg T p = true → k = 4) → (isSg T p = false → k = 1) → RT (uI b2 113 12 k) T L p := by
              intro k k1 k2
              refine ⟨?_, ?_, ?_, ?_, ?_⟩
              · rw [hI_uI_n (by decide)]; exact c13'
              · rw [hI_uI_n (by decide), if_pos hpL, lenT_1 hlo hdi]; exact c14'
              · rw [hI_uI_s]; unfold rK; rw [if_pos hpL, if_neg hlo, if_neg hdi]
                by_cases h : isSg T p = true
                · rw [if_pos h, k1 h]
                · rw [if_neg h, k2 (by simpa using h)]
              · intro _ _ h; rw [hdi'] at h; cases h
              · intro _ _ _ h
                rw [hI_uI_n (by decide), c15']
                rcases sg_n.mp h with h | h | h | h <;> rw [h] <;> exact (ub_ch tx hpL (by decide)).mpr h
            have ch : ∀ c, c < 128 → (ub T L p = nI c ↔ T p = nI c) := fun c hc => ub_ch tx hpL hc
            by_cases s1 : ub T L p = 59
            · rw [if_pos s1]
              exact ⟨_, rfl, F2.u _ (by decide), fin _ (fun _ => rfl) (fun h => absurd (sg_n.mpr (Or.inl ((ch 59 (by decide)).mp s1))) (by rw [h]; decide))⟩
            · by_cases s2 : ub T L p = 60
              · rw [if_neg s1, if_pos s2]
                exact ⟨_, rfl, F2.u _ (by decide), fin _ (fun _ => rfl) (fun h => absurd (sg_n.mpr (Or.inr (Or.inl ((ch 60 (by decide)).mp s2)))) (by rw [h]; decide))⟩
              · by_cases s3 : ub T L p = 62
                · rw [if_neg s1, if_neg s2, if_pos s3]
                  exact ⟨_, rfl, F2.u _ (by decide), fin _ (fun _ => rfl) (fun h => absurd (sg_n.mpr (Or.inr (Or.inr (Or.inl ((ch 62 (by decide)).mp s3))))) (by rw [h]; decide))⟩
                · by_cases s4 : ub T L p = 61
                  · rw [if_neg s1, if_neg s2, if_neg s3, if_pos s4]
                    exact ⟨_, rfl, F2.u _ (by decide), fin _ (fun _ => rfl) (fun h => absurd (sg_n.mpr (Or.inr (Or.inr (Or.inr ((ch 61 (by decide)).mp s4))))) (by rw [h]; decide))⟩
                  · rw [if_neg s1, if_neg s2, if_neg s3, if_neg s4, ltv_e]
                    refine ⟨_, rfl, F2.u _ (by decide), fin _ (fun h => ?_) (fun _ => rfl)⟩
                    rcases sg_n.mp h with h | h | h | h
                    · exact absurd ((ch 59 (by decide)).mpr h) s1
                    · exact absurd ((ch 60 (by decide)).mpr h) s2
                    · exact absurd ((ch 62 (by decide)).mpr h) s3
                    · exact absurd ((ch 61 (by decide)).mpr h) s4
      · rw [if_pos ((ub_m1 tx).mpr hpL), ltv_e]
        refine ⟨_, rfl, F1.u _ (by decide), ?_, ?_, ?_, ?_, ?_⟩
        · rw [hI_uI_n (by decide)]; exact c13
        · rw [hI_uI_n (by decide), c14, if_neg hpL]; congr 1; omega
        · rw [hI_uI_s]; unfold rK; rw [if_neg hpL]
        · intro h; exact absurd h hpL
        · intro h; exact absurd h hpL
