/-! ===== neighbours: the reference's sets of places ===== -/
abbrev bitI (k : Nat) : Int32 := (1 : Int32) <<< (nI k &&& 31)
theorem bitI_b {k i : Nat} (hk : k < 32) (hi : i < 32) : bt (bitI k) i = decide (i = k) := b_bit hk hi
def nrU (w k : Nat) : Int32 := if w ≤ k then bitI (k - w) else 0
def nrD (w r k : Nat) : Int32 := if k + w < w * r then bitI (k + w) else 0
def nrL (w : Nat) (j : Bool) (k : Nat) : Int32 := if 0 < k % w then bitI (k - 1) else if j then bitI (k + w - 1) else 0
def nrR (w : Nat) (j : Bool) (k : Nat) : Int32 := if k % w + 1 < w then bitI (k + 1) else if j then bitI (k + 1 - w) else 0
def nrF (H : Int32) (w r : Nat) (j : Bool) (k : Nat) : Int32 := ((((0 ||| nrU w k) ||| nrD w r k) ||| nrL w j k) ||| nrR w j k) &&& H
theorem or0 (x : Int32) : x ||| 0 = x := b_ext (fun i hi => by rw [b_or, b_0, Bool.or_false])
theorem sub1 (a b : Int32) : a - b + 1 = a + 1 - b := by
  rw [Int32.sub_eq_add_neg, Int32.sub_eq_add_neg, Int32.add_assoc, Int32.add_comm (-b) 1, Int32.add_assoc]
theorem near_e {h : HP} {w r : Nat} {j : Bool} (w1 : 1 ≤ w) (w5 : w ≤ 5) (r6 : r ≤ 6) (hw : hI h 114 0 = nI w) (hr : hI h 114 1 = nI r) (hj : hI h 114 9 = if j then 1 else 0) {k : Nat} (hk : k < w * r) :
    f_X12_near h (nI k) = some (nrF (hI h 114 2) w r j k, h) := by
  have h30 := wr_le w5 r6
  have hm : k % w < w := Nat.mod_lt _ (by omega)
  have hmk : k % w ≤ k := Nat.mod_le _ _
  have n132 : ∀ a, f_X12_near_132 a h = some (a &&& hI h 114 2, h) := fun a => rfl
  have n89 : ∀ a, f_X12_near_89 (nI k) (nI w) (nI (k % w)) a h = some ((a ||| nrR w j k) &&& hI h 114 2, h) := fun a => by
    unfold f_X12_near_89 nrR
    simp only [n132, ltv_e]
    by_cases h1 : k % w + 1 < w
    · rw [if_neg (by rw [nI_1, nI_leI (by omega) (by omega)]; omega), if_pos h1, nI_1]
    · rw [if_pos (by rw [nI_1, nI_leI (by omega) (by omega)]; omega), if_neg h1]
      cases j
      · rw [if_neg (by rw [hj]; decide), if_neg (by decide), or0]
      · rw [if_pos (by rw [hj]; rfl), if_pos rfl, sub1, nI_1, nI_sub (by omega)]
  have n49 : ∀ a, f_X12_near_49 (nI k) (nI w) (nI (k % w)) a h = some (((a ||| nrL w j k) ||| nrR w j k) &&& hI h 114 2, h) := fun a => by
    unfold f_X12_near_49 nrL
    simp only [n89, ltv_e]
    by_cases h1 : 0 < k % w
    · rw [if_neg (by rw [show (0 : Int32) = nI 0 from rfl, nI_leI (by omega) (by omega)]; omega), if_pos h1, show nI k - 1 = nI (k - 1) from nI_sub (a := k) (b := 1) (by omega)]
    · rw [if_pos (by rw [show (0 : Int32) = nI 0 from rfl, nI_leI (by omega) (by omega)]; omega), if_neg h1]
      cases j
      · rw [if_neg (by rw [hj]; decide), if_neg (by decide), or0]
      · rw [if_pos (by rw [hj]; rfl), if_pos rfl, nI_add, show nI (k + w) - 1 = nI (k + w - 1) from nI_sub (a := k + w) (b := 1) (by omega)]
  have n29 : ∀ a, f_X12_near_29 (nI k) (nI w) (nI (k % w)) a h = some ((((a ||| nrD w r k) ||| nrL w j k) ||| nrR w j k) &&& hI h 114 2, h) := fun a => by
    unfold f_X12_near_29 nrD
    rw [places_e h hw hr, bd2_s]
    simp only [n49, ltv_e]
    rw [nI_add]
    by_cases h1 : k + w < w * r
    · rw [if_neg (by rw [nI_leI (by omega) (by omega)]; omega), if_pos h1]
    · rw [if_pos (by rw [nI_leI (by omega) (by omega)]; omega), if_neg h1, or0]
  unfold f_X12_near nrF nrU
  simp only [ltv_e]
  have hne : ¬ nI w = 0 := fun e => by have := nI_inj (by omega) (by omega) (e.trans (show (0 : Int32) = nI 0 from rfl)); omega
  rw [hw, gdv_t hne, nI_rem (by omega) (by omega) (by omega)]
  by_cases h1 : w ≤ k
  · rw [if_neg (by rw [nI_ltI (by omega) (by omega)]; omega), n29, if_pos h1, nI_sub h1]
  · rw [if_pos (by rw [nI_ltI (by omega) (by omega)]; omega), n29, if_neg h1, or0]
/-- one place of a set counted -/
theorem ct_one (p : Nat) (L : Nat → Bool) : ∀ n, fb_ct (fun i => decide (i = p) && L i) n = if p < n then b2 (L p) else 0
  | 0 => by rw [if_neg (by omega)]; rfl
  | n + 1 => by
    rw [fb_ct_succ, ct_one p L n]
    by_cases h : n = p
    · subst h
      simp [b2]
    · have hd : (decide (n = p) && L n) = false := by rw [decide_eq_false h, Bool.false_and]
      simp only [hd, Bool.false_eq_true, if_false, Nat.add_zero]
      by_cases h2 : p < n
      · rw [if_pos h2, if_pos (by omega)]
      · rw [if_neg h2, if_neg (by omega)]
theorem ct_if {p : Nat} (hp : p < 32) (c : Bool) (L : Nat → Bool) : fb_ct (fun i => (c && decide (i = p)) && L i) 32 = b2 (c && L p) := by
  cases c
  · rw [fb_ct_zero.mpr (fun k _ => by simp)]; simp [b2]
  · have := ct_one p L 32
    rw [if_pos hp] at this
    simp only [Bool.true_and]
    exact this
/-- where the four neighbours are, and whether there is one -/
def hasU (w k : Nat) : Bool := decide (w ≤ k)
def hasD (w r k : Nat) : Bool := decide (k + w < w * r)
def hasL (w : Nat) (j : Bool) (k : Nat) : Bool := decide (k % w ≠ 0) || j
def posL (w k : Nat) : Nat := if k % w ≠ 0 then k - 1 else k + w - 1
def hasR (w : Nat) (j : Bool) (k : Nat) : Bool := decide (k % w ≠ w - 1) || j
def posR (w k : Nat) : Nat := if k % w ≠ w - 1 then k + 1 else k + 1 - w
theorem if_b {c : Prop} [Decidable c] {p i : Nat} (hp : c → p < 32) (hi : i < 32) : bt (if c then bitI p else 0) i = (decide c && decide (i = p)) := by
  by_cases h : c
  · rw [if_pos h, bitI_b (hp h) hi, decide_eq_true h, Bool.true_and]
  · rw [if_neg h, b_0, decide_eq_false h, Bool.false_and]
theorem pos_lt {w r : Nat} (w1 : 1 ≤ w) (w5 : w ≤ 5) (r6 : r ≤ 6) {k : Nat} (hk : k < w * r) : posL w k < 32 ∧ posR w k < 32 := by
  have h30 := wr_le w5 r6
  unfold posL posR
  constructor
  · by_cases h0 : k % w ≠ 0
    · rw [if_pos h0]; omega
    · rw [if_neg h0]
      have := row_in (r := r) (by omega) hk (by omega); omega
  · by_cases h0 : k % w ≠ w - 1
    · rw [if_pos h0]; omega
    · rw [if_neg h0]; omega
theorem nrF_b {H : Int32} {w r : Nat} {j : Bool} (w1 : 1 ≤ w) (w5 : w ≤ 5) (r6 : r ≤ 6) {k i : Nat} (hk : k < w * r) (hi : i < 32) :
    bt (nrF H w r j k) i = ((((hasU w k && decide (i = k - w)) || (hasD w r k && decide (i = k + w))) || ((hasL w j k && decide (i = posL w k)) || (hasR w j k && decide (i = posR w k)))) && bt H i) := by
  have h30 := wr_le w5 r6
  have hm : k % w < w := Nat.mod_lt _ (by omega)
  obtain ⟨l32, r32⟩ := pos_lt w1 w5 r6 hk
  have eU : bt (nrU w k) i = (hasU w k && decide (i = k - w)) := by unfold nrU hasU; exact if_b (fun _ => by omega) hi
  have eD : bt (nrD w r k) i = (hasD w r k && decide (i = k + w)) := by unfold nrD hasD; exact if_b (fun _ => by omega) hi
  have eL : bt (nrL w j k) i = (hasL w j k && decide (i = posL w k)) := by
    unfold nrL hasL posL
    unfold posL at l32
    by_cases h0 : k % w ≠ 0
    · rw [if_pos h0] at l32
      rw [if_pos (by omega), if_pos h0, decide_eq_true h0, Bool.true_or, Bool.true_and]; exact bitI_b l32 hi
    · rw [if_neg h0] at l32
      rw [if_neg (by omega), if_neg h0, decide_eq_false h0, Bool.false_or]
      cases j
      · simp [b_0]
      · rw [if_pos rfl, Bool.true_and]; exact bitI_b l32 hi
  have eR : bt (nrR w j k) i = (hasR w j k && decide (i = posR w k)) := by
    unfold nrR hasR posR
    unfold posR at r32
    by_cases h0 : k % w ≠ w - 1
    · rw [if_pos h0] at r32
      rw [if_pos (by omega), if_pos h0, decide_eq_true h0, Bool.true_or, Bool.true_and]; exact bitI_b r32 hi
    · rw [if_neg h0] at r32
      rw [if_neg (by omega), if_neg h0, decide_eq_false h0, Bool.false_or]
      cases j
      · simp [b_0]
      · rw [if_pos rfl, Bool.true_and]; exact bitI_b r32 hi
  unfold nrF
  rw [b_and, b_or, b_or, b_or, b_or, b_0, eU, eD, eL, eR, Bool.false_or, Bool.or_assoc]
/-- the lit ones among a place's neighbours, counted as the reference does -/
theorem near_ct {H x : Int32} {w r : Nat} {j : Bool} (w1 : 1 ≤ w) (w5 : w ≤ 5) (r6 : r ≤ 6) (hj : j = true → 2 < w) (hH : ∀ i, i < 32 → bt x i = true → bt H i = true) (hP : ∀ i, i < 32 → bt x i = true → i < w * r) {k : Nat} (hk : k < w * r) :
    pc (nrF H w r j k &&& x) = nbC w j (bt x) k := by
  have h30 := wr_le w5 r6
  have hm : k % w < w := Nat.mod_lt _ (by omega)
  obtain ⟨l32, r32⟩ := pos_lt w1 w5 r6 hk
  have e0 : pc (nrF H w r j k &&& x) = fb_ct (fun i => (((hasU w k && decide (i = k - w)) && bt x i) || ((hasD w r k && decide (i = k + w)) && bt x i)) || (((hasL w j k && decide (i = posL w k)) && bt x i) || ((hasR w j k && decide (i = posR w k)) && bt x i))) 32 := by
    unfold pc
    refine fb_ct_cong (fun i hi => ?_)
    rw [b_and, nrF_b w1 w5 r6 hk hi]
    have := hH i hi
    cases hx : bt x i
    · simp
    · rw [this hx]; simp
  have dUD : k - w ≠ k + w := by omega
  have hw2 : k % w ≠ 0 → 2 ≤ w := fun q => by
    by_cases e : w = 1
    · rw [e, Nat.mod_one] at q; exact absurd rfl q
    · omega
  have dUL : hasU w k = true → hasL w j k = true → k - w ≠ posL w k := fun a b => by
    unfold hasU at a; unfold hasL at b; unfold posL
    have a := of_decide_eq_true a
    by_cases h0 : k % w ≠ 0
    · have := hw2 h0; rw [if_pos h0]; omega
    · rw [if_neg h0]; omega
  have hw3 : k % w ≠ w - 1 → 2 ≤ w := fun q => by
    by_cases e : w = 1
    · rw [e, Nat.mod_one] at q; omega
    · omega
  have dUR : hasU w k = true → hasR w j k = true → k - w ≠ posR w k := fun a b => by
    unfold hasU at a; unfold posR
    have a := of_decide_eq_true a
    by_cases h0 : k % w ≠ w - 1
    · rw [if_pos h0]; omega
    · rw [if_neg h0]; omega
  have dDL : hasL w j k = true → k + w ≠ posL w k := fun b => by
    unfold posL
    by_cases h0 : k % w ≠ 0
    · rw [if_pos h0]; omega
    · rw [if_neg h0]; omega
  have dDR : hasR w j k = true → k + w ≠ posR w k := fun b => by
    unfold posR
    by_cases h0 : k % w ≠ w - 1
    · have := hw3 h0; rw [if_pos h0]; omega
    · rw [if_neg h0]; omega
  have dLR : hasL w j k = true → hasR w j k = true → posL w k ≠ posR w k := fun a b => by
    unfold hasL at a; unfold hasR at b; unfold posL posR
    have hmk : k % w ≤ k := Nat.mod_le _ _
    by_cases h0 : k % w ≠ 0
    · rw [if_pos h0]
      by_cases h1 : k % w ≠ w - 1
      · rw [if_pos h1]; omega
      · rw [if_neg h1]
        rw [decide_eq_false h1, Bool.false_or] at b
        have := hj b; omega
    · rw [if_neg h0]
      rw [decide_eq_false h0, Bool.false_or] at a
      have := hj a
      by_cases h1 : k % w ≠ w - 1
      · rw [if_pos h1]; omega
      · omega
  have two : ∀ {a b : Nat} {c d : Bool}, (c = true → d = true → a ≠ b) → ∀ i, i < 32 → ¬ (((c && decide (i = a)) && bt x i) = true ∧ ((d && decide (i = b)) && bt x i) = true) := fun {a b c d} hab i _ q => by
    simp only [Bool.and_eq_true, decide_eq_true_eq] at q
    exact hab q.1.1.1 q.2.1.1 (q.1.1.2.symm.trans q.2.1.2)
  rw [e0, fb_ct_or (fun i hi q => ?_), fb_ct_or (two fun _ _ => dUD), fb_ct_or (two dLR), ct_if (by omega), ct_if l32, ct_if r32]
  · have eD : fb_ct (fun i => (hasD w r k && decide (i = k + w)) && bt x i) 32 = b2 (bt x (k + w)) := by
      unfold hasD
      by_cases h : k + w < w * r
      · rw [ct_if (by omega), decide_eq_true h, Bool.true_and]
      · rw [decide_eq_false h, fb_ct_zero.mpr (fun i _ => by simp)]
        cases q : bt x (k + w)
        · rfl
        · by_cases h32 : k + w < 32
          · exact absurd (hP _ h32 q) h
          · rw [b_big (by omega)] at q; cases q
    rw [eD]
    unfold nbC nbL nbR nbU nbD hasU hasL hasR posL posR
    by_cases h0 : k % w ≠ 0
    · rw [if_pos h0, if_pos h0, decide_eq_true h0, Bool.true_or, Bool.true_and]
      by_cases h1 : k % w ≠ w - 1
      · rw [if_pos h1, if_pos h1, decide_eq_true h1, Bool.true_or, Bool.true_and]; omega
      · rw [if_neg h1, if_neg h1, decide_eq_false h1, Bool.false_or]; omega
    · rw [if_neg h0, if_neg h0, decide_eq_false h0, Bool.false_or]
      by_cases h1 : k % w ≠ w - 1
      · rw [if_pos h1, if_pos h1, decide_eq_true h1, Bool.true_or, Bool.true_and]; omega
      · rw [if_neg h1, if_neg h1, decide_eq_false h1, Bool.false_or]; omega
  · simp only [Bool.or_eq_true, Bool.and_eq_true, decide_eq_true_eq] at q
    obtain ⟨qa, qb⟩ := q
    rcases qa with ⟨⟨a1, a2⟩, -⟩ | ⟨⟨a1, a2⟩, -⟩
    · rcases qb with ⟨⟨b1, b3⟩, -⟩ | ⟨⟨b1, b3⟩, -⟩
      · exact dUL a1 b1 (a2.symm.trans b3)
      · exact dUR a1 b1 (a2.symm.trans b3)
    · rcases qb with ⟨⟨b1, b3⟩, -⟩ | ⟨⟨b1, b3⟩, -⟩
      · exact dDL b1 (a2.symm.trans b3)
      · exact dDR b1 (a2.symm.trans b3)
