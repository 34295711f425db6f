/-! ===== a night: the class's step and the reference's ===== -/
theorem nbC_le (w : Nat) (j : Bool) (L : Nat → Bool) (k : Nat) : nbC w j L k ≤ 4 := by
  have : ∀ b, b2 b ≤ 1 := fun b => by cases b <;> decide
  have a := this (nbL w j L k); have b := this (nbR w j L k); have c := this (nbU w L k); have d := this (nbD w L k)
  unfold nbC; omega
/-- what a place becomes -/
def becB (w : Nat) (j : Bool) (x B S : Int32) (k : Nat) : Bool := if bt x k then bt S (nbC w j (bt x) k) else bt B (nbC w j (bt x) k)
theorem kept_b {B S x : Int32} {m i : Nat} (hm : m < 5) (hi : i < 32) : bt (keptF B S x m) i = if bt x i then bt S m else bt B m := by
  unfold keptF shr
  rw [shr1 (by omega), shr1 (by omega), b_or]
  have n0 : ∀ b, (bI b = 0) ↔ b = false := fun b => by cases b <;> decide
  cases hB : bt B m <;> cases hS : bt S m <;> simp only [n0, if_true, if_false, b_0, b_xor, b_m1 i hi, Bool.true_eq_false] <;> cases bt x i <;> rfl
theorem then_b {f : Nat → Int32} {w r : Nat} {j : Bool} (H : HillOK f w r j) {x : Int32} (hx : ∀ i, i < 32 → bt x i = true → i < w * r) (B S : Int32) {k : Nat} (hk : k < w * r) : ∀ m, m ≤ 5 →
    bt (thenF (litF f x) B S x m) k = (decide (nbC w j (bt x) k < m) && becB w j x B S k)
  | 0, _ => by rw [thenF, b_0, decide_eq_false (by omega)]; rfl
  | m + 1, hm => by
    have h30 := wr_le H.1.2.1 H.2.1.2
    rw [thenF, b_or, b_and, then_b H hx B S hk m (by omega), kept_b (by omega) (by omega), lit_b H hx hk (by omega)]
    unfold becB
    by_cases h1 : nbC w j (bt x) k < m
    · rw [decide_eq_true h1, decide_eq_false (by omega), decide_eq_true (by omega)]; simp
    · by_cases h2 : nbC w j (bt x) k = m
      · rw [decide_eq_false h1, decide_eq_true h2, decide_eq_true (by omega), h2]; simp
      · rw [decide_eq_false h1, decide_eq_false h2, decide_eq_false (by omega)]; simp
theorem step_b {f : Nat → Int32} {w r : Nat} {j : Bool} (H : HillOK f w r j) {x : Int32} (hx : ∀ i, i < 32 → bt x i = true → i < w * r) (hf : ∀ i, i < 32 → bt (f 5) i = true → i < w * r) (B S : Int32) {i : Nat} (hi : i < 32) :
    bt (stepF f x B S) i = ((bt (f 5) i && becB w j x B S i) || bt (f 6) i) := by
  unfold stepF
  rw [b_or, b_and]
  cases h5 : bt (f 5) i
  · simp
  · rw [then_b H hx B S (hf i hi h5) 5 (by decide), decide_eq_true (by have := nbC_le w j (bt x) i; omega)]; simp
/-- the reference's picture, place by place -/
def becF (w : Nat) (j : Bool) (A F x B S : Int32) : Nat → Int32
  | 0 => A
  | k + 1 => if bt F k then becF w j A F x B S k ||| (bI (becB w j x B S k) <<< (nI k &&& 31)) else becF w j A F x B S k
theorem becF_b {w : Nat} {j : Bool} {A F x B S : Int32} : ∀ {k : Nat}, k ≤ 32 → ∀ i, i < 32 → bt (becF w j A F x B S k) i = (bt A i || (decide (i < k) && (bt F i && becB w j x B S i)))
  | 0, _, i, hi => by rw [becF, decide_eq_false (by omega)]; simp
  | k + 1, hk, i, hi => by
    have ih := becF_b (w := w) (j := j) (A := A) (F := F) (x := x) (B := B) (S := S) (k := k) (by omega) i hi
    have hb : bt (bI (becB w j x B S k) <<< (nI k &&& 31)) i = (becB w j x B S k && decide (i = k)) := by
      cases becB w j x B S k
      · show bt ((0 : Int32) <<< _) i = _
        rw [b_shl k (by omega) 0 hi, b_0]; simp
      · show bt ((1 : Int32) <<< _) i = _
        rw [b_bit (by omega) hi]; simp
    rw [becF]
    by_cases e : i = k
    · subst e
      cases hF : bt F i
      · rw [if_neg (by decide), ih, hF]; simp
      · rw [if_pos rfl, b_or, ih, hb, decide_eq_false (by omega), decide_eq_true rfl, decide_eq_true (by omega), hF]; simp
    · have d1 : decide (i < k + 1) = decide (i < k) := by
        by_cases h : i < k
        · rw [decide_eq_true h, decide_eq_true (by omega)]
        · rw [decide_eq_false h, decide_eq_false (by omega)]
      rw [d1]
      split
      · rw [b_or, ih, hb, decide_eq_false e]; simp
      · exact ih
def LN (h : HP) (w r : Nat) (j : Bool) : Prop := ∀ k, k < w * r → hI h 122 k = nrF (hI h 114 2) w r j k
theorem lays_lp (h : HP) {w r : Nat} {j : Bool} (w1 : 1 ≤ w) (w5 : w ≤ 5) (r6 : r ≤ 6) (hw : hI h 114 0 = nI w) (hr : hI h 114 1 = nI r) (hj : hI h 114 9 = if j then 1 else 0) : ∀ d k n, k + d = w * r → d < n →
    f_X12_laysNear_2 n (nI k) (rI h 122 (rowI (hI h 122) (nrF (hI h 114 2) w r j) 0 k)) = some (rI h 122 (rowI (hI h 122) (nrF (hI h 114 2) w r j) 0 (w * r)))
  | d, k, 0, _, z => absurd z (by omega)
  | 0, k, n + 1, e, _ => by
    have h30 := wr_le w5 r6
    unfold f_X12_laysNear_2
    rw [places_e (rI h 122 (rowI (hI h 122) (nrF (hI h 114 2) w r j) 0 k)) (w := w) (r := r) hw hr, bd2_s, if_pos (by rw [nI_leI (by omega) (by omega)]; omega), show k = w * r by omega]
  | d + 1, k, n + 1, e, z => by
    have h30 := wr_le w5 r6
    have key := lays_lp h w1 w5 r6 hw hr hj d (k + 1) n (by omega) (by omega)
    unfold f_X12_laysNear_2
    rw [places_e (rI h 122 (rowI (hI h 122) (nrF (hI h 114 2) w r j) 0 k)) (w := w) (r := r) hw hr, bd2_s, if_neg (by rw [nI_leI (by omega) (by omega)]; omega), near_e (h := rI h 122 (rowI (hI h 122) (nrF (hI h 114 2) w r j) 0 k)) (w := w) (r := r) (j := j) w1 w5 r6 hw hr hj (by omega), bd2_s, gdi_nI (by omega) (by decide), nI_clamp (by omega)]
    simp only [ltv_e, nI_1]
    have u := uI_row h 122 (hI h 122) (nrF (hI h 114 2) w r j) 0 k
    rw [Nat.zero_add] at u
    rw [show hI (rI h 122 (rowI (hI h 122) (nrF (hI h 114 2) w r j) 0 k)) 114 2 = hI h 114 2 from rfl, u]
    exact key
def lnH (h : HP) (w r : Nat) (j : Bool) : HP := rI h 122 (rowI (hI h 122) (nrF (hI h 114 2) w r j) 0 (w * r))
theorem lays_e {h : HP} {w r : Nat} {j : Bool} (w1 : 1 ≤ w) (w5 : w ≤ 5) (r6 : r ≤ 6) (hw : hI h 114 0 = nI w) (hr : hI h 114 1 = nI r) (hj : hI h 114 9 = if j then 1 else 0) : f_X12_laysNear h = some (lnH h w r j) := by
  have h30 := wr_le w5 r6
  have key := lays_lp h w1 w5 r6 hw hr hj (w * r) 0 FU (by omega) (FU_gt (by omega))
  rw [rowI_0, rI_self] at key
  exact key
theorem lnH_LN (h : HP) (w r : Nat) (j : Bool) : LN (lnH h w r j) w r j := fun k hk => by
  unfold lnH
  rw [hI_rI_s, hI_rI_n _ _ (by decide)]; unfold rowI; rw [if_pos (by omega), Nat.sub_zero]
theorem lnH_I (h : HP) (w r : Nat) (j : Bool) {b : Nat} (hb : b ≠ 122) : hI (lnH h w r j) b = hI h b := hI_rI_n _ _ hb
theorem bec_lp (h : HP) {w r : Nat} {j : Bool} (w1 : 1 ≤ w) (w5 : w ≤ 5) (r6 : r ≤ 6) (hw : hI h 114 0 = nI w) (hr : hI h 114 1 = nI r) (hj : j = true → 2 < w) (ln : LN h w r j) {x F A : Int32} (hH : ∀ i, i < 32 → bt x i = true → bt (hI h 114 2) i = true) (hP : ∀ i, i < 32 → bt x i = true → i < w * r) {q : Nat} (hq : q < 4) : ∀ d k n, k + d = w * r → d < n →
    f_X12_becomes_30 n x (nI q) (becF w j A F x (hI h 114 (12 + 2 * q)) (hI h 114 (13 + 2 * q)) k) F (nI k) h = some (becF w j A F x (hI h 114 (12 + 2 * q)) (hI h 114 (13 + 2 * q)) (w * r), h)
  | d, k, 0, _, z => absurd z (by omega)
  | 0, k, n + 1, e, _ => by
    have h30 := wr_le w5 r6
    unfold f_X12_becomes_30
    rw [places_e h hw hr, bd2_s, if_pos (by rw [nI_leI (by omega) (by omega)]; omega), show k = w * r by omega]
  | d + 1, k, n + 1, e, z => by
    have h30 := wr_le w5 r6
    have key := bec_lp h w1 w5 r6 hw hr hj ln hH hP (A := A) (F := F) hq d (k + 1) n (by omega) (by omega)
    unfold f_X12_becomes_30
    rw [places_e h hw hr, bd2_s, if_neg (by rw [nI_leI (by omega) (by omega)]; omega), shr1 (by omega), shr1 (by omega)]
    rw [becF] at key
    cases hF : bt F k
    · rw [hF, if_neg (by decide)] at key
      rw [if_pos (show bI false = 0 from rfl)]
      simp only [ltv_e, nI_1]
      exact key
    · rw [hF, if_pos rfl] at key
      obtain ⟨f0, f1, -⟩ := idx2 (i := q) (by omega) 12 (by omega)
      have hset : ((12 : Int32) + ((2 : Int32) * nI q)) + bI (bt x k) = nI (if bt x k then 13 + 2 * q else 12 + 2 * q) := by
        cases bt x k
        · exact f0
        · exact f1
      have hlt : (if bt x k then 13 + 2 * q else 12 + 2 * q) < 2460 := by split <;> omega
      rw [if_neg (show ¬ bI true = 0 by decide), hset, gdi_nI hlt (by decide), nI_clamp (by omega)]
      simp only [ltv_e]
      rw [gdi_nI (by omega) (by decide), nI_clamp (by omega), ln k (by omega), bits_e, bd2_s, near_ct w1 w5 r6 hj hH hP (by omega), shr1 (by have := nbC_le w j (bt x) k; omega), nI_1]
      have hv : bt (hI h 114 (if bt x k then 13 + 2 * q else 12 + 2 * q)) (nbC w j (bt x) k) = becB w j x (hI h 114 (12 + 2 * q)) (hI h 114 (13 + 2 * q)) k := by
        unfold becB; cases bt x k <;> rfl
      rw [hv]; exact key

/-- the reference's night is the class's -/
theorem stepM {f : Nat → Int32} {w r : Nat} {j : Bool} (H : HillOK f w r j) {x A F : Int32} (hx : ∀ i, i < 32 → bt x i = true → i < w * r) (hF : ∀ i, i < 32 → bt F i = bt (f 5) i) (hA : ∀ i, i < 32 → bt A i = bt (f 6) i) (hf : ∀ i, i < 32 → bt (f 5) i = true → i < w * r) (B S : Int32) :
    becF w j A F x B S (w * r) = stepF f x B S := by
  have h30 := wr_le H.1.2.1 H.2.1.2
  refine b_ext (fun i hi => ?_)
  rw [becF_b (by omega) i hi, step_b H hx hf B S hi, hA i hi, hF i hi]
  cases h5 : bt (f 5) i
  · simp
  · rw [decide_eq_true (hf i hi h5)]; simp [Bool.or_comm]
theorem RtH.hill {h : HP} {t w r : Nat} (q : RtH h t 0 w r) : ∃ j, HillOK (hI h (t + 1)) w r j ∧ (hI h 114 9 = if j then 1 else 0) ∧ (j = true → 2 < w) := by
  obtain ⟨⟨w1, w5, hw, hw'⟩, ⟨r1, r6, hr, hr'⟩, ⟨j1, j2⟩, h3, -⟩ := q.n
  rcases j2 with j2 | ⟨j2, j3⟩
  · exact ⟨false, ⟨⟨w1, w5, hw'⟩, ⟨r1, r6⟩, by rw [j1, j2]; rfl, h3⟩, by rw [j2]; rfl, fun e => by cases e⟩
  · exact ⟨true, ⟨⟨w1, w5, hw'⟩, ⟨r1, r6⟩, by rw [j1, j2]; rfl, h3⟩, by rw [j2]; rfl, fun _ => j3⟩
/-- a picture of the houses -/
def inH (h : HP) (x : Int32) : Prop := ∀ i, i < 32 → bt x i = true → bt (hI h 114 2) i = true
theorem inH_P {h : HP} {t w r : Nat} (q : RtH h t 0 w r) {x : Int32} (hx : inH h x) : ∀ i, i < 32 → bt x i = true → i < w * r := fun i hi b => (q.n.2.2.2.2.2.2 i hi).1 (hx i hi b)
theorem free_P {h : HP} {t w r : Nat} (q : RtH h t 0 w r) : ∀ i, i < 32 → bt (hI h (t + 1) 5) i = true → i < w * r := fun i hi b => by
  rw [(q.n.2.2.2.2.2.1 i hi).1, Bool.and_eq_true] at b
  exact (q.n.2.2.2.2.2.2 i hi).1 b.1
theorem step_inH {h : HP} {t w r : Nat} (q : RtH h t 0 w r) {x : Int32} (hx : inH h x) (B S : Int32) : inH h (stepF (hI h (t + 1)) x B S) := fun i hi b => by
  obtain ⟨j, H, -⟩ := q.hill
  rw [step_b H (inH_P q hx) (free_P q) B S hi, Bool.or_eq_true] at b
  have h6 := q.n.2.2.2.2.2.1 i hi
  have h7 := q.n.2.2.2.2.2.2 i hi
  rcases b with b | b
  · rw [Bool.and_eq_true, h6.1, Bool.and_eq_true] at b; exact b.1.1
  · rw [h6.2, Bool.and_eq_true] at b; exact h7.2.1 b.1
/-- the part of a heap that a night of the reference reads -/
def SmN (h g : HP) : Prop := (∀ k, (k ≤ 4 ∨ k = 9 ∨ k = 10 ∨ (12 ≤ k ∧ k < 20)) → hI g 114 k = hI h 114 k)
/-- becomes by a rule, in any heap whose town is that of h -/
theorem bec_rule {h g : HP} {t w r : Nat} {j : Bool} (q : RtH h t 0 w r) (H : HillOK (hI h (t + 1)) w r j) (hj : hI h 114 9 = if j then 1 else 0) (j2 : j = true → 2 < w) (sm : SmN h g) (ln : LN g w r j) {x : Int32} (hx : inH h x) {k : Nat} (hk : k < 4) :
    f_X12_becomes g x (nI k) = some (stepF (hI h (t + 1)) x (hI h 114 (12 + 2 * k)) (hI h 114 (13 + 2 * k)), g) := by
  obtain ⟨⟨w1, w5, hw, hw'⟩, ⟨r1, r6, hr, hr'⟩, -, -, -, h6, h7⟩ := q.n
  unfold f_X12_becomes
  simp only [ltv_e]
  rw [if_neg (nI_m1 (by omega)), freeM_e, bd2_s, sm 2 (by omega), sm 3 (by omega), sm 4 (by omega)]
  have key := bec_lp g (j := j) w1 w5 r6 (by rw [sm 0 (by omega)]; exact hw) (by rw [sm 1 (by omega)]; exact hr) j2 ln (x := x) (F := hI h 114 2 &&& (hI h 114 4 ^^^ -1)) (A := hI h 114 3 &&& hI h 114 4) (by rw [sm 2 (by omega)]; exact hx) (inH_P q hx) hk (w * r) 0 FU (by omega) (by have := wr_le w5 r6; exact FU_gt (by omega))
  rw [sm (12 + 2 * k) (by omega), sm (13 + 2 * k) (by omega), stepM H (inH_P q hx) (fun i hi => by rw [b_and, b_xor, b_m1 i hi, (h6 i hi).1, Bool.xor_true]) (fun i hi => by rw [b_and, (h6 i hi).2]) (free_P q)] at key
  exact key
theorem bec_none {h g : HP} {t w r : Nat} {j : Bool} (q : RtH h t 0 w r) (H : HillOK (hI h (t + 1)) w r j) (sm : SmN h g) {x : Int32} (hx : inH h x) : f_X12_becomes g x (-1) = some (stepF (hI h (t + 1)) x 0 0, g) := by
  obtain ⟨-, -, -, -, -, h6, h7⟩ := q.n
  unfold f_X12_becomes
  simp only [ltv_e]
  rw [if_pos trivial, sm 3 (by omega), sm 4 (by omega)]
  congr 2
  refine b_ext (fun i hi => ?_)
  rw [step_b H (inH_P q hx) (free_P q) 0 0 hi, b_and, (h6 i hi).2]
  unfold becB; rw [b_0]; simp
