/-! ===== alike: rows of a picture, the class: the least ===== -/
/-- the first from a on, of so many, that holds; 0 for none -/
def lsN (P : Nat → Bool) : Nat → Nat → Nat
  | 0, _ => 0
  | d + 1, a => if P a = true then a else lsN P d (a + 1)
theorem lsN_c {P Q : Nat → Bool} : ∀ {d a : Nat}, (∀ k, a ≤ k → k < a + d → P k = Q k) → lsN P d a = lsN Q d a
  | 0, _, _ => rfl
  | d + 1, a, h => by
    unfold lsN
    rw [h a (Nat.le_refl a) (by omega), lsN_c (d := d) (a := a + 1) (fun k h1 h2 => h k (by omega) (by omega))]
theorem lsN_P {P : Nat → Bool} : ∀ {d a k : Nat}, a ≤ k → k < a + d → P k = true → P (lsN P d a) = true ∧ a ≤ lsN P d a ∧ lsN P d a ≤ k
  | 0, a, k, h1, h2, _ => absurd h2 (by omega)
  | d + 1, a, k, h1, h2, h3 => by
    unfold lsN
    by_cases q : P a = true
    · rw [if_pos q]; exact ⟨q, Nat.le_refl a, h1⟩
    · rw [if_neg q]
      have ka : a ≠ k := fun e => q (by rw [e]; exact h3)
      obtain ⟨x, y, z⟩ := lsN_P (P := P) (d := d) (a := a + 1) (k := k) (by omega) (by omega) h3
      exact ⟨x, by omega, z⟩
theorem lsN_no {P : Nat → Bool} : ∀ {d a : Nat}, (∀ k, a ≤ k → k < a + d → P k = false) → lsN P d a = 0
  | 0, _, _ => rfl
  | d + 1, a, h => by
    unfold lsN
    rw [if_neg (by rw [h a (Nat.le_refl a) (by omega)]; decide)]
    exact lsN_no (fun k h1 h2 => h k (by omega) (by omega))
theorem lsN_lt {P : Nat → Bool} {W : Nat} (hW : 0 < W) (h : ∀ k, P k = true → k < W) : ∀ d a, lsN P d a < W
  | 0, _ => hW
  | d + 1, a => by
    unfold lsN
    by_cases q : P a = true
    · rw [if_pos q]; exact h a q
    · rw [if_neg q]; exact lsN_lt hW h d (a + 1)
def pkP (ft : Nat → Nat → Bool) (gd : Nat → Nat → Nat → Nat → Bool) (y here below : Nat) (a : Nat) : Bool := decide (cW ft gd y a here ≠ 0) && gd y a here below
def pkN (ft : Nat → Nat → Bool) (gd : Nat → Nat → Nat → Nat → Bool) (y here below : Nat) : Nat := lsN (pkP ft gd y here below) 32 0
def toP (ft : Nat → Nat → Bool) (gd : Nat → Nat → Nat → Nat → Bool) (R : Nat) (a : Nat) : Bool := decide (cW ft gd R a 0 ≠ 0)
/-- from the last row up -/
def dsc (ft : Nat → Nat → Bool) (gd : Nat → Nat → Nat → Nat → Bool) (w : Nat) : Nat → Nat → Nat → Int32 → Int32
  | 0, _, _, acc => acc
  | y + 1, below, here, acc => dsc ft gd w y here (if y = 0 then 0 else pkN ft gd y here below) (acc ||| (nI here <<< (nI (w * y) &&& 31)))
theorem cW_31 {ft : Nat → Nat → Bool} {gd : Nat → Nat → Nat → Nat → Bool} {y a b : Nat} (hy : y ≤ 5) (ha : a < 32) (hb : b < 32) : cW ft gd y a b < 2 ^ 31 := by
  have h1 := cW_t ft gd (y := y) ha hb
  have h2 := tW_le ft gd y
  have h3 : 32 ^ (y + 1) ≤ 32 ^ 6 := Nat.pow_le_pow_right (by decide) (by omega)
  have h4 : (32 : Nat) ^ 6 = 1073741824 := by decide
  omega
theorem tW_31 {w R : Nat} {F A X : Nat → Nat} (K : rwOK w R F A X) (gd : Nat → Nat → Nat → Nat → Bool) : tW (ftF F A) gd R < 2 ^ 31 ∧ ∀ c, c < 32 → (ftF F A R c = true ↔ c = 0) := by
  obtain ⟨⟨w1, w5⟩, ⟨R1, R6⟩, K3, F0, A0⟩ := K
  have fr : ∀ c, c < 32 → (ftF F A R c = true ↔ c = 0) := fun c _ => by
    unfold ftF fitB
    rw [F0, A0, decide_eq_true_eq]
    constructor
    · rintro ⟨-, z⟩
      rw [← z]; exact Nat.and_zero c
    · rintro rfl; exact ⟨rfl, rfl⟩
  refine ⟨?_, fr⟩
  obtain ⟨y, rfl⟩ : ∃ y, R = y + 1 := ⟨R - 1, by omega⟩
  have h1 := tW_last (ft := ftF F A) (gd := gd) (y := y) (fun c hc h => (fr c hc).mp h)
  have h2 := tW_le (ftF F A) gd y
  have h3 : 32 ^ (y + 1) ≤ 32 ^ 6 := Nat.pow_le_pow_right (by decide) (by omega)
  have h4 : (32 : Nat) ^ 6 = 1073741824 := by decide
  omega
theorem cW_R {w R : Nat} {F A X : Nat → Nat} (K : rwOK w R F A X) (gd : Nat → Nat → Nat → Nat → Bool) {y a b : Nat} (hy : y ≤ R) (ha : a < 32) (hb : b < 32) : cW (ftF F A) gd y a b < 2 ^ 31 := by
  by_cases q : y = R
  · have := cW_t (ftF F A) gd (y := y) ha hb
    have := (tW_31 K gd).1
    rw [q] at *; omega
  · exact cW_31 (by have := K.2.1.2; omega) ha hb
theorem la_lp {h : HP} {w R : Nat} {j : Bool} {B S : Int32} {F A X : Nat → Nat} {st : Bool} (C : cSx h w R j B S F A X st) (K : rwOK w R F A X) {f : Nat → Int32} (T : TB (ftF F A) (gdF w j B S F A X st) R f) {y here below : Nat} (hy : y ≤ R) (hh : here < 2 ^ w) (hb : below < 2 ^ w) (o : Bool) : ∀ d a n u, a + d = 32 → d < n →
    ∃ u', f_X0_leastAbove_3 n (nI y) (nI here) (if o then -1 else nI below) (nI a) (wy h u f) = some (nI (lsN (fun a => decide (cW (ftF F A) (gdF w j B S F A X st) y a here ≠ 0) && (o || gdF w j B S F A X st y a here below)) d a), wy h u' f)
  | d, a, 0, _, _, z => absurd z (by omega)
  | 0, a, n + 1, u, e, _ => by
    unfold f_X0_leastAbove_3
    rw [if_pos (by rw [show (32 : Int32) = nI 32 from rfl, nI_leI (by omega) (by omega)]; omega)]
    exact ⟨u, rfl⟩
  | d + 1, a, n + 1, u, e, _ => by
    obtain ⟨⟨w1, w5⟩, ⟨R1, R6⟩, K3, -⟩ := id K
    obtain ⟨pw1, pw2⟩ := pw_le w5
    have ix : y * 1024 + a * 32 + here = y * 1024 + (a * 32 + here) := by omega
    have x := T y (a * 32 + here) (by omega) (by omega)
    rw [if_pos hy, show (a * 32 + here) / 32 = a by omega, show (a * 32 + here) % 32 = here by omega] at x
    unfold f_X0_leastAbove_3
    rw [if_neg (by rw [show (32 : Int32) = nI 32 from rfl, nI_leI (by omega) (by omega)]; omega), show (1024 : Int32) = nI 1024 from rfl, show (32 : Int32) = nI 32 from rfl, nI_mul, nI_mul, nI_add, nI_add, gdi_nI (by omega) (by decide), nI_clamp (by omega), wy_66, ix, x]
    have c31 := cW_R K (gdF w j B S F A X st) hy (show a < 32 by omega) (show here < 32 by omega)
    unfold lsN
    by_cases c0 : cW (ftF F A) (gdF w j B S F A X st) y a here = 0
    · have cc : ∀ q : Bool, ¬ ((decide ((0 : Nat) ≠ 0) && q) = true) := fun q => by simp
      rw [if_pos (by rw [c0]; rfl), c0, if_neg (cc _)]
      unfold f_X0_leastAbove_36
      rw [if_pos rfl]
      simp only [ltv_e, nI_1]
      exact la_lp C K T hy hh hb o d (a + 1) n u (by omega) (by omega)
    · rw [if_neg (fun z => c0 ((nI0' c31).mp z)), decide_eq_true c0, Bool.true_and]
      unfold f_X0_leastAbove_36
      rw [if_neg (by decide)]
      cases o
      · simp only [Bool.false_or, Bool.false_eq_true, if_false]
        obtain ⟨a1, a2⟩ := cW_0 (ft_lt K) (by omega) c0
        obtain ⟨V, u1, e1, v1, v2⟩ := wrong_e C K u f hy a1 hh hb
        rw [if_neg (lt_nI0 _ (by omega)), e1, bd2_s]
        have w0 := wrong_0 v2
        by_cases g : gdF w j B S F A X st y a here below = true
        · rw [if_pos g, if_pos (by rw [w0.mpr g]; rfl)]
          exact ⟨u1, rfl⟩
        · rw [if_neg g, if_neg (fun z => g (w0.mp ((nI0' (by omega)).mp z)))]
          simp only [ltv_e, nI_1]
          have := la_lp C K T hy hh hb false d (a + 1) n u1 (by omega) (by omega)
          simp only [Bool.false_or, Bool.false_eq_true, if_false] at this
          exact this
      · simp only [Bool.true_or, if_true]
        rw [if_pos (by decide)]
        exact ⟨u, rfl⟩
theorem lf_lp {h : HP} {w R : Nat} {j : Bool} {B S : Int32} {F A X : Nat → Nat} {st : Bool} (C : cSx h w R j B S F A X st) (K : rwOK w R F A X) {f : Nat → Int32} (T : TB (ftF F A) (gdF w j B S F A X st) R f) : ∀ y n u below here acc, y ≤ R → y < n → below < 2 ^ w → here < 2 ^ w →
    ∃ u', f_X0_leastFound_23 n (nI below) (nI here) acc (nI y - 1) (wy h u f) = some (dsc (ftF F A) (gdF w j B S F A X st) w y below here acc, wy h u' f)
  | y, 0, _, _, _, _, _, z, _, _ => absurd z (by omega)
  | 0, n + 1, u, below, here, acc, _, _, _, _ => by
    unfold f_X0_leastFound_23
    rw [if_pos (by decide)]
    exact ⟨u, rfl⟩
  | y + 1, n + 1, u, below, here, acc, hy, _, hb, hh => by
    obtain ⟨⟨w1, w5⟩, ⟨R1, R6⟩, K3, -⟩ := id K
    obtain ⟨pw1, pw2⟩ := pw_le w5
    have e1 : nI (y + 1) - 1 = nI y := nI_sub (a := y + 1) (b := 1) (by omega)
    have m1 : nI y + (-1) = nI y - 1 := by rw [Int32.sub_eq_add_neg]
    unfold f_X0_leastFound_23
    rw [e1, if_neg (lt_nI0 _ (by omega)), wy_n _ _ _ (by decide) (by decide), C.1.1.2.2, nI_mul, Nat.mul_comm y w]
    simp only [ltv_e, m1]
    by_cases y0 : y = 0
    · subst y0
      rw [if_pos (show nI 0 ≤ 0 by decide)]
      have := lf_lp C K T 0 n u here 0 (acc ||| (nI here <<< (nI (w * 0) &&& 31))) (by omega) (by omega) hh (by omega)
      exact this
    · rw [if_neg (by rw [show (0 : Int32) = nI 0 from rfl, nI_leI (by omega) (by omega)]; omega)]
      obtain ⟨u1, e2⟩ := la_lp C K T (y := y) (here := here) (below := below) (by omega) hh hb false 32 0 FU u (by omega) (FU_gt (by omega))
      simp only [Bool.false_or, Bool.false_eq_true, if_false] at e2
      have e3 : f_X0_leastAbove (wy h u f) (nI y) (nI here) (nI below) = some (nI (pkN (ftF F A) (gdF w j B S F A X st) y here below), wy h u1 f) := e2
      rw [e3, bd2_s]
      have lt : pkN (ftF F A) (gdF w j B S F A X st) y here below < 2 ^ w := lsN_lt (by omega) (fun k hk => by
        unfold pkP at hk
        rw [Bool.and_eq_true, decide_eq_true_eq] at hk
        exact (cW_0 (ft_lt K) (by omega) hk.1).1) 32 0
      obtain ⟨u2, e4⟩ := lf_lp C K T y n u1 here _ (acc ||| (nI here <<< (nI (w * y) &&& 31))) (by omega) (by omega) hh lt
      refine ⟨u2, ?_⟩
      unfold dsc
      rw [if_neg y0]
      exact e4
theorem leastC {h : HP} {w R : Nat} {j : Bool} {B S : Int32} {F A X : Nat → Nat} {st : Bool} (C : cSx h w R j B S F A X st) (K : rwOK w R F A X) {f : Nat → Int32} (T : TB (ftF F A) (gdF w j B S F A X st) R f) (u : Nat → Int32) :
    ∃ u', f_X0_leastFound (wy h u f) = some (dsc (ftF F A) (gdF w j B S F A X st) w R 0 (lsN (toP (ftF F A) (gdF w j B S F A X st) R) 32 0) 0, wy h u' f) := by
  obtain ⟨⟨w1, w5⟩, ⟨R1, R6⟩, K3, -⟩ := id K
  obtain ⟨pw1, pw2⟩ := pw_le w5
  obtain ⟨u1, e1⟩ := la_lp C K T (y := R) (here := 0) (below := 0) (Nat.le_refl R) (by omega) (by omega) true 32 0 FU u (by omega) (FU_gt (by omega))
  simp only [Bool.true_or, Bool.and_true, if_true] at e1
  have e2 : f_X0_leastAbove (wy h u f) (nI R) 0 (-1) = some (nI (lsN (toP (ftF F A) (gdF w j B S F A X st) R) 32 0), wy h u1 f) := e1
  have lt : lsN (toP (ftF F A) (gdF w j B S F A X st) R) 32 0 < 2 ^ w := lsN_lt (by omega) (fun k hk => by
    unfold toP at hk
    rw [decide_eq_true_eq] at hk
    exact (cW_0 (ft_lt K) (by omega) hk).1) 32 0
  obtain ⟨u2, e3⟩ := lf_lp C K T R FU u1 0 _ 0 (Nat.le_refl R) (FU_gt (by omega)) (by omega) lt
  refine ⟨u2, ?_⟩
  unfold f_X0_leastFound
  rw [wy_n _ _ _ (by decide) (by decide), C.2.2.2.1, e2, bd2_s]
  simp only [ltv_e]
  rw [wy_n _ _ _ (by decide) (by decide), C.2.2.2.1, show (0 : Int32) = nI 0 from rfl]
  exact e3
