/-! ===== alike: rows of a picture, the class ===== -/

theorem small_nI {v : Int32} {w : Nat} (w5 : w ≤ 5) (h : ∀ x, x < 32 → w ≤ x → bt v x = false) : ∃ n, n < 2 ^ w ∧ v = nI n ∧ ∀ x, x < 32 → n.testBit x = bt v x := by
  obtain ⟨n, hn, e⟩ := row_n (w := w) w5 v
  have ev : v = nI n := by
    rw [← e]
    refine b_ext (fun i hi => ?_)
    rw [b_and, mask_b w (by omega) i hi]
    by_cases q : i < w
    · rw [decide_eq_true q, Bool.and_true]
    · rw [h i hi (by omega)]; rfl
  refine ⟨n, ?_, ev, fun x hx => by rw [ev, bt_nI n hx]⟩
  rw [lt_p2]
  intro x hx
  by_cases q : x < 32
  · rw [← bt_nI n q, ← ev]; exact h x q hx
  · exact Nat.testBit_lt_two_pow (Nat.lt_of_lt_of_le hn (by
      have := Nat.pow_le_pow_right (n := 2) (by decide) (show 5 ≤ x by omega)
      exact this))
/-- the three rows, one below another -/
def s3F (w a b c : Nat) : Int32 := (nI a ||| (nI b <<< (nI w &&& 31))) ||| (nI c <<< (nI (2 * w) &&& 31))
theorem s3_b {w a b c i : Nat} (w1 : 1 ≤ w) (w5 : w ≤ 5) (ha : a < 2 ^ w) (hb : b < 2 ^ w) (hc : c < 2 ^ w) (hi : i < 32) : bt (s3F w a b c) i = (if i < w then a.testBit i else if i < 2 * w then b.testBit (i - w) else c.testBit (i - 2 * w)) := by
  have za := lt_p2.mp ha
  have zb := lt_p2.mp hb
  have zc := lt_p2.mp hc
  unfold s3F
  rw [b_or, b_or, b_shl w (by omega) _ hi, b_shl (2 * w) (by omega) _ hi, bt_nI a hi, bt_nI b (by omega), bt_nI c (by omega)]
  by_cases q : i < w
  · rw [if_pos q, decide_eq_false (by omega), decide_eq_false (by omega)]; simp
  · rw [if_neg q, za i (by omega), decide_eq_true (by omega)]
    by_cases q2 : i < 2 * w
    · rw [if_pos q2, decide_eq_false (by omega)]; simp
    · rw [if_neg q2, zb (i - w) (by omega), decide_eq_true (by omega)]; simp
theorem s3_P {w a b c : Nat} (w1 : 1 ≤ w) (w5 : w ≤ 5) (ha : a < 2 ^ w) (hb : b < 2 ^ w) (hc : c < 2 ^ w) : ∀ i, i < 32 → bt (s3F w a b c) i = true → i < w * 3 := fun i hi z => by
  rw [s3_b w1 w5 ha hb hc hi] at z
  refine Classical.byContradiction (fun q => ?_)
  rw [if_neg (by omega), if_neg (by omega), lt_p2.mp hc _ (by omega)] at z
  cases z
theorem s3_n {w a b c x : Nat} {j : Bool} (w1 : 1 ≤ w) (w5 : w ≤ 5) (ha : a < 2 ^ w) (hb : b < 2 ^ w) (hc : c < 2 ^ w) (hx : x < w) : nbC w j (bt (s3F w a b c)) (w + x) = nR w j a b c x ∧ bt (s3F w a b c) (w + x) = b.testBit x := by
  have B := fun i (hi : i < 32) => s3_b w1 w5 ha hb hc hi
  have m : (w + x) % w = x := by rw [Nat.add_mod_left, Nat.mod_eq_of_lt hx]
  refine ⟨?_, ?_⟩
  · unfold nbC nbL nbR nbU nbD nR
    rw [m]
    have e1 : bt (s3F w a b c) (w + x - w) = a.testBit x := by rw [B _ (by omega), if_pos (by omega), show w + x - w = x by omega]
    have e2 : bt (s3F w a b c) (w + x + w) = c.testBit x := by rw [B _ (by omega), if_neg (by omega), if_neg (by omega), show w + x + w - 2 * w = x by omega]
    rw [e1, e2, decide_eq_true (show w ≤ w + x by omega), Bool.true_and]
    by_cases x0 : x = 0
    · by_cases x1 : x = w - 1
      · rw [if_neg (by omega), if_neg (by omega), if_neg (by omega), if_neg (by omega), B _ (by omega), B _ (by omega), if_neg (by omega), if_pos (by omega), if_neg (by omega), if_pos (by omega), show w + x + w - 1 - w = w - 1 by omega, show w + x + 1 - w - w = 0 by omega]
      · rw [if_neg (by omega), if_pos (by omega), if_neg (by omega), if_pos (by omega), B _ (by omega), B _ (by omega), if_neg (by omega), if_pos (by omega), if_neg (by omega), if_pos (by omega), show w + x + w - 1 - w = w - 1 by omega, show w + x + 1 - w = x + 1 by omega]
    · by_cases x1 : x = w - 1
      · rw [if_pos (by omega), if_neg (by omega), if_pos (by omega), if_neg (by omega), B _ (by omega), B _ (by omega), if_neg (by omega), if_pos (by omega), if_neg (by omega), if_pos (by omega), show w + x - 1 - w = x - 1 by omega, show w + x + 1 - w - w = 0 by omega]
      · rw [if_pos (by omega), if_pos (by omega), if_pos (by omega), if_pos (by omega), B _ (by omega), B _ (by omega), if_neg (by omega), if_pos (by omega), if_neg (by omega), if_pos (by omega), show w + x - 1 - w = x - 1 by omega, show w + x + 1 - w = x + 1 by omega]
  · rw [B _ (by omega), if_neg (by omega), if_pos (by omega), show w + x - w = x by omega]
/-- what the class has laid by: rows, and the strip by which one is looked at -/
def cSx (h : HP) (w R : Nat) (j : Bool) (B S : Int32) (F A X : Nat → Nat) (st : Bool) : Prop :=
  HillOK (hI h 67) w 3 j ∧ hI h 67 5 = hI h 67 3 ∧ hI h 67 6 = 0 ∧ hI h 65 5 = nI R ∧ hI h 65 6 = B ∧ hI h 65 7 = S ∧ (hI h 65 8 = 0 ↔ st = false) ∧ ∀ y, y ≤ R → hI h 69 y = nI (F y) ∧ hI h 70 y = nI (A y) ∧ hI h 71 y = nI (X y)
def rwOK (w R : Nat) (F A X : Nat → Nat) : Prop := (1 ≤ w ∧ w ≤ 5) ∧ (1 ≤ R ∧ R ≤ 6) ∧ (∀ y, F y < 2 ^ w ∧ A y < 2 ^ w ∧ X y < 2 ^ w ∧ ∀ x, (F y).testBit x = true → (A y).testBit x = false) ∧ F R = 0 ∧ A R = 0
/-- the heap with a scratch row and a table -/
def wy (h : HP) (u f : Nat → Int32) : HP := rI (rI h 68 u) 66 f
theorem wy_n (h : HP) (u f : Nat → Int32) {b : Nat} (h1 : b ≠ 68) (h2 : b ≠ 66) : hI (wy h u f) b = hI h b := by unfold wy; rw [hI_rI_n _ _ h2, hI_rI_n _ _ h1]
theorem wy_66 (h : HP) (u f : Nat → Int32) : hI (wy h u f) 66 = f := hI_rI_s _ _ _
theorem wy_t (h : HP) (u f g : Nat → Int32) : rI (wy h u f) 66 g = wy h u g := by unfold wy; rw [rI_rI]
theorem wy_u (h : HP) (u f v : Nat → Int32) : rI (wy h u f) 68 v = wy h v f := by
  unfold wy
  refine HP_ext rfl (funext fun b => ?_) rfl rfl
  by_cases q : b = 68
  · subst q; rw [hI_rI_s, hI_rI_n _ _ (by decide), hI_rI_s]
  · rw [hI_rI_n _ _ q]
    by_cases q2 : b = 66
    · subst q2; rw [hI_rI_s, hI_rI_s]
    · rw [hI_rI_n _ _ q2, hI_rI_n _ _ q2, hI_rI_n _ _ q, hI_rI_n _ _ q]
theorem wrong_e {h : HP} {w R : Nat} {j : Bool} {B S : Int32} {F A X : Nat → Nat} {st : Bool} (C : cSx h w R j B S F A X st) (K : rwOK w R F A X) (u f : Nat → Int32) {y a b c : Nat} (hy : y ≤ R) (ha : a < 2 ^ w) (hb : b < 2 ^ w) (hc : c < 2 ^ w) :
    ∃ V u', f_X0_wrongIn (wy h u f) (nI y) (nI a) (nI b) (nI c) = some (nI V, wy h u' f) ∧ V < 2 ^ w ∧ ∀ x, V.testBit x = (decide (x < w) && (rbB w j B S (F y) (A y) a b c x != wtB st (X y) b x)) := by
  obtain ⟨⟨w1, w5⟩, ⟨R1, R6⟩, K3, -⟩ := K
  obtain ⟨H, c5, c6, cR, cB, cSt, cst, crow⟩ := C
  obtain ⟨⟨-, -, hw⟩, -⟩ := id H
  obtain ⟨r1, r2, r3⟩ := crow y hy
  obtain ⟨f1, f2, f3, f4⟩ := K3 y
  have g := fun {k : Nat} (k1 : k ≠ 68) (k2 : k ≠ 66) => wy_n h u f k1 k2
  have e0 : (nI a ||| (nI b <<< (nI w &&& 31))) ||| (nI c <<< (((2 : Int32) * nI w) &&& 31)) = s3F w a b c := by
    unfold s3F; rw [show (2 : Int32) = nI 2 from rfl, nI_mul]
  obtain ⟨D, eD⟩ : ∃ D, D = stepF (hI h 67) (s3F w a b c) B S := ⟨_, rfl⟩
  have hD : ∀ x, x < w → bt D (w + x) = (if b.testBit x then bt S (nR w j a b c x) else bt B (nR w j a b c x)) := fun x hx => by
    rw [eD, step_b H (s3_P w1 w5 ha hb hc) (fun i hi z => by rw [c5] at z; have := (H.2.2.2 i hi).1; rw [z] at this; exact of_decide_eq_true this.symm) _ _ (by omega), c5, c6, b_0, Bool.or_false, (H.2.2.2 (w + x) (by omega)).1, decide_eq_true (by omega), Bool.true_and]
    obtain ⟨n1, n2⟩ := s3_n (j := j) w1 w5 ha hb hc hx
    unfold becB; rw [n1, n2]
  have hr : ∀ x, x < 32 → bt (rowF (hI h 67) D 1) x = (decide (x < w) && bt D (w + x)) := fun x hx => by
    rw [rowF_e hw, b_and, mask_b w (by omega) x hx, show nI w * 1 = nI w by rw [show (1 : Int32) = nI 1 from rfl, nI_mul, Nat.mul_one], b_sshr w (by omega) D hx]
    by_cases q : x < w
    · rw [decide_eq_true q, if_pos (by omega), Bool.and_true, Bool.true_and]
    · rw [decide_eq_false q, Bool.and_false, Bool.false_and]
  have fin : ∀ wt : Int32, (∀ x, x < 32 → bt wt x = wtB st (X y) b x) → (∀ x, w ≤ x → wtB st (X y) b x = false) → ∃ V, (rowF (hI h 67) D 1 &&& nI (F y) ||| nI (A y)) ^^^ wt = nI V ∧ V < 2 ^ w ∧ ∀ x, V.testBit x = (decide (x < w) && (rbB w j B S (F y) (A y) a b c x != wtB st (X y) b x)) := fun wt e1 e2 => by
    have bits : ∀ x, x < 32 → bt ((rowF (hI h 67) D 1 &&& nI (F y) ||| nI (A y)) ^^^ wt) x = (decide (x < w) && (rbB w j B S (F y) (A y) a b c x != wtB st (X y) b x)) := fun x hx => by
      rw [b_xor, b_or, b_and, hr x hx, bt_nI _ hx, bt_nI _ hx, e1 x hx]
      by_cases q : x < w
      · rw [decide_eq_true q, Bool.true_and, Bool.true_and, hD x q]
        unfold rbB
        rw [Bool.and_comm ((F y).testBit x)]
        try (cases ((if b.testBit x = true then bt S (nR w j a b c x) else bt B (nR w j a b c x)) && (F y).testBit x || (A y).testBit x) <;> cases wtB st (X y) b x <;> rfl)
      · rw [decide_eq_false q, lt_p2.mp f2 x (by omega), e2 x (by omega)]; rfl
    obtain ⟨V, v1, v2, v3⟩ := small_nI w5 (v := (rowF (hI h 67) D 1 &&& nI (F y) ||| nI (A y)) ^^^ wt) (fun x hx hw => by rw [bits x hx, decide_eq_false (by omega)]; rfl)
    refine ⟨V, v2, v1, fun x => ?_⟩
    by_cases hx : x < 32
    · rw [v3 x hx, bits x hx]
    · rw [lt_p2.mp v1 x (by omega), decide_eq_false (by omega)]; rfl
  unfold f_X0_wrongIn
  rw [g (by decide) (by decide), hw]
  simp only [ltv_e]
  rw [e0, show f_X1_step (wy h u f) 67 (s3F w a b c) (hI (wy h u f) 65 6) (hI (wy h u f) 65 7) = some (stepF (hI (wy h u f) 67) (s3F w a b c) (hI (wy h u f) 65 6) (hI (wy h u f) 65 7), litH (wy h u f) 67 (s3F w a b c)) from rfl, bd2_s, g (by decide) (by decide), g (by decide) (by decide), cB, cSt, ← eD]
  obtain ⟨u', eu⟩ : ∃ u', litH (wy h u f) 67 (s3F w a b c) = wy h u' f := ⟨_, wy_u h u f _⟩
  have g' := fun {k : Nat} (k1 : k ≠ 68) (k2 : k ≠ 66) => wy_n h u' f k1 k2
  rw [eu, show f_X1_rowOf (wy h u' f) 67 D 1 = some (rowF (hI (wy h u' f) 67) D 1, wy h u' f) from rfl, bd2_s, g' (k := 67) (by decide) (by decide), gdi_nI (by omega) (by decide), gdi_nI (by omega) (by decide), nI_clamp (by omega), g' (k := 69) (by decide) (by decide), r1, g' (k := 70) (by decide) (by decide), r2, g' (k := 65) (by decide) (by decide)]
  cases st
  · rw [if_pos (cst.mpr rfl), gdi_nI (by omega) (by decide), g' (k := 71) (by decide) (by decide), r3]
    obtain ⟨V, v1, v2, v3⟩ := fin (nI (X y)) (fun x hx => bt_nI _ hx) (fun x hx => lt_p2.mp f3 x hx)
    exact ⟨V, u', by rw [v1], v2, v3⟩
  · rw [if_neg (fun z => by have := cst.mp z; cases this)]
    obtain ⟨V, v1, v2, v3⟩ := fin (nI b) (fun x hx => bt_nI _ hx) (fun x hx => lt_p2.mp hb x hx)
    exact ⟨V, u', by rw [v1], v2, v3⟩
def ftF (F A : Nat → Nat) (y b : Nat) : Bool := fitB (F y) (A y) b
def gdF (w : Nat) (j : Bool) (B S : Int32) (F A X : Nat → Nat) (st : Bool) (y a b c : Nat) : Bool := gdB w j B S (F y) (A y) (X y) st a b c
theorem wrong_0 {w : Nat} {j : Bool} {B S : Int32} {F A X V a b c : Nat} {st : Bool} (h : ∀ x, V.testBit x = (decide (x < w) && (rbB w j B S F A a b c x != wtB st X b x))) : V = 0 ↔ gdB w j B S F A X st a b c = true := by
  unfold gdB
  rw [decide_eq_true_eq]
  constructor
  · rintro rfl x hx
    have := h x
    rw [Nat.zero_testBit, decide_eq_true hx, Bool.true_and] at this
    revert this
    cases rbB w j B S F A a b c x <;> cases wtB st X b x <;> decide
  · intro e
    refine Nat.eq_of_testBit_eq (fun x => ?_)
    rw [h x, Nat.zero_testBit]
    by_cases hx : x < w
    · rw [e x hx]; simp
    · rw [decide_eq_false hx]; rfl
/-- all subsets of a mask are gone through -/
theorem or_add : ∀ a, a < 32 → ∀ b, b < 32 → a &&& b = 0 → a ||| b = a + b := by decide +kernel
theorem ch_lp {G : HP} {first m : Nat} (hm : m < 32) (h1 : first + m < 7168) (many : Int32) : ∀ n i c f, c < 32 → c &&& m = c → i + c ≤ 31 → c < n →
    ∃ f', f_X0_chooseBelowPair_112 n many (nI first) (nI m) (nI c) (nI i) (rI G 66 f) = some (rI G 66 f') ∧ (∀ s, s ≤ c → s &&& m = s → f' (first + s) = f (first + s) + many) ∧ ∀ k, (∀ s, s ≤ c → s &&& m = s → k ≠ first + s) → f' k = f k
  | 0, _, _, _, _, _, _, z => absurd z (by omega)
  | n + 1, i, c, f, hc, cm, ic, z => by
    have cm' : c ≤ m := by rw [← cm]; exact Nat.and_le_right
    unfold f_X0_chooseBelowPair_112
    rw [if_neg (by rw [show (32 : Int32) = nI 32 from rfl, nI_leI (by omega) (by omega)]; omega)]
    simp only [ltv_e, nI_add]
    rw [gdi_nI (by omega) (by decide), gdi_nI (by omega) (by decide), nI_clamp (by omega), hI_rI_s]
    have eu : uI (rI G 66 f) 66 (first + c) (f (first + c) + many) = rI G 66 (upd f (first + c) (f (first + c) + many)) := by
      unfold uI; rw [hI_rI_s, rI_rI]
    rw [eu]
    have U : ∀ k, upd f (first + c) (f (first + c) + many) k = if k = first + c then f (first + c) + many else f k := fun k => rfl
    by_cases c0 : c = 0
    · subst c0
      rw [if_pos (show nI 0 = 0 from rfl)]
      refine ⟨_, rfl, fun s hs _ => ?_, fun k hk => ?_⟩
      · have : s = 0 := by omega
        subst this; rw [U, if_pos rfl]
      · rw [U, if_neg (hk 0 (Nat.le_refl _) (Nat.zero_and m))]
    · rw [if_neg (fun e => c0 (nI_inj (by omega) (by omega) (e.trans (show (0 : Int32) = nI 0 from rfl)))), show (1 : Int32) = nI 1 from rfl, nI_sub (by omega), nx_and', nI_add]
      have lt : ((c - 1) &&& m) < c := Nat.lt_of_le_of_lt Nat.and_le_left (by omega)
      have mm : ((c - 1) &&& m) &&& m = (c - 1) &&& m := by rw [Nat.and_assoc, Nat.and_self]
      obtain ⟨f', e1, e2, e3⟩ := ch_lp (G := G) hm h1 many n (i + 1) ((c - 1) &&& m) (upd f (first + c) (f (first + c) + many)) (by omega) mm (by omega) (by omega)
      have nx := sub_next m hm c hc cm c0
      refine ⟨f', e1, fun s hs sm => ?_, fun k hk => ?_⟩
      · by_cases q : s = c
        · subst q
          rw [e3 _ (fun s2 h2 _ e => by omega), U, if_pos rfl]
        · rw [e2 s ((nx s (by omega) sm).mp (by omega)) sm, U, if_neg (by omega)]
      · rw [e3 k (fun s h2 sm => hk s (by omega) sm), U, if_neg (hk c (Nat.le_refl _) cm)]
theorem x5_e : ∀ P, P < 1024 → (nI P >>> ((5 : Int32) &&& 31)) = nI (P / 32) ∧ (nI P &&& 31) = nI (P % 32) := by decide +kernel
theorem nx_or' (a b : Nat) : nI a ||| nI b = nI (a ||| b) := Int32.toBitVec_inj.mp (BitVec.ofNat_or ..).symm
theorem nI0' {n : Nat} (hn : n < 2 ^ 31) : nI n = 0 ↔ n = 0 := ⟨fun e => nI_inj hn (by omega) (e.trans (show (0 : Int32) = nI 0 from rfl)), fun e => by rw [e]; rfl⟩
theorem mask_bN {w x : Nat} : (2 ^ w - 1).testBit x = decide (x < w) := Nat.testBit_two_pow_sub_one w x
/-- one pair of rows: all rows that may stand below -/
theorem cbp_e {h : HP} {w R : Nat} {j : Bool} {B S : Int32} {F A X : Nat → Nat} {st : Bool} (C : cSx h w R j B S F A X st) (K : rwOK w R F A X) (u f : Nat → Int32) {y a b : Nat} (hy : y < R) (ha : a < 2 ^ w) (hb : b < 2 ^ w) (many : Int32) :
    ∃ u' f', f_X0_chooseBelowPair (wy h u f) (nI y) (nI a) (nI b) many = some (wy h u' f') ∧ (∀ c, c < 32 → ftF F A (y + 1) c = true → gdF w j B S F A X st y a b c = true → f' ((y + 1) * 1024 + b * 32 + c) = f ((y + 1) * 1024 + b * 32 + c) + many) ∧ ∀ k, (∀ c, c < 32 → ftF F A (y + 1) c = true → gdF w j B S F A X st y a b c = true → k ≠ (y + 1) * 1024 + b * 32 + c) → f' k = f k := by
  obtain ⟨⟨w1, w5⟩, ⟨R1, R6⟩, K3, -⟩ := id K
  obtain ⟨r1, r2, -⟩ := C.2.2.2.2.2.2.2 (y + 1) (by omega)
  obtain ⟨f1, f2, f3, f4⟩ := K3 (y + 1)
  have p5 : 2 ^ w ≤ 32 := Nat.pow_le_pow_right (n := 2) (by decide) w5
  have pw : 1 ≤ 2 ^ w := Nat.one_le_two_pow
  obtain ⟨L, u1, eL, L1, L2⟩ := wrong_e C K u f (show y ≤ R by omega) ha hb (show 0 < 2 ^ w by omega)
  obtain ⟨D, u2, eD, D1, D2⟩ := wrong_e C K u1 f (show y ≤ R by omega) ha hb (show 2 ^ w - 1 < 2 ^ w by omega)
  obtain ⟨m, m1, m2, m3⟩ := small_nI w5 (v := (nI (F (y + 1)) &&& (nI L ^^^ -1)) &&& (nI D ^^^ -1)) (fun x hx wx => by rw [b_and, b_and, bt_nI _ hx, lt_p2.mp f1 x wx]; rfl)
  have hm : ∀ x, m.testBit x = ((F (y + 1)).testBit x && !L.testBit x && !D.testBit x) := fun x => by
    by_cases hx : x < 32
    · rw [m3 x hx, b_and, b_and, b_xor, b_xor, b_m1 x hx, bt_nI _ hx, bt_nI _ hx, bt_nI _ hx, Bool.xor_true, Bool.xor_true]
    · rw [lt_p2.mp m1 x (by omega), lt_p2.mp f1 x (by omega)]; rfl
  have pk := pick (F' := F (y + 1)) (A' := A (y + 1)) (j := j) (B := B) (S := S) (F := F y) (A := A y) (X := X y) (a := a) (b := b) (st := st) f1 f2 f4 (fun x => mask_bN (w := w)) hm L2 D2
  have pk : ∀ c, (ftF F A (y + 1) c = true ∧ gdF w j B S F A X st y a b c = true) ↔ ((L ||| A (y + 1)) &&& D = 0 ∧ L &&& (F (y + 1) ||| A (y + 1)) = L ∧ ∃ s, s &&& m = s ∧ c = (L ||| A (y + 1)) ||| s) := pk
  unfold f_X0_chooseBelowPair
  rw [show nI y + 1 = nI (y + 1) from nI_1 y, gdi_nI (by omega) (by decide), nI_clamp (by omega), wy_n (b := 69) _ _ _ (by decide) (by decide), r1, ltv_e, gdi_nI (by omega) (by decide), wy_n (b := 70) _ _ _ (by decide) (by decide), r2, ltv_e]
  rw [show (0 : Int32) = nI 0 from rfl, eL, bd2_s, show f_X1_rowMask (wy h u1 f) 67 = some (maskF (hI (wy h u1 f) 67), wy h u1 f) from rfl, bd2_s]
  have em : maskF (hI (wy h u1 f) 67) = nI (2 ^ w - 1) := by
    rw [wy_n _ _ _ (by decide) (by decide)]
    unfold maskF shl
    rw [C.1.1.2.2]; exact mask_n w w5
  rw [em, eD, bd2_s, nx_or', nx_and', nx_or']
  by_cases k1 : (L ||| A (y + 1)) &&& D = 0
  · rw [if_pos (by rw [k1])]
    have k2e : nI L &&& (nI (F (y + 1) ||| A (y + 1)) ^^^ -1) = nI 0 ↔ L &&& (F (y + 1) ||| A (y + 1)) = L := by
      constructor
      · intro e
        refine Nat.eq_of_testBit_eq (fun x => ?_)
        by_cases hx : x < 32
        · have z := congrArg (fun v => bt v x) e
          simp only [b_and, b_xor, b_m1 x hx, bt_nI _ hx, Nat.zero_testBit, Nat.testBit_or] at z
          rw [Nat.testBit_and, Nat.testBit_or]
          revert z
          cases L.testBit x <;> cases (F (y + 1)).testBit x <;> cases (A (y + 1)).testBit x <;> decide
        · rw [Nat.testBit_and, lt_p2.mp L1 x (by omega)]; rfl
      · intro e
        refine b_ext (fun x hx => ?_)
        have z := congrArg (fun v => v.testBit x) e
        simp only [Nat.testBit_and, Nat.testBit_or] at z
        rw [b_and, b_xor, b_m1 x hx, bt_nI _ hx, bt_nI _ hx, bt_nI _ hx, Nat.zero_testBit, Nat.testBit_or]
        revert z
        cases L.testBit x <;> cases (F (y + 1)).testBit x <;> cases (A (y + 1)).testBit x <;> decide
    by_cases k2 : L &&& (F (y + 1) ||| A (y + 1)) = L
    · rw [if_pos (k2e.mpr k2), ltv_e, ltv_e, show (1024 : Int32) = nI 1024 from rfl, show (32 : Int32) = nI 32 from rfl, nI_mul, nI_mul, nI_add, nI_add, m2]
      have LA : (L ||| A (y + 1)) < 2 ^ w := Nat.or_lt_two_pow L1 f2
      have ad : ∀ s, s < 32 → s &&& m = s → (L ||| A (y + 1)) ||| s = (L ||| A (y + 1)) + s := fun s s32 sm => by
        refine or_add _ (by omega) s s32 (Nat.eq_of_testBit_eq (fun x => ?_))
        have z := congrArg (fun v => v.testBit x) sm
        have zz := f4 x
        simp only [Nat.testBit_and, hm x] at z
        rw [Nat.testBit_and, Nat.testBit_or, Nat.zero_testBit]
        revert z zz
        cases L.testBit x <;> cases (F (y + 1)).testBit x <;> cases (A (y + 1)).testBit x <;> cases D.testBit x <;> cases s.testBit x <;> decide
      have am := ad m (by omega) (Nat.and_self m)
      have am2 : (L ||| A (y + 1)) ||| m < 2 ^ w := Nat.or_lt_two_pow LA m1
      obtain ⟨g, e1, e2, e3⟩ := ch_lp (G := rI h 68 u2) (first := (y + 1) * 1024 + b * 32 + (L ||| A (y + 1))) (m := m) (by omega) (by omega) many FU 0 m f (by omega) (Nat.and_self m) (by omega) (FU_gt (by omega))
      refine ⟨u2, g, by unfold wy; exact e1, fun c hc hf hg => ?_, fun k hk => ?_⟩
      · obtain ⟨-, -, s, s1, s2⟩ := (pk c).mp ⟨hf, hg⟩
        have sm' : s ≤ m := by rw [← s1]; exact Nat.and_le_right
        rw [s2, ad s (by omega) s1, ← Nat.add_assoc]
        exact e2 s sm' s1
      · refine e3 k (fun s hs sm => ?_)
        have sw : s < 2 ^ w := Nat.lt_of_le_of_lt hs m1
        have := hk ((L ||| A (y + 1)) ||| s) (Nat.lt_of_lt_of_le (Nat.or_lt_two_pow LA sw) p5) ((pk _).mpr ⟨k1, k2, s, sm, rfl⟩).1 ((pk _).mpr ⟨k1, k2, s, sm, rfl⟩).2
        rw [ad s (by omega) sm, ← Nat.add_assoc] at this
        exact this
    · rw [if_neg (fun z => k2 (k2e.mp z))]
      exact ⟨u2, f, rfl, fun c hc hf hg => absurd ((pk c).mp ⟨hf, hg⟩).2.1 k2, fun k _ => rfl⟩
  · rw [if_neg (show ¬ nI ((L ||| A (y + 1)) &&& D) = nI 0 from fun z => k1 (nI_inj (Nat.lt_of_le_of_lt Nat.and_le_right (by omega)) (by omega) z))]
    exact ⟨u2, f, rfl, fun c hc hf hg => absurd ((pk c).mp ⟨hf, hg⟩).1 k1, fun k _ => rfl⟩
