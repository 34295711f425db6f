/-! ===== alike: rows of a picture, the reference: one row ===== -/
theorem rowMr_e {h G : HP} {t w r m c : Nat} {j : Bool} (T : TW h t w r m c j) (sm : SmN h G) {p : Int32} (hp : inP w r p) {y : Nat} (hy : y ≤ r) : f_X12_rowOf G p (nI y) = some (nI (rwN (hI h (t + 1)) p r y), G) := by
  obtain ⟨⟨w1, w5, hw, hw'⟩, ⟨r1, r6, hr, hr'⟩, -⟩ := T.1.n
  rw [← (rw_e hw' w5 r6 hp hy).1, rowF_e hw']
  unfold f_X12_rowOf
  rw [sm 0 (by omega), hw]
theorem eqN {a b w : Nat} (ha : a < 2 ^ w) (hb : b < 2 ^ w) : a = b ↔ ∀ x, x < w → a.testBit x = b.testBit x := by
  constructor
  · rintro rfl x _; rfl
  · intro h
    refine Nat.eq_of_testBit_eq (fun x => ?_)
    by_cases q : x < w
    · exact h x q
    · rw [lt_p2.mp ha x (by omega), lt_p2.mp hb x (by omega)]
/-- houses, stuck lamps, lit ones of a row, beside what the class has -/
theorem rows_b {h : HP} {t w r m c : Nat} {j : Bool} (T : TW h t w r m c j) {y : Nat} (hy : y ≤ r) : ∃ H S : Nat, H = rwN (hI h (t + 1)) (hI h 114 2) r y ∧ S = rwN (hI h (t + 1)) (hI h 114 4) r y ∧ H < 2 ^ w ∧ S < 2 ^ w ∧ inP w r (hI h 114 2) ∧ inP w r (hI h 114 4) ∧
    ∀ x, (tF h t r y).testBit x = (H.testBit x && !S.testBit x) ∧ (tAl h t r y).testBit x = ((tX h t r y).testBit x && S.testBit x) ∧ (S.testBit x = true → H.testBit x = true) := by
  obtain ⟨⟨w1, w5, hw, hw'⟩, ⟨r1, r6, hr, hr'⟩, -, -, ⟨h4, h5⟩, h6, h7⟩ := T.1.n
  have pF := free_P T.1
  have pX := inH_P T.1 T.pic
  have pA : inP w r (hI h (t + 1) 6) := fun i hi b => by
    rw [(h6 i hi).2, Bool.and_eq_true] at b
    exact pX i hi b.1
  have pH : inP w r (hI h 114 2) := fun i hi b => (h7 i hi).1 b
  have pS : inP w r (hI h 114 4) := fun i hi b => pH i hi ((h7 i hi).2.2 b)
  obtain ⟨-, -, a⟩ := rw_e hw' w5 r6 pF hy
  obtain ⟨-, -, b⟩ := rw_e hw' w5 r6 pA hy
  obtain ⟨-, -, c⟩ := rw_e hw' w5 r6 pX hy
  obtain ⟨-, d1, d⟩ := rw_e hw' w5 r6 pH hy
  obtain ⟨-, e1, e⟩ := rw_e hw' w5 r6 pS hy
  refine ⟨_, _, rfl, rfl, d1, e1, pH, pS, fun x => ?_⟩
  unfold tF tAl tX
  rw [a, b, c, d, e]
  by_cases hi : w * y + x < 32
  · rw [(h6 _ hi).1, (h6 _ hi).2]
    have := (h7 _ hi).2.2
    revert this
    cases decide (x < w) <;> cases bt (hI h 114 2) (w * y + x) <;> cases bt (hI h 114 3) (w * y + x) <;> cases bt (hI h 114 4) (w * y + x) <;> decide
  · rw [b_big (by omega), b_big (by omega), b_big (by omega), b_big (by omega), b_big (by omega)]
    cases decide (x < w) <;> decide
theorem and_0 {a b : Nat} (ha : a < 2 ^ 31) : nI a &&& (nI b ^^^ -1) = 0 ↔ ∀ x, a.testBit x = true → b.testBit x = true := by
  constructor
  · intro e x z
    by_cases hx : x < 32
    · have q := congrArg (fun v => bt v x) e
      simp only [b_and, b_xor, b_m1 x hx, bt_nI _ hx, b_0, z, Bool.true_and] at q
      revert q
      cases b.testBit x <;> decide
    · rw [lt_p2.mp ha x (by omega)] at z; cases z
  · intro h
    refine b_ext (fun x hx => ?_)
    have := h x
    rw [b_and, b_xor, b_m1 x hx, bt_nI _ hx, bt_nI _ hx, b_0]
    revert this
    cases a.testBit x <;> cases b.testBit x <;> decide
theorem fits_e {h G : HP} {t w r m c : Nat} {j : Bool} (T : TW h t w r m c j) (sm : SmN h G) {y a : Nat} (hy : y ≤ r) (ha : a < 32) : f_X12_fitsRow G (nI a) (nI y) = some (if tft h t r y a = true then 1 else 0, G) := by
  obtain ⟨⟨w1, w5, hw, hw'⟩, ⟨r1, r6, hr, hr'⟩, -⟩ := T.1.n
  have pX := inH_P T.1 T.pic
  obtain ⟨H, S, eH, eS, H1, S1, pH, pS, B⟩ := rows_b T hy
  have X1 : tX h t r y < 2 ^ w := ((rw_ok T).2.2.1 y).2.2.1
  obtain ⟨pw1, pw2⟩ := pw_le w5
  have e2 : (nI a &&& nI S = nI (tX h t r y) &&& nI S) ↔ ∀ x, (a.testBit x && S.testBit x) = ((tX h t r y).testBit x && S.testBit x) := by
    rw [nx_and', nx_and']
    constructor
    · intro e x
      have l1 : (a &&& S) < 2 ^ 31 := Nat.lt_of_le_of_lt Nat.and_le_left (by omega)
      have l2 : (tX h t r y &&& S) < 2 ^ 31 := Nat.lt_of_le_of_lt Nat.and_le_left (by omega)
      have := congrArg (fun v => v.testBit x) (nI_inj l1 l2 e)
      simp only [Nat.testBit_and] at this
      exact this
    · intro e
      rw [show a &&& S = tX h t r y &&& S from Nat.eq_of_testBit_eq (fun x => by rw [Nat.testBit_and, Nat.testBit_and]; exact e x)]
  have key : tft h t r y a = true ↔ (∀ x, a.testBit x = true → H.testBit x = true) ∧ ∀ x, (a.testBit x && S.testBit x) = ((tX h t r y).testBit x && S.testBit x) := by
    show fitB (tF h t r y) (tAl h t r y) a = true ↔ _
    rw [fitB_b]
    constructor
    · intro k
      refine ⟨fun x => ?_, fun x => ?_⟩ <;>
      · have := k x
        obtain ⟨b1, b2, b3⟩ := B x
        rw [b1, b2] at this
        revert this b3
        cases a.testBit x <;> cases H.testBit x <;> cases S.testBit x <;> cases (tX h t r y).testBit x <;> decide
    · rintro ⟨k1, k2⟩ x
      obtain ⟨b1, b2, b3⟩ := B x
      have q1 := k1 x
      have q2 := k2 x
      rw [b1, b2]
      revert q1 q2 b3
      cases a.testBit x <;> cases H.testBit x <;> cases S.testBit x <;> cases (tX h t r y).testBit x <;> decide
  unfold f_X12_fitsRow
  rw [sm 2 (by omega), rowMr_e T sm pH hy, bd2_s]
  try simp only []
  rw [sm 4 (by omega), rowMr_e T sm pS hy, bd2_s, ← eH, ← eS]
  by_cases c1 : ∀ x, a.testBit x = true → H.testBit x = true
  · rw [if_pos ((and_0 (by omega)).mpr c1), sm 3 (by omega), rowMr_e T sm pX hy, bd2_s]
    have eX : rwN (hI h (t + 1)) (hI h 114 3) r y = tX h t r y := rfl
    rw [eX]
    by_cases c2 : ∀ x, (a.testBit x && S.testBit x) = ((tX h t r y).testBit x && S.testBit x)
    · rw [if_pos (e2.mpr c2), if_pos (key.mpr ⟨c1, c2⟩)]
    · rw [if_neg (fun z => c2 (e2.mp z)), if_neg (fun z => c2 (key.mp z).2)]
  · rw [if_neg (fun z => c1 ((and_0 (by omega)).mp z)), if_neg (fun z => c1 (key.mp z).1)]
theorem shrN {a x : Nat} (hx : x < 32) : (nI a >>> (nI x &&& 31)) &&& 1 = nI (b2 (a.testBit x)) := by rw [shr1 hx, bt_nI a hx, bI_b2]
theorem and1N (a : Nat) : nI a &&& 1 = nI (b2 (a.testBit 0)) := by
  rw [show (1 : Int32) = nI 1 from rfl, nx_and', Nat.and_one_is_mod, Nat.testBit_zero]
  rcases Nat.mod_two_eq_zero_or_one a with q | q <;> rw [q] <;> rfl
theorem bI_shl {v : Bool} {x i : Nat} (hx : x < 32) (hi : i < 32) : bt (bI v <<< (nI x &&& 31)) i = (v && decide (i = x)) := by
  rw [b_shl x hx _ hi]
  cases v
  · rw [show bI false = 0 from rfl, b_0, Bool.and_false, Bool.false_and]
  · rw [show bI true = nI 1 from rfl, bt_nI 1 (by omega), Bool.true_and]
    by_cases q : i = x
    · subst q; rw [decide_eq_true (Nat.le_refl i), decide_eq_true rfl, Nat.sub_self]; rfl
    · rw [decide_eq_false q]
      by_cases q2 : x ≤ i
      · rw [decide_eq_true q2, Bool.true_and]
        have : i - x ≠ 0 := by omega
        obtain ⟨k, hk⟩ : ∃ k, i - x = k + 1 := ⟨i - x - 1, by omega⟩
        rw [hk, Nat.testBit_succ]
        exact Nat.zero_testBit _
      · rw [decide_eq_false q2]; rfl
/-- what a row becomes, column by column -/
def rcF (w : Nat) (j : Bool) (B S : Int32) (F A a b c k i : Nat) : Bool := A.testBit i || (decide (i < k) && (F.testBit i && (if b.testBit i then bt S (nR w j a b c i) else bt B (nR w j a b c i))))
theorem nR_le (w : Nat) (j : Bool) (a b c x : Nat) : nR w j a b c x ≤ 4 := by
  have q : ∀ v, b2 v ≤ 1 := fun v => by cases v <;> decide
  unfold nR
  have h1 := q (if x ≠ 0 then b.testBit (x - 1) else j && b.testBit (w - 1))
  have h2 := q (if x ≠ w - 1 then b.testBit (x + 1) else j && b.testBit 0)
  have h3 := q (a.testBit x)
  have h4 := q (c.testBit x)
  omega
theorem rb_lp {h G : HP} {t w r m c : Nat} {j : Bool} (T : TW h t w r m c j) (sm : SmN h G) {q : Nat} (q4 : q < 4) (hq : hI h 114 10 = nI q) (hB : bornF h t = hI h 114 (12 + 2 * q)) (hS : staysF h t = hI h 114 (13 + 2 * q)) {y : Nat} (hy : y ≤ r) {H S : Nat} (H1 : H < 2 ^ w) (S1 : S < 2 ^ w) (FB : ∀ x, (tF h t r y).testBit x = (H.testBit x && !S.testBit x)) {a b d : Nat} : ∀ e k n its, k + e = w → e < n → (∀ i, i < 32 → bt its i = rcF w j (bornF h t) (staysF h t) (tF h t r y) (tAl h t r y) a b d k i) →
    ∃ its', f_X12_rowBecomes_56 n (nI a) (nI b) (nI d) (nI w) (nI S) (nI H) its (nI k) G = some (its', G) ∧ ∀ i, i < 32 → bt its' i = rcF w j (bornF h t) (staysF h t) (tF h t r y) (tAl h t r y) a b d w i
  | e, k, 0, _, _, z, _ => absurd z (by omega)
  | 0, k, n + 1, its, e, _, I => by
    obtain ⟨⟨w1, w5, hw, hw'⟩, -⟩ := T.1.n
    have e : k = w := by omega
    rw [e] at I
    unfold f_X12_rowBecomes_56
    rw [if_pos (by rw [nI_leI (by omega) (by omega)]; omega)]
    exact ⟨its, rfl, I⟩
  | e + 1, k, n + 1, its, ek, _, I => by
    obtain ⟨⟨w1, w5, hw, hw'⟩, -⟩ := T.1.n
    have nm : ¬ hI G 114 10 = -1 := by rw [sm 10 (by omega), hq]; exact nI_m1 (by omega)
    have fb : ∀ x, x < 32 → bt (nI H &&& (nI S ^^^ -1)) x = (tF h t r y).testBit x := fun x hx => by
      rw [b_and, b_xor, b_m1 x hx, bt_nI _ hx, bt_nI _ hx, FB x, Bool.xor_true]
    unfold f_X12_rowBecomes_56
    rw [if_neg (by rw [nI_leI (by omega) (by omega)]; omega), if_neg nm]
    cases hf : (tF h t r y).testBit k
    · rw [if_pos ((and_bit (by omega)).mpr (by rw [fb k (by omega)]; exact hf))]
      simp only [ltv_e, nI_1]
      refine rb_lp T sm q4 hq hB hS hy H1 S1 FB e (k + 1) n its (by omega) (by omega) (fun i hi => ?_)
      rw [I i hi]
      unfold rcF
      by_cases z : i = k
      · subst z; rw [hf]; simp
      · by_cases z2 : i < k
        · rw [decide_eq_true z2, decide_eq_true (show i < k + 1 by omega)]
        · rw [decide_eq_false z2, decide_eq_false (show ¬ i < k + 1 by omega)]
    · rw [if_neg (fun z => by have := (and_bit (by omega)).mp z; rw [fb k (by omega), hf] at this; cases this), shrN (by omega), shrN (by omega), nI_add]
      simp only [ltv_e]
      have j9 : hI G 114 9 = if j then 1 else 0 := by rw [sm 9 (by omega)]; exact T.2.2.2.1
      have fin : ∀ v, v = nI (nR w j a b d k) → ∃ its', f_X12_rowBecomes_196 (f_X12_rowBecomes_56 n) (nI a) (nI b) (nI d) (nI w) (nI S) (nI H) its (nI k) v G = some (its', G) ∧ ∀ i, i < 32 → bt its' i = rcF w j (bornF h t) (staysF h t) (tF h t r y) (tAl h t r y) a b d w i := fun v ev => by
        have n4 := nR_le w j a b d k
        have b1 : b2 (b.testBit k) ≤ 1 := by cases b.testBit k <;> decide
        unfold f_X12_rowBecomes_196
        rw [ev, sm 10 (by omega), hq, shrN (by omega), show (12 : Int32) = nI 12 from rfl, show (2 : Int32) = nI 2 from rfl, nI_mul, nI_add, nI_add, gdi_nI (by omega) (by decide), nI_clamp (by omega), sm (12 + 2 * q + b2 (b.testBit k)) (by omega), shr1 (by omega)]
        simp only [ltv_e, nI_1]
        refine rb_lp T sm q4 hq hB hS hy H1 S1 FB e (k + 1) n _ (by omega) (by omega) (fun i hi => ?_)
        have val : bt (hI h 114 (12 + 2 * q + b2 (b.testBit k))) (nR w j a b d k) = (if b.testBit k then bt (staysF h t) (nR w j a b d k) else bt (bornF h t) (nR w j a b d k)) := by
          cases b.testBit k
          · rw [if_neg (by decide), hB]; rfl
          · rw [if_pos rfl, hS, show 12 + 2 * q + b2 true = 13 + 2 * q by show 12 + 2 * q + 1 = _; omega]
        rw [b_or, I i hi, bI_shl (by omega) hi, val]
        unfold rcF
        by_cases z : i = k
        · subst z
          rw [hf, decide_eq_true rfl, decide_eq_false (Nat.lt_irrefl i), decide_eq_true (Nat.lt_succ_self i)]; simp
        · rw [decide_eq_false z, Bool.and_false, Bool.or_false]
          by_cases z2 : i < k
          · rw [decide_eq_true z2, decide_eq_true (show i < k + 1 by omega)]
          · rw [decide_eq_false z2, decide_eq_false (show ¬ i < k + 1 by omega)]
      have right : ∀ v L, v = nI (b2 (a.testBit k) + b2 (d.testBit k) + b2 L) → L = (if k ≠ 0 then b.testBit (k - 1) else j && b.testBit (w - 1)) → ∃ its', f_X12_rowBecomes_152 (f_X12_rowBecomes_56 n) (nI a) (nI b) (nI d) (nI w) (nI S) (nI H) its (nI k) v G = some (its', G) ∧ ∀ i, i < 32 → bt its' i = rcF w j (bornF h t) (staysF h t) (tF h t r y) (tAl h t r y) a b d w i := fun v L ev eL => by
        unfold f_X12_rowBecomes_152
        rw [nI_1]
        by_cases k1 : k = w - 1
        · rw [if_pos (by rw [nI_leI (by omega) (by omega)]; omega), j9]
          cases hj : j
          · rw [if_neg (by decide)]
            rw [hj] at fin eL
            refine fin v ?_
            rw [ev]; unfold nR
            rw [← eL, if_neg (by omega)]
            congr 1
            show _ = _ + b2 (false && _) + _ + _
            rw [Bool.false_and]; show _ = _ + 0 + _ + _; omega
          · rw [if_pos (by decide), and1N]
            simp only [ltv_e]
            rw [hj] at fin eL
            refine fin _ ?_
            rw [ev, nI_add]; unfold nR
            rw [← eL, if_neg (by omega), Bool.true_and]
            congr 1; omega
        · rw [if_neg (by rw [nI_leI (by omega) (by omega)]; omega), shrN (by omega)]
          simp only [ltv_e]
          refine fin _ ?_
          rw [ev, nI_add]; unfold nR
          rw [← eL, if_pos k1]
          congr 1; omega
      by_cases k0 : k = 0
      · rw [if_pos (by rw [show (0 : Int32) = nI 0 from rfl, nI_leI (by omega) (by omega)]; omega), j9]
        cases hj : j
        · rw [if_neg (by decide)]
          rw [hj] at right
          refine right _ false (by show _ = nI (_ + 0); rw [Nat.add_zero]) ?_
          rw [if_neg (by omega), Bool.false_and]
        · rw [if_pos (by decide), show (1 : Int32) = nI 1 from rfl, nI_sub (by omega), show nI 1 = (1 : Int32) from rfl, shrN (by omega), nI_add]
          rw [hj] at right
          exact right _ (b.testBit (w - 1)) rfl (by rw [if_neg (by omega), Bool.true_and])
      · rw [if_neg (by rw [show (0 : Int32) = nI 0 from rfl, nI_leI (by omega) (by omega)]; omega), show (1 : Int32) = nI 1 from rfl, nI_sub (by omega), show nI 1 = (1 : Int32) from rfl, shrN (by omega), nI_add]
        exact right _ (b.testBit (k - 1)) rfl (by rw [if_pos k0])
theorem rbM_e {h G : HP} {t w r m c : Nat} {j : Bool} (T : TW h t w r m c j) (sm : SmN h G) {y : Nat} (hy : y ≤ r) (a b d : Nat) : ∃ V, f_X12_rowBecomes G (nI a) (nI b) (nI d) (nI y) = some (nI V, G) ∧ V < 2 ^ w ∧ ∀ x, x < w → V.testBit x = rbB w j (bornF h t) (staysF h t) (tF h t r y) (tAl h t r y) a b d x := by
  obtain ⟨⟨w1, w5, hw, hw'⟩, ⟨r1, r6, hr, hr'⟩, -⟩ := T.1.n
  have pX := inH_P T.1 T.pic
  obtain ⟨H, S, eH, eS, H1, S1, pH, pS, B⟩ := rows_b T hy
  obtain ⟨F1, A1, X1, -⟩ := (rw_ok T).2.2.1 y
  have F1 : tF h t r y < 2 ^ w := F1
  have A1 : tAl h t r y < 2 ^ w := A1
  obtain ⟨pw1, pw2⟩ := pw_le w5
  have i0 : ∀ i, i < 32 → bt (nI (tX h t r y) &&& nI S) i = (tAl h t r y).testBit i := fun i hi => by
    rw [b_and, bt_nI _ hi, bt_nI _ hi, (B i).2.1]
  have done : ∀ its, (∀ i, i < 32 → bt its i = rcF w j (bornF h t) (staysF h t) (tF h t r y) (tAl h t r y) a b d w i) → ∃ V, its = nI V ∧ V < 2 ^ w ∧ ∀ x, x < w → V.testBit x = rbB w j (bornF h t) (staysF h t) (tF h t r y) (tAl h t r y) a b d x := fun its I => by
    obtain ⟨V, v1, v2, v3⟩ := small_nI w5 (v := its) (fun x hx wx => by
      rw [I x hx]; unfold rcF
      rw [lt_p2.mp A1 x wx, lt_p2.mp F1 x wx]; simp)
    refine ⟨V, v2, v1, fun x hx => ?_⟩
    rw [v3 x (by omega), I x (by omega)]
    unfold rcF rbB
    rw [decide_eq_true hx, Bool.true_and, Bool.or_comm]
  unfold f_X12_rowBecomes
  rw [ltv_e, sm 4 (by omega), rowMr_e T sm pS hy, bd2_s]
  try simp only []
  rw [sm 2 (by omega), rowMr_e T sm pH hy, bd2_s]
  try simp only []
  rw [sm 3 (by omega), rowMr_e T sm pX hy, bd2_s, ltv_e, ← eH, ← eS, sm 0 (by omega), hw]
  have eX : rwN (hI h (t + 1)) (hI h 114 3) r y = tX h t r y := rfl
  rw [eX]
  rcases T.born with ⟨n1, n2, n3⟩ | ⟨q, q4, n1, n2, n3⟩
  · obtain ⟨n, hn⟩ : ∃ n, FU = n + 1 := ⟨999999, rfl⟩
    obtain ⟨V, v1, v2, v3⟩ := done (nI (tX h t r y) &&& nI S) (fun i hi => by
      rw [i0 i hi]; unfold rcF
      rw [n2, n3, b_0]; simp)
    refine ⟨V, ?_, v2, v3⟩
    rw [hn]; unfold f_X12_rowBecomes_56
    rw [if_neg (by rw [show (0 : Int32) = nI 0 from rfl, nI_leI (by omega) (by omega)]; omega), sm 10 (by omega), if_pos n1, v1]
  · obtain ⟨its, e1, I⟩ := rb_lp T sm q4 n1 n2 n3 hy H1 S1 (fun x => (B x).1) (a := a) (b := b) (d := d) w 0 FU (nI (tX h t r y) &&& nI S) (by omega) (FU_gt (by omega)) (fun i hi => by
      rw [i0 i hi]; unfold rcF
      rw [decide_eq_false (Nat.not_lt_zero i)]; simp)
    obtain ⟨V, v1, v2, v3⟩ := done its I
    exact ⟨V, by rw [show (0 : Int32) = nI 0 from rfl, e1, v1], v2, v3⟩
theorem good_e {h G : HP} {t w r m c : Nat} {j : Bool} (T : TW h t w r m c j) (sm : SmN h G) {y a b d : Nat} (hy : y ≤ r) (hb : b < 2 ^ w) (st : Bool) : f_X12_isGood G (nI a) (nI b) (nI d) (nI y) (if st then 1 else 0) = some (if tgd h t w r j st y a b d = true then 1 else 0, G) := by
  obtain ⟨⟨w1, w5, hw, hw'⟩, ⟨r1, r6, hr, hr'⟩, -⟩ := T.1.n
  have pX := inH_P T.1 T.pic
  obtain ⟨F1, A1, X1, -⟩ := (rw_ok T).2.2.1 y
  have X1 : tX h t r y < 2 ^ w := X1
  obtain ⟨pw1, pw2⟩ := pw_le w5
  obtain ⟨V, e1, v1, v2⟩ := rbM_e T sm hy a b d
  have key : ∀ Z, Z < 2 ^ w → (∀ x, x < w → Z.testBit x = wtB st (tX h t r y) b x) → (nI V = nI Z ↔ tgd h t w r j st y a b d = true) := fun Z z1 z2 => by
    show _ ↔ gdB w j (bornF h t) (staysF h t) (tF h t r y) (tAl h t r y) (tX h t r y) st a b d = true
    unfold gdB
    rw [decide_eq_true_eq]
    constructor
    · intro e x hx
      rw [← v2 x hx, ← z2 x hx, nI_inj (by omega) (by omega) e]
    · intro e
      rw [(eqN v1 z1).mpr (fun x hx => by rw [v2 x hx, z2 x hx]; exact e x hx)]
  unfold f_X12_isGood
  rw [e1, bd2_s]
  cases st
  · rw [if_neg (show ¬ (false = true) by decide), if_pos rfl, sm 3 (by omega), rowMr_e T sm pX hy, bd2_s]
    have k := key (tX h t r y) X1 (fun x _ => rfl)
    have eX : rwN (hI h (t + 1)) (hI h 114 3) r y = tX h t r y := rfl
    rw [eX]
    by_cases g : tgd h t w r j false y a b d = true
    · rw [if_pos g, if_pos (k.mpr g)]
    · rw [if_neg g, if_neg (fun z => g (k.mp z))]
  · rw [if_pos (show true = true by rfl), if_neg (by decide)]
    have k := key b hb (fun x _ => rfl)
    by_cases g : tgd h t w r j true y a b d = true
    · rw [if_pos g, if_pos (k.mpr g)]
    · rw [if_neg g, if_neg (fun z => g (k.mp z))]
