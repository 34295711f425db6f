/-! ===== alike: rows of a picture, the class's tables ===== -/
def vv (ft : Nat → Nat → Bool) (gd : Nat → Nat → Nat → Nat → Bool) (y a b c : Nat) : Nat := if ft (y + 1) c = true ∧ gd y a b c = true then cW ft gd y a b else 0
theorem vv_sum (ft : Nat → Nat → Bool) (gd : Nat → Nat → Nat → Nat → Bool) {y b c : Nat} (hb : b < 32) : sumN 1024 (fun p => if p % 32 = b then vv ft gd y (p / 32) (p % 32) c else 0) = cW ft gd (y + 1) b c := by
  have e : sumN 1024 (fun p => if p % 32 = b then vv ft gd y (p / 32) (p % 32) c else 0) = sumN (32 * 32) (fun p => if p % 32 = b then vv ft gd y (p / 32) b c else 0) := sumN_c (fun p _ => by
    by_cases q : p % 32 = b
    · rw [if_pos q, if_pos q, q]
    · rw [if_neg q, if_neg q])
  rw [e, sumN_col (fun a => vv ft gd y a b c) hb]
  show _ = if ft (y + 1) c = true then _ else 0
  by_cases f : ft (y + 1) c = true
  · rw [if_pos f]
    refine sumN_c (fun a _ => ?_)
    unfold vv
    by_cases g : gd y a b c = true
    · rw [if_pos ⟨f, g⟩, if_pos g]
    · rw [if_neg (fun z => g z.2), if_neg g]
  · rw [if_neg f]
    refine sumN_0 (fun a _ => ?_)
    unfold vv
    rw [if_neg (fun z => f z.1)]
theorem ft_lt {w R : Nat} {F A X : Nat → Nat} (K : rwOK w R F A X) : ∀ y b, ftF F A y b = true → b < 2 ^ w := fun y _ h => fitB_lt (K.2.2.1 y).1 (K.2.2.1 y).2.1 h
theorem pw_le {w : Nat} (w5 : w ≤ 5) : 1 ≤ 2 ^ w ∧ 2 ^ w ≤ 32 := ⟨Nat.one_le_two_pow, Nat.pow_le_pow_right (n := 2) (by decide) w5⟩
/-- the table: level by level -/
def TB (ft : Nat → Nat → Bool) (gd : Nat → Nat → Nat → Nat → Bool) (y : Nat) (f : Nat → Int32) : Prop := ∀ l k, l ≤ 6 → k < 1024 → f (l * 1024 + k) = if l ≤ y then nI (cW ft gd l (k / 32) (k % 32)) else 0
def TM (ft : Nat → Nat → Bool) (gd : Nat → Nat → Nat → Nat → Bool) (y P : Nat) (f : Nat → Int32) : Prop := ∀ l k, l ≤ 6 → k < 1024 → f (l * 1024 + k) = if l ≤ y then nI (cW ft gd l (k / 32) (k % 32)) else if l = y + 1 then nI (sumN P (fun p => if p % 32 = k / 32 then vv ft gd y (p / 32) (p % 32) (k % 32) else 0)) else 0
theorem cb_lp {h : HP} {w R : Nat} {j : Bool} {B S : Int32} {F A X : Nat → Nat} {st : Bool} (C : cSx h w R j B S F A X st) (K : rwOK w R F A X) {y : Nat} (hy : y < R) : ∀ d P n u f, P + d = 1024 → d < n → TM (ftF F A) (gdF w j B S F A X st) y P f →
    ∃ u' f', f_X0_chooseBelow_8 n (nI y) (nI (y * 1024)) (nI P) (wy h u f) = some (wy h u' f') ∧ TM (ftF F A) (gdF w j B S F A X st) y 1024 f'
  | d, P, 0, _, _, _, z, _ => absurd z (by omega)
  | 0, P, n + 1, u, f, e, _, M => by
    unfold f_X0_chooseBelow_8
    rw [if_pos (by rw [show (1024 : Int32) = nI 1024 from rfl, nI_leI (by omega) (by omega)]; omega)]
    have e : P = 1024 := by omega
    rw [e] at M
    exact ⟨u, f, rfl, M⟩
  | d + 1, P, n + 1, u, f, e, _, M => by
    obtain ⟨⟨w1, w5⟩, ⟨R1, R6⟩, K3, -⟩ := id K
    obtain ⟨pw1, pw2⟩ := pw_le w5
    obtain ⟨x1, x2⟩ := x5_e P (by omega)
    have x := M y P (by omega) (by omega)
    rw [if_pos (Nat.le_refl y)] at x
    unfold f_X0_chooseBelow_8
    rw [if_neg (by rw [show (1024 : Int32) = nI 1024 from rfl, nI_leI (by omega) (by omega)]; omega), nI_add, gdi_nI (by omega) (by decide), nI_clamp (by omega), wy_66, x]
    simp only [ltv_e, nI_1]
    by_cases c0 : nI (cW (ftF F A) (gdF w j B S F A X st) y (P / 32) (P % 32)) = 0
    · rw [if_pos c0]
      refine cb_lp C K hy d (P + 1) n u f (by omega) (by omega) (fun l k hl hk => ?_)
      rw [M l k hl hk]
      by_cases q1 : l ≤ y
      · rw [if_pos q1, if_pos q1]
      · rw [if_neg q1, if_neg q1]
        by_cases q2 : l = y + 1
        · rw [if_pos q2, if_pos q2]
          show _ = nI (sumN P _ + (if P % 32 = k / 32 then vv (ftF F A) (gdF w j B S F A X st) y (P / 32) (P % 32) (k % 32) else 0))
          rw [← nI_add]
          have z : nI (if P % 32 = k / 32 then vv (ftF F A) (gdF w j B S F A X st) y (P / 32) (P % 32) (k % 32) else 0) = 0 := by
            by_cases q : P % 32 = k / 32
            · rw [if_pos q]
              unfold vv
              by_cases q3 : ftF F A (y + 1) (k % 32) = true ∧ gdF w j B S F A X st y (P / 32) (P % 32) (k % 32) = true
              · rw [if_pos q3]; exact c0
              · rw [if_neg q3]; rfl
            · rw [if_neg q]; rfl
          rw [z, Int32.add_zero]
        · rw [if_neg q2, if_neg q2]
    · rw [if_neg c0, x1, x2]
      have ne : cW (ftF F A) (gdF w j B S F A X st) y (P / 32) (P % 32) ≠ 0 := fun z => c0 (by rw [z]; rfl)
      obtain ⟨a1, a2⟩ := cW_0 (ft_lt K) (by omega) ne
      obtain ⟨u', f', e1, e2, e3⟩ := cbp_e C K u f hy a1 a2 (nI (cW (ftF F A) (gdF w j B S F A X st) y (P / 32) (P % 32)))
      rw [e1, bd1_s]
      refine cb_lp C K hy d (P + 1) n u' f' (by omega) (by omega) (fun l k hl hk => ?_)
      by_cases q1 : l ≤ y
      · rw [e3 _ (fun c hc _ _ => by omega), M l k hl hk, if_pos q1, if_pos q1]
      · by_cases q2 : l = y + 1
        · subst q2
          rw [if_neg q1, if_pos rfl]
          show _ = nI (sumN P _ + (if P % 32 = k / 32 then vv (ftF F A) (gdF w j B S F A X st) y (P / 32) (P % 32) (k % 32) else 0))
          have Mk := M (y + 1) k hl hk
          rw [if_neg q1, if_pos rfl] at Mk
          rw [← nI_add, ← Mk]
          by_cases q : P % 32 = k / 32
          · rw [if_pos q]
            unfold vv
            by_cases q3 : ftF F A (y + 1) (k % 32) = true ∧ gdF w j B S F A X st y (P / 32) (P % 32) (k % 32) = true
            · rw [if_pos q3]
              have ix : (y + 1) * 1024 + k = (y + 1) * 1024 + P % 32 * 32 + k % 32 := by omega
              rw [ix]
              exact e2 (k % 32) (by omega) q3.1 q3.2
            · rw [if_neg q3, show nI 0 = 0 from rfl, Int32.add_zero]
              refine e3 _ (fun c hc c1 c2 z => q3 ?_)
              have : k % 32 = c := by omega
              rw [this]; exact ⟨c1, c2⟩
          · rw [if_neg q, show nI 0 = 0 from rfl, Int32.add_zero]
            exact e3 _ (fun c hc c1 c2 z => q (by omega))
        · rw [e3 _ (fun c hc _ _ => by omega), M l k hl hk, if_neg q1, if_neg q1, if_neg q2, if_neg q2]
theorem cb_e {h : HP} {w R : Nat} {j : Bool} {B S : Int32} {F A X : Nat → Nat} {st : Bool} (C : cSx h w R j B S F A X st) (K : rwOK w R F A X) {y : Nat} (hy : y < R) (u f : Nat → Int32) (T : TB (ftF F A) (gdF w j B S F A X st) y f) : ∃ u' f', f_X0_chooseBelow (wy h u f) (nI y) = some (wy h u' f') ∧ TB (ftF F A) (gdF w j B S F A X st) (y + 1) f' := by
  obtain ⟨u', f', e1, e2⟩ := cb_lp C K hy 1024 0 FU u f (by omega) (FU_gt (by omega)) (fun l k hl hk => by
    rw [T l k hl hk]
    by_cases q1 : l ≤ y
    · rw [if_pos q1, if_pos q1]
    · rw [if_neg q1, if_neg q1]
      by_cases q2 : l = y + 1
      · rw [if_pos q2]; rfl
      · rw [if_neg q2])
  refine ⟨u', f', ?_, fun l k hl hk => ?_⟩
  · unfold f_X0_chooseBelow
    simp only [ltv_e]
    rw [show (1024 : Int32) = nI 1024 from rfl, nI_mul, show (0 : Int32) = nI 0 from rfl]
    exact e1
  · rw [e2 l k hl hk]
    by_cases q1 : l ≤ y
    · rw [if_pos q1, if_pos (by omega)]
    · rw [if_neg q1]
      by_cases q2 : l = y + 1
      · subst q2
        rw [if_pos rfl, if_pos (Nat.le_refl _), vv_sum _ _ (by omega)]
      · rw [if_neg q2, if_neg (by omega)]
theorem sm_lp {h : HP} {R : Nat} (R6 : R ≤ 6) (t : Nat) {u f : Nat → Int32} {g : Nat → Nat} (hf : ∀ k, k < 1024 → f (R * 1024 + k) = nI (g k)) : ∀ d k n s, k + d = 1024 → d < n → s = nI (sumN k g) → f_X0_countWays_130 t n s (nI (R * 1024)) (nI (R * 1024 + k)) (wy h u f) = some (nI (sumN 1024 g), wy h u f)
  | d, k, 0, _, _, z, _ => absurd z (by omega)
  | 0, k, n + 1, s, e, _, es => by
    have e : k = 1024 := by omega
    unfold f_X0_countWays_130
    rw [show (1024 : Int32) = nI 1024 from rfl, nI_add, if_pos (by rw [nI_leI (by omega) (by omega)]; omega), es, e]
  | d + 1, k, n + 1, s, e, _, es => by
    unfold f_X0_countWays_130
    rw [show (1024 : Int32) = nI 1024 from rfl, nI_add, if_neg (by rw [nI_leI (by omega) (by omega)]; omega), gdi_nI (by omega) (by decide), nI_clamp (by omega), wy_66, hf k (by omega)]
    simp only [ltv_e, nI_1]
    rw [show R * 1024 + k + 1 = R * 1024 + (k + 1) by omega]
    exact sm_lp R6 t hf d (k + 1) n _ (by omega) (by omega) (by rw [es, nI_add]; rfl)
theorem cw_lp {h : HP} {w R : Nat} {j : Bool} {B S : Int32} {F A X : Nat → Nat} {st : Bool} (C : cSx h w R j B S F A X st) (K : rwOK w R F A X) (t : Nat) : ∀ d y n u f, y + d = R → d < n → TB (ftF F A) (gdF w j B S F A X st) y f →
    ∃ u' f', f_X0_countWays_92 t n (nI y) (wy h u f) = some (nI (tW (ftF F A) (gdF w j B S F A X st) R), wy h u' f') ∧ TB (ftF F A) (gdF w j B S F A X st) R f'
  | d, y, 0, _, _, _, z, _ => absurd z (by omega)
  | 0, y, n + 1, u, f, e, _, T => by
    obtain ⟨-, ⟨R1, R6⟩, -, -⟩ := id K
    have e : y = R := by omega
    subst e
    unfold f_X0_countWays_92
    rw [wy_n _ _ _ (by decide) (by decide), C.2.2.2.1, if_pos (by rw [nI_leI (by omega) (by omega)]; omega)]
    simp only [ltv_e]
    refine ⟨u, f, ?_, T⟩
    rw [show (1024 : Int32) = nI 1024 from rfl, nI_mul]
    have s := sm_lp (h := h) R6 t (u := u) (f := f) (g := fun k => cW (ftF F A) (gdF w j B S F A X st) y (k / 32) (k % 32)) (fun k hk => by rw [T y k R6 hk, if_pos (Nat.le_refl _)]) 1024 0 FU 0 (by omega) (FU_gt (by omega)) rfl
    rw [Nat.add_zero] at s
    rw [s]
    congr 3
    exact sumN_all (fun a b => cW (ftF F A) (gdF w j B S F A X st) y a b) 32
  | d + 1, y, n + 1, u, f, e, _, T => by
    obtain ⟨-, ⟨R1, R6⟩, -, -⟩ := id K
    obtain ⟨u1, f1, e1, T1⟩ := cb_e C K (show y < R by omega) u f T
    unfold f_X0_countWays_92
    rw [wy_n _ _ _ (by decide) (by decide), C.2.2.2.1, if_neg (by rw [nI_leI (by omega) (by omega)]; omega), e1, bd1_s]
    simp only [ltv_e, nI_1]
    exact cw_lp C K t d (y + 1) n u1 f1 (by omega) (by omega) T1
theorem fit_sub {F A b : Nat} (dj : ∀ x, F.testBit x = true → A.testBit x = false) : fitB F A b = true ↔ ∃ s, s &&& F = s ∧ b = s ||| A := by
  rw [fitB_b]
  constructor
  · intro h
    refine ⟨b &&& F, by rw [Nat.and_assoc, Nat.and_self], Nat.eq_of_testBit_eq (fun x => ?_)⟩
    have := h x
    have d := dj x
    rw [Nat.testBit_or, Nat.testBit_and]
    revert this d
    cases b.testBit x <;> cases F.testBit x <;> cases A.testBit x <;> decide
  · rintro ⟨s, s1, rfl⟩ x
    have z := congrArg (fun v => v.testBit x) s1
    simp only [Nat.testBit_and] at z
    rw [Nat.testBit_or]
    revert z
    cases s.testBit x <;> cases F.testBit x <;> cases A.testBit x <;> decide
theorem c44_lp {h : HP} {F0 A0 : Nat} (hF : F0 < 32) (hA : A0 < 32) (e69 : hI h 69 0 = nI F0) (e70 : hI h 70 0 = nI A0) (t : Nat) : ∀ n i c u f, c < 32 → c &&& F0 = c → i + c ≤ 31 → c < n →
    ∃ f', f_X0_countWays_44 t n (nI c) (nI i) (wy h u f) = f_X0_countWays_92 t FU 0 (wy h u f') ∧ (∀ s, s ≤ c → s &&& F0 = s → f' (s ||| A0) = 1) ∧ ∀ k, (∀ s, s ≤ c → s &&& F0 = s → k ≠ s ||| A0) → f' k = f k
  | 0, _, _, _, _, _, _, _, z => absurd z (by omega)
  | n + 1, i, c, u, f, hc, cm, ic, z => by
    have cA : (c ||| A0) < 32 := Nat.or_lt_two_pow (n := 5) hc hA
    unfold f_X0_countWays_44
    rw [if_neg (by rw [show (32 : Int32) = nI 32 from rfl, nI_leI (by omega) (by omega)]; omega), wy_n _ _ _ (by decide) (by decide), e70, nx_or', gdi_nI (by omega) (by decide), nI_clamp (by omega)]
    simp only [ltv_e]
    have eu : uI (wy h u f) 66 (c ||| A0) 1 = wy h u (upd f (c ||| A0) 1) := by
      unfold uI; rw [wy_66, wy_t]
    rw [eu]
    have U : ∀ k, upd f (c ||| A0) 1 k = if k = c ||| A0 then 1 else f k := fun k => rfl
    by_cases c0 : c = 0
    · subst c0
      rw [if_pos (show nI 0 = 0 from rfl)]
      refine ⟨_, rfl, fun s hs _ => ?_, fun k hk => ?_⟩
      · have : s = 0 := by omega
        subst this; rw [U, if_pos rfl]
      · rw [U, if_neg (hk 0 (Nat.le_refl _) (Nat.zero_and F0))]
    · rw [if_neg (fun e => c0 (nI_inj (by omega) (by omega) (e.trans (show (0 : Int32) = nI 0 from rfl)))), wy_n _ _ _ (by decide) (by decide), e69, show (1 : Int32) = nI 1 from rfl, nI_sub (by omega), nx_and', nI_add]
      have lt : ((c - 1) &&& F0) < c := Nat.lt_of_le_of_lt Nat.and_le_left (by omega)
      have mm : ((c - 1) &&& F0) &&& F0 = (c - 1) &&& F0 := by rw [Nat.and_assoc, Nat.and_self]
      obtain ⟨f', e1, e2, e3⟩ := c44_lp hF hA e69 e70 t n (i + 1) ((c - 1) &&& F0) u (upd f (c ||| A0) 1) (by omega) mm (by omega) (by omega)
      have nx := sub_next F0 hF c hc cm c0
      refine ⟨f', e1, fun s hs sm => ?_, fun k hk => ?_⟩
      · by_cases q : s = c
        · subst q
          by_cases ex : ∃ s2, s2 ≤ ((s - 1) &&& F0) ∧ s2 &&& F0 = s2 ∧ s ||| A0 = s2 ||| A0
          · obtain ⟨s2, y1, y2, y3⟩ := ex
            rw [y3]; exact e2 s2 y1 y2
          · rw [e3 _ (fun s2 y1 y2 y3 => ex ⟨s2, y1, y2, y3⟩), U, if_pos rfl]
            rfl
        · exact e2 s ((nx s (by omega) sm).mp (by omega)) sm
      · rw [e3 k (fun s h2 sm => hk s (by omega) sm), U, if_neg (hk c (Nat.le_refl _) cm)]
theorem c44_e {h : HP} {w R : Nat} {j : Bool} {B S : Int32} {F A X : Nat → Nat} {st : Bool} (C : cSx h w R j B S F A X st) (K : rwOK w R F A X) (t : Nat) (u f : Nat → Int32) (f0 : ∀ k, k < 7168 → f k = 0) :
    ∃ u' f', f_X0_countWays_44 t FU (nI (F 0)) 0 (wy h u f) = some (nI (tW (ftF F A) (gdF w j B S F A X st) R), wy h u' f') ∧ TB (ftF F A) (gdF w j B S F A X st) R f' := by
  obtain ⟨⟨w1, w5⟩, ⟨R1, R6⟩, K3, -⟩ := id K
  obtain ⟨pw1, pw2⟩ := pw_le w5
  obtain ⟨k1, k2, k3, dj⟩ := K3 0
  obtain ⟨r1, r2, -⟩ := C.2.2.2.2.2.2.2 0 (by omega)
  obtain ⟨f1, e1, e2, e3⟩ := c44_lp (h := h) (F0 := F 0) (A0 := A 0) (by omega) (by omega) r1 r2 t FU 0 (F 0) u f (by omega) (Nat.and_self _) (by omega) (FU_gt (by omega))
  obtain ⟨u', f', e4, T⟩ := cw_lp C K t R 0 FU u f1 (by omega) (FU_gt (by omega)) (fun l k hl hk => by
    by_cases q : l ≤ 0
    · have l0 : l = 0 := by omega
      subst l0
      rw [if_pos (Nat.le_refl 0), Nat.zero_mul, Nat.zero_add]
      show _ = nI (if k / 32 = 0 ∧ ftF F A 0 (k % 32) = true then 1 else 0)
      by_cases g : k / 32 = 0 ∧ ftF F A 0 (k % 32) = true
      · rw [if_pos g]
        obtain ⟨s, s1, s2⟩ := (fit_sub dj).mp g.2
        have : k = s ||| A 0 := by rw [← s2]; omega
        rw [this]
        exact e2 s (by rw [← s1]; exact Nat.and_le_right) s1
      · rw [if_neg g, e3 k (fun s h1 h2 z => g ?_), f0 k (by omega)]; rfl
        have sw : s < 2 ^ w := Nat.lt_of_le_of_lt h1 k1
        have kl : k < 32 := by rw [z]; exact Nat.lt_of_lt_of_le (Nat.or_lt_two_pow sw k2) pw2
        refine ⟨by omega, ?_⟩
        rw [show k % 32 = k by omega, z]
        exact (fit_sub dj).mpr ⟨s, h2, rfl⟩
    · rw [if_neg q, e3 _ (fun s h1 h2 z => ?_), f0 _ (by omega)]
      have sw : s < 2 ^ w := Nat.lt_of_le_of_lt h1 k1
      have := Nat.lt_of_lt_of_le (Nat.or_lt_two_pow sw k2) pw2
      omega)
  exact ⟨u', f', (show f_X0_countWays_44 t FU (nI (F 0)) 0 (wy h u f) = f_X0_countWays_44 t FU (nI (F 0)) (nI 0) (wy h u f) from rfl).trans (e1.trans e4), T⟩
