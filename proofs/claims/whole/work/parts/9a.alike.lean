/-! ===== alike: rows of a picture, the class: laid by, counted, the least ===== -/
theorem strip_b : ∀ w, w < 6 → 1 ≤ w → ∀ i, i < 32 → bt (shl 1 (((0 : Int32) + 1 + 1 + 1) * nI w) - 1) i = decide (i < w * 3) ∧ bt (((0 ||| shl 1 ((0 : Int32) * nI w)) ||| shl 1 (((0 : Int32) + 1) * nI w)) ||| shl 1 (((0 : Int32) + 1 + 1) * nI w)) i = decide (i < w * 3 ∧ i % w = 0) ∧
    bt (((0 ||| shl 1 ((0 : Int32) * nI w + nI w - 1)) ||| shl 1 (((0 : Int32) + 1) * nI w + nI w - 1)) ||| shl 1 (((0 : Int32) + 1 + 1) * nI w + nI w - 1)) i = decide (i < w * 3 ∧ i % w = w - 1) := by decide +kernel
theorem strip_ok (g : Nat → Int32) {w : Nat} {j : Bool} (w1 : 1 ≤ w) (w5 : w ≤ 5) (hj : j = true → 2 < w) : HillOK (addRowF (addRowF (addRowF (startF g (nI w) (if j then 1 else 0))))) w 3 j := by
  refine ⟨⟨w1, w5, rfl⟩, ⟨by decide, by decide⟩, ?_, fun i hi => strip_b w (by omega) w1 i hi⟩
  show (if (if j then (1 : Int32) else 0) ≠ 0 ∧ 2 < nI w then (1 : Int32) else 0) = _
  cases j
  · rw [if_neg (fun z => z.1 rfl)]
    rfl
  · rw [if_pos ⟨by decide, by rw [show (2 : Int32) = nI 2 from rfl, nI_ltI (by omega) (by omega)]; exact hj rfl⟩]
    rfl
/-- alike but for the rows' scratch -/
def AS (h g : HP) : Prop := (∀ b, b < 65 ∨ 71 < b → hI g b = hI h b) ∧ hL g = hL h ∧ SR h g
theorem AS.refl (h : HP) : AS h h := ⟨fun _ _ => rfl, rfl, SR.refl h⟩
theorem AS.I {h g : HP} (s : AS h g) (a j : Nat) (x : Int32) (ha : 65 ≤ a ∧ a ≤ 71) : AS h (uI g a j x) := ⟨fun b q => by rw [hI_uI_n' (by omega)]; exact s.1 b q, s.2.1, s.2.2.I _ _ _⟩
theorem AS.rI {h g : HP} (s : AS h g) (a : Nat) (f : Nat → Int32) (ha : 65 ≤ a ∧ a ≤ 71) : AS h (rI g a f) := ⟨fun b q => by rw [hI_rI_n _ _ (by omega)]; exact s.1 b q, s.2.1, s.2.2⟩
theorem AS.sc {t : Nat} {h g : HP} (ht : t = 79 ∨ t = 96) (s : AS h g) : Sc t h g := ⟨⟨fun b q => s.1 b (by omega), s.2.1⟩, ⟨s.2.2, fun a j q => by rw [s.1 a (by unfold relI inT at q; omega)], fun a j q => by rw [s.2.1]⟩⟩
theorem AS.born {t : Nat} {h g : HP} (ht : t = 79 ∨ t = 96) (s : AS h g) : bornF g t = bornF h t ∧ staysF g t = staysF h t := by
  unfold bornF staysF
  rw [s.1 t (by omega), s.1 (t + 10) (by omega), s.1 (t + 11) (by omega)]
  exact ⟨rfl, rfl⟩
/-- a row of a picture as a number -/
def rwN (f : Nat → Int32) (p : Int32) (r y : Nat) : Nat := if y ≤ r then (rowF f p (nI y)).toNatClampNeg else 0
theorem rw_e {f : Nat → Int32} {w r : Nat} (hw : f 0 = nI w) (w5 : w ≤ 5) (r6 : r ≤ 6) {p : Int32} (hp : inP w r p) {y : Nat} (hy : y ≤ r) : rowF f p (nI y) = nI (rwN f p r y) ∧ rwN f p r y < 2 ^ w ∧ ∀ x, (rwN f p r y).testBit x = (decide (x < w) && bt p (w * y + x)) := by
  have h30 := wr_le w5 r6
  have wy : w * y ≤ w * r := Nat.mul_le_mul_left w hy
  have p31 : bt p 31 = false := by
    cases q : bt p 31
    · rfl
    · have := hp 31 (by decide) q; omega
  have bits : ∀ x, x < 32 → bt (rowF f p (nI y)) x = (decide (x < w) && bt p (w * y + x)) := fun x hx => by
    rw [rowF_e hw, b_and, mask_b w (by omega) x hx, nI_mul, b_sshr (w * y) (by omega) p hx, Bool.and_comm]
    by_cases q : w * y + x < 32
    · rw [if_pos q]
    · rw [if_neg q, p31, b_big (by omega)]
  obtain ⟨n, n1, n2, n3⟩ := small_nI w5 (v := rowF f p (nI y)) (fun x hx wx => by rw [bits x hx, decide_eq_false (by omega)]; rfl)
  have p5 : 2 ^ w ≤ 32 := (pw_le w5).2
  have e : rwN f p r y = n := by unfold rwN; rw [if_pos hy, n2, nI_clamp (by omega)]
  rw [e]
  refine ⟨n2, n1, fun x => ?_⟩
  by_cases hx : x < 32
  · rw [n3 x hx, bits x hx]
  · rw [lt_p2.mp n1 x (by omega), decide_eq_false (by omega)]; rfl
theorem rw_0 {f : Nat → Int32} {p : Int32} {r y : Nat} (hy : ¬ y ≤ r) : rwN f p r y = 0 := by unfold rwN; rw [if_neg hy]
theorem rw_ok {h : HP} {t w r m c : Nat} {j : Bool} (T : TW h t w r m c j) : rwOK w r (rwN (hI h (t + 1)) (hI h (t + 1) 5) r) (rwN (hI h (t + 1)) (hI h (t + 1) 6) r) (rwN (hI h (t + 1)) (hI h 114 3) r) := by
  obtain ⟨⟨w1, w5, hw, hw'⟩, ⟨r1, r6, hr, hr'⟩, -, -, ⟨h4, h5⟩, h6, h7⟩ := T.1.n
  have pF := free_P T.1
  have pX := inH_P T.1 T.pic
  have pA : inP w r (hI h (t + 1) 6) := fun i hi b => by
    rw [(h6 i hi).2, Bool.and_eq_true] at b
    exact pX i hi b.1
  have pw := (pw_le w5).1
  have zz : (0 : Nat) < 2 ^ w := by omega
  refine ⟨⟨w1, w5⟩, ⟨r1, r6⟩, fun y => ?_, ?_, ?_⟩
  · by_cases hy : y ≤ r
    · obtain ⟨-, a1, a2⟩ := rw_e hw' w5 r6 pF hy
      obtain ⟨-, b1, b2⟩ := rw_e hw' w5 r6 pA hy
      obtain ⟨-, c1, c2⟩ := rw_e hw' w5 r6 pX hy
      refine ⟨a1, b1, c1, fun x z => ?_⟩
      rw [a2, Bool.and_eq_true] at z
      have hi : w * y + x < 32 := Classical.byContradiction (fun q => by have := z.2; rw [b_big (by omega)] at this; cases this)
      have u := z.2
      rw [(h6 _ hi).1, Bool.and_eq_true] at u
      rw [b2, (h6 _ hi).2]
      have s := u.2
      revert s
      cases bt (hI h 114 4) (w * y + x) <;> simp
    · rw [rw_0 hy, rw_0 hy, rw_0 hy]
      exact ⟨zz, zz, zz, fun x z => by rw [Nat.zero_testBit] at z; cases z⟩
  · obtain ⟨-, a1, a2⟩ := rw_e hw' w5 r6 pF (Nat.le_refl r)
    refine Nat.eq_of_testBit_eq (fun x => ?_)
    rw [a2, Nat.zero_testBit]
    cases q : bt (hI h (t + 1) 5) (w * r + x)
    · rw [Bool.and_false]
    · by_cases hi : w * r + x < 32
      · have := pF _ hi q; omega
      · rw [b_big (by omega)] at q; cases q
  · obtain ⟨-, a1, a2⟩ := rw_e hw' w5 r6 pA (Nat.le_refl r)
    refine Nat.eq_of_testBit_eq (fun x => ?_)
    rw [a2, Nat.zero_testBit]
    cases q : bt (hI h (t + 1) 6) (w * r + x)
    · rw [Bool.and_false]
    · by_cases hi : w * r + x < 32
      · have := pA _ hi q; omega
      · rw [b_big (by omega)] at q; cases q
theorem l96_e (g : HP) (t : Nat) : f_X0_layRows_96 t FU 0 g = some (uI (rI g 67 (addRowF (addRowF (addRowF (hI g 67))))) 67 5 (addRowF (addRowF (addRowF (hI g 67))) 3)) := by
  obtain ⟨n, hn⟩ : ∃ n, FU = n + 1 + 1 + 1 + 1 := ⟨999996, rfl⟩
  have A : ∀ q : HP, f_X1_addRow q 67 = some (rI q 67 (addRowF (hI q 67))) := fun _ => rfl
  rw [hn]
  unfold f_X0_layRows_96
  rw [if_neg (by decide), A, bd1_s]
  unfold f_X0_layRows_96
  simp only [ltv_e]
  rw [if_neg (by decide), A, bd1_s]
  unfold f_X0_layRows_96
  simp only [ltv_e]
  rw [if_neg (by decide), A, bd1_s]
  unfold f_X0_layRows_96
  simp only [ltv_e]
  rw [if_pos (by decide)]
  simp only [hI_rI_s, rI_rI]
theorem l20_lp {h : HP} {t w r m c : Nat} {j : Bool} (ht : t = 79 ∨ t = 96) (T : TW h t w r m c j) (v8 : Int32) : ∀ d y n g, y + d = r + 1 → d < n → AS h g → hI g 65 5 = nI r → hI g 65 8 = v8 → (∀ k, k < y → hI g 69 k = nI (rwN (hI h (t + 1)) (hI h (t + 1) 5) r k) ∧ hI g 70 k = nI (rwN (hI h (t + 1)) (hI h (t + 1) 6) r k) ∧ hI g 71 k = nI (rwN (hI h (t + 1)) (hI h 114 3) r k)) →
    ∃ g', f_X0_layRows_20 t n (nI y) g = some g' ∧ AS h g' ∧ hI g' 65 5 = nI r ∧ hI g' 65 8 = v8 ∧ HillOK (hI g' 67) w 3 j ∧ hI g' 67 5 = hI g' 67 3 ∧ hI g' 67 6 = 0 ∧ ∀ k, k ≤ r → hI g' 69 k = nI (rwN (hI h (t + 1)) (hI h (t + 1) 5) r k) ∧ hI g' 70 k = nI (rwN (hI h (t + 1)) (hI h (t + 1) 6) r k) ∧ hI g' 71 k = nI (rwN (hI h (t + 1)) (hI h 114 3) r k)
  | d, y, 0, _, _, z, _, _, _, _ => absurd z (by omega)
  | 0, y, n + 1, g, e, _, s, k5, k8, K => by
    obtain ⟨⟨w1, w5, hw, hw'⟩, ⟨r1, r6, hr, hr'⟩, -⟩ := T.1.n
    unfold f_X0_layRows_20
    rw [k5, if_pos (by rw [nI_ltI (by omega) (by omega)]; omega), s.1 (t + 1) (by omega), hw', T.2.2.1.2.2.1, show f_X1_start g 67 (nI w) (if j = true then 1 else 0) = some (rI g 67 (startF (hI g 67) (nI w) (if j = true then 1 else 0))) from rfl, bd1_s, l96_e]
    simp only [hI_rI_s, rI_rI]
    have H := strip_ok (hI g 67) (j := j) w1 w5 T.2.2.2.2
    obtain ⟨f, ef⟩ : ∃ f, f = addRowF (addRowF (addRowF (startF (hI g 67) (nI w) (if j = true then 1 else 0)))) := ⟨_, rfl⟩
    have f6 : f 6 = 0 := by rw [ef]; rfl
    rw [← ef] at H ⊢
    have e67 : hI (rI g 67 (upd f 5 (f 3))) 67 = upd f 5 (f 3) := hI_rI_s _ _ _
    have nn : ∀ b, b ≠ 67 → hI (rI g 67 (upd f 5 (f 3))) b = hI g b := fun b hb => hI_rI_n _ _ hb
    refine ⟨_, rfl, s.rI 67 _ (by omega), by rw [nn 65 (by decide)]; exact k5, by rw [nn 65 (by decide)]; exact k8, ?_, by rw [e67]; rfl, by rw [e67]; exact f6, fun k hk => ?_⟩
    · rw [e67]
      obtain ⟨a, b, c, d⟩ := H
      exact ⟨a, b, c, d⟩
    · rw [nn 69 (by decide), nn 70 (by decide), nn 71 (by decide)]; exact K k (by omega)
  | d + 1, y, n + 1, g, e, _, s, k5, k8, K => by
    obtain ⟨⟨w1, w5, hw, hw'⟩, ⟨r1, r6, hr, hr'⟩, -, -, ⟨h4, h5⟩, h6, h7⟩ := T.1.n
    have pF := free_P T.1
    have pX := inH_P T.1 T.pic
    have pA : inP w r (hI h (t + 1) 6) := fun i hi b => by
      rw [(h6 i hi).2, Bool.and_eq_true] at b
      exact pX i hi b.1
    have RO : ∀ (q : HP) p y, f_X1_rowOf q (t + 1) p y = some (rowF (hI q (t + 1)) p y, q) := fun _ _ _ => rfl
    unfold f_X0_layRows_20
    rw [k5, if_neg (by rw [nI_ltI (by omega) (by omega)]; omega)]
    simp only [RO, bd2_s, ltv_e]
    rw [gdi_nI (by omega) (by decide), gdi_nI (by omega) (by decide), gdi_nI (by omega) (by decide), nI_clamp (by omega)]
    rw [hI_uI_n' (show t + 1 ≠ 70 by omega), hI_uI_n' (show t + 1 ≠ 69 by omega), hI_uI_n' (show t ≠ 70 by omega), hI_uI_n' (show t ≠ 69 by omega), s.1 (t + 1) (by omega), s.1 t (by omega), T.pic0, (rw_e hw' w5 r6 pF (show y ≤ r by omega)).1, (rw_e hw' w5 r6 pA (show y ≤ r by omega)).1, (rw_e hw' w5 r6 pX (show y ≤ r by omega)).1, nI_1]
    refine l20_lp ht T v8 d (y + 1) n _ (by omega) (by omega) (((s.I 69 _ _ (by omega)).I 70 _ _ (by omega)).I 71 _ _ (by omega)) ?_ ?_ (fun k hk => ?_)
    · rw [hI_uI_n (by omega), hI_uI_n (by omega), hI_uI_n (by omega)]; exact k5
    · rw [hI_uI_n (by omega), hI_uI_n (by omega), hI_uI_n (by omega)]; exact k8
    · by_cases q : k = y
      · subst q
        rw [hI_uI_n (by omega), hI_uI_n (by omega), hI_uI_s, hI_uI_n (by omega), hI_uI_s, hI_uI_s]
        exact ⟨rfl, rfl, rfl⟩
      · rw [hI_uI_n (by omega), hI_uI_n (by omega), hI_uI_n (by omega), hI_uI_n (by omega), hI_uI_n (by omega), hI_uI_n (by omega), hI_uI_n (by omega), hI_uI_n (by omega), hI_uI_n (by omega)]
        exact K k (by omega)
/-- the counting, by a town's rows -/
def tF (h : HP) (t r : Nat) : Nat → Nat := rwN (hI h (t + 1)) (hI h (t + 1) 5) r
def tAl (h : HP) (t r : Nat) : Nat → Nat := rwN (hI h (t + 1)) (hI h (t + 1) 6) r
def tX (h : HP) (t r : Nat) : Nat → Nat := rwN (hI h (t + 1)) (hI h 114 3) r
def tft (h : HP) (t r : Nat) : Nat → Nat → Bool := ftF (tF h t r) (tAl h t r)
def tgd (h : HP) (t w r : Nat) (j st : Bool) : Nat → Nat → Nat → Nat → Bool := gdF w j (bornF h t) (staysF h t) (tF h t r) (tAl h t r) (tX h t r) st
theorem count_e {h : HP} {t w r m c : Nat} {j : Bool} (ht : t = 79 ∨ t = 96) (T : TW h t w r m c j) (st : Bool) :
    ∃ g u f, f_X0_countWays h t (if st then 1 else 0) = some (nI (tW (tft h t r) (tgd h t w r j st) r), wy g u f) ∧ AS h g ∧ cSx g w r j (bornF h t) (staysF h t) (tF h t r) (tAl h t r) (tX h t r) st ∧ TB (tft h t r) (tgd h t w r j st) r f := by
  obtain ⟨⟨w1, w5, hw, hw'⟩, ⟨r1, r6, hr, hr'⟩, -⟩ := T.1.n
  have a0 : is01 (if st then (1 : Int32) else 0) := by cases st; exact Or.inl rfl; exact Or.inr rfl
  have s1 : AS h (uI h 65 8 (if st then 1 else 0)) := (AS.refl h).I 65 8 _ (by omega)
  obtain ⟨g1, e1, q1, q2, q3, q4, q5, q6, q7⟩ := l20_lp ht T (if st then 1 else 0) (r + 1) 0 FU (uI (uI h 65 8 (if st then 1 else 0)) 65 5 (nI r)) (by omega) (FU_gt (by omega)) (s1.I 65 5 _ (by omega)) (hI_uI_s _ _ _ _) (by rw [hI_uI_n (by omega), hI_uI_s]) (fun k hk => absurd hk (by omega))
  have lay : f_X0_layRows (uI h 65 8 (if st then 1 else 0)) t = some g1 := by
    unfold f_X0_layRows
    rw [s1.1 (t + 1) (by omega), hr', if_neg (show ¬ (6 : Int32) < nI r by rw [show (6 : Int32) = nI 6 from rfl, nI_ltI (by omega) (by omega)]; omega), ltv_e]
    exact e1
  obtain ⟨b1, b2⟩ := q1.born ht
  obtain ⟨g2, eg2⟩ : ∃ g2, g2 = uI g1 65 6 (bornF h t) := ⟨_, rfl⟩
  obtain ⟨g3, eg3⟩ : ∃ g3, g3 = uI g2 65 7 (staysF h t) := ⟨_, rfl⟩
  have s2 : AS h g2 := by rw [eg2]; exact q1.I 65 6 _ (by omega)
  have s3 : AS h g3 := by rw [eg3]; exact s2.I 65 7 _ (by omega)
  have nn : ∀ b, b ≠ 65 → hI g3 b = hI g1 b := fun b hb => by rw [eg3, eg2, hI_uI_n' hb, hI_uI_n' hb]
  have C : cSx g3 w r j (bornF h t) (staysF h t) (tF h t r) (tAl h t r) (tX h t r) st := by
    refine ⟨by rw [nn 67 (by decide)]; exact q4, by rw [nn 67 (by decide)]; exact q5, by rw [nn 67 (by decide)]; exact q6, ?_, ?_, ?_, ?_, fun y hy => by rw [nn 69 (by decide), nn 70 (by decide), nn 71 (by decide)]; exact q7 y hy⟩
    · rw [eg3, eg2, hI_uI_n (by omega), hI_uI_n (by omega)]; exact q2
    · rw [eg3, eg2, hI_uI_n (by omega), hI_uI_s]
    · rw [eg3, hI_uI_s]
    · rw [eg3, eg2, hI_uI_n (by omega), hI_uI_n (by omega), q3]
      cases st <;> decide
  have r4 : ∀ q, AS h q → (hI q t 10).toInt ≤ 4 := fun q s => by rw [s.1 t (by omega)]; exact T.r4
  obtain ⟨f0, ef0⟩ : ∃ f0, f0 = rowI (hI g3 66) (fun _ => 0) 0 7168 := ⟨_, rfl⟩
  have w0 : rI g3 66 f0 = wy g3 (hI g3 68) f0 := by unfold wy; rw [rI_self]
  obtain ⟨u', f', e5, TB'⟩ := c44_e C (rw_ok T) t (hI g3 68) f0 (fun k hk => by rw [ef0]; unfold rowI; rw [if_pos ⟨Nat.zero_le _, by omega⟩])
  refine ⟨g3, u', f', ?_, s3, C, TB'⟩
  unfold f_X0_countWays f_X5_bornNow f_X5_staysNow
  rw [gdv_t a0]
  simp only [ltv_e]
  rw [lay, bd1_s, gdv_t (r4 g1 q1), bd2_s, b1]
  try simp only []
  rw [← eg2, gdv_t (r4 g2 s2), bd2_s, (s2.born ht).2]
  try simp only []
  rw [← eg3, show f_J7_fill_53178 g3 0 = some (rI g3 66 (rowI (hI g3 66) (fun _ => 0) 0 7168)) from rfl, bd1_s, ← ef0, w0, wy_n _ _ _ (by decide) (by decide), (C.2.2.2.2.2.2.2 0 (by omega)).1]
  exact e5
