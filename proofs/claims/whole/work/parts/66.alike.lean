/-! ===== alike: the company, a fraction in its lowest terms ===== -/
abbrev nJ (n : Nat) : Int64 := Int64.ofNat n
theorem nJ_t {n : Nat} (h : n < 2 ^ 31) : (nJ n).toInt = (n : Int) := by
  show (Int64.ofNat n).toInt = _
  rw [Int64.toInt_ofNat_of_lt (by omega)]
theorem nI_J {n : Nat} (h : n < 2 ^ 31) : (nI n).toInt64 = nJ n := by
  apply Int64.toInt_inj.mp
  rw [toInt64_toInt, nI_t h, nJ_t h]
theorem nJ_div {a b : Nat} (hb : 0 < b) (ha : a < 2 ^ 31) (hb2 : b < 2 ^ 31) : nJ a / nJ b = nJ (a / b) := by
  apply Int64.toInt_inj.mp
  have h1 : a / b < 2 ^ 31 := Nat.lt_of_le_of_lt (Nat.div_le_self a b) ha
  rw [Int64.toInt_div_of_ne_left]
  · rw [nJ_t ha, nJ_t hb2, nJ_t h1, ← Int.ofNat_tdiv]
  · intro e
    have := congrArg Int64.toInt e
    rw [nJ_t ha] at this
    have h2 : Int64.minValue.toInt = -9223372036854775808 := by decide
    omega
theorem nJ_mul (a b : Nat) : nJ a * nJ b = nJ (a * b) := (Int64.ofNat_mul a b).symm
theorem nJ_sub {a b : Nat} (h : b ≤ a) (ha : a < 2 ^ 31) : nJ a - nJ b = nJ (a - b) := by
  apply Int64.toInt_inj.mp
  rw [Int64.toInt_sub, Int.bmod_def, nJ_t ha, nJ_t (by omega), nJ_t (by omega)]
  split <;> omega
theorem nJ_rem {a b : Nat} (hb : 0 < b) (ha : a < 2 ^ 31) (hb2 : b < 2 ^ 31) : nJ a - nJ a / nJ b * nJ b = nJ (a % b) := by
  rw [nJ_div hb ha hb2, nJ_mul, nJ_sub (Nat.div_mul_le_self a b) ha]
  congr 1
  have := Nat.div_add_mod a b
  rw [Nat.mul_comm] at this; omega

theorem nI_z {k : Nat} (hk : k < 2 ^ 31) : nI k = 0 ↔ k = 0 := ⟨fun e => nI_inj hk (by omega) (e.trans (show (0 : Int32) = nI 0 from rfl)), fun e => by rw [e]; rfl⟩
theorem nJ_z {k : Nat} (hk : k < 2 ^ 31) : nJ k = 0 ↔ k = 0 := ⟨fun e => by have := congrArg Int64.toInt e; rw [nJ_t hk, show (0 : Int64).toInt = 0 from rfl] at this; omega, fun e => by rw [e]; rfl⟩
theorem cgcd_lp (h : HP) : ∀ b n a k, a < 2 ^ 31 → b + k < 64 → b < n → f_X11_commonDivisor_7 n (nI a) (nI b) (nI k) h = some (nI (Nat.gcd b a), h) := by
  intro b
  induction b using Nat.strongRecOn with
  | ind b ih =>
    intro n a k ha hk hn
    obtain ⟨n', rfl⟩ : ∃ n', n = n' + 1 := ⟨n - 1, by omega⟩
    unfold f_X11_commonDivisor_7
    rw [if_neg (by rw [show (64 : Int32) = nI 64 from rfl, nI_leI (by omega) (by omega)]; omega)]
    by_cases hb : b = 0
    · subst hb; rw [if_pos (show nI 0 = 0 from rfl), Nat.gcd_zero_left]
    · have hne : ¬ nI b = 0 := fun e => hb ((nI_z (by omega)).mp e)
      rw [if_neg hne, gdv_t hne]
      simp only [ltv_e]
      have hm : a % b < b := Nat.mod_lt _ (by omega)
      rw [nI_rem (by omega) ha (by omega), nI_1, ih (a % b) hm n' b (k + 1) (by omega) (by omega) (by omega), ← Nat.gcd_rec]
theorem mgcd_lp (h : HP) {N D : Nat} (hN : N < 2 ^ 31) (hD : D < 2 ^ 31) (hD0 : 0 < D) : ∀ b n a, a < 2 ^ 31 → b < 2 ^ 31 → b < n → Nat.gcd b a = Nat.gcd D N → f_X12_tellsBy_6 n (nJ N) (nJ D) (nJ a) (nJ b) h = some (1, uI (uL (uL h 113 3 (nJ (N / Nat.gcd D N))) 113 4 (nJ (D / Nat.gcd D N))) 113 2 0) := by
  have hg0 : 0 < Nat.gcd D N := Nat.gcd_pos_of_pos_left _ hD0
  have hgle : Nat.gcd D N ≤ D := Nat.gcd_le_left _ hD0
  intro b
  induction b using Nat.strongRecOn with
  | ind b ih =>
    intro n a ha hb31 hn hg
    obtain ⟨n', rfl⟩ : ∃ n', n = n' + 1 := ⟨n - 1, by omega⟩
    unfold f_X12_tellsBy_6
    have hz : lg_cmp (nJ b) 0 = 0 ↔ b = 0 := by
      have h1 : (lg_cmp (nJ b) 0 ≤ 0) ↔ b = 0 := by rw [lgc_le, nJ_t hb31, show (0 : Int64).toInt = 0 from rfl]; omega
      have h2 : ¬ lg_cmp (nJ b) 0 < 0 := by rw [lgc_lt, nJ_t hb31, show (0 : Int64).toInt = 0 from rfl]; omega
      constructor
      · intro e; exact h1.mp (by rw [e]; decide)
      · intro e
        have h3 := h1.mpr e
        apply Int32.toInt_inj.mp
        rw [Int32.le_iff_toInt_le] at h3
        rw [Int32.lt_iff_toInt_lt] at h2
        omega
    by_cases hb : b = 0
    · rw [if_pos (hz.mpr hb)]
      rw [hb, Nat.gcd_zero_left] at hg
      have hne : ¬ nJ a = 0 := fun e => by have := (nJ_z ha).mp e; omega
      rw [gdv_t hne]
      simp only [ltv_e]
      rw [gdv_t hne, is0_e, bd2_s, gdv_t is01_1, nJ_div (by omega) hN ha, nJ_div (by omega) hD ha, hg]
    · rw [if_neg (fun e => hb (hz.mp e))]
      have hne : ¬ nJ b = 0 := fun e => hb ((nJ_z hb31).mp e)
      rw [gdv_t hne]
      simp only [ltv_e]
      have hm : a % b < b := Nat.mod_lt _ (by omega)
      rw [nJ_rem (by omega) ha hb31]
      exact ih (a % b) hm n' b (by omega) (by omega) (by omega) (by rw [← Nat.gcd_rec]; exact hg)
/-- a fraction told by both -/
theorem ctell_e (h : HP) {N D : Nat} (hN : N < 2 ^ 31) (hD : D < 60) (hD0 : 0 < D) : f_X11_tellFraction h (nI N) (nI D) = some (uL (uL h 0 12 (nJ (N / Nat.gcd D N))) 0 13 (nJ (D / Nat.gcd D N))) := by
  have hg0 : 0 < Nat.gcd D N := Nat.gcd_pos_of_pos_left _ hD0
  have hgle : Nat.gcd D N ≤ D := Nat.gcd_le_left _ hD0
  have hq : N / Nat.gcd D N ≤ N := Nat.div_le_self _ _
  have hq2 : D / Nat.gcd D N ≤ D := Nat.div_le_self _ _
  unfold f_X11_tellFraction f_X11_commonDivisor
  have key := cgcd_lp h D FU N 0 hN (by omega) (by have := FU_gt (d := D) (by omega); omega)
  rw [show nI 0 = 0 from rfl] at key
  rw [key, bd2_s, if_neg (by rw [show (0 : Int32) = nI 0 from rfl, nI_leI (by omega) (by omega)]; omega)]
  have hne : ¬ nI (Nat.gcd D N) = 0 := fun e => by have := (nI_z (by omega)).mp e; omega
  rw [gdv_t hne]
  simp only [ltv_e]
  rw [gdv_t hne, nI_div hg0 hN (by omega), nI_div hg0 (by omega) (by omega), nI_J (by omega), nI_J (by omega)]
theorem mtell_e (h : HP) {N D : Nat} (hN : N < 2 ^ 31) (hD : D < 60) (hD0 : 0 < D) : f_X12_tellsBy h (nI N).toInt64 (nI D).toInt64 = some (1, uI (uL (uL h 113 3 (nJ (N / Nat.gcd D N))) 113 4 (nJ (D / Nat.gcd D N))) 113 2 0) := by
  unfold f_X12_tellsBy
  rw [nI_J hN, nI_J (by omega)]
  exact mgcd_lp h hN (by omega) hD0 D FU N hN (by omega) (by have := FU_gt (d := D) (by omega); omega) rfl
/-- the lit neighbours of all lit lamps, up to k -/
def coN (w : Nat) (j : Bool) (x : Int32) : Nat → Nat
  | 0 => 0
  | k + 1 => coN w j x k + (if bt x k then nbC w j (bt x) k else 0)
theorem coN_le (w : Nat) (j : Bool) (x : Int32) : ∀ k, coN w j x k ≤ 4 * k
  | 0 => by rw [coN]; omega
  | k + 1 => by
    have := coN_le w j x k
    have := nbC_le w j (bt x) k
    rw [coN]; split <;> omega
/-- the class's sum, set by set -/
theorem co_sets {f : Nat → Int32} {w r : Nat} {j : Bool} (H : HillOK f w r j) {x : Int32} (hx : ∀ i, i < 32 → bt x i = true → i < w * r) : pc (litF f x 1 &&& x) + 2 * pc (litF f x 2 &&& x) + 3 * pc (litF f x 3 &&& x) + 4 * pc (litF f x 4 &&& x) = coN w j x 32 := by
  have h30 := wr_le H.1.2.1 H.2.1.2
  have key : ∀ k, k ≤ 32 → fb_ct (bt (litF f x 1 &&& x)) k + 2 * fb_ct (bt (litF f x 2 &&& x)) k + 3 * fb_ct (bt (litF f x 3 &&& x)) k + 4 * fb_ct (bt (litF f x 4 &&& x)) k = coN w j x k := by
    intro k
    induction k with
    | zero => intro _; rfl
    | succ k ih =>
      intro hk
      have ih := ih (by omega)
      rw [fb_ct_succ, fb_ct_succ, fb_ct_succ, fb_ct_succ, coN]
      cases hX : bt x k
      · have z : ∀ m, bt (litF f x m &&& x) k = false := fun m => by rw [b_and, hX, Bool.and_false]
        rw [z 1, z 2, z 3, z 4]; simp only [Bool.false_eq_true, if_false]; omega
      · have hp := hx k (by omega) hX
        have z : ∀ m, m < 5 → bt (litF f x m &&& x) k = decide (nbC w j (bt x) k = m) := fun m hm => by rw [b_and, hX, Bool.and_true, lit_b H hx hp hm]
        rw [z 1 (by decide), z 2 (by decide), z 3 (by decide), z 4 (by decide), if_pos rfl]
        have hc := nbC_le w j (bt x) k
        generalize nbC w j (bt x) k = c at hc ⊢
        rcases (show c = 0 ∨ c = 1 ∨ c = 2 ∨ c = 3 ∨ c = 4 by omega) with rfl | rfl | rfl | rfl | rfl <;> simp <;> omega
  exact key 32 (by omega)
theorem co_out {w r : Nat} {j : Bool} {x : Int32} (hx : ∀ i, i < 32 → bt x i = true → i < w * r) : ∀ d, w * r + d ≤ 32 → coN w j x (w * r + d) = coN w j x (w * r)
  | 0, _ => rfl
  | d + 1, hd => by
    have : bt x (w * r + d) = false := by
      cases q : bt x (w * r + d)
      · rfl
      · have := hx _ (by omega) q; omega
    rw [show w * r + (d + 1) = (w * r + d) + 1 by omega, coN, this]
    exact co_out hx d (by omega)
theorem mco_lp (h : HP) {w r : Nat} {j : Bool} (w1 : 1 ≤ w) (w5 : w ≤ 5) (r6 : r ≤ 6) (hw : hI h 114 0 = nI w) (hr : hI h 114 1 = nI r) (hj : j = true → 2 < w) (ln : LN h w r j) (hH : ∀ i, i < 32 → bt (hI h 114 3) i = true → bt (hI h 114 2) i = true) (hP : ∀ i, i < 32 → bt (hI h 114 3) i = true → i < w * r) :
    ∀ d k n, k + d = w * r → d < n → f_X12_company_24 n (nI (coN w j (hI h 114 3) k)) (nI k) h = bd2 (f_X12_tellsBy h (nI (coN w j (hI h 114 3) (w * r))).toInt64 (nI (pc (hI h 114 3))).toInt64) (fun r g => gdv (is01 r) (some (r, g)))
  | d, k, 0, _, z => absurd z (by omega)
  | 0, k, n + 1, e, _ => by
    have h30 := wr_le w5 r6
    unfold f_X12_company_24
    rw [places_e h hw hr, bd2_s, if_pos (by rw [nI_leI (by omega) (by omega)]; omega), bits_e, bd2_s, show k = w * r by omega]
  | d + 1, k, n + 1, e, z => by
    have h30 := wr_le w5 r6
    have key := mco_lp h w1 w5 r6 hw hr hj ln hH hP d (k + 1) n (by omega) (by omega)
    unfold f_X12_company_24
    rw [places_e h hw hr, bd2_s, if_neg (by rw [nI_leI (by omega) (by omega)]; omega), shr1 (by omega)]
    rw [coN] at key
    cases hX : bt (hI h 114 3) k
    · rw [hX] at key
      rw [if_neg (show ¬ bI false = 1 by decide), Int32.add_zero]
      simp only [ltv_e, nI_1]
      exact key
    · rw [hX, if_pos rfl] at key
      rw [if_pos (show bI true = 1 from rfl), gdi_nI (by omega) (by decide), nI_clamp (by omega), ln k (by omega), bits_e, bd2_s, near_ct w1 w5 r6 hj hH hP (by omega), nI_add]
      simp only [ltv_e, nI_1]
      exact key

/-- top and bottom told anew, beside scratch -/
theorem Inv.frac {h h' : HP} {t u : Nat} (I : Inv h t u) (sr : SR h h') (E : ∀ b k, relI t b k → hI h' b k = hI h b k) (L : ∀ b k, relL t b k → ¬ (b = 0 ∧ (k = 12 ∨ k = 13)) → ¬ (b = 113 ∧ (k = 3 ∨ k = 4)) → hL h' b k = hL h b k) (e : hI h' 0 11 = hI h' 113 2) (e1 : hL h' 0 12 = hL h' 113 3) (e2 : hL h' 0 13 = hL h' 113 4) : Inv h' t u := by
  have ht := I.t
  have I0 := I
  obtain ⟨-, i6, i7, i8, i9, i10, i11, i12⟩ := I0
  refine I.re sr ⟨e, e1, e2⟩ (i7.k (fun b k q => E b k (by unfold cnTr at q; unfold relI; omega)) (fun b k q => L b k (by unfold relL; omega) (by omega) (by omega))) (i8.k fun b k q => E b k (by unfold cnTk at q; unfold relI; omega)) (i9.k fun b k q => E b k (by unfold cnLv at q; unfold relI; omega)) (i10.k fun k => L 7 k (by unfold relL; omega) (by omega) (by omega)) ?_ ?_
  · refine i11.k (fun b k q => E b k ?_) (fun b k q => L b k ?_ (by omega) (by omega))
    · have z := (cnT_b ht q)
      have : inT t b k ∨ (b = 114 ∧ k < 1640) := by
        rcases q with q | q | q | q
        · unfold cnH at q; unfold inT; omega
        · unfold cnR at q; unfold inT; omega
        · unfold cnS at q; unfold inT; omega
        · unfold cnY at q; unfold inT; omega
      rcases this with q2 | q2
      · unfold relI; exact Or.inr (Or.inr (Or.inr (Or.inr (Or.inr (Or.inr (Or.inl (Or.inl q2)))))))
      · unfold relI; exact Or.inr (Or.inr (Or.inr (Or.inr (Or.inr (Or.inr (Or.inr (Or.inr (Or.inl q2))))))))
    · unfold relL inTL; omega
  · obtain ⟨n, n1, n2, n3, n4⟩ := i12
    refine ⟨n, n1, (E 0 10 (by unfold relI; omega)).trans n2, (E 113 38 (by unfold relI; omega)).trans n3, fun i hi => (n4 i hi).same ⟨fun a j q => E a j ?_, fun a q => funext fun j => L a j ?_ ?_ ?_, fun j h1 h2 => E 114 j ?_, fun j h1 h2 => L 115 j ?_ (by omega) (by omega)⟩⟩
    · unfold relI; refine Or.inr (Or.inr (Or.inr (Or.inr (Or.inr (Or.inr (Or.inl (Or.inr ?_)))))))
      rcases (show i = 0 ∨ i = 1 ∨ i = 2 by omega) with rfl | rfl | rfl
      · exact Or.inl q
      · exact Or.inr (Or.inl q)
      · exact Or.inr (Or.inr q)
    · unfold inTL at q; unfold relL inTL; omega
    · unfold inTL at q; omega
    · unfold inTL at q; omega
    · unfold relI; omega
    · unfold relL; omega
theorem cco_e {h g : HP} {t : Nat} {x : Int32} (hg : ∀ m, m < 5 → hI g (t + 1 + 1) m = litF (hI h (t + 1)) x m) : f_X11_company_34 t FU x 0 1 g = bd1 (f_X11_tellFraction g (nI (pc (litF (hI h (t + 1)) x 1 &&& x) + 2 * pc (litF (hI h (t + 1)) x 2 &&& x) + 3 * pc (litF (hI h (t + 1)) x 3 &&& x) + 4 * pc (litF (hI h (t + 1)) x 4 &&& x))) (nI (pc x))) (fun g' => some (1, uI g' 0 11 0)) := by
  obtain ⟨n, hn⟩ : ∃ n, FU = n + 5 := ⟨999995, rfl⟩
  have st : ∀ n (s : Nat) m, 1 ≤ m → m < 5 → f_X11_company_34 t (n + 1) x (nI s) (nI m) g = f_X11_company_34 t n x (nI (s + m * pc (litF (hI h (t + 1)) x m &&& x))) (nI (m + 1)) g := fun n s m h1 h2 => by
    rw [f_X11_company_34]
    rw [if_neg (by rw [show (5 : Int32) = nI 5 from rfl, nI_leI (by omega) (by omega)]; omega), gdi_nI h2 (by decide), nI_clamp (by omega), hg m h2]
    unfold f_J6_bitCount_0f7a4
    rw [bd2_s, nI_mul, nI_add]
    simp only [ltv_e, nI_1]
  have e0 : f_X11_company_34 t (n + 5) x (nI 0) (nI 1) g = _ := st (n + 4) 0 1 (by decide) (by decide)
  rw [hn]
  refine e0.trans ?_
  rw [st (n + 3) _ 2 (by decide) (by decide), st (n + 2) _ 3 (by decide) (by decide), st (n + 1) _ 4 (by decide) (by decide), f_X11_company_34, if_pos (by decide)]
  unfold f_J6_bitCount_0f7a4
  rw [bd2_s, Nat.zero_add, Nat.one_mul]
  simp only [alw_e, bd2_s, gdv_t is01_1]
theorem pc_pos {x : Int32} (h : x ≠ 0) : 0 < pc x := by have := pc_clear h; omega
theorem op_company {h : HP} {t u : Nat} (I : Inv h t u) : Op t u (f_X11_company h t) (fun g => f_X12_company g) := by
  have ht := I.t
  obtain ⟨w, r, m, c, j, T⟩ := I.tw
  have T0 := T
  obtain ⟨qH, qR, H, j1, j2⟩ := T0
  obtain ⟨⟨w1, w5, hw, hw'⟩, ⟨r1, r6, hr, hr'⟩, -, -, ⟨h4, h5⟩, h6, h7⟩ := qH.n
  have h30 := wr_le w5 r6
  unfold f_X11_company
  simp only [ltv_e]
  rw [h5]
  by_cases h0 : hI h 114 3 = 0
  · rw [if_pos h0]
    refine op_st I (v := 6) (r := 0) ?_ ?_
    · rw [dny_e, bd2_s, gdv_t is01_0]
    · show f_X12_company _ = _
      unfold f_X12_company
      rw [hI_st h 6 (by decide), if_pos h0, is1_e _ (by decide), bd2_s, gdv_t is01_0]
  · rw [if_neg h0]
    unfold f_X1_countLit
    rw [bd1_s]
    obtain ⟨f', e⟩ : ∃ f', f' = litRow (hI h (t + 1 + 1)) (hI h (t + 1)) (hI h 114 3) := ⟨_, rfl⟩
    have elit : litH h (t + 1) (hI h 114 3) = scr h t f' := by rw [e]; rfl
    rw [elit]
    have hg : ∀ m, m < 5 → hI (scr h t f') (t + 1 + 1) m = litF (hI h (t + 1)) (hI h 114 3) m := fun m hm => by
      unfold scr; rw [hI_rI_s, e]; unfold litRow; rw [if_pos hm]
    have hx : ∀ i, i < 32 → bt (hI h 114 3) i = true → i < w * r := inH_P qH (fun i hi b => (h7 i hi).2.1 b)
    have hpc := pc_30 T T.pic
    have hpos := pc_pos h0
    have hco : coN w j (hI h 114 3) 32 = coN w j (hI h 114 3) (w * r) := by
      have := co_out (j := j) hx (32 - w * r) (by omega)
      rw [show w * r + (32 - w * r) = 32 by omega] at this; exact this
    have hcle := coN_le w j (hI h 114 3) (w * r)
    obtain ⟨A, eA⟩ : ∃ A, A = nJ (coN w j (hI h 114 3) (w * r) / Nat.gcd (pc (hI h 114 3)) (coN w j (hI h 114 3) (w * r))) := ⟨_, rfl⟩
    obtain ⟨B, eB⟩ : ∃ B, B = nJ (pc (hI h 114 3) / Nat.gcd (pc (hI h 114 3)) (coN w j (hI h 114 3) (w * r))) := ⟨_, rfl⟩
    rw [cco_e hg, co_sets H hx, hco, ctell_e _ (by omega) (by omega) hpos, bd1_s, ← eA, ← eB]
    obtain ⟨g1, eg1⟩ : ∃ g1, g1 = uI (uL (uL (scr h t f') 0 12 A) 0 13 B) 0 11 0 := ⟨_, rfl⟩
    have G1 : ∀ b k, b ≠ t + 1 + 1 → (b ≠ 0 ∨ k ≠ 11) → hI g1 b k = hI h b k := fun b k q1 q2 => by rw [eg1, hI_uI_n q2, hI_uL, hI_uL, scr_I _ _ _ q1]
    have sm : SmN h g1 := fun k _ => G1 114 k (by omega) (by omega)
    rw [← eg1]
    obtain ⟨g2, eg2⟩ : ∃ g2, g2 = uI (uL (uL (lnH g1 w r j) 113 3 A) 113 4 B) 113 2 0 := ⟨_, rfl⟩
    refine ⟨1, g1, g2, rfl, ?_, ?_⟩
    · show f_X12_company g1 = _
      unfold f_X12_company
      rw [sm 3 (by omega), if_neg h0, T.ln sm, bd1_s]
      have sm2 := sm.ln w r j
      have key := mco_lp (lnH g1 w r j) w1 w5 r6 (by rw [sm2 0 (by omega)]; exact hw) (by rw [sm2 1 (by omega)]; exact hr) j2 (lnH_LN _ w r j) (by rw [sm2 2 (by omega), sm2 3 (by omega)]; exact fun i hi b => (h7 i hi).2.1 b) (by rw [sm2 3 (by omega)]; exact hx) (w * r) 0 FU (by omega) (FU_gt (by omega))
      rw [sm2 3 (by omega), mtell_e _ (by omega) (by omega) hpos, bd2_s, gdv_t is01_1, ← eA, ← eB, ← eg2] at key
      exact key
    · have G2 : ∀ b k, b ≠ t + 1 + 1 → b ≠ 122 → (b ≠ 0 ∨ k ≠ 11) → (b ≠ 113 ∨ k ≠ 2) → hI g2 b k = hI h b k := fun b k q1 q2 q3 q4 => by
        rw [eg2, hI_uI_n q4, hI_uL, hI_uL, lnH_I _ _ _ _ q2]; exact G1 b k q1 q3
      refine I.frac (h := h) ⟨by rw [eg2, eg1]; rfl, by rw [eg2, eg1]; rfl⟩ (fun b k q => G2 b k (by unfold relI inT at q; omega) (by unfold relI inT at q; omega) (by unfold relI inT at q; omega) (by unfold relI inT at q; omega)) (fun b k q n1 n2 => ?_) ?_ ?_ ?_
      · rw [eg2, hL_uI, hL_uL_n (by omega), hL_uL_n (by omega), show hL (lnH g1 w r j) = hL g1 from rfl, eg1, hL_uI, hL_uL_n (by omega), hL_uL_n (by omega)]; rfl
      · rw [eg2, hI_uI_s, hI_uI_n (by decide), hI_uL, hI_uL, lnH_I _ _ _ _ (by decide), eg1, hI_uI_s]
      · rw [eg2, hL_uI, hL_uL_n (by decide), hL_uL_n (by decide), hL_uL_n (by decide), hL_uL_s, show hL (lnH g1 w r j) = hL g1 from rfl, eg1, hL_uI, hL_uL_n (by decide), hL_uL_s]
      · rw [eg2, hL_uI, hL_uL_n (by decide), hL_uL_n (by decide), hL_uL_s, show hL (lnH g1 w r j) = hL g1 from rfl, eg1, hL_uI, hL_uL_s]
