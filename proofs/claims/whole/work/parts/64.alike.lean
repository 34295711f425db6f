/-! ===== alike: what would be new to see ===== -/
theorem or_bI {x : Int32} {k : Nat} (hk : k < 32) {i : Nat} (hi : i < 32) : bt (x ||| bitI k) i = (bt x i || decide (i = k)) := by rw [b_or, bitI_b hk hi]
/-- the class of a place: its lamp and its lit neighbours -/
def clsN (w : Nat) (j : Bool) (x : Int32) (k : Nat) : Nat := 5 * b2 (bt x k) + nbC w j (bt x) k
theorem cls_10 (w : Nat) (j : Bool) (x : Int32) (k : Nat) : clsN w j x k < 10 := by
  have := nbC_le w j (bt x) k
  have h2 : b2 (bt x k) ≤ 1 := by cases bt x k <;> decide
  unfold clsN; omega
theorem bI_b2 (b : Bool) : bI b = nI (b2 b) := by cases b <;> rfl
theorem mshow_lp (h : HP) {w r : Nat} {j : Bool} (w1 : 1 ≤ w) (w5 : w ≤ 5) (r6 : r ≤ 6) (hw : hI h 114 0 = nI w) (hr : hI h 114 1 = nI r) (hj : j = true → 2 < w) (ln : LN h w r j) (hH : ∀ i, i < 32 → bt (hI h 114 3) i = true → bt (hI h 114 2) i = true) (hP : ∀ i, i < 32 → bt (hI h 114 3) i = true → i < w * r) :
    ∀ d k n, k + d = w * r → d < n → ∀ s : Int32, (∀ v, v < 32 → (bt s v = true ↔ (v < 10 ∧ hI h 114 (32 + v) = 0 ∧ ∃ i, i < k ∧ bt (hI h 114 2 &&& (hI h 114 4 ^^^ -1)) i = true ∧ clsN w j (hI h 114 3) i = v))) →
    ∃ s' : Int32, f_X12_shows_8 n s (nI k) h = some (nI (pc s'), uI h 113 2 0) ∧ (∀ v, v < 32 → (bt s' v = true ↔ (v < 10 ∧ hI h 114 (32 + v) = 0 ∧ ∃ i, i < w * r ∧ bt (hI h 114 2 &&& (hI h 114 4 ^^^ -1)) i = true ∧ clsN w j (hI h 114 3) i = v)))
  | d, k, 0, _, z, _, _ => absurd z (by omega)
  | 0, k, n + 1, e, _, s, hs => by
    have h30 := wr_le w5 r6
    refine ⟨s, ?_, ?_⟩
    · unfold f_X12_shows_8
      rw [places_e h hw hr, bd2_s, if_pos (by rw [nI_leI (by omega) (by omega)]; omega), bits_e, bd2_s, giv_e, bd2_s]
    · rw [← show k = w * r by omega]; exact hs
  | d + 1, k, n + 1, e, z, s, hs => by
    have h30 := wr_le w5 r6
    obtain ⟨F, eF⟩ : ∃ F, F = hI h 114 2 &&& (hI h 114 4 ^^^ -1) := ⟨_, rfl⟩
    have ih := fun s' hs' => mshow_lp h w1 w5 r6 hw hr hj ln hH hP d (k + 1) n (by omega) (by omega) s' hs'
    rw [← eF] at hs ih ⊢
    have grow : ∀ v, (∃ i, i < k + 1 ∧ bt F i = true ∧ clsN w j (hI h 114 3) i = v) ↔ ((∃ i, i < k ∧ bt F i = true ∧ clsN w j (hI h 114 3) i = v) ∨ (bt F k = true ∧ clsN w j (hI h 114 3) k = v)) := fun v => by
      constructor
      · rintro ⟨i, h1, h2, h3⟩
        by_cases q : i = k
        · rw [q] at h2 h3; exact Or.inr ⟨h2, h3⟩
        · exact Or.inl ⟨i, by omega, h2, h3⟩
      · rintro (⟨i, h1, h2, h3⟩ | ⟨h2, h3⟩)
        · exact ⟨i, by omega, h2, h3⟩
        · exact ⟨k, by omega, h2, h3⟩
    unfold f_X12_shows_8
    rw [places_e h hw hr, bd2_s, if_neg (by rw [nI_leI (by omega) (by omega)]; omega), freeM_e, bd2_s, ← eF, shr1 (by omega)]
    cases hF : bt F k
    · rw [if_pos (show bI false = 0 from rfl)]
      simp only [ltv_e, nI_1]
      refine ih s (fun v hv => ?_)
      rw [hs v hv, grow v, hF]; simp
    · have hc := cls_10 w j (hI h 114 3) k
      rw [if_neg (show ¬ bI true = 0 by decide), gdi_nI (by omega) (by decide), nI_clamp (by omega), ln k (by omega), bits_e, bd2_s, near_ct w1 w5 r6 hj hH hP (by omega), shr1 (by omega), bI_b2, show (5 : Int32) = nI 5 from rfl, nI_mul, nI_add]
      simp only [ltv_e]
      rw [show 5 * b2 (bt (hI h 114 3) k) + nbC w j (bt (hI h 114 3)) k = clsN w j (hI h 114 3) k from rfl, i32p, gdi_nI (by omega) (by decide), nI_clamp (by omega), nI_1]
      by_cases q : hI h 114 (32 + clsN w j (hI h 114 3) k) = 0
      · rw [if_pos q]
        refine ih _ (fun v hv => ?_)
        rw [show (1 : Int32) <<< (nI (clsN w j (hI h 114 3) k) &&& 31) = bitI (clsN w j (hI h 114 3) k) from rfl, or_bI (by omega) hv, Bool.or_eq_true, hs v hv, grow v, decide_eq_true_eq]
        constructor
        · rintro (⟨a, b, c⟩ | c)
          · exact ⟨a, b, Or.inl c⟩
          · rw [c]; exact ⟨hc, q, Or.inr ⟨hF, rfl⟩⟩
        · rintro ⟨a, b, c | ⟨-, c⟩⟩
          · exact Or.inl ⟨a, b, c⟩
          · exact Or.inr c.symm
      · rw [if_neg q, or0]
        refine ih s (fun v hv => ?_)
        rw [hs v hv, grow v]
        constructor
        · rintro ⟨a, b, c⟩; exact ⟨a, b, Or.inl c⟩
        · rintro ⟨a, b, c | ⟨-, c⟩⟩
          · exact ⟨a, b, c⟩
          · rw [← c] at b; exact absurd b q
theorem none_b {x : Int32} : x = 0 ↔ ∀ i, i < 32 → bt x i = false :=
  ⟨fun e i hi => by rw [e, b_0], fun q => b_ext (fun i hi => by rw [q i hi, b_0])⟩
theorem op_shows {h : HP} {t u : Nat} (I : Inv h t u) : Op t u (f_X11_shows h t) (fun g => f_X12_shows g) := by
  have ht := I.t
  obtain ⟨w, r, m, c, j, T⟩ := I.tw
  obtain ⟨w', r', m', c', -, -, qS, -⟩ := I.tn
  have T0 := T
  obtain ⟨qH, qR, H, j1, j2⟩ := T0
  obtain ⟨⟨w1, w5, hw, hw'⟩, ⟨r1, r6, hr, hr'⟩, -, -, ⟨h4, h5⟩, h6, h7⟩ := qH.n
  have h30 := wr_le w5 r6
  obtain ⟨f', e⟩ : ∃ f', litH h (t + 1) (hI h t 13) = scr h t f' := ⟨_, rfl⟩
  have sm := SmN.sc (h := h) ht f' 0
  obtain ⟨g, eg⟩ : ∃ g, g = lnH (uI (scr h t f') 0 11 0) w r j := ⟨_, rfl⟩
  have Eg : ∀ k, hI g 114 k = hI h 114 k := fun k => by rw [eg, lnH_I _ _ _ _ (by decide), hI_uI_n (by omega), scr_I _ _ _ (by omega)]
  obtain ⟨s, es, hs⟩ := mshow_lp g w1 w5 r6 (by rw [Eg]; exact hw) (by rw [Eg]; exact hr) j2 (by rw [eg]; exact lnH_LN _ w r j) (by rw [Eg, Eg]; exact fun i hi b => (h7 i hi).2.1 b) (by rw [Eg]; exact inH_P qH (fun i hi b => (h7 i hi).2.1 b)) (w * r) 0 FU (by omega) (FU_gt (by omega)) 0 (fun v hv => by rw [b_0]; simp)
  have hs10 : ∀ v, v < 10 → (bt s v = true ↔ (hI h (t + 15) v = 0 ∧ ∃ i, i < w * r ∧ bt (hI h (t + 1) 5) i = true ∧ clsN w j (hI h 114 3) i = v)) := fun v hv => by
    rw [hs v (by omega), Eg, Eg, Eg, Eg, (qS.n.2 v hv).1]
    rw [← free_e qH]
    simp [hv]
  have pcs : pc s = fb_ct (bt s) 10 := by
    unfold pc
    rw [show 32 = 10 + 22 from rfl, fb_ct_split]
    have : fb_ct (fun k => bt s (10 + k)) 22 = 0 := by
      refine fb_ct_zero.mpr (fun k hk => ?_)
      cases q : bt s (10 + k)
      · rfl
      · have := ((hs (10 + k) (by omega)).mp q).1; omega
    omega
  have hx := inH_P qH (fun i hi b => (h7 i hi).2.1 b : inH h (hI h 114 3))
  have L : ∀ m, m < 5 → (¬ (litF (hI h (t + 1)) (hI h 114 3) m &&& hI h (t + 1) 5) &&& (hI h 114 3 ^^^ -1) = 0 ↔ ∃ i, i < w * r ∧ bt (hI h (t + 1) 5) i = true ∧ clsN w j (hI h 114 3) i = m) := fun m hm => by
    rw [none_b]
    constructor
    · intro q
      refine Decidable.byContradiction fun no => q (fun i hi => ?_)
      rw [b_and, b_and, b_xor, b_m1 i hi]
      cases hF : bt (hI h (t + 1) 5) i
      · simp
      · have hip := free_P qH i hi hF
        rw [lit_b H hx hip hm]
        cases hX : bt (hI h 114 3) i
        · by_cases hc : nbC w j (bt (hI h 114 3)) i = m
          · exact absurd ⟨i, hip, hF, by unfold clsN; rw [hX]; simp [b2, hc]⟩ no
          · rw [decide_eq_false hc]; simp
        · simp
    · rintro ⟨i, hip, hF, hc⟩ q
      have q := q i (by omega)
      have hX : bt (hI h 114 3) i = false := by
        cases hX : bt (hI h 114 3) i
        · rfl
        · unfold clsN at hc; rw [hX] at hc; simp only [b2, if_true] at hc; omega
      rw [b_and, b_and, b_xor, b_m1 i (by omega), hF, lit_b H hx hip hm, hX, decide_eq_true (by unfold clsN at hc; rw [hX] at hc; simpa [b2] using hc)] at q
      simp at q
  have U : ∀ m, m < 5 → (¬ (litF (hI h (t + 1)) (hI h 114 3) m &&& hI h (t + 1) 5) &&& hI h 114 3 = 0 ↔ ∃ i, i < w * r ∧ bt (hI h (t + 1) 5) i = true ∧ clsN w j (hI h 114 3) i = 5 + m) := fun m hm => by
    rw [none_b]
    constructor
    · intro q
      refine Decidable.byContradiction fun no => q (fun i hi => ?_)
      rw [b_and, b_and]
      cases hF : bt (hI h (t + 1) 5) i
      · simp
      · have hip := free_P qH i hi hF
        rw [lit_b H hx hip hm]
        cases hX : bt (hI h 114 3) i
        · simp
        · by_cases hc : nbC w j (bt (hI h 114 3)) i = m
          · exact absurd ⟨i, hip, hF, by unfold clsN; rw [hX]; simp only [b2, if_true]; omega⟩ no
          · rw [decide_eq_false hc]; simp
    · rintro ⟨i, hip, hF, hc⟩ q
      have q := q i (by omega)
      have hle := nbC_le w j (bt (hI h 114 3)) i
      have hX : bt (hI h 114 3) i = true := by
        cases hX : bt (hI h 114 3) i
        · unfold clsN at hc; rw [hX] at hc; simp [b2] at hc; omega
        · rfl
      rw [b_and, b_and, hF, lit_b H hx hip hm, hX, decide_eq_true (by unfold clsN at hc; rw [hX] at hc; simp only [b2, if_true] at hc; omega)] at q
      simp at q
  have one : ∀ (P : Prop) [Decidable P] v, (P ↔ bt s v = true) → (if P then (1 : Int32) else 0) = nI (b2 (bt s v)) := fun P _ v hP => by
    by_cases p : P
    · rw [if_pos p, hP.mp p]; rfl
    · rw [if_neg p]
      cases q : bt s v
      · rfl
      · exact absurd (hP.mpr q) p
  have nw : ∀ m, m ≤ 5 → newN (hI h (t + 1)) (hI h (t + 15)) (hI h 114 3) m = nI (fb_ct (bt s) m + fb_ct (fun k => bt s (5 + k)) m) := by
    intro m
    induction m with
    | zero => intro _; rfl
    | succ m ih =>
      intro hm
      rw [newN, ih (by omega), one _ m (by rw [hs10 m (by omega), L m (by omega)]), one _ (5 + m) (by rw [hs10 (5 + m) (by omega), U m (by omega)]), nI_add, nI_add, fb_ct_succ, fb_ct_succ]
      congr 1
      unfold b2; omega
  have fin : newN (hI h (t + 1)) (hI h (t + 15)) (hI h 114 3) 5 = nI (pc s) := by
    rw [nw 5 (by omega), pcs, show 10 = 5 + 5 from rfl, fb_ct_split]
  refine op_sc I (g1 := scr h t f') (g2 := g) (v := 0) (r := nI (pc s)) ?_ ((Sm.refl t h).scr ht f') ?_ (by rw [eg]; exact (Sm.refl _ _).ln ht w r j) (by rw [eg, lnH_I _ _ _ _ (by decide), hI_uI_s])
  · unfold f_X11_shows f_X5_countNewToSee
    rw [bd2_s, e, T.pic0, fin, ans_e, bd2_s]
  · show f_X12_shows _ = _
    unfold f_X12_shows
    rw [T.ln sm, bd1_s, ← eg]; exact es
