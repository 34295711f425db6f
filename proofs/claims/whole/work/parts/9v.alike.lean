/-! ===== a row is read ===== -/
/-- the letters k .. k + d of the row are added -/
def addsG : Nat → Nat → HP → Nat → Int32 → HP
  | 0, _, h, _, _ => h
  | d + 1, k, h, t, a => addsG d (k + 1) (addHH h t (shl 1 (a + nI k)) (letAt h k)) t a
theorem addHH_tok (h : HP) {u : Nat} (hu : u = 79 ∨ u = 96) (B v : Int32) : (∀ c, c < 13 → hI (addHH h u B v) c = hI h c) ∧ hL (addHH h u B v) = hL h ∧ CW u h (addHH h u B v) := by
  have q : ∀ (g : HP) (c j : Nat) (x : Int32), c = u ∨ c = u + 1 → (∀ d, d < 13 → hI (uI g c j x) d = hI g d) ∧ hL (uI g c j x) = hL g ∧ CW u g (uI g c j x) := fun g c j x hc => ⟨fun d hd => hI_uI_n' (by omega), rfl, (CW.refl u g).uI j x (by omega) (by omega)⟩
  have r : ∀ g : HP, (∀ d, d < 13 → hI g d = hI g d) ∧ hL g = hL g ∧ CW u g g := fun g => ⟨fun _ _ => rfl, rfl, CW.refl u g⟩
  have t : ∀ {x y z : HP}, ((∀ d, d < 13 → hI y d = hI x d) ∧ hL y = hL x ∧ CW u x y) → ((∀ d, d < 13 → hI z d = hI y d) ∧ hL z = hL y ∧ CW u y z) → ((∀ d, d < 13 → hI z d = hI x d) ∧ hL z = hL x ∧ CW u x z) := fun p q => ⟨fun d hd => (q.1 d hd).trans (p.1 d hd), q.2.1.trans p.2.1, p.2.2.trans q.2.2⟩
  unfold addHH
  refine t (y := addH3 (addH2 (addH1 h u B v) u B v) u B v) (t (y := addH2 (addH1 h u B v) u B v) (t (y := addH1 h u B v) ?_ ?_) ?_) ?_
  · unfold addH1; split
    · exact r _
    · exact q _ _ _ _ (Or.inr rfl)
  · unfold addH2; split
    · exact q _ _ _ _ (Or.inr rfl)
    · exact r _
  · unfold addH3; split
    · exact q _ _ _ _ (Or.inr rfl)
    · exact r _
  · unfold addH4; split
    · exact q _ _ _ _ (Or.inl rfl)
    · exact r _
theorem letAt_tok {h h' : HP} (e : ∀ c, c < 13 → hI h' c = hI h c) (k : Nat) : letAt h' k = letAt h k := by
  unfold letAt lA sA tA
  rw [e 5 (by decide), e 6 (by decide), e 9 (by decide), e 10 (by decide)]
theorem failF_tok {h h' : HP} (e : ∀ c, c < 13 → hI h' c = hI h c) (w : Int32) : hI (failF h' w) 5 = hI (failF h w) 5 := by
  unfold failF failH tA uI
  rw [hI_rI_s, hI_rI_s, hI_rI_s, hI_rI_s, e 5 (by decide), e 8 (by decide), e 9 (by decide)]
theorem FT.of {a a' b : HP} (h : FT a b) (e : hI a' 5 = hI a 5) : FT a' b := by unfold FT at h ⊢; rw [e]; exact h
theorem letG_okA {u : Nat} (hu : u = 79 ∨ u = 96) (q : Int32) : ∀ d k h, (∀ j, k ≤ j → j < k + d → isLet (letAt h j)) → letG d k h u q = (1, addsG d k h u q)
  | 0, _, _, _ => rfl
  | d + 1, k, h, H => by
    unfold letG addsG
    rw [if_pos (H k (Nat.le_refl _) (by omega))]
    exact letG_okA hu q d (k + 1) _ (fun j h1 h2 => by rw [letAt_tok (addHH_tok h hu _ _).1]; exact H j (by omega) (by omega))
theorem letG_no {u : Nat} (hu : u = 79 ∨ u = 96) (q : Int32) : ∀ d k h, (∃ j, k ≤ j ∧ j < k + d ∧ ¬ isLet (letAt h j)) → ∃ a', letG d k h u q = (0, failF a' 2) ∧ (∀ c, c < 13 → hI a' c = hI h c) ∧ CW u h a'
  | 0, _, _, ⟨j, h1, h2, _⟩ => absurd h2 (by omega)
  | d + 1, k, h, ⟨j, h1, h2, h3⟩ => by
    unfold letG
    by_cases z : isLet (letAt h k)
    · rw [if_pos z]
      have t := addHH_tok h hu (shl 1 (q + nI k)) (letAt h k)
      obtain ⟨a', e1, e2, e3⟩ := letG_no hu q d (k + 1) (addHH h u (shl 1 (q + nI k)) (letAt h k)) ⟨j, by by_cases y : j = k; rw [y] at h3; exact absurd z h3; omega, by omega, by rw [letAt_tok t.1]; exact h3⟩
      exact ⟨a', e1, fun c hc => (e2 c hc).trans (t.1 c hc), t.2.2.trans e3⟩
    · rw [if_neg z]
      exact ⟨h, rfl, fun _ _ => rfl, CW.refl u h⟩
theorem f_isLamp {b : HP} {T : Nat → Int32} {L p : Nat} (tx : TX T L) (hp : p < L) : f_X12_isLamp b (ub T L p) = some (cIf (isLet (T p)), b) := by
  have c : ∀ x : Nat, x < 128 → (ub T L p = nI x ↔ T p = nI x) := fun x hx => ub_ch tx hp hx
  have c1 : ub T L p = 100 ↔ T p = 100 := c 100 (by decide)
  have c2 : ub T L p = 108 ↔ T p = 108 := c 108 (by decide)
  have c3 : ub T L p = 110 ↔ T p = 110 := c 110 (by decide)
  have c4 : ub T L p = 119 ↔ T p = 119 := c 119 (by decide)
  have c5 : ub T L p = 120 ↔ T p = 120 := c 120 (by decide)
  unfold f_X12_isLamp f_X12_isLamp_30 cIf
  by_cases q1 : T p = 100
  · rw [if_pos (c1.mpr q1), if_pos (Or.inl q1)]
  · rw [if_neg (fun z => q1 (c1.mp z))]
    by_cases q2 : T p = 108
    · rw [if_pos (c2.mpr q2), if_pos (Or.inr (Or.inl q2))]
    · rw [if_neg (fun z => q2 (c2.mp z))]
      by_cases q3 : T p = 110
      · rw [if_pos (c3.mpr q3), if_pos (Or.inr (Or.inr (Or.inl q3)))]
      · rw [if_neg (fun z => q3 (c3.mp z))]
        by_cases q4 : T p = 119
        · rw [if_pos (c4.mpr q4), if_pos (Or.inr (Or.inr (Or.inr (Or.inl q4))))]
        · rw [if_neg (fun z => q4 (c4.mp z))]
          by_cases q5 : T p = 120
          · rw [if_pos (c5.mpr q5), if_pos (Or.inr (Or.inr (Or.inr (Or.inr q5))))]
          · rw [if_neg (fun z => q5 (c5.mp z)), if_neg (fun z => by rcases z with z | z | z | z | z <;> contradiction)]
/-- the row is looked through: all its letters good, or a fault -/
theorem row63 {T : Nat → Int32} {L s w : Nat} {b : HP} (tx : TX T L) (x : RTx b T L) (e13 : hI b 113 13 = nI s) (e14 : hI b 113 14 = nI (s + w)) (hs : s + w ≤ L) : ∀ d k f, k + d = w → d < f →
    f_X12_aRow_63 f (nI (s + k)) b = @ite _ (∀ j, k ≤ j → j < w → isLet (T (s + j))) (Classical.propDecidable _) (f_X12_aRow_99 FU (nI s) b) (bd2 (f_X12_fails b 2) fun r31 h30 => gdv (is01 r31) <| some (r31, h30))
  | d, k, 0, _, hf => absurd hf (by omega)
  | 0, k, f + 1, hd, hf => by
    have hL := tx.1
    unfold f_X12_aRow_63
    rw [e14, show k = w by omega, if_pos (Int32.le_refl _), if_pos (fun j h1 h2 => absurd h2 (by omega)), ltv_e, e13]
  | d + 1, k, f + 1, hd, hf => by
    have hL := tx.1
    unfold f_X12_aRow_63
    rw [e14, if_neg (show ¬ nI (s + w) ≤ nI (s + k) from fun z => by have := (nI_leI (by omega) (by omega)).mp z; omega), f_byteAt x hL (by omega), bd2_s, f_isLamp tx (by omega), bd2_s]
    unfold cIf
    by_cases z : isLet (T (s + k))
    · rw [if_pos z, if_neg (by decide), ltv_e, nI_1, show s + k + 1 = s + (k + 1) by omega, row63 tx x e13 e14 hs d (k + 1) f (by omega) (by omega)]
      by_cases m : ∀ j, k + 1 ≤ j → j < w → isLet (T (s + j))
      · rw [if_pos m, if_pos (fun j h1 h2 => by
          by_cases y : j = k
          · rw [y]; exact z
          · exact m j (by omega) h2)]
      · rw [if_neg m, if_neg (fun p => m (fun j h1 h2 => p j (by omega) h2))]
    · rw [if_neg z, if_pos rfl, if_neg (fun p => z (p k (Nat.le_refl _) (by omega)))]
theorem r182 (K : Int32 → HP → Option (Int32 × HP)) (l1 B v : Int32) (h : HP) : f_X12_aRow_182 K l1 B v h = K (l1 + 1) (rA4 h B v) := by
  unfold f_X12_aRow_182 rA4
  by_cases q : v = 119
  · rw [if_pos q, if_pos (Or.inl q)]; rfl
  · rw [if_neg q]
    by_cases q2 : v = 120
    · rw [if_pos q2, if_pos (Or.inr q2)]; rfl
    · rw [if_neg q2, if_neg (fun z => z.elim q q2)]; rfl
theorem r158 (K : Int32 → HP → Option (Int32 × HP)) (l1 B v : Int32) (h : HP) : f_X12_aRow_158 K l1 B v h = K (l1 + 1) (rA4 (rA3 h B v) B v) := by
  unfold f_X12_aRow_158 rA3
  by_cases q : v = 108
  · rw [if_pos q, if_pos (Or.inl q), ltv_e, r182]
  · rw [if_neg q]
    by_cases q2 : v = 119
    · rw [if_pos q2, if_pos (Or.inr q2), ltv_e, r182]
    · rw [if_neg q2, if_neg (fun z => z.elim q q2), r182]
theorem CW.toRD {T : Nat → Int32} {L n : Nat} {a a' b b' : HP} (k : RD T L n a b) (e : ∀ c, c < 13 → hI a' c = hI a c) (el : hL a' = hL a) (x : hI b' 113 = hI b 113) (y : hI b' 120 = hI b 120) : RD T L n a' b' :=
  k.keep (e 5 (by decide)) (fun c hc => e c (by omega)) (by rw [el]) x y
/-- the letters are added by both -/
theorem row99 {T : Nat → Int32} {L n s u w r : Nat} (hu : u = 79 ∨ u = 96) (tx : TX T L) (hs : s + w ≤ L) (hr : r < 6) : ∀ d k f a b, k + d = w → d < f → RD T L n a b → hI b 113 13 = nI s → hI b 113 14 = nI (s + w) → (∀ j, j < w → letAt a j = T (s + j)) → (∀ j, j < w → isLet (T (s + j))) → HH a b u w r k →
    ∃ b', f_X12_aRow_99 f (nI (s + k)) b = f_X12_aRow_99 1 (nI (s + w)) b' ∧ HH (addsG d k a u (nI (r * w))) b' u w r w ∧ RD T L n (addsG d k a u (nI (r * w))) b' ∧ FW b b' ∧ CW u a (addsG d k a u (nI (r * w))) ∧ (∀ c, c < 13 → hI (addsG d k a u (nI (r * w))) c = hI a c) ∧ hL (addsG d k a u (nI (r * w))) = hL a ∧ (hI b' 113 = hI b 113) ∧ (∀ j, j ≠ 1642 → j ≠ 1643 → j ≠ 1644 → hI b' 114 j = hI b 114 j) ∧ hL b' = hL b ∧ ∀ c j, ¬ (c = u ∧ j = 13) → c ≠ u + 1 → hI (addsG d k a u (nI (r * w))) c j = hI a c j
  | d, k, 0, a, b, _, hf, _, _, _, _, _, _ => absurd hf (by omega)
  | 0, k, f + 1, a, b, hd, hf, R, e13, e14, el, il, H => by
    have hL := tx.1
    refine ⟨b, ?_, by rw [show w = k by omega]; exact (show k = w by omega) ▸ H, R, FW.refl b, CW.refl u a, fun _ _ => rfl, rfl, rfl, fun _ _ _ _ => rfl, rfl, fun _ _ _ _ => rfl⟩
    unfold f_X12_aRow_99
    rw [e14, show k = w by omega, if_pos (Int32.le_refl _), if_pos (Int32.le_refl _)]
  | d + 1, k, f + 1, a, b, hd, hf, R, e13, e14, el, il, H => by
    have hL := tx.1
    have hk : k < w := by omega
    have hw5 := H.1.2.1
    have hwr : w * r + w ≤ 30 := by
      have : w * (r + 1) ≤ 5 * 6 := Nat.mul_le_mul hw5 (by omega)
      rw [Nat.mul_succ] at this; exact this
    have x : RTx b T L := by obtain ⟨⟨i, k1⟩, _⟩ := R; exact k1.2.2.2.1
    obtain ⟨B, eB⟩ : ∃ B, B = shl 1 (nI (r * w) + nI k) := ⟨_, rfl⟩
    have hB : ∀ i, i < 32 → bt B i = decide (i = w * r + k) := fun i hi => by
      rw [eB, nI_add, Nat.mul_comm r w]; exact b_bit (by omega) hi
    obtain ⟨v, ev⟩ : ∃ v, v = T (s + k) := ⟨_, rfl⟩
    have eu : ub T L (s + k) = v := by
      rcases il k hk with q | q | q | q | q <;> rw [ev, q] <;> exact (ub_ch tx (by omega) (by decide)).mpr q
    have st : f_X12_aRow_99 (f + 1) (nI (s + k)) b = f_X12_aRow_99 f (nI (s + (k + 1))) (rAA b B v) := by
      show (if (hI b 113 14) ≤ nI (s + k) then _ else ltv (((1 : Int32) <<< (((((hI b 114 1640) * (hI b 114 1641)) + nI (s + k)) - (hI b 113 13)) &&& 31)) : Int32) fun x41 => bd2 (f_X12_byteAt b (nI (s + k))) fun r44 h43 => if r44 = 110 then (f_X12_aRow_158 (f_X12_aRow_99 f) (nI (s + k)) x41 r44 h43) else ltv (uI h43 114 1642 ((hI h43 114 1642) ||| x41)) fun g46 => f_X12_aRow_158 (f_X12_aRow_99 f) (nI (s + k)) x41 r44 g46) = _
      rw [e14, if_neg (show ¬ nI (s + w) ≤ nI (s + k) from fun z => by have := (nI_leI (by omega) (by omega)).mp z; omega), ltv_e, e13, H.1.2.2.1, H.2.1.2.1, f_byteAt x hL (by omega), bd2_s, eu]
      have eB2 : (1 : Int32) <<< (((nI w * nI r) + nI (s + k) - nI s) &&& 31) = B := by
        rw [eB, nI_mul, nI_add, nI_sub (by omega), nI_add, show w * r + (s + k) - s = r * w + k by rw [Nat.mul_comm r w]; omega]
      rw [eB2]
      unfold rAA rA2
      by_cases q : v = 110
      · rw [if_pos q, if_pos q, r158, nI_1]; rfl
      · rw [if_neg q, if_neg q, ltv_e, r158, nI_1]; rfl
    have ec : letAt a k = v := by rw [el k hk, ev]
    have ad : addsG (d + 1) k a u (nI (r * w)) = addsG d (k + 1) (addHH a u B v) u (nI (r * w)) := by
      show addsG d (k + 1) (addHH a u (shl 1 (nI (r * w) + nI k)) (letAt a k)) u (nI (r * w)) = _
      rw [ec, eB]
    have tk := addHH_tok a hu B v
    have rw1 := rAA_W b B v
    obtain ⟨b', q1, q2, q3, q4, q5, q6, q7, q8, q9, q10, q11⟩ := row99 hu tx hs hr d (k + 1) f (addHH a u B v) (rAA b B v) (by omega) (by omega) (CW.toRD R tk.1 tk.2.1 rw1.2.1 rw1.2.2) (by rw [rw1.2.1]; exact e13) (by rw [rw1.2.1]; exact e14) (fun j hj => by rw [letAt_tok tk.1]; exact el j hj) il (H.step hu hk hr (by rw [ev]; exact il k hk) hB)
    rw [st, ad]
    refine ⟨b', q1, q2, q3, rw1.1.trans q4, tk.2.2.trans q5, fun c hc => (q6 c hc).trans (tk.1 c hc), q7.trans tk.2.1, q8.trans rw1.2.1, fun j z1 z2 z3 => ?_, ?_, fun c j z1 z2 => ?_⟩
    · rw [q9 j z1 z2 z3, rAA_c, if_neg z1, if_neg z2, if_neg z3]
    · rw [q10]; unfold rAA rA4 rA3 rA2
      split <;> split <;> split <;> rfl
    · rw [q11 c j z1 z2, addHH_c, if_neg (fun z => z2 z.1), if_neg (fun z => z2 z.1), if_neg (fun z => z2 z.1), if_neg z1]
