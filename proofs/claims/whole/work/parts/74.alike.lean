/-! ===== alike: night, the whole ===== -/
def ntI (g0 : HP) (F : Int32 → Int32) (u : Int32 → Nat → Int32) (k : Nat) (G : HP) : Prop :=
  SR g0 G ∧ (∀ b j, ¬ ntC b j → hI G b j = hI g0 b j) ∧ hL G = hL g0 ∧ hI G 114 3 = itN F k (hI g0 114 3) ∧ hI G 114 8 = hI g0 114 8 + oilN F k (hI g0 114 3) ∧ hI G 114 7 = hI g0 114 7 + nI k ∧ ∀ q, q < 10 → hI G 114 (32 + q) = hI g0 114 (32 + q) ||| seenN F u k (hI g0 114 3) q
theorem oilN_s (F : Int32 → Int32) (k : Nat) (x : Int32) : oilN F (k + 1) x = oilN F k x + nI (pc (itN F k x)) := by
  rw [oilN_add]; show _ + (nI (pc (itN F k x)) + 0) = _; rw [Int32.add_zero]
theorem seenN_s (F : Int32 → Int32) (u : Int32 → Nat → Int32) (k : Nat) (x : Int32) (q : Nat) : seenN F u (k + 1) x q = seenN F u k x q ||| u (itN F k x) q := by
  rw [seenN_add]; show _ ||| (u (itN F k x) q ||| 0) = _; rw [or0']
theorem ntM_step {h g0 : HP} {t w r m c : Nat} {j : Bool} (ht : t = 79 ∨ t = 96) (T : TW h t w r m c j) (ok : okX h (hI g0 114 3)) (sm : ∀ k, (k ≤ 2 ∨ k = 4 ∨ k = 9 ∨ k = 10 ∨ (12 ≤ k ∧ k < 20)) → hI g0 114 k = hI h 114 k) {k : Nat} {G : HP} (I : ntI g0 (nxF h t) (uT h t) k G) :
    ∃ G', f_X12_goes G = some G' ∧ ntI g0 (nxF h t) (uT h t) (k + 1) G' := by
  obtain ⟨i1, i2, i3, i4, i5, i6, i7⟩ := I
  obtain ⟨G', e, a1, a2, a3, a4, a5, a6, a7⟩ := gs_step ht T (G := G) (okX.it T k ok) i4 (fun q hq => by rw [i2 _ _ (by unfold ntC; omega)]; exact sm q hq)
  refine ⟨G', e, i1.trans a1, fun b q hn => by rw [a2 b q hn, i2 b q hn], a3.trans i3, ?_, ?_, ?_, fun q hq => ?_⟩
  · rw [a4, itN_last]
  · rw [a5, i5, oilN_s, Int32.add_assoc]
  · rw [a6, i6, nI_succ, Int32.add_assoc]
  · rw [a7 q hq, i7 q hq, seenN_s, Int32.or_assoc]
theorem ntM_lp {h g0 : HP} {t w r m c : Nat} {j : Bool} (ht : t = 79 ∨ t = 96) (T : TW h t w r m c j) (ok : okX h (hI g0 114 3)) (sm : ∀ k, (k ≤ 2 ∨ k = 4 ∨ k = 9 ∨ k = 10 ∨ (12 ≤ k ∧ k < 20)) → hI g0 114 k = hI h 114 k) {N : Nat} (hN : N < 2 ^ 31) : ∀ d k n, k + d = N → d < n → ∀ G, ntI g0 (nxF h t) (uT h t) k G →
    ∃ G', f_X12_night_20 n (nI N) (nI k) G = some (nI (pc (itN (nxF h t) N (hI g0 114 3))), uI G' 113 2 0) ∧ ntI g0 (nxF h t) (uT h t) N G'
  | d, k, 0, _, z, _, _ => absurd z (by omega)
  | 0, k, n + 1, e, _, G, I => by
    have : k = N := by omega
    subst this
    refine ⟨G, ?_, I⟩
    unfold f_X12_night_20
    rw [if_pos (by rw [nI_leI (by omega) (by omega)]; omega), I.2.2.2.1, bits_e, bd2_s, giv_e, bd2_s]
  | d + 1, k, n + 1, e, z, G, I => by
    obtain ⟨G1, e1, I1⟩ := ntM_step ht T ok sm I
    obtain ⟨G', e', I'⟩ := ntM_lp ht T ok sm hN d (k + 1) n (by omega) (by omega) G1 I1
    refine ⟨G', ?_, I'⟩
    unfold f_X12_night_20
    rw [if_neg (by rw [nI_leI (by omega) (by omega)]; omega), e1, bd1_s]
    simp only [ltv_e, nI_1]
    exact e'
theorem or4x : ∀ a, a < 4 → ∀ b, b < 4 → nI a ||| nI b = nI (a ||| b) ∧ (a ||| b) < 4 := by decide
theorem or4 (a b : Nat) (ha : a < 4) (hb : b < 4) : ∃ n, n < 4 ∧ nI a ||| nI b = nI n := ⟨_, (or4x a ha b hb).2, (or4x a ha b hb).1⟩
theorem uT_4 (h : HP) (t : Nat) (x : Int32) (q : Nat) : ∃ n, n < 4 ∧ uT h t x q = nI n := by
  have K : ∀ v : Int32, ∀ k : Nat, k < 32 → ∃ n, n < 4 ∧ shl 1 (shr v (nI k) &&& 1) = nI n := fun v k hk => by
    show ∃ n, n < 4 ∧ (1 : Int32) <<< (((v >>> (nI k &&& 31)) &&& 1) &&& 31) = nI n
    rw [shr1 hk]; cases bt v k
    · exact ⟨1, by decide, rfl⟩
    · exact ⟨2, by decide, rfl⟩
  show ∃ n, n < 4 ∧ uF (hI h (t + 1)) x (bornF h t) (staysF h t) q = nI n
  unfold uF
  by_cases a : q < 5
  · rw [if_pos a]; split
    · exact ⟨0, by decide, rfl⟩
    · exact K _ q (by omega)
  · rw [if_neg a]
    by_cases b : q < 10
    · rw [if_pos b]; split
      · exact ⟨0, by decide, rfl⟩
      · exact K _ (q - 5) (by omega)
    · rw [if_neg b]; exact ⟨0, by decide, rfl⟩
theorem seen_4 (h : HP) (t : Nat) (q : Nat) : ∀ k x, ∃ n, n < 4 ∧ seenN (nxF h t) (uT h t) k x q = nI n
  | 0, x => ⟨0, by decide, rfl⟩
  | k + 1, x => by
    obtain ⟨a, ha, ea⟩ := uT_4 h t x q
    obtain ⟨b, hb, eb⟩ := seen_4 h t q k (nxF h t x)
    obtain ⟨n, hn, en⟩ := or4 a b ha hb
    exact ⟨n, hn, by rw [← en, ← ea, ← eb]; rfl⟩
theorem Inv.ok {h : HP} {t u : Nat} (I : Inv h t u) : okX h (hI h 114 3) := by
  obtain ⟨w, r, m, c, j, T⟩ := I.tw
  exact ⟨T.pic, fun _ _ _ => rfl⟩
/-- N nights of both: the heap after the class's nights, the one after the reference's -/
theorem Inv.nights {h g0 h2 : HP} {t u N : Nat} {g' : Nat → Int32} {v : Int32} (I : Inv h t u) (e0 : g0 = uI (uI (TH h t (itN (nxF h t) N (hI h t 13)) (hI h t 15 + oilN (nxF h t) N (hI h t 13)) (fun i => hI h (t + 15) i ||| seenN (nxF h t) (uT h t) N (hI h t 13) i) g') t 14 (hI h t 14 + nI N)) 0 11 v)
    (q : ntI g0 (nxF h t) (uT h t) N h2) : Inv (uI h2 113 2 v) t u := by
  have ht := I.t
  obtain ⟨w, r, m, c, qH, qR, qS, qY⟩ := I.tn
  obtain ⟨j, HH, jj1, jj2⟩ := qH.hill
  have T : TW h t w r m c j := ⟨qH, qR, HH, jj1, jj2⟩
  obtain ⟨i1, i2, i3, i4, i5, i6, i7⟩ := q
  have C : ∀ b k, ¬ (b = t ∧ (k = 13 ∨ k = 14 ∨ k = 15)) → b ≠ t + 15 → b ≠ t + 1 + 1 → ¬ (b = 0 ∧ k = 11) → hI g0 b k = hI h b k := fun b k h1 h2 h3 h4 => by
    rw [e0, hI_uI_n (by omega), hI_uI_n (by omega)]
    by_cases bt : b = t
    · subst bt
      rw [TH_t]; unfold upd; rw [if_neg (by omega), if_neg (by omega)]
    · rw [TH_o _ _ _ _ bt h2 h3]
  have g3 : hI g0 114 3 = hI h 114 3 := C _ _ (by omega) (by omega) (by omega) (by omega)
  have ep : hI h t 13 = hI h 114 3 := T.pic0
  have es := qS.n
  have E : ∀ b k, ¬ (b = t ∧ (k = 13 ∨ k = 14 ∨ k = 15)) → b ≠ t + 15 → b ≠ t + 1 + 1 → ¬ (b = 0 ∧ k = 11) → ¬ (b = 113 ∧ k = 2) → ¬ ntC b k → hI (uI h2 113 2 v) b k = hI h b k := fun b k a1 a2 a3 a4 a5 a6 => by
    rw [hI_uI_n (by omega), i2 b k a6, C b k a1 a2 a3 a4]
  have V : ∀ b k, ¬ ntC b k → ¬ (b = 113 ∧ k = 2) → hI (uI h2 113 2 v) b k = hI g0 b k := fun b k a6 a5 => by
    rw [hI_uI_n (by omega), i2 b k a6]
  have W : ∀ k, hI (uI h2 113 2 v) 114 k = hI h2 114 k := fun k => by rw [hI_uI_n (by omega)]
  have L : ∀ b k, hL (uI h2 113 2 v) b k = hL h b k := fun b k => by
    show hL h2 b k = _
    rw [i3, e0]; rfl
  have sr : SR h g0 := by rw [e0]; exact ⟨rfl, rfl⟩
  have P1 : hI (uI h2 113 2 v) t 13 = itN (nxF h t) N (hI h 114 3) := by
    rw [V _ _ (by unfold ntC; omega) (by omega), e0, hI_uI_n (by omega), hI_uI_n (by omega), TH_t, ep]; rfl
  have P2 : hI (uI h2 113 2 v) 114 3 = itN (nxF h t) N (hI h 114 3) := by rw [W, i4, g3]
  have okN := okX.it T N I.ok
  refine I.own (h' := uI h2 113 2 v) ⟨?_, fun a k q => E a k ?_ ?_ ?_ ?_ ?_ ?_, fun a k q => L a k⟩ ?_ ⟨w, r, m, c, ?_, ?_, ?_, ?_⟩
  · exact (sr.trans i1)
  · unfold relO inT at q; omega
  · unfold relO inT at q; omega
  · unfold relO inT at q; omega
  · unfold relO inT at q; omega
  · unfold relO inT at q; omega
  · unfold relO inT at q; unfold ntC; omega
  · rw [hI_uI_s, V 0 11 (by unfold ntC; omega) (by omega), e0, hI_uI_s]
  · exact T.1.pic (fun b k q n1 n2 => E b k (by unfold cnH at q; omega) (by unfold cnH at q; omega) (by unfold cnH at q; omega) (by unfold cnH at q; omega) (by unfold cnH at q; omega) (by unfold cnH at q; unfold ntC; omega)) (by omega) P1 P2 okN.1 okN.2
  · exact T.2.1.k (fun b k q => E b k (by unfold cnR at q; omega) (by unfold cnR at q; omega) (by unfold cnR at q; omega) (by unfold cnR at q; omega) (by unfold cnR at q; omega) (by unfold cnR at q; unfold ntC; omega)) (fun b k _ => L b k)
  · unfold RtS
    refine ⟨⟨?_, ?_⟩, fun i hi => ⟨?_, ?_⟩⟩
    · rw [V t 14 (by unfold ntC; omega) (by omega), e0, hI_uI_n (by omega), hI_uI_s, es.1.1, show 0 + 7 = 7 from rfl, W, i6, C 114 7 (by omega) (by omega) (by omega) (by omega)]
    · rw [V t 15 (by unfold ntC; omega) (by omega), e0, hI_uI_n (by omega), hI_uI_n (by omega), TH_t, show 0 + 8 = 8 from rfl, W, i5, C 114 8 (by omega) (by omega) (by omega) (by omega), g3, ← es.1.2, ← ep]; rfl
    · rw [V (t + 15) i (by unfold ntC; omega) (by omega), e0, hI_uI_n (by omega), hI_uI_n (by omega), TH_s, show 0 + 32 + i = 32 + i by omega, W, i7 i hi, C 114 (32 + i) (by omega) (by omega) (by omega) (by omega), g3, ← (es.2 i hi).1, ← ep]
    · obtain ⟨n, hn, en⟩ := (es.2 i hi).2
      obtain ⟨n2, hn2, en2⟩ := seen_4 h t i N (hI h 114 3)
      obtain ⟨n3, hn3, en3⟩ := or4 n n2 hn hn2
      refine ⟨n3, hn3, ?_⟩
      rw [show 0 + 32 + i = 32 + i by omega, W, i7 i hi, C 114 (32 + i) (by omega) (by omega) (by omega) (by omega), g3, en, en2, en3]
  · exact qY.k (fun b k q => E b k (by unfold cnY at q; omega) (by unfold cnY at q; omega) (by unfold cnY at q; omega) (by unfold cnY at q; omega) (by unfold cnY at q; omega) (by unfold cnY at q; unfold ntC; omega))

theorem op_night {h : HP} {t u : Nat} (I : Inv h t u) (a : Int32) : Op t u (f_X11_night h t a) (fun g => f_X12_night g a) := by
  have ht := I.t
  obtain ⟨w, r, m, c, j, T⟩ := I.tw
  have fr : ∀ g, f_X12_isFrom g (Int32.toInt64 a) 1 999 = some (bI (decide (1 ≤ a.toInt ∧ a.toInt ≤ 999)), g) := fun g => by
    rw [isFrom_e]
    have : (1 : Int64).toInt = 1 := rfl
    have : (999 : Int64).toInt = 999 := rfl
    simp only [Int32.toInt_toInt64, *]
  unfold f_X11_night f_X12_night
  simp only [fr, bd2_s, ltv_e]
  by_cases ha : 1 ≤ a.toInt ∧ a.toInt ≤ 999
  · obtain ⟨N, hN, rfl⟩ := rng_nI (a := a) (n := 999) (by omega)
    rw [nI_t (by omega)] at ha
    rw [if_neg (show ¬ nI N < 1 by rw [show (1 : Int32) = nI 1 from rfl, nI_ltI (by omega) (by omega)]; omega), if_pos (show nI N ≤ 999 by rw [show (999 : Int32) = nI 999 from rfl, nI_leI (by omega) (by omega)]; omega)]
    obtain ⟨g', e⟩ := ns_e (h := h) (t := t) T.r4 (m := N) (by omega)
    obtain ⟨g0, e0⟩ : ∃ g0, g0 = uI (uI (TH h t (itN (nxF h t) N (hI h t 13)) (hI h t 15 + oilN (nxF h t) N (hI h t 13)) (fun i => hI h (t + 15) i ||| seenN (nxF h t) (uT h t) N (hI h t 13) i) g') t 14 (hI h t 14 + nI N)) 0 11 0 := ⟨_, rfl⟩
    have c4 : ∀ k, hI g0 114 k = hI h 114 k := fun k => by rw [e0, hI_uI_n (by omega), hI_uI_n (by omega), TH_o _ _ _ _ (by omega) (by omega) (by omega)]
    obtain ⟨h2, e2, I2⟩ := ntM_lp ht T (g0 := g0) (by rw [c4]; exact I.ok) (fun k _ => c4 k) (N := N) (by omega) N 0 FU (by omega) (FU_gt (by omega)) g0 ⟨SR.refl _, fun _ _ _ => rfl, rfl, rfl, (Int32.add_zero _).symm, (Int32.add_zero _).symm, fun q _ => (or0' _).symm⟩
    refine ⟨nI (pc (itN (nxF h t) N (hI h 114 3))), g0, uI h2 113 2 0, ?_, ?_, Inv.nights I e0 I2⟩
    · rw [e, bd1_s]
      show bd2 (some (nI (pc (hI _ t 13)), _)) _ = _
      rw [bd2_s, ans_e, bd2_s, e0]
      have : hI (uI (TH h t (itN (nxF h t) N (hI h t 13)) (hI h t 15 + oilN (nxF h t) N (hI h t 13)) (fun i => hI h (t + 15) i ||| seenN (nxF h t) (uT h t) N (hI h t 13) i) g') t 14 (hI h t 14 + nI N)) t 13 = itN (nxF h t) N (hI h t 13) := by
        rw [hI_uI_n (by omega), TH_t]; rfl
      rw [this, T.pic0]
    · try simp only []
      rw [nI_t (by omega), bI_dt (by omega), if_neg (by decide)]
      rw [c4] at e2
      exact e2
  · refine op_st I (v := 1) (r := -1) ?_ ?_
    · by_cases a1 : a < 1
      · rw [if_pos a1]; rfl
      · rw [if_neg a1, if_neg (fun a2 : a ≤ 999 => ha (by rw [Int32.lt_iff_toInt_lt] at a1; rw [Int32.le_iff_toInt_le] at a2; simp only [Int32.reduceToInt] at a1 a2; omega))]; rfl
    · try simp only []
      rw [bI_df ha, if_pos rfl]; rfl
