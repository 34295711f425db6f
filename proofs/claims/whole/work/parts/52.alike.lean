/-! ===== alike: what is poured ===== -/
/-- the last k of m numbers copied -/
def bkC (X : Nat → Int64) (s d m k : Nat) : Nat → Int64 := fun y => if d + (m - k) ≤ y ∧ y < d + m then X (s + (y - d)) else X y
theorem bkC_0 (X : Nat → Int64) (s d m : Nat) : bkC X s d m 0 = X := by funext y; unfold bkC; rw [if_neg (by omega)]
theorem bkC_m (X : Nat → Int64) (s d m : Nat) : bkC X s d m m = va_cpy X X s d m := by
  funext y; unfold bkC va_cpy; rw [Nat.sub_self, Nat.add_zero]
theorem uL_rL (h : HP) (a j : Nat) (f : Nat → Int64) (x : Int64) : uL (rL h a f) a j x = rL h a (vp_updL f j x) := by
  unfold uL; rw [hL_rL_s, rL_rL]
theorem cpy_0 (X : Nat → Int64) (s d : Nat) : va_cpy X X s d 0 = X := by funext y; unfold va_cpy; rw [if_neg (by omega)]
theorem cpy_up {X : Nat → Int64} {s d k : Nat} (hs : ¬ (d ≤ s + k ∧ s + k < d + k)) : vp_updL (va_cpy X X s d k) (d + k) (va_cpy X X s d k (s + k)) = va_cpy X X s d (k + 1) := by
  funext y
  unfold vp_updL
  by_cases e : y = d + k
  · rw [if_pos e]
    unfold va_cpy
    rw [if_neg hs, if_pos (by omega)]
    congr 1; omega
  · rw [if_neg e]
    unfold va_cpy
    by_cases e2 : d ≤ y ∧ y < d + k
    · rw [if_pos e2, if_pos (by omega)]
    · rw [if_neg e2, if_neg (by omega)]
theorem bkC_up {X : Nat → Int64} {s d m k : Nat} (hk : k < m) (hs : ¬ (d + (m - k) ≤ s + (m - 1 - k) ∧ s + (m - 1 - k) < d + m)) : vp_updL (bkC X s d m k) (d + (m - 1 - k)) (bkC X s d m k (s + (m - 1 - k))) = bkC X s d m (k + 1) := by
  funext y
  unfold vp_updL
  by_cases e : y = d + (m - 1 - k)
  · rw [if_pos e]
    unfold bkC
    rw [if_neg hs, if_pos (by omega)]
    congr 1; omega
  · rw [if_neg e]
    unfold bkC
    by_cases e2 : d + (m - k) ≤ y ∧ y < d + m
    · rw [if_pos e2, if_pos (by omega)]
    · rw [if_neg e2, if_neg (by omega)]
theorem i60a {i j k : Nat} : ((60 : Int32) * nI i + nI j) + nI k = nI (i * 60 + j + k) := by rw [i60, nI_add]
theorem pour_lp {i p j q m : Nat} (hi : i < 4) (hj : j < 4) (hp : p + m ≤ 60) (hq : q + m ≤ 60) (h : HP) : ∀ e k n, k + e = m → e < n →
    f_X12_pour_118 n (nI i) (nI p) (nI j) (nI q) (nI m) (nI k) (rL h 118 (if q ≤ p then va_cpy (hL h 118) (hL h 118) (i * 60 + p) (j * 60 + q) k else bkC (hL h 118) (i * 60 + p) (j * 60 + q) m k)) =
      some (1, uI (rL h 118 (va_cpy (hL h 118) (hL h 118) (i * 60 + p) (j * 60 + q) m)) 113 2 0)
  | e, k, 0, _, z => absurd z (by omega)
  | 0, k, n + 1, e, _ => by
    unfold f_X12_pour_118
    rw [if_pos (by rw [nI_leI (by omega) (by omega)]; omega), is0_e, bd2_s, gdv_t is01_1, show k = m by omega, bkC_m]
    by_cases c : q ≤ p
    · rw [if_pos c]
    · rw [if_neg c]
  | e + 1, k, n + 1, z, y => by
    have key := pour_lp hi hj hp hq h e (k + 1) n (by omega) (by omega)
    unfold f_X12_pour_118 f_X12_pour_143
    rw [if_neg (by rw [nI_leI (by omega) (by omega)]; omega)]
    have dis : i ≠ j → i * 60 + 60 ≤ j * 60 ∨ j * 60 + 60 ≤ i * 60 := fun h => by omega
    by_cases c : q ≤ p
    · rw [if_pos (by rw [nI_leI (by omega) (by omega)]; exact c), if_pos c, i60a, gdi_nI (by omega) (by decide), i60a, gdi_nI (by omega) (by decide), nI_clamp (by omega), nI_clamp (by omega)]
      simp only [ltv_e]
      rw [nI_1, hL_rL_s, uL_rL, cpy_up (by by_cases h : i = j; rw [h]; omega; have := dis h; omega)]
      rw [if_pos c] at key; exact key
    · have e1 : (nI m - 1) - nI k = nI (m - 1 - k) := by rw [show (1 : Int32) = nI 1 from rfl, nI_sub (by omega), nI_sub (by omega)]
      rw [if_neg (by rw [nI_leI (by omega) (by omega)]; exact c), if_neg c, e1, i60a, gdi_nI (by omega) (by decide), i60a, gdi_nI (by omega) (by decide), nI_clamp (by omega), nI_clamp (by omega)]
      simp only [ltv_e]
      rw [nI_1, hL_rL_s, uL_rL, bkC_up (by omega) (by by_cases h : i = j; rw [h]; omega; have := dis h; omega)]
      rw [if_neg c] at key; exact key
theorem mpour_1 (g : HP) {a p c q m : Int32} (hb : ¬ ((0 ≤ a ∧ a < 4) ∧ (0 ≤ c ∧ c < 4) ∧ ¬ p < 0 ∧ ¬ q < 0 ∧ 0 ≤ m)) : f_X12_pour g a p c q m = some (0, uI g 113 2 1) := by
  have m28 : ∀ g, f_X12_pour_28 g = some (0, uI g 113 2 1) := fun g => by unfold f_X12_pour_28; rw [is1_e _ (by decide), bd2_s, gdv_t is01_0]
  unfold f_X12_pour
  simp only [bd2_s, m28, mTray_e]
  by_cases h1 : 0 ≤ a ∧ a < 4
  · rw [bI_dt h1, if_neg (by decide)]
    by_cases h2 : 0 ≤ c ∧ c < 4
    · rw [bI_dt h2, if_neg (by decide)]
      by_cases h3 : p < 0
      · rw [if_pos h3]
      · rw [if_neg h3]
        by_cases h4 : q < 0
        · rw [if_pos h4]
        · rw [if_neg h4, if_neg (fun h5 => hb ⟨h1, h2, h3, h4, h5⟩)]
    · rw [bI_df h2, if_pos rfl]
  · rw [bI_df h1, if_pos rfl]
theorem nI_ge0 {k : Nat} (hk : k < 2 ^ 31) : (0 : Int32) ≤ nI k := by rw [show (0 : Int32) = nI 0 from rfl, nI_leI (by omega) hk]; omega
theorem nI_4 {k : Nat} (hk : k < 4) : (0 : Int32) ≤ nI k ∧ nI k < 4 := ⟨nI_ge0 (by omega), by rw [show (4 : Int32) = nI 4 from rfl, nI_ltI (by omega) (by omega)]; exact hk⟩
theorem mpour_2 (g : HP) {i j p q m : Nat} (hi : i < 4) (hj : j < 4) (hp : p < 2 ^ 31) (hq : q < 2 ^ 31) (hm : m < 2 ^ 31) : f_X12_pour g (nI i) (nI p) (nI j) (nI q) (nI m) = (if hI g 117 i = -1 then some (0, uI g 113 2 2) else if hI g 117 j = -1 then some (0, uI g 113 2 2) else if hI g 116 i = hI g 116 j then (if hI g 117 i - nI p < nI m then some (0, uI g 113 2 3) else if nI m ≤ hI g 117 j - nI q then f_X12_pour_118 FU (nI i) (nI p) (nI j) (nI q) (nI m) 0 g else some (0, uI g 113 2 3)) else some (0, uI g 113 2 8)) := by
  unfold f_X12_pour
  simp only [bd2_s, mTray_e, is1_e _ (show (2 : Int32) ≠ 0 by decide), is1_e _ (show (3 : Int32) ≠ 0 by decide), is1_e _ (show (8 : Int32) ≠ 0 by decide), gdv_t is01_0, gdi_nI hi (show 4 < 2 ^ 31 by decide), gdi_nI hj (show 4 < 2 ^ 31 by decide), nI_clamp (show i < 2 ^ 31 by omega), nI_clamp (show j < 2 ^ 31 by omega)]
  rw [bI_dt (nI_4 hi), bI_dt (nI_4 hj), if_neg (by decide), if_neg (by decide), if_neg (lt_nI0 p hp), if_neg (lt_nI0 q hq), if_pos (nI_ge0 hm)]
theorem cpour_1 (h : HP) {a p c q m : Int32} (hb : ¬ ((0 ≤ a ∧ a < 4) ∧ (0 ≤ c ∧ c < 4) ∧ ¬ p < 0 ∧ ¬ q < 0 ∧ 0 ≤ m)) : f_X11_pour h a p c q m = some (0, uI h 0 11 1) := by
  have c28 : ∀ g, f_X11_pour_28 g = some (0, uI g 0 11 1) := fun g => rfl
  unfold f_X11_pour f_X7_isTray
  simp only [bd2_s, c28]
  by_cases h1 : 0 ≤ a ∧ a < 4
  · rw [bI_dt h1, if_neg (by decide)]
    by_cases h2 : 0 ≤ c ∧ c < 4
    · rw [bI_dt h2, if_neg (by decide)]
      by_cases h3 : p < 0
      · rw [if_pos h3]
      · rw [if_neg h3]
        by_cases h4 : q < 0
        · rw [if_pos h4]
        · rw [if_neg h4, if_neg (fun h5 => hb ⟨h1, h2, h3, h4, h5⟩)]
    · rw [bI_df h2, if_pos rfl]
  · rw [bI_df h1, if_pos rfl]
theorem cpour_2 (h : HP) {i j p q m : Nat} (hi : i < 4) (hj : j < 4) (hp : p < 2 ^ 31) (hq : q < 2 ^ 31) (hm : m < 2 ^ 31) : f_X11_pour h (nI i) (nI p) (nI j) (nI q) (nI m) = (if hI h 4 i < 0 then some (0, uI h 0 11 2) else if hI h 4 j < 0 then some (0, uI h 0 11 2) else if hI h 3 i = hI h 3 j then (if (p : Int) + m ≤ (hI h 4 i).toInt then (if (q : Int) + m ≤ (hI h 4 j).toInt then bd1 (f_X7_copy h (nI i) (nI p) (nI j) (nI q) (nI m)) (fun g => some (1, uI g 0 11 0)) else some (0, uI h 0 11 3)) else some (0, uI h 0 11 3)) else some (0, uI h 0 11 8)) := by
  have R : ∀ {P : Prop} [Decidable P] {β : Type} (x y : β), (if bI (decide P) = 0 then x else y) = if P then y else x := fun {P} _ {β} x y => by
    by_cases hP : P
    · rw [bI_dt hP, if_neg (by decide), if_pos hP]
    · rw [bI_df hP, if_pos rfl, if_neg hP]
  unfold f_X11_pour f_X7_isTray f_X7_isMissing f_X7_areOfOneSort f_X7_hasRoom
  simp only [bd2_s, dny_e, alw_e, gdv_t is01_0, gdv_t is01_1, gdi_nI hi (show 4 < 2 ^ 31 by decide), gdi_nI hj (show 4 < 2 ^ 31 by decide), nI_clamp (show i < 2 ^ 31 by omega), nI_clamp (show j < 2 ^ 31 by omega), R, nI_t hp, nI_t hq, nI_t hm]
  rw [if_pos (nI_4 hi), if_pos (nI_4 hj), if_neg (lt_nI0 p hp), if_neg (lt_nI0 q hq), if_pos (nI_ge0 hm)]
  simp only [show ∀ x : Nat, (0 ≤ (x : Int)) = True from fun x => by simp, true_and]
theorem op_pour {h : HP} {t u : Nat} (I : Inv h t u) (a p c q m : Int32) : Op t u (f_X11_pour h a p c q m) (fun g => f_X12_pour g a p c q m) := by
  have T := I.2.2.1
  by_cases hb : (0 ≤ a ∧ a < 4) ∧ (0 ≤ c ∧ c < 4) ∧ ¬ p < 0 ∧ ¬ q < 0 ∧ 0 ≤ m
  · obtain ⟨h1, h2, h3, h4, h5⟩ := hb
    obtain ⟨i, hi, rfl⟩ := tray_nI h1
    obtain ⟨j, hj, rfl⟩ := tray_nI h2
    rw [Int32.lt_iff_toInt_lt, show (0 : Int32).toInt = 0 from rfl] at h3 h4
    rw [Int32.le_iff_toInt_le, show (0 : Int32).toInt = 0 from rfl] at h5
    obtain ⟨p, hp, rfl⟩ := nat_is (x := p) (by omega)
    obtain ⟨q, hq, rfl⟩ := nat_is (x := q) (by omega)
    obtain ⟨m, hm, rfl⟩ := nat_is (x := m) h5
    obtain ⟨⟨ei3, ei4⟩, -, zi⟩ := T.1 i hi
    obtain ⟨⟨ej3, ej4⟩, -, zj⟩ := T.1 j hj
    have sub : ∀ {x y : Nat}, x ≤ 60 → y < 2 ^ 31 → (nI x - nI y).toInt = (x : Int) - y := fun hx hy => by
      rw [toInt_sub (by rw [nI_t (by omega), nI_t hy]; omega) (by rw [nI_t (by omega), nI_t hy]; omega), nI_t (by omega), nI_t hy]
    have M : ∀ v, f_X12_pour (uI h 0 11 v) (nI i) (nI p) (nI j) (nI q) (nI m) = _ := fun v => mpour_2 (uI h 0 11 v) hi hj hp hq hm
    simp only [hI_st h _ (show 117 ≠ 0 by decide), hI_st h _ (show 116 ≠ 0 by decide)] at M
    rw [cpour_2 h hi hj hp hq hm, ei3, ei4, ej3, ej4]
    rcases zi with zi | ⟨mi, mi60, zi⟩
    · rw [zi, if_pos (by decide)]
      exact op_st I (v := 2) (r := 0) rfl (by rw [M, zi, if_pos rfl])
    · rw [zi, if_neg (lt_nI0 mi (by omega))]
      rcases zj with zj | ⟨mj, mj60, zj⟩
      · rw [zj, if_pos (by decide)]
        exact op_st I (v := 2) (r := 0) rfl (by rw [M, zi, if_neg (nI_m1 (by omega)), zj, if_pos rfl])
      · rw [zj, if_neg (lt_nI0 mj (by omega))]
        by_cases es : hI h 116 i = hI h 116 j
        · rw [if_pos es, nI_t (by omega), nI_t (by omega)]
          by_cases r1 : (p : Int) + m ≤ mi
          · rw [if_pos r1]
            have r1' : ¬ nI mi - nI p < nI m := by rw [Int32.lt_iff_toInt_lt, sub mi60 hp, nI_t hm]; omega
            by_cases r2 : (q : Int) + m ≤ mj
            · rw [if_pos r2]
              have r2' : nI m ≤ nI mj - nI q := by rw [Int32.le_iff_toInt_le, sub mj60 hq, nI_t hm]; omega
              unfold f_X7_copy
              rw [gdi_nI hi (by decide), gdi_nI hj (by decide), gdi_nI (by omega) (by decide), gdi_nI (by omega) (by decide), gdi_nI (by omega) (by decide), nI_clamp hp, nI_clamp hq, nI_clamp hm, gdv_t (by omega), gdv_t (by omega), bd1_s, nI_clamp (by omega), nI_clamp (by omega)]
              obtain ⟨g, eg⟩ : ∃ g, g = uI (rL h 2 (va_cpy (hL h 2) (hL h 2) (i * 60 + p) (j * 60 + q) m)) 0 11 0 := ⟨_, rfl⟩
              rw [← eg]
              have Eg : ∀ b k, b ≠ 0 → hI g b k = hI h b k := fun b k hb => by rw [eg, hI_uI_n (by omega)]; rfl
              have g8 : hL g 118 = hL h 118 := by rw [eg, hL_uI, hL_rL_n _ _ (by decide)]
              refine ⟨1, g, uI (rL g 118 (va_cpy (hL g 118) (hL g 118) (i * 60 + p) (j * 60 + q) m)) 113 2 0, rfl, ?_, ?_⟩
              · show f_X12_pour g _ _ _ _ _ = _
                rw [mpour_2 g hi hj hp hq hm, Eg 117 i (by decide), Eg 117 j (by decide), Eg 116 i (by decide), Eg 116 j (by decide), zi, zj, if_neg (nI_m1 (by omega)), if_neg (nI_m1 (by omega)), if_pos es, if_neg r1', if_pos r2']
                have key := pour_lp (i := i) (p := p) (j := j) (q := q) (m := m) hi hj (by omega) (by omega) g m 0 FU (by omega) (FU_gt (by omega))
                rw [cpy_0, bkC_0, ite_self, rL_self] at key
                exact key
              · refine I.tr (h := h) ⟨by rw [eg]; rfl, by rw [eg]; rfl⟩ (fun b k n1 n2 n3 => ?_) (fun b k n1 n2 => ?_) ?_ ⟨fun k hk => ?_, fun k hk => ?_⟩
                · rw [hI_uI_n (by omega), hI_rL, eg, hI_uI_n (by omega), hI_rL]
                · rw [hL_uI, hL_rL_n _ _ n2, eg, hL_uI, hL_rL_n _ _ n1]
                · rw [hI_uI_s, hI_uI_n (by omega), hI_rL, eg, hI_uI_s]
                · rw [hI_uI_n (by omega), hI_uI_n (by omega), hI_uI_n (by omega), hI_uI_n (by omega), hI_rL, Eg 3 k (by decide), Eg 4 k (by decide), Eg 116 k (by decide), Eg 117 k (by decide)]; exact T.1 k hk
                · have z2 : hL g 2 = va_cpy (hL h 2) (hL h 2) (i * 60 + p) (j * 60 + q) m := by rw [eg, hL_uI, hL_rL_s]
                  rw [hL_uI, hL_rL_n _ _ (by decide), hL_rL_s, z2, g8]
                  unfold va_cpy
                  by_cases e : j * 60 + q ≤ k ∧ k < j * 60 + q + m
                  · rw [if_pos e, if_pos e]; exact T.2 _ (by omega)
                  · rw [if_neg e, if_neg e]; exact T.2 k hk
            · rw [if_neg r2]
              have r2' : ¬ nI m ≤ nI mj - nI q := by rw [Int32.le_iff_toInt_le, sub mj60 hq, nI_t hm]; omega
              exact op_st I (v := 3) (r := 0) rfl (by rw [M, zi, if_neg (nI_m1 (by omega)), zj, if_neg (nI_m1 (by omega)), if_pos es, if_neg r1', if_neg r2'])
          · rw [if_neg r1]
            have r1' : nI mi - nI p < nI m := by rw [Int32.lt_iff_toInt_lt, sub mi60 hp, nI_t hm]; omega
            exact op_st I (v := 3) (r := 0) rfl (by rw [M, zi, if_neg (nI_m1 (by omega)), zj, if_neg (nI_m1 (by omega)), if_pos es, if_pos r1'])
        · rw [if_neg es]
          exact op_st I (v := 8) (r := 0) rfl (by rw [M, zi, if_neg (nI_m1 (by omega)), zj, if_neg (nI_m1 (by omega)), if_neg es])
  · rw [cpour_1 h hb]
    exact op_st I (v := 1) (r := 0) rfl (mpour_1 _ hb)
