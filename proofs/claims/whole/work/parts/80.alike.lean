/-! ===== alike: when a picture comes again, the reference ===== -/
def Ms (t : Nat) (h G0 g : HP) (w r : Nat) (j : Bool) : Prop := SmN h g ∧ LN g w r j ∧ Sm t G0 g ∧ hI g 0 11 = hI G0 0 11
theorem Ms.I {t : Nat} {h G0 g : HP} {w r : Nat} {j : Bool} (ht : t = 79 ∨ t = 96) (s : Ms t h G0 g w r j) (a k : Nat) (v : Int32) (ha : a = 123 ∨ (a = 113 ∧ (k = 25 ∨ k = 26))) : Ms t h G0 (uI g a k v) w r j :=
  ⟨fun q hq => by rw [hI_uI_n (by omega)]; exact s.1 q hq, fun q hq => by rw [hI_uI_n (by omega), hI_uI_n (by omega)]; exact s.2.1 q hq, s.2.2.1.I _ _ _ (by unfold relI inT; omega), by rw [hI_uI_n (by omega)]; exact s.2.2.2⟩
/-- the table's first entries -/
def Tb (x : Nat → Int32) (g : HP) (n : Nat) : Prop := ∀ i, i ≤ n → hI g 123 i = x i
theorem in_no {x : Nat → Int32} {K : Int32 → HP → Option (Int32 × HP)} {g : HP} {k : Nat} (hk : k ≤ 2000) (T : Tb x g k) (no : ∀ i, i < k → x i ≠ x k) : ∀ d i n, i + d = k → d < n → f_X12_comesAgain_52 K n (nI k) (nI i) g = K (nI (k + 1)) g
  | d, i, 0, _, z => absurd z (by omega)
  | 0, i, n + 1, e, _ => by
    unfold f_X12_comesAgain_52
    rw [if_pos (by rw [nI_leI (by omega) (by omega)]; omega)]
    simp only [ltv_e, nI_1]
  | d + 1, i, n + 1, e, z => by
    unfold f_X12_comesAgain_52
    rw [if_neg (by rw [nI_leI (by omega) (by omega)]; omega), gdi_nI (by omega) (by decide), gdi_nI (by omega) (by decide), nI_clamp (by omega), nI_clamp (by omega), T i (by omega), T k (by omega), if_neg (no i (by omega))]
    simp only [ltv_e, nI_1]
    exact in_no hk T no d (i + 1) n (by omega) (by omega)
theorem in_yes {x : Nat → Int32} {K : Int32 → HP → Option (Int32 × HP)} {g : HP} {k m : Nat} (hk : k ≤ 2000) (T : Tb x g k) (hm : m < k) (y : x m = x k) (no : ∀ i, i < m → x i ≠ x k) : ∀ d i n, i + d = m → d < n → f_X12_comesAgain_52 K n (nI k) (nI i) g = some (1, uI (uI g 113 25 (nI m)) 113 26 (nI (k - m)))
  | d, i, 0, _, z => absurd z (by omega)
  | 0, i, n + 1, e, _ => by
    have e : i = m := by omega
    subst e
    unfold f_X12_comesAgain_52
    rw [if_neg (by rw [nI_leI (by omega) (by omega)]; omega), gdi_nI (by omega) (by decide), gdi_nI (by omega) (by decide), nI_clamp (by omega), nI_clamp (by omega), T i (by omega), T k (by omega), if_pos y, nI_sub (by omega)]
    simp only [ltv_e]
  | d + 1, i, n + 1, e, z => by
    unfold f_X12_comesAgain_52
    rw [if_neg (by rw [nI_leI (by omega) (by omega)]; omega), gdi_nI (by omega) (by decide), gdi_nI (by omega) (by decide), nI_clamp (by omega), nI_clamp (by omega), T i (by omega), T k (by omega), if_neg (no i (by omega))]
    simp only [ltv_e, nI_1]
    exact in_yes hk T hm y no d (i + 1) n (by omega) (by omega)
theorem tb_step {h G0 g : HP} {t w r m c : Nat} {j : Bool} (ht : t = 79 ∨ t = 96) (T : TW h t w r m c j) (s : Ms t h G0 g w r j) {k : Nat} (h1 : 1 ≤ k) (hk : k ≤ 2000) (tb : Tb (fun i => itN (nxF h t) i (hI h 114 3)) g (k - 1)) (n : Nat) :
    f_X12_comesAgain_18 (n + 1) (nI k) g = f_X12_comesAgain_52 (f_X12_comesAgain_18 n) FU (nI k) 0 (uI g 123 k (itN (nxF h t) k (hI h 114 3))) ∧ Ms t h G0 (uI g 123 k (itN (nxF h t) k (hI h 114 3))) w r j ∧ Tb (fun i => itN (nxF h t) i (hI h 114 3)) (uI g 123 k (itN (nxF h t) k (hI h 114 3))) k := by
  refine ⟨?_, s.I ht _ _ _ (Or.inl rfl), fun i hi => ?_⟩
  · conv => lhs; unfold f_X12_comesAgain_18
    have e1 : nI k - 1 = nI (k - 1) := nI_sub (a := k) (b := 1) h1
    have e2 : hI g 123 (k - 1) = itN (nxF h t) (k - 1) (hI h 114 3) := tb (k - 1) (Nat.le_refl _)
    rw [if_neg (by rw [show (2000 : Int32) = nI 2000 from rfl, nI_ltI (by omega) (by omega)]; omega), e1, gdi_nI (by omega) (by decide), nI_clamp (by omega), e2, T.bec s.1 s.2.1 (T.it _ T.pic), bd2_s, gdi_nI (by omega) (by decide), nI_clamp (by omega), ← itN_last (nxF h t) (k - 1) (hI h 114 3), show k - 1 + 1 = k by omega]
    simp only [ltv_e]
  · by_cases e : i = k
    · subst e; rw [hI_uI_s]
    · rw [hI_uI_n (by omega)]; exact tb i (by omega)
theorem tb_A {h G0 : HP} {t w r m c : Nat} {j : Bool} (ht : t = 79 ∨ t = 96) (T : TW h t w r m c j) {a l : Nat} (C : Cyc (fun i => itN (nxF h t) i (hI h 114 3)) a l) : ∀ d k n g, k + d = a + l → 1 ≤ k → d < n → Ms t h G0 g w r j → Tb (fun i => itN (nxF h t) i (hI h 114 3)) g (k - 1) →
    ∃ g', f_X12_comesAgain_18 n (nI k) g = some (1, g') ∧ Ms t h G0 g' w r j ∧ Tb (fun i => itN (nxF h t) i (hI h 114 3)) g' (a + l) ∧ hI g' 113 25 = nI a ∧ hI g' 113 26 = nI l
  | d, k, 0, g, _, _, z, _, _ => absurd z (by omega)
  | 0, k, n + 1, g, e, h1, _, s, tb => by
    have c1 := C.1
    have c2 := C.2.1
    have e : k = a + l := by omega
    subst e
    obtain ⟨e1, s1, tb1⟩ := tb_step ht T s h1 c2 tb n
    have y := in_yes (K := f_X12_comesAgain_18 n) c2 tb1 (m := a) (by omega) C.2.2.1.symm (fun i hi q => C.2.2.2 i a hi (by omega) (q.trans C.2.2.1)) a 0 FU (by omega) (FU_gt (by omega))
    rw [show a + l - a = l by omega] at y
    have y' : f_X12_comesAgain_52 (f_X12_comesAgain_18 n) FU (nI (a + l)) 0 (uI g 123 (a + l) (itN (nxF h t) (a + l) (hI h 114 3))) = _ := y
    rw [e1, y']
    refine ⟨_, rfl, (s1.I ht 113 25 _ (Or.inr ⟨rfl, Or.inl rfl⟩)).I ht 113 26 _ (Or.inr ⟨rfl, Or.inr rfl⟩), fun i hi => by rw [hI_uI_n (by omega), hI_uI_n (by omega)]; exact tb1 i hi, by rw [hI_uI_n (by omega), hI_uI_s], by rw [hI_uI_s]⟩
  | d + 1, k, n + 1, g, e, h1, z, s, tb => by
    have c1 := C.1
    have c2 := C.2.1
    obtain ⟨e1, s1, tb1⟩ := tb_step ht T s h1 (by omega) tb n
    have y := in_no (K := f_X12_comesAgain_18 n) (k := k) (by omega) tb1 (fun i hi => C.2.2.2 i k hi (by omega)) k 0 FU (by omega) (FU_gt (by omega))
    have y' : f_X12_comesAgain_52 (f_X12_comesAgain_18 n) FU (nI k) 0 (uI g 123 k (itN (nxF h t) k (hI h 114 3))) = _ := y
    rw [e1, y']
    exact tb_A ht T C d (k + 1) n _ (by omega) (by omega) (by omega) s1 (by rw [show k + 1 - 1 = k by omega]; exact tb1)
theorem tb_B {h G0 : HP} {t w r m c : Nat} {j : Bool} (ht : t = 79 ∨ t = 96) (T : TW h t w r m c j) (C : NoCyc (fun i => itN (nxF h t) i (hI h 114 3))) : ∀ d k n g, k + d = 2001 → 1 ≤ k → d < n → Ms t h G0 g w r j → Tb (fun i => itN (nxF h t) i (hI h 114 3)) g (k - 1) →
    ∃ g', f_X12_comesAgain_18 n (nI k) g = some (0, g') ∧ Ms t h G0 g' w r j
  | d, k, 0, g, _, _, z, _, _ => absurd z (by omega)
  | 0, k, n + 1, g, e, h1, _, s, tb => by
    refine ⟨g, ?_, s⟩
    unfold f_X12_comesAgain_18
    rw [if_pos (by rw [show (2000 : Int32) = nI 2000 from rfl, nI_ltI (by omega) (by omega)]; omega)]
  | d + 1, k, n + 1, g, e, h1, z, s, tb => by
    obtain ⟨e1, s1, tb1⟩ := tb_step ht T s h1 (by omega) tb n
    have y := in_no (K := f_X12_comesAgain_18 n) (k := k) (by omega) tb1 (fun i hi => C i k hi (by omega)) k 0 FU (by omega) (FU_gt (by omega))
    have y' : f_X12_comesAgain_52 (f_X12_comesAgain_18 n) FU (nI k) 0 (uI g 123 k (itN (nxF h t) k (hI h 114 3))) = _ := y
    rw [e1, y']
    exact tb_B ht T C d (k + 1) n _ (by omega) (by omega) (by omega) s1 (by rw [show k + 1 - 1 = k by omega]; exact tb1)
theorem roundM {h G0 : HP} {t w r m c : Nat} {j : Bool} (ht : t = 79 ∨ t = 96) (T : TW h t w r m c j) (sm : SmN h G0) :
    (NoCyc (fun i => itN (nxF h t) i (hI h 114 3)) ∧ ∃ g', f_X12_comesAgain G0 = some (0, g') ∧ Ms t h G0 g' w r j) ∨
    ∃ a l, Cyc (fun i => itN (nxF h t) i (hI h 114 3)) a l ∧ ∃ g', f_X12_comesAgain G0 = some (1, g') ∧ Ms t h G0 g' w r j ∧ Tb (fun i => itN (nxF h t) i (hI h 114 3)) g' (a + l) ∧ hI g' 113 25 = nI a ∧ hI g' 113 26 = nI l := by
  have s0 : Ms t h G0 (lnH G0 w r j) w r j := ⟨sm.ln w r j, lnH_LN G0 w r j, (Sm.refl t G0).ln ht w r j, by rw [lnH_I _ _ _ _ (by decide)]⟩
  have s1 := s0.I ht 123 0 (hI h 114 3) (Or.inl rfl)
  have tb : Tb (fun i => itN (nxF h t) i (hI h 114 3)) (uI (lnH G0 w r j) 123 0 (hI h 114 3)) (1 - 1) := fun i hi => by
    have : i = 0 := by omega
    subst this; rw [hI_uI_s]; rfl
  have e0 : f_X12_comesAgain G0 = f_X12_comesAgain_18 FU (nI 1) (uI (lnH G0 w r j) 123 0 (hI h 114 3)) := by
    unfold f_X12_comesAgain
    rw [T.ln sm, bd1_s, lnH_I _ _ _ _ (by decide), sm 3 (by omega)]
    simp only [ltv_e]; rfl
  rcases cyc_or (fun i => itN (nxF h t) i (hI h 114 3)) with q | ⟨a, l, q⟩
  · obtain ⟨g', e1, r1⟩ := tb_B (G0 := G0) ht T q 2000 1 FU _ (by omega) (by omega) (FU_gt (by decide)) s1 tb
    exact Or.inl ⟨q, g', e0.trans e1, r1⟩
  · have q1 := q.1
    have q2 := q.2.1
    obtain ⟨g', e1, r1⟩ := tb_A (G0 := G0) ht T q (a + l - 1) 1 FU _ (by omega) (by omega) (FU_gt (by omega)) s1 tb
    exact Or.inr ⟨a, l, q, g', e0.trans e1, r1⟩
theorem cyc_uq {F : Int32 → Int32} {p : Int32} {a l a' l' : Nat} (C : Cyc (fun i => itN F i p) a l) (D : Cyc (fun i => itN F i p) a' l') : a = a' ∧ l = l' := by
  have el : l' = l := cyc_len C D.1 D.2.2.1 (fun L' q1 q2 z => D.2.2.2 a' (a' + L') (by omega) (by omega) z.symm)
  subst el
  refine ⟨?_, rfl⟩
  have h1 := C.2.2.2
  have h2 := D.2.2.2
  have d1 := D.1
  refine Classical.byContradiction (fun q => ?_)
  rcases Nat.lt_or_gt_of_ne q with q | q
  · exact h2 a (a + l') (by omega) (by omega) C.2.2.1.symm
  · exact h1 a' (a' + l') (by omega) (by omega) D.2.2.1.symm
