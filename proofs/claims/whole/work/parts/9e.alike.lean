/-! ===== alike: ancestors, stills ===== -/
theorem lsN_ext {P : Nat → Bool} {B : Nat} (hB : B ≤ 32) {k : Nat} (hk : k < B) (h : P k = true) : lsN P B 0 = lsN P 32 0 := by
  obtain ⟨a1, a2, a3⟩ := lsN_P (P := P) (d := B) (a := 0) (Nat.zero_le k) (by omega) h
  obtain ⟨b1, b2, b3⟩ := lsN_P (P := P) (d := 32) (a := 0) (Nat.zero_le k) (by omega) h
  obtain ⟨c1, c2, c3⟩ := lsN_P (P := P) (d := B) (a := 0) (k := lsN P 32 0) (Nat.zero_le _) (by omega) b1
  obtain ⟨d1, d2, d3⟩ := lsN_P (P := P) (d := 32) (a := 0) (k := lsN P B 0) (Nat.zero_le _) (by omega) a1
  omega
theorem ao_lp {h G : HP} {t w r m c : Nat} {j : Bool} (T : TW h t w r m c j) (sm : SmN h G) (st : Bool) {z1 z2 : Nat → Int64} {z3 : Nat → Int32} {y y0 row below : Nat} (hr0 : r = y0 + 1) (hy : y ≤ y0) (h3 : Z3 h t w r j st y0 z3) (hrow : row < 2 ^ w) {Bd : Nat} (hBd : Bd = if y = 0 then 1 else 2 ^ w) : ∀ d a n, a + d = Bd → d < n →
    ((∃ k, a ≤ k ∧ k < a + d ∧ pkP (tft h t r) (tgd h t w r j st) y row below k = true) → f_X12_aboveOf_3 n (nI row) (nI below) (nI y) (if st then 1 else 0) (nI a) (wm G z1 z2 z3) = some (nI (lsN (pkP (tft h t r) (tgd h t w r j st) y row below) d a), wm G z1 z2 z3)) ∧
    ((∀ k, a ≤ k → k < a + d → pkP (tft h t r) (tgd h t w r j st) y row below k = false) → f_X12_aboveOf_3 n (nI row) (nI below) (nI y) (if st then 1 else 0) (nI a) (wm G z1 z2 z3) = some (-1, wm G z1 z2 z3))
  | d, a, 0, _, z => absurd z (by omega)
  | 0, a, n + 1, e, _ => by
    obtain ⟨⟨w1, w5, hw, hw'⟩, ⟨r1, r6, hr, hr'⟩, -⟩ := T.1.n
    obtain ⟨pw1, pw2⟩ := pw_le w5
    refine ⟨fun ⟨k, k1, k2, _⟩ => absurd k2 (by omega), fun _ => ?_⟩
    unfold f_X12_aboveOf_3
    by_cases y0 : y = 0
    · subst y0
      rw [if_pos (show nI 0 = 0 from rfl)]
      rw [if_pos rfl] at hBd
      unfold f_X12_aboveOf_21
      rw [if_pos (by rw [show (1 : Int32) = nI 1 from rfl, nI_leI (by omega) (by omega)]; omega)]
    · rw [if_neg (fun z => y0 ((nI0' (by omega)).mp z)), wm_I _ _ _ _ (by decide), sm 0 (by omega), hw, p2_e w (by omega)]
      rw [if_neg y0] at hBd
      unfold f_X12_aboveOf_21
      rw [if_pos (by rw [nI_leI (by omega) (by omega)]; omega)]
  | d + 1, a, n + 1, e, _ => by
    obtain ⟨⟨w1, w5, hw, hw'⟩, ⟨r1, r6, hr, hr'⟩, -⟩ := T.1.n
    obtain ⟨pw1, pw2⟩ := pw_le w5
    have a32 : a < 2 ^ w := by
      by_cases y0 : y = 0
      · rw [if_pos y0] at hBd; omega
      · rw [if_neg y0] at hBd; omega
    have ih := ao_lp T sm st (z1 := z1) (z2 := z2) hr0 hy h3 hrow (below := below) hBd d (a + 1) n (by omega) (by omega)
    obtain ⟨P, eP⟩ : ∃ P, P = pkP (tft h t r) (tgd h t w r j st) y row below := ⟨_, rfl⟩
    rw [← eP] at ih ⊢
    have x := h3 y (32 * a + row) (by omega) (by omega)
    rw [show (32 * a + row) / 32 = a by omega, show (32 * a + row) % 32 = row by omega] at x
    have core : f_X12_aboveOf_21 (f_X12_aboveOf_3 n) (nI row) (nI below) (nI y) (if st then 1 else 0) (nI a) (nI a) (nI Bd) (wm G z1 z2 z3) = if P a = true then some (nI a, wm G z1 z2 z3) else f_X12_aboveOf_3 n (nI row) (nI below) (nI y) (if st then 1 else 0) (nI (a + 1)) (wm G z1 z2 z3) := by
      have hB : Bd ≤ 32 := by
        rw [hBd]; split <;> omega
      unfold f_X12_aboveOf_21
      rw [if_neg (by rw [nI_leI (by omega) (by omega)]; omega), show (1024 : Int32) = nI 1024 from rfl, show (32 : Int32) = nI 32 from rfl, nI_mul, nI_mul, nI_add, nI_add, gdi_nI (by omega) (by decide), nI_clamp (by omega), wm_3, show 1024 * y + 32 * a + row = 1024 * y + (32 * a + row) by omega, x]
      have Pa : P a = (decide (rcW h t w r j st y a row ≠ 0) && tgd h t w r j st y a row below) := by rw [eP]; rfl
      by_cases c0 : rcW h t w r j st y a row = 0
      · have cc : ∀ q : Bool, ¬ ((decide ((0 : Nat) ≠ 0) && q) = true) := fun q => by simp
        rw [if_pos c0, if_neg (by decide), Pa, c0, if_neg (cc _)]
        simp only [ltv_e, nI_1]
      · rw [if_neg c0, if_pos rfl, good_e T (wm_sm sm _ _ _) (show y ≤ r by omega) hrow st, bd2_s, Pa, decide_eq_true c0, Bool.true_and]
        by_cases g : tgd h t w r j st y a row below = true
        · rw [if_pos g, if_neg (by decide), if_pos g]
        · rw [if_neg g, if_pos rfl, if_neg g]
          simp only [ltv_e, nI_1]
    have unf : f_X12_aboveOf_3 (n + 1) (nI row) (nI below) (nI y) (if st then 1 else 0) (nI a) (wm G z1 z2 z3) = f_X12_aboveOf_21 (f_X12_aboveOf_3 n) (nI row) (nI below) (nI y) (if st then 1 else 0) (nI a) (nI a) (nI Bd) (wm G z1 z2 z3) := by
      rw [show f_X12_aboveOf_3 (n + 1) = (fun l1 l2 l3 l4 l5 h => if l3 = (0 : Int32) then f_X12_aboveOf_21 (f_X12_aboveOf_3 n) l1 l2 l3 l4 l5 l5 1 h else f_X12_aboveOf_21 (f_X12_aboveOf_3 n) l1 l2 l3 l4 l5 l5 ((1 : Int32) <<< ((hI h 114 0) &&& 31)) h) from rfl]
      by_cases y0 : y = 0
      · subst y0
        rw [if_pos rfl] at hBd
        rw [hBd]
        exact if_pos (show nI 0 = 0 from rfl)
      · rw [if_neg y0] at hBd
        rw [hBd]
        show (if nI y = 0 then _ else _) = _
        rw [if_neg (fun z => y0 ((nI0' (by omega)).mp z)), wm_I _ _ _ _ (by decide), sm 0 (by omega), hw, p2_e w (by omega)]
    rw [unf, core]
    by_cases pa : P a = true
    · have l : lsN P (d + 1) a = a := by unfold lsN; rw [if_pos pa]
      rw [if_pos pa, l]
      exact ⟨fun _ => rfl, fun z => by have := z a (Nat.le_refl a) (by omega); rw [pa] at this; cases this⟩
    · have l : lsN P (d + 1) a = lsN P d (a + 1) := by
        show (if P a = true then _ else _) = _
        rw [if_neg pa]
      rw [if_neg pa, l]
      refine ⟨fun ⟨k, k1, k2, k3⟩ => ih.1 ⟨k, ?_, by omega, k3⟩, fun z => ih.2 (fun k k1 k2 => z k (by omega) (by omega))⟩
      by_cases e : k = a
      · rw [e] at k3; exact absurd k3 pa
      · omega
theorem ao_e {h G : HP} {t w r m c : Nat} {j : Bool} (T : TW h t w r m c j) (sm : SmN h G) (st : Bool) {z1 z2 : Nat → Int64} {z3 : Nat → Int32} {y y0 row below : Nat} (hr0 : r = y0 + 1) (hy : y ≤ y0) (h3 : Z3 h t w r j st y0 z3) (hrow : row < 2 ^ w) :
    ((∃ a, pkP (tft h t r) (tgd h t w r j st) y row below a = true) → f_X12_aboveOf (wm G z1 z2 z3) (nI row) (nI below) (nI y) (if st then 1 else 0) = some (nI (pkN (tft h t r) (tgd h t w r j st) y row below), wm G z1 z2 z3) ∧ pkP (tft h t r) (tgd h t w r j st) y row below (pkN (tft h t r) (tgd h t w r j st) y row below) = true) ∧
    ((∀ a, pkP (tft h t r) (tgd h t w r j st) y row below a = false) → f_X12_aboveOf (wm G z1 z2 z3) (nI row) (nI below) (nI y) (if st then 1 else 0) = some (-1, wm G z1 z2 z3)) := by
  obtain ⟨⟨w1, w5, hw, hw'⟩, ⟨r1, r6, hr, hr'⟩, -⟩ := T.1.n
  obtain ⟨pw1, pw2⟩ := pw_le w5
  obtain ⟨Bd, hBd⟩ : ∃ Bd, Bd = if y = 0 then 1 else 2 ^ w := ⟨_, rfl⟩
  have B32 : Bd ≤ 32 ∧ 0 < Bd := by rw [hBd]; split <;> omega
  have lp := ao_lp T sm st (z1 := z1) (z2 := z2) hr0 hy h3 hrow (below := below) hBd Bd 0 FU (by omega) (FU_gt (by omega))
  have top : ∀ k, pkP (tft h t r) (tgd h t w r j st) y row below k = true → k < Bd := fun k hk => by
    unfold pkP at hk
    rw [Bool.and_eq_true, decide_eq_true_eq] at hk
    rw [hBd]
    by_cases y0 : y = 0
    · rw [if_pos y0]
      have z := hk.1
      rw [y0] at z
      unfold cW at z
      by_cases q : k = 0 ∧ tft h t r 0 row = true
      · omega
      · rw [if_neg q] at z; exact absurd rfl z
    · rw [if_neg y0]
      exact (cW_0 (tft_lt T) (by omega) hk.1).1
  have un : ∀ q, f_X12_aboveOf_3 FU (nI row) (nI below) (nI y) (if st then 1 else 0) (nI 0) (wm G z1 z2 z3) = q → f_X12_aboveOf (wm G z1 z2 z3) (nI row) (nI below) (nI y) (if st then 1 else 0) = q := fun q e => by
    unfold f_X12_aboveOf
    rw [show nI 0 = 0 from rfl] at e
    exact e
  obtain ⟨P, eP⟩ : ∃ P, P = pkP (tft h t r) (tgd h t w r j st) y row below := ⟨_, rfl⟩
  have eN : pkN (tft h t r) (tgd h t w r j st) y row below = lsN P 32 0 := by rw [eP]; rfl
  rw [eN]
  rw [← eP] at lp top ⊢
  refine ⟨?_, fun no => un _ ?_⟩
  · rintro ⟨k, hk⟩
    have e := lsN_ext B32.1 (top k hk) hk
    obtain ⟨b1, b2, b3⟩ := lsN_P (P := P) (d := Bd) (a := 0) (Nat.zero_le k) (by have := top k hk; omega) hk
    refine ⟨un _ ?_, by rw [← e]; exact b1⟩
    rw [lp.1 ⟨k, Nat.zero_le k, by have := top k hk; omega, hk⟩, e]
  · exact lp.2 (fun k _ _ => no k)
theorem l66 {h G : HP} {t w r m c : Nat} {j : Bool} (T : TW h t w r m c j) (sm : SmN h G) (st : Bool) {z1 z2 : Nat → Int64} {z3 : Nat → Int32} {y0 : Nat} (hr0 : r = y0 + 1) (h3 : Z3 h t w r j st y0 z3) : ∀ y n row above its, y ≤ y0 → y < n → (0 < y → cW (tft h t r) (tgd h t w r j st) y above row ≠ 0) →
    f_X12_least_66 n (if st then 1 else 0) (nI y) (nI row) (nI above) its (wm G z1 z2 z3) = some ((dsc (tft h t r) (tgd h t w r j st) w y row above its).toInt64, wm G z1 z2 z3)
  | y, 0, _, _, _, _, z, _ => absurd z (by omega)
  | 0, n + 1, row, above, its, _, _, _ => by
    unfold f_X12_least_66
    rw [if_pos (show nI 0 ≤ 0 by decide)]
    rfl
  | y + 1, n + 1, row, above, its, hy, _, hc => by
    obtain ⟨⟨w1, w5, hw, hw'⟩, ⟨r1, r6, hr, hr'⟩, -⟩ := T.1.n
    obtain ⟨pw1, pw2⟩ := pw_le w5
    have c1 := hc (by omega)
    obtain ⟨a1, a2⟩ := cW_0 (tft_lt T) (by omega) c1
    obtain ⟨k, k1, k2, k3⟩ := cW_up c1
    obtain ⟨e1, e2⟩ := (ao_e T sm st (z1 := z1) (z2 := z2) (y := y) (row := above) (below := row) hr0 (by omega) h3 a1).1 ⟨k, by unfold pkP; rw [k2, decide_eq_true k3]; rfl⟩
    have e3 : cW (tft h t r) (tgd h t w r j st) y (pkN (tft h t r) (tgd h t w r j st) y above row) above ≠ 0 := by
      unfold pkP at e2
      rw [Bool.and_eq_true, decide_eq_true_eq] at e2
      exact e2.1
    have m1 : nI (y + 1) + (-1) = nI y := by
      rw [show nI (y + 1) + (-1) = nI (y + 1) - 1 from (by rw [Int32.sub_eq_add_neg])]
      exact nI_sub (a := y + 1) (b := 1) (by omega)
    unfold f_X12_least_66
    rw [if_neg (by rw [show (0 : Int32) = nI 0 from rfl, nI_leI (by omega) (by omega)]; omega), ltv_e, m1, ltv_e, wm_I _ _ _ _ (by decide), sm 0 (by omega), hw, nI_mul, e1, bd2_s, l66 T sm st hr0 h3 y n above _ _ (by omega) (by omega) (fun _ => e3)]
    have ed : dsc (tft h t r) (tgd h t w r j st) w (y + 1) row above its = dsc (tft h t r) (tgd h t w r j st) w y above (if y = 0 then 0 else pkN (tft h t r) (tgd h t w r j st) y above row) (its ||| (nI above <<< (nI (w * y) &&& 31))) := rfl
    rw [ed]
    by_cases y0 : y = 0
    · subst y0; rfl
    · rw [if_neg y0]
theorem l17 {h G : HP} {t w r m c : Nat} {j : Bool} (T : TW h t w r m c j) (sm : SmN h G) (st : Bool) {z1 z2 : Nat → Int64} {z3 : Nat → Int32} {y0 : Nat} (hr0 : r = y0 + 1) (h3 : Z3 h t w r j st y0 z3) {top : Nat} (ht1 : toP (tft h t r) (tgd h t w r j st) r top = true) (ht2 : ∀ k, k < top → toP (tft h t r) (tgd h t w r j st) r k = false) : ∀ d row n, row + d = top → d + 1 < n →
    f_X12_least_17 n (if st then 1 else 0) (nI y0) 0 (nI row) (-1) (wm G z1 z2 z3) = some ((dsc (tft h t r) (tgd h t w r j st) w r 0 top 0).toInt64, wm G z1 z2 z3)
  | d, row, 0, _, z => absurd z (by omega)
  | d, row, 1, _, z => absurd z (by omega)
  | 0, row, n + 1 + 1, e, _ => by
    obtain ⟨⟨w1, w5, hw, hw'⟩, ⟨r1, r6, hr, hr'⟩, -⟩ := T.1.n
    obtain ⟨pw1, pw2⟩ := pw_le w5
    have e : row = top := by omega
    subst e
    unfold toP at ht1
    rw [decide_eq_true_eq] at ht1
    obtain ⟨a1, a2⟩ := cW_0 (tft_lt T) (by omega) ht1
    rw [hr0] at ht1
    obtain ⟨k, k1, k2, k3⟩ := cW_up ht1
    rw [← hr0] at k2 k3
    obtain ⟨e1, e2⟩ := (ao_e T sm st (z1 := z1) (z2 := z2) (y := y0) (row := row) (below := 0) hr0 (Nat.le_refl _) h3 a1).1 ⟨k, by unfold pkP; rw [k2, decide_eq_true k3]; rfl⟩
    rw [show nI 0 = 0 from rfl] at e1
    have e3 : cW (tft h t r) (tgd h t w r j st) y0 (pkN (tft h t r) (tgd h t w r j st) y0 row 0) row ≠ 0 := by
      unfold pkP at e2
      rw [Bool.and_eq_true, decide_eq_true_eq] at e2
      exact e2.1
    have p32 := (cW_0 (tft_lt T) (by omega) e3).1
    unfold f_X12_least_17
    rw [if_pos rfl, e1, bd2_s, if_neg (nI_m1 (by omega)), ltv_e, Int32.add_zero]
    unfold f_X12_least_17
    rw [if_neg (nI_m1 (by omega)), ltv_e, wm_I _ _ _ _ (by decide), sm 0 (by omega), hw, nI_mul, l66 T sm st hr0 h3 y0 FU row _ _ (Nat.le_refl _) (FU_gt (by omega)) (fun _ => e3)]
    rw [show dsc (tft h t r) (tgd h t w r j st) w r 0 row 0 = dsc (tft h t r) (tgd h t w r j st) w (y0 + 1) 0 row 0 from by rw [← hr0]]
    show _ = some ((dsc (tft h t r) (tgd h t w r j st) w y0 row (if y0 = 0 then 0 else pkN (tft h t r) (tgd h t w r j st) y0 row 0) (0 ||| (nI row <<< (nI (w * y0) &&& 31)))).toInt64, _)
    rw [zor]
    by_cases q : y0 = 0
    · subst q; rfl
    · rw [if_neg q]
  | d + 1, row, n + 1 + 1, e, _ => by
    obtain ⟨⟨w1, w5, hw, hw'⟩, ⟨r1, r6, hr, hr'⟩, -⟩ := T.1.n
    obtain ⟨pw1, pw2⟩ := pw_le w5
    have tt := ht1
    unfold toP at tt
    rw [decide_eq_true_eq] at tt
    obtain ⟨a1, -⟩ := cW_0 (tft_lt T) (by omega) tt
    have f0 := (tW_31 (rw_ok T) (tgd h t w r j st)).2
    have no := ht2 row (by omega)
    have e1 := (ao_e T sm st (z1 := z1) (z2 := z2) (y := y0) (row := row) (below := 0) hr0 (Nat.le_refl _) h3 (by omega)).2 (fun a => by
      cases q : pkP (tft h t r) (tgd h t w r j st) y0 row 0 a
      · rfl
      · unfold pkP at q
        rw [Bool.and_eq_true, decide_eq_true_eq] at q
        have := cW_dn (ft := tft h t r) (gd := tgd h t w r j st) (y := y0) (c := 0) (by have := (cW_0 (tft_lt T) (by omega) q.1).1; omega) (by rw [← hr0]; exact (f0 0 (by decide)).mpr rfl) q.2 q.1
        rw [← hr0] at this
        unfold toP at no
        rw [decide_eq_true this] at no; cases no)
    rw [show nI 0 = 0 from rfl] at e1
    unfold f_X12_least_17
    rw [if_pos rfl, e1, bd2_s, if_pos rfl, ltv_e, nI_1]
    exact l17 T sm st hr0 h3 ht1 ht2 d (row + 1) (n + 1) (by omega) (by omega)
theorem least_e {h G : HP} {t w r m c : Nat} {j : Bool} (T : TW h t w r m c j) (sm : SmN h G) (st : Bool) {z1 z2 : Nat → Int64} {z3 : Nat → Int32} {y0 : Nat} (hr0 : r = y0 + 1) (h3 : Z3 h t w r j st y0 z3) (ne : tW (tft h t r) (tgd h t w r j st) r ≠ 0) :
    f_X12_least (wm G z1 z2 z3) (if st then 1 else 0) = some ((dsc (tft h t r) (tgd h t w r j st) w r 0 (lsN (toP (tft h t r) (tgd h t w r j st) r) 32 0) 0).toInt64, wm G z1 z2 z3) := by
  obtain ⟨⟨w1, w5, hw, hw'⟩, ⟨r1, r6, hr, hr'⟩, -⟩ := T.1.n
  obtain ⟨pw1, pw2⟩ := pw_le w5
  have f0 := (tW_31 (rw_ok T) (tgd h t w r j st)).2
  obtain ⟨a, ha, ea⟩ := sumN_ne ne
  obtain ⟨b, hb, eb⟩ := sumN_ne ea
  have b0 : b = 0 := (f0 b hb).mp (cW_ft eb)
  subst b0
  have ta : toP (tft h t r) (tgd h t w r j st) r a = true := by unfold toP; exact decide_eq_true eb
  obtain ⟨t1, t2, t3⟩ := lsN_P (P := toP (tft h t r) (tgd h t w r j st) r) (d := 32) (a := 0) (Nat.zero_le a) (by omega) ta
  have e := l17 T sm st (z1 := z1) (z2 := z2) hr0 h3 t1 (fun k hk => by
    cases q : toP (tft h t r) (tgd h t w r j st) r k
    · rfl
    · have := (lsN_P (P := toP (tft h t r) (tgd h t w r j st) r) (d := 32) (a := 0) (Nat.zero_le k) (by omega) q).2.2
      omega) _ 0 FU (Nat.zero_add _) (by
        have : lsN (toP (tft h t r) (tgd h t w r j st) r) 32 0 + 1 < 1000000 := by omega
        exact this)
  unfold f_X12_least
  rw [ltv_e, wm_I _ _ _ _ (by decide), sm 1 (by omega), hr, show nI r - 1 = nI y0 from (by rw [hr0]; exact nI_sub (a := y0 + 1) (b := 1) (by omega))]
  exact e
theorem wm_Sm {t : Nat} (ht : t = 79 ∨ t = 96) (G : HP) (z1 z2 : Nat → Int64) (z3 : Nat → Int32) : Sm t G (wm G z1 z2 z3) := by
  unfold wm
  exact (((Sm.refl t G).rI 126 z3 (fun j q => by unfold relI inT at q; omega)).rL 124 z1 (fun j q => by unfold relL inTL at q; omega)).rL 125 z2 (fun j q => by unfold relL inTL at q; omega)
theorem wy_AS {h g : HP} (s : AS h g) (u f : Nat → Int32) : AS h (wy g u f) := by unfold wy; exact (s.rI 68 u (by omega)).rI 66 f (by omega)
theorem opL_count {h : HP} {t u : Nat} (I : Inv h t u) (st : Bool) {f1 : Option (Int64 × HP)} {f2 : HP → Option (Int64 × HP)}
    (e1 : f1 = bd2 (f_X0_countWays h t (if st then 1 else 0)) fun r3 h2 => bd2 (f_X11_answer h2 r3) fun r6 h5 => some ((Int32.toInt64 r6), h5))
    (e2 : ∀ g, f2 g = bd2 (f_X12_reckons g (if st then 1 else 0)) fun r3 h2 => bd2 (f_X12_givesLong h2 r3) fun r6 h5 => some (r6, h5)) : OpL t u f1 f2 := by
  have ht := I.t
  obtain ⟨w, r, m, c, j, T⟩ := I.tw
  obtain ⟨g, a, f, c1, s, -, -⟩ := count_e ht T st
  have s1 := (wy_AS s a f).sc ht
  have sm : SmN h (uI (wy g a f) 0 11 0) := s1.n ht 0
  obtain ⟨z1, z2, z3, c2, -⟩ := reck_e T sm st
  have l31 : tW (tft h t r) (tgd h t w r j st) r < 2 ^ 31 := (tW_31 (rw_ok T) (tgd h t w r j st)).1
  refine opL_sc I (g1 := wy g a f) (v := 0) (r := nJ (tW (tft h t r) (tgd h t w r j st) r)) ?_ s1.2 (g2 := wm (uI (wy g a f) 0 11 0) z1 z2 z3) ?_ (wm_Sm ht _ _ _ _) (by rw [wm_I _ _ _ _ (by decide), hI_uI_s])
  · rw [e1, c1, bd2_s, ans_e, bd2_s, nI_J l31]
  · rw [e2, c2, bd2_s, gvl_e, bd2_s]
theorem opL_first {h : HP} {t u : Nat} (I : Inv h t u) (st : Bool) {f1 : Option (Int64 × HP)} {f2 : HP → Option (Int64 × HP)}
    (e1 : f1 = bd2 (f_X0_countWays h t (if st then 1 else 0)) fun r3 h2 => if r3 = (0 : Int32) then (bd2 (f_X11_refuse h2 6) fun r13 h12 => some ((Int32.toInt64 r13), h12)) else bd2 (f_X0_leastFound h2) fun r7 h6 => bd2 (f_X11_answer h6 r7) fun r10 h9 => some ((Int32.toInt64 r10), h9))
    (e2 : ∀ g, f2 g = bd2 (f_X12_reckons g (if st then 1 else 0)) fun r3 h2 => if (lg_cmp r3 0) = (0 : Int32) then (bd2 (f_X12_refuse h2 6) fun r13 h12 => some ((Int32.toInt64 r13), h12)) else bd2 (f_X12_least h2 (if st then 1 else 0)) fun r7 h6 => bd2 (f_X12_givesLong h6 r7) fun r10 h9 => some (r10, h9)) : OpL t u f1 f2 := by
  have ht := I.t
  obtain ⟨w, r, m, c, j, T⟩ := I.tw
  obtain ⟨g, a, f, c1, s, C, TB'⟩ := count_e ht T st
  have s1 := (wy_AS s a f).sc ht
  have l31 : tW (tft h t r) (tgd h t w r j st) r < 2 ^ 31 := (tW_31 (rw_ok T) (tgd h t w r j st)).1
  by_cases z0 : tW (tft h t r) (tgd h t w r j st) r = 0
  · obtain ⟨z1, z2, z3, c2, -⟩ := reck_e T (s1.n ht 6) st
    refine opL_sc I (g1 := wy g a f) (v := 6) (r := (-1 : Int32).toInt64) ?_ s1.2 (g2 := wm (uI (wy g a f) 0 11 6) z1 z2 z3) ?_ (wm_Sm ht _ _ _ _) (by rw [wm_I _ _ _ _ (by decide), hI_uI_s])
    · rw [e1, c1, bd2_s, z0, if_pos (show nI 0 = 0 from rfl), ref_e, bd2_s]
    · rw [e2, c2, bd2_s, z0, if_pos ((lgJ_eq (by decide)).mpr rfl), rfs_e, bd2_s]
  · obtain ⟨a2, c3⟩ := leastC C (rw_ok T) TB' a
    have s2 := (wy_AS s a2 f).sc ht
    obtain ⟨z1, z2, z3, c2, y0, hr0, h3⟩ := reck_e T (s2.n ht 0) st
    have c4 := least_e T (s2.n ht 0) st (z1 := z1) (z2 := z2) hr0 h3 z0
    refine opL_sc I (g1 := wy g a2 f) (v := 0) (r := (dsc (tft h t r) (tgd h t w r j st) w r 0 (lsN (toP (tft h t r) (tgd h t w r j st) r) 32 0) 0).toInt64) ?_ s2.2 (g2 := wm (uI (wy g a2 f) 0 11 0) z1 z2 z3) ?_ (wm_Sm ht _ _ _ _) (by rw [wm_I _ _ _ _ (by decide), hI_uI_s])
    · rw [e1, c1, bd2_s, if_neg (fun z => z0 ((nI0' l31).mp z))]
      rw [show f_X0_leastFound (wy g a f) = some (dsc (tft h t r) (tgd h t w r j st) w r 0 (lsN (toP (tft h t r) (tgd h t w r j st) r) 32 0) 0, wy g a2 f) from c3, bd2_s, ans_e, bd2_s]
    · rw [e2, c2, bd2_s, if_neg (fun z => z0 ((lgJ_eq l31).mp z)), c4, bd2_s, gvl_e, bd2_s]
theorem opL_ancestors {h : HP} {t u : Nat} (I : Inv h t u) : OpL t u (f_X11_ancestors h t) (fun g => f_X12_ancestors g) := opL_count I false rfl (fun _ => rfl)
theorem opL_stills {h : HP} {t u : Nat} (I : Inv h t u) : OpL t u (f_X11_stills h t) (fun g => f_X12_stills g) := opL_count I true rfl (fun _ => rfl)
theorem opL_ancestor {h : HP} {t u : Nat} (I : Inv h t u) : OpL t u (f_X11_ancestor h t) (fun g => f_X12_ancestor g) := opL_first I false rfl (fun _ => rfl)
theorem opL_firstStill {h : HP} {t u : Nat} (I : Inv h t u) : OpL t u (f_X11_firstStill h t) (fun g => f_X12_firstStill g) := opL_first I true rfl (fun _ => rfl)
