/-! ===== alike: rows of a picture, the reference: the tables ===== -/
theorem lgJ_eq {n : Nat} (h : n < 2 ^ 31) : lg_cmp (nJ n) 0 = 0 ↔ n = 0 := by rw [lg_cmp_eq]; exact nJ_z h
theorem lgJ_le {n : Nat} (h : n < 2 ^ 31) : lg_cmp (nJ n) 0 ≤ 0 ↔ n = 0 := by
  rw [lgc_le, nJ_t h, show (0 : Int64).toInt = 0 from rfl]; omega
theorem nJ_add (a b : Nat) : nJ a + nJ b = nJ (a + b) := (Int64.ofNat_add a b).symm
/-- the heap with the three tables -/
def wm (G : HP) (z1 z2 : Nat → Int64) (z3 : Nat → Int32) : HP := rL (rL (rI G 126 z3) 124 z1) 125 z2
theorem wm_I (G : HP) (z1 z2 : Nat → Int64) (z3 : Nat → Int32) {b : Nat} (hb : b ≠ 126) : hI (wm G z1 z2 z3) b = hI G b := by unfold wm; rw [hI_rL, hI_rL, hI_rI_n _ _ hb]
theorem wm_3 (G : HP) (z1 z2 : Nat → Int64) (z3 : Nat → Int32) : hI (wm G z1 z2 z3) 126 = z3 := by unfold wm; rw [hI_rL, hI_rL, hI_rI_s]
theorem wm_1 (G : HP) (z1 z2 : Nat → Int64) (z3 : Nat → Int32) : hL (wm G z1 z2 z3) 124 = z1 := by unfold wm; rw [hL_rL_n _ _ (by decide), hL_rL_s]
theorem wm_2 (G : HP) (z1 z2 : Nat → Int64) (z3 : Nat → Int32) : hL (wm G z1 z2 z3) 125 = z2 := by unfold wm; rw [hL_rL_s]
theorem wm_u1 (G : HP) (z1 z2 : Nat → Int64) (z3 : Nat → Int32) (k : Nat) (x : Int64) : uL (wm G z1 z2 z3) 124 k x = wm G (vp_updL z1 k x) z2 z3 := by
  unfold uL; rw [wm_1]; unfold wm
  refine HP_ext rfl rfl (funext fun b => ?_) rfl
  by_cases q : b = 124
  · subst q; rw [hL_rL_s, hL_rL_n _ _ (by decide), hL_rL_s]
  · rw [hL_rL_n _ _ q]
    by_cases q2 : b = 125
    · subst q2; rw [hL_rL_s, hL_rL_s]
    · rw [hL_rL_n _ _ q2, hL_rL_n _ _ q2, hL_rL_n _ _ q, hL_rL_n _ _ q]
theorem wm_u2 (G : HP) (z1 z2 : Nat → Int64) (z3 : Nat → Int32) (k : Nat) (x : Int64) : uL (wm G z1 z2 z3) 125 k x = wm G z1 (vp_updL z2 k x) z3 := by
  unfold uL; rw [wm_2]; unfold wm; rw [rL_rL]
theorem wm_u3 (G : HP) (z1 z2 : Nat → Int64) (z3 : Nat → Int32) (k : Nat) (x : Int32) : uI (wm G z1 z2 z3) 126 k x = wm G z1 z2 (upd z3 k x) := by
  unfold uI; rw [wm_3]; unfold wm
  refine HP_ext rfl (funext fun b => ?_) rfl rfl
  rw [hI_rL, hI_rL]
  by_cases q : b = 126
  · subst q; rw [hI_rI_s, hI_rI_s]
  · rw [hI_rI_n _ _ q, hI_rI_n _ _ q, hI_rL, hI_rL, hI_rI_n _ _ q]
theorem wm_sm {h G : HP} (s : SmN h G) (z1 z2 : Nat → Int64) (z3 : Nat → Int32) : SmN h (wm G z1 z2 z3) := fun k hk => by rw [wm_I _ _ _ _ (by decide)]; exact s k hk
theorem updL_e (f : Nat → Int64) (k : Nat) (x : Int64) (i : Nat) : vp_updL f k x i = if i = k then x else f i := rfl
theorem updI_e (f : Nat → Int32) (k : Nat) (x : Int32) (i : Nat) : upd f k x i = if i = k then x else f i := rfl
/-- what a row a adds to b, c -/
def rvv (h : HP) (t w r : Nat) (j st : Bool) (y a b c : Nat) : Nat := vv (tft h t r) (tgd h t w r j st) y a b c
abbrev rcW (h : HP) (t w r : Nat) (j st : Bool) : Nat → Nat → Nat → Nat := cW (tft h t r) (tgd h t w r j st)
theorem tft_lt {h : HP} {t w r m c : Nat} {j : Bool} (T : TW h t w r m c j) : ∀ y b, tft h t r y b = true → b < 2 ^ w := ft_lt (rw_ok T)
theorem q180 {h G : HP} {t w r m c : Nat} {j : Bool} (T : TW h t w r m c j) (sm : SmN h G) (st : Bool) (K : Int32 → Int32 → Int32 → Int32 → Int32 → HP → Option (Int64 × HP)) {z1 : Nat → Int64} {z3 : Nat → Int32} {y a b : Nat} (hy : y + 1 ≤ r) (ha : a < 2 ^ w) (hb : b < 2 ^ w) (hz : z1 (32 * a + b) = nJ (rcW h t w r j st y a b)) : ∀ d v n z2, v + d = 2 ^ w → d < n →
    ∃ z2', f_X12_reckons_180 K n (if st then 1 else 0) (nI (2 ^ w)) (nI (y + 1)) (nI a) (nI b) (nI v) (wm G z1 z2 z3) = K (if st then 1 else 0) (nI (2 ^ w)) (nI (y + 1)) (nI a) (nI (b + 1)) (wm G z1 z2' z3) ∧ ∀ k, k < 1024 → z2' k = z2 k + nJ (if k / 32 = b ∧ v ≤ k % 32 ∧ k % 32 < 2 ^ w then rvv h t w r j st y a b (k % 32) else 0)
  | d, v, 0, _, _, z => absurd z (by omega)
  | 0, v, n + 1, z2, e, _ => by
    obtain ⟨pw1, pw2⟩ := pw_le T.1.n.1.2.1
    unfold f_X12_reckons_180
    rw [if_pos (by rw [nI_leI (by omega) (by omega)]; omega)]
    simp only [ltv_e, nI_1]
    exact ⟨z2, rfl, fun k hk => by rw [if_neg (by omega), show nJ 0 = 0 from rfl, Int64.add_zero]⟩
  | d + 1, v, n + 1, z2, e, _ => by
    obtain ⟨⟨w1, w5, hw, hw'⟩, ⟨r1, r6, hr, hr'⟩, -⟩ := T.1.n
    obtain ⟨pw1, pw2⟩ := pw_le w5
    have skip : rvv h t w r j st y a b v = 0 → ∀ z2' : Nat → Int64, (∀ k, k < 1024 → z2' k = z2 k + nJ (if k / 32 = b ∧ v + 1 ≤ k % 32 ∧ k % 32 < 2 ^ w then rvv h t w r j st y a b (k % 32) else 0)) → ∀ k, k < 1024 → z2' k = z2 k + nJ (if k / 32 = b ∧ v ≤ k % 32 ∧ k % 32 < 2 ^ w then rvv h t w r j st y a b (k % 32) else 0) := fun z z2' h2 k hk => by
      rw [h2 k hk]
      by_cases q : k % 32 = v
      · rw [if_neg (by omega)]
        by_cases q2 : k / 32 = b ∧ v ≤ k % 32 ∧ k % 32 < 2 ^ w
        · rw [if_pos q2, q, z]
        · rw [if_neg q2]
      · by_cases q2 : k / 32 = b ∧ v ≤ k % 32 ∧ k % 32 < 2 ^ w
        · rw [if_pos q2, if_pos (by omega)]
        · rw [if_neg q2, if_neg (by omega)]
    unfold f_X12_reckons_180
    rw [if_neg (by rw [nI_leI (by omega) (by omega)]; omega), fits_e T (wm_sm sm _ _ _) hy (by omega), bd2_s]
    by_cases f : tft h t r (y + 1) v = true
    · rw [if_pos f, if_neg (by decide), show nI (y + 1) - 1 = nI y from nI_sub (a := y + 1) (b := 1) (by omega), good_e T (wm_sm sm _ _ _) (show y ≤ r by omega) hb st, bd2_s]
      by_cases g : tgd h t w r j st y a b v = true
      · rw [if_pos g, if_neg (by decide), show (32 : Int32) = nI 32 from rfl, nI_mul, nI_mul, nI_add, nI_add]
        simp only [ltv_e]
        rw [gdi_nI (by omega) (by decide), gdi_nI (by omega) (by decide), gdi_nI (by omega) (by decide), nI_clamp (by omega), nI_clamp (by omega), wm_1, wm_2, wm_u2, hz, nI_1]
        obtain ⟨z2', e1, e2⟩ := q180 T sm st K hy ha hb hz (z3 := z3) d (v + 1) n (vp_updL z2 (32 * b + v) (z2 (32 * b + v) + nJ (rcW h t w r j st y a b))) (by omega) (by omega)
        refine ⟨z2', e1, fun k hk => ?_⟩
        rw [e2 k hk, updL_e]
        by_cases q : k = 32 * b + v
        · subst q
          rw [if_pos rfl, if_neg (by omega), if_pos (by omega), show nJ 0 = 0 from rfl, Int64.add_zero, show (32 * b + v) % 32 = v by omega]
          unfold rvv vv
          rw [if_pos ⟨f, g⟩]
        · rw [if_neg q]
          by_cases q2 : k / 32 = b ∧ v ≤ k % 32 ∧ k % 32 < 2 ^ w
          · rw [if_pos q2, if_pos (by omega)]
          · rw [if_neg q2, if_neg (by omega)]
      · rw [if_neg g, if_pos rfl]
        simp only [ltv_e, nI_1]
        obtain ⟨z2', e1, e2⟩ := q180 T sm st K hy ha hb hz (z3 := z3) d (v + 1) n z2 (by omega) (by omega)
        exact ⟨z2', e1, skip (by unfold rvv vv; rw [if_neg (fun z => g z.2)]) z2' e2⟩
    · rw [if_neg f, if_pos rfl]
      simp only [ltv_e, nI_1]
      obtain ⟨z2', e1, e2⟩ := q180 T sm st K hy ha hb hz (z3 := z3) d (v + 1) n z2 (by omega) (by omega)
      exact ⟨z2', e1, skip (by unfold rvv vv; rw [if_neg (fun z => f z.1)]) z2' e2⟩
theorem q150 {h G : HP} {t w r m c : Nat} {j : Bool} (T : TW h t w r m c j) (sm : SmN h G) (st : Bool) (K : Int32 → Int32 → Int32 → Int32 → HP → Option (Int64 × HP)) {z1 : Nat → Int64} {z3 : Nat → Int32} {y a : Nat} (hy : y + 1 ≤ r) (ha : a < 2 ^ w) (hz : ∀ b, b < 2 ^ w → z1 (32 * a + b) = nJ (rcW h t w r j st y a b)) : ∀ d b n z2, b + d = 2 ^ w → d < n →
    ∃ z2', f_X12_reckons_150 K n (if st then 1 else 0) (nI (2 ^ w)) (nI (y + 1)) (nI a) (nI b) (wm G z1 z2 z3) = K (if st then 1 else 0) (nI (2 ^ w)) (nI (y + 1)) (nI (a + 1)) (wm G z1 z2' z3) ∧ ∀ k, k < 1024 → z2' k = z2 k + nJ (if b ≤ k / 32 ∧ k / 32 < 2 ^ w ∧ k % 32 < 2 ^ w then rvv h t w r j st y a (k / 32) (k % 32) else 0)
  | d, b, 0, _, _, z => absurd z (by omega)
  | 0, b, n + 1, z2, e, _ => by
    obtain ⟨pw1, pw2⟩ := pw_le T.1.n.1.2.1
    unfold f_X12_reckons_150
    rw [if_pos (by rw [nI_leI (by omega) (by omega)]; omega)]
    simp only [ltv_e, nI_1]
    exact ⟨z2, rfl, fun k hk => by rw [if_neg (by omega), show nJ 0 = 0 from rfl, Int64.add_zero]⟩
  | d + 1, b, n + 1, z2, e, _ => by
    obtain ⟨⟨w1, w5, hw, hw'⟩, ⟨r1, r6, hr, hr'⟩, -⟩ := T.1.n
    obtain ⟨pw1, pw2⟩ := pw_le w5
    have c31 : rcW h t w r j st y a b < 2 ^ 31 := cW_31 (by omega) (by omega) (by omega)
    unfold f_X12_reckons_150
    rw [if_neg (by rw [nI_leI (by omega) (by omega)]; omega), show (32 : Int32) = nI 32 from rfl, nI_mul, nI_add, gdi_nI (by omega) (by decide), nI_clamp (by omega), wm_1, hz b (by omega)]
    by_cases c0 : rcW h t w r j st y a b = 0
    · rw [if_pos ((lgJ_eq c31).mpr c0)]
      simp only [ltv_e, nI_1]
      obtain ⟨z2', e1, e2⟩ := q150 T sm st K hy ha hz (z3 := z3) d (b + 1) n z2 (by omega) (by omega)
      refine ⟨z2', e1, fun k hk => ?_⟩
      rw [e2 k hk]
      by_cases q : k / 32 = b
      · rw [if_neg (by omega)]
        by_cases q2 : b ≤ k / 32 ∧ k / 32 < 2 ^ w ∧ k % 32 < 2 ^ w
        · rw [if_pos q2, q]
          have : rvv h t w r j st y a b (k % 32) = 0 := by
            unfold rvv vv
            split
            · exact c0
            · rfl
          rw [this]
        · rw [if_neg q2]
      · by_cases q2 : b ≤ k / 32 ∧ k / 32 < 2 ^ w ∧ k % 32 < 2 ^ w
        · rw [if_pos q2, if_pos (by omega)]
        · rw [if_neg q2, if_neg (by omega)]
    · rw [if_neg (fun z => c0 ((lgJ_eq c31).mp z)), show (0 : Int32) = nI 0 from rfl]
      obtain ⟨z21, e1, e2⟩ := q180 T sm st (f_X12_reckons_150 K n) hy ha (show b < 2 ^ w by omega) (hz b (by omega)) (z3 := z3) (2 ^ w) 0 FU z2 (by omega) (FU_gt (by omega))
      obtain ⟨z2', e3, e4⟩ := q150 T sm st K hy ha hz (z3 := z3) d (b + 1) n z21 (by omega) (by omega)
      refine ⟨z2', e1.trans e3, fun k hk => ?_⟩
      rw [e4 k hk, e2 k hk]
      by_cases q : k / 32 = b
      · rw [if_neg (show ¬ (b + 1 ≤ k / 32 ∧ k / 32 < 2 ^ w ∧ k % 32 < 2 ^ w) by omega), show nJ 0 = 0 from rfl, Int64.add_zero]
        by_cases q2 : k % 32 < 2 ^ w
        · rw [if_pos (by omega), if_pos (by omega), q]
        · rw [if_neg (by omega), if_neg (by omega)]
      · rw [if_neg (show ¬ (k / 32 = b ∧ 0 ≤ k % 32 ∧ k % 32 < 2 ^ w) by omega), show nJ 0 = 0 from rfl, Int64.add_zero]
        by_cases q2 : b + 1 ≤ k / 32 ∧ k / 32 < 2 ^ w ∧ k % 32 < 2 ^ w
        · rw [if_pos q2, if_pos (by omega)]
        · rw [if_neg q2, if_neg (by omega)]
/-- the table of a level, number by number -/
def Z1 (h : HP) (t w r : Nat) (j st : Bool) (y : Nat) (z1 : Nat → Int64) : Prop := ∀ k, k < 1024 → z1 k = nJ (rcW h t w r j st y (k / 32) (k % 32))
def Z3 (h : HP) (t w r : Nat) (j st : Bool) (y : Nat) (z3 : Nat → Int32) : Prop := ∀ l k, l ≤ y → k < 1024 → z3 (1024 * l + k) = if rcW h t w r j st l (k / 32) (k % 32) = 0 then 0 else 1
def gk (h : HP) (t w r : Nat) (j st : Bool) (y k a : Nat) : Nat := if k / 32 < 2 ^ w ∧ k % 32 < 2 ^ w then rvv h t w r j st y a (k / 32) (k % 32) else 0
theorem gk_sum {h : HP} {t w r m c : Nat} {j : Bool} (T : TW h t w r m c j) (st : Bool) (y : Nat) {k : Nat} (hk : k < 1024) : sumN (2 ^ w) (gk h t w r j st y k) = rcW h t w r j st (y + 1) (k / 32) (k % 32) := by
  obtain ⟨pw1, pw2⟩ := pw_le T.1.n.1.2.1
  by_cases q : k / 32 < 2 ^ w ∧ k % 32 < 2 ^ w
  · have e1 : sumN (2 ^ w) (gk h t w r j st y k) = sumN 32 (fun a => rvv h t w r j st y a (k / 32) (k % 32)) := by
      rw [show (32 : Nat) = 2 ^ w + (32 - 2 ^ w) by omega, sumN_app]
      rw [sumN_0 (f := fun i => rvv h t w r j st y (2 ^ w + i) _ _) (fun i _ => ?_), Nat.add_zero]
      · rw [show 2 ^ w + (32 - 2 ^ w) = 32 by omega]
        refine sumN_c (fun a _ => ?_)
        unfold gk; rw [if_pos q]
      · unfold rvv vv
        split
        · exact cW_z (tft_lt T) pw1 (by omega)
        · rfl
    rw [e1]
    show _ = if tft h t r (y + 1) (k % 32) = true then _ else 0
    by_cases f : tft h t r (y + 1) (k % 32) = true
    · rw [if_pos f]
      refine sumN_c (fun a _ => ?_)
      unfold rvv vv
      by_cases g : tgd h t w r j st y a (k / 32) (k % 32) = true
      · rw [if_pos ⟨f, g⟩, if_pos g]
      · rw [if_neg (fun z => g z.2), if_neg g]
    · rw [if_neg f]
      refine sumN_0 (fun a _ => ?_)
      unfold rvv vv
      rw [if_neg (fun z => f z.1)]
  · refine (?_ : sumN (2 ^ w) (gk h t w r j st y k) = 0).trans (cW_z (tft_lt T) pw1 q).symm
    refine sumN_0 (fun a _ => ?_)
    unfold gk; rw [if_neg q]
theorem q263 {G : HP} (K : Int32 → Int32 → Int32 → HP → Option (Int64 × HP)) (l1 l2 : Int32) {y : Nat} (hy : y ≤ 5) {z2 : Nat → Int64} {N : Nat → Nat} (hN : ∀ k, k < 1024 → z2 k = nJ (N k) ∧ N k < 2 ^ 31) : ∀ d k n z1 z3, k + d = 1024 → d < n →
    ∃ z1' z3', f_X12_reckons_263 K n l1 l2 (nI y) (nI k) (wm G z1 z2 z3) = K l1 l2 (nI (y + 1)) (wm G z1' z2 z3') ∧ (∀ i, z1' i = if k ≤ i ∧ i < 1024 then nJ (N i) else z1 i) ∧ ∀ i, z3' i = if 1024 * y + k ≤ i ∧ i < 1024 * y + 1024 then (if N (i - 1024 * y) = 0 then 0 else 1) else z3 i
  | d, k, 0, _, _, _, z => absurd z (by omega)
  | 0, k, n + 1, z1, z3, e, _ => by
    unfold f_X12_reckons_263
    rw [if_pos (by rw [show (1024 : Int32) = nI 1024 from rfl, nI_leI (by omega) (by omega)]; omega)]
    simp only [ltv_e, nI_1]
    exact ⟨z1, z3, rfl, fun i => by rw [if_neg (by omega)], fun i => by rw [if_neg (by omega)]⟩
  | d + 1, k, n + 1, z1, z3, e, _ => by
    obtain ⟨n1, n2⟩ := hN k (by omega)
    unfold f_X12_reckons_263
    rw [if_neg (by rw [show (1024 : Int32) = nI 1024 from rfl, nI_leI (by omega) (by omega)]; omega), gdi_nI (by omega) (by decide), gdi_nI (by omega) (by decide), nI_clamp (by omega), wm_2, wm_u1, n1]
    simp only [ltv_e]
    rw [gdi_nI (by omega) (by decide), wm_1, updL_e, if_pos rfl, show (1024 : Int32) = nI 1024 from rfl, nI_mul, nI_add]
    have fin : ∀ v : Int32, v = (if N k = 0 then 0 else 1) → ∃ z1' z3', f_X12_reckons_263 K n l1 l2 (nI y) (nI (k + 1)) (wm G (vp_updL z1 k (nJ (N k))) z2 (upd z3 (1024 * y + k) v)) = K l1 l2 (nI (y + 1)) (wm G z1' z2 z3') ∧ (∀ i, z1' i = if k ≤ i ∧ i < 1024 then nJ (N i) else z1 i) ∧ ∀ i, z3' i = if 1024 * y + k ≤ i ∧ i < 1024 * y + 1024 then (if N (i - 1024 * y) = 0 then 0 else 1) else z3 i := fun v ev => by
      obtain ⟨z1', z3', e1, e2, e3⟩ := q263 K l1 l2 hy hN (G := G) d (k + 1) n (vp_updL z1 k (nJ (N k))) (upd z3 (1024 * y + k) v) (by omega) (by omega)
      refine ⟨z1', z3', e1, fun i => ?_, fun i => ?_⟩
      · rw [e2 i, updL_e]
        by_cases q : i = k
        · subst q; rw [if_neg (by omega), if_pos rfl, if_pos (by omega)]
        · by_cases q2 : k ≤ i ∧ i < 1024
          · rw [if_pos (by omega), if_pos q2]
          · rw [if_neg (by omega), if_neg q, if_neg q2]
      · rw [e3 i, updI_e]
        by_cases q : i = 1024 * y + k
        · subst q
          rw [if_neg (by omega), if_pos rfl, if_pos (by omega), ev, Nat.add_sub_cancel_left]
        · by_cases q2 : 1024 * y + k ≤ i ∧ i < 1024 * y + 1024
          · rw [if_pos (by omega), if_pos q2]
          · rw [if_neg (by omega), if_neg q, if_neg q2]
    by_cases c0 : N k = 0
    · rw [if_pos ((lgJ_le n2).mpr c0), gdi_nI (by omega) (by decide), nI_clamp (by omega), wm_u3, nI_1]
      exact fin 0 (by rw [if_pos c0])
    · rw [if_neg (fun z => c0 ((lgJ_le n2).mp z)), gdi_nI (by omega) (by decide), nI_clamp (by omega), wm_u3, nI_1]
      exact fin 1 (by rw [if_neg c0])
theorem q141 {h G : HP} {t w r m c : Nat} {j : Bool} (T : TW h t w r m c j) (sm : SmN h G) (st : Bool) (K : Int32 → Int32 → Int32 → HP → Option (Int64 × HP)) {z1 : Nat → Int64} {z3 : Nat → Int32} {y : Nat} (hy : y + 1 < r) (hz : Z1 h t w r j st y z1) (h3 : Z3 h t w r j st y z3) : ∀ d a n z2, a + d = 2 ^ w → d < n → (∀ k, k < 1024 → z2 k = nJ (sumN a (gk h t w r j st y k))) →
    ∃ z1' z2' z3', f_X12_reckons_141 K n (if st then 1 else 0) (nI (2 ^ w)) (nI (y + 1)) (nI a) (wm G z1 z2 z3) = K (if st then 1 else 0) (nI (2 ^ w)) (nI (y + 1 + 1)) (wm G z1' z2' z3') ∧ Z1 h t w r j st (y + 1) z1' ∧ Z3 h t w r j st (y + 1) z3'
  | d, a, 0, _, _, z, _ => absurd z (by omega)
  | 0, a, n + 1, z2, e, _, I => by
    obtain ⟨⟨w1, w5, hw, hw'⟩, ⟨r1, r6, hr, hr'⟩, -⟩ := T.1.n
    obtain ⟨pw1, pw2⟩ := pw_le w5
    have e : a = 2 ^ w := by omega
    rw [e] at I
    obtain ⟨z1', z3', e1, e2, e3⟩ := q263 (G := G) K (if st then 1 else 0) (nI (2 ^ w)) (y := y + 1) (by omega) (z2 := z2) (N := fun k => rcW h t w r j st (y + 1) (k / 32) (k % 32)) (fun k hk => ⟨by rw [I k hk, gk_sum T st y hk], cW_31 (by omega) (by omega) (by omega)⟩) 1024 0 FU z1 z3 (by omega) (FU_gt (by omega))
    refine ⟨z1', z2, z3', ?_, fun k hk => by rw [e2 k, if_pos ⟨Nat.zero_le _, hk⟩], fun l k hl hk => ?_⟩
    · unfold f_X12_reckons_141
      rw [if_pos (by rw [nI_leI (by omega) (by omega)]; omega), show (0 : Int32) = nI 0 from rfl]
      exact e1
    · rw [e3]
      by_cases q : l = y + 1
      · subst q
        rw [if_pos (by omega), Nat.add_sub_cancel_left]
      · rw [if_neg (by omega)]
        exact h3 l k (by omega) hk
  | d + 1, a, n + 1, z2, e, _, I => by
    obtain ⟨⟨w1, w5, hw, hw'⟩, ⟨r1, r6, hr, hr'⟩, -⟩ := T.1.n
    obtain ⟨pw1, pw2⟩ := pw_le w5
    obtain ⟨z21, e1, e2⟩ := q150 T sm st (f_X12_reckons_141 K n) (y := y) (a := a) (z1 := z1) (z3 := z3) (by omega) (by omega) (fun b hb => by rw [hz (32 * a + b) (by omega), show (32 * a + b) / 32 = a by omega, show (32 * a + b) % 32 = b by omega]) (2 ^ w) 0 FU z2 (by omega) (FU_gt (by omega))
    obtain ⟨z1', z2', z3', e3, e4, e5⟩ := q141 T sm st K hy hz h3 d (a + 1) n z21 (by omega) (by omega) (fun k hk => by
      rw [e2 k hk, I k hk, nJ_add]
      congr 1
      show _ = sumN a _ + gk h t w r j st y k a
      congr 1
      unfold gk
      by_cases q : k / 32 < 2 ^ w ∧ k % 32 < 2 ^ w
      · rw [if_pos (by omega), if_pos q]
      · rw [if_neg (by omega), if_neg q])
    refine ⟨z1', z2', z3', ?_, e4, e5⟩
    unfold f_X12_reckons_141
    rw [if_neg (by rw [nI_leI (by omega) (by omega)]; omega), show (0 : Int32) = nI 0 from rfl]
    exact e1.trans e3
theorem q116 {G : HP} (K : Int32 → Int32 → Int32 → HP → Option (Int64 × HP)) (l1 l2 l3 : Int32) {z1 : Nat → Int64} {z3 : Nat → Int32} : ∀ d k n z2, k + d = 1024 → d < n → ∃ z2', f_X12_reckons_116 K n l1 l2 l3 (nI k) (wm G z1 z2 z3) = f_X12_reckons_141 K FU l1 l2 l3 0 (wm G z1 z2' z3) ∧ ∀ i, z2' i = if k ≤ i ∧ i < 1024 then 0 else z2 i
  | d, k, 0, _, _, z => absurd z (by omega)
  | 0, k, n + 1, z2, e, _ => by
    unfold f_X12_reckons_116
    rw [if_pos (by rw [show (1024 : Int32) = nI 1024 from rfl, nI_leI (by omega) (by omega)]; omega)]
    exact ⟨z2, rfl, fun i => by rw [if_neg (by omega)]⟩
  | d + 1, k, n + 1, z2, e, _ => by
    unfold f_X12_reckons_116
    rw [if_neg (by rw [show (1024 : Int32) = nI 1024 from rfl, nI_leI (by omega) (by omega)]; omega), gdi_nI (by omega) (by decide), nI_clamp (by omega), wm_u2]
    simp only [ltv_e, nI_1]
    obtain ⟨z2', e1, e2⟩ := q116 (G := G) K l1 l2 l3 (z1 := z1) (z3 := z3) d (k + 1) n (vp_updL z2 k 0) (by omega) (by omega)
    refine ⟨z2', e1, fun i => ?_⟩
    rw [e2 i, updL_e]
    by_cases q : i = k
    · subst q; rw [if_neg (by omega), if_pos rfl, if_pos (by omega)]
    · by_cases q2 : k ≤ i ∧ i < 1024
      · rw [if_pos (by omega), if_pos q2]
      · rw [if_neg (by omega), if_neg q, if_neg q2]
/-- what the last rows add, all in all -/
def lgk (h : HP) (t w r : Nat) (j st : Bool) (y a b : Nat) : Nat := if tgd h t w r j st y a b 0 = true then rcW h t w r j st y a b else 0
theorem q341 {h G : HP} {t w r m c : Nat} {j : Bool} (T : TW h t w r m c j) (sm : SmN h G) (st : Bool) (K : Int32 → Int32 → Int64 → Int32 → HP → Option (Int64 × HP)) {z1 z2 : Nat → Int64} {z3 : Nat → Int32} {y a : Nat} (hy : r = y + 1) (ha : a < 2 ^ w) (hz : Z1 h t w r j st y z1) : ∀ d b n s, b + d = 2 ^ w → d < n → f_X12_reckons_341 K n (if st then 1 else 0) (nI (2 ^ w)) (nJ s) (nI a) (nI b) (wm G z1 z2 z3) = K (if st then 1 else 0) (nI (2 ^ w)) (nJ (s + sumN d (fun i => lgk h t w r j st y a (b + i)))) (nI (a + 1)) (wm G z1 z2 z3)
  | d, b, 0, _, _, z => absurd z (by omega)
  | 0, b, n + 1, s, e, _ => by
    obtain ⟨pw1, pw2⟩ := pw_le T.1.n.1.2.1
    unfold f_X12_reckons_341
    rw [if_pos (by rw [nI_leI (by omega) (by omega)]; omega)]
    simp only [ltv_e, nI_1]
    rfl
  | d + 1, b, n + 1, s, e, _ => by
    obtain ⟨⟨w1, w5, hw, hw'⟩, ⟨r1, r6, hr, hr'⟩, -⟩ := T.1.n
    obtain ⟨pw1, pw2⟩ := pw_le w5
    have c31 : rcW h t w r j st y a b < 2 ^ 31 := cW_31 (by omega) (by omega) (by omega)
    have x := hz (32 * a + b) (by omega)
    rw [show (32 * a + b) / 32 = a by omega, show (32 * a + b) % 32 = b by omega] at x
    have sh : sumN (d + 1) (fun i => lgk h t w r j st y a (b + i)) = lgk h t w r j st y a b + sumN d (fun i => lgk h t w r j st y a (b + 1 + i)) := by
      rw [Nat.add_comm d 1, sumN_app]
      show 0 + lgk h t w r j st y a (b + 0) + _ = _
      rw [Nat.zero_add, Nat.add_zero]
      congr 1
      exact sumN_c (fun i _ => by rw [← Nat.add_assoc])
    unfold f_X12_reckons_341
    rw [if_neg (by rw [nI_leI (by omega) (by omega)]; omega), show (32 : Int32) = nI 32 from rfl, nI_mul, nI_add, gdi_nI (by omega) (by decide), nI_clamp (by omega), wm_1, x, sh, ← Nat.add_assoc]
    by_cases c0 : rcW h t w r j st y a b = 0
    · rw [if_pos ((lgJ_le c31).mpr c0)]
      simp only [ltv_e, nI_1]
      have l0 : lgk h t w r j st y a b = 0 := by unfold lgk; split; exact c0; rfl
      rw [Int64.add_zero, q341 T sm st K hy ha hz d (b + 1) n s (by omega) (by omega), l0, Nat.add_zero s]
    · have ge := good_e T (wm_sm sm z1 z2 z3) (y := y) (a := a) (b := b) (d := 0) (show y ≤ r by omega) (show b < 2 ^ w by omega) st
      rw [show nI 0 = 0 from rfl] at ge
      rw [if_neg (fun z => c0 ((lgJ_le c31).mp z)), wm_I _ _ _ _ (by decide), sm 1 (by omega), hr, show nI r - 1 = nI y from (by rw [hy]; exact nI_sub (a := y + 1) (b := 1) (by omega)), ge, bd2_s]
      by_cases g : tgd h t w r j st y a b 0 = true
      · rw [if_pos g, if_neg (by decide), gdi_nI (by omega) (by decide), wm_1, x, nJ_add]
        simp only [ltv_e, nI_1]
        have l0 : lgk h t w r j st y a b = rcW h t w r j st y a b := by unfold lgk; rw [if_pos g]
        rw [q341 T sm st K hy ha hz d (b + 1) n _ (by omega) (by omega), l0]
      · rw [if_neg g, if_pos rfl]
        simp only [ltv_e, nI_1]
        have l0 : lgk h t w r j st y a b = 0 := by unfold lgk; rw [if_neg g]
        rw [Int64.add_zero, q341 T sm st K hy ha hz d (b + 1) n s (by omega) (by omega), l0, Nat.add_zero s]
theorem q332 {h G : HP} {t w r m c : Nat} {j : Bool} (T : TW h t w r m c j) (sm : SmN h G) (st : Bool) {z1 z2 : Nat → Int64} {z3 : Nat → Int32} {y : Nat} (hy : r = y + 1) (hz : Z1 h t w r j st y z1) : ∀ d a n s, a + d = 2 ^ w → d < n → f_X12_reckons_332 n (if st then 1 else 0) (nI (2 ^ w)) (nJ s) (nI a) (wm G z1 z2 z3) = some (nJ (s + sumN d (fun k => sumN (2 ^ w) (fun i => lgk h t w r j st y (a + k) i))), wm G z1 z2 z3)
  | d, a, 0, _, _, z => absurd z (by omega)
  | 0, a, n + 1, s, e, _ => by
    obtain ⟨pw1, pw2⟩ := pw_le T.1.n.1.2.1
    unfold f_X12_reckons_332
    rw [if_pos (by rw [nI_leI (by omega) (by omega)]; omega)]
    rfl
  | d + 1, a, n + 1, s, e, _ => by
    obtain ⟨pw1, pw2⟩ := pw_le T.1.n.1.2.1
    have sh : sumN (d + 1) (fun k => sumN (2 ^ w) (fun i => lgk h t w r j st y (a + k) i)) = sumN (2 ^ w) (fun i => lgk h t w r j st y a i) + sumN d (fun k => sumN (2 ^ w) (fun i => lgk h t w r j st y (a + 1 + k) i)) := by
      rw [Nat.add_comm d 1, sumN_app]
      show 0 + sumN (2 ^ w) (fun i => lgk h t w r j st y (a + 0) i) + _ = _
      rw [Nat.zero_add, Nat.add_zero]
      congr 1
      exact sumN_c (fun i _ => by rw [← Nat.add_assoc])
    have ee := q341 T sm st (f_X12_reckons_332 n) hy (show a < 2 ^ w by omega) hz (z2 := z2) (z3 := z3) (2 ^ w) 0 FU s (by omega) (FU_gt (by omega))
    simp only [Nat.zero_add] at ee
    unfold f_X12_reckons_332
    rw [show nI 0 = 0 from rfl] at ee
    rw [if_neg (by rw [nI_leI (by omega) (by omega)]; omega), ee, q332 T sm st hy hz d (a + 1) n _ (by omega) (by omega), sh, Nat.add_assoc]
theorem tot_e {h : HP} {t w r m c : Nat} {j : Bool} (T : TW h t w r m c j) (st : Bool) {y : Nat} (hy : r = y + 1) : sumN (2 ^ w) (fun k => sumN (2 ^ w) (fun i => lgk h t w r j st y k i)) = tW (tft h t r) (tgd h t w r j st) r := by
  subst hy
  obtain ⟨pw1, pw2⟩ := pw_le T.1.n.1.2.1
  have f0 := (tW_31 (rw_ok T) (tgd h t w (y + 1) j st)).2
  have e' : tW (tft h t (y + 1)) (tgd h t w (y + 1) j st) (y + 1) = sumN 32 (fun a => sumN 32 (fun b => lgk h t w (y + 1) j st y a b)) := tW_same (fun c hc => f0 c hc)
  rw [e']
  have cut : ∀ g : Nat → Nat, (∀ i, 2 ^ w ≤ i → g i = 0) → sumN (2 ^ w) g = sumN 32 g := fun g hg => by
    have e := sumN_app g (2 ^ w) (32 - 2 ^ w)
    rw [show 2 ^ w + (32 - 2 ^ w) = 32 by omega, sumN_0 (f := fun i => g (2 ^ w + i)) (fun i _ => hg _ (by omega)), Nat.add_zero] at e
    exact e.symm
  have z : ∀ a b, ¬ (a < 2 ^ w ∧ b < 2 ^ w) → lgk h t w (y + 1) j st y a b = 0 := fun a b q => by
    unfold lgk
    split
    · exact cW_z (tft_lt T) pw1 q
    · rfl
  rw [← cut _ (fun a ha => sumN_0 (fun b _ => z a b (by omega)))]
  exact sumN_c (fun a _ => cut _ (fun b hb => z a b (by omega)))
theorem q103 {h G : HP} {t w r m c : Nat} {j : Bool} (T : TW h t w r m c j) (sm : SmN h G) (st : Bool) : ∀ d y n z1 z2 z3, y + 1 + d = r → d < n → Z1 h t w r j st y z1 → Z3 h t w r j st y z3 →
    ∃ z1' z2' z3', f_X12_reckons_103 n (if st then 1 else 0) (nI (2 ^ w)) (nI (y + 1)) (wm G z1 z2 z3) = some (nJ (tW (tft h t r) (tgd h t w r j st) r), wm G z1' z2' z3') ∧ ∃ y', r = y' + 1 ∧ Z3 h t w r j st y' z3'
  | d, y, 0, _, _, _, _, z, _, _ => absurd z (by omega)
  | 0, y, n + 1, z1, z2, z3, e, _, h1, h3 => by
    obtain ⟨⟨w1, w5, hw, hw'⟩, ⟨r1, r6, hr, hr'⟩, -⟩ := T.1.n
    obtain ⟨pw1, pw2⟩ := pw_le w5
    unfold f_X12_reckons_103
    rw [wm_I _ _ _ _ (by decide), sm 1 (by omega), hr, if_pos (by rw [nI_leI (by omega) (by omega)]; omega)]
    have ee := q332 T sm st (show r = y + 1 by omega) h1 (z2 := z2) (z3 := z3) (2 ^ w) 0 FU 0 (by omega) (FU_gt (by omega))
    simp only [Nat.zero_add] at ee
    rw [tot_e T st (show r = y + 1 by omega)] at ee
    exact ⟨z1, z2, z3, ee, y, by omega, h3⟩
  | d + 1, y, n + 1, z1, z2, z3, e, _, h1, h3 => by
    obtain ⟨⟨w1, w5, hw, hw'⟩, ⟨r1, r6, hr, hr'⟩, -⟩ := T.1.n
    unfold f_X12_reckons_103
    rw [wm_I _ _ _ _ (by decide), sm 1 (by omega), hr, if_neg (by rw [nI_leI (by omega) (by omega)]; omega)]
    obtain ⟨z21, e1, k1⟩ := q116 (G := G) (f_X12_reckons_103 n) (if st then 1 else 0) (nI (2 ^ w)) (nI (y + 1)) (z1 := z1) (z3 := z3) 1024 0 FU z2 (by omega) (FU_gt (by omega))
    obtain ⟨pw1, pw2⟩ := pw_le w5
    obtain ⟨z12, z22, z32, e2, k2, k3⟩ := q141 T sm st (f_X12_reckons_103 n) (show y + 1 < r by omega) h1 h3 (2 ^ w) 0 FU z21 (by omega) (FU_gt (by omega)) (fun k hk => by rw [k1 k, if_pos ⟨Nat.zero_le _, hk⟩]; rfl)
    obtain ⟨z13, z23, z33, e3, k4⟩ := q103 T sm st d (y + 1) n z12 z22 z32 (by omega) (by omega) k2 k3
    refine ⟨z13, z23, z33, ?_, k4⟩
    rw [show nI 0 = 0 from rfl] at e1 e2
    rw [e1]
    exact e2.trans e3
theorem q66 {G : HP} (l1 l2 : Int32) {z1 z2 : Nat → Int64} {N : Nat → Nat} (hN : ∀ k, k < 1024 → z1 k = nJ (N k) ∧ N k < 2 ^ 31) : ∀ d k n z3, k + d = 1024 → d < n → ∃ z3', f_X12_reckons_66 n l1 l2 (nI k) (wm G z1 z2 z3) = f_X12_reckons_103 FU l1 l2 1 (wm G z1 z2 z3') ∧ ∀ i, z3' i = if k ≤ i ∧ i < 1024 then (if N i = 0 then 0 else 1) else z3 i
  | d, k, 0, _, _, z => absurd z (by omega)
  | 0, k, n + 1, z3, e, _ => by
    unfold f_X12_reckons_66
    rw [if_pos (by rw [show (1024 : Int32) = nI 1024 from rfl, nI_leI (by omega) (by omega)]; omega)]
    exact ⟨z3, rfl, fun i => by rw [if_neg (by omega)]⟩
  | d + 1, k, n + 1, z3, e, _ => by
    obtain ⟨n1, n2⟩ := hN k (by omega)
    unfold f_X12_reckons_66
    rw [if_neg (by rw [show (1024 : Int32) = nI 1024 from rfl, nI_leI (by omega) (by omega)]; omega), gdi_nI (by omega) (by decide), nI_clamp (by omega), wm_1, n1]
    have fin : ∀ v : Int32, v = (if N k = 0 then 0 else 1) → ∃ z3', f_X12_reckons_66 n l1 l2 (nI (k + 1)) (wm G z1 z2 (upd z3 k v)) = f_X12_reckons_103 FU l1 l2 1 (wm G z1 z2 z3') ∧ ∀ i, z3' i = if k ≤ i ∧ i < 1024 then (if N i = 0 then 0 else 1) else z3 i := fun v ev => by
      obtain ⟨z3', e1, e2⟩ := q66 (G := G) l1 l2 (z2 := z2) hN d (k + 1) n (upd z3 k v) (by omega) (by omega)
      refine ⟨z3', e1, fun i => ?_⟩
      rw [e2 i, updI_e]
      by_cases q : i = k
      · subst q; rw [if_neg (by omega), if_pos rfl, if_pos (by omega), ev]
      · by_cases q2 : k ≤ i ∧ i < 1024
        · rw [if_pos (by omega), if_pos q2]
        · rw [if_neg (by omega), if_neg q, if_neg q2]
    by_cases c0 : N k = 0
    · rw [if_pos ((lgJ_le n2).mpr c0), gdi_nI (by omega) (by decide), wm_u3]
      simp only [ltv_e, nI_1]
      exact fin 0 (by rw [if_pos c0])
    · rw [if_neg (fun z => c0 ((lgJ_le n2).mp z)), gdi_nI (by omega) (by decide), wm_u3]
      simp only [ltv_e, nI_1]
      exact fin 1 (by rw [if_neg c0])
theorem q33 {h G : HP} {t w r m c : Nat} {j : Bool} (T : TW h t w r m c j) (sm : SmN h G) (l1 : Int32) {z2 : Nat → Int64} {z3 : Nat → Int32} : ∀ d b n z1, b + d = 2 ^ w → d < n → ∃ z1', f_X12_reckons_33 n l1 (nI (2 ^ w)) (nI b) (wm G z1 z2 z3) = f_X12_reckons_66 FU l1 (nI (2 ^ w)) 0 (wm G z1' z2 z3) ∧ ∀ i, z1' i = if b ≤ i ∧ i < 2 ^ w then (if tft h t r 0 i = true then 1 else 0) else z1 i
  | d, b, 0, _, _, z => absurd z (by omega)
  | 0, b, n + 1, z1, e, _ => by
    obtain ⟨pw1, pw2⟩ := pw_le T.1.n.1.2.1
    unfold f_X12_reckons_33
    rw [if_pos (by rw [nI_leI (by omega) (by omega)]; omega)]
    exact ⟨z1, rfl, fun i => by rw [if_neg (by omega)]⟩
  | d + 1, b, n + 1, z1, e, _ => by
    obtain ⟨pw1, pw2⟩ := pw_le T.1.n.1.2.1
    have fin : ∀ v : Int64, v = (if tft h t r 0 b = true then 1 else 0) → ∃ z1', f_X12_reckons_33 n l1 (nI (2 ^ w)) (nI (b + 1)) (wm G (vp_updL z1 b v) z2 z3) = f_X12_reckons_66 FU l1 (nI (2 ^ w)) 0 (wm G z1' z2 z3) ∧ ∀ i, z1' i = if b ≤ i ∧ i < 2 ^ w then (if tft h t r 0 i = true then 1 else 0) else z1 i := fun v ev => by
      obtain ⟨z1', e1, e2⟩ := q33 T sm l1 (z2 := z2) (z3 := z3) d (b + 1) n (vp_updL z1 b v) (by omega) (by omega)
      refine ⟨z1', e1, fun i => ?_⟩
      rw [e2 i, updL_e]
      by_cases q : i = b
      · subst q; rw [if_neg (by omega), if_pos rfl, if_pos (by omega), ev]
      · by_cases q2 : b ≤ i ∧ i < 2 ^ w
        · rw [if_pos (by omega), if_pos q2]
        · rw [if_neg (by omega), if_neg q, if_neg q2]
    unfold f_X12_reckons_33
    rw [if_neg (by rw [nI_leI (by omega) (by omega)]; omega), show (0 : Int32) = nI 0 from rfl, fits_e T (wm_sm sm _ _ _) (Nat.zero_le r) (by omega), bd2_s]
    by_cases f : tft h t r 0 b = true
    · rw [if_pos f, if_neg (by decide), gdi_nI (by omega) (by decide), nI_clamp (by omega), wm_u1]
      simp only [ltv_e, nI_1]
      exact fin 1 (by rw [if_pos f])
    · rw [if_neg f, if_pos (show (0 : Int32) = nI 0 from rfl), gdi_nI (by omega) (by decide), nI_clamp (by omega), wm_u1]
      simp only [ltv_e, nI_1]
      exact fin 0 (by rw [if_neg f])
theorem q11 {G : HP} (l1 l2 : Int32) {z2 : Nat → Int64} {z3 : Nat → Int32} : ∀ d k n z1, k + d = 1024 → d < n → ∃ z1', f_X12_reckons_11 n l1 l2 (nI k) (wm G z1 z2 z3) = f_X12_reckons_33 FU l1 l2 0 (wm G z1' z2 z3) ∧ ∀ i, z1' i = if k ≤ i ∧ i < 1024 then 0 else z1 i
  | d, k, 0, _, _, z => absurd z (by omega)
  | 0, k, n + 1, z1, e, _ => by
    unfold f_X12_reckons_11
    rw [if_pos (by rw [show (1024 : Int32) = nI 1024 from rfl, nI_leI (by omega) (by omega)]; omega)]
    exact ⟨z1, rfl, fun i => by rw [if_neg (by omega)]⟩
  | d + 1, k, n + 1, z1, e, _ => by
    unfold f_X12_reckons_11
    rw [if_neg (by rw [show (1024 : Int32) = nI 1024 from rfl, nI_leI (by omega) (by omega)]; omega), gdi_nI (by omega) (by decide), nI_clamp (by omega), wm_u1]
    simp only [ltv_e, nI_1]
    obtain ⟨z1', e1, e2⟩ := q11 (G := G) l1 l2 (z2 := z2) (z3 := z3) d (k + 1) n (vp_updL z1 k 0) (by omega) (by omega)
    refine ⟨z1', e1, fun i => ?_⟩
    rw [e2 i, updL_e]
    by_cases q : i = k
    · subst q; rw [if_neg (by omega), if_pos rfl, if_pos (by omega)]
    · by_cases q2 : k ≤ i ∧ i < 1024
      · rw [if_pos (by omega), if_pos q2]
      · rw [if_neg (by omega), if_neg q, if_neg q2]
theorem wm_self (G : HP) : G = wm G (hL G 124) (hL G 125) (hI G 126) := by
  unfold wm
  refine HP_ext rfl (funext fun b => ?_) (funext fun b => ?_) rfl
  · rw [hI_rL, hI_rL]
    by_cases q : b = 126
    · subst q; rw [hI_rI_s]
    · rw [hI_rI_n _ _ q]
  · by_cases q : b = 125
    · subst q; rw [hL_rL_s]
    · rw [hL_rL_n _ _ q]
      by_cases q2 : b = 124
      · subst q2; rw [hL_rL_s]
      · rw [hL_rL_n _ _ q2, hL_rI]
theorem p2_e : ∀ w, w < 6 → (1 : Int32) <<< (nI w &&& 31) = nI (2 ^ w) := by decide +kernel
theorem reck_e {h G : HP} {t w r m c : Nat} {j : Bool} (T : TW h t w r m c j) (sm : SmN h G) (st : Bool) :
    ∃ z1 z2 z3, f_X12_reckons G (if st then 1 else 0) = some (nJ (tW (tft h t r) (tgd h t w r j st) r), wm G z1 z2 z3) ∧ ∃ y, r = y + 1 ∧ Z3 h t w r j st y z3 := by
  obtain ⟨⟨w1, w5, hw, hw'⟩, ⟨r1, r6, hr, hr'⟩, -⟩ := T.1.n
  obtain ⟨pw1, pw2⟩ := pw_le w5
  obtain ⟨z11, e1, k1⟩ := q11 (G := G) (if st then 1 else 0) (nI (2 ^ w)) (z2 := hL G 125) (z3 := hI G 126) 1024 0 FU (hL G 124) (by omega) (FU_gt (by omega))
  obtain ⟨z12, e2, k2⟩ := q33 T sm (if st then 1 else 0) (z2 := hL G 125) (z3 := hI G 126) (2 ^ w) 0 FU z11 (by omega) (FU_gt (by omega))
  have N0 : ∀ k, k < 1024 → z12 k = nJ (rcW h t w r j st 0 (k / 32) (k % 32)) ∧ rcW h t w r j st 0 (k / 32) (k % 32) < 2 ^ 31 := fun k hk => by
    refine ⟨?_, cW_31 (by omega) (by omega) (by omega)⟩
    show _ = nJ (if k / 32 = 0 ∧ tft h t r 0 (k % 32) = true then 1 else 0)
    rw [k2 k]
    by_cases q : k < 2 ^ w
    · rw [if_pos ⟨Nat.zero_le _, q⟩]
      by_cases f : tft h t r 0 k = true
      · rw [if_pos f, if_pos ⟨by omega, by rw [show k % 32 = k by omega]; exact f⟩]
        rfl
      · rw [if_neg f, if_neg (fun z => f (by rw [← show k % 32 = k by omega]; exact z.2))]
        rfl
    · rw [if_neg (fun z => q z.2), k1 k, if_pos ⟨Nat.zero_le _, hk⟩, if_neg (fun z => q (by have := tft_lt T 0 _ z.2; omega))]
      rfl
  obtain ⟨z33, e3, k3⟩ := q66 (G := G) (if st then 1 else 0) (nI (2 ^ w)) (z2 := hL G 125) N0 1024 0 FU (hI G 126) (by omega) (FU_gt (by omega))
  obtain ⟨z14, z24, z34, e4, k4⟩ := q103 T sm st (r - 1) 0 FU z12 (hL G 125) z33 (by omega) (FU_gt (by omega)) (fun k hk => (N0 k hk).1) (fun l k hl hk => by
    have l0 : l = 0 := by omega
    subst l0
    rw [k3, Nat.mul_zero, Nat.zero_add, if_pos ⟨Nat.zero_le _, hk⟩])
  refine ⟨z14, z24, z34, ?_, k4⟩
  unfold f_X12_reckons
  simp only [ltv_e]
  rw [sm 0 (by omega), hw, p2_e w (by omega)]
  have s0 : f_X12_reckons_11 FU (if st then 1 else 0) (nI (2 ^ w)) 0 G = f_X12_reckons_11 FU (if st then 1 else 0) (nI (2 ^ w)) (nI 0) (wm G (hL G 124) (hL G 125) (hI G 126)) := by rw [← wm_self]; rfl
  rw [s0, e1]
  exact e2.trans (e3.trans e4)
