/-! ===== alike: signal, the whole ===== -/
theorem sigM {h G0 : HP} {t w r m c : Nat} {j : Bool} (ht : t = 79 ∨ t = 96) (T : TW h t w r m c j) (sm : SmN h G0) {N p q : Nat} (hN : N < 1000000) (hp : p < w) (hq : q < r) (b : Int32) :
    ∃ G', f_X12_signal_33 (nI p) (nI q) (nI N) b 0 G0 = (if hI G' 113 30 = -1 then some (-1, uI G' 113 2 6) else some (if b = 0 then hI G' 113 31 else hI G' 113 30, uI G' 113 2 0)) ∧ rS h t w r j N (q * w + p) G0 (fam3 (hI h (t + 1) 5)) G' := by
  obtain ⟨⟨w1, w5, hw, hw'⟩, ⟨r1, r6, hr, hr'⟩, -, -, -, h6, h7⟩ := T.1.n
  have h30 := wr_le w5 r6
  have hpl := pl_lt hp hq
  have L : ∀ k, hI (lnH G0 w r j) 114 k = hI G0 114 k := fun k => by rw [lnH_I _ _ _ _ (by decide)]
  have S0 : rS h t w r j N (q * w + p) G0 (fun _ => False) (uI (lnH G0 w r j) 113 30 (-1)) := by
    refine ⟨⟨((Sm.refl t G0).ln ht w r j).I _ _ _ (by unfold relI inT; omega), by rw [hI_uI_n' (by decide), lnH_I _ _ _ _ (by decide)]⟩, fun k hk => by rw [hI_uI_n (by omega), L]; exact sm k hk, fun k hk => ?_, Or.inl ⟨hI_uI_s _ _ _ _, fun _ q => q.elim⟩⟩
    rw [hI_uI_n (by omega), hI_uI_n (by omega)]
    exact lnH_LN G0 w r j k hk
  obtain ⟨G1, e1, S1⟩ := tr_e ht T hN (p := q * w + p) (by omega) S0 (s := 0) (fun i _ q => by rw [b_0] at q; cases q) (Int.le_refl 0)
  obtain ⟨G2, e2, S2⟩ := ga_lp ht T hN (p := q * w + p) (by omega) b (w * r) 0 FU G1 (by omega) (FU_gt (by omega)) (S1.same (fun s => by
    unfold gA
    constructor
    · rintro (x | x)
      · exact x.elim
      · exact Or.inl x
    · rintro (x | ⟨x, x1, -⟩)
      · exact Or.inr x
      · omega))
  refine ⟨G2, ?_, S2⟩
  unfold f_X12_signal_33
  rw [if_pos (by decide), T.ln sm, bd1_s, bit_e _ (by rw [L, sm 0 (by omega)]; exact hw), bd2_s, freeM_e, bd2_s, L 2, L 4, sm 2 (by omega), sm 4 (by omega), ← free_e T.1]
  simp only [ltv_e]
  rw [pc_0, show nI 0 = 0 from rfl] at e1
  rw [e1, bd1_s]
  exact e2
theorem op_signal {h : HP} {t u : Nat} (I : Inv h t u) (x y a b : Int32) : Op t u (f_X11_signal h t x y a b) (fun g => f_X12_signal g x y a b) := by
  have ht := I.t
  obtain ⟨w, r, m, c, j, T⟩ := I.tw
  obtain ⟨⟨w1, w5, hw, hw'⟩, ⟨r1, r6, hr, hr'⟩, -, -, ⟨h4, h5⟩, h6, h7⟩ := T.1.n
  have h30 := wr_le w5 r6
  have fr : ∀ g, f_X12_isFrom g (Int32.toInt64 a) 0 30 = some (bI (decide (0 ≤ a.toInt ∧ a.toInt ≤ 30)), g) := fun g => fr32 g a (n := 30) (by decide)
  have m33 : ∀ g s, ¬ s ≤ 0 → f_X12_signal_33 x y a b s g = some (-1, uI g 113 2 s) := fun g s hs => by
    unfold f_X12_signal_33; rw [if_neg hs]; rfl
  have mbad : ¬ ((0 ≤ a.toInt ∧ a.toInt ≤ 30) ∧ 0 ≤ b.toInt ∧ b.toInt ≤ 1) → f_X12_signal (uI h 0 11 1) x y a b = some (-1, uI (uI h 0 11 1) 113 2 1) := fun z => by
    unfold f_X12_signal
    rw [fr, bd2_s]
    by_cases ha : 0 ≤ a.toInt ∧ a.toInt ≤ 30
    · rw [bI_dt ha, if_neg (by decide)]
      by_cases b1 : b < 0
      · rw [if_pos b1, m33 _ _ (by decide)]
      · rw [if_neg b1, if_neg (show ¬ b ≤ 1 from fun p => z ⟨ha, (toI32 (n := 1) (by decide)).mp ⟨b1, Int32.not_lt.mpr p⟩⟩), m33 _ _ (by decide)]
    · rw [bI_df ha, if_pos rfl, m33 _ _ (by decide)]
  have c37 : ∀ g, f_X11_signal_37 t g = some (-1, uI g 0 11 1) := fun g => rfl
  unfold f_X11_signal
  rcases pl_cases (w := w) (r := r) (by omega) (by omega) x y with ⟨p, q, hp, hq, rfl, rfl⟩ | hn
  · have hpl := pl_lt hp hq
    rw [plc_e w5 r6 hw' hr' hp hq, bd2_s, if_neg (lt_nI0 _ (by omega)), nts_e, bd2_s]
    by_cases ok : (0 ≤ a.toInt ∧ a.toInt ≤ 30) ∧ 0 ≤ b.toInt ∧ b.toInt ≤ 1
    · obtain ⟨ha, hb⟩ := ok
      obtain ⟨N, hN, rfl⟩ := rng_nI (n := 30) ha
      obtain ⟨b1, b2⟩ := (toI32 (n := 1) (by decide)).mpr hb
      have b3 : b ≤ 1 := Int32.not_lt.mp b2
      rw [bI_dt ha, if_neg (by decide), if_neg b1, if_pos b3]
      obtain ⟨k, ek⟩ : ∃ k, k = q * w + p := ⟨_, rfl⟩
      rw [← ek] at hpl ⊢
      rw [show (1 : Int32) <<< (nI k &&& 31) = bitI k from rfl, h4]
      have M : ∀ g, SmN h g → f_X12_signal g (nI p) (nI q) (nI N) b = f_X12_signal_33 (nI p) (nI q) (nI N) b (if bt (hI h 114 2) k = true then 0 else 7) g := fun g sm => by
        unfold f_X12_signal
        rw [fr, bd2_s, bI_dt ha, if_neg (by decide), if_neg b1, if_pos b3, wh_in w5 r6 (by rw [sm 0 (by omega)]; exact hw) (by rw [sm 1 (by omega)]; exact hr) hp hq, bd2_s, sm 2 (by omega), ← ek]
      by_cases hh : bt (hI h 114 2) k = true
      · rw [if_neg (fun z => by rw [(and_bit (by omega)).mp z] at hh; cases hh)]
        rcases sigC ht T (N := N) (p := k) (by omega) hpl with ⟨g', s, e1, s1, k2, B⟩ | ⟨g', e1, s1, no⟩
        · obtain ⟨G', e2, S⟩ := sigM ht T (s1.n ht 0) (N := N) (by omega) hp hq b
          rw [← ek] at S
          obtain ⟨⟨S1, S2⟩, -, -, S3⟩ := S
          have S0 : hI G' 0 11 = 0 := by rw [S2, hI_uI_s]
          have res : hI G' 113 30 = s ∧ hI G' 113 31 = nI (pc s) ∧ ¬ hI G' 113 30 = -1 := by
            rcases S3 with ⟨z1, z2⟩ | ⟨v, z1, z2, z3, z4⟩
            · exact absurd B.1.2 (z2 s B.1.1)
            · have ev : v = s := Bst.uq z4 B
              subst ev
              exact ⟨z1, z3, fun z => by rw [z1] at z; rw [z] at z2; exact absurd z2 (by decide)⟩
          refine op_sc I (g1 := g') (v := 0) (r := if b = 0 then nI (pc s) else s) ?_ s1.2 (g2 := G') ?_ S1 S0
          · rw [e1, bd2_s, if_neg (by decide), k2]
            by_cases b0 : b = 0
            · rw [if_pos b0, if_pos b0, show f_J6_bitCount_0f7a4 g' s = some (nI (pc s), g') from rfl, bd2_s, ans_e, bd2_s]
            · rw [if_neg b0, if_neg b0, ans_e, bd2_s]
          · show f_X12_signal _ _ _ _ _ = _
            rw [M _ (s1.n ht 0), if_pos hh, e2, if_neg res.2.2, res.1, res.2.1]
        · obtain ⟨G', e2, S⟩ := sigM ht T (s1.n ht 6) (N := N) (by omega) hp hq b
          rw [← ek] at S
          obtain ⟨⟨S1, S2⟩, -, -, S3⟩ := S
          have S0 : hI G' 0 11 = 6 := by rw [S2, hI_uI_s]
          have res : hI G' 113 30 = -1 := by
            rcases S3 with ⟨z1, z2⟩ | ⟨v, z1, z2, z3, z4⟩
            · exact z1
            · exact absurd z4.1.2 (no v z4.1.1)
          refine op_sc I (g1 := g') (v := 6) (r := -1) ?_ s1.2 (g2 := G') ?_ S1 S0
          · rw [e1, bd2_s, if_pos rfl, ref_e, bd2_s]
          · show f_X12_signal _ _ _ _ _ = _
            rw [M _ (s1.n ht 6), if_pos hh, e2, if_pos res]
      · have hh : bt (hI h 114 2) k = false := by simpa using hh
        rw [if_pos ((and_bit (by omega)).mpr hh)]
        refine op_st I (v := 7) (r := -1) rfl ?_
        show f_X12_signal _ _ _ _ _ = _
        rw [M _ (fun k _ => by rw [hI_st h 7 (by decide)]), hh, if_neg (by decide), m33 _ _ (by decide)]
    · refine op_st I (v := 1) (r := -1) ?_ (mbad ok)
      by_cases ha : 0 ≤ a.toInt ∧ a.toInt ≤ 30
      · rw [bI_dt ha, if_neg (by decide)]
        by_cases b1 : b < 0
        · rw [if_pos b1, c37]
        · rw [if_neg b1, if_neg (show ¬ b ≤ 1 from fun p => ok ⟨ha, (toI32 (n := 1) (by decide)).mp ⟨b1, Int32.not_lt.mpr p⟩⟩), c37]
      · rw [bI_df ha, if_pos rfl, c37]
  · rw [plc_no (by rw [hw', hr']; exact hn), bd2_s, if_pos (by decide), c37]
    refine op_st I (v := 1) (r := -1) rfl ?_
    by_cases ok : (0 ≤ a.toInt ∧ a.toInt ≤ 30) ∧ 0 ≤ b.toInt ∧ b.toInt ≤ 1
    · obtain ⟨ha, hb⟩ := ok
      obtain ⟨b1, b2⟩ := (toI32 (n := 1) (by decide)).mpr hb
      show f_X12_signal _ _ _ _ _ = _
      unfold f_X12_signal
      rw [fr, bd2_s, bI_dt ha, if_neg (by decide), if_neg b1, if_pos (show b ≤ 1 from Int32.not_lt.mp b2), wh_out (by rw [hI_st h 1 (by decide), hI_st h 1 (by decide), hw, hr]; exact hn), bd2_s, m33 _ _ (by decide)]
    · exact mbad ok
