/-! ===== alike: mend, the whole ===== -/
theorem r79 {h G : HP} {t w r m c : Nat} {j : Bool} (T : TW h t w r m c j) (sm : SmN h G) (ln : LN G w r j) {l3 a y : Int32} (hy : ∀ s, inH h s → pc (nxF h t (hI h 114 3 ^^^ s) ^^^ y) = cstF h t a s) : ∀ d p n b, p + d = w * r → d < n → Bst (cstF h t a) (fmR (hI h (t + 1) 5) p p) b →
    ∃ b', f_X12_mend_79 n l3 y (hI h (t + 1) 5) b (nI (cstF h t a b)) (nI (pc b)) (nI p) G = some (if l3 = 0 then nI (cstF h t a b') else b', uI G 113 2 0) ∧ Bst (cstF h t a) (fmR (hI h (t + 1) 5) (w * r) (w * r)) b'
  | d, p, 0, _, _, z, _ => absurd z (by omega)
  | 0, p, n + 1, b, e, _, B => by
    obtain ⟨⟨w1, w5, hw, hw'⟩, ⟨r1, r6, hr, hr'⟩, -⟩ := T.1.n
    have h30 := wr_le w5 r6
    have e : p = w * r := by omega
    rw [e] at B
    refine ⟨b, ?_, B⟩
    unfold f_X12_mend_79
    rw [places_e G (w := w) (r := r) (by rw [sm 0 (by omega)]; exact hw) (by rw [sm 1 (by omega)]; exact hr), bd2_s, if_pos (by rw [nI_leI (by omega) (by omega)]; omega)]
    by_cases q : l3 = 0
    · simp only [if_pos q, giv_e, bd2_s]
    · simp only [if_neg q, giv_e, bd2_s]
  | d + 1, p, n + 1, b, e, z, B => by
    obtain ⟨⟨w1, w5, hw, hw'⟩, ⟨r1, r6, hr, hr'⟩, -⟩ := T.1.n
    have h30 := wr_le w5 r6
    obtain ⟨b1, e1, B1⟩ := r92 T sm ln (l3 := l3) (f_X12_mend_79 n) hy (p := p) (by omega) (w * r - p) p FU b (by omega) (FU_gt (by omega)) (Nat.le_refl _) B
    obtain ⟨b', e', B'⟩ := r79 T sm ln hy (l3 := l3) d (p + 1) n b1 (by omega) (by omega) B1
    refine ⟨b', ?_, B'⟩
    unfold f_X12_mend_79
    rw [places_e G (w := w) (r := r) (by rw [sm 0 (by omega)]; exact hw) (by rw [sm 1 (by omega)]; exact hr), bd2_s, if_neg (by rw [nI_leI (by omega) (by omega)]; omega)]
    exact e1.trans e'
theorem fmR_fam {F : Int32} {W : Nat} (hF : ∀ i, i < 32 → bt F i = true → i < W) (s : Int32) : fmR F W W s ↔ fam F s := by
  have orc : ∀ x y : Int32, x ||| y = y ||| x := fun x y => Int32.or_comm x y
  unfold fmR fam
  constructor
  · rintro (x | ⟨u, v, u1, v1, u2, v2, uv, k, rfl⟩)
    · exact Or.inl x
    · by_cases e : u = v
      · subst e; exact Or.inr (Or.inl ⟨u, u1, u2, Int32.or_self⟩)
      · exact Or.inr (Or.inr ⟨v, u, v1, u1, v2, u2, by omega, orc _ _⟩)
  · rintro (x | ⟨i, i1, i2, rfl⟩ | ⟨i, j, i1, j1, i2, j2, ij, rfl⟩)
    · exact Or.inl x
    · exact Or.inr ⟨i, i, i1, i1, i2, i2, Nat.le_refl _, Or.inl (hF i (by omega) i2), Int32.or_self.symm⟩
    · exact Or.inr ⟨j, i, j1, i1, j2, i2, by omega, Or.inl (hF j (by omega) j2), orc _ _⟩
theorem op_mend {h : HP} {t u : Nat} (I : Inv h t u) (x : Int64) (a : Int32) : Op t u (f_X11_mend h t x a) (fun g => f_X12_mend g x a) := by
  have ht := I.t
  obtain ⟨w, r, m, c, j, T⟩ := I.tw
  obtain ⟨⟨w1, w5, hw, hw'⟩, ⟨r1, r6, hr, hr'⟩, -, -, -, h6, h7⟩ := T.1.n
  have h30 := wr_le w5 r6
  unfold f_X11_mend f_X12_mend
  simp only [bd2_s, isPicture_e, isFrom_e, ref_e, rfs_e]
  by_cases ha : 0 ≤ x.toInt ∧ x.toInt ≤ 1073741823
  · rw [bI_dt ha, if_neg (by decide)]
    have ha2 : Int64.toInt 0 ≤ x.toInt ∧ x.toInt ≤ Int64.toInt 1073741823 := ha
    by_cases a1 : a < 0
    · rw [if_pos a1]
      refine op_st I (v := 1) (r := -1) rfl ?_
      try simp only []
      rw [bI_dt ha2, if_neg (by decide), if_pos a1]
    · rw [if_neg a1]
      by_cases a2 : a ≤ 1
      · rw [if_pos a2]
        obtain ⟨g', b, e1, s1, k5, k2, B⟩ := mendC ht T (Int64.toInt32 x)
        rw [e1, bd1_s, k5, k2]
        have f3 := places_b T.1
        have hy : ∀ s, inH h s → pc (nxF h t (hI h 114 3 ^^^ s) ^^^ (Int64.toInt32 x &&& (((1 : Int32) <<< (nI (w * r) &&& 31)) - 1))) = cstF h t (Int64.toInt32 x) s := fun s hs => by
          have xH : inH h (hI h 114 3 ^^^ s) := fun i hi b => by
            rw [b_xor] at b
            cases y : bt (hI h 114 3) i
            · rw [y] at b; exact hs i hi (by simpa using b)
            · exact T.pic i hi y
          unfold cstF
          congr 1
          rw [f3]
          refine b_ext (fun i hi => ?_)
          rw [b_xor, b_and, b_and, b_xor, mask_b (w * r) (by omega) i hi]
          by_cases y : i < w * r
          · rw [decide_eq_true y]; simp
          · rw [decide_eq_false y]
            cases z : bt (nxF h t (hI h 114 3 ^^^ s)) i
            · simp
            · exact absurd (inH_P T.1 (T.nx xH) i hi z) y
        have sm : SmN h (uI g' 0 11 0) := s1.n ht 0
        have b0 : Bst (cstF h t (Int64.toInt32 x)) (fmR (hI h (t + 1) 5) 0 0) 0 := ⟨Or.inl rfl, fun s hs => by
          rcases hs with rfl | ⟨u, v, u1, v1, u2, v2, uv, k, -⟩
          · exact lek.rfl' _ _
          · omega⟩
        obtain ⟨b', e2, B2⟩ := r79 T (sm.ln w r j) (lnH_LN _ w r j) (l3 := a) hy (w * r) 0 FU 0 (by omega) (FU_gt (by omega)) b0
        have eb : b = b' := Bst.uq B (B2.same (fmR_fam (free_P T.1)))
        subst eb
        refine op_sc I (g1 := g') (v := 0) (r := if a = 0 then nI (cstF h t (Int64.toInt32 x) b) else b) ?_ s1.2 (g2 := lnH (uI g' 0 11 0) w r j) ?_ ((Sm.refl _ _).ln ht w r j) (by rw [lnH_I _ _ _ _ (by decide), hI_uI_s])
        · simp only [ans_e, bd2_s]
          by_cases q : a = 0
          · rw [if_pos q, if_pos q]
          · rw [if_neg q, if_neg q]
        · try simp only []
          have L : ∀ k, hI (lnH (uI g' 0 11 0) w r j) 114 k = hI (uI g' 0 11 0) 114 k := fun k => by rw [lnH_I _ _ _ _ (by decide)]
          have hx0 : hI h 114 3 ^^^ 0 = hI h 114 3 := Int32.xor_zero
          have c0 := hy 0 (fun i _ q => by rw [b_0] at q; cases q)
          rw [hx0] at c0
          rw [bI_dt ha2, if_neg (by decide), if_neg a1, if_pos a2, T.ln sm, bd1_s, whole_e _ (by rw [L, sm 0 (by omega)]; exact hw) (by rw [L, sm 1 (by omega)]; exact hr), bd2_s, ltv_e]
          have nx0 := T.bec (sm.ln w r j) (lnH_LN _ w r j) T.pic
          rw [freeM_e, bd2_s, L 2, L 4, L 3, sm 2 (by omega), sm 4 (by omega), sm 3 (by omega), nx0, bd2_s, bits_e, bd2_s, c0, ← free_e T.1]
          have pz : (0 : Int32) = nI (pc 0) := by rw [pc_0]; rfl
          have z0 : nI 0 = 0 := rfl
          rw [← pz, z0] at e2
          exact e2
      · rw [if_neg a2]
        refine op_st I (v := 1) (r := -1) rfl ?_
        try simp only []
        rw [bI_dt ha2, if_neg (by decide), if_neg a1, if_neg a2]
  · rw [bI_df ha, if_pos rfl]
    refine op_st I (v := 1) (r := -1) rfl ?_
    try simp only []
    rw [bI_df (show ¬ (Int64.toInt 0 ≤ x.toInt ∧ x.toInt ≤ Int64.toInt 1073741823) from ha), if_pos rfl]
