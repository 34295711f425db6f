/-! ===== alike: mending, the reference; mend ===== -/
def fmR (F : Int32) (p q : Nat) (s : Int32) : Prop := s = 0 ∨ ∃ x y, x < 30 ∧ y < 30 ∧ bt F x = true ∧ bt F y = true ∧ x ≤ y ∧ (x < p ∨ (x = p ∧ y < q)) ∧ s = bitI x ||| bitI y
theorem two_in {F : Int32} {p q : Nat} (hp : p < 30) (hq : q < 30) : (bitI p ||| bitI q) &&& (F ^^^ -1) = 0 ↔ bt F p = true ∧ bt F q = true := by
  constructor
  · intro e
    have g : ∀ i, i < 30 → bt (bitI p ||| bitI q) i = true → bt F i = true := fun i hi b => by
      have := congrArg (fun v => bt v i) e
      simp only [b_and, b, b_xor, b_m1 i (by omega), b_0, Bool.true_and, Bool.xor_true] at this
      cases y : bt F i
      · rw [y] at this; cases this
      · rfl
    exact ⟨g p hp (by rw [b_or, bitI_b (by omega) (by omega), decide_eq_true rfl]; rfl), g q hq (by rw [b_or, bitI_b (k := q) (by omega) (by omega), decide_eq_true rfl]; simp)⟩
  · rintro ⟨a, b⟩
    refine b_ext (fun i hi => ?_)
    rw [b_and, b_or, bitI_b (by omega) hi, bitI_b (by omega) hi, b_xor, b_m1 i hi, b_0]
    by_cases y : i = p
    · rw [y, a]; simp
    · by_cases z : i = q
      · rw [z, b]; simp
      · rw [decide_eq_false y, decide_eq_false z]; rfl
theorem pc_30s {x : Int32} : pc x < 100 := by have := pc_le x; omega
/-- the inner loop: from q on, with p the lower lamp -/
theorem r92 {h G : HP} {t w r m c : Nat} {j : Bool} (T : TW h t w r m c j) (sm : SmN h G) (ln : LN G w r j) {l3 a y : Int32} (K : Int32 → Int32 → Int32 → Int32 → Int32 → Int32 → Int32 → HP → Option (Int32 × HP)) (hy : ∀ s, inH h s → pc (nxF h t (hI h 114 3 ^^^ s) ^^^ y) = cstF h t a s) {p : Nat} (hp : p < w * r) : ∀ d q n b, q + d = w * r → d < n → p ≤ q → Bst (cstF h t a) (fmR (hI h (t + 1) 5) p q) b →
    ∃ b', f_X12_mend_92 K n l3 y (hI h (t + 1) 5) b (nI (cstF h t a b)) (nI (pc b)) (nI p) (nI q) G = K l3 y (hI h (t + 1) 5) b' (nI (cstF h t a b')) (nI (pc b')) (nI (p + 1)) G ∧ Bst (cstF h t a) (fmR (hI h (t + 1) 5) (p + 1) (p + 1)) b'
  | d, q, 0, _, _, z, _, _ => absurd z (by omega)
  | 0, q, n + 1, b, e, _, pq, B => by
    obtain ⟨⟨w1, w5, hw, hw'⟩, ⟨r1, r6, hr, hr'⟩, -⟩ := T.1.n
    have h30 := wr_le w5 r6
    unfold f_X12_mend_92
    rw [places_e G (w := w) (r := r) (by rw [sm 0 (by omega)]; exact hw) (by rw [sm 1 (by omega)]; exact hr), bd2_s, if_pos (by rw [nI_leI (by omega) (by omega)]; omega)]
    simp only [ltv_e, nI_1]
    refine ⟨b, rfl, B.same (fun s => ?_)⟩
    unfold fmR
    constructor
    · rintro (x | ⟨x, y, x1, y1, x2, y2, xy, k, rfl⟩)
      · exact Or.inl x
      · exact Or.inr ⟨x, y, x1, y1, x2, y2, xy, by omega, rfl⟩
    · rintro (x | ⟨x, y, x1, y1, x2, y2, xy, k, rfl⟩)
      · exact Or.inl x
      · have := free_P T.1 y (by omega) y2
        exact Or.inr ⟨x, y, x1, y1, x2, y2, xy, by omega, rfl⟩
  | d + 1, q, n + 1, b, e, z, pq, B => by
    obtain ⟨⟨w1, w5, hw, hw'⟩, ⟨r1, r6, hr, hr'⟩, -, -, -, h6, h7⟩ := T.1.n
    have h30 := wr_le w5 r6
    unfold f_X12_mend_92
    rw [places_e G (w := w) (r := r) (by rw [sm 0 (by omega)]; exact hw) (by rw [sm 1 (by omega)]; exact hr), bd2_s, if_neg (by rw [nI_leI (by omega) (by omega)]; omega)]
    simp only [ltv_e]
    rw [show ((1 : Int32) <<< (nI p &&& 31) ||| (1 : Int32) <<< (nI q &&& 31)) = bitI p ||| bitI q from rfl]
    by_cases inF : (bitI p ||| bitI q) &&& (hI h (t + 1) 5 ^^^ -1) = 0
    · rw [if_pos inF]
      obtain ⟨fp, fq⟩ := (two_in (by omega) (by omega)).mp inF
      have fh : ∀ i, i < 32 → bt (hI h (t + 1) 5) i = true → bt (hI h 114 2) i = true := fun i hi b => by
        rw [(h6 i hi).1, Bool.and_eq_true] at b; exact b.1
      have sH : inH h (bitI p ||| bitI q) := fun i hi b => by
        rw [b_or, bitI_b (by omega) hi, bitI_b (by omega) hi, Bool.or_eq_true, decide_eq_true_eq, decide_eq_true_eq] at b
        rcases b with rfl | rfl
        · exact fh _ hi fp
        · exact fh _ hi fq
      have xH : inH h (hI h 114 3 ^^^ (bitI p ||| bitI q)) := fun i hi b => by
        rw [b_xor] at b
        cases y : bt (hI h 114 3) i
        · rw [y] at b; exact sH i hi (by simpa using b)
        · exact T.pic i hi y
      obtain ⟨s, es⟩ : ∃ s, s = bitI p ||| bitI q := ⟨_, rfl⟩
      rw [← es] at sH xH ⊢
      have c1 : cstF h t a b < 100 := pc_30s
      have c2 : cstF h t a s < 100 := pc_30s
      have c3 : pc b < 100 := pc_30s
      have c4 : pc s < 100 := pc_30s
      have done : ∀ {b'}, Bst (cstF h t a) (fun x => fmR (hI h (t + 1) 5) p q x ∨ x = s) b' → Bst (cstF h t a) (fmR (hI h (t + 1) 5) p (q + 1)) b' := fun {b'} B' => B'.same (fun x => by
        unfold fmR
        constructor
        · rintro ((k | ⟨u, v, u1, v1, u2, v2, uv, k, rfl⟩) | rfl)
          · exact Or.inl k
          · exact Or.inr ⟨u, v, u1, v1, u2, v2, uv, by omega, rfl⟩
          · exact Or.inr ⟨p, q, by omega, by omega, fp, fq, pq, by omega, es⟩
        · rintro (k | ⟨u, v, u1, v1, u2, v2, uv, k, rfl⟩)
          · exact Or.inl (Or.inl k)
          · by_cases y : u < p ∨ (u = p ∧ v < q)
            · exact Or.inl (Or.inr ⟨u, v, u1, v1, u2, v2, uv, y, rfl⟩)
            · have e1 : u = p := by omega
              have e2 : v = q := by omega
              rw [e1, e2]; exact Or.inr es.symm)
      have no : lek (cstF h t a) b s → ∃ b', f_X12_mend_199 (f_X12_mend_92 K n) l3 y (hI h (t + 1) 5) b (nI (cstF h t a b)) (nI (pc b)) (nI p) (nI q) s (nI (cstF h t a s)) 0 G = K l3 y (hI h (t + 1) 5) b' (nI (cstF h t a b')) (nI (pc b')) (nI (p + 1)) G ∧ Bst (cstF h t a) (fmR (hI h (t + 1) 5) (p + 1) (p + 1)) b' := fun k => by
        unfold f_X12_mend_199
        rw [if_pos rfl]
        simp only [ltv_e, nI_1]
        exact r92 T sm ln K hy hp d (q + 1) n b (by omega) (by omega) (by omega) (done (B.put (Or.inl ⟨rfl, k⟩)))
      have yes : lek (cstF h t a) s b → ∃ b', f_X12_mend_199 (f_X12_mend_92 K n) l3 y (hI h (t + 1) 5) b (nI (cstF h t a b)) (nI (pc b)) (nI p) (nI q) s (nI (cstF h t a s)) 1 G = K l3 y (hI h (t + 1) 5) b' (nI (cstF h t a b')) (nI (pc b')) (nI (p + 1)) G ∧ Bst (cstF h t a) (fmR (hI h (t + 1) 5) (p + 1) (p + 1)) b' := fun k => by
        unfold f_X12_mend_199
        rw [if_neg (by decide), bits_e, bd2_s]
        simp only [ltv_e, nI_1]
        exact r92 T sm ln K hy hp d (q + 1) n s (by omega) (by omega) (by omega) (done (B.put (Or.inr ⟨rfl, k⟩)))
      rw [sm 3 (by omega), T.bec sm ln xH, bd2_s, bits_e, bd2_s, hy s sH]
      by_cases k1 : cstF h t a s < cstF h t a b
      · rw [if_pos (by rw [nI_ltI (by omega) (by omega)]; exact k1)]
        exact yes (Or.inl k1)
      · rw [if_neg (by rw [nI_ltI (by omega) (by omega)]; exact k1)]
        by_cases k2 : cstF h t a s = cstF h t a b
        · rw [if_pos (by rw [k2]), bits_e, bd2_s]
          by_cases k3 : pc s < pc b
          · rw [if_pos (by rw [nI_ltI (by omega) (by omega)]; exact k3)]
            exact yes (Or.inr ⟨k2, Or.inl k3⟩)
          · rw [if_neg (by rw [nI_ltI (by omega) (by omega)]; exact k3), bits_e, bd2_s]
            by_cases k4 : pc s = pc b
            · rw [if_pos (by rw [k4])]
              by_cases k5 : b ≤ s
              · rw [if_pos k5]; exact no (Or.inr ⟨k2.symm, Or.inr ⟨k4.symm, Int32.le_iff_toInt_le.mp k5⟩⟩)
              · rw [if_neg k5]; exact yes (Or.inr ⟨k2, Or.inr ⟨k4, by rw [Int32.le_iff_toInt_le] at k5; omega⟩⟩)
            · rw [if_neg (fun y => k4 (nI_inj (by omega) (by omega) y))]
              exact no (Or.inr ⟨k2.symm, Or.inl (by omega)⟩)
        · rw [if_neg (fun y => k2 (nI_inj (by omega) (by omega) y))]
          exact no (Or.inl (by omega))
    · rw [if_neg inF]
      have inF' := fun y => inF ((two_in (by omega) (by omega)).mpr y)
      rw [nI_1]
      refine r92 T sm ln K hy hp d (q + 1) n b (by omega) (by omega) (by omega) (B.same (fun s => ?_))
      unfold fmR
      constructor
      · rintro (x | ⟨u, v, u1, v1, u2, v2, uv, k, rfl⟩)
        · exact Or.inl x
        · exact Or.inr ⟨u, v, u1, v1, u2, v2, uv, by omega, rfl⟩
      · rintro (x | ⟨u, v, u1, v1, u2, v2, uv, k, rfl⟩)
        · exact Or.inl x
        · refine Or.inr ⟨u, v, u1, v1, u2, v2, uv, ?_, rfl⟩
          by_cases y : u = p ∧ v = q
          · exact absurd ⟨by rw [← y.1]; exact u2, by rw [← y.2]; exact v2⟩ inF'
          · omega
