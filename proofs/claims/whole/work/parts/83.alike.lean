/-! ===== alike: a picture's corner ===== -/
theorem shr_all {s : Int32} {n : Nat} (hn : n < 32) (h31 : bt s 31 = false) (b : Nat) : bt (s >>> (nI n &&& 31)) b = bt s (n + b) := by
  by_cases hb : b < 32
  · exact shrb hn hb h31
  · rw [b_big (by omega), b_big (by omega)]
theorem big_p {w r : Nat} {p : Int32} (hp : inP w r p) (h30 : w * r ≤ 30) {k : Nat} (hk : 30 ≤ k) : bt p k = false := by
  by_cases q : k < 32
  · cases e : bt p k
    · rfl
    · have := hp k q e; omega
  · exact b_big (by omega)
theorem bt_32 {x : Int32} {k : Nat} (h : bt x k = true) : k < 32 := by
  by_cases z : k < 32
  · exact z
  · rw [b_big (by omega)] at h; cases h
def CorH (w : Nat) (p : Int32) (g : HP) : Prop := ∃ cx cy, Cor w p cx cy ∧ hI g 72 6 = nI cx ∧ hI g 72 7 = nI cy ∧ cx < 5 ∧ cy < 6 ∧ ∀ b, bt (hI g 72 5) b = bt p (b + (cy * w + cx))
theorem coln_lp {h : HP} {t w r m c : Nat} {j : Bool} (ht : t = 79 ∨ t = 96) (T : TW h t w r m c j) {p : Int32} (hp : inP w r p) (p0 : p ≠ 0) {cy : Nat} (cy6 : cy < 6) (R1 : ∀ i, bt p i = true → cy ≤ i / w) (R2 : ∃ i, bt p i = true ∧ i / w = cy) : ∀ d k n g, k + d = w → d < n → Sc t h g → (∀ b, bt (hI g 72 5) b = bt p (b + (cy * w + k))) → hI g 72 6 = nI k → hI g 72 7 = nI cy → (∀ i, bt p i = true → k ≤ i % w) →
    ∃ g', f_X3_moveToCorner_64 (t + 1) n g = some g' ∧ Sc t h g' ∧ CorH w p g'
  | d, k, 0, g, _, z, _, _, _, _, _ => absurd z (by omega)
  | 0, k, n + 1, g, e, _, s, q5, q6, q7, C1 => by
    have w1 := T.1.n.1.1
    obtain ⟨i, i1, i2⟩ := R2
    have := C1 i i1
    have := Nat.mod_lt i (show 0 < w by omega)
    omega
  | d + 1, k, n + 1, g, e, z, s, q5, q6, q7, C1 => by
    obtain ⟨⟨w1, w5, hw, hw'⟩, ⟨r1, r6, hr, hr'⟩, -⟩ := T.1.n
    have h30 := wr_le w5 r6
    have hb := T.2.2.1.2.2.2
    unfold f_X3_moveToCorner_64
    rw [s.1.1 (t + 1) (by omega), hw', q6, if_neg (by rw [nI_leI (by omega) (by omega)]; omega)]
    by_cases y : hI g 72 5 &&& hI h (t + 1) 7 = 0
    · rw [if_pos y]
      have C2 : ∀ i, bt p i = true → k + 1 ≤ i % w := fun i b => by
        refine Classical.byContradiction (fun q => ?_)
        have c1 := C1 i b
        have c2 := R1 i b
        have e1 := idx_eq (i := i) w1
        have m1 : cy * w ≤ (i / w) * w := Nat.mul_le_mul_right w c2
        have il := hp i (bt_32 b) b
        have e2 : i - (cy * w + k) = (i / w - cy) * w := by rw [Nat.sub_mul]; omega
        have b1 : bt (hI g 72 5) (i - (cy * w + k)) = true := by rw [q5, show i - (cy * w + k) + (cy * w + k) = i by omega]; exact b
        have b2 := congrArg (fun v => bt v (i - (cy * w + k))) y
        simp only [b_and, b1, b_0, (hb _ (bt_32 b1)).2.1, Bool.true_and] at b2
        have b3 := of_decide_eq_false b2
        exact b3 ⟨by omega, by rw [e2, Nat.mul_mod_left]⟩
      simp only [ltv_e]
      have q5' : ∀ b, bt (hI g 72 5 >>> (1 &&& 31)) b = bt p (b + (cy * w + (k + 1))) := fun b => by
        have := shr_all (s := hI g 72 5) (n := 1) (by decide) (by rw [q5]; exact big_p hp h30 (by omega)) b
        rw [show (1 : Int32) = nI 1 from rfl, this, q5]; congr 1; omega
      obtain ⟨S, eS⟩ : ∃ S, S = hI g 72 5 >>> (1 &&& 31) := ⟨_, rfl⟩
      rw [← eS] at q5' ⊢
      rw [hI_uI_n (h := g) (a := 72) (j := 5) (by omega), q6, nI_1]
      exact coln_lp ht T hp p0 cy6 R1 R2 d (k + 1) n _ (by omega) (by omega) ((s.I72 ht 5 _).I72 ht 6 _) (fun b => by rw [hI_uI_n (by omega), hI_uI_s]; exact q5' b) (hI_uI_s _ _ _ _) (by rw [hI_uI_n (by omega), hI_uI_n (by omega)]; exact q7) C2
    · rw [if_neg y]
      refine ⟨g, rfl, s, k, cy, ⟨fun i hi b => ⟨C1 i b, R1 i b⟩, ?_, ?_⟩, q6, q7, by omega, cy6, q5⟩
      · obtain ⟨b, hb1, hb2⟩ := ne0_b.mp y
        rw [b_and, Bool.and_eq_true, (hb b hb1).2.1, decide_eq_true_eq, q5] at hb2
        refine ⟨b + (cy * w + k), bt_32 hb2.1, hb2.1, ?_⟩
        have e1 := idx_eq (i := b) w1
        rw [show b + (cy * w + k) = (b / w + cy) * w + k by rw [Nat.add_mul]; omega]
        exact (div_of w1 (by omega)).2
      · obtain ⟨i, i1, i2⟩ := R2
        exact ⟨i, bt_32 i1, i1, i2⟩
theorem row_lp {h : HP} {t w r m c : Nat} {j : Bool} (ht : t = 79 ∨ t = 96) (T : TW h t w r m c j) {p : Int32} (hp : inP w r p) (p0 : p ≠ 0) : ∀ d k n g, k + d = r → d < n → Sc t h g → (∀ b, bt (hI g 72 5) b = bt p (b + k * w)) → hI g 72 6 = nI 0 → hI g 72 7 = nI k → (∀ i, bt p i = true → k ≤ i / w) →
    ∃ g', f_X3_moveToCorner_15 (t + 1) n g = some g' ∧ Sc t h g' ∧ CorH w p g'
  | d, k, 0, g, _, z, _, _, _, _, _ => absurd z (by omega)
  | 0, k, n + 1, g, e, _, s, q5, q6, q7, C1 => by
    have w1 := T.1.n.1.1
    obtain ⟨i, i1, i2⟩ := ne0_b.mp p0
    have := C1 i i2
    have := hp i i1 i2
    have : i / w < r := by rw [Nat.div_lt_iff_lt_mul (by omega), Nat.mul_comm r w]; exact this
    omega
  | d + 1, k, n + 1, g, e, z, s, q5, q6, q7, C1 => by
    obtain ⟨⟨w1, w5, hw, hw'⟩, ⟨r1, r6, hr, hr'⟩, -⟩ := T.1.n
    have h30 := wr_le w5 r6
    unfold f_X3_moveToCorner_15
    rw [s.1.1 (t + 1) (by omega), hr', q7, if_neg (by rw [nI_leI (by omega) (by omega)]; omega)]
    have em : f_X1_rowMask g (t + 1) = some (((1 : Int32) <<< (nI w &&& 31)) - 1, g) := by
      unfold f_X1_rowMask maskF; rw [s.1.1 (t + 1) (by omega), hw']; first | done | rfl
    rw [em, bd2_s]
    by_cases y : hI g 72 5 &&& (((1 : Int32) <<< (nI w &&& 31)) - 1) = 0
    · rw [if_pos y]
      have C2 : ∀ i, bt p i = true → k + 1 ≤ i / w := fun i b => by
        refine Classical.byContradiction (fun q => ?_)
        have c1 := C1 i b
        have e1 := idx_eq (i := i) w1
        have mw := Nat.mod_lt i (show 0 < w by omega)
        have ek : i / w = k := by omega
        rw [ek] at e1
        have b1 : bt (hI g 72 5) (i % w) = true := by rw [q5, show i % w + k * w = i by omega]; exact b
        have b2 := congrArg (fun v => bt v (i % w)) y
        simp only [b_and, b1, b_0, mask_b w (by omega) (i % w) (by omega), Bool.true_and] at b2
        exact of_decide_eq_false b2 mw
      simp only [ltv_e]
      rw [s.1.1 (t + 1) (by omega), hw']
      have q5' : ∀ b, bt (hI g 72 5 >>> (nI w &&& 31)) b = bt p (b + (k + 1) * w) := fun b => by
        have := shr_all (s := hI g 72 5) (n := w) (by omega) (by rw [q5]; exact big_p hp h30 (by omega)) b
        rw [this, q5]; congr 1; rw [Nat.add_mul]; omega
      obtain ⟨S, eS⟩ : ∃ S, S = hI g 72 5 >>> (nI w &&& 31) := ⟨_, rfl⟩
      rw [← eS] at q5' ⊢
      rw [hI_uI_n (h := g) (a := 72) (j := 5) (by omega), q7, nI_1]
      exact row_lp ht T hp p0 d (k + 1) n _ (by omega) (by omega) ((s.I72 ht 5 _).I72 ht 7 _) (fun b => by rw [hI_uI_n (by omega), hI_uI_s]; exact q5' b) (by rw [hI_uI_n (by omega), hI_uI_n (by omega)]; exact q6) (hI_uI_s _ _ _ _) C2
    · rw [if_neg y]
      have R2 : ∃ i, bt p i = true ∧ i / w = k := by
        obtain ⟨b, hb1, hb2⟩ := ne0_b.mp y
        rw [b_and, Bool.and_eq_true, mask_b w (by omega) b hb1, decide_eq_true_eq, q5] at hb2
        refine ⟨b + k * w, hb2.1, ?_⟩
        rw [Nat.add_comm]; exact (div_of w1 hb2.2).1
      exact coln_lp ht T hp p0 (by omega) C1 R2 w 0 FU g (by omega) (FU_gt (by omega)) s (fun b => by rw [Nat.add_zero]; exact q5 b) q6 q7 (fun i _ => Nat.zero_le _)
theorem z_sh (x : Int32) : (0 : Int32) >>> x = 0 := Int32.zero_shiftRight
theorem colz_lp {h : HP} {t w r m c : Nat} {j : Bool} (ht : t = 79 ∨ t = 96) (T : TW h t w r m c j) : ∀ d k n g, k + d = w → d < n → Sc t h g → hI g 72 5 = 0 → hI g 72 6 = nI k → ∃ g', f_X3_moveToCorner_64 (t + 1) n g = some g' ∧ Sc t h g' ∧ hI g' 72 5 = 0
  | d, k, 0, g, _, z, _, _, _ => absurd z (by omega)
  | 0, k, n + 1, g, e, _, s, q5, q6 => by
    obtain ⟨⟨w1, w5, hw, hw'⟩, -⟩ := T.1.n
    unfold f_X3_moveToCorner_64
    rw [s.1.1 (t + 1) (by omega), hw', q6, if_pos (by rw [nI_leI (by omega) (by omega)]; omega)]
    exact ⟨g, rfl, s, q5⟩
  | d + 1, k, n + 1, g, e, z, s, q5, q6 => by
    obtain ⟨⟨w1, w5, hw, hw'⟩, -⟩ := T.1.n
    unfold f_X3_moveToCorner_64
    rw [s.1.1 (t + 1) (by omega), hw', q6, if_neg (by rw [nI_leI (by omega) (by omega)]; omega), q5, if_pos Int32.zero_and, z_sh]
    simp only [ltv_e]
    rw [hI_uI_n (h := g) (a := 72) (j := 5) (by omega), q6, nI_1]
    exact colz_lp ht T d (k + 1) n _ (by omega) (by omega) ((s.I72 ht 5 _).I72 ht 6 _) (by rw [hI_uI_n (by omega), hI_uI_s]) (hI_uI_s _ _ _ _)
theorem rowz_lp {h : HP} {t w r m c : Nat} {j : Bool} (ht : t = 79 ∨ t = 96) (T : TW h t w r m c j) : ∀ d k n g, k + d = r → d < n → Sc t h g → hI g 72 5 = 0 → hI g 72 6 = nI 0 → hI g 72 7 = nI k → ∃ g', f_X3_moveToCorner_15 (t + 1) n g = some g' ∧ Sc t h g' ∧ hI g' 72 5 = 0
  | d, k, 0, g, _, z, _, _, _, _ => absurd z (by omega)
  | 0, k, n + 1, g, e, _, s, q5, q6, q7 => by
    obtain ⟨⟨w1, w5, hw, hw'⟩, ⟨r1, r6, hr, hr'⟩, -⟩ := T.1.n
    unfold f_X3_moveToCorner_15
    rw [s.1.1 (t + 1) (by omega), hr', q7, if_pos (by rw [nI_leI (by omega) (by omega)]; omega)]
    exact colz_lp ht T w 0 FU g (by omega) (FU_gt (by omega)) s q5 q6
  | d + 1, k, n + 1, g, e, z, s, q5, q6, q7 => by
    obtain ⟨⟨w1, w5, hw, hw'⟩, ⟨r1, r6, hr, hr'⟩, -⟩ := T.1.n
    unfold f_X3_moveToCorner_15 f_X1_rowMask
    rw [s.1.1 (t + 1) (by omega), hr', q7, if_neg (by rw [nI_leI (by omega) (by omega)]; omega), bd2_s, q5, if_pos Int32.zero_and, z_sh]
    simp only [ltv_e]
    rw [hI_uI_n (h := g) (a := 72) (j := 5) (by omega), q7, nI_1]
    exact rowz_lp ht T d (k + 1) n _ (by omega) (by omega) ((s.I72 ht 5 _).I72 ht 7 _) (by rw [hI_uI_n (by omega), hI_uI_s]) (by rw [hI_uI_n (by omega), hI_uI_n (by omega)]; exact q6) (hI_uI_s _ _ _ _)
theorem cor_e {h g : HP} {t w r m c : Nat} {j : Bool} (ht : t = 79 ∨ t = 96) (T : TW h t w r m c j) (s : Sc t h g) {p : Int32} (hp : inP w r p) : ∃ g', f_X3_moveToCorner g (t + 1) p = some g' ∧ Sc t h g' ∧ ((p = 0 ∧ hI g' 72 5 = 0) ∨ (p ≠ 0 ∧ CorH w p g')) := by
  have r6 := T.1.n.2.1.2.1
  have s1 : Sc t h (uI (uI (uI g 72 5 p) 72 6 0) 72 7 0) := ((s.I72 ht 5 _).I72 ht 6 _).I72 ht 7 _
  unfold f_X3_moveToCorner
  simp only [ltv_e]
  by_cases p0 : p = 0
  · obtain ⟨g', e, s', k⟩ := rowz_lp ht T r 0 FU _ (by omega) (FU_gt (by omega)) s1 (by rw [hI_uI_n (by omega), hI_uI_n (by omega), hI_uI_s, p0]) (by rw [hI_uI_n (by omega), hI_uI_s]; rfl) (hI_uI_s _ _ _ _)
    exact ⟨g', e, s', Or.inl ⟨p0, k⟩⟩
  · obtain ⟨g', e, s', k⟩ := row_lp ht T hp p0 r 0 FU _ (by omega) (FU_gt (by omega)) s1 (fun b => by rw [hI_uI_n (by omega), hI_uI_n (by omega), hI_uI_s, Nat.zero_mul, Nat.add_zero]) (by rw [hI_uI_n (by omega), hI_uI_s]; rfl) (hI_uI_s _ _ _ _) (fun i _ => Nat.zero_le _)
    exact ⟨g', e, s', Or.inr ⟨p0, k⟩⟩
