/-! ===== kept words: the class's codes beside the reference's string ===== -/
/-- the class's number of the reference's word w -/
def pmW (w : Nat) : Nat := match w with
  | 1 => 2 | 2 => 3 | 3 => 6 | 4 => 1 | 5 => 4 | 6 => 5 | 16 => 19 | 17 => 20 | 18 => 21 | 19 => 16 | 20 => 17 | 21 => 18 | k => k
/-- the reference's number of the class's word k -/
def rwK (k : Nat) : Nat := match k with
  | 1 => 4 | 2 => 1 | 3 => 2 | 4 => 5 | 5 => 6 | 6 => 3 | 16 => 19 | 17 => 20 | 18 => 21 | 19 => 16 | 20 => 17 | 21 => 18 | k => k
theorem pm_rw : ∀ w, w < 22 → pmW w < 22 ∧ rwK w < 22 ∧ rwK (pmW w) = w ∧ pmW (rwK w) = w := by decide +kernel
def rwS (w : Nat) : List Nat := kwS (pmW w)
def kst : Nat → Nat
  | 0 => 1
  | w + 1 => kst w + (rwS w).length + 1
theorem kst_is : ∀ w, w < 22 → kst w + (rwS w).length < (sBy 1).length ∧ (sBy 1).getD (kst w + (rwS w).length) 0 = 32 ∧ (rwS w).length ≤ 7 ∧ kst w < 200 ∧ ∀ i, i < (rwS w).length → (sBy 1).getD (kst w + i) 0 = nI ((rwS w).getD i 0) ∧ 97 ≤ (rwS w).getD i 0 ∧ (rwS w).getD i 0 ≤ 122 := by decide +kernel
theorem slen_is : (sBy 1).length = kst 22 ∧ kst 22 < 200 := by decide +kernel
theorem charA {b : HP} {p : Nat} (hp : p < (sBy 1).length) : f_J0_charAt_5068e b (nI p) = some ((sBy 1).getD p 0, b) := by
  have := slen_is
  unfold f_J0_charAt_5068e
  rw [gdi_nI hp (by omega), nI_clamp (by omega)]
theorem iw25 (K14 : Int32 → Int32 → HP → Option (Int32 × HP)) {b : HP} {w : Nat} (hw : w < 22) (l2 : Int32) : ∀ d j f, (rwS w).length - j ≤ d → j ≤ (rwS w).length → d < f → f_X12_inWords_25 K14 f l2 (nI (kst w)) (nI (kst w + j)) b = (if nI (rwS w).length = hI b 113 14 - hI b 113 13 then f_X12_inWords_68 K14 FU l2 (nI (kst w)) (nI (kst w + (rwS w).length)) 1 (nI (kst w)) b else f_X12_inWords_68 K14 FU l2 (nI (kst w)) (nI (kst w + (rwS w).length)) 0 (nI (kst w)) b)
  | d, j, 0, hd, hj, hf => absurd hf (by omega)
  | d, j, f + 1, hd, hj, hf => by
    have kf := kst_is w hw
    show (bd2 (f_J0_charAt_5068e b (nI (kst w + j))) fun r8 h7 => if r8 = 32 then (if (nI (kst w + j) - nI (kst w)) = ((hI h7 113 14) - (hI h7 113 13)) then (f_X12_inWords_68 K14 FU l2 (nI (kst w)) (nI (kst w + j)) 1 (nI (kst w)) h7) else f_X12_inWords_68 K14 FU l2 (nI (kst w)) (nI (kst w + j)) 0 (nI (kst w)) h7) else ltv (nI (kst w + j) + 1 : Int32) fun x11 => f_X12_inWords_25 K14 f l2 (nI (kst w)) x11 h7) = _
    rw [charA (by omega), bd2_s]
    rcases Nat.lt_or_eq_of_le hj with h | h
    · have q := kf.2.2.2.2 j h
      rw [q.1, if_neg (show ¬ nI ((rwS w).getD j 0) = 32 from fun z => by have := nI_inj (by omega) (by decide : 32 < 2 ^ 31) z; omega), ltv_e, nI_1]
      match d, hd, hf with
      | d + 1, hd, hf => rw [show kst w + j + 1 = kst w + (j + 1) by omega]; exact iw25 K14 hw l2 d (j + 1) f (by omega) (by omega) (by omega)
      | 0, hd, hf => exact absurd hd (by omega)
    · rw [h, kf.2.1, if_pos rfl, nI_sub (by omega), Nat.add_sub_cancel_left]
theorem iw68_0 (K14 : Int32 → Int32 → HP → Option (Int32 × HP)) (b : HP) (l2 l3 l4 l6 : Int32) {f : Nat} (hf : 0 < f) : f_X12_inWords_68 K14 f l2 l3 l4 0 l6 b = K14 (l2 + 1) (l4 + 1) b := by
  obtain ⟨g, rfl⟩ : ∃ g, f = g + 1 := ⟨f - 1, by omega⟩
  unfold f_X12_inWords_68
  by_cases h : l4 ≤ l6
  · rw [if_pos h, if_pos rfl]; rfl
  · rw [if_neg h, if_pos rfl, if_pos rfl]; rfl
theorem iw68 (K14 : Int32 → Int32 → HP → Option (Int32 × HP)) {b : HP} {T : Nat → Int32} {L s : Nat} (tx : TX T L) (x : RTx b T L) (e13 : hI b 113 13 = nI s) {w : Nat} (hw : w < 22) (hs : s + (rwS w).length ≤ L) (l2 : Int32) : ∀ d j f, (rwS w).length - j ≤ d → j ≤ (rwS w).length → d + 1 < f →
    f_X12_inWords_68 K14 f l2 (nI (kst w)) (nI (kst w + (rwS w).length)) 1 (nI (kst w + j)) b = @ite _ (∀ i, j ≤ i → i < (rwS w).length → T (s + i) = nI ((rwS w).getD i 0)) (Classical.propDecidable _) (some (l2, b)) (K14 (l2 + 1) (nI (kst w + (rwS w).length) + 1) b)
  | d, j, 0, hd, hj, hf => absurd hf (by omega)
  | d, j, f + 1, hd, hj, hf => by
    have kf := kst_is w hw
    have hL := tx.1
    unfold f_X12_inWords_68
    rcases Nat.lt_or_eq_of_le hj with h | h
    · have q := kf.2.2.2.2 j h
      rw [if_neg (show ¬ nI (kst w + (rwS w).length) ≤ nI (kst w + j) from fun z => by have := (nI_leI (by omega) (by omega)).mp z; omega), if_neg (show ¬ (1 : Int32) = 0 by decide), charA (by omega), bd2_s, e13, nI_add, nI_sub (by omega), show s + (kst w + j) - kst w = s + j by omega, f_byteAt x hL (by omega), bd2_s, q.1, ltv_e, ltv_e, nI_1, show kst w + j + 1 = kst w + (j + 1) by omega]
      have cc := ub_ch tx (show s + j < L by omega) (show (rwS w).getD j 0 < 128 by omega)
      by_cases z : T (s + j) = nI ((rwS w).getD j 0)
      · rw [if_pos (cc.mpr z).symm]
        match d, hd, hf with
        | d + 1, hd, hf =>
          rw [iw68 K14 tx x e13 hw hs l2 d (j + 1) f (by omega) (by omega) (by omega)]
          by_cases m : ∀ i, j ≤ i → i < (rwS w).length → T (s + i) = nI ((rwS w).getD i 0)
          · rw [if_pos m, if_pos (fun i h1 h2 => m i (by omega) h2)]
          · rw [if_neg m, if_neg (fun p => m (fun i h1 h2 => by
              by_cases hij : i = j
              · rw [hij]; exact z
              · exact p i (by omega) h2))]
        | 0, hd, hf => exact absurd hd (by omega)
      · rw [if_neg (fun p => z (cc.mp p.symm)), iw68_0 K14 b _ _ _ _ (by omega), if_neg (fun p => z (p j (Nat.le_refl _) h))]
    · rw [h, if_pos (Int32.le_refl _), if_neg (show ¬ (1 : Int32) = 0 by decide), if_pos (fun i h1 h2 => absurd h2 (by omega))]
/-- the token at s has the letters l -/
def Wd (T : Nat → Int32) (s len : Nat) (l : List Nat) : Prop := len = l.length ∧ ∀ i, i < l.length → T (s + i) = nI (l.getD i 0)
/-- the first word from w on that it is -/
noncomputable def wIx (T : Nat → Int32) (s len : Nat) : Nat → Nat → Int32
  | 0, _ => -1
  | d + 1, w => @ite _ (Wd T s len (rwS w)) (Classical.propDecidable _) (nI w) (wIx T s len d (w + 1))
theorem iw14 {b : HP} {T : Nat → Int32} {L s len : Nat} (tx : TX T L) (x : RTx b T L) (e13 : hI b 113 13 = nI s) (e14 : hI b 113 14 = nI (s + len)) (hs : s + len ≤ L) : ∀ d w f, w + d = 22 → d < f → f_X12_inWords_14 f (nI w) (nI (kst w)) b = some (wIx T s len d w, b)
  | d, w, 0, hd, hf => absurd hf (by omega)
  | 0, w, f + 1, hd, hf => by
    have sl := slen_is
    unfold f_X12_inWords_14
    have hw : w = 22 := by omega
    unfold f_J0_length_8abf5
    rw [bd2_s, hw, sl.1, if_pos (Int32.le_refl _)]; rfl
  | d + 1, w, f + 1, hd, hf => by
    have hL := tx.1
    have sl := slen_is
    have hw : w < 22 := by omega
    have kf := kst_is w hw
    unfold f_X12_inWords_14
    unfold f_J0_length_8abf5
    rw [bd2_s, if_neg (show ¬ nI (sBy 1).length ≤ nI (kst w) from fun z => by have := (nI_leI (by omega) (by omega)).mp z; omega)]
    have q := iw25 (f_X12_inWords_14 f) (b := b) hw (nI w) (rwS w).length 0 FU (by omega) (by omega) (FU_gt (by omega))
    rw [Nat.add_zero] at q
    rw [q, e14, e13, nI_sub (by omega), Nat.add_sub_cancel_left]
    have ih := iw14 tx x e13 e14 hs d (w + 1) f (by omega) (by omega)
    have nx : nI (kst w + (rwS w).length) + 1 = nI (kst (w + 1)) := by rw [nI_1]; rfl
    have wx : wIx T s len (d + 1) w = @ite _ (Wd T s len (rwS w)) (Classical.propDecidable _) (nI w) (wIx T s len d (w + 1)) := rfl
    rw [wx]
    by_cases hl : len = (rwS w).length
    · rw [if_pos (by rw [hl])]
      have p := iw68 (f_X12_inWords_14 f) tx x e13 hw (by omega) (nI w) (rwS w).length 0 FU (by omega) (by omega) (FU_gt (by omega))
      rw [Nat.add_zero] at p
      rw [p, nx, nI_1, ih]
      by_cases m : ∀ i, i < (rwS w).length → T (s + i) = nI ((rwS w).getD i 0)
      · have hW : Wd T s len (rwS w) := ⟨hl, m⟩
        rw [if_pos (fun i _ h => m i h), if_pos hW]
      · rw [if_neg (fun z => m (fun i h => z i (Nat.zero_le _) h)), if_neg (show ¬ Wd T s len (rwS w) from fun z => m z.2)]
    · rw [if_neg (fun z => hl (nI_inj (by omega) (by omega) z).symm), iw68_0 _ _ _ _ _ _ (FU_gt (by omega)), nx, nI_1, ih, if_neg (show ¬ Wd T s len (rwS w) from fun z => hl z.1)]
/-! names as numbers -/
def r27 : List Nat → Nat
  | [] => 0
  | c :: l => r27 l * 27 + (c - 96)
def r256 : List Nat → Nat
  | [] => 0
  | c :: l => r256 l * 256 + c
theorem n27_c (l : List Nat) (c : Nat) : n27 (l ++ [c]) = n27 l * 27 + (c - 96) := by unfold n27; rw [List.foldl_append]; rfl
theorem n256_c (l : List Nat) (c : Nat) : n256 (l ++ [c]) = n256 l * 256 + c := by unfold n256; rw [List.foldl_append]; rfl
theorem n27_r : ∀ l, n27 l.reverse = r27 l
  | [] => rfl
  | c :: l => by rw [List.reverse_cons, n27_c, n27_r l]; rfl
theorem n256_r : ∀ l, n256 l.reverse = r256 l
  | [] => rfl
  | c :: l => by rw [List.reverse_cons, n256_c, n256_r l]; rfl
/-- lower letters -/
def LO (l : List Nat) : Prop := ∀ c, c ∈ l → 97 ≤ c ∧ c ≤ 122
theorem r27_inj : ∀ l m, LO l → LO m → r27 l = r27 m → l = m
  | [], [], _, _, _ => rfl
  | [], c :: m, _, hm, h => by have := hm c (List.mem_cons_self ..); unfold r27 at h; omega
  | c :: l, [], hl, _, h => by have := hl c (List.mem_cons_self ..); unfold r27 at h; omega
  | c :: l, d :: m, hl, hm, h => by
    have a := hl c (List.mem_cons_self ..)
    have b := hm d (List.mem_cons_self ..)
    unfold r27 at h
    rw [show c = d by omega, r27_inj l m (fun x q => hl x (List.mem_cons_of_mem _ q)) (fun x q => hm x (List.mem_cons_of_mem _ q)) (by omega)]
theorem r256_inj : ∀ l m, LO l → LO m → r256 l = r256 m → l = m
  | [], [], _, _, _ => rfl
  | [], c :: m, _, hm, h => by have := hm c (List.mem_cons_self ..); unfold r256 at h; omega
  | c :: l, [], hl, _, h => by have := hl c (List.mem_cons_self ..); unfold r256 at h; omega
  | c :: l, d :: m, hl, hm, h => by
    have a := hl c (List.mem_cons_self ..)
    have b := hm d (List.mem_cons_self ..)
    unfold r256 at h
    rw [show c = d by omega, r256_inj l m (fun x q => hl x (List.mem_cons_of_mem _ q)) (fun x q => hm x (List.mem_cons_of_mem _ q)) (by omega)]
theorem LO.rev {l : List Nat} (h : LO l) : LO l.reverse := fun c q => h c (List.mem_reverse.mp q)
theorem n27_inj {l m : List Nat} (hl : LO l) (hm : LO m) (h : n27 l = n27 m) : l = m := by
  rw [← List.reverse_reverse l, ← List.reverse_reverse m, n27_r, n27_r] at h
  rw [← List.reverse_reverse l, ← List.reverse_reverse m, r27_inj _ _ hl.rev hm.rev h]
theorem n256_inj {l m : List Nat} (hl : LO l) (hm : LO m) (h : n256 l = n256 m) : l = m := by
  rw [← List.reverse_reverse l, ← List.reverse_reverse m, n256_r, n256_r] at h
  rw [← List.reverse_reverse l, ← List.reverse_reverse m, r256_inj _ _ hl.rev hm.rev h]
theorem r27_lt : ∀ l, LO l → r27 l < 27 ^ l.length
  | [], _ => by decide
  | c :: l, h => by
    have a := h c (List.mem_cons_self ..)
    have ih := r27_lt l (fun x q => h x (List.mem_cons_of_mem _ q))
    rw [List.length_cons, Nat.pow_succ]
    unfold r27; omega
theorem r256_lt : ∀ l, LO l → r256 l < 256 ^ l.length
  | [], _ => by decide
  | c :: l, h => by
    have a := h c (List.mem_cons_self ..)
    have ih := r256_lt l (fun x q => h x (List.mem_cons_of_mem _ q))
    rw [List.length_cons, Nat.pow_succ]
    unfold r256; omega
theorem n27_lt {l : List Nat} (h : LO l) (h8 : l.length ≤ 8) : n27 l < 27 ^ 8 := by
  have := r27_lt _ h.rev
  rw [← List.reverse_reverse l, n27_r]
  rw [List.length_reverse] at this
  exact Nat.lt_of_lt_of_le this (Nat.pow_le_pow_right (by decide) h8)
theorem n256_lt {l : List Nat} (h : LO l) (h8 : l.length ≤ 8) : n256 l < 256 ^ 8 := by
  have := r256_lt _ h.rev
  rw [← List.reverse_reverse l, n256_r]
  rw [List.length_reverse] at this
  exact Nat.lt_of_lt_of_le this (Nat.pow_le_pow_right (by decide) h8)
theorem i64_inj {a b : Nat} (ha : a < 2 ^ 64) (hb : b < 2 ^ 64) (h : Int64.ofNat a = Int64.ofNat b) : a = b := by
  have q := congrArg (fun x : Int64 => x.toBitVec.toNat) h
  have e : ∀ n, (Int64.ofNat n).toBitVec.toNat = n % 2 ^ 64 := fun n => by
    rw [show (Int64.ofNat n).toBitVec = BitVec.ofNat 64 n from rfl, BitVec.toNat_ofNat]
  simp only [e] at q
  rwa [Nat.mod_eq_of_lt ha, Nat.mod_eq_of_lt hb] at q
/-- two names are one by either reckoning -/
theorem NmR.eq {a a' b b' : Int64} (h : NmR a b) (h' : NmR a' b') : a = a' ↔ b = b' := by
  obtain ⟨l, l1, l2, l3, e1, e2⟩ := h
  obtain ⟨m, m1, m2, m3, e3, e4⟩ := h'
  have p : (27 : Nat) ^ 8 < 2 ^ 64 := by decide
  have p2 : (256 : Nat) ^ 8 = 2 ^ 64 := by decide
  have a1 := n27_lt l3 l2
  have a2 := n27_lt m3 m2
  have b1 := n256_lt l3 l2
  have b2 := n256_lt m3 m2
  rw [e1, e2, e3, e4]
  constructor
  · intro q; rw [n27_inj l3 m3 (i64_inj (by omega) (by omega) q)]
  · intro q; rw [n256_inj l3 m3 (i64_inj (by omega) (by omega) q)]
