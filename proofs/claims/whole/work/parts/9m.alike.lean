/-! ===== the class's tokens, each as it stands after the cutting ===== -/
theorem cutN_ex (T : Nat → Int32) {L : Nat} (hL : L ≤ 900) : ∃ n, n ≤ 900 ∧ (∀ j, j < n → plcT T L j < L) ∧ plcT T L n = L := by
  have key : ∀ f k, L < k + f → (∀ j, j < k → plcT T L j < L) → ∃ n, n ≤ 900 ∧ (∀ j, j < n → plcT T L j < L) ∧ plcT T L n = L := by
    intro f
    induction f with
    | zero => intro k h1 h2; have := plcT_ge k h2; omega
    | succ f ih =>
      intro k h1 h2
      have h3 := plcT_ge k h2
      by_cases q : plcT T L k < L
      · refine ih (k + 1) (by omega) (fun j hj => ?_)
        rcases Nat.lt_succ_iff_lt_or_eq.mp hj with h | h
        · exact h2 j h
        · rw [h]; exact q
      · exact ⟨k, by omega, h2, by omega⟩
  exact key (L + 1) 0 (by omega) (fun j hj => absurd hj (by omega))
/-- the kind, the length, the value of the token at s; its code -/
def tkK (T : Nat → Int32) (L s : Nat) : Int32 := if isLo T s then 4 else if isDi T s then (if 4 < lenT T L s then 0 else 2) else if isSg T s then 3 else 0
def tkV (T : Nat → Int32) (L s : Nat) : Int32 := if isLo T s then kwN kwC (codN T s (lenT T L s)) 22 else if isDi T s then (numN T s (lenT T L s)).toInt16.toInt32 else (T s).toInt16.toInt32
/-- the class's n tokens, and the end behind them; a: where the class's reading is -/
def CT (h : HP) (T : Nat → Int32) (L n : Nat) : Prop :=
  (n ≤ 900 ∧ L ≤ 900 ∧ (∀ j, j < n → plcT T L j < L) ∧ plcT T L n = L ∧ hI h 5 9 = nI (n + 1)) ∧
  (∀ j, j < n → hI h 8 j = tkK T L (plcT T L j) ∧ hI h 9 j = nI (plcT T L j) ∧ hI h 10 j = nI (lenT T L (plcT T L j)) ∧ hI h 11 j = tkV T L (plcT T L j) ∧ (isLo T (plcT T L j) = true → hL h 12 j = codN T (plcT T L j) (lenT T L (plcT T L j)))) ∧
  (hI h 8 n = 1 ∧ hI h 9 n = nI L ∧ hI h 10 n = 0 ∧ hI h 11 n = 0) ∧ ∀ j, j < L → hI h 6 j = T j
theorem noteH_at (h : HP) (n : Nat) (k s l v : Int32) (a j : Nat) : hI (noteH h n k s l v) a j = if a = 5 ∧ j = 9 then nI (n + 1) else if j = n ∧ a = 8 then k else if j = n ∧ a = 9 then s else if j = n ∧ a = 10 then l else if j = n ∧ a = 11 then v else hI h a j := by
  unfold noteH
  rw [hI_uI, hI_uI, hI_uI, hI_uI, hI_uI]
  by_cases h5 : a = 5 ∧ j = 9
  · rw [if_pos h5, if_pos h5]
  · rw [if_neg h5, if_neg h5]
    by_cases hj : j = n
    · by_cases h8 : a = 8
      · rw [if_neg (by omega), if_neg (by omega), if_neg (by omega), if_pos ⟨h8, hj⟩, if_pos ⟨hj, h8⟩]
      · by_cases h9 : a = 9
        · rw [if_neg (by omega), if_neg (by omega), if_pos ⟨h9, hj⟩, if_neg (by omega), if_pos ⟨hj, h9⟩]
        · by_cases h10 : a = 10
          · rw [if_neg (by omega), if_pos ⟨h10, hj⟩, if_neg (by omega), if_neg (by omega), if_pos ⟨hj, h10⟩]
          · by_cases h11 : a = 11
            · rw [if_pos ⟨h11, hj⟩, if_neg (by omega), if_neg (by omega), if_neg (by omega), if_pos ⟨hj, h11⟩]
            · rw [if_neg (by omega), if_neg (by omega), if_neg (by omega), if_neg (by omega), if_neg (by omega), if_neg (by omega), if_neg (by omega), if_neg (by omega)]
    · rw [if_neg (by omega), if_neg (by omega), if_neg (by omega), if_neg (by omega), if_neg (by omega), if_neg (by omega), if_neg (by omega), if_neg (by omega)]
theorem note_n (h : HP) (n : Nat) (k s l v : Int32) : hI (noteH h n k s l v) 8 n = k ∧ hI (noteH h n k s l v) 9 n = s ∧ hI (noteH h n k s l v) 10 n = l ∧ hI (noteH h n k s l v) 11 n = v := by
  refine ⟨?_, ?_, ?_, ?_⟩ <;> rw [noteH_at, if_neg (fun q => absurd q.1 (by decide))]
  · rw [if_pos ⟨rfl, rfl⟩]
  · rw [if_neg (fun q => absurd q.2 (by decide)), if_pos ⟨rfl, rfl⟩]
  · rw [if_neg (fun q => absurd q.2 (by decide)), if_neg (fun q => absurd q.2 (by decide)), if_pos ⟨rfl, rfl⟩]
  · rw [if_neg (fun q => absurd q.2 (by decide)), if_neg (fun q => absurd q.2 (by decide)), if_neg (fun q => absurd q.2 (by decide)), if_pos ⟨rfl, rfl⟩]
theorem note_o (h : HP) (n : Nat) (k s l v : Int32) {a j : Nat} (hj : j ≠ n) (ha : a ≠ 5) : hI (noteH h n k s l v) a j = hI h a j := by
  rw [noteH_at, if_neg (by omega), if_neg (by omega), if_neg (by omega), if_neg (by omega), if_neg (by omega)]
theorem hL_note (h : HP) (n : Nat) (k s l v : Int32) : hL (noteH h n k s l v) = hL h := rfl
theorem tokH_e (h : HP) (L n s : Nat) : tokH h L n s = noteH (if isLo (hI h 6) s then uL h 12 n (codN (hI h 6) s (lenT (hI h 6) L s)) else h) n (if isLo (hI h 6) s then 4 else if isDi (hI h 6) s then (if 4 < lenT (hI h 6) L s then 0 else 2) else if isSg (hI h 6) s then 3 else 0) (nI s) (nI (lenT (hI h 6) L s)) (if isLo (hI h 6) s then kwN (hL h 7) (codN (hI h 6) s (lenT (hI h 6) L s)) 22 else if isDi (hI h 6) s then (numN (hI h 6) s (lenT (hI h 6) L s)).toInt16.toInt32 else (hI h 6 s).toInt16.toInt32) := by
  by_cases h1 : isLo (hI h 6) s = true
  · have e : lenT (hI h 6) L s = wEnd (hI h 6) L s - s := by unfold lenT; rw [if_pos h1]
    unfold tokH; rw [if_pos h1, if_pos h1, if_pos h1, if_pos h1, e]; rfl
  · by_cases h2 : isDi (hI h 6) s = true
    · have e : lenT (hI h 6) L s = dEnd (hI h 6) L s - s := by unfold lenT; rw [if_neg h1, if_pos h2]
      unfold tokH; rw [if_neg h1, if_neg h1, if_neg h1, if_neg h1, if_pos h2, if_pos h2, if_pos h2, e]; rfl
    · have e : lenT (hI h 6) L s = 1 := by unfold lenT; rw [if_neg h1, if_neg h2]
      unfold tokH; rw [if_neg h1, if_neg h1, if_neg h1, if_neg h1, if_neg h2, if_neg h2, if_neg h2, e]; rfl
theorem toksH_L (h : HP) (L : Nat) {c : Nat} (hc : c ≠ 12) : ∀ k, hL (toksH h L k) c = hL h c
  | 0 => rfl
  | k + 1 => by
    refine Eq.trans ?_ (toksH_L h L hc k)
    show hL (tokH (toksH h L k) L k _) c = _
    rw [tokH_e, hL_note]
    split
    · exact hL_rL_n _ _ hc
    · rfl
theorem toksH_cells (h : HP) (L : Nat) (hkw : ∀ k, k < 22 → hL h 7 k = kwC k) : ∀ k j, j < k →
    hI (toksH h L k) 8 j = tkK (hI h 6) L (plcT (hI h 6) L j) ∧ hI (toksH h L k) 9 j = nI (plcT (hI h 6) L j) ∧ hI (toksH h L k) 10 j = nI (lenT (hI h 6) L (plcT (hI h 6) L j)) ∧ hI (toksH h L k) 11 j = tkV (hI h 6) L (plcT (hI h 6) L j) ∧ (isLo (hI h 6) (plcT (hI h 6) L j) = true → hL (toksH h L k) 12 j = codN (hI h 6) (plcT (hI h 6) L j) (lenT (hI h 6) L (plcT (hI h 6) L j)))
  | 0, j, hj => absurd hj (by omega)
  | k + 1, j, hj => by
    have hT : hI (toksH h L k) 6 = hI h 6 := toksH_I h L (by decide) k
    have h7 : hL (toksH h L k) 7 = hL h 7 := toksH_L h L (by decide) k
    have ekw : ∀ x m, m ≤ 22 → kwN (hL h 7) x m = kwN kwC x m := by
      intro x m
      induction m with
      | zero => intro _; rfl
      | succ m ih => intro hm; unfold kwN; rw [hkw m (by omega), ih (by omega)]
    have e : toksH h L (k + 1) = tokH (toksH h L k) L k (plcT (hI h 6) L k) := rfl
    rw [e, tokH_e, hT, h7]
    rcases Nat.lt_succ_iff_lt_or_eq.mp hj with hjk | hjk
    · have ih := toksH_cells h L hkw k j hjk
      have ci : ∀ a, a = 8 ∨ a = 9 ∨ a = 10 ∨ a = 11 → ∀ (g : HP) x1 x2 x3 x4, hI g a j = hI (toksH h L k) a j → hI (noteH g k x1 x2 x3 x4) a j = hI (toksH h L k) a j := by
        intro a ha g x1 x2 x3 x4 eg
        rw [noteH_at, if_neg (by omega), if_neg (by omega), if_neg (by omega), if_neg (by omega), if_neg (by omega), eg]
      have cg : ∀ a, hI (if isLo (hI h 6) (plcT (hI h 6) L k) = true then uL (toksH h L k) 12 k (codN (hI h 6) (plcT (hI h 6) L k) (lenT (hI h 6) L (plcT (hI h 6) L k))) else toksH h L k) a j = hI (toksH h L k) a j := by
        intro a; split <;> rfl
      rw [ci 8 (by omega) _ _ _ _ _ (cg 8), ci 9 (by omega) _ _ _ _ _ (cg 9), ci 10 (by omega) _ _ _ _ _ (cg 10), ci 11 (by omega) _ _ _ _ _ (cg 11), hL_note]
      refine ⟨ih.1, ih.2.1, ih.2.2.1, ih.2.2.2.1, fun q => ?_⟩
      rw [← ih.2.2.2.2 q]
      split
      · exact hL_uL_n (by omega)
      · rfl
    · subst hjk
      refine ⟨(note_n _ _ _ _ _ _).1, (note_n _ _ _ _ _ _).2.1, (note_n _ _ _ _ _ _).2.2.1, (note_n _ _ _ _ _ _).2.2.2.trans ?_, fun q => ?_⟩
      · unfold tkV; rw [ekw _ 22 (Nat.le_refl _)]
      · rw [hL_note, if_pos q, hL_uL_s]
theorem plcT_ext {T U : Nat → Int32} {L : Nat} (e : T = U) (k : Nat) : plcT T L k = plcT U L k := by rw [e]
/-- the class's tokens when the text is cut -/
theorem cutF_CT {h : HP} {L : Nat} (hL9 : L ≤ 900) (hkw : ∀ k, k < 22 → hL h 7 k = kwC k) : CT (cutF h L) (hI h 6) L (cutN (hI h 6) L) ∧ hI (cutF h L) 5 10 = 0 ∧ hI (cutF h L) 5 7 = 0 ∧ hI (cutF h L) 5 12 = 0 ∧ hI (cutF h L) 5 13 = -1 := by
  obtain ⟨n, hn⟩ := cutN_ex (hI h 6) hL9
  have en : cutN (hI h 6) L = n := cutN_is hn
  unfold cutF
  rw [en]
  have e6 : hI (beginH h L) 6 = hI h 6 := rfl
  have tc := toksH_cells (beginH h L) L hkw n
  rw [e6] at tc
  have t5 := toksH_5 (beginH h L) L rfl n
  refine ⟨⟨⟨hn.1, hL9, hn.2.1, hn.2.2, ?_⟩, fun j hj => ?_, ⟨?_, ?_, ?_, ?_⟩, fun j hj => ?_⟩, ?_, ?_, ?_, ?_⟩
  · rw [noteH_at, if_pos ⟨rfl, rfl⟩]
  · have tj := tc j hj
    rw [note_o _ _ _ _ _ _ (by omega) (by decide), note_o _ _ _ _ _ _ (by omega) (by decide), note_o _ _ _ _ _ _ (by omega) (by decide), note_o _ _ _ _ _ _ (by omega) (by decide), hL_note]
    exact tj
  · exact (note_n _ _ _ _ _ _).1
  · exact (note_n _ _ _ _ _ _).2.1
  · exact (note_n _ _ _ _ _ _).2.2.1
  · exact (note_n _ _ _ _ _ _).2.2.2
  · rw [hI_noteH (by decide), toksH_I _ _ (by decide), e6]
  · rw [hI_note5, t5]; rfl
  · rw [hI_note5, t5]; rfl
  · rw [hI_note5, t5]; rfl
  · rw [hI_note5, t5]; rfl
