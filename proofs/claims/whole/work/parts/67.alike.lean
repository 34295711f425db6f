/-! ===== alike: votes ===== -/
def SmV (h g : HP) : Prop := ∀ k, k < 44 → hI g 114 k = hI h 114 k
theorem SmV.n {h g : HP} (s : SmV h g) : SmN h g := fun k hk => s k (by omega)
theorem SmV.ln {h g : HP} (s : SmV h g) (w r : Nat) (j : Bool) : SmV h (lnH g w r j) := fun k hk => by rw [lnH_I _ _ _ _ (by decide)]; exact s k hk
/-- the class's looks at its rules -/
theorem look_lp (h : HP) {t m : Nat} (ht : t = 79 ∨ t = 96) (hm : m ≤ 4) (hr : hI h t 10 = nI m) : ∀ d k n, k + d = m → d < n → ∀ f : Nat → Int32,
    ∃ f', f_X5_lookAtRules_2 t n (nI k) (rI (scr h t f) (t + 16) (lkP (hI h (t + 16)) (lookU h t) k)) = some (rI (scr h t f') (t + 16) (lkP (hI h (t + 16)) (lookU h t) m))
  | d, k, 0, _, z, _ => absurd z (by omega)
  | 0, k, n + 1, e, _, f => by
    refine ⟨f, ?_⟩
    unfold f_X5_lookAtRules_2
    rw [hI_rI_n _ _ (by omega), scr_I _ _ _ (by omega), hr, if_pos (by rw [nI_leI (by omega) (by omega)]; omega), show k = m by omega]
  | d + 1, k, n + 1, e, z, f => by
    obtain ⟨f1, e1⟩ := stp_e (rI h (t + 16) (lkP (hI h (t + 16)) (lookU h t) k)) t f (hI h t 13) (hI h (t + 10) k) (hI h (t + 11) k)
    have sw : ∀ f, scr (rI h (t + 16) (lkP (hI h (t + 16)) (lookU h t) k)) t f = rI (scr h t f) (t + 16) (lkP (hI h (t + 16)) (lookU h t) k) := fun f => by
      unfold scr rI; simp only [Prod.mk.injEq, true_and, and_true]; funext b
      by_cases q : b = t + 1 + 1
      · rw [if_pos q, if_neg (by omega), if_pos q]
      · rw [if_neg q]; split
        · rfl
        · rfl
    rw [sw, sw, hI_rI_n h _ (show t + 1 ≠ t + 16 by omega)] at e1
    obtain ⟨f', e'⟩ := look_lp h ht hm hr d (k + 1) n (by omega) (by omega) f1
    refine ⟨f', ?_⟩
    unfold f_X5_lookAtRules_2
    have N : ∀ b, b ≠ t + 16 → b ≠ t + 1 + 1 → hI (rI (scr h t f) (t + 16) (lkP (hI h (t + 16)) (lookU h t) k)) b = hI h b := fun b h1 h2 => by rw [hI_rI_n _ _ h1, scr_I _ _ _ h2]
    rw [N t (by omega) (by omega), N (t + 10) (by omega) (by omega), N (t + 11) (by omega) (by omega), hr, if_neg (by rw [nI_leI (by omega) (by omega)]; omega), gdi_nI (by omega) (by decide), gdi_nI (by omega) (by decide), nI_clamp (by omega), e1, bd2_s]
    show bd2 (some (nI (pc _), _)) _ = _
    rw [bd2_s, gdi_nI (by omega) (by decide)]
    simp only [ltv_e, nI_1]
    have u : nI (pc (stepF (hI h (t + 1)) (hI h t 13) (hI h (t + 10) k) (hI h (t + 11) k))) = lookU h t k := rfl
    rw [u, uI_rI, lkP_step]
    exact e'
theorem look_e (h : HP) {t m : Nat} (ht : t = 79 ∨ t = 96) (hm : m ≤ 4) (hr : hI h t 10 = nI m) : ∃ f', f_X5_lookAtRules h t = some (rI (scr h t f') (t + 16) (lkP (hI h (t + 16)) (lookU h t) m)) := by
  obtain ⟨f', e⟩ := look_lp h ht hm hr m 0 FU (by omega) (FU_gt (by omega)) (hI h (t + 1 + 1))
  rw [← scr_self, lkP_0, rI_self] at e
  exact ⟨f', e⟩
theorem chF_c (lo hi : Int32) {L M : Nat → Int32} : ∀ k, (∀ i, i < k → L i = M i) → chF lo hi L k = chF lo hi M k
  | 0, _ => rfl
  | k + 1, e => by rw [chF, chF, chF_c lo hi k (fun i hi => e i (by omega)), e k (by omega)]
theorem voF_c {v v' : Nat → Int32} (r : Int32) : ∀ k, (∀ i, i < k → v i = v' i) → voF v r k = voF v' r k
  | 0, _ => rfl
  | k + 1, e => by rw [voF, voF, voF_c r k (fun i hi => e i (by omega)), e k (by omega)]
/-- what a citizen chooses, what a rule gets -/
def chX (h : HP) (t m c : Nat) : Int32 := (chF (hI h 114 (20 + 2 * c)) (hI h 114 (21 + 2 * c)) (lookU h t) m).1
def voX (h : HP) (t m c r : Nat) : Int32 := voF (chX h t m) (nI r) c
theorem sbI {a b : Nat} (ha : a < 2 ^ 30) (hb : b < 2 ^ 30) : (nI a - nI b).toInt = (a : Int) - b := by
  rw [Int32.toInt_sub, Int.bmod_def, nI_t (by omega), nI_t (by omega)]; split <;> omega
theorem way_e {lo hi p : Nat} (h1 : lo ≤ hi) (h2 : hi ≤ 30) (h3 : p ≤ 32) : wayF (nI lo) (nI hi) (nI p) = (if nI lo ≤ nI p then (if nI p ≤ nI hi then 0 else nI p - nI hi) else nI lo - nI p) ∧ wayF (nI lo) (nI hi) (nI p) < 100 := by
  have e0 : (0 : Int32) = nI 0 := rfl
  have e100 : (100 : Int32) = nI 100 := rfl
  unfold wayF mxI
  by_cases a : p < lo
  · rw [nI_sub (show p ≤ lo by omega), if_neg (show ¬ nI lo ≤ nI p by rw [nI_leI (by omega) (by omega)]; omega)]
    have : nI p - nI hi < nI (lo - p) := by
      rw [Int32.lt_iff_toInt_lt, nI_t (by omega)]
      have : (nI p - nI hi).toInt = (p : Int) - hi := sbI (by omega) (by omega)
      omega
    rw [if_neg (show ¬ nI (lo - p) < nI p - nI hi by rw [Int32.lt_iff_toInt_lt] at this ⊢; omega), e0, if_pos (by rw [nI_ltI (by omega) (by omega)]; omega), e100, nI_ltI (by omega) (by omega)]
    exact ⟨rfl, by omega⟩
  · rw [if_pos (show nI lo ≤ nI p by rw [nI_leI (by omega) (by omega)]; omega)]
    have l : (nI lo - nI p).toInt = (lo : Int) - p := sbI (by omega) (by omega)
    have g : (nI p - nI hi).toInt = (p : Int) - hi := sbI (by omega) (by omega)
    by_cases b : p ≤ hi
    · rw [if_pos (show nI p ≤ nI hi by rw [nI_leI (by omega) (by omega)]; omega)]
      have : ¬ 0 < (if nI lo - nI p < nI p - nI hi then nI p - nI hi else nI lo - nI p) := by
        rw [Int32.lt_iff_toInt_lt]; simp only [Int32.reduceToInt]; split <;> omega
      rw [if_neg this]; exact ⟨rfl, by decide⟩
    · rw [if_neg (show ¬ nI p ≤ nI hi by rw [nI_leI (by omega) (by omega)]; omega)]
      rw [if_pos (show nI lo - nI p < nI p - nI hi by rw [Int32.lt_iff_toInt_lt]; omega), nI_sub (by omega), e0, if_pos (by rw [nI_ltI (by omega) (by omega)]; omega), e100, nI_ltI (by omega) (by omega)]
      exact ⟨rfl, by omega⟩
theorem dis_e {h g : HP} {t w r m c : Nat} {j : Bool} (T : TW h t w r m c j) (sv : SmV h g) {i : Nat} (hi : i < c) {p : Nat} (hp : p ≤ 32) : f_X12_dislikes g (nI i) (nI p) = some (wayF (hI h 114 (20 + 2 * i)) (hI h 114 (21 + 2 * i)) (nI p), g) ∧ wayF (hI h 114 (20 + 2 * i)) (hI h 114 (21 + 2 * i)) (nI p) < 100 := by
  obtain ⟨-, ⟨c6, -⟩, -, -, -, -, q7⟩ := T.2.1.n
  obtain ⟨lo, hh, l1, l2, l3, l4⟩ := q7 i hi
  obtain ⟨w1, w2⟩ := way_e l1 l2 hp
  have ix := (idx2 (i := i) (by omega) 20 (by omega)).2.2
  refine ⟨?_, by rw [l3, l4]; exact w2⟩
  unfold f_X12_dislikes
  simp only [ltv_e]
  rw [show ((20 : Int32) + ((2 : Int32) * nI i)) = nI (20 + 2 * i) from ix, nI_1, gdi_nI (by omega) (by decide), nI_clamp (by omega), nI_clamp (by omega), sv _ (by omega), sv _ (by omega), show 20 + 2 * i + 1 = 21 + 2 * i by omega, l3, l4, w1]
  by_cases a : nI lo ≤ nI p
  · rw [if_pos a, if_pos a, gdi_nI (by omega) (by decide)]
    split
    · rfl
    · rw [gdi_nI (by omega) (by decide)]
  · rw [if_neg a, if_neg a, gdi_nI (by omega) (by decide)]

theorem chF_n (lo hi : Int32) (L : Nat → Int32) : ∀ k, ∃ b, b ≤ k ∧ (0 < k → (wayF lo hi (L 0) < 100) → b < k) ∧ (chF lo hi L k).1 = nI b
  | 0 => ⟨0, by omega, by omega, rfl⟩
  | k + 1 => by
    obtain ⟨b, h1, h2, h3⟩ := chF_n lo hi L k
    rw [chF]; split
    · exact ⟨k, by omega, fun _ _ => by omega, rfl⟩
    · exact ⟨b, by omega, fun _ _ => by omega, h3⟩
theorem vo_lp {h g : HP} {t w r m c : Nat} {j : Bool} (T : TW h t w r m c j) (sv : SmV h g) (ln : LN g w r j) {i : Nat} (hi : i < c) : ∀ d k n, k + d = m → d < n →
    f_X12_voteOf_11 n (nI i) (if k = 0 then -1 else (chF (hI h 114 (20 + 2 * i)) (hI h 114 (21 + 2 * i)) (lookU h t) k).1) (if k = 0 then 0 else (chF (hI h 114 (20 + 2 * i)) (hI h 114 (21 + 2 * i)) (lookU h t) k).2) (nI k) g = some (if m = 0 then -1 else chX h t m i, g)
  | d, k, 0, _, z => absurd z (by omega)
  | 0, k, n + 1, e, _ => by
    obtain ⟨⟨m1, m2, m3⟩, -⟩ := T.2.1.n
    unfold f_X12_voteOf_11
    rw [sv 5 (by omega), m2, if_pos (by rw [nI_leI (by omega) (by omega)]; omega), show k = m by omega]; rfl
  | d + 1, k, n + 1, e, z => by
    obtain ⟨⟨m1, m2, m3⟩, -, -, p4, -⟩ := T.2.1.n
    have key := vo_lp T sv ln hi d (k + 1) n (by omega) (by omega)
    rw [if_neg (by omega), if_neg (by omega)] at key
    unfold f_X12_voteOf_11
    obtain ⟨q1, q2, -⟩ := p4 k (by omega)
    have lu : nI (pc (stepF (hI h (t + 1)) (hI h 114 3) (hI h 114 (12 + 2 * k)) (hI h 114 (13 + 2 * k)))) = lookU h t k := by unfold lookU; rw [q1, q2, T.pic0]
    obtain ⟨d1, d2⟩ := dis_e T sv hi (p := pc (stepF (hI h (t + 1)) (hI h 114 3) (hI h 114 (12 + 2 * k)) (hI h 114 (13 + 2 * k)))) (pc_le _)
    rw [sv 5 (by omega), m2, if_neg (by rw [nI_leI (by omega) (by omega)]; omega), sv 3 (by omega), bec_rule T.1 T.2.2.1 T.2.2.2.1 T.2.2.2.2 sv.n ln T.pic (by omega), bd2_s, bits_e, bd2_s, d1, bd2_s, lu]
    rw [lu] at d2
    simp only [ltv_e, nI_1]
    rw [chF] at key
    by_cases k0 : k = 0
    · subst k0
      rw [if_pos rfl, if_pos rfl]
      rw [chF, if_pos d2] at key
      exact key
    · rw [if_neg k0, if_neg k0]
      obtain ⟨b, b1, -, b3⟩ := chF_n (hI h 114 (20 + 2 * i)) (hI h 114 (21 + 2 * i)) (lookU h t) k
      rw [if_neg (by rw [b3]; exact nI_m1 (by omega))]
      by_cases q : wayF (hI h 114 (20 + 2 * i)) (hI h 114 (21 + 2 * i)) (lookU h t k) < (chF (hI h 114 (20 + 2 * i)) (hI h 114 (21 + 2 * i)) (lookU h t) k).2
      · rw [if_pos q]; rw [if_pos q] at key; exact key
      · rw [if_neg q]; rw [if_neg q] at key; exact key
theorem vote_e {h g : HP} {t w r m c : Nat} {j : Bool} (T : TW h t w r m c j) (sv : SmV h g) {i : Nat} (hi : i < c) : f_X12_voteOf g (nI i) = some (if m = 0 then -1 else chX h t m i, lnH g w r j) := by
  have m4 := T.2.1.n.1.1
  unfold f_X12_voteOf
  rw [T.ln sv.n, bd1_s]
  exact vo_lp T (sv.ln w r j) (lnH_LN g w r j) hi m 0 FU (by omega) (FU_gt (by omega))
theorem vf_lp {h : HP} {t w r m c : Nat} {j : Bool} (T : TW h t w r m c j) {q : Nat} (m0 : m ≠ 0) : ∀ d k n, k + d = c → d < n → ∀ g, SmV h g →
    ∃ g', f_X12_votesFor_4 n (nI q) (voX h t m k q) (nI k) g = some (voX h t m c q, g') ∧ (g' = g ∨ g' = lnH g w r j)
  | d, k, 0, _, z, _, _ => absurd z (by omega)
  | 0, k, n + 1, e, _, g, sv => by
    obtain ⟨-, ⟨c1, c2, c3⟩, -⟩ := T.2.1.n
    refine ⟨g, ?_, Or.inl rfl⟩
    unfold f_X12_votesFor_4
    rw [sv 6 (by omega), c2, if_pos (by rw [nI_leI (by omega) (by omega)]; omega), show k = c by omega]
  | d + 1, k, n + 1, e, z, g, sv => by
    obtain ⟨-, ⟨c1, c2, c3⟩, -⟩ := T.2.1.n
    obtain ⟨g', e1, e2⟩ := vf_lp T (q := q) m0 d (k + 1) n (by omega) (by omega) (lnH g w r j) (sv.ln w r j)
    refine ⟨g', ?_, Or.inr ?_⟩
    · unfold f_X12_votesFor_4
      rw [sv 6 (by omega), c2, if_neg (by rw [nI_leI (by omega) (by omega)]; omega), vote_e T sv (by omega), bd2_s, if_neg m0]
      simp only [ltv_e, nI_1]
      have s : voX h t m (k + 1) q = voX h t m k q + (if chX h t m k = nI q then 1 else 0) := rfl
      by_cases a : chX h t m k = nI q
      · rw [if_pos a]; rw [s, if_pos a] at e1; exact e1
      · rw [if_neg a]; rw [s, if_neg a] at e1; exact e1
    · rcases e2 with e2 | e2
      · exact e2
      · rw [e2, lnH_lnH]
theorem vfor_e {h g : HP} {t w r m c : Nat} {j : Bool} (T : TW h t w r m c j) (sv : SmV h g) (m0 : m ≠ 0) (q : Nat) : ∃ g', f_X12_votesFor g (nI q) = some (voX h t m c q, g') ∧ (g' = g ∨ g' = lnH g w r j) := by
  have c6 := T.2.1.n.2.1.1
  exact vf_lp T m0 c 0 FU (by omega) (FU_gt (by omega)) g sv
/-- the class's choice, after its looks -/
theorem chC_e {h : HP} {t w r m c : Nat} {j : Bool} (ht : t = 79 ∨ t = 96) (T : TW h t w r m c j) (f : Nat → Int32) {i : Nat} (hi : i < c) : chC (rI (scr h t f) (t + 16) (lkP (hI h (t + 16)) (lookU h t) m)) t m i = chX h t m i := by
  obtain ⟨-, -, -, -, p5, -⟩ := T.2.1.n
  obtain ⟨q1, q2, -⟩ := p5 i hi
  unfold chC chX
  rw [hI_rI_s, hI_rI_n _ _ (by omega), hI_rI_n _ _ (by omega), scr_I _ _ _ (by omega), scr_I _ _ _ (by omega), q1, q2]
  rw [chF_c _ _ m (fun i hi => by unfold lkP; rw [if_pos hi])]
