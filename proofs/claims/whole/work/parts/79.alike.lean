/-! ===== alike: when a picture comes again ===== -/
def Cyc (x : Nat → Int32) (m l : Nat) : Prop := 1 ≤ l ∧ m + l ≤ 2000 ∧ x (m + l) = x m ∧ ∀ i j, i < j → j < m + l → x i ≠ x j
def NoCyc (x : Nat → Int32) : Prop := ∀ i j, i < j → j ≤ 2000 → x i ≠ x j
theorem cyc_up (x : Nat → Int32) : ∀ N, (∀ i j, i < j → j ≤ N → x i ≠ x j) ∨ ∃ j i, j ≤ N ∧ i < j ∧ x i = x j ∧ ∀ i' j', i' < j' → j' < j → x i' ≠ x j'
  | 0 => Or.inl (fun i j a b => absurd b (by omega))
  | N + 1 => by
    rcases cyc_up x N with a | ⟨j, i, a, b⟩
    · by_cases e : ∃ i, i < N + 1 ∧ x i = x (N + 1)
      · obtain ⟨i, hi, e⟩ := e
        exact Or.inr ⟨N + 1, i, Nat.le_refl _, hi, e, fun i' j' q1 q2 => a i' j' q1 (by omega)⟩
      · refine Or.inl (fun i j q1 q2 z => ?_)
        by_cases f : j = N + 1
        · subst f; exact e ⟨i, q1, z⟩
        · exact a i j q1 (by omega) z
    · exact Or.inr ⟨j, i, by omega, b⟩
theorem cyc_or (x : Nat → Int32) : NoCyc x ∨ ∃ m l, Cyc x m l := by
  rcases cyc_up x 2000 with a | ⟨j, i, a, b, c, d⟩
  · exact Or.inl a
  · exact Or.inr ⟨i, j - i, by omega, by omega, by rw [show i + (j - i) = j by omega, c], fun i' j' q1 q2 => d i' j' q1 (by omega)⟩
theorem it_sh {F : Int32 → Int32} {p : Int32} {a b : Nat} (e : itN F a p = itN F b p) (d : Nat) : itN F (a + d) p = itN F (b + d) p := by rw [itN_add, itN_add, e]
theorem cyc_k {F : Int32 → Int32} {p : Int32} {m l : Nat} (e : itN F (m + l) p = itN F m p) : ∀ k s, itN F (m + (k * l + s)) p = itN F (m + s) p
  | 0, s => by rw [Nat.zero_mul, Nat.zero_add]
  | k + 1, s => by
    rw [Nat.succ_mul, show m + (k * l + l + s) = (m + l) + (k * l + s) by omega, it_sh e (k * l + s), cyc_k e k s]
/-- a repetition's least length is the round's -/
theorem cyc_len {F : Int32 → Int32} {p : Int32} {m l : Nat} (C : Cyc (fun i => itN F i p) m l) {a L : Nat} (h1 : 1 ≤ L) (h2 : itN F (a + L) p = itN F a p) (h3 : ∀ L', 1 ≤ L' → L' < L → itN F (a + L') p ≠ itN F a p) : L = l := by
  obtain ⟨c1, c2, c3, c4⟩ := C
  have c3' : itN F (m + l) p = itN F m p := c3
  have c4' : ∀ i j, i < j → j < m + l → itN F i p ≠ itN F j p := c4
  have ge : l ≤ L := by
    refine Classical.byContradiction (fun q => ?_)
    have e1 := it_sh h2 (m + a * l - a)
    have al : a ≤ a * l := Nat.le_mul_of_pos_right a (by omega)
    rw [show a + L + (m + a * l - a) = m + (a * l + L) by omega, show a + (m + a * l - a) = m + (a * l + 0) by omega, cyc_k c3', cyc_k c3'] at e1
    exact c4' m (m + L) (by omega) (by omega) e1.symm
  have am : m ≤ a := by
    refine Classical.byContradiction (fun q => ?_)
    by_cases s : a + L < m + l
    · exact c4' a (a + L) (by omega) s h2.symm
    · have dm := Nat.div_add_mod (a + L - m) l
      have md := Nat.mod_lt (a + L - m) (show 0 < l by omega)
      rw [Nat.mul_comm] at dm
      have e1 := cyc_k c3' ((a + L - m) / l) ((a + L - m) % l)
      rw [dm, show m + (a + L - m) = a + L by omega, h2] at e1
      exact c4' a _ (by omega) (by omega) e1
  refine Classical.byContradiction (fun q => ?_)
  have e1 := it_sh c3' (a - m)
  rw [show m + l + (a - m) = a + l by omega, show m + (a - m) = a by omega] at e1
  exact h3 l c1 (by omega) e1
theorem cyc_ge {F : Int32 → Int32} {p : Int32} {m l : Nat} (C : Cyc (fun i => itN F i p) m l) {a : Nat} (h : m ≤ a) : itN F (a + l) p = itN F a p := by
  have e1 := it_sh C.2.2.1 (a - m)
  rw [show m + l + (a - m) = a + l by omega, show m + (a - m) = a by omega] at e1
  exact e1
def Sc (t : Nat) (h g : HP) : Prop := CS t h g ∧ Sm t h g
theorem Sc.sc {t : Nat} {h g : HP} (ht : t = 79 ∨ t = 96) (s : Sc t h g) (f : Nat → Int32) : Sc t h (scr g t f) := ⟨s.1.sc ht f, s.2.scr ht f⟩
theorem Sc.I72 {t : Nat} {h g : HP} (ht : t = 79 ∨ t = 96) (s : Sc t h g) (k : Nat) (v : Int32) : Sc t h (uI g 72 k v) := ⟨s.1.I _ _ _ (by omega), s.2.I _ _ _ (by unfold relI inT; omega)⟩
theorem sc72 {t : Nat} (ht : t = 79 ∨ t = 96) (g : HP) (f : Nat → Int32) (k : Nat) : hI (scr g t f) 72 k = hI g 72 k := by rw [scr_I _ _ _ (by omega)]
theorem br_lp {h : HP} {t : Nat} (ht : t = 79 ∨ t = 96) (hr : (hI h t 10).toInt ≤ 4) {F : Int32 → Int32} {p : Int32} (hF : F = nxF h t) : ∀ n g a L, Sc t h g → hI g 72 1 = nI L → 1 ≤ L → L ≤ a + 1 → (∀ L', 1 ≤ L' → L' < L → itN F (a + L') p ≠ itN F a p) → a + L ≤ 8193 → 8194 < a + L + n → ((∃ m l, Cyc (fun i => itN F i p) m l) → a ≤ 3999) →
    ∃ v g', f_X3_findRoundLength_22 t n (itN F a p) (itN F (a + L) p) (nI (a + 1)) (nI (a + L - 1)) g = some (v, g') ∧ Sc t h g' ∧ ((v = 0 ∧ ∀ m l, ¬ Cyc (fun i => itN F i p) m l) ∨ (v = 1 ∧ ∃ a' L', hI g' 72 1 = nI L' ∧ 1 ≤ L' ∧ L' ≤ 8193 ∧ itN F (a' + L') p = itN F a' p ∧ ∀ L'', 1 ≤ L'' → L'' < L' → itN F (a' + L'') p ≠ itN F a' p))
  | 0, g, a, L, _, _, _, _, _, h6, h7, _ => absurd h7 (by omega)
  | n + 1, g, a, L, s, k1, h2, h3, h4, h6, h7, h8 => by
    have A : ∀ a' L', Sc t h g → ∀ G, Sc t h G → hI G 72 1 = nI L' → 1 ≤ L' + 1 → L' + 1 ≤ a' + 1 → (∀ L'', 1 ≤ L'' → L'' < L' + 1 → itN F (a' + L'') p ≠ itN F a' p) → a' + L' = a + L → ((∃ m l, Cyc (fun i => itN F i p) m l) → a' ≤ 3999) → a + L < 8193 →
        ∃ v g', f_X3_findRoundLength_57 t (f_X3_findRoundLength_22 t n) (itN F a' p) (itN F (a + L) p) (nI (a' + 1)) (nI (a + L - 1)) G = some (v, g') ∧ Sc t h g' ∧ ((v = 0 ∧ ∀ m l, ¬ Cyc (fun i => itN F i p) m l) ∨ (v = 1 ∧ ∃ a' L', hI g' 72 1 = nI L' ∧ 1 ≤ L' ∧ L' ≤ 8193 ∧ itN F (a' + L') p = itN F a' p ∧ ∀ L'', 1 ≤ L'' → L'' < L' → itN F (a' + L'') p ≠ itN F a' p)) := fun a' L' _ G sG kG b1 b2 b3 b4 b5 b6 => by
      obtain ⟨f, e⟩ := nxtC3 sG.1 hr (itN F (a + L) p)
      unfold f_X3_findRoundLength_57
      rw [e, bd2_s, ← hF, ← itN_last F (a + L) p, sc72 ht, kG]
      simp only [ltv_e, nI_1]
      rw [show a + L - 1 + 1 = a' + (L' + 1) - 1 by omega, show a + L + 1 = a' + (L' + 1) by omega]
      exact br_lp ht hr hF n _ a' (L' + 1) ((sG.sc ht f).I72 ht 1 _) (hI_uI_s _ _ _ _) b1 b2 b3 (by omega) (by omega) b5
    unfold f_X3_findRoundLength_22
    have fin : itN F (a + L) p = itN F a p → ∃ v g', (some ((1 : Int32), g)) = some (v, g') ∧ Sc t h g' ∧ ((v = 0 ∧ ∀ m l, ¬ Cyc (fun i => itN F i p) m l) ∨ (v = 1 ∧ ∃ a' L', hI g' 72 1 = nI L' ∧ 1 ≤ L' ∧ L' ≤ 8193 ∧ itN F (a' + L') p = itN F a' p ∧ ∀ L'', 1 ≤ L'' → L'' < L' → itN F (a' + L'') p ≠ itN F a' p)) := fun e => ⟨1, g, rfl, s, Or.inr ⟨rfl, a, L, k1, h2, by omega, e, h4⟩⟩
    by_cases e : itN F (a + L) p = itN F a p
    · simp only [if_pos e, ite_self]
      exact fin e
    · simp only [if_neg e]
      by_cases c1 : 8192 ≤ a + L - 1
      · rw [if_pos (by rw [show (8192 : Int32) = nI 8192 from rfl, nI_leI (by omega) (by omega)]; exact c1)]
        refine ⟨0, g, rfl, s, Or.inl ⟨rfl, fun m l C => ?_⟩⟩
        have := h8 ⟨m, l, C⟩
        omega
      · rw [if_neg (by rw [show (8192 : Int32) = nI 8192 from rfl, nI_leI (by omega) (by omega)]; exact c1), k1]
        by_cases c2 : L = a + 1
        · rw [if_pos (by rw [c2])]
          simp only [ltv_e]
          rw [show nI (a + 1) * 2 = nI (a + L + 1) by rw [show (2 : Int32) = nI 2 from rfl, nI_mul]; congr 1; omega]
          refine A (a + L) 0 s _ (s.I72 ht 1 0) (hI_uI_s _ _ _ _) (by omega) (by omega) (fun L'' q1 q2 => absurd q1 (by omega)) (by omega) (fun ⟨m, l, C⟩ => ?_) (by omega)
          refine Classical.byContradiction (fun q => ?_)
          have al : l ≤ 2000 := by have := C.2.1; omega
          have ml : m ≤ a := by have := C.2.1; omega
          have eg := cyc_ge C ml
          by_cases ll : l < L
          · exact h4 l C.1 ll eg
          · omega
        · rw [if_neg (fun z => c2 (nI_inj (by omega) (by omega) z))]
          refine A a L s g s k1 (by omega) (by omega) (fun L'' q1 q2 => ?_) rfl h8 (by omega)
          by_cases z : L'' = L
          · subst z; exact e
          · exact h4 L'' q1 (by omega)
theorem ro_A {h : HP} {t : Nat} (ht : t = 79 ∨ t = 96) (hr : (hI h t 10).toInt ≤ 4) {F : Int32 → Int32} {p : Int32} (hF : F = nxF h t) {m l : Nat} (C : Cyc (fun i => itN F i p) m l) : ∀ d k n g, k + d = m → d < n → Sc t h g → hI g 72 0 = nI k → hI g 72 1 = nI l →
    ∃ g', f_X3_findRound_30 t n (itN F k p) (itN F (k + l) p) g = some (1, g') ∧ Sc t h g' ∧ hI g' 72 0 = nI m ∧ hI g' 72 1 = nI l
  | d, k, 0, g, _, z, _, _, _ => absurd z (by omega)
  | 0, k, n + 1, g, e, _, s, k0, k1 => by
    have e : k = m := by omega
    subst e
    have c2 := C.2.1
    have c3 : itN F k p = itN F (k + l) p := C.2.2.1.symm
    unfold f_X3_findRound_30 f_X3_findRound_75
    rw [if_pos c3, if_pos c3, k0, k1, nI_add, if_neg (by rw [show (2000 : Int32) = nI 2000 from rfl, nI_ltI (by omega) (by omega)]; omega)]
    exact ⟨g, rfl, s, k0, k1⟩
  | d + 1, k, n + 1, g, e, z, s, k0, k1 => by
    have c2 := C.2.1
    have ne : itN F k p ≠ itN F (k + l) p := C.2.2.2 k (k + l) (by have := C.1; omega) (by omega)
    obtain ⟨f1, e1⟩ := nxtC3 s.1 hr (itN F k p)
    obtain ⟨f2, e2⟩ := nxtC3 (s.1.sc ht f1) hr (itN F (k + l) p)
    unfold f_X3_findRound_30
    rw [if_neg ne, k0, k1, nI_add, if_neg (by rw [show (2000 : Int32) = nI 2000 from rfl, nI_leI (by omega) (by omega)]; omega), e1, bd2_s, e2, bd2_s, ← hF, ← itN_last F k p, ← itN_last F (k + l) p, sc72 ht, sc72 ht, k0]
    simp only [ltv_e, nI_1]
    rw [show k + l + 1 = k + 1 + l by omega]
    exact ro_A ht hr hF C d (k + 1) n _ (by omega) (by omega) (((s.sc ht f1).sc ht f2).I72 ht 0 _) (hI_uI_s _ _ _ _) (by rw [hI_uI_n (by omega), sc72 ht, sc72 ht]; exact k1)
theorem ro_B {h : HP} {t : Nat} (ht : t = 79 ∨ t = 96) (hr : (hI h t 10).toInt ≤ 4) {F : Int32 → Int32} {p : Int32} (hF : F = nxF h t) (C : NoCyc (fun i => itN F i p)) {l : Nat} (l1 : 1 ≤ l) (l2 : l ≤ 8193) : ∀ d k n g, k + d = 2000 → d < n → Sc t h g → hI g 72 0 = nI k → hI g 72 1 = nI l →
    ∃ g', f_X3_findRound_30 t n (itN F k p) (itN F (k + l) p) g = some (0, g') ∧ Sc t h g'
  | d, k, 0, g, _, z, _, _, _ => absurd z (by omega)
  | d, k, n + 1, g, e, z, s, k0, k1 => by
    unfold f_X3_findRound_30 f_X3_findRound_75
    rw [k0, k1, nI_add]
    by_cases q : itN F k p = itN F (k + l) p
    · rw [if_pos q, if_pos q]
      have : 2000 < k + l := Classical.byContradiction (fun y => C k (k + l) (by omega) (by omega) q)
      rw [if_pos (by rw [show (2000 : Int32) = nI 2000 from rfl, nI_ltI (by omega) (by omega)]; exact this)]
      exact ⟨g, rfl, s⟩
    · rw [if_neg q, if_neg q]
      by_cases y : 2000 ≤ k + l
      · rw [if_pos (by rw [show (2000 : Int32) = nI 2000 from rfl, nI_leI (by omega) (by omega)]; exact y)]
        exact ⟨g, rfl, s⟩
      · rw [if_neg (by rw [show (2000 : Int32) = nI 2000 from rfl, nI_leI (by omega) (by omega)]; exact y)]
        obtain ⟨f1, e1⟩ := nxtC3 s.1 hr (itN F k p)
        obtain ⟨f2, e2⟩ := nxtC3 (s.1.sc ht f1) hr (itN F (k + l) p)
        obtain ⟨d, rfl⟩ : ∃ d', d = d' + 1 := ⟨d - 1, by omega⟩
        rw [e1, bd2_s, e2, bd2_s, ← hF, ← itN_last F k p, ← itN_last F (k + l) p, sc72 ht, sc72 ht, k0]
        simp only [ltv_e, nI_1]
        rw [show k + l + 1 = k + 1 + l by omega]
        have ih := ro_B ht hr hF C l1 l2 d (k + 1) n _ (by omega) (by omega) (((s.sc ht f1).sc ht f2).I72 ht 0 (nI (k + 1))) (hI_uI_s _ _ _ _) (by rw [hI_uI_n (by omega), sc72 ht, sc72 ht]; exact k1)
        unfold f_X3_findRound_75 at ih
        exact ih
theorem roundC {h : HP} {t : Nat} (ht : t = 79 ∨ t = 96) (hr : (hI h t 10).toInt ≤ 4) : ∃ v g', f_X3_findRound h t = some (v, g') ∧ Sc t h g' ∧ ((v = 0 ∧ NoCyc (fun i => itN (nxF h t) i (hI h t 13))) ∨ (v = 1 ∧ ∃ m l, Cyc (fun i => itN (nxF h t) i (hI h t 13)) m l ∧ hI g' 72 0 = nI m ∧ hI g' 72 1 = nI l)) := by
  obtain ⟨F, hF⟩ : ∃ F, F = nxF h t := ⟨_, rfl⟩
  obtain ⟨p, hp⟩ : ∃ p, p = hI h t 13 := ⟨_, rfl⟩
  have s0 : Sc t h h := ⟨CS.refl t h, Sm.refl t h⟩
  obtain ⟨f, e⟩ := nxtC3 s0.1 hr p
  have s1 : Sc t h (uI (scr h t f) 72 1 1) := (s0.sc ht f).I72 ht 1 1
  obtain ⟨v, g', e1, s2, r1⟩ := br_lp (p := p) ht hr hF FU _ 0 1 s1 (hI_uI_s _ _ _ _) (by omega) (by omega) (fun L' q1 q2 => absurd q1 (by omega)) (by omega) (by have := FU_gt (d := 9000) (by decide); omega) (fun _ => by omega)
  have eL : f_X3_findRoundLength h t = some (v, g') := by
    unfold f_X3_findRoundLength
    simp only [ltv_e]
    rw [← hp, e, bd2_s, ← hF]
    exact e1
  unfold f_X3_findRound
  rw [eL, bd2_s, ← hF, ← hp]
  rcases r1 with ⟨rfl, r1⟩ | ⟨rfl, a, L, k1, L1, L2, r2, r3⟩
  · rw [if_pos rfl]
    refine ⟨0, g', rfl, s2, Or.inl ⟨rfl, ?_⟩⟩
    rcases cyc_or (fun i => itN F i p) with q | ⟨m, l, q⟩
    · exact q
    · exact absurd q (r1 m l)
  · rw [if_neg (by decide)]
    obtain ⟨f2, e2⟩ := aftC3 (N := L) (by omega) s2.1 hr p
    have t13 : hI g' t 13 = p := by rw [s2.1.1 t (by omega), hp]
    simp only [ltv_e]
    rw [t13, k1, e2, bd2_s, ← hF]
    have s3 : Sc t h (uI (scr g' t f2) 72 0 0) := (s2.sc ht f2).I72 ht 0 0
    have k3 : hI (uI (scr g' t f2) 72 0 0) 72 1 = nI L := by rw [hI_uI_n (by omega), sc72 ht]; exact k1
    rcases cyc_or (fun i => itN F i p) with q | ⟨m, l, q⟩
    · obtain ⟨g4, e4, s4⟩ := ro_B ht hr hF q L1 L2 2000 0 FU _ (by omega) (FU_gt (by decide)) s3 (hI_uI_s _ _ _ _) k3
      rw [Nat.zero_add] at e4
      exact ⟨0, g4, e4, s4, Or.inl ⟨rfl, q⟩⟩
    · have el := cyc_len q L1 r2 r3
      subst el
      obtain ⟨g4, e4, s4, a4, b4⟩ := ro_A ht hr hF q m 0 FU _ (by omega) (FU_gt (by have := q.2.1; omega)) s3 (hI_uI_s _ _ _ _) k3
      rw [Nat.zero_add] at e4
      exact ⟨1, g4, e4, s4, Or.inr ⟨rfl, m, L, q, a4, b4⟩⟩
