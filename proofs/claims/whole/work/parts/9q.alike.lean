/-! ===== the class's token beside the reference's ===== -/
def TkR (a b : HP) (T : Nat → Int32) (L n i : Nat) : Prop := CT a T L n ∧ TX T L ∧ (hI a 5 10 = nI i ∧ i ≤ n) ∧ RTx b T L ∧ RT b T L (plcT T L i)
theorem CT.keep {h h' : HP} {T : Nat → Int32} {L n : Nat} (c : CT h T L n) (e5 : hI h' 5 9 = hI h 5 9) (e : ∀ k, k = 6 ∨ (8 ≤ k ∧ k ≤ 11) → hI h' k = hI h k) (el : hL h' 12 = hL h 12) : CT h' T L n := by
  obtain ⟨⟨c1, c2, c3, c4, c5⟩, c6, c7, c8⟩ := c
  unfold CT
  rw [e5, e 8 (by omega), e 9 (by omega), e 10 (by omega), e 11 (by omega), e 6 (by omega), el]
  exact ⟨⟨c1, c2, c3, c4, c5⟩, c6, c7, c8⟩
theorem TkR.n9 {a b : HP} {T : Nat → Int32} {L n i : Nat} (k : TkR a b T L n i) : n ≤ 900 ∧ L ≤ 900 ∧ i ≤ n := ⟨k.1.1.1, k.1.1.2.1, k.2.2.1.2⟩
theorem TkR.at {a b : HP} {T : Nat → Int32} {L n i : Nat} (k : TkR a b T L n i) : tA a = i ∧ tN a = n + 1 := by
  have h := k.n9
  exact ⟨tA_of (by omega) k.2.2.1.1, tN_of (by omega) k.1.1.2.2.2.2⟩
theorem TkR.keep {a a' b b' : HP} {T : Nat → Int32} {L n i : Nat} (k : TkR a b T L n i) (f : TkFr a a') (e : hI a' 5 10 = hI a 5 10) (x : ∀ j, j = 11 ∨ (12 ≤ j ∧ j ≤ 15) → hI b' 113 j = hI b 113 j) (y : hI b' 120 = hI b 120) : TkR a' b' T L n i := by
  obtain ⟨k1, k2, k3, k4, k5⟩ := k
  refine ⟨k1.keep ?_ (fun c hc => f.I (by omega)) (congrFun f.L 12), k2, by rw [e]; exact k3, ⟨by rw [x 11 (Or.inl rfl)]; exact k4.1, by rw [y]; exact k4.2⟩, ?_⟩
  · obtain ⟨g, e1, e2, _⟩ := f
    rw [e1, hI_rI_s, e2]
  · unfold RT
    rw [x 12 (by omega), x 13 (by omega), x 14 (by omega), x 15 (by omega)]; exact k5
theorem TkR.keep2 {a a' b b' : HP} {T : Nat → Int32} {L n i : Nat} (k : TkR a b T L n i) (f5 : hI a' 5 = hI a 5) (f : ∀ c, c = 6 ∨ (8 ≤ c ∧ c ≤ 11) → hI a' c = hI a c) (fl : hL a' 12 = hL a 12) (x : hI b' 113 = hI b 113) (y : hI b' 120 = hI b 120) : TkR a' b' T L n i := by
  obtain ⟨k1, k2, k3, k4, k5⟩ := k
  refine ⟨k1.keep (by rw [f5]) f fl, k2, by rw [f5]; exact k3, ⟨by rw [x]; exact k4.1, by rw [y]; exact k4.2⟩, ?_⟩
  unfold RT
  rw [x]; exact k5
theorem TkR.on {a b : HP} {T : Nat → Int32} {L n i : Nat} (k : TkR a b T L n i) : ∃ b', f_X12_onward b = some b' ∧ FR b b' ∧ ∃ i', TkR (advF a) b' T L n i' := by
  have t := k.at
  obtain ⟨k1, k2, k3, k4, k5⟩ := k
  obtain ⟨⟨c1, c2, c3, c4, c5⟩, c6, c7, c8⟩ := k1
  have pl : (if plcT T L i < L then plcT T L i + lenT T L (plcT T L i) else L) ≤ L := by
    by_cases h : plcT T L i < L
    · rw [if_pos h]; exact lenT_le h
    · rw [if_neg h]; exact Nat.le_refl _
  obtain ⟨b', e1, e2, e3⟩ := on_0 k2 _ _ FU b k4 (Nat.le_refl _) pl (FU_gt (by omega)) k5.2.1
  refine ⟨b', e1, e2, ?_⟩
  have cc : ∀ x, CT (uI a 5 10 x) T L n := fun x => CT.keep (h := a) ⟨⟨c1, c2, c3, c4, c5⟩, c6, c7, c8⟩ (hI_uI_n (by decide)) (fun c hc => hI_uI_n' (by omega)) rfl
  unfold advF advH
  rw [t.1, t.2]
  by_cases h : i < n
  · rw [if_pos (by omega)]
    refine ⟨i + 1, cc _, k2, ⟨hI_uI_s _ _ _ _, by omega⟩, e2.x k4, ?_⟩
    rw [if_pos (c3 i h)] at e3
    exact e3
  · have hin : i = n := by omega
    rw [if_neg (by omega)]
    refine ⟨i, ⟨⟨c1, c2, c3, c4, c5⟩, c6, c7, c8⟩, k2, k3, e2.x k4, ?_⟩
    rw [hin, c4, if_neg (by omega)] at e3
    rw [hin, c4]
    have : skipT T L L = L := runN_stop (Or.inl (Nat.le_refl _))
    rw [this] at e3; exact e3
/-- what the two tokens are -/
def TkC (a b : HP) (T : Nat → Int32) (L : Nat) (s : Nat) : Prop :=
  (kA a = 1 ∧ hI b 113 12 = 0) ∨
  (s < L ∧ isLo T s = true ∧ kA a = 4 ∧ hI b 113 12 = 2 ∧ vA a = tkV T L s ∧ hI b 113 13 = nI s ∧ hI b 113 14 = nI (s + lenT T L s) ∧ hL a 12 (tA a) = codN T s (lenT T L s) ∧ hI a 9 (tA a) = nI s ∧ hI a 10 (tA a) = nI (lenT T L s)) ∨
  (∃ v, v < 10000 ∧ kA a = 2 ∧ hI b 113 12 = 3 ∧ vA a = nI v ∧ hI b 113 15 = nI v) ∨
  (∃ c, (c = 59 ∨ c = 60 ∨ c = 61 ∨ c = 62) ∧ kA a = 3 ∧ hI b 113 12 = 4 ∧ vA a = nI c ∧ hI b 113 15 = nI c) ∨
  (kA a = 0 ∧ hI b 113 12 = 1)
theorem TkR.pl {a b : HP} {T : Nat → Int32} {L n i : Nat} (k : TkR a b T L n i) : hI a 9 (tA a) = hI b 113 13 := by
  rw [k.at.1, k.2.2.2.2.1]
  by_cases h : i < n
  · exact (k.1.2.1 i h).2.1
  · have := k.n9
    rw [show i = n by omega, k.1.2.2.1.2.1, k.1.1.2.2.2.1]
theorem TkR.c {a b : HP} {T : Nat → Int32} {L n i : Nat} (k : TkR a b T L n i) : TkC a b T L (plcT T L i) := by
  have t := k.at
  have h9 := k.n9
  obtain ⟨k1, k2, k3, k4, k5⟩ := k
  obtain ⟨⟨c1, c2, c3, c4, c5⟩, c6, c7, c8⟩ := k1
  unfold TkC kA vA
  rw [t.1]
  by_cases h : i < n
  · have hs := c3 i h
    obtain ⟨p1, p2, p3, p4, p5⟩ := c6 i h
    obtain ⟨r1, r2, r3, r4, r5⟩ := k5
    generalize plcT T L i = s at hs p1 p2 p3 p4 p5 r1 r2 r3 r4 r5 ⊢
    rw [if_pos hs] at r2
    rw [p1, p4, r3]
    unfold tkK rK
    rw [if_pos hs]
    by_cases hlo : isLo T s = true
    · rw [if_pos hlo, if_pos hlo]
      exact Or.inr (Or.inl ⟨hs, hlo, rfl, rfl, rfl, r1, r2, p5 hlo, p2, p3⟩)
    · have hlo' : isLo T s = false := by simpa using hlo
      rw [if_neg hlo, if_neg hlo]
      by_cases hdi : isDi T s = true
      · rw [if_pos hdi, if_pos hdi]
        by_cases h4 : 4 < lenT T L s
        · rw [if_pos h4, if_pos h4]; exact Or.inr (Or.inr (Or.inr (Or.inr ⟨rfl, rfl⟩)))
        · rw [if_neg h4, if_neg h4]
          obtain ⟨v, hv, e1, e2⟩ := rN_num (T := T) (s := s) (lenT T L s) (by omega) (DG_of hlo hdi)
          have hv4 : v < 10000 := Nat.lt_of_lt_of_le hv (show 10 ^ lenT T L s ≤ 10 ^ 4 from Nat.pow_le_pow_right (by decide) (by omega))
          refine Or.inr (Or.inr (Or.inl ⟨v, hv4, rfl, rfl, ?_, ?_⟩))
          · unfold tkV; rw [if_neg hlo, if_pos hdi, e2, n16_nI (by omega)]
          · rw [r4 hs hlo' hdi, e1]
      · have hdi' : isDi T s = false := by simpa using hdi
        rw [if_neg hdi, if_neg hdi]
        by_cases hsg : isSg T s = true
        · rw [if_pos hsg, if_pos hsg]
          have e15 := r5 hs hlo' hdi' hsg
          have ev : tkV T L s = (T s).toInt16.toInt32 := by unfold tkV; rw [if_neg hlo, if_neg hdi]
          rw [ev, e15]
          refine Or.inr (Or.inr (Or.inr (Or.inl ?_)))
          rcases sg_n.mp hsg with q | q | q | q <;> rw [q]
          · exact ⟨59, by decide, rfl, rfl, n16_nI (by decide), rfl⟩
          · exact ⟨60, by decide, rfl, rfl, n16_nI (by decide), rfl⟩
          · exact ⟨62, by decide, rfl, rfl, n16_nI (by decide), rfl⟩
          · exact ⟨61, by decide, rfl, rfl, n16_nI (by decide), rfl⟩
        · rw [if_neg hsg, if_neg hsg]; exact Or.inr (Or.inr (Or.inr (Or.inr ⟨rfl, rfl⟩)))
  · have e : i = n := by omega
    left
    rw [k5.2.2.1, e, c7.1]
    unfold rK
    rw [c4, if_neg (by omega)]; exact ⟨rfl, rfl⟩
/-- the word that stands there -/
theorem TkR.word {a b : HP} {T : Nat → Int32} {L n i : Nat} (k : TkR a b T L n i) : ∃ r, f_X12_inWords b = some (r, b) ∧ ((kA a = 4 ∧ hI b 113 12 = 2 ∧ ((∃ k, k < 22 ∧ vA a = nI k ∧ r = nI (rwK k)) ∨ (vA a = -1 ∧ r = -1))) ∨ (kA a ≠ 4 ∧ hI b 113 12 ≠ 2 ∧ r = -1)) := by
  have c := k.c
  have no : hI b 113 12 ≠ 2 → f_X12_inWords b = some (-1, b) := fun h => by unfold f_X12_inWords; rw [if_neg h]
  rcases c with ⟨c1, c2⟩ | ⟨c1, c2, c3, c4, c5, c6, c7, c8, c9, c10⟩ | ⟨v, _, c1, c2, _⟩ | ⟨v, _, c1, c2, _⟩ | ⟨c1, c2⟩
  · exact ⟨-1, no (by rw [c2]; decide), Or.inr ⟨by rw [c1]; decide, by rw [c2]; decide, rfl⟩⟩
  · have e : f_X12_inWords b = some (wIx T (plcT T L i) (lenT T L (plcT T L i)) 22 0, b) := by
      unfold f_X12_inWords
      rw [if_pos c4]
      exact iw14 k.2.1 k.2.2.2.1 c6 c7 (lenT_le c1) 22 0 FU rfl (FU_gt (by decide))
    refine ⟨_, e, Or.inl ⟨c3, c4, ?_⟩⟩
    rw [c5]
    rcases word_is (L := L) c2 with ⟨j, h1, h2, h3⟩ | ⟨h2, h3⟩
    · exact Or.inl ⟨j, h1, h2, h3⟩
    · exact Or.inr ⟨h2, h3⟩
  · exact ⟨-1, no (by rw [c2]; decide), Or.inr ⟨by rw [c1]; decide, by rw [c2]; decide, rfl⟩⟩
  · exact ⟨-1, no (by rw [c2]; decide), Or.inr ⟨by rw [c1]; decide, by rw [c2]; decide, rfl⟩⟩
  · exact ⟨-1, no (by rw [c2]; decide), Or.inr ⟨by rw [c1]; decide, by rw [c2]; decide, rfl⟩⟩
/-- is it the class's word j -/
theorem TkR.isW {a b : HP} {T : Nat → Int32} {L n i : Nat} (k : TkR a b T L n i) : ∃ r, f_X12_inWords b = some (r, b) ∧ (∀ j, j < 22 → ((kA a = 4 ∧ vA a = nI j) ↔ r = nI (rwK j))) ∧ (r = -1 ∨ ∃ j, j < 22 ∧ r = nI (rwK j)) ∧ (kA a = 4 → (vA a < 0 ↔ r = -1)) := by
  obtain ⟨r, e, h⟩ := k.word
  have m1 : ∀ k : Nat, k < 22 → nI k ≠ -1 := fun k hk q => absurd (congrArg Int32.toInt q) (by rw [nI_toInt (by omega)]; intro q; have : ((-1 : Int32).toInt) = -1 := rfl; omega)
  refine ⟨r, e, ?_, ?_, ?_⟩
  · intro j hj
    have pj := pm_rw j hj
    rcases h with ⟨h1, h2, ⟨q, hq, h3, h4⟩ | ⟨h3, h4⟩⟩ | ⟨h1, h2, h3⟩
    · have pq := pm_rw q hq
      rw [h3, h4]
      constructor
      · intro z; rw [nI_inj (by omega) (by omega) z.2]
      · intro z
        have := nI_inj (by omega) (by omega) z
        have e2 : pmW (rwK q) = pmW (rwK j) := by rw [this]
        rw [pq.2.2.2, pj.2.2.2] at e2
        rw [e2]; exact ⟨h1, rfl⟩
    · rw [h3, h4]
      exact ⟨fun z => absurd z.2.symm (m1 j hj), fun z => absurd z.symm (m1 _ pj.2.1)⟩
    · rw [h3]
      exact ⟨fun z => absurd z.1 h1, fun z => absurd z.symm (m1 _ pj.2.1)⟩
  · rcases h with ⟨h1, h2, ⟨q, hq, h3, h4⟩ | ⟨h3, h4⟩⟩ | ⟨h1, h2, h3⟩
    · exact Or.inr ⟨q, hq, h4⟩
    · exact Or.inl h4
    · exact Or.inl h3
  · intro h4
    rcases h with ⟨h1, h2, ⟨q, hq, h3, h4⟩ | ⟨h3, h4⟩⟩ | ⟨h1, h2, h3⟩
    · rw [h3, h4, show (0 : Int32) = nI 0 from rfl, nI_ltI (by omega) (by omega)]
      exact ⟨fun z => absurd z (by omega), fun z => absurd z (m1 _ (pm_rw q hq).2.1)⟩
    · rw [h3, h4]; exact ⟨fun _ => rfl, fun _ => by decide⟩
    · exact absurd h4 h1
