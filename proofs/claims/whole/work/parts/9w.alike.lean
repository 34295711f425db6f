/-! ===== rows, one after the other ===== -/
theorem PZ.keep {a a' b b' : HP} {u m c : Nat} (hu : u = 79 ∨ u = 96) (P : PP a b u m c) (Z : ZZ a b u) (e0 : ∀ j, j ≠ 13 → hI a' u j = hI a u j) (e : ∀ d, d ≠ 5 → d ≠ u → d ≠ u + 1 → hI a' d = hI a d) (el : hL a' = hL a) (f : ∀ j, j ≠ 1641 → j ≠ 1642 → j ≠ 1643 → j ≠ 1644 → hI b' 114 j = hI b 114 j) (fl : hL b' = hL b) : PP a' b' u m c ∧ ZZ a' b' u := by
  obtain ⟨⟨p1, p2, p3⟩, ⟨p4, p5, p6⟩, ⟨p7, p8⟩, p9, p10, p11, p12, p13⟩ := P
  obtain ⟨⟨z1, z2, z3, z4, z5⟩, z6, z7, z8, z9⟩ := Z
  unfold PP ZZ
  rw [e0 10 (by decide), e0 11 (by decide), e0 12 (by decide), e0 14 (by decide), e0 15 (by decide), e (u + 3) (by omega) (by omega) (by omega), e (u + 10) (by omega) (by omega) (by omega), e (u + 11) (by omega) (by omega) (by omega), e (u + 13) (by omega) (by omega) (by omega), e (u + 14) (by omega) (by omega) (by omega), e (u + 15) (by omega) (by omega) (by omega), el, fl, f 1645 (by decide) (by decide) (by decide) (by decide), f 1646 (by decide) (by decide) (by decide) (by decide), f 1650 (by decide) (by decide) (by decide) (by decide), f 1647 (by decide) (by decide) (by decide) (by decide), f 1648 (by decide) (by decide) (by decide) (by decide), f 1651 (by decide) (by decide) (by decide) (by decide)]
  have g : ∀ j, 1650 ≤ j → hI b' 114 j = hI b 114 j := fun j hj => f j (by omega) (by omega) (by omega) (by omega)
  refine ⟨⟨⟨p1, p2, p3⟩, ⟨p4, p5, p6⟩, ⟨p7, p8⟩, fun i hi => ?_, fun i hi => ?_, fun i hi => ?_, fun i hi => ?_, fun i h1 h2 => ?_⟩, ⟨z1, z2, z3, z4, z5⟩, z6, z7, z8, fun i hi => ?_⟩
  · rw [g _ (by omega), g _ (by omega)]; exact p9 i hi
  · rw [g _ (by omega), g _ (by omega)]; exact p10 i hi
  · rw [g _ (by omega), g _ (by omega)]; exact p11 i hi
  · rw [g _ (by omega), g _ (by omega)]; exact p12 i hi
  · rw [g _ (by omega), g _ (by omega)]; exact p13 i h1 h2
  · rw [g _ (by omega)]; exact z9 i hi
def rowStep (a : HP) (u r : Nat) : Int32 × HP :=
  if r = 6 then (0, failF a 6) else
  if (lettersF (advF a) u).1 = 0 then (0, (lettersF (advF a) u).2) else
  if (takeK 3 (lettersF (advF a) u).2 59).1 = 0 then (0, (takeK 3 (lettersF (advF a) u).2 59).2) else (1, (takeK 3 (lettersF (advF a) u).2 59).2)
/-- the end of a step: fault, or reading on with the town so far -/
def EN (T : Nat → Int32) (L n u w r m c : Nat) (x : Int32 × HP) (a b b' : HP) : Prop := FW b b' ∧ CW u a x.2 ∧ ((x.1 = 0 ∧ FT x.2 b') ∨ (x.1 = 1 ∧ RD T L n x.2 b' ∧ TSt x.2 b' u w r m c))
theorem aRow_is {T : Nat → Int32} {L n : Nat} {a b : HP} {u w r m c : Nat} (hu : u = 79 ∨ u = 96) (k : RD T L n a b) (S : TSt a b u w r m c) : ∃ b', f_X12_aRow b = some ((rowStep a u r).1, b') ∧ EN T L n u w (r + 1) m c (rowStep a u r) a b b' := by
  have hr6 := S.1.2.1.1
  have e41 := S.1.2.1.2.1
  have e6 : hI b 114 1641 = 6 ↔ r = 6 := by
    rw [e41]; exact ⟨fun z => nI_inj (b := 6) (by omega) (by omega) z, fun z => by rw [z]; rfl⟩
  unfold f_X12_aRow rowStep
  by_cases h6 : r = 6
  · obtain ⟨b', e1, e2, e3⟩ := k.fail (w := 6) (by decide) (by decide)
    rw [if_pos (e6.mpr h6), if_pos h6, show f_X12_fails b 6 = some (0, b') from e1, bd2_s, gdv_t (Or.inl rfl)]
    exact ⟨b', rfl, e2.W, CW.fr (failF_fr a _), Or.inl ⟨rfl, e3⟩⟩
  · rw [if_neg (fun z => h6 (e6.mp z)), if_neg h6]
    obtain ⟨b1, e1, F1, k1⟩ := k.adv
    rw [e1, bd1_s]
    have S1 : TSt (advF a) b1 u w r m c := S.keep hu (advF_fr a) F1
    have C1 : CW u a (advF a) := CW.fr (advF_fr a)
    generalize advF a = a1 at k1 S1 C1 ⊢
    have bad : ∃ b', (bd2 (f_X12_fails b1 2) fun r h => gdv (is01 r) <| some (r, h)) = some ((0 : Int32), b') ∧ FB b1 b' ∧ FT (failF a1 2) b' := by
      obtain ⟨b', g1, g2, g3⟩ := k1.fail (w := 2) (by decide) (by decide)
      exact ⟨b', by rw [show f_X12_fails b1 2 = some (0, b') from g1, bd2_s, gdv_t (Or.inl rfl)], g2, g3⟩
    have tx : TX T L := by obtain ⟨⟨i, q⟩, _⟩ := k1; exact q.2.1
    have x1 : RTx b1 T L := by obtain ⟨⟨i, q⟩, _⟩ := k1; exact q.2.2.2.1
    have hL := tx.1
    have ct : ∀ j, j < L → hI a1 6 j = T j := by obtain ⟨⟨i, q⟩, _⟩ := k1; exact q.1.2.2.2
    have tc : ∃ s, TkC a1 b1 T L s := by obtain ⟨⟨i, q⟩, _⟩ := k1; exact ⟨_, q.c⟩
    have ew := S1.1.1.2.2.2
    have ew2 := S1.1.1.2.2.1
    have w5 := S1.1.1.2.1
    obtain ⟨s, tc⟩ := tc
    by_cases h2 : hI b1 113 12 = 2
    · rw [if_pos h2]
      rcases tc with ⟨c1, c2⟩ | ⟨c1, c2, c3, c4, c5, c6, c7, c8, c9, c10⟩ | ⟨v, _, c1, c2, _⟩ | ⟨v, _, c1, c2, _⟩ | ⟨c1, c2⟩
      · rw [c2] at h2; exact absurd h2 (by decide)
      · have ll := lenT_le (T := T) c1
        obtain ⟨len, el⟩ : ∃ len, len = lenT T L s := ⟨_, rfl⟩
        rw [← el] at c7 c8 c10 ll
        rw [c7, c6, nI_sub (by omega), Nat.add_sub_cancel_left, ew2]
        by_cases hl : len = w
        · subst hl
          rw [if_pos (show nI len = nI len from rfl), ltv_e]
          have hwA : wA a1 u = len := by unfold wA; rw [ew, nI_clamp (by omega)]
          have er : hI a1 (u + 1) 1 = nI r := S1.1.2.1.2.2
          have q63 := row63 tx x1 c6 c7 ll len 0 FU (by omega) (FU_gt (by omega))
          rw [Nat.add_zero] at q63
          rw [q63]
          have lt : ∀ j, j < len → letAt a1 j = T (s + j) := fun j hj => by
            unfold letAt lA sA
            rw [c10, c9, nI_clamp (by omega), nI_clamp (by omega), if_pos hj, ct _ (by omega)]
          by_cases al : ∀ j, 0 ≤ j → j < len → isLet (T (s + j))
          · have eLF : lettersF a1 u = (1, advF (rI (addsG len 0 a1 u (nI (r * len))) (u + 1) (addRowF (hI (addsG len 0 a1 u (nI (r * len))) (u + 1))))) := by
              unfold lettersF
              rw [c10, ew, if_pos ⟨c3, rfl⟩, hwA, er, nI_mul, letG_okA hu (nI (r * len)) len 0 a1 (fun j h1 h2 => by rw [lt j (by omega)]; exact al j (by omega) (by omega))]
              exact if_neg (show ¬ (1 : Int32) = 0 by decide)
            have lf1 : (lettersF a1 u).1 = 1 := by rw [eLF]
            have lf2 : (lettersF a1 u).2 = advF (rI (addsG len 0 a1 u (nI (r * len))) (u + 1) (addRowF (hI (addsG len 0 a1 u (nI (r * len))) (u + 1)))) := by rw [eLF]
            rw [lf1, lf2, if_neg (show ¬ (1 : Int32) = 0 by decide), if_pos al]
            obtain ⟨b2, q1, q2, q3, q4, q5, q6, q7, q8, q9, q10, q11⟩ := row99 hu tx ll (show r < 6 by omega) len 0 FU a1 b1 (by omega) (FU_gt (by omega)) k1 c6 c7 lt (fun j hj => al j (Nat.zero_le _) hj) S1.1
            rw [Nat.add_zero] at q1
            rw [q1]
            generalize addsG len 0 a1 u (nI (r * len)) = a2 at q2 q3 q5 q6 q7 q11 ⊢
            show ∃ b', f_X12_aRow_99 1 (nI (s + len)) b2 = _ ∧ _
            unfold f_X12_aRow_99
            rw [q8, c7, if_pos (Int32.le_refl _), ltv_e]
            have H3 := HH.row hu q2 (show r < 6 by omega)
            have k3 : RD T L n (rI a2 (u + 1) (addRowF (hI a2 (u + 1)))) (uI b2 114 1641 (hI b2 114 1641 + 1)) := q3.keep (hI_rI_n _ _ (by omega)) (fun c hc => hI_rI_n _ _ (by omega)) rfl (hI_uI_n' (by decide)) (hI_uI_n' (by decide))
            have PZ3 := PZ.keep (a' := rI a2 (u + 1) (addRowF (hI a2 (u + 1)))) (b' := uI b2 114 1641 (hI b2 114 1641 + 1)) hu S1.2.1 S1.2.2 (fun j hj => by rw [hI_rI_n _ _ (by omega)]; exact q11 u j (by omega) (by omega)) (fun d h1 h2 h3 => by rw [hI_rI_n _ _ h3]; exact funext fun j => q11 d j (by omega) h3) (by rw [hL_rI, q7]) (fun j h1 h2 h3 h4 => by rw [hI_uI_n (by omega)]; exact q9 j h2 h3 h4) (by rw [hL_uI, q10])
            have C3 : CW u a1 (rI a2 (u + 1) (addRowF (hI a2 (u + 1)))) := q5.rI _ (by omega) (by omega)
            have W3 : FW b1 (uI b2 114 1641 (hI b2 114 1641 + 1)) := q4.u4 _ (by decide)
            generalize rI a2 (u + 1) (addRowF (hI a2 (u + 1))) = a3 at H3 k3 PZ3 C3 ⊢
            generalize uI b2 114 1641 (hI b2 114 1641 + 1) = b3 at H3 k3 PZ3 W3 ⊢
            obtain ⟨b4, e4, F4, k4⟩ := k3.adv
            rw [e4, bd1_s]
            have S4 : TSt (advF a3) b4 u len (r + 1) m c := TSt.keep hu ⟨H3, PZ3⟩ (advF_fr a3) F4
            have C4 : CW u a1 (advF a3) := C3.trans (CW.fr (advF_fr a3))
            generalize advF a3 = a4 at k4 S4 C4 ⊢
            obtain ⟨b5, e5, F5, A5⟩ := k4.wantSign (c := 59) (by decide)
            rw [show nI 59 = (59 : Int32) from rfl] at e5 A5
            rw [e5, bd2_s, gdv_t A5.is]
            have S5 : TSt (takeK 3 a4 59).2 b5 u len (r + 1) m c := S4.keep hu (takeK_fr 3 a4 59) F5
            have C5 : CW u a (takeK 3 a4 59).2 := (C1.trans C4).trans (CW.fr (takeK_fr 3 a4 59))
            have W5 : FW b b5 := ((F1.W.trans W3).trans F4.W).trans F5.W
            rcases A5 with ⟨r5, k5⟩ | ⟨r5, k5⟩
            · rw [if_neg (show ¬ (takeK 3 a4 59).1 = 0 by rw [r5]; decide), r5]
              exact ⟨b5, rfl, W5, C5, Or.inr ⟨rfl, k5, S5⟩⟩
            · rw [if_pos r5, r5]
              exact ⟨b5, rfl, W5, C5, Or.inl ⟨rfl, k5⟩⟩
          · rw [if_neg al]
            have no : ∃ j, 0 ≤ j ∧ j < 0 + len ∧ ¬ isLet (letAt a1 j) := by
              refine Classical.byContradiction fun z => al (fun j h1 h2 => ?_)
              rw [← lt j h2]
              exact Classical.byContradiction fun y => z ⟨j, h1, by omega, y⟩
            obtain ⟨a', l1, l2, l3⟩ := letG_no hu (nI (r * len)) len 0 a1 no
            have eLF : lettersF a1 u = (0, failF a' 2) := by
              unfold lettersF
              rw [c10, ew, if_pos ⟨c3, rfl⟩, hwA, er, nI_mul, l1]
              exact if_pos rfl
            have lf1 : (lettersF a1 u).1 = 0 := by rw [eLF]
            have lf2 : (lettersF a1 u).2 = failF a' 2 := by rw [eLF]
            rw [lf1, lf2, if_pos rfl]
            obtain ⟨b', g1, g2, g3⟩ := bad
            rw [g1]
            exact ⟨b', rfl, F1.W.trans g2.W, (C1.trans l3).trans (CW.fr (failF_fr a' 2)), Or.inl ⟨rfl, g3.of (failF_tok l2 2)⟩⟩
        · have eLF : lettersF a1 u = (0, failF a1 2) := by
            unfold lettersF
            rw [c10, ew]
            exact if_neg (fun z => hl (nI_inj (by omega) (by omega) z.2))
          have lf1 : (lettersF a1 u).1 = 0 := by rw [eLF]
          have lf2 : (lettersF a1 u).2 = failF a1 2 := by rw [eLF]
          rw [if_neg (fun z => hl (nI_inj (by omega) (by omega) z)), lf1, lf2, if_pos rfl]
          obtain ⟨b', g1, g2, g3⟩ := bad
          rw [g1]
          exact ⟨b', rfl, F1.W.trans g2.W, C1.trans (CW.fr (failF_fr a1 2)), Or.inl ⟨rfl, g3⟩⟩
      · rw [c2] at h2; exact absurd h2 (by decide)
      · rw [c2] at h2; exact absurd h2 (by decide)
      · rw [c2] at h2; exact absurd h2 (by decide)
    · rw [if_neg h2]
      have h4 : ¬ kA a1 = 4 := by
        rcases tc with ⟨c1, c2⟩ | ⟨c1, c2, c3, c4, _⟩ | ⟨v, _, c1, c2, _⟩ | ⟨v, _, c1, c2, _⟩ | ⟨c1, c2⟩
        · rw [c1]; decide
        · exact absurd c4 h2
        · rw [c1]; decide
        · rw [c1]; decide
        · rw [c1]; decide
      have eLF : lettersF a1 u = (0, failF a1 2) := by
        unfold lettersF
        exact if_neg (fun z => h4 z.1)
      have lf1 : (lettersF a1 u).1 = 0 := by rw [eLF]
      have lf2 : (lettersF a1 u).2 = failF a1 2 := by rw [eLF]
      rw [lf1, lf2, if_pos rfl]
      obtain ⟨b', g1, g2, g3⟩ := bad
      rw [g1]
      exact ⟨b', rfl, F1.W.trans g2.W, C1.trans (CW.fr (failF_fr a1 2)), Or.inl ⟨rfl, g3⟩⟩
