/-! ===== rules and citizens ===== -/
def ru1 (a : HP) (u : Nat) : HP := advF (uL (newNameF (advF a) u).2 (u + 9) (tM a u) (hL (newNameF (advF a) u).2 12 (tA (newNameF (advF a) u).2)))
theorem ruleF_e (a : HP) (u : Nat) : ruleF a u = if hI a u 10 < 4 then (if (newNameF (advF a) u).1 = 0 then (0, (newNameF (advF a) u).2) else if (setF (ru1 a u) 4).1 < 0 then (0, (setF (ru1 a u) 4).2) else if (setF (setF (ru1 a u) 4).2 5).1 < 0 then (0, (setF (setF (ru1 a u) 4).2 5).2) else if (takeK 3 (setF (setF (ru1 a u) 4).2 5).2 59).1 = 0 then (0, (takeK 3 (setF (setF (ru1 a u) 4).2 5).2 59).2) else (1, uI (uI (uI (takeK 3 (setF (setF (ru1 a u) 4).2 5).2 59).2 (u + 10) (tM a u) (setF (ru1 a u) 4).1) (u + 11) (tM a u) (setF (setF (ru1 a u) 4).2 5).1) u 10 (hI a u 10 + 1))) else (0, failF a 6) := rfl
def ci1 (a : HP) (u : Nat) : HP := advF (uL (newNameF (advF a) u).2 (u + 12) (tC a u) (hL (newNameF (advF a) u).2 12 (tA (newNameF (advF a) u).2)))
def ci2 (a : HP) (u : Nat) : HP := (takeK 4 (ci1 a u) 7).2
def ci3 (a : HP) (u : Nat) : HP := (takeN (ci2 a u) 0 30).2
def ci4 (a : HP) (u : Nat) : HP := (takeK 4 (ci3 a u) 8).2
def ci5 (a : HP) (u : Nat) : HP := (takeN (ci4 a u) (hI (ci3 a u) 5 11) 30).2
theorem citF_e (a : HP) (u : Nat) : citF a u = if hI a u 11 < 6 then (if (newNameF (advF a) u).1 = 0 then (0, (newNameF (advF a) u).2) else if (takeK 4 (ci1 a u) 7).1 = 0 then (0, ci2 a u) else if (takeN (ci2 a u) 0 30).1 = 0 then (0, ci3 a u) else if (takeK 4 (ci3 a u) 8).1 = 0 then (0, ci4 a u) else if (takeN (ci4 a u) (hI (ci3 a u) 5 11) 30).1 = 0 then (0, ci5 a u) else takeK 3 (uI (uI (uI (ci5 a u) (u + 13) (tC a u) (hI (ci3 a u) 5 11)) (u + 14) (tC a u) (hI (uI (ci5 a u) (u + 13) (tC a u) (hI (ci3 a u) 5 11)) 5 11)) u 11 (hI a u 11 + 1)) 59) else (0, failF a 6) := rfl
theorem HH.keep {a a' b b' : HP} {u w r k : Nat} (H : HH a b u w r k) (e : ∀ j, j < 9 → hI a' (u + 1) j = hI a (u + 1) j) (e2 : hI a' u 13 = hI a u 13) (f : ∀ j, (1640 ≤ j ∧ j ≤ 1644) ∨ j = 1649 → hI b' 114 j = hI b 114 j) : HH a' b' u w r k := by
  unfold HH at H ⊢
  rw [e 0 (by decide), e 1 (by decide), e 2 (by decide), e 3 (by decide), e 4 (by decide), e 5 (by decide), e 6 (by decide), e 7 (by decide), e 8 (by decide), e2, f 1640 (by decide), f 1641 (by decide), f 1642 (by decide), f 1643 (by decide), f 1644 (by decide), f 1649 (by decide)]
  exact H
theorem ZZ.keep {a a' b b' : HP} {u : Nat} (Z : ZZ a b u) (e : hI a' u 14 = hI a u 14 ∧ hI a' u 15 = hI a u 15) (e3 : hI a' (u + 3) = hI a (u + 3)) (e15 : hI a' (u + 15) = hI a (u + 15)) (f : ∀ j, j = 1647 ∨ j = 1648 ∨ j = 1651 ∨ (1672 ≤ j ∧ j < 1682) → hI b' 114 j = hI b 114 j) : ZZ a' b' u := by
  obtain ⟨⟨z1, z2, z3, z4, z5⟩, z6, z7, z8, z9⟩ := Z
  unfold ZZ
  rw [e.1, e.2, e3, e15, f 1647 (by omega), f 1648 (by omega), f 1651 (by omega)]
  exact ⟨⟨z1, z2, z3, z4, z5⟩, z6, z7, z8, fun i hi => by rw [f _ (by omega)]; exact z9 i hi⟩
theorem TSt.rule {a b A B : HP} {u w r m c v1 v2 : Nat} {cd X : Int64} (hu : u = 79 ∨ u = 96) (S : TSt a b u w r m c) (hm : m < 4)
    (hA : ∀ d j, d ≠ 5 → ¬ (d = u + 10 ∧ j = m) → ¬ (d = u + 11 ∧ j = m) → ¬ (d = u ∧ j = 10) → hI A d j = hI a d j)
    (a1 : hI A (u + 10) m = nI v1) (a2 : hI A (u + 11) m = nI v2) (a3 : hI A u 10 = nI (m + 1)) (aL : ∀ d j, ¬ (d = u + 9 ∧ j = m) → hL A d j = hL a d j) (aC : hL A (u + 9) m = cd)
    (hB : ∀ j, j ≠ 1652 + 2 * m → j ≠ 1653 + 2 * m → j ≠ 1645 → j ≠ 1650 → hI B 114 j = hI b 114 j)
    (b1 : hI B 114 (1652 + 2 * m) = nI v1) (b2 : hI B 114 (1653 + 2 * m) = nI v2) (b3 : hI B 114 1645 = nI (m + 1)) (b4 : hI B 114 1650 = 0) (bL : ∀ j, j ≠ 40 + m → hL B 115 j = hL b 115 j) (bC : hL B 115 (40 + m) = X) (hX : NmR cd X) (h1 : v1 < 32) (h2 : v2 < 32) : TSt A B u w r (m + 1) c := by
  obtain ⟨H, ⟨⟨p1, p2, p3⟩, ⟨p4, p5, p6⟩, ⟨p7, p8⟩, p9, p10, p11, p12, p13⟩, Z⟩ := S
  refine ⟨H.keep (fun j hj => hA _ _ (by omega) (by omega) (by omega) (by omega)) (hA _ _ (by omega) (by omega) (by omega) (by omega)) (fun j hj => hB j (by omega) (by omega) (by omega) (by omega)), ⟨⟨by omega, b3, a3⟩, ⟨p4, ?_, ?_⟩, ⟨?_, Or.inr ⟨by omega, b4⟩⟩, fun i hi => ?_, fun i hi => ?_, fun i hi => ?_, fun i hi => ?_, fun i hi hi4 => ?_⟩, Z.keep ⟨hA _ _ (by omega) (by omega) (by omega) (by omega), hA _ _ (by omega) (by omega) (by omega) (by omega)⟩ (funext fun j => hA _ _ (by omega) (by omega) (by omega) (by omega)) (funext fun j => hA _ _ (by omega) (by omega) (by omega) (by omega)) (fun j hj => hB j (by omega) (by omega) (by omega) (by omega))⟩
  · rw [hB _ (by omega) (by omega) (by omega) (by omega)]; exact p5
  · rw [hA _ _ (by omega) (by omega) (by omega) (by omega)]; exact p6
  · rw [hA _ _ (by omega) (by omega) (by omega) (by omega)]; exact p7
  · by_cases e : i = m
    · subst e; rw [a1, a2, b1, b2, aC, bC]; exact ⟨rfl, rfl, hX⟩
    · rw [hA _ _ (by omega) (by omega) (by omega) (by omega), hA _ _ (by omega) (by omega) (by omega) (by omega), hB _ (by omega) (by omega) (by omega) (by omega), hB _ (by omega) (by omega) (by omega) (by omega), aL _ _ (by omega), bL _ (by omega)]; exact p9 i (by omega)
  · rw [hA _ _ (by omega) (by omega) (by omega) (by omega), hA _ _ (by omega) (by omega) (by omega) (by omega), hB _ (by omega) (by omega) (by omega) (by omega), hB _ (by omega) (by omega) (by omega) (by omega), aL _ _ (by omega), bL _ (by omega)]; exact p10 i hi
  · by_cases e : i = m
    · subst e; rw [b1, b2]; exact ⟨⟨v1, h1, rfl⟩, v2, h2, rfl⟩
    · rw [hB _ (by omega) (by omega) (by omega) (by omega), hB _ (by omega) (by omega) (by omega) (by omega)]; exact p11 i (by omega)
  · rw [hB _ (by omega) (by omega) (by omega) (by omega), hB _ (by omega) (by omega) (by omega) (by omega)]; exact p12 i hi
  · rw [hB _ (by omega) (by omega) (by omega) (by omega), hB _ (by omega) (by omega) (by omega) (by omega)]; exact p13 i (by omega) hi4
theorem TSt.cit {a b A B : HP} {u w r m c v1 v2 : Nat} {cd X : Int64} (hu : u = 79 ∨ u = 96) (S : TSt a b u w r m c) (hc : c < 6)
    (hA : ∀ d j, d ≠ 5 → ¬ (d = u + 13 ∧ j = c) → ¬ (d = u + 14 ∧ j = c) → ¬ (d = u ∧ j = 11) → hI A d j = hI a d j)
    (a1 : hI A (u + 13) c = nI v1) (a2 : hI A (u + 14) c = nI v2) (a3 : hI A u 11 = nI (c + 1)) (aL : ∀ d j, ¬ (d = u + 12 ∧ j = c) → hL A d j = hL a d j) (aC : hL A (u + 12) c = cd)
    (hB : ∀ j, j ≠ 1660 + 2 * c → j ≠ 1661 + 2 * c → j ≠ 1646 → hI B 114 j = hI b 114 j)
    (b1 : hI B 114 (1660 + 2 * c) = nI v1) (b2 : hI B 114 (1661 + 2 * c) = nI v2) (b3 : hI B 114 1646 = nI (c + 1)) (bL : ∀ j, j ≠ 44 + c → hL B 115 j = hL b 115 j) (bC : hL B 115 (44 + c) = X) (hX : NmR cd X) (h1 : v1 ≤ v2) (h2 : v2 ≤ 30) : TSt A B u w r m (c + 1) := by
  obtain ⟨H, ⟨⟨p1, p2, p3⟩, ⟨p4, p5, p6⟩, ⟨p7, p8⟩, p9, p10, p11, p12, p13⟩, Z⟩ := S
  refine ⟨H.keep (fun j hj => hA _ _ (by omega) (by omega) (by omega) (by omega)) (hA _ _ (by omega) (by omega) (by omega) (by omega)) (fun j hj => hB j (by omega) (by omega) (by omega)), ⟨⟨p1, ?_, ?_⟩, ⟨by omega, b3, a3⟩, ⟨?_, ?_⟩, fun i hi => ?_, fun i hi => ?_, fun i hi => ?_, fun i hi => ?_, fun i hi hi4 => ?_⟩, Z.keep ⟨hA _ _ (by omega) (by omega) (by omega) (by omega), hA _ _ (by omega) (by omega) (by omega) (by omega)⟩ (funext fun j => hA _ _ (by omega) (by omega) (by omega) (by omega)) (funext fun j => hA _ _ (by omega) (by omega) (by omega) (by omega)) (fun j hj => hB j (by omega) (by omega) (by omega))⟩
  · rw [hB _ (by omega) (by omega) (by omega)]; exact p2
  · rw [hA _ _ (by omega) (by omega) (by omega) (by omega)]; exact p3
  · rw [hA _ _ (by omega) (by omega) (by omega) (by omega)]; exact p7
  · rw [hB _ (by omega) (by omega) (by omega)]; exact p8
  · rw [hA _ _ (by omega) (by omega) (by omega) (by omega), hA _ _ (by omega) (by omega) (by omega) (by omega), hB _ (by omega) (by omega) (by omega), hB _ (by omega) (by omega) (by omega), aL _ _ (by omega), bL _ (by omega)]; exact p9 i hi
  · by_cases e : i = c
    · subst e; rw [a1, a2, b1, b2, aC, bC]; exact ⟨rfl, rfl, hX⟩
    · rw [hA _ _ (by omega) (by omega) (by omega) (by omega), hA _ _ (by omega) (by omega) (by omega) (by omega), hB _ (by omega) (by omega) (by omega), hB _ (by omega) (by omega) (by omega), aL _ _ (by omega), bL _ (by omega)]; exact p10 i (by omega)
  · rw [hB _ (by omega) (by omega) (by omega), hB _ (by omega) (by omega) (by omega)]; exact p11 i hi
  · by_cases e : i = c
    · subst e; rw [b1, b2]; exact ⟨v1, v2, h1, h2, rfl, rfl⟩
    · rw [hB _ (by omega) (by omega) (by omega), hB _ (by omega) (by omega) (by omega)]; exact p12 i (by omega)
  · rw [hB _ (by omega) (by omega) (by omega), hB _ (by omega) (by omega) (by omega)]; exact p13 i hi hi4
theorem rule_is {T : Nat → Int32} {L n : Nat} {a b : HP} {u w r m c : Nat} (hu : u = 79 ∨ u = 96) (k : RD T L n a b) (S : TSt a b u w r m c) : ∃ b', f_X12_townPart_23 2 b = some ((ruleF a u).1, b') ∧ FW b b' ∧ CW u a (ruleF a u).2 ∧ (((ruleF a u).1 = 0 ∧ FT (ruleF a u).2 b') ∨ ((ruleF a u).1 = 1 ∧ RD T L n (ruleF a u).2 b' ∧ m < 4 ∧ TSt (ruleF a u).2 b' u w r (m + 1) c)) := by
  obtain ⟨⟨p1, p2, p3⟩, _, _, _, _, _, _, p13⟩ := S.2.1
  unfold f_X12_townPart_23
  rw [if_pos rfl]
  unfold f_X12_aRule
  rw [ltv_e, p2, show (2 : Int32) * nI m = nI (2 * m) from nI_mul 2 m, show (1652 : Int32) + nI (2 * m) = nI (1652 + 2 * m) from nI_add 1652 (2 * m), ruleF_e]
  have e4 : hI a u 10 < 4 ↔ m < 4 := by rw [p3]; exact nI_ltI (b := 4) (by omega) (by omega)
  have tm : tM a u = m := by unfold tM; rw [p3, nI_clamp (by omega)]
  rcases newOne_is hu k S (q := 5) (lim := 4) (off := 0) (x := m) (C := u + 9) (Or.inl rfl) p2 p1 (by decide) (by decide) (Or.inl rfl) with ⟨h1, b', e1, F1, k1⟩ | ⟨h1, h2, b', e1, F1, k1⟩ | ⟨h1, h2, b1, X, b2, e1, F1, hX, F2, k2⟩
  · rw [show f_X12_newOne b 5 4 0 = some (0, b') from e1, if_neg (fun z => by have := e4.mp z; omega)]
    exact ⟨b', rfl, F1.W, CW.fr (failF_fr a 6), Or.inl ⟨rfl, k1⟩⟩
  · rw [show f_X12_newOne b 5 4 0 = some (0, b') from e1, if_pos (e4.mpr (by omega)), if_pos h2]
    exact ⟨b', rfl, F1.W, CW.fr ((advF_fr a).trans (newNameF_fr _ u)), Or.inl ⟨rfl, k1⟩⟩
  · have n1 : (newNameF (advF a) u).1 = 1 := by rw [h2]
    have n2 : (newNameF (advF a) u).2 = advF a := by rw [h2]
    have er : ru1 a u = advF (uL (advF a) (u + 9) m (hL (advF a) 12 (tA (advF a)))) := by unfold ru1; rw [n2, tm]
    rw [show f_X12_newOne b 5 4 0 = some (1, b2) from e1, if_pos (e4.mpr (by omega)), n1, if_neg (show ¬ (1 : Int32) = 0 by decide), bd2_s, if_neg (show ¬ (1 : Int32) = 0 by decide), er, tm]
    obtain ⟨cd, ecd⟩ : ∃ cd, cd = hL (advF a) 12 (tA (advF a)) := ⟨_, rfl⟩
    rw [← ecd] at hX k2 ⊢
    have C1 : CW u a (advF (uL (advF a) (u + 9) m cd)) := ((CW.fr (advF_fr a)).uL m cd (by omega)).trans (CW.fr (advF_fr _))
    have cI : ∀ d j, d ≠ 5 → hI (advF (uL (advF a) (u + 9) m cd)) d j = hI a d j := fun d j hd => by rw [(advF_fr _).I hd, hI_uL, (advF_fr a).I hd]
    have cL : hL (advF (uL (advF a) (u + 9) m cd)) = hL (uL a (u + 9) m cd) := by
      rw [(advF_fr _).L]; funext p q; rw [hL_uL, hL_uL, (advF_fr a).L]
    generalize advF (uL (advF a) (u + 9) m cd) = a2 at k2 C1 cI cL ⊢
    have W2 : FW b b2 := (F1.W.u5 X (by omega)).trans F2.W
    have dI : ∀ j, hI b2 114 j = hI b 114 j := fun j => by rw [F2.I (by decide), hI_uL, F1.I (by decide)]
    have dL : ∀ j, hL b2 115 j = if j = 40 + m then X else hL b 115 j := fun j => by
      rw [F2.L, hL_uL, F1.L]
      by_cases z : j = 40 + m
      · rw [if_pos ⟨rfl, by omega⟩, if_pos z]
      · rw [if_neg (by omega), if_neg z]
    rcases set_all (p := 1652 + 2 * m) (j := 4) (by omega) (by omega) (by decide) k2 (by rw [dI]; exact (p13 m (Nat.le_refl _) (by omega)).1) (f_X12_aRule_45 (nI (1652 + 2 * m))) with ⟨b3, s1, s2, s3, s4, s5⟩ | ⟨v1, b3, hv1, s1, s2, s3, s4, s5, s6⟩
    · rw [show nI 4 = (4 : Int32) from rfl] at s1 s4 s5
      have s2' := s2
      rw [show (nI (rwK 4)) = (5 : Int32) from rfl] at s2'
      rw [s2', bd2_s, if_pos rfl, s1, if_pos (show (-1 : Int32) < 0 by decide)]
      exact ⟨b3, rfl, W2.trans s3.1, C1.trans (CW.fr s5), Or.inl ⟨rfl, s4⟩⟩
    · rw [show nI 4 = (4 : Int32) from rfl] at s1 s5 s6
      have s2' := s2
      rw [show (nI (rwK 4)) = (5 : Int32) from rfl] at s2'
      rw [s2', s1, if_neg (show ¬ nI v1 < 0 from fun z => by have := (nI_ltI (b := 0) (by omega) (by omega)).mp z; omega)]
      generalize (setF a2 4).2 = a3 at s5 s6 ⊢
      unfold f_X12_aRule_45
      rw [nI_1]
      rcases set_all (p := 1652 + 2 * m + 1) (j := 5) (by omega) (by omega) (by decide) s5 (by rw [s3.2.2 _ (by omega), dI, show 1652 + 2 * m + 1 = 1653 + 2 * m by omega]; exact (p13 m (Nat.le_refl _) (by omega)).2) f_X12_aRule_66 with ⟨b4, t1, t2, t3, t4, t5⟩ | ⟨v2, b4, hv2, t1, t2, t3, t4, t5, t6⟩
      · rw [show nI 5 = (5 : Int32) from rfl] at t1 t4 t5
        have t2' := t2
        rw [show (nI (rwK 5)) = (6 : Int32) from rfl] at t2'
        rw [t2', bd2_s, if_pos rfl, t1, if_pos (show (-1 : Int32) < 0 by decide)]
        exact ⟨b4, rfl, (W2.trans s3.1).trans t3.1, C1.trans (CW.fr (s6.trans t5)), Or.inl ⟨rfl, t4⟩⟩
      · rw [show nI 5 = (5 : Int32) from rfl] at t1 t5 t6
        have t2' := t2
        rw [show (nI (rwK 5)) = (6 : Int32) from rfl] at t2'
        rw [t2', t1, if_neg (show ¬ nI v2 < 0 from fun z => by have := (nI_ltI (b := 0) (by omega) (by omega)).mp z; omega)]
        generalize (setF a3 5).2 = a4 at t5 t6 ⊢
        unfold f_X12_aRule_66
        have c45 : hI b4 114 1645 = nI m := by rw [t3.2.2 _ (by omega), s3.2.2 _ (by omega), dI]; exact p2
        rw [c45, nI_1, ltv_e, ltv_e, bd2_s, if_neg (show ¬ (1 : Int32) = 0 by decide)]
        have k5 : RD T L n a4 (uI (uI b4 114 1645 (nI (m + 1))) 114 1650 0) := t5.keep rfl (fun _ _ => rfl) rfl (by rw [hI_uI_n' (by decide), hI_uI_n' (by decide)]) (by rw [hI_uI_n' (by decide), hI_uI_n' (by decide)])
        obtain ⟨b6, g1, g2, g3⟩ := k5.wantSign (c := 59) (by decide)
        rw [show nI 59 = (59 : Int32) from rfl] at g1 g3
        have W6 : FW b b6 := ((((W2.trans s3.1).trans t3.1).u4 _ (by decide)).u4 _ (by decide)).trans g2.W
        have C6 : CW u a (takeK 3 a4 59).2 := (C1.trans (CW.fr (s6.trans t6))).trans (CW.fr (takeK_fr 3 a4 59))
        rw [g1, bd2_s]
        rcases g3 with ⟨r6, k6⟩ | ⟨r6, k6⟩
        · rw [r6, if_neg (show ¬ (1 : Int32) = 0 by decide), if_neg (show ¬ (1 : Int32) = 0 by decide), p3, nI_1]
          have fr6 : TkFr a2 (takeK 3 a4 59).2 := (s6.trans t6).trans (takeK_fr 3 a4 59)
          generalize (takeK 3 a4 59).2 = a6 at k6 C6 fr6 ⊢
          refine ⟨b6, rfl, W6, ((C6.uI _ _ (by omega) (by omega)).uI _ _ (by omega) (by omega)).uI _ _ (by omega) (by omega), Or.inr ⟨rfl, k6.keep (by rw [hI_uI_n' (by omega), hI_uI_n' (by omega), hI_uI_n' (by omega)]) (fun d hd => by rw [hI_uI_n' (by omega), hI_uI_n' (by omega), hI_uI_n' (by omega)]) rfl rfl rfl, by omega, ?_⟩⟩
          refine S.rule hu (by omega) (v1 := v1) (v2 := v2) (cd := cd) (X := X) (fun d j z1 z2 z3 z4 => ?_) ?_ ?_ ?_ (fun d j z => ?_) ?_ (fun j z1 z2 z3 z4 => ?_) ?_ ?_ ?_ ?_ (fun j z => ?_) ?_ hX hv1 hv2
          · rw [hI_uI_n (by omega), hI_uI_n (by omega), hI_uI_n (by omega), fr6.I z1, cI _ _ z1]
          · rw [hI_uI_n (by omega), hI_uI_n (by omega), hI_uI_s]
          · rw [hI_uI_n (by omega), hI_uI_s]
          · rw [hI_uI_s]
          · rw [hL_uI, hL_uI, hL_uI, fr6.L, cL, hL_uL_n (by omega)]
          · rw [hL_uI, hL_uI, hL_uI, fr6.L, cL, hL_uL_s]
          · rw [g2.I (by decide), hI_uI_n (by omega), hI_uI_n (by omega), t3.2.2 _ (by omega), s3.2.2 _ (by omega), dI]
          · rw [g2.I (by decide), hI_uI_n (by omega), hI_uI_n (by omega), t3.2.2 _ (by omega), s4]
          · rw [g2.I (by decide), hI_uI_n (by omega), hI_uI_n (by omega), show 1653 + 2 * m = 1652 + 2 * m + 1 by omega, t4]
          · rw [g2.I (by decide), hI_uI_n (by omega), hI_uI_s]
          · rw [g2.I (by decide), hI_uI_s]
          · rw [g2.L, hL_uI, hL_uI, t3.2.1, s3.2.1, dL, if_neg z]
          · rw [g2.L, hL_uI, hL_uI, t3.2.1, s3.2.1, dL, if_pos rfl]
        · rw [r6, if_pos rfl, if_pos rfl]
          exact ⟨b6, rfl, W6, C6, Or.inl ⟨rfl, k6⟩⟩
