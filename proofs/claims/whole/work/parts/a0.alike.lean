/-! ===== a citizen; the parts one after the other ===== -/
theorem cit_is {T : Nat → Int32} {L n : Nat} {a b : HP} {u w r m c : Nat} (hu : u = 79 ∨ u = 96) (k : RD T L n a b) (S : TSt a b u w r m c) : ∃ b', f_X12_townPart_23 3 b = some ((citF a u).1, b') ∧ FW b b' ∧ CW u a (citF a u).2 ∧ (((citF a u).1 = 0 ∧ FT (citF a u).2 b') ∨ ((citF a u).1 = 1 ∧ RD T L n (citF a u).2 b' ∧ c < 6 ∧ TSt (citF a u).2 b' u w r m (c + 1))) := by
  obtain ⟨_, ⟨p1, p2, p3⟩, _⟩ := S.2.1
  unfold f_X12_townPart_23
  rw [if_neg (show ¬ (3 : Int32) = 2 by decide)]
  unfold f_X12_aCitizen
  rw [ltv_e, p2, show (2 : Int32) * nI c = nI (2 * c) from nI_mul 2 c, show (1660 : Int32) + nI (2 * c) = nI (1660 + 2 * c) from nI_add 1660 (2 * c), citF_e]
  have e4 : hI a u 11 < 6 ↔ c < 6 := by rw [p3]; exact nI_ltI (b := 6) (by omega) (by omega)
  have tc : tC a u = c := by unfold tC; rw [p3, nI_clamp (by omega)]
  rcases newOne_is hu k S (q := 6) (lim := 6) (off := 4) (x := c) (C := u + 12) (Or.inr rfl) p2 p1 (by decide) (by decide) (Or.inr rfl) with ⟨h1, b', e1, F1, k1⟩ | ⟨h1, h2, b', e1, F1, k1⟩ | ⟨h1, h2, b1, X, b2, e1, F1, hX, F2, k2⟩
  · rw [show f_X12_newOne b 6 6 4 = some (0, b') from e1, if_neg (fun z => by have := e4.mp z; omega)]
    exact ⟨b', rfl, F1.W, CW.fr (failF_fr a 6), Or.inl ⟨rfl, k1⟩⟩
  · rw [show f_X12_newOne b 6 6 4 = some (0, b') from e1, if_pos (e4.mpr (by omega)), if_pos h2]
    exact ⟨b', rfl, F1.W, CW.fr ((advF_fr a).trans (newNameF_fr _ u)), Or.inl ⟨rfl, k1⟩⟩
  · have n1 : (newNameF (advF a) u).1 = 1 := by rw [h2]
    have n2 : (newNameF (advF a) u).2 = advF a := by rw [h2]
    have er : ci1 a u = advF (uL (advF a) (u + 12) c (hL (advF a) 12 (tA (advF a)))) := by unfold ci1; rw [n2, tc]
    rw [show f_X12_newOne b 6 6 4 = some (1, b2) from e1, if_pos (e4.mpr (by omega)), n1, if_neg (show ¬ (1 : Int32) = 0 by decide), bd2_s, if_neg (show ¬ (1 : Int32) = 0 by decide), tc]
    unfold ci5 ci4 ci3 ci2
    rw [er]
    obtain ⟨cd, ecd⟩ : ∃ cd, cd = hL (advF a) 12 (tA (advF a)) := ⟨_, rfl⟩
    rw [← ecd] at hX k2 ⊢
    have C1 : CW u a (advF (uL (advF a) (u + 12) c cd)) := ((CW.fr (advF_fr a)).uL c cd (by omega)).trans (CW.fr (advF_fr _))
    have cI : ∀ d j, d ≠ 5 → hI (advF (uL (advF a) (u + 12) c cd)) d j = hI a d j := fun d j hd => by rw [(advF_fr _).I hd, hI_uL, (advF_fr a).I hd]
    have cL : hL (advF (uL (advF a) (u + 12) c cd)) = hL (uL a (u + 12) c cd) := by
      rw [(advF_fr _).L]; funext p q; rw [hL_uL, hL_uL, (advF_fr a).L]
    generalize advF (uL (advF a) (u + 12) c cd) = a2 at k2 C1 cI cL ⊢
    have W2 : FW b b2 := (F1.W.u5 X (by omega)).trans F2.W
    have dI : ∀ j, hI b2 114 j = hI b 114 j := fun j => by rw [F2.I (by decide), hI_uL, F1.I (by decide)]
    have dL : ∀ j, hL b2 115 j = if j = 44 + c then X else hL b 115 j := fun j => by
      rw [F2.L, hL_uL, F1.L]
      by_cases z : j = 44 + c
      · rw [if_pos ⟨rfl, by omega⟩, if_pos z]
      · rw [if_neg (by omega), if_neg z]
    obtain ⟨b3, s1, F3, A3⟩ := k2.wantWord (j := 7) (by decide)
    have s1 : f_X12_wantWord b2 7 = some ((takeK 4 a2 7).1, b3) := s1
    have A3 : AN T L n (takeK 4 a2 7).1 (takeK 4 a2 7).2 b3 := A3
    have fr3 : TkFr a2 (takeK 4 a2 7).2 := takeK_fr 4 a2 7
    rw [s1, bd2_s]
    rcases A3 with ⟨r3, k3⟩ | ⟨r3, k3⟩
    · rw [r3, if_neg (show ¬ (1 : Int32) = 0 by decide), if_neg (show ¬ (1 : Int32) = 0 by decide)]
      generalize (takeK 4 a2 7).2 = a3 at k3 fr3 ⊢
      have fr4 : TkFr a2 (takeN a3 0 30).2 := fr3.trans (takeN_fr a3 0 30)
      rcases k3.number (p := 1660 + 2 * c) (lo := 0) (hi := 30) (by omega) (by decide) (by decide) with ⟨r4, b4, s4, F4, k4⟩ | ⟨r4, v1, b4, _, v1h, ev1, s4, F4, k4⟩
      · have r4 : (takeN a3 0 30).1 = 0 := r4
        have s4 : f_X12_number b3 (nI (1660 + 2 * c)) 0 30 = some (0, b4) := s4
        rw [s4, bd2_s, if_pos rfl, r4, if_pos rfl]
        exact ⟨b4, rfl, (W2.trans F3.W).trans F4.W, C1.trans (CW.fr fr4), Or.inl ⟨rfl, k4⟩⟩
      · have r4 : (takeN a3 0 30).1 = 1 := r4
        have s4 : f_X12_number b3 (nI (1660 + 2 * c)) 0 30 = some (1, b4) := s4
        have ev1 : hI (takeN a3 0 30).2 5 11 = nI v1 := ev1
        have k4 : RD T L n (takeN a3 0 30).2 b4 := k4
        rw [s4, bd2_s, if_neg (show ¬ (1 : Int32) = 0 by decide), r4, if_neg (show ¬ (1 : Int32) = 0 by decide), ev1]
        generalize (takeN a3 0 30).2 = a4 at k4 fr4 ev1 ⊢
        have W4 : FW b b4 := ((W2.trans F3.W).u4 _ (by omega)).trans F4.W
        have d4 : ∀ j, hI b4 114 j = if j = 1660 + 2 * c then nI v1 else hI b 114 j := fun j => by
          rw [F4.I (by decide), hI_uI, F3.I (by decide), dI]
          by_cases z : j = 1660 + 2 * c
          · rw [if_pos ⟨rfl, z⟩, if_pos z]
          · rw [if_neg (fun y => z y.2), if_neg z]
        have dL4 : hL b4 115 = hL b2 115 := by rw [F4.L, hL_uI, F3.L]
        obtain ⟨b5, s5, F5, A5⟩ := k4.wantWord (j := 8) (by decide)
        have s5 : f_X12_wantWord b4 8 = some ((takeK 4 a4 8).1, b5) := s5
        have A5 : AN T L n (takeK 4 a4 8).1 (takeK 4 a4 8).2 b5 := A5
        have fr5 : TkFr a2 (takeK 4 a4 8).2 := fr4.trans (takeK_fr 4 a4 8)
        rw [s5, bd2_s]
        rcases A5 with ⟨r5, k5⟩ | ⟨r5, k5⟩
        · rw [r5, if_neg (show ¬ (1 : Int32) = 0 by decide), if_neg (show ¬ (1 : Int32) = 0 by decide), gdi_nI (by omega) (by decide), nI_clamp (by omega), F5.I (by decide), d4, if_pos rfl, nI_1]
          generalize (takeK 4 a4 8).2 = a5 at k5 fr5 ⊢
          have fr6 : TkFr a2 (takeN a5 (nI v1) 30).2 := fr5.trans (takeN_fr a5 (nI v1) 30)
          rcases k5.number (p := 1660 + 2 * c + 1) (lo := v1) (hi := 30) (by omega) (by omega) (by decide) with ⟨r6, b6, s6, F6, k6⟩ | ⟨r6, v2, b6, v2l, v2h, ev2, s6, F6, k6⟩
          · have r6 : (takeN a5 (nI v1) 30).1 = 0 := r6
            have s6 : f_X12_number b5 (nI (1660 + 2 * c + 1)) (nI v1) 30 = some (0, b6) := s6
            rw [s6, bd2_s, if_pos rfl, r6, if_pos rfl]
            exact ⟨b6, rfl, (W4.trans F5.W).trans F6.W, C1.trans (CW.fr fr6), Or.inl ⟨rfl, k6⟩⟩
          · have r6 : (takeN a5 (nI v1) 30).1 = 1 := r6
            have s6 : f_X12_number b5 (nI (1660 + 2 * c + 1)) (nI v1) 30 = some (1, b6) := s6
            have ev2 : hI (takeN a5 (nI v1) 30).2 5 11 = nI v2 := ev2
            have k6 : RD T L n (takeN a5 (nI v1) 30).2 b6 := k6
            rw [s6, bd2_s, if_neg (show ¬ (1 : Int32) = 0 by decide), r6, if_neg (show ¬ (1 : Int32) = 0 by decide), hI_uI_n (show (5 : Nat) ≠ u + 13 ∨ 11 ≠ c by omega), ev2, p3, nI_1]
            generalize (takeN a5 (nI v1) 30).2 = a6 at k6 fr6 ev2 ⊢
            have d6 : ∀ j, hI b6 114 j = if j = 1660 + 2 * c + 1 then nI v2 else if j = 1660 + 2 * c then nI v1 else hI b 114 j := fun j => by
              rw [F6.I (by decide), hI_uI, F5.I (by decide), d4]
              by_cases z : j = 1660 + 2 * c + 1
              · rw [if_pos ⟨rfl, z⟩, if_pos z]
              · rw [if_neg (fun y => z y.2), if_neg z]
            have dL6 : hL b6 115 = hL b2 115 := by rw [F6.L, hL_uI, F5.L, dL4]
            have W6 : FW b b6 := ((W4.trans F5.W).u4 _ (by omega)).trans F6.W
            rw [d6 1646, if_neg (by omega), if_neg (by omega), p2, nI_1, ltv_e, bd2_s, if_neg (show ¬ (1 : Int32) = 0 by decide)]
            have k7 : RD T L n (uI (uI (uI a6 (u + 13) c (nI v1)) (u + 14) c (nI v2)) u 11 (nI (c + 1))) (uI b6 114 1646 (nI (c + 1))) := k6.keep (by rw [hI_uI_n' (by omega), hI_uI_n' (by omega), hI_uI_n' (by omega)]) (fun d hd => by rw [hI_uI_n' (by omega), hI_uI_n' (by omega), hI_uI_n' (by omega)]) rfl (hI_uI_n' (by decide)) (hI_uI_n' (by decide))
            have C7 : CW u a (uI (uI (uI a6 (u + 13) c (nI v1)) (u + 14) c (nI v2)) u 11 (nI (c + 1))) := (((C1.trans (CW.fr fr6)).uI _ _ (by omega) (by omega)).uI _ _ (by omega) (by omega)).uI _ _ (by omega) (by omega)
            have S7 : TSt (uI (uI (uI a6 (u + 13) c (nI v1)) (u + 14) c (nI v2)) u 11 (nI (c + 1))) (uI b6 114 1646 (nI (c + 1))) u w r m (c + 1) := by
              refine S.cit hu (by omega) (v1 := v1) (v2 := v2) (cd := cd) (X := X) (fun d j z1 z2 z3 z4 => ?_) ?_ ?_ ?_ (fun d j z => ?_) ?_ (fun j z1 z2 z3 => ?_) ?_ ?_ ?_ (fun j z => ?_) ?_ hX v2l v2h
              · rw [hI_uI_n (by omega), hI_uI_n (by omega), hI_uI_n (by omega), fr6.I z1, cI _ _ z1]
              · rw [hI_uI_n (by omega), hI_uI_n (by omega), hI_uI_s]
              · rw [hI_uI_n (by omega), hI_uI_s]
              · rw [hI_uI_s]
              · rw [hL_uI, hL_uI, hL_uI, fr6.L, cL, hL_uL_n (by omega)]
              · rw [hL_uI, hL_uI, hL_uI, fr6.L, cL, hL_uL_s]
              · rw [hI_uI_n (by omega), d6, if_neg (by omega), if_neg (by omega)]
              · rw [hI_uI_n (by omega), d6, if_neg (by omega), if_pos rfl]
              · rw [hI_uI_n (by omega), d6, if_pos (by omega)]
              · rw [hI_uI_s]
              · rw [hL_uI, dL6, dL, if_neg z]
              · rw [hL_uI, dL6, dL, if_pos rfl]
            generalize uI (uI (uI a6 (u + 13) c (nI v1)) (u + 14) c (nI v2)) u 11 (nI (c + 1)) = a7 at k7 C7 S7 ⊢
            have W7 : FW b (uI b6 114 1646 (nI (c + 1))) := W6.u4 _ (by decide)
            generalize uI b6 114 1646 (nI (c + 1)) = b7 at k7 S7 W7 ⊢
            obtain ⟨b8, g1, g2, g3⟩ := k7.wantSign (c := 59) (by decide)
            rw [show nI 59 = (59 : Int32) from rfl] at g1 g3
            have C8 : CW u a (takeK 3 a7 59).2 := C7.trans (CW.fr (takeK_fr 3 a7 59))
            have S8 : TSt (takeK 3 a7 59).2 b8 u w r m (c + 1) := S7.keep hu (takeK_fr 3 a7 59) g2
            rw [g1, bd2_s]
            rcases g3 with ⟨r8, k8⟩ | ⟨r8, k8⟩
            · rw [r8, if_neg (show ¬ (1 : Int32) = 0 by decide)]
              exact ⟨b8, rfl, W7.trans g2.W, C8, Or.inr ⟨rfl, k8, by omega, S8⟩⟩
            · rw [r8, if_pos rfl]
              exact ⟨b8, rfl, W7.trans g2.W, C8, Or.inl ⟨rfl, k8⟩⟩
        · rw [r5, if_pos rfl, if_pos rfl]
          exact ⟨b5, rfl, W4.trans F5.W, C1.trans (CW.fr fr5), Or.inl ⟨rfl, k5⟩⟩
    · rw [r3, if_pos rfl, if_pos rfl]
      exact ⟨b3, rfl, W2.trans F3.W, C1.trans (CW.fr fr3), Or.inl ⟨rfl, k3⟩⟩
theorem part_is {T : Nat → Int32} {L n : Nat} {a b : HP} {u w r m c : Nat} (hu : u = 79 ∨ u = 96) (k : RD T L n a b) (S : TSt a b u w r m c) : ∃ b', f_X12_townPart b = some ((partF a u).1, b') ∧ FW b b' ∧ CW u a (partF a u).2 ∧ (((partF a u).1 = 0 ∧ FT (partF a u).2 b') ∨ ((partF a u).1 = 1 ∧ RD T L n (partF a u).2 b' ∧ ∃ m' c', m' ≤ 4 ∧ c' ≤ 6 ∧ m' + c' = m + c + 1 ∧ TSt (partF a u).2 b' u w r m' c')) := by
  have hm := S.2.1.1.1
  have hc := S.2.1.2.1.1
  unfold f_X12_townPart partF
  obtain ⟨rr, e1, e2, _⟩ := k.isW
  have q3 : (kA a = 4 ∧ vA a = 3) ↔ rr = 2 := e2 3 (by decide)
  have q6 : (kA a = 4 ∧ vA a = 6) ↔ rr = 3 := e2 6 (by decide)
  rw [e1, bd2_s]
  by_cases z3 : kA a = 4 ∧ vA a = 3
  · rw [if_pos (q3.mp z3), if_pos z3, q3.mp z3]
    obtain ⟨b', g1, g2, g3, g4⟩ := rule_is hu k S
    refine ⟨b', g1, g2, g3, ?_⟩
    rcases g4 with g4 | ⟨g4, g5, g6, g7⟩
    · exact Or.inl g4
    · exact Or.inr ⟨g4, g5, m + 1, c, by omega, hc, by omega, g7⟩
  · rw [if_neg (fun y => z3 (q3.mpr y)), if_neg z3]
    by_cases z6 : kA a = 4 ∧ vA a = 6
    · rw [if_pos (q6.mp z6), if_pos z6, q6.mp z6]
      obtain ⟨b', g1, g2, g3, g4⟩ := cit_is hu k S
      refine ⟨b', g1, g2, g3, ?_⟩
      rcases g4 with g4 | ⟨g4, g5, g6, g7⟩
      · exact Or.inl g4
      · exact Or.inr ⟨g4, g5, m, c + 1, hm, by omega, by omega, g7⟩
    · rw [if_neg (fun y => z6 (q6.mpr y)), if_neg z6]
      obtain ⟨b', g1, g2, g3⟩ := k.fail (w := 2) (by decide) (by decide)
      rw [show f_X12_fails b 2 = some (0, b') from g1, bd2_s, gdv_t (Or.inl rfl)]
      exact ⟨b', rfl, g2.W, CW.fr (failF_fr a 2), Or.inl ⟨rfl, g3⟩⟩
theorem parts_is {T : Nat → Int32} {L n : Nat} {u w r : Nat} (hu : u = 79 ∨ u = 96) : ∀ f F a b m c, m + c + f = 11 → f < F → m ≤ 4 → c ≤ 6 → RD T L n a b → TSt a b u w r m c → ∃ b', f_X12_town_72 F 1 b = f_X12_town_91 b' ∧ FW b b' ∧ CW u a (partsG f a u).2 ∧ (((partsG f a u).1 = 0 ∧ FT (partsG f a u).2 b') ∨ ((partsG f a u).1 = 1 ∧ RD T L n (partsG f a u).2 b' ∧ ∃ m' c', TSt (partsG f a u).2 b' u w r m' c'))
  | f, 0, a, b, m, c, _, hF, _, _, _, _ => absurd hF (by omega)
  | 0, F + 1, a, b, m, c, h11, _, hm, hc, _, _ => absurd h11 (by omega)
  | f + 1, F + 1, a, b, m, c, h11, hF, hm, hc, k, S => by
    unfold f_X12_town_72 partsG
    rw [if_neg (show ¬ (1 : Int32) = 0 by decide)]
    by_cases h1 : kA a = 1
    · rw [if_pos (k.fin.mp h1), if_pos h1]
      exact ⟨b, rfl, FW.refl b, CW.refl u a, Or.inr ⟨rfl, k, m, c, S⟩⟩
    · rw [if_neg (fun z => h1 (k.fin.mpr z)), if_neg h1]
      obtain ⟨b1, g1, g2, g3, g4⟩ := part_is hu k S
      rw [g1, bd2_s]
      rcases g4 with ⟨p1, p2⟩ | ⟨p1, p2, m', c', hm', hc', hmc, p3⟩
      · rw [p1, if_pos rfl, t72_0 (by omega)]
        exact ⟨b1, rfl, g2, g3, Or.inl ⟨rfl, p2⟩⟩
      · rw [p1, if_neg (show ¬ (1 : Int32) = 0 by decide)]
        obtain ⟨b2, m1, m2, m3, m4⟩ := parts_is hu f F (partF a u).2 b1 m' c' (by omega) (by omega) hm' hc' p2 p3
        exact ⟨b2, m1, g2.trans m2, g3.trans m3, m4⟩
