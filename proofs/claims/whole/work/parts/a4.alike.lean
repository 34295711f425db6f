/-! ===== year: a test; any order ===== -/
theorem lit_o {T : Nat → Int32} {L n : Nat} {a b : HP} (k : RD T L n a b) {c y e x : Nat} (hc : c < 2 ^ 31) (va : vA a = nI c) (vb : hI b 113 15 = nI c) (hy : 13 ≤ y) (hx : 1640 ≤ x) (hx2 : x + 5 < 2460) : ∃ b', f_X12_test_89 (nI x) b = some ((litTestF a y e).1, b') ∧ OA T L n y e x (litTestF a y e) a b b' (∃ q, q ≤ 30 ∧ hI (litTestF a y e).2 (y + 2) e = nI c ∧ hI b' 114 (x + 5) = nI c ∧ hI (litTestF a y e).2 (y + 3) e = nI q ∧ hI b' 114 (x + 1) = nI q ∧ ∀ j, j ≠ x + 1 → j ≠ x + 5 → hI b' 114 j = hI b 114 j) ∧ ∀ d, d ≠ 5 → d ≠ y + 2 → d ≠ y + 3 → hI (litTestF a y e).2 d = hI a d := by
  unfold litTestF f_X12_test_89
  rw [show hI a 11 (tA a) = nI c from va, vb, show nI x + 5 = nI (x + 5) from nI_add x 5, gdi_nI (by omega) (by decide), nI_clamp (by omega), ltv_e]
  have k1 : RD T L n (uI a (y + 2) e (nI c)) (uI b 114 (x + 5) (nI c)) := k.keep (hI_uI_n' (by omega)) (fun c hc => hI_uI_n' (by omega)) rfl (hI_uI_n' (by decide)) (hI_uI_n' (by decide))
  obtain ⟨b1, e1, F1, k2⟩ := k1.adv
  rw [e1, bd1_s]
  have C2 : CE y e a (advF (uI a (y + 2) e (nI c))) := ((CE.refl y e a).u _ (by omega) (by omega)).trans (CE.fr (advF_fr _))
  have X2 : XE x b b1 := ((XE.refl x b).u _ (by omega) hx).trans F1.X
  have y2 : hI (advF (uI a (y + 2) e (nI c))) (y + 2) e = nI c := by rw [(advF_fr _).I (by omega), hI_uI_s]
  have o2 : ∀ d, d ≠ 5 → d ≠ y + 2 → hI (advF (uI a (y + 2) e (nI c))) d = hI a d := fun d h1 h2 => by rw [(advF_fr _).I h1, hI_uI_n' h2]
  generalize advF (uI a (y + 2) e (nI c)) = a2 at k2 C2 y2 o2 ⊢
  obtain ⟨b2, e2, ⟨q1, q2, q3, q4⟩, q5⟩ := first_o k2 (y := y) (e := e) (x := x) (lo := 0) (hi := 30) hy hx hx2 (by decide) (by decide)
  have e2 : f_X12_number b1 (nI (x + 1)) 0 30 = some ((firstF a2 y e 0 30).1, b2) := e2
  have q1 : is01 (firstF a2 y e 0 30).1 := q1
  rw [nI_1, e2, bd2_s, gdv_t q1]
  refine ⟨b2, rfl, ⟨q1, C2.trans q2, X2.trans q3, ?_⟩, fun d h1 h2 h3 => (q5 d h1 h3).trans (o2 d h1 h2)⟩
  rcases q4 with q4 | ⟨r1, k3, v, _, v2, v3, v4, v5⟩
  · exact Or.inl q4
  · refine Or.inr ⟨r1, k3, v, v2, ?_, ?_, v3, v4, fun j h1 h2 => ?_⟩
    · exact (congrFun (q5 (y + 2) (by omega) (by omega)) e).trans y2
    · rw [v5 _ (by omega), F1.I (by decide), hI_uI_s]
    · rw [v5 _ h1, F1.I (by decide), hI_uI_n (by omega)]
/-- what a YEAR's test says, the class's beside the reference's -/
def TD (a b : HP) (y x w r e : Nat) : Prop :=
  (hI a (y + 2) e = 18 ∧ hI b 114 x = 1521) ∨
  (hI a (y + 2) e = 17 ∧ hI b 114 x = 1520 ∧ ∃ p q, p < w ∧ q < r ∧ hI a (y + 3) e = nI p ∧ hI b 114 (x + 1) = nI p ∧ hI a (y + 4) e = nI q ∧ hI b 114 (x + 2) = nI q) ∨
  (hI b 114 x = 1519 ∧ hI a (y + 2) e = hI b 114 (x + 5) ∧ (hI b 114 (x + 5) = 60 ∨ hI b 114 (x + 5) = 61 ∨ hI b 114 (x + 5) = 62) ∧ ∃ q, q ≤ 30 ∧ hI a (y + 3) e = nI q ∧ hI b 114 (x + 1) = nI q)
theorem test_o {T : Nat → Int32} {L n : Nat} {a b : HP} (k : RD T L n a b) {t w r m y e x : Nat} (W : TWN a b t w r m) (hty : t + 1 < y ∨ y + 5 < t) (ht5 : 6 ≤ t) (hy : 13 ≤ y) (hx : 1640 ≤ x) (hx2 : x + 5 < 2460) : ∃ b', f_X12_test b (nI x) = some ((testF a t y e).1, b') ∧ OA T L n y e x (testF a t y e) a b b' (TD (testF a t y e).2 b' y x w r e) ∧ ∀ d, d ≠ 5 → d ≠ y + 2 → d ≠ y + 3 → d ≠ y + 4 → hI (testF a t y e).2 d = hI a d := by
  obtain ⟨rr, e1, e2, e3, _⟩ := k.isW
  have p18 : (kA a = 4 ∧ vA a = 18) ↔ rr = nI 21 := e2 18 (by decide)
  have p17 : (kA a = 4 ∧ vA a = 17) ↔ rr = nI 20 := e2 17 (by decide)
  have p16 : (kA a = 4 ∧ vA a = 16) ↔ rr = nI 19 := e2 16 (by decide)
  unfold f_X12_test testF
  rw [e1, bd2_s]
  have stay : ∀ v : Int32, RD T L n a (uI b 114 x v) := fun v => k.keep rfl (fun _ _ => rfl) rfl (hI_uI_n' (by decide)) (hI_uI_n' (by decide))
  by_cases h18 : kA a = 4 ∧ vA a = 18
  · rw [if_pos h18, p18.mp h18, if_pos (show (19 : Int32) ≤ nI 21 by decide), gdi_nI (by omega) (by decide), nI_clamp (by omega), ltv_e]
    have k1 : RD T L n (uI a (y + 2) e 18) (uI b 114 x (1500 + nI 21)) := (stay _).keep (hI_uI_n' (by omega)) (fun c hc => hI_uI_n' (by omega)) rfl rfl rfl
    obtain ⟨b1, g1, g2, g3⟩ := k1.adv
    rw [g1, bd1_s, if_pos (show nI 21 = 21 from rfl)]
    refine ⟨b1, rfl, ⟨Or.inr rfl, ((CE.refl y e a).u _ (by omega) (by omega)).trans (CE.fr (advF_fr _)), ((XE.refl x b).u _ (by omega) hx).trans g2.X, Or.inr ⟨rfl, g3, Or.inl ⟨?_, ?_⟩⟩⟩, fun d h1 h2 _ _ => ?_⟩
    · rw [(advF_fr _).I (by omega), hI_uI_s]
    · rw [g2.I (by decide), hI_uI_s]; rfl
    · rw [(advF_fr _).I h1, hI_uI_n' h2]
  · rw [if_neg h18]
    by_cases h17 : kA a = 4 ∧ vA a = 17
    · rw [if_pos h17, p17.mp h17, if_pos (show (19 : Int32) ≤ nI 20 by decide), gdi_nI (by omega) (by decide), nI_clamp (by omega), ltv_e]
      have k1 : RD T L n (uI a (y + 2) e 17) (uI b 114 x (1500 + nI 20)) := (stay _).keep (hI_uI_n' (by omega)) (fun c hc => hI_uI_n' (by omega)) rfl rfl rfl
      obtain ⟨b1, g1, g2, g3⟩ := k1.adv
      have C2 : CE y e a (advF (uI a (y + 2) e 17)) := ((CE.refl y e a).u _ (by omega) (by omega)).trans (CE.fr (advF_fr _))
      have y2 : hI (advF (uI a (y + 2) e 17)) (y + 2) e = 17 := by rw [(advF_fr _).I (by omega), hI_uI_s]
      have o2 : ∀ d, d ≠ 5 → d ≠ y + 2 → hI (advF (uI a (y + 2) e 17)) d = hI a d := fun d h1 h2 => by rw [(advF_fr _).I h1, hI_uI_n' h2]
      have X2 : XE x b b1 := ((XE.refl x b).u _ (by omega) hx).trans g2.X
      have bx : hI b1 114 x = 1520 := by rw [g2.I (by decide), hI_uI_s]; rfl
      have W2 : TWN (advF (uI a (y + 2) e 17)) b1 t w r m := by
        obtain ⟨⟨h1, h2, h3, h4⟩, ⟨h5, h6, h7, h8⟩, ⟨h9, h10, h11⟩, h12, h13⟩ := W
        unfold TWN
        rw [o2 t (by omega) (by omega), o2 (t + 1) (by omega) (by omega), C2.2.2.1, X2.1.2.2.2.2.2.1 0 (by decide), X2.1.2.2.2.2.2.1 1 (by decide), X2.1.2.2.2.2.2.1 5 (by decide)]
        exact ⟨⟨h1, h2, h3, h4⟩, ⟨h5, h6, h7, h8⟩, ⟨h9, h10, h11⟩, h12, fun i hi => by rw [X2.2.1]; exact h13 i hi⟩
      rw [g1, bd1_s, if_neg (show ¬ nI 20 = 21 by decide), if_pos (show nI 20 = 20 from rfl), nI_1]
      generalize advF (uI a (y + 2) e 17) = a2 at g3 C2 y2 o2 W2 ⊢
      obtain ⟨b2, m1, ⟨q1, q2, q3, q4⟩, q5⟩ := place_o g3 (e := e) (x := x) W2 hty ht5 hy hx hx2
      rw [m1, bd2_s, gdv_t q1]
      refine ⟨b2, rfl, ⟨q1, C2.trans q2, X2.trans q3, ?_⟩, fun d h1 h2 h3 h4 => (q5 d h1 h3 h4).trans (o2 d h1 h2)⟩
      rcases q4 with q4 | ⟨r1, k3, p, q, z1, z2, z3, z4, z5, z6, z7⟩
      · exact Or.inl q4
      · exact Or.inr ⟨r1, k3, Or.inr (Or.inl ⟨(congrFun (q5 (y + 2) (by omega) (by omega) (by omega)) e).trans y2, (z7 x (by omega) (by omega)).trans bx, p, q, z1, z2, z3, z4, z5, z6⟩)⟩
    · rw [if_neg h17]
      by_cases h16 : kA a = 4 ∧ vA a = 16
      · have tk : takeK 4 a 16 = (1, advF a) := by unfold takeK; rw [if_pos h16]
        rw [tk, if_neg (show ¬ ((1 : Int32), advF a).1 = 0 from (show ¬ (1 : Int32) = 0 by decide)), p16.mp h16, if_pos (show (19 : Int32) ≤ nI 19 by decide), gdi_nI (by omega) (by decide), nI_clamp (by omega), ltv_e]
        obtain ⟨b1, g1, g2, g3⟩ := (stay (1500 + nI 19)).adv
        have X2 : XE x b b1 := ((XE.refl x b).u _ (by omega) hx).trans g2.X
        have bx : hI b1 114 x = 1519 := by rw [g2.I (by decide), hI_uI_s]; rfl
        rw [g1, bd1_s, if_neg (show ¬ nI 19 = 21 by decide), if_neg (show ¬ nI 19 = 20 by decide), show ((1 : Int32), advF a).2 = advF a from rfl]
        have C2 : CE y e a (advF a) := CE.fr (advF_fr a)
        have o2 : ∀ d, d ≠ 5 → hI (advF a) d = hI a d := fun d h1 => (advF_fr a).I h1
        generalize advF a = a2 at g3 C2 o2 ⊢
        have lit : ∀ c, (c = 60 ∨ c = 61 ∨ c = 62) → kA a2 = 3 ∧ vA a2 = nI c → ∃ b', f_X12_test_89 (nI x) b1 = some ((litTestF a2 y e).1, b') ∧ is01 (litTestF a2 y e).1 ∧ OA T L n y e x (litTestF a2 y e) a b b' (TD (litTestF a2 y e).2 b' y x w r e) ∧ ∀ d, d ≠ 5 → d ≠ y + 2 → d ≠ y + 3 → d ≠ y + 4 → hI (litTestF a2 y e).2 d = hI a d := by
          intro c hc h
          have hb := (g3.sign c (by omega)).mp h
          obtain ⟨b2, m1, ⟨q1, q2, q3, q4⟩, q5⟩ := lit_o g3 (c := c) (e := e) (x := x) (by omega) h.2 hb.2 hy hx hx2
          refine ⟨b2, m1, q1, ⟨q1, C2.trans q2, X2.trans q3, ?_⟩, fun d h1 h2 h3 _ => (q5 d h1 h2 h3).trans (o2 d h1)⟩
          rcases q4 with q4 | ⟨r1, k3, q, z1, z2, z3, z4, z5, z6⟩
          · exact Or.inl q4
          · refine Or.inr ⟨r1, k3, Or.inr (Or.inr ⟨(z6 x (by omega) (by omega)).trans bx, z2.trans z3.symm, ?_, q, z1, z4, z5⟩)⟩
            rw [z3]; rcases hc with rfl | rfl | rfl
            · exact Or.inl rfl
            · exact Or.inr (Or.inl rfl)
            · exact Or.inr (Or.inr rfl)
        rw [show f_X12_isSign b1 60 = _ from g3.isSign 60 (by decide), bd2_s]
        unfold cIf
        by_cases s1 : kA a2 = 3 ∧ vA a2 = 60
        · rw [if_pos (show kA a2 = 3 ∧ vA a2 = nI 60 from s1), if_neg (show ¬ (1 : Int32) = 0 by decide), if_pos s1]
          obtain ⟨b', m1, _, m3⟩ := lit 60 (Or.inl rfl) s1
          exact ⟨b', m1, m3⟩
        · rw [if_neg (show ¬ (kA a2 = 3 ∧ vA a2 = nI 60) from s1), if_pos rfl, if_neg s1, show f_X12_isSign b1 62 = _ from g3.isSign 62 (by decide), bd2_s]
          unfold cIf
          by_cases s2 : kA a2 = 3 ∧ vA a2 = 62
          · rw [if_pos (show kA a2 = 3 ∧ vA a2 = nI 62 from s2), if_neg (show ¬ (1 : Int32) = 0 by decide), if_pos s2]
            obtain ⟨b', m1, _, m3⟩ := lit 62 (Or.inr (Or.inr rfl)) s2
            exact ⟨b', m1, m3⟩
          · rw [if_neg (show ¬ (kA a2 = 3 ∧ vA a2 = nI 62) from s2), if_pos rfl, if_neg s2, show f_X12_isSign b1 61 = _ from g3.isSign 61 (by decide), bd2_s]
            unfold cIf
            by_cases s3 : kA a2 = 3 ∧ vA a2 = 61
            · rw [if_pos (show kA a2 = 3 ∧ vA a2 = nI 61 from s3), if_neg (show ¬ (1 : Int32) = 0 by decide), if_pos s3]
              obtain ⟨b', m1, _, m3⟩ := lit 61 (Or.inr (Or.inl rfl)) s3
              exact ⟨b', m1, m3⟩
            · rw [if_neg (show ¬ (kA a2 = 3 ∧ vA a2 = nI 61) from s3), if_pos rfl, if_neg s3]
              obtain ⟨b', m1, m2, m3⟩ := g3.fail (w := 2) (by decide) (by decide)
              rw [show f_X12_fails b1 2 = some (0, b') from m1, bd2_s, gdv_t (Or.inl rfl)]
              exact ⟨b', rfl, ⟨Or.inl rfl, C2.trans (CE.fr (failF_fr a2 2)), X2.trans m2.X, Or.inl ⟨rfl, m3⟩⟩, fun d h1 _ _ _ => ((failF_fr a2 2).I h1).trans (o2 d h1)⟩
      · have tk : takeK 4 a 16 = (0, failF a 2) := by unfold takeK; rw [if_neg h16]
        have lt : ¬ (19 : Int32) ≤ rr := by
          rcases e3 with z | ⟨j, hj, z⟩
          · rw [z]; decide
          · rw [z]
            intro y
            have pj := pm_rw j hj
            have y2 := (nI_leI (a := 19) (by omega) (by omega)).mp y
            rcases (show rwK j = 19 ∨ rwK j = 20 ∨ rwK j = 21 by omega) with q | q | q
            · exact h16 (p16.mpr (by rw [z, q]))
            · exact h17 (p17.mpr (by rw [z, q]))
            · exact h18 (p18.mpr (by rw [z, q]))
        rw [tk, if_pos (show ((0 : Int32), failF a 2).1 = 0 from rfl), if_neg lt]
        obtain ⟨b', m1, m2, m3⟩ := k.fail (w := 2) (by decide) (by decide)
        rw [show f_X12_fails b 2 = some (0, b') from m1, bd2_s, gdv_t (Or.inl rfl)]
        exact ⟨b', rfl, ⟨Or.inl rfl, CE.fr (failF_fr a 2), m2.X, Or.inl ⟨rfl, m3⟩⟩, fun d h1 _ _ _ => (failF_fr a 2).I h1⟩
