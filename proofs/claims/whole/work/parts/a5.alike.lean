/-! ===== year: any order ===== -/
/-- an entry's order, the class's beside the reference's (x: where the reference has it) -/
def OD (a b : HP) (y x w r m e : Nat) : Prop :=
  (hI a (y + 1) e = 9 ∧ hI b 114 x = 9 ∧ ∃ f, 1 ≤ f ∧ f ≤ 99 ∧ hI a (y + 3) e = nI f ∧ hI b 114 (x + 1) = nI f) ∨
  (hI a (y + 1) e = 10 ∧ hI b 114 x = 10 ∧ ∃ p q, p < w ∧ q < r ∧ hI a (y + 3) e = nI p ∧ hI b 114 (x + 1) = nI p ∧ hI a (y + 4) e = nI q ∧ hI b 114 (x + 2) = nI q) ∨
  (hI a (y + 1) e = 11 ∧ hI b 114 x = 11 ∧ ∃ q, q < m ∧ hI a (y + 3) e = nI q ∧ hI b 114 (x + 1) = nI q) ∨
  (hI a (y + 1) e = 12 ∧ hI b 114 x = 12) ∨
  (hI a (y + 1) e = 13 ∧ hI b 114 x = 13 ∧ ∃ q, q ≤ 16 ∧ hI a (y + 3) e = nI q ∧ hI b 114 (x + 1) = nI q) ∨
  (hI a (y + 1) e = 14 ∧ hI b 114 x = 14) ∨
  (hI a (y + 1) e = 15 ∧ TD a b y x w r e) ∨
  (hI a (y + 1) e = 19 ∧ hI b 114 x = 16 ∧ ∃ f, 1 ≤ f ∧ f ≤ 99 ∧ hI a (y + 3) e = nI f ∧ hI b 114 (x + 1) = nI f) ∨
  (hI a (y + 1) e = 21 ∧ hI b 114 x = 18)
def isOW (wd : Nat) : Prop := (9 ≤ wd ∧ wd ≤ 15) ∨ wd = 19 ∨ wd = 21
theorem order_is {T : Nat → Int32} {L n : Nat} {a b : HP} (k : RD T L n a b) (ly : Lay a) {t w r m y e x wd : Nat} (W : TWN a b t w r m) (hty : t + 1 < y ∨ y + 5 < t) (ht5 : 6 ≤ t) (hy : 13 ≤ y) (hx : 1640 ≤ x) (hx2 : x + 5 < 2460) (he : e < 60) (hw : isOW wd) (ha : hI a (y + 1) e = nI wd) (hb : hI b 114 x = nI (rwK wd)) :
    ∃ R b', f_X10_takeRest a t y (nI e) = some (R.1, R.2) ∧ f_X12_yearOrder b (nI (rwK wd)) (nI x) = some (R.1, b') ∧ OA T L n y e x R a b b' (OD R.2 b' y x w r m e) := by
  have rk := k.rk ly
  have tp := W.tp.1
  unfold f_X10_takeRest f_X12_yearOrder
  rw [gdi_nI he (by decide), nI_clamp (by omega), ltv_e, ha, nI_1]
  have none0 : RD T L n a b → (OD a b y x w r m e) → OA T L n y e x ((1 : Int32), a) a b b (OD a b y x w r m e) := fun k d => ⟨Or.inr rfl, CE.refl y e a, XE.refl x b, Or.inr ⟨rfl, k, d⟩⟩
  rcases (show wd = 9 ∨ wd = 10 ∨ wd = 11 ∨ wd = 12 ∨ wd = 13 ∨ wd = 14 ∨ wd = 15 ∨ wd = 19 ∨ wd = 21 by unfold isOW at hw; omega) with h | h | h | h | h | h | h | h | h
  · subst h
    rw [if_pos (show nI 9 = 9 from rfl), if_pos (show nI (rwK 9) = 9 from rfl)]
    obtain ⟨b', e1, ⟨q1, q2, q3, q4⟩, q5⟩ := first_o k (y := y) (e := e) (x := x) (lo := 1) (hi := 99) hy hx hx2 (by decide) (by decide)
    have e1 : f_X12_number b (nI (x + 1)) 1 99 = some ((firstF a y e 1 99).1, b') := e1
    have q1 : is01 (firstF a y e 1 99).1 := q1
    refine ⟨firstF a y e 1 99, b', ?_, ?_, q1, q2, q3, ?_⟩
    · unfold f_X10_takeFirst
      rw [gdc_t rk, gdi_nI he (by decide), nI_clamp (by omega), bd2_s, gdv_t q1]
    · rw [e1, bd2_s, gdv_t q1]
    · rcases q4 with q4 | ⟨r1, k3, v, v1, v2, v3, v4, v5⟩
      · exact Or.inl q4
      · exact Or.inr ⟨r1, k3, Or.inl ⟨(congrFun (q5 (y + 1) (by omega) (by omega)) e).trans ha, (v5 x (by omega)).trans hb, v, v1, v2, v3, v4⟩⟩
  · subst h
    rw [if_neg (show ¬ nI 10 = 9 by decide), if_pos (show nI 10 = 10 from rfl), if_neg (show ¬ nI (rwK 10) = 9 by decide), if_pos (show nI (rwK 10) = 10 from rfl)]
    obtain ⟨b', e1, ⟨q1, q2, q3, q4⟩, q5⟩ := place_o k (e := e) (x := x) W hty ht5 hy hx hx2
    refine ⟨placeYF a t y e, b', ?_, ?_, q1, q2, q3, ?_⟩
    · unfold f_X10_takePlace
      rw [gdc_t rk, gdi_nI he (by decide), nI_clamp (by omega), bd2_s, gdv_t q1]
    · rw [e1, bd2_s, gdv_t q1]
    · rcases q4 with q4 | ⟨r1, k3, p, q, z1, z2, z3, z4, z5, z6, z7⟩
      · exact Or.inl q4
      · exact Or.inr ⟨r1, k3, Or.inr (Or.inl ⟨(congrFun (q5 (y + 1) (by omega) (by omega) (by omega)) e).trans ha, (z7 x (by omega) (by omega)).trans hb, p, q, z1, z2, z3, z4, z5, z6⟩)⟩
  · subst h
    rw [if_neg (show ¬ nI 11 = 9 by decide), if_neg (show ¬ nI 11 = 10 by decide), if_pos (show nI 11 = 11 from rfl), if_neg (show ¬ nI (rwK 11) = 9 by decide), if_neg (show ¬ nI (rwK 11) = 10 by decide), if_pos (show nI (rwK 11) = 11 from rfl)]
    obtain ⟨b', e1, ⟨q1, q2, q3, q4⟩, q5⟩ := rule_o k (y := y) (e := e) (x := x) W hy hx hx2
    refine ⟨ruleNameF a t y e, b', ?_, ?_, q1, q2, q3, ?_⟩
    · unfold f_X10_takeRuleName
      rw [gdc_t rk, gdi_nI he (by decide), gdc_t tp, nI_clamp (by omega), bd2_s, gdv_t q1]
    · rw [e1, bd2_s, gdv_t q1]
    · rcases q4 with q4 | ⟨r1, k3, q, z1, z2, z3, z4⟩
      · exact Or.inl q4
      · exact Or.inr ⟨r1, k3, Or.inr (Or.inr (Or.inl ⟨(congrFun (q5 (y + 1) (by omega) (by omega)) e).trans ha, (z4 x (by omega)).trans hb, q, z1, z2, z3⟩))⟩
  · subst h
    exact ⟨(1, a), b, rfl, rfl, none0 k (Or.inr (Or.inr (Or.inr (Or.inl ⟨ha, hb⟩))))⟩
  · subst h
    rw [if_neg (show ¬ nI 13 = 9 by decide), if_neg (show ¬ nI 13 = 10 by decide), if_neg (show ¬ nI 13 = 11 by decide), if_neg (show ¬ nI 13 = 12 by decide), if_pos (show nI 13 = 13 from rfl), if_neg (show ¬ nI (rwK 13) = 9 by decide), if_neg (show ¬ nI (rwK 13) = 10 by decide), if_neg (show ¬ nI (rwK 13) = 11 by decide), if_neg (show ¬ nI (rwK 13) = 12 by decide), if_pos (show nI (rwK 13) = 13 from rfl)]
    obtain ⟨b', e1, ⟨q1, q2, q3, q4⟩, q5⟩ := first_o k (y := y) (e := e) (x := x) (lo := 0) (hi := 16) hy hx hx2 (by decide) (by decide)
    have e1 : f_X12_number b (nI (x + 1)) 0 16 = some ((firstF a y e 0 16).1, b') := e1
    have q1 : is01 (firstF a y e 0 16).1 := q1
    refine ⟨firstF a y e 0 16, b', ?_, ?_, q1, q2, q3, ?_⟩
    · unfold f_X10_takeFirst
      rw [gdc_t rk, gdi_nI he (by decide), nI_clamp (by omega), bd2_s, gdv_t q1]
    · rw [e1, bd2_s, gdv_t q1]
    · rcases q4 with q4 | ⟨r1, k3, v, v1, v2, v3, v4, v5⟩
      · exact Or.inl q4
      · exact Or.inr ⟨r1, k3, Or.inr (Or.inr (Or.inr (Or.inr (Or.inl ⟨(congrFun (q5 (y + 1) (by omega) (by omega)) e).trans ha, (v5 x (by omega)).trans hb, v, v2, v3, v4⟩))))⟩
  · subst h
    exact ⟨(1, a), b, rfl, rfl, none0 k (Or.inr (Or.inr (Or.inr (Or.inr (Or.inr (Or.inl ⟨ha, hb⟩))))))⟩
  · subst h
    rw [if_neg (show ¬ nI 15 = 9 by decide), if_neg (show ¬ nI 15 = 10 by decide), if_neg (show ¬ nI 15 = 11 by decide), if_neg (show ¬ nI 15 = 12 by decide), if_neg (show ¬ nI 15 = 13 by decide), if_neg (show ¬ nI 15 = 14 by decide), if_pos (show nI 15 = 15 from rfl), if_neg (show ¬ nI (rwK 15) = 9 by decide), if_neg (show ¬ nI (rwK 15) = 10 by decide), if_neg (show ¬ nI (rwK 15) = 11 by decide), if_neg (show ¬ nI (rwK 15) = 12 by decide), if_neg (show ¬ nI (rwK 15) = 13 by decide), if_neg (show ¬ nI (rwK 15) = 14 by decide), if_pos (show nI (rwK 15) = 15 from rfl)]
    obtain ⟨b', e1, ⟨q1, q2, q3, q4⟩, q5⟩ := test_o k (e := e) (x := x) W hty ht5 hy hx hx2
    refine ⟨testF a t y e, b', ?_, ?_, q1, q2, q3, ?_⟩
    · unfold f_X10_takeTest
      rw [gdc_t rk, gdi_nI he (by decide), nI_clamp (by omega), bd2_s, gdv_t q1]
    · rw [e1, bd2_s, gdv_t q1]
    · rcases q4 with q4 | ⟨r1, k3, z⟩
      · exact Or.inl q4
      · exact Or.inr ⟨r1, k3, Or.inr (Or.inr (Or.inr (Or.inr (Or.inr (Or.inr (Or.inl ⟨(congrFun (q5 (y + 1) (by omega) (by omega) (by omega) (by omega)) e).trans ha, z⟩))))))⟩
  · subst h
    rw [if_neg (show ¬ nI 19 = 9 by decide), if_neg (show ¬ nI 19 = 10 by decide), if_neg (show ¬ nI 19 = 11 by decide), if_neg (show ¬ nI 19 = 12 by decide), if_neg (show ¬ nI 19 = 13 by decide), if_neg (show ¬ nI 19 = 14 by decide), if_neg (show ¬ nI 19 = 15 by decide), if_neg (show ¬ nI 19 = 16 by decide), if_neg (show ¬ nI 19 = 17 by decide), if_neg (show ¬ nI 19 = 18 by decide), if_pos (show nI 19 = 19 from rfl), if_neg (show ¬ nI (rwK 19) = 9 by decide), if_neg (show ¬ nI (rwK 19) = 10 by decide), if_neg (show ¬ nI (rwK 19) = 11 by decide), if_neg (show ¬ nI (rwK 19) = 12 by decide), if_neg (show ¬ nI (rwK 19) = 13 by decide), if_neg (show ¬ nI (rwK 19) = 14 by decide), if_neg (show ¬ nI (rwK 19) = 15 by decide), if_pos (show nI (rwK 19) = 16 from rfl)]
    obtain ⟨b', e1, ⟨q1, q2, q3, q4⟩, q5⟩ := first_o k (y := y) (e := e) (x := x) (lo := 1) (hi := 99) hy hx hx2 (by decide) (by decide)
    have e1 : f_X12_number b (nI (x + 1)) 1 99 = some ((firstF a y e 1 99).1, b') := e1
    have q1 : is01 (firstF a y e 1 99).1 := q1
    refine ⟨firstF a y e 1 99, b', ?_, ?_, q1, q2, q3, ?_⟩
    · unfold f_X10_takeFirst
      rw [gdc_t rk, gdi_nI he (by decide), nI_clamp (by omega), bd2_s, gdv_t q1]
    · rw [e1, bd2_s, gdv_t q1]
    · rcases q4 with q4 | ⟨r1, k3, v, v1, v2, v3, v4, v5⟩
      · exact Or.inl q4
      · exact Or.inr ⟨r1, k3, Or.inr (Or.inr (Or.inr (Or.inr (Or.inr (Or.inr (Or.inr (Or.inl ⟨(congrFun (q5 (y + 1) (by omega) (by omega)) e).trans ha, (v5 x (by omega)).trans hb, v, v1, v2, v3, v4⟩)))))))⟩
  · subst h
    exact ⟨(1, a), b, rfl, rfl, none0 k (Or.inr (Or.inr (Or.inr (Or.inr (Or.inr (Or.inr (Or.inr (Or.inr ⟨ha, hb⟩))))))))⟩
