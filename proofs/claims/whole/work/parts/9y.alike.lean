/-! ===== a rule of the new town ===== -/
def cb (v : Nat) : Nat := v % 2 + v / 2 % 2 + v / 4 % 2 + v / 8 % 2 + v / 16 % 2
theorem cb_is : ∀ v, v < 32 → cb v ≤ 5 ∧ ∀ j, j < 5 → (shr (nI v) (nI j) &&& 1 ≠ 0 ↔ ((nI v >>> (nI j &&& 31)) &&& 1 = 1)) ∧ (¬ ((nI v >>> (nI j &&& 31)) &&& 1 = 1) → ∃ v', v' < 32 ∧ cb v' = cb v + 1 ∧ nI v ||| shl 1 (nI j) = nI v' ∧ nI v ||| ((1 : Int32) <<< (nI j &&& 31)) = nI v') := by
  have q : ∀ v, v < 32 → cb v ≤ 5 ∧ ∀ j, j < 5 → (shr (nI v) (nI j) &&& 1 ≠ 0 ↔ ((nI v >>> (nI j &&& 31)) &&& 1 = 1)) ∧ (¬ ((nI v >>> (nI j &&& 31)) &&& 1 = 1) → v + 2 ^ j < 32 ∧ cb (v + 2 ^ j) = cb v + 1 ∧ nI v ||| shl 1 (nI j) = nI (v + 2 ^ j) ∧ nI v ||| ((1 : Int32) <<< (nI j &&& 31)) = nI (v + 2 ^ j)) := by decide +kernel
  exact fun v hv => ⟨(q v hv).1, fun j hj => ⟨((q v hv).2 j hj).1, fun z => ⟨_, ((q v hv).2 j hj).2 z⟩⟩⟩
def FP (p : Nat) (b b' : HP) : Prop := FW b b' ∧ hL b' = hL b ∧ ∀ j, j ≠ p → hI b' 114 j = hI b 114 j
theorem FP.refl (p : Nat) (b : HP) : FP p b b := ⟨FW.refl b, rfl, fun _ _ => rfl⟩
theorem FP.trans {p : Nat} {a b c : HP} (x : FP p a b) (y : FP p b c) : FP p a c := ⟨x.1.trans y.1, y.2.1.trans x.2.1, fun j h => (y.2.2 j h).trans (x.2.2 j h)⟩
theorem FB.P {b b' : HP} (p : Nat) (x : FB b b') : FP p b b' := ⟨x.W, x.L, fun j _ => congrFun (x.I (by decide)) j⟩
theorem FP.u {p : Nat} (b : HP) (v : Int32) (hp : 1640 ≤ p) : FP p b (uI b 114 p v) := ⟨(FW.refl b).u4 v hp, rfl, fun j h => hI_uI_n (by omega)⟩
theorem set14 {T : Nat → Int32} {L n p : Nat} (hp : 1640 ≤ p) (hp2 : p < 2460) : ∀ f k F a b v, k + f = 11 → f < F → RD T L n a b → hI b 114 p = nI v → v < 32 → cb v = k → (k = 0 → kA a = 2) →
    (∃ b', (setG f k a (nI v)).1 = -1 ∧ f_X12_neighbours_14 F (nI p) b = some (0, b') ∧ FP p b b' ∧ FT (setG f k a (nI v)).2 b' ∧ TkFr a (setG f k a (nI v)).2) ∨
    (∃ v' b', v' < 32 ∧ (setG f k a (nI v)).1 = nI v' ∧ f_X12_neighbours_14 F (nI p) b = some (1, b') ∧ FP p b b' ∧ hI b' 114 p = nI v' ∧ RD T L n (setG f k a (nI v)).2 b' ∧ TkFr a (setG f k a (nI v)).2)
  | f, k, 0, a, b, v, _, hF, _, _, _, _, _ => absurd hF (by omega)
  | 0, k, F + 1, a, b, v, h11, hF, R, ep, hv, hc, _ => absurd (cb_is v hv).1 (by omega)
  | f + 1, k, F + 1, a, b, v, h11, hF, R, ep, hv, hc, h0 => by
    have k5 := (cb_is v hv).1
    unfold f_X12_neighbours_14 setG
    rcases R.num with ⟨n1, n2, x, hx, n3, n4⟩ | ⟨n1, n2⟩
    · rw [if_pos n2, if_pos (show k = 0 ∨ (k < 10 ∧ kA a = 2) from Or.inr ⟨by omega, n1⟩), n4, n3]
      have e4 : nI x ≤ 4 ↔ x ≤ 4 := nI_leI (b := 4) (by omega) (by omega)
      by_cases h4 : x ≤ 4
      · have q := (cb_is v hv).2 x (by omega)
        rw [if_pos (e4.mpr h4), gdi_nI hp2 (by decide), nI_clamp (by omega), ep]
        by_cases d : (nI v >>> (nI x &&& 31)) &&& 1 = 1
        · left
          rw [if_pos d, if_pos (show kA a = 2 ∧ nI x ≤ 4 ∧ shr (nI v) (nI x) &&& 1 ≠ 0 from ⟨n1, e4.mpr h4, q.1.mpr d⟩)]
          obtain ⟨b', g1, g2, g3⟩ := R.fail (w := 5) (by decide) (by decide)
          rw [show f_X12_fails b 5 = some (0, b') from g1, bd2_s, gdv_t (Or.inl rfl)]
          exact ⟨b', rfl, rfl, g2.P p, g3, failF_fr a 5⟩
        · obtain ⟨v', v1, v2, v3, v4⟩ := q.2 d
          have tN : takeN a 0 4 = (1, advF (uI a 5 11 (nI x))) := by
            unfold takeN
            rw [if_pos n1, n3, if_pos ⟨(nI_leI (a := 0) (by omega) (by omega)).mpr (Nat.zero_le _), e4.mpr h4⟩]
          rw [if_neg d, if_neg (show ¬ (kA a = 2 ∧ nI x ≤ 4 ∧ shr (nI v) (nI x) &&& 1 ≠ 0) from fun z => d (q.1.mp z.2.2)), tN, if_neg (show ¬ (1 : Int32) = 0 by decide), gdi_nI hp2 (by decide), gdi_nI hp2 (by decide), ltv_e]
          have k2 : RD T L n (uI a 5 11 (nI x)) (uI b 114 p (nI v')) := (R.u11 (nI x)).keep rfl (fun _ _ => rfl) rfl (hI_uI_n' (by decide)) (hI_uI_n' (by decide))
          obtain ⟨b1, g1, g2, g3⟩ := k2.adv
          rw [v4, g1, bd1_s]
          have e11 : hI (advF (uI a 5 11 (nI x))) 5 11 = nI x := by rw [adv_5 _ (by decide), hI_uI_s]
          have fr : TkFr a (advF (uI a 5 11 (nI x))) := (fr_uI a (nI x) (by decide)).trans (advF_fr _)
          rw [show ((1 : Int32), advF (uI a 5 11 (nI x))).2 = advF (uI a 5 11 (nI x)) from rfl, e11, v3]
          have P1 : FP p b b1 := (FP.u b _ hp).trans (g2.P p)
          rcases set14 hp hp2 f (k + 1) F _ b1 v' (by omega) (by omega) g3 (by rw [g2.I (by decide), hI_uI_s]) v1 (by omega) (fun z => absurd z (by omega)) with ⟨b', m1, m2, m3, m4, m5⟩ | ⟨v2', b', m1, m2, m3, m4, m5, m6, m7⟩
          · exact Or.inl ⟨b', m1, m2, P1.trans m3, m4, fr.trans m5⟩
          · exact Or.inr ⟨v2', b', m1, m2, m3, P1.trans m4, m5, m6, fr.trans m7⟩
      · left
        have tN : takeN a 0 4 = (0, failF a 4) := by
          unfold takeN
          rw [if_pos n1, n3, if_neg (fun z => h4 (e4.mp z.2))]
        rw [if_neg (fun z => h4 (e4.mp z)), if_neg (show ¬ (kA a = 2 ∧ nI x ≤ 4 ∧ shr (nI v) (nI x) &&& 1 ≠ 0) from fun z => h4 (e4.mp z.2.1)), tN, if_pos rfl]
        obtain ⟨b', g1, g2, g3⟩ := R.fail (w := 4) (by decide) (by decide)
        rw [show f_X12_fails b 4 = some (0, b') from g1, bd2_s, gdv_t (Or.inl rfl)]
        exact ⟨b', rfl, rfl, g2.P p, g3, failF_fr a 4⟩
    · right
      rw [if_neg n2, if_neg (show ¬ (k = 0 ∨ (k < 10 ∧ kA a = 2)) from fun z => z.elim (fun y => n1 (h0 y)) (fun y => n1 y.2))]
      exact ⟨v, b, hv, rfl, rfl, FP.refl p b, ep, R, TkFr.refl a⟩
theorem neigh_is {T : Nat → Int32} {L n p : Nat} (hp : 1640 ≤ p) (hp2 : p < 2460) {a b : HP} (R : RD T L n a b) (ep : hI b 114 p = 0) :
    (∃ b', (setG 11 0 a 0).1 = -1 ∧ f_X12_neighbours b (nI p) = some (0, b') ∧ FP p b b' ∧ FT (setG 11 0 a 0).2 b' ∧ TkFr a (setG 11 0 a 0).2) ∨
    (∃ v' b', v' < 32 ∧ (setG 11 0 a 0).1 = nI v' ∧ f_X12_neighbours b (nI p) = some (1, b') ∧ FP p b b' ∧ hI b' 114 p = nI v' ∧ RD T L n (setG 11 0 a 0).2 b' ∧ TkFr a (setG 11 0 a 0).2) := by
  unfold f_X12_neighbours
  rcases R.num with ⟨n1, n2, _⟩ | ⟨n1, n2⟩
  · rw [if_pos n2]
    exact set14 hp hp2 11 0 FU a b 0 (by omega) (FU_gt (by omega)) R ep (by decide) rfl (fun _ => n1)
  · left
    rw [if_neg n2]
    have e : setG 11 0 a 0 = (-1, failF a 2) := by
      unfold setG
      have tN : takeN a 0 4 = (0, failF a 2) := by unfold takeN; rw [if_neg n1]
      rw [if_pos (Or.inl rfl), if_neg (fun z => n1 z.1), tN, if_pos rfl]
    obtain ⟨b', g1, g2, g3⟩ := R.fail (w := 2) (by decide) (by decide)
    rw [show f_X12_fails b 2 = some (0, b') from g1, bd2_s, gdv_t (Or.inl rfl), e]
    exact ⟨b', rfl, rfl, g2.P p, g3, failF_fr a 2⟩
/-- born or stays: the set, if it is named -/
theorem set_all {T : Nat → Int32} {L n p j : Nat} (hp : 1640 ≤ p) (hp2 : p < 2460) (hj : j < 22) {a b : HP} (R : RD T L n a b) (ep : hI b 114 p = 0) (K : HP → Option (Int32 × HP)) :
    (∃ b', (setF a (nI j)).1 = -1 ∧ (bd2 (f_X12_isThere b (nI (rwK j))) fun r16 h15 => if r16 = (0 : Int32) then K h15 else bd2 (f_X12_neighbours h15 (nI p)) fun r20 h19 => if r20 = (0 : Int32) then some (0, h19) else K h19) = some (0, b') ∧ FP p b b' ∧ FT (setF a (nI j)).2 b' ∧ TkFr a (setF a (nI j)).2) ∨
    (∃ v' b', v' < 32 ∧ (setF a (nI j)).1 = nI v' ∧ (bd2 (f_X12_isThere b (nI (rwK j))) fun r16 h15 => if r16 = (0 : Int32) then K h15 else bd2 (f_X12_neighbours h15 (nI p)) fun r20 h19 => if r20 = (0 : Int32) then some (0, h19) else K h19) = K b' ∧ FP p b b' ∧ hI b' 114 p = nI v' ∧ RD T L n (setF a (nI j)).2 b' ∧ TkFr a (setF a (nI j)).2) := by
  unfold setF
  rcases R.there hj with ⟨h, b1, e1, F1, k1⟩ | ⟨h, e1⟩
  · rw [if_pos h, e1, bd2_s, if_neg (show ¬ (1 : Int32) = 0 by decide)]
    rcases neigh_is hp hp2 k1 (by rw [F1.I (by decide)]; exact ep) with ⟨b', m1, m2, m3, m4, m5⟩ | ⟨v2', b', m1, m2, m3, m4, m5, m6, m7⟩
    · left
      rw [m2, bd2_s, if_pos rfl]
      exact ⟨b', m1, rfl, (F1.P p).trans m3, m4, (advF_fr a).trans m5⟩
    · right
      rw [m3, bd2_s, if_neg (show ¬ (1 : Int32) = 0 by decide)]
      exact ⟨v2', b', m1, m2, rfl, (F1.P p).trans m4, m5, m6, (advF_fr a).trans m7⟩
  · right
    rw [if_neg h, e1, bd2_s, if_pos rfl]
    exact ⟨0, b, by decide, rfl, rfl, FP.refl p b, ep, R, TkFr.refl a⟩
