/-! ===== the reading begins; what it may change ===== -/
/-- the reference's reading -/
def FW (b b' : HP) : Prop := SR b b' ∧ (∀ c, c ≠ 113 → c ≠ 114 → c ≠ 120 → c ≠ 121 → hI b' c = hI b c) ∧ (∀ c, c ≠ 115 → hL b' c = hL b c) ∧ (∀ j, ¬ (11 ≤ j ∧ j ≤ 22) → hI b' 113 j = hI b 113 j) ∧ (hI b' 113 16 = hI b 113 16) ∧ (∀ j, j < 1640 → hI b' 114 j = hI b 114 j) ∧ ∀ j, j < 40 → hL b' 115 j = hL b 115 j
theorem FW.refl (b : HP) : FW b b := ⟨SR.refl b, fun _ _ _ _ _ => rfl, fun _ _ => rfl, fun _ _ => rfl, rfl, fun _ _ => rfl, fun _ _ => rfl⟩
theorem FW.trans {a b c : HP} (p : FW a b) (q : FW b c) : FW a c := by
  obtain ⟨p1, p2, p3, p4, p5, p6, p7⟩ := p
  obtain ⟨q1, q2, q3, q4, q5, q6, q7⟩ := q
  exact ⟨p1.trans q1, fun x h1 h2 h3 h4 => (q2 x h1 h2 h3 h4).trans (p2 x h1 h2 h3 h4), fun x h => (q3 x h).trans (p3 x h), fun j h => (q4 j h).trans (p4 j h), q5.trans p5, fun j h => (q6 j h).trans (p6 j h), fun j h => (q7 j h).trans (p7 j h)⟩
theorem FB.W {b b' : HP} (p : FB b b') : FW b b' := ⟨p.S, fun c h _ _ _ => p.I h, fun c _ => congrFun p.L c, fun j hj => p.c (by omega), p.c (by decide), fun j _ => congrFun (p.I (by decide)) j, fun j _ => congrFun (congrFun p.L 115) j⟩
theorem FW.u3 {a b : HP} (p : FW a b) {j : Nat} (x : Int32) (hj : 11 ≤ j ∧ j ≤ 22 ∧ j ≠ 16) : FW a (uI b 113 j x) := by
  refine p.trans ⟨⟨rfl, rfl⟩, fun c h _ _ _ => hI_uI_n' h, fun _ _ => rfl, fun k hk => hI_uI_n (by omega), hI_uI_n (by omega), fun k _ => hI_uI_n (by omega), fun _ _ => rfl⟩
theorem FW.u4 {a b : HP} (p : FW a b) {j : Nat} (x : Int32) (hj : 1640 ≤ j) : FW a (uI b 114 j x) := by
  refine p.trans ⟨⟨rfl, rfl⟩, fun c _ h _ _ => hI_uI_n' h, fun _ _ => rfl, fun k hk => hI_uI_n (by omega), hI_uI_n (by omega), fun k _ => hI_uI_n (by omega), fun _ _ => rfl⟩
theorem FW.u5 {a b : HP} (p : FW a b) {j : Nat} (x : Int64) (hj : 40 ≤ j) : FW a (uL b 115 j x) := by
  refine p.trans ⟨⟨rfl, rfl⟩, fun c _ _ _ _ => rfl, fun c h => funext fun k => hL_uL_n (by omega), fun k hk => rfl, rfl, fun k _ => rfl, fun k hk => hL_uL_n (by omega)⟩
theorem FW.r120 {a b : HP} (p : FW a b) (g : Nat → Int32) : FW a (rI b 120 g) := by
  refine p.trans ⟨⟨rfl, rfl⟩, fun c _ _ h _ => hI_rI_n _ _ h, fun _ _ => rfl, fun k hk => by rw [hI_rI_n _ _ (by decide)], by rw [hI_rI_n _ _ (by decide)], fun k _ => by rw [hI_rI_n _ _ (by decide)], fun _ _ => rfl⟩
theorem FW.u121 {a b : HP} (p : FW a b) (j : Nat) (x : Int32) : FW a (uI b 121 j x) := by
  refine p.trans ⟨⟨rfl, rfl⟩, fun c _ _ _ h => hI_uI_n' h, fun _ _ => rfl, fun k hk => hI_uI_n (by omega), hI_uI_n (by omega), fun k _ => hI_uI_n (by omega), fun _ _ => rfl⟩
theorem FW.cong10 {b b1 : HP} (p : FW b b1) : FW (uI b 113 10 0) (uI b1 113 10 0) := by
  obtain ⟨p1, p2, p3, p4, p5, p6, p7⟩ := p
  refine ⟨⟨p1.1, p1.2⟩, fun c h1 h2 h3 h4 => ?_, p3, fun j hj => ?_, ?_, fun j hj => ?_, p7⟩
  · rw [hI_uI_n' h1, hI_uI_n' h1]; exact p2 c h1 h2 h3 h4
  · by_cases q : j = 10
    · rw [q, hI_uI_s, hI_uI_s]
    · rw [hI_uI_n (by omega), hI_uI_n (by omega)]; exact p4 j hj
  · rw [hI_uI_n (by omega), hI_uI_n (by omega)]; exact p5
  · rw [hI_uI_n (by omega), hI_uI_n (by omega)]; exact p6 j hj
theorem by_i8 {x : Int32} (h : BY x) : Int8.toInt32 (Int32.toInt8 x) = x := by
  obtain ⟨c, e⟩ := h
  rw [e]; simp
theorem beg26 {T : Nat → Int32} {L : Nat} (tx : TX T L) : ∀ d k f b, k + d = L → d < f → (∀ j, j < k → hI b 120 j = T j) → (∀ j, j < L → hI b 119 j = T j) → ∃ g, (∀ j, j < L → g j = T j) ∧ f_X12_begins_26 f (nI L) (nI k) b = f_X12_begins_26 1 (nI L) (nI L) (rI b 120 g)
  | d, k, 0, b, hd, hf, _, _ => absurd hf (by omega)
  | 0, k, f + 1, b, hd, hf, e1, e2 => by
    refine ⟨hI b 120, fun j hj => e1 j (by omega), ?_⟩
    rw [rI_self, show k = L by omega]
    unfold f_X12_begins_26
    rw [if_pos (Int32.le_refl _), if_pos (Int32.le_refl _)]
  | d + 1, k, f + 1, b, hd, hf, e1, e2 => by
    have hL := tx.1
    have st : f_X12_begins_26 (f + 1) (nI L) (nI k) b = f_X12_begins_26 f (nI L) (nI (k + 1)) (uI b 120 k (T k)) := by
      show (if nI L ≤ nI k then _ else gdi (nI k) 900 <| gdi (nI k) 900 <| ltv (uI b 120 (Int32.toNatClampNeg (nI k)) (Int8.toInt32 (Int32.toInt8 (hI b 119 (Int32.toNatClampNeg (nI k)))))) fun g15 => ltv (nI k + 1 : Int32) fun x16 => f_X12_begins_26 f (nI L) x16 g15) = _
      rw [if_neg (show ¬ nI L ≤ nI k from fun z => by have := (nI_leI (by omega) (by omega)).mp z; omega), gdi_nI (by omega) (by decide), gdi_nI (by omega) (by decide), ltv_e, ltv_e, nI_clamp (by omega), e2 k (by omega), by_i8 (tx.2 k (by omega)), nI_1]
    obtain ⟨g, g1, g2⟩ := beg26 tx d (k + 1) f (uI b 120 k (T k)) (by omega) (by omega) (fun j hj => by
      by_cases q : j = k
      · rw [q, hI_uI_s]
      · rw [hI_uI_n (by omega)]; exact e1 j (by omega)) (fun j hj => by rw [hI_uI_n (by omega)]; exact e2 j hj)
    refine ⟨g, g1, ?_⟩
    rw [st, g2]
    congr 1
    unfold uI; rw [rI_rI]
theorem begins_is {T : Nat → Int32} {L f m : Nat} (tx : TX T L) {b : HP} (hLf : L ≤ f) (hf : f ≤ 900) (hm : L ≤ m) (hm9 : m ≤ 900) (e10 : hI b 113 10 = nI f) (e119 : ∀ j, j < L → hI b 119 j = T j) {a : HP} {n : Nat} (ct : CT a T L n) (ca : hI a 5 10 = 0) (ca2 : hI a 5 12 = 0) (ca3 : hI a 5 13 = -1) :
    ∃ b', f_X12_begins b (nI L) (nI m) = some (1, b') ∧ FW (uI b 113 10 0) b' ∧ RD T L n a b' ∧ hI b' 113 10 = 0 ∧ hI b' 113 17 = -1 := by
  have hL := tx.1
  unfold f_X12_begins
  rw [if_neg (show ¬ nI L < 0 from fun z => by have := (nI_ltI (b := 0) (by omega) (by omega)).mp z; omega), e10, if_neg (show ¬ nI f < nI L from fun z => by have := (nI_ltI (by omega) (by omega)).mp z; omega), if_pos (show nI L ≤ nI m from (nI_leI (by omega) (by omega)).mpr hm), ltv_e]
  obtain ⟨g, g1, g2⟩ := beg26 tx L 0 FU (uI b 113 11 (nI L)) (by omega) (FU_gt (by omega)) (fun j hj => absurd hj (by omega)) (fun j hj => by rw [hI_uI_n (by omega)]; exact e119 j hj)
  have z0 : (0 : Int32) = nI 0 := rfl
  have F1 : FW b (rI (uI b 113 11 (nI L)) 120 g) := ((FW.refl b).u3 _ (by omega)).r120 g
  have c11 : hI (rI (uI b 113 11 (nI L)) 120 g) 113 11 = nI L := by rw [hI_rI_n _ _ (by decide), hI_uI_s]
  have c120 : hI (rI (uI b 113 11 (nI L)) 120 g) 120 = g := hI_rI_s _ _ _
  rw [show f_X12_begins_26 FU (nI L) 0 (uI b 113 11 (nI L)) = f_X12_begins_26 1 (nI L) (nI L) (rI (uI b 113 11 (nI L)) 120 g) from g2]
  generalize rI (uI b 113 11 (nI L)) 120 g = b1 at F1 c11 c120 ⊢
  unfold f_X12_begins_26
  rw [if_pos (Int32.le_refl _), ltv_e, ltv_e, ltv_e, ltv_e, ltv_e]
  have F2 : FW (uI b 113 10 0) (uI (uI (uI (uI (uI b1 113 10 0) 113 18 0) 113 17 (-1)) 113 14 0) 113 19 0) := ((((F1.cong10).u3 _ (by omega)).u3 _ (by omega)).u3 _ (by omega)).u3 _ (by omega)
  have d10 : hI (uI (uI (uI (uI (uI b1 113 10 0) 113 18 0) 113 17 (-1)) 113 14 0) 113 19 0) 113 10 = 0 := by rw [hI_uI_n (by decide), hI_uI_n (by decide), hI_uI_n (by decide), hI_uI_n (by decide), hI_uI_s]
  have d18 : hI (uI (uI (uI (uI (uI b1 113 10 0) 113 18 0) 113 17 (-1)) 113 14 0) 113 19 0) 113 18 = 0 := by rw [hI_uI_n (by decide), hI_uI_n (by decide), hI_uI_n (by decide), hI_uI_s]
  have d17 : hI (uI (uI (uI (uI (uI b1 113 10 0) 113 18 0) 113 17 (-1)) 113 14 0) 113 19 0) 113 17 = -1 := by rw [hI_uI_n (by decide), hI_uI_n (by decide), hI_uI_s]
  have d14 : hI (uI (uI (uI (uI (uI b1 113 10 0) 113 18 0) 113 17 (-1)) 113 14 0) 113 19 0) 113 14 = nI 0 := by rw [hI_uI_n (by decide), hI_uI_s]; rfl
  have dx : RTx (uI (uI (uI (uI (uI b1 113 10 0) 113 18 0) 113 17 (-1)) 113 14 0) 113 19 0) T L := by
    refine ⟨?_, fun j hj => ?_⟩
    · rw [hI_uI_n (by decide), hI_uI_n (by decide), hI_uI_n (by decide), hI_uI_n (by decide), hI_uI_n (by decide)]; exact c11
    · rw [hI_uI_n (by omega), hI_uI_n (by omega), hI_uI_n (by omega), hI_uI_n (by omega), hI_uI_n (by omega), c120]; exact g1 j hj
  generalize uI (uI (uI (uI (uI b1 113 10 0) 113 18 0) 113 17 (-1)) 113 14 0) 113 19 0 = b2 at F2 d10 d18 d17 d14 dx ⊢
  obtain ⟨b', e1, e2, e3⟩ := on_0 tx L 0 FU b2 dx (by omega) (by omega) (FU_gt (by omega)) d14
  rw [show f_X12_onward b2 = some b' from e1, bd1_s]
  refine ⟨b', rfl, F2.trans e2.B.W, ⟨⟨0, ct, tx, ⟨ca, Nat.zero_le _⟩, e2.x dx, e3⟩, by rw [e2.c (by decide)]; exact d18, by rw [e2.c (by decide)]; exact d17, ca2, ca3⟩, by rw [e2.c (by decide)]; exact d10, by rw [e2.c (by decide)]; exact d17⟩
/-- the new town as yet: all is nought -/
def PL (b : HP) : Prop := ∀ j, 1640 ≤ j → j < 2050 → hI b 114 j = if j = 1650 ∨ j = 1651 then -1 else 0
theorem plain2 : ∀ d k f b, k + d = 410 → d < f → (∀ j, j < k → hI b 114 (1640 + j) = 0) → ∃ b', f_X12_plain_2 f (nI 1640) (nI k) b = some b' ∧ PL b' ∧ FW b b' ∧ hI b' 113 = hI b 113 ∧ hI b' 120 = hI b 120
  | d, k, 0, b, hd, hf, _ => absurd hf (by omega)
  | 0, k, f + 1, b, hd, hf, e => by
    unfold f_X12_plain_2
    have hk : k = 410 := by omega
    subst hk
    rw [if_pos (show (410 : Int32) ≤ nI 410 by decide)]
    rw [show nI 1640 + 10 = nI 1650 from rfl, show nI 1640 + 11 = nI 1651 from rfl, gdi_nI (by decide) (by decide), ltv_e, gdi_nI (by decide) (by decide), ltv_e, nI_clamp (by decide), nI_clamp (by decide)]
    refine ⟨_, rfl, fun j h1 h2 => ?_, ((FW.refl b).u4 _ (by decide)).u4 _ (by decide), by rw [hI_uI_n' (by decide), hI_uI_n' (by decide)], by rw [hI_uI_n' (by decide), hI_uI_n' (by decide)]⟩
    by_cases q1 : j = 1651
    · rw [q1, hI_uI_s]; rfl
    · rw [hI_uI_n (by omega)]
      by_cases q2 : j = 1650
      · rw [q2, hI_uI_s]; rfl
      · rw [hI_uI_n (by omega), if_neg (by omega)]
        have := e (j - 1640) (by omega)
        rwa [show 1640 + (j - 1640) = j by omega] at this
  | d + 1, k, f + 1, b, hd, hf, e => by
    unfold f_X12_plain_2
    rw [if_neg (show ¬ (410 : Int32) ≤ nI k from fun z => by have := (nI_leI (a := 410) (by omega) (by omega)).mp z; omega), nI_add, gdi_nI (by omega) (by decide), ltv_e, ltv_e, nI_clamp (by omega), nI_1]
    obtain ⟨b', b1, b2, b3, b4, b5⟩ := plain2 d (k + 1) f (uI b 114 (1640 + k) 0) (by omega) (by omega) (fun j hj => by
      by_cases q : j = k
      · rw [q, hI_uI_s]
      · rw [hI_uI_n (by omega)]; exact e j (by omega))
    exact ⟨b', b1, b2, ((FW.refl b).u4 _ (by omega)).trans b3, by rw [b4, hI_uI_n' (by decide)], by rw [b5, hI_uI_n' (by decide)]⟩
theorem plain_is {T : Nat → Int32} {L n : Nat} {a b : HP} (k : RD T L n a b) : ∃ b', f_X12_plain b 1640 = some b' ∧ PL b' ∧ FW b b' ∧ RD T L n a b' ∧ hI b' 113 = hI b 113 := by
  obtain ⟨b', b1, b2, b3, b4, b5⟩ := plain2 410 0 FU b (by omega) (FU_gt (by omega)) (fun j hj => absurd hj (by omega))
  exact ⟨b', b1, b2, b3, k.keep rfl (fun _ _ => rfl) rfl b4 b5, b4⟩
