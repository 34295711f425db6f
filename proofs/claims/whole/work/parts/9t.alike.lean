/-! ===== the new town as far as it is read ===== -/
/-- what the class's reading may change; u: the town read into -/
def CW (u : Nat) (a a' : HP) : Prop := SR a a' ∧ (∀ c, c ≠ 5 → ¬ (u ≤ c ∧ c ≤ u + 16) → hI a' c = hI a c) ∧ (∀ c, ¬ (u ≤ c ∧ c ≤ u + 16) → hL a' c = hL a c) ∧ hI a' 5 7 = hI a 5 7
theorem CW.refl (u : Nat) (a : HP) : CW u a a := ⟨SR.refl a, fun _ _ _ => rfl, fun _ _ => rfl, rfl⟩
theorem CW.trans {u : Nat} {a b c : HP} (p : CW u a b) (q : CW u b c) : CW u a c := ⟨p.1.trans q.1, fun x h1 h2 => (q.2.1 x h1 h2).trans (p.2.1 x h1 h2), fun x h => (q.2.2.1 x h).trans (p.2.2.1 x h), q.2.2.2.trans p.2.2.2⟩
theorem CW.fr {u : Nat} {a a' : HP} (f : TkFr a a') : CW u a a' := by
  obtain ⟨g, e1, e2, e3⟩ := f
  rw [e1]
  exact ⟨⟨rfl, rfl⟩, fun c h _ => hI_rI_n _ _ h, fun _ _ => rfl, by rw [hI_rI_s]; exact e3 7 (by decide) (by decide)⟩
theorem CW.uI {u : Nat} {a b : HP} (p : CW u a b) {c : Nat} (j : Nat) (x : Int32) (hc : u ≤ c ∧ c ≤ u + 16) (hu : 6 ≤ u) : CW u a (uI b c j x) :=
  p.trans ⟨⟨rfl, rfl⟩, fun d h1 h2 => hI_uI_n' (fun z => h2 (by rw [z]; exact hc)), fun _ _ => rfl, hI_uI_n (by omega)⟩
theorem CW.rI {u : Nat} {a b : HP} (p : CW u a b) {c : Nat} (f : Nat → Int32) (hc : u ≤ c ∧ c ≤ u + 16) (hu : 6 ≤ u) : CW u a (rI b c f) :=
  p.trans ⟨⟨rfl, rfl⟩, fun d h1 h2 => hI_rI_n _ _ (fun z => h2 (by rw [z]; exact hc)), fun _ _ => rfl, by rw [hI_rI_n _ _ (by omega)]⟩
theorem CW.uL {u : Nat} {a b : HP} (p : CW u a b) {c : Nat} (j : Nat) (x : Int64) (hc : u ≤ c ∧ c ≤ u + 16) : CW u a (uL b c j x) :=
  p.trans ⟨⟨rfl, rfl⟩, fun d h1 h2 => rfl, fun d h => funext fun k => hL_uL_n (by left; intro z; exact h (by rw [z]; exact hc)), rfl⟩
/-- the hill: r rows whole, k letters of the next -/
def HH (a b : HP) (u w r k : Nat) : Prop :=
  (1 ≤ w ∧ w ≤ 5 ∧ hI b 114 1640 = nI w ∧ hI a (u + 1) 0 = nI w) ∧ (r ≤ 6 ∧ hI b 114 1641 = nI r ∧ hI a (u + 1) 1 = nI r) ∧
  (hI a (u + 1) 2 = hI b 114 1649 ∧ (hI b 114 1649 = 0 ∨ (hI b 114 1649 = 1 ∧ 2 < w))) ∧
  (∀ i, i < 32 → (bt (hI a (u + 1) 3) i = decide (i < w * r) ∧ bt (hI a (u + 1) 7) i = decide (i < w * r ∧ i % w = 0) ∧ bt (hI a (u + 1) 8) i = decide (i < w * r ∧ i % w = w - 1))) ∧
  (hI a (u + 1) 4 = hI b 114 1642 ∧ hI a u 13 = hI b 114 1643) ∧
  (∀ i, i < 32 → (bt (hI a (u + 1) 5) i = (bt (hI b 114 1642) i && !bt (hI b 114 1644) i)) ∧ bt (hI a (u + 1) 6) i = (bt (hI b 114 1643) i && bt (hI b 114 1644) i)) ∧
  (∀ i, i < 32 → (bt (hI b 114 1642) i = true → i < w * r + k) ∧ (bt (hI b 114 1643) i = true → bt (hI b 114 1642) i = true) ∧ (bt (hI b 114 1644) i = true → bt (hI b 114 1642) i = true))
/-- its rules and citizens -/
def PP (a b : HP) (u m c : Nat) : Prop :=
  (m ≤ 4 ∧ hI b 114 1645 = nI m ∧ hI a u 10 = nI m) ∧ (c ≤ 6 ∧ hI b 114 1646 = nI c ∧ hI a u 11 = nI c) ∧
  (hI a u 12 = 0 ∧ ((m = 0 ∧ hI b 114 1650 = -1) ∨ (0 < m ∧ hI b 114 1650 = 0))) ∧
  (∀ i, i < m → hI a (u + 10) i = hI b 114 (1652 + 2 * i) ∧ hI a (u + 11) i = hI b 114 (1653 + 2 * i) ∧ NmR (hL a (u + 9) i) (hL b 115 (40 + i))) ∧
  (∀ i, i < c → hI a (u + 13) i = hI b 114 (1660 + 2 * i) ∧ hI a (u + 14) i = hI b 114 (1661 + 2 * i) ∧ NmR (hL a (u + 12) i) (hL b 115 (44 + i))) ∧
  (∀ i, i < m → (∃ n, n < 32 ∧ hI b 114 (1652 + 2 * i) = nI n) ∧ ∃ n, n < 32 ∧ hI b 114 (1653 + 2 * i) = nI n) ∧
  (∀ i, i < c → ∃ n k, n ≤ k ∧ k ≤ 30 ∧ hI b 114 (1660 + 2 * i) = nI n ∧ hI b 114 (1661 + 2 * i) = nI k) ∧
  (∀ i, m ≤ i → i < 4 → hI b 114 (1652 + 2 * i) = 0 ∧ hI b 114 (1653 + 2 * i) = 0)
/-- the rest of it: nothing yet -/
def ZZ (a b : HP) (u : Nat) : Prop := (hI a u 14 = 0 ∧ hI a u 15 = 0 ∧ hI a (u + 3) 5 = 0 ∧ hI a (u + 3) 6 = 0 ∧ ∀ i, i < 10 → hI a (u + 15) i = 0) ∧ hI b 114 1647 = 0 ∧ hI b 114 1648 = 0 ∧ hI b 114 1651 = -1 ∧ ∀ i, i < 10 → hI b 114 (1672 + i) = 0
def TSt (a b : HP) (u w r m c : Nat) : Prop := HH a b u w r 0 ∧ PP a b u m c ∧ ZZ a b u
theorem TSt.keep {a a' b b' : HP} {u w r m c : Nat} (hu : u = 79 ∨ u = 96) (h : TSt a b u w r m c) (f : TkFr a a') (g : FB b b') : TSt a' b' u w r m c := by
  have e : ∀ x, x ≠ 5 → hI a' x = hI a x := fun x hx => f.I hx
  have el := f.L
  have e4 : hI b' 114 = hI b 114 := g.I (by decide)
  have e5 : hL b' = hL b := g.L
  unfold TSt HH PP ZZ at h ⊢
  rw [e u (by omega), e (u + 1) (by omega), e (u + 3) (by omega), e (u + 10) (by omega), e (u + 11) (by omega), e (u + 13) (by omega), e (u + 14) (by omega), e (u + 15) (by omega), el, e4, e5]
  exact h
theorem rowI0 (f : Nat → Int32) {i : Nat} (hi : i < 10) : rowI f (fun _ => 0) 0 10 i = 0 := by
  unfold rowI; rw [if_pos (by omega)]
theorem empty_T {a : HP} {u w : Nat} (hu : u = 79 ∨ u = 96) (h1 : 1 ≤ w) (h5 : w ≤ 5) (q : Bool) {b : HP} (e0 : hI b 114 1640 = nI w) (e9 : hI b 114 1649 = if q = true ∧ 2 < w then 1 else 0) (pl : ∀ j, 1640 < j → j < 2050 → j ≠ 1649 → hI b 114 j = if j = 1650 ∨ j = 1651 then -1 else 0) : TSt (emptyT a u (nI w) (bI q)) b u w 0 0 0 := by
  have c0 : hI (emptyT a u (nI w) (bI q)) u = upd (upd (upd (upd (upd (upd (hI a u) 10 0) 11 0) 12 0) 13 0) 14 0) 15 0 := by
    unfold emptyT; rw [hI_rI_n _ _ (by omega), hI_rI_s]
  have c1 : hI (emptyT a u (nI w) (bI q)) (u + 1) = startF (hI a (u + 1)) (nI w) (bI q) := by
    unfold emptyT; rw [hI_rI_n _ _ (by omega), hI_rI_n _ _ (by omega), hI_rI_n _ _ (by omega), hI_rI_s]
  have c3 : hI (emptyT a u (nI w) (bI q)) (u + 3) = upd (upd (upd (hI a (u + 3)) 5 0) 6 0) 7 0 := by
    unfold emptyT; rw [hI_rI_n _ _ (by omega), hI_rI_n _ _ (by omega), hI_rI_s]
  have c15 : ∀ i, i < 10 → hI (emptyT a u (nI w) (bI q)) (u + 15) i = 0 := fun i hi => by
    unfold emptyT; rw [hI_rI_s]; exact rowI0 _ hi
  have z : ∀ j, 1640 < j → j < 2050 → j ≠ 1649 → j ≠ 1650 → j ≠ 1651 → hI b 114 j = 0 := fun j h1 h2 h3 h4 h5 => by rw [pl j h1 h2 h3, if_neg (by omega)]
  have s0 : ∀ j, j < 9 → j ≠ 0 → j ≠ 2 → startF (hI a (u + 1)) (nI w) (bI q) j = 0 := fun j h1 h2 h3 => by unfold startF; rw [if_neg h2, if_neg h3, if_pos h1]
  refine ⟨⟨⟨h1, h5, e0, ?_⟩, ⟨by decide, z 1641 (by decide) (by decide) (by decide) (by decide) (by decide), ?_⟩, ⟨?_, ?_⟩, ?_, ⟨?_, ?_⟩, ?_, ?_⟩, ⟨⟨by decide, z 1645 (by decide) (by decide) (by decide) (by decide) (by decide), ?_⟩, ⟨by decide, z 1646 (by decide) (by decide) (by decide) (by decide) (by decide), ?_⟩, ⟨?_, Or.inl ⟨rfl, ?_⟩⟩, fun i hi => absurd hi (by omega), fun i hi => absurd hi (by omega), fun i hi => absurd hi (by omega), fun i hi => absurd hi (by omega), fun i _ hi => ⟨z _ (by omega) (by omega) (by omega) (by omega) (by omega), z _ (by omega) (by omega) (by omega) (by omega) (by omega)⟩⟩, ⟨?_, ?_, ?_, ?_, c15⟩, z 1647 (by decide) (by decide) (by decide) (by decide) (by decide), z 1648 (by decide) (by decide) (by decide) (by decide) (by decide), ?_, fun i hi => z _ (by omega) (by omega) (by omega) (by omega) (by omega)⟩
  · rw [c1]; rfl
  · rw [c1, s0 1 (by decide) (by decide) (by decide)]; rfl
  · rw [c1, e9]
    show (if bI q ≠ 0 ∧ 2 < nI w then (1 : Int32) else 0) = _
    have e2 : (2 : Int32) < nI w ↔ 2 < w := nI_ltI (a := 2) (by omega) (by omega)
    cases q
    · rw [if_neg (fun z => z.1 rfl), if_neg (fun z => absurd z.1 (by decide))]
    · by_cases h : 2 < w
      · rw [if_pos ⟨by decide, e2.mpr h⟩, if_pos ⟨rfl, h⟩]
      · rw [if_neg (fun z => h (e2.mp z.2)), if_neg (fun z => h z.2)]
  · rw [e9]
    by_cases h : q = true ∧ 2 < w
    · rw [if_pos h]; exact Or.inr ⟨rfl, h.2⟩
    · rw [if_neg h]; exact Or.inl rfl
  · intro i hi
    rw [c1, s0 3 (by decide) (by decide) (by decide), s0 7 (by decide) (by decide) (by decide), s0 8 (by decide) (by decide) (by decide), b_0]
    refine ⟨(decide_eq_false (by omega)).symm, (decide_eq_false (by omega)).symm, (decide_eq_false (by omega)).symm⟩
  · rw [c1, s0 4 (by decide) (by decide) (by decide), z 1642 (by decide) (by decide) (by decide) (by decide) (by decide)]
  · rw [c0, z 1643 (by decide) (by decide) (by decide) (by decide) (by decide)]; rfl
  · intro i hi
    rw [c1, s0 5 (by decide) (by decide) (by decide), s0 6 (by decide) (by decide) (by decide), z 1642 (by decide) (by decide) (by decide) (by decide) (by decide), z 1643 (by decide) (by decide) (by decide) (by decide) (by decide), b_0]
    exact ⟨rfl, rfl⟩
  · intro i hi
    rw [z 1642 (by decide) (by decide) (by decide) (by decide) (by decide), z 1643 (by decide) (by decide) (by decide) (by decide) (by decide), z 1644 (by decide) (by decide) (by decide) (by decide) (by decide), b_0]
    exact ⟨fun h => absurd h (by decide), fun h => absurd h (by decide), fun h => absurd h (by decide)⟩
  · rw [c0]; rfl
  · rw [c0]; rfl
  · rw [c0]; rfl
  · rw [pl 1650 (by decide) (by decide) (by decide)]; rfl
  · rw [c0]; rfl
  · rw [c0]; rfl
  · rw [c3]; rfl
  · rw [c3]; rfl
  · rw [pl 1651 (by decide) (by decide) (by decide)]; rfl
theorem empty_CW {a : HP} {u : Nat} (hu : u = 79 ∨ u = 96) (w q : Int32) : CW u a (emptyT a u w q) := by
  unfold emptyT
  exact ((((CW.refl u a).rI _ (by omega) (by omega)).rI _ (by omega) (by omega)).rI _ (by omega) (by omega)).rI _ (by omega) (by omega)
theorem empty_I {a : HP} {u c : Nat} (w q : Int32) (hc : c < u) : hI (emptyT a u w q) c = hI a c := by
  unfold emptyT
  rw [hI_rI_n _ _ (by omega), hI_rI_n _ _ (by omega), hI_rI_n _ _ (by omega), hI_rI_n _ _ (by omega)]
theorem first_is {T : Nat → Int32} {L n : Nat} {a b : HP} {u : Nat} (hu : u = 79 ∨ u = 96) (k : RD T L n a b) (pl : PL b) : ∃ b', f_X12_first b = some ((takeWideF a u).1, b') ∧ FW b b' ∧ CW u a (takeWideF a u).2 ∧ (((takeWideF a u).1 = 0 ∧ FT (takeWideF a u).2 b') ∨ ((takeWideF a u).1 = 1 ∧ RD T L n (takeWideF a u).2 b' ∧ ∃ w, TSt (takeWideF a u).2 b' u w 0 0 0)) := by
  unfold f_X12_first takeWideF
  obtain ⟨b1, e1, F1, A1⟩ := k.wantWord (j := 0) (by decide)
  have e1 : f_X12_wantWord b 0 = some ((takeK 4 a 0).1, b1) := e1
  have A1 : AN T L n (takeK 4 a 0).1 (takeK 4 a 0).2 b1 := A1
  rw [e1, bd2_s]
  have C1 : CW u a (takeK 4 a 0).2 := CW.fr (takeK_fr 4 a 0)
  rcases A1 with ⟨r1, k1⟩ | ⟨r1, k1⟩
  · rw [r1, if_neg (by decide), if_neg (by decide)]
    generalize (takeK 4 a 0).2 = a1 at C1 k1 ⊢
    have C2 : CW u a (takeN a1 1 5).2 := C1.trans (CW.fr (takeN_fr a1 1 5))
    rcases k1.number (p := 1640) (lo := 1) (hi := 5) (by decide) (by decide) (by decide) with ⟨r2, b2, e2, F2, k2⟩ | ⟨r2, w, b2, w1, w5, ew, e2, F2, k2⟩
    · rw [show nI 1 = (1 : Int32) from rfl, show nI 5 = (5 : Int32) from rfl] at r2 e2 k2
      rw [show f_X12_number b1 1640 1 5 = some (0, b2) from e2, bd2_s, if_pos rfl, r2, if_pos rfl]
      exact ⟨b2, rfl, F1.W.trans F2.W, C2, Or.inl ⟨rfl, k2⟩⟩
    · rw [show nI 1 = (1 : Int32) from rfl, show nI 5 = (5 : Int32) from rfl] at r2 e2 k2 ew
      rw [show f_X12_number b1 1640 1 5 = some (1, b2) from e2, bd2_s, if_neg (by decide), r2, if_neg (by decide), ew]
      generalize (takeN a1 1 5).2 = a2 at C2 k2 ⊢
      have W2 : FW b b2 := F1.W.trans (((FW.refl b1).u4 _ (by decide)).trans F2.W)
      have p2 : ∀ j, hI b2 114 j = if j = 1640 then nI w else hI b 114 j := fun j => by
        rw [F2.I (by decide), hI_uI, F1.I (by decide)]
        by_cases q : j = 1640
        · rw [if_pos ⟨rfl, q⟩, if_pos q]
        · rw [if_neg (fun z => q z.2), if_neg q]
      have last : ∀ (q : Bool) (a3 b3 : HP) (v : Int32), CW u a a3 → RD T L n a3 b3 → FB b2 b3 → (v = if q = true ∧ 2 < w then 1 else 0) → ∃ b', f_X12_wantSign (uI b3 114 1649 v) 59 = some ((takeK 3 (emptyT a3 u (nI w) (bI q)) 59).1, b') ∧ is01 (takeK 3 (emptyT a3 u (nI w) (bI q)) 59).1 ∧ FW b b' ∧ CW u a (takeK 3 (emptyT a3 u (nI w) (bI q)) 59).2 ∧ (((takeK 3 (emptyT a3 u (nI w) (bI q)) 59).1 = 0 ∧ FT (takeK 3 (emptyT a3 u (nI w) (bI q)) 59).2 b') ∨ ((takeK 3 (emptyT a3 u (nI w) (bI q)) 59).1 = 1 ∧ RD T L n (takeK 3 (emptyT a3 u (nI w) (bI q)) 59).2 b' ∧ ∃ w', TSt (takeK 3 (emptyT a3 u (nI w) (bI q)) 59).2 b' u w' 0 0 0)) := by
        intro q a3 b3 v C3 k3 F3 ev
        have k4 : RD T L n (emptyT a3 u (nI w) (bI q)) (uI b3 114 1649 v) := k3.keep (empty_I _ _ (by omega)) (fun c hc => empty_I _ _ (by omega)) rfl (hI_uI_n' (by decide)) (hI_uI_n' (by decide))
        have T4 : TSt (emptyT a3 u (nI w) (bI q)) (uI b3 114 1649 v) u w 0 0 0 := by
          refine empty_T hu w1 w5 q ?_ (by rw [hI_uI_s]; exact ev) (fun j h1 h2 h3 => ?_)
          · rw [hI_uI_n (by decide), F3.I (by decide), p2, if_pos rfl]
          · rw [hI_uI_n (by omega), F3.I (by decide), p2, if_neg (by omega)]; exact pl j (by omega) h2
        obtain ⟨b', e5, F5, A5⟩ := k4.wantSign (c := 59) (by decide)
        rw [show nI 59 = (59 : Int32) from rfl] at e5 A5
        refine ⟨b', e5, A5.is, ((W2.trans F3.W).u4 _ (by decide)).trans F5.W, (C3.trans (empty_CW hu _ _)).trans (CW.fr (takeK_fr 3 _ _)), ?_⟩
        rcases A5 with ⟨r5, k5⟩ | ⟨r5, k5⟩
        · exact Or.inr ⟨r5, k5, w, T4.keep hu (takeK_fr 3 _ _) F5⟩
        · exact Or.inl ⟨r5, k5⟩
      have e1640 : hI b2 114 1640 = nI w := by rw [p2, if_pos rfl]
      rcases k2.there (j := 1) (by decide) with ⟨h, b3, e3, F3, k3⟩ | ⟨h, e3⟩
      · rw [show f_X12_isThere b2 4 = some (1, b3) from e3, bd2_s, if_neg (by decide)]
        have h' : kA a2 = 4 ∧ vA a2 = 1 := h
        rw [if_pos h', decide_eq_true h', F3.I (by decide), e1640]
        have e2' : nI w ≤ 2 ↔ w ≤ 2 := nI_leI (b := 2) (by omega) (by omega)
        by_cases h2 : w ≤ 2
        · rw [if_pos (e2'.mpr h2), ltv_e]
          obtain ⟨b', l1, l2, l3⟩ := last true (advF a2) b3 0 (C2.trans (CW.fr (advF_fr a2))) k3 F3 (by rw [if_neg (by omega)])
          rw [l1, bd2_s, gdv_t l2]
          exact ⟨b', rfl, l3⟩
        · rw [if_neg (fun z => h2 (e2'.mp z)), ltv_e]
          obtain ⟨b', l1, l2, l3⟩ := last true (advF a2) b3 1 (C2.trans (CW.fr (advF_fr a2))) k3 F3 (by rw [if_pos ⟨rfl, by omega⟩])
          rw [l1, bd2_s, gdv_t l2]
          exact ⟨b', rfl, l3⟩
      · rw [show f_X12_isThere b2 4 = some (0, b2) from e3, bd2_s, if_pos rfl]
        have h' : ¬ (kA a2 = 4 ∧ vA a2 = 1) := h
        rw [if_neg h', decide_eq_false h', ltv_e]
        obtain ⟨b', l1, l2, l3⟩ := last false a2 b2 0 C2 k2 (FB.refl b2) (by rw [if_neg (fun z => absurd z.1 (by decide))])
        rw [l1, bd2_s, gdv_t l2]
        exact ⟨b', rfl, l3⟩
  · rw [r1, if_pos rfl, if_pos rfl]
    exact ⟨b1, rfl, F1.W, C1, Or.inl ⟨rfl, k1⟩⟩
