/-! ===== the reader's small steps, class beside reference ===== -/
def RD (T : Nat → Int32) (L n : Nat) (a b : HP) : Prop := (∃ i, TkR a b T L n i) ∧ hI b 113 18 = 0 ∧ hI b 113 17 = -1 ∧ hI a 5 12 = 0 ∧ hI a 5 13 = -1
theorem adv_5 (a : HP) {j : Nat} (hj : j ≠ 10) : hI (advF a) 5 j = hI a 5 j := by
  unfold advF advH
  split
  · exact hI_uI_n (Or.inr hj)
  · rfl
/-- a fault is told, the same by both -/
def FT (a b : HP) : Prop := ∃ e, 1 ≤ e ∧ e ≤ 7 ∧ hI b 113 18 = nI e ∧ hI a 5 12 = nI e ∧ hI a 5 13 = hI b 113 17
def FB (b b' : HP) : Prop := ∃ f, b' = rI b 113 f ∧ ∀ j, ¬ ((12 ≤ j ∧ j ≤ 15) ∨ j = 17 ∨ j = 18) → f j = hI b 113 j
theorem FB.refl (b : HP) : FB b b := ⟨hI b 113, (rI_self b 113).symm, fun _ _ => rfl⟩
theorem FB.trans {a b c : HP} (p : FB a b) (q : FB b c) : FB a c := by
  obtain ⟨f, e, hf⟩ := p
  obtain ⟨g, e2, hg⟩ := q
  refine ⟨g, by rw [e2, e, rI_rI], fun j hj => ?_⟩
  rw [hg j hj, e, hI_rI_s, hf j hj]
theorem FR.B {b b' : HP} (p : FR b b') : FB b b' := by
  obtain ⟨f, e, hf⟩ := p
  exact ⟨f, e, fun j hj => hf j (by omega)⟩
theorem FB.u {a b : HP} (p : FB a b) {j : Nat} (x : Int32) (hj : (12 ≤ j ∧ j ≤ 15) ∨ j = 17 ∨ j = 18) : FB a (uI b 113 j x) := by
  refine p.trans ⟨upd (hI b 113) j x, rfl, fun k hk => ?_⟩
  unfold upd
  rw [if_neg (fun q => hk (by rw [q]; exact hj))]
theorem FB.I {a b : HP} (p : FB a b) {c : Nat} (hc : c ≠ 113) : hI b c = hI a c := by
  obtain ⟨f, e, _⟩ := p
  rw [e, hI_rI_n _ _ hc]
theorem FB.L {a b : HP} (p : FB a b) : hL b = hL a := by obtain ⟨f, e, _⟩ := p; rw [e]; rfl
theorem FB.c {a b : HP} (p : FB a b) {j : Nat} (hj : ¬ ((12 ≤ j ∧ j ≤ 15) ∨ j = 17 ∨ j = 18)) : hI b 113 j = hI a 113 j := by
  obtain ⟨f, e, hf⟩ := p
  rw [e, hI_rI_s, hf j hj]
theorem FB.S {a b : HP} (p : FB a b) : SR a b := by obtain ⟨f, e, _⟩ := p; rw [e]; exact ⟨rfl, rfl⟩
theorem RD.fail {T : Nat → Int32} {L n : Nat} {a b : HP} (k : RD T L n a b) {w : Nat} (h1 : 1 ≤ w) (h7 : w ≤ 7) : ∃ b', f_X12_fails b (nI w) = some (0, b') ∧ FB b b' ∧ FT (failF a (nI w)) b' := by
  obtain ⟨⟨i, k1⟩, k2, _⟩ := k
  have c := k1.c
  have pl := k1.pl
  unfold f_X12_fails
  rw [k2, if_pos rfl]
  have hb : kA a = 0 ↔ hI b 113 12 = 1 := by
    rcases c with ⟨c1, c2⟩ | ⟨_, _, c1, c2, _⟩ | ⟨v, _, c1, c2, _⟩ | ⟨v, _, c1, c2, _⟩ | ⟨c1, c2⟩ <;> rw [c1, c2] <;> decide
  by_cases h : hI b 113 12 = 1
  · rw [if_pos h, ltv_e, ltv_e]
    refine ⟨_, rfl, ((FB.refl b).u _ (by omega)).u _ (by omega), 1, by decide, by decide, ?_, ?_, ?_⟩
    · rw [hI_uI_n (by decide), hI_uI_s]; rfl
    · unfold failF failH
      rw [hI_uI_n (by decide), hI_uI_s, if_pos (hb.mpr h)]; rfl
    · unfold failF failH
      rw [hI_uI_s, hI_uI_s, hI_uI_n (by decide)]; exact pl
  · rw [if_neg h, ltv_e, ltv_e]
    refine ⟨_, rfl, ((FB.refl b).u _ (by omega)).u _ (by omega), w, h1, h7, ?_, ?_, ?_⟩
    · rw [hI_uI_n (by decide), hI_uI_s]
    · unfold failF failH
      rw [hI_uI_n (by decide), hI_uI_s, if_neg (fun z => h (hb.mp z))]
    · unfold failF failH
      rw [hI_uI_s, hI_uI_s, hI_uI_n (by decide)]; exact pl
theorem RD.adv {T : Nat → Int32} {L n : Nat} {a b : HP} (k : RD T L n a b) : ∃ b', f_X12_onward b = some b' ∧ FB b b' ∧ RD T L n (advF a) b' := by
  obtain ⟨⟨i, k1⟩, k2, k3, k4, k5⟩ := k
  obtain ⟨b', e1, e2, i', e3⟩ := k1.on
  exact ⟨b', e1, e2.B, ⟨i', e3⟩, by rw [e2.c (by decide)]; exact k2, by rw [e2.c (by decide)]; exact k3, by rw [adv_5 a (by decide)]; exact k4, by rw [adv_5 a (by decide)]; exact k5⟩
theorem RD.keep {T : Nat → Int32} {L n : Nat} {a a' b b' : HP} (k : RD T L n a b) (f5 : hI a' 5 = hI a 5) (f : ∀ c, c = 6 ∨ (8 ≤ c ∧ c ≤ 11) → hI a' c = hI a c) (fl : hL a' 12 = hL a 12) (x : hI b' 113 = hI b 113) (y : hI b' 120 = hI b 120) : RD T L n a' b' := by
  obtain ⟨⟨i, k1⟩, k2⟩ := k
  exact ⟨⟨i, k1.keep2 f5 f fl x y⟩, by rw [x, f5]; exact k2⟩
theorem RD.u11 {T : Nat → Int32} {L n : Nat} {a b : HP} (k : RD T L n a b) (v : Int32) : RD T L n (uI a 5 11 v) b := by
  obtain ⟨⟨i, k1⟩, k2⟩ := k
  exact ⟨⟨i, k1.keep (fr_uI a v (by decide)) (hI_uI_n (by decide)) (fun _ _ => rfl) rfl⟩, k2.1, k2.2.1, (hI_uI_n (by decide)).trans k2.2.2.1, (hI_uI_n (by decide)).trans k2.2.2.2⟩
/-- after a step that answers r -/
def AN (T : Nat → Int32) (L n : Nat) (r : Int32) (a b : HP) : Prop := (r = 1 ∧ RD T L n a b) ∨ (r = 0 ∧ FT a b)
theorem AN.is {T : Nat → Int32} {L n : Nat} {r : Int32} {a b : HP} (h : AN T L n r a b) : is01 r := by
  rcases h with ⟨h, _⟩ | ⟨h, _⟩ <;> rw [h]
  · exact Or.inr rfl
  · exact Or.inl rfl
theorem RD.isW {T : Nat → Int32} {L n : Nat} {a b : HP} (k : RD T L n a b) : ∃ r, f_X12_inWords b = some (r, b) ∧ (∀ j, j < 22 → ((kA a = 4 ∧ vA a = nI j) ↔ r = nI (rwK j))) ∧ (r = -1 ∨ ∃ j, j < 22 ∧ r = nI (rwK j)) ∧ (kA a = 4 → (vA a < 0 ↔ r = -1)) := by
  obtain ⟨⟨i, k1⟩, k2⟩ := k
  exact k1.isW
theorem RD.wantWord {T : Nat → Int32} {L n : Nat} {a b : HP} (k : RD T L n a b) {j : Nat} (hj : j < 22) : ∃ b', f_X12_wantWord b (nI (rwK j)) = some ((takeK 4 a (nI j)).1, b') ∧ FB b b' ∧ AN T L n (takeK 4 a (nI j)).1 (takeK 4 a (nI j)).2 b' := by
  obtain ⟨r, e, h1, _⟩ := k.isW
  have q := h1 j hj
  unfold f_X12_wantWord takeK
  rw [e, bd2_s]
  by_cases h : kA a = 4 ∧ vA a = nI j
  · rw [if_pos (q.mp h), if_pos h]
    obtain ⟨b', e1, e2, e3⟩ := k.adv
    rw [e1, bd1_s]
    exact ⟨b', rfl, e2, Or.inl ⟨rfl, e3⟩⟩
  · rw [if_neg (fun z => h (q.mpr z)), if_neg h]
    obtain ⟨b', e1, e2, e3⟩ := k.fail (w := 2) (by decide) (by decide)
    rw [show (2 : Int32) = nI 2 from rfl, e1, bd2_s, gdv_t (Or.inl rfl)]
    exact ⟨b', rfl, e2, Or.inr ⟨rfl, e3⟩⟩
theorem RD.sign {T : Nat → Int32} {L n : Nat} {a b : HP} (k : RD T L n a b) (c : Nat) (hc : c < 2 ^ 31) : ((kA a = 3 ∧ vA a = nI c) ↔ (hI b 113 12 = 4 ∧ hI b 113 15 = nI c)) := by
  obtain ⟨⟨i, k1⟩, k2⟩ := k
  rcases k1.c with ⟨c1, c2⟩ | ⟨_, _, c1, c2, _⟩ | ⟨v, _, c1, c2, _⟩ | ⟨v, _, c1, c2, c3, c4⟩ | ⟨c1, c2⟩
  · rw [c1, c2]; exact ⟨fun z => absurd z.1 (by decide), fun z => absurd z.1 (by decide)⟩
  · rw [c1, c2]; exact ⟨fun z => absurd z.1 (by decide), fun z => absurd z.1 (by decide)⟩
  · rw [c1, c2]; exact ⟨fun z => absurd z.1 (by decide), fun z => absurd z.1 (by decide)⟩
  · rw [c1, c2, c3, c4]; exact ⟨fun z => ⟨rfl, z.2⟩, fun z => ⟨rfl, z.2⟩⟩
  · rw [c1, c2]; exact ⟨fun z => absurd z.1 (by decide), fun z => absurd z.1 (by decide)⟩
theorem RD.isSign {T : Nat → Int32} {L n : Nat} {a b : HP} (k : RD T L n a b) (c : Nat) (hc : c < 2 ^ 31) : f_X12_isSign b (nI c) = some (cIf (kA a = 3 ∧ vA a = nI c), b) := by
  have q := k.sign c hc
  unfold f_X12_isSign
  by_cases h : kA a = 3 ∧ vA a = nI c
  · have h' := q.mp h
    rw [if_pos h'.1, if_pos h'.2]; unfold cIf; rw [if_pos h]
  · unfold cIf
    rw [if_neg h]
    by_cases h4 : hI b 113 12 = 4
    · rw [if_pos h4, if_neg (fun z => h (q.mpr ⟨h4, z⟩))]
    · rw [if_neg h4]
theorem RD.wantSign {T : Nat → Int32} {L n : Nat} {a b : HP} (k : RD T L n a b) {c : Nat} (hc : c < 2 ^ 31) : ∃ b', f_X12_wantSign b (nI c) = some ((takeK 3 a (nI c)).1, b') ∧ FB b b' ∧ AN T L n (takeK 3 a (nI c)).1 (takeK 3 a (nI c)).2 b' := by
  unfold f_X12_wantSign takeK
  rw [k.isSign c hc, bd2_s]
  by_cases h : kA a = 3 ∧ vA a = nI c
  · rw [if_pos h]
    unfold cIf
    rw [if_pos h, if_neg (by decide)]
    obtain ⟨b', e1, e2, e3⟩ := k.adv
    rw [e1, bd1_s]
    exact ⟨b', rfl, e2, Or.inl ⟨rfl, e3⟩⟩
  · rw [if_neg h]
    unfold cIf
    rw [if_neg h, if_pos rfl]
    obtain ⟨b', e1, e2, e3⟩ := k.fail (w := 2) (by decide) (by decide)
    rw [show (2 : Int32) = nI 2 from rfl, e1, bd2_s, gdv_t (Or.inl rfl)]
    exact ⟨b', rfl, e2, Or.inr ⟨rfl, e3⟩⟩
theorem RD.num {T : Nat → Int32} {L n : Nat} {a b : HP} (k : RD T L n a b) : (kA a = 2 ∧ hI b 113 12 = 3 ∧ ∃ v, v < 10000 ∧ vA a = nI v ∧ hI b 113 15 = nI v) ∨ (kA a ≠ 2 ∧ hI b 113 12 ≠ 3) := by
  obtain ⟨⟨i, k1⟩, k2⟩ := k
  rcases k1.c with ⟨c1, c2⟩ | ⟨_, _, c1, c2, _⟩ | ⟨v, hv, c1, c2, c3, c4⟩ | ⟨v, _, c1, c2, c3, c4⟩ | ⟨c1, c2⟩
  · right; rw [c1, c2]; decide
  · right; rw [c1, c2]; decide
  · left; exact ⟨c1, c2, v, hv, c3, c4⟩
  · right; rw [c1, c2]; decide
  · right; rw [c1, c2]; decide
theorem RD.fin {T : Nat → Int32} {L n : Nat} {a b : HP} (k : RD T L n a b) : kA a = 1 ↔ hI b 113 12 = 0 := by
  obtain ⟨⟨i, k1⟩, k2⟩ := k
  rcases k1.c with ⟨c1, c2⟩ | ⟨_, _, c1, c2, _⟩ | ⟨v, hv, c1, c2, c3, c4⟩ | ⟨v, _, c1, c2, c3, c4⟩ | ⟨c1, c2⟩ <;> rw [c1, c2] <;> decide
/-- a number taken: the reference lays it in slot p -/
theorem RD.number {T : Nat → Int32} {L n : Nat} {a b : HP} (k : RD T L n a b) {p lo hi : Nat} (hp : p < 2460) (hlo : lo < 10000) (hhi : hi < 10000) :
    ((takeN a (nI lo) (nI hi)).1 = 0 ∧ ∃ b', f_X12_number b (nI p) (nI lo) (nI hi) = some (0, b') ∧ FB b b' ∧ FT (takeN a (nI lo) (nI hi)).2 b') ∨
    ((takeN a (nI lo) (nI hi)).1 = 1 ∧ ∃ v b', lo ≤ v ∧ v ≤ hi ∧ hI (takeN a (nI lo) (nI hi)).2 5 11 = nI v ∧ f_X12_number b (nI p) (nI lo) (nI hi) = some (1, b') ∧ FB (uI b 114 p (nI v)) b' ∧ RD T L n (takeN a (nI lo) (nI hi)).2 b') := by
  unfold f_X12_number takeN
  rcases k.num with ⟨h1, h2, v, hv, h3, h4⟩ | ⟨h1, h2⟩
  · rw [if_pos h1, if_pos h2, h3, h4]
    by_cases q1 : lo ≤ v
    · by_cases q2 : v ≤ hi
      · right
        rw [if_pos ⟨(nI_leI (by omega) (by omega)).mpr q1, (nI_leI (by omega) (by omega)).mpr q2⟩, if_neg (show ¬ nI v < nI lo from fun z => by have := (nI_ltI (by omega) (by omega)).mp z; omega), if_pos (show nI v ≤ nI hi from (nI_leI (by omega) (by omega)).mpr q2), gdi_nI hp (by decide), ltv_e, nI_clamp (by omega)]
        have k2 : RD T L n (uI a 5 11 (nI v)) (uI b 114 p (nI v)) := (k.u11 (nI v)).keep rfl (fun _ _ => rfl) rfl (hI_uI_n' (by decide)) (hI_uI_n' (by decide))
        obtain ⟨b', e1, e2, e3⟩ := k2.adv
        rw [e1, bd1_s]
        refine ⟨rfl, v, b', q1, q2, ?_, rfl, e2, e3⟩
        show hI (advF (uI a 5 11 (nI v))) 5 11 = nI v
        unfold advF advH
        split
        · rw [hI_uI_n (by decide), hI_uI_s]
        · rw [hI_uI_s]
      · left
        rw [if_neg (fun z => q2 ((nI_leI (by omega) (by omega)).mp z.2)), if_neg (show ¬ nI v < nI lo from fun z => by have := (nI_ltI (by omega) (by omega)).mp z; omega), if_neg (show ¬ nI v ≤ nI hi from fun z => q2 ((nI_leI (by omega) (by omega)).mp z))]
        obtain ⟨b', e1, e2, e3⟩ := k.fail (w := 4) (by decide) (by decide)
        rw [show (4 : Int32) = nI 4 from rfl, e1, bd2_s, gdv_t (Or.inl rfl)]
        exact ⟨rfl, b', rfl, e2, e3⟩
    · left
      rw [if_neg (fun z => q1 ((nI_leI (by omega) (by omega)).mp z.1)), if_pos (show nI v < nI lo from (nI_ltI (by omega) (by omega)).mpr (by omega))]
      obtain ⟨b', e1, e2, e3⟩ := k.fail (w := 4) (by decide) (by decide)
      rw [show (4 : Int32) = nI 4 from rfl, e1, bd2_s, gdv_t (Or.inl rfl)]
      exact ⟨rfl, b', rfl, e2, e3⟩
  · left
    rw [if_neg h1, if_neg h2]
    obtain ⟨b', e1, e2, e3⟩ := k.fail (w := 2) (by decide) (by decide)
    rw [show (2 : Int32) = nI 2 from rfl, e1, bd2_s, gdv_t (Or.inl rfl)]
    exact ⟨rfl, b', rfl, e2, e3⟩
/-- is a word there: if so it is taken -/
theorem RD.there {T : Nat → Int32} {L n : Nat} {a b : HP} (k : RD T L n a b) {j : Nat} (hj : j < 22) : ((kA a = 4 ∧ vA a = nI j) ∧ ∃ b', f_X12_isThere b (nI (rwK j)) = some (1, b') ∧ FB b b' ∧ RD T L n (advF a) b') ∨ (¬ (kA a = 4 ∧ vA a = nI j) ∧ f_X12_isThere b (nI (rwK j)) = some (0, b)) := by
  obtain ⟨r, e, h1, _⟩ := k.isW
  have q := h1 j hj
  unfold f_X12_isThere
  rw [e, bd2_s]
  by_cases h : kA a = 4 ∧ vA a = nI j
  · left
    rw [if_pos (q.mp h)]
    obtain ⟨b', e1, e2, e3⟩ := k.adv
    rw [e1, bd1_s]
    exact ⟨h, b', rfl, e2, e3⟩
  · right
    rw [if_neg (fun z => h (q.mpr z))]
    exact ⟨h, rfl⟩
