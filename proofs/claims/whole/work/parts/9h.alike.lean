/-! ===== alike: a year lived: blocks ===== -/
def RyC (a b : HP) (t w r m e k : Nat) : Prop :=
  (hI a (t + 3 + 1) k = 9 ∧ hI b 114 (44 + 6 * k) = 9 ∧ ∃ f, 1 ≤ f ∧ f ≤ 99 ∧ hI a (t + 3 + 3) k = nI f ∧ hI b 114 (45 + 6 * k) = nI f) ∨
  (hI a (t + 3 + 1) k = 10 ∧ hI b 114 (44 + 6 * k) = 10 ∧ ∃ x z, x < w ∧ z < r ∧ hI a (t + 3 + 3) k = nI x ∧ hI b 114 (45 + 6 * k) = nI x ∧ hI a (t + 3 + 4) k = nI z ∧ hI b 114 (46 + 6 * k) = nI z) ∨
  (hI a (t + 3 + 1) k = 11 ∧ hI b 114 (44 + 6 * k) = 11 ∧ ∃ q, q < m ∧ hI a (t + 3 + 3) k = nI q ∧ hI b 114 (45 + 6 * k) = nI q) ∨
  (hI a (t + 3 + 1) k = 12 ∧ hI b 114 (44 + 6 * k) = 12) ∨
  (hI a (t + 3 + 1) k = 13 ∧ hI b 114 (44 + 6 * k) = 13 ∧ ∃ q, q ≤ 16 ∧ hI a (t + 3 + 3) k = nI q ∧ hI b 114 (45 + 6 * k) = nI q) ∨
  (hI a (t + 3 + 1) k = 14 ∧ hI b 114 (44 + 6 * k) = 14) ∨
  (hI a (t + 3 + 1) k = 15 ∧ ((hI a (t + 3 + 2) k = 18 ∧ hI b 114 (44 + 6 * k) = 1521) ∨
      (hI a (t + 3 + 2) k = 17 ∧ hI b 114 (44 + 6 * k) = 1520 ∧ ∃ x z, x < w ∧ z < r ∧ hI a (t + 3 + 3) k = nI x ∧ hI b 114 (45 + 6 * k) = nI x ∧ hI a (t + 3 + 4) k = nI z ∧ hI b 114 (46 + 6 * k) = nI z) ∨
      (hI b 114 (44 + 6 * k) = 1519 ∧ hI a (t + 3 + 2) k = hI b 114 (49 + 6 * k) ∧ (hI b 114 (49 + 6 * k) = 60 ∨ hI b 114 (49 + 6 * k) = 61 ∨ hI b 114 (49 + 6 * k) = 62) ∧ ∃ q, q ≤ 30 ∧ hI a (t + 3 + 3) k = nI q ∧ hI b 114 (45 + 6 * k) = nI q)) ∧
      ∃ p, k < p ∧ p < e ∧ hI a (t + 3 + 5) k = nI p ∧ hI b 114 (48 + 6 * k) = nI p ∧ hI a (t + 3 + 1) p = 20 ∧ hI a (t + 3 + 5) p = nI k) ∨
  (hI a (t + 3 + 1) k = 19 ∧ hI b 114 (44 + 6 * k) = 16 ∧ (∃ f, 1 ≤ f ∧ f ≤ 99 ∧ hI a (t + 3 + 3) k = nI f ∧ hI b 114 (45 + 6 * k) = nI f) ∧
      ∃ p, k < p ∧ p < e ∧ hI a (t + 3 + 5) k = nI p ∧ hI b 114 (48 + 6 * k) = nI p ∧ hI a (t + 3 + 1) p = 20 ∧ hI a (t + 3 + 5) p = nI k) ∨
  (hI a (t + 3 + 1) k = 20 ∧ hI b 114 (44 + 6 * k) = 17 ∧ ∃ p, p < k ∧ hI a (t + 3 + 5) k = nI p ∧ hI b 114 (48 + 6 * k) = nI p ∧ (hI a (t + 3 + 1) p = 15 ∨ hI a (t + 3 + 1) p = 19) ∧ hI a (t + 3 + 5) p = nI k) ∨
  (hI a (t + 3 + 1) k = 21 ∧ hI b 114 (44 + 6 * k) = 18)
theorem RyE.cs {a b : HP} {t w r m e k : Nat} (ht : t = 79 ∨ t = 96) (q : RyE (mx a b) (t + 3) 0 w r m e k) : RyC a b t w r m e k := by
  unfold RyE at q
  simp only [Nat.zero_add] at q
  rw [mxI_lo (c := t + 3 + 1) _ _ (by omega), mxI_lo (c := t + 3 + 2) _ _ (by omega), mxI_lo (c := t + 3 + 3) _ _ (by omega), mxI_lo (c := t + 3 + 4) _ _ (by omega), mxI_lo (c := t + 3 + 5) _ _ (by omega), mxI_hi (c := 114) _ _ (by omega)] at q
  exact q
def isBk (W : Nat → Int32) (k : Nat) : Prop := W k = 15 ∨ W k = 19
/-- a year's blocks -/
def Prog (W : Nat → Int32) (P : Nat → Nat) (e : Nat) : Prop :=
  (∀ k, k < e → isBk W k → k < P k ∧ P k < e ∧ W (P k) = 20 ∧ P (P k) = k) ∧ (∀ k, k < e → W k = 20 → P k < k ∧ isBk W (P k) ∧ P (P k) = k) ∧ ∀ i j, i < j → j < P i → P i < e → isBk W i → isBk W j → P j < P i
def paF (f : Nat → Int32) (k : Nat) : Nat := (f k).toNatClampNeg
theorem paF_e {f : Nat → Int32} {k p : Nat} (hp : p < 2 ^ 31) (e : f k = nI p) : paF f k = p := by unfold paF; rw [e, nI_clamp hp]
theorem prog_of {a b : HP} {t w r m e : Nat} (ht : t = 79 ∨ t = 96) (e60 : e ≤ 60) (q : ∀ k, k < e → RyE (mx a b) (t + 3) 0 w r m e k) (n : RyN (mx a b) (t + 3) e) : Prog (hI a (t + 3 + 1)) (paF (hI a (t + 3 + 5))) e := by
  have B : ∀ k, k < e → isBk (hI a (t + 3 + 1)) k → ∃ p, k < p ∧ p < e ∧ hI a (t + 3 + 5) k = nI p ∧ hI a (t + 3 + 1) p = 20 ∧ hI a (t + 3 + 5) p = nI k := fun k hk b => by
    rcases (q k hk).cs ht with ⟨x, -⟩ | ⟨x, -⟩ | ⟨x, -⟩ | ⟨x, -⟩ | ⟨x, -⟩ | ⟨x, -⟩ | ⟨x, -, p, p1, p2, p3, p4, p5, p6⟩ | ⟨x, -, -, p, p1, p2, p3, p4, p5, p6⟩ | ⟨x, -⟩ | ⟨x, -⟩
    · unfold isBk at b; rw [x] at b; rcases b with b | b <;> exact absurd b (by decide)
    · unfold isBk at b; rw [x] at b; rcases b with b | b <;> exact absurd b (by decide)
    · unfold isBk at b; rw [x] at b; rcases b with b | b <;> exact absurd b (by decide)
    · unfold isBk at b; rw [x] at b; rcases b with b | b <;> exact absurd b (by decide)
    · unfold isBk at b; rw [x] at b; rcases b with b | b <;> exact absurd b (by decide)
    · unfold isBk at b; rw [x] at b; rcases b with b | b <;> exact absurd b (by decide)
    · exact ⟨p, p1, p2, p3, p5, p6⟩
    · exact ⟨p, p1, p2, p3, p5, p6⟩
    · unfold isBk at b; rw [x] at b; rcases b with b | b <;> exact absurd b (by decide)
    · unfold isBk at b; rw [x] at b; rcases b with b | b <;> exact absurd b (by decide)
  have E : ∀ k, k < e → hI a (t + 3 + 1) k = 20 → ∃ p, p < k ∧ hI a (t + 3 + 5) k = nI p ∧ isBk (hI a (t + 3 + 1)) p ∧ hI a (t + 3 + 5) p = nI k := fun k hk b => by
    rcases (q k hk).cs ht with ⟨x, -⟩ | ⟨x, -⟩ | ⟨x, -⟩ | ⟨x, -⟩ | ⟨x, -⟩ | ⟨x, -⟩ | ⟨x, -⟩ | ⟨x, -⟩ | ⟨x, -, p, p1, p2, -, p4, p5⟩ | ⟨x, -⟩
    all_goals first
      | exact ⟨p, p1, p2, p4, p5⟩
      | (rw [x] at b; exact absurd b (by decide))
  refine ⟨fun k hk b => ?_, fun k hk b => ?_, fun i j ij jp pe bi bj => ?_⟩
  · obtain ⟨p, p1, p2, p3, p4, p5⟩ := B k hk b
    rw [paF_e (by omega) p3]
    exact ⟨p1, p2, p4, paF_e (by omega) p5⟩
  · obtain ⟨p, p1, p2, p3, p4⟩ := E k hk b
    rw [paF_e (by omega) p2]
    exact ⟨p1, p3, paF_e (by omega) p4⟩
  · have ie : i < e := by omega
    obtain ⟨p, p1, p2, p3, -, -⟩ := B i ie bi
    rw [paF_e (by omega) p3] at jp pe ⊢
    obtain ⟨x, x1, x2, x3, -, -⟩ := B j (by omega) bj
    rw [paF_e (by omega) x3]
    unfold RyN at n
    rw [mxI_lo (c := t + 3 + 1) _ _ (by omega), mxI_lo (c := t + 3 + 5) _ _ (by omega)] at n
    exact n i j p x ij jp p2 x2 bi bj p3 x3
def enc (W : Nat → Int32) (P : Nat → Nat) (o k : Nat) : Prop := isBk W o ∧ o < k ∧ k ≤ P o
theorem enc_on {W : Nat → Int32} {P : Nat → Nat} {e k : Nat} (G : Prog W P e) (hk : k < e) (n1 : ¬ isBk W k) (n2 : W k ≠ 20) {o : Nat} (ho : o < e) : enc W P o (k + 1) ↔ enc W P o k := by
  constructor
  · rintro ⟨b, o1, o2⟩
    by_cases q : o = k
    · rw [q] at b; exact absurd b n1
    · exact ⟨b, by omega, by omega⟩
  · rintro ⟨b, o1, o2⟩
    refine ⟨b, by omega, ?_⟩
    by_cases q : P o = k
    · have := (G.1 o ho b).2.2.1
      rw [q] at this; exact absurd this n2
    · omega
theorem enc_in {W : Nat → Int32} {P : Nat → Nat} {e k : Nat} (G : Prog W P e) (hk : k < e) (b0 : isBk W k) {o : Nat} (ho : o < e) : enc W P o (k + 1) ↔ enc W P o k ∨ o = k := by
  have pk := G.1 k hk b0
  constructor
  · rintro ⟨b, o1, o2⟩
    by_cases q : o = k
    · exact Or.inr q
    · exact Or.inl ⟨b, by omega, by omega⟩
  · rintro (⟨b, o1, o2⟩ | rfl)
    · refine ⟨b, by omega, ?_⟩
      by_cases q : P o = k
      · have := (G.1 o ho b).2.2.1
        rw [q] at this
        unfold isBk at b0
        rw [this] at b0
        rcases b0 with z | z <;> exact absurd z (by decide)
      · omega
    · exact ⟨b0, by omega, by omega⟩
theorem enc_no {W : Nat → Int32} {P : Nat → Nat} (k : Nat) : ¬ enc W P k k := fun h => by have := h.2.1; omega
theorem enc_skip {W : Nat → Int32} {P : Nat → Nat} {e k : Nat} (G : Prog W P e) (hk : k < e) (b0 : isBk W k) {o : Nat} (ho : o < e) : enc W P o (P k + 1) ↔ enc W P o k := by
  have pk := G.1 k hk b0
  constructor
  · rintro ⟨b, o1, o2⟩
    have ob := G.1 o ho b
    have n1 : o ≠ P k := fun q => by
      have := pk.2.2.1
      unfold isBk at b
      rw [q, this] at b
      rcases b with z | z <;> exact absurd z (by decide)
    have n2 : o ≠ k := fun q => by rw [q] at o2; omega
    by_cases q : k < o
    · have := G.2.2 k o q (by omega) pk.2.1 b0 b
      omega
    · exact ⟨b, by omega, by omega⟩
  · rintro ⟨b, o1, o2⟩
    have ob := G.1 o ho b
    have n1 : k ≠ P o := fun q => by
      have := ob.2.2.1
      rw [← q] at this
      unfold isBk at b0
      rw [this] at b0
      rcases b0 with z | z <;> exact absurd z (by decide)
    have := G.2.2 o k o1 (by omega) ob.2.1 b b0
    exact ⟨b, by omega, by omega⟩
theorem enc_out {W : Nat → Int32} {P : Nat → Nat} {e k : Nat} (G : Prog W P e) (hk : k < e) (b0 : W k = 20) {o : Nat} (ho : o < e) : enc W P o (k + 1) ↔ enc W P o k ∧ o ≠ P k := by
  obtain ⟨e1, e2, e3⟩ := G.2.1 k hk b0
  constructor
  · rintro ⟨b, o1, o2⟩
    have n1 : o ≠ k := fun q => by
      unfold isBk at b
      rw [q, b0] at b
      rcases b with z | z <;> exact absurd z (by decide)
    exact ⟨⟨b, by omega, by omega⟩, fun q => by rw [q, e3] at o2; omega⟩
  · rintro ⟨⟨b, o1, o2⟩, n⟩
    refine ⟨b, by omega, ?_⟩
    by_cases q : P o = k
    · have := (G.1 o ho b).2.2.2
      rw [q] at this; exact absurd this.symm n
    · omega
theorem enc_end {W : Nat → Int32} {P : Nat → Nat} {e k : Nat} (G : Prog W P e) (hk : k < e) (b0 : W k = 20) : enc W P (P k) k := by
  obtain ⟨e1, e2, e3⟩ := G.2.1 k hk b0
  exact ⟨e2, e1, by omega⟩
theorem enc_again {W : Nat → Int32} {P : Nat → Nat} {e k : Nat} (G : Prog W P e) (hk : k < e) (b0 : W k = 20) {o : Nat} (ho : o < e) : enc W P o (P k + 1) ↔ enc W P o k := by
  obtain ⟨e1, e2, e3⟩ := G.2.1 k hk b0
  have pk := G.1 (P k) (by omega) e2
  constructor
  · rintro ⟨b, o1, o2⟩
    have ob := G.1 o ho b
    by_cases q : o = P k
    · subst q; exact enc_end G hk b0
    · have := G.2.2 o (P k) (by omega) (by omega) ob.2.1 b e2
      exact ⟨b, by omega, by omega⟩
  · rintro ⟨b, o1, o2⟩
    have ob := G.1 o ho b
    by_cases q : o = P k
    · subst q; exact ⟨b, by omega, by omega⟩
    · have n1 : P o ≠ k := fun z => by
        have := ob.2.2.2
        rw [z] at this; exact q this.symm
      by_cases lt : o < P k
      · exact ⟨b, by omega, by omega⟩
      · have := G.2.2 (P k) o (by omega) (by omega) (by omega) e2 b
        omega
/-- the loops that are open: how often still, in the class and in the reference -/
def RLo (W : Nat → Int32) (P : Nat → Nat) (e : Nat) (rl lp : Nat → Int32) (k : Nat) : Prop := ∀ o, o < e → W o = 19 → enc W P o k → ∃ z, z ≤ 98 ∧ lp o = nI z ∧ rl o = nI (z + 1)
noncomputable def wtE (W : Nat → Int32) (P : Nat → Nat) (rl : Nat → Int32) (k o : Nat) : Nat := @ite Nat (enc W P o k) (Classical.propDecidable _) (if W o = 19 then paF rl o else 1) 0
theorem wtE_y {W : Nat → Int32} {P : Nat → Nat} {rl : Nat → Int32} {k o : Nat} (h : enc W P o k) : wtE W P rl k o = if W o = 19 then paF rl o else 1 := by unfold wtE; exact if_pos h
theorem wtE_n {W : Nat → Int32} {P : Nat → Nat} {rl : Nat → Int32} {k o : Nat} (h : ¬ enc W P o k) : wtE W P rl k o = 0 := by unfold wtE; exact if_neg h
noncomputable def pot (W : Nat → Int32) (P : Nat → Nat) (e : Nat) (rl : Nat → Int32) (k : Nat) : Nat := sumN e (wtE W P rl k)
theorem sumN_at {f g : Nat → Nat} {p : Nat} : ∀ {n : Nat}, p < n → (∀ i, i < n → i ≠ p → f i = g i) → sumN n f + g p = sumN n g + f p
  | 0, h, _ => absurd h (by omega)
  | n + 1, h, e => by
    show sumN n f + f n + g p = sumN n g + g n + f p
    by_cases q : p = n
    · subst q
      rw [sumN_c (fun i hi => e i (by omega) (by omega))]; omega
    · have := sumN_at (f := f) (g := g) (p := p) (n := n) (by omega) (fun i hi => e i (by omega))
      have := e n (by omega) (fun z => q z.symm)
      omega
theorem wtE_c {W : Nat → Int32} {P : Nat → Nat} {rl rl' : Nat → Int32} {k k' o : Nat} (h : enc W P o k' ↔ enc W P o k) (e : rl' o = rl o) : wtE W P rl' k' o = wtE W P rl k o := by
  by_cases q : enc W P o k
  · rw [wtE_y q, wtE_y (h.mpr q)]; unfold paF; rw [e]
  · rw [wtE_n q, wtE_n (fun z => q (h.mp z))]
theorem pot_c {W : Nat → Int32} {P : Nat → Nat} {e : Nat} {rl : Nat → Int32} {k k' : Nat} (h : ∀ o, o < e → (enc W P o k' ↔ enc W P o k)) : pot W P e rl k' = pot W P e rl k := sumN_c (fun o ho => wtE_c (h o ho) rfl)
/-- ends that are come to are gone behind by both alike -/
theorem ends_e {t v w r m c e : Nat} {j : Bool} (ht : t = 79 ∨ t = 96) (hv : v = 75 ∨ v = 77) {a b : HP} (e60 : e ≤ 60) (k6 : hI a (t + 3) 6 = nI e) (k11 : hI b 114 11 = nI e) (q : ∀ k, k < e → RyE (mx a b) (t + 3) 0 w r m e k) (nn : RyN (mx a b) (t + 3) e) : ∀ N k i n fu rl lp, pot (hI a (t + 3 + 1)) (paF (hI a (t + 3 + 5))) e rl k ≤ N → N < fu → N < n → i + N < 100000 → k ≤ e → RLo (hI a (t + 3 + 1)) (paF (hI a (t + 3 + 5))) e rl lp k →
    ∃ k' i' n' rl' lp', f_X2_liveBy_46 v t n (nI k) (nI i) (rI a (v + 1) rl) = f_X2_liveBy_46 v t n' (nI k') (nI i') (rI a (v + 1) rl') ∧ f_X12_behindEnds_2 fu (nI k) (rI b 127 lp) = some (nI k', rI b 127 lp') ∧ n' + i' = n + i ∧ i' + pot (hI a (t + 3 + 1)) (paF (hI a (t + 3 + 5))) e rl' k' ≤ i + pot (hI a (t + 3 + 1)) (paF (hI a (t + 3 + 5))) e rl k ∧ i ≤ i' ∧ k' ≤ e ∧ (k' < e → hI a (t + 3 + 1) k' ≠ 20) ∧ RLo (hI a (t + 3 + 1)) (paF (hI a (t + 3 + 5))) e rl' lp' k'
  | N, k, i, n, 0, rl, lp, _, z, _, _, _, _ => absurd z (by omega)
  | N, k, i, 0, fu + 1, rl, lp, _, _, z, _, _, _ => absurd z (by omega)
  | N, k, i, n + 1, fu + 1, rl, lp, hp, hf, hn, hi, hk, R => by
    have G := prog_of ht e60 q nn
    obtain ⟨W, eW⟩ : ∃ W, W = hI a (t + 3 + 1) := ⟨_, rfl⟩
    obtain ⟨P, eP⟩ : ∃ P, P = paF (hI a (t + 3 + 5)) := ⟨_, rfl⟩
    have ih := fun N' (hN' : N' < N) => ends_e (c := c) (j := j) ht hv e60 k6 k11 q nn N'
    rw [← eW, ← eP] at G hp R ih ⊢
    have ra : ∀ f p, p ≠ v + 1 → hI (rI a (v + 1) f) p = hI a p := fun f p hp => hI_rI_n _ _ hp
    have rb : ∀ f p, p ≠ 127 → hI (rI b 127 f) p = hI b p := fun f p hp => hI_rI_n _ _ hp
    by_cases ke : k < e
    · by_cases w20 : W k = 20
      · obtain ⟨g1, g2, g3⟩ := G.2.1 k ke w20
        have en := enc_end G ke w20
        have rd : hI b 114 (44 + 6 * k) = 17 ∧ hI a (t + 3 + 5) k = nI (P k) ∧ hI b 114 (48 + 6 * k) = nI (P k) := by
          rcases (q k ke).cs ht with ⟨x, -⟩ | ⟨x, -⟩ | ⟨x, -⟩ | ⟨x, -⟩ | ⟨x, -⟩ | ⟨x, -⟩ | ⟨x, -⟩ | ⟨x, -⟩ | ⟨x, y, p, p1, p2, p3, -⟩ | ⟨x, -⟩
          all_goals first
            | (have := paF_e (by omega) p2; rw [← eP] at this; rw [this]; exact ⟨y, p2, p3⟩)
            | (rw [← eW, w20] at x; exact absurd x (by decide))
        obtain ⟨r1, r2, r3⟩ := rd
        have op : (W (P k) = 19 ∧ hI b 114 (44 + 6 * P k) = 16) ∨ (W (P k) ≠ 19 ∧ hI b 114 (44 + 6 * P k) ≠ 16) := by
          rcases (q (P k) (by omega)).cs ht with ⟨x, -⟩ | ⟨x, -⟩ | ⟨x, -⟩ | ⟨x, -⟩ | ⟨x, -⟩ | ⟨x, -⟩ | ⟨x, y, -⟩ | ⟨x, y, -⟩ | ⟨x, -⟩ | ⟨x, -⟩
          · rw [← eW] at x; unfold isBk at g2; rw [x] at g2; rcases g2 with z | z <;> exact absurd z (by decide)
          · rw [← eW] at x; unfold isBk at g2; rw [x] at g2; rcases g2 with z | z <;> exact absurd z (by decide)
          · rw [← eW] at x; unfold isBk at g2; rw [x] at g2; rcases g2 with z | z <;> exact absurd z (by decide)
          · rw [← eW] at x; unfold isBk at g2; rw [x] at g2; rcases g2 with z | z <;> exact absurd z (by decide)
          · rw [← eW] at x; unfold isBk at g2; rw [x] at g2; rcases g2 with z | z <;> exact absurd z (by decide)
          · rw [← eW] at x; unfold isBk at g2; rw [x] at g2; rcases g2 with z | z <;> exact absurd z (by decide)
          · rw [← eW] at x
            refine Or.inr ⟨by rw [x]; decide, ?_⟩
            rcases y with ⟨-, y⟩ | ⟨-, y, -⟩ | ⟨y, -⟩ <;> rw [y] <;> decide
          · rw [← eW] at x; exact Or.inl ⟨x, y⟩
          · rw [← eW] at x; unfold isBk at g2; rw [x] at g2; rcases g2 with z | z <;> exact absurd z (by decide)
          · rw [← eW] at x; unfold isBk at g2; rw [x] at g2; rcases g2 with z | z <;> exact absurd z (by decide)
        -- the class's round
        have cl : f_X2_liveBy_46 v t (n + 1) (nI k) (nI i) (rI a (v + 1) rl) = bd2 (f_X2_leaveBlock (rI a (v + 1) rl) v (t + 3) (nI k)) fun r21 h20 => f_X2_liveBy_46 v t n r21 (nI (i + 1)) h20 := by
          show (if (100000 : Int32) ≤ nI i then _ else _) = _
          rw [if_neg (show ¬ (100000 : Int32) ≤ nI i by rw [show (100000 : Int32) = nI 100000 from rfl, nI_leI (by omega) (by omega)]; omega), ra _ _ (by omega), k6, if_neg (show ¬ nI e ≤ nI k by rw [nI_leI (by omega) (by omega)]; omega), gdi_nI (by omega) (by decide), nI_clamp (by omega), ra _ _ (by omega), ← eW, if_pos w20]
          simp only [ltv_e, nI_1]
        have lb : f_X2_leaveBlock (rI a (v + 1) rl) v (t + 3) (nI k) = (if W (P k) = 19 then (if rl (P k) - 1 ≤ 0 then some (nI (k + 1), rI a (v + 1) (upd rl (P k) (rl (P k) - 1))) else some (nI (P k + 1), rI a (v + 1) (upd rl (P k) (rl (P k) - 1)))) else some (nI (k + 1), rI a (v + 1) rl)) := by
          have uu : uI (rI a (v + 1) rl) (v + 1) (P k) (hI (rI a (v + 1) rl) (v + 1) (P k) - 1) = rI a (v + 1) (upd rl (P k) (rl (P k) - 1)) := by unfold uI; rw [hI_rI_s, rI_rI]
          have u2 : upd rl (P k) (rl (P k) - 1) (P k) = rl (P k) - 1 := if_pos rfl
          unfold f_X2_leaveBlock
          rw [gdi_nI (by omega) (by decide), ltv_e, nI_clamp (by omega), ra _ _ (by omega), r2, gdi_nI (by omega) (by decide), nI_clamp (by omega), ra _ _ (by omega), ← eW]
          by_cases w19 : W (P k) = 19
          · rw [if_pos w19, if_pos w19, gdi_nI (by omega) (by decide), gdi_nI (by omega) (by decide), uu, ltv_e, gdi_nI (by omega) (by decide), hI_rI_s, u2, nI_1, nI_1]
          · rw [if_neg w19, if_neg w19, nI_1]
        have be : f_X12_behindEnds_2 (fu + 1) (nI k) (rI b 127 lp) = (if hI b 114 (44 + 6 * P k) = 16 then (if lp (P k) ≤ 0 then f_X12_behindEnds_2 fu (nI (k + 1)) (rI b 127 (upd lp (P k) (lp (P k) - 0))) else f_X12_behindEnds_2 fu (nI (P k + 1)) (rI b 127 (upd lp (P k) (lp (P k) - 1)))) else f_X12_behindEnds_2 fu (nI (k + 1)) (rI b 127 (upd lp (P k) (lp (P k) - 0)))) := by
          have x6 : ∀ y, (44 : Int32) + (6 : Int32) * nI y = nI (44 + 6 * y) := fun y => by rw [show (44 : Int32) = nI 44 from rfl, show (6 : Int32) = nI 6 from rfl, nI_mul, nI_add]
          have x4 : nI (44 + 6 * k) + 4 = nI (48 + 6 * k) := by rw [show (4 : Int32) = nI 4 from rfl, nI_add, show 44 + 6 * k + 4 = 48 + 6 * k by omega]
          have uu : ∀ x, uI (rI b 127 lp) 127 (P k) x = rI b 127 (upd lp (P k) x) := fun x => by unfold uI; rw [hI_rI_s, rI_rI]
          have e0 : f_X12_behindEnds_76 (f_X12_behindEnds_2 fu) (nI k) (nI (P k)) 0 (rI b 127 lp) = f_X12_behindEnds_2 fu (nI (k + 1)) (rI b 127 (upd lp (P k) (lp (P k) - 0))) := by
            unfold f_X12_behindEnds_76 f_X12_behindEnds_95
            rw [gdi_nI (by omega) (by decide), if_pos rfl, gdi_nI (by omega) (by decide), nI_clamp (by omega), hI_rI_s, uu, ltv_e, if_pos rfl, ltv_e, nI_1]
          have e1 : f_X12_behindEnds_76 (f_X12_behindEnds_2 fu) (nI k) (nI (P k)) 1 (rI b 127 lp) = f_X12_behindEnds_2 fu (nI (P k + 1)) (rI b 127 (upd lp (P k) (lp (P k) - 1))) := by
            unfold f_X12_behindEnds_76 f_X12_behindEnds_95
            rw [gdi_nI (by omega) (by decide), if_neg (by decide), gdi_nI (by omega) (by decide), nI_clamp (by omega), hI_rI_s, uu, ltv_e, if_neg (by decide), ltv_e, nI_1]
          show (if hI (rI b 127 lp) 114 11 ≤ nI k then _ else _) = _
          rw [rb lp 114 (by decide), k11, if_neg (show ¬ nI e ≤ nI k by rw [nI_leI (by omega) (by omega)]; omega), x6, gdi_nI (by omega) (by decide), nI_clamp (by omega), r1, if_pos rfl, x4, gdi_nI (by omega) (by decide), ltv_e, nI_clamp (by omega), r3, x6, gdi_nI (by omega) (by decide), nI_clamp (by omega)]
          by_cases w16 : hI b 114 (44 + 6 * P k) = 16
          · rw [if_pos w16, if_pos w16, gdi_nI (by omega) (by decide), nI_clamp (by omega), hI_rI_s]
            by_cases l0 : lp (P k) ≤ 0
            · rw [if_pos l0, if_pos l0]; exact e0
            · rw [if_neg l0, if_neg l0]; exact e1
          · rw [if_neg w16, if_neg w16]; exact e0
        have un : ∀ (f : Nat → Int32) x o, o ≠ P k → upd f (P k) x o = f o := fun f x o ho => if_neg ho
        have us : ∀ (f : Nat → Int32) x, upd f (P k) x (P k) = x := fun f x => if_pos rfl
        -- a block is left
        have leave : ∀ rl' lp', (∀ o, o ≠ P k → rl' o = rl o) → (∀ o, o ≠ P k → lp' o = lp o) → wtE W P rl k (P k) = 1 → f_X2_liveBy_46 v t (n + 1) (nI k) (nI i) (rI a (v + 1) rl) = f_X2_liveBy_46 v t n (nI (k + 1)) (nI (i + 1)) (rI a (v + 1) rl') → f_X12_behindEnds_2 (fu + 1) (nI k) (rI b 127 lp) = f_X12_behindEnds_2 fu (nI (k + 1)) (rI b 127 lp') →
            ∃ k' i' n' rl' lp', f_X2_liveBy_46 v t (n + 1) (nI k) (nI i) (rI a (v + 1) rl) = f_X2_liveBy_46 v t n' (nI k') (nI i') (rI a (v + 1) rl') ∧ f_X12_behindEnds_2 (fu + 1) (nI k) (rI b 127 lp) = some (nI k', rI b 127 lp') ∧ n' + i' = n + 1 + i ∧ i' + pot W P e rl' k' ≤ i + pot W P e rl k ∧ i ≤ i' ∧ k' ≤ e ∧ (k' < e → W k' ≠ 20) ∧ RLo W P e rl' lp' k' := fun rl' lp' h1 h2 h3 c1 c2 => by
          have pe : pot W P e rl' (k + 1) + 1 = pot W P e rl k := by
            have := sumN_at (f := wtE W P rl' (k + 1)) (g := wtE W P rl k) (p := P k) (n := e) (by omega) (fun o ho ne => wtE_c ⟨fun z => ((enc_out G ke w20 ho).mp z).1, fun z => (enc_out G ke w20 ho).mpr ⟨z, ne⟩⟩ (h1 o ne))
            rw [h3, wtE_n (k := k + 1) (o := P k) (fun z => ((enc_out G ke w20 (by omega)).mp z).2 rfl)] at this
            exact this
          obtain ⟨k', i', n', rl2, lp2, d1, d2, d3, d4, d5, d6, d7, d8⟩ := ih (N - 1) (by omega) (k + 1) (i + 1) n fu rl' lp' (by omega) (by omega) (by omega) (by omega) (by omega) (fun o ho w19 en => by
            obtain ⟨en1, ne⟩ := (enc_out G ke w20 ho).mp en
            rw [h1 o ne, h2 o ne]; exact R o ho w19 en1)
          exact ⟨k', i', n', rl2, lp2, c1.trans d1, c2.trans d2, by omega, by omega, by omega, d6, d7, d8⟩
        rcases op with ⟨w19, w16⟩ | ⟨w19, w16⟩
        · obtain ⟨z, z98, zl, zr⟩ := R (P k) (by omega) w19 en
          rw [if_pos w19, zr, show nI (z + 1) - 1 = nI z from nI_sub (a := z + 1) (b := 1) (by omega)] at lb
          rw [if_pos w16, zl] at be
          by_cases z0 : z = 0
          · subst z0
            rw [if_pos (show nI 0 ≤ 0 by decide)] at lb be
            refine leave _ _ (un _ _) (un _ _) ?_ (by rw [cl, lb, bd2_s]) be
            rw [wtE_y en, if_pos w19]; exact paF_e (by decide) zr
          · rw [if_neg (show ¬ nI z ≤ 0 by rw [show (0 : Int32) = nI 0 from rfl, nI_leI (by omega) (by omega)]; omega)] at lb be
            rw [show nI z - 1 = nI (z - 1) from nI_sub (a := z) (b := 1) (by omega)] at be
            have pe : pot W P e (upd rl (P k) (nI z)) (P k + 1) + 1 = pot W P e rl k := by
              have := sumN_at (f := wtE W P (upd rl (P k) (nI z)) (P k + 1)) (g := wtE W P rl k) (p := P k) (n := e) (by omega) (fun o ho ne => wtE_c (enc_again G ke w20 ho) (un _ _ o ne))
              rw [wtE_y en, if_pos w19, wtE_y ((enc_again G ke w20 (by omega)).mpr en), if_pos w19, paF_e (by omega) zr, paF_e (by omega) (us _ _)] at this
              unfold pot; omega
            obtain ⟨k', i', n', rl2, lp2, d1, d2, d3, d4, d5, d6, d7, d8⟩ := ih (N - 1) (by omega) (P k + 1) (i + 1) n fu (upd rl (P k) (nI z)) (upd lp (P k) (nI (z - 1))) (by omega) (by omega) (by omega) (by omega) (by omega) (fun o ho o19 eo => by
              by_cases ne : o = P k
              · subst ne
                rw [us, us]
                exact ⟨z - 1, by omega, rfl, by rw [show z - 1 + 1 = z by omega]⟩
              · rw [un _ _ o ne, un _ _ o ne]
                exact R o ho o19 ((enc_again G ke w20 ho).mp eo))
            exact ⟨k', i', n', rl2, lp2, by rw [cl, lb, bd2_s]; exact d1, be.trans d2, by omega, by omega, by omega, d6, d7, d8⟩
        · rw [if_neg w19] at lb
          rw [if_neg w16] at be
          refine leave rl _ (fun _ _ => rfl) (un _ _) ?_ (by rw [cl, lb, bd2_s]) be
          rw [wtE_y en, if_neg w19]
      · refine ⟨k, i, n + 1, rl, lp, rfl, ?_, rfl, Nat.le_refl _, Nat.le_refl _, hk, fun _ => w20, R⟩
        have x6 : (44 : Int32) + (6 : Int32) * nI k = nI (44 + 6 * k) := by rw [show (44 : Int32) = nI 44 from rfl, show (6 : Int32) = nI 6 from rfl, nI_mul, nI_add]
        have n17 : hI b 114 (44 + 6 * k) ≠ 17 := by
          rcases (q k ke).cs ht with ⟨x, y, -⟩ | ⟨x, y, -⟩ | ⟨x, y, -⟩ | ⟨x, y⟩ | ⟨x, y, -⟩ | ⟨x, y⟩ | ⟨x, y, -⟩ | ⟨x, y, -⟩ | ⟨x, y, -⟩ | ⟨x, y⟩
          · rw [y]; decide
          · rw [y]; decide
          · rw [y]; decide
          · rw [y]; decide
          · rw [y]; decide
          · rw [y]; decide
          · rcases y with ⟨-, y⟩ | ⟨-, y, -⟩ | ⟨y, -⟩ <;> rw [y] <;> decide
          · rw [y]; decide
          · rw [← eW] at x; exact absurd x w20
          · rw [y]; decide
        show (if hI (rI b 127 lp) 114 11 ≤ nI k then _ else _) = _
        rw [rb lp 114 (by decide), k11, if_neg (show ¬ nI e ≤ nI k by rw [nI_leI (by omega) (by omega)]; omega), x6, gdi_nI (by omega) (by decide), nI_clamp (by omega), if_neg n17]
    · refine ⟨k, i, n + 1, rl, lp, rfl, ?_, rfl, Nat.le_refl _, Nat.le_refl _, hk, fun z => absurd z ke, R⟩
      show (if hI (rI b 127 lp) 114 11 ≤ nI k then _ else _) = _
      rw [rb lp 114 (by decide), k11, if_pos (show nI e ≤ nI k by rw [nI_leI (by omega) (by omega)]; omega)]
termination_by N => N
