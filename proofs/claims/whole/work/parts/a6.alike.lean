/-! ===== year: the entries so far ===== -/
/-- entry k of e so far -/
def EY (a b : HP) (y w r m e k : Nat) : Prop :=
  (OD a b y (1684 + 6 * k) w r m k ∧ ((hI a (y + 1) k = 15 ∨ hI a (y + 1) k = 19) → hI a (y + 5) k = nI k ∨ ∃ p, k < p ∧ p < e ∧ hI a (y + 5) k = nI p ∧ hI b 114 (1688 + 6 * k) = nI p ∧ hI a (y + 1) p = 20 ∧ hI a (y + 5) p = nI k)) ∨
  (hI a (y + 1) k = 20 ∧ hI b 114 (1684 + 6 * k) = 17 ∧ ∃ p, p < k ∧ hI a (y + 5) k = nI p ∧ hI b 114 (1688 + 6 * k) = nI p ∧ (hI a (y + 1) p = 15 ∨ hI a (y + 1) p = 19) ∧ hI a (y + 5) p = nI k)
/-- e entries, s steps, d blocks open, st: where they stand -/
def YS (a b : HP) (y w r m e s d : Nat) (st : Nat → Nat) : Prop :=
  (e ≤ 60 ∧ hI a y 6 = nI e ∧ hI b 114 1651 = nI e ∧ hI a y 5 = 1) ∧
  (s ≤ 30 ∧ hI a y 7 = nI s ∧ hI b 113 22 = nI s ∧ e + d ≤ 2 * s) ∧
  (d ≤ 3 ∧ hI b 113 21 = nI d ∧ (∀ i, i < d → hI b 121 i = nI (st i) ∧ st i < e ∧ openB a y (st i) = true) ∧ (∀ i j, i < j → j < d → st i < st j) ∧ ∀ k, k < e → openB a y k = true → ∃ i, i < d ∧ st i = k) ∧
  fb_ct (openB a y) e = d ∧
  (∀ k, k < e → EY a b y w r m e k) ∧ RyN a y e ∧
  ∀ i p j, i < j → j < p → p < e → (hI a (y + 1) i = 15 ∨ hI a (y + 1) i = 19) → hI a (y + 5) i = nI p → openB a y j = false
theorem OD.keep {a a' b b' : HP} {y x w r m e : Nat} (h : OD a b y x w r m e) (f : ∀ c, 1 ≤ c → c ≤ 4 → hI a' (y + c) e = hI a (y + c) e) (g : ∀ j, x ≤ j → j ≤ x + 5 → j ≠ x + 4 → hI b' 114 j = hI b 114 j) : OD a' b' y x w r m e := by
  unfold OD TD at h ⊢
  rw [f 1 (by decide) (by decide), f 2 (by decide) (by decide), f 3 (by decide) (by decide), f 4 (by decide) (by decide), g x (by omega) (by omega) (by omega), g (x + 1) (by omega) (by omega) (by omega), g (x + 2) (by omega) (by omega) (by omega), g (x + 5) (by omega) (by omega) (by omega)]
  exact h
theorem fb_ct_cg {p q : Nat → Bool} : ∀ n, (∀ k, k < n → p k = q k) → fb_ct p n = fb_ct q n
  | 0, _ => rfl
  | n + 1, h => by rw [fb_ct_succ, fb_ct_succ, fb_ct_cg n (fun k hk => h k (by omega)), h n (by omega)]
theorem openB_cg {a a' : HP} {y k : Nat} (h1 : hI a' (y + 1) k = hI a (y + 1) k) (h5 : hI a' (y + 5) k = hI a (y + 5) k) : openB a' y k = openB a y k := by
  unfold openB; rw [h1, h5]
/-- an order more -/
theorem YS.add {a b A B : HP} {y w r m e s d : Nat} {st : Nat → Nat} {wd : Nat} (S : YS a b y w r m e s d st) (hs : s < 30) (hw : isOW wd) (hd : (wd = 15 ∨ wd = 19) → d < 3)
    (f : ∀ c k, 1 ≤ c → c ≤ 5 → k ≠ e → hI A (y + c) k = hI a (y + c) k) (f1 : hI A (y + 1) e = nI wd) (f5 : hI A (y + 5) e = nI e) (f6 : hI A y 6 = nI (e + 1)) (f7 : hI A y 7 = nI (s + 1)) (f55 : hI A y 5 = 1)
    (g : ∀ j, 1684 ≤ j → j < 1684 + 6 * e → hI B 114 j = hI b 114 j) (g1 : hI B 114 1651 = nI (e + 1)) (g2 : hI B 113 22 = nI (s + 1)) (od : OD A B y (1684 + 6 * e) w r m e)
    (h : ((wd = 15 ∨ wd = 19) ∧ hI B 113 21 = nI (d + 1) ∧ (∀ i, i ≠ d → hI B 121 i = hI b 121 i) ∧ hI B 121 d = nI e) ∨ (¬ (wd = 15 ∨ wd = 19) ∧ hI B 113 21 = nI d ∧ hI B 121 = hI b 121)) :
    ∃ d' st', YS A B y w r m (e + 1) (s + 1) d' st' := by
  obtain ⟨⟨a1, a2, a3, a4⟩, ⟨b1, b2, b3, b4⟩, ⟨c1, c2, c3, c4, c5⟩, e1, e2, e3, e4⟩ := S
  have w31 : wd < 2 ^ 31 := by unfold isOW at hw; omega
  have ob : ∀ k, k ≠ e → openB A y k = openB a y k := fun k hk => openB_cg (f 1 k (by decide) (by decide) hk) (f 5 k (by decide) (by decide) hk)
  have oe : openB A y e = decide (wd = 15 ∨ wd = 19) := by
    unfold openB
    rw [f1, f5]
    refine decide_eq_decide.mpr ⟨fun z => ?_, fun z => ⟨?_, rfl⟩⟩
    · rcases z.1 with z | z
      · exact Or.inl (nI_inj (b := 15) w31 (by decide) z)
      · exact Or.inr (nI_inj (b := 19) w31 (by decide) z)
    · rcases z with rfl | rfl
      · exact Or.inl rfl
      · exact Or.inr rfl
  have n20 : ∀ v : Int32, hI A (y + 1) e = v → v ≠ 20 := fun v hv q => by
    rw [f1] at hv
    rw [q] at hv
    have := nI_inj (b := 20) w31 (by decide) hv
    unfold isOW at hw; omega
  have ey : ∀ k, k < e + 1 → EY A B y w r m (e + 1) k := by
    intro k hk
    by_cases z : k = e
    · subst z
      exact Or.inl ⟨od, fun _ => Or.inl f5⟩
    · have hk' : k < e := by omega
      rcases e2 k hk' with ⟨q1, q2⟩ | ⟨q1, q2, p, q3, q4, q5, q6, q7⟩
      · refine Or.inl ⟨q1.keep (fun c h1 h2 => f c k h1 (by omega) z) (fun j h1 h2 _ => g j (by omega) (by omega)), fun hb => ?_⟩
        rw [f 1 k (by decide) (by decide) z] at hb
        rcases q2 hb with q | ⟨p, p1, p2, p3, p4, p5, p6⟩
        · left; rw [f 5 k (by decide) (by decide) z]; exact q
        · right
          exact ⟨p, p1, by omega, by rw [f 5 k (by decide) (by decide) z]; exact p3, by rw [g _ (by omega) (by omega)]; exact p4, by rw [f 1 p (by decide) (by decide) (by omega)]; exact p5, by rw [f 5 p (by decide) (by decide) (by omega)]; exact p6⟩
      · refine Or.inr ⟨by rw [f 1 k (by decide) (by decide) z]; exact q1, by rw [g _ (by omega) (by omega)]; exact q2, p, q3, by rw [f 5 k (by decide) (by decide) z]; exact q4, by rw [g _ (by omega) (by omega)]; exact q5, ?_, by rw [f 5 p (by decide) (by decide) (by omega)]; exact q7⟩
        rw [f 1 p (by decide) (by decide) (by omega)]; exact q6
  have cl : ∀ i p, i < e → (hI a (y + 1) i = 15 ∨ hI a (y + 1) i = 19) → hI a (y + 5) i = nI p → p < 2 ^ 31 → i < p → p < e := by
    intro i p hi hb h5 hp hip
    rcases e2 i hi with ⟨_, q2⟩ | ⟨q1, _⟩
    · rcases q2 hb with q | ⟨p', p1, p2, p3, _⟩
      · have := nI_inj hp (by omega) (h5.symm.trans q); omega
      · have := nI_inj hp (by omega) (h5.symm.trans p3); omega
    · rw [q1] at hb; exact absurd hb (by decide)
  have rn : RyN A y (e + 1) := by
    intro i j p q hij hjp hp hq hbi hbj h5i h5j
    have ie : i ≠ e := by omega
    have je : j ≠ e := by omega
    rw [f 1 i (by decide) (by decide) ie] at hbi
    rw [f 1 j (by decide) (by decide) je] at hbj
    rw [f 5 i (by decide) (by decide) ie] at h5i
    rw [f 5 j (by decide) (by decide) je] at h5j
    have pe : p < e := cl i p (by omega) hbi h5i (by omega) (by omega)
    by_cases hqj : j < q
    · have qe : q < e := cl j q (by omega) hbj h5j (by omega) hqj
      exact e3 i j p q hij hjp pe qe hbi hbj h5i h5j
    · omega
  have nx : ∀ i p j, i < j → j < p → p < e + 1 → (hI A (y + 1) i = 15 ∨ hI A (y + 1) i = 19) → hI A (y + 5) i = nI p → openB A y j = false := by
    intro i p j hij hjp hp hb h5
    have ie : i ≠ e := by omega
    have je : j ≠ e := by omega
    rw [f 1 i (by decide) (by decide) ie] at hb
    rw [f 5 i (by decide) (by decide) ie] at h5
    rw [ob j je]
    exact e4 i p j hij hjp (cl i p (by omega) hb h5 (by omega) (by omega)) hb h5
  have ct : fb_ct (openB A y) (e + 1) = d + (if decide (wd = 15 ∨ wd = 19) = true then 1 else 0) := by
    rw [fb_ct_succ, oe, fb_ct_cg e (fun k hk => ob k (by omega)), e1]
  rcases h with ⟨hb, h1, h2, h3⟩ | ⟨hb, h1, h2⟩
  · have hd3 := hd hb
    obtain ⟨sf, s1, s2⟩ : ∃ sf : Nat → Nat, (∀ i, i < d → sf i = st i) ∧ sf d = e := ⟨fun i => if i < d then st i else e, fun i hi => if_pos hi, if_neg (Nat.lt_irrefl d)⟩
    refine ⟨d + 1, sf, ⟨by omega, f6, g1, f55⟩, ⟨by omega, f7, g2, by omega⟩, ⟨by omega, h1, fun i hi => ?_, fun i j hij hj => ?_, fun k hk hok => ?_⟩, ?_, ey, rn, nx⟩
    · by_cases z : i < d
      · have q := c3 i z
        rw [s1 i z, h2 i (by omega), ob _ (by omega)]
        exact ⟨q.1, by omega, q.2.2⟩
      · rw [show i = d by omega, s2, oe]
        exact ⟨h3, by omega, decide_eq_true hb⟩
    · rw [s1 i (by omega)]
      by_cases z : j < d
      · rw [s1 j z]; exact c4 i j hij z
      · rw [show j = d by omega, s2]; exact (c3 i (by omega)).2.1
    · by_cases z : k = e
      · exact ⟨d, by omega, by rw [s2, z]⟩
      · rw [ob k z] at hok
        obtain ⟨i, hi, ei⟩ := c5 k (by omega) hok
        exact ⟨i, by omega, by rw [s1 i hi]; exact ei⟩
    · rw [ct, if_pos (decide_eq_true hb)]
  · refine ⟨d, st, ⟨by omega, f6, g1, f55⟩, ⟨by omega, f7, g2, by omega⟩, ⟨c1, h1, fun i hi => ?_, c4, fun k hk hok => ?_⟩, ?_, ey, rn, nx⟩
    · rw [h2, ob _ (by have := (c3 i hi).2.1; omega)]
      exact ⟨(c3 i hi).1, by have := (c3 i hi).2.1; omega, (c3 i hi).2.2⟩
    · by_cases z : k = e
      · rw [z, oe, decide_eq_false hb] at hok; cases hok
      · rw [ob k z] at hok
        exact c5 k (by omega) hok
    · rw [ct, if_neg (by rw [decide_eq_false hb]; decide), Nat.add_zero]
/-- the end of the last open block -/
theorem YS.fin {a b A B : HP} {y w r m e s d q : Nat} {st : Nat → Nat} (S : YS a b y w r m e s (d + 1) st) (hq : q = st d)
    (f : ∀ c k, 1 ≤ c → c ≤ 5 → k ≠ e → ¬ (c = 5 ∧ k = q) → hI A (y + c) k = hI a (y + c) k) (f1 : hI A (y + 1) e = 20) (f5 : hI A (y + 5) e = nI q) (fq : hI A (y + 5) q = nI e) (f6 : hI A y 6 = nI (e + 1)) (f7 : hI A y 7 = nI s) (f55 : hI A y 5 = 1)
    (g : ∀ j, 1684 ≤ j → j < 1684 + 6 * e → j ≠ 1688 + 6 * q → hI B 114 j = hI b 114 j) (g1 : hI B 114 1651 = nI (e + 1)) (g2 : hI B 113 22 = nI s) (gx : hI B 114 (1684 + 6 * e) = 17) (gy : hI B 114 (1688 + 6 * e) = nI q) (gq : hI B 114 (1688 + 6 * q) = nI e)
    (h1 : hI B 113 21 = nI d) (h2 : hI B 121 = hI b 121) : YS A B y w r m (e + 1) s d st := by
  obtain ⟨⟨a1, a2, a3, a4⟩, ⟨b1, b2, b3, b4⟩, ⟨c1, c2, c3, c4, c5⟩, e1, e2, e3, e4⟩ := S
  have cd := c3 d (by omega)
  rw [← hq] at cd
  obtain ⟨cd1, cd2, cd3⟩ := cd
  have oq : (hI a (y + 1) q = 15 ∨ hI a (y + 1) q = 19) ∧ hI a (y + 5) q = nI q := of_decide_eq_true cd3
  have ob : ∀ k, k ≠ e → k ≠ q → openB A y k = openB a y k := fun k hk hkq => openB_cg (f 1 k (by decide) (by decide) hk (by omega)) (f 5 k (by decide) (by decide) hk (by omega))
  have oe : openB A y e = false := by
    unfold openB; rw [f1]; exact decide_eq_false (fun z => z.1.elim (fun z => absurd z (by decide)) (fun z => absurd z (by decide)))
  have oqn : openB A y q = false := by
    unfold openB; rw [fq]; exact decide_eq_false (fun z => by have := nI_inj (by omega) (by omega) z.2; omega)
  have last : ∀ k, q < k → k < e → openB a y k = false := by
    intro k h1 h2
    cases z : openB a y k
    · rfl
    · obtain ⟨i, hi, ei⟩ := c5 k h2 z
      have : st i ≤ q := by
        by_cases y : i = d
        · rw [y, ← hq]; exact Nat.le_refl _
        · rw [hq]; exact Nat.le_of_lt (c4 i d (by omega) (by omega))
      omega
  have bA : ∀ i, i ≠ e → hI A (y + 1) i = hI a (y + 1) i := fun i hi => f 1 i (by decide) (by decide) hi (by omega)
  have cl : ∀ i p, i < e → (hI a (y + 1) i = 15 ∨ hI a (y + 1) i = 19) → hI a (y + 5) i = nI p → p < 2 ^ 31 → i < p → p < e ∧ hI a (y + 1) p = 20 := by
    intro i p hi hb h5 hp hip
    rcases e2 i hi with ⟨_, q2⟩ | ⟨q1, _⟩
    · rcases q2 hb with q | ⟨p', p1, p2, p3, _, p5, _⟩
      · have := nI_inj hp (by omega) (h5.symm.trans q); omega
      · have := nI_inj hp (by omega) (h5.symm.trans p3); rw [this]; exact ⟨p2, p5⟩
    · rw [q1] at hb; exact absurd hb (by decide)
  refine ⟨⟨by omega, f6, g1, f55⟩, ⟨b1, f7, g2, by omega⟩, ⟨by omega, h1, fun i hi => ?_, fun i j hij hj => c4 i j hij (by omega), fun k hk hok => ?_⟩, ?_, fun k hk => ?_, ?_, ?_⟩
  · have z := c3 i (by omega)
    have zq : st i < q := by rw [hq]; exact c4 i d hi (by omega)
    rw [h2, ob _ (by omega) (by omega)]
    exact ⟨z.1, by omega, z.2.2⟩
  · by_cases z : k = e
    · rw [z, oe] at hok; cases hok
    · by_cases zq : k = q
      · rw [zq, oqn] at hok; cases hok
      · rw [ob k z zq] at hok
        obtain ⟨i, hi, ei⟩ := c5 k (by omega) hok
        refine ⟨i, ?_, ei⟩
        by_cases y : i = d
        · rw [y, ← hq] at ei; exact absurd ei.symm zq
        · omega
  · rw [fb_ct_succ, oe, if_neg (by decide), Nat.add_zero]
    have key : ∀ n, n ≤ e → fb_ct (openB a y) n = fb_ct (openB A y) n + (if q < n then 1 else 0) := by
      intro n
      induction n with
      | zero => intro _; rfl
      | succ n ih =>
        intro hn
        rw [fb_ct_succ, fb_ct_succ, ih (by omega)]
        by_cases z : n = q
        · rw [z, cd3, oqn, if_neg (Nat.lt_irrefl q), if_pos rfl, if_neg (by decide), if_pos (Nat.lt_succ_self q)]
        · rw [ob n (by omega) z]
          by_cases y : q < n
          · rw [if_pos y, if_pos (show q < n + 1 by omega)]; omega
          · rw [if_neg y, if_neg (show ¬ q < n + 1 by omega)]; omega
    have := key e (Nat.le_refl _)
    rw [e1, if_pos cd2] at this
    omega
  · by_cases z : k = e
    · subst z
      refine Or.inr ⟨f1, gx, q, cd2, f5, gy, ?_, fq⟩
      rw [bA q (by omega)]; exact oq.1
    · have hk' : k < e := by omega
      by_cases zq : k = q
      · subst zq
        rcases e2 k hk' with ⟨q1, q2⟩ | ⟨q1, _⟩
        · exact Or.inl ⟨q1.keep (fun c h1 h2 => f c k h1 (by omega) z (by omega)) (fun j h1 h2 h3 => g j (by omega) (by omega) (by omega)), fun _ => Or.inr ⟨e, hk', by omega, fq, gq, f1, f5⟩⟩
        · rw [q1] at oq; exact absurd oq.1 (by decide)
      · rcases e2 k hk' with ⟨q1, q2⟩ | ⟨q1, q2, p, q3, q4, q5, q6, q7⟩
        · refine Or.inl ⟨q1.keep (fun c h1 h2 => f c k h1 (by omega) z (by omega)) (fun j h1 h2 h3 => g j (by omega) (by omega) (by omega)), fun hb => ?_⟩
          rw [bA k z] at hb
          rcases q2 hb with y | ⟨p, p1, p2, p3, p4, p5, p6⟩
          · left; rw [f 5 k (by decide) (by decide) z (by omega)]; exact y
          · right
            have pq : p ≠ q := fun y => by rw [y] at p5; rw [p5] at oq; exact absurd oq.1 (by decide)
            exact ⟨p, p1, by omega, by rw [f 5 k (by decide) (by decide) z (by omega)]; exact p3, by rw [g _ (by omega) (by omega) (by omega)]; exact p4, by rw [bA p (by omega)]; exact p5, by rw [f 5 p (by decide) (by decide) (by omega) (by omega)]; exact p6⟩
        · have pq : p ≠ q := fun y => by
            rw [y] at q7
            have := nI_inj (by omega) (by omega) (q7.symm.trans oq.2); omega
          exact Or.inr ⟨by rw [bA k z]; exact q1, by rw [g _ (by omega) (by omega) (by omega)]; exact q2, p, q3, by rw [f 5 k (by decide) (by decide) z (by omega)]; exact q4, by rw [g _ (by omega) (by omega) (by omega)]; exact q5, by rw [bA p (by omega)]; exact q6, by rw [f 5 p (by decide) (by decide) (by omega) (by omega)]; exact q7⟩
  · intro i j p p' hij hjp hp hp' hbi hbj h5i h5j
    have ie : i ≠ e := by omega
    have je : j ≠ e := by omega
    rw [bA i ie] at hbi
    rw [bA j je] at hbj
    by_cases hjp' : j < p'
    · by_cases iq : i = q
      · rw [iq, fq] at h5i
        have pe : p = e := (nI_inj (by omega) (by omega) h5i).symm
        have jq : j ≠ q := by omega
        rw [f 5 j (by decide) (by decide) je (by omega)] at h5j
        have := (cl j p' (by omega) hbj h5j (by omega) hjp').1
        omega
      · rw [f 5 i (by decide) (by decide) ie (by omega)] at h5i
        have pe := (cl i p (by omega) hbi h5i (by omega) (by omega)).1
        by_cases jq : j = q
        · have := e4 i p j hij hjp pe hbi h5i
          rw [jq, cd3] at this; cases this
        · rw [f 5 j (by decide) (by decide) je (by omega)] at h5j
          have qe := (cl j p' (by omega) hbj h5j (by omega) hjp').1
          exact e3 i j p p' hij hjp pe qe hbi hbj h5i h5j
    · omega
  · intro i p j hij hjp hp hb h5
    have ie : i ≠ e := by omega
    have je : j ≠ e := by omega
    rw [bA i ie] at hb
    by_cases jq : j = q
    · rw [jq]; exact oqn
    · rw [ob j je jq]
      by_cases iq : i = q
      · exact last j (by omega) (by omega)
      · rw [f 5 i (by decide) (by decide) ie (by omega)] at h5
        exact e4 i p j hij hjp (cl i p (by omega) hb h5 (by omega) (by omega)).1 hb h5
