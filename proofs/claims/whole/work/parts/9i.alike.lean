/-! ===== alike: a year lived, the whole ===== -/
theorem yr_of {t w r m c e : Nat} {j : Bool} (ht : t = 79 ∨ t = 96) {a b : HP} (L : LT t w r m c j (mx a b)) (y5 : hI a (t + 3) 5 = 1) (e60 : e ≤ 60) (k6 : hI a (t + 3) 6 = nI e) : hI b 114 11 = nI e ∧ (∀ k, k < e → RyE (mx a b) (t + 3) 0 w r m e k) ∧ RyN (mx a b) (t + 3) e := by
  rcases L.2.2 with ⟨q, -⟩ | ⟨-, e', h1, h2, h3, h4, h5⟩
  · rw [mxI_lo _ _ (by omega), y5] at q; exact absurd q (by decide)
  · rw [mxI_lo _ _ (by omega), k6] at h2
    have ee : e = e' := nI_inj (by omega) (by omega) h2
    subst ee
    rw [mxI_hi _ _ (by omega)] at h3
    exact ⟨h3, h4, h5⟩
theorem LT.cn {t v w r m c : Nat} {j : Bool} (ht : t = 79 ∨ t = 96) (hv : v = 75 ∨ v = 77) {a a' b b' : HP} (L : LT t w r m c j (mx a b)) (C : FC t v a a') (M : FM b b') (h1 : hI a' t = hI a t) (h2 : hI a' (t + 15) = hI a (t + 15)) (h3 : hI b' 114 = hI b 114) : LT t w r m c j (mx a' b') := by
  have ok := L.ok
  rw [mxI_hi (c := 114) _ _ (by omega)] at ok
  exact L.up ht hv C M (x := hI b 114 3) (by rw [h1]; exact L.e13 ht) (by rw [h3]) ok (Or.inl ⟨by rw [h1], by rw [h3]⟩) (L.st ht (fun k _ => by rw [h1]) h2 (fun k _ => by rw [h3]))
theorem bic_e (h : HP) (x : Int32) : f_J6_bitCount_0f7a4 h x = some (nI (pc x), h) := rfl
theorem if01 {p : Prop} [Decidable p] {h : HP} : (if p then some ((0 : Int32), h) else some ((1 : Int32), h)) = some (bI (decide ¬ p), h) := by
  by_cases q : p
  · rw [if_pos q, decide_eq_false (fun z => z q)]; rfl
  · rw [if_neg q, decide_eq_true q]; rfl
theorem if10 {p : Prop} [Decidable p] {h : HP} : (if p then some ((1 : Int32), h) else some ((0 : Int32), h)) = some (bI (decide p), h) := by
  by_cases q : p
  · rw [if_pos q, decide_eq_true q]; rfl
  · rw [if_neg q, decide_eq_false q]; rfl
/-- a test: both tell the same -/
theorem hold_e {t v w r m c e : Nat} {j : Bool} (ht : t = 79 ∨ t = 96) {a b : HP} (L : LT t w r m c j (mx a b)) {k : Nat} (hk : k < 60)
    (Q : (hI a (t + 3 + 2) k = 18 ∧ hI b 114 (44 + 6 * k) = 1521) ∨
      (hI a (t + 3 + 2) k = 17 ∧ hI b 114 (44 + 6 * k) = 1520 ∧ ∃ x z, x < w ∧ z < r ∧ hI a (t + 3 + 3) k = nI x ∧ hI b 114 (45 + 6 * k) = nI x ∧ hI a (t + 3 + 4) k = nI z ∧ hI b 114 (46 + 6 * k) = nI z) ∨
      (hI b 114 (44 + 6 * k) = 1519 ∧ hI a (t + 3 + 2) k = hI b 114 (49 + 6 * k) ∧ (hI b 114 (49 + 6 * k) = 60 ∨ hI b 114 (49 + 6 * k) = 61 ∨ hI b 114 (49 + 6 * k) = 62) ∧ ∃ q, q ≤ 30 ∧ hI a (t + 3 + 3) k = nI q ∧ hI b 114 (45 + 6 * k) = nI q)) :
    ∃ tv f b', f_X2_isTrue a v t (nI k) = some (bI tv, rI a (t + 1 + 1) f) ∧ f_X12_holds b (nI (44 + 6 * k)) = some (bI tv, b') ∧ (b' = b ∨ b' = lnH b w r j) := by
  obtain ⟨⟨w1, w5, hw, hw'⟩, r1, r6, hr, hr'⟩ := L.wr ht
  have h30 := wr_le w5 r6
  have ep := L.e13 ht
  have sm : SmN (mx a b) b := fun q _ => by rw [mxI_hi _ _ (by omega)]
  have x1 : nI (44 + 6 * k) + 1 = nI (45 + 6 * k) := by rw [nI_1, show 44 + 6 * k + 1 = 45 + 6 * k by omega]
  have x2 : nI (44 + 6 * k) + 2 = nI (46 + 6 * k) := by rw [show (2 : Int32) = nI 2 from rfl, nI_add, show 44 + 6 * k + 2 = 46 + 6 * k by omega]
  have x5 : nI (44 + 6 * k) + 5 = nI (49 + 6 * k) := by rw [show (5 : Int32) = nI 5 from rfl, nI_add, show 44 + 6 * k + 5 = 49 + 6 * k by omega]
  have same : rI a (t + 1 + 1) (hI a (t + 1 + 1)) = a := rI_self _ _
  rcases Q with ⟨q1, q2⟩ | ⟨q1, q2, x, z, hx, hz, q3, q4, q5, q6⟩ | ⟨q1, q2, q3, q, hq, q4, q5⟩
  · have r4 : (hI a t 10).toInt ≤ 4 := by have := L.1.r4; rw [mxI_lo _ _ (by omega)] at this; exact this
    have nx := (mx_nx ht a b).1
    have pin := L.1.pic
    rw [mxI_hi (c := 114) _ _ (by omega)] at pin
    obtain ⟨f, ef⟩ : ∃ f, litH a (t + 1) (hI b 114 3) = rI a (t + 1 + 1) f := ⟨_, rfl⟩
    refine ⟨decide (nxF a t (hI b 114 3) = hI b 114 3), f, lnH b w r j, ?_, ?_, Or.inr rfl⟩
    · unfold f_X2_isTrue f_X5_isStill
      rw [gdi_nI hk (by decide), ltv_e, bic_e, bd2_s, gdi_nI hk (by decide), ltv_e, nI_clamp (by omega), q1, if_neg (by decide), if_pos rfl, gdv_t r4, bd2_s, gdv_t (is01_bI _), ep, ef]
    · unfold f_X12_holds f_X12_isStill
      rw [gdi_nI (by omega) (by decide), ltv_e, nI_clamp (by omega), q2, if_pos (by decide), aft1_e L.1 sm pin, bd2_s, nx, lnH_I _ _ _ _ (by decide)]
      by_cases s : nxF a t (hI b 114 3) = hI b 114 3
      · rw [if_pos s, decide_eq_true s, bd2_s, gdv_t (Or.inr rfl)]; rfl
      · rw [if_neg s, decide_eq_false s, bd2_s, gdv_t (Or.inl rfl)]; rfl
  · have hpl := pl_lt hx hz
    refine ⟨bt (hI b 114 3) (z * w + x), hI a (t + 1 + 1), b, ?_, ?_, Or.inl rfl⟩
    · unfold f_X2_isTrue
      rw [gdi_nI hk (by decide), ltv_e, bic_e, bd2_s, gdi_nI hk (by decide), ltv_e, nI_clamp (by omega), q1, if_pos rfl, gdi_nI hk (by decide), q3, q5, plc_e w5 r6 hw' hr' hx hz, bd2_s, shr1 (by omega), ep]
      cases bt (hI b 114 3) (z * w + x)
      · rw [if_pos (show bI false = 0 from rfl), same]; rfl
      · rw [if_neg (by decide), same]; rfl
    · unfold f_X12_holds
      rw [gdi_nI (by omega) (by decide), ltv_e, nI_clamp (by omega), q2, if_neg (by decide), if_pos (by decide), x1, x2, gdi_nI (by omega) (by decide), gdi_nI (by omega) (by decide), nI_clamp (by omega), nI_clamp (by omega), q4, q6, bit_e _ hw, bd2_s]
      cases s : bt (hI b 114 3) (z * w + x)
      · rw [if_pos ((and_bit (by omega)).mpr s)]; rfl
      · rw [if_neg (fun y => by rw [(and_bit (by omega)).mp y] at s; cases s)]; rfl
  · have cl : f_X2_isTrue a v t (nI k) = (if hI b 114 (49 + 6 * k) = 17 then none else if hI b 114 (49 + 6 * k) = 18 then none else if hI b 114 (49 + 6 * k) = 60 then some (bI (decide ¬ nI q ≤ nI (pc (hI b 114 3))), a) else if hI b 114 (49 + 6 * k) = 62 then some (bI (decide ¬ nI (pc (hI b 114 3)) ≤ nI q), a) else some (bI (decide (nI (pc (hI b 114 3)) = nI q)), a)) := by
      unfold f_X2_isTrue
      rw [gdi_nI hk (by decide), ltv_e, bic_e, bd2_s, gdi_nI hk (by decide), ltv_e, nI_clamp (by omega), q2, q4, ep]
      have n17 : ¬ hI b 114 (49 + 6 * k) = 17 := fun y => by rw [y] at q3; rcases q3 with s | s | s <;> exact absurd s (by decide)
      have n18 : ¬ hI b 114 (49 + 6 * k) = 18 := fun y => by rw [y] at q3; rcases q3 with s | s | s <;> exact absurd s (by decide)
      rw [if_neg n17, if_neg n18, if_neg n17, if_neg n18, if01, if01, if10]
    have cm : f_X12_holds b (nI (44 + 6 * k)) = (if hI b 114 (49 + 6 * k) = 60 then some (bI (decide ¬ nI q ≤ nI (pc (hI b 114 3))), b) else if hI b 114 (49 + 6 * k) = 62 then some (bI (decide ¬ nI (pc (hI b 114 3)) ≤ nI q), b) else some (bI (decide (nI (pc (hI b 114 3)) = nI q)), b)) := by
      unfold f_X12_holds
      rw [gdi_nI (by omega) (by decide), ltv_e, nI_clamp (by omega), q1, if_neg (by decide), if_neg (by decide), bits_e, bd2_s, x5, x1, gdi_nI (by omega) (by decide), gdi_nI (by omega) (by decide), gdi_nI (by omega) (by decide), gdi_nI (by omega) (by decide), nI_clamp (by omega), nI_clamp (by omega), q5, if01, if01, if10, gdi_nI (by omega) (by decide)]
    rcases q3 with s | s | s
    · rw [s] at cl cm
      rw [if_neg (by decide), if_neg (by decide), if_pos rfl] at cl
      rw [if_pos rfl] at cm
      exact ⟨_, hI a (t + 1 + 1), b, by rw [same]; exact cl, cm, Or.inl rfl⟩
    · rw [s] at cl cm
      rw [if_neg (by decide), if_neg (by decide), if_neg (by decide), if_neg (by decide)] at cl
      rw [if_neg (by decide), if_neg (by decide)] at cm
      exact ⟨_, hI a (t + 1 + 1), b, by rw [same]; exact cl, cm, Or.inl rfl⟩
    · rw [s] at cl cm
      rw [if_neg (by decide), if_neg (by decide), if_neg (by decide), if_pos rfl] at cl
      rw [if_neg (by decide), if_pos rfl] at cm
      exact ⟨_, hI a (t + 1 + 1), b, by rw [same]; exact cl, cm, Or.inl rfl⟩
def FIN (t v w r m c : Nat) (j : Bool) (a0 b0 a b : HP) : Prop := FC t v a0 a ∧ FM b0 b ∧ LT t w r m c j (mx a b) ∧ (hI a v 4 = hI b 128 1 ∧ hI a v 5 = hI b 128 2 ∧ hI a v 6 = hI b 128 3 ∧ hI a v 7 = hI b 128 4) ∧ hI a v 3 = hI b 128 0 ∧ is01 (hI b 128 4) ∧ ∃ n, n ≤ 300 ∧ hI a v 2 = nI n ∧ hI b 113 33 = nI n
def MI (t v w r m c e : Nat) (j : Bool) (a0 b0 a b : HP) (st k : Nat) : Prop := FC t v a0 a ∧ FM b0 b ∧ LT t w r m c j (mx a b) ∧ CT0 v a b ∧ hI a v 3 = hI b 128 0 ∧ (hI a v 2 = nI st ∧ hI b 113 33 = nI st ∧ hI b 128 4 = 0) ∧ RLo (hI a0 (t + 3 + 1)) (paF (hI a0 (t + 3 + 5))) e (hI a (v + 1)) (hI b 127) k
/-- behind a step: the ends, then on -/
theorem go_on {t v w r m c e : Nat} {j : Bool} (ht : t = 79 ∨ t = 96) (hv : v = 75 ∨ v = 77) {a0 b0 : HP} (e60 : e ≤ 60) (y5 : hI a0 (t + 3) 5 = 1) (k6 : hI a0 (t + 3) 6 = nI e) {st D fu : Nat}
    (H : ∀ k i n a b, n + i = 1000000 → i + D + pot (hI a0 (t + 3 + 1)) (paF (hI a0 (t + 3 + 5))) e (hI a (v + 1)) k < 100000 → k ≤ e → (k < e → hI a0 (t + 3 + 1) k ≠ 20) → MI t v w r m c e j a0 b0 a b st k → ∃ a' b', f_X2_liveBy_46 v t n (nI k) (nI i) a = some a' ∧ f_X12_lives_32 fu (nI k) b = some b' ∧ FIN t v w r m c j a0 b0 a' b')
    {k i n : Nat} {a b : HP} (hn : n + i = 1000000) (hp : i + D + pot (hI a0 (t + 3 + 1)) (paF (hI a0 (t + 3 + 5))) e (hI a (v + 1)) k < 100000) (hk : k ≤ e) (I : MI t v w r m c e j a0 b0 a b st k) :
    ∃ a' b', f_X2_liveBy_46 v t n (nI k) (nI i) a = some a' ∧ (bd2 (f_X12_behindEnds b (nI k)) fun r29 h28 => f_X12_lives_32 fu r29 h28) = some b' ∧ FIN t v w r m c j a0 b0 a' b' := by
  obtain ⟨C, M, L, CT, c3, ⟨c2, c2', c4⟩, R⟩ := I
  have eW : hI a (t + 3 + 1) = hI a0 (t + 3 + 1) := funext fun q => C.2.1 _ q (by omega) (by omega) (by omega) (by omega) (by omega) (by omega)
  have eP : hI a (t + 3 + 5) = hI a0 (t + 3 + 5) := funext fun q => C.2.1 _ q (by omega) (by omega) (by omega) (by omega) (by omega) (by omega)
  have e5 : hI a (t + 3) 5 = 1 := by rw [C.2.1 _ _ (by omega) (by omega) (by omega) (by omega) (by omega) (by omega)]; exact y5
  have e6 : hI a (t + 3) 6 = nI e := by rw [C.2.1 _ _ (by omega) (by omega) (by omega) (by omega) (by omega) (by omega)]; exact k6
  obtain ⟨e11, q1, q2⟩ := yr_of ht L e5 e60 e6
  obtain ⟨k', i', n', rl, lp, d1, d2, d3, d4, d5, d6, d7, d8⟩ := ends_e (c := c) (j := j) ht hv e60 e6 e11 q1 q2 (pot (hI a0 (t + 3 + 1)) (paF (hI a0 (t + 3 + 5))) e (hI a (v + 1)) k) k i n FU (hI a (v + 1)) (hI b 127) (by rw [eW, eP]; exact Nat.le_refl _) (FU_gt (by omega)) (by omega) (by omega) hk (by rw [eW, eP]; exact R)
  rw [eW, eP] at d4 d8
  rw [eW] at d7
  rw [rI_self] at d1 d2
  have C2 : FC t v a (rI a (v + 1) rl) := (FC.refl t v a).rI (v + 1) rl (by omega)
  have M2 : FM b (rI b 127 lp) := ⟨⟨rfl, rfl⟩, fun p q h1 h2 h3 h4 h5 => by rw [hI_rI_n _ _ h3], rfl⟩
  have ra : ∀ p, p ≠ v + 1 → hI (rI a (v + 1) rl) p = hI a p := fun p hp => hI_rI_n _ _ hp
  have rb : ∀ p, p ≠ 127 → hI (rI b 127 lp) p = hI b p := fun p hp => hI_rI_n _ _ hp
  obtain ⟨a', b', g1, g2, g3⟩ := H k' i' n' (rI a (v + 1) rl) (rI b 127 lp) (by omega) (by rw [hI_rI_s]; omega) d6 d7 ⟨C.trans C2, M.trans M2, L.cn ht hv C2 M2 (ra _ (by omega)) (ra _ (by omega)) (rb _ (by decide)), by
    obtain ⟨x1, x2, x3, x4, s, x5, x6, x7⟩ := CT
    unfold CT0
    rw [ra _ (by omega), rb _ (by decide), rb _ (by decide)]
    exact ⟨x1, x2, x3, x4, s, x5, x6, x7⟩, by rw [ra _ (by omega), rb _ (by decide)]; exact c3, ⟨by rw [ra _ (by omega)]; exact c2, by rw [rb _ (by decide)]; exact c2', by rw [rb _ (by decide)]; exact c4⟩, by rw [hI_rI_s, hI_rI_s]; exact d8⟩
  refine ⟨a', b', d1.trans g1, ?_, g3⟩
  unfold f_X12_behindEnds
  rw [d2, bd2_s]
  exact g2
