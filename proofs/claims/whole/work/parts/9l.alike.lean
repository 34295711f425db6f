/-! ===== alike: mean ===== -/
/-- what mean changes in the class -/
def AC (u : Nat) (h a : HP) : Prop := SR h a ∧ (∀ p q, ¬ (u ≤ p ∧ p ≤ u + 16) → p ≠ 77 → p ≠ 78 → hI a p q = hI h p q) ∧ ∀ p q, p ≠ u + 9 → hL a p q = hL h p q
/-- .. and in the reference -/
def AR (b0 b : HP) : Prop := SR b0 b ∧ (∀ p q, ¬ (p = 114 ∧ 2050 ≤ q ∧ q < 2094) → p ≠ 122 → p ≠ 127 → p ≠ 128 → ¬ (p = 113 ∧ (q = 32 ∨ q = 33)) → hI b p q = hI b0 p q) ∧ hL b = hL b0
def WK (b0 b : HP) : Prop := ∀ k, k < 44 → hI b 114 (2050 + k) = hI b0 114 k
theorem uI_row' (b : HP) (p k : Nat) (g : Nat → Int32) (x : Int32) : uI (rI b p g) p k x = rI b p (upd g k x) := by unfold uI; rw [hI_rI_s, rI_rI]
theorem m61_lp (b : HP) (l1 l2 : Int32) : ∀ d k n g, k + d = 44 → d < n → ∃ g', f_X12_mean_61 n l1 l2 (nI k) (rI b 114 g) = f_X12_mean_94 FU l1 l2 0 0 (rI b 114 g') ∧ ∀ q, g' q = if 2050 + k ≤ q ∧ q < 2094 then g (q - 2050) else g q
  | d, k, 0, _, _, z => absurd z (by omega)
  | 0, k, n + 1, g, e, _ => by
    unfold f_X12_mean_61
    rw [if_pos (by rw [show (44 : Int32) = nI 44 from rfl, nI_leI (by omega) (by omega)]; omega)]
    exact ⟨g, rfl, fun q => by rw [if_neg (by omega)]⟩
  | d + 1, k, n + 1, g, e, _ => by
    obtain ⟨g', e1, e2⟩ := m61_lp b l1 l2 d (k + 1) n (upd g (2050 + k) (g k)) (by omega) (by omega)
    unfold f_X12_mean_61
    rw [if_neg (by rw [show (44 : Int32) = nI 44 from rfl, nI_leI (by omega) (by omega)]; omega), gdi_nI (by omega) (by decide), show (2050 : Int32) = nI 2050 from rfl, nI_add, gdi_nI (by omega) (by decide), nI_clamp (by omega), nI_clamp (by omega), ltv_e, nI_1, ltv_e, hI_rI_s, uI_row', e1]
    refine ⟨g', rfl, fun q => ?_⟩
    have U : ∀ i, upd g (2050 + k) (g k) i = if i = 2050 + k then g k else g i := fun _ => rfl
    rw [e2 q, U, U]
    by_cases z : q = 2050 + k
    · subst z
      rw [if_neg (by omega), if_pos rfl, if_pos (by omega), Nat.add_sub_cancel_left]
    · by_cases z2 : 2050 + k ≤ q ∧ q < 2094
      · rw [if_pos (by omega), if_neg (show ¬ q - 2050 = 2050 + k by omega), if_pos z2]
      · rw [if_neg (by omega), if_neg z, if_neg z2]
theorem m124_lp (b : HP) (K : Int32 → Int32 → Int64 → Int32 → HP → Option (Int32 × HP)) (l1 l2 : Int32) (l3 : Int64) (i : Nat) : ∀ d k n g, k + d = 44 → d < n → ∃ g', f_X12_mean_124 K n l1 l2 l3 (nI i) (nI k) (rI b 114 g) = K l1 l2 l3 (nI (i + 1)) (rI b 114 g') ∧ ∀ q, g' q = if k ≤ q ∧ q < 44 then g (2050 + q) else g q
  | d, k, 0, _, _, z => absurd z (by omega)
  | 0, k, n + 1, g, e, _ => by
    unfold f_X12_mean_124
    rw [if_pos (by rw [show (44 : Int32) = nI 44 from rfl, nI_leI (by omega) (by omega)]; omega), ltv_e, nI_1]
    exact ⟨g, rfl, fun q => by rw [if_neg (by omega)]⟩
  | d + 1, k, n + 1, g, e, _ => by
    obtain ⟨g', e1, e2⟩ := m124_lp b K l1 l2 l3 i d (k + 1) n (upd g k (g (2050 + k))) (by omega) (by omega)
    unfold f_X12_mean_124
    rw [if_neg (by rw [show (44 : Int32) = nI 44 from rfl, nI_leI (by omega) (by omega)]; omega), show (2050 : Int32) = nI 2050 from rfl, nI_add, gdi_nI (by omega) (by decide), gdi_nI (by omega) (by decide), nI_clamp (by omega), nI_clamp (by omega), ltv_e, nI_1, ltv_e, hI_rI_s, uI_row', e1]
    refine ⟨g', rfl, fun q => ?_⟩
    have U : ∀ i, upd g k (g (2050 + k)) i = if i = k then g (2050 + k) else g i := fun _ => rfl
    rw [e2 q, U, U]
    by_cases z : q = k
    · subst z
      rw [if_neg (by omega), if_pos rfl, if_pos (by omega)]
    · rw [if_neg z, if_neg (show ¬ 2050 + q = k by omega)]
      by_cases z2 : k ≤ q ∧ q < 44
      · rw [if_pos (by omega), if_pos z2]
      · rw [if_neg (by omega), if_neg z2]
/-- the towns' copy, where it goes on beside the reference's -/
theorem copy_lt {t u w r m c e : Nat} {j : Bool} (tu : (t = 79 ∧ u = 96) ∨ (t = 96 ∧ u = 79)) {h a b0 b : HP} (L : LT t w r m c j h) (e60 : e ≤ 60) (y5 : hI h (t + 3) 5 = 1) (k6 : hI h (t + 3) 6 = nI e) (A : AC u h a) (rc : (∀ p q, 113 ≤ p → hI b0 p q = hI h p q) ∧ ∀ p q, 113 ≤ p → hL b0 p q = hL h p q) (B : AR b0 b) :
    ∃ a1, f_X5_copyFrom a u t = some a1 ∧ AC u h a1 ∧ hI a1 (u + 3) 5 = 1 ∧ hI a1 (u + 3) 6 = nI e ∧ ∃ w r m c j, LT u w r m c j (mx a1 b) := by
  have R := L.rt
  obtain ⟨g1, g2⟩ := R.g
  have aT : ∀ p q, p ≤ 16 → hI a (t + p) q = hI h (t + p) q := fun p q hp => A.2.1 _ q (by omega) (by omega) (by omega)
  have a0 : hI a t = hI h t := funext fun q => A.2.1 _ q (by omega) (by omega) (by omega)
  have he : hI a (t + 3) 6 = nI e := by rw [aT 3 6 (by omega)]; exact k6
  have tw : TwEq a (townCp a u t e) t 0 0 u 0 0 e := cp_eq he (fun i j hi hj => by omega) (by omega) (fun _ _ => rfl) (fun _ _ => rfl)
  obtain ⟨t1, t2, t3, t4, t5, t6, t7, t8, t9, t10⟩ := tw
  have cI : ∀ p, (p < u ∨ u + 16 < p) → hI (townCp a u t e) p = hI a p := fun p hp => cp_I (fun i j hi hj => by omega) hp
  have cL : ∀ p q, p ≠ u + 9 → hL (townCp a u t e) p q = hL a p q := fun p q hp => by rw [cp_L, if_neg hp]
  have A1 : AC u h (townCp a u t e) := ⟨A.1.trans (SR.cp _ _ _ _), fun p q h1 h2 h3 => by rw [cI p (by omega)]; exact A.2.1 p q h1 h2 h3, fun p q hp => by rw [cL p q hp]; exact A.2.2 p q hp⟩
  have b4 : ∀ q, q < 2050 → hI b 114 q = hI h 114 q := fun q hq => by rw [B.2.1 114 q (by omega) (by omega) (by omega) (by omega) (by omega)]; exact rc.1 114 q (by omega)
  have b5 : ∀ q, hL b 115 q = hL h 115 q := fun q => by rw [B.2.2]; exact rc.2 115 q (by omega)
  have R2 : Rt (mx (townCp a u t e) b) u 0 0 := by
    refine Rt.mv (h := h) (t := t) (b := 0) (nb := 0) (e := e) ⟨fun j hj => ?_, fun j j1 j2 => ?_, ⟨?_, ?_⟩, fun x p a1 a2 a3 => ?_, fun x p a1 a2 => ?_, fun x p a1 a2 => ?_, fun p a2 => ?_, fun p a2 => ?_, fun j hj => ?_, fun j hj => ?_⟩ k6 e60 R
    · rw [mxI_lo _ _ (by omega), t1 j hj, aT 1 j (by omega)]
    · rw [mxI_lo _ _ (by omega), t2 j j1 j2, a0]
    · rw [mxI_lo _ _ (by omega), t3.1, aT 3 5 (by omega)]
    · rw [mxI_lo _ _ (by omega), t3.2, aT 3 6 (by omega)]
    · rw [mxI_lo _ _ (by omega), t4 x p a1 a2 a3, show t + 3 + x = t + (3 + x) by omega, aT (3 + x) p (by omega)]
    · rw [mxI_lo _ _ (by omega), t5 x p a1 a2, aT x p (by omega)]
    · rw [mxI_lo _ _ (by omega), t6 x p a1 a2, aT x p (by omega)]
    · rw [mxI_lo _ _ (by omega), t7 p a2, aT 15 p (by omega)]
    · rw [mxL_lo _ _ (by omega), t8 p a2]; exact A.2.2 (t + 9) p (by omega)
    · rw [mxI_hi _ _ (by omega)]; exact b4 _ (by omega)
    · rw [mxL_hi _ _ (by omega)]; exact b5 _
  obtain ⟨w', r', m', c', qH, qR, qS, qY⟩ := R2
  obtain ⟨j', HH, jj1, jj2⟩ := qH.hill
  refine ⟨townCp a u t e, ?_, A1, by rw [t3.1, aT 3 5 (by omega)]; exact y5, by rw [t3.2]; exact he, w', r', m', c', j', ⟨qH, qR, HH, jj1, jj2⟩, qS, qY⟩
  unfold f_X5_copyFrom
  rw [he, gdi_nI (by omega) (by decide), aT 1 2 (by omega), gdv_t g1, aT 3 5 (by omega), gdv_t g2, gdv_t (show t ≠ u by omega), nI_clamp (by omega)]
/-- so many seeds on -/
theorem mean_lp {t u w r m c e : Nat} {j : Bool} (tu : (t = 79 ∧ u = 96) ∨ (t = 96 ∧ u = 79)) {h : HP} (L : LT t w r m c j h) (e60 : e ≤ 60) (y5 : hI h (t + 3) 5 = 1) (k6 : hI h (t + 3) 6 = nI e) {s N : Nat} (hs : s + N ≤ 10000) (hN : N ≤ 20) : ∀ i, i ≤ N → ∃ sum a, sum ≤ 32 * i ∧ AC u h a ∧ (∀ n, f_X11_mean_64 t u (n + i) (nI s) (nI N) 0 0 h = f_X11_mean_64 t u n (nI s) (nI N) (nI sum) (nI i) a) ∧
    ∀ b0, ((∀ p q, 113 ≤ p → hI b0 p q = hI h p q) ∧ ∀ p q, 113 ≤ p → hL b0 p q = hL h p q) → ∀ b, AR b0 b → WK b0 b → ∃ b', (∀ n, f_X12_mean_94 (n + i) (nI s) (nI N) 0 0 b = f_X12_mean_94 n (nI s) (nI N) (nJ sum) (nI i) b') ∧ AR b0 b' ∧ WK b0 b' := by
  intro i
  induction i with
  | zero =>
    intro _
    exact ⟨0, h, Nat.le_refl 0, ⟨SR.refl h, fun _ _ _ _ _ => rfl, fun _ _ _ => rfl⟩, fun n => rfl, fun b0 _ b B W => ⟨b, fun n => rfl, B, W⟩⟩
  | succ i ih =>
    intro hi
    obtain ⟨sum, a, s32, A, hC, hM⟩ := ih (by omega)
    have hu : u = 79 ∨ u = 96 := by
      rcases tu with ⟨_, q⟩ | ⟨_, q⟩
      · exact Or.inr q
      · exact Or.inl q
    have rcH : (∀ p q, 113 ≤ p → hI h p q = hI h p q) ∧ ∀ p q, 113 ≤ p → hL h p q = hL h p q := ⟨fun _ _ _ => rfl, fun _ _ _ => rfl⟩
    obtain ⟨a1, c1, A1, z5, z6, w', r', m', c', j', L1⟩ := copy_lt tu L e60 y5 k6 A rcH (b := h) ⟨SR.refl h, fun _ _ _ _ _ _ _ => rfl, rfl⟩
    obtain ⟨a2, b2, d1, d2, F⟩ := life_e (v := 77) hu (Or.inr rfl) L1 e60 z5 z6 (s := s + i) (by omega)
    have A2 : AC u h a2 := ⟨A1.1.trans F.1.1, fun p q h1 h2 h3 => by rw [F.1.2.1 p q (by omega) (by omega) (by omega) (by omega) h2 h3]; exact A1.2.1 p q h1 h2 h3, fun p q hp => by rw [F.1.2.2]; exact A1.2.2 p q hp⟩
    have p30 := pc_le (hI a2 u 13)
    refine ⟨sum + pc (hI a2 u 13), a2, by omega, A2, fun n => ?_, fun b0 rc b B W => ?_⟩
    · rw [show n + (i + 1) = (n + 1) + i by omega, hC (n + 1)]
      show (if nI N ≤ nI i then _ else _) = _
      rw [if_neg (show ¬ nI N ≤ nI i by rw [nI_leI (by omega) (by omega)]; omega), c1, bd1_s, nI_add, d1, bd1_s, bic_e, bd2_s, ltv_e, nI_add, ltv_e, nI_1]
    · obtain ⟨b1, e1, B1, W1⟩ := hM b0 rc b B W
      obtain ⟨a1', c1', A1', z5', z6', w2, r2, m2, c2, j2, L2⟩ := copy_lt tu L e60 y5 k6 A rc B1
      have ea : a1' = a1 := by rw [c1] at c1'; exact (Option.some.inj c1').symm
      subst ea
      obtain ⟨a2', b2', d1', d2', F'⟩ := life_e (v := 77) hu (Or.inr rfl) L2 e60 z5 z6 (s := s + i) (by omega)
      have ea2 : a2' = a2 := by rw [d1] at d1'; exact (Option.some.inj d1').symm
      subst ea2
      have ep := F'.2.2.1.e13 hu
      have M2 := F'.2.1
      obtain ⟨g', e2, e3⟩ := m124_lp b2' (f_X12_mean_94 0) (nI s) (nI N) 0 0 44 0 FU (hI b2' 114) (by omega) (FU_gt (by omega))
      refine ⟨rI b2' 114 g', fun n => ?_, ⟨(B1.1.trans M2.1).trans ⟨rfl, rfl⟩, fun p q h1 h2 h3 h4 h5 => ?_, by show hL b2' = _; rw [M2.2.2]; exact B1.2.2⟩, fun k hk => ?_⟩
      · obtain ⟨g2, e4, e5⟩ := m124_lp b2' (f_X12_mean_94 n) (nI s) (nI N) (nJ (sum + pc (hI a2' u 13))) i 44 0 FU (hI b2' 114) (by omega) (FU_gt (by omega))
        have eg : g2 = g' := funext fun q => by rw [e5 q, e3 q]
        rw [rI_self, eg] at e4
        rw [show n + (i + 1) = (n + 1) + i by omega, e1 (n + 1)]
        show (if nI N ≤ nI i then _ else _) = _
        have pcs : (nI (pc (hI b2' 114 3))).toInt64 = nJ (pc (hI a2' u 13)) := by rw [← ep, nI_J (by omega)]
        rw [if_neg (show ¬ nI N ≤ nI i by rw [nI_leI (by omega) (by omega)]; omega), nI_add, d2', bd1_s, bits_e, bd2_s, ltv_e, pcs, nJ_add]
        rw [show nI 0 = 0 from rfl] at e4
        exact e4
      · by_cases p4 : p = 114
        · subst p4
          rw [hI_rI_s, e3 q]
          by_cases q44 : 0 ≤ q ∧ q < 44
          · rw [if_pos q44, M2.2.1 114 (2050 + q) (by omega) (by omega) (by omega) (by omega) (by omega)]
            exact W1 q (by omega)
          · rw [if_neg q44, M2.2.1 114 q (by omega) (by omega) (by omega) (by omega) (by omega)]
            exact B1.2.1 114 q h1 h2 h3 h4 h5
        · rw [hI_rI_n _ _ p4, M2.2.1 p q (by omega) h2 h3 h4 h5]
          exact B1.2.1 p q h1 h2 h3 h4 h5
      · rw [hI_rI_s, e3, if_neg (by omega), M2.2.1 114 (2050 + k) (by omega) (by omega) (by omega) (by omega) (by omega)]
        exact W1 k hk
theorem op_mean {h : HP} {t u : Nat} (I : Inv h t u) (x y : Int32) : Op t u (f_X11_mean h t u x y) (fun g => f_X12_mean g x y) := by
  have ht := I.t
  have tu : (t = 79 ∧ u = 96) ∨ (t = 96 ∧ u = 79) := I.1.2.2.1.2.2
  have fr : ∀ g, f_X12_isFrom g (Int32.toInt64 x) 0 9999 = some (bI (decide (0 ≤ x.toInt ∧ x.toInt ≤ 9999)), g) := fun g => fr32 g x (n := 9999) (by decide)
  have fr2 : ∀ g, f_X12_isFrom g (Int32.toInt64 y) 1 20 = some (bI (decide (1 ≤ y.toInt ∧ y.toInt ≤ 20)), g) := fun g => by
    rw [isFrom_e]
    have : (1 : Int64).toInt = 1 := rfl
    have : (20 : Int64).toInt = 20 := rfl
    simp only [Int32.toInt_toInt64, *]
  obtain ⟨w, r, m, c, j, L⟩ := I.lt
  have bad : ∀ {f2 : HP → Option (Int32 × HP)}, (∀ g, f2 g = some (0, uI g 113 2 1)) → Op t u (f_X11_mean_33 t u h) f2 := fun {f2} e => op_st I (v := 1) (r := 0) (by unfold f_X11_mean_33; rw [dny_e, bd2_s, gdv_t is01_0]) (e _)
  have is1 : ∀ g v, v ≠ 0 → (bd2 (f_X12_is g v) fun r h => gdv (is01 r) <| some (r, h)) = some (0, uI g 113 2 v) := fun g v hv => by rw [is1_e g hv, bd2_s, gdv_t is01_0]
  unfold f_X11_mean
  by_cases hx : 0 ≤ x.toInt ∧ x.toInt ≤ 9999
  · obtain ⟨s, hs, rfl⟩ := rng_nI (n := 9999) hx
    rw [if_neg (lt_nI0 _ (by omega)), if_neg (show ¬ (9999 : Int32) < nI s by rw [show (9999 : Int32) = nI 9999 from rfl, nI_ltI (by omega) (by omega)]; omega)]
    by_cases hy : 1 ≤ y.toInt ∧ y.toInt ≤ 20
    · obtain ⟨N, hN, rfl⟩ := rng_nI (a := y) (n := 20) (by omega)
      rw [nI_t (by omega)] at hy
      have M0 : ∀ g, f_X12_mean g (nI s) (nI N) = (if nI s + nI N - 1 ≤ 9999 then (if hI g 114 11 = -1 then some (0, uI g 113 2 6) else f_X12_mean_61 FU (nI s) (nI N) 0 g) else some (0, uI g 113 2 1)) := fun g => by
        unfold f_X12_mean
        rw [fr, bd2_s, bI_dt hx, if_neg (by decide), fr2, bd2_s, nI_t (by omega), bI_dt (by omega), if_neg (by decide), is1 _ _ (by decide), is1 _ _ (by decide)]
      rw [if_neg (show ¬ nI N < 1 by rw [show (1 : Int32) = nI 1 from rfl, nI_ltI (by omega) (by omega)]; omega), if_neg (show ¬ (20 : Int32) < nI N by rw [show (20 : Int32) = nI 20 from rfl, nI_ltI (by omega) (by omega)]; omega)]
      have es : nI s + nI N - 1 = nI (s + N - 1) := by rw [nI_add, show (1 : Int32) = nI 1 from rfl, nI_sub (by omega)]
      rw [es] at M0 ⊢
      by_cases hz : s + N - 1 ≤ 9999
      · have zz : nI (s + N - 1) ≤ 9999 := by rw [show (9999 : Int32) = nI 9999 from rfl, nI_leI (by omega) (by omega)]; exact hz
        rw [if_pos zz]
        rcases L.2.2 with ⟨q1, q2, q3⟩ | ⟨q1, e, e60, k6, k11, -⟩
        · rw [if_pos q1]
          refine op_st I (v := 6) (r := 0) (by rw [dny_e, bd2_s, gdv_t is01_0]) ?_
          show f_X12_mean _ _ _ = _
          rw [M0, if_pos zz, hI_st h 6 (by decide), if_pos (show hI h 114 11 = -1 from q3)]
        · have n11 : ¬ hI h 114 11 = -1 := fun z => nI_m1 (m := e) (by omega) (k11.symm.trans z)
          rw [if_neg (show ¬ hI h (t + 3) 5 = 0 by rw [q1]; decide)]
          obtain ⟨tot, A, s32, hA, hC, hM⟩ := mean_lp tu L e60 q1 k6 (s := s) (N := N) (by omega) hN N (Nat.le_refl N)
          have gp : 0 < Nat.gcd N tot := Nat.gcd_pos_of_pos_left _ (by omega)
          obtain ⟨X, eX⟩ : ∃ X, X = nJ (tot / Nat.gcd N tot) := ⟨_, rfl⟩
          obtain ⟨Y, eY⟩ : ∃ Y, Y = nJ (N / Nat.gcd N tot) := ⟨_, rfl⟩
          have cl : f_X11_mean_64 t u FU (nI s) (nI N) 0 0 h = some (1, uI (uL (uL A 0 12 X) 0 13 Y) 0 11 0) := by
            obtain ⟨n, hn⟩ : ∃ n, FU = (n + 1) + N := ⟨999999 - N, by
              have : FU = 1000000 := rfl
              omega⟩
            rw [hn, hC (n + 1)]
            show (if nI N ≤ nI N then _ else _) = _
            rw [if_pos (Int32.le_refl _), ctell_e _ (by omega) (by omega) (by omega), bd1_s, alw_e, bd2_s, gdv_t is01_1, ← eX, ← eY]
          obtain ⟨H1, eH⟩ : ∃ H1, H1 = uI (uL (uL A 0 12 X) 0 13 Y) 0 11 0 := ⟨_, rfl⟩
          rw [cl, ← eH]
          have aI : ∀ p q, ¬ (p = 0 ∧ q = 11) → hI H1 p q = hI A p q := fun p q hp => by rw [eH, hI_uI_n (by omega), hI_uL, hI_uL]
          have aL : ∀ p q, ¬ (p = 0 ∧ (q = 12 ∨ q = 13)) → hL H1 p q = hL A p q := fun p q hp => by rw [eH, hL_uI, hL_uL_n (by omega), hL_uL_n (by omega)]
          have sH : SR h H1 := by rw [eH]; exact (((hA.1.L _ _ _).L _ _ _).I _ _ _)
          have rc : (∀ p q, 113 ≤ p → hI H1 p q = hI h p q) ∧ ∀ p q, 113 ≤ p → hL H1 p q = hL h p q := ⟨fun p q hp => by rw [aI p q (by omega)]; exact hA.2.1 p q (by omega) (by omega) (by omega), fun p q hp => by rw [aL p q (by omega)]; exact hA.2.2 p q (by omega)⟩
          obtain ⟨g, e1, e2⟩ := m61_lp H1 (nI s) (nI N) 44 0 FU (hI H1 114) (by omega) (FU_gt (by omega))
          rw [rI_self] at e1
          have B1 : AR H1 (rI H1 114 g) := ⟨⟨rfl, rfl⟩, fun p q h1 h2 h3 h4 h5 => by
            by_cases p4 : p = 114
            · subst p4; rw [hI_rI_s, e2 q, if_neg (by omega)]
            · rw [hI_rI_n _ _ p4], rfl⟩
          have W1 : WK H1 (rI H1 114 g) := fun k hk => by rw [hI_rI_s, e2, if_pos (by omega), Nat.add_sub_cancel_left]
          obtain ⟨b', e3, B2, W2⟩ := hM H1 rc _ B1 W1
          obtain ⟨H2, eH2⟩ : ∃ H2, H2 = uI (uL (uL b' 113 3 X) 113 4 Y) 113 2 0 := ⟨_, rfl⟩
          have mm : f_X12_mean_94 FU (nI s) (nI N) 0 0 (rI H1 114 g) = some (1, H2) := by
            obtain ⟨n, hn⟩ : ∃ n, FU = (n + 1) + N := ⟨999999 - N, by
              have : FU = 1000000 := rfl
              omega⟩
            rw [hn, e3 (n + 1)]
            show (if nI N ≤ nI N then _ else _) = _
            rw [if_pos (Int32.le_refl _), ← nI_J (show tot < 2 ^ 31 by omega), mtell_e _ (by omega) (by omega) (by omega), bd2_s, gdv_t is01_1, ← eX, ← eY, ← eH2]
          refine ⟨1, H1, H2, rfl, ?_, ?_⟩
          · show f_X12_mean _ _ _ = _
            rw [M0, if_pos zz, rc.1 _ _ (by omega), if_neg n11, show (0 : Int32) = nI 0 from rfl]
            rw [show nI 0 = (0 : Int32) from rfl] at e1 ⊢
            exact e1.trans mm
          · have E : ∀ p q, ¬ (u ≤ p ∧ p ≤ u + 16) → p ≠ 77 → p ≠ 78 → ¬ (p = 0 ∧ q = 11) → ¬ (p = 114 ∧ 2050 ≤ q ∧ q < 2094) → p ≠ 122 → p ≠ 127 → p ≠ 128 → ¬ (p = 113 ∧ (q = 32 ∨ q = 33 ∨ q = 2)) → hI H2 p q = hI h p q := fun p q h1 h2 h3 h4 h5 h6 h7 h8 h9 => by
              rw [eH2, hI_uI_n (by omega), hI_uL, hI_uL, B2.2.1 p q h5 h6 h7 h8 (by omega), aI p q h4]
              exact hA.2.1 p q h1 h2 h3
            refine I.frac (h := h) ?_ (fun p q z => E p q ?_ ?_ ?_ ?_ ?_ ?_ ?_ ?_ ?_) (fun p q z n1 n2 => ?_) ?_ ?_ ?_
            · rw [eH2]; exact (((sH.trans B2.1).L _ _ _).L _ _ _).I _ _ _
            · unfold relI inT at z; omega
            · unfold relI inT at z; omega
            · unfold relI inT at z; omega
            · unfold relI inT at z; omega
            · unfold relI inT at z; omega
            · unfold relI inT at z; omega
            · unfold relI inT at z; omega
            · unfold relI inT at z; omega
            · unfold relI inT at z; omega
            · rw [eH2, hL_uI, hL_uL_n (by omega), hL_uL_n (by omega), B2.2.2, aL p q (by omega)]
              exact hA.2.2 p q (by unfold relL inTL at z; omega)
            · rw [eH2, hI_uI_s, hI_uI_n (by omega), hI_uL, hI_uL, B2.2.1 0 11 (by omega) (by omega) (by omega) (by omega) (by omega), eH, hI_uI_s]
            · rw [eH2, hL_uI, hL_uL_n (by decide), hL_uL_n (by decide), hL_uL_n (by decide), hL_uL_s, B2.2.2, eH, hL_uI, hL_uL_n (by decide), hL_uL_s]
            · rw [eH2, hL_uI, hL_uL_n (by decide), hL_uL_n (by decide), hL_uL_s, B2.2.2, eH, hL_uI, hL_uL_s]
      · have zz : ¬ nI (s + N - 1) ≤ 9999 := by rw [show (9999 : Int32) = nI 9999 from rfl, nI_leI (by omega) (by omega)]; exact hz
        rw [if_neg zz]
        exact bad (fun g => by rw [M0, if_neg zz])
    · have M0 : ∀ g, f_X12_mean g (nI s) y = some (0, uI g 113 2 1) := fun g => by
        unfold f_X12_mean
        rw [fr, bd2_s, bI_dt hx, if_neg (by decide), fr2, bd2_s, bI_df hy, if_pos rfl, is1 _ _ (by decide)]
      by_cases y1 : y < 1
      · rw [if_pos y1]; exact bad M0
      · rw [if_neg y1, if_pos (show (20 : Int32) < y by
          rw [Int32.lt_iff_toInt_lt] at y1 ⊢
          simp only [Int32.reduceToInt] at y1 ⊢
          omega)]
        exact bad M0
  · have M0 : ∀ g, f_X12_mean g x y = some (0, uI g 113 2 1) := fun g => by
      unfold f_X12_mean
      rw [fr, bd2_s, bI_df hx, if_pos rfl, is1 _ _ (by decide)]
    by_cases x1 : x < 0
    · rw [if_pos x1]; exact bad M0
    · rw [if_neg x1, if_pos (show (9999 : Int32) < x by
        rw [Int32.lt_iff_toInt_lt] at x1 ⊢
        simp only [Int32.reduceToInt] at x1 ⊢
        omega)]
      exact bad M0
