/-! ===== alike: walks, the whole ===== -/
theorem nI_zI {a b : Nat} (ha : a < 1000) (hb : b < 1000) : nI a - nI b = zI ((a : Int) - b) := zI_ext (by rw [sbI (by omega) (by omega), zI_t (by omega) (by omega)])
theorem cw_step {h g : HP} {t w r m c : Nat} {j : Bool} (ht : t = 79 ∨ t = 96) (T : TW h t w r m c j) (s : Sc t h g) {p S q : Int32} {px py : Nat} (P : Cor w p px py) (hS : ∀ b, bt S b = bt p (b + (py * w + px))) (qp : inP w r q) :
    ∃ g', f_X3_moveToCorner g (t + 1) q = some g' ∧ Sc t h g' ∧ ((hI g' 72 5 = S ∧ ∃ qx qy, Mt w p px py q qx qy ∧ hI g' 72 6 = nI qx ∧ hI g' 72 7 = nI qy ∧ qx < 5 ∧ qy < 6) ∨ (hI g' 72 5 ≠ S ∧ ∀ qx qy, ¬ Mt w p px py q qx qy)) := by
  have S0 : S ≠ 0 := fun e => by
    obtain ⟨i, i1, i2, i3⟩ := P.2.1
    have c2 := P.1 i i1 i2
    have e1 := idx_eq (i := i) (w := w) T.1.n.1.1
    have m1 : py * w ≤ (i / w) * w := Nat.mul_le_mul_right w c2.2
    have := hS (i - (py * w + px))
    rw [show i - (py * w + px) + (py * w + px) = i by omega, i2, e, b_0] at this; cases this
  obtain ⟨g', e, s', k⟩ := cor_e ht T s qp
  refine ⟨g', e, s', ?_⟩
  rcases k with ⟨q0, k5⟩ | ⟨q0, qx, qy, Q, k6, k7, x5, y6, k5⟩
  · exact Or.inr ⟨by rw [k5]; exact fun z => S0 z.symm, fun a b M => M.1.ne q0⟩
  · by_cases z : hI g' 72 5 = S
    · exact Or.inl ⟨z, qx, qy, ⟨Q, fun b => by rw [← hS, ← k5, z]⟩, k6, k7, x5, y6⟩
    · refine Or.inr ⟨z, fun a b M => z (b_ext (fun i _ => ?_))⟩
      obtain ⟨rfl, rfl⟩ := Cor.uq Q M.1
      rw [k5, hS, M.2]
theorem cw_nil {h : HP} {t w r m c : Nat} {j : Bool} (ht : t = 79 ∨ t = 96) (T : TW h t w r m c j) {p S : Int32} {px py : Nat} (hp : p = hI h 114 3) (P : Cor w p px py) (hS : ∀ b, bt S b = bt p (b + (py * w + px))) (l3 l4 : Int32) : ∀ d k n g, k + d = 61 → d < n → Sc t h g → 1 ≤ k → (∀ k', k ≤ k' → k' ≤ 60 → ∀ qx qy, ¬ Mt w p px py (itN (nxF h t) k' p) qx qy) →
    ∃ g', f_X3_findWalk_46 t n S l3 l4 (itN (nxF h t) (k - 1) p) (nI k) g = some (0, g') ∧ Sc t h g'
  | d, k, 0, _, _, z, _, _, _ => absurd z (by omega)
  | 0, k, n + 1, g, e, _, s, _, _ => by
    unfold f_X3_findWalk_46
    rw [if_pos (by rw [show (60 : Int32) = nI 60 from rfl, nI_ltI (by omega) (by omega)]; omega)]
    exact ⟨g, rfl, s⟩
  | d + 1, k, n + 1, g, e, z, s, k1, no => by
    obtain ⟨f, ef⟩ := nxtC3 s.1 T.r4 (itN (nxF h t) (k - 1) p)
    have qp : inP w r (itN (nxF h t) k p) := by rw [hp]; exact inH_P T.1 (T.it k T.pic)
    obtain ⟨g', eg, sg, res⟩ := cw_step ht T (s.sc ht f) P hS qp
    unfold f_X3_findWalk_46
    rw [if_neg (by rw [show (60 : Int32) = nI 60 from rfl, nI_ltI (by omega) (by omega)]; omega), ef, bd2_s, ← itN_last (nxF h t) (k - 1) p, show k - 1 + 1 = k by omega, eg, bd1_s]
    rcases res with ⟨-, a, b, M, -⟩ | ⟨ne, -⟩
    · exact absurd M (no k (Nat.le_refl _) (by omega) a b)
    · rw [if_neg ne]
      simp only [ltv_e, nI_1]
      have ih := cw_nil ht T hp P hS l3 l4 d (k + 1) n g' (by omega) (by omega) sg (by omega) (fun k' a b => no k' (by omega) b)
      rw [show k + 1 - 1 = k by omega] at ih; exact ih
theorem cw_hit {h : HP} {t w r m c : Nat} {j : Bool} (ht : t = 79 ∨ t = 96) (T : TW h t w r m c j) {p S : Int32} {px py : Nat} (hp : p = hI h 114 3) (P : Cor w p px py) (hS : ∀ b, bt S b = bt p (b + (py * w + px))) {K qx qy : Nat} (K60 : K ≤ 60) (hit : Mt w p px py (itN (nxF h t) K p) qx qy) (x5 : px < 5) (y6 : py < 6) : ∀ d k n g, k + d = K → d < n → Sc t h g → 1 ≤ k → (∀ k', k ≤ k' → k' < K → ∀ qx qy, ¬ Mt w p px py (itN (nxF h t) k' p) qx qy) →
    ∃ g', f_X3_findWalk_46 t n S (nI px) (nI py) (itN (nxF h t) (k - 1) p) (nI k) g = some (1, g') ∧ Sc t h g' ∧ hI g' 72 2 = nI K ∧ hI g' 72 3 = zI ((qx : Int) - px) ∧ hI g' 72 4 = zI ((qy : Int) - py)
  | d, k, 0, _, _, z, _, _, _ => absurd z (by omega)
  | d, k, n + 1, g, e, z, s, k1, no => by
    obtain ⟨f, ef⟩ := nxtC3 s.1 T.r4 (itN (nxF h t) (k - 1) p)
    have qp : inP w r (itN (nxF h t) k p) := by rw [hp]; exact inH_P T.1 (T.it k T.pic)
    obtain ⟨g', eg, sg, res⟩ := cw_step ht T (s.sc ht f) P hS qp
    unfold f_X3_findWalk_46
    rw [if_neg (by rw [show (60 : Int32) = nI 60 from rfl, nI_ltI (by omega) (by omega)]; omega), ef, bd2_s, ← itN_last (nxF h t) (k - 1) p, show k - 1 + 1 = k by omega, eg, bd1_s]
    by_cases kk : k = K
    · subst kk
      rcases res with ⟨eq, a, b, M, k6, k7, a5, b6⟩ | ⟨-, ne⟩
      · obtain ⟨rfl, rfl⟩ := Cor.uq M.1 hit.1
        rw [if_pos eq]
        simp only [ltv_e]
        refine ⟨_, rfl, ((sg.I72 ht 2 _).I72 ht 3 _).I72 ht 4 _, ?_, ?_, ?_⟩
        · rw [hI_uI_n (by omega), hI_uI_n (by omega), hI_uI_s]
        · rw [hI_uI_n (by omega), hI_uI_s, hI_uI_n (by omega), k6, nI_zI (by omega) (by omega)]
        · rw [hI_uI_s, hI_uI_n (by omega), hI_uI_n (by omega), k7, nI_zI (by omega) (by omega)]
      · exact absurd hit (ne qx qy)
    · rcases res with ⟨-, a, b, M, -⟩ | ⟨ne, -⟩
      · exact absurd M (no k (Nat.le_refl _) (by omega) a b)
      · rw [if_neg ne]
        simp only [ltv_e, nI_1]
        obtain ⟨d, rfl⟩ : ∃ d', d = d' + 1 := ⟨d - 1, by omega⟩
        have ih := cw_hit ht T hp P hS K60 hit x5 y6 d (k + 1) n g' (by omega) (by omega) sg (by omega) (fun k' a b => no k' (by omega) b)
        rw [show k + 1 - 1 = k by omega] at ih; exact ih
theorem first_k (P : Nat → Prop) : ∀ N, (∀ k, 1 ≤ k → k ≤ N → ¬ P k) ∨ ∃ k, 1 ≤ k ∧ k ≤ N ∧ P k ∧ ∀ k', 1 ≤ k' → k' < k → ¬ P k'
  | 0 => Or.inl (fun k a b => absurd a (by omega))
  | N + 1 => by
    rcases first_k P N with q | ⟨k, a, b, c⟩
    · by_cases z : P (N + 1)
      · exact Or.inr ⟨N + 1, by omega, Nat.le_refl _, z, fun k' a b => q k' a (by omega)⟩
      · refine Or.inl (fun k a b y => ?_)
        by_cases e : k = N + 1
        · subst e; exact z y
        · exact q k a (by omega) y
    · exact Or.inr ⟨k, a, by omega, c⟩
theorem op_walks {h : HP} {t u : Nat} (I : Inv h t u) (a : Int32) : Op t u (f_X11_walks h t a) (fun g => f_X12_walks g a) := by
  have ht := I.t
  obtain ⟨w, r, m, c, j, T⟩ := I.tw
  unfold f_X11_walks f_X12_walks
  by_cases a1 : a < 0
  · rw [if_pos a1]
    exact op_st I (v := 1) (r := -1) rfl (by (try simp only []); rw [if_pos a1]; rfl)
  · rw [if_neg a1]
    by_cases a2 : a ≤ 2
    · rw [if_pos a2]
      unfold f_X3_findWalk
      rw [T.pic0]
      by_cases p0 : hI h 114 3 = 0
      · rw [if_pos p0, bd2_s, if_pos rfl]
        refine op_st I (v := 6) (r := -1) rfl ?_
        try simp only []
        rw [if_neg a1, if_pos a2, hI_st h 6 (by decide), if_pos p0]; rfl
      · rw [if_neg p0]
        obtain ⟨g1, e1, s1, q1⟩ := cor_e ht T (⟨CS.refl t h, Sm.refl t h⟩ : Sc t h h) (inH_P T.1 T.pic)
        rcases q1 with ⟨z, -⟩ | ⟨-, px, py, P, k6, k7, x5, y6, k5⟩
        · exact absurd z p0
        · rw [e1, bd1_s]
          simp only [ltv_e]
          rw [k6, k7, s1.1.1 t (by omega), T.pic0]
          rcases first_k (fun k => ∃ qx qy, Mt w (hI h 114 3) px py (itN (nxF h t) k (hI h 114 3)) qx qy) 60 with no | ⟨K, K1, K60, ⟨qx, qy, hit⟩, no⟩
          · obtain ⟨g2, e2, s2⟩ := cw_nil ht T rfl P k5 (nI px) (nI py) 60 1 FU g1 (by omega) (FU_gt (by decide)) s1 (by omega) (fun k' a b qx qy M => no k' a b ⟨qx, qy, M⟩)
            have e2' : f_X3_findWalk_46 t FU (hI g1 72 5) (nI px) (nI py) (hI h 114 3) 1 g1 = some (0, g2) := e2
            rw [e2', bd2_s, if_pos rfl, ref_e, bd2_s]
            have sm : SmN h (uI g2 0 11 6) := s2.n ht 6
            have M := mw_nil T (sm.ln w r j) (lnH_LN _ w r j) P a 60 1 FU (by omega) (FU_gt (by decide)) (fun k' a b qx qy M => no k' a b ⟨qx, qy, M⟩) (by omega)
            refine op_sc I rfl s2.2 (g2 := lnH (uI g2 0 11 6) w r j) ?_ ((Sm.refl _ _).ln ht w r j) (by rw [lnH_I _ _ _ _ (by decide), hI_uI_s])
            try simp only []
            rw [if_neg a1, if_pos a2, sm 3 (by omega), if_neg p0, T.ln sm, bd1_s, lnH_I _ _ _ _ (by decide), sm 3 (by omega)]
            exact M
          · obtain ⟨g2, e2, s2, k2, k3, k4⟩ := cw_hit ht T rfl P k5 K60 hit x5 y6 (K - 1) 1 FU g1 (by omega) (FU_gt (by omega)) s1 (by omega) (fun k' a b qx qy M => no k' a b ⟨qx, qy, M⟩)
            have e2' : f_X3_findWalk_46 t FU (hI g1 72 5) (nI px) (nI py) (hI h 114 3) 1 g1 = some (1, g2) := e2
            rw [e2', bd2_s, if_neg (by decide), k2, k3, k4]
            have sm : SmN h (uI g2 0 11 0) := s2.n ht 0
            have M := mw_hit T (sm.ln w r j) (lnH_LN _ w r j) P a K60 hit (K - 1) 1 FU (by omega) (FU_gt (by omega)) (fun k' a b qx qy M => no k' a b ⟨qx, qy, M⟩) (by omega)
            refine op_sc I (g1 := g2) (v := 0) (r := if a = 0 then nI K else if a = 1 then zI ((qx : Int) - px) else zI ((qy : Int) - py)) ?_ s2.2 (g2 := lnH (uI g2 0 11 0) w r j) ?_ ((Sm.refl _ _).ln ht w r j) (by rw [lnH_I _ _ _ _ (by decide), hI_uI_s])
            · simp only [ans_e, bd2_s]
              by_cases b0 : a = 0
              · rw [if_pos b0, if_pos b0]
              · rw [if_neg b0, if_neg b0]
                by_cases b1 : a = 1
                · rw [if_pos b1, if_pos b1]
                · rw [if_neg b1, if_neg b1]
            · try simp only []
              rw [if_neg a1, if_pos a2, sm 3 (by omega), if_neg p0, T.ln sm, bd1_s, lnH_I _ _ _ _ (by decide), sm 3 (by omega)]
              exact M
    · rw [if_neg a2]
      exact op_st I (v := 1) (r := -1) rfl (by (try simp only []); rw [if_neg a1, if_neg a2]; rfl)
