/-! ===== the class's nights ahead, rounds left out ===== -/
/-- h with another count of lit neighbours -/
def scr (h : HP) (t : Nat) (g : Nat → Int32) : HP := rI h (t + 1 + 1) g
theorem scr_lit (h : HP) (t : Nat) (g : Nat → Int32) (x : Int32) : ∃ g', litH (scr h t g) (t + 1) x = scr h t g' := ⟨_, rI_rI _ _ _ _⟩
theorem scr_I (h : HP) (t : Nat) (g : Nat → Int32) {b : Nat} (hb : b ≠ t + 1 + 1) : hI (scr h t g) b = hI h b := hI_rI_n _ _ hb
theorem scr_self (h : HP) (t : Nat) : h = scr h t (hI h (t + 1 + 1)) := (rI_self h _).symm
theorem stp_e (h : HP) (t : Nat) (g : Nat → Int32) (x B S : Int32) : ∃ g', f_X1_step (scr h t g) (t + 1) x B S = some (stepF (hI h (t + 1)) x B S, scr h t g') := by
  obtain ⟨g', e⟩ := scr_lit h t g x
  refine ⟨g', ?_⟩
  unfold f_X1_step
  rw [e, scr_I _ _ _ (by omega)]
theorem aftC_lp (h : HP) (t : Nat) (B S : Int32) {N : Nat} (hN : N < 2 ^ 20) (R : Int32) : ∀ n (i a : Nat) (cur anc s : Int32) (g : Nat → Int32), 1 ≤ i → i ≤ N + 1 → a < i → N + 1 < i + n → itN (fun y => stepF (hI h (t + 1)) y B S) (i - 1 - a) anc = cur → itN (fun y => stepF (hI h (t + 1)) y B S) (N + 1 - i) cur = R →
    ∃ g', f_X5_after_26 t n (nI N) B S cur anc (nI a) s (nI i) (scr h t g) = some (R, scr h t g')
  | 0, i, a, cur, anc, s, g, h1, h2, h3, h4, _, _ => absurd h4 (by omega)
  | n + 1, i, a, cur, anc, s, g, h1, h2, h3, h4, h5, h6 => by
    obtain ⟨g1, e1⟩ := stp_e h t g cur B S
    obtain ⟨F, eF⟩ : ∃ F, F = fun y => stepF (hI h (t + 1)) y B S := ⟨_, rfl⟩
    have eFc : ∀ y, F y = stepF (hI h (t + 1)) y B S := fun y => by rw [eF]
    rw [← eF] at h5 h6
    have ih := aftC_lp h t B S hN R n
    rw [← eF] at ih
    unfold f_X5_after_26
    by_cases hend : N < i
    · rw [if_pos (by rw [nI_ltI (by omega) (by omega)]; exact hend)]
      have : N + 1 - i = 0 := by omega
      rw [this, itN] at h6
      exact ⟨g, by rw [h6]⟩
    · rw [if_neg (by rw [nI_ltI (by omega) (by omega)]; exact hend), e1, bd2_s]
      simp only [ltv_e]
      rw [nI_sub (show a ≤ i by omega), ← eFc]
      have hc : itN F (i - a) anc = F cur := by rw [show i - a = (i - 1 - a) + 1 by omega, itN_last, h5]
      have hR : itN F (N - i) (F cur) = R := by rw [show N + 1 - i = (N - i) + 1 by omega, itN] at h6; exact h6
      have A83 : ∃ g', f_X5_after_83 t (f_X5_after_26 t n) (nI N) B S (F cur) anc (nI a) s (nI i) (nI (i - a)) (scr h t g1) = some (R, scr h t g') := by
        unfold f_X5_after_83
        simp only [ltv_e, nI_1]
        split
        · exact ih (i + 1) i (F cur) (F cur) _ g1 (by omega) (by omega) (by omega) (by omega) (by rw [show i + 1 - 1 - i = 0 by omega]; rfl) (by rw [show N + 1 - (i + 1) = N - i by omega]; exact hR)
        · exact ih (i + 1) a (F cur) anc s g1 (by omega) (by omega) (by omega) (by omega) (by rw [show i + 1 - 1 - a = i - a by omega]; exact hc) (by rw [show N + 1 - (i + 1) = N - i by omega]; exact hR)
      by_cases hcyc : F cur = anc
      · rw [if_pos hcyc, if_neg (by rw [show (0 : Int32) = nI 0 from rfl, nI_leI (by omega) (by omega)]; omega)]
        have hne : ¬ nI (i - a) = 0 := fun e => by have := nI_inj (by omega) (by omega) (e.trans (show (0 : Int32) = nI 0 from rfl)); omega
        have hle : (N - i) / (i - a) * (i - a) ≤ N - i := Nat.div_mul_le_self _ _
        rw [gdv_t hne, nI_sub (show i ≤ N by omega), nI_div (by omega) (by omega) (by omega), nI_mul, nI_add, nI_1]
        have hp : itN F (i - a) (F cur) = F cur := by rw [hcyc]; rw [hcyc] at hc; exact hc
        refine ih (i + (N - i) / (i - a) * (i - a) + 1) a (F cur) anc s g1 (by omega) (by omega) (by omega) (by omega) ?_ ?_
        · rw [show i + (N - i) / (i - a) * (i - a) + 1 - 1 - a = (i - a) + (N - i) / (i - a) * (i - a) by omega, itN_add, hc, itN_cyc hp]
        · have : N - i = (N - i) / (i - a) * (i - a) + (N + 1 - (i + (N - i) / (i - a) * (i - a) + 1)) := by omega
          rw [this, itN_add, itN_cyc hp] at hR
          exact hR
      · rw [if_neg hcyc]; exact A83
theorem aftC_e (h : HP) {t N : Nat} (hN : N < 1000000) (hr : (hI h t 10).toInt ≤ 4) (x : Int32) : ∃ g', f_X5_after h t x (nI N) = some (itN (nxF h t) N x, scr h t g') := by
  unfold f_X5_after f_X5_bornNow f_X5_staysNow
  rw [gdv_t hr, bd2_s, gdv_t hr, bd2_s]
  have key := aftC_lp h t (bornF h t) (staysF h t) (N := N) (by omega) (itN (nxF h t) N x) FU 1 0 x x 1 (hI h (t + 1 + 1)) (by omega) (by omega) (by omega) (by have := FU_gt hN; omega) rfl rfl
  rw [← scr_self] at key
  exact key
/-- another count of lit neighbours is nothing that matters -/
theorem Sm.scr {t : Nat} {h g : HP} (ht : t = 79 ∨ t = 96) (s : Sm t h g) (f : Nat → Int32) : Sm t h (scr g t f) := s.rI _ _ (fun j q => by unfold relI inT at q; omega)
theorem Sm.ln {t : Nat} {h g : HP} (ht : t = 79 ∨ t = 96) (s : Sm t h g) (w r : Nat) (j : Bool) : Sm t h (lnH g w r j) := s.rI _ _ (fun j q => by unfold relI inT at q; omega)
theorem Sm.st0 {t : Nat} {h g : HP} (ht : t = 79 ∨ t = 96) (s : Sm t h g) (v : Int32) : Sm t h (uI g 0 11 v) := s.I _ _ _ (by unfold relI inT; omega)
theorem Sm.st1 {t : Nat} {h g : HP} (ht : t = 79 ∨ t = 96) (s : Sm t h g) (v : Int32) : Sm t h (uI g 113 2 v) := s.I _ _ _ (by unfold relI inT; omega)
theorem TW.r4 {h : HP} {t w r m c : Nat} {j : Bool} (T : TW h t w r m c j) : (hI h t 10).toInt ≤ 4 := by
  obtain ⟨⟨m1, m2, m3⟩, -⟩ := T.2.1.n
  rw [m3, nI_t (by omega)]; omega
theorem TW.pic0 {h : HP} {t w r m c : Nat} {j : Bool} (T : TW h t w r m c j) : hI h t 13 = hI h 114 3 := T.1.n.2.2.2.2.1.2
/-- an answer behind scratch work of both -/
theorem op_sc {h g1 g2 : HP} {t u : Nat} (I : Inv h t u) {r v : Int32} {f1 : Option (Int32 × HP)} {f2 : HP → Option (Int32 × HP)} (e1 : f1 = some (r, uI g1 0 11 v)) (s1 : Sm t h g1) (e2 : f2 (uI g1 0 11 v) = some (r, uI g2 113 2 v)) (s2 : Sm t (uI g1 0 11 v) g2) (k : hI g2 0 11 = v) : Op t u f1 f2 := by
  have ht := I.t
  exact ⟨_, _, _, e1, e2, I.sm (((s1.st0 ht v).trans s2).st1 ht v) (by rw [hI_uI_s, hI_uI_n (by decide)]; exact k)⟩
theorem opL_sc {h g1 g2 : HP} {t u : Nat} (I : Inv h t u) {r : Int64} {v : Int32} {f1 : Option (Int64 × HP)} {f2 : HP → Option (Int64 × HP)} (e1 : f1 = some (r, uI g1 0 11 v)) (s1 : Sm t h g1) (e2 : f2 (uI g1 0 11 v) = some (r, uI g2 113 2 v)) (s2 : Sm t (uI g1 0 11 v) g2) (k : hI g2 0 11 = v) : OpL t u f1 f2 := by
  have ht := I.t
  exact ⟨_, _, _, e1, e2, I.sm (((s1.st0 ht v).trans s2).st1 ht v) (by rw [hI_uI_s, hI_uI_n (by decide)]; exact k)⟩
theorem SmN.refl (h : HP) : SmN h h := fun _ _ => rfl
theorem SmN.sc {h : HP} {t : Nat} (ht : t = 79 ∨ t = 96) (f : Nat → Int32) (v : Int32) : SmN h (uI (scr h t f) 0 11 v) := fun k _ => by rw [hI_uI_n (by omega), scr_I _ _ _ (by omega)]
theorem aft1_e {h g : HP} {t w r m c : Nat} {j : Bool} (T : TW h t w r m c j) (sm : SmN h g) {x : Int32} (hx : inH h x) : f_X12_after g x 1 = some (nxF h t x, lnH g w r j) := aft_e T sm (N := 1) (by decide) hx
theorem op_ahead {h : HP} {t u : Nat} (I : Inv h t u) (a : Int32) : OpL t u (f_X11_ahead h t a) (fun g => f_X12_ahead g a) := by
  have ht := I.t
  obtain ⟨w, r, m, c, j, T⟩ := I.tw
  have fr : ∀ g, f_X12_isFrom g (Int32.toInt64 a) 0 999 = some (bI (decide (0 ≤ a.toInt ∧ a.toInt ≤ 999)), g) := fun g => fr32 g a (n := 999) (by decide)
  unfold f_X11_ahead f_X12_ahead
  simp only [fr, bd2_s]
  by_cases ha : 0 ≤ a.toInt ∧ a.toInt ≤ 999
  · obtain ⟨a1, a2⟩ := (toI32 (n := 999) (by decide)).mpr ha
    obtain ⟨N, hN, rfl⟩ := rng_nI (n := 999) ha
    obtain ⟨g', e⟩ := aftC_e h (t := t) (N := N) (by omega) T.r4 (hI h t 13)
    rw [if_neg a1, if_pos (show nI N ≤ 999 from Int32.not_lt.mp a2), e, bd2_s, ans_e, bd2_s, bI_dt ha]
    have sm := SmN.sc (h := h) ht g' 0
    refine opL_sc I (g2 := lnH (uI (scr h t g') 0 11 0) w r j) rfl ((Sm.refl t h).scr ht g') ?_ ((Sm.refl _ _).ln ht w r j) ?_
    · try simp only []
      rw [if_neg (by decide), sm 3 (by omega), aft_e T sm (by omega) T.pic, bd2_s, gvl_e, bd2_s, T.pic0]
    · rw [lnH_I _ _ _ _ (by decide), hI_uI_s]
  · refine opL_st I (v := 1) (r := -1) ?_ ?_
    · by_cases a1 : a < 0
      · rw [if_pos a1]; rfl
      · rw [if_neg a1, if_neg (show ¬ a ≤ 999 from fun q => ha ((toI32 (n := 999) (by decide)).mp ⟨a1, Int32.not_lt.mpr q⟩))]; rfl
    · try simp only []
      rw [bI_df ha, if_pos rfl]; rfl
theorem op_still {h : HP} {t u : Nat} (I : Inv h t u) : Op t u (f_X11_still h t) (fun g => f_X12_still g) := by
  have ht := I.t
  obtain ⟨w, r, m, c, j, T⟩ := I.tw
  obtain ⟨g', e⟩ : ∃ g', litH h (t + 1) (hI h t 13) = scr h t g' := ⟨_, rfl⟩
  have C : f_X11_still h t = some (bI (decide (nxF h t (hI h t 13) = hI h t 13)), uI (scr h t g') 0 11 0) := by
    unfold f_X11_still f_X5_isStill
    rw [gdv_t T.r4, bd2_s, e]
    by_cases q : nxF h t (hI h t 13) = hI h t 13
    · rw [bI_dt q, if_neg (by decide)]; rfl
    · rw [bI_df q, if_pos rfl]; rfl
  have sm := SmN.sc (h := h) ht g' 0
  refine op_sc I (g2 := lnH (uI (scr h t g') 0 11 0) w r j) C ((Sm.refl t h).scr ht g') ?_ ((Sm.refl _ _).ln ht w r j) ?_
  · show f_X12_still _ = _
    unfold f_X12_still f_X12_isStill
    rw [sm 3 (by omega), aft1_e T sm T.pic, bd2_s, lnH_I _ _ _ _ (by decide), sm 3 (by omega), T.pic0]
    show bd2 (if nxF h t (hI h 114 3) = hI h 114 3 then _ else _) _ = _
    by_cases q : nxF h t (hI h 114 3) = hI h 114 3
    · rw [if_pos q, bI_dt q, bd2_s, if_neg (by decide)]; rfl
    · rw [if_neg q, bI_df q, bd2_s, if_pos rfl]; rfl
  · rw [lnH_I _ _ _ _ (by decide), hI_uI_s]
theorem op_next {h : HP} {t u : Nat} (I : Inv h t u) (a : Int32) : Op t u (f_X11_next h t a) (fun g => f_X12_next g a) := by
  have ht := I.t
  obtain ⟨w, r, m, c, j, T⟩ := I.tw
  obtain ⟨g', e⟩ : ∃ g', litH h (t + 1) (hI h t 13) = scr h t g' := ⟨_, rfl⟩
  have C : f_X11_next h t a = (if a = 0 then some (nI (pc (nxF h t (hI h 114 3) &&& (hI h 114 3 ^^^ -1))), uI (scr h t g') 0 11 0) else if a = 1 then some (nI (pc (hI h 114 3 &&& (nxF h t (hI h 114 3) ^^^ -1))), uI (scr h t g') 0 11 0) else if a = 2 then some (nI (pc (hI h 114 3 &&& nxF h t (hI h 114 3))), uI (scr h t g') 0 11 0) else some (-1, uI (scr h t g') 0 11 1)) := by
    unfold f_X11_next f_X5_nextOf
    simp only [ltv_e]
    rw [gdv_t T.r4, bd2_s, e, T.pic0]
    rfl
  have fin : ∀ v, Sm t h (scr h t g') ∧ Sm t (uI (scr h t g') 0 11 v) (lnH (uI (scr h t g') 0 11 v) w r j) ∧ hI (lnH (uI (scr h t g') 0 11 v) w r j) 0 11 = v := fun v => ⟨(Sm.refl t h).scr ht g', (Sm.refl _ _).ln ht w r j, by rw [lnH_I _ _ _ _ (by decide), hI_uI_s]⟩
  rw [C]
  have sm := fun v => SmN.sc (h := h) ht g' v
  by_cases ha : 0 ≤ a.toInt ∧ a.toInt ≤ 2
  · obtain ⟨a1, a2⟩ := (toI32 (n := 2) (by decide)).mpr ha
    have M : f_X12_next (uI (scr h t g') 0 11 0) a = (if a = 0 then some (nI (pc (nxF h t (hI h 114 3) &&& (hI h 114 3 ^^^ -1))), uI (lnH (uI (scr h t g') 0 11 0) w r j) 113 2 0) else if a = 1 then some (nI (pc (hI h 114 3 &&& (nxF h t (hI h 114 3) ^^^ -1))), uI (lnH (uI (scr h t g') 0 11 0) w r j) 113 2 0) else some (nI (pc (hI h 114 3 &&& nxF h t (hI h 114 3))), uI (lnH (uI (scr h t g') 0 11 0) w r j) 113 2 0)) := by
      unfold f_X12_next
      rw [if_neg a1, if_pos (show a ≤ 2 from Int32.not_lt.mp a2), sm 0 3 (by omega), aft1_e T (sm 0) T.pic, bd2_s, lnH_I _ _ _ _ (by decide), sm 0 3 (by omega)]
      simp only [bits_e, bd2_s, giv_e]
    obtain ⟨k, hk, rfl⟩ := rng_nI (n := 2) ha
    rcases (show k = 0 ∨ k = 1 ∨ k = 2 by omega) with rfl | rfl | rfl
    · rw [if_pos (show nI 0 = 0 from rfl)]; rw [if_pos (show nI 0 = 0 from rfl)] at M
      exact op_sc I rfl (fin 0).1 M (fin 0).2.1 (fin 0).2.2
    · rw [if_neg (show ¬ nI 1 = 0 by decide), if_pos (show nI 1 = 1 from rfl)]; rw [if_neg (show ¬ nI 1 = 0 by decide), if_pos (show nI 1 = 1 from rfl)] at M
      exact op_sc I rfl (fin 0).1 M (fin 0).2.1 (fin 0).2.2
    · rw [if_neg (show ¬ nI 2 = 0 by decide), if_neg (show ¬ nI 2 = 1 by decide), if_pos (show nI 2 = 2 from rfl)]; rw [if_neg (show ¬ nI 2 = 0 by decide), if_neg (show ¬ nI 2 = 1 by decide)] at M
      exact op_sc I rfl (fin 0).1 M (fin 0).2.1 (fin 0).2.2
  · have N := fun k hk => ne_rng ha (k := k) hk
    rw [if_neg (N 0 (by decide)), if_neg (N 1 (by decide)), if_neg (N 2 (by decide))]
    refine op_sc I (g2 := uI (scr h t g') 0 11 1) rfl (fin 1).1 ?_ (Sm.refl _ _) (hI_uI_s _ _ _ _)
    show f_X12_next _ a = _
    unfold f_X12_next
    by_cases a1 : a < 0
    · rw [if_pos a1]; rfl
    · rw [if_neg a1, if_neg (show ¬ a ≤ 2 from fun q => ha ((toI32 (n := 2) (by decide)).mp ⟨a1, Int32.not_lt.mpr q⟩))]; rfl
