/-! ===== alike: the class's night ===== -/
theorem or0' (x : Int32) : x ||| 0 = x := Int32.or_zero
theorem TH_mk (H : HP) (t : Nat) (x o : Int32) (s g : Nat → Int32) : uI (uI (rI (rI H (t + 1 + 1) g) (t + 15) s) t 15 o) t 13 x = TH H t x o s g := by
  have e : hI (rI (rI H (t + 1 + 1) g) (t + 15) s) t = hI H t := by rw [hI_rI_n _ _ (by omega), hI_rI_n _ _ (by omega)]
  show uI (rI (rI (rI H (t + 1 + 1) g) (t + 15) s) t (upd (hI (rI (rI H (t + 1 + 1) g) (t + 15) s) t) 15 o)) t 13 x = _
  rw [uI_rI, e]; rfl
theorem pn_lp {t : Nat} {x born stays th : Int32} {f s : Nat → Int32} {G : HP} (f1 : ∀ j, j < 5 → hI G (t + 1 + 1) j = litF f x j) (f2 : hI G (t + 1) 5 = f 5) (f3 : hI G t 13 = x) : ∀ d k n, k + d = 5 → d < n →
    f_X5_passNight_27 t n born stays th (nI k) (rI G (t + 15) (seenP s (uF f x born stays) k)) = some (uI (uI (rI G (t + 15) (seenP s (uF f x born stays) 5)) t 15 (hI G t 15 + nI (pc x))) t 13 th)
  | d, k, 0, _, z => absurd z (by omega)
  | 0, k, n + 1, e, _ => by
    unfold f_X5_passNight_27 f_J6_bitCount_0f7a4
    rw [if_pos (by rw [show (5 : Int32) = nI 5 from rfl, nI_leI (by omega) (by omega)]; omega), bd2_s, show k = 5 by omega]
    simp only [ltv_e]
    rw [hI_rI_n _ _ (show t ≠ t + 15 by omega), f3]
  | d + 1, k, n + 1, e, z => by
    obtain ⟨u, eu⟩ : ∃ u, u = uF f x born stays := ⟨_, rfl⟩
    have key := pn_lp f1 f2 f3 (born := born) (stays := stays) (th := th) (s := s) d (k + 1) n (by omega) (by omega)
    have lo : u k = if (litF f x k &&& f 5) &&& (x ^^^ -1) = 0 then 0 else (1 : Int32) <<< (((born >>> (nI k &&& 31)) &&& 1) &&& 31) := by rw [eu, uF_lo (by omega)]; first | done | rfl
    have hi : u (5 + k) = if (litF f x k &&& f 5) &&& x = 0 then 0 else (1 : Int32) <<< (((stays >>> (nI k &&& 31)) &&& 1) &&& 31) := by rw [eu, uF_hi (by omega)]; first | done | rfl
    rw [← eu] at key ⊢
    have C : ∀ r : Nat → Int32, r k = s k ||| u k → (∀ j, j ≠ k → r j = seenP s u k j) → f_X5_passNight_83 t (f_X5_passNight_27 t n) born stays th (nI k) (litF f x k &&& f 5) (rI G (t + 15) r) = some (uI (uI (rI G (t + 15) (seenP s u 5)) t 15 (hI G t 15 + nI (pc x))) t 13 th) := fun r h1 h2 => by
      unfold f_X5_passNight_83
      rw [hI_rI_n _ _ (show t ≠ t + 15 by omega), f3, hI_rI_s]
      simp only [ltv_e, nI_1]
      by_cases q : (litF f x k &&& f 5) &&& x = 0
      · rw [if_pos q]
        rw [if_pos q] at hi
        rw [← seenP_succ (s := s) (u := u) (r := r) (k := k) (by omega) h1 (by rw [h2 _ (by omega), (seenP_at (by omega)).2, hi, or0']) (fun j a b => h2 j a)] at key
        exact key
      · rw [if_neg q, show (5 : Int32) = nI 5 from rfl, nI_add, gdi_nI (by omega) (by decide), gdi_nI (by omega) (by decide), nI_clamp (by omega), uI_rI]
        rw [if_neg q] at hi
        rw [← seenP_succ (s := s) (u := u) (r := upd r (5 + k) (r (5 + k) ||| (1 : Int32) <<< (((stays >>> (nI k &&& 31)) &&& 1) &&& 31))) (k := k) (by omega) (by unfold upd; rw [if_neg (by omega), h1]) (by unfold upd; rw [if_pos rfl, h2 _ (by omega), (seenP_at (by omega)).2, hi]) (fun j a b => by unfold upd; rw [if_neg b, h2 j a])] at key
        exact key
    unfold f_X5_passNight_27
    rw [if_neg (by rw [show (5 : Int32) = nI 5 from rfl, nI_leI (by omega) (by omega)]; omega), gdi_nI (by omega) (by decide), nI_clamp (by omega), hI_rI_n _ _ (show t + 1 + 1 ≠ t + 15 by omega), hI_rI_n _ _ (show t + 1 ≠ t + 15 by omega), hI_rI_n _ _ (show t ≠ t + 15 by omega), f1 k (by omega), f2, f3, hI_rI_s]
    simp only [ltv_e]
    by_cases q : (litF f x k &&& f 5) &&& (x ^^^ -1) = 0
    · rw [if_pos q]
      rw [if_pos q] at lo
      exact C _ (by rw [(seenP_at (by omega)).1, lo, or0']) (fun _ _ => rfl)
    · rw [if_neg q, gdi_nI (by omega) (by decide), gdi_nI (by omega) (by decide), uI_rI]
      rw [if_neg q] at lo
      exact C _ (by unfold upd; rw [if_pos rfl, (seenP_at (by omega)).1, lo]) (fun j a => by unfold upd; rw [if_neg a])
theorem pn_e {H : HP} {t : Nat} (hr : (hI H t 10).toInt ≤ 4) : ∃ g, f_X5_passNight H t = some (TH H t (nxF H t (hI H t 13)) (hI H t 15 + nI (pc (hI H t 13))) (fun j => hI H (t + 15) j ||| uT H t (hI H t 13) j) g) := by
  obtain ⟨g, eg⟩ : ∃ g, litH H (t + 1) (hI H t 13) = rI H (t + 1 + 1) g ∧ ∀ j, j < 5 → g j = litF (hI H (t + 1)) (hI H t 13) j := by
    refine ⟨_, rfl, fun j hj => ?_⟩
    unfold litRow; rw [if_pos hj]
  refine ⟨g, ?_⟩
  unfold f_X5_passNight f_X5_bornNow f_X5_staysNow f_X1_step
  rw [gdv_t hr, bd2_s, gdv_t hr, bd2_s, bd2_s, eg.1]
  have key := pn_lp (t := t) (x := hI H t 13) (born := bornF H t) (stays := staysF H t) (th := nxF H t (hI H t 13)) (f := hI H (t + 1)) (s := hI H (t + 15)) (G := rI H (t + 1 + 1) g) (fun j hj => by rw [hI_rI_s]; exact eg.2 j hj) (by rw [hI_rI_n _ _ (by omega)]) (by rw [hI_rI_n _ _ (by omega)]) 5 0 FU (by omega) (FU_gt (by omega))
  rw [seenP_0, seenP_5 (uF_10 _ _ _ _)] at key
  have es : rI (rI H (t + 1 + 1) g) (t + 15) (hI H (t + 15)) = rI H (t + 1 + 1) g := by
    have := rI_self (rI H (t + 1 + 1) g) (t + 15)
    rw [hI_rI_n _ _ (by omega)] at this; exact this
  rw [es] at key
  refine key.trans ?_
  rw [hI_rI_n _ _ (show t ≠ t + 1 + 1 by omega), TH_mk]

theorem ns_lp {h1 : HP} {t : Nat} (hr : (hI h1 t 10).toInt ≤ 4) {m : Nat} (hm : m < 2 ^ 20) {X O : Int32} {S : Nat → Int32} :
    ∀ n j an (x anc o anco span : Int32) (s g : Nat → Int32), m + 2 ≤ j + n → 1 ≤ j → j ≤ m + 1 → an < j → itN (nxF h1 t) (m + 1 - j) x = X → o + oilN (nxF h1 t) (m + 1 - j) x = O → (∀ i, s i ||| seenN (nxF h1 t) (uT h1 t) (m + 1 - j) x i = S i) →
      itN (nxF h1 t) (j - 1 - an) anc = x → o = anco + oilN (nxF h1 t) (j - 1 - an) anc → (∀ i, s i ||| seenN (nxF h1 t) (uT h1 t) (j - 1 - an) anc i = s i) →
    ∃ g', f_X5_passNights_19 t n (nI m) anc (nI an) anco span (nI j) (TH h1 t x o s g) = some (uI (TH h1 t X O S g') t 14 (hI h1 t 14 + nI m)) := by
  intro n
  induction n with
  | zero => intro j an x anc o anco span s g h1 h2 h3; exact absurd h1 (by omega)
  | succ n ih =>
    intro j an x anc o anco span s g hf hj1 hj2 han htg hto hts hcy hco hcs
    unfold f_X5_passNights_19
    by_cases c1 : m < j
    · rw [if_pos (by rw [nI_ltI (by omega) (by omega)]; exact c1)]
      have hk2 : j = m + 1 := by omega
      have e0 : x = X := by rw [← htg, hk2, Nat.sub_self]; rfl
      have e1 : o = O := by rw [← hto, hk2, Nat.sub_self]; exact (Int32.add_zero _).symm
      have e2 : s = S := by funext i; rw [← hts i, hk2, Nat.sub_self]; exact (Int32.or_zero).symm
      subst e0 e1 e2
      simp only [ltv_e]
      rw [TH_t, show upd (upd (hI h1 t) 15 o) 13 x 14 = hI h1 t 14 from rfl]
      exact ⟨g, rfl⟩
    · have hlt : j ≤ m := by omega
      rw [if_neg (by rw [nI_ltI (by omega) (by omega)]; exact c1)]
      obtain ⟨g2, e2⟩ := pn_e (H := TH h1 t x o s g) (t := t) (by rw [TH_t]; exact hr)
      unfold uT at e2
      rw [TH_TH, TH_nx, TH_t, TH_s, (TH_born h1 t x o s g).1, (TH_born h1 t x o s g).2, TH_o x o s g (show t + 1 ≠ t by omega) (by omega) (by omega), show upd (upd (hI h1 t) 15 o) 13 x 13 = x from rfl, show upd (upd (hI h1 t) 15 o) 13 x 15 = o from rfl] at e2
      rw [e2, bd1_s]
      have h1a : itN (nxF h1 t) (m - j) (nxF h1 t x) = X := by rw [← htg, show m + 1 - j = (m - j) + 1 by omega]; rfl
      have h1b : o + nI (pc x) + oilN (nxF h1 t) (m - j) (nxF h1 t x) = O := by rw [← hto, show m + 1 - j = (m - j) + 1 by omega, Int32.add_assoc]; rfl
      have h1c : ∀ i, (s i ||| uT h1 t x i) ||| seenN (nxF h1 t) (uT h1 t) (m - j) (nxF h1 t x) i = S i := fun i => by rw [← hts i, show m + 1 - j = (m - j) + 1 by omega, Int32.or_assoc]; rfl
      have h2a : itN (nxF h1 t) (j - an) anc = nxF h1 t x := by rw [← hcy, show j - an = (j - 1 - an) + 1 by omega, itN_last]
      have h2b : o + nI (pc x) = anco + oilN (nxF h1 t) (j - an) anc := by
        rw [show j - an = (j - 1 - an) + 1 by omega, oilN_add, hcy, hco, Int32.add_assoc]
        show _ = anco + (_ + (nI (pc x) + 0))
        rw [Int32.add_zero]
      have h2c : ∀ i, (s i ||| uT h1 t x i) ||| seenN (nxF h1 t) (uT h1 t) (j - an) anc i = s i ||| uT h1 t x i := fun i => by
        rw [show j - an = (j - 1 - an) + 1 by omega, seenN_add, hcy]
        show (s i ||| uT h1 t x i) ||| (_ ||| (uT h1 t x i ||| 0)) = _
        rw [Int32.or_zero, Int32.or_assoc, ← Int32.or_assoc (uT h1 t x i), Int32.or_comm (uT h1 t x i), Int32.or_assoc, Int32.or_self, ← Int32.or_assoc, hcs i]
      generalize hx' : nxF h1 t x = x' at *
      generalize ho' : o + nI (pc x) = o' at *
      generalize hs' : (fun j => s j ||| uF (hI h1 (t + 1)) x (bornF h1 t) (staysF h1 t) j) = s' at *
      have hs9 : ∀ i, s i ||| uT h1 t x i = s' i := fun i => by rw [← hs']
      simp only [hs9] at h1c h2c
      simp only [ltv_e]
      rw [nI_sub (show an ≤ j by omega), TH_t, show upd (upd (hI h1 t) 15 o') 13 x' 13 = x' from rfl, show upd (upd (hI h1 t) 15 o') 13 x' 15 = o' from rfl]
      have A89 : ∃ g', f_X5_passNights_89 t (f_X5_passNights_19 t n) (nI m) anc (nI an) anco span (nI j) (nI (j - an)) (TH h1 t x' o' s' g2) = some (uI (TH h1 t X O S g') t 14 (hI h1 t 14 + nI m)) := by
        unfold f_X5_passNights_89
        rw [TH_t, show upd (upd (hI h1 t) 15 o') 13 x' 13 = x' from rfl, show upd (upd (hI h1 t) 15 o') 13 x' 15 = o' from rfl]
        simp only [ltv_e, nI_1]
        split
        · exact ih (j + 1) j x' x' o' o' _ s' g2 (by omega) (by omega) (by omega) (by omega) (by rw [← h1a]; congr 1; omega) (by rw [← h1b]; congr 2; omega) (fun i => by rw [← h1c i]; congr 2; omega) (by rw [show j + 1 - 1 - j = 0 by omega]; rfl) (by rw [show j + 1 - 1 - j = 0 by omega]; exact (Int32.add_zero _).symm) (fun i => by rw [show j + 1 - 1 - j = 0 by omega]; exact Int32.or_zero)
        · exact ih (j + 1) an x' anc o' anco span s' g2 (by omega) (by omega) (by omega) (by omega) (by rw [← h1a]; congr 1; omega) (by rw [← h1b]; congr 2; omega) (fun i => by rw [← h1c i]; congr 2; omega) (by rw [← h2a]; congr 1) (by rw [h2b]; congr 2) (fun i => by have h9 := h2c i; exact h9)
      by_cases hq9 : x' = anc
      · rw [if_pos hq9, if_neg (by rw [show (0 : Int32) = nI 0 from rfl, nI_leI (by omega) (by omega)]; omega), gdv_t (nI_ne0 (by omega) (by omega)), nI_sub hlt, nI_div (by omega) (by omega) (by omega)]
        have hcc : itN (nxF h1 t) (j - an) x' = x' := by have h9 := h2a; rw [← hq9] at h9; exact h9
        have eH : uI (TH h1 t x' o' s' g2) t 15 (o' + nI ((m - j) / (j - an)) * (o' - anco)) = TH h1 t x' (o' + oilN (nxF h1 t) ((m - j) / (j - an) * (j - an)) x') s' g2 := by
          rw [oilN_cyc hcc, show o' - anco = oilN (nxF h1 t) (j - an) x' by rw [h2b, ← hq9, Int32.add_comm anco, Int32.add_sub_cancel]]
          show rI _ t (upd (hI (TH h1 t x' o' s' g2) t) 15 _) = _
          rw [TH_t]; unfold TH; rw [rI_rI]
          refine congrArg (rI _ t) ?_
          funext q; simp only [upd]; split
          · next e => subst e; rfl
          · rfl
        rw [eH]
        have hrp : 0 < j - an := by omega
        generalize hp : j - an = pp at *
        have hle : (m - j) / pp * pp ≤ m - j := Nat.div_mul_le_self _ _
        have hsc : itN (nxF h1 t) ((m - j) / pp * pp) x' = x' := itN_cyc hcc _
        have hss : ∀ i, s' i ||| seenN (nxF h1 t) (uT h1 t) ((m - j) / pp * pp) x' i = s' i := fun i => seenN_cyc hcc (by have h9 := h2c i; rw [← hq9] at h9; exact h9) _
        rw [nI_mul, nI_add, nI_1]
        generalize (m - j) / pp * pp = sk at *
        subst hq9
        exact ih _ an x' x' _ anco span s' g2 (by omega) (by omega) (by omega) (by omega)
            (by rw [← h1a, show m - j = sk + (m + 1 - (j + sk + 1)) by omega, itN_add, hsc])
            (by rw [← h1b, show m - j = sk + (m + 1 - (j + sk + 1)) by omega, oilN_add, hsc, Int32.add_assoc])
            (fun i => by rw [← h1c i, show m - j = sk + (m + 1 - (j + sk + 1)) by omega, seenN_add, hsc, ← Int32.or_assoc, hss i])
            (by rw [show j + sk + 1 - 1 - an = pp + sk by omega, itN_add, hcc, hsc])
            (by rw [show j + sk + 1 - 1 - an = pp + sk by omega, oilN_add, hcc, ← Int32.add_assoc, ← h2b])
            (fun i => by rw [show j + sk + 1 - 1 - an = pp + sk by omega, seenN_add, hcc, ← Int32.or_assoc, h2c i, hss i])
      · rw [if_neg hq9]; exact A89
theorem ns_e {h : HP} {t : Nat} (hr : (hI h t 10).toInt ≤ 4) {m : Nat} (hm : m < 1000000) : ∃ g', f_X5_passNights h t (nI m) = some (uI (TH h t (itN (nxF h t) m (hI h t 13)) (hI h t 15 + oilN (nxF h t) m (hI h t 13)) (fun i => hI h (t + 15) i ||| seenN (nxF h t) (uT h t) m (hI h t 13) i) g') t 14 (hI h t 14 + nI m)) := by
  have key := ns_lp (h1 := h) (t := t) hr (m := m) (by omega) (X := itN (nxF h t) m (hI h t 13)) (O := hI h t 15 + oilN (nxF h t) m (hI h t 13)) (S := fun i => hI h (t + 15) i ||| seenN (nxF h t) (uT h t) m (hI h t 13) i) FU 1 0 (hI h t 13) (hI h t 13) (hI h t 15) (hI h t 15) 1 (hI h (t + 15)) (hI h (t + 1 + 1)) (by have := FU_gt hm; omega) (by omega) (by omega) (by omega) (by rw [show m + 1 - 1 = m by omega]) (by rw [show m + 1 - 1 = m by omega]) (fun i => by rw [show m + 1 - 1 = m by omega]) rfl (Int32.add_zero _).symm (fun i => Int32.or_zero)
  rw [TH_self] at key
  obtain ⟨g', e⟩ := key
  refine ⟨g', ?_⟩
  unfold f_X5_passNights
  simp only [ltv_e]
  have z0 : nI 0 = 0 := rfl
  have z1 : nI 1 = 1 := rfl
  rw [z0, z1] at e
  exact e
