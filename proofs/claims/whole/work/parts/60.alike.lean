/-! ===== nights ahead ===== -/
/-- all that is known of the present town -/
def TW (h : HP) (t w r m c : Nat) (j : Bool) : Prop := RtH h t 0 w r ∧ RtR h t 0 0 m c ∧ HillOK (hI h (t + 1)) w r j ∧ (hI h 114 9 = if j then 1 else 0) ∧ (j = true → 2 < w)
theorem Inv.tw {h : HP} {t u : Nat} (I : Inv h t u) : ∃ w r m c j, TW h t w r m c j := by
  obtain ⟨w, r, m, c, qH, qR, -⟩ := I.tn
  obtain ⟨j, H, j1, j2⟩ := qH.hill
  exact ⟨w, r, m, c, j, qH, qR, H, j1, j2⟩
theorem TW.born {h : HP} {t w r m c : Nat} {j : Bool} (T : TW h t w r m c j) : (hI h 114 10 = -1 ∧ bornF h t = 0 ∧ staysF h t = 0) ∨ ∃ q, q < 4 ∧ hI h 114 10 = nI q ∧ bornF h t = hI h 114 (12 + 2 * q) ∧ staysF h t = hI h 114 (13 + 2 * q) := by
  obtain ⟨-, qR, -⟩ := T
  obtain ⟨⟨m1, m2, m3⟩, -, p3, p4, -⟩ := qR.n
  unfold bornF staysF
  rcases p3 with ⟨e, p3⟩ | ⟨q, hq, p3, p3'⟩
  · refine Or.inl ⟨p3, ?_, ?_⟩ <;> rw [m3, e, show (nI 0).toInt = 0 from rfl, if_neg (by omega)]
  · refine Or.inr ⟨q, by omega, p3, ?_, ?_⟩
    · rw [p3', m3, nI_t (by omega), nI_t (by omega), if_pos (by omega), nI_clamp (by omega), (p4 q hq).1]
    · rw [p3', m3, nI_t (by omega), nI_t (by omega), if_pos (by omega), nI_clamp (by omega), (p4 q hq).2.1]
theorem TW.bec {h g : HP} {t w r m c : Nat} {j : Bool} (T : TW h t w r m c j) (sm : SmN h g) (ln : LN g w r j) {x : Int32} (hx : inH h x) : f_X12_becomes g x (hI g 114 10) = some (nxF h t x, g) := by
  obtain ⟨qH, qR, H, j1, j2⟩ := T
  unfold nxF
  rw [sm 10 (by omega)]
  rcases TW.born ⟨qH, qR, H, j1, j2⟩ with ⟨e, b1, b2⟩ | ⟨q, hq, e, b1, b2⟩
  · rw [e, b1, b2]; exact bec_none qH H sm hx
  · rw [e, b1, b2]; exact bec_rule qH H j1 j2 sm ln hx hq
theorem TW.nx {h : HP} {t w r m c : Nat} {j : Bool} (T : TW h t w r m c j) {x : Int32} (hx : inH h x) : inH h (nxF h t x) := step_inH T.1 hx _ _
theorem TW.it {h : HP} {t w r m c : Nat} {j : Bool} (T : TW h t w r m c j) : ∀ n {x : Int32}, inH h x → inH h (itN (nxF h t) n x)
  | 0, x, hx => hx
  | n + 1, x, hx => by rw [itN]; exact T.it n (T.nx hx)
theorem TW.pic {h : HP} {t w r m c : Nat} {j : Bool} (T : TW h t w r m c j) : inH h (hI h 114 3) := fun i hi b => (T.1.n.2.2.2.2.2.2 i hi).2.1 b
theorem TW.ln {h g : HP} {t w r m c : Nat} {j : Bool} (T : TW h t w r m c j) (sm : SmN h g) : f_X12_laysNear g = some (lnH g w r j) := by
  obtain ⟨qH, -, -, j1, j2⟩ := T
  obtain ⟨⟨w1, w5, hw, hw'⟩, ⟨r1, r6, hr, hr'⟩, -⟩ := qH.n
  exact lays_e w1 w5 r6 (by rw [sm 0 (by omega)]; exact hw) (by rw [sm 1 (by omega)]; exact hr) (by rw [sm 9 (by omega)]; exact j1)
theorem aft_lp {h g : HP} {t w r m c : Nat} {j : Bool} (T : TW h t w r m c j) (sm : SmN h g) (ln : LN g w r j) {N : Nat} (hN : N < 2 ^ 31) : ∀ d k n, k + d = N → d < n → ∀ x, inH h x →
    f_X12_after_9 n (nI N) x (nI k) g = some (itN (nxF h t) d x, g)
  | d, k, 0, _, z, _, _ => absurd z (by omega)
  | 0, k, n + 1, e, _, x, _ => by
    unfold f_X12_after_9
    rw [if_pos (by rw [nI_leI (by omega) (by omega)]; omega)]; rfl
  | d + 1, k, n + 1, e, z, x, hx => by
    unfold f_X12_after_9
    rw [if_neg (by rw [nI_leI (by omega) (by omega)]; omega), T.bec sm ln hx, bd2_s]
    simp only [ltv_e, nI_1]
    rw [itN]
    exact aft_lp T sm ln hN d (k + 1) n (by omega) (by omega) _ (T.nx hx)
theorem SmN.ln {h g : HP} (sm : SmN h g) (w r : Nat) (j : Bool) : SmN h (lnH g w r j) := fun k hk => by rw [lnH_I _ _ _ _ (by decide)]; exact sm k hk
theorem aft_e {h g : HP} {t w r m c : Nat} {j : Bool} (T : TW h t w r m c j) (sm : SmN h g) {N : Nat} (hN : N < 1000000) {x : Int32} (hx : inH h x) : f_X12_after g x (nI N) = some (itN (nxF h t) N x, lnH g w r j) := by
  unfold f_X12_after
  rw [T.ln sm, bd1_s]
  exact aft_lp T (sm.ln w r j) (lnH_LN g w r j) (by omega) N 0 FU (by omega) (FU_gt hN) x hx
