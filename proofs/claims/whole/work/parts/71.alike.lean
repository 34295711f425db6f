/-! ===== alike: the reference's night ===== -/
def sR (f s : Nat → Int32) : Nat → Int32 := fun j => if 32 ≤ j ∧ j < 42 then s (j - 32) else f j
/-- what is seen of the first k places -/
def sM (w : Nat) (j : Bool) (F x y : Int32) (s : Nat → Int32) : Nat → Nat → Int32
  | 0 => s
  | k + 1 => if bt F k then upd (sM w j F x y s k) (5 * b2 (bt x k) + nbC w j (bt x) k) (sM w j F x y s k (5 * b2 (bt x k) + nbC w j (bt x) k) ||| bitI (b2 (bt y k))) else sM w j F x y s k
theorem sR_lo {f s : Nat → Int32} {j : Nat} (h : j < 32) : sR f s j = f j := if_neg (by omega)
theorem sR_in {f s : Nat → Int32} {j : Nat} (h : j < 10) : sR f s (32 + j) = s j := by unfold sR; rw [if_pos (by omega), Nat.add_sub_cancel_left]
theorem sR_upd {f s : Nat → Int32} {i : Nat} (hi : i < 10) (v : Int32) : upd (sR f s) (32 + i) v = sR f (upd s i v) := by
  funext j; unfold upd sR
  by_cases q : j = 32 + i
  · subst q; rw [if_pos rfl, if_pos (by omega)]
    show v = if 32 + i - 32 = i then v else s (32 + i - 32)
    rw [if_pos (by omega)]
  · rw [if_neg q]
    by_cases a : 32 ≤ j ∧ j < 42
    · rw [if_pos a, if_pos a]
      show s (j - 32) = if j - 32 = i then v else s (j - 32)
      rw [if_neg (by omega)]
    · rw [if_neg a, if_neg a]
theorem bI_b2' (b : Bool) : bI b = nI (b2 b) := by cases b <;> rfl
theorem b2_le (b : Bool) : b2 b ≤ 1 := by cases b <;> decide
theorem gs_lp {G : HP} {w r : Nat} {j : Bool} (w1 : 1 ≤ w) (w5 : w ≤ 5) (r6 : r ≤ 6) (hw : hI G 114 0 = nI w) (hr : hI G 114 1 = nI r) (hj : j = true → 2 < w) (ln : LN G w r j) {x y F : Int32} (hx : hI G 114 3 = x) (hF : hI G 114 2 &&& (hI G 114 4 ^^^ -1) = F) (hH : ∀ i, i < 32 → bt x i = true → bt (hI G 114 2) i = true) (hP : ∀ i, i < 32 → bt x i = true → i < w * r) (s : Nat → Int32) : ∀ d k n, k + d = w * r → d < n →
    f_X12_goes_24 n y (nI k) (rI G 114 (sR (hI G 114) (sM w j F x y s k))) = some (uI (uI (uI (rI G 114 (sR (hI G 114) (sM w j F x y s (w * r)))) 114 8 (hI G 114 8 + nI (pc x))) 114 3 y) 114 7 (hI G 114 7 + 1))
  | d, k, 0, _, z => absurd z (by omega)
  | 0, k, n + 1, e, _ => by
    have h30 := wr_le w5 r6
    have E : ∀ i, i < 32 → hI (rI G 114 (sR (hI G 114) (sM w j F x y s k))) 114 i = hI G 114 i := fun i hi => by rw [hI_rI_s, sR_lo hi]
    unfold f_X12_goes_24
    rw [places_e _ (by rw [E 0 (by decide)]; exact hw) (by rw [E 1 (by decide)]; exact hr), bd2_s, if_pos (by rw [nI_leI (by omega) (by omega)]; omega), bits_e, bd2_s, E 3 (by decide), E 8 (by decide), hx]
    simp only [ltv_e]
    rw [hI_uI_n (by omega), hI_uI_n (by omega), E 7 (by decide), show k = w * r by omega]
  | d + 1, k, n + 1, e, z => by
    have h30 := wr_le w5 r6
    have key := gs_lp w1 w5 r6 hw hr hj ln hx hF hH hP s (y := y) d (k + 1) n (by omega) (by omega)
    have E : ∀ i, i < 32 → hI (rI G 114 (sR (hI G 114) (sM w j F x y s k))) 114 i = hI G 114 i := fun i hi => by rw [hI_rI_s, sR_lo hi]
    unfold f_X12_goes_24
    rw [places_e _ (by rw [E 0 (by decide)]; exact hw) (by rw [E 1 (by decide)]; exact hr), bd2_s, if_neg (by rw [nI_leI (by omega) (by omega)]; omega), freeM_e, bd2_s, E 2 (by decide), E 4 (by decide), hF, shr1 (by omega)]
    rw [sM] at key
    cases q : bt F k
    · rw [if_pos (show bI false = 0 from rfl)]
      rw [q, if_neg (by decide)] at key
      simp only [ltv_e, nI_1]
      exact key
    · rw [if_neg (show ¬ bI true = 0 by decide), gdi_nI (by omega) (by decide), nI_clamp (by omega), hI_rI_n _ _ (show 122 ≠ 114 by decide), ln k (by omega), E 3 (by decide), hx, bits_e, bd2_s, near_ct w1 w5 r6 hj hH hP (by omega), shr1 (by omega), shr1 (by omega), bI_b2', bI_b2']
      rw [q, if_pos rfl] at key
      have hc := nbC_le w j (bt x) k
      have hb := b2_le (bt x k)
      simp only [ltv_e]
      rw [show ((32 : Int32) + ((5 : Int32) * nI (b2 (bt x k)))) + nI (nbC w j (bt x) k) = nI (32 + (5 * b2 (bt x k) + nbC w j (bt x) k)) by rw [show (32 : Int32) = nI 32 from rfl, show (5 : Int32) = nI 5 from rfl, nI_mul, nI_add, nI_add, Nat.add_assoc], gdi_nI (by omega) (by decide), gdi_nI (by omega) (by decide), nI_clamp (by omega), uI_rI, hI_rI_s, sR_in (by omega), sR_upd (by omega), nI_1]
      exact key
/-- what is seen, place by place, is what the class sees -/
theorem sM_b {w : Nat} {j : Bool} {F x y : Int32} {s : Nat → Int32} {q i : Nat} (hi : i < 32) : ∀ k, k ≤ 32 →
    (bt (sM w j F x y s k q) i = true ↔ bt (s q) i = true ∨ ∃ p, p < k ∧ bt F p = true ∧ q = 5 * b2 (bt x p) + nbC w j (bt x) p ∧ i = b2 (bt y p))
  | 0, _ => by rw [sM]; exact ⟨Or.inl, fun h => h.elim id (fun ⟨p, h, _⟩ => absurd h (by omega))⟩
  | k + 1, hk => by
    have ih := sM_b (w := w) (j := j) (F := F) (x := x) (y := y) (s := s) (q := q) hi k (by omega)
    have hb := b2_le (bt y k)
    have up : (∃ p, p < k ∧ bt F p = true ∧ q = 5 * b2 (bt x p) + nbC w j (bt x) p ∧ i = b2 (bt y p)) → (∃ p, p < k + 1 ∧ bt F p = true ∧ q = 5 * b2 (bt x p) + nbC w j (bt x) p ∧ i = b2 (bt y p)) := fun ⟨p, a, b⟩ => ⟨p, by omega, b⟩
    have dn : (∃ p, p < k + 1 ∧ bt F p = true ∧ q = 5 * b2 (bt x p) + nbC w j (bt x) p ∧ i = b2 (bt y p)) → (∃ p, p < k ∧ bt F p = true ∧ q = 5 * b2 (bt x p) + nbC w j (bt x) p ∧ i = b2 (bt y p)) ∨ (bt F k = true ∧ q = 5 * b2 (bt x k) + nbC w j (bt x) k ∧ i = b2 (bt y k)) := fun ⟨p, a, b⟩ => by
      by_cases e : p = k
      · subst e; exact Or.inr b
      · exact Or.inl ⟨p, by omega, b⟩
    rw [sM]
    by_cases hF : bt F k = true
    · rw [if_pos hF]; unfold upd
      by_cases hq : q = 5 * b2 (bt x k) + nbC w j (bt x) k
      · rw [if_pos hq, b_or, Bool.or_eq_true, ← hq, ih, bitI_b (by omega) hi, decide_eq_true_iff]
        constructor
        · rintro ((a | a) | a)
          · exact Or.inl a
          · exact Or.inr (up a)
          · exact Or.inr ⟨k, by omega, hF, hq, a⟩
        · rintro (a | a)
          · exact Or.inl (Or.inl a)
          · rcases dn a with a | a
            · exact Or.inl (Or.inr a)
            · exact Or.inr a.2.2
      · rw [if_neg hq, ih]
        constructor
        · rintro (a | a)
          · exact Or.inl a
          · exact Or.inr (up a)
        · rintro (a | a)
          · exact Or.inl a
          · rcases dn a with a | a
            · exact Or.inr a
            · exact absurd a.2.1 hq
    · rw [if_neg hF, ih]
      constructor
      · rintro (a | a)
        · exact Or.inl a
        · exact Or.inr (up a)
      · rintro (a | a)
        · exact Or.inl a
        · rcases dn a with a | a
          · exact Or.inr a
          · exact absurd a.1 hF
theorem ne0_b {x : Int32} : x ≠ 0 ↔ ∃ p, p < 32 ∧ bt x p = true := by
  constructor
  · intro h
    refine Classical.byContradiction (fun q => h (b_ext (fun i hi => ?_)))
    rw [b_0]
    cases e : bt x i
    · rfl
    · exact absurd ⟨i, hi, e⟩ q
  · rintro ⟨p, _, e⟩ z; rw [z, b_0] at e; cases e
