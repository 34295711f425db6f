/-! ===== year: a step by both ===== -/
/-- the word's number, as the class asks for it -/
def wnA (a : HP) : Int32 := if kA a = 4 then vA a else -1
theorem stepW_e {a : HP} (rk : RK a) (y : Nat) : f_X10_takeStepWord a y = (if bI (decide (isStepW (wnA a))) = (0 : Int32) then some (0, failF a 2) else if 30 ≤ hI a y 7 then some (0, failF a 6) else if hI a y 6 < 60 then (if bI (decide (wnA a = 15 ∨ wnA a = 19)) = (0 : Int32) then f_X10_takeStepWord_65 y (wnA a) a else gdi (hI a y 6) 61 <| if nI (fb_ct (openB a y) (hI a y 6).toNatClampNeg) < 3 then f_X10_takeStepWord_65 y (wnA a) a else some (0, failF a 7)) else some (0, failF a 6)) := by
  have fl : ∀ (v : Int32), (bd2 (f_X4_fail a v) fun r32 h31 => gdv (is01 r32) <| some (r32, h31)) = some (0, failF a v) := fun v => by
    unfold f_X4_fail; rw [gdc_t rk, bd2_s, gdv_t (Or.inl rfl)]
  unfold f_X10_takeStepWord f_X4_wordNumber f_X10_isStep f_X9_isBlock f_X9_countOpen
  rw [gdc_t rk, bd2_s, bd2_s, fl, fl, bd2_s]
  show (if bI (decide (isStepW (wnA a))) = (0 : Int32) then _ else _) = _
  by_cases h1 : bI (decide (isStepW (wnA a))) = (0 : Int32)
  · rw [if_pos h1, if_pos h1]
  · rw [if_neg h1, if_neg h1]
    by_cases h2 : 30 ≤ hI a y 7
    · rw [if_pos h2, if_pos h2]
    · rw [if_neg h2, if_neg h2]
      by_cases h3 : hI a y 6 < 60
      · rw [if_pos h3, if_pos h3]
        show (if bI (decide (wnA a = 15 ∨ wnA a = 19)) = (0 : Int32) then _ else _) = _
        by_cases h4 : bI (decide (wnA a = 15 ∨ wnA a = 19)) = (0 : Int32)
        · rw [if_pos h4, if_pos h4]; rfl
        · rw [if_neg h4, if_neg h4]
          unfold gdi
          split
          · rfl
          · rw [bd2_s]
            by_cases h5 : nI (fb_ct (openB a y) (hI a y 6).toNatClampNeg) < 3
            · rw [if_pos h5, if_pos h5]; rfl
            · rw [if_neg h5, if_neg h5, fl]
      · rw [if_neg h3, if_neg h3]
theorem yearStep_e {b : HP} {r : Int32} (e : f_X12_inWords b = some (r, b)) : f_X12_yearStep b = f_X12_yearStep_42 r (hI b 114 1651) ((1684 : Int32) + (6 : Int32) * hI b 114 1651) (if r = 15 ∨ r = 16 then 1 else 0) b := by
  unfold f_X12_yearStep
  rw [e, bd2_s, ltv_e, ltv_e]
  by_cases h1 : r = 15
  · rw [if_pos h1, if_pos (Or.inl h1)]
  · rw [if_neg h1]
    by_cases h2 : r = 16
    · rw [if_pos h2, if_pos (Or.inr h2)]
    · rw [if_neg h2, if_neg (fun z => z.elim h1 h2)]
/-- the class's loop once, at no end -/
theorem year2_e {a : HP} (rk : RK a) (hn : kA a ≠ 1) {t y N l : Nat} (hl : l ≤ 60) : f_X10_takeYear_2 t y (N + 1) (nI l) a = (if kA a = 4 ∧ vA a = 20 then (bd2 (f_X10_takeEnd a y) fun r21 h20 => f_X10_takeYear_62 t y (f_X10_takeYear_2 t y N) (nI l) r21 h20) else (bd2 (f_X10_takeStepWord a y) fun r13 h12 => if r13 = (0 : Int32) then some (0, h12) else bd2 (f_X10_takeRest h12 t y (hI a y 6)) fun r17 h16 => if r17 = (0 : Int32) then some (0, h16) else f_X10_takeYear_62 t y (f_X10_takeYear_2 t y N) (nI l) 1 h16)) := by
  have e62 : ∀ (g : HP), f_X10_takeYear_62 t y (f_X10_takeYear_2 t y N) (nI l) 0 g = some (0, g) := fun g => by unfold f_X10_takeYear_62; rw [if_pos rfl]
  show (if 60 < nI l then _ else _) = _
  rw [if_neg (show ¬ (60 : Int32) < nI l from fun z => by have := (nI_ltI (a := 60) (by omega) (by omega)).mp z; omega)]
  unfold f_X4_isEnd f_X4_isWord
  rw [gdc_t rk, bd2_s, decide_eq_false hn, if_pos (show bI false = 0 from rfl), ltv_e, gdc_t rk, bd2_s]
  by_cases h : kA a = 4 ∧ vA a = 20
  · rw [decide_eq_true h, if_neg (show ¬ bI true = 0 by decide), if_pos h]
  · rw [decide_eq_false h, if_pos (show bI false = 0 from rfl), if_neg h]
    simp only [e62]
theorem sign62 {T : Nat → Int32} {L n : Nat} {a b : HP} (k : RD T L n a b) (ly : Lay a) {t y N l : Nat} (hl : l ≤ 60) : ∃ rr b', f_X12_wantSign b 59 = some (rr, b') ∧ is01 rr ∧ FB b b' ∧ ((rr = 0 ∧ f_X10_takeYear_62 t y (f_X10_takeYear_2 t y N) (nI l) 1 a = some (0, (takeK 3 a 59).2) ∧ FT (takeK 3 a 59).2 b') ∨ (rr = 1 ∧ f_X10_takeYear_62 t y (f_X10_takeYear_2 t y N) (nI l) 1 a = f_X10_takeYear_2 t y N (nI (l + 1)) (takeK 3 a 59).2 ∧ RD T L n (takeK 3 a 59).2 b')) := by
  obtain ⟨b', e1, F, A⟩ := k.wantSign (c := 59) (by decide)
  have e1 : f_X12_wantSign b 59 = some ((takeK 3 a 59).1, b') := e1
  have A : AN T L n (takeK 3 a 59).1 (takeK 3 a 59).2 b' := A
  refine ⟨_, b', e1, A.is, F, ?_⟩
  unfold f_X10_takeYear_62 f_X4_takeSign
  rw [if_neg (show ¬ (1 : Int32) = 0 by decide), gdc_t (k.rk ly), bd2_s]
  rcases A with ⟨r1, k1⟩ | ⟨r1, k1⟩
  · right; rw [r1, if_neg (show ¬ (1 : Int32) = 0 by decide), ltv_e, nI_1]; exact ⟨rfl, rfl, k1⟩
  · left; rw [r1, if_pos rfl]; exact ⟨rfl, rfl, k1⟩
