/-! ===== alike: what a night shows ===== -/
theorem uLo_b {x m : Int32} {v : Int32} {i : Nat} (hi : i < 32) {k : Nat} (hk : k < 32) : bt (if m = 0 then (0 : Int32) else shl 1 (shr v (nI k) &&& 1)) i = true ↔ (∃ p, p < 32 ∧ bt m p = true) ∧ i = b2 (bt v k) := by
  have e : shl 1 (shr v (nI k) &&& 1) = bitI (b2 (bt v k)) := by
    show (1 : Int32) <<< (((v >>> (nI k &&& 31)) &&& 1) &&& 31) = _
    rw [shr1 hk, bI_b2']
  have hb := b2_le (bt v k)
  rw [e]
  by_cases q : m = 0
  · rw [if_pos q, b_0, q]
    constructor
    · intro h; cases h
    · rintro ⟨⟨p, _, a⟩, _⟩; rw [b_0] at a; cases a
  · rw [if_neg q, bitI_b (by omega) hi, decide_eq_true_iff]
    exact ⟨fun a => ⟨ne0_b.mp q, a⟩, fun a => a.2⟩
theorem free_y {h : HP} {t w r m c : Nat} {j : Bool} (T : TW h t w r m c j) {x : Int32} (hx : inH h x) {p : Nat} (hp : p < 32) (hf : bt (hI h (t + 1) 5) p = true) : bt (nxF h t x) p = becB w j x (bornF h t) (staysF h t) p := by
  obtain ⟨qH, qR, H, j1, j2⟩ := T
  have h6 := qH.n.2.2.2.2.2.1 p hp
  unfold nxF
  rw [step_b H (inH_P qH hx) (free_P qH) _ _ hp, hf]
  have : bt (hI h (t + 1) 6) p = false := by
    rw [h6.2]
    have a := h6.1
    rw [hf] at a
    cases b : bt (hI h 114 4) p
    · simp
    · rw [b] at a; simp at a
  rw [this]; simp
theorem seen_e {h : HP} {t w r m c : Nat} {j : Bool} (T : TW h t w r m c j) {x : Int32} (hx : inH h x) (s : Nat → Int32) {q : Nat} (hq : q < 10) : sM w j (hI h 114 2 &&& (hI h 114 4 ^^^ -1)) x (nxF h t x) s (w * r) q = s q ||| uT h t x q := by
  have T' := T
  obtain ⟨qH, qR, H, j1, j2⟩ := T
  obtain ⟨⟨w1, w5, hw, hw'⟩, ⟨r1, r6, hr, hr'⟩, -, -, -, h6, h7⟩ := qH.n
  have h30 := wr_le w5 r6
  have fe : hI h 114 2 &&& (hI h 114 4 ^^^ -1) = hI h (t + 1) 5 := (free_e qH).symm
  rw [fe]
  refine b_ext (fun i hi => ?_)
  rw [Bool.eq_iff_iff, sM_b hi (w * r) (by omega), b_or, Bool.or_eq_true]
  refine or_congr_right ?_
  show _ ↔ bt (uF (hI h (t + 1)) x (bornF h t) (staysF h t) q) i = true
  by_cases q5 : q < 5
  · rw [uF_lo q5, uLo_b (x := x) hi (by omega)]
    constructor
    · rintro ⟨p, p1, p2, p3, p4⟩
      have hc := nbC_le w j (bt x) p
      have x0 : bt x p = false := by
        cases b : bt x p
        · rfl
        · rw [b, show b2 true = 1 from rfl] at p3; omega
      rw [x0, show b2 false = 0 from rfl] at p3
      refine ⟨⟨p, by omega, ?_⟩, ?_⟩
      · rw [b_and, b_and, b_xor, b_m1 p (by omega), lit_b H (inH_P qH hx) p1 q5, p2, x0, decide_eq_true (by omega)]; rfl
      · rw [p4, free_y T' hx (by omega) p2]; unfold becB; rw [x0, show nbC w j (bt x) p = q by omega]; rfl
    · rintro ⟨⟨p, p1, p2⟩, p3⟩
      rw [b_and, b_and, b_xor, b_m1 p p1, Bool.and_eq_true, Bool.and_eq_true] at p2
      obtain ⟨⟨l, f5⟩, nx⟩ := p2
      have pl := free_P qH p p1 f5
      have x0 : bt x p = false := by
        cases b : bt x p
        · rfl
        · rw [b] at nx; cases nx
      rw [lit_b H (inH_P qH hx) pl q5, decide_eq_true_iff] at l
      refine ⟨p, pl, f5, by rw [x0, show b2 false = 0 from rfl]; omega, ?_⟩
      rw [free_y T' hx p1 f5]; unfold becB; rw [x0, l]; exact p3
  · obtain ⟨k, rfl⟩ : ∃ k, q = 5 + k := ⟨q - 5, by omega⟩
    rw [uF_hi (by omega), uLo_b (x := x) hi (by omega)]
    constructor
    · rintro ⟨p, p1, p2, p3, p4⟩
      have hc := nbC_le w j (bt x) p
      have cnd : bt x p = true ∧ nbC w j (bt x) p = k := by
        cases b : bt x p
        · rw [b, show b2 false = 0 from rfl] at p3
          -- four lit neighbours of a dark lamp are never five
          omega
        · rw [b, show b2 true = 1 from rfl] at p3; exact ⟨rfl, by omega⟩
      obtain ⟨x0, ck⟩ := cnd
      refine ⟨⟨p, by omega, ?_⟩, ?_⟩
      · rw [b_and, b_and, lit_b H (inH_P qH hx) p1 (by omega), p2, x0, decide_eq_true (by omega)]; rfl
      · rw [p4, free_y T' hx (by omega) p2]; unfold becB; rw [x0, ck]; rfl
    · rintro ⟨⟨p, p1, p2⟩, p3⟩
      rw [b_and, b_and, Bool.and_eq_true, Bool.and_eq_true] at p2
      obtain ⟨⟨l, f5⟩, x0⟩ := p2
      have pl := free_P qH p p1 f5
      rw [lit_b H (inH_P qH hx) pl (by omega), decide_eq_true_iff] at l
      refine ⟨p, pl, f5, by rw [x0, show b2 true = 1 from rfl]; omega, ?_⟩
      rw [free_y T' hx p1 f5]; unfold becB; rw [x0, l]; exact p3
