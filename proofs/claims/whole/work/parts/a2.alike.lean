/-! ===== town ===== -/
/-- an op after which the present town may be the other -/
def OpT (t u : Nat) (f1 : Option (Int32 × HP)) (f2 : HP → Option (Int32 × HP)) : Prop := ∃ r h1 h2, f1 = some (r, h1) ∧ f2 h1 = some (r, h2) ∧ (Inv h2 t u ∨ Inv h2 u t)
theorem cut_fr (h : HP) (L : Nat) : SR h (cutF h L) ∧ (∀ c, c ≠ 5 → ¬ (8 ≤ c ∧ c ≤ 11) → hI (cutF h L) c = hI h c) ∧ ∀ c, c ≠ 12 → hL (cutF h L) c = hL h c := by
  unfold cutF
  refine ⟨?_, fun c h1 h2 => ?_, fun c hc => ?_⟩
  · have : SR (beginH h L) (toksH (beginH h L) L (cutN (hI h 6) L)) := toksH_sr _ _ _
    unfold noteH
    exact ⟨this.1, this.2⟩
  · rw [hI_noteH (by omega), toksH_I _ _ (by omega)]
    exact hI_rI_n _ _ h1
  · rw [hL_note, toksH_L _ _ hc]; rfl
theorem CT.RK {a : HP} {T : Nat → Int32} {L n : Nat} (c : CT a T L n) (e : hI a 5 10 = 0) (ly : Lay a) : RK a := by
  obtain ⟨⟨c1, c2, c3, c4, c5⟩, c6, c7, c8⟩ := c
  refine ⟨ly, TokOK.mk' (a := 0) e c5 (by omega) (by omega) (fun k hk => ?_)⟩
  by_cases h : k < n
  · obtain ⟨_, d2, d3, _⟩ := c6 k h
    exact ⟨_, _, d2, d3, by have := lenT_le (T := T) (c3 k h); omega⟩
  · rw [show k = n by omega]
    exact ⟨L, 0, c7.2.1, c7.2.2.1, by omega⟩
/-- what a reading leaves as it was -/
def RG (u : Nat) (h h2 : HP) : Prop := (∀ c, c < 113 → c ≠ 0 → c ≠ 5 → ¬ (8 ≤ c ∧ c ≤ 11) → ¬ (u ≤ c ∧ c ≤ u + 16) → hI h2 c = hI h c) ∧ (∀ j, j ≠ 11 → hI h2 0 j = hI h 0 j) ∧ (∀ c, c ≠ 12 → c ≠ 115 → ¬ (u ≤ c ∧ c ≤ u + 16) → hL h2 c = hL h c) ∧ (∀ c, 115 ≤ c → c ≠ 120 → c ≠ 121 → hI h2 c = hI h c) ∧ (∀ j, j ≠ 2 → ¬ (10 ≤ j ∧ j ≤ 22) → hI h2 113 j = hI h 113 j) ∧ (∀ j, 410 ≤ j → j < 1640 → hI h2 114 j = hI h 114 j) ∧ ∀ j, 10 ≤ j → j < 40 → hL h2 115 j = hL h 115 j
theorem RG.parts {h h2 : HP} {t u : Nat} (I : Inv h t u) (G : RG u h h2) (hu : u = 79 ∨ u = 96) (e : hI h2 0 11 = hI h2 113 2) : Rst h2 ∧ Rtr h2 ∧ Rlv h2 ∧ Rkw h2 ∧ Rmk h2 := by
  obtain ⟨g1, g0, gL, g3, g4, g5, g6⟩ := G
  obtain ⟨_, i6, i7, i8, i9, i10, i11, i12⟩ := I
  refine ⟨⟨e, ?_, ?_⟩, ⟨fun k hk => ?_, fun j hj => ?_⟩, ?_, ?_, ?_⟩
  · rw [gL 0 (by omega) (by omega) (by omega), gL 113 (by omega) (by omega) (by omega)]; exact i6.2.1
  · rw [gL 0 (by omega) (by omega) (by omega), gL 113 (by omega) (by omega) (by omega)]; exact i6.2.2
  · rw [g1 3 (by omega) (by omega) (by omega) (by omega) (by omega), g1 4 (by omega) (by omega) (by omega) (by omega) (by omega), g3 116 (by omega) (by omega) (by omega), g3 117 (by omega) (by omega) (by omega)]; exact i7.1 k hk
  · rw [gL 2 (by omega) (by omega) (by omega), gL 118 (by omega) (by omega) (by omega)]; exact i7.2 j hj
  · unfold Rlv
    rw [g0 14 (by decide), g4 37 (by decide) (by decide), g1 75 (by omega) (by omega) (by omega) (by omega) (by omega), g3 129 (by omega) (by omega) (by omega)]; exact i9
  · unfold Rkw
    rw [gL 7 (by omega) (by omega) (by omega)]; exact i10
  · obtain ⟨n, n3, e1, e2, q⟩ := i12
    refine ⟨n, n3, by rw [g0 10 (by decide)]; exact e1, by rw [g4 38 (by decide) (by decide)]; exact e2, fun i hi => (q i hi).same ⟨fun a j z => ?_, fun a z => ?_, fun j h1 h2 => g5 j (by omega) (by omega), fun j h1 h2 => g6 j (by omega) (by omega)⟩⟩
    · unfold inT at z
      rw [g1 a (by omega) (by omega) (by omega) (by omega) (by omega)]
    · unfold inTL at z
      exact gL a (by omega) (by omega) (by omega)
theorem Inv.roles {h : HP} {t u : Nat} (I : Inv h t u) : (u = 79 ∨ u = 96) ∧ (t = 79 ∨ t = 96) ∧ t ≠ u := by
  obtain ⟨⟨_, _, ⟨_, _, i3⟩, _⟩, _⟩ := I
  omega
theorem RG.of {h a0 A b0 b1 : HP} {u : Nat} (hu : u = 79 ∨ u = 96) (cI : ∀ c, c ≠ 5 → ¬ (8 ≤ c ∧ c ≤ 11) → hI a0 c = hI h c) (cL : ∀ c, c ≠ 12 → hL a0 c = hL h c) (C : CW u a0 A) (eb : ∀ c, c ≠ 0 → hI b0 c = hI A c) (e0 : ∀ j, j ≠ 11 → hI b0 0 j = hI A 0 j) (eL : hL b0 = hL A) (F : FW (uI b0 113 10 0) b1) : RG u h b1 := by
  obtain ⟨_, p2, p3, p4, p5, p6, p7⟩ := F
  obtain ⟨_, q2, q3, _⟩ := C
  refine ⟨fun c h1 h2 h3 h4 h5 => ?_, fun j hj => ?_, fun c h1 h2 h3 => ?_, fun c h1 h2 h3 => ?_, fun j h1 h2 => ?_, fun j h1 h2 => ?_, fun j h1 h2 => ?_⟩
  · rw [p2 c (by omega) (by omega) (by omega) (by omega), hI_uI_n' (by omega), eb c h2, q2 c h3 h5, cI c h3 h4]
  · rw [p2 0 (by omega) (by omega) (by omega) (by omega), hI_uI_n' (by omega), e0 j hj, q2 0 (by omega) (by omega), cI 0 (by omega) (by omega)]
  · rw [p3 c h2, hL_uI, eL, q3 c h3, cL c h1]
  · rw [p2 c (by omega) (by omega) (by omega) (by omega), hI_uI_n' (by omega), eb c (by omega), q2 c (by omega) (by omega), cI c (by omega) (by omega)]
  · rw [p4 j (by omega), hI_uI_n (by omega), eb 113 (by omega), q2 113 (by omega) (by omega), cI 113 (by omega) (by omega)]
  · rw [p6 j h2, hI_uI_n (by omega), eb 114 (by omega), q2 114 (by omega) (by omega), cI 114 (by omega) (by omega)]
  · rw [p7 j h2, hL_uI, eL, q3 115 (by omega), cL 115 (by omega)]
theorem RG.app {h b1 b2 : HP} {u : Nat} (G : RG u h b1) (e1 : ∀ c, c ≠ 113 → c ≠ 114 → hI b2 c = hI b1 c) (e2 : ∀ j, j ≠ 2 → j ≠ 16 → hI b2 113 j = hI b1 113 j) (e3 : ∀ j, 410 ≤ j → hI b2 114 j = hI b1 114 j) (e4 : ∀ c, c ≠ 115 → hL b2 c = hL b1 c) (e5 : ∀ j, 10 ≤ j → hL b2 115 j = hL b1 115 j) : RG u h b2 := by
  obtain ⟨g1, g0, gL, g3, g4, g5, g6⟩ := G
  refine ⟨fun c h1 h2 h3 h4 h5 => ?_, fun j hj => ?_, fun c h1 h2 h3 => ?_, fun c h1 h2 h3 => ?_, fun j h1 h2 => ?_, fun j h1 h2 => ?_, fun j h1 h2 => ?_⟩
  · rw [e1 c (by omega) (by omega)]; exact g1 c h1 h2 h3 h4 h5
  · rw [e1 0 (by omega) (by omega)]; exact g0 j hj
  · rw [e4 c h2]; exact gL c h1 h2 h3
  · rw [e1 c (by omega) (by omega)]; exact g3 c h1 h2 h3
  · rw [e2 j h1 (by omega)]; exact g4 j h1 h2
  · rw [e3 j h1]; exact g5 j h1 h2
  · rw [e5 j h1]; exact g6 j h1 h2
theorem hR_uR_c {g h : HP} (e : hR g = hR h) (a j x : Nat) : hR (uR g a j x) = hR (uR h a j x) := by
  funext c; unfold uR; rw [hR_rR, hR_rR, e]
theorem op_town {h : HP} {t u : Nat} (I : Inv h t u) (x : Int32) : OpT t u (f_X11_town h t u x) (fun g => f_X12_town g x) := by
  have I0 := I
  obtain ⟨hu, ht, htu⟩ := I.roles
  obtain ⟨⟨i1, i2, i3, i4, i5⟩, i6, i7, ⟨⟨f, f9, f1, f2, f3⟩, i8⟩, i9, i10, i11, i12⟩ := I
  have no : ∀ P : Prop, (f_X11_town h t u x = some (-1, uI h 0 11 1)) → (∀ g : HP, hI g 113 10 = hI h 113 10 → f_X12_begins g x 900 = some (0, g)) → OpT t u (f_X11_town h t u x) (fun g => f_X12_town g x) := by
    intro _ e1 e2
    refine ⟨-1, uI h 0 11 1, uI (uI h 0 11 1) 113 2 1, e1, ?_, Or.inl (I0.st 1)⟩
    show f_X12_town (uI h 0 11 1) x = _
    unfold f_X12_town
    rw [e2 _ (hI_uI_n (by decide)), bd2_s, if_pos rfl]
    rfl
  by_cases h0 : x < 0
  · refine no True ?_ (fun g hg => ?_)
    · unfold f_X11_town; rw [if_pos h0]; rfl
    · unfold f_X12_begins; rw [if_pos h0]
  · obtain ⟨L, hL31, eL⟩ := nat_is (x := x) (by have := Int32.not_lt.mp h0; have := Int32.le_iff_toInt_le.mp this; exact this)
    subst eL
    by_cases hLf : L ≤ f
    · have lf : nI L ≤ hI h 5 7 := by rw [f1]; exact (nI_leI (by omega) (by omega)).mpr hLf
      have tx : TX (hI h 6) L := ⟨by omega, fun j hj => by
        obtain ⟨c1, c, c2⟩ := f3 j (by omega)
        exact ⟨c, by rw [c1, c2]⟩⟩
      obtain ⟨ct, c10, c7, c12, c13⟩ := cutF_CT (h := h) (L := L) (by omega) i10
      obtain ⟨cs, cI, cL⟩ := cut_fr h L
      have beg : f_X4_begin h (nI L) = some (cutF h L) := by
        unfold f_X4_begin
        rw [f1, gdi_nI (by omega) (by decide), gdi_nI (by omega) (by decide), nI_clamp (by omega), nI_clamp (by omega), Nat.min_eq_left hLf]
      have rk : RK (cutF h L) := ct.RK c10 (cs.ly i1)
      generalize cutF h L = a0 at ct c10 c7 c12 c13 cs cI cL beg rk
      generalize cutN (hI h 6) L = n at ct
      obtain ⟨A, eA⟩ : ∃ A, A = readTownF a0 u := ⟨_, rfl⟩
      have tk : f_X6_takeTown a0 u = some (A.1, A.2) := by unfold f_X6_takeTown; rw [gdc_t rk, eA]
      have run : ∀ b0 : HP, (∀ c, 113 ≤ c → hI b0 c = hI h c) → ∃ b1, f_X12_town b0 (nI L) = f_X12_town_91 b1 ∧ FW (uI b0 113 10 0) b1 ∧ CW u a0 A.2 ∧ ((A.1 = 0 ∧ FT A.2 b1) ∨ (A.1 = 1 ∧ RD (hI h 6) L n A.2 b1 ∧ ∃ w r m c, 1 ≤ r ∧ TSt A.2 b1 u w r m c)) := by
        intro b0 e0
        obtain ⟨b1, e1, F1, k1, z10, z17⟩ := begins_is tx (b := b0) (f := f) (m := 900) hLf f9 (by omega) (by decide) (by rw [e0 113 (by decide)]; exact f2) (fun j hj => by rw [e0 119 (by decide)]; exact ((f3 j (by omega)).1).symm) ct c10 c12 c13
        obtain ⟨b2, e2, F2, C2, A2⟩ := read_is hu k1
        rw [← eA] at C2 A2
        refine ⟨b2, ?_, F1.trans F2, C2, A2⟩
        · unfold f_X12_town
          rw [show f_X12_begins b0 (nI L) 900 = some (1, b1) from e1, bd2_s, if_neg (show ¬ (1 : Int32) = 0 by decide)]
          exact e2
      obtain ⟨_, _, _, C, R⟩ := run h (fun c _ => rfl)
      have A5 : hI A.2 5 7 = 0 := C.2.2.2.trans c7
      rcases R with ⟨r0, ft⟩ | ⟨r1, _⟩
      · have e9 : ∀ c, 113 ≤ c → hI (uI A.2 0 11 9) c = hI h c := fun c hc => by rw [hI_uI_n' (by omega), C.2.1 c (by omega) (by omega), cI c (by omega) (by omega)]
        obtain ⟨b1, m1, m2, _, m4⟩ := run (uI A.2 0 11 9) e9
        have ft1 : FT A.2 b1 := by
          rcases m4 with ⟨_, y⟩ | ⟨y, _⟩
          · exact y
          · rw [r0] at y; exact absurd y (by decide)
        obtain ⟨b2, n1, n2⟩ := t91_f ft1
        refine ⟨-1, uI A.2 0 11 9, b2, ?_, m1.trans n1, Or.inl ?_⟩
        · unfold f_X11_town
          rw [if_neg h0, if_pos lf, beg, bd1_s, tk, bd2_s, if_pos r0]; rfl
        · have G1 : RG u h b1 := RG.of hu cI cL C (fun c hc => hI_uI_n' hc) (fun j hj => hI_uI_n (by omega)) (hL_uI _ _ _ _) m2
          have G : RG u h b2 := by
            rw [n2]
            exact G1.app (fun c h1 _ => by rw [hI_uI_n' h1, hI_uI_n' h1]) (fun j h1 h2 => by rw [hI_uI_n (by omega), hI_uI_n (by omega)]) (fun j _ => by rw [hI_uI_n (by omega), hI_uI_n (by omega)]) (fun _ _ => rfl) (fun _ _ => rfl)
          have s1 : SR h (uI A.2 0 11 9) := ⟨C.1.1.trans cs.1, C.1.2.trans cs.2⟩
          have s2 : SR h b2 := by rw [n2]; exact ⟨m2.1.1.trans s1.1, m2.1.2.trans s1.2⟩
          have k11 : hI b2 0 11 = 9 := by
            rw [n2, hI_uI_n (by decide), hI_uI_n (by decide), m2.2.1 0 (by decide) (by decide) (by decide) (by decide), hI_uI_n (by decide), hI_uI_s]
          have k2 : hI b2 113 2 = 9 := by rw [n2, hI_uI_s]
          obtain ⟨q1, q2, q3, q4, q5⟩ := RG.parts I0 G hu (k11.trans k2.symm)
          have b5 : hI b2 5 = hI A.2 5 := by rw [n2, hI_uI_n' (by decide), hI_uI_n' (by decide), m2.2.1 5 (by decide) (by decide) (by decide) (by decide), hI_uI_n' (by decide), hI_uI_n' (by decide)]
          obtain ⟨ee, _, _, t1, t2, t3⟩ := ft1
          refine ⟨⟨s2.ly i1, fun k hk => by rw [s2.2]; exact i2 k hk, i3, s2.pr i4, s2.pr i5⟩, q1, q2, ⟨⟨0, by decide, by rw [b5]; exact A5, ?_, fun k hk => absurd hk (by omega)⟩, ?_, ?_⟩, q3, q4, ?_, q5⟩
          · rw [n2, hI_uI_n (by decide), hI_uI_n (by decide), m2.2.2.2.1 10 (by decide), hI_uI_s]; rfl
          · rw [b5, t2, n2, hI_uI_n (by decide), hI_uI_s, t1]
          · rw [b5, t3, n2, hI_uI_n (by decide), hI_uI_n (by decide)]
          · refine i11.same ⟨fun a j z => ?_, fun a z => ?_, fun j _ hj => ?_, fun j _ hj => ?_⟩
            · unfold inT at z
              rw [G.1 a (by omega) (by omega) (by omega) (by omega) (by omega)]
            · unfold inTL at z
              exact G.2.2.1 a (by omega) (by omega) (by omega)
            · rw [n2, hI_uI_n (by omega), hI_uI_n (by omega), m2.2.2.2.2.2.1 j (by omega), hI_uI_n (by omega), hI_uI_n' (by omega), C.2.1 114 (by omega) (by omega), cI 114 (by omega) (by omega)]
            · rw [n2, hL_uI, hL_uI, m2.2.2.2.2.2.2 j (by omega), hL_uI, hL_uI, C.2.2.1 115 (by omega), cL 115 (by omega)]
      · obtain ⟨a9, ea9⟩ : ∃ a9, a9 = uI (uR (uR A.2 0 8 u) 0 9 t) 0 11 0 := ⟨_, rfl⟩
        have aI : ∀ c, c ≠ 0 → hI a9 c = hI A.2 c := fun c hc => by rw [ea9, hI_uI_n' hc]; rfl
        have aI0 : ∀ j, j ≠ 11 → hI a9 0 j = hI A.2 0 j := fun j hj => by rw [ea9, hI_uI_n (by omega)]; rfl
        have aL : hL a9 = hL A.2 := by rw [ea9]; rfl
        have e9 : ∀ c, 113 ≤ c → hI a9 c = hI h c := fun c hc => by rw [aI c (by omega), C.2.1 c (by omega) (by omega), cI c (by omega) (by omega)]
        obtain ⟨b1, m1, m2, _, m4⟩ := run a9 e9
        have rt1 : RD (hI h 6) L n A.2 b1 ∧ ∃ w r m c, 1 ≤ r ∧ TSt A.2 b1 u w r m c := by
          rcases m4 with ⟨y, _⟩ | ⟨_, y⟩
          · rw [r1] at y; exact absurd y (by decide)
          · exact y
        obtain ⟨⟨_, d18, d17, d12, d13⟩, w, r, m, c, hr, S⟩ := rt1
        obtain ⟨b2, n1, n2, n3, n4, n5, n6, n7, n8, n9, n10, n11⟩ := t91_t d18
        have e42 : hI A.2 (u + 1) 4 = hI b1 114 1642 := S.1.2.2.2.2.1.1
        refine ⟨nI (pc (hI b1 114 1642)), a9, b2, ?_, m1.trans n1, Or.inr ?_⟩
        · unfold f_X11_town
          rw [if_neg h0, if_pos lf, beg, bd1_s, tk, bd2_s, if_neg (show ¬ A.1 = 0 by rw [r1]; decide), ltv_e, ltv_e]
          unfold f_J6_bitCount_0f7a4 f_X11_answer
          rw [bd2_s, bd2_s, ← e42, ea9]; rfl
        · have G1 : RG u h b1 := RG.of hu cI cL C aI aI0 aL m2
          have G : RG u h b2 := G1.app (fun c h1 h2 => n3 c h2 h1) n4 n8 n7 n10
          have sA : SR h A.2 := ⟨C.1.1.trans cs.1, C.1.2.trans cs.2⟩
          have rA : hR a9 = hR (uR (uR h 0 8 u) 0 9 t) := by
            rw [ea9, hR_uI]; exact hR_uR_c (hR_uR_c sA.2 0 8 u) 0 9 t
          have r2 : hR b2 = hR (uR (uR h 0 8 u) 0 9 t) := by rw [n2.2, m2.1.2, hR_uI, rA]
          have l2 : Lay b2 := by
            have l9 : Lay a9 := by
              rw [ea9]
              exact ((Lay.sw (j := 9) (Lay.sw (j := 8) (sA.ly i1) u (by decide +kernel)) t (by decide +kernel))).keep rfl rfl
            have s9 : SR a9 b2 := ⟨n2.1.trans m2.1.1, n2.2.trans m2.1.2⟩
            exact s9.ly l9
          have b2I : ∀ c, c < 113 → c ≠ 0 → hI b2 c = hI A.2 c := fun c h1 h2 => by rw [n3 c (by omega) (by omega), m2.2.1 c (by omega) (by omega) (by omega) (by omega), hI_uI_n' (by omega), aI c h2]
          have b2L : ∀ c, c < 113 → hL b2 c = hL A.2 c := fun c h1 => by rw [n7 c (by omega), m2.2.2.1 c (by omega), hL_uI, aL]
          have k11 : hI b2 0 11 = 0 := by rw [n3 0 (by decide) (by decide), m2.2.1 0 (by decide) (by decide) (by decide) (by decide), hI_uI_n (by decide), ea9, hI_uI_s]
          obtain ⟨q1, q2, q3, q4, q5⟩ := RG.parts I0 G hu (k11.trans n5.symm)
          obtain ⟨i31, i32, i33⟩ := i3
          refine ⟨⟨l2, fun k hk => ?_, ⟨i32, i31, i33.elim (fun z => Or.inr ⟨z.2, z.1⟩) (fun z => Or.inl ⟨z.2, z.1⟩)⟩, ?_, ?_⟩, q1, q2, ⟨⟨0, by decide, by rw [b2I 5 (by decide) (by decide)]; exact A5, ?_, fun k hk => absurd hk (by omega)⟩, ?_, ?_⟩, q3, q4, ?_, q5⟩
          · rw [r2]
            have : hR (uR (uR h 0 8 u) 0 9 t) 13 k = hR h 13 k := by unfold uR; rw [hR_rR, if_neg (by decide), hR_rR, if_neg (by decide)]
            rw [this]; exact i2 k hk
          · rw [r2, hR_uR_n _ _ _ (by decide), hR_uR_s]
          · rw [r2, hR_uR_s]
          · rw [n4 10 (by decide) (by decide), m2.2.2.2.1 10 (by decide), hI_uI_s]; rfl
          · rw [b2I 5 (by decide) (by decide), n6]; exact d12
          · rw [b2I 5 (by decide) (by decide), n4 17 (by decide) (by decide), d17]; exact d13
          · have R0 := S.Rt hu hr
            have mI : ∀ c, c < 113 → c ≠ 0 → hI b2 c = hI (mx A.2 b1) c := fun c h1 h2 => by rw [mxI_lo _ _ h1, b2I c h1 h2]
            refine R0.mv (t' := u) (b' := 0) (nb' := 0) (e := 0) ⟨fun j _ => by rw [mI _ (by omega) (by omega)], fun j _ _ => by rw [mI _ (by omega) (by omega)], ⟨by rw [mI _ (by omega) (by omega)], by rw [mI _ (by omega) (by omega)]⟩, fun a p _ _ hp => absurd hp (by omega), fun a i ha _ => by rw [mI _ (by omega) (by omega)], fun a i ha _ => by rw [mI _ (by omega) (by omega)], fun i _ => by rw [mI _ (by omega) (by omega)], fun i _ => by rw [mxL_lo _ _ (by omega), b2L _ (by omega)], fun j hj => ?_, fun j hj => ?_⟩ ?_ (by decide)
            · rw [Nat.zero_add, mxI_hi _ _ (by decide), n9 j hj]
            · rw [Nat.zero_add, mxL_hi _ _ (by decide), n11 j hj]
            · rw [mxI_lo _ _ (by omega)]; exact S.2.2.1.2.2.2.1
    · refine no True ?_ (fun g hg => ?_)
      · unfold f_X11_town
        rw [if_neg h0, f1, if_neg (show ¬ nI L ≤ nI f from fun z => hLf ((nI_leI (by omega) (by omega)).mp z))]; rfl
      · unfold f_X12_begins
        rw [if_neg h0, hg, f2, if_pos (show nI f < nI L from (nI_ltI (by omega) (by omega)).mpr (by omega))]
