/-! ===== year: the op ===== -/
theorem RyE.mv2 {h h' : HP} {y y' b b' w r m e k : Nat} (he : e ≤ 60) (hk : k < e) (s1 : ∀ a p, 1 ≤ a → a ≤ 5 → p < e → hI h' (y' + a) p = hI h (y + a) p) (s3 : ∀ j, 44 ≤ j → j < 404 → hI h' 114 (b' + j) = hI h 114 (b + j)) (q : RyE h y b w r m e k) : RyE h' y' b' w r m e k := by
  have a0 := s3 (44 + 6 * k) (by omega) (by omega)
  have a1 := s3 (45 + 6 * k) (by omega) (by omega)
  have a2 := s3 (46 + 6 * k) (by omega) (by omega)
  have a4 := s3 (48 + 6 * k) (by omega) (by omega)
  have a5 := s3 (49 + 6 * k) (by omega) (by omega)
  simp only [← Nat.add_assoc] at a0 a1 a2 a4 a5
  have c1 := s1 1 k (by decide) (by decide) hk
  have c2 := s1 2 k (by decide) (by decide) hk
  have c3 := s1 3 k (by decide) (by decide) hk
  have c4 := s1 4 k (by decide) (by decide) hk
  have c5 := s1 5 k (by decide) (by decide) hk
  unfold RyE at q ⊢
  rw [a0, a1, a2, a4, a5, c1, c2, c3, c4, c5]
  rcases q with q | q | q | q | q | q | ⟨q1, q2, p, p1, p2, p3, p4, p5, p6⟩ | ⟨q1, q2, q3, p, p1, p2, p3, p4, p5, p6⟩ | ⟨q1, q2, p, p1, p3, p4, p5, p6⟩ | q
  · exact Or.inl q
  · exact Or.inr (Or.inl q)
  · exact Or.inr (Or.inr (Or.inl q))
  · exact Or.inr (Or.inr (Or.inr (Or.inl q)))
  · exact Or.inr (Or.inr (Or.inr (Or.inr (Or.inl q))))
  · exact Or.inr (Or.inr (Or.inr (Or.inr (Or.inr (Or.inl q)))))
  · exact Or.inr (Or.inr (Or.inr (Or.inr (Or.inr (Or.inr (Or.inl ⟨q1, q2, p, p1, p2, p3, p4, by rw [s1 1 p (by decide) (by decide) p2]; exact p5, by rw [s1 5 p (by decide) (by decide) p2]; exact p6⟩))))))
  · exact Or.inr (Or.inr (Or.inr (Or.inr (Or.inr (Or.inr (Or.inr (Or.inl ⟨q1, q2, q3, p, p1, p2, p3, p4, by rw [s1 1 p (by decide) (by decide) p2]; exact p5, by rw [s1 5 p (by decide) (by decide) p2]; exact p6⟩)))))))
  · exact Or.inr (Or.inr (Or.inr (Or.inr (Or.inr (Or.inr (Or.inr (Or.inr (Or.inl ⟨q1, q2, p, p1, p3, p4, by rw [s1 1 p (by decide) (by decide) (by omega)]; exact p5, by rw [s1 5 p (by decide) (by decide) (by omega)]; exact p6⟩))))))))
  · exact Or.inr (Or.inr (Or.inr (Or.inr (Or.inr (Or.inr (Or.inr (Or.inr (Or.inr q))))))))
theorem op_year {h : HP} {t u : Nat} (I : Inv h t u) (x : Int32) : Op t u (f_X11_year h t u x) (fun g => f_X12_year g x) := by
  have I0 := I
  obtain ⟨hu, ht, htu⟩ := I.roles
  obtain ⟨⟨i1, i2, i3, i4, i5⟩, i6, i7, ⟨⟨f, f9, f1, f2, f3⟩, i8⟩, i9, i10, i11, i12⟩ := I
  have no : (f_X11_year h t u x = some (-1, uI h 0 11 1)) → (∀ g : HP, hI g 113 10 = hI h 113 10 → f_X12_begins g x 300 = some (0, g)) → Op t u (f_X11_year h t u x) (fun g => f_X12_year g x) := by
    intro e1 e2
    refine ⟨-1, uI h 0 11 1, uI (uI h 0 11 1) 113 2 1, e1, ?_, I0.st 1⟩
    show f_X12_year (uI h 0 11 1) x = _
    unfold f_X12_year
    rw [e2 _ (hI_uI_n (by decide)), bd2_s, if_pos rfl]
    rfl
  by_cases h0 : x < 0
  · refine no ?_ (fun g hg => ?_)
    · unfold f_X11_year; rw [if_pos h0]; rfl
    · unfold f_X12_begins; rw [if_pos h0]
  · obtain ⟨L, hL31, eL⟩ := nat_is (x := x) (by have := Int32.not_lt.mp h0; have := Int32.le_iff_toInt_le.mp this; exact this)
    subst eL
    by_cases hLf : L ≤ f
    · have nlf : ¬ hI h 5 7 < nI L := by rw [f1]; exact fun z => by have := (nI_ltI (by omega) (by omega)).mp z; omega
      have nlf2 : ¬ hI h 113 10 < nI L := by rw [f2]; exact fun z => by have := (nI_ltI (by omega) (by omega)).mp z; omega
      have e300 : nI L ≤ 300 ↔ L ≤ 300 := nI_leI (b := 300) (by omega) (by omega)
      by_cases h300 : L ≤ 300
      · have beg : f_X4_begin h (nI L) = some (cutF h L) := by
          unfold f_X4_begin
          rw [f1, gdi_nI (by omega) (by decide), gdi_nI (by omega) (by decide), nI_clamp (by omega), nI_clamp (by omega), Nat.min_eq_left hLf]
        obtain ⟨cs, cI, cL⟩ := cut_fr h L
        have run := yrun I0 hLf f9 f1 f2 f3 h300
        obtain ⟨_, _, _, xx, A, _, t1, _, _, C, A7, R⟩ := run h (fun _ _ => rfl) (fun _ _ => rfl)
        have sA : SR h A := ⟨C.1.1.trans cs.1, C.1.2.trans cs.2⟩
        have AI : ∀ c, c ≠ 5 → ¬ (8 ≤ c ∧ c ≤ 11) → ¬ (u ≤ c ∧ c ≤ u + 16) → hI A c = hI h c := fun c h1 h2 h3 => by rw [C.2.1 c h1 h3, cI c h1 h2]
        have AL : ∀ c, c ≠ 12 → ¬ (u ≤ c ∧ c ≤ u + 16) → hL A c = hL h c := fun c h1 h3 => by rw [C.2.2.1 c h3, cL c h1]
        have cls : f_X11_year h t u (nI L) = (if xx = (0 : Int32) then some (-1, uI A 0 11 9) else bd1 (f_X9_copyFrom A (t + 3) (u + 3)) fun h19 => some (hI h19 (t + 3) 7, uI h19 0 11 0)) := by
          unfold f_X11_year
          rw [if_neg h0, if_neg nlf, if_pos (e300.mpr h300), beg, bd1_s]
          rw [show f_X9_makeEmpty (cutF h L) (u + 3) = some (emY (cutF h L) (u + 3)) from rfl, bd1_s, t1, bd2_s]
          rfl
        rcases R with ⟨r0, _⟩ | ⟨r1, _, c, e, s, st, tH, tR, tS, S⟩
        · obtain ⟨_, _, _, x2, A2, b1, t2, m1, m2, _, _, R2⟩ := run (uI A 0 11 9) (fun c hc => by rw [hI_uI_n' (by omega), AI c (by omega) (by omega) (by omega)]) (fun c hc => by rw [hL_uI, AL c (by omega) (by omega)])
          have e12 : (xx, A) = (x2, A2) := Option.some.inj (t1.symm.trans t2)
          obtain ⟨rfl, rfl⟩ := Prod.mk.inj e12
          have ft : FT A b1 := by
            rcases R2 with ⟨_, y⟩ | ⟨y, _⟩
            · exact y
            · rw [r0] at y; exact absurd y (by decide)
          refine ⟨-1, uI A 0 11 9, _, by rw [cls, if_pos r0], m1.trans (y77_f ft), ?_⟩
          have G1 : RG u h b1 := RG.of hu cI cL C (fun c hc => hI_uI_n' hc) (fun j hj => hI_uI_n (by omega)) (hL_uI _ _ _ _) m2
          have G : RG u h (uI (uI b1 113 16 (hI b1 113 18)) 113 2 9) := G1.app (fun c h1 _ => by rw [hI_uI_n' h1, hI_uI_n' h1]) (fun j h1 h2 => by rw [hI_uI_n (by omega), hI_uI_n (by omega)]) (fun j _ => by rw [hI_uI_n (by omega), hI_uI_n (by omega)]) (fun _ _ => rfl) (fun _ _ => rfl)
          have s2 : SR h (uI (uI b1 113 16 (hI b1 113 18)) 113 2 9) := ⟨m2.1.1.trans sA.1, m2.1.2.trans sA.2⟩
          have k11 : hI (uI (uI b1 113 16 (hI b1 113 18)) 113 2 9) 0 11 = hI (uI (uI b1 113 16 (hI b1 113 18)) 113 2 9) 113 2 := by
            rw [hI_uI_s, hI_uI_n (by decide), hI_uI_n (by decide), m2.2.1 0 (by decide) (by decide) (by decide) (by decide), hI_uI_n (by decide), hI_uI_s]
          obtain ⟨q1, q2, q3, q4, q5⟩ := RG.parts I0 G hu k11
          have b5 : hI (uI (uI b1 113 16 (hI b1 113 18)) 113 2 9) 5 = hI A 5 := by rw [hI_uI_n' (by decide), hI_uI_n' (by decide), m2.2.1 5 (by decide) (by decide) (by decide) (by decide), hI_uI_n' (by decide), hI_uI_n' (by decide)]
          obtain ⟨ee, _, _, w1, w2, w3⟩ := ft
          refine ⟨⟨s2.ly i1, fun k hk => by rw [s2.2]; exact i2 k hk, i3, s2.pr i4, s2.pr i5⟩, q1, q2, ⟨⟨0, by decide, by rw [b5]; exact A7, ?_, fun k hk => absurd hk (by omega)⟩, ?_, ?_⟩, q3, q4, ?_, q5⟩
          · rw [hI_uI_n (by decide), hI_uI_n (by decide), m2.2.2.2.1 10 (by decide), hI_uI_s]; rfl
          · rw [b5, w2, hI_uI_n (by decide), hI_uI_s, w1]
          · rw [b5, w3, hI_uI_n (by decide), hI_uI_n (by decide)]
          · refine i11.same ⟨fun a j z => ?_, fun a z => ?_, fun j _ hj => ?_, fun j _ hj => ?_⟩
            · unfold inT at z
              rw [G.1 a (by omega) (by omega) (by omega) (by omega) (by omega)]
            · unfold inTL at z
              exact G.2.2.1 a (by omega) (by omega) (by omega)
            · rw [hI_uI_n (by omega), hI_uI_n (by omega), m2.2.2.2.2.2.1 j (by omega), hI_uI_n (by omega), hI_uI_n' (by omega), AI 114 (by omega) (by omega) (by omega)]
            · rw [hL_uI, hL_uI, m2.2.2.2.2.2.2 j (by omega), hL_uI, hL_uI, AL 115 (by omega) (by omega)]
        · have hA6 := S.1.2.1
          have hA5 := S.1.2.2.2
          have he60 := S.1.1
          have cp : f_X9_copyFrom A (t + 3) (u + 3) = some (yearCp A (t + 3) (u + 3) e) := by
            unfold f_X9_copyFrom
            rw [hA6, gdi_nI (by omega) (by decide), gdv_t (Or.inr hA5), gdv_t (show u + 3 ≠ t + 3 by omega), nI_clamp (by omega)]
          obtain ⟨a8, ea8⟩ : ∃ a8, a8 = yearCp A (t + 3) (u + 3) e := ⟨_, rfl⟩
          have aI : ∀ c, ¬ (t + 3 ≤ c ∧ c ≤ t + 8) → hI a8 c = hI A c := fun c hc => by rw [ea8]; exact yearCp_I A _ _ _ c (by omega)
          have aL : hL a8 = hL A := by rw [ea8]; rfl
          have aS : SR A a8 := by rw [ea8]; exact yearCp_sr _ _ _ _
          obtain ⟨w, r, m, x2, A2, b1, t2, m1, m2, _, _, R2⟩ := run (uI a8 0 11 0) (fun c hc => by rw [hI_uI_n' (by omega), aI c (by omega), AI c (by omega) (by omega) (by omega)]) (fun c hc => by rw [hL_uI, aL, AL c (by omega) (by omega)])
          have e12 : (xx, A) = (x2, A2) := Option.some.inj (t1.symm.trans t2)
          obtain ⟨rfl, rfl⟩ := Prod.mk.inj e12
          have R3 : RD (hI h 6) L (cutN (hI h 6) L) A b1 ∧ ∃ c e s st, RtH h t 0 w r ∧ RtR h t 0 0 m c ∧ RtS h t 0 ∧ YS A b1 (u + 3) w r m e s 0 st := by
            rcases R2 with ⟨y, _⟩ | ⟨_, y⟩
            · rw [r1] at y; exact absurd y (by decide)
            · exact y
          obtain ⟨⟨_, d18, d17, d12, d13⟩, c', e', sn, st', tH', tR', tS', SS⟩ := R3
          have ee : e' = e := nI_inj (by have := SS.1.1; omega) (by omega) (SS.1.2.1.symm.trans hA6)
          subst ee
          obtain ⟨b2, n1, n2, n3, n4, n5, n6, n7, n8, n9, n10, n11⟩ := y77_t d18
          have c7 : hI a8 (t + 3) 7 = nI sn := by rw [ea8, (yearCp_y _ _ _ _).2.2]; exact SS.2.1.2.1
          refine ⟨nI sn, uI a8 0 11 0, b2, by rw [cls, if_neg (show ¬ xx = 0 by rw [r1]; decide), cp, ← ea8, bd1_s, c7], ?_, ?_⟩
          · show f_X12_year (uI a8 0 11 0) (nI L) = _
            rw [m1, n1, SS.2.1.2.2.1]
          have bI2 : ∀ c, c < 113 → c ≠ 0 → hI b2 c = hI a8 c := fun c h1 h2 => by rw [n3 c (by omega) (by omega), m2.2.1 c (by omega) (by omega) (by omega) (by omega), hI_uI_n' (by omega), hI_uI_n' h2]
          have b0 : ∀ j, j ≠ 11 → hI b2 0 j = hI h 0 j := fun j hj => by rw [n3 0 (by omega) (by omega), m2.2.1 0 (by omega) (by omega) (by omega) (by omega), hI_uI_n (by omega), hI_uI_n (by omega), aI 0 (by omega), AI 0 (by omega) (by omega) (by omega)]
          have bL2 : ∀ c, c ≠ 115 → hL b2 c = hL A c := fun c h1 => by rw [n7, m2.2.2.1 c h1, hL_uI, hL_uI, aL]
          have b4 : ∀ j, j < 1640 → hI b1 114 j = hI h 114 j := fun j hj => by rw [m2.2.2.2.2.2.1 j hj, hI_uI_n' (by decide), hI_uI_n' (by decide), aI 114 (by omega), AI 114 (by omega) (by omega) (by omega)]
          have b5 : ∀ j, j < 40 → hL b2 115 j = hL h 115 j := fun j hj => by rw [n7, m2.2.2.2.2.2.2 j hj, hL_uI, hL_uI, aL, AL 115 (by omega) (by omega)]
          have k11 : hI b2 0 11 = 0 := by rw [n3 0 (by decide) (by decide), m2.2.1 0 (by decide) (by decide) (by decide) (by decide), hI_uI_n (by decide), hI_uI_s]
          have s2 : SR h b2 := ⟨n2.1.trans (m2.1.1.trans (aS.1.trans sA.1)), n2.2.trans (m2.1.2.trans (aS.2.trans sA.2))⟩
          have hiI : ∀ c, 115 ≤ c → c ≠ 120 → c ≠ 121 → hI b2 c = hI h c := fun c h1 h2 h3 => by rw [n3 c (by omega) (by omega), m2.2.1 c (by omega) (by omega) h2 h3, hI_uI_n' (by omega), hI_uI_n' (by omega), aI c (by omega), AI c (by omega) (by omega) (by omega)]
          obtain ⟨q1, q2, q3, q4, q5⟩ := year_parts I0 (k11.trans n5.symm) (fun c h1 h2 h3 h4 h5 => by rw [bI2 c h1 h2, aI c (by omega), AI c h3 h4 (by omega)]) b0 (fun c h1 h2 h3 => by rw [bL2 c h2, AL c h1 (by omega)]) hiI (fun j h1 h2 => by rw [n4 j h1 (by omega), m2.2.2.2.1 j (by omega), hI_uI_n (by omega), hI_uI_n' (by decide), aI 113 (by omega), AI 113 (by omega) (by omega) (by omega)]) (fun j h1 h2 => by rw [n8 j (by omega)]; exact b4 j h2) (fun j h1 h2 => b5 j h2)
          have tI : ∀ c, t ≤ c → c ≤ t + 16 → ¬ (t + 3 ≤ c ∧ c ≤ t + 8) → hI b2 c = hI h c := fun c h1 h2 h3 => by rw [bI2 c (by omega) (by omega), aI c h3, AI c (by omega) (by omega) (by omega)]
          have l4 : ∀ j, j < 44 → j ≠ 11 → hI b2 114 j = hI h 114 j := fun j h1 h2 => by rw [n10 j h1 h2]; exact b4 j (by omega)
          refine ⟨⟨s2.ly i1, fun k hk => by rw [s2.2]; exact i2 k hk, i3, s2.pr i4, s2.pr i5⟩, q1, q2, ⟨⟨0, by decide, by rw [bI2 5 (by decide) (by decide), aI 5 (by omega)]; exact A7, ?_, fun k hk => absurd hk (by omega)⟩, ?_, ?_⟩, q3, q4, ⟨w, r, m, c', ?_, ?_, ?_, ?_⟩, q5⟩
          · rw [n4 10 (by decide) (by decide), m2.2.2.2.1 10 (by decide), hI_uI_s]; rfl
          · rw [bI2 5 (by decide) (by decide), aI 5 (by omega), n6]; exact d12
          · rw [bI2 5 (by decide) (by decide), aI 5 (by omega), n4 17 (by decide) (by decide), d17]; exact d13
          · exact tH'.same2 (fun j _ => by rw [tI _ (by omega) (by omega) (by omega)]) (by rw [tI _ (by omega) (by omega) (by omega)]) (fun j hj => by rw [Nat.zero_add]; exact l4 j (by omega) (by omega))
          · exact tR'.same2 (fun j _ _ => by rw [tI _ (by omega) (by omega) (by omega)]) (fun a i _ _ _ => by rw [tI _ (by omega) (by omega) (by omega)]) (fun a i ha => by rw [bL2 _ (by omega), AL _ (by omega) (by omega)]) (fun j hj => by rw [Nat.zero_add]; exact l4 j (by omega) (by omega)) (fun j hj => by rw [Nat.zero_add]; exact b5 j (by omega))
          · unfold RtS at tS' ⊢
            rw [tI t (by omega) (by omega) (by omega), tI (t + 15) (by omega) (by omega) (by omega), l4 (0 + 7) (by omega) (by omega), l4 (0 + 8) (by omega) (by omega)]
            exact ⟨tS'.1, fun i hi => by rw [l4 _ (by omega) (by omega)]; exact tS'.2 i hi⟩
          · have y0 := yearCp_y A (t + 3) (u + 3) e'
            rw [← ea8] at y0
            have yk : ∀ a p, 1 ≤ a → a ≤ 5 → p < e' → hI b2 (t + 3 + a) p = hI A (u + 3 + a) p := fun a p h1 h2 h3 => by rw [bI2 _ (by omega) (by omega), ea8, yearCp_k A _ _ _ h1 h2 h3]
            refine Or.inr ⟨?_, e', he60, ?_, ?_, fun k hk => ?_, ?_⟩
            · rw [bI2 _ (by omega) (by omega), y0.1]; exact hA5
            · rw [bI2 _ (by omega) (by omega), y0.2.1]
            · rw [Nat.zero_add, n9]; exact SS.1.2.2.1
            · refine (SS.ent (by omega) k hk).mv2 he60 hk (fun a p h1 h2 h3 => ?_) (fun j h1 h2 => ?_)
              · rw [mxI_lo _ _ (by omega), yk a p h1 h2 h3]
              · rw [mxI_hi _ _ (by decide), Nat.zero_add, n11 j h1 (by omega)]
            · intro i j p q hij hjp hp hq hbi hbj h5i h5j
              rw [yk 1 i (by decide) (by decide) (by omega)] at hbi
              rw [yk 1 j (by decide) (by decide) (by omega)] at hbj
              rw [yk 5 i (by decide) (by decide) (by omega)] at h5i
              rw [yk 5 j (by decide) (by decide) (by omega)] at h5j
              exact SS.2.2.2.2.2.1 i j p q hij hjp hp hq hbi hbj h5i h5j
      · refine no ?_ (fun g hg => ?_)
        · unfold f_X11_year
          rw [if_neg h0, if_neg nlf, if_neg (fun z => h300 (e300.mp z))]; rfl
        · unfold f_X12_begins
          rw [if_neg h0, hg, if_neg nlf2, if_neg (fun z => h300 (e300.mp z))]
    · refine no ?_ (fun g hg => ?_)
      · unfold f_X11_year
        rw [if_neg h0, f1, if_pos (show nI f < nI L from (nI_ltI (by omega) (by omega)).mpr (by omega))]; rfl
      · unfold f_X12_begins
        rw [if_neg h0, hg, f2, if_pos (show nI f < nI L from (nI_ltI (by omega) (by omega)).mpr (by omega))]
