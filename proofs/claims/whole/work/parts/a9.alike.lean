/-! ===== year: an order whole ===== -/
theorem CE.W {u e : Nat} {a a' : HP} (C : CE (u + 3) e a a') : CW u a a' := ⟨C.1, fun c h1 h2 => funext fun j => C.2.1 c j h1 (by omega), fun c _ => congrFun C.2.2.1 c, C.2.2.2⟩
theorem adY_W (a : HP) (u e : Nat) (w : Int32) (hu : 6 ≤ u) : CW u a (adY a (u + 3) e w) := by
  refine ⟨⟨rfl, rfl⟩, fun c h1 h2 => funext fun j => ?_, fun _ _ => rfl, ?_⟩
  · rw [adY_c, if_neg (by omega), if_neg (by omega), if_neg (by omega), if_neg (by omega)]
  · rw [adY_c, if_neg (by omega), if_neg (by omega), if_neg (by omega), if_neg (by omega)]
/-- after a step -/
def YN (T : Nat → Int32) (L n t u w r m e N l : Nat) (a b : HP) : Prop := ∃ rr a' b', f_X12_yearStep b = some (rr, b') ∧ FW b b' ∧ CW u a a' ∧ ((rr = 0 ∧ f_X10_takeYear_2 t (u + 3) (N + 1) (nI l) a = some (0, a') ∧ FT a' b') ∨ (rr = 1 ∧ f_X10_takeYear_2 t (u + 3) (N + 1) (nI l) a = f_X10_takeYear_2 t (u + 3) N (nI (l + 1)) a' ∧ RD T L n a' b' ∧ ∃ s' d' st', YS a' b' (u + 3) w r m (e + 1) s' d' st'))
theorem yorder {T : Nat → Int32} {L n t u w r m e s d N l : Nat} {a b : HP} {st : Nat → Nat} (hu : u = 79 ∨ u = 96) (ht : t = 79 ∨ t = 96) (htu : t ≠ u) (k : RD T L n a b) (ly : Lay a) (W : TWN a b t w r m) (S : YS a b (u + 3) w r m e s d st) (hl : l ≤ 60) {j : Nat} (hj : isOW j) (hk : kA a = 4 ∧ vA a = nI j) (hr : f_X12_inWords b = some (nI (rwK j), b)) : YN T L n t u w r m e N l a b := by
  have rk := k.rk ly
  have S0 := S
  obtain ⟨⟨a1, a2, a3, a4⟩, ⟨b1, b2, b3, b4⟩, ⟨c1, c2, c3, c4, c5⟩, e1, _⟩ := S
  have hn : kA a ≠ 1 := by rw [hk.1]; decide
  have j22 : j < 22 := by unfold isOW at hj; omega
  have n20 : ¬ (kA a = 4 ∧ vA a = 20) := fun z => by
    have := nI_inj (b := 20) (by omega) (by decide) (hk.2.symm.trans z.2)
    unfold isOW at hj; omega
  have wn : wnA a = nI j := by unfold wnA; rw [if_pos hk.1, hk.2]
  have sw : isStepW (nI j) := by
    unfold isOW at hj
    rcases hj with ⟨h1, h2⟩ | h | h
    · exact Or.inl ⟨(nI_leI (a := 9) (by omega) (by omega)).mpr h1, (nI_leI (b := 15) (by omega) (by omega)).mpr h2⟩
    · rw [h]; exact Or.inr (Or.inl rfl)
    · rw [h]; exact Or.inr (Or.inr rfl)
  have rr : 9 ≤ rwK j ∧ rwK j ≤ 18 ∧ rwK j ≠ 17 ∧ ((rwK j = 15 ∨ rwK j = 16) ↔ (j = 15 ∨ j = 19)) := by
    have q : ∀ j, j < 22 → ((9 ≤ j ∧ j ≤ 15) ∨ j = 19 ∨ j = 21) → 9 ≤ rwK j ∧ rwK j ≤ 18 ∧ rwK j ≠ 17 ∧ ((rwK j = 15 ∨ rwK j = 16) ↔ (j = 15 ∨ j = 19)) := by decide +kernel
    exact q j j22 hj
  unfold YN
  rw [year2_e rk hn hl, if_neg n20, stepW_e rk, wn, decide_eq_true sw, if_neg (show ¬ bI true = 0 by decide), b2, yearStep_e hr, a3, show (6 : Int32) * nI e = nI (6 * e) from nI_mul 6 e, show (1684 : Int32) + nI (6 * e) = nI (1684 + 6 * e) from nI_add 1684 (6 * e)]
  have r17 : ¬ nI (rwK j) = 17 := fun z => rr.2.2.1 (nI_inj (b := 17) (by omega) (by decide) z)
  unfold f_X12_yearStep_42
  rw [if_neg (show ¬ nI (rwK j) < 9 from fun z => by have := (nI_ltI (b := 9) (by omega) (by omega)).mp z; omega), if_neg (show ¬ (18 : Int32) < nI (rwK j) from fun z => by have := (nI_ltI (a := 18) (by omega) (by omega)).mp z; omega), if_neg r17]
  unfold f_X12_yearStep_75
  rw [if_neg r17, b3]
  have flt : ∀ v : Nat, 1 ≤ v → v ≤ 7 → ∀ X : HP → Option (Int32 × HP), ∃ rr a' b', (bd2 (f_X12_fails b (nI v)) fun r29 h28 => gdv (is01 r29) <| some (r29, h28)) = some (rr, b') ∧ FW b b' ∧ CW u a a' ∧ ((rr = 0 ∧ (bd2 (some ((0 : Int32), failF a (nI v))) fun r13 h12 => if r13 = (0 : Int32) then some (0, h12) else X h12) = some (0, a') ∧ FT a' b') ∨ (rr = 1 ∧ (bd2 (some ((0 : Int32), failF a (nI v))) fun r13 h12 => if r13 = (0 : Int32) then some (0, h12) else X h12) = f_X10_takeYear_2 t (u + 3) N (nI (l + 1)) a' ∧ RD T L n a' b' ∧ ∃ s' d' st', YS a' b' (u + 3) w r m (e + 1) s' d' st')) := by
    intro v h1 h7 X
    obtain ⟨b', g1, g2, g3⟩ := k.fail h1 h7
    refine ⟨0, failF a (nI v), b', by rw [g1, bd2_s, gdv_t (Or.inl rfl)], g2.W, CW.fr (failF_fr a _), Or.inl ⟨rfl, by rw [bd2_s, if_pos rfl], g3⟩⟩
  by_cases h30 : s = 30
  · rw [h30, if_pos (show nI 30 = 30 from rfl), if_pos (show (30 : Int32) ≤ nI 30 by decide)]
    exact flt 6 (by decide) (by decide) _
  · have e58 : e < 60 := by omega
    rw [if_neg (show ¬ nI s = 30 from fun z => h30 (nI_inj (b := 30) (by omega) (by decide) z)), if_neg (show ¬ (30 : Int32) ≤ nI s from fun z => by have := (nI_leI (a := 30) (by omega) (by omega)).mp z; omega), a2, if_pos (show nI e < 60 from (nI_ltI (b := 60) (by omega) (by decide)).mpr e58), c2]
    have jb : (nI j = 15 ∨ nI j = 19) ↔ (j = 15 ∨ j = 19) := ⟨fun z => z.elim (fun z => Or.inl (nI_inj (b := 15) (by omega) (by decide) z)) (fun z => Or.inr (nI_inj (b := 19) (by omega) (by decide) z)), fun z => z.elim (fun z => by rw [z]; exact Or.inl rfl) (fun z => by rw [z]; exact Or.inr rfl)⟩
    have rb : (nI (rwK j) = 15 ∨ nI (rwK j) = 16) ↔ (j = 15 ∨ j = 19) := by
      rw [← rr.2.2.2]
      exact ⟨fun z => z.elim (fun z => Or.inl (nI_inj (b := 15) (by omega) (by decide) z)) (fun z => Or.inr (nI_inj (b := 16) (by omega) (by decide) z)), fun z => z.elim (fun z => by rw [z]; exact Or.inl rfl) (fun z => by rw [z]; exact Or.inr rfl)⟩
    -- both go on
    have go : ∀ l4 : Int32, ((j = 15 ∨ j = 19) → d < 3 ∧ l4 = 1) → (¬ (j = 15 ∨ j = 19) → l4 = 0) → ∃ rr a' b', f_X12_yearStep_117 (nI (rwK j)) (nI e) (nI (1684 + 6 * e)) l4 b = some (rr, b') ∧ FW b b' ∧ CW u a a' ∧ ((rr = 0 ∧ (bd2 (f_X10_takeStepWord_65 (u + 3) (nI j) a) fun r13 h12 => if r13 = (0 : Int32) then some (0, h12) else bd2 (f_X10_takeRest h12 t (u + 3) (nI e)) fun r17 h16 => if r17 = (0 : Int32) then some (0, h16) else f_X10_takeYear_62 t (u + 3) (f_X10_takeYear_2 t (u + 3) N) (nI l) 1 h16) = some (0, a') ∧ FT a' b') ∨ (rr = 1 ∧ (bd2 (f_X10_takeStepWord_65 (u + 3) (nI j) a) fun r13 h12 => if r13 = (0 : Int32) then some (0, h12) else bd2 (f_X10_takeRest h12 t (u + 3) (nI e)) fun r17 h16 => if r17 = (0 : Int32) then some (0, h16) else f_X10_takeYear_62 t (u + 3) (f_X10_takeYear_2 t (u + 3) N) (nI l) 1 h16) = f_X10_takeYear_2 t (u + 3) N (nI (l + 1)) a' ∧ RD T L n a' b' ∧ ∃ s' d' st', YS a' b' (u + 3) w r m (e + 1) s' d' st')) := by
      intro l4 hb1 hb0
      obtain ⟨ca1, ca2, ca3⟩ := cls_add k ly S0 (by omega) (by omega) (nI j)
      obtain ⟨bp, p1, p2, p3, p4, p5, p6, p7, p8, p9, p10⟩ := ref_pre ca3 (ro := nI (rwK j)) l4 r17 a3 b3 e58 (by omega) rfl
      rw [ca1, bd2_s, if_neg (show ¬ (1 : Int32) = 0 by decide), p1]
      have fa : TkFr (adY a (u + 3) e (nI j)) (advF (adY a (u + 3) e (nI j))) := advF_fr _
      have Cp : CW u a (advF (adY a (u + 3) e (nI j))) := (adY_W a u e _ (by omega)).trans (CW.fr fa)
      have ap : ∀ c q, c ≠ 5 → hI (advF (adY a (u + 3) e (nI j))) c q = hI (adY a (u + 3) e (nI j)) c q := fun c q hc => by rw [fa.I hc]
      have lp : Lay (advF (adY a (u + 3) e (nI j))) := fa.ly ca2
      have Wp : TWN (advF (adY a (u + 3) e (nI j))) bp t w r m := W.keep hu ht htu Cp p3
      generalize advF (adY a (u + 3) e (nI j)) = ap' at p2 Cp ap lp Wp ⊢
      have y1 : hI ap' (u + 3 + 1) e = nI j := by rw [ap _ _ (by omega), adY_c, if_neg (by omega), if_neg (by omega), if_neg (by omega), if_pos ⟨rfl, rfl⟩]
      obtain ⟨R, bq, o1, o2, ⟨o3, o4, o5, o6⟩⟩ := order_is p2 lp (y := u + 3) (x := 1684 + 6 * e) (wd := j) Wp (by omega) (by omega) (by omega) (by omega) (by omega) e58 hj y1 p5
      rw [o1, bd2_s, o2, bd2_s]
      rcases o6 with ⟨r0, ft⟩ | ⟨r1, kq, od⟩
      · rw [r0, if_pos rfl, if_pos rfl]
        exact ⟨0, R.2, bq, rfl, p3.trans o5.1, Cp.trans o4.W, Or.inl ⟨rfl, rfl, ft⟩⟩
      · rw [r1, if_neg (show ¬ (1 : Int32) = 0 by decide), if_neg (show ¬ (1 : Int32) = 0 by decide)]
        have lq : Lay R.2 := lp.keep o4.1.1 o4.1.2
        have x21 : hI bq 113 21 = nI d := by rw [o5.2.2.2.1 21 (by decide), p8]; exact c2
        have x22 : hI bq 113 22 = nI (s + 1) := by rw [o5.2.2.2.1 22 (by decide), p7]
        -- the last part: the sign
        have endg : ∀ bs : HP, RD T L n R.2 bs → FW b bs → (∀ q, hI bs 114 q = hI bq 114 q) → hI bs 113 22 = nI (s + 1) → (((j = 15 ∨ j = 19) ∧ hI bs 113 21 = nI (d + 1) ∧ (∀ i, i ≠ d → hI bs 121 i = hI b 121 i) ∧ hI bs 121 d = nI e) ∨ (¬ (j = 15 ∨ j = 19) ∧ hI bs 113 21 = nI d ∧ hI bs 121 = hI b 121)) → ∃ rr a' b', (bd2 (f_X12_wantSign bs 59) fun r67 h66 => gdv (is01 r67) <| some (r67, h66)) = some (rr, b') ∧ FW b b' ∧ CW u a a' ∧ ((rr = 0 ∧ f_X10_takeYear_62 t (u + 3) (f_X10_takeYear_2 t (u + 3) N) (nI l) 1 R.2 = some (0, a') ∧ FT a' b') ∨ (rr = 1 ∧ f_X10_takeYear_62 t (u + 3) (f_X10_takeYear_2 t (u + 3) N) (nI l) 1 R.2 = f_X10_takeYear_2 t (u + 3) N (nI (l + 1)) a' ∧ RD T L n a' b' ∧ ∃ s' d' st', YS a' b' (u + 3) w r m (e + 1) s' d' st')) := by
          intro bs ks Fs i4 i22 hh
          obtain ⟨rr, b', g1, g2, g3, g4⟩ := sign62 ks lq (t := t) (y := u + 3) (N := N) hl
          have fk := takeK_fr 3 R.2 59
          refine ⟨rr, (takeK 3 R.2 59).2, b', by rw [g1, bd2_s, gdv_t g2], Fs.trans g3.W, (Cp.trans o4.W).trans (CW.fr fk), ?_⟩
          rcases g4 with g4 | ⟨q1, q2, q3⟩
          · exact Or.inl g4
          · refine Or.inr ⟨q1, q2, q3, ?_⟩
            have Ac : ∀ c q, c ≠ 5 → ¬ ((c = u + 3 + 2 ∨ c = u + 3 + 3 ∨ c = u + 3 + 4) ∧ q = e) → hI (takeK 3 R.2 59).2 c q = hI (adY a (u + 3) e (nI j)) c q := fun c q h1 h2 => by rw [fk.I h1, o4.2.1 c q h1 h2, ap _ _ h1]
            have od' : OD (takeK 3 R.2 59).2 b' (u + 3) (1684 + 6 * e) w r m e := od.keep (fun c h1 h2 => by rw [fk.I (by omega)]) (fun q _ _ _ => by rw [g3.I (by decide), i4])
            obtain ⟨d', st', Sf⟩ := S0.add (wd := j) (A := (takeK 3 R.2 59).2) (B := b') (by omega) hj (fun z => (hb1 z).1) (fun c q h1 h2 h3 => by rw [Ac _ _ (by omega) (by omega), adY_c, if_neg (by omega), if_neg (by omega), if_neg (by omega), if_neg (by omega)]) (by rw [Ac _ _ (by omega) (by omega), adY_c, if_neg (by omega), if_neg (by omega), if_neg (by omega), if_pos ⟨rfl, rfl⟩]) (by rw [Ac _ _ (by omega) (by omega), adY_c, if_neg (by omega), if_neg (by omega), if_pos ⟨rfl, rfl⟩]) (by rw [Ac _ _ (by omega) (by omega), adY_c, if_neg (by omega), if_pos ⟨rfl, rfl⟩]) (by rw [Ac _ _ (by omega) (by omega), adY_c, if_pos ⟨rfl, rfl⟩, b2, nI_1]) (by rw [Ac _ _ (by omega) (by omega), adY_c, if_neg (by omega), if_neg (by omega), if_neg (by omega), if_neg (by omega)]; exact a4) (fun q h1 h2 => by rw [g3.I (by decide), i4, o5.2.2.1 q (by omega), p10 q (by omega) (by omega)]) (by rw [g3.I (by decide), i4, o5.2.2.1 _ (by omega), p6]) (by rw [g3.c (by decide)]; exact i22) od' (by rw [g3.c (by decide), g3.I (by decide)]; exact hh)
            exact ⟨s + 1, d', st', Sf⟩
        by_cases hB : j = 15 ∨ j = 19
        · obtain ⟨d3, el4⟩ := hb1 hB
          rw [el4, if_neg (show ¬ (1 : Int32) = 0 by decide), x21, gdi_nI (by omega) (by decide), nI_clamp (by omega), ltv_e, ltv_e, hI_uI_n (by omega), x21, nI_1]
          unfold f_X12_yearStep_222
          rw [if_neg r17]
          refine endg _ ?_ (((p3.trans o5.1).u121 _ _).u3 _ (by decide)) (fun q => by rw [hI_uI_n' (by decide), hI_uI_n' (by decide)]) (by rw [hI_uI_n (by omega), hI_uI_n (by omega)]; exact x22) (Or.inl ⟨hB, hI_uI_s _ _ _ _, fun i hi => ?_, ?_⟩)
          · obtain ⟨⟨i, k1⟩, q2, q3, q4, q5⟩ := kq
            refine ⟨⟨i, k1.keep (TkFr.refl _) rfl (fun q hq => ?_) ?_⟩, ?_, ?_, q4, q5⟩
            · rw [hI_uI_n (by omega), hI_uI_n (by omega)]
            · rw [hI_uI_n' (by decide), hI_uI_n' (by decide)]
            · rw [hI_uI_n (by decide), hI_uI_n (by omega)]; exact q2
            · rw [hI_uI_n (by decide), hI_uI_n (by omega)]; exact q3
          · rw [hI_uI_n (by omega), hI_uI_n (by omega), o5.2.2.2.2, p9]
          · rw [hI_uI_n (by omega), hI_uI_s]
        · rw [hb0 hB, if_pos rfl]
          unfold f_X12_yearStep_222
          rw [if_neg r17]
          exact endg bq kq (p3.trans o5.1) (fun _ => rfl) x22 (Or.inr ⟨hB, x21, by rw [o5.2.2.2.2, p9]⟩)
    by_cases hB : j = 15 ∨ j = 19
    · rw [if_pos (rb.mpr hB), if_neg (show ¬ (1 : Int32) = 0 by decide), decide_eq_true (jb.mpr hB), if_neg (show ¬ bI true = 0 by decide), gdi_nI (by omega) (by decide), nI_clamp (by omega), e1]
      by_cases hd3 : d = 3
      · rw [if_pos (show nI d = 3 by rw [hd3]; rfl), if_neg (show ¬ nI d < 3 by rw [hd3]; decide)]
        exact flt 7 (by decide) (by decide) _
      · rw [if_neg (show ¬ nI d = 3 from fun z => hd3 (nI_inj (b := 3) (by omega) (by decide) z)), if_pos (show nI d < 3 from (nI_ltI (b := 3) (by omega) (by decide)).mpr (by omega))]
        exact go 1 (fun _ => ⟨by omega, rfl⟩) (fun z => absurd hB z)
    · rw [if_neg (fun z => hB (rb.mp z)), if_pos (show (0 : Int32) = 0 from rfl), decide_eq_false (fun z => hB (jb.mp z)), if_pos (show bI false = 0 from rfl)]
      exact go 0 (fun z => absurd z hB) (fun _ => rfl)
