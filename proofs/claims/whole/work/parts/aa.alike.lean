/-! ===== year: the end of a block; no step at all ===== -/
theorem yend {T : Nat → Int32} {L n t u w r m e s d N l : Nat} {a b : HP} {st : Nat → Nat} (hu : u = 79 ∨ u = 96) (k : RD T L n a b) (ly : Lay a) (S : YS a b (u + 3) w r m e s d st) (hl : l ≤ 60) (hk : kA a = 4 ∧ vA a = 20) (hr : f_X12_inWords b = some (17, b)) : YN T L n t u w r m e N l a b := by
  have rk := k.rk ly
  have S0 := S
  obtain ⟨⟨a1, a2, a3, a4⟩, ⟨b1, b2, b3, b4⟩, ⟨c1, c2, c3, c4, c5⟩, e1, e2, _⟩ := S
  have hn : kA a ≠ 1 := by rw [hk.1]; decide
  unfold YN
  rw [year2_e rk hn hl, if_pos hk, yearStep_e hr, a3, show (6 : Int32) * nI e = nI (6 * e) from nI_mul 6 e, show (1684 : Int32) + nI (6 * e) = nI (1684 + 6 * e) from nI_add 1684 (6 * e)]
  unfold f_X12_yearStep_42
  rw [if_neg (show ¬ (17 : Int32) < 9 by decide), if_neg (show ¬ (18 : Int32) < 17 by decide), if_pos (show (17 : Int32) = 17 from rfl), c2]
  unfold f_X10_takeEnd f_X9_openEntry
  rw [a2, gdi_nI (by omega) (by decide), nI_clamp (by omega), bd2_s, ltv_e, a2]
  by_cases h0 : d = 0
  · subst h0
    have lb : lastB (openB a (u + 3)) e = -1 := by
      refine ((lastB_iff _ e _).mp (Or.inl ⟨rfl, fun i hi => ?_⟩)).symm
      cases z : openB a (u + 3) i
      · rfl
      · obtain ⟨q, hq, _⟩ := c5 i hi z; omega
    rw [if_pos (show nI 0 = 0 from rfl), lb, if_pos (show (-1 : Int32) < 0 by decide)]
    obtain ⟨b', g1, g2, g3⟩ := k.fail (w := 2) (by decide) (by decide)
    refine ⟨0, failF a 2, b', by rw [show f_X12_fails b 2 = some (0, b') from g1, bd2_s, gdv_t (Or.inl rfl)], g2.W, CW.fr (failF_fr a 2), Or.inl ⟨rfl, ?_, g3⟩⟩
    unfold f_X4_fail f_X10_takeYear_62
    rw [gdc_t rk, bd2_s, gdv_t (Or.inl rfl), bd2_s, if_pos rfl]
  · obtain ⟨d, rfl⟩ : ∃ d', d = d' + 1 := ⟨d - 1, by omega⟩
    obtain ⟨q, hq⟩ : ∃ q, q = st d := ⟨_, rfl⟩
    have cd := c3 d (by omega)
    rw [← hq] at cd
    obtain ⟨cd1, cd2, cd3⟩ := cd
    have lb : lastB (openB a (u + 3)) e = nI q := by
      refine ((lastB_iff _ e _).mp (Or.inr ⟨q, cd2, rfl, cd3, fun i h1 h2 => ?_⟩)).symm
      cases z : openB a (u + 3) i
      · rfl
      · obtain ⟨p, hp, ep⟩ := c5 i h2 z
        have : st p ≤ q := by
          by_cases y : p = d
          · rw [y, ← hq]; exact Nat.le_refl _
          · rw [hq]; exact Nat.le_of_lt (c4 p d (by omega) (by omega))
        omega
    have e59 : e < 60 := by omega
    rw [if_neg (show ¬ nI (d + 1) = 0 from fun z => by have := nI_inj (b := 0) (by omega) (by decide) z; omega), lb, if_neg (show ¬ nI q < 0 from fun z => by have := (nI_ltI (b := 0) (by omega) (by omega)).mp z; omega), if_pos (show nI e < 60 from (nI_ltI (b := 60) (by omega) (by decide)).mpr e59)]
    -- the class's cells
    unfold f_X9_add
    rw [a2, gdi_nI (by omega) (by decide), nI_clamp (by omega), bd1_s, gdi_nI (by omega) (by decide), ltv_e, gdi_nI (by omega) (by decide), ltv_e, nI_clamp (by omega), nI_1]
    have gc : ∀ c j, hI (uI (uI (rI (rI (rI a (u + 3 + 1) (upd (hI a (u + 3 + 1)) e 20)) (u + 3 + 5) (upd (hI a (u + 3 + 5)) e (nI e))) (u + 3) (upd (hI a (u + 3)) 6 (nI (e + 1)))) (u + 3 + 5) q (nI e)) (u + 3 + 5) e (nI q)) c j = if c = u + 3 + 5 ∧ j = e then nI q else if c = u + 3 + 5 ∧ j = q then nI e else if c = u + 3 ∧ j = 6 then nI (e + 1) else if c = u + 3 + 1 ∧ j = e then 20 else hI a c j := by
      intro c j
      have ee : rI (rI (rI a (u + 3 + 1) (upd (hI a (u + 3 + 1)) e 20)) (u + 3 + 5) (upd (hI a (u + 3 + 5)) e (nI e))) (u + 3) (upd (hI a (u + 3)) 6 (nI (e + 1))) = uI (uI (uI a (u + 3 + 1) e 20) (u + 3 + 5) e (nI e)) (u + 3) 6 (nI (e + 1)) := by
        unfold uI
        rw [hI_rI_n _ _ (show u + 3 ≠ u + 3 + 5 by omega), hI_rI_n _ _ (show u + 3 ≠ u + 3 + 1 by omega), hI_rI_n _ _ (show u + 3 + 5 ≠ u + 3 + 1 by omega)]
      rw [ee, hI_uI, hI_uI, hI_uI, hI_uI, hI_uI]
      by_cases z1 : c = u + 3 + 5 ∧ j = e
      · rw [if_pos z1, if_pos z1]
      · rw [if_neg z1, if_neg z1]
        by_cases z2 : c = u + 3 + 5 ∧ j = q
        · rw [if_pos z2, if_neg z1]
        · rw [if_neg z2, if_neg z1]
    have gl : hL (uI (uI (rI (rI (rI a (u + 3 + 1) (upd (hI a (u + 3 + 1)) e 20)) (u + 3 + 5) (upd (hI a (u + 3 + 5)) e (nI e))) (u + 3) (upd (hI a (u + 3)) 6 (nI (e + 1)))) (u + 3 + 5) q (nI e)) (u + 3 + 5) e (nI q)) = hL a := rfl
    have gs : SR a (uI (uI (rI (rI (rI a (u + 3 + 1) (upd (hI a (u + 3 + 1)) e 20)) (u + 3 + 5) (upd (hI a (u + 3 + 5)) e (nI e))) (u + 3) (upd (hI a (u + 3)) 6 (nI (e + 1)))) (u + 3 + 5) q (nI e)) (u + 3 + 5) e (nI q)) := ⟨rfl, rfl⟩
    generalize uI (uI (rI (rI (rI a (u + 3 + 1) (upd (hI a (u + 3 + 1)) e 20)) (u + 3 + 5) (upd (hI a (u + 3 + 5)) e (nI e))) (u + 3) (upd (hI a (u + 3)) 6 (nI (e + 1)))) (u + 3 + 5) q (nI e)) (u + 3 + 5) e (nI q) = ag at gc gl gs ⊢
    have kg : RD T L n ag b := k.keep (funext fun j => by rw [gc, if_neg (by omega), if_neg (by omega), if_neg (by omega), if_neg (by omega)]) (fun c hc => funext fun j => by rw [gc, if_neg (by omega), if_neg (by omega), if_neg (by omega), if_neg (by omega)]) (by rw [gl]) rfl rfl
    have lg : Lay ag := gs.ly ly
    have Cg : CW u a ag := ⟨gs, fun c h1 h2 => funext fun j => by rw [gc, if_neg (by omega), if_neg (by omega), if_neg (by omega), if_neg (by omega)], fun c _ => by rw [gl], by rw [gc, if_neg (by omega), if_neg (by omega), if_neg (by omega), if_neg (by omega)]⟩
    unfold f_X4_advance
    rw [gdc_t (kg.rk lg), bd1_s, bd2_s]
    -- the reference's
    unfold f_X12_yearStep_75
    rw [if_pos (show (17 : Int32) = 17 from rfl), if_neg (show ¬ ((17 : Int32) = 15 ∨ (17 : Int32) = 16) by decide), if_pos (show (0 : Int32) = 0 from rfl)]
    unfold f_X12_yearStep_117
    rw [if_pos (show (17 : Int32) = 17 from rfl), ltv_e, b3, gdi_nI (by omega) (by decide), ltv_e, nI_clamp (by omega), show nI s + 0 = nI s from nI_add s 0]
    obtain ⟨b2', z1, z2, z3, z4, z5⟩ := z147 17 (nI e) 0 (x := 1684 + 6 * e) (by omega) (by omega) 5 1 FU (uI (uI b 113 22 (nI s)) 114 (1684 + 6 * e) 17) (by decide) (by decide) (FU_gt (by decide))
    rw [show f_X12_yearStep_147 FU 17 (nI e) (nI (1684 + 6 * e)) 0 1 (uI (uI b 113 22 (nI s)) 114 (1684 + 6 * e) 17) = _ from z1]
    unfold f_X12_yearStep_147
    have e51 : hI b2' 114 1651 = nI e := by rw [z2.2.2.1 _ (by omega), hI_uI_n (by omega), hI_uI_n (by decide)]; exact a3
    rw [if_pos (show (6 : Int32) ≤ 6 by decide), ltv_e, e51, nI_1]
    have k2 : RD T L n ag (uI b2' 114 1651 (nI (e + 1))) := by
      obtain ⟨⟨i, k1⟩, q2, q3, q4, q5⟩ := kg
      refine ⟨⟨i, k1.keep (TkFr.refl ag) rfl (fun j hj => ?_) ?_⟩, ?_, ?_, q4, q5⟩
      · rw [hI_uI_n (by omega), z3, hI_uI_n (by omega), hI_uI_n (by omega)]
      · rw [hI_uI_n' (by decide), z4, hI_uI_n' (by decide), hI_uI_n' (by decide)]
      · rw [hI_uI_n (by decide), z3, hI_uI_n (by omega), hI_uI_n (by decide)]; exact q2
      · rw [hI_uI_n (by decide), z3, hI_uI_n (by omega), hI_uI_n (by decide)]; exact q3
    obtain ⟨bo, g1, g2, g3⟩ := k2.adv
    rw [g1, bd1_s]
    have yo : f_X12_yearOrder bo 17 (nI (1684 + 6 * e)) = some (1, bo) := rfl
    rw [yo, bd2_s, if_neg (show ¬ (1 : Int32) = 0 by decide), if_pos (show (0 : Int32) = 0 from rfl)]
    have W1 : FW b bo := ((((FW.refl b).u3 _ (by decide)).u4 _ (by omega)).trans (z2.1.u4 _ (by decide))).trans g2.W
    have o21 : hI bo 113 21 = nI (d + 1) := by rw [g2.c (by decide), hI_uI_n (by decide), z3, hI_uI_n (by omega), hI_uI_n (by decide)]; exact c2
    have o22 : hI bo 113 22 = nI s := by rw [g2.c (by decide), hI_uI_n (by decide), z3, hI_uI_n (by omega), hI_uI_s]
    have o121 : hI bo 121 = hI b 121 := by rw [g2.I (by decide), hI_uI_n' (by decide), z2.2.2.2.2, hI_uI_n' (by decide), hI_uI_n' (by decide)]
    have ox : hI bo 114 (1684 + 6 * e) = 17 := by rw [g2.I (by decide), hI_uI_n (by omega), z5, hI_uI_s]
    have o51 : hI bo 114 1651 = nI (e + 1) := by rw [g2.I (by decide), hI_uI_s]
    have oo : ∀ j, j ≠ 1651 → ¬ (1684 + 6 * e ≤ j ∧ j ≤ 1684 + 6 * e + 5) → hI bo 114 j = hI b 114 j := fun j h1 h2 => by
      rw [g2.I (by decide), hI_uI_n (by omega), z2.2.2.1 _ h2, hI_uI_n (by omega), hI_uI_n (by omega)]
    have lo' : Lay (advF ag) := (advF_fr ag).ly lg
    have Co : CW u a (advF ag) := Cg.trans (CW.fr (advF_fr ag))
    have go : ∀ c j, c ≠ 5 → hI (advF ag) c j = hI ag c j := fun c j hc => by rw [(advF_fr ag).I hc]
    generalize advF ag = ao at g3 lo' Co go ⊢
    unfold f_X12_yearStep_222
    rw [if_pos (show (17 : Int32) = 17 from rfl), ltv_e, o21, show nI (d + 1) - 1 = nI d from nI_sub (a := d + 1) (b := 1) (by omega), hI_uI_s, gdi_nI (by omega) (by decide), show nI (1684 + 6 * e) + 4 = nI (1684 + 6 * e + 4) from nI_add _ 4, gdi_nI (by omega) (by decide), ltv_e, nI_clamp (by omega), nI_clamp (by omega), hI_uI_n' (show (121 : Nat) ≠ 113 by decide), o121, cd1, hI_uI_n' (show (113 : Nat) ≠ 114 by decide), hI_uI_s, gdi_nI (by omega) (by decide), nI_clamp (by omega), hI_uI_n' (show (121 : Nat) ≠ 114 by decide), hI_uI_n' (show (121 : Nat) ≠ 113 by decide), o121, cd1, show (6 : Int32) * nI q = nI (6 * q) from nI_mul 6 q, show (1684 : Int32) + nI (6 * q) = nI (1684 + 6 * q) from nI_add 1684 (6 * q), show nI (1684 + 6 * q) + 4 = nI (1684 + 6 * q + 4) from nI_add _ 4, gdi_nI (by omega) (by decide), ltv_e, nI_clamp (by omega)]
    have ks : RD T L n ao (uI (uI (uI bo 113 21 (nI d)) 114 (1684 + 6 * e + 4) (nI q)) 114 (1684 + 6 * q + 4) (nI e)) := by
      obtain ⟨⟨i, k1⟩, q2, q3, q4, q5⟩ := g3
      refine ⟨⟨i, k1.keep (TkFr.refl ao) rfl (fun j hj => ?_) ?_⟩, ?_, ?_, q4, q5⟩
      · rw [hI_uI_n (by omega), hI_uI_n (by omega), hI_uI_n (by omega)]
      · rw [hI_uI_n' (by decide), hI_uI_n' (by decide), hI_uI_n' (by decide)]
      · rw [hI_uI_n (by omega), hI_uI_n (by omega), hI_uI_n (by decide)]; exact q2
      · rw [hI_uI_n (by omega), hI_uI_n (by omega), hI_uI_n (by decide)]; exact q3
    obtain ⟨rr, b', s1, s2, s3, s4⟩ := sign62 ks lo' (t := t) (y := u + 3) (N := N) hl
    have fk := takeK_fr 3 ao 59
    refine ⟨rr, (takeK 3 ao 59).2, b', by rw [s1, bd2_s, gdv_t s2], (((W1.u3 _ (by decide)).u4 _ (by omega)).u4 _ (by omega)).trans s3.W, Co.trans (CW.fr fk), ?_⟩
    rcases s4 with s4 | ⟨p1, p2, p3⟩
    · exact Or.inl s4
    · have Ac : ∀ c j, c ≠ 5 → hI (takeK 3 ao 59).2 c j = hI ag c j := fun c j hc => by rw [fk.I hc, go c j hc]
      refine Or.inr ⟨p1, p2, p3, s, d, st, ?_⟩
      refine S0.fin (A := (takeK 3 ao 59).2) (B := b') hq (fun c j h1 h2 h3 h4 => ?_) ?_ ?_ ?_ ?_ ?_ ?_ (fun j h1 h2 h3 => ?_) ?_ ?_ ?_ ?_ ?_ ?_ ?_
      · rw [Ac _ _ (by omega), gc, if_neg (by omega), if_neg (by omega), if_neg (by omega), if_neg (by omega)]
      · rw [Ac _ _ (by omega), gc, if_neg (by omega), if_neg (by omega), if_neg (by omega), if_pos ⟨rfl, rfl⟩]
      · rw [Ac _ _ (by omega), gc, if_pos ⟨rfl, rfl⟩]
      · rw [Ac _ _ (by omega), gc, if_neg (by omega), if_pos ⟨rfl, rfl⟩]
      · rw [Ac _ _ (by omega), gc, if_neg (by omega), if_neg (by omega), if_pos ⟨rfl, rfl⟩]
      · rw [Ac _ _ (by omega), gc, if_neg (by omega), if_neg (by omega), if_neg (by omega), if_neg (by omega)]; exact b2
      · rw [Ac _ _ (by omega), gc, if_neg (by omega), if_neg (by omega), if_neg (by omega), if_neg (by omega)]; exact a4
      · rw [s3.I (by decide), hI_uI_n (by omega), hI_uI_n (by omega), hI_uI_n (by omega), oo j (by omega) (by omega)]
      · rw [s3.I (by decide), hI_uI_n (by omega), hI_uI_n (by omega), hI_uI_n (by omega)]; exact o51
      · rw [s3.c (by decide), hI_uI_n (by omega), hI_uI_n (by omega), hI_uI_n (by decide)]; exact o22
      · rw [s3.I (by decide), hI_uI_n (by omega), hI_uI_n (by omega), hI_uI_n (by omega)]; exact ox
      · rw [s3.I (by decide), hI_uI_n (by omega), show 1688 + 6 * e = 1684 + 6 * e + 4 by omega, hI_uI_s]
      · rw [s3.I (by decide), show 1688 + 6 * q = 1684 + 6 * q + 4 by omega, hI_uI_s]
      · rw [s3.c (by decide), hI_uI_n (by omega), hI_uI_n (by omega), hI_uI_s]
      · rw [s3.I (by decide), hI_uI_n' (by decide), hI_uI_n' (by decide), hI_uI_n' (by decide)]; exact o121
