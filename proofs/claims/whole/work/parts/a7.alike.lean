/-! ===== year: an order's word is taken by both ===== -/
/-- the class's entry is laid -/
def adY (a : HP) (y e : Nat) (w : Int32) : HP := uI (rI (rI (rI a (y + 1) (upd (hI a (y + 1)) e w)) (y + 5) (upd (hI a (y + 5)) e (nI e))) y (upd (hI a y) 6 (nI (e + 1)))) y 7 (hI a y 7 + 1)
theorem adY_c (a : HP) {y e : Nat} (w : Int32) (c j : Nat) : hI (adY a y e w) c j = if c = y ∧ j = 7 then hI a y 7 + 1 else if c = y ∧ j = 6 then nI (e + 1) else if c = y + 5 ∧ j = e then nI e else if c = y + 1 ∧ j = e then w else hI a c j := by
  have u : ∀ (g : HP) p k v, rI g p (upd (hI g p) k v) = uI g p k v := fun _ _ _ _ => rfl
  unfold adY
  have e1 : rI (rI (rI a (y + 1) (upd (hI a (y + 1)) e w)) (y + 5) (upd (hI a (y + 5)) e (nI e))) y (upd (hI a y) 6 (nI (e + 1))) = uI (uI (uI a (y + 1) e w) (y + 5) e (nI e)) y 6 (nI (e + 1)) := by
    unfold uI
    rw [hI_rI_n _ _ (show y ≠ y + 5 by omega), hI_rI_n _ _ (show y ≠ y + 1 by omega), hI_rI_n _ _ (show y + 5 ≠ y + 1 by omega)]
  rw [e1, hI_uI, hI_uI, hI_uI, hI_uI]
theorem cls_add {T : Nat → Int32} {L n : Nat} {a b : HP} {y w r m e s d : Nat} {st : Nat → Nat} (k : RD T L n a b) (ly : Lay a) (S : YS a b y w r m e s d st) (hy : 13 ≤ y) (hs : s < 30) (wd : Int32) : f_X10_takeStepWord_65 y wd a = some (1, advF (adY a y e wd)) ∧ Lay (adY a y e wd) ∧ RD T L n (adY a y e wd) b := by
  obtain ⟨⟨a1, a2, a3, a4⟩, ⟨b1, b2, b3, b4⟩, _⟩ := S
  have k2 : RD T L n (adY a y e wd) b := by
    refine k.keep ?_ (fun c hc => ?_) rfl rfl rfl
    · funext j; rw [adY_c, if_neg (by omega), if_neg (by omega), if_neg (by omega), if_neg (by omega)]
    · funext j; rw [adY_c, if_neg (by omega), if_neg (by omega), if_neg (by omega), if_neg (by omega)]
  have l2 : Lay (adY a y e wd) := ly.keep rfl rfl
  refine ⟨?_, l2, k2⟩
  unfold f_X10_takeStepWord_65 f_X9_add
  rw [a2, gdi_nI (by omega) (by decide), nI_clamp (by omega), bd1_s, ltv_e, nI_1]
  rw [show hI (rI (rI (rI a (y + 1) (upd (hI a (y + 1)) e wd)) (y + 5) (upd (hI a (y + 5)) e (nI e))) y (upd (hI a y) 6 (nI (e + 1)))) y 7 + 1 = hI a y 7 + 1 by rw [hI_rI_s]; rfl]
  show bd1 (f_X4_advance (adY a y e wd)) _ = _
  unfold f_X4_advance
  rw [gdc_t (k2.rk l2), bd1_s]
theorem z147 (l1 l2 l4 : Int32) {x : Nat} (hx : 1684 ≤ x) (hx2 : x + 5 < 2460) : ∀ d j f b, j + d = 6 → 1 ≤ j → d < f → ∃ b1, f_X12_yearStep_147 f l1 l2 (nI x) l4 (nI j) b = f_X12_yearStep_147 1 l1 l2 (nI x) l4 6 b1 ∧ XE x b b1 ∧ hI b1 113 = hI b 113 ∧ hI b1 120 = hI b 120 ∧ hI b1 114 x = hI b 114 x
  | d, j, 0, b, _, _, hf => absurd hf (by omega)
  | 0, j, f + 1, b, hd, hj, _ => by
    refine ⟨b, ?_, XE.refl x b, rfl, rfl, rfl⟩
    unfold f_X12_yearStep_147
    rw [show j = 6 by omega, if_pos (show (6 : Int32) ≤ nI 6 by decide), if_pos (show (6 : Int32) ≤ 6 by decide)]
  | d + 1, j, f + 1, b, hd, hj, hf => by
    obtain ⟨b1, e1, e2, e3, e4, e5⟩ := z147 l1 l2 l4 hx hx2 d (j + 1) f (uI b 114 (x + j) 0) (by omega) (by omega) (by omega)
    refine ⟨b1, ?_, ((XE.refl x b).u _ (by omega) (by omega)).trans e2, by rw [e3, hI_uI_n' (by decide)], by rw [e4, hI_uI_n' (by decide)], by rw [e5, hI_uI_n (by omega)]⟩
    rw [← e1]
    show (if 6 ≤ nI j then _ else gdi (nI x + nI j) 2460 <| ltv (uI b 114 (Int32.toNatClampNeg (nI x + nI j)) 0) fun g62 => ltv (nI j + 1 : Int32) fun x63 => f_X12_yearStep_147 f l1 l2 (nI x) l4 x63 g62) = _
    rw [if_neg (show ¬ (6 : Int32) ≤ nI j from fun z => by have := (nI_leI (a := 6) (by omega) (by omega)).mp z; omega), nI_add, gdi_nI (by omega) (by decide), ltv_e, ltv_e, nI_clamp (by omega), nI_1]
/-- the reference lays its entry and goes on to the order -/
theorem ref_pre {T : Nat → Int32} {L n : Nat} {a b : HP} (k : RD T L n a b) {e s x : Nat} {ro : Int32} (l4 : Int32) (hrw : ro ≠ 17) (he : hI b 114 1651 = nI e) (hs : hI b 113 22 = nI s) (e60 : e < 60) (s60 : s < 60) (hx : x = 1684 + 6 * e) : ∃ b1, f_X12_yearStep_117 ro (nI e) (nI x) l4 b = (bd2 (f_X12_yearOrder b1 ro (nI x)) fun r55 h54 => if r55 = (0 : Int32) then some (0, h54) else if l4 = (0 : Int32) then f_X12_yearStep_222 ro (nI e) (nI x) h54 else gdi (hI h54 113 21) 3 <| ltv (uI h54 121 (Int32.toNatClampNeg (hI h54 113 21)) (nI e)) fun g59 => ltv (uI g59 113 21 ((hI g59 113 21) + 1)) fun g60 => f_X12_yearStep_222 ro (nI e) (nI x) g60) ∧ RD T L n (advF a) b1 ∧ FW b b1 ∧ hL b1 = hL b ∧ hI b1 114 x = ro ∧ hI b1 114 1651 = nI (e + 1) ∧ hI b1 113 22 = nI (s + 1) ∧ hI b1 113 21 = hI b 113 21 ∧ hI b1 121 = hI b 121 ∧ ∀ j, j ≠ 1651 → ¬ (x ≤ j ∧ j ≤ x + 5) → hI b1 114 j = hI b 114 j := by
  unfold f_X12_yearStep_117
  rw [if_neg hrw, ltv_e, hs, gdi_nI (by omega) (by decide), ltv_e, nI_clamp (by omega), nI_1]
  obtain ⟨b2, z1, z2, z3, z4, z5⟩ := z147 ro (nI e) l4 (x := x) (by omega) (by omega) 5 1 FU (uI (uI b 113 22 (nI (s + 1))) 114 x ro) (by decide) (by decide) (FU_gt (by decide))
  rw [show f_X12_yearStep_147 FU ro (nI e) (nI x) l4 1 (uI (uI b 113 22 (nI (s + 1))) 114 x ro) = _ from z1]
  unfold f_X12_yearStep_147
  rw [if_pos (show (6 : Int32) ≤ 6 by decide), ltv_e]
  have e51 : hI b2 114 1651 = nI e := by rw [z2.2.2.1 _ (by omega), hI_uI_n (by omega), hI_uI_n (by decide)]; exact he
  rw [e51, nI_1]
  obtain ⟨⟨i, k1⟩, q2, q3, q4, q5⟩ := k
  have k2 : RD T L n a (uI b2 114 1651 (nI (e + 1))) := by
    refine ⟨⟨i, k1.keep (TkFr.refl a) rfl (fun j hj => ?_) ?_⟩, ?_, ?_, q4, q5⟩
    · rw [hI_uI_n (by omega), z3, hI_uI_n (by omega), hI_uI_n (by omega)]
    · rw [hI_uI_n' (by decide), z4, hI_uI_n' (by decide), hI_uI_n' (by decide)]
    · rw [hI_uI_n (by decide), z3, hI_uI_n (by omega), hI_uI_n (by decide)]; exact q2
    · rw [hI_uI_n (by decide), z3, hI_uI_n (by omega), hI_uI_n (by decide)]; exact q3
  obtain ⟨b1, g1, g2, g3⟩ := k2.adv
  rw [g1, bd1_s]
  refine ⟨b1, rfl, g3, ((((FW.refl b).u3 _ (by decide)).u4 _ (by omega)).trans (z2.1.u4 _ (by decide))).trans g2.W, by rw [g2.L, hL_uI, z2.2.1, hL_uI, hL_uI], ?_, ?_, ?_, ?_, ?_, fun j h1 h2 => ?_⟩
  · rw [g2.I (by decide), hI_uI_n (by omega), z5, hI_uI_s]
  · rw [g2.I (by decide), hI_uI_s]
  · rw [g2.c (by decide), hI_uI_n (by decide), z3, hI_uI_n (by omega), hI_uI_s]
  · rw [g2.c (by decide), hI_uI_n (by decide), z3, hI_uI_n (by omega), hI_uI_n (by decide)]
  · rw [g2.I (by decide), hI_uI_n' (by decide), z2.2.2.2.2, hI_uI_n' (by decide), hI_uI_n' (by decide)]
  · rw [g2.I (by decide), hI_uI_n (by omega), z2.2.2.1 _ h2, hI_uI_n (by omega), hI_uI_n (by omega)]
