/-! ===== the class: texts read, marks, means ===== -/
theorem cut_ex {T : Nat → Int32} {L : Nat} : ∀ d k, L ≤ k + d → (∀ j, j < k → plcT T L j < L) → ∃ n, n ≤ L ∧ (∀ j, j < n → plcT T L j < L) ∧ plcT T L n = L
  | d, k, h1, h2 => by
    have h3 := plcT_ge k h2
    by_cases h4 : plcT T L k = L
    · exact ⟨k, by omega, h2, h4⟩
    · cases d with
      | zero => exact absurd h1 (by omega)
      | succ d =>
        refine cut_ex d (k + 1) (by omega) (fun j hj => ?_)
        by_cases hjk : j = k
        · rw [hjk]; omega
        · exact h2 j (by omega)
theorem cutAll_iff {h h' : HP} {L : Nat} (hL : L ≤ 900) : cutAll h h' L ↔ h' = cutF h L := by
  constructor
  · rintro ⟨n, h1, h2, h3, h4⟩
    unfold cutF; rw [cutN_is ⟨h1, h2, h3⟩]; exact h4
  · intro e
    obtain ⟨n, h1, h2, h3⟩ := cut_ex (T := hI h 6) (L := L) L 0 (by omega) (fun j hj => absurd hj (by omega))
    refine ⟨n, by omega, h2, h3, ?_⟩
    rw [e]; unfold cutF; rw [cutN_is ⟨by omega, h2, h3⟩]
theorem noteH_sr (h : HP) (n : Nat) (a b c d : Int32) : SR h (noteH h n a b c d) := ⟨rfl, rfl⟩
theorem cutF_sr (h : HP) (L : Nat) : SR h (cutF h L) := by
  unfold cutF
  exact ((show SR h (beginH h L) from ⟨rfl, rfl⟩).trans (toksH_sr _ _ _)).trans (noteH_sr _ _ _ _ _ _)
theorem emptyT_sr (h : HP) (t : Nat) (w ring : Int32) : SR h (emptyT h t w ring) := by unfold emptyT; exact ⟨rfl, rfl⟩
theorem addHH_sr (h : HP) (t : Nat) (b v : Int32) : SR h (addHH h t b v) := by
  unfold addHH
  have a1 : SR h (addH1 h t b v) := by unfold addH1; split; exact SR.refl h; exact ⟨rfl, rfl⟩
  have a2 : ∀ g, SR g (addH2 g t b v) := fun g => by unfold addH2; split; exact ⟨rfl, rfl⟩; exact SR.refl g
  have a3 : ∀ g, SR g (addH3 g t b v) := fun g => by unfold addH3; split; exact ⟨rfl, rfl⟩; exact SR.refl g
  have a4 : ∀ g, SR g (addH4 g t b v) := fun g => by unfold addH4; split; exact ⟨rfl, rfl⟩; exact SR.refl g
  exact ((a1.trans (a2 _)).trans (a3 _)).trans (a4 _)
theorem takeWideF_sr (h : HP) (t : Nat) : SR h (takeWideF h t).2 := by
  unfold takeWideF; split
  · exact (takeK_fr _ _ _).sr
  · split
    · exact (takeK_fr _ _ _).sr.tk (takeN_fr _ _ _)
    · refine SR.trans (SR.trans ?_ (emptyT_sr _ _ _ _)) (takeK_fr _ _ _).sr
      split
      · exact ((takeK_fr _ _ _).sr.tk (takeN_fr _ _ _)).tk (advF_fr _)
      · exact (takeK_fr _ _ _).sr.tk (takeN_fr _ _ _)
theorem ruleF_sr (h : HP) (t : Nat) : SR h (ruleF h t).2 := by
  unfold ruleF
  by_cases c0 : hI h t 10 < 4
  · rw [if_pos c0]
    generalize e1 : newNameF (advF h) t = n
    have a : SR h n.2 := by rw [← e1]; exact (advF_fr h).sr.tk (newNameF_fr _ _)
    clear e1
    dsimp only
    by_cases c1 : n.1 = 0
    · rw [if_pos c1]; exact a
    · rw [if_neg c1]
      generalize e2 : setF (advF (uL n.2 (t + 9) (tM h t) (hL n.2 12 (tA n.2)))) 4 = b
      have a2 : SR h b.2 := by rw [← e2]; exact ((a.L _ _ _).tk (advF_fr _)).tk (setF_fr _ 4)
      clear e2 a
      by_cases c2 : b.1 < 0
      · rw [if_pos c2]; exact a2
      · rw [if_neg c2]
        generalize e3 : setF b.2 5 = c
        have a3 : SR h c.2 := by rw [← e3]; exact a2.tk (setF_fr _ 5)
        clear e3
        by_cases c3 : c.1 < 0
        · rw [if_pos c3]; exact a3
        · rw [if_neg c3]
          generalize e4 : takeK 3 c.2 59 = d
          have a4 : SR h d.2 := by rw [← e4]; exact a3.tk (takeK_fr 3 _ 59)
          clear e4
          by_cases c4 : d.1 = 0
          · rw [if_pos c4]; exact a4
          · rw [if_neg c4]; exact ((a4.I _ _ _).I _ _ _).I _ _ _
  · rw [if_neg c0]; exact (failF_fr h 6).sr
theorem citF_sr (h : HP) (t : Nat) : SR h (citF h t).2 := by
  unfold citF
  by_cases c0 : hI h t 11 < 6
  · rw [if_pos c0]
    generalize e1 : newNameF (advF h) t = n
    have a : SR h n.2 := by rw [← e1]; exact (advF_fr h).sr.tk (newNameF_fr _ _)
    clear e1
    dsimp only
    by_cases c1 : n.1 = 0
    · rw [if_pos c1]; exact a
    · rw [if_neg c1]
      generalize e2 : takeK 4 (advF (uL n.2 (t + 12) (tC h t) (hL n.2 12 (tA n.2)))) 7 = b
      have a2 : SR h b.2 := by rw [← e2]; exact ((a.L _ _ _).tk (advF_fr _)).tk (takeK_fr 4 _ 7)
      clear e2 a
      by_cases c2 : b.1 = 0
      · rw [if_pos c2]; exact a2
      · rw [if_neg c2]
        generalize e3 : takeN b.2 0 30 = c
        have a3 : SR h c.2 := by rw [← e3]; exact a2.tk (takeN_fr _ _ _)
        clear e3
        by_cases c3 : c.1 = 0
        · rw [if_pos c3]; exact a3
        · rw [if_neg c3]
          generalize e4 : takeK 4 c.2 8 = d
          have a4 : SR h d.2 := by rw [← e4]; exact a3.tk (takeK_fr 4 _ 8)
          clear e4
          by_cases c4 : d.1 = 0
          · rw [if_pos c4]; exact a4
          · rw [if_neg c4]
            generalize e5 : takeN d.2 (hI c.2 5 11) 30 = e
            have a5 : SR h e.2 := by rw [← e5]; exact a4.tk (takeN_fr _ _ _)
            clear e5
            by_cases c5 : e.1 = 0
            · rw [if_pos c5]; exact a5
            · rw [if_neg c5]; exact (((a5.I _ _ _).I _ _ _).I _ _ _).tk (takeK_fr _ _ _)
  · rw [if_neg c0]; exact (failF_fr h 6).sr
theorem partF_sr (h : HP) (t : Nat) : SR h (partF h t).2 := by
  unfold partF; split
  · exact ruleF_sr h t
  · split
    · exact citF_sr h t
    · exact (failF_fr h 2).sr
theorem partsG_sr (t : Nat) : ∀ f h, SR h (partsG f h t).2
  | 0, h => SR.refl h
  | f + 1, h => by
    unfold partsG; split
    · exact SR.refl h
    · split
      · exact partF_sr h t
      · exact (partF_sr h t).trans (partsG_sr t f _)
theorem letG_sr (t : Nat) (a : Int32) : ∀ f k h, SR h (letG f k h t a).2
  | 0, _, h => SR.refl h
  | f + 1, k, h => by
    unfold letG; split
    · exact (addHH_sr _ _ _ _).trans (letG_sr t a f (k + 1) _)
    · exact (failF_fr h 2).sr
theorem lettersF_sr (h : HP) (t : Nat) : SR h (lettersF h t).2 := by
  unfold lettersF; split
  · dsimp only
    have a := letG_sr t (hI h (t + 1) 1 * hI h (t + 1) 0) (wA h t) 0 h
    split
    · exact a
    · exact (a.trans (show SR _ (rI _ (t + 1) (addRowF (hI _ (t + 1)))) from ⟨rfl, rfl⟩)).tk (advF_fr _)
  · exact (failF_fr h 2).sr
theorem endRows_sr (h : HP) (t : Nat) : SR h (endRows h t).2 := by
  unfold endRows; split
  · exact SR.refl h
  · exact (failF_fr h 2).sr
theorem rowsG_sr (t : Nat) : ∀ f k h, SR h (rowsG f k h t).2
  | 0, _, h => endRows_sr h t
  | f + 1, k, h => by
    unfold rowsG; split
    · split
      · exact (failF_fr h 6).sr
      · have a : SR h (lettersF (advF h) t).2 := (advF_fr h).sr.trans (lettersF_sr _ _)
        split
        · exact a
        · split
          · exact a.tk (takeK_fr _ _ _)
          · exact (a.tk (takeK_fr _ _ _)).trans (rowsG_sr t f (k + 1) _)
    · exact endRows_sr h t
theorem readTownF_sr (h : HP) (t : Nat) : SR h (readTownF h t).2 := by
  unfold readTownF; split
  · exact takeWideF_sr h t
  · have a := (takeWideF_sr h t).trans (rowsG_sr t 7 0 _)
    split
    · exact a
    · have b := a.trans (partsG_sr t 11 _)
      split
      · exact b
      · exact b
abbrev ZW (h0 : HP) (mi : Mi) (r : Int32) (h2 : HP) : Zt := ZM h0 mi.2.2.2.1 (pI fun r' h' => (r' = r ∧ h' = h2) ∧ Lay h2)
theorem ret_IW {x r : Int32} {h h2 : HP} (e : (some (x, h) : Option (Int32 × HP)) = some (r, h2)) (s : Lay h) : (x = r ∧ h = h2) ∧ Lay h2 := by cases e; exact ⟨⟨rfl, rfl⟩, s⟩
theorem hR_uR_s (h : HP) (a j x : Nat) : hR (uR h a j x) a j = x := by simp [hR_rR, updN]
theorem hR_uR_n (h : HP) (a x : Nat) {j k : Nat} (hk : k ≠ j) : hR (uR h a j x) a k = hR h a k := by simp [hR_rR, updN, hk]
theorem Lay.sw {h : HP} (l : Lay h) (x : Nat) {j : Nat} (hj : (LAYL.all fun q => !(q.1 == 0 && q.2.1 == j)) = true) : Lay (uR h 0 j x) := by
  refine ⟨l.1, fun q hq => ?_⟩
  have h1 := List.all_eq_true.mp hj q hq
  by_cases h0 : q.1 = 0
  · have hj : q.2.1 ≠ j := fun e => by simp [h0, e] at h1
    rw [h0, hR_uR_n h 0 x hj, ← h0]; exact l.2 q hq
  · have : hR (uR h 0 j x) q.1 = hR h q.1 := by rw [hR_rR, if_neg h0]
    rw [this]; exact l.2 q hq
/-- where the marks lie -/
def mkA (i : Int32) : Nat := 14 + 17 * i.toNatClampNeg
theorem isT_mk {i : Int32} (h : vp_in i 3) : isT (mkA i) := by
  obtain ⟨k, hk, hk31, rfl⟩ := vp_nat h
  unfold mkA; rw [nI_clamp hk31]
  rcases (show k = 0 ∨ k = 1 ∨ k = 2 by omega) with rfl | rfl | rfl <;> simp [isT]
def MarksAt (h : HP) : Prop := ∀ k, k < 3 → hR h 13 k = 14 + 17 * k
theorem SR.mk {h g : HP} (s : SR h g) (m : MarksAt h) {i : Int32} (hi : vp_in i 3) : hR g 13 i.toNatClampNeg = mkA i := by
  obtain ⟨k, hk, hk31, rfl⟩ := vp_nat hi
  rw [s.2]; unfold mkA; rw [nI_clamp hk31]; exact m k hk
noncomputable def f_X4_begin (h : HP) (m : Int32) : Option HP := gdi (hI h 5 7) 901 <| gdi m 901 <| some (cutF h (min m.toNatClampNeg (hI h 5 7).toNatClampNeg))
noncomputable def f_X6_takeTown (h : HP) (t : Nat) : Option (Int32 × HP) := gdc (RK h) <| some ((readTownF h t).1, (readTownF h t).2)
theorem th_X4_begin {h : HP} (ly : Lay h) {m : Int32} {hh : HP} (hf : f_X4_begin h m = some hh) : Spec yX4_begin cX4_begin miX4_begin [.ref 5, .int m] h (pV fun h' => h' = hh ∧ SR h hh) := by
  unfold f_X4_begin at hf
  obtain ⟨g0, hf2⟩ := gdi_el hf
  replace hf := hf2
  clear hf2
  obtain ⟨g1, hf2⟩ := gdi_el hf
  replace hf := hf2
  clear hf2
  obtain ⟨f, hf9, -, ef⟩ := vp_nat g0
  obtain ⟨m0, hm9, -, rfl⟩ := vp_nat g1
  rw [ef, nI_clamp (by omega), nI_clamp (by omega)] at hf
  cases hf
  exact Spec.dV (sp_X4_begin ly (by omega) ef (by omega)) (fun _ => cutAll_iff (by omega)) (cutF_sr _ _)
theorem th_X6_takeTown {h : HP} (ly : Lay h) {t : Nat} (hT : isT t) {rr : Int32} {hh : HP} (hf : f_X6_takeTown h t = some (rr, hh)) : Spec yX6_takeTown cX6_takeTown miX6_takeTown [.ref 5, .ref t] h (pI fun r' h' => (r' = rr ∧ h' = hh) ∧ SR h hh) := by
  unfold f_X6_takeTown at hf
  obtain ⟨g0, hf2⟩ := gdc_el hf
  replace hf := hf2
  clear hf2
  cases hf
  exact Spec.dI (sp_X6_takeTown g0 hT) (fun _ _ => Iff.rfl) (readTownF_sr _ _)
noncomputable def f_X11_town (h : HP) (t : Nat) (u : Nat) (a1 : Int32) : Option (Int32 × HP) :=
  if a1 < (0 : Int32) then
  (bd2 (f_X11_refuse h 1) fun r4 h3 =>
  some (r4, h3))
  else
  if a1 ≤ (hI h 5 7) then
  (bd1 (f_X4_begin h a1) fun h7 =>
  bd2 (f_X6_takeTown h7 u) fun r10 h9 =>
  if r10 = (0 : Int32) then
  (bd2 (f_X11_refuse h9 9) fun r22 h21 =>
  some (r22, h21))
  else
  ltv (uR h9 0 8 u) fun g12 =>
  ltv (uR g12 0 9 t) fun g13 =>
  bd2 (f_J6_bitCount_0f7a4 g13 (hI g13 (u + 1) 4)) fun r16 h15 =>
  bd2 (f_X11_answer h15 r16) fun r19 h18 =>
  some (r19, h18))
  else
  bd2 (f_X11_refuse h 1) fun r25 h24 =>
  some (r25, h24)
noncomputable def f_X11_year (h : HP) (t : Nat) (u : Nat) (a1 : Int32) : Option (Int32 × HP) :=
  if a1 < (0 : Int32) then
  (bd2 (f_X11_refuse h 1) fun r4 h3 =>
  some (r4, h3))
  else
  if (hI h 5 7) < a1 then
  (bd2 (f_X11_refuse h 1) fun r8 h7 =>
  some (r8, h7))
  else
  if a1 ≤ 300 then
  (bd1 (f_X4_begin h a1) fun h11 =>
  bd1 (f_X9_makeEmpty h11 (u + 3)) fun h13 =>
  bd2 (f_X10_takeYear h13 t (u + 3)) fun r16 h15 =>
  if r16 = (0 : Int32) then
  (bd2 (f_X11_refuse h15 9) fun r25 h24 =>
  some (r25, h24))
  else
  bd1 (f_X9_copyFrom h15 (t + 3) (u + 3)) fun h19 =>
  bd2 (f_X11_answer h19 (hI h19 (t + 3) 7)) fun r22 h21 =>
  some (r22, h21))
  else
  bd2 (f_X11_refuse h 1) fun r28 h27 =>
  some (r28, h27)
noncomputable def f_X11_mean_33 (t : Nat) (u : Nat)   (h : HP) : Option (Int32 × HP) :=
  bd2 (f_X11_deny h 1) fun r29 h28 =>
  gdv (is01 r29) <|
  some (r29, h28)
noncomputable def f_X11_mean_64 (t : Nat) (u : Nat)  : Nat → Int32 → Int32 → Int32 → Int32 → HP → Option (Int32 × HP)
  | 0, _, _, _, _, _ => none
  | n + 1, l1, l2, l3, l4, h =>
    if l2 ≤ l4 then
    (bd1 (f_X11_tellFraction h l3 l2) fun h13 =>
    bd2 (f_X11_allow h13) fun r16 h15 =>
    gdv (is01 r16) <|
    some (r16, h15))
    else
    bd1 (f_X5_copyFrom h u t) fun h19 =>
    bd1 (f_X2_liveBy h19 77 u (l1 + l4)) fun h21 =>
    bd2 (f_J6_bitCount_0f7a4 h21 (hI h21 u 13)) fun r24 h23 =>
    ltv ((l3 + r24) : Int32) fun x25 =>
    ltv (l4 + 1 : Int32) fun x26 =>
    f_X11_mean_64 t u n l1 l2 x25 x26 h23
noncomputable def f_X11_mean (h : HP) (t : Nat) (u : Nat) (a1 : Int32) (a2 : Int32) : Option (Int32 × HP) :=
  if a1 < (0 : Int32) then
  (f_X11_mean_33 t u h)
  else
  if 9999 < a1 then
  (f_X11_mean_33 t u h)
  else
  if a2 < 1 then
  (f_X11_mean_33 t u h)
  else
  if 20 < a2 then
  (f_X11_mean_33 t u h)
  else
  if ((a1 + a2) - 1) ≤ 9999 then
  (if (hI h (t + 3) 5) = (0 : Int32) then
  (bd2 (f_X11_deny h 6) fun r9 h8 =>
  gdv (is01 r9) <|
  some (r9, h8))
  else
  f_X11_mean_64 t u FU a1 a2 0 0 h)
  else
  f_X11_mean_33 t u h
noncomputable def f_X11_mark (h : HP) (t : Nat)  : Option (Int32 × HP) :=
  if (hI h 0 10) < (0 : Int32) then
  (bd2 (f_X11_refuse h 4) fun r4 h3 =>
  some (r4, h3))
  else
  if (hI h 0 10) < 3 then
  (ltv ((hI h 0 10) : Int32) fun x6 =>
  gdi x6 3 <|
  bd1 (f_X5_copyFrom h (mkA x6) t) fun h9 =>
  ltv (uI h9 0 10 ((hI h9 0 10) + 1)) fun g10 =>
  bd2 (f_X11_answer g10 (hI g10 0 10)) fun r13 h12 =>
  some (r13, h12))
  else
  bd2 (f_X11_refuse h 4) fun r16 h15 =>
  some (r16, h15)
noncomputable def f_X11_back (h : HP) (t : Nat)  : Option (Int32 × HP) :=
  if (hI h 0 10) < 1 then
  (bd2 (f_X11_refuse h 6) fun r4 h3 =>
  some (r4, h3))
  else
  if (hI h 0 10) ≤ 3 then
  (ltv (uI h 0 10 ((hI h 0 10) - 1)) fun g6 =>
  ltv ((hI g6 0 10) : Int32) fun x7 =>
  gdi x7 3 <|
  bd1 (f_X5_copyFrom g6 t (mkA x7)) fun h10 =>
  bd2 (f_X11_answer h10 (hI h10 0 10)) fun r13 h12 =>
  some (r13, h12))
  else
  bd2 (f_X11_refuse h 6) fun r16 h15 =>
  some (r16, h15)
set_option maxRecDepth 100000 in
theorem th_X11_town {h : HP} (ly : Lay h) {t : Nat} (hT : isT t) {u : Nat} (hU : isT u) (pr : hR h 0 8 = t) (sp : hR h 0 9 = u) {a1 : Int32} {rr : Int32} {hh : HP} (hf : f_X11_town h t u a1 = some (rr, hh)) : Spec yX11_town cX11_town miX11_town [.ref 0, .int a1] h (pI fun r' h' => (r' = rr ∧ h' = hh) ∧ Lay hh) := by
  refine Spec.of (ls0 := [.ref 0, .int a1, .null, .null]) mo_X11_town (Nat.le_of_ble_eq_true rfl) rfl ?_
  rw [ly.1]
  have srh : SR h h := SR.refl h
  unfold f_X11_town at hf
  refine V.iload_n dX11_town_0 rfl rfl ?_
  refine V.if_lt (tgt := 15) dX11_town_1 (by decide) (fun c1 => ?_) (fun c1 => ?_)
  · replace hf := ite_p hf c1
    refine V.aload_n dX11_town_15 rfl rfl rfl ?_
    refine V.iconst (v := 1) dX11_town_16 rfl ?_
    obtain ⟨r4, h3, q2, hf2⟩ := bd2_el hf
    replace hf := hf2
    clear hf2
    refine V.callVI dX11_town_17 ml_X11_105 mo_X11_refuse mv_X11_refuse rfl (fun q hq => by cases hq; rfl) (by decide) (Or.inl ⟨rfl, SHL_lt rfl⟩) (th_X11_refuse (srh.ly ly) q2) rfl rfl ⟨Nat.le_of_ble_eq_true rfl, Nat.le_of_ble_eq_true rfl, fun _ => ⟨rfl, rfl⟩⟩ (Nat.le_of_ble_eq_true rfl) rfl (post_I (fun sq => ?_))
    have srh3 : SR h h3 := srh.trans sq
    clear sq q2
    refine V.ireturn dX11_town_20 rfl rfl ⟨rfl, rfl⟩ ly.1 ?_
    exact ret_IW hf (srh3.ly ly)
  · replace hf := ite_n hf c1
    refine V.iload_n dX11_town_4 rfl rfl ?_
    refine V.aload_n dX11_town_5 rfl rfl rfl ?_
    refine V.getR (r := 5) dX11_town_6 fl_X11_19 rfl (Or.inl ⟨rfl, SHL_lt rfl⟩) rfl (ly_0_1 (srh.ly ly)) ?_
    refine V.getI dX11_town_9 fl_X11_135 rfl (Or.inl ⟨rfl, SHL_lt rfl⟩) rfl rfl ?_
    refine V.icmp_le (tgt := 21) dX11_town_12 (by decide) (fun c5 => ?_) (fun c5 => ?_)
    · replace hf := ite_p hf c5
      refine V.aload_n dX11_town_21 rfl rfl rfl ?_
      refine V.getR (r := 5) dX11_town_22 fl_X11_19 rfl (Or.inl ⟨rfl, SHL_lt rfl⟩) rfl (ly_0_1 (srh.ly ly)) ?_
      refine V.iload_n dX11_town_25 rfl rfl ?_
      obtain ⟨h7, q6, hf2⟩ := bd_el hf
      replace hf := hf2
      clear hf2
      refine V.callVV dX11_town_26 ml_X11_138 mo_X4_begin mv_X4_begin rfl (fun q hq => by cases hq; rfl) (by decide) (Or.inl ⟨rfl, SHL_lt rfl⟩) (th_X4_begin (srh.ly ly) q6) rfl rfl ⟨Nat.le_of_ble_eq_true rfl, Nat.le_of_ble_eq_true rfl, fun _ => ⟨rfl, rfl⟩⟩ (Nat.le_of_ble_eq_true rfl) (Or.inl rfl) (post_V (fun sq => ?_))
      have srh7 : SR h h7 := srh.trans sq
      clear sq q6
      refine V.aload_n dX11_town_29 rfl rfl rfl ?_
      refine V.getR (r := 5) dX11_town_30 fl_X11_19 rfl (Or.inl ⟨rfl, SHL_lt rfl⟩) rfl (ly_0_1 (srh7.ly ly)) ?_
      refine V.aload_n dX11_town_33 rfl rfl rfl ?_
      refine V.getR (r := u) dX11_town_34 fl_X11_65 rfl (Or.inl ⟨rfl, SHL_lt rfl⟩) rfl (srh7.pr sp) ?_
      obtain ⟨r10, h9, q8, hf2⟩ := bd2_el hf
      replace hf := hf2
      clear hf2
      refine V.callSI dX11_town_37 ml_X11_141 mo_X6_takeTown ms_X6_takeTown (th_X6_takeTown (srh7.ly ly) hU q8) rfl rfl ⟨Nat.le_of_ble_eq_true rfl, Nat.le_of_ble_eq_true rfl, fun _ => ⟨rfl, rfl⟩⟩ (Nat.le_of_ble_eq_true rfl) rfl (post_I (fun sq => ?_))
      have srh9 : SR h h9 := srh7.trans sq
      clear sq q8
      refine V.istore_n (ls' := [.ref 0, .int a1, .int r10, .null]) dX11_town_40 rfl (by decide) rfl ?_
      refine V.iload_n dX11_town_41 rfl rfl ?_
      refine V.if_ne (tgt := 52) dX11_town_42 (by decide) (fun c11 => ?_) (fun c11 => ?_)
      · replace hf := ite_n hf c11
        refine V.aload_n dX11_town_52 rfl rfl rfl ?_
        refine V.getR (r := t) dX11_town_53 fl_X11_61 rfl (Or.inl ⟨rfl, SHL_lt rfl⟩) rfl (srh9.pr pr) ?_
        refine V.astore_n (ls' := [.ref 0, .int a1, .int r10, .ref t]) dX11_town_56 rfl (by decide) (sT0 hT) rfl ?_
        refine V.aload_n dX11_town_57 rfl rfl rfl ?_
        refine V.aload_n dX11_town_58 rfl rfl rfl ?_
        refine V.getR (r := u) dX11_town_59 fl_X11_65 rfl (Or.inl ⟨rfl, SHL_lt rfl⟩) rfl (srh9.pr sp) ?_
        refine V.putRk dX11_town_62 fl_X11_61 rfl (Or.inl ⟨rfl, SHL_lt rfl⟩) (sT0 hU) rfl (fun q hq => by cases hq; exact Or.inl rfl) (fun q hq h9 => by cases hq; exact absurd h9 (by decide)) ?_
        refine V.nameH (fun g12 eg12 => ?_)
        replace hf := lt_el hf g12 eg12
        have lyg12 : Lay g12 := by rw [eg12]; exact (srh9.ly ly).sw u (by decide)
        have prg12 : hR g12 0 8 = u := by rw [eg12]; exact hR_uR_s _ _ _ _
        have spg12 : hR g12 0 9 = u := by rw [eg12]; exact (hR_uR_n _ _ _ (by decide)).trans (srh9.pr sp)
        have h1g12 : g12.1 = h.1 := lyg12.1.trans ly.1.symm
        have srg12 : SR g12 g12 := SR.refl g12
        refine V.aload_n dX11_town_65 rfl rfl rfl ?_
        refine V.aload_n dX11_town_66 rfl rfl (sT0 hT) ?_
        refine V.putRk dX11_town_67 fl_X11_65 rfl (Or.inl ⟨rfl, SHL_lt rfl⟩) (sT0 hT) rfl (fun q hq => by cases hq; exact Or.inl rfl) (fun q hq h9 => by cases hq; exact absurd h9 (by decide)) ?_
        refine V.nameH (fun g13 eg13 => ?_)
        replace hf := lt_el hf g13 eg13
        have lyg13 : Lay g13 := by rw [eg13]; exact (srg12.ly lyg12).sw t (by decide)
        have prg13 : hR g13 0 8 = u := by rw [eg13]; exact (hR_uR_n _ _ _ (by decide)).trans (srg12.pr prg12)
        have spg13 : hR g13 0 9 = t := by rw [eg13]; exact hR_uR_s _ _ _ _
        have h1g13 : g13.1 = h.1 := lyg13.1.trans ly.1.symm
        have srg13 : SR g13 g13 := SR.refl g13
        refine V.aload_n dX11_town_70 rfl rfl rfl ?_
        refine V.aload_n dX11_town_71 rfl rfl rfl ?_
        refine V.getR (r := u) dX11_town_72 fl_X11_61 rfl (Or.inl ⟨rfl, SHL_lt rfl⟩) rfl (srg13.pr prg13) ?_
        refine V.getR (r := u + 1) dX11_town_75 fl_X11_147 (sT0 hU) (Or.inl ⟨rfl, SHL_lt (sT0 hU)⟩) rfl (rT_hill (srg13.ly lyg13) hU) ?_
        refine V.getI dX11_town_78 fl_X11_151 (sH0 hU.H) (Or.inl ⟨rfl, SHL_lt (sH0 hU.H)⟩) rfl rfl ?_
        obtain ⟨r16, h15, q14, hf2⟩ := bd2_el hf
        replace hf := hf2
        clear hf2
        refine V.callSI dX11_town_81 ml_X11_156 mo_J6_bitCount_0f7a4 ms_J6_bitCount_0f7a4 (th_J6_bitCount_0f7a4 (srg13.ly lyg13) q14) rfl rfl ⟨Nat.le_of_ble_eq_true rfl, Nat.le_of_ble_eq_true rfl, fun _ => ⟨rfl, rfl⟩⟩ (Nat.le_of_ble_eq_true rfl) rfl (post_I (fun sq => ?_))
        have srh15 : SR g13 h15 := srg13.trans sq
        clear sq q14
        obtain ⟨r19, h18, q17, hf2⟩ := bd2_el hf
        replace hf := hf2
        clear hf2
        refine V.callVI dX11_town_84 ml_X11_161 mo_X11_answer mv_X11_answer rfl (fun q hq => by cases hq; rfl) (by decide) (Or.inl ⟨rfl, SHL_lt rfl⟩) (th_X11_answer (srh15.ly lyg13) q17) rfl rfl ⟨Nat.le_of_ble_eq_true rfl, Nat.le_of_ble_eq_true rfl, fun _ => ⟨rfl, rfl⟩⟩ (Nat.le_of_ble_eq_true rfl) rfl (post_I (fun sq => ?_))
        have srh18 : SR g13 h18 := srh15.trans sq
        clear sq q17
        refine V.ireturn dX11_town_87 rfl rfl ⟨rfl, rfl⟩ ly.1 ?_
        exact ret_IW hf (srh18.ly lyg13)
      · replace hf := ite_p hf c11
        refine V.aload_n dX11_town_45 rfl rfl rfl ?_
        refine V.bipush (v := 9) dX11_town_46 rfl ?_
        obtain ⟨r22, h21, q20, hf2⟩ := bd2_el hf
        replace hf := hf2
        clear hf2
        refine V.callVI dX11_town_48 ml_X11_105 mo_X11_refuse mv_X11_refuse rfl (fun q hq => by cases hq; rfl) (by decide) (Or.inl ⟨rfl, SHL_lt rfl⟩) (th_X11_refuse (srh9.ly ly) q20) rfl rfl ⟨Nat.le_of_ble_eq_true rfl, Nat.le_of_ble_eq_true rfl, fun _ => ⟨rfl, rfl⟩⟩ (Nat.le_of_ble_eq_true rfl) rfl (post_I (fun sq => ?_))
        have srh21 : SR h h21 := srh9.trans sq
        clear sq q20
        refine V.ireturn dX11_town_51 rfl rfl ⟨rfl, rfl⟩ ly.1 ?_
        exact ret_IW hf (srh21.ly ly)
    · replace hf := ite_n hf c5
      refine V.aload_n dX11_town_15 rfl rfl rfl ?_
      refine V.iconst (v := 1) dX11_town_16 rfl ?_
      obtain ⟨r25, h24, q23, hf2⟩ := bd2_el hf
      replace hf := hf2
      clear hf2
      refine V.callVI dX11_town_17 ml_X11_105 mo_X11_refuse mv_X11_refuse rfl (fun q hq => by cases hq; rfl) (by decide) (Or.inl ⟨rfl, SHL_lt rfl⟩) (th_X11_refuse (srh.ly ly) q23) rfl rfl ⟨Nat.le_of_ble_eq_true rfl, Nat.le_of_ble_eq_true rfl, fun _ => ⟨rfl, rfl⟩⟩ (Nat.le_of_ble_eq_true rfl) rfl (post_I (fun sq => ?_))
      have srh24 : SR h h24 := srh.trans sq
      clear sq q23
      refine V.ireturn dX11_town_20 rfl rfl ⟨rfl, rfl⟩ ly.1 ?_
      exact ret_IW hf (srh24.ly ly)
set_option maxRecDepth 100000 in
theorem th_X11_year {h : HP} (ly : Lay h) {t : Nat} (hT : isT t) {u : Nat} (hU : isT u) (pr : hR h 0 8 = t) (sp : hR h 0 9 = u) {a1 : Int32} {rr : Int32} {hh : HP} (hf : f_X11_year h t u a1 = some (rr, hh)) : Spec yX11_year cX11_year miX11_year [.ref 0, .int a1] h (pI fun r' h' => (r' = rr ∧ h' = hh) ∧ SR h hh) := by
  refine Spec.of (ls0 := [.ref 0, .int a1, .null]) mo_X11_year (Nat.le_of_ble_eq_true rfl) rfl ?_
  rw [ly.1]
  have srh : SR h h := SR.refl h
  unfold f_X11_year at hf
  refine V.iload_n dX11_year_0 rfl rfl ?_
  refine V.if_lt (tgt := 22) dX11_year_1 (by decide) (fun c1 => ?_) (fun c1 => ?_)
  · replace hf := ite_p hf c1
    refine V.aload_n dX11_year_22 rfl rfl rfl ?_
    refine V.iconst (v := 1) dX11_year_23 rfl ?_
    obtain ⟨r4, h3, q2, hf2⟩ := bd2_el hf
    replace hf := hf2
    clear hf2
    refine V.callVI dX11_year_24 ml_X11_105 mo_X11_refuse mv_X11_refuse rfl (fun q hq => by cases hq; rfl) (by decide) (Or.inl ⟨rfl, SHL_lt rfl⟩) (th_X11_refuse (srh.ly ly) q2) rfl rfl ⟨Nat.le_of_ble_eq_true rfl, Nat.le_of_ble_eq_true rfl, fun _ => ⟨rfl, rfl⟩⟩ (Nat.le_of_ble_eq_true rfl) rfl (post_I (fun sq => ?_))
    have srh3 : SR h h3 := srh.trans sq
    clear sq q2
    refine V.ireturn dX11_year_27 rfl rfl ⟨rfl, rfl⟩ ly.1 ?_
    exact ret_I hf srh3
  · replace hf := ite_n hf c1
    refine V.iload_n dX11_year_4 rfl rfl ?_
    refine V.aload_n dX11_year_5 rfl rfl rfl ?_
    refine V.getR (r := 5) dX11_year_6 fl_X11_19 rfl (Or.inl ⟨rfl, SHL_lt rfl⟩) rfl (ly_0_1 (srh.ly ly)) ?_
    refine V.getI dX11_year_9 fl_X11_135 rfl (Or.inl ⟨rfl, SHL_lt rfl⟩) rfl rfl ?_
    refine V.icmp_gt (tgt := 22) dX11_year_12 (by decide) (fun c5 => ?_) (fun c5 => ?_)
    · replace hf := ite_p hf c5
      refine V.aload_n dX11_year_22 rfl rfl rfl ?_
      refine V.iconst (v := 1) dX11_year_23 rfl ?_
      obtain ⟨r8, h7, q6, hf2⟩ := bd2_el hf
      replace hf := hf2
      clear hf2
      refine V.callVI dX11_year_24 ml_X11_105 mo_X11_refuse mv_X11_refuse rfl (fun q hq => by cases hq; rfl) (by decide) (Or.inl ⟨rfl, SHL_lt rfl⟩) (th_X11_refuse (srh.ly ly) q6) rfl rfl ⟨Nat.le_of_ble_eq_true rfl, Nat.le_of_ble_eq_true rfl, fun _ => ⟨rfl, rfl⟩⟩ (Nat.le_of_ble_eq_true rfl) rfl (post_I (fun sq => ?_))
      have srh7 : SR h h7 := srh.trans sq
      clear sq q6
      refine V.ireturn dX11_year_27 rfl rfl ⟨rfl, rfl⟩ ly.1 ?_
      exact ret_I hf srh7
    · replace hf := ite_n hf c5
      refine V.iload_n dX11_year_15 rfl rfl ?_
      refine V.sipush (v := 300) dX11_year_16 rfl ?_
      refine V.icmp_le (tgt := 28) dX11_year_19 (by decide) (fun c9 => ?_) (fun c9 => ?_)
      · replace hf := ite_p hf c9
        refine V.aload_n dX11_year_28 rfl rfl rfl ?_
        refine V.getR (r := 5) dX11_year_29 fl_X11_19 rfl (Or.inl ⟨rfl, SHL_lt rfl⟩) rfl (ly_0_1 (srh.ly ly)) ?_
        refine V.iload_n dX11_year_32 rfl rfl ?_
        obtain ⟨h11, q10, hf2⟩ := bd_el hf
        replace hf := hf2
        clear hf2
        refine V.callVV dX11_year_33 ml_X11_138 mo_X4_begin mv_X4_begin rfl (fun q hq => by cases hq; rfl) (by decide) (Or.inl ⟨rfl, SHL_lt rfl⟩) (th_X4_begin (srh.ly ly) q10) rfl rfl ⟨Nat.le_of_ble_eq_true rfl, Nat.le_of_ble_eq_true rfl, fun _ => ⟨rfl, rfl⟩⟩ (Nat.le_of_ble_eq_true rfl) (Or.inl rfl) (post_V (fun sq => ?_))
        have srh11 : SR h h11 := srh.trans sq
        clear sq q10
        refine V.aload_n dX11_year_36 rfl rfl rfl ?_
        refine V.getR (r := u) dX11_year_37 fl_X11_65 rfl (Or.inl ⟨rfl, SHL_lt rfl⟩) rfl (srh11.pr sp) ?_
        refine V.getR (r := u + 3) dX11_year_40 fl_X11_166 (sT0 hU) (Or.inl ⟨rfl, SHL_lt (sT0 hU)⟩) rfl (rT_year (srh11.ly ly) hU) ?_
        obtain ⟨h13, q12, hf2⟩ := bd_el hf
        replace hf := hf2
        clear hf2
        refine V.callVV dX11_year_43 ml_X11_170 mo_X9_makeEmpty mv_X9_makeEmpty (sY0 hU.Y) (fun q hq => by cases hq; rfl) (by decide) (Or.inl ⟨rfl, SHL_lt (sY0 hU.Y)⟩) (th_X9_makeEmpty (srh11.ly ly) hU.Y q12) rfl rfl ⟨Nat.le_of_ble_eq_true rfl, Nat.le_of_ble_eq_true rfl, fun _ => ⟨rfl, rfl⟩⟩ (Nat.le_of_ble_eq_true rfl) (Or.inl rfl) (post_V (fun sq => ?_))
        have srh13 : SR h h13 := srh11.trans sq
        clear sq q12
        refine V.aload_n dX11_year_46 rfl rfl rfl ?_
        refine V.getR (r := 5) dX11_year_47 fl_X11_19 rfl (Or.inl ⟨rfl, SHL_lt rfl⟩) rfl (ly_0_1 (srh13.ly ly)) ?_
        refine V.aload_n dX11_year_50 rfl rfl rfl ?_
        refine V.getR (r := t) dX11_year_51 fl_X11_61 rfl (Or.inl ⟨rfl, SHL_lt rfl⟩) rfl (srh13.pr pr) ?_
        refine V.aload_n dX11_year_54 rfl rfl rfl ?_
        refine V.getR (r := u) dX11_year_55 fl_X11_65 rfl (Or.inl ⟨rfl, SHL_lt rfl⟩) rfl (srh13.pr sp) ?_
        refine V.getR (r := u + 3) dX11_year_58 fl_X11_166 (sT0 hU) (Or.inl ⟨rfl, SHL_lt (sT0 hU)⟩) rfl (rT_year (srh13.ly ly) hU) ?_
        obtain ⟨r16, h15, q14, hf2⟩ := bd2_el hf
        replace hf := hf2
        clear hf2
        refine V.callSI dX11_year_61 ml_X11_173 mo_X10_takeYear ms_X10_takeYear (th_X10_takeYear (srh13.ly ly) hT hU.Y q14) rfl rfl ⟨Nat.le_of_ble_eq_true rfl, Nat.le_of_ble_eq_true rfl, fun _ => ⟨rfl, rfl⟩⟩ (Nat.le_of_ble_eq_true rfl) rfl (post_I (fun sq => ?_))
        have srh15 : SR h h15 := srh13.trans sq
        clear sq q14
        refine V.istore_n (ls' := [.ref 0, .int a1, .int r16]) dX11_year_64 rfl (by decide) rfl ?_
        refine V.iload_n dX11_year_65 rfl rfl ?_
        refine V.if_ne (tgt := 76) dX11_year_66 (by decide) (fun c17 => ?_) (fun c17 => ?_)
        · replace hf := ite_n hf c17
          refine V.aload_n dX11_year_76 rfl rfl rfl ?_
          refine V.getR (r := t) dX11_year_77 fl_X11_61 rfl (Or.inl ⟨rfl, SHL_lt rfl⟩) rfl (srh15.pr pr) ?_
          refine V.getR (r := t + 3) dX11_year_80 fl_X11_166 (sT0 hT) (Or.inl ⟨rfl, SHL_lt (sT0 hT)⟩) rfl (rT_year (srh15.ly ly) hT) ?_
          refine V.aload_n dX11_year_83 rfl rfl rfl ?_
          refine V.getR (r := u) dX11_year_84 fl_X11_65 rfl (Or.inl ⟨rfl, SHL_lt rfl⟩) rfl (srh15.pr sp) ?_
          refine V.getR (r := u + 3) dX11_year_87 fl_X11_166 (sT0 hU) (Or.inl ⟨rfl, SHL_lt (sT0 hU)⟩) rfl (rT_year (srh15.ly ly) hU) ?_
          obtain ⟨h19, q18, hf2⟩ := bd_el hf
          replace hf := hf2
          clear hf2
          refine V.callVV dX11_year_90 ml_X11_179 mo_X9_copyFrom mv_X9_copyFrom (sY0 hT.Y) (fun q hq => by cases hq; rfl) (by decide) (Or.inl ⟨rfl, SHL_lt (sY0 hT.Y)⟩) (th_X9_copyFrom (srh15.ly ly) hT.Y hU.Y q18) rfl rfl ⟨Nat.le_of_ble_eq_true rfl, Nat.le_of_ble_eq_true rfl, fun _ => ⟨rfl, rfl⟩⟩ (Nat.le_of_ble_eq_true rfl) (Or.inl rfl) (post_V (fun sq => ?_))
          have srh19 : SR h h19 := srh15.trans sq
          clear sq q18
          refine V.aload_n dX11_year_93 rfl rfl rfl ?_
          refine V.aload_n dX11_year_94 rfl rfl rfl ?_
          refine V.getR (r := t) dX11_year_95 fl_X11_61 rfl (Or.inl ⟨rfl, SHL_lt rfl⟩) rfl (srh19.pr pr) ?_
          refine V.getR (r := t + 3) dX11_year_98 fl_X11_166 (sT0 hT) (Or.inl ⟨rfl, SHL_lt (sT0 hT)⟩) rfl (rT_year (srh19.ly ly) hT) ?_
          refine V.getI dX11_year_101 fl_X11_183 (sY0 hT.Y) (Or.inl ⟨rfl, SHL_lt (sY0 hT.Y)⟩) rfl rfl ?_
          obtain ⟨r22, h21, q20, hf2⟩ := bd2_el hf
          replace hf := hf2
          clear hf2
          refine V.callVI dX11_year_104 ml_X11_161 mo_X11_answer mv_X11_answer rfl (fun q hq => by cases hq; rfl) (by decide) (Or.inl ⟨rfl, SHL_lt rfl⟩) (th_X11_answer (srh19.ly ly) q20) rfl rfl ⟨Nat.le_of_ble_eq_true rfl, Nat.le_of_ble_eq_true rfl, fun _ => ⟨rfl, rfl⟩⟩ (Nat.le_of_ble_eq_true rfl) rfl (post_I (fun sq => ?_))
          have srh21 : SR h h21 := srh19.trans sq
          clear sq q20
          refine V.ireturn dX11_year_107 rfl rfl ⟨rfl, rfl⟩ ly.1 ?_
          exact ret_I hf srh21
        · replace hf := ite_p hf c17
          refine V.aload_n dX11_year_69 rfl rfl rfl ?_
          refine V.bipush (v := 9) dX11_year_70 rfl ?_
          obtain ⟨r25, h24, q23, hf2⟩ := bd2_el hf
          replace hf := hf2
          clear hf2
          refine V.callVI dX11_year_72 ml_X11_105 mo_X11_refuse mv_X11_refuse rfl (fun q hq => by cases hq; rfl) (by decide) (Or.inl ⟨rfl, SHL_lt rfl⟩) (th_X11_refuse (srh15.ly ly) q23) rfl rfl ⟨Nat.le_of_ble_eq_true rfl, Nat.le_of_ble_eq_true rfl, fun _ => ⟨rfl, rfl⟩⟩ (Nat.le_of_ble_eq_true rfl) rfl (post_I (fun sq => ?_))
          have srh24 : SR h h24 := srh15.trans sq
          clear sq q23
          refine V.ireturn dX11_year_75 rfl rfl ⟨rfl, rfl⟩ ly.1 ?_
          exact ret_I hf srh24
      · replace hf := ite_n hf c9
        refine V.aload_n dX11_year_22 rfl rfl rfl ?_
        refine V.iconst (v := 1) dX11_year_23 rfl ?_
        obtain ⟨r28, h27, q26, hf2⟩ := bd2_el hf
        replace hf := hf2
        clear hf2
        refine V.callVI dX11_year_24 ml_X11_105 mo_X11_refuse mv_X11_refuse rfl (fun q hq => by cases hq; rfl) (by decide) (Or.inl ⟨rfl, SHL_lt rfl⟩) (th_X11_refuse (srh.ly ly) q26) rfl rfl ⟨Nat.le_of_ble_eq_true rfl, Nat.le_of_ble_eq_true rfl, fun _ => ⟨rfl, rfl⟩⟩ (Nat.le_of_ble_eq_true rfl) rfl (post_I (fun sq => ?_))
        have srh27 : SR h h27 := srh.trans sq
        clear sq q26
        refine V.ireturn dX11_year_27 rfl rfl ⟨rfl, rfl⟩ ly.1 ?_
        exact ret_I hf srh27
set_option maxRecDepth 100000 in
theorem th_X11_mean_33 {h0 : HP} (ly : Lay h0) {t : Nat} (hT : isT t) {u : Nat} (hU : isT u) (pr : hR h0 0 8 = t) (sp : hR h0 0 9 = u) {rr : Int32} {hh : HP}  : ∀  (h : HP), SR h0 h → f_X11_mean_33 t u h = some (rr, hh) → V cX11_mean miX11_mean (ZI h0 miX11_mean rr hh) 130 33 [.ref 0, .null, .null, .null, .null] [] h := by
  intro  h srh hf
  unfold f_X11_mean_33 at hf
  refine V.aload_n dX11_mean_33 rfl rfl rfl ?_
  refine V.iconst (v := 1) dX11_mean_34 rfl ?_
  obtain ⟨r29, h28, q27, hf2⟩ := bd2_el hf
  replace hf := hf2
  clear hf2
  refine V.callVI dX11_mean_35 ml_X11_86 mo_X11_deny mv_X11_deny rfl (fun q hq => by cases hq; rfl) (by decide) (Or.inl ⟨rfl, SHL_lt rfl⟩) (th_X11_deny (srh.ly ly) q27) rfl rfl ⟨Nat.le_of_ble_eq_true rfl, Nat.le_of_ble_eq_true rfl, fun _ => ⟨rfl, rfl⟩⟩ (Nat.le_of_ble_eq_true rfl) rfl (post_I (fun sq => ?_))
  have srh28 : SR h0 h28 := srh.trans sq
  clear sq q27
  obtain ⟨b30, hf2⟩ := gd_el hf
  replace hf := hf2
  clear hf2
  refine V.ireturn dX11_mean_38 rfl (narB b30) ⟨rfl, rfl⟩ ly.1 ?_
  exact ret_I hf srh28
set_option maxRecDepth 100000 in
theorem th_X11_mean_64 {h0 : HP} (ly : Lay h0) {t : Nat} (hT : isT t) {u : Nat} (hU : isT u) (pr : hR h0 0 8 = t) (sp : hR h0 0 9 = u) {rr : Int32} {hh : HP}  : ∀ (n : Nat) (l1 : Int32) (l2 : Int32) (l3 : Int32) (l4 : Int32) (h : HP), SR h0 h → f_X11_mean_64 t u n l1 l2 l3 l4 h = some (rr, hh) → V cX11_mean miX11_mean (ZI h0 miX11_mean rr hh) 130 64 [.ref 0, .int l1, .int l2, .int l3, .int l4] [] h := by
  intro n
  induction n with
  | zero => intro l1 l2 l3 l4 h srh hf; exact absurd hf (by unfold f_X11_mean_64; simp)
  | succ n ih =>
    intro l1 l2 l3 l4 h srh hf
    unfold f_X11_mean_64 at hf
    refine V.iload dX11_mean_64 rfl ?_
    refine V.iload_n dX11_mean_66 rfl rfl ?_
    refine V.icmp_ge (tgt := 115) dX11_mean_67 (by decide) (fun c11 => ?_) (fun c11 => ?_)
    · replace hf := ite_p hf c11
      refine V.aload_n dX11_mean_115 rfl rfl rfl ?_
      refine V.iload_n dX11_mean_116 rfl rfl ?_
      refine V.iload_n dX11_mean_117 rfl rfl ?_
      obtain ⟨h13, q12, hf2⟩ := bd_el hf
      replace hf := hf2
      clear hf2
      refine V.callVV dX11_mean_118 ml_X11_393 mo_X11_tellFraction mv_X11_tellFraction rfl (fun q hq => by cases hq; rfl) (by decide) (Or.inl ⟨rfl, SHL_lt rfl⟩) (th_X11_tellFraction (srh.ly ly) q12) rfl rfl ⟨Nat.le_of_ble_eq_true rfl, Nat.le_of_ble_eq_true rfl, fun _ => ⟨rfl, rfl⟩⟩ (Nat.le_of_ble_eq_true rfl) (Or.inl rfl) (post_V (fun sq => ?_))
      have srh13 : SR h0 h13 := srh.trans sq
      clear sq q12
      refine V.aload_n dX11_mean_121 rfl rfl rfl ?_
      obtain ⟨r16, h15, q14, hf2⟩ := bd2_el hf
      replace hf := hf2
      clear hf2
      refine V.callVI dX11_mean_122 ml_X11_93 mo_X11_allow mv_X11_allow rfl (fun q hq => by cases hq; rfl) (by decide) (Or.inl ⟨rfl, SHL_lt rfl⟩) (th_X11_allow (srh13.ly ly) q14) rfl rfl ⟨Nat.le_of_ble_eq_true rfl, Nat.le_of_ble_eq_true rfl, fun _ => ⟨rfl, rfl⟩⟩ (Nat.le_of_ble_eq_true rfl) rfl (post_I (fun sq => ?_))
      have srh15 : SR h0 h15 := srh13.trans sq
      clear sq q14
      obtain ⟨b17, hf2⟩ := gd_el hf
      replace hf := hf2
      clear hf2
      refine V.ireturn dX11_mean_125 rfl (narB b17) ⟨rfl, rfl⟩ ly.1 ?_
      exact ret_I hf srh15
    · replace hf := ite_n hf c11
      refine V.aload_n dX11_mean_70 rfl rfl rfl ?_
      refine V.getR (r := u) dX11_mean_71 fl_X11_65 rfl (Or.inl ⟨rfl, SHL_lt rfl⟩) rfl (srh.pr sp) ?_
      refine V.aload_n dX11_mean_74 rfl rfl rfl ?_
      refine V.getR (r := t) dX11_mean_75 fl_X11_61 rfl (Or.inl ⟨rfl, SHL_lt rfl⟩) rfl (srh.pr pr) ?_
      obtain ⟨h19, q18, hf2⟩ := bd_el hf
      replace hf := hf2
      clear hf2
      refine V.callVV dX11_mean_78 ml_X11_420 mo_X5_copyFrom mv_X5_copyFrom (sT0 hU) (fun q hq => by cases hq; rfl) (by decide) (Or.inl ⟨rfl, SHL_lt (sT0 hU)⟩) (th_X5_copyFrom (srh.ly ly) hU hT q18) rfl rfl ⟨Nat.le_of_ble_eq_true rfl, Nat.le_of_ble_eq_true rfl, fun _ => ⟨rfl, rfl⟩⟩ (Nat.le_of_ble_eq_true rfl) (Or.inl rfl) (post_V (fun sq => ?_))
      have srh19 : SR h0 h19 := srh.trans sq
      clear sq q18
      refine V.aload_n dX11_mean_81 rfl rfl rfl ?_
      refine V.getR (r := 77) dX11_mean_82 fl_X11_58 rfl (Or.inl ⟨rfl, SHL_lt rfl⟩) rfl (ly_0_7 (srh19.ly ly)) ?_
      refine V.aload_n dX11_mean_85 rfl rfl rfl ?_
      refine V.getR (r := u) dX11_mean_86 fl_X11_65 rfl (Or.inl ⟨rfl, SHL_lt rfl⟩) rfl (srh19.pr sp) ?_
      refine V.iload_n dX11_mean_89 rfl rfl ?_
      refine V.iload dX11_mean_90 rfl ?_
      refine V.iadd dX11_mean_92 ?_
      obtain ⟨h21, q20, hf2⟩ := bd_el hf
      replace hf := hf2
      clear hf2
      refine V.callVV dX11_mean_93 ml_X11_400 mo_X2_liveBy mv_X2_liveBy (sV0 isV_77) (fun q hq => by cases hq; rfl) (by decide) (Or.inl ⟨rfl, SHL_lt (sV0 isV_77)⟩) (th_X2_liveBy (srh19.ly ly) isV_77 hU q20) rfl rfl ⟨Nat.le_of_ble_eq_true rfl, Nat.le_of_ble_eq_true rfl, fun _ => ⟨rfl, rfl⟩⟩ (Nat.le_of_ble_eq_true rfl) (Or.inl rfl) (post_V (fun sq => ?_))
      have srh21 : SR h0 h21 := srh19.trans sq
      clear sq q20
      refine V.iload_n dX11_mean_96 rfl rfl ?_
      refine V.aload_n dX11_mean_97 rfl rfl rfl ?_
      refine V.getR (r := u) dX11_mean_98 fl_X11_65 rfl (Or.inl ⟨rfl, SHL_lt rfl⟩) rfl (srh21.pr sp) ?_
      refine V.getI dX11_mean_101 fl_X11_198 (sT0 hU) (Or.inl ⟨rfl, SHL_lt (sT0 hU)⟩) rfl rfl ?_
      obtain ⟨r24, h23, q22, hf2⟩ := bd2_el hf
      replace hf := hf2
      clear hf2
      refine V.callSI dX11_mean_104 ml_X11_156 mo_J6_bitCount_0f7a4 ms_J6_bitCount_0f7a4 (th_J6_bitCount_0f7a4 (srh21.ly ly) q22) rfl rfl ⟨Nat.le_of_ble_eq_true rfl, Nat.le_of_ble_eq_true rfl, fun _ => ⟨rfl, rfl⟩⟩ (Nat.le_of_ble_eq_true rfl) rfl (post_I (fun sq => ?_))
      have srh23 : SR h0 h23 := srh21.trans sq
      clear sq q22
      refine V.iadd dX11_mean_107 ?_
      refine V.nmi (fun x25 ex25 => ?_)
      replace hf := lt_el hf x25 ex25
      refine V.istore_n (ls' := [.ref 0, .int l1, .int l2, .int x25, .int l4]) dX11_mean_108 rfl (by decide) rfl ?_
      obtain ⟨x26, ex26⟩ : ∃ y : Int32, y = l4 + 1 := ⟨_, rfl⟩
      replace hf := lt_el hf x26 ex26
      refine V.iinc (v := x26) (ls' := [.ref 0, .int l1, .int l2, .int x25, .int x26]) dX11_mean_109 rfl (by decide) ex26.symm rfl ?_
      refine V.goto (tgt := 64) dX11_mean_112 (by decide) ?_
      exact ih l1 l2 x25 x26 h23 srh23 hf
set_option maxRecDepth 100000 in
theorem th_X11_mean {h : HP} (ly : Lay h) {t : Nat} (hT : isT t) {u : Nat} (hU : isT u) (pr : hR h 0 8 = t) (sp : hR h 0 9 = u) {a1 : Int32} {a2 : Int32} {rr : Int32} {hh : HP} (hf : f_X11_mean h t u a1 a2 = some (rr, hh)) : Spec yX11_mean cX11_mean miX11_mean [.ref 0, .int a1, .int a2] h (pI fun r' h' => (r' = rr ∧ h' = hh) ∧ SR h hh) := by
  refine Spec.of (ls0 := [.ref 0, .int a1, .int a2, .null, .null]) mo_X11_mean (Nat.le_of_ble_eq_true rfl) rfl ?_
  rw [ly.1]
  have srh : SR h h := SR.refl h
  unfold f_X11_mean at hf
  refine V.iload_n dX11_mean_0 rfl rfl ?_
  refine V.if_lt (tgt := 33) dX11_mean_1 (by decide) (fun c1 => ?_) (fun c1 => ?_)
  · replace hf := ite_p hf c1
    refine V.less (ls' := [.ref 0, .null, .null, .null, .null]) ⟨Or.inr rfl, Or.inl rfl, Or.inl rfl, Or.inl rfl, Or.inl rfl, trivial⟩ ?_
    exact th_X11_mean_33 ly hT hU pr sp h srh hf
  · replace hf := ite_n hf c1
    refine V.iload_n dX11_mean_4 rfl rfl ?_
    refine V.sipush (v := 9999) dX11_mean_5 rfl ?_
    refine V.icmp_gt (tgt := 33) dX11_mean_8 (by decide) (fun c2 => ?_) (fun c2 => ?_)
    · replace hf := ite_p hf c2
      refine V.less (ls' := [.ref 0, .null, .null, .null, .null]) ⟨Or.inr rfl, Or.inl rfl, Or.inl rfl, Or.inl rfl, Or.inl rfl, trivial⟩ ?_
      exact th_X11_mean_33 ly hT hU pr sp h srh hf
    · replace hf := ite_n hf c2
      refine V.iload_n dX11_mean_11 rfl rfl ?_
      refine V.iconst (v := 1) dX11_mean_12 rfl ?_
      refine V.icmp_lt (tgt := 33) dX11_mean_13 (by decide) (fun c3 => ?_) (fun c3 => ?_)
      · replace hf := ite_p hf c3
        refine V.less (ls' := [.ref 0, .null, .null, .null, .null]) ⟨Or.inr rfl, Or.inl rfl, Or.inl rfl, Or.inl rfl, Or.inl rfl, trivial⟩ ?_
        exact th_X11_mean_33 ly hT hU pr sp h srh hf
      · replace hf := ite_n hf c3
        refine V.iload_n dX11_mean_16 rfl rfl ?_
        refine V.bipush (v := 20) dX11_mean_17 rfl ?_
        refine V.icmp_gt (tgt := 33) dX11_mean_19 (by decide) (fun c4 => ?_) (fun c4 => ?_)
        · replace hf := ite_p hf c4
          refine V.less (ls' := [.ref 0, .null, .null, .null, .null]) ⟨Or.inr rfl, Or.inl rfl, Or.inl rfl, Or.inl rfl, Or.inl rfl, trivial⟩ ?_
          exact th_X11_mean_33 ly hT hU pr sp h srh hf
        · replace hf := ite_n hf c4
          refine V.iload_n dX11_mean_22 rfl rfl ?_
          refine V.iload_n dX11_mean_23 rfl rfl ?_
          refine V.iadd dX11_mean_24 ?_
          refine V.iconst (v := 1) dX11_mean_25 rfl ?_
          refine V.isub dX11_mean_26 ?_
          refine V.sipush (v := 9999) dX11_mean_27 rfl ?_
          refine V.icmp_le (tgt := 39) dX11_mean_30 (by decide) (fun c5 => ?_) (fun c5 => ?_)
          · replace hf := ite_p hf c5
            refine V.aload_n dX11_mean_39 rfl rfl rfl ?_
            refine V.getR (r := t) dX11_mean_40 fl_X11_61 rfl (Or.inl ⟨rfl, SHL_lt rfl⟩) rfl (srh.pr pr) ?_
            refine V.getR (r := t + 3) dX11_mean_43 fl_X11_166 (sT0 hT) (Or.inl ⟨rfl, SHL_lt (sT0 hT)⟩) rfl (rT_year (srh.ly ly) hT) ?_
            refine V.getI dX11_mean_46 fl_X11_397 (sY0 hT.Y) (Or.inl ⟨rfl, SHL_lt (sY0 hT.Y)⟩) rfl rfl ?_
            refine V.if_ne (tgt := 59) dX11_mean_49 (by decide) (fun c6 => ?_) (fun c6 => ?_)
            · replace hf := ite_n hf c6
              refine V.iconst (v := 0) dX11_mean_59 rfl ?_
              refine V.istore_n (ls' := [.ref 0, .int a1, .int a2, .int 0, .null]) dX11_mean_60 rfl (by decide) rfl ?_
              refine V.iconst (v := 0) dX11_mean_61 rfl ?_
              refine V.istore (ls' := [.ref 0, .int a1, .int a2, .int 0, .int 0]) dX11_mean_62 (by decide) rfl ?_
              exact th_X11_mean_64 ly hT hU pr sp FU a1 a2 0 0 h srh hf
            · replace hf := ite_p hf c6
              refine V.aload_n dX11_mean_52 rfl rfl rfl ?_
              refine V.bipush (v := 6) dX11_mean_53 rfl ?_
              obtain ⟨r9, h8, q7, hf2⟩ := bd2_el hf
              replace hf := hf2
              clear hf2
              refine V.callVI dX11_mean_55 ml_X11_86 mo_X11_deny mv_X11_deny rfl (fun q hq => by cases hq; rfl) (by decide) (Or.inl ⟨rfl, SHL_lt rfl⟩) (th_X11_deny (srh.ly ly) q7) rfl rfl ⟨Nat.le_of_ble_eq_true rfl, Nat.le_of_ble_eq_true rfl, fun _ => ⟨rfl, rfl⟩⟩ (Nat.le_of_ble_eq_true rfl) rfl (post_I (fun sq => ?_))
              have srh8 : SR h h8 := srh.trans sq
              clear sq q7
              obtain ⟨b10, hf2⟩ := gd_el hf
              replace hf := hf2
              clear hf2
              refine V.ireturn dX11_mean_58 rfl (narB b10) ⟨rfl, rfl⟩ ly.1 ?_
              exact ret_I hf srh8
          · replace hf := ite_n hf c5
            refine V.less (ls' := [.ref 0, .null, .null, .null, .null]) ⟨Or.inr rfl, Or.inl rfl, Or.inl rfl, Or.inl rfl, Or.inl rfl, trivial⟩ ?_
            exact th_X11_mean_33 ly hT hU pr sp h srh hf
set_option maxRecDepth 100000 in
theorem th_X11_mark {h : HP} (ly : Lay h) {t : Nat} (hT : isT t) (pr : hR h 0 8 = t) (mk : MarksAt h)  {rr : Int32} {hh : HP} (hf : f_X11_mark h t = some (rr, hh)) : Spec yX11_mark cX11_mark miX11_mark [.ref 0] h (pI fun r' h' => (r' = rr ∧ h' = hh) ∧ SR h hh) := by
  refine Spec.of (ls0 := [.ref 0]) mo_X11_mark (Nat.le_of_ble_eq_true rfl) rfl ?_
  rw [ly.1]
  have srh : SR h h := SR.refl h
  unfold f_X11_mark at hf
  refine V.aload_n dX11_mark_0 rfl rfl rfl ?_
  refine V.getI dX11_mark_1 fl_X11_423 rfl (Or.inl ⟨rfl, SHL_lt rfl⟩) rfl rfl ?_
  refine V.if_lt (tgt := 15) dX11_mark_4 (by decide) (fun c1 => ?_) (fun c1 => ?_)
  · replace hf := ite_p hf c1
    refine V.aload_n dX11_mark_15 rfl rfl rfl ?_
    refine V.iconst (v := 4) dX11_mark_16 rfl ?_
    obtain ⟨r4, h3, q2, hf2⟩ := bd2_el hf
    replace hf := hf2
    clear hf2
    refine V.callVI dX11_mark_17 ml_X11_105 mo_X11_refuse mv_X11_refuse rfl (fun q hq => by cases hq; rfl) (by decide) (Or.inl ⟨rfl, SHL_lt rfl⟩) (th_X11_refuse (srh.ly ly) q2) rfl rfl ⟨Nat.le_of_ble_eq_true rfl, Nat.le_of_ble_eq_true rfl, fun _ => ⟨rfl, rfl⟩⟩ (Nat.le_of_ble_eq_true rfl) rfl (post_I (fun sq => ?_))
    have srh3 : SR h h3 := srh.trans sq
    clear sq q2
    refine V.ireturn dX11_mark_20 rfl rfl ⟨rfl, rfl⟩ ly.1 ?_
    exact ret_I hf srh3
  · replace hf := ite_n hf c1
    refine V.aload_n dX11_mark_7 rfl rfl rfl ?_
    refine V.getI dX11_mark_8 fl_X11_423 rfl (Or.inl ⟨rfl, SHL_lt rfl⟩) rfl rfl ?_
    refine V.iconst (v := 3) dX11_mark_11 rfl ?_
    refine V.icmp_lt (tgt := 21) dX11_mark_12 (by decide) (fun c5 => ?_) (fun c5 => ?_)
    · replace hf := ite_p hf c5
      refine V.aload_n dX11_mark_21 rfl rfl rfl ?_
      refine V.getR (r := 13) dX11_mark_22 fl_X11_26 rfl (Or.inl ⟨rfl, SHL_lt rfl⟩) rfl (ly_0_2 (srh.ly ly)) ?_
      refine V.aload_n dX11_mark_25 rfl rfl rfl ?_
      refine V.getI dX11_mark_26 fl_X11_423 rfl (Or.inl ⟨rfl, SHL_lt rfl⟩) rfl rfl ?_
      refine V.nmi (fun x6 ex6 => ?_)
      replace hf := lt_el hf x6 ex6
      obtain ⟨b7, hf2⟩ := gdi_el hf
      replace hf := hf2
      clear hf2
      refine V.aaload (r := (mkA x6)) dX11_mark_29 rfl (Or.inl ⟨rfl, SHL_lt rfl⟩) b7 (srh.mk mk b7) (sT0 (isT_mk b7)) ?_
      refine V.aload_n dX11_mark_30 rfl rfl rfl ?_
      refine V.getR (r := t) dX11_mark_31 fl_X11_61 rfl (Or.inl ⟨rfl, SHL_lt rfl⟩) rfl (srh.pr pr) ?_
      obtain ⟨h9, q8, hf2⟩ := bd_el hf
      replace hf := hf2
      clear hf2
      refine V.callVV dX11_mark_34 ml_X11_420 mo_X5_copyFrom mv_X5_copyFrom (sT0 (isT_mk b7)) (fun q hq => by cases hq; rfl) (by decide) (Or.inl ⟨rfl, SHL_lt (sT0 (isT_mk b7))⟩) (th_X5_copyFrom (srh.ly ly) (isT_mk b7) hT q8) rfl rfl ⟨Nat.le_of_ble_eq_true rfl, Nat.le_of_ble_eq_true rfl, fun _ => ⟨rfl, rfl⟩⟩ (Nat.le_of_ble_eq_true rfl) (Or.inl rfl) (post_V (fun sq => ?_))
      have srh9 : SR h h9 := srh.trans sq
      clear sq q8
      refine V.aload_n dX11_mark_37 rfl rfl rfl ?_
      refine V.dup dX11_mark_38 rfl ?_
      refine V.getI dX11_mark_39 fl_X11_423 rfl (Or.inl ⟨rfl, SHL_lt rfl⟩) rfl rfl ?_
      refine V.iconst (v := 1) dX11_mark_42 rfl ?_
      refine V.iadd dX11_mark_43 ?_
      refine V.putI dX11_mark_44 fl_X11_423 rfl (Or.inl ⟨rfl, SHL_lt rfl⟩) rfl (fun q hq => by cases hq; rfl) ⟨rfl, rfl⟩ ?_
      refine V.nameH (fun g10 eg10 => ?_)
      replace hf := lt_el hf g10 eg10
      have srg10 : SR h g10 := by rw [eg10]; exact srh9.I _ _ _
      refine V.aload_n dX11_mark_47 rfl rfl rfl ?_
      refine V.aload_n dX11_mark_48 rfl rfl rfl ?_
      refine V.getI dX11_mark_49 fl_X11_423 rfl (Or.inl ⟨rfl, SHL_lt rfl⟩) rfl rfl ?_
      obtain ⟨r13, h12, q11, hf2⟩ := bd2_el hf
      replace hf := hf2
      clear hf2
      refine V.callVI dX11_mark_52 ml_X11_161 mo_X11_answer mv_X11_answer rfl (fun q hq => by cases hq; rfl) (by decide) (Or.inl ⟨rfl, SHL_lt rfl⟩) (th_X11_answer (srg10.ly ly) q11) rfl rfl ⟨Nat.le_of_ble_eq_true rfl, Nat.le_of_ble_eq_true rfl, fun _ => ⟨rfl, rfl⟩⟩ (Nat.le_of_ble_eq_true rfl) rfl (post_I (fun sq => ?_))
      have srh12 : SR h h12 := srg10.trans sq
      clear sq q11
      refine V.ireturn dX11_mark_55 rfl rfl ⟨rfl, rfl⟩ ly.1 ?_
      exact ret_I hf srh12
    · replace hf := ite_n hf c5
      refine V.aload_n dX11_mark_15 rfl rfl rfl ?_
      refine V.iconst (v := 4) dX11_mark_16 rfl ?_
      obtain ⟨r16, h15, q14, hf2⟩ := bd2_el hf
      replace hf := hf2
      clear hf2
      refine V.callVI dX11_mark_17 ml_X11_105 mo_X11_refuse mv_X11_refuse rfl (fun q hq => by cases hq; rfl) (by decide) (Or.inl ⟨rfl, SHL_lt rfl⟩) (th_X11_refuse (srh.ly ly) q14) rfl rfl ⟨Nat.le_of_ble_eq_true rfl, Nat.le_of_ble_eq_true rfl, fun _ => ⟨rfl, rfl⟩⟩ (Nat.le_of_ble_eq_true rfl) rfl (post_I (fun sq => ?_))
      have srh15 : SR h h15 := srh.trans sq
      clear sq q14
      refine V.ireturn dX11_mark_20 rfl rfl ⟨rfl, rfl⟩ ly.1 ?_
      exact ret_I hf srh15
set_option maxRecDepth 100000 in
theorem th_X11_back {h : HP} (ly : Lay h) {t : Nat} (hT : isT t) (pr : hR h 0 8 = t) (mk : MarksAt h)  {rr : Int32} {hh : HP} (hf : f_X11_back h t = some (rr, hh)) : Spec yX11_back cX11_back miX11_back [.ref 0] h (pI fun r' h' => (r' = rr ∧ h' = hh) ∧ SR h hh) := by
  refine Spec.of (ls0 := [.ref 0]) mo_X11_back (Nat.le_of_ble_eq_true rfl) rfl ?_
  rw [ly.1]
  have srh : SR h h := SR.refl h
  unfold f_X11_back at hf
  refine V.aload_n dX11_back_0 rfl rfl rfl ?_
  refine V.getI dX11_back_1 fl_X11_423 rfl (Or.inl ⟨rfl, SHL_lt rfl⟩) rfl rfl ?_
  refine V.iconst (v := 1) dX11_back_4 rfl ?_
  refine V.icmp_lt (tgt := 16) dX11_back_5 (by decide) (fun c1 => ?_) (fun c1 => ?_)
  · replace hf := ite_p hf c1
    refine V.aload_n dX11_back_16 rfl rfl rfl ?_
    refine V.bipush (v := 6) dX11_back_17 rfl ?_
    obtain ⟨r4, h3, q2, hf2⟩ := bd2_el hf
    replace hf := hf2
    clear hf2
    refine V.callVI dX11_back_19 ml_X11_105 mo_X11_refuse mv_X11_refuse rfl (fun q hq => by cases hq; rfl) (by decide) (Or.inl ⟨rfl, SHL_lt rfl⟩) (th_X11_refuse (srh.ly ly) q2) rfl rfl ⟨Nat.le_of_ble_eq_true rfl, Nat.le_of_ble_eq_true rfl, fun _ => ⟨rfl, rfl⟩⟩ (Nat.le_of_ble_eq_true rfl) rfl (post_I (fun sq => ?_))
    have srh3 : SR h h3 := srh.trans sq
    clear sq q2
    refine V.ireturn dX11_back_22 rfl rfl ⟨rfl, rfl⟩ ly.1 ?_
    exact ret_I hf srh3
  · replace hf := ite_n hf c1
    refine V.aload_n dX11_back_8 rfl rfl rfl ?_
    refine V.getI dX11_back_9 fl_X11_423 rfl (Or.inl ⟨rfl, SHL_lt rfl⟩) rfl rfl ?_
    refine V.iconst (v := 3) dX11_back_12 rfl ?_
    refine V.icmp_le (tgt := 23) dX11_back_13 (by decide) (fun c5 => ?_) (fun c5 => ?_)
    · replace hf := ite_p hf c5
      refine V.aload_n dX11_back_23 rfl rfl rfl ?_
      refine V.dup dX11_back_24 rfl ?_
      refine V.getI dX11_back_25 fl_X11_423 rfl (Or.inl ⟨rfl, SHL_lt rfl⟩) rfl rfl ?_
      refine V.iconst (v := 1) dX11_back_28 rfl ?_
      refine V.isub dX11_back_29 ?_
      refine V.putI dX11_back_30 fl_X11_423 rfl (Or.inl ⟨rfl, SHL_lt rfl⟩) rfl (fun q hq => by cases hq; rfl) ⟨rfl, rfl⟩ ?_
      refine V.nameH (fun g6 eg6 => ?_)
      replace hf := lt_el hf g6 eg6
      have srg6 : SR h g6 := by rw [eg6]; exact srh.I _ _ _
      refine V.aload_n dX11_back_33 rfl rfl rfl ?_
      refine V.getR (r := t) dX11_back_34 fl_X11_61 rfl (Or.inl ⟨rfl, SHL_lt rfl⟩) rfl (srg6.pr pr) ?_
      refine V.aload_n dX11_back_37 rfl rfl rfl ?_
      refine V.getR (r := 13) dX11_back_38 fl_X11_26 rfl (Or.inl ⟨rfl, SHL_lt rfl⟩) rfl (ly_0_2 (srg6.ly ly)) ?_
      refine V.aload_n dX11_back_41 rfl rfl rfl ?_
      refine V.getI dX11_back_42 fl_X11_423 rfl (Or.inl ⟨rfl, SHL_lt rfl⟩) rfl rfl ?_
      refine V.nmi (fun x7 ex7 => ?_)
      replace hf := lt_el hf x7 ex7
      obtain ⟨b8, hf2⟩ := gdi_el hf
      replace hf := hf2
      clear hf2
      refine V.aaload (r := (mkA x7)) dX11_back_45 rfl (Or.inl ⟨rfl, SHL_lt rfl⟩) b8 (srg6.mk mk b8) (sT0 (isT_mk b8)) ?_
      obtain ⟨h10, q9, hf2⟩ := bd_el hf
      replace hf := hf2
      clear hf2
      refine V.callVV dX11_back_46 ml_X11_420 mo_X5_copyFrom mv_X5_copyFrom (sT0 hT) (fun q hq => by cases hq; rfl) (by decide) (Or.inl ⟨rfl, SHL_lt (sT0 hT)⟩) (th_X5_copyFrom (srg6.ly ly) hT (isT_mk b8) q9) rfl rfl ⟨Nat.le_of_ble_eq_true rfl, Nat.le_of_ble_eq_true rfl, fun _ => ⟨rfl, rfl⟩⟩ (Nat.le_of_ble_eq_true rfl) (Or.inl rfl) (post_V (fun sq => ?_))
      have srh10 : SR h h10 := srg6.trans sq
      clear sq q9
      refine V.aload_n dX11_back_49 rfl rfl rfl ?_
      refine V.aload_n dX11_back_50 rfl rfl rfl ?_
      refine V.getI dX11_back_51 fl_X11_423 rfl (Or.inl ⟨rfl, SHL_lt rfl⟩) rfl rfl ?_
      obtain ⟨r13, h12, q11, hf2⟩ := bd2_el hf
      replace hf := hf2
      clear hf2
      refine V.callVI dX11_back_54 ml_X11_161 mo_X11_answer mv_X11_answer rfl (fun q hq => by cases hq; rfl) (by decide) (Or.inl ⟨rfl, SHL_lt rfl⟩) (th_X11_answer (srh10.ly ly) q11) rfl rfl ⟨Nat.le_of_ble_eq_true rfl, Nat.le_of_ble_eq_true rfl, fun _ => ⟨rfl, rfl⟩⟩ (Nat.le_of_ble_eq_true rfl) rfl (post_I (fun sq => ?_))
      have srh12 : SR h h12 := srh10.trans sq
      clear sq q11
      refine V.ireturn dX11_back_57 rfl rfl ⟨rfl, rfl⟩ ly.1 ?_
      exact ret_I hf srh12
    · replace hf := ite_n hf c5
      refine V.aload_n dX11_back_16 rfl rfl rfl ?_
      refine V.bipush (v := 6) dX11_back_17 rfl ?_
      obtain ⟨r16, h15, q14, hf2⟩ := bd2_el hf
      replace hf := hf2
      clear hf2
      refine V.callVI dX11_back_19 ml_X11_105 mo_X11_refuse mv_X11_refuse rfl (fun q hq => by cases hq; rfl) (by decide) (Or.inl ⟨rfl, SHL_lt rfl⟩) (th_X11_refuse (srh.ly ly) q14) rfl rfl ⟨Nat.le_of_ble_eq_true rfl, Nat.le_of_ble_eq_true rfl, fun _ => ⟨rfl, rfl⟩⟩ (Nat.le_of_ble_eq_true rfl) rfl (post_I (fun sq => ?_))
      have srh15 : SR h h15 := srh.trans sq
      clear sq q14
      refine V.ireturn dX11_back_22 rfl rfl ⟨rfl, rfl⟩ ly.1 ?_
      exact ret_I hf srh15
