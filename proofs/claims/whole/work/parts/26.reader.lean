/-! ===== the class's reader: a whole town ===== -/
theorem advF_11 (h : HP) : hI (advF h) 5 11 = hI h 5 11 := by
  unfold advF advH; split
  · show hI (rI h 5 (upd (hI h 5) 10 _)) 5 11 = _
    rw [hI_rI_s]; rfl
  · rfl
theorem takeN_val {h : HP} {lo hi : Int32} (hn : ¬ (takeN h lo hi).1 = 0) : lo ≤ hI (takeN h lo hi).2 5 11 ∧ hI (takeN h lo hi).2 5 11 ≤ hi := by
  unfold takeN at *
  by_cases c1 : kA h = 2
  · by_cases c2 : lo ≤ vA h ∧ vA h ≤ hi
    · rw [if_pos c1, if_pos c2]
      show lo ≤ hI (advF (uI h 5 11 (vA h))) 5 11 ∧ hI (advF (uI h 5 11 (vA h))) 5 11 ≤ hi
      rw [advF_11]
      exact c2
    · rw [if_pos c1, if_neg c2] at hn; exact absurd rfl hn
  · rw [if_neg c1] at hn; exact absurd rfl hn
theorem TP.of0 {h : HP} {t : Nat} (e1 : hI h t 10 = 0) (e2 : hI h t 11 = 0) : TP h t := by
  unfold TP tM tC; rw [e1, e2]; exact ⟨⟨by decide, rfl⟩, by decide, rfl⟩
theorem WP.of {h : HP} {t : Nat} (h1 : 1 ≤ hI h (t + 1) 0) (h5 : hI h (t + 1) 0 ≤ 5) : WP h t := by
  rw [Int32.le_iff_toInt_le] at h1 h5
  have e1 : (1 : Int32).toInt = 1 := by decide
  have e5 : (5 : Int32).toInt = 5 := by decide
  obtain ⟨j, hj, ej⟩ := nat_of (x := hI h (t + 1) 0) (n := 6) (by omega) (by omega)
  have q : wA h t = j := by unfold wA; rw [ej]; exact nI_clamp (by omega)
  exact ⟨by omega, by rw [q]; exact ej⟩
theorem takeWideF_ok {h : HP} {t : Nat} (hT : isT t) (rk : RK h) : RK (takeWideF h t).2 ∧ (¬ (takeWideF h t).1 = 0 → TP (takeWideF h t).2 t ∧ WP (takeWideF h t).2 t) := by
  unfold takeWideF
  have r1 := rk.tK 4 0
  generalize takeK 4 h 0 = a at *
  split
  · exact ⟨r1, fun q => absurd rfl q⟩
  · have r2 := r1.tN 1 5
    have v2 := @takeN_val a.2 1 5
    generalize takeN a.2 1 5 = b at *
    split
    · exact ⟨r2, fun q => absurd rfl q⟩
    · next hb =>
      have v3 := v2 hb
      have r3 : RK (if kA b.2 = 4 ∧ vA b.2 = 1 then advF b.2 else b.2) := by split; exact r2.adv; exact r2
      generalize (if kA b.2 = 4 ∧ vA b.2 = 1 then advF b.2 else b.2) = g at *
      generalize bI (decide (kA b.2 = 4 ∧ vA b.2 = 1)) = ring
      generalize hI b.2 5 11 = w at *
      obtain ⟨e1, e2, e3⟩ := emptyT_tp g t w ring
      have kw : KW' (emptyT g t w ring) (takeK 3 (emptyT g t w ring) 59).2 t := KW'.fr hT (takeK_fr _ _ _)
      exact ⟨(r3.empty hT w ring).tK 3 59, fun _ => ⟨kw.tp (TP.of0 e1 e2), kw.wp (WP.of (by rw [e3]; exact v3.1) (by rw [e3]; exact v3.2))⟩⟩
theorem partsG_ok {t : Nat} (hT : isT t) : ∀ f h, RK h → TP h t → RK (partsG f h t).2 ∧ TP (partsG f h t).2 t
  | 0, _, rk, tp => ⟨rk, tp⟩
  | f + 1, h, rk, tp => by
    have p := partF_ok hT rk tp
    unfold partsG; split
    · exact ⟨rk, tp⟩
    · split
      · exact p
      · exact partsG_ok hT f _ p.1 p.2
/-- a town's text -/
def readTownF (h : HP) (t : Nat) : Int32 × HP :=
  if (takeWideF h t).1 = 0 then (0, (takeWideF h t).2) else
  if (rowsG 7 0 (takeWideF h t).2 t).1 = 0 then (0, (rowsG 7 0 (takeWideF h t).2 t).2) else
  if (partsG 11 (rowsG 7 0 (takeWideF h t).2 t).2 t).1 = 0 then (0, (partsG 11 (rowsG 7 0 (takeWideF h t).2 t).2 t).2) else (1, (partsG 11 (rowsG 7 0 (takeWideF h t).2 t).2 t).2)
set_option maxRecDepth 100000 in
theorem sp_X6_takeTown {h : HP} (rkh : RK h) {t : Nat} (hT : isT t) : Spec yX6_takeTown cX6_takeTown miX6_takeTown [.ref 5, .ref t] h (pI fun r h' => r = (readTownF h t).1 ∧ h' = (readTownF h t).2) := by
  refine Spec.of (ls0 := [.ref 5, .ref t]) mo_X6_takeTown (Nat.le_of_ble_eq_true rfl) rfl ?_
  rw [rkh.1.1]
  refine V.aload_n dX6_takeTown_0 rfl rfl rfl ?_
  refine V.aload_n dX6_takeTown_1 rfl rfl (sT0 hT) ?_
  refine V.callSI dX6_takeTown_2 ml_X6_9 mo_X6_takeWide ms_X6_takeWide (sp_X6_takeWide rkh hT) rfl rfl ⟨Nat.le_of_ble_eq_true rfl, Nat.le_of_ble_eq_true rfl, fun _ => ⟨rfl, rfl⟩⟩ (Nat.le_of_ble_eq_true rfl) rfl (fun r1 h2 p3 => ?_)
  obtain ⟨er1, eh2⟩ := p3
  obtain ⟨rkh2, okh2⟩ : RK h2 ∧ (¬ r1 = 0 → TP h2 t ∧ WP h2 t) := by rw [er1, eh2]; exact takeWideF_ok hT rkh
  refine V.if_eq (tgt := 28) dX6_takeTown_5 (by decide) (fun c4 => ?_) (fun c4 => ?_)
  · refine V.iconst (v := 0) dX6_takeTown_28 rfl ?_
    refine V.ireturn dX6_takeTown_29 rfl rfl ⟨rfl, rfl⟩ rkh.1.1 ?_
    unfold readTownF
    try rw [← er1]
    try rw [← eh2]
    rw [if_pos c4]
    first | exact ⟨rfl, rfl⟩ | exact ⟨by assumption, by assumption⟩
  · refine V.aload_n dX6_takeTown_8 rfl rfl rfl ?_
    refine V.aload_n dX6_takeTown_9 rfl rfl (sT0 hT) ?_
    refine V.callSI dX6_takeTown_10 ml_X6_15 mo_X6_takeRows ms_X6_takeRows (sp_X6_takeRows rkh2 hT (okh2 c4).2) rfl rfl ⟨Nat.le_of_ble_eq_true rfl, Nat.le_of_ble_eq_true rfl, fun _ => ⟨rfl, rfl⟩⟩ (Nat.le_of_ble_eq_true rfl) rfl (fun r5 h6 p7 => ?_)
    obtain ⟨er5, eh6⟩ := p7
    obtain ⟨rkh6, kwh6⟩ : RK h6 ∧ KW' h2 h6 t := by rw [eh6]; exact rowsG_ok hT 7 0 _ rkh2
    have tph6 : TP h6 t := kwh6.tp (okh2 c4).1
    refine V.if_eq (tgt := 28) dX6_takeTown_13 (by decide) (fun c8 => ?_) (fun c8 => ?_)
    · refine V.iconst (v := 0) dX6_takeTown_28 rfl ?_
      refine V.ireturn dX6_takeTown_29 rfl rfl ⟨rfl, rfl⟩ rkh.1.1 ?_
      unfold readTownF
      try rw [← er1]
      try rw [← eh2]
      try rw [← er5]
      try rw [← eh6]
      rw [if_neg c4, if_pos c8]
      first | exact ⟨rfl, rfl⟩ | exact ⟨by assumption, by assumption⟩
    · refine V.aload_n dX6_takeTown_16 rfl rfl rfl ?_
      refine V.aload_n dX6_takeTown_17 rfl rfl (sT0 hT) ?_
      refine V.callSI dX6_takeTown_18 ml_X6_18 mo_X6_takeParts ms_X6_takeParts (sp_X6_takeParts rkh6 hT tph6) rfl rfl ⟨Nat.le_of_ble_eq_true rfl, Nat.le_of_ble_eq_true rfl, fun _ => ⟨rfl, rfl⟩⟩ (Nat.le_of_ble_eq_true rfl) rfl (fun r9 h10 p11 => ?_)
      obtain ⟨er9, eh10⟩ := p11
      refine V.if_eq (tgt := 28) dX6_takeTown_21 (by decide) (fun c12 => ?_) (fun c12 => ?_)
      · refine V.iconst (v := 0) dX6_takeTown_28 rfl ?_
        refine V.ireturn dX6_takeTown_29 rfl rfl ⟨rfl, rfl⟩ rkh.1.1 ?_
        unfold readTownF
        try rw [← er1]
        try rw [← eh2]
        try rw [← er5]
        try rw [← eh6]
        try rw [← er9]
        try rw [← eh10]
        rw [if_neg c4, if_neg c8, if_pos c12]
        first | exact ⟨rfl, rfl⟩ | exact ⟨by assumption, by assumption⟩
      · refine V.iconst (v := 1) dX6_takeTown_24 rfl ?_
        refine V.goto (tgt := 29) dX6_takeTown_25 (by decide) ?_
        refine V.ireturn dX6_takeTown_29 rfl rfl ⟨rfl, rfl⟩ rkh.1.1 ?_
        unfold readTownF
        try rw [← er1]
        try rw [← eh2]
        try rw [← er5]
        try rw [← eh6]
        try rw [← er9]
        try rw [← eh10]
        rw [if_neg c4, if_neg c8, if_neg c12]
        first | exact ⟨rfl, rfl⟩ | exact ⟨by assumption, by assumption⟩
