/-! ===== the JDK's String: length and charAt on the two texts ===== -/
abbrev miJ0_coder_7d493 : Mi := (RJ0, 1, (some .byte), { frames := 0, cells := 0, slots := 0, locals := 0 }, "coder")
theorem mo_J0_coder_7d493 : MOK yJ0_coder_7d493 cJ0_coder_7d493 miJ0_coder_7d493 0 := ⟨lw1 (List.mem_of_getElem? (i := 62) (by decide +kernel)), lw1 (List.mem_of_getElem? (i := 4) (by decide +kernel)), by decide +kernel, by decide +kernel, rfl, rfl⟩
theorem mv_J0_coder_7d493 : MOKv yJ0_coder_7d493 := ⟨lw1 (List.mem_of_getElem? (i := 60) (by decide +kernel)), lw1 (List.mem_of_getElem? (i := 61) (by decide +kernel))⟩
abbrev miJ0_isLatin1_aae02 : Mi := (RJ0, 1, (some .boolean), { frames := 0, cells := 0, slots := 0, locals := 0 }, "isLatin1")
theorem mo_J0_isLatin1_aae02 : MOK yJ0_isLatin1_aae02 cJ0_isLatin1_aae02 miJ0_isLatin1_aae02 0 := ⟨lw1 (List.mem_of_getElem? (i := 72) (by decide +kernel)), lw1 (List.mem_of_getElem? (i := 4) (by decide +kernel)), by decide +kernel, by decide +kernel, rfl, rfl⟩
theorem mv_J0_isLatin1_aae02 : MOKv yJ0_isLatin1_aae02 := ⟨lw1 (List.mem_of_getElem? (i := 70) (by decide +kernel)), lw1 (List.mem_of_getElem? (i := 71) (by decide +kernel))⟩
abbrev miJ0_checkIndex_df160 : Mi := (RJ0, 2, none, { frames := 1, cells := 0, slots := 0, locals := 22 }, "checkIndex")
theorem mo_J0_checkIndex_df160 : MOK yJ0_checkIndex_df160 cJ0_checkIndex_df160 miJ0_checkIndex_df160 2 := ⟨lw1 (List.mem_of_getElem? (i := 78) (by decide +kernel)), lw1 (List.mem_of_getElem? (i := 4) (by decide +kernel)), by decide +kernel, by decide +kernel, rfl, rfl⟩
theorem ms_J0_checkIndex_df160 : Cond.static yJ0_checkIndex_df160 ∈ lw_tbl := lw1 (List.mem_of_getElem? (i := 77) (by decide +kernel))
abbrev miJ1_charAt_3b067 : Mi := (RJ1, 2, (some .char), { frames := 2, cells := 0, slots := 0, locals := 43 }, "charAt")
theorem mo_J1_charAt_3b067 : MOK yJ1_charAt_3b067 cJ1_charAt_3b067 miJ1_charAt_3b067 2 := ⟨lw1 (List.mem_of_getElem? (i := 75) (by decide +kernel)), lw1 (List.mem_of_getElem? (i := 5) (by decide +kernel)), by decide +kernel, by decide +kernel, rfl, rfl⟩
theorem ms_J1_charAt_3b067 : Cond.static yJ1_charAt_3b067 ∈ lw_tbl := lw1 (List.mem_of_getElem? (i := 74) (by decide +kernel))
abbrev miJ3_checkIndex_8e157 : Mi := (RJ3, 3, (some .int), { frames := 0, cells := 0, slots := 0, locals := 0 }, "checkIndex")
theorem mo_J3_checkIndex_8e157 : MOK yJ3_checkIndex_8e157 cJ3_checkIndex_8e157 miJ3_checkIndex_8e157 3 := ⟨lw1 (List.mem_of_getElem? (i := 83) (by decide +kernel)), lw1 (List.mem_of_getElem? (i := 6) (by decide +kernel)), by decide +kernel, by decide +kernel, rfl, rfl⟩
theorem ms_J3_checkIndex_8e157 : Cond.static yJ3_checkIndex_8e157 ∈ lw_tbl := lw1 (List.mem_of_getElem? (i := 82) (by decide +kernel))
theorem lS_335 : Cond.methodLink RJ0 335 yJ0_coder_7d493 ∈ lw_tbl := lw1 (List.mem_of_getElem? (i := 59) (by decide +kernel))
theorem lS_492 : Cond.methodLink RJ0 492 yJ0_isLatin1_aae02 ∈ lw_tbl := lw1 (List.mem_of_getElem? (i := 69) (by decide +kernel))
theorem lS_495 : MLk RJ0 495 yJ1_charAt_3b067 := Or.inl (lw1 (List.mem_of_getElem? (i := 73) (by decide +kernel)))
theorem lS_1059 : MLk RJ0 1059 yJ3_checkIndex_8e157 := Or.inl (lw1 (List.mem_of_getElem? (i := 81) (by decide +kernel)))
theorem lL_9 : MLk RJ1 9 yJ0_checkIndex_df160 := Or.inl (lw1 (List.mem_of_getElem? (i := 76) (by decide +kernel)))
theorem lS_f9 : Cond.fieldLink RJ0 9 "java/lang/String" "value" "[B" ∈ lw_tbl := lw9 (List.mem_of_getElem? (i := 151) (by decide +kernel))
theorem lS_f15 : Cond.fieldLink RJ0 15 "java/lang/String" "coder" "B" ∈ lw_tbl := lw9 (List.mem_of_getElem? (i := 152) (by decide +kernel))
theorem lS_f38 : Cond.fieldLink RJ0 38 "java/lang/String" "COMPACT_STRINGS" "Z" ∈ lw_tbl := lw1 (List.mem_of_getElem? (i := 63) (by decide +kernel))
theorem lS_f1053 : Cond.fieldLink RJ0 1053 "jdk/internal/util/Preconditions" "SIOOBE_FORMATTER" "Ljava/util/function/BiFunction;" ∈ lw_tbl := lw1 (List.mem_of_getElem? (i := 79) (by decide +kernel))
theorem lkS_X12_141 : Cond.methodLink RX12 141 yJ0_length_8abf5 ∈ lw_tbl := lw7 (List.mem_of_getElem? (i := 157) (by decide +kernel))
theorem lkS_X12_147 : Cond.methodLink RX12 147 yJ0_charAt_5068e ∈ lw_tbl := lw7 (List.mem_of_getElem? (i := 158) (by decide +kernel))
theorem lkS_X4_44 : Cond.methodLink RX4 44 yJ0_length_8abf5 ∈ lw_tbl := lw1 (List.mem_of_getElem? (i := 55) (by decide +kernel))
theorem lkS_X4_50 : Cond.methodLink RX4 50 yJ0_charAt_5068e ∈ lw_tbl := lw1 (List.mem_of_getElem? (i := 65) (by decide +kernel))
theorem V.i2c {cc : ByteArray} {mi : Mi} {Z : Zt} {n0 pc : Nat} {ls st : List Value} {h : HP} {x : Int32} (hd : decode cc pc = .ok (.i2c, 1))
    (k : V cc mi Z n0 (pc + 1) ls (.int (x.toUInt32 % 65536).toInt32 :: st) h) : V cc mi Z n0 pc ls (.int x :: st) h := by
  intro p l e s m args below meth c E H locs la hc hr hl
  exact lv_i2c hc.1 hc.2.1 hd rfl (k p l e s m args below meth c E H locs la hc hr hl)
theorem V.callVSI {cc : ByteArray} {mi : Mi} {Z : Zt} {n0 pc : Nat} {ls st : List Value} {h : HP} {y : MethodName} {cc' : ByteArray} {mi' : Mi} {idx i n : Nat} {As rest : List Value} {P : Int32 → HP → Prop} (hi : i < 2) (hd : decode cc pc = .ok (.invokevirtual idx, 3)) (hlk : Cond.methodLink mi.1 idx y ∈ lw_tbl) (hm : MOK y cc' mi' n) (hv : MOKv y) (hcl : y.cls = "java/lang/String")
    (hS : Spec y cc' mi' (.ref (NUL + (i + 2)) :: As) h (pI P)) (hst : st = As.reverse ++ .ref (NUL + (i + 2)) :: rest) (hn : As.length = n) (hR : RmOK mi.2.2.2.1 mi'.2.2.2.1 mi'.2.1) (hcat : (rest.map fun v => v.category).sum ≤ 8) (hz : mi.2.2.2.1.cells = 0)
    (k : ∀ (r : Int32) (h' : HP), P r h' → V cc mi Z n0 (pc + 3) ls (.int r :: rest) h') : V cc mi Z n0 pc ls st h :=
  V.callVS hi hd hlk hm hv hcl hS hst hn hR hcat (Or.inl hz) (fun v h' hp => by obtain ⟨r, rfl, hp⟩ := hp; exact k r h' hp)
set_option maxRecDepth 100000 in
theorem sp_COc (h : HP) {i : Nat} (hi : i < 2) : Spec yJ0_coder_7d493 cJ0_coder_7d493 miJ0_coder_7d493 [.ref (NUL + (i + 2))] h (pI fun r h' => r = 0 ∧ h' = h) := by
  refine Spec.of (ls0 := [.ref (NUL + (i + 2))]) mo_J0_coder_7d493 (Nat.le_of_ble_eq_true rfl) rfl ?_
  refine V.getsCS dJ0_coder_7d493_0 lS_f38 ?_
  refine V.if_eq (tgt := 13) dJ0_coder_7d493_3 (by decide) (fun c => absurd c (by decide)) (fun _ => ?_)
  refine V.aload_nS dJ0_coder_7d493_6 rfl rfl (by omega) (by omega) ?_
  refine V.getSc hi dJ0_coder_7d493_7 lS_f15 ?_
  refine V.goto (tgt := 14) dJ0_coder_7d493_10 (by decide) ?_
  refine V.ireturn dJ0_coder_7d493_14 rfl rfl ⟨rfl, rfl⟩ rfl ?_
  exact ⟨rfl, rfl⟩
set_option maxRecDepth 100000 in
theorem sp_LAc (h : HP) {i : Nat} (hi : i < 2) : Spec yJ0_isLatin1_aae02 cJ0_isLatin1_aae02 miJ0_isLatin1_aae02 [.ref (NUL + (i + 2))] h (pI fun r h' => r = 1 ∧ h' = h) := by
  refine Spec.of (ls0 := [.ref (NUL + (i + 2))]) mo_J0_isLatin1_aae02 (Nat.le_of_ble_eq_true rfl) rfl ?_
  refine V.getsCS dJ0_isLatin1_aae02_0 lS_f38 ?_
  refine V.if_eq (tgt := 17) dJ0_isLatin1_aae02_3 (by decide) (fun c => absurd c (by decide)) (fun _ => ?_)
  refine V.aload_nS dJ0_isLatin1_aae02_6 rfl rfl (by omega) (by omega) ?_
  refine V.getSc hi dJ0_isLatin1_aae02_7 lS_f15 ?_
  refine V.if_ne (tgt := 17) dJ0_isLatin1_aae02_10 (by decide) (fun c => absurd rfl c) (fun _ => ?_)
  refine V.iconst (v := 1) dJ0_isLatin1_aae02_13 rfl ?_
  refine V.goto (tgt := 18) dJ0_isLatin1_aae02_14 (by decide) ?_
  refine V.ireturn dJ0_isLatin1_aae02_18 rfl rfl ⟨rfl, rfl⟩ rfl ?_
  exact ⟨rfl, rfl⟩
set_option maxRecDepth 100000 in
theorem sp_LEN {h : HP} {i : Nat} (hi : i < 2) : Spec yJ0_length_8abf5 cJ0_length_8abf5 miJ0_length_8abf5 [.ref (NUL + (i + 2))] h (pI fun r h' => r = nI (sBy i).length ∧ h' = h) := by
  refine Spec.of (ls0 := [.ref (NUL + (i + 2))]) mo_J0_length_8abf5 (Nat.le_of_ble_eq_true rfl) rfl ?_
  refine V.aload_nS dJ0_length_8abf5_0 rfl rfl (by omega) (by omega) ?_
  refine V.getSv hi dJ0_length_8abf5_1 lS_f9 ?_
  refine V.alenS hi dJ0_length_8abf5_4 ?_
  refine V.aload_nS dJ0_length_8abf5_5 rfl rfl (by omega) (by omega) ?_
  refine V.callVSI hi dJ0_length_8abf5_6 lS_335 mo_J0_coder_7d493 mv_J0_coder_7d493 rfl (sp_COc h hi) rfl rfl ⟨Nat.le_of_ble_eq_true rfl, Nat.le_of_ble_eq_true rfl, fun _ => ⟨rfl, rfl⟩⟩ (Nat.le_of_ble_eq_true rfl) rfl (fun r h' p => ?_)
  obtain ⟨rfl, rfl⟩ := p
  refine V.ishr dJ0_length_8abf5_9 ?_
  refine V.ireturn dJ0_length_8abf5_10 rfl rfl ⟨rfl, rfl⟩ rfl ?_
  exact ⟨by rcases (show i = 0 ∨ i = 1 by omega) with rfl | rfl <;> decide +kernel, rfl⟩
set_option maxRecDepth 100000 in
theorem sp_PRc {h : HP} {i n : Nat} (hn : n < 2 ^ 31) (hi : i < n) {v : Value} (hv : v.category = 1) : Spec yJ3_checkIndex_8e157 cJ3_checkIndex_8e157 miJ3_checkIndex_8e157 [.int (nI i), .int (nI n), .ref (NUL + 6)] h (pI fun r h' => r = nI i ∧ h' = h) := by
  refine Spec.of (ls0 := [.int (nI i), .int (nI n), .ref (NUL + 6)]) mo_J3_checkIndex_8e157 (Nat.le_of_ble_eq_true rfl) rfl ?_
  refine V.iload_n dJ3_checkIndex_8e157_0 rfl rfl ?_
  refine V.if_lt (tgt := 9) dJ3_checkIndex_8e157_1 (by decide) (fun c => absurd c (by rw [show (0 : Int32) = nI 0 from rfl, nI_ltI (by omega) (by omega)]; omega)) (fun _ => ?_)
  refine V.iload_n dJ3_checkIndex_8e157_4 rfl rfl ?_
  refine V.iload_n dJ3_checkIndex_8e157_5 rfl rfl ?_
  refine V.icmp_lt (tgt := 16) dJ3_checkIndex_8e157_6 (by decide) (fun _ => ?_) (fun c => absurd ((nI_ltI (by omega) (by omega)).mpr hi) c)
  refine V.iload_n dJ3_checkIndex_8e157_16 rfl rfl ?_
  refine V.ireturn dJ3_checkIndex_8e157_17 rfl rfl ⟨rfl, rfl⟩ rfl ?_
  exact ⟨rfl, rfl⟩
set_option maxRecDepth 100000 in
theorem sp_CIc {h : HP} {i n : Nat} (hn : n < 2 ^ 31) (hi : i < n) : Spec yJ0_checkIndex_df160 cJ0_checkIndex_df160 miJ0_checkIndex_df160 [.int (nI i), .int (nI n)] h (pV fun h' => h' = h) := by
  refine Spec.of (ls0 := [.int (nI i), .int (nI n)]) mo_J0_checkIndex_df160 (Nat.le_of_ble_eq_true rfl) rfl ?_
  refine V.iload_n dJ0_checkIndex_df160_0 rfl rfl ?_
  refine V.iload_n dJ0_checkIndex_df160_1 rfl rfl ?_
  refine V.getsFm dJ0_checkIndex_df160_2 lS_f1053 ?_
  refine V.callSI dJ0_checkIndex_df160_5 lS_1059 mo_J3_checkIndex_8e157 ms_J3_checkIndex_8e157 (sp_PRc hn hi (v := .null) rfl) rfl rfl ⟨Nat.le_of_ble_eq_true rfl, Nat.le_of_ble_eq_true rfl, fun _ => ⟨rfl, rfl⟩⟩ (Nat.le_of_ble_eq_true rfl) rfl (fun r h' p => ?_)
  obtain ⟨rfl, rfl⟩ := p
  refine V.pop dJ0_checkIndex_df160_8 rfl ?_
  refine V.vreturn' dJ0_checkIndex_df160_9 rfl rfl (Or.inl ⟨rfl, rfl⟩) ?_
  rfl
theorem sBy_ch {i k : Nat} (hi : i < 2) (hk : k < (sBy i).length) : ((((sBy i).getD k 0) &&& 255).toUInt32 % 65536).toInt32 = (sBy i).getD k 0 ∧ narrow .char (.int ((sBy i).getD k 0)) = .int ((sBy i).getD k 0) := by
  have key : ∀ x ∈ sBy i, ((x &&& 255).toUInt32 % 65536).toInt32 = x ∧ narrow .char (.int x) = .int x := by
    rcases (show i = 0 ∨ i = 1 by omega) with rfl | rfl <;> decide +kernel
  have hm : (sBy i).getD k 0 ∈ sBy i := by
    rw [List.getD_eq_getElem?_getD, List.getElem?_eq_getElem hk]; exact List.getElem_mem _
  exact key _ hm
set_option maxRecDepth 100000 in
theorem sp_CHc {h : HP} {i k : Nat} (hi : i < 2) (hk : k < (sBy i).length) : Spec yJ1_charAt_3b067 cJ1_charAt_3b067 miJ1_charAt_3b067 [.ref (NUL + (i + 4)), .int (nI k)] h (pI fun r h' => r = (sBy i).getD k 0 ∧ h' = h) := by
  have hl : (sBy i).length < 2 ^ 31 := by rcases (show i = 0 ∨ i = 1 by omega) with rfl | rfl <;> decide +kernel
  refine Spec.of (ls0 := [.ref (NUL + (i + 4)), .int (nI k)]) mo_J1_charAt_3b067 (Nat.le_of_ble_eq_true rfl) rfl ?_
  refine V.iload_n dJ1_charAt_3b067_0 rfl rfl ?_
  refine V.aload_nS dJ1_charAt_3b067_1 rfl rfl (by omega) (by omega) ?_
  refine V.alenS hi dJ1_charAt_3b067_2 ?_
  refine V.callSV dJ1_charAt_3b067_3 lL_9 mo_J0_checkIndex_df160 ms_J0_checkIndex_df160 (sp_CIc hl hk) rfl rfl ⟨Nat.le_of_ble_eq_true rfl, Nat.le_of_ble_eq_true rfl, fun _ => ⟨rfl, rfl⟩⟩ (Nat.le_of_ble_eq_true rfl) rfl (fun h' p => ?_)
  have p := p.symm; subst p
  refine V.aload_nS dJ1_charAt_3b067_6 rfl rfl (by omega) (by omega) ?_
  refine V.iload_n dJ1_charAt_3b067_7 rfl rfl ?_
  refine V.baloadS hi dJ1_charAt_3b067_8 hk rfl ?_
  refine V.sipush (v := 255) dJ1_charAt_3b067_9 rfl ?_
  refine V.iand dJ1_charAt_3b067_12 ?_
  refine V.i2c dJ1_charAt_3b067_13 ?_
  rw [(sBy_ch hi hk).1]
  refine V.ireturn dJ1_charAt_3b067_14 rfl (sBy_ch hi hk).2 ⟨rfl, rfl⟩ rfl ?_
  exact ⟨rfl, rfl⟩
set_option maxRecDepth 100000 in
theorem sp_CHA {h : HP} {i k : Nat} (hi : i < 2) (hk : k < (sBy i).length) : Spec yJ0_charAt_5068e cJ0_charAt_5068e miJ0_charAt_5068e [.ref (NUL + (i + 2)), .int (nI k)] h (pI fun r h' => r = (sBy i).getD k 0 ∧ h' = h) := by
  refine Spec.of (ls0 := [.ref (NUL + (i + 2)), .int (nI k)]) mo_J0_charAt_5068e (Nat.le_of_ble_eq_true rfl) rfl ?_
  refine V.aload_nS dJ0_charAt_5068e_0 rfl rfl (by omega) (by omega) ?_
  refine V.callVSI hi dJ0_charAt_5068e_1 lS_492 mo_J0_isLatin1_aae02 mv_J0_isLatin1_aae02 rfl (sp_LAc h hi) rfl rfl ⟨Nat.le_of_ble_eq_true rfl, Nat.le_of_ble_eq_true rfl, fun _ => ⟨rfl, rfl⟩⟩ (Nat.le_of_ble_eq_true rfl) rfl (fun r h' p => ?_)
  obtain ⟨rfl, rfl⟩ := p
  refine V.if_eq (tgt := 16) dJ0_charAt_5068e_4 (by decide) (fun c => absurd c (by decide)) (fun _ => ?_)
  refine V.aload_nS dJ0_charAt_5068e_7 rfl rfl (by omega) (by omega) ?_
  refine V.getSv hi dJ0_charAt_5068e_8 lS_f9 ?_
  refine V.iload_n dJ0_charAt_5068e_11 rfl rfl ?_
  refine V.callSI dJ0_charAt_5068e_12 lS_495 mo_J1_charAt_3b067 ms_J1_charAt_3b067 (sp_CHc hi hk) rfl rfl ⟨Nat.le_of_ble_eq_true rfl, Nat.le_of_ble_eq_true rfl, fun _ => ⟨rfl, rfl⟩⟩ (Nat.le_of_ble_eq_true rfl) rfl (fun r h' p => ?_)
  obtain ⟨er, p⟩ := p
  have p := p.symm; subst p
  refine V.ireturn dJ0_charAt_5068e_15 rfl (by rw [er]; exact (sBy_ch hi hk).2) ⟨rfl, rfl⟩ rfl ?_
  exact ⟨er, rfl⟩
set_option maxRecDepth 100000 in
theorem th_J0_length_8abf5 {h : HP} (ly : Lay h) {rr : Int32} {hh : HP} (hf : f_J0_length_8abf5 h = some (rr, hh)) : Spec yJ0_length_8abf5 cJ0_length_8abf5 miJ0_length_8abf5 [.ref (NUL + (1 + 2))] h (pI fun r' h' => (r' = rr ∧ h' = hh) ∧ SR h hh) := by
  unfold f_J0_length_8abf5 at hf
  cases hf
  exact Spec.dI (sp_LEN (by omega)) (fun _ _ => Iff.rfl) ⟨rfl, rfl⟩
set_option maxRecDepth 100000 in
theorem th_J0_charAt_5068e {h : HP} (ly : Lay h) {k rr : Int32} {hh : HP} (hf : f_J0_charAt_5068e h k = some (rr, hh)) : Spec yJ0_charAt_5068e cJ0_charAt_5068e miJ0_charAt_5068e [.ref (NUL + (1 + 2)), .int k] h (pI fun r' h' => (r' = rr ∧ h' = hh) ∧ SR h hh) := by
  unfold f_J0_charAt_5068e at hf
  obtain ⟨g0, hf⟩ := gdi_el hf
  obtain ⟨k0, hk, hk31, rfl⟩ := vp_nat g0
  rw [nI_clamp hk31] at hf
  cases hf
  exact Spec.dI (sp_CHA (by omega) hk) (fun _ _ => Iff.rfl) ⟨rfl, rfl⟩
