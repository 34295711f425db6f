/-! ===== the class's reader of a town's text ===== -/
def RK (h : HP) : Prop := Lay h ∧ TokOK h
theorem RK.adv {h : HP} (rk : RK h) : RK (advF h) := ⟨(advF_fr h).ly rk.1, rk.2.adv⟩
theorem RK.fail {h : HP} (rk : RK h) (w : Int32) : RK (failF h w) := ⟨(failF_fr h w).ly rk.1, rk.2.fail w⟩
theorem RK.tK {h : HP} (rk : RK h) (k v : Int32) : RK (takeK k h v).2 := ⟨(takeK_fr k h v).ly rk.1, rk.2.tK k v⟩
theorem RK.tN {h : HP} (rk : RK h) (lo hi : Int32) : RK (takeN h lo hi).2 := ⟨(takeN_fr h lo hi).ly rk.1, rk.2.tN' lo hi⟩
theorem RK.keep {h h' : HP} (rk : RK h) (e1 : h'.1 = h.1) (eR : hR h' = hR h) (e5 : hI h' 5 = hI h 5) (e9 : hI h' 9 = hI h 9) (e10 : hI h' 10 = hI h 10) : RK h' := ⟨rk.1.keep e1 eR, rk.2.keep e5 e9 e10⟩
theorem isT_ge {t : Nat} (hT : isT t) : 14 ≤ t := by rcases hT with rfl | rfl | rfl | rfl | rfl <;> decide
theorem RK.empty {h : HP} (rk : RK h) {t : Nat} (hT : isT t) (w ring : Int32) : RK (emptyT h t w ring) := by
  have := isT_ge hT
  refine rk.keep rfl rfl ?_ ?_ ?_ <;> (unfold emptyT; rw [hI_rI_n _ _ (by omega), hI_rI_n _ _ (by omega), hI_rI_n _ _ (by omega), hI_rI_n _ _ (by omega)])
theorem takeK_01 (k : Int32) (h : HP) (v : Int32) : narrow .boolean (.int (takeK k h v).1) = .int (takeK k h v).1 := by
  unfold takeK
  split
  · exact (rfl : narrow .boolean (.int 1) = .int 1)
  · exact (rfl : narrow .boolean (.int 0) = .int 0)
def takeWideF (h : HP) (t : Nat) : Int32 × HP :=
  if (takeK 4 h 0).1 = 0 then (0, (takeK 4 h 0).2) else
  if (takeN (takeK 4 h 0).2 1 5).1 = 0 then (0, (takeN (takeK 4 h 0).2 1 5).2) else
  takeK 3 (emptyT (if kA (takeN (takeK 4 h 0).2 1 5).2 = 4 ∧ vA (takeN (takeK 4 h 0).2 1 5).2 = 1 then advF (takeN (takeK 4 h 0).2 1 5).2 else (takeN (takeK 4 h 0).2 1 5).2) t (hI (takeN (takeK 4 h 0).2 1 5).2 5 11) (bI (decide (kA (takeN (takeK 4 h 0).2 1 5).2 = 4 ∧ vA (takeN (takeK 4 h 0).2 1 5).2 = 1)))) 59
set_option maxRecDepth 100000 in
theorem sp_X6_takeWide {h : HP} (rkh : RK h) {t : Nat} (hT : isT t) : Spec yX6_takeWide cX6_takeWide miX6_takeWide [.ref 5, .ref t] h (pI fun r h' => r = (takeWideF h t).1 ∧ h' = (takeWideF h t).2) := by
  refine Spec.of (ls0 := [.ref 5, .ref t, .null, .null]) mo_X6_takeWide (Nat.le_of_ble_eq_true rfl) rfl ?_
  rw [rkh.1.1]
  refine V.aload_n dX6_takeWide_0 rfl rfl rfl ?_
  refine V.iconst (v := 0) dX6_takeWide_1 rfl ?_
  refine V.callVI dX6_takeWide_2 ml_X6_23 mo_X4_takeWord mv_X4_takeWord rfl (fun q hq => by cases hq; rfl) (by decide) (Or.inl ⟨rfl, SHL_lt rfl⟩) (sp_X4_takeWord rkh.1 rkh.2.a9 rkh.2.a rkh.2.le rkh.2.n rkh.2.lt _) rfl rfl ⟨Nat.le_of_ble_eq_true rfl, Nat.le_of_ble_eq_true rfl, fun _ => ⟨rfl, rfl⟩⟩ (Nat.le_of_ble_eq_true rfl) rfl (fun r1 h2 p3 => ?_)
  replace p3 := takeK_of p3
  obtain ⟨er1, eh2⟩ := p3
  have rkh2 : RK h2 := by rw [eh2]; exact rkh.tK _ _
  refine V.if_eq (tgt := 17) dX6_takeWide_5 (by decide) (fun c4 => ?_) (fun c4 => ?_)
  · refine V.iconst (v := 0) dX6_takeWide_17 rfl ?_
    refine V.ireturn dX6_takeWide_18 rfl rfl ⟨rfl, rfl⟩ rkh.1.1 ?_
    rw [er1] at c4
    subst_vars
    unfold takeWideF
    rw [if_pos c4]
    exact ⟨rfl, rfl⟩
  · refine V.aload_n dX6_takeWide_8 rfl rfl rfl ?_
    refine V.iconst (v := 1) dX6_takeWide_9 rfl ?_
    refine V.iconst (v := 5) dX6_takeWide_10 rfl ?_
    refine V.callVI dX6_takeWide_11 ml_X6_29 mo_X4_takeNumber mv_X4_takeNumber rfl (fun q hq => by cases hq; rfl) (by decide) (Or.inl ⟨rfl, SHL_lt rfl⟩) (sp_X4_takeNumber rkh2.1 rkh2.2.a9 rkh2.2.a rkh2.2.le rkh2.2.n rkh2.2.lt _ _) rfl rfl ⟨Nat.le_of_ble_eq_true rfl, Nat.le_of_ble_eq_true rfl, fun _ => ⟨rfl, rfl⟩⟩ (Nat.le_of_ble_eq_true rfl) rfl (fun r5 h6 p7 => ?_)
    replace p7 := takeN_of p7
    obtain ⟨er5, eh6⟩ := p7
    have rkh6 : RK h6 := by rw [eh6]; exact rkh2.tN _ _
    refine V.if_ne (tgt := 19) dX6_takeWide_14 (by decide) (fun c8 => ?_) (fun c8 => ?_)
    · refine V.aload_n dX6_takeWide_19 rfl rfl rfl ?_
      refine V.getI dX6_takeWide_20 fl_X6_33 rfl (Or.inl ⟨rfl, SHL_lt rfl⟩) rfl rfl ?_
      refine V.nmi (fun x9 ex9 => ?_)
      refine V.istore_n (ls' := [.ref 5, .ref t, .int x9, .null]) dX6_takeWide_23 rfl (by decide) rfl ?_
      refine V.aload_n dX6_takeWide_24 rfl rfl rfl ?_
      refine V.iconst (v := 1) dX6_takeWide_25 rfl ?_
      refine V.callVI dX6_takeWide_26 ml_X6_37 mo_X4_isWord mv_X4_isWord rfl (fun q hq => by cases hq; rfl) (by decide) (Or.inl ⟨rfl, SHL_lt rfl⟩) (sp_X4_isWord rkh6.1 rkh6.2.a9 rkh6.2.a _) rfl rfl ⟨Nat.le_of_ble_eq_true rfl, Nat.le_of_ble_eq_true rfl, fun _ => ⟨rfl, rfl⟩⟩ (Nat.le_of_ble_eq_true rfl) rfl (fun r10 h11 p12 => ?_)
      obtain ⟨er10, p12⟩ := p12
      have p12 := p12.symm
      subst p12
      refine V.istore_n (ls' := [.ref 5, .ref t, .int x9, .int r10]) dX6_takeWide_29 rfl (by decide) rfl ?_
      refine V.iload_n dX6_takeWide_30 rfl rfl ?_
      refine V.if_eq (tgt := 38) dX6_takeWide_31 (by decide) (fun c13 => ?_) (fun c13 => ?_)
      · rw [er10, bI_0] at c13
        refine V.aload_n dX6_takeWide_38 rfl rfl (sT0 hT) ?_
        refine V.iload_n dX6_takeWide_39 rfl rfl ?_
        refine V.iload_n dX6_takeWide_40 rfl rfl ?_
        refine V.callVV dX6_takeWide_41 ml_X6_43 mo_X5_makeEmpty mv_X5_makeEmpty (sT0 hT) (fun q hq => by cases hq; rfl) (by decide) (Or.inl ⟨rfl, SHL_lt (sT0 hT)⟩) (sp_X5_makeEmpty rkh6.1 hT _ _) rfl rfl ⟨Nat.le_of_ble_eq_true rfl, Nat.le_of_ble_eq_true rfl, fun _ => ⟨rfl, rfl⟩⟩ (Nat.le_of_ble_eq_true rfl) (Or.inl rfl) (fun h14 p15 => ?_)
        have eh14 := p15
        have rkh14 : RK h14 := by rw [eh14]; exact rkh6.empty hT _ _
        refine V.aload_n dX6_takeWide_44 rfl rfl rfl ?_
        refine V.bipush (v := 59) dX6_takeWide_45 rfl ?_
        refine V.callVI dX6_takeWide_47 ml_X6_49 mo_X4_takeSign mv_X4_takeSign rfl (fun q hq => by cases hq; rfl) (by decide) (Or.inl ⟨rfl, SHL_lt rfl⟩) (sp_X4_takeSign rkh14.1 rkh14.2.a9 rkh14.2.a rkh14.2.le rkh14.2.n rkh14.2.lt _) rfl rfl ⟨Nat.le_of_ble_eq_true rfl, Nat.le_of_ble_eq_true rfl, fun _ => ⟨rfl, rfl⟩⟩ (Nat.le_of_ble_eq_true rfl) rfl (fun r16 h17 p18 => ?_)
        replace p18 := takeK_of p18
        obtain ⟨er16, eh17⟩ := p18
        have rkh17 : RK h17 := by rw [eh17]; exact rkh14.tK _ _
        refine V.ireturn dX6_takeWide_50 rfl (by rw [er16]; first | rfl | exact bI_01 _ | exact takeK_01 _ _ _) ⟨rfl, rfl⟩ rkh.1.1 ?_
        rw [er1] at c4
        rw [er5] at c8
        subst_vars
        unfold takeWideF
        rw [if_neg c4, if_neg c8, if_neg c13]
        exact ⟨rfl, rfl⟩
      · rw [er10, bI_0, Decidable.not_not] at c13
        refine V.aload_n dX6_takeWide_34 rfl rfl rfl ?_
        refine V.callVV dX6_takeWide_35 ml_X6_40 mo_X4_advance mv_X4_advance rfl (fun q hq => by cases hq; rfl) (by decide) (Or.inl ⟨rfl, SHL_lt rfl⟩) (sp_X4_advance rkh6.1 rkh6.2.a9 rkh6.2.a rkh6.2.le rkh6.2.n rkh6.2.lt) rfl rfl ⟨Nat.le_of_ble_eq_true rfl, Nat.le_of_ble_eq_true rfl, fun _ => ⟨rfl, rfl⟩⟩ (Nat.le_of_ble_eq_true rfl) (Or.inl rfl) (fun h19 p20 => ?_)
        have eh19 := p20
        replace eh19 : h19 = advF h6 := eh19
        have rkh19 : RK h19 := by rw [eh19]; exact rkh6.adv
        refine V.aload_n dX6_takeWide_38 rfl rfl (sT0 hT) ?_
        refine V.iload_n dX6_takeWide_39 rfl rfl ?_
        refine V.iload_n dX6_takeWide_40 rfl rfl ?_
        refine V.callVV dX6_takeWide_41 ml_X6_43 mo_X5_makeEmpty mv_X5_makeEmpty (sT0 hT) (fun q hq => by cases hq; rfl) (by decide) (Or.inl ⟨rfl, SHL_lt (sT0 hT)⟩) (sp_X5_makeEmpty rkh19.1 hT _ _) rfl rfl ⟨Nat.le_of_ble_eq_true rfl, Nat.le_of_ble_eq_true rfl, fun _ => ⟨rfl, rfl⟩⟩ (Nat.le_of_ble_eq_true rfl) (Or.inl rfl) (fun h21 p22 => ?_)
        have eh21 := p22
        have rkh21 : RK h21 := by rw [eh21]; exact rkh19.empty hT _ _
        refine V.aload_n dX6_takeWide_44 rfl rfl rfl ?_
        refine V.bipush (v := 59) dX6_takeWide_45 rfl ?_
        refine V.callVI dX6_takeWide_47 ml_X6_49 mo_X4_takeSign mv_X4_takeSign rfl (fun q hq => by cases hq; rfl) (by decide) (Or.inl ⟨rfl, SHL_lt rfl⟩) (sp_X4_takeSign rkh21.1 rkh21.2.a9 rkh21.2.a rkh21.2.le rkh21.2.n rkh21.2.lt _) rfl rfl ⟨Nat.le_of_ble_eq_true rfl, Nat.le_of_ble_eq_true rfl, fun _ => ⟨rfl, rfl⟩⟩ (Nat.le_of_ble_eq_true rfl) rfl (fun r23 h24 p25 => ?_)
        replace p25 := takeK_of p25
        obtain ⟨er23, eh24⟩ := p25
        have rkh24 : RK h24 := by rw [eh24]; exact rkh21.tK _ _
        refine V.ireturn dX6_takeWide_50 rfl (by rw [er23]; first | rfl | exact bI_01 _ | exact takeK_01 _ _ _) ⟨rfl, rfl⟩ rkh.1.1 ?_
        rw [er1] at c4
        rw [er5] at c8
        subst_vars
        unfold takeWideF
        rw [if_neg c4, if_neg c8, if_pos c13]
        exact ⟨rfl, rfl⟩
    · refine V.iconst (v := 0) dX6_takeWide_17 rfl ?_
      refine V.ireturn dX6_takeWide_18 rfl rfl ⟨rfl, rfl⟩ rkh.1.1 ?_
      rw [er1] at c4
      rw [er5] at c8
      subst_vars
      unfold takeWideF
      rw [if_neg c4, if_pos c8]
      exact ⟨rfl, rfl⟩
theorem V.nameH {cc : ByteArray} {mi : Mi} {Z : Zt} {n0 pc : Nat} {ls st : List Value} {h : HP} (k : ∀ g, g = h → V cc mi Z n0 pc ls st g) : V cc mi Z n0 pc ls st h := k h rfl
def tM (h : HP) (t : Nat) : Nat := (hI h t 10).toNatClampNeg
def tC (h : HP) (t : Nat) : Nat := (hI h t 11).toNatClampNeg
/-- a town's numbers of rules and of citizens -/
def TP (h : HP) (t : Nat) : Prop := (tM h t ≤ 4 ∧ hI h t 10 = nI (tM h t)) ∧ tC h t ≤ 6 ∧ hI h t 11 = nI (tC h t)
theorem TP.same {h h' : HP} {t : Nat} (tp : TP h t) (e : hI h' t = hI h t) : TP h' t := by
  unfold TP tM tC at *; rw [e]; exact tp
theorem TP.fr {h h' : HP} {t : Nat} (tp : TP h t) (hT : isT t) (f : TkFr h h') : TP h' t := tp.same (f.I (by have := isT_ge hT; omega))
theorem RK.uL {h : HP} (rk : RK h) (b i : Nat) (x : Int64) : RK (uL h b i x) := rk.keep rfl rfl rfl rfl rfl
theorem RK.uI {h : HP} (rk : RK h) {b : Nat} (i : Nat) (x : Int32) (hb : 14 ≤ b) : RK (uI h b i x) :=
  rk.keep rfl rfl (hI_rI_n _ _ (by omega)) (hI_rI_n _ _ (by omega)) (hI_rI_n _ _ (by omega))
abbrev isNm (h : HP) : Prop := hI h 8 (tA h) = 4 ∧ hI h 11 (tA h) < 0 ∧ hI h 10 (tA h) ≤ 8
abbrev nmTaken (h : HP) (t : Nat) (x : Int64) : Prop := (∃ k, k < tC h t ∧ hL h (t + 12) k = x) ∨ ∃ k, k < tM h t ∧ hL h (t + 9) k = x
def newNameF (h : HP) (t : Nat) : Int32 × HP := if isNm h then (if nmTaken h t (hL h 12 (tA h)) then (0, failF h 3) else (1, h)) else (0, failF h 2)
set_option maxRecDepth 100000 in
theorem sp_X6_takeNewName {h : HP} (rkh : RK h) {t : Nat} (hT : isT t) (tph : TP h t) : Spec yX6_takeNewName cX6_takeNewName miX6_takeNewName [.ref 5, .ref t] h (pI fun r h' => r = (newNameF h t).1 ∧ h' = (newNameF h t).2) := by
  refine Spec.of (ls0 := [.ref 5, .ref t]) mo_X6_takeNewName (Nat.le_of_ble_eq_true rfl) rfl ?_
  rw [rkh.1.1]
  refine V.aload_n dX6_takeNewName_0 rfl rfl rfl ?_
  refine V.callVI dX6_takeNewName_1 ml_X6_92 mo_X4_isName mv_X4_isName rfl (fun q hq => by cases hq; rfl) (by decide) (Or.inl ⟨rfl, SHL_lt rfl⟩) (sp_X4_isName rkh.1 rkh.2.a9 rkh.2.a) rfl rfl ⟨Nat.le_of_ble_eq_true rfl, Nat.le_of_ble_eq_true rfl, fun _ => ⟨rfl, rfl⟩⟩ (Nat.le_of_ble_eq_true rfl) rfl (fun r1 h2 p3 => ?_)
  obtain ⟨er1, p3⟩ := p3
  have p3 := p3.symm
  subst p3
  refine V.if_ne (tgt := 13) dX6_takeNewName_4 (by decide) (fun c4 => ?_) (fun c4 => ?_)
  · rw [er1, bI_0, Decidable.not_not] at c4
    refine V.aload_n dX6_takeNewName_13 rfl rfl (sT0 hT) ?_
    refine V.aload_n dX6_takeNewName_14 rfl rfl rfl ?_
    refine V.callVL dX6_takeNewName_15 ml_X6_95 mo_X4_name mv_X4_name rfl (fun q hq => by cases hq; rfl) (by decide) (Or.inl ⟨rfl, SHL_lt rfl⟩) (sp_X4_name rkh.1 rkh.2.a9 rkh.2.a) rfl rfl ⟨Nat.le_of_ble_eq_true rfl, Nat.le_of_ble_eq_true rfl, fun _ => ⟨rfl, rfl⟩⟩ (Nat.le_of_ble_eq_true rfl) rfl (fun r5 h6 p7 => ?_)
    obtain ⟨er5, p7⟩ := p7
    have p7 := p7.symm
    subst p7
    refine V.callVI dX6_takeNewName_18 ml_X6_99 mo_X5_isNameTaken mv_X5_isNameTaken (sT0 hT) (fun q hq => by cases hq; rfl) (by decide) (Or.inl ⟨rfl, SHL_lt (sT0 hT)⟩) (sp_X5_isNameTaken rkh.1 hT tph.1.1 tph.1.2 tph.2.1 tph.2.2 _) rfl rfl ⟨Nat.le_of_ble_eq_true rfl, Nat.le_of_ble_eq_true rfl, fun _ => ⟨rfl, rfl⟩⟩ (Nat.le_of_ble_eq_true rfl) rfl (fun r8 h9 p10 => ?_)
    obtain ⟨er8, p10⟩ := p10
    have p10 := p10.symm
    subst p10
    refine V.if_eq (tgt := 30) dX6_takeNewName_21 (by decide) (fun c11 => ?_) (fun c11 => ?_)
    · rw [er8, bI_0] at c11
      refine V.iconst (v := 1) dX6_takeNewName_30 rfl ?_
      refine V.ireturn dX6_takeNewName_31 rfl rfl ⟨rfl, rfl⟩ rkh.1.1 ?_
      subst_vars
      unfold newNameF
      rw [if_pos c4, if_neg c11]
      exact ⟨rfl, rfl⟩
    · rw [er8, bI_0, Decidable.not_not] at c11
      refine V.aload_n dX6_takeNewName_24 rfl rfl rfl ?_
      refine V.iconst (v := 3) dX6_takeNewName_25 rfl ?_
      refine V.callVI dX6_takeNewName_26 ml_X6_52 mo_X4_fail mv_X4_fail rfl (fun q hq => by cases hq; rfl) (by decide) (Or.inl ⟨rfl, SHL_lt rfl⟩) (sp_X4_fail rkh.1 rkh.2.a9 rkh.2.a _) rfl rfl ⟨Nat.le_of_ble_eq_true rfl, Nat.le_of_ble_eq_true rfl, fun _ => ⟨rfl, rfl⟩⟩ (Nat.le_of_ble_eq_true rfl) rfl (fun r12 h13 p14 => ?_)
      obtain ⟨er12, eh13⟩ := p14
      replace eh13 : h13 = failF h _ := eh13
      have rkh13 : RK h13 := by rw [eh13]; exact rkh.fail _
      refine V.ireturn dX6_takeNewName_29 rfl (by rw [er12]; first | rfl | exact bI_01 _ | exact takeK_01 _ _ _) ⟨rfl, rfl⟩ rkh.1.1 ?_
      subst_vars
      unfold newNameF
      rw [if_pos c4, if_pos c11]
      exact ⟨rfl, rfl⟩
  · rw [er1, bI_0] at c4
    refine V.aload_n dX6_takeNewName_7 rfl rfl rfl ?_
    refine V.iconst (v := 2) dX6_takeNewName_8 rfl ?_
    refine V.callVI dX6_takeNewName_9 ml_X6_52 mo_X4_fail mv_X4_fail rfl (fun q hq => by cases hq; rfl) (by decide) (Or.inl ⟨rfl, SHL_lt rfl⟩) (sp_X4_fail rkh.1 rkh.2.a9 rkh.2.a _) rfl rfl ⟨Nat.le_of_ble_eq_true rfl, Nat.le_of_ble_eq_true rfl, fun _ => ⟨rfl, rfl⟩⟩ (Nat.le_of_ble_eq_true rfl) rfl (fun r15 h16 p17 => ?_)
    obtain ⟨er15, eh16⟩ := p17
    replace eh16 : h16 = failF h _ := eh16
    have rkh16 : RK h16 := by rw [eh16]; exact rkh.fail _
    refine V.ireturn dX6_takeNewName_12 rfl (by rw [er15]; first | rfl | exact bI_01 _ | exact takeK_01 _ _ _) ⟨rfl, rfl⟩ rkh.1.1 ?_
    subst_vars
    unfold newNameF
    rw [if_neg c4]
    exact ⟨rfl, rfl⟩
/-- the numbers of a set, from the k-th on -/
def setG : Nat → Nat → HP → Int32 → Int32 × HP
  | 0, _, h, s => (s, h)
  | f + 1, k, h, s =>
    if k = 0 ∨ (k < 10 ∧ kA h = 2) then
      if kA h = 2 ∧ vA h ≤ 4 ∧ shr s (vA h) &&& 1 ≠ 0 then (-1, failF h 5)
      else if (takeN h 0 4).1 = 0 then (-1, (takeN h 0 4).2)
      else setG f (k + 1) (takeN h 0 4).2 (s ||| shl 1 (hI (takeN h 0 4).2 5 11))
    else (s, h)
def setF (h : HP) (w : Int32) : Int32 × HP := if kA h = 4 ∧ vA h = w then setG 11 0 (advF h) 0 else (0, h)
set_option maxRecDepth 100000 in
theorem lp_X6_takeSet {h0 : HP} (hn : h0.1 = 130) {w : Int32} {P : Int32 → HP → Prop} : ∀ f k, f + k = 11 → k ≤ 10 → ∀ h1, RK h1 → ∀ s, P (setG f k h1 s).1 (setG f k h1 s).2 →
    V cX6_takeSet miX6_takeSet (ZM h0 miX6_takeSet.2.2.2.1 (pI P)) 130 18 [.ref 5, .int w, .int s, .int (nI k)] [] h1 := by
  intro f
  induction f with
  | zero => intro k h1 h2; exact absurd h1 (by omega)
  | succ f ih =>
    intro k hfk hk10 h1 rkh1 s hP
    refine V.iload_n dX6_takeSet_18 rfl rfl ?_
    refine V.if_eq (tgt := 35) dX6_takeSet_19 (by decide) (fun c1 => ?_) (fun c1 => ?_)
    · refine V.aload_n dX6_takeSet_35 rfl rfl rfl ?_
      refine V.callVI dX6_takeSet_36 ml_X6_124 mo_X4_isNumber mv_X4_isNumber rfl (fun q hq => by cases hq; rfl) (by decide) (Or.inl ⟨rfl, SHL_lt rfl⟩) (sp_X4_isNumber rkh1.1 rkh1.2.a9 rkh1.2.a) rfl rfl ⟨Nat.le_of_ble_eq_true rfl, Nat.le_of_ble_eq_true rfl, fun _ => ⟨rfl, rfl⟩⟩ (Nat.le_of_ble_eq_true rfl) rfl (fun r2 h3 p4 => ?_)
      obtain ⟨er2, p4⟩ := p4
      have p4 := p4.symm
      subst p4
      refine V.if_eq (tgt := 69) dX6_takeSet_39 (by decide) (fun c5 => ?_) (fun c5 => ?_)
      · rw [er2, bI_0] at c5
        refine V.aload_n dX6_takeSet_69 rfl rfl rfl ?_
        refine V.iconst (v := 0) dX6_takeSet_70 rfl ?_
        refine V.iconst (v := 4) dX6_takeSet_71 rfl ?_
        refine V.callVI dX6_takeSet_72 ml_X6_29 mo_X4_takeNumber mv_X4_takeNumber rfl (fun q hq => by cases hq; rfl) (by decide) (Or.inl ⟨rfl, SHL_lt rfl⟩) (sp_X4_takeNumber rkh1.1 rkh1.2.a9 rkh1.2.a rkh1.2.le rkh1.2.n rkh1.2.lt _ _) rfl rfl ⟨Nat.le_of_ble_eq_true rfl, Nat.le_of_ble_eq_true rfl, fun _ => ⟨rfl, rfl⟩⟩ (Nat.le_of_ble_eq_true rfl) rfl (fun r6 h7 p8 => ?_)
        replace p8 := takeN_of p8
        obtain ⟨er6, eh7⟩ := p8
        have rkh7 : RK h7 := by rw [eh7]; exact rkh1.tN _ _
        refine V.if_ne (tgt := 80) dX6_takeSet_75 (by decide) (fun c9 => ?_) (fun c9 => ?_)
        · refine V.iload_n dX6_takeSet_80 rfl rfl ?_
          refine V.iconst (v := 1) dX6_takeSet_81 rfl ?_
          refine V.aload_n dX6_takeSet_82 rfl rfl rfl ?_
          refine V.getI dX6_takeSet_83 fl_X6_33 rfl (Or.inl ⟨rfl, SHL_lt rfl⟩) rfl rfl ?_
          refine V.ishl dX6_takeSet_86 ?_
          refine V.ior dX6_takeSet_87 ?_
          refine V.nmi (fun x10 ex10 => ?_)
          refine V.istore_n (ls' := [.ref 5, .int w, .int x10, .int (nI k)]) dX6_takeSet_88 rfl (by decide) rfl ?_
          obtain ⟨x11, ex11⟩ : ∃ y : Int32, y = nI k + 1 := ⟨_, rfl⟩
          refine V.iinc (v := x11) (ls' := [.ref 5, .int w, .int x10, .int x11]) dX6_takeSet_89 rfl (by decide) ex11.symm rfl ?_
          refine V.goto (tgt := 18) dX6_takeSet_92 (by decide) ?_
          rw [er6] at c9
          have hgo : k = 0 ∨ (k < 10 ∧ kA h1 = 2) := Or.inl (by have h9 := c1; exact nI_inj (by omega) (by omega) (h9.trans (show (0 : Int32) = nI 0 from rfl)))
          have hdup : ¬ (kA h1 = 2 ∧ vA h1 ≤ 4 ∧ shr s (vA h1) &&& 1 ≠ 0) := fun q => absurd q.1 c5
          rw [setG, if_pos hgo, if_neg hdup, if_neg c9] at hP
          rw [ex11, nI_1]
          refine ih (k + 1) (by omega) (by omega) h7 rkh7 _ ?_
          rw [ex10, eh7]
          exact hP
        · refine V.iconst (v := (-1)) dX6_takeSet_78 rfl ?_
          refine V.ireturn dX6_takeSet_79 rfl rfl ⟨rfl, rfl⟩ hn ?_
          rw [er6] at c9
          have hgo : k = 0 ∨ (k < 10 ∧ kA h1 = 2) := Or.inl (by have h9 := c1; exact nI_inj (by omega) (by omega) (h9.trans (show (0 : Int32) = nI 0 from rfl)))
          have hdup : ¬ (kA h1 = 2 ∧ vA h1 ≤ 4 ∧ shr s (vA h1) &&& 1 ≠ 0) := fun q => absurd q.1 c5
          rw [setG, if_pos hgo, if_neg hdup, if_pos c9] at hP
          rw [eh7]
          exact hP
      · rw [er2, bI_0, Decidable.not_not] at c5
        refine V.aload_n dX6_takeSet_42 rfl rfl rfl ?_
        refine V.callVI dX6_takeSet_43 ml_X6_127 mo_X4_value mv_X4_value rfl (fun q hq => by cases hq; rfl) (by decide) (Or.inl ⟨rfl, SHL_lt rfl⟩) (sp_X4_value rkh1.1 rkh1.2.a9 rkh1.2.a) rfl rfl ⟨Nat.le_of_ble_eq_true rfl, Nat.le_of_ble_eq_true rfl, fun _ => ⟨rfl, rfl⟩⟩ (Nat.le_of_ble_eq_true rfl) rfl (fun r12 h13 p14 => ?_)
        obtain ⟨er12, p14⟩ := p14
        have p14 := p14.symm
        subst p14
        refine V.iconst (v := 4) dX6_takeSet_46 rfl ?_
        refine V.icmp_gt (tgt := 69) dX6_takeSet_47 (by decide) (fun c15 => ?_) (fun c15 => ?_)
        · refine V.aload_n dX6_takeSet_69 rfl rfl rfl ?_
          refine V.iconst (v := 0) dX6_takeSet_70 rfl ?_
          refine V.iconst (v := 4) dX6_takeSet_71 rfl ?_
          refine V.callVI dX6_takeSet_72 ml_X6_29 mo_X4_takeNumber mv_X4_takeNumber rfl (fun q hq => by cases hq; rfl) (by decide) (Or.inl ⟨rfl, SHL_lt rfl⟩) (sp_X4_takeNumber rkh1.1 rkh1.2.a9 rkh1.2.a rkh1.2.le rkh1.2.n rkh1.2.lt _ _) rfl rfl ⟨Nat.le_of_ble_eq_true rfl, Nat.le_of_ble_eq_true rfl, fun _ => ⟨rfl, rfl⟩⟩ (Nat.le_of_ble_eq_true rfl) rfl (fun r16 h17 p18 => ?_)
          replace p18 := takeN_of p18
          obtain ⟨er16, eh17⟩ := p18
          have rkh17 : RK h17 := by rw [eh17]; exact rkh1.tN _ _
          refine V.if_ne (tgt := 80) dX6_takeSet_75 (by decide) (fun c19 => ?_) (fun c19 => ?_)
          · refine V.iload_n dX6_takeSet_80 rfl rfl ?_
            refine V.iconst (v := 1) dX6_takeSet_81 rfl ?_
            refine V.aload_n dX6_takeSet_82 rfl rfl rfl ?_
            refine V.getI dX6_takeSet_83 fl_X6_33 rfl (Or.inl ⟨rfl, SHL_lt rfl⟩) rfl rfl ?_
            refine V.ishl dX6_takeSet_86 ?_
            refine V.ior dX6_takeSet_87 ?_
            refine V.nmi (fun x20 ex20 => ?_)
            refine V.istore_n (ls' := [.ref 5, .int w, .int x20, .int (nI k)]) dX6_takeSet_88 rfl (by decide) rfl ?_
            obtain ⟨x21, ex21⟩ : ∃ y : Int32, y = nI k + 1 := ⟨_, rfl⟩
            refine V.iinc (v := x21) (ls' := [.ref 5, .int w, .int x20, .int x21]) dX6_takeSet_89 rfl (by decide) ex21.symm rfl ?_
            refine V.goto (tgt := 18) dX6_takeSet_92 (by decide) ?_
            rw [er16] at c19
            have ev1 : r12 = vA h1 := er12
            have hgo : k = 0 ∨ (k < 10 ∧ kA h1 = 2) := Or.inl (by have h9 := c1; exact nI_inj (by omega) (by omega) (h9.trans (show (0 : Int32) = nI 0 from rfl)))
            have hdup : ¬ (kA h1 = 2 ∧ vA h1 ≤ 4 ∧ shr s (vA h1) &&& 1 ≠ 0) := fun q => absurd q.2.1 (Int32.not_le.mpr (by rw [← ev1]; exact c15))
            rw [setG, if_pos hgo, if_neg hdup, if_neg c19] at hP
            rw [ex21, nI_1]
            refine ih (k + 1) (by omega) (by omega) h17 rkh17 _ ?_
            rw [ex20, eh17]
            exact hP
          · refine V.iconst (v := (-1)) dX6_takeSet_78 rfl ?_
            refine V.ireturn dX6_takeSet_79 rfl rfl ⟨rfl, rfl⟩ hn ?_
            rw [er16] at c19
            have ev1 : r12 = vA h1 := er12
            have hgo : k = 0 ∨ (k < 10 ∧ kA h1 = 2) := Or.inl (by have h9 := c1; exact nI_inj (by omega) (by omega) (h9.trans (show (0 : Int32) = nI 0 from rfl)))
            have hdup : ¬ (kA h1 = 2 ∧ vA h1 ≤ 4 ∧ shr s (vA h1) &&& 1 ≠ 0) := fun q => absurd q.2.1 (Int32.not_le.mpr (by rw [← ev1]; exact c15))
            rw [setG, if_pos hgo, if_neg hdup, if_pos c19] at hP
            rw [eh17]
            exact hP
        · refine V.iload_n dX6_takeSet_50 rfl rfl ?_
          refine V.aload_n dX6_takeSet_51 rfl rfl rfl ?_
          refine V.callVI dX6_takeSet_52 ml_X6_127 mo_X4_value mv_X4_value rfl (fun q hq => by cases hq; rfl) (by decide) (Or.inl ⟨rfl, SHL_lt rfl⟩) (sp_X4_value rkh1.1 rkh1.2.a9 rkh1.2.a) rfl rfl ⟨Nat.le_of_ble_eq_true rfl, Nat.le_of_ble_eq_true rfl, fun _ => ⟨rfl, rfl⟩⟩ (Nat.le_of_ble_eq_true rfl) rfl (fun r22 h23 p24 => ?_)
          obtain ⟨er22, p24⟩ := p24
          have p24 := p24.symm
          subst p24
          refine V.ishr dX6_takeSet_55 ?_
          refine V.iconst (v := 1) dX6_takeSet_56 rfl ?_
          refine V.iand dX6_takeSet_57 ?_
          refine V.if_eq (tgt := 69) dX6_takeSet_58 (by decide) (fun c25 => ?_) (fun c25 => ?_)
          · refine V.aload_n dX6_takeSet_69 rfl rfl rfl ?_
            refine V.iconst (v := 0) dX6_takeSet_70 rfl ?_
            refine V.iconst (v := 4) dX6_takeSet_71 rfl ?_
            refine V.callVI dX6_takeSet_72 ml_X6_29 mo_X4_takeNumber mv_X4_takeNumber rfl (fun q hq => by cases hq; rfl) (by decide) (Or.inl ⟨rfl, SHL_lt rfl⟩) (sp_X4_takeNumber rkh1.1 rkh1.2.a9 rkh1.2.a rkh1.2.le rkh1.2.n rkh1.2.lt _ _) rfl rfl ⟨Nat.le_of_ble_eq_true rfl, Nat.le_of_ble_eq_true rfl, fun _ => ⟨rfl, rfl⟩⟩ (Nat.le_of_ble_eq_true rfl) rfl (fun r26 h27 p28 => ?_)
            replace p28 := takeN_of p28
            obtain ⟨er26, eh27⟩ := p28
            have rkh27 : RK h27 := by rw [eh27]; exact rkh1.tN _ _
            refine V.if_ne (tgt := 80) dX6_takeSet_75 (by decide) (fun c29 => ?_) (fun c29 => ?_)
            · refine V.iload_n dX6_takeSet_80 rfl rfl ?_
              refine V.iconst (v := 1) dX6_takeSet_81 rfl ?_
              refine V.aload_n dX6_takeSet_82 rfl rfl rfl ?_
              refine V.getI dX6_takeSet_83 fl_X6_33 rfl (Or.inl ⟨rfl, SHL_lt rfl⟩) rfl rfl ?_
              refine V.ishl dX6_takeSet_86 ?_
              refine V.ior dX6_takeSet_87 ?_
              refine V.nmi (fun x30 ex30 => ?_)
              refine V.istore_n (ls' := [.ref 5, .int w, .int x30, .int (nI k)]) dX6_takeSet_88 rfl (by decide) rfl ?_
              obtain ⟨x31, ex31⟩ : ∃ y : Int32, y = nI k + 1 := ⟨_, rfl⟩
              refine V.iinc (v := x31) (ls' := [.ref 5, .int w, .int x30, .int x31]) dX6_takeSet_89 rfl (by decide) ex31.symm rfl ?_
              refine V.goto (tgt := 18) dX6_takeSet_92 (by decide) ?_
              rw [er26] at c29
              have ev1 : r12 = vA h1 := er12
              have ev2 : r22 = vA h1 := er22
              have hgo : k = 0 ∨ (k < 10 ∧ kA h1 = 2) := Or.inl (by have h9 := c1; exact nI_inj (by omega) (by omega) (h9.trans (show (0 : Int32) = nI 0 from rfl)))
              have hdup : ¬ (kA h1 = 2 ∧ vA h1 ≤ 4 ∧ shr s (vA h1) &&& 1 ≠ 0) := fun q => absurd (by rw [← ev2]; exact c25) q.2.2
              rw [setG, if_pos hgo, if_neg hdup, if_neg c29] at hP
              rw [ex31, nI_1]
              refine ih (k + 1) (by omega) (by omega) h27 rkh27 _ ?_
              rw [ex30, eh27]
              exact hP
            · refine V.iconst (v := (-1)) dX6_takeSet_78 rfl ?_
              refine V.ireturn dX6_takeSet_79 rfl rfl ⟨rfl, rfl⟩ hn ?_
              rw [er26] at c29
              have ev1 : r12 = vA h1 := er12
              have ev2 : r22 = vA h1 := er22
              have hgo : k = 0 ∨ (k < 10 ∧ kA h1 = 2) := Or.inl (by have h9 := c1; exact nI_inj (by omega) (by omega) (h9.trans (show (0 : Int32) = nI 0 from rfl)))
              have hdup : ¬ (kA h1 = 2 ∧ vA h1 ≤ 4 ∧ shr s (vA h1) &&& 1 ≠ 0) := fun q => absurd (by rw [← ev2]; exact c25) q.2.2
              rw [setG, if_pos hgo, if_neg hdup, if_pos c29] at hP
              rw [eh27]
              exact hP
          · refine V.aload_n dX6_takeSet_61 rfl rfl rfl ?_
            refine V.iconst (v := 5) dX6_takeSet_62 rfl ?_
            refine V.callVI dX6_takeSet_63 ml_X6_52 mo_X4_fail mv_X4_fail rfl (fun q hq => by cases hq; rfl) (by decide) (Or.inl ⟨rfl, SHL_lt rfl⟩) (sp_X4_fail rkh1.1 rkh1.2.a9 rkh1.2.a _) rfl rfl ⟨Nat.le_of_ble_eq_true rfl, Nat.le_of_ble_eq_true rfl, fun _ => ⟨rfl, rfl⟩⟩ (Nat.le_of_ble_eq_true rfl) rfl (fun r32 h33 p34 => ?_)
            obtain ⟨er32, eh33⟩ := p34
            replace eh33 : h33 = failF h1 _ := eh33
            have rkh33 : RK h33 := by rw [eh33]; exact rkh1.fail _
            refine V.pop dX6_takeSet_66 rfl ?_
            refine V.iconst (v := (-1)) dX6_takeSet_67 rfl ?_
            refine V.ireturn dX6_takeSet_68 rfl rfl ⟨rfl, rfl⟩ hn ?_
            have ev1 : r12 = vA h1 := er12
            have ev2 : r22 = vA h1 := er22
            have hgo : k = 0 ∨ (k < 10 ∧ kA h1 = 2) := Or.inl (by have h9 := c1; exact nI_inj (by omega) (by omega) (h9.trans (show (0 : Int32) = nI 0 from rfl)))
            have hdup : kA h1 = 2 ∧ vA h1 ≤ 4 ∧ shr s (vA h1) &&& 1 ≠ 0 := ⟨c5, by rw [← ev1]; exact Int32.not_lt.mp c15, by rw [← ev2]; exact c25⟩
            rw [setG, if_pos hgo, if_pos hdup] at hP
            rw [eh33]
            exact hP
    · refine V.iload_n dX6_takeSet_22 rfl rfl ?_
      refine V.bipush (v := 10) dX6_takeSet_23 rfl ?_
      refine V.icmp_ge (tgt := 95) dX6_takeSet_25 (by decide) (fun c35 => ?_) (fun c35 => ?_)
      · refine V.iload_n dX6_takeSet_95 rfl rfl ?_
        refine V.ireturn dX6_takeSet_96 rfl rfl ⟨rfl, rfl⟩ hn ?_
        have hno : ¬ (k = 0 ∨ (k < 10 ∧ kA h1 = 2)) := fun q => q.elim (fun q1 => absurd (show nI k = 0 by rw [q1]; rfl) c1) (fun q2 => absurd q2.1 (by have h9 := c35; rw [show (10 : Int32) = nI 10 from rfl, nI_leI (by omega) (by omega)] at h9; omega))
        rw [setG, if_neg hno] at hP
        exact hP
      · refine V.aload_n dX6_takeSet_28 rfl rfl rfl ?_
        refine V.callVI dX6_takeSet_29 ml_X6_124 mo_X4_isNumber mv_X4_isNumber rfl (fun q hq => by cases hq; rfl) (by decide) (Or.inl ⟨rfl, SHL_lt rfl⟩) (sp_X4_isNumber rkh1.1 rkh1.2.a9 rkh1.2.a) rfl rfl ⟨Nat.le_of_ble_eq_true rfl, Nat.le_of_ble_eq_true rfl, fun _ => ⟨rfl, rfl⟩⟩ (Nat.le_of_ble_eq_true rfl) rfl (fun r36 h37 p38 => ?_)
        obtain ⟨er36, p38⟩ := p38
        have p38 := p38.symm
        subst p38
        refine V.if_eq (tgt := 95) dX6_takeSet_32 (by decide) (fun c39 => ?_) (fun c39 => ?_)
        · rw [er36, bI_0] at c39
          refine V.iload_n dX6_takeSet_95 rfl rfl ?_
          refine V.ireturn dX6_takeSet_96 rfl rfl ⟨rfl, rfl⟩ hn ?_
          have hno : ¬ (k = 0 ∨ (k < 10 ∧ kA h1 = 2)) := fun q => q.elim (fun q1 => absurd (show nI k = 0 by rw [q1]; rfl) c1) (fun q2 => absurd q2.2 c39)
          rw [setG, if_neg hno] at hP
          exact hP
        · rw [er36, bI_0, Decidable.not_not] at c39
          refine V.aload_n dX6_takeSet_35 rfl rfl rfl ?_
          refine V.callVI dX6_takeSet_36 ml_X6_124 mo_X4_isNumber mv_X4_isNumber rfl (fun q hq => by cases hq; rfl) (by decide) (Or.inl ⟨rfl, SHL_lt rfl⟩) (sp_X4_isNumber rkh1.1 rkh1.2.a9 rkh1.2.a) rfl rfl ⟨Nat.le_of_ble_eq_true rfl, Nat.le_of_ble_eq_true rfl, fun _ => ⟨rfl, rfl⟩⟩ (Nat.le_of_ble_eq_true rfl) rfl (fun r40 h41 p42 => ?_)
          obtain ⟨er40, p42⟩ := p42
          have p42 := p42.symm
          subst p42
          refine V.if_eq (tgt := 69) dX6_takeSet_39 (by decide) (fun c43 => ?_) (fun c43 => ?_)
          · rw [er40, bI_0] at c43
            refine V.aload_n dX6_takeSet_69 rfl rfl rfl ?_
            refine V.iconst (v := 0) dX6_takeSet_70 rfl ?_
            refine V.iconst (v := 4) dX6_takeSet_71 rfl ?_
            refine V.callVI dX6_takeSet_72 ml_X6_29 mo_X4_takeNumber mv_X4_takeNumber rfl (fun q hq => by cases hq; rfl) (by decide) (Or.inl ⟨rfl, SHL_lt rfl⟩) (sp_X4_takeNumber rkh1.1 rkh1.2.a9 rkh1.2.a rkh1.2.le rkh1.2.n rkh1.2.lt _ _) rfl rfl ⟨Nat.le_of_ble_eq_true rfl, Nat.le_of_ble_eq_true rfl, fun _ => ⟨rfl, rfl⟩⟩ (Nat.le_of_ble_eq_true rfl) rfl (fun r44 h45 p46 => ?_)
            replace p46 := takeN_of p46
            obtain ⟨er44, eh45⟩ := p46
            have rkh45 : RK h45 := by rw [eh45]; exact rkh1.tN _ _
            refine V.if_ne (tgt := 80) dX6_takeSet_75 (by decide) (fun c47 => ?_) (fun c47 => ?_)
            · refine V.iload_n dX6_takeSet_80 rfl rfl ?_
              refine V.iconst (v := 1) dX6_takeSet_81 rfl ?_
              refine V.aload_n dX6_takeSet_82 rfl rfl rfl ?_
              refine V.getI dX6_takeSet_83 fl_X6_33 rfl (Or.inl ⟨rfl, SHL_lt rfl⟩) rfl rfl ?_
              refine V.ishl dX6_takeSet_86 ?_
              refine V.ior dX6_takeSet_87 ?_
              refine V.nmi (fun x48 ex48 => ?_)
              refine V.istore_n (ls' := [.ref 5, .int w, .int x48, .int (nI k)]) dX6_takeSet_88 rfl (by decide) rfl ?_
              obtain ⟨x49, ex49⟩ : ∃ y : Int32, y = nI k + 1 := ⟨_, rfl⟩
              refine V.iinc (v := x49) (ls' := [.ref 5, .int w, .int x48, .int x49]) dX6_takeSet_89 rfl (by decide) ex49.symm rfl ?_
              refine V.goto (tgt := 18) dX6_takeSet_92 (by decide) ?_
              rw [er44] at c47
              have hgo : k = 0 ∨ (k < 10 ∧ kA h1 = 2) := Or.inr ⟨by have h9 := c35; rw [show (10 : Int32) = nI 10 from rfl, nI_leI (by omega) (by omega)] at h9; omega, c39⟩
              have hdup : ¬ (kA h1 = 2 ∧ vA h1 ≤ 4 ∧ shr s (vA h1) &&& 1 ≠ 0) := fun q => absurd q.1 c43
              rw [setG, if_pos hgo, if_neg hdup, if_neg c47] at hP
              rw [ex49, nI_1]
              refine ih (k + 1) (by omega) (by omega) h45 rkh45 _ ?_
              rw [ex48, eh45]
              exact hP
            · refine V.iconst (v := (-1)) dX6_takeSet_78 rfl ?_
              refine V.ireturn dX6_takeSet_79 rfl rfl ⟨rfl, rfl⟩ hn ?_
              rw [er44] at c47
              have hgo : k = 0 ∨ (k < 10 ∧ kA h1 = 2) := Or.inr ⟨by have h9 := c35; rw [show (10 : Int32) = nI 10 from rfl, nI_leI (by omega) (by omega)] at h9; omega, c39⟩
              have hdup : ¬ (kA h1 = 2 ∧ vA h1 ≤ 4 ∧ shr s (vA h1) &&& 1 ≠ 0) := fun q => absurd q.1 c43
              rw [setG, if_pos hgo, if_neg hdup, if_pos c47] at hP
              rw [eh45]
              exact hP
          · rw [er40, bI_0, Decidable.not_not] at c43
            refine V.aload_n dX6_takeSet_42 rfl rfl rfl ?_
            refine V.callVI dX6_takeSet_43 ml_X6_127 mo_X4_value mv_X4_value rfl (fun q hq => by cases hq; rfl) (by decide) (Or.inl ⟨rfl, SHL_lt rfl⟩) (sp_X4_value rkh1.1 rkh1.2.a9 rkh1.2.a) rfl rfl ⟨Nat.le_of_ble_eq_true rfl, Nat.le_of_ble_eq_true rfl, fun _ => ⟨rfl, rfl⟩⟩ (Nat.le_of_ble_eq_true rfl) rfl (fun r50 h51 p52 => ?_)
            obtain ⟨er50, p52⟩ := p52
            have p52 := p52.symm
            subst p52
            refine V.iconst (v := 4) dX6_takeSet_46 rfl ?_
            refine V.icmp_gt (tgt := 69) dX6_takeSet_47 (by decide) (fun c53 => ?_) (fun c53 => ?_)
            · refine V.aload_n dX6_takeSet_69 rfl rfl rfl ?_
              refine V.iconst (v := 0) dX6_takeSet_70 rfl ?_
              refine V.iconst (v := 4) dX6_takeSet_71 rfl ?_
              refine V.callVI dX6_takeSet_72 ml_X6_29 mo_X4_takeNumber mv_X4_takeNumber rfl (fun q hq => by cases hq; rfl) (by decide) (Or.inl ⟨rfl, SHL_lt rfl⟩) (sp_X4_takeNumber rkh1.1 rkh1.2.a9 rkh1.2.a rkh1.2.le rkh1.2.n rkh1.2.lt _ _) rfl rfl ⟨Nat.le_of_ble_eq_true rfl, Nat.le_of_ble_eq_true rfl, fun _ => ⟨rfl, rfl⟩⟩ (Nat.le_of_ble_eq_true rfl) rfl (fun r54 h55 p56 => ?_)
              replace p56 := takeN_of p56
              obtain ⟨er54, eh55⟩ := p56
              have rkh55 : RK h55 := by rw [eh55]; exact rkh1.tN _ _
              refine V.if_ne (tgt := 80) dX6_takeSet_75 (by decide) (fun c57 => ?_) (fun c57 => ?_)
              · refine V.iload_n dX6_takeSet_80 rfl rfl ?_
                refine V.iconst (v := 1) dX6_takeSet_81 rfl ?_
                refine V.aload_n dX6_takeSet_82 rfl rfl rfl ?_
                refine V.getI dX6_takeSet_83 fl_X6_33 rfl (Or.inl ⟨rfl, SHL_lt rfl⟩) rfl rfl ?_
                refine V.ishl dX6_takeSet_86 ?_
                refine V.ior dX6_takeSet_87 ?_
                refine V.nmi (fun x58 ex58 => ?_)
                refine V.istore_n (ls' := [.ref 5, .int w, .int x58, .int (nI k)]) dX6_takeSet_88 rfl (by decide) rfl ?_
                obtain ⟨x59, ex59⟩ : ∃ y : Int32, y = nI k + 1 := ⟨_, rfl⟩
                refine V.iinc (v := x59) (ls' := [.ref 5, .int w, .int x58, .int x59]) dX6_takeSet_89 rfl (by decide) ex59.symm rfl ?_
                refine V.goto (tgt := 18) dX6_takeSet_92 (by decide) ?_
                rw [er54] at c57
                have ev1 : r50 = vA h1 := er50
                have hgo : k = 0 ∨ (k < 10 ∧ kA h1 = 2) := Or.inr ⟨by have h9 := c35; rw [show (10 : Int32) = nI 10 from rfl, nI_leI (by omega) (by omega)] at h9; omega, c39⟩
                have hdup : ¬ (kA h1 = 2 ∧ vA h1 ≤ 4 ∧ shr s (vA h1) &&& 1 ≠ 0) := fun q => absurd q.2.1 (Int32.not_le.mpr (by rw [← ev1]; exact c53))
                rw [setG, if_pos hgo, if_neg hdup, if_neg c57] at hP
                rw [ex59, nI_1]
                refine ih (k + 1) (by omega) (by omega) h55 rkh55 _ ?_
                rw [ex58, eh55]
                exact hP
              · refine V.iconst (v := (-1)) dX6_takeSet_78 rfl ?_
                refine V.ireturn dX6_takeSet_79 rfl rfl ⟨rfl, rfl⟩ hn ?_
                rw [er54] at c57
                have ev1 : r50 = vA h1 := er50
                have hgo : k = 0 ∨ (k < 10 ∧ kA h1 = 2) := Or.inr ⟨by have h9 := c35; rw [show (10 : Int32) = nI 10 from rfl, nI_leI (by omega) (by omega)] at h9; omega, c39⟩
                have hdup : ¬ (kA h1 = 2 ∧ vA h1 ≤ 4 ∧ shr s (vA h1) &&& 1 ≠ 0) := fun q => absurd q.2.1 (Int32.not_le.mpr (by rw [← ev1]; exact c53))
                rw [setG, if_pos hgo, if_neg hdup, if_pos c57] at hP
                rw [eh55]
                exact hP
            · refine V.iload_n dX6_takeSet_50 rfl rfl ?_
              refine V.aload_n dX6_takeSet_51 rfl rfl rfl ?_
              refine V.callVI dX6_takeSet_52 ml_X6_127 mo_X4_value mv_X4_value rfl (fun q hq => by cases hq; rfl) (by decide) (Or.inl ⟨rfl, SHL_lt rfl⟩) (sp_X4_value rkh1.1 rkh1.2.a9 rkh1.2.a) rfl rfl ⟨Nat.le_of_ble_eq_true rfl, Nat.le_of_ble_eq_true rfl, fun _ => ⟨rfl, rfl⟩⟩ (Nat.le_of_ble_eq_true rfl) rfl (fun r60 h61 p62 => ?_)
              obtain ⟨er60, p62⟩ := p62
              have p62 := p62.symm
              subst p62
              refine V.ishr dX6_takeSet_55 ?_
              refine V.iconst (v := 1) dX6_takeSet_56 rfl ?_
              refine V.iand dX6_takeSet_57 ?_
              refine V.if_eq (tgt := 69) dX6_takeSet_58 (by decide) (fun c63 => ?_) (fun c63 => ?_)
              · refine V.aload_n dX6_takeSet_69 rfl rfl rfl ?_
                refine V.iconst (v := 0) dX6_takeSet_70 rfl ?_
                refine V.iconst (v := 4) dX6_takeSet_71 rfl ?_
                refine V.callVI dX6_takeSet_72 ml_X6_29 mo_X4_takeNumber mv_X4_takeNumber rfl (fun q hq => by cases hq; rfl) (by decide) (Or.inl ⟨rfl, SHL_lt rfl⟩) (sp_X4_takeNumber rkh1.1 rkh1.2.a9 rkh1.2.a rkh1.2.le rkh1.2.n rkh1.2.lt _ _) rfl rfl ⟨Nat.le_of_ble_eq_true rfl, Nat.le_of_ble_eq_true rfl, fun _ => ⟨rfl, rfl⟩⟩ (Nat.le_of_ble_eq_true rfl) rfl (fun r64 h65 p66 => ?_)
                replace p66 := takeN_of p66
                obtain ⟨er64, eh65⟩ := p66
                have rkh65 : RK h65 := by rw [eh65]; exact rkh1.tN _ _
                refine V.if_ne (tgt := 80) dX6_takeSet_75 (by decide) (fun c67 => ?_) (fun c67 => ?_)
                · refine V.iload_n dX6_takeSet_80 rfl rfl ?_
                  refine V.iconst (v := 1) dX6_takeSet_81 rfl ?_
                  refine V.aload_n dX6_takeSet_82 rfl rfl rfl ?_
                  refine V.getI dX6_takeSet_83 fl_X6_33 rfl (Or.inl ⟨rfl, SHL_lt rfl⟩) rfl rfl ?_
                  refine V.ishl dX6_takeSet_86 ?_
                  refine V.ior dX6_takeSet_87 ?_
                  refine V.nmi (fun x68 ex68 => ?_)
                  refine V.istore_n (ls' := [.ref 5, .int w, .int x68, .int (nI k)]) dX6_takeSet_88 rfl (by decide) rfl ?_
                  obtain ⟨x69, ex69⟩ : ∃ y : Int32, y = nI k + 1 := ⟨_, rfl⟩
                  refine V.iinc (v := x69) (ls' := [.ref 5, .int w, .int x68, .int x69]) dX6_takeSet_89 rfl (by decide) ex69.symm rfl ?_
                  refine V.goto (tgt := 18) dX6_takeSet_92 (by decide) ?_
                  rw [er64] at c67
                  have ev1 : r50 = vA h1 := er50
                  have ev2 : r60 = vA h1 := er60
                  have hgo : k = 0 ∨ (k < 10 ∧ kA h1 = 2) := Or.inr ⟨by have h9 := c35; rw [show (10 : Int32) = nI 10 from rfl, nI_leI (by omega) (by omega)] at h9; omega, c39⟩
                  have hdup : ¬ (kA h1 = 2 ∧ vA h1 ≤ 4 ∧ shr s (vA h1) &&& 1 ≠ 0) := fun q => absurd (by rw [← ev2]; exact c63) q.2.2
                  rw [setG, if_pos hgo, if_neg hdup, if_neg c67] at hP
                  rw [ex69, nI_1]
                  refine ih (k + 1) (by omega) (by omega) h65 rkh65 _ ?_
                  rw [ex68, eh65]
                  exact hP
                · refine V.iconst (v := (-1)) dX6_takeSet_78 rfl ?_
                  refine V.ireturn dX6_takeSet_79 rfl rfl ⟨rfl, rfl⟩ hn ?_
                  rw [er64] at c67
                  have ev1 : r50 = vA h1 := er50
                  have ev2 : r60 = vA h1 := er60
                  have hgo : k = 0 ∨ (k < 10 ∧ kA h1 = 2) := Or.inr ⟨by have h9 := c35; rw [show (10 : Int32) = nI 10 from rfl, nI_leI (by omega) (by omega)] at h9; omega, c39⟩
                  have hdup : ¬ (kA h1 = 2 ∧ vA h1 ≤ 4 ∧ shr s (vA h1) &&& 1 ≠ 0) := fun q => absurd (by rw [← ev2]; exact c63) q.2.2
                  rw [setG, if_pos hgo, if_neg hdup, if_pos c67] at hP
                  rw [eh65]
                  exact hP
              · refine V.aload_n dX6_takeSet_61 rfl rfl rfl ?_
                refine V.iconst (v := 5) dX6_takeSet_62 rfl ?_
                refine V.callVI dX6_takeSet_63 ml_X6_52 mo_X4_fail mv_X4_fail rfl (fun q hq => by cases hq; rfl) (by decide) (Or.inl ⟨rfl, SHL_lt rfl⟩) (sp_X4_fail rkh1.1 rkh1.2.a9 rkh1.2.a _) rfl rfl ⟨Nat.le_of_ble_eq_true rfl, Nat.le_of_ble_eq_true rfl, fun _ => ⟨rfl, rfl⟩⟩ (Nat.le_of_ble_eq_true rfl) rfl (fun r70 h71 p72 => ?_)
                obtain ⟨er70, eh71⟩ := p72
                replace eh71 : h71 = failF h1 _ := eh71
                have rkh71 : RK h71 := by rw [eh71]; exact rkh1.fail _
                refine V.pop dX6_takeSet_66 rfl ?_
                refine V.iconst (v := (-1)) dX6_takeSet_67 rfl ?_
                refine V.ireturn dX6_takeSet_68 rfl rfl ⟨rfl, rfl⟩ hn ?_
                have ev1 : r50 = vA h1 := er50
                have ev2 : r60 = vA h1 := er60
                have hgo : k = 0 ∨ (k < 10 ∧ kA h1 = 2) := Or.inr ⟨by have h9 := c35; rw [show (10 : Int32) = nI 10 from rfl, nI_leI (by omega) (by omega)] at h9; omega, c39⟩
                have hdup : kA h1 = 2 ∧ vA h1 ≤ 4 ∧ shr s (vA h1) &&& 1 ≠ 0 := ⟨c43, by rw [← ev1]; exact Int32.not_lt.mp c53, by rw [← ev2]; exact c63⟩
                rw [setG, if_pos hgo, if_pos hdup] at hP
                rw [eh71]
                exact hP
set_option maxRecDepth 100000 in
theorem sp_X6_takeSet {h : HP} (rkh : RK h) (w : Int32) : Spec yX6_takeSet cX6_takeSet miX6_takeSet [.ref 5, .int w] h (pI fun r h' => r = (setF h w).1 ∧ h' = (setF h w).2) := by
  refine Spec.of (ls0 := [.ref 5, .int w, .null, .null]) mo_X6_takeSet (Nat.le_of_ble_eq_true rfl) rfl ?_
  rw [rkh.1.1]
  refine V.aload_n dX6_takeSet_0 rfl rfl rfl ?_
  refine V.iload_n dX6_takeSet_1 rfl rfl ?_
  refine V.callVI dX6_takeSet_2 ml_X6_37 mo_X4_isWord mv_X4_isWord rfl (fun q hq => by cases hq; rfl) (by decide) (Or.inl ⟨rfl, SHL_lt rfl⟩) (sp_X4_isWord rkh.1 rkh.2.a9 rkh.2.a _) rfl rfl ⟨Nat.le_of_ble_eq_true rfl, Nat.le_of_ble_eq_true rfl, fun _ => ⟨rfl, rfl⟩⟩ (Nat.le_of_ble_eq_true rfl) rfl (fun r1 h2 p3 => ?_)
  obtain ⟨er1, p3⟩ := p3
  have p3 := p3.symm
  subst p3
  refine V.if_ne (tgt := 10) dX6_takeSet_5 (by decide) (fun c4 => ?_) (fun c4 => ?_)
  · rw [er1, bI_0, Decidable.not_not] at c4
    refine V.aload_n dX6_takeSet_10 rfl rfl rfl ?_
    refine V.callVV dX6_takeSet_11 ml_X6_40 mo_X4_advance mv_X4_advance rfl (fun q hq => by cases hq; rfl) (by decide) (Or.inl ⟨rfl, SHL_lt rfl⟩) (sp_X4_advance rkh.1 rkh.2.a9 rkh.2.a rkh.2.le rkh.2.n rkh.2.lt) rfl rfl ⟨Nat.le_of_ble_eq_true rfl, Nat.le_of_ble_eq_true rfl, fun _ => ⟨rfl, rfl⟩⟩ (Nat.le_of_ble_eq_true rfl) (Or.inl rfl) (fun h5 p6 => ?_)
    have eh5 := p6
    replace eh5 : h5 = advF h := eh5
    have rkh5 : RK h5 := by rw [eh5]; exact rkh.adv
    refine V.iconst (v := 0) dX6_takeSet_14 rfl ?_
    refine V.istore_n (ls' := [.ref 5, .int w, .int 0, .null]) dX6_takeSet_15 rfl (by decide) rfl ?_
    refine V.iconst (v := 0) dX6_takeSet_16 rfl ?_
    refine V.istore_n (ls' := [.ref 5, .int w, .int 0, .int 0]) dX6_takeSet_17 rfl (by decide) rfl ?_
    have key := lp_X6_takeSet (h0 := h) rkh.1.1 (w := w) (P := fun r h' => r = (setF h w).1 ∧ h' = (setF h w).2) 11 0 rfl (by omega) h5 rkh5 0 (by unfold setF; rw [if_pos c4, eh5]; exact ⟨rfl, rfl⟩)
    exact key
  · rw [er1, bI_0] at c4
    refine V.iconst (v := 0) dX6_takeSet_8 rfl ?_
    refine V.ireturn dX6_takeSet_9 rfl rfl ⟨rfl, rfl⟩ rkh.1.1 ?_
    subst_vars
    unfold setF
    rw [if_neg c4]
    exact ⟨rfl, rfl⟩
theorem setG_fr : ∀ f k h s, TkFr h (setG f k h s).2
  | 0, _, h, _ => TkFr.refl h
  | f + 1, k, h, s => by
    unfold setG; split
    · split
      · exact failF_fr h 5
      · split
        · exact takeN_fr h 0 4
        · exact (takeN_fr h 0 4).trans (setG_fr f (k + 1) _ _)
    · exact TkFr.refl h
theorem setG_rk : ∀ f k h s, RK h → RK (setG f k h s).2
  | 0, _, _, _, rk => rk
  | f + 1, k, h, s, rk => by
    unfold setG; split
    · split
      · exact rk.fail 5
      · split
        · exact rk.tN 0 4
        · exact setG_rk f (k + 1) _ _ (rk.tN 0 4)
    · exact rk
theorem setF_fr (h : HP) (w : Int32) : TkFr h (setF h w).2 := by
  unfold setF; split
  · exact (advF_fr h).trans (setG_fr _ _ _ _)
  · exact TkFr.refl h
theorem RK.set {h : HP} (rk : RK h) (w : Int32) : RK (setF h w).2 := by
  unfold setF; split
  · exact setG_rk _ _ _ _ rk.adv
  · exact rk
theorem newNameF_fr (h : HP) (t : Nat) : TkFr h (newNameF h t).2 := by
  unfold newNameF; split
  · split
    · exact failF_fr h 3
    · exact TkFr.refl h
  · exact failF_fr h 2
theorem RK.nn {h : HP} (rk : RK h) (t : Nat) : RK (newNameF h t).2 := by
  unfold newNameF; split
  · split
    · exact rk.fail 3
    · exact rk
  · exact rk.fail 2
def ruleF (h : HP) (t : Nat) : Int32 × HP :=
  if hI h t 10 < 4 then
    let n := newNameF (advF h) t
    if n.1 = 0 then (0, n.2) else
    let b := setF (advF (uL n.2 (t + 9) (tM h t) (hL n.2 12 (tA n.2)))) 4
    if b.1 < 0 then (0, b.2) else
    let c := setF b.2 5
    if c.1 < 0 then (0, c.2) else
    let d := takeK 3 c.2 59
    if d.1 = 0 then (0, d.2) else
    (1, uI (uI (uI d.2 (t + 10) (tM h t) b.1) (t + 11) (tM h t) c.1) t 10 (hI h t 10 + 1))
  else (0, failF h 6)
set_option maxRecDepth 100000 in
theorem sp_X6_takeRule {h : HP} (rkh : RK h) {t : Nat} (hT : isT t) (tph : TP h t) : Spec yX6_takeRule cX6_takeRule miX6_takeRule [.ref 5, .ref t] h (pI fun r h' => r = (ruleF h t).1 ∧ h' = (ruleF h t).2) := by
  refine Spec.of (ls0 := [.ref 5, .ref t, .null, .null, .null]) mo_X6_takeRule (Nat.le_of_ble_eq_true rfl) rfl ?_
  rw [rkh.1.1]
  have ht14 := isT_ge hT
  have ftk : True := trivial
  have fth : hI h t = hI h t := rfl
  refine V.aload_n dX6_takeRule_0 rfl rfl (sT0 hT) ?_
  refine V.getI dX6_takeRule_1 fl_X6_103 (sT0 hT) (Or.inl ⟨rfl, SHL_lt (sT0 hT)⟩) rfl rfl ?_
  obtain ⟨m, em⟩ : ∃ m, m = tM h t := ⟨_, rfl⟩
  have hr := tph.1.2
  rw [← em] at hr
  have hm := tph.1.1; rw [← em] at hm
  rw [hr]
  refine V.istore_n (ls' := [.ref 5, .ref t, .int (nI m), .null, .null]) dX6_takeRule_4 rfl (by decide) rfl ?_
  refine V.iload_n dX6_takeRule_5 rfl rfl ?_
  refine V.iconst (v := 4) dX6_takeRule_6 rfl ?_
  refine V.icmp_lt (tgt := 17) dX6_takeRule_7 (by decide) (fun c1 => ?_) (fun c1 => ?_)
  · have hm4 : m < 4 := by have h9 := c1; rw [show (4 : Int32) = nI 4 from rfl, nI_ltI (by omega) (by omega)] at h9; exact h9
    refine V.aload_n dX6_takeRule_17 rfl rfl rfl ?_
    refine V.callVV dX6_takeRule_18 ml_X6_40 mo_X4_advance mv_X4_advance rfl (fun q hq => by cases hq; rfl) (by decide) (Or.inl ⟨rfl, SHL_lt rfl⟩) (sp_X4_advance rkh.1 rkh.2.a9 rkh.2.a rkh.2.le rkh.2.n rkh.2.lt) rfl rfl ⟨Nat.le_of_ble_eq_true rfl, Nat.le_of_ble_eq_true rfl, fun _ => ⟨rfl, rfl⟩⟩ (Nat.le_of_ble_eq_true rfl) (Or.inl rfl) (fun h2 p3 => ?_)
    have eh2 := p3
    replace eh2 : h2 = advF h := eh2
    have rkh2 : RK h2 := by rw [eh2]; exact rkh.adv
    have fth2 : hI h2 t = hI h t := (TkFr.I (show TkFr h h2 by rw [eh2]; exact advF_fr _) (by omega)).trans fth
    have tph2 : TP h2 t := tph.same fth2
    refine V.aload_n dX6_takeRule_21 rfl rfl rfl ?_
    refine V.aload_n dX6_takeRule_22 rfl rfl (sT0 hT) ?_
    refine V.callSI dX6_takeRule_23 ml_X6_106 mo_X6_takeNewName ms_X6_takeNewName (sp_X6_takeNewName rkh2 hT tph2) rfl rfl ⟨Nat.le_of_ble_eq_true rfl, Nat.le_of_ble_eq_true rfl, fun _ => ⟨rfl, rfl⟩⟩ (Nat.le_of_ble_eq_true rfl) rfl (fun r4 h5 p6 => ?_)
    obtain ⟨er4, eh5⟩ := p6
    have rkh5 : RK h5 := by rw [eh5]; exact rkh2.nn t
    have fth5 : hI h5 t = hI h t := (TkFr.I (show TkFr h2 h5 by rw [eh5]; exact newNameF_fr _ _) (by omega)).trans fth2
    have tph5 : TP h5 t := tph.same fth5
    refine V.if_ne (tgt := 31) dX6_takeRule_26 (by decide) (fun c7 => ?_) (fun c7 => ?_)
    · refine V.aload_n dX6_takeRule_31 rfl rfl (sT0 hT) ?_
      refine V.getR (r := t + 9) dX6_takeRule_32 fl_X6_109 (sT0 hT) (Or.inl ⟨rfl, SHL_lt (sT0 hT)⟩) rfl (rT_ruleNames rkh5.1 hT) ?_
      refine V.iload_n dX6_takeRule_35 rfl rfl ?_
      refine V.aload_n dX6_takeRule_36 rfl rfl rfl ?_
      refine V.callVL dX6_takeRule_37 ml_X6_95 mo_X4_name mv_X4_name rfl (fun q hq => by cases hq; rfl) (by decide) (Or.inl ⟨rfl, SHL_lt rfl⟩) (sp_X4_name rkh5.1 rkh5.2.a9 rkh5.2.a) rfl rfl ⟨Nat.le_of_ble_eq_true rfl, Nat.le_of_ble_eq_true rfl, fun _ => ⟨rfl, rfl⟩⟩ (Nat.le_of_ble_eq_true rfl) rfl (fun r8 h9 p10 => ?_)
      obtain ⟨er8, p10⟩ := p10
      have p10 := p10.symm
      subst p10
      refine V.lastore dX6_takeRule_40 (sT9 hT) (Or.inl ⟨rfl, SHL_lt (sT9 hT)⟩) (vp_in_nI hm4 (by decide)) ?_
      rw [nI_clamp (show m < 2 ^ 31 by omega)]
      refine V.nameH (fun g11 eg11 => ?_)
      have rkg11 : RK g11 := by rw [eg11]; exact rkh5.uL _ _ _
      have ftg11 : hI g11 t = hI h t := by rw [eg11]; exact fth5
      have tpg11 : TP g11 t := tph.same ftg11
      refine V.aload_n dX6_takeRule_41 rfl rfl rfl ?_
      refine V.callVV dX6_takeRule_42 ml_X6_40 mo_X4_advance mv_X4_advance rfl (fun q hq => by cases hq; rfl) (by decide) (Or.inl ⟨rfl, SHL_lt rfl⟩) (sp_X4_advance rkg11.1 rkg11.2.a9 rkg11.2.a rkg11.2.le rkg11.2.n rkg11.2.lt) rfl rfl ⟨Nat.le_of_ble_eq_true rfl, Nat.le_of_ble_eq_true rfl, fun _ => ⟨rfl, rfl⟩⟩ (Nat.le_of_ble_eq_true rfl) (Or.inl rfl) (fun h12 p13 => ?_)
      have eh12 := p13
      replace eh12 : h12 = advF g11 := eh12
      have rkh12 : RK h12 := by rw [eh12]; exact rkg11.adv
      have fth12 : hI h12 t = hI h t := (TkFr.I (show TkFr g11 h12 by rw [eh12]; exact advF_fr _) (by omega)).trans ftg11
      have tph12 : TP h12 t := tph.same fth12
      refine V.aload_n dX6_takeRule_45 rfl rfl rfl ?_
      refine V.iconst (v := 4) dX6_takeRule_46 rfl ?_
      refine V.callSI dX6_takeRule_47 ml_X6_113 mo_X6_takeSet ms_X6_takeSet (sp_X6_takeSet rkh12 _) rfl rfl ⟨Nat.le_of_ble_eq_true rfl, Nat.le_of_ble_eq_true rfl, fun _ => ⟨rfl, rfl⟩⟩ (Nat.le_of_ble_eq_true rfl) rfl (fun r14 h15 p16 => ?_)
      obtain ⟨er14, eh15⟩ := p16
      have rkh15 : RK h15 := by rw [eh15]; exact rkh12.set _
      have fth15 : hI h15 t = hI h t := (TkFr.I (show TkFr h12 h15 by rw [eh15]; exact setF_fr _ _) (by omega)).trans fth12
      have tph15 : TP h15 t := tph.same fth15
      refine V.istore_n (ls' := [.ref 5, .ref t, .int (nI m), .int r14, .null]) dX6_takeRule_50 rfl (by decide) rfl ?_
      refine V.iload_n dX6_takeRule_51 rfl rfl ?_
      refine V.if_ge (tgt := 57) dX6_takeRule_52 (by decide) (fun c17 => ?_) (fun c17 => ?_)
      · refine V.aload_n dX6_takeRule_57 rfl rfl rfl ?_
        refine V.iconst (v := 5) dX6_takeRule_58 rfl ?_
        refine V.callSI dX6_takeRule_59 ml_X6_113 mo_X6_takeSet ms_X6_takeSet (sp_X6_takeSet rkh15 _) rfl rfl ⟨Nat.le_of_ble_eq_true rfl, Nat.le_of_ble_eq_true rfl, fun _ => ⟨rfl, rfl⟩⟩ (Nat.le_of_ble_eq_true rfl) rfl (fun r18 h19 p20 => ?_)
        obtain ⟨er18, eh19⟩ := p20
        have rkh19 : RK h19 := by rw [eh19]; exact rkh15.set _
        have fth19 : hI h19 t = hI h t := (TkFr.I (show TkFr h15 h19 by rw [eh19]; exact setF_fr _ _) (by omega)).trans fth15
        have tph19 : TP h19 t := tph.same fth19
        refine V.istore (ls' := [.ref 5, .ref t, .int (nI m), .int r14, .int r18]) dX6_takeRule_62 (by decide) rfl ?_
        refine V.iload dX6_takeRule_64 rfl ?_
        refine V.if_lt (tgt := 78) dX6_takeRule_66 (by decide) (fun c21 => ?_) (fun c21 => ?_)
        · refine V.iconst (v := 0) dX6_takeRule_78 rfl ?_
          refine V.ireturn dX6_takeRule_79 rfl rfl ⟨rfl, rfl⟩ rkh.1.1 ?_
          unfold ruleF
          dsimp only
          try rw [← em]
          try rw [hr]
          try rw [← eh2]
          try rw [← er4]
          try rw [← eh5]
          try rw [← er8]
          try rw [← eg11]
          try rw [← eh12]
          try rw [← er14]
          try rw [← eh15]
          try rw [← er18]
          try rw [← eh19]
          rw [if_pos c1, if_neg c7, if_neg (Int32.not_lt.mpr c17), if_pos c21]
          first | exact ⟨rfl, rfl⟩ | exact ⟨by assumption, by assumption⟩
        · refine V.aload_n dX6_takeRule_69 rfl rfl rfl ?_
          refine V.bipush (v := 59) dX6_takeRule_70 rfl ?_
          refine V.callVI dX6_takeRule_72 ml_X6_49 mo_X4_takeSign mv_X4_takeSign rfl (fun q hq => by cases hq; rfl) (by decide) (Or.inl ⟨rfl, SHL_lt rfl⟩) (sp_X4_takeSign rkh19.1 rkh19.2.a9 rkh19.2.a rkh19.2.le rkh19.2.n rkh19.2.lt _) rfl rfl ⟨Nat.le_of_ble_eq_true rfl, Nat.le_of_ble_eq_true rfl, fun _ => ⟨rfl, rfl⟩⟩ (Nat.le_of_ble_eq_true rfl) rfl (fun r22 h23 p24 => ?_)
          replace p24 := takeK_of p24
          obtain ⟨er22, eh23⟩ := p24
          have rkh23 : RK h23 := by rw [eh23]; exact rkh19.tK _ _
          have fth23 : hI h23 t = hI h t := (TkFr.I (show TkFr h19 h23 by rw [eh23]; exact takeK_fr _ _ _) (by omega)).trans fth19
          have tph23 : TP h23 t := tph.same fth23
          refine V.if_ne (tgt := 80) dX6_takeRule_75 (by decide) (fun c25 => ?_) (fun c25 => ?_)
          · refine V.aload_n dX6_takeRule_80 rfl rfl (sT0 hT) ?_
            refine V.getR (r := t + 10) dX6_takeRule_81 fl_X6_117 (sT0 hT) (Or.inl ⟨rfl, SHL_lt (sT0 hT)⟩) rfl (rT_bornBy rkh23.1 hT) ?_
            refine V.iload_n dX6_takeRule_84 rfl rfl ?_
            refine V.iload_n dX6_takeRule_85 rfl rfl ?_
            refine V.iastore dX6_takeRule_86 (sT10 hT) (Or.inl ⟨rfl, SHL_lt (sT10 hT)⟩) (vp_in_nI hm4 (by decide)) ?_
            rw [nI_clamp (show m < 2 ^ 31 by omega)]
            refine V.nameH (fun g26 eg26 => ?_)
            have rkg26 : RK g26 := by rw [eg26]; exact rkh23.uI _ _ (by omega)
            have ftg26 : hI g26 t = hI h t := by rw [eg26]; exact (hI_rI_n _ _ (by omega)).trans fth23
            have tpg26 : TP g26 t := tph.same ftg26
            refine V.aload_n dX6_takeRule_87 rfl rfl (sT0 hT) ?_
            refine V.getR (r := t + 11) dX6_takeRule_88 fl_X6_121 (sT0 hT) (Or.inl ⟨rfl, SHL_lt (sT0 hT)⟩) rfl (rT_staysBy rkg26.1 hT) ?_
            refine V.iload_n dX6_takeRule_91 rfl rfl ?_
            refine V.iload dX6_takeRule_92 rfl ?_
            refine V.iastore dX6_takeRule_94 (sT11 hT) (Or.inl ⟨rfl, SHL_lt (sT11 hT)⟩) (vp_in_nI hm4 (by decide)) ?_
            rw [nI_clamp (show m < 2 ^ 31 by omega)]
            refine V.nameH (fun g27 eg27 => ?_)
            have rkg27 : RK g27 := by rw [eg27]; exact rkg26.uI _ _ (by omega)
            have ftg27 : hI g27 t = hI h t := by rw [eg27]; exact (hI_rI_n _ _ (by omega)).trans ftg26
            have tpg27 : TP g27 t := tph.same ftg27
            refine V.aload_n dX6_takeRule_95 rfl rfl (sT0 hT) ?_
            refine V.dup dX6_takeRule_96 rfl ?_
            refine V.getI dX6_takeRule_97 fl_X6_103 (sT0 hT) (Or.inl ⟨rfl, SHL_lt (sT0 hT)⟩) rfl rfl ?_
            refine V.iconst (v := 1) dX6_takeRule_100 rfl ?_
            rw [show hI g27 t 10 = nI m by rw [ftg27]; exact hr]
            refine V.iadd dX6_takeRule_101 ?_
            refine V.putI dX6_takeRule_102 fl_X6_103 (sT0 hT) (Or.inl ⟨rfl, SHL_lt (sT0 hT)⟩) rfl (fun q hq => by cases hq; rfl) ⟨rfl, rfl⟩ ?_
            refine V.iconst (v := 1) dX6_takeRule_105 rfl ?_
            refine V.ireturn dX6_takeRule_106 rfl rfl ⟨rfl, rfl⟩ rkh.1.1 ?_
            unfold ruleF
            dsimp only
            try rw [← em]
            try rw [hr]
            try rw [← eh2]
            try rw [← er4]
            try rw [← eh5]
            try rw [← er8]
            try rw [← eg11]
            try rw [← eh12]
            try rw [← er14]
            try rw [← eh15]
            try rw [← er18]
            try rw [← eh19]
            try rw [← er22]
            try rw [← eh23]
            try rw [← eg26]
            try rw [← eg27]
            rw [if_pos c1, if_neg c7, if_neg (Int32.not_lt.mpr c17), if_neg c21, if_neg c25]
            first | exact ⟨rfl, rfl⟩ | exact ⟨by assumption, by assumption⟩
          · refine V.iconst (v := 0) dX6_takeRule_78 rfl ?_
            refine V.ireturn dX6_takeRule_79 rfl rfl ⟨rfl, rfl⟩ rkh.1.1 ?_
            unfold ruleF
            dsimp only
            try rw [← em]
            try rw [hr]
            try rw [← eh2]
            try rw [← er4]
            try rw [← eh5]
            try rw [← er8]
            try rw [← eg11]
            try rw [← eh12]
            try rw [← er14]
            try rw [← eh15]
            try rw [← er18]
            try rw [← eh19]
            try rw [← er22]
            try rw [← eh23]
            rw [if_pos c1, if_neg c7, if_neg (Int32.not_lt.mpr c17), if_neg c21, if_pos c25]
            first | exact ⟨rfl, rfl⟩ | exact ⟨by assumption, by assumption⟩
      · refine V.iconst (v := 0) dX6_takeRule_55 rfl ?_
        refine V.ireturn dX6_takeRule_56 rfl rfl ⟨rfl, rfl⟩ rkh.1.1 ?_
        unfold ruleF
        dsimp only
        try rw [← em]
        try rw [hr]
        try rw [← eh2]
        try rw [← er4]
        try rw [← eh5]
        try rw [← er8]
        try rw [← eg11]
        try rw [← eh12]
        try rw [← er14]
        try rw [← eh15]
        rw [if_pos c1, if_neg c7, if_pos (Int32.not_le.mp c17)]
        first | exact ⟨rfl, rfl⟩ | exact ⟨by assumption, by assumption⟩
    · refine V.iconst (v := 0) dX6_takeRule_29 rfl ?_
      refine V.ireturn dX6_takeRule_30 rfl rfl ⟨rfl, rfl⟩ rkh.1.1 ?_
      unfold ruleF
      dsimp only
      try rw [← em]
      try rw [hr]
      try rw [← eh2]
      try rw [← er4]
      try rw [← eh5]
      rw [if_pos c1, if_pos c7]
      first | exact ⟨rfl, rfl⟩ | exact ⟨by assumption, by assumption⟩
  · refine V.aload_n dX6_takeRule_10 rfl rfl rfl ?_
    refine V.bipush (v := 6) dX6_takeRule_11 rfl ?_
    refine V.callVI dX6_takeRule_13 ml_X6_52 mo_X4_fail mv_X4_fail rfl (fun q hq => by cases hq; rfl) (by decide) (Or.inl ⟨rfl, SHL_lt rfl⟩) (sp_X4_fail rkh.1 rkh.2.a9 rkh.2.a _) rfl rfl ⟨Nat.le_of_ble_eq_true rfl, Nat.le_of_ble_eq_true rfl, fun _ => ⟨rfl, rfl⟩⟩ (Nat.le_of_ble_eq_true rfl) rfl (fun r28 h29 p30 => ?_)
    obtain ⟨er28, eh29⟩ := p30
    replace eh29 : h29 = failF h _ := eh29
    have rkh29 : RK h29 := by rw [eh29]; exact rkh.fail _
    have fth29 : hI h29 t = hI h t := (TkFr.I (show TkFr h h29 by rw [eh29]; exact failF_fr _ _) (by omega)).trans fth
    have tph29 : TP h29 t := tph.same fth29
    refine V.ireturn dX6_takeRule_16 rfl (by rw [er28]; first | rfl | exact bI_01 _ | exact takeK_01 _ _ _) ⟨rfl, rfl⟩ rkh.1.1 ?_
    unfold ruleF
    dsimp only
    try rw [← em]
    try rw [hr]
    try rw [← er28]
    try rw [← eh29]
    rw [if_neg c1]
    first | exact ⟨rfl, rfl⟩ | exact ⟨by assumption, by assumption⟩
def citF (h : HP) (t : Nat) : Int32 × HP :=
  if hI h t 11 < 6 then
    let n := newNameF (advF h) t
    if n.1 = 0 then (0, n.2) else
    let a := takeK 4 (advF (uL n.2 (t + 12) (tC h t) (hL n.2 12 (tA n.2)))) 7
    if a.1 = 0 then (0, a.2) else
    let b := takeN a.2 0 30
    if b.1 = 0 then (0, b.2) else
    let c := takeK 4 b.2 8
    if c.1 = 0 then (0, c.2) else
    let d := takeN c.2 (hI b.2 5 11) 30
    if d.1 = 0 then (0, d.2) else
    takeK 3 (uI (uI (uI d.2 (t + 13) (tC h t) (hI b.2 5 11)) (t + 14) (tC h t) (hI (uI d.2 (t + 13) (tC h t) (hI b.2 5 11)) 5 11)) t 11 (hI h t 11 + 1)) 59
  else (0, failF h 6)
set_option maxRecDepth 100000 in
theorem sp_X6_takeCitizen {h : HP} (rkh : RK h) {t : Nat} (hT : isT t) (tph : TP h t) : Spec yX6_takeCitizen cX6_takeCitizen miX6_takeCitizen [.ref 5, .ref t] h (pI fun r h' => r = (citF h t).1 ∧ h' = (citF h t).2) := by
  refine Spec.of (ls0 := [.ref 5, .ref t, .null, .null]) mo_X6_takeCitizen (Nat.le_of_ble_eq_true rfl) rfl ?_
  rw [rkh.1.1]
  have ht14 := isT_ge hT
  have ftk : True := trivial
  have fth : hI h t = hI h t := rfl
  refine V.aload_n dX6_takeCitizen_0 rfl rfl (sT0 hT) ?_
  refine V.getI dX6_takeCitizen_1 fl_X6_131 (sT0 hT) (Or.inl ⟨rfl, SHL_lt (sT0 hT)⟩) rfl rfl ?_
  obtain ⟨c, ec⟩ : ∃ c, c = tC h t := ⟨_, rfl⟩
  have hr := tph.2.2
  rw [← ec] at hr
  have hc := tph.2.1; rw [← ec] at hc
  rw [hr]
  refine V.istore_n (ls' := [.ref 5, .ref t, .int (nI c), .null]) dX6_takeCitizen_4 rfl (by decide) rfl ?_
  refine V.iload_n dX6_takeCitizen_5 rfl rfl ?_
  refine V.bipush (v := 6) dX6_takeCitizen_6 rfl ?_
  refine V.icmp_lt (tgt := 18) dX6_takeCitizen_8 (by decide) (fun c1 => ?_) (fun c1 => ?_)
  · have hc6 : c < 6 := by have h9 := c1; rw [show (6 : Int32) = nI 6 from rfl, nI_ltI (by omega) (by omega)] at h9; exact h9
    refine V.aload_n dX6_takeCitizen_18 rfl rfl rfl ?_
    refine V.callVV dX6_takeCitizen_19 ml_X6_40 mo_X4_advance mv_X4_advance rfl (fun q hq => by cases hq; rfl) (by decide) (Or.inl ⟨rfl, SHL_lt rfl⟩) (sp_X4_advance rkh.1 rkh.2.a9 rkh.2.a rkh.2.le rkh.2.n rkh.2.lt) rfl rfl ⟨Nat.le_of_ble_eq_true rfl, Nat.le_of_ble_eq_true rfl, fun _ => ⟨rfl, rfl⟩⟩ (Nat.le_of_ble_eq_true rfl) (Or.inl rfl) (fun h2 p3 => ?_)
    have eh2 := p3
    replace eh2 : h2 = advF h := eh2
    have rkh2 : RK h2 := by rw [eh2]; exact rkh.adv
    have fth2 : hI h2 t = hI h t := (TkFr.I (show TkFr h h2 by rw [eh2]; exact advF_fr _) (by omega)).trans fth
    have tph2 : TP h2 t := tph.same fth2
    refine V.aload_n dX6_takeCitizen_22 rfl rfl rfl ?_
    refine V.aload_n dX6_takeCitizen_23 rfl rfl (sT0 hT) ?_
    refine V.callSI dX6_takeCitizen_24 ml_X6_106 mo_X6_takeNewName ms_X6_takeNewName (sp_X6_takeNewName rkh2 hT tph2) rfl rfl ⟨Nat.le_of_ble_eq_true rfl, Nat.le_of_ble_eq_true rfl, fun _ => ⟨rfl, rfl⟩⟩ (Nat.le_of_ble_eq_true rfl) rfl (fun r4 h5 p6 => ?_)
    obtain ⟨er4, eh5⟩ := p6
    have rkh5 : RK h5 := by rw [eh5]; exact rkh2.nn t
    have fth5 : hI h5 t = hI h t := (TkFr.I (show TkFr h2 h5 by rw [eh5]; exact newNameF_fr _ _) (by omega)).trans fth2
    have tph5 : TP h5 t := tph.same fth5
    refine V.if_ne (tgt := 32) dX6_takeCitizen_27 (by decide) (fun c7 => ?_) (fun c7 => ?_)
    · refine V.aload_n dX6_takeCitizen_32 rfl rfl (sT0 hT) ?_
      refine V.getR (r := t + 12) dX6_takeCitizen_33 fl_X6_134 (sT0 hT) (Or.inl ⟨rfl, SHL_lt (sT0 hT)⟩) rfl (rT_citizenNames rkh5.1 hT) ?_
      refine V.iload_n dX6_takeCitizen_36 rfl rfl ?_
      refine V.aload_n dX6_takeCitizen_37 rfl rfl rfl ?_
      refine V.callVL dX6_takeCitizen_38 ml_X6_95 mo_X4_name mv_X4_name rfl (fun q hq => by cases hq; rfl) (by decide) (Or.inl ⟨rfl, SHL_lt rfl⟩) (sp_X4_name rkh5.1 rkh5.2.a9 rkh5.2.a) rfl rfl ⟨Nat.le_of_ble_eq_true rfl, Nat.le_of_ble_eq_true rfl, fun _ => ⟨rfl, rfl⟩⟩ (Nat.le_of_ble_eq_true rfl) rfl (fun r8 h9 p10 => ?_)
      obtain ⟨er8, p10⟩ := p10
      have p10 := p10.symm
      subst p10
      refine V.lastore dX6_takeCitizen_41 (sT12 hT) (Or.inl ⟨rfl, SHL_lt (sT12 hT)⟩) (vp_in_nI hc6 (by decide)) ?_
      rw [nI_clamp (show c < 2 ^ 31 by omega)]
      refine V.nameH (fun g11 eg11 => ?_)
      have rkg11 : RK g11 := by rw [eg11]; exact rkh5.uL _ _ _
      have ftg11 : hI g11 t = hI h t := by rw [eg11]; exact fth5
      have tpg11 : TP g11 t := tph.same ftg11
      refine V.aload_n dX6_takeCitizen_42 rfl rfl rfl ?_
      refine V.callVV dX6_takeCitizen_43 ml_X6_40 mo_X4_advance mv_X4_advance rfl (fun q hq => by cases hq; rfl) (by decide) (Or.inl ⟨rfl, SHL_lt rfl⟩) (sp_X4_advance rkg11.1 rkg11.2.a9 rkg11.2.a rkg11.2.le rkg11.2.n rkg11.2.lt) rfl rfl ⟨Nat.le_of_ble_eq_true rfl, Nat.le_of_ble_eq_true rfl, fun _ => ⟨rfl, rfl⟩⟩ (Nat.le_of_ble_eq_true rfl) (Or.inl rfl) (fun h12 p13 => ?_)
      have eh12 := p13
      replace eh12 : h12 = advF g11 := eh12
      have rkh12 : RK h12 := by rw [eh12]; exact rkg11.adv
      have fth12 : hI h12 t = hI h t := (TkFr.I (show TkFr g11 h12 by rw [eh12]; exact advF_fr _) (by omega)).trans ftg11
      have tph12 : TP h12 t := tph.same fth12
      refine V.aload_n dX6_takeCitizen_46 rfl rfl rfl ?_
      refine V.bipush (v := 7) dX6_takeCitizen_47 rfl ?_
      refine V.callVI dX6_takeCitizen_49 ml_X6_23 mo_X4_takeWord mv_X4_takeWord rfl (fun q hq => by cases hq; rfl) (by decide) (Or.inl ⟨rfl, SHL_lt rfl⟩) (sp_X4_takeWord rkh12.1 rkh12.2.a9 rkh12.2.a rkh12.2.le rkh12.2.n rkh12.2.lt _) rfl rfl ⟨Nat.le_of_ble_eq_true rfl, Nat.le_of_ble_eq_true rfl, fun _ => ⟨rfl, rfl⟩⟩ (Nat.le_of_ble_eq_true rfl) rfl (fun r14 h15 p16 => ?_)
      replace p16 := takeK_of p16
      obtain ⟨er14, eh15⟩ := p16
      have rkh15 : RK h15 := by rw [eh15]; exact rkh12.tK _ _
      have fth15 : hI h15 t = hI h t := (TkFr.I (show TkFr h12 h15 by rw [eh15]; exact takeK_fr _ _ _) (by omega)).trans fth12
      have tph15 : TP h15 t := tph.same fth15
      refine V.if_eq (tgt := 65) dX6_takeCitizen_52 (by decide) (fun c17 => ?_) (fun c17 => ?_)
      · refine V.iconst (v := 0) dX6_takeCitizen_65 rfl ?_
        refine V.ireturn dX6_takeCitizen_66 rfl rfl ⟨rfl, rfl⟩ rkh.1.1 ?_
        unfold citF
        dsimp only
        try rw [← ec]
        try rw [hr]
        try rw [← eh2]
        try rw [← er4]
        try rw [← eh5]
        try rw [← er8]
        try rw [← eg11]
        try rw [← eh12]
        try rw [← er14]
        try rw [← eh15]
        rw [if_pos c1, if_neg c7, if_pos c17]
        first | exact ⟨rfl, rfl⟩ | exact ⟨by assumption, by assumption⟩
      · refine V.aload_n dX6_takeCitizen_55 rfl rfl rfl ?_
        refine V.iconst (v := 0) dX6_takeCitizen_56 rfl ?_
        refine V.bipush (v := 30) dX6_takeCitizen_57 rfl ?_
        refine V.callVI dX6_takeCitizen_59 ml_X6_29 mo_X4_takeNumber mv_X4_takeNumber rfl (fun q hq => by cases hq; rfl) (by decide) (Or.inl ⟨rfl, SHL_lt rfl⟩) (sp_X4_takeNumber rkh15.1 rkh15.2.a9 rkh15.2.a rkh15.2.le rkh15.2.n rkh15.2.lt _ _) rfl rfl ⟨Nat.le_of_ble_eq_true rfl, Nat.le_of_ble_eq_true rfl, fun _ => ⟨rfl, rfl⟩⟩ (Nat.le_of_ble_eq_true rfl) rfl (fun r18 h19 p20 => ?_)
        replace p20 := takeN_of p20
        obtain ⟨er18, eh19⟩ := p20
        have rkh19 : RK h19 := by rw [eh19]; exact rkh15.tN _ _
        have fth19 : hI h19 t = hI h t := (TkFr.I (show TkFr h15 h19 by rw [eh19]; exact takeN_fr _ _ _) (by omega)).trans fth15
        have tph19 : TP h19 t := tph.same fth19
        refine V.if_ne (tgt := 67) dX6_takeCitizen_62 (by decide) (fun c21 => ?_) (fun c21 => ?_)
        · refine V.aload_n dX6_takeCitizen_67 rfl rfl rfl ?_
          refine V.getI dX6_takeCitizen_68 fl_X6_33 rfl (Or.inl ⟨rfl, SHL_lt rfl⟩) rfl rfl ?_
          refine V.nmi (fun x22 ex22 => ?_)
          refine V.istore_n (ls' := [.ref 5, .ref t, .int (nI c), .int x22]) dX6_takeCitizen_71 rfl (by decide) rfl ?_
          refine V.aload_n dX6_takeCitizen_72 rfl rfl rfl ?_
          refine V.bipush (v := 8) dX6_takeCitizen_73 rfl ?_
          refine V.callVI dX6_takeCitizen_75 ml_X6_23 mo_X4_takeWord mv_X4_takeWord rfl (fun q hq => by cases hq; rfl) (by decide) (Or.inl ⟨rfl, SHL_lt rfl⟩) (sp_X4_takeWord rkh19.1 rkh19.2.a9 rkh19.2.a rkh19.2.le rkh19.2.n rkh19.2.lt _) rfl rfl ⟨Nat.le_of_ble_eq_true rfl, Nat.le_of_ble_eq_true rfl, fun _ => ⟨rfl, rfl⟩⟩ (Nat.le_of_ble_eq_true rfl) rfl (fun r23 h24 p25 => ?_)
          replace p25 := takeK_of p25
          obtain ⟨er23, eh24⟩ := p25
          have rkh24 : RK h24 := by rw [eh24]; exact rkh19.tK _ _
          have fth24 : hI h24 t = hI h t := (TkFr.I (show TkFr h19 h24 by rw [eh24]; exact takeK_fr _ _ _) (by omega)).trans fth19
          have tph24 : TP h24 t := tph.same fth24
          refine V.if_eq (tgt := 91) dX6_takeCitizen_78 (by decide) (fun c26 => ?_) (fun c26 => ?_)
          · refine V.iconst (v := 0) dX6_takeCitizen_91 rfl ?_
            refine V.ireturn dX6_takeCitizen_92 rfl rfl ⟨rfl, rfl⟩ rkh.1.1 ?_
            unfold citF
            dsimp only
            try rw [← ec]
            try rw [hr]
            try rw [← eh2]
            try rw [← er4]
            try rw [← eh5]
            try rw [← er8]
            try rw [← eg11]
            try rw [← eh12]
            try rw [← er14]
            try rw [← eh15]
            try rw [← er18]
            try rw [← eh19]
            try rw [← ex22]
            try rw [← er23]
            try rw [← eh24]
            rw [if_pos c1, if_neg c7, if_neg c17, if_neg c21, if_pos c26]
            first | exact ⟨rfl, rfl⟩ | exact ⟨by assumption, by assumption⟩
          · refine V.aload_n dX6_takeCitizen_81 rfl rfl rfl ?_
            refine V.iload_n dX6_takeCitizen_82 rfl rfl ?_
            refine V.bipush (v := 30) dX6_takeCitizen_83 rfl ?_
            refine V.callVI dX6_takeCitizen_85 ml_X6_29 mo_X4_takeNumber mv_X4_takeNumber rfl (fun q hq => by cases hq; rfl) (by decide) (Or.inl ⟨rfl, SHL_lt rfl⟩) (sp_X4_takeNumber rkh24.1 rkh24.2.a9 rkh24.2.a rkh24.2.le rkh24.2.n rkh24.2.lt _ _) rfl rfl ⟨Nat.le_of_ble_eq_true rfl, Nat.le_of_ble_eq_true rfl, fun _ => ⟨rfl, rfl⟩⟩ (Nat.le_of_ble_eq_true rfl) rfl (fun r27 h28 p29 => ?_)
            replace p29 := takeN_of p29
            obtain ⟨er27, eh28⟩ := p29
            have rkh28 : RK h28 := by rw [eh28]; exact rkh24.tN _ _
            have fth28 : hI h28 t = hI h t := (TkFr.I (show TkFr h24 h28 by rw [eh28]; exact takeN_fr _ _ _) (by omega)).trans fth24
            have tph28 : TP h28 t := tph.same fth28
            refine V.if_ne (tgt := 93) dX6_takeCitizen_88 (by decide) (fun c30 => ?_) (fun c30 => ?_)
            · refine V.aload_n dX6_takeCitizen_93 rfl rfl (sT0 hT) ?_
              refine V.getR (r := t + 13) dX6_takeCitizen_94 fl_X6_137 (sT0 hT) (Or.inl ⟨rfl, SHL_lt (sT0 hT)⟩) rfl (rT_least rkh28.1 hT) ?_
              refine V.iload_n dX6_takeCitizen_97 rfl rfl ?_
              refine V.iload_n dX6_takeCitizen_98 rfl rfl ?_
              refine V.iastore dX6_takeCitizen_99 (sT13 hT) (Or.inl ⟨rfl, SHL_lt (sT13 hT)⟩) (vp_in_nI hc6 (by decide)) ?_
              rw [nI_clamp (show c < 2 ^ 31 by omega)]
              refine V.nameH (fun g31 eg31 => ?_)
              have rkg31 : RK g31 := by rw [eg31]; exact rkh28.uI _ _ (by omega)
              have ftg31 : hI g31 t = hI h t := by rw [eg31]; exact (hI_rI_n _ _ (by omega)).trans fth28
              have tpg31 : TP g31 t := tph.same ftg31
              refine V.aload_n dX6_takeCitizen_100 rfl rfl (sT0 hT) ?_
              refine V.getR (r := t + 14) dX6_takeCitizen_101 fl_X6_140 (sT0 hT) (Or.inl ⟨rfl, SHL_lt (sT0 hT)⟩) rfl (rT_most rkg31.1 hT) ?_
              refine V.iload_n dX6_takeCitizen_104 rfl rfl ?_
              refine V.aload_n dX6_takeCitizen_105 rfl rfl rfl ?_
              refine V.getI dX6_takeCitizen_106 fl_X6_33 rfl (Or.inl ⟨rfl, SHL_lt rfl⟩) rfl rfl ?_
              refine V.iastore dX6_takeCitizen_109 (sT14 hT) (Or.inl ⟨rfl, SHL_lt (sT14 hT)⟩) (vp_in_nI hc6 (by decide)) ?_
              rw [nI_clamp (show c < 2 ^ 31 by omega)]
              refine V.nameH (fun g32 eg32 => ?_)
              have rkg32 : RK g32 := by rw [eg32]; exact rkg31.uI _ _ (by omega)
              have ftg32 : hI g32 t = hI h t := by rw [eg32]; exact (hI_rI_n _ _ (by omega)).trans ftg31
              have tpg32 : TP g32 t := tph.same ftg32
              refine V.aload_n dX6_takeCitizen_110 rfl rfl (sT0 hT) ?_
              refine V.dup dX6_takeCitizen_111 rfl ?_
              refine V.getI dX6_takeCitizen_112 fl_X6_131 (sT0 hT) (Or.inl ⟨rfl, SHL_lt (sT0 hT)⟩) rfl rfl ?_
              refine V.iconst (v := 1) dX6_takeCitizen_115 rfl ?_
              rw [show hI g32 t 11 = nI c by rw [ftg32]; exact hr]
              refine V.iadd dX6_takeCitizen_116 ?_
              refine V.putI dX6_takeCitizen_117 fl_X6_131 (sT0 hT) (Or.inl ⟨rfl, SHL_lt (sT0 hT)⟩) rfl (fun q hq => by cases hq; rfl) ⟨rfl, rfl⟩ ?_
              refine V.nameH (fun g33 eg33 => ?_)
              have rkg33 : RK g33 := by rw [eg33]; exact rkg32.uI _ _ (by omega)
              refine V.aload_n dX6_takeCitizen_120 rfl rfl rfl ?_
              refine V.bipush (v := 59) dX6_takeCitizen_121 rfl ?_
              refine V.callVI dX6_takeCitizen_123 ml_X6_49 mo_X4_takeSign mv_X4_takeSign rfl (fun q hq => by cases hq; rfl) (by decide) (Or.inl ⟨rfl, SHL_lt rfl⟩) (sp_X4_takeSign rkg33.1 rkg33.2.a9 rkg33.2.a rkg33.2.le rkg33.2.n rkg33.2.lt _) rfl rfl ⟨Nat.le_of_ble_eq_true rfl, Nat.le_of_ble_eq_true rfl, fun _ => ⟨rfl, rfl⟩⟩ (Nat.le_of_ble_eq_true rfl) rfl (fun r34 h35 p36 => ?_)
              replace p36 := takeK_of p36
              obtain ⟨er34, eh35⟩ := p36
              have rkh35 : RK h35 := by rw [eh35]; exact rkg33.tK _ _
              refine V.ireturn dX6_takeCitizen_126 rfl (by rw [er34]; first | rfl | exact bI_01 _ | exact takeK_01 _ _ _) ⟨rfl, rfl⟩ rkh.1.1 ?_
              unfold citF
              dsimp only
              try rw [← ec]
              try rw [hr]
              try rw [← eh2]
              try rw [← er4]
              try rw [← eh5]
              try rw [← er8]
              try rw [← eg11]
              try rw [← eh12]
              try rw [← er14]
              try rw [← eh15]
              try rw [← er18]
              try rw [← eh19]
              try rw [← ex22]
              try rw [← er23]
              try rw [← eh24]
              try rw [← er27]
              try rw [← eh28]
              try rw [← eg31]
              try rw [← eg32]
              try rw [← eg33]
              try rw [← er34]
              try rw [← eh35]
              rw [if_pos c1, if_neg c7, if_neg c17, if_neg c21, if_neg c26, if_neg c30]
              first | exact ⟨rfl, rfl⟩ | exact ⟨by assumption, by assumption⟩
            · refine V.iconst (v := 0) dX6_takeCitizen_91 rfl ?_
              refine V.ireturn dX6_takeCitizen_92 rfl rfl ⟨rfl, rfl⟩ rkh.1.1 ?_
              unfold citF
              dsimp only
              try rw [← ec]
              try rw [hr]
              try rw [← eh2]
              try rw [← er4]
              try rw [← eh5]
              try rw [← er8]
              try rw [← eg11]
              try rw [← eh12]
              try rw [← er14]
              try rw [← eh15]
              try rw [← er18]
              try rw [← eh19]
              try rw [← ex22]
              try rw [← er23]
              try rw [← eh24]
              try rw [← er27]
              try rw [← eh28]
              rw [if_pos c1, if_neg c7, if_neg c17, if_neg c21, if_neg c26, if_pos c30]
              first | exact ⟨rfl, rfl⟩ | exact ⟨by assumption, by assumption⟩
        · refine V.iconst (v := 0) dX6_takeCitizen_65 rfl ?_
          refine V.ireturn dX6_takeCitizen_66 rfl rfl ⟨rfl, rfl⟩ rkh.1.1 ?_
          unfold citF
          dsimp only
          try rw [← ec]
          try rw [hr]
          try rw [← eh2]
          try rw [← er4]
          try rw [← eh5]
          try rw [← er8]
          try rw [← eg11]
          try rw [← eh12]
          try rw [← er14]
          try rw [← eh15]
          try rw [← er18]
          try rw [← eh19]
          rw [if_pos c1, if_neg c7, if_neg c17, if_pos c21]
          first | exact ⟨rfl, rfl⟩ | exact ⟨by assumption, by assumption⟩
    · refine V.iconst (v := 0) dX6_takeCitizen_30 rfl ?_
      refine V.ireturn dX6_takeCitizen_31 rfl rfl ⟨rfl, rfl⟩ rkh.1.1 ?_
      unfold citF
      dsimp only
      try rw [← ec]
      try rw [hr]
      try rw [← eh2]
      try rw [← er4]
      try rw [← eh5]
      rw [if_pos c1, if_pos c7]
      first | exact ⟨rfl, rfl⟩ | exact ⟨by assumption, by assumption⟩
  · refine V.aload_n dX6_takeCitizen_11 rfl rfl rfl ?_
    refine V.bipush (v := 6) dX6_takeCitizen_12 rfl ?_
    refine V.callVI dX6_takeCitizen_14 ml_X6_52 mo_X4_fail mv_X4_fail rfl (fun q hq => by cases hq; rfl) (by decide) (Or.inl ⟨rfl, SHL_lt rfl⟩) (sp_X4_fail rkh.1 rkh.2.a9 rkh.2.a _) rfl rfl ⟨Nat.le_of_ble_eq_true rfl, Nat.le_of_ble_eq_true rfl, fun _ => ⟨rfl, rfl⟩⟩ (Nat.le_of_ble_eq_true rfl) rfl (fun r37 h38 p39 => ?_)
    obtain ⟨er37, eh38⟩ := p39
    replace eh38 : h38 = failF h _ := eh38
    have rkh38 : RK h38 := by rw [eh38]; exact rkh.fail _
    have fth38 : hI h38 t = hI h t := (TkFr.I (show TkFr h h38 by rw [eh38]; exact failF_fr _ _) (by omega)).trans fth
    have tph38 : TP h38 t := tph.same fth38
    refine V.ireturn dX6_takeCitizen_17 rfl (by rw [er37]; first | rfl | exact bI_01 _ | exact takeK_01 _ _ _) ⟨rfl, rfl⟩ rkh.1.1 ?_
    unfold citF
    dsimp only
    try rw [← ec]
    try rw [hr]
    try rw [← er37]
    try rw [← eh38]
    rw [if_neg c1]
    first | exact ⟨rfl, rfl⟩ | exact ⟨by assumption, by assumption⟩
