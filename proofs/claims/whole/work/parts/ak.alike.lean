/-! ===== makings: the reference at its start; the first Inv ===== -/
def plV (j : Nat) : Int32 := if j = 10 ∨ j = 11 then -1 else 0
theorem plain3 : ∀ d k f b (g : Nat → Int32), k + d = 410 → d < f → (∀ j, j < k → g j = 0) → ∃ g', f_X12_plain_2 f (nI 0) (nI k) (rI b 114 g) = some (rI b 114 g') ∧ ∀ j, j < 410 → g' j = plV j
  | d, k, 0, b, g, hd, hf, _ => absurd hf (by omega)
  | 0, k, f + 1, b, g, hd, hf, e => by
    unfold f_X12_plain_2
    have hk : k = 410 := by omega
    subst hk
    rw [if_pos (show (410 : Int32) ≤ nI 410 by decide)]
    rw [show nI 0 + 10 = nI 10 from rfl, show nI 0 + 11 = nI 11 from rfl, gdi_nI (by decide) (by decide), ltv_e, gdi_nI (by decide) (by decide), ltv_e, nI_clamp (by decide), nI_clamp (by decide)]
    refine ⟨upd (upd g 10 (-1)) 11 (-1), ?_, fun j hj => ?_⟩
    · show some (rI (rI (rI b 114 g) 114 (upd (hI (rI b 114 g) 114) 10 (-1))) 114 (upd (hI (rI (rI b 114 g) 114 (upd (hI (rI b 114 g) 114) 10 (-1))) 114) 11 (-1))) = _
      rw [hI_rI_s, hI_rI_s, rI_rI, rI_rI]
    · show (if j = 11 then (-1 : Int32) else if j = 10 then -1 else g j) = if j = 10 ∨ j = 11 then -1 else 0
      by_cases q1 : j = 11
      · rw [if_pos q1, if_pos (Or.inr q1)]
      · rw [if_neg q1]
        by_cases q2 : j = 10
        · rw [if_pos q2, if_pos (Or.inl q2)]
        · rw [if_neg q2, if_neg (by omega), e j hj]
  | d + 1, k, f + 1, b, g, hd, hf, e => by
    unfold f_X12_plain_2
    rw [if_neg (show ¬ (410 : Int32) ≤ nI k from fun z => by have := (nI_leI (a := 410) (by omega) (by omega)).mp z; omega), nI_add, gdi_nI (by omega) (by decide), ltv_e, ltv_e, nI_clamp (by omega), nI_1, Nat.zero_add]
    rw [show uI (rI b 114 g) 114 k 0 = rI b 114 (upd g k 0) by show rI (rI b 114 g) 114 (upd (hI (rI b 114 g) 114) k 0) = _; rw [hI_rI_s, rI_rI]]
    exact plain3 d (k + 1) f b (upd g k 0) (by omega) (by omega) (fun j hj => by
      show (if j = k then (0 : Int32) else g j) = 0
      by_cases q : j = k
      · rw [if_pos q]
      · rw [if_neg q]; exact e j (by omega))
theorem plain_0 (b : HP) : ∃ g, f_X12_plain b 0 = some (rI b 114 g) ∧ ∀ j, j < 410 → g j = plV j := by
  obtain ⟨g, g1, g2⟩ := plain3 410 0 FU b (hI b 114) (by omega) (FU_gt (by omega)) (fun j hj => absurd hj (by omega))
  rw [rI_self] at g1
  exact ⟨g, g1, g2⟩
/-- both made -/
def hC (g : Nat → Int32) : HP := uI (uI (uI (rI hB 114 g) 114 0 1) 114 1 1) 114 2 1
set_option maxRecDepth 100000 in
theorem mk_X12_113 {h : HP} (eh : h = rNew hA) : Spec yX12_init cX12_init miX12_init [.ref 113] h (pV fun h' => ∃ g, (∀ j, j < 410 → g j = plV j) ∧ h' = hC g) := by
  have n0 : h.1 = 114 := by rw [eh]; decide +kernel
  refine Spec.of (ls0 := [.ref 113]) mo_X12_init (Nat.le_of_ble_eq_true rfl) rfl ?_
  rw [n0]
  refine V.aload_n dX12_init_0 rfl rfl rfl ?_
  refine V.objInit dX12_init_1 lk_X12_1 oi_in oi_co rfl ⟨Nat.le_of_ble_eq_true rfl, Nat.le_of_ble_eq_true rfl⟩ ?_
  refine V.aload_n dX12_init_4 rfl rfl rfl ?_
  refine V.sipush (v := 2460) dX12_init_5 rfl ?_
  refine V.newarray (t := 0) (N := 2460) dX12_init_8 rfl (by decide) ac_int (by rw [n0]; rfl) (by decide) rfl (by decide) (by rw [n0]; exact ⟨by decide, by decide +kernel⟩) (by rw [n0]; decide +kernel) ?_
  rw [n0]
  refine V.nmh (fun h1 e1 => ?_)
  have n1 : h1.1 = 115 := by rw [e1]; show h.1 + 1 = 115; rw [n0]
  refine V.putRk dX12_init_10 fl_X12_7 rfl (Or.inr (by rw [n1]; decide)) rfl rfl (fun q hq => by cases hq; exact Or.inr ⟨rfl, rfl, rfl⟩) (fun q hq _ => by cases hq; exact fo_X12_7) ?_
  refine V.nmh (fun h2 e2 => ?_)
  have n2 : h2.1 = 115 := by rw [e2]; exact n1
  refine V.aload_n dX12_init_13 rfl rfl rfl ?_
  refine V.bipush (v := 60) dX12_init_14 rfl ?_
  refine V.newarray (t := 1) (N := 60) dX12_init_16 rfl (by decide) ac_long (by rw [n2]; rfl) (by decide) rfl (by decide) (by rw [n2]; exact ⟨by decide, by decide +kernel⟩) (by rw [n2]; decide +kernel) ?_
  rw [n2]
  refine V.nmh (fun h3 e3 => ?_)
  have n3 : h3.1 = 116 := by rw [e3]; show h2.1 + 1 = 116; rw [n2]
  refine V.putRk dX12_init_18 fl_X12_13 rfl (Or.inr (by rw [n3]; decide)) rfl rfl (fun q hq => by cases hq; exact Or.inr ⟨rfl, rfl, rfl⟩) (fun q hq _ => by cases hq; exact fo_X12_13) ?_
  refine V.nmh (fun h4 e4 => ?_)
  have n4 : h4.1 = 116 := by rw [e4]; exact n3
  refine V.aload_n dX12_init_21 rfl rfl rfl ?_
  refine V.lconst (v := 1) dX12_init_22 rfl ?_
  refine V.putL dX12_init_23 fl_X12_17 rfl (Or.inr (by rw [n4]; decide)) rfl (fun q hq => by cases hq; rfl) ?_
  refine V.nmh (fun h5 e5 => ?_)
  have n5 : h5.1 = 116 := by rw [e5]; exact n4
  refine V.aload_n dX12_init_26 rfl rfl rfl ?_
  refine V.iconst (v := 4) dX12_init_27 rfl ?_
  refine V.newarray (t := 0) (N := 4) dX12_init_28 rfl (by decide) ac_int (by rw [n5]; rfl) (by decide) rfl (by decide) (by rw [n5]; exact ⟨by decide, by decide +kernel⟩) (by rw [n5]; decide +kernel) ?_
  rw [n5]
  refine V.nmh (fun h6 e6 => ?_)
  have n6 : h6.1 = 117 := by rw [e6]; show h5.1 + 1 = 117; rw [n5]
  refine V.putRk dX12_init_30 fl_X12_21 rfl (Or.inr (by rw [n6]; decide)) rfl rfl (fun q hq => by cases hq; exact Or.inr ⟨rfl, rfl, rfl⟩) (fun q hq _ => by cases hq; exact fo_X12_21) ?_
  refine V.nmh (fun h7 e7 => ?_)
  have n7 : h7.1 = 117 := by rw [e7]; exact n6
  refine V.aload_n dX12_init_33 rfl rfl rfl ?_
  refine V.iconst (v := 4) dX12_init_34 rfl ?_
  refine V.newarray (t := 0) (N := 4) dX12_init_35 rfl (by decide) ac_int (by rw [n7]; rfl) (by decide) rfl (by decide) (by rw [n7]; exact ⟨by decide, by decide +kernel⟩) (by rw [n7]; decide +kernel) ?_
  rw [n7]
  refine V.nmh (fun h8 e8 => ?_)
  have n8 : h8.1 = 118 := by rw [e8]; show h7.1 + 1 = 118; rw [n7]
  refine V.dup dX12_init_37 rfl ?_
  refine V.iconst (v := 0) dX12_init_38 rfl ?_
  refine V.iconst (v := (-1)) dX12_init_39 rfl ?_
  refine V.iastore dX12_init_40 rfl (Or.inr (by rw [n8]; decide)) (by unfold vp_in; decide) ?_
  refine V.nmh (fun h9 e9 => ?_)
  have n9 : h9.1 = 118 := by rw [e9]; exact n8
  refine V.dup dX12_init_41 rfl ?_
  refine V.iconst (v := 1) dX12_init_42 rfl ?_
  refine V.iconst (v := (-1)) dX12_init_43 rfl ?_
  refine V.iastore dX12_init_44 rfl (Or.inr (by rw [n9]; decide)) (by unfold vp_in; decide) ?_
  refine V.nmh (fun h10 e10 => ?_)
  have n10 : h10.1 = 118 := by rw [e10]; exact n9
  refine V.dup dX12_init_45 rfl ?_
  refine V.iconst (v := 2) dX12_init_46 rfl ?_
  refine V.iconst (v := (-1)) dX12_init_47 rfl ?_
  refine V.iastore dX12_init_48 rfl (Or.inr (by rw [n10]; decide)) (by unfold vp_in; decide) ?_
  refine V.nmh (fun h11 e11 => ?_)
  have n11 : h11.1 = 118 := by rw [e11]; exact n10
  refine V.dup dX12_init_49 rfl ?_
  refine V.iconst (v := 3) dX12_init_50 rfl ?_
  refine V.iconst (v := (-1)) dX12_init_51 rfl ?_
  refine V.iastore dX12_init_52 rfl (Or.inr (by rw [n11]; decide)) (by unfold vp_in; decide) ?_
  refine V.nmh (fun h12 e12 => ?_)
  have n12 : h12.1 = 118 := by rw [e12]; exact n11
  refine V.putRk dX12_init_53 fl_X12_24 rfl (Or.inr (by rw [n12]; decide)) rfl rfl (fun q hq => by cases hq; exact Or.inr ⟨rfl, rfl, rfl⟩) (fun q hq _ => by cases hq; exact fo_X12_24) ?_
  refine V.nmh (fun h13 e13 => ?_)
  have n13 : h13.1 = 118 := by rw [e13]; exact n12
  refine V.aload_n dX12_init_56 rfl rfl rfl ?_
  refine V.sipush (v := 240) dX12_init_57 rfl ?_
  refine V.newarray (t := 1) (N := 240) dX12_init_60 rfl (by decide) ac_long (by rw [n13]; rfl) (by decide) rfl (by decide) (by rw [n13]; exact ⟨by decide, by decide +kernel⟩) (by rw [n13]; decide +kernel) ?_
  rw [n13]
  refine V.nmh (fun h14 e14 => ?_)
  have n14 : h14.1 = 119 := by rw [e14]; show h13.1 + 1 = 119; rw [n13]
  refine V.putRk dX12_init_62 fl_X12_27 rfl (Or.inr (by rw [n14]; decide)) rfl rfl (fun q hq => by cases hq; exact Or.inr ⟨rfl, rfl, rfl⟩) (fun q hq _ => by cases hq; exact fo_X12_27) ?_
  refine V.nmh (fun h15 e15 => ?_)
  have n15 : h15.1 = 119 := by rw [e15]; exact n14
  refine V.aload_n dX12_init_65 rfl rfl rfl ?_
  refine V.sipush (v := 900) dX12_init_66 rfl ?_
  refine V.newarray (t := 2) (N := 900) dX12_init_69 rfl (by decide) ac_byte (by rw [n15]; rfl) (by decide) rfl (by decide) (by rw [n15]; exact ⟨by decide, by decide +kernel⟩) (by rw [n15]; decide +kernel) ?_
  rw [n15]
  refine V.nmh (fun h16 e16 => ?_)
  have n16 : h16.1 = 120 := by rw [e16]; show h15.1 + 1 = 120; rw [n15]
  refine V.putRk dX12_init_71 fl_X12_30 rfl (Or.inr (by rw [n16]; decide)) rfl rfl (fun q hq => by cases hq; exact Or.inr ⟨rfl, rfl, rfl⟩) (fun q hq _ => by cases hq; exact fo_X12_30) ?_
  refine V.nmh (fun h17 e17 => ?_)
  have n17 : h17.1 = 120 := by rw [e17]; exact n16
  refine V.aload_n dX12_init_74 rfl rfl rfl ?_
  refine V.sipush (v := 900) dX12_init_75 rfl ?_
  refine V.newarray (t := 2) (N := 900) dX12_init_78 rfl (by decide) ac_byte (by rw [n17]; rfl) (by decide) rfl (by decide) (by rw [n17]; exact ⟨by decide, by decide +kernel⟩) (by rw [n17]; decide +kernel) ?_
  rw [n17]
  refine V.nmh (fun h18 e18 => ?_)
  have n18 : h18.1 = 121 := by rw [e18]; show h17.1 + 1 = 121; rw [n17]
  refine V.putRk dX12_init_80 fl_X12_34 rfl (Or.inr (by rw [n18]; decide)) rfl rfl (fun q hq => by cases hq; exact Or.inr ⟨rfl, rfl, rfl⟩) (fun q hq _ => by cases hq; exact fo_X12_34) ?_
  refine V.nmh (fun h19 e19 => ?_)
  have n19 : h19.1 = 121 := by rw [e19]; exact n18
  refine V.aload_n dX12_init_83 rfl rfl rfl ?_
  refine V.iconst (v := (-1)) dX12_init_84 rfl ?_
  refine V.putI dX12_init_85 fl_X12_37 rfl (Or.inr (by rw [n19]; decide)) rfl (fun q hq => by cases hq; rfl) ⟨rfl, rfl⟩ ?_
  refine V.nmh (fun h20 e20 => ?_)
  have n20 : h20.1 = 121 := by rw [e20]; exact n19
  refine V.aload_n dX12_init_88 rfl rfl rfl ?_
  refine V.iconst (v := (-1)) dX12_init_89 rfl ?_
  refine V.putI dX12_init_90 fl_X12_41 rfl (Or.inr (by rw [n20]; decide)) rfl (fun q hq => by cases hq; rfl) ⟨rfl, rfl⟩ ?_
  refine V.nmh (fun h21 e21 => ?_)
  have n21 : h21.1 = 121 := by rw [e21]; exact n20
  refine V.aload_n dX12_init_93 rfl rfl rfl ?_
  refine V.iconst (v := 3) dX12_init_94 rfl ?_
  refine V.newarray (t := 0) (N := 3) dX12_init_95 rfl (by decide) ac_int (by rw [n21]; rfl) (by decide) rfl (by decide) (by rw [n21]; exact ⟨by decide, by decide +kernel⟩) (by rw [n21]; decide +kernel) ?_
  rw [n21]
  refine V.nmh (fun h22 e22 => ?_)
  have n22 : h22.1 = 122 := by rw [e22]; show h21.1 + 1 = 122; rw [n21]
  refine V.putRk dX12_init_97 fl_X12_44 rfl (Or.inr (by rw [n22]; decide)) rfl rfl (fun q hq => by cases hq; exact Or.inr ⟨rfl, rfl, rfl⟩) (fun q hq _ => by cases hq; exact fo_X12_44) ?_
  refine V.nmh (fun h23 e23 => ?_)
  have n23 : h23.1 = 122 := by rw [e23]; exact n22
  refine V.aload_n dX12_init_100 rfl rfl rfl ?_
  refine V.bipush (v := 30) dX12_init_101 rfl ?_
  refine V.newarray (t := 0) (N := 30) dX12_init_103 rfl (by decide) ac_int (by rw [n23]; rfl) (by decide) rfl (by decide) (by rw [n23]; exact ⟨by decide, by decide +kernel⟩) (by rw [n23]; decide +kernel) ?_
  rw [n23]
  refine V.nmh (fun h24 e24 => ?_)
  have n24 : h24.1 = 123 := by rw [e24]; show h23.1 + 1 = 123; rw [n23]
  refine V.putRk dX12_init_105 fl_X12_47 rfl (Or.inr (by rw [n24]; decide)) rfl rfl (fun q hq => by cases hq; exact Or.inr ⟨rfl, rfl, rfl⟩) (fun q hq _ => by cases hq; exact fo_X12_47) ?_
  refine V.nmh (fun h25 e25 => ?_)
  have n25 : h25.1 = 123 := by rw [e25]; exact n24
  refine V.aload_n dX12_init_108 rfl rfl rfl ?_
  refine V.sipush (v := 2001) dX12_init_109 rfl ?_
  refine V.newarray (t := 0) (N := 2001) dX12_init_112 rfl (by decide) ac_int (by rw [n25]; rfl) (by decide) rfl (by decide) (by rw [n25]; exact ⟨by decide, by decide +kernel⟩) (by rw [n25]; decide +kernel) ?_
  rw [n25]
  refine V.nmh (fun h26 e26 => ?_)
  have n26 : h26.1 = 124 := by rw [e26]; show h25.1 + 1 = 124; rw [n25]
  refine V.putRk dX12_init_114 fl_X12_50 rfl (Or.inr (by rw [n26]; decide)) rfl rfl (fun q hq => by cases hq; exact Or.inr ⟨rfl, rfl, rfl⟩) (fun q hq _ => by cases hq; exact fo_X12_50) ?_
  refine V.nmh (fun h27 e27 => ?_)
  have n27 : h27.1 = 124 := by rw [e27]; exact n26
  refine V.aload_n dX12_init_117 rfl rfl rfl ?_
  refine V.sipush (v := 1024) dX12_init_118 rfl ?_
  refine V.newarray (t := 1) (N := 1024) dX12_init_121 rfl (by decide) ac_long (by rw [n27]; rfl) (by decide) rfl (by decide) (by rw [n27]; exact ⟨by decide, by decide +kernel⟩) (by rw [n27]; decide +kernel) ?_
  rw [n27]
  refine V.nmh (fun h28 e28 => ?_)
  have n28 : h28.1 = 125 := by rw [e28]; show h27.1 + 1 = 125; rw [n27]
  refine V.putRk dX12_init_123 fl_X12_53 rfl (Or.inr (by rw [n28]; decide)) rfl rfl (fun q hq => by cases hq; exact Or.inr ⟨rfl, rfl, rfl⟩) (fun q hq _ => by cases hq; exact fo_X12_53) ?_
  refine V.nmh (fun h29 e29 => ?_)
  have n29 : h29.1 = 125 := by rw [e29]; exact n28
  refine V.aload_n dX12_init_126 rfl rfl rfl ?_
  refine V.sipush (v := 1024) dX12_init_127 rfl ?_
  refine V.newarray (t := 1) (N := 1024) dX12_init_130 rfl (by decide) ac_long (by rw [n29]; rfl) (by decide) rfl (by decide) (by rw [n29]; exact ⟨by decide, by decide +kernel⟩) (by rw [n29]; decide +kernel) ?_
  rw [n29]
  refine V.nmh (fun h30 e30 => ?_)
  have n30 : h30.1 = 126 := by rw [e30]; show h29.1 + 1 = 126; rw [n29]
  refine V.putRk dX12_init_132 fl_X12_56 rfl (Or.inr (by rw [n30]; decide)) rfl rfl (fun q hq => by cases hq; exact Or.inr ⟨rfl, rfl, rfl⟩) (fun q hq _ => by cases hq; exact fo_X12_56) ?_
  refine V.nmh (fun h31 e31 => ?_)
  have n31 : h31.1 = 126 := by rw [e31]; exact n30
  refine V.aload_n dX12_init_135 rfl rfl rfl ?_
  refine V.sipush (v := 6144) dX12_init_136 rfl ?_
  refine V.newarray (t := 0) (N := 6144) dX12_init_139 rfl (by decide) ac_int (by rw [n31]; rfl) (by decide) rfl (by decide) (by rw [n31]; exact ⟨by decide, by decide +kernel⟩) (by rw [n31]; decide +kernel) ?_
  rw [n31]
  refine V.nmh (fun h32 e32 => ?_)
  have n32 : h32.1 = 127 := by rw [e32]; show h31.1 + 1 = 127; rw [n31]
  refine V.putRk dX12_init_141 fl_X12_59 rfl (Or.inr (by rw [n32]; decide)) rfl rfl (fun q hq => by cases hq; exact Or.inr ⟨rfl, rfl, rfl⟩) (fun q hq _ => by cases hq; exact fo_X12_59) ?_
  refine V.nmh (fun h33 e33 => ?_)
  have n33 : h33.1 = 127 := by rw [e33]; exact n32
  refine V.aload_n dX12_init_144 rfl rfl rfl ?_
  refine V.bipush (v := 80) dX12_init_145 rfl ?_
  refine V.newarray (t := 0) (N := 80) dX12_init_147 rfl (by decide) ac_int (by rw [n33]; rfl) (by decide) rfl (by decide) (by rw [n33]; exact ⟨by decide, by decide +kernel⟩) (by rw [n33]; decide +kernel) ?_
  rw [n33]
  refine V.nmh (fun h34 e34 => ?_)
  have n34 : h34.1 = 128 := by rw [e34]; show h33.1 + 1 = 128; rw [n33]
  refine V.putRk dX12_init_149 fl_X12_62 rfl (Or.inr (by rw [n34]; decide)) rfl rfl (fun q hq => by cases hq; exact Or.inr ⟨rfl, rfl, rfl⟩) (fun q hq _ => by cases hq; exact fo_X12_62) ?_
  refine V.nmh (fun h35 e35 => ?_)
  have n35 : h35.1 = 128 := by rw [e35]; exact n34
  refine V.aload_n dX12_init_152 rfl rfl rfl ?_
  refine V.iconst (v := 5) dX12_init_153 rfl ?_
  refine V.newarray (t := 0) (N := 5) dX12_init_154 rfl (by decide) ac_int (by rw [n35]; rfl) (by decide) rfl (by decide) (by rw [n35]; exact ⟨by decide, by decide +kernel⟩) (by rw [n35]; decide +kernel) ?_
  rw [n35]
  refine V.nmh (fun h36 e36 => ?_)
  have n36 : h36.1 = 129 := by rw [e36]; show h35.1 + 1 = 129; rw [n35]
  refine V.putRk dX12_init_156 fl_X12_65 rfl (Or.inr (by rw [n36]; decide)) rfl rfl (fun q hq => by cases hq; exact Or.inr ⟨rfl, rfl, rfl⟩) (fun q hq _ => by cases hq; exact fo_X12_65) ?_
  refine V.nmh (fun h37 e37 => ?_)
  have n37 : h37.1 = 129 := by rw [e37]; exact n36
  refine V.aload_n dX12_init_159 rfl rfl rfl ?_
  refine V.iconst (v := 5) dX12_init_160 rfl ?_
  refine V.newarray (t := 0) (N := 5) dX12_init_161 rfl (by decide) ac_int (by rw [n37]; rfl) (by decide) rfl (by decide) (by rw [n37]; exact ⟨by decide, by decide +kernel⟩) (by rw [n37]; decide +kernel) ?_
  rw [n37]
  refine V.nmh (fun h38 e38 => ?_)
  have n38 : h38.1 = 130 := by rw [e38]; show h37.1 + 1 = 130; rw [n37]
  refine V.putRk dX12_init_163 fl_X12_68 rfl (Or.inr (by rw [n38]; decide)) rfl rfl (fun q hq => by cases hq; exact Or.inr ⟨rfl, rfl, rfl⟩) (fun q hq _ => by cases hq; exact fo_X12_68) ?_
  refine V.nmh (fun h39 e39 => ?_)
  have n39 : h39.1 = 130 := by rw [e39]; exact n38
  have sh20 : h20 = mM01 h 113 := by rw [e20, e19, e18, e17, e16, e15, e14, e13, e12, e11, e10, e9, e8, e7, e6, e5, e4, e3, e2, e1]; rfl
  have sh39 : h39 = mM02 h20 113 := by rw [e39, e38, e37, e36, e35, e34, e33, e32, e31, e30, e29, e28, e27, e26, e25, e24, e23, e22, e21]; rfl
  have es : h39 = hB := by rw [sh39, sh20, eh]; rfl
  clear e39 e38 e37 e36 e35 e34 e33 e32 e31 e30 e29 e28 e27 e26 e25 e24 e23 e22 e21 e20 e19 e18 e17 e16 e15 e14 e13 e12 e11 e10 e9 e8 e7 e6 e5 e4 e3 e2 e1 sh20 sh39
  have ly : Lay h39 := by rw [es]; exact hB_L
  obtain ⟨g, g1, g2⟩ := plain_0 h39
  refine V.aload_n dX12_init_166 rfl rfl rfl ?_
  refine V.iconst (v := 0) dX12_init_167 rfl ?_
  refine V.callVV dX12_init_168 ml_X12_71 mo_X12_plain mv_X12_plain (z := 0) (ci := 10) rfl (fun q hq => by cases hq; rfl) (by decide) (Or.inr (by rw [n39]; decide)) (th_X12_plain ly g1) rfl rfl ⟨Nat.le_of_ble_eq_true rfl, Nat.le_of_ble_eq_true rfl, fun h9 => absurd h9 (by decide)⟩ (Nat.le_of_ble_eq_true rfl) (Or.inr (by rw [n39]; exact ⟨⟨by decide, by decide +kernel⟩, by decide +kernel⟩)) (fun hx ex => ?_)
  have ex := ex.1
  have nx : hx.1 = 130 := by rw [ex]; exact n39
  have lx : hR hx 113 0 = 114 := by rw [ex]; exact ly_113_0 ly
  refine V.aload_n dX12_init_171 rfl rfl rfl ?_
  refine V.getR (r := 114) dX12_init_172 fl_X12_7 rfl (Or.inr (by show 113 < hx.1; rw [nx]; decide)) rfl lx ?_
  refine V.iconst (v := 0) dX12_init_175 rfl ?_
  refine V.iconst (v := 1) dX12_init_176 rfl ?_
  refine V.iastore dX12_init_177 (n := 2460) rfl (Or.inr (by show 114 < hx.1; rw [nx]; decide)) (by unfold vp_in; decide) ?_
  refine V.aload_n dX12_init_178 rfl rfl rfl ?_
  refine V.getR (r := 114) dX12_init_179 fl_X12_7 rfl (Or.inr (by show 113 < hx.1; rw [nx]; decide)) rfl lx ?_
  refine V.iconst (v := 1) dX12_init_182 rfl ?_
  refine V.iconst (v := 1) dX12_init_183 rfl ?_
  refine V.iastore dX12_init_184 (n := 2460) rfl (Or.inr (by show 114 < hx.1; rw [nx]; decide)) (by unfold vp_in; decide) ?_
  refine V.aload_n dX12_init_185 rfl rfl rfl ?_
  refine V.getR (r := 114) dX12_init_186 fl_X12_7 rfl (Or.inr (by show 113 < hx.1; rw [nx]; decide)) rfl lx ?_
  refine V.iconst (v := 2) dX12_init_189 rfl ?_
  refine V.iconst (v := 1) dX12_init_190 rfl ?_
  refine V.iastore dX12_init_191 (n := 2460) rfl (Or.inr (by show 114 < hx.1; rw [nx]; decide)) (by unfold vp_in; decide) ?_
  refine V.vreturn' dX12_init_192 rfl n0 (Or.inr ⟨nx, by show SLT hx.1 - _ = _; rw [nx]; decide +kernel⟩) ?_
  exact ⟨g, g2, by rw [ex, es]; rfl⟩
