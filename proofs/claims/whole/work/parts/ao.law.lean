/-! ===== the law: its cases, 2 ===== -/
theorem law_mayor {b L : Nat} {xs : Nat → Int32} {h : HP} {t u i : Nat} (hL : L ≤ 3072) (hi : i + 6 ≤ L) (I : Inv h t u) (k : ∀ h' t' u', Inv h' t' u' → V cL_law miL_law (ZL b L xs) 0 1892 [.ref (NUL + 1), .ref 0, .ref 113, .int (nI i)] [] h') : V cL_law miL_law (ZL b L xs) 0 948 [.ref (NUL + 1), .ref 0, .ref 113, .int (nI i)] [] h := by
  obtain ⟨r, h1, h2, e1, e2, I2⟩ := op_mayor I (xs (i + 1))
  have ly := I.1.1
  refine V.aload_n dL_law_948 rfl rfl rfl ?_
  refine V.larg (j := 1) dL_law_949 dL_law_950 dL_law_951 dL_law_952 dL_law_953 rfl hL (by omega) ?_
  refine V.lcall (a := 0) (ci := 9) (z := 0) ly dL_law_954 ml_L_106 mo_X11_mayor mv_X11_mayor rfl (fun q hq => by cases hq; rfl) (by decide) (th_X11_mayor ly I.1.2.2.1.1 I.1.2.2.2.1 e1) rfl rfl ⟨Nat.le_of_ble_eq_true rfl, Nat.le_of_ble_eq_true rfl⟩ ⟨rfl, rfl⟩ (Nat.le_of_ble_eq_true rfl) (fun v0 g0 ex => ?_)
  obtain ⟨r0, rfl, ⟨rfl, rfl⟩, s0⟩ := ex
  have ly1 : Lay g0 := s0.ly ly
  refine V.aload_n dL_law_957 rfl rfl rfl ?_
  refine V.larg (j := 1) dL_law_958 dL_law_959 dL_law_960 dL_law_961 dL_law_962 rfl hL (by omega) ?_
  refine V.lcall (a := 113) (ci := 10) (z := 0) ly1 dL_law_963 ml_L_110 mo_X12_mayor mv_X12_mayor rfl (fun q hq => by cases hq; rfl) (by decide) (th_X12_mayor ly1 e2) rfl rfl ⟨Nat.le_of_ble_eq_true rfl, Nat.le_of_ble_eq_true rfl⟩ ⟨rfl, rfl⟩ (Nat.le_of_ble_eq_true rfl) (fun v1 g1 ex => ?_)
  obtain ⟨r1, rfl, ⟨rfl, rfl⟩, s1⟩ := ex
  exact V.icmp_eq (tgt := 1892) dL_law_966 (by decide) (fun _ => k _ _ _ I2) (fun q => absurd rfl q)
theorem law_bend {b L : Nat} {xs : Nat → Int32} {h : HP} {t u i : Nat} (hL : L ≤ 3072) (hi : i + 6 ≤ L) (I : Inv h t u) (k : ∀ h' t' u', Inv h' t' u' → V cL_law miL_law (ZL b L xs) 0 1892 [.ref (NUL + 1), .ref 0, .ref 113, .int (nI i)] [] h') : V cL_law miL_law (ZL b L xs) 0 971 [.ref (NUL + 1), .ref 0, .ref 113, .int (nI i)] [] h := by
  obtain ⟨r, h1, h2, e1, e2, I2⟩ := op_bend I (xs (i + 1)) (xs (i + 2)) (xs (i + 3))
  have ly := I.1.1
  refine V.aload_n dL_law_971 rfl rfl rfl ?_
  refine V.larg (j := 1) dL_law_972 dL_law_973 dL_law_974 dL_law_975 dL_law_976 rfl hL (by omega) ?_
  refine V.larg (j := 2) dL_law_977 dL_law_978 dL_law_979 dL_law_980 dL_law_981 rfl hL (by omega) ?_
  refine V.larg (j := 3) dL_law_982 dL_law_983 dL_law_984 dL_law_985 dL_law_986 rfl hL (by omega) ?_
  refine V.lcall (a := 0) (ci := 9) (z := 0) ly dL_law_987 ml_L_111 mo_X11_bend mv_X11_bend rfl (fun q hq => by cases hq; rfl) (by decide) (th_X11_bend ly I.1.2.2.1.1 I.1.2.2.2.1 e1) rfl rfl ⟨Nat.le_of_ble_eq_true rfl, Nat.le_of_ble_eq_true rfl⟩ ⟨rfl, rfl⟩ (Nat.le_of_ble_eq_true rfl) (fun v0 g0 ex => ?_)
  obtain ⟨r0, rfl, ⟨rfl, rfl⟩, s0⟩ := ex
  have ly1 : Lay g0 := s0.ly ly
  refine V.aload_n dL_law_990 rfl rfl rfl ?_
  refine V.larg (j := 1) dL_law_991 dL_law_992 dL_law_993 dL_law_994 dL_law_995 rfl hL (by omega) ?_
  refine V.larg (j := 2) dL_law_996 dL_law_997 dL_law_998 dL_law_999 dL_law_1000 rfl hL (by omega) ?_
  refine V.larg (j := 3) dL_law_1001 dL_law_1002 dL_law_1003 dL_law_1004 dL_law_1005 rfl hL (by omega) ?_
  refine V.lcall (a := 113) (ci := 10) (z := 0) ly1 dL_law_1006 ml_L_114 mo_X12_bend mv_X12_bend rfl (fun q hq => by cases hq; rfl) (by decide) (th_X12_bend ly1 e2) rfl rfl ⟨Nat.le_of_ble_eq_true rfl, Nat.le_of_ble_eq_true rfl⟩ ⟨rfl, rfl⟩ (Nat.le_of_ble_eq_true rfl) (fun v1 g1 ex => ?_)
  obtain ⟨r1, rfl, ⟨rfl, rfl⟩, s1⟩ := ex
  exact V.icmp_eq (tgt := 1892) dL_law_1009 (by decide) (fun _ => k _ _ _ I2) (fun q => absurd rfl q)
theorem law_night {b L : Nat} {xs : Nat → Int32} {h : HP} {t u i : Nat} (hL : L ≤ 3072) (hi : i + 6 ≤ L) (I : Inv h t u) (k : ∀ h' t' u', Inv h' t' u' → V cL_law miL_law (ZL b L xs) 0 1892 [.ref (NUL + 1), .ref 0, .ref 113, .int (nI i)] [] h') : V cL_law miL_law (ZL b L xs) 0 1014 [.ref (NUL + 1), .ref 0, .ref 113, .int (nI i)] [] h := by
  obtain ⟨r, h1, h2, e1, e2, I2⟩ := op_night I (xs (i + 1))
  have ly := I.1.1
  refine V.aload_n dL_law_1014 rfl rfl rfl ?_
  refine V.larg (j := 1) dL_law_1015 dL_law_1016 dL_law_1017 dL_law_1018 dL_law_1019 rfl hL (by omega) ?_
  refine V.lcall (a := 0) (ci := 9) (z := 0) ly dL_law_1020 ml_L_115 mo_X11_night mv_X11_night rfl (fun q hq => by cases hq; rfl) (by decide) (th_X11_night ly I.1.2.2.1.1 I.1.2.2.2.1 e1) rfl rfl ⟨Nat.le_of_ble_eq_true rfl, Nat.le_of_ble_eq_true rfl⟩ ⟨rfl, rfl⟩ (Nat.le_of_ble_eq_true rfl) (fun v0 g0 ex => ?_)
  obtain ⟨r0, rfl, ⟨rfl, rfl⟩, s0⟩ := ex
  have ly1 : Lay g0 := s0.ly ly
  refine V.aload_n dL_law_1023 rfl rfl rfl ?_
  refine V.larg (j := 1) dL_law_1024 dL_law_1025 dL_law_1026 dL_law_1027 dL_law_1028 rfl hL (by omega) ?_
  refine V.lcall (a := 113) (ci := 10) (z := 0) ly1 dL_law_1029 ml_L_118 mo_X12_night mv_X12_night rfl (fun q hq => by cases hq; rfl) (by decide) (th_X12_night ly1 e2) rfl rfl ⟨Nat.le_of_ble_eq_true rfl, Nat.le_of_ble_eq_true rfl⟩ ⟨rfl, rfl⟩ (Nat.le_of_ble_eq_true rfl) (fun v1 g1 ex => ?_)
  obtain ⟨r1, rfl, ⟨rfl, rfl⟩, s1⟩ := ex
  exact V.icmp_eq (tgt := 1892) dL_law_1032 (by decide) (fun _ => k _ _ _ I2) (fun q => absurd rfl q)
theorem law_ahead {b L : Nat} {xs : Nat → Int32} {h : HP} {t u i : Nat} (hL : L ≤ 3072) (hi : i + 6 ≤ L) (I : Inv h t u) (k : ∀ h' t' u', Inv h' t' u' → V cL_law miL_law (ZL b L xs) 0 1892 [.ref (NUL + 1), .ref 0, .ref 113, .int (nI i)] [] h') : V cL_law miL_law (ZL b L xs) 0 1037 [.ref (NUL + 1), .ref 0, .ref 113, .int (nI i)] [] h := by
  obtain ⟨r, h1, h2, e1, e2, I2⟩ := op_ahead I (xs (i + 1))
  have ly := I.1.1
  refine V.aload_n dL_law_1037 rfl rfl rfl ?_
  refine V.larg (j := 1) dL_law_1038 dL_law_1039 dL_law_1040 dL_law_1041 dL_law_1042 rfl hL (by omega) ?_
  refine V.lcall (a := 0) (ci := 9) (z := 0) ly dL_law_1043 ml_L_119 mo_X11_ahead mv_X11_ahead rfl (fun q hq => by cases hq; rfl) (by decide) (th_X11_ahead ly I.1.2.2.1.1 I.1.2.2.2.1 e1) rfl rfl ⟨Nat.le_of_ble_eq_true rfl, Nat.le_of_ble_eq_true rfl⟩ ⟨rfl, rfl⟩ (Nat.le_of_ble_eq_true rfl) (fun v0 g0 ex => ?_)
  obtain ⟨r0, rfl, ⟨rfl, rfl⟩, s0⟩ := ex
  have ly1 : Lay g0 := s0.ly ly
  refine V.aload_n dL_law_1046 rfl rfl rfl ?_
  refine V.larg (j := 1) dL_law_1047 dL_law_1048 dL_law_1049 dL_law_1050 dL_law_1051 rfl hL (by omega) ?_
  refine V.lcall (a := 113) (ci := 10) (z := 0) ly1 dL_law_1052 ml_L_123 mo_X12_ahead mv_X12_ahead rfl (fun q hq => by cases hq; rfl) (by decide) (th_X12_ahead ly1 e2) rfl rfl ⟨Nat.le_of_ble_eq_true rfl, Nat.le_of_ble_eq_true rfl⟩ ⟨rfl, rfl⟩ (Nat.le_of_ble_eq_true rfl) (fun v1 g1 ex => ?_)
  obtain ⟨r1, rfl, ⟨rfl, rfl⟩, s1⟩ := ex
  refine V.lcmp dL_law_1055 ?_
  exact V.if_eq (tgt := 1892) dL_law_1056 (by decide) (fun _ => k _ _ _ I2) (fun q => absurd lg_cmp_self q)
theorem law_again {b L : Nat} {xs : Nat → Int32} {h : HP} {t u i : Nat} (hL : L ≤ 3072) (hi : i + 6 ≤ L) (I : Inv h t u) (k : ∀ h' t' u', Inv h' t' u' → V cL_law miL_law (ZL b L xs) 0 1892 [.ref (NUL + 1), .ref 0, .ref 113, .int (nI i)] [] h') : V cL_law miL_law (ZL b L xs) 0 1061 [.ref (NUL + 1), .ref 0, .ref 113, .int (nI i)] [] h := by
  obtain ⟨r, h1, h2, e1, e2, I2⟩ := op_again I (xs (i + 1))
  have ly := I.1.1
  refine V.aload_n dL_law_1061 rfl rfl rfl ?_
  refine V.larg (j := 1) dL_law_1062 dL_law_1063 dL_law_1064 dL_law_1065 dL_law_1066 rfl hL (by omega) ?_
  refine V.lcall (a := 0) (ci := 9) (z := 0) ly dL_law_1067 ml_L_124 mo_X11_again mv_X11_again rfl (fun q hq => by cases hq; rfl) (by decide) (th_X11_again ly I.1.2.2.1.1 I.1.2.2.2.1 e1) rfl rfl ⟨Nat.le_of_ble_eq_true rfl, Nat.le_of_ble_eq_true rfl⟩ ⟨rfl, rfl⟩ (Nat.le_of_ble_eq_true rfl) (fun v0 g0 ex => ?_)
  obtain ⟨r0, rfl, ⟨rfl, rfl⟩, s0⟩ := ex
  have ly1 : Lay g0 := s0.ly ly
  refine V.aload_n dL_law_1070 rfl rfl rfl ?_
  refine V.larg (j := 1) dL_law_1071 dL_law_1072 dL_law_1073 dL_law_1074 dL_law_1075 rfl hL (by omega) ?_
  refine V.lcall (a := 113) (ci := 10) (z := 0) ly1 dL_law_1076 ml_L_127 mo_X12_again mv_X12_again rfl (fun q hq => by cases hq; rfl) (by decide) (th_X12_again ly1 e2) rfl rfl ⟨Nat.le_of_ble_eq_true rfl, Nat.le_of_ble_eq_true rfl⟩ ⟨rfl, rfl⟩ (Nat.le_of_ble_eq_true rfl) (fun v1 g1 ex => ?_)
  obtain ⟨r1, rfl, ⟨rfl, rfl⟩, s1⟩ := ex
  exact V.icmp_eq (tgt := 1892) dL_law_1079 (by decide) (fun _ => k _ _ _ I2) (fun q => absurd rfl q)
theorem law_far {b L : Nat} {xs : Nat → Int32} {h : HP} {t u i : Nat} (hL : L ≤ 3072) (hi : i + 6 ≤ L) (I : Inv h t u) (k : ∀ h' t' u', Inv h' t' u' → V cL_law miL_law (ZL b L xs) 0 1892 [.ref (NUL + 1), .ref 0, .ref 113, .int (nI i)] [] h') : V cL_law miL_law (ZL b L xs) 0 1084 [.ref (NUL + 1), .ref 0, .ref 113, .int (nI i)] [] h := by
  obtain ⟨r, h1, h2, e1, e2, I2⟩ := op_far I (xs (i + 1))
  have ly := I.1.1
  refine V.aload_n dL_law_1084 rfl rfl rfl ?_
  refine V.larg (j := 1) dL_law_1085 dL_law_1086 dL_law_1087 dL_law_1088 dL_law_1089 rfl hL (by omega) ?_
  refine V.lcall (a := 0) (ci := 9) (z := 0) ly dL_law_1090 ml_L_128 mo_X11_far mv_X11_far rfl (fun q hq => by cases hq; rfl) (by decide) (th_X11_far ly I.1.2.2.1.1 I.1.2.2.2.1 e1) rfl rfl ⟨Nat.le_of_ble_eq_true rfl, Nat.le_of_ble_eq_true rfl⟩ ⟨rfl, rfl⟩ (Nat.le_of_ble_eq_true rfl) (fun v0 g0 ex => ?_)
  obtain ⟨r0, rfl, ⟨rfl, rfl⟩, s0⟩ := ex
  have ly1 : Lay g0 := s0.ly ly
  refine V.aload_n dL_law_1093 rfl rfl rfl ?_
  refine V.larg (j := 1) dL_law_1094 dL_law_1095 dL_law_1096 dL_law_1097 dL_law_1098 rfl hL (by omega) ?_
  refine V.lcall (a := 113) (ci := 10) (z := 0) ly1 dL_law_1099 ml_L_131 mo_X12_far mv_X12_far rfl (fun q hq => by cases hq; rfl) (by decide) (th_X12_far ly1 e2) rfl rfl ⟨Nat.le_of_ble_eq_true rfl, Nat.le_of_ble_eq_true rfl⟩ ⟨rfl, rfl⟩ (Nat.le_of_ble_eq_true rfl) (fun v1 g1 ex => ?_)
  obtain ⟨r1, rfl, ⟨rfl, rfl⟩, s1⟩ := ex
  refine V.lcmp dL_law_1102 ?_
  exact V.if_eq (tgt := 1892) dL_law_1103 (by decide) (fun _ => k _ _ _ I2) (fun q => absurd lg_cmp_self q)
theorem law_walks {b L : Nat} {xs : Nat → Int32} {h : HP} {t u i : Nat} (hL : L ≤ 3072) (hi : i + 6 ≤ L) (I : Inv h t u) (k : ∀ h' t' u', Inv h' t' u' → V cL_law miL_law (ZL b L xs) 0 1892 [.ref (NUL + 1), .ref 0, .ref 113, .int (nI i)] [] h') : V cL_law miL_law (ZL b L xs) 0 1108 [.ref (NUL + 1), .ref 0, .ref 113, .int (nI i)] [] h := by
  obtain ⟨r, h1, h2, e1, e2, I2⟩ := op_walks I (xs (i + 1))
  have ly := I.1.1
  refine V.aload_n dL_law_1108 rfl rfl rfl ?_
  refine V.larg (j := 1) dL_law_1109 dL_law_1110 dL_law_1111 dL_law_1112 dL_law_1113 rfl hL (by omega) ?_
  refine V.lcall (a := 0) (ci := 9) (z := 0) ly dL_law_1114 ml_L_132 mo_X11_walks mv_X11_walks rfl (fun q hq => by cases hq; rfl) (by decide) (th_X11_walks ly I.1.2.2.1.1 I.1.2.2.2.1 e1) rfl rfl ⟨Nat.le_of_ble_eq_true rfl, Nat.le_of_ble_eq_true rfl⟩ ⟨rfl, rfl⟩ (Nat.le_of_ble_eq_true rfl) (fun v0 g0 ex => ?_)
  obtain ⟨r0, rfl, ⟨rfl, rfl⟩, s0⟩ := ex
  have ly1 : Lay g0 := s0.ly ly
  refine V.aload_n dL_law_1117 rfl rfl rfl ?_
  refine V.larg (j := 1) dL_law_1118 dL_law_1119 dL_law_1120 dL_law_1121 dL_law_1122 rfl hL (by omega) ?_
  refine V.lcall (a := 113) (ci := 10) (z := 0) ly1 dL_law_1123 ml_L_135 mo_X12_walks mv_X12_walks rfl (fun q hq => by cases hq; rfl) (by decide) (th_X12_walks ly1 e2) rfl rfl ⟨Nat.le_of_ble_eq_true rfl, Nat.le_of_ble_eq_true rfl⟩ ⟨rfl, rfl⟩ (Nat.le_of_ble_eq_true rfl) (fun v1 g1 ex => ?_)
  obtain ⟨r1, rfl, ⟨rfl, rfl⟩, s1⟩ := ex
  exact V.icmp_eq (tgt := 1892) dL_law_1126 (by decide) (fun _ => k _ _ _ I2) (fun q => absurd rfl q)
theorem law_still {b L : Nat} {xs : Nat → Int32} {h : HP} {t u i : Nat} (hL : L ≤ 3072) (hi : i + 6 ≤ L) (I : Inv h t u) (k : ∀ h' t' u', Inv h' t' u' → V cL_law miL_law (ZL b L xs) 0 1892 [.ref (NUL + 1), .ref 0, .ref 113, .int (nI i)] [] h') : V cL_law miL_law (ZL b L xs) 0 1131 [.ref (NUL + 1), .ref 0, .ref 113, .int (nI i)] [] h := by
  obtain ⟨r, h1, h2, e1, e2, I2⟩ := op_still I
  have ly := I.1.1
  refine V.aload_n dL_law_1131 rfl rfl rfl ?_
  refine V.lcall (a := 0) (ci := 9) (z := 0) ly dL_law_1132 ml_L_136 mo_X11_still mv_X11_still rfl (fun q hq => by cases hq; rfl) (by decide) (th_X11_still ly I.1.2.2.1.1 I.1.2.2.2.1 e1) rfl rfl ⟨Nat.le_of_ble_eq_true rfl, Nat.le_of_ble_eq_true rfl⟩ ⟨rfl, rfl⟩ (Nat.le_of_ble_eq_true rfl) (fun v0 g0 ex => ?_)
  obtain ⟨r0, rfl, ⟨rfl, rfl⟩, s0⟩ := ex
  have ly1 : Lay g0 := s0.ly ly
  refine V.aload_n dL_law_1135 rfl rfl rfl ?_
  refine V.lcall (a := 113) (ci := 10) (z := 0) ly1 dL_law_1136 ml_L_139 mo_X12_still mv_X12_still rfl (fun q hq => by cases hq; rfl) (by decide) (th_X12_still ly1 e2) rfl rfl ⟨Nat.le_of_ble_eq_true rfl, Nat.le_of_ble_eq_true rfl⟩ ⟨rfl, rfl⟩ (Nat.le_of_ble_eq_true rfl) (fun v1 g1 ex => ?_)
  obtain ⟨r1, rfl, ⟨rfl, rfl⟩, s1⟩ := ex
  exact V.icmp_eq (tgt := 1892) dL_law_1139 (by decide) (fun _ => k _ _ _ I2) (fun q => absurd rfl q)
theorem law_next {b L : Nat} {xs : Nat → Int32} {h : HP} {t u i : Nat} (hL : L ≤ 3072) (hi : i + 6 ≤ L) (I : Inv h t u) (k : ∀ h' t' u', Inv h' t' u' → V cL_law miL_law (ZL b L xs) 0 1892 [.ref (NUL + 1), .ref 0, .ref 113, .int (nI i)] [] h') : V cL_law miL_law (ZL b L xs) 0 1144 [.ref (NUL + 1), .ref 0, .ref 113, .int (nI i)] [] h := by
  obtain ⟨r, h1, h2, e1, e2, I2⟩ := op_next I (xs (i + 1))
  have ly := I.1.1
  refine V.aload_n dL_law_1144 rfl rfl rfl ?_
  refine V.larg (j := 1) dL_law_1145 dL_law_1146 dL_law_1147 dL_law_1148 dL_law_1149 rfl hL (by omega) ?_
  refine V.lcall (a := 0) (ci := 9) (z := 0) ly dL_law_1150 ml_L_140 mo_X11_next mv_X11_next rfl (fun q hq => by cases hq; rfl) (by decide) (th_X11_next ly I.1.2.2.1.1 I.1.2.2.2.1 e1) rfl rfl ⟨Nat.le_of_ble_eq_true rfl, Nat.le_of_ble_eq_true rfl⟩ ⟨rfl, rfl⟩ (Nat.le_of_ble_eq_true rfl) (fun v0 g0 ex => ?_)
  obtain ⟨r0, rfl, ⟨rfl, rfl⟩, s0⟩ := ex
  have ly1 : Lay g0 := s0.ly ly
  refine V.aload_n dL_law_1153 rfl rfl rfl ?_
  refine V.larg (j := 1) dL_law_1154 dL_law_1155 dL_law_1156 dL_law_1157 dL_law_1158 rfl hL (by omega) ?_
  refine V.lcall (a := 113) (ci := 10) (z := 0) ly1 dL_law_1159 ml_L_143 mo_X12_next mv_X12_next rfl (fun q hq => by cases hq; rfl) (by decide) (th_X12_next ly1 e2) rfl rfl ⟨Nat.le_of_ble_eq_true rfl, Nat.le_of_ble_eq_true rfl⟩ ⟨rfl, rfl⟩ (Nat.le_of_ble_eq_true rfl) (fun v1 g1 ex => ?_)
  obtain ⟨r1, rfl, ⟨rfl, rfl⟩, s1⟩ := ex
  exact V.icmp_eq (tgt := 1892) dL_law_1162 (by decide) (fun _ => k _ _ _ I2) (fun q => absurd rfl q)
theorem law_oil {b L : Nat} {xs : Nat → Int32} {h : HP} {t u i : Nat} (hL : L ≤ 3072) (hi : i + 6 ≤ L) (I : Inv h t u) (k : ∀ h' t' u', Inv h' t' u' → V cL_law miL_law (ZL b L xs) 0 1892 [.ref (NUL + 1), .ref 0, .ref 113, .int (nI i)] [] h') : V cL_law miL_law (ZL b L xs) 0 1167 [.ref (NUL + 1), .ref 0, .ref 113, .int (nI i)] [] h := by
  obtain ⟨r, h1, h2, e1, e2, I2⟩ := op_oil I (xs (i + 1))
  have ly := I.1.1
  refine V.aload_n dL_law_1167 rfl rfl rfl ?_
  refine V.larg (j := 1) dL_law_1168 dL_law_1169 dL_law_1170 dL_law_1171 dL_law_1172 rfl hL (by omega) ?_
  refine V.lcall (a := 0) (ci := 9) (z := 0) ly dL_law_1173 ml_L_144 mo_X11_oil mv_X11_oil rfl (fun q hq => by cases hq; rfl) (by decide) (th_X11_oil ly I.1.2.2.1.1 I.1.2.2.2.1 e1) rfl rfl ⟨Nat.le_of_ble_eq_true rfl, Nat.le_of_ble_eq_true rfl⟩ ⟨rfl, rfl⟩ (Nat.le_of_ble_eq_true rfl) (fun v0 g0 ex => ?_)
  obtain ⟨r0, rfl, ⟨rfl, rfl⟩, s0⟩ := ex
  have ly1 : Lay g0 := s0.ly ly
  refine V.aload_n dL_law_1176 rfl rfl rfl ?_
  refine V.larg (j := 1) dL_law_1177 dL_law_1178 dL_law_1179 dL_law_1180 dL_law_1181 rfl hL (by omega) ?_
  refine V.lcall (a := 113) (ci := 10) (z := 0) ly1 dL_law_1182 ml_L_147 mo_X12_oil mv_X12_oil rfl (fun q hq => by cases hq; rfl) (by decide) (th_X12_oil ly1 e2) rfl rfl ⟨Nat.le_of_ble_eq_true rfl, Nat.le_of_ble_eq_true rfl⟩ ⟨rfl, rfl⟩ (Nat.le_of_ble_eq_true rfl) (fun v1 g1 ex => ?_)
  obtain ⟨r1, rfl, ⟨rfl, rfl⟩, s1⟩ := ex
  exact V.icmp_eq (tgt := 1892) dL_law_1185 (by decide) (fun _ => k _ _ _ I2) (fun q => absurd rfl q)
theorem law_brightest {b L : Nat} {xs : Nat → Int32} {h : HP} {t u i : Nat} (hL : L ≤ 3072) (hi : i + 6 ≤ L) (I : Inv h t u) (k : ∀ h' t' u', Inv h' t' u' → V cL_law miL_law (ZL b L xs) 0 1892 [.ref (NUL + 1), .ref 0, .ref 113, .int (nI i)] [] h') : V cL_law miL_law (ZL b L xs) 0 1190 [.ref (NUL + 1), .ref 0, .ref 113, .int (nI i)] [] h := by
  obtain ⟨r, h1, h2, e1, e2, I2⟩ := op_brightest I (xs (i + 1))
  have ly := I.1.1
  refine V.aload_n dL_law_1190 rfl rfl rfl ?_
  refine V.larg (j := 1) dL_law_1191 dL_law_1192 dL_law_1193 dL_law_1194 dL_law_1195 rfl hL (by omega) ?_
  refine V.lcall (a := 0) (ci := 9) (z := 0) ly dL_law_1196 ml_L_148 mo_X11_brightest mv_X11_brightest rfl (fun q hq => by cases hq; rfl) (by decide) (th_X11_brightest ly I.1.2.2.1.1 I.1.2.2.2.1 e1) rfl rfl ⟨Nat.le_of_ble_eq_true rfl, Nat.le_of_ble_eq_true rfl⟩ ⟨rfl, rfl⟩ (Nat.le_of_ble_eq_true rfl) (fun v0 g0 ex => ?_)
  obtain ⟨r0, rfl, ⟨rfl, rfl⟩, s0⟩ := ex
  have ly1 : Lay g0 := s0.ly ly
  refine V.aload_n dL_law_1199 rfl rfl rfl ?_
  refine V.larg (j := 1) dL_law_1200 dL_law_1201 dL_law_1202 dL_law_1203 dL_law_1204 rfl hL (by omega) ?_
  refine V.lcall (a := 113) (ci := 10) (z := 0) ly1 dL_law_1205 ml_L_151 mo_X12_brightest mv_X12_brightest rfl (fun q hq => by cases hq; rfl) (by decide) (th_X12_brightest ly1 e2) rfl rfl ⟨Nat.le_of_ble_eq_true rfl, Nat.le_of_ble_eq_true rfl⟩ ⟨rfl, rfl⟩ (Nat.le_of_ble_eq_true rfl) (fun v1 g1 ex => ?_)
  obtain ⟨r1, rfl, ⟨rfl, rfl⟩, s1⟩ := ex
  exact V.icmp_eq (tgt := 1892) dL_law_1208 (by decide) (fun _ => k _ _ _ I2) (fun q => absurd rfl q)
theorem law_ancestors {b L : Nat} {xs : Nat → Int32} {h : HP} {t u i : Nat} (hL : L ≤ 3072) (hi : i + 6 ≤ L) (I : Inv h t u) (k : ∀ h' t' u', Inv h' t' u' → V cL_law miL_law (ZL b L xs) 0 1892 [.ref (NUL + 1), .ref 0, .ref 113, .int (nI i)] [] h') : V cL_law miL_law (ZL b L xs) 0 1213 [.ref (NUL + 1), .ref 0, .ref 113, .int (nI i)] [] h := by
  obtain ⟨r, h1, h2, e1, e2, I2⟩ := opL_ancestors I
  have ly := I.1.1
  refine V.aload_n dL_law_1213 rfl rfl rfl ?_
  refine V.lcall (a := 0) (ci := 9) (z := 0) ly dL_law_1214 ml_L_152 mo_X11_ancestors mv_X11_ancestors rfl (fun q hq => by cases hq; rfl) (by decide) (th_X11_ancestors ly I.1.2.2.1.1 I.1.2.2.2.1 e1) rfl rfl ⟨Nat.le_of_ble_eq_true rfl, Nat.le_of_ble_eq_true rfl⟩ ⟨rfl, rfl⟩ (Nat.le_of_ble_eq_true rfl) (fun v0 g0 ex => ?_)
  obtain ⟨r0, rfl, ⟨rfl, rfl⟩, s0⟩ := ex
  have ly1 : Lay g0 := s0.ly ly
  refine V.aload_n dL_law_1217 rfl rfl rfl ?_
  refine V.lcall (a := 113) (ci := 10) (z := 0) ly1 dL_law_1218 ml_L_155 mo_X12_ancestors mv_X12_ancestors rfl (fun q hq => by cases hq; rfl) (by decide) (th_X12_ancestors ly1 e2) rfl rfl ⟨Nat.le_of_ble_eq_true rfl, Nat.le_of_ble_eq_true rfl⟩ ⟨rfl, rfl⟩ (Nat.le_of_ble_eq_true rfl) (fun v1 g1 ex => ?_)
  obtain ⟨r1, rfl, ⟨rfl, rfl⟩, s1⟩ := ex
  refine V.lcmp dL_law_1221 ?_
  exact V.if_eq (tgt := 1892) dL_law_1222 (by decide) (fun _ => k _ _ _ I2) (fun q => absurd lg_cmp_self q)
theorem law_ancestor {b L : Nat} {xs : Nat → Int32} {h : HP} {t u i : Nat} (hL : L ≤ 3072) (hi : i + 6 ≤ L) (I : Inv h t u) (k : ∀ h' t' u', Inv h' t' u' → V cL_law miL_law (ZL b L xs) 0 1892 [.ref (NUL + 1), .ref 0, .ref 113, .int (nI i)] [] h') : V cL_law miL_law (ZL b L xs) 0 1227 [.ref (NUL + 1), .ref 0, .ref 113, .int (nI i)] [] h := by
  obtain ⟨r, h1, h2, e1, e2, I2⟩ := opL_ancestor I
  have ly := I.1.1
  refine V.aload_n dL_law_1227 rfl rfl rfl ?_
  refine V.lcall (a := 0) (ci := 9) (z := 0) ly dL_law_1228 ml_L_156 mo_X11_ancestor mv_X11_ancestor rfl (fun q hq => by cases hq; rfl) (by decide) (th_X11_ancestor ly I.1.2.2.1.1 I.1.2.2.2.1 e1) rfl rfl ⟨Nat.le_of_ble_eq_true rfl, Nat.le_of_ble_eq_true rfl⟩ ⟨rfl, rfl⟩ (Nat.le_of_ble_eq_true rfl) (fun v0 g0 ex => ?_)
  obtain ⟨r0, rfl, ⟨rfl, rfl⟩, s0⟩ := ex
  have ly1 : Lay g0 := s0.ly ly
  refine V.aload_n dL_law_1231 rfl rfl rfl ?_
  refine V.lcall (a := 113) (ci := 10) (z := 0) ly1 dL_law_1232 ml_L_159 mo_X12_ancestor mv_X12_ancestor rfl (fun q hq => by cases hq; rfl) (by decide) (th_X12_ancestor ly1 e2) rfl rfl ⟨Nat.le_of_ble_eq_true rfl, Nat.le_of_ble_eq_true rfl⟩ ⟨rfl, rfl⟩ (Nat.le_of_ble_eq_true rfl) (fun v1 g1 ex => ?_)
  obtain ⟨r1, rfl, ⟨rfl, rfl⟩, s1⟩ := ex
  refine V.lcmp dL_law_1235 ?_
  exact V.if_eq (tgt := 1892) dL_law_1236 (by decide) (fun _ => k _ _ _ I2) (fun q => absurd lg_cmp_self q)
theorem law_stills {b L : Nat} {xs : Nat → Int32} {h : HP} {t u i : Nat} (hL : L ≤ 3072) (hi : i + 6 ≤ L) (I : Inv h t u) (k : ∀ h' t' u', Inv h' t' u' → V cL_law miL_law (ZL b L xs) 0 1892 [.ref (NUL + 1), .ref 0, .ref 113, .int (nI i)] [] h') : V cL_law miL_law (ZL b L xs) 0 1241 [.ref (NUL + 1), .ref 0, .ref 113, .int (nI i)] [] h := by
  obtain ⟨r, h1, h2, e1, e2, I2⟩ := opL_stills I
  have ly := I.1.1
  refine V.aload_n dL_law_1241 rfl rfl rfl ?_
  refine V.lcall (a := 0) (ci := 9) (z := 0) ly dL_law_1242 ml_L_160 mo_X11_stills mv_X11_stills rfl (fun q hq => by cases hq; rfl) (by decide) (th_X11_stills ly I.1.2.2.1.1 I.1.2.2.2.1 e1) rfl rfl ⟨Nat.le_of_ble_eq_true rfl, Nat.le_of_ble_eq_true rfl⟩ ⟨rfl, rfl⟩ (Nat.le_of_ble_eq_true rfl) (fun v0 g0 ex => ?_)
  obtain ⟨r0, rfl, ⟨rfl, rfl⟩, s0⟩ := ex
  have ly1 : Lay g0 := s0.ly ly
  refine V.aload_n dL_law_1245 rfl rfl rfl ?_
  refine V.lcall (a := 113) (ci := 10) (z := 0) ly1 dL_law_1246 ml_L_163 mo_X12_stills mv_X12_stills rfl (fun q hq => by cases hq; rfl) (by decide) (th_X12_stills ly1 e2) rfl rfl ⟨Nat.le_of_ble_eq_true rfl, Nat.le_of_ble_eq_true rfl⟩ ⟨rfl, rfl⟩ (Nat.le_of_ble_eq_true rfl) (fun v1 g1 ex => ?_)
  obtain ⟨r1, rfl, ⟨rfl, rfl⟩, s1⟩ := ex
  refine V.lcmp dL_law_1249 ?_
  exact V.if_eq (tgt := 1892) dL_law_1250 (by decide) (fun _ => k _ _ _ I2) (fun q => absurd lg_cmp_self q)
theorem law_firstStill {b L : Nat} {xs : Nat → Int32} {h : HP} {t u i : Nat} (hL : L ≤ 3072) (hi : i + 6 ≤ L) (I : Inv h t u) (k : ∀ h' t' u', Inv h' t' u' → V cL_law miL_law (ZL b L xs) 0 1892 [.ref (NUL + 1), .ref 0, .ref 113, .int (nI i)] [] h') : V cL_law miL_law (ZL b L xs) 0 1255 [.ref (NUL + 1), .ref 0, .ref 113, .int (nI i)] [] h := by
  obtain ⟨r, h1, h2, e1, e2, I2⟩ := opL_firstStill I
  have ly := I.1.1
  refine V.aload_n dL_law_1255 rfl rfl rfl ?_
  refine V.lcall (a := 0) (ci := 9) (z := 0) ly dL_law_1256 ml_L_164 mo_X11_firstStill mv_X11_firstStill rfl (fun q hq => by cases hq; rfl) (by decide) (th_X11_firstStill ly I.1.2.2.1.1 I.1.2.2.2.1 e1) rfl rfl ⟨Nat.le_of_ble_eq_true rfl, Nat.le_of_ble_eq_true rfl⟩ ⟨rfl, rfl⟩ (Nat.le_of_ble_eq_true rfl) (fun v0 g0 ex => ?_)
  obtain ⟨r0, rfl, ⟨rfl, rfl⟩, s0⟩ := ex
  have ly1 : Lay g0 := s0.ly ly
  refine V.aload_n dL_law_1259 rfl rfl rfl ?_
  refine V.lcall (a := 113) (ci := 10) (z := 0) ly1 dL_law_1260 ml_L_167 mo_X12_firstStill mv_X12_firstStill rfl (fun q hq => by cases hq; rfl) (by decide) (th_X12_firstStill ly1 e2) rfl rfl ⟨Nat.le_of_ble_eq_true rfl, Nat.le_of_ble_eq_true rfl⟩ ⟨rfl, rfl⟩ (Nat.le_of_ble_eq_true rfl) (fun v1 g1 ex => ?_)
  obtain ⟨r1, rfl, ⟨rfl, rfl⟩, s1⟩ := ex
  refine V.lcmp dL_law_1263 ?_
  exact V.if_eq (tgt := 1892) dL_law_1264 (by decide) (fun _ => k _ _ _ I2) (fun q => absurd lg_cmp_self q)
theorem law_pictures {b L : Nat} {xs : Nat → Int32} {h : HP} {t u i : Nat} (hL : L ≤ 3072) (hi : i + 6 ≤ L) (I : Inv h t u) (k : ∀ h' t' u', Inv h' t' u' → V cL_law miL_law (ZL b L xs) 0 1892 [.ref (NUL + 1), .ref 0, .ref 113, .int (nI i)] [] h') : V cL_law miL_law (ZL b L xs) 0 1269 [.ref (NUL + 1), .ref 0, .ref 113, .int (nI i)] [] h := by
  obtain ⟨r, h1, h2, e1, e2, I2⟩ := op_pictures I
  have ly := I.1.1
  refine V.aload_n dL_law_1269 rfl rfl rfl ?_
  refine V.lcall (a := 0) (ci := 9) (z := 0) ly dL_law_1270 ml_L_168 mo_X11_pictures mv_X11_pictures rfl (fun q hq => by cases hq; rfl) (by decide) (th_X11_pictures ly I.1.2.2.1.1 I.1.2.2.2.1 e1) rfl rfl ⟨Nat.le_of_ble_eq_true rfl, Nat.le_of_ble_eq_true rfl⟩ ⟨rfl, rfl⟩ (Nat.le_of_ble_eq_true rfl) (fun v0 g0 ex => ?_)
  obtain ⟨r0, rfl, ⟨rfl, rfl⟩, s0⟩ := ex
  have ly1 : Lay g0 := s0.ly ly
  refine V.aload_n dL_law_1273 rfl rfl rfl ?_
  refine V.lcall (a := 113) (ci := 10) (z := 0) ly1 dL_law_1274 ml_L_171 mo_X12_pictures mv_X12_pictures rfl (fun q hq => by cases hq; rfl) (by decide) (th_X12_pictures ly1 e2) rfl rfl ⟨Nat.le_of_ble_eq_true rfl, Nat.le_of_ble_eq_true rfl⟩ ⟨rfl, rfl⟩ (Nat.le_of_ble_eq_true rfl) (fun v1 g1 ex => ?_)
  obtain ⟨r1, rfl, ⟨rfl, rfl⟩, s1⟩ := ex
  refine V.lcmp dL_law_1277 ?_
  exact V.if_eq (tgt := 1892) dL_law_1278 (by decide) (fun _ => k _ _ _ I2) (fun q => absurd lg_cmp_self q)
theorem law_signal {b L : Nat} {xs : Nat → Int32} {h : HP} {t u i : Nat} (hL : L ≤ 3072) (hi : i + 6 ≤ L) (I : Inv h t u) (k : ∀ h' t' u', Inv h' t' u' → V cL_law miL_law (ZL b L xs) 0 1892 [.ref (NUL + 1), .ref 0, .ref 113, .int (nI i)] [] h') : V cL_law miL_law (ZL b L xs) 0 1283 [.ref (NUL + 1), .ref 0, .ref 113, .int (nI i)] [] h := by
  obtain ⟨r, h1, h2, e1, e2, I2⟩ := op_signal I (xs (i + 1)) (xs (i + 2)) (xs (i + 3)) (xs (i + 4))
  have ly := I.1.1
  refine V.aload_n dL_law_1283 rfl rfl rfl ?_
  refine V.larg (j := 1) dL_law_1284 dL_law_1285 dL_law_1286 dL_law_1287 dL_law_1288 rfl hL (by omega) ?_
  refine V.larg (j := 2) dL_law_1289 dL_law_1290 dL_law_1291 dL_law_1292 dL_law_1293 rfl hL (by omega) ?_
  refine V.larg (j := 3) dL_law_1294 dL_law_1295 dL_law_1296 dL_law_1297 dL_law_1298 rfl hL (by omega) ?_
  refine V.larg (j := 4) dL_law_1299 dL_law_1300 dL_law_1301 dL_law_1302 dL_law_1303 rfl hL (by omega) ?_
  refine V.lcall (a := 0) (ci := 9) (z := 0) ly dL_law_1304 ml_L_172 mo_X11_signal mv_X11_signal rfl (fun q hq => by cases hq; rfl) (by decide) (th_X11_signal ly I.1.2.2.1.1 I.1.2.2.2.1 e1) rfl rfl ⟨Nat.le_of_ble_eq_true rfl, Nat.le_of_ble_eq_true rfl⟩ ⟨rfl, rfl⟩ (Nat.le_of_ble_eq_true rfl) (fun v0 g0 ex => ?_)
  obtain ⟨r0, rfl, ⟨rfl, rfl⟩, s0⟩ := ex
  have ly1 : Lay g0 := s0.ly ly
  refine V.aload_n dL_law_1307 rfl rfl rfl ?_
  refine V.larg (j := 1) dL_law_1308 dL_law_1309 dL_law_1310 dL_law_1311 dL_law_1312 rfl hL (by omega) ?_
  refine V.larg (j := 2) dL_law_1313 dL_law_1314 dL_law_1315 dL_law_1316 dL_law_1317 rfl hL (by omega) ?_
  refine V.larg (j := 3) dL_law_1318 dL_law_1319 dL_law_1320 dL_law_1321 dL_law_1322 rfl hL (by omega) ?_
  refine V.larg (j := 4) dL_law_1323 dL_law_1324 dL_law_1325 dL_law_1326 dL_law_1327 rfl hL (by omega) ?_
  refine V.lcall (a := 113) (ci := 10) (z := 0) ly1 dL_law_1328 ml_L_176 mo_X12_signal mv_X12_signal rfl (fun q hq => by cases hq; rfl) (by decide) (th_X12_signal ly1 e2) rfl rfl ⟨Nat.le_of_ble_eq_true rfl, Nat.le_of_ble_eq_true rfl⟩ ⟨rfl, rfl⟩ (Nat.le_of_ble_eq_true rfl) (fun v1 g1 ex => ?_)
  obtain ⟨r1, rfl, ⟨rfl, rfl⟩, s1⟩ := ex
  exact V.icmp_eq (tgt := 1892) dL_law_1331 (by decide) (fun _ => k _ _ _ I2) (fun q => absurd rfl q)
theorem law_spoils {b L : Nat} {xs : Nat → Int32} {h : HP} {t u i : Nat} (hL : L ≤ 3072) (hi : i + 6 ≤ L) (I : Inv h t u) (k : ∀ h' t' u', Inv h' t' u' → V cL_law miL_law (ZL b L xs) 0 1892 [.ref (NUL + 1), .ref 0, .ref 113, .int (nI i)] [] h') : V cL_law miL_law (ZL b L xs) 0 1336 [.ref (NUL + 1), .ref 0, .ref 113, .int (nI i)] [] h := by
  obtain ⟨r, h1, h2, e1, e2, I2⟩ := op_spoils I (xs (i + 1)) (xs (i + 2)) (xs (i + 3))
  have ly := I.1.1
  refine V.aload_n dL_law_1336 rfl rfl rfl ?_
  refine V.larg (j := 1) dL_law_1337 dL_law_1338 dL_law_1339 dL_law_1340 dL_law_1341 rfl hL (by omega) ?_
  refine V.larg (j := 2) dL_law_1342 dL_law_1343 dL_law_1344 dL_law_1345 dL_law_1346 rfl hL (by omega) ?_
  refine V.larg (j := 3) dL_law_1347 dL_law_1348 dL_law_1349 dL_law_1350 dL_law_1351 rfl hL (by omega) ?_
  refine V.lcall (a := 0) (ci := 9) (z := 0) ly dL_law_1352 ml_L_177 mo_X11_spoils mv_X11_spoils rfl (fun q hq => by cases hq; rfl) (by decide) (th_X11_spoils ly I.1.2.2.1.1 I.1.2.2.2.1 e1) rfl rfl ⟨Nat.le_of_ble_eq_true rfl, Nat.le_of_ble_eq_true rfl⟩ ⟨rfl, rfl⟩ (Nat.le_of_ble_eq_true rfl) (fun v0 g0 ex => ?_)
  obtain ⟨r0, rfl, ⟨rfl, rfl⟩, s0⟩ := ex
  have ly1 : Lay g0 := s0.ly ly
  refine V.aload_n dL_law_1355 rfl rfl rfl ?_
  refine V.larg (j := 1) dL_law_1356 dL_law_1357 dL_law_1358 dL_law_1359 dL_law_1360 rfl hL (by omega) ?_
  refine V.larg (j := 2) dL_law_1361 dL_law_1362 dL_law_1363 dL_law_1364 dL_law_1365 rfl hL (by omega) ?_
  refine V.larg (j := 3) dL_law_1366 dL_law_1367 dL_law_1368 dL_law_1369 dL_law_1370 rfl hL (by omega) ?_
  refine V.lcall (a := 113) (ci := 10) (z := 0) ly1 dL_law_1371 ml_L_180 mo_X12_spoils mv_X12_spoils rfl (fun q hq => by cases hq; rfl) (by decide) (th_X12_spoils ly1 e2) rfl rfl ⟨Nat.le_of_ble_eq_true rfl, Nat.le_of_ble_eq_true rfl⟩ ⟨rfl, rfl⟩ (Nat.le_of_ble_eq_true rfl) (fun v1 g1 ex => ?_)
  obtain ⟨r1, rfl, ⟨rfl, rfl⟩, s1⟩ := ex
  exact V.icmp_eq (tgt := 1892) dL_law_1374 (by decide) (fun _ => k _ _ _ I2) (fun q => absurd rfl q)
theorem law_worst {b L : Nat} {xs : Nat → Int32} {h : HP} {t u i : Nat} (hL : L ≤ 3072) (hi : i + 6 ≤ L) (I : Inv h t u) (k : ∀ h' t' u', Inv h' t' u' → V cL_law miL_law (ZL b L xs) 0 1892 [.ref (NUL + 1), .ref 0, .ref 113, .int (nI i)] [] h') : V cL_law miL_law (ZL b L xs) 0 1379 [.ref (NUL + 1), .ref 0, .ref 113, .int (nI i)] [] h := by
  obtain ⟨r, h1, h2, e1, e2, I2⟩ := op_worst I (xs (i + 1)) (xs (i + 2))
  have ly := I.1.1
  refine V.aload_n dL_law_1379 rfl rfl rfl ?_
  refine V.larg (j := 1) dL_law_1380 dL_law_1381 dL_law_1382 dL_law_1383 dL_law_1384 rfl hL (by omega) ?_
  refine V.larg (j := 2) dL_law_1385 dL_law_1386 dL_law_1387 dL_law_1388 dL_law_1389 rfl hL (by omega) ?_
  refine V.lcall (a := 0) (ci := 9) (z := 0) ly dL_law_1390 ml_L_181 mo_X11_worst mv_X11_worst rfl (fun q hq => by cases hq; rfl) (by decide) (th_X11_worst ly I.1.2.2.1.1 I.1.2.2.2.1 e1) rfl rfl ⟨Nat.le_of_ble_eq_true rfl, Nat.le_of_ble_eq_true rfl⟩ ⟨rfl, rfl⟩ (Nat.le_of_ble_eq_true rfl) (fun v0 g0 ex => ?_)
  obtain ⟨r0, rfl, ⟨rfl, rfl⟩, s0⟩ := ex
  have ly1 : Lay g0 := s0.ly ly
  refine V.aload_n dL_law_1393 rfl rfl rfl ?_
  refine V.larg (j := 1) dL_law_1394 dL_law_1395 dL_law_1396 dL_law_1397 dL_law_1398 rfl hL (by omega) ?_
  refine V.larg (j := 2) dL_law_1399 dL_law_1400 dL_law_1401 dL_law_1402 dL_law_1403 rfl hL (by omega) ?_
  refine V.lcall (a := 113) (ci := 10) (z := 0) ly1 dL_law_1404 ml_L_184 mo_X12_worst mv_X12_worst rfl (fun q hq => by cases hq; rfl) (by decide) (th_X12_worst ly1 e2) rfl rfl ⟨Nat.le_of_ble_eq_true rfl, Nat.le_of_ble_eq_true rfl⟩ ⟨rfl, rfl⟩ (Nat.le_of_ble_eq_true rfl) (fun v1 g1 ex => ?_)
  obtain ⟨r1, rfl, ⟨rfl, rfl⟩, s1⟩ := ex
  exact V.icmp_eq (tgt := 1892) dL_law_1407 (by decide) (fun _ => k _ _ _ I2) (fun q => absurd rfl q)
theorem law_mend {b L : Nat} {xs : Nat → Int32} {h : HP} {t u i : Nat} (hL : L ≤ 3072) (hi : i + 6 ≤ L) (I : Inv h t u) (k : ∀ h' t' u', Inv h' t' u' → V cL_law miL_law (ZL b L xs) 0 1892 [.ref (NUL + 1), .ref 0, .ref 113, .int (nI i)] [] h') : V cL_law miL_law (ZL b L xs) 0 1412 [.ref (NUL + 1), .ref 0, .ref 113, .int (nI i)] [] h := by
  obtain ⟨r, h1, h2, e1, e2, I2⟩ := op_mend I (((Int32.toInt64 (xs (i + 1)) <<< (Int32.toInt64 32 &&& 63)) ||| (Int32.toInt64 (xs (i + 2)) &&& 4294967295))) (xs (i + 3))
  have ly := I.1.1
  refine V.aload_n dL_law_1412 rfl rfl rfl ?_
  refine V.larg (j := 1) dL_law_1413 dL_law_1414 dL_law_1415 dL_law_1416 dL_law_1417 rfl hL (by omega) ?_
  refine V.i2l dL_law_1418 ?_
  refine V.bipush (v := 32) dL_law_1419 rfl ?_
  refine V.lshl dL_law_1421 ?_
  refine V.larg (j := 2) dL_law_1422 dL_law_1423 dL_law_1424 dL_law_1425 dL_law_1426 rfl hL (by omega) ?_
  refine V.i2l dL_law_1427 ?_
  refine V.ldc2 dL_law_1428 kc_L_32 ?_
  refine V.land dL_law_1431 ?_
  refine V.lor dL_law_1432 ?_
  refine V.larg (j := 3) dL_law_1433 dL_law_1434 dL_law_1435 dL_law_1436 dL_law_1437 rfl hL (by omega) ?_
  refine V.lcall (a := 0) (ci := 9) (z := 0) ly dL_law_1438 ml_L_185 mo_X11_mend mv_X11_mend rfl (fun q hq => by cases hq; rfl) (by decide) (th_X11_mend ly I.1.2.2.1.1 I.1.2.2.2.1 e1) rfl rfl ⟨Nat.le_of_ble_eq_true rfl, Nat.le_of_ble_eq_true rfl⟩ ⟨rfl, rfl⟩ (Nat.le_of_ble_eq_true rfl) (fun v0 g0 ex => ?_)
  obtain ⟨r0, rfl, ⟨rfl, rfl⟩, s0⟩ := ex
  have ly1 : Lay g0 := s0.ly ly
  refine V.aload_n dL_law_1441 rfl rfl rfl ?_
  refine V.larg (j := 1) dL_law_1442 dL_law_1443 dL_law_1444 dL_law_1445 dL_law_1446 rfl hL (by omega) ?_
  refine V.i2l dL_law_1447 ?_
  refine V.bipush (v := 32) dL_law_1448 rfl ?_
  refine V.lshl dL_law_1450 ?_
  refine V.larg (j := 2) dL_law_1451 dL_law_1452 dL_law_1453 dL_law_1454 dL_law_1455 rfl hL (by omega) ?_
  refine V.i2l dL_law_1456 ?_
  refine V.ldc2 dL_law_1457 kc_L_32 ?_
  refine V.land dL_law_1460 ?_
  refine V.lor dL_law_1461 ?_
  refine V.larg (j := 3) dL_law_1462 dL_law_1463 dL_law_1464 dL_law_1465 dL_law_1466 rfl hL (by omega) ?_
  refine V.lcall (a := 113) (ci := 10) (z := 0) ly1 dL_law_1467 ml_L_189 mo_X12_mend mv_X12_mend rfl (fun q hq => by cases hq; rfl) (by decide) (th_X12_mend ly1 e2) rfl rfl ⟨Nat.le_of_ble_eq_true rfl, Nat.le_of_ble_eq_true rfl⟩ ⟨rfl, rfl⟩ (Nat.le_of_ble_eq_true rfl) (fun v1 g1 ex => ?_)
  obtain ⟨r1, rfl, ⟨rfl, rfl⟩, s1⟩ := ex
  exact V.icmp_eq (tgt := 1892) dL_law_1470 (by decide) (fun _ => k _ _ _ I2) (fun q => absurd rfl q)
