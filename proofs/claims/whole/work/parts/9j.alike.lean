/-! ===== alike: a year lived, the loop ===== -/
theorem pot_in {W : Nat → Int32} {P : Nat → Nat} {e k : Nat} (G : Prog W P e) (hk : k < e) (b0 : isBk W k) {rl rl' : Nat → Int32} (h : ∀ o, o ≠ k → rl' o = rl o) : pot W P e rl' (k + 1) = pot W P e rl k + (if W k = 19 then paF rl' k else 1) := by
  have en : enc W P k (k + 1) := (enc_in G hk b0 hk).mpr (Or.inr rfl)
  have := sumN_at (f := wtE W P rl' (k + 1)) (g := wtE W P rl k) (p := k) (n := e) hk (fun o ho ne => wtE_c ⟨fun z => ((enc_in G hk b0 ho).mp z).resolve_right ne, fun z => (enc_in G hk b0 ho).mpr (Or.inl z)⟩ (h o ne))
  rw [wtE_n (enc_no k), wtE_y en] at this
  unfold pot; omega
theorem mx_stp {t v w r m c e : Nat} {j : Bool} (ht : t = 79 ∨ t = 96) (hv : v = 75 ∨ v = 77) {a0 b0 a b : HP} {st k : Nat} (I : MI t v w r m c e j a0 b0 a b st k) : MI t v w r m c e j a0 b0 (uI a v 2 (nI (st + 1))) (uI b 113 33 (nI (st + 1))) (st + 1) k := by
  obtain ⟨C, M, L, ⟨x1, x2, x3, x4, s, x5, x6, x7⟩, c3, ⟨c2, c2', c4⟩, R⟩ := I
  have C2 : FC t v a (uI a v 2 (nI (st + 1))) := (FC.refl t v a).I v 2 _ (by omega)
  have M2 : FM b (uI b 113 33 (nI (st + 1))) := (FM.refl b).I 113 33 _ (by omega)
  refine ⟨C.trans C2, M.trans M2, L.cn ht hv C2 M2 (hI_uI_n' (by omega)) (hI_uI_n' (by omega)) (hI_uI_n' (by omega)), ⟨?_, ?_, ?_, ?_, s, x5, ?_, ?_⟩, ?_, ⟨hI_uI_s _ _ _ _, hI_uI_s _ _ _ _, ?_⟩, ?_⟩
  · rw [hI_uI_n (by omega), hI_uI_n (by omega)]; exact x1
  · rw [hI_uI_n (by omega), hI_uI_n (by omega)]; exact x2
  · rw [hI_uI_n (by omega), hI_uI_n (by omega)]; exact x3
  · rw [hI_uI_n (by omega), hI_uI_n (by omega)]; exact x4
  · rw [hI_uI_n (by omega)]; exact x6
  · rw [hI_uI_n (by omega)]; exact x7
  · rw [hI_uI_n (by omega), hI_uI_n (by omega)]; exact c3
  · rw [hI_uI_n (by omega)]; exact c4
  · rw [hI_uI_n' (by omega), hI_uI_n' (by omega)]; exact R
/-- a step's end in the reference: what was missed is added -/
def mis (b : HP) (x : Int32) (q : Bool) : HP := uI b 128 0 (x + bI (!q))
theorem x66 (k : Nat) : (44 : Int32) + (6 : Int32) * nI k = nI (44 + 6 * k) := by rw [show (44 : Int32) = nI 44 from rfl, show (6 : Int32) = nI 6 from rfl, nI_mul, nI_add]
theorem ref_step {fu k : Nat} (hk : k < 60) {e : Nat} (ke : k < e) (e60 : e ≤ 60) {b b2 : HP} {st : Nat} (st3 : st < 300) (k11 : hI b 114 11 = nI e) (c2 : hI b 113 33 = nI st) {V : Int32} (hV : hI b 114 (44 + 6 * k) = V) (n18 : V ≠ 18) {q : Bool} (ed : f_X12_does (uI b 113 33 (nI (st + 1))) (nI (44 + 6 * k)) = some (bI q, b2)) (v2 : hI b2 114 (44 + 6 * k) = V) :
    f_X12_lives_32 (fu + 1) (nI k) b = (if V = 16 then f_X12_lives_140 (f_X12_lives_32 fu) (nI k) (nI (44 + 6 * k)) (uI (mis b2 (hI b 128 0) q) 127 k (hI (mis b2 (hI b 128 0) q) 114 (45 + 6 * k) - 1)) else f_X12_lives_140 (f_X12_lives_32 fu) (nI k) (nI (44 + 6 * k)) (mis b2 (hI b 128 0) q)) := by
  have x1 : nI (44 + 6 * k) + 1 = nI (45 + 6 * k) := by rw [nI_1, show 44 + 6 * k + 1 = 45 + 6 * k by omega]
  have r111 : ∀ x y, x + y = hI b 128 0 + bI (!q) → f_X12_lives_111 (f_X12_lives_32 fu) (nI k) (nI (44 + 6 * k)) 0 x y b2 = (if V = 16 then f_X12_lives_140 (f_X12_lives_32 fu) (nI k) (nI (44 + 6 * k)) (uI (mis b2 (hI b 128 0) q) 127 k (hI (mis b2 (hI b 128 0) q) 114 (45 + 6 * k) - 1)) else f_X12_lives_140 (f_X12_lives_32 fu) (nI k) (nI (44 + 6 * k)) (mis b2 (hI b 128 0) q)) := fun x y exy => by
    have em : uI b2 128 (Int32.toNatClampNeg 0) (x + y) = mis b2 (hI b 128 0) q := by unfold mis; rw [exy]; rfl
    unfold f_X12_lives_111
    rw [show gdi (0 : Int32) 5 = gdi (nI 0) 5 from rfl, gdi_nI (by decide) (by decide), em, ltv_e, gdi_nI (by omega) (by decide), nI_clamp (by omega)]
    have em2 : hI (mis b2 (hI b 128 0) q) 114 (44 + 6 * k) = V := by unfold mis; rw [hI_uI_n (by omega)]; exact v2
    rw [em2]
    by_cases z : V = 16
    · rw [if_pos z, if_pos z, x1, gdi_nI (by omega) (by decide), gdi_nI (by omega) (by decide), ltv_e, nI_clamp (by omega), nI_clamp (by omega)]
    · rw [if_neg z, if_neg z]
  show (if hI b 114 11 ≤ nI k then _ else _) = _
  rw [k11, if_neg (show ¬ nI e ≤ nI k by rw [nI_leI (by omega) (by omega)]; omega), c2, if_neg (show ¬ nI st = 300 from fun z => by have := nI_inj (by omega) (by omega) (z.trans (show (300 : Int32) = nI 300 from rfl)); omega), x66, ltv_e, nI_1, ltv_e, gdi_nI (by omega) (by decide), nI_clamp (by omega), hI_uI_n (h := b) (by omega), hV, if_neg n18, ed, bd2_s]
  rw [hI_uI_n (h := b) (a := 113) (b := 128) (by omega)]
  cases q
  · rw [if_pos (show bI false = 0 from rfl)]; exact r111 _ _ rfl
  · rw [if_neg (show ¬ bI true = 0 by decide)]; exact r111 _ _ rfl
theorem ref_140 {fu k : Nat} (hk : k < 60) {b : HP} {V : Int32} (hV : hI b 114 (44 + 6 * k) = V) (lt : V < 1500) : f_X12_lives_140 (f_X12_lives_32 fu) (nI k) (nI (44 + 6 * k)) b = bd2 (f_X12_behindEnds b (nI (k + 1))) fun r29 h28 => f_X12_lives_32 fu r29 h28 := by
  unfold f_X12_lives_140
  rw [gdi_nI (by omega) (by decide), nI_clamp (by omega), hV, if_pos lt, nI_1]
theorem cls_step {t v n k i e st : Nat} (ht : t = 79 ∨ t = 96) (hv : v = 75 ∨ v = 77) (ke : k < e) (e60 : e ≤ 60) {a : HP} (hi : i < 100000) (k6 : hI a (t + 3) 6 = nI e) (n20 : hI a (t + 3 + 1) k ≠ 20) (st3 : st < 300) (c2 : hI a v 2 = nI st) {x : Nat} {a2 : HP} (ed : f_X2_doStep (uI a v 2 (nI (st + 1))) v t (nI k) = some (nI x, a2)) : f_X2_liveBy_46 v t (n + 1) (nI k) (nI i) a = f_X2_liveBy_46 v t n (nI x) (nI (i + 1)) a2 := by
  show (if (100000 : Int32) ≤ nI i then _ else _) = _
  rw [if_neg (show ¬ (100000 : Int32) ≤ nI i by rw [show (100000 : Int32) = nI 100000 from rfl, nI_leI (by omega) (by omega)]; omega), k6, if_neg (show ¬ nI e ≤ nI k by rw [nI_leI (by omega) (by omega)]; omega), gdi_nI (by omega) (by decide), nI_clamp (by omega), if_neg n20, c2, if_neg (show ¬ (300 : Int32) ≤ nI st by rw [show (300 : Int32) = nI 300 from rfl, nI_leI (by omega) (by omega)]; omega), nI_1, ltv_e, ed, bd2_s, ltv_e, nI_1]
theorem live_lp {t v w r m c e : Nat} {j : Bool} (ht : t = 79 ∨ t = 96) (hv : v = 75 ∨ v = 77) {a0 b0 : HP} (e60 : e ≤ 60) (y5 : hI a0 (t + 3) 5 = 1) (k6 : hI a0 (t + 3) 6 = nI e) : ∀ d st fu, st + d = 300 → d + 1 < fu → ∀ k i n a b, n + i = 1000000 → i + 101 * d + pot (hI a0 (t + 3 + 1)) (paF (hI a0 (t + 3 + 5))) e (hI a (v + 1)) k < 100000 → k ≤ e → (k < e → hI a0 (t + 3 + 1) k ≠ 20) → MI t v w r m c e j a0 b0 a b st k →
    ∃ a' b', f_X2_liveBy_46 v t n (nI k) (nI i) a = some a' ∧ f_X12_lives_32 fu (nI k) b = some b' ∧ FIN t v w r m c j a0 b0 a' b' := by
  intro d
  induction d with
  | zero =>
    intro st fu hst hfu k i n a b hn hp hk n20 I
    obtain ⟨fu, rfl⟩ : ∃ f, fu = f + 1 := ⟨fu - 1, by omega⟩
    obtain ⟨n, rfl⟩ : ∃ f, n = f + 1 := ⟨n - 1, by omega⟩
    obtain ⟨C, M, L, ⟨x1, x2, x3, x4, s, x5, x6, x7⟩, c3, ⟨c2, c2', c4⟩, R⟩ := I
    have eW : hI a (t + 3 + 1) = hI a0 (t + 3 + 1) := funext fun q => C.2.1 _ q (by omega) (by omega) (by omega) (by omega) (by omega) (by omega)
    have e5 : hI a (t + 3) 5 = 1 := by rw [C.2.1 _ _ (by omega) (by omega) (by omega) (by omega) (by omega) (by omega)]; exact y5
    have e6 : hI a (t + 3) 6 = nI e := by rw [C.2.1 _ _ (by omega) (by omega) (by omega) (by omega) (by omega) (by omega)]; exact k6
    obtain ⟨e11, q1, q2⟩ := yr_of ht L e5 e60 e6
    have s300 : st = 300 := by omega
    subst s300
    have i1 : ¬ (100000 : Int32) ≤ nI i := by rw [show (100000 : Int32) = nI 100000 from rfl, nI_leI (by omega) (by omega)]; omega
    by_cases ke : k < e
    · have C2 : FC t v a (uI a v 7 1) := (FC.refl t v a).I v 7 _ (by omega)
      have M2 : FM b (uI b 128 4 1) := (FM.refl b).I 128 4 _ (by omega)
      refine ⟨uI a v 7 1, uI b 128 4 1, ?_, ?_, C.trans C2, M.trans M2, L.cn ht hv C2 M2 (hI_uI_n' (by omega)) (hI_uI_n' (by omega)) (hI_uI_n' (by omega)), ⟨?_, ?_, ?_, ?_⟩, ?_, Or.inr (hI_uI_s _ _ _ _), 300, by omega, ?_, ?_⟩
      · show (if (100000 : Int32) ≤ nI i then _ else _) = _
        rw [if_neg i1, e6, if_neg (show ¬ nI e ≤ nI k by rw [nI_leI (by omega) (by omega)]; omega), gdi_nI (by omega) (by decide), nI_clamp (by omega), eW, if_neg (n20 ke), c2, if_pos (show (300 : Int32) ≤ nI 300 by decide), ltv_e]
      · show (if hI b 114 11 ≤ nI k then _ else _) = _
        rw [e11, if_neg (show ¬ nI e ≤ nI k by rw [nI_leI (by omega) (by omega)]; omega), c2', if_pos (show nI 300 = 300 from rfl), ltv_e]
      · rw [hI_uI_n (by omega), hI_uI_n (by omega)]; exact x1
      · rw [hI_uI_n (by omega), hI_uI_n (by omega)]; exact x2
      · rw [hI_uI_n (by omega), hI_uI_n (by omega)]; exact x3
      · rw [hI_uI_s, hI_uI_s]
      · rw [hI_uI_n (by omega), hI_uI_n (by omega)]; exact c3
      · rw [hI_uI_n (by omega)]; exact c2
      · rw [hI_uI_n (by omega)]; exact c2'
    · refine ⟨a, b, ?_, ?_, C, M, L, ⟨x1, x2, x3, x4⟩, c3, Or.inl c4, 300, by omega, c2, c2'⟩
      · show (if (100000 : Int32) ≤ nI i then _ else _) = _
        rw [if_neg i1, e6, if_pos (show nI e ≤ nI k by rw [nI_leI (by omega) (by omega)]; omega)]
      · show (if hI b 114 11 ≤ nI k then _ else _) = _
        rw [e11, if_pos (show nI e ≤ nI k by rw [nI_leI (by omega) (by omega)]; omega)]
  | succ d ih =>
    intro st fu hst hfu k i n a b hn hp hk n20 I
    obtain ⟨fu, rfl⟩ : ∃ f, fu = f + 1 := ⟨fu - 1, by omega⟩
    obtain ⟨n, rfl⟩ : ∃ f, n = f + 1 := ⟨n - 1, by omega⟩
    have I1 := mx_stp ht hv I
    obtain ⟨C, M, L, CT, c3, ⟨c2, c2', c4⟩, R⟩ := I
    have eW : hI a (t + 3 + 1) = hI a0 (t + 3 + 1) := funext fun q => C.2.1 _ q (by omega) (by omega) (by omega) (by omega) (by omega) (by omega)
    have eP : hI a (t + 3 + 5) = hI a0 (t + 3 + 5) := funext fun q => C.2.1 _ q (by omega) (by omega) (by omega) (by omega) (by omega) (by omega)
    have e5 : hI a (t + 3) 5 = 1 := by rw [C.2.1 _ _ (by omega) (by omega) (by omega) (by omega) (by omega) (by omega)]; exact y5
    have e6 : hI a (t + 3) 6 = nI e := by rw [C.2.1 _ _ (by omega) (by omega) (by omega) (by omega) (by omega) (by omega)]; exact k6
    obtain ⟨e11, q1, q2⟩ := yr_of ht L e5 e60 e6
    have G := prog_of ht e60 q1 q2
    rw [eW, eP] at G
    by_cases ke : k < e
    · have k60 : k < 60 := by omega
      have w20 : hI a (t + 3 + 1) k ≠ 20 := by rw [eW]; exact n20 ke
      obtain ⟨C1, M1, L1, CT1, c31, ⟨c21, c21', c41⟩, R1⟩ := I1
      obtain ⟨A1, eA1⟩ : ∃ A1, A1 = uI a v 2 (nI (st + 1)) := ⟨_, rfl⟩
      obtain ⟨B1, eB1⟩ : ∃ B1, B1 = uI b 113 33 (nI (st + 1)) := ⟨_, rfl⟩
      rw [← eA1] at C1 L1 CT1 c31 c21 R1
      rw [← eB1] at M1 L1 CT1 c31 c21' c41 R1
      have aA : ∀ p q, p ≠ v → hI A1 p q = hI a p q := fun p q hp => by rw [eA1, hI_uI_n (by omega)]
      have bB : ∀ p q, p ≠ 113 → hI B1 p q = hI b p q := fun p q hp => by rw [eB1, hI_uI_n (by omega)]
      have lv : hI A1 (v + 1) = hI a (v + 1) := funext fun q => aA _ q (by omega)
      -- a plain step
      have plain : SP t v w r m c j A1 B1 k → ∀ V, hI b 114 (44 + 6 * k) = V → V ≠ 18 → V ≠ 16 → V < 1500 → ¬ isBk (hI a0 (t + 3 + 1)) k → ∃ a' b', f_X2_liveBy_46 v t (n + 1) (nI k) (nI i) a = some a' ∧ f_X12_lives_32 (fu + 1) (nI k) b = some b' ∧ FIN t v w r m c j a0 b0 a' b' := fun S V hV n18 n16 lt nb => by
        obtain ⟨A2, B2, q, s1, s2, s3, s4, s5, s6, s7, s8, s9, s10, s11, s12, s13⟩ := S
        rw [eA1] at s1
        rw [eB1] at s2
        have cl := cls_step (n := n) ht hv ke e60 (show i < 100000 by omega) e6 w20 (show st < 300 by omega) c2 s1
        have v2 : hI B2 114 (44 + 6 * k) = V := by rw [s4.2.1 _ _ (by omega) (by omega) (by omega) (by omega) (by omega), bB _ _ (by omega)]; exact hV
        have rf := ref_step (fu := fu) k60 ke e60 (show st < 300 by omega) e11 c2' hV n18 s2 v2
        rw [if_neg n16, ref_140 k60 (V := V) (by unfold mis; rw [hI_uI_n (by omega)]; exact v2) lt] at rf
        have M3 : FM B2 (mis B2 (hI b 128 0) q) := (FM.refl B2).I 128 0 _ (by omega)
        obtain ⟨y1, y2, y3, y4, s, y5', y6, y7⟩ := s6
        have mm : ∀ p q', ¬ (p = 128 ∧ q' = 0) → hI (mis B2 (hI b 128 0) q) p q' = hI B2 p q' := fun p q' h => by unfold mis; rw [hI_uI_n (by omega)]
        have a3 : hI A1 v 3 = hI a v 3 := by rw [eA1, hI_uI_n (by omega)]
        have m0 : hI (mis B2 (hI b 128 0) q) 128 0 = hI b 128 0 + bI (!q) := hI_uI_s _ _ _ _
        have on := go_on ht hv e60 y5 k6 (ih (st + 1) fu (by omega) (by omega)) (k := k + 1) (i := i + 1) (n := n) (a := A2) (b := mis B2 (hI b 128 0) q) (by omega) (by
          rw [s9, lv, pot_c (fun o ho => enc_on G ke nb (n20 ke) ho)]; omega) (by omega) ⟨C1.trans s3, (M1.trans s4).trans M3, s5.cn ht hv (FC.refl _ _ _) M3 rfl rfl (funext fun q' => mm 114 q' (by omega)), ⟨by rw [mm _ _ (by omega)]; exact y1, by rw [mm _ _ (by omega)]; exact y2, by rw [mm _ _ (by omega)]; exact y3, by rw [mm _ _ (by omega)]; exact y4, s, y5', y6, by rw [mm _ _ (by omega)]; exact y7⟩, by rw [m0, s7, a3, c3], ⟨by rw [s11]; exact c21, by rw [mm _ _ (by omega), s12]; exact c21', by rw [mm _ _ (by omega), s13]; exact c41⟩, by
            have e1 : hI (mis B2 (hI b 128 0) q) 127 = hI B2 127 := funext fun q' => mm 127 q' (by omega)
            rw [e1, s9, s10]; exact fun o ho o19 en => R1 o ho o19 ((enc_on G ke nb (n20 ke) ho).mp en)⟩
        obtain ⟨a', b', g1, g2, g3⟩ := on
        exact ⟨a', b', cl.trans g1, rf.trans g2, g3⟩
      have rdA : ∀ p, p = 1 ∨ p = 2 ∨ p = 3 ∨ p = 4 ∨ p = 5 → hI A1 (t + 3 + p) k = hI a (t + 3 + p) k := fun p hp => aA _ _ (by omega)
      have rdB : ∀ q', hI B1 114 q' = hI b 114 q' := fun q' => bB _ _ (by omega)
      have nbk : ∀ V, hI a (t + 3 + 1) k = V → V ≠ 15 → V ≠ 19 → ¬ isBk (hI a0 (t + 3 + 1)) k := fun V h1 h2 h3 z => by
        unfold isBk at z; rw [← eW, h1] at z
        rcases z with z | z
        · exact h2 z
        · exact h3 z
      have a3 : hI A1 v 3 = hI a v 3 := by rw [eA1, hI_uI_n (by omega)]
      have a6 : hI A1 (t + 3) 6 = nI e := by rw [aA _ _ (by omega)]; exact e6
      have M3 : FM B1 (mis B1 (hI b 128 0) true) := (FM.refl B1).I 128 0 _ (by omega)
      have mm : ∀ p q', ¬ (p = 128 ∧ q' = 0) → hI (mis B1 (hI b 128 0) true) p q' = hI B1 p q' := fun p q' h => by unfold mis; rw [hI_uI_n (by omega)]
      have m0 : hI (mis B1 (hI b 128 0) true) 128 0 = hI b 128 0 := by unfold mis; rw [hI_uI_s]; exact Int32.add_zero _
      have L3 : LT t w r m c j (mx A1 (mis B1 (hI b 128 0) true)) := L1.cn ht hv (FC.refl _ _ _) M3 rfl rfl (funext fun q' => mm 114 q' (by omega))
      rcases (q1 k ke).cs ht with ⟨x, y, f, f1, f2, f3, f4⟩ | ⟨x, y, p, z, hp', hz', z1, z2, z3, z4⟩ | ⟨x, y, q, hq, z1, z2⟩ | ⟨x, y⟩ | ⟨x, y, q, hq, z1, z2⟩ | ⟨x, y⟩ | ⟨x, y, p, p1, p2, p3, p4, p5, p6⟩ | ⟨x, y, ⟨f, f1, f2, f3, f4⟩, p, p1, p2, p3, p4, p5, p6⟩ | ⟨x, y⟩ | ⟨x, y⟩
      · exact plain (sp_night ht hv L1 CT1 k60 f2 (by rw [rdA 1 (by omega)]; exact x) (by rw [rdB]; exact y) (by rw [rdA 3 (by omega)]; exact f3) (by rw [rdB]; exact f4)) 9 y (by decide) (by decide) (by decide) (nbk 9 x (by decide) (by decide))
      · exact plain (sp_turn ht hv L1 CT1 k60 hp' hz' (by rw [rdA 1 (by omega)]; exact x) (by rw [rdB]; exact y) (by rw [rdA 3 (by omega)]; exact z1) (by rw [rdB]; exact z2) (by rw [rdA 4 (by omega)]; exact z3) (by rw [rdB]; exact z4)) 10 y (by decide) (by decide) (by decide) (nbk 10 x (by decide) (by decide))
      · exact plain (sp_mayor ht hv L1 CT1 k60 hq (by rw [rdA 1 (by omega)]; exact x) (by rw [rdB]; exact y) (by rw [rdA 3 (by omega)]; exact z1) (by rw [rdB]; exact z2)) 11 y (by decide) (by decide) (by decide) (nbk 11 x (by decide) (by decide))
      · exact plain (sp_elect ht hv L1 CT1 k60 (by rw [rdA 1 (by omega)]; exact x) (by rw [rdB]; exact y)) 12 y (by decide) (by decide) (by decide) (nbk 12 x (by decide) (by decide))
      · exact plain (sp_storm ht hv L1 CT1 k60 hq (by rw [rdA 1 (by omega)]; exact x) (by rw [rdB]; exact y) (by rw [rdA 3 (by omega)]; exact z1) (by rw [rdB]; exact z2)) 13 y (by decide) (by decide) (by decide) (nbk 13 x (by decide) (by decide))
      · exact plain (sp_birth ht hv L1 CT1 k60 (by rw [rdA 1 (by omega)]; exact x) (by rw [rdB]; exact y)) 14 y (by decide) (by decide) (by decide) (nbk 14 x (by decide) (by decide))
      · -- when
        have bk : isBk (hI a0 (t + 3 + 1)) k := Or.inl (by rw [← eW]; exact x)
        have Pk : paF (hI a0 (t + 3 + 5)) k = p := paF_e (by omega) (by rw [← eP]; exact p3)
        obtain ⟨tv, f, b', h1, h2, h3⟩ := hold_e (v := v) (e := e) ht L3 k60 (by
          rw [mm _ _ (by omega), mm _ _ (by omega), mm _ _ (by omega), mm _ _ (by omega), rdB, rdB, rdB, rdB, rdA 2 (by omega), rdA 3 (by omega), rdA 4 (by omega)]; exact y)
        obtain ⟨V, hV, n16, n18, nlt⟩ : ∃ V, hI b 114 (44 + 6 * k) = V ∧ V ≠ 16 ∧ V ≠ 18 ∧ ¬ V < 1500 ∧ V ≠ 9 ∧ V ≠ 10 ∧ V ≠ 11 ∧ V ≠ 12 ∧ V ≠ 13 ∧ V ≠ 14 := by
          rcases y with ⟨-, y⟩ | ⟨-, y, -⟩ | ⟨y, -⟩
          · exact ⟨_, y, by decide⟩
          · exact ⟨_, y, by decide⟩
          · exact ⟨_, y, by decide⟩
        obtain ⟨nlt, n9, n10, n11, n12, n13, n14⟩ := nlt
        have does : f_X12_does B1 (nI (44 + 6 * k)) = some (bI true, B1) := dm_rd (W := V) k60 (by rw [rdB]; exact hV) rfl (by rw [if_neg n9, if_neg n10, if_neg n11, if_neg n12, if_neg n13, if_neg n14]; rfl)
        have rf := ref_step (fu := fu) k60 ke e60 (show st < 300 by omega) e11 c2' hV n18 (b2 := B1) (q := true) (by rw [← eB1]; exact does) (by rw [rdB]; exact hV)
        rw [if_neg n16] at rf
        have bb : ∀ p q', p ≠ 122 → hI b' p q' = hI (mis B1 (hI b 128 0) true) p q' := fun p q' hp => by
          rcases h3 with h3 | h3
          · rw [h3]
          · rw [h3, lnH_I _ _ _ _ hp]
        have Mb : FM (mis B1 (hI b 128 0) true) b' := by
          rcases h3 with h3 | h3
          · rw [h3]; exact FM.refl _
          · rw [h3]; exact (FM.refl _).ln w r j
        have Ca : FC t v A1 (rI A1 (t + 1 + 1) f) := (FC.refl _ _ _).rI _ f (by omega)
        have aa : ∀ p, p ≠ t + 1 + 1 → hI (rI A1 (t + 1 + 1) f) p = hI A1 p := fun p hp => hI_rI_n _ _ hp
        have Mk : ∀ k1, pot (hI a0 (t + 3 + 1)) (paF (hI a0 (t + 3 + 5))) e (hI a (v + 1)) k1 ≤ pot (hI a0 (t + 3 + 1)) (paF (hI a0 (t + 3 + 5))) e (hI a (v + 1)) k + 1 → k1 ≤ e → (∀ o, o < e → hI a0 (t + 3 + 1) o = 19 → enc (hI a0 (t + 3 + 1)) (paF (hI a0 (t + 3 + 5))) o k1 → enc (hI a0 (t + 3 + 1)) (paF (hI a0 (t + 3 + 5))) o k) →
            ∃ a' b'', f_X2_liveBy_46 v t n (nI k1) (nI (i + 1)) (rI A1 (t + 1 + 1) f) = some a' ∧ (bd2 (f_X12_behindEnds b' (nI k1)) fun r29 h28 => f_X12_lives_32 fu r29 h28) = some b'' ∧ FIN t v w r m c j a0 b0 a' b'' := fun k1 hp1 hk1 hen => by
          obtain ⟨y1, y2, y3, y4, s, y5', y6, y7⟩ := CT1
          refine go_on ht hv e60 y5 k6 (ih (st + 1) fu (by omega) (by omega)) (k := k1) (i := i + 1) (n := n) (a := rI A1 (t + 1 + 1) f) (b := b') (by omega) (by rw [aa _ (by omega), lv]; omega) hk1 ⟨C1.trans Ca, (M1.trans M3).trans Mb, L3.cn ht hv Ca Mb (aa _ (by omega)) (aa _ (by omega)) (funext fun q' => bb 114 q' (by omega)), ⟨?_, ?_, ?_, ?_, s, y5', ?_, ?_⟩, ?_, ⟨?_, ?_, ?_⟩, ?_⟩
          · rw [aa _ (by omega), bb _ _ (by omega), mm _ _ (by omega)]; exact y1
          · rw [aa _ (by omega), bb _ _ (by omega), mm _ _ (by omega)]; exact y2
          · rw [aa _ (by omega), bb _ _ (by omega), mm _ _ (by omega)]; exact y3
          · rw [aa _ (by omega), bb _ _ (by omega), mm _ _ (by omega)]; exact y4
          · rw [aa _ (by omega)]; exact y6
          · rw [bb _ _ (by omega), mm _ _ (by omega)]; exact y7
          · rw [aa _ (by omega), bb _ _ (by omega), m0, a3, c3]
          · rw [aa _ (by omega)]; exact c21
          · rw [bb _ _ (by omega), mm _ _ (by omega)]; exact c21'
          · rw [bb _ _ (by omega), mm _ _ (by omega)]; exact c41
          · have e1 : hI b' 127 = hI B1 127 := funext fun q' => by rw [bb _ _ (by omega), mm _ _ (by omega)]
            rw [aa _ (by omega), e1]
            exact fun o ho o19 en => R1 o ho o19 (hen o ho o19 en)
        have x48 : nI (44 + 6 * k) + 4 = nI (48 + 6 * k) := by rw [show (4 : Int32) = nI 4 from rfl, nI_add, show 44 + 6 * k + 4 = 48 + 6 * k by omega]
        have r140 : f_X12_lives_140 (f_X12_lives_32 fu) (nI k) (nI (44 + 6 * k)) (mis B1 (hI b 128 0) true) = (if tv = true then (bd2 (f_X12_behindEnds b' (nI (k + 1))) fun r29 h28 => f_X12_lives_32 fu r29 h28) else (bd2 (f_X12_behindEnds b' (nI (p + 1))) fun r29 h28 => f_X12_lives_32 fu r29 h28)) := by
          unfold f_X12_lives_140
          rw [gdi_nI (by omega) (by decide), nI_clamp (by omega), mm _ _ (by omega), rdB, hV, if_neg nlt, h2, bd2_s, x48, nI_1]
          cases tv
          · rw [if_pos (show bI false = 0 from rfl), if_neg (by decide), gdi_nI (by omega) (by decide), nI_clamp (by omega), bb _ _ (by omega), mm _ _ (by omega), rdB, p4, nI_1]
          · rw [if_neg (by decide), if_pos rfl]
        have ds : f_X2_doStep A1 v t (nI k) = some (nI (if tv = true then k + 1 else p + 1), rI A1 (t + 1 + 1) f) := ds_rd (W := 15) k60 (by rw [rdA 1 (by omega)]; exact x) rfl (by
          rw [if_neg (by decide), if_neg (by decide), if_neg (by decide), if_neg (by decide), if_neg (by decide), if_neg (by decide), if_pos rfl, h1, bd2_s]
          cases tv
          · rw [if_pos (show bI false = 0 from rfl), if_neg (by decide), gdi_nI k60 (by decide), aa _ (by omega), rdA 5 (by omega), p3, nI_1]
          · rw [if_neg (by decide), if_pos rfl, nI_1])
        have cl := cls_step (n := n) ht hv ke e60 (show i < 100000 by omega) e6 w20 (show st < 300 by omega) c2 (by rw [← eA1]; exact ds)
        have W15 : hI a0 (t + 3 + 1) k = 15 := by rw [← eW]; exact x
        rw [r140] at rf
        cases tv
        · rw [if_neg (by decide)] at cl rf
          obtain ⟨a', b'', g1, g2, g3⟩ := Mk (p + 1) (by rw [← Pk, pot_c (fun o ho => enc_skip G ke bk ho)]; omega) (by omega) (fun o ho _ en => by rw [← Pk] at en; exact (enc_skip G ke bk ho).mp en)
          exact ⟨a', b'', cl.trans g1, rf.trans g2, g3⟩
        · rw [if_pos rfl] at cl rf
          obtain ⟨a', b'', g1, g2, g3⟩ := Mk (k + 1) (by rw [pot_in G ke bk (rl := hI a (v + 1)) (rl' := hI a (v + 1)) (fun _ _ => rfl), if_neg (by rw [W15]; decide)]; omega) (by omega) (fun o ho o19 en => by
            rcases (enc_in G ke bk ho).mp en with z | z
            · exact z
            · rw [z, W15] at o19; exact absurd o19 (by decide))
          exact ⟨a', b'', cl.trans g1, rf.trans g2, g3⟩
      · -- loop
        have bk : isBk (hI a0 (t + 3 + 1)) k := Or.inr (by rw [← eW]; exact x)
        have W19 : hI a0 (t + 3 + 1) k = 19 := by rw [← eW]; exact x
        have does : f_X12_does B1 (nI (44 + 6 * k)) = some (bI true, B1) := dm_rd (W := 16) k60 (by rw [rdB]; exact y) rfl (by rw [if_neg (by decide), if_neg (by decide), if_neg (by decide), if_neg (by decide), if_neg (by decide), if_neg (by decide)]; rfl)
        have rf := ref_step (fu := fu) k60 ke e60 (show st < 300 by omega) e11 c2' y (by decide) (b2 := B1) (q := true) (by rw [← eB1]; exact does) (by rw [rdB]; exact y)
        rw [if_pos rfl, mm _ _ (by omega), rdB, f4, show nI f - 1 = nI (f - 1) from nI_sub (a := f) (b := 1) (by omega)] at rf
        obtain ⟨B4, eB4⟩ : ∃ B4, B4 = uI (mis B1 (hI b 128 0) true) 127 k (nI (f - 1)) := ⟨_, rfl⟩
        obtain ⟨A4, eA4⟩ : ∃ A4, A4 = uI A1 (v + 1) k (nI f) := ⟨_, rfl⟩
        rw [← eB4] at rf
        have bb : ∀ p q', p ≠ 127 → hI B4 p q' = hI (mis B1 (hI b 128 0) true) p q' := fun p q' hp => by rw [eB4, hI_uI_n (by omega)]
        have aa : ∀ p, p ≠ v + 1 → hI A4 p = hI A1 p := fun p hp => by rw [eA4, hI_uI_n' (by omega)]
        have Mb : FM (mis B1 (hI b 128 0) true) B4 := by rw [eB4]; exact (FM.refl _).I 127 k _ (by omega)
        have Ca : FC t v A1 A4 := by rw [eA4]; exact (FC.refl _ _ _).I (v + 1) k _ (by omega)
        rw [ref_140 k60 (V := 16) (by rw [bb _ _ (by omega), mm _ _ (by omega), rdB]; exact y) (by decide)] at rf
        have ds : f_X2_doStep A1 v t (nI k) = some (nI (k + 1), A4) := ds_rd (W := 19) (x := nI f) k60 (by rw [rdA 1 (by omega)]; exact x) (by rw [rdA 3 (by omega)]; exact f3) (by
          rw [if_neg (by decide), if_neg (by decide), if_neg (by decide), if_neg (by decide), if_neg (by decide), if_neg (by decide), if_neg (by decide), if_neg (by decide), if_neg (by decide), if_neg (by decide), if_pos rfl, gdi_nI k60 (by decide), ltv_e, ← eA4]
          unfold f_X2_doStep_203; rw [nI_1])
        have cl := cls_step (n := n) ht hv ke e60 (show i < 100000 by omega) e6 w20 (show st < 300 by omega) c2 (by rw [← eA1]; exact ds)
        have rlk : hI A4 (v + 1) k = nI f := by rw [eA4, hI_uI_s]
        have rlo : ∀ o, o ≠ k → hI A4 (v + 1) o = hI a (v + 1) o := fun o ho => by rw [eA4, hI_uI_n (by omega), lv]
        have lpk : hI B4 127 k = nI (f - 1) := by rw [eB4, hI_uI_s]
        have lpo : ∀ o, o ≠ k → hI B4 127 o = hI B1 127 o := fun o ho => by rw [eB4, hI_uI_n (by omega), mm _ _ (by omega)]
        obtain ⟨y1, y2, y3, y4, s, y5', y6, y7⟩ := CT1
        obtain ⟨a', b'', g1, g2, g3⟩ := go_on ht hv e60 y5 k6 (ih (st + 1) fu (by omega) (by omega)) (k := k + 1) (i := i + 1) (n := n) (a := A4) (b := B4) (by omega) (by
            rw [pot_in G ke bk (rl := hI a (v + 1)) (rl' := hI A4 (v + 1)) rlo, if_pos W19, paF_e (by omega) rlk]; omega) (by omega) ⟨C1.trans Ca, (M1.trans M3).trans Mb, L3.cn ht hv Ca Mb (aa _ (by omega)) (aa _ (by omega)) (funext fun q' => bb 114 q' (by omega)), ⟨by rw [aa _ (by omega), bb _ _ (by omega), mm _ _ (by omega)]; exact y1, by rw [aa _ (by omega), bb _ _ (by omega), mm _ _ (by omega)]; exact y2, by rw [aa _ (by omega), bb _ _ (by omega), mm _ _ (by omega)]; exact y3, by rw [aa _ (by omega), bb _ _ (by omega), mm _ _ (by omega)]; exact y4, s, y5', by rw [aa _ (by omega)]; exact y6, by rw [bb _ _ (by omega), mm _ _ (by omega)]; exact y7⟩, by rw [aa _ (by omega), bb _ _ (by omega), m0, a3, c3], ⟨by rw [aa _ (by omega)]; exact c21, by rw [bb _ _ (by omega), mm _ _ (by omega)]; exact c21', by rw [bb _ _ (by omega), mm _ _ (by omega)]; exact c41⟩, fun o ho o19 en => by
              by_cases ok : o = k
              · rw [ok, lpk, rlk]
                exact ⟨f - 1, by omega, rfl, by rw [show f - 1 + 1 = f by omega]⟩
              · rw [lpo o ok, rlo o ok]
                have := R1 o ho o19 (((enc_in G ke bk ho).mp en).resolve_right ok)
                rw [lv] at this; exact this⟩
        exact ⟨a', b'', cl.trans g1, rf.trans g2, g3⟩
      · exact absurd x w20
      · -- stop
        have ds : f_X2_doStep A1 v t (nI k) = some (nI e, A1) := ds_rd (W := 21) k60 (by rw [rdA 1 (by omega)]; exact x) rfl (by
          rw [if_neg (by decide), if_neg (by decide), if_neg (by decide), if_neg (by decide), if_neg (by decide), if_neg (by decide), if_neg (by decide), if_neg (by decide), if_neg (by decide), if_neg (by decide), if_neg (by decide), a6])
        have cl := cls_step (n := n) ht hv ke e60 (show i < 100000 by omega) e6 w20 (show st < 300 by omega) c2 (by rw [← eA1]; exact ds)
        obtain ⟨n, rfl⟩ : ∃ f, n = f + 1 := ⟨n - 1, by omega⟩
        obtain ⟨y1, y2, y3, y4, s, y5', y6, y7⟩ := CT1
        refine ⟨A1, B1, cl.trans ?_, ?_, C1, M1, L1, ⟨y1, y2, y3, y4⟩, c31, Or.inl c41, st + 1, by omega, c21, c21'⟩
        · show (if (100000 : Int32) ≤ nI (i + 1) then _ else _) = _
          rw [if_neg (show ¬ (100000 : Int32) ≤ nI (i + 1) by rw [show (100000 : Int32) = nI 100000 from rfl, nI_leI (by omega) (by omega)]; omega), a6, if_pos (show nI e ≤ nI e from Int32.le_refl _)]
        · show (if hI b 114 11 ≤ nI k then _ else _) = _
          rw [e11, if_neg (show ¬ nI e ≤ nI k by rw [nI_leI (by omega) (by omega)]; omega), c2', if_neg (show ¬ nI st = 300 from fun z => by have := nI_inj (by omega) (by omega) (z.trans (show (300 : Int32) = nI 300 from rfl)); omega), x66, ltv_e, nI_1, ltv_e, gdi_nI (by omega) (by decide), nI_clamp (by omega), ← eB1, rdB, y, if_pos rfl]
    · have C1 := C
      obtain ⟨x1, x2, x3, x4, s, x5, x6, x7⟩ := CT
      refine ⟨a, b, ?_, ?_, C, M, L, ⟨x1, x2, x3, x4⟩, c3, Or.inl c4, st, by omega, c2, c2'⟩
      · show (if (100000 : Int32) ≤ nI i then _ else _) = _
        rw [if_neg (show ¬ (100000 : Int32) ≤ nI i by rw [show (100000 : Int32) = nI 100000 from rfl, nI_leI (by omega) (by omega)]; omega), e6, if_pos (show nI e ≤ nI k by rw [nI_leI (by omega) (by omega)]; omega)]
      · show (if hI b 114 11 ≤ nI k then _ else _) = _
        rw [e11, if_pos (show nI e ≤ nI k by rw [nI_leI (by omega) (by omega)]; omega)]
