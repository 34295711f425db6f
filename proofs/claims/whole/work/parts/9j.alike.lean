/-! ===== alike: a year lived, the loop ===== -/
theorem pot_in {W : Nat → Int32} {P : Nat → Nat} {e k : Nat} (G : Prog W P e) (hk : k < e) (b0 : isBk W k) {rl rl' : Nat → Int32} (h : ∀ o, o ≠ k → rl' o = rl o) : pot W P e rl' (k + 1) = pot W P e rl k + (if W k = 19 then paF rl' k else 1) := by
  have en : enc W P k (k + 1) := (enc_in G hk b0 hk).mpr (Or.inr rfl)
  have := sumN_at (f := wtE W P rl' (k + 1)) (g := wtE W P rl k) (p := k) (n := e) hk (fun o ho ne => wtE_c ⟨fun z => ((enc_in G hk b0 ho).mp z).resolve_right ne, fun z => (enc_in G hk b0 ho).mpr (Or.inl z)⟩ (h o ne))
  rw [wtE_n (enc_no k), wtE_y en] at this
  unfold pot; omega
theorem mx_stp {t v w r m c e : Nat} {j : Bool} (ht : t = 79 ∨ t = 96) (hv : v = 75 ∨ v = 77) {a0 b0 a b : HP} {st k : Nat} (I : MI t v w r m c e j a0 b0 a b st k) : MI t v w r m c e j a0 b0 (uI a v 2 (nI (st + 1))) (uI b 113 33 (nI (st + 1))) (st + 1) k := by
  obtain ⟨C, M, L, ⟨x1, x2, x3, x4, s, x5, x6, x7⟩, c3, ⟨c2, c2', c4⟩, R⟩ := I
  have C2 : FC t v a (uI a v 2 (nI (st + 1))) := (FC.refl t v a).I v 2 _ (by omega)
  have M2 : FM b (uI b 113 33 (nI (st + 1))) := (FM.refl b).I 113 33 _ (by omega)
  refine ⟨C.trans C2, M.trans M2, L.cn ht hv C2 M2 (hI_uI_n' (by omega)) (hI_uI_n' (by omega)) (hI_uI_n' (by omega)), ⟨?_, ?_, ?_, ?_, s, x5, ?_, ?_⟩, ?_, ⟨hI_uI_s _ _ _ _, hI_uI_s _ _ _ _, ?_⟩, ?_⟩
  · rw [hI_uI_n (by omega), hI_uI_n (by omega)]; exact x1
  · rw [hI_uI_n (by omega), hI_uI_n (by omega)]; exact x2
  · rw [hI_uI_n (by omega), hI_uI_n (by omega)]; exact x3
  · rw [hI_uI_n (by omega), hI_uI_n (by omega)]; exact x4
  · rw [hI_uI_n (by omega)]; exact x6
  · rw [hI_uI_n (by omega)]; exact x7
  · rw [hI_uI_n (by omega), hI_uI_n (by omega)]; exact c3
  · rw [hI_uI_n (by omega)]; exact c4
  · rw [hI_uI_n' (by omega), hI_uI_n' (by omega)]; exact R
/-- a step's end in the reference: what was missed is added -/
def mis (b : HP) (x : Int32) (q : Bool) : HP := uI b 128 0 (x + bI (!q))
theorem x66 (k : Nat) : (44 : Int32) + (6 : Int32) * nI k = nI (44 + 6 * k) := by rw [show (44 : Int32) = nI 44 from rfl, show (6 : Int32) = nI 6 from rfl, nI_mul, nI_add]
theorem ref_step {fu k : Nat} (hk : k < 60) {e : Nat} (ke : k < e) (e60 : e ≤ 60) {b b2 : HP} {st : Nat} (st3 : st < 300) (k11 : hI b 114 11 = nI e) (c2 : hI b 113 33 = nI st) {V : Int32} (hV : hI b 114 (44 + 6 * k) = V) (n18 : V ≠ 18) {q : Bool} (ed : f_X12_does (uI b 113 33 (nI (st + 1))) (nI (44 + 6 * k)) = some (bI q, b2)) (v2 : hI b2 114 (44 + 6 * k) = V) :
    f_X12_lives_32 (fu + 1) (nI k) b = (if V = 16 then f_X12_lives_140 (f_X12_lives_32 fu) (nI k) (nI (44 + 6 * k)) (uI (mis b2 (hI b 128 0) q) 127 k (hI (mis b2 (hI b 128 0) q) 114 (45 + 6 * k) - 1)) else f_X12_lives_140 (f_X12_lives_32 fu) (nI k) (nI (44 + 6 * k)) (mis b2 (hI b 128 0) q)) := by
  have x1 : nI (44 + 6 * k) + 1 = nI (45 + 6 * k) := by rw [nI_1, show 44 + 6 * k + 1 = 45 + 6 * k by omega]
  have r111 : ∀ x y, x + y = hI b 128 0 + bI (!q) → f_X12_lives_111 (f_X12_lives_32 fu) (nI k) (nI (44 + 6 * k)) 0 x y b2 = (if V = 16 then f_X12_lives_140 (f_X12_lives_32 fu) (nI k) (nI (44 + 6 * k)) (uI (mis b2 (hI b 128 0) q) 127 k (hI (mis b2 (hI b 128 0) q) 114 (45 + 6 * k) - 1)) else f_X12_lives_140 (f_X12_lives_32 fu) (nI k) (nI (44 + 6 * k)) (mis b2 (hI b 128 0) q)) := fun x y exy => by
    have em : uI b2 128 (Int32.toNatClampNeg 0) (x + y) = mis b2 (hI b 128 0) q := by unfold mis; rw [exy]; rfl
    unfold f_X12_lives_111
    rw [show gdi (0 : Int32) 5 = gdi (nI 0) 5 from rfl, gdi_nI (by decide) (by decide), em, ltv_e, gdi_nI (by omega) (by decide), nI_clamp (by omega)]
    have em2 : hI (mis b2 (hI b 128 0) q) 114 (44 + 6 * k) = V := by unfold mis; rw [hI_uI_n (by omega)]; exact v2
    rw [em2]
    by_cases z : V = 16
    · rw [if_pos z, if_pos z, x1, gdi_nI (by omega) (by decide), gdi_nI (by omega) (by decide), ltv_e, nI_clamp (by omega), nI_clamp (by omega)]
    · rw [if_neg z, if_neg z]
  show (if hI b 114 11 ≤ nI k then _ else _) = _
  rw [k11, if_neg (show ¬ nI e ≤ nI k by rw [nI_leI (by omega) (by omega)]; omega), c2, if_neg (show ¬ nI st = 300 from fun z => by have := nI_inj (by omega) (by omega) (z.trans (show (300 : Int32) = nI 300 from rfl)); omega), x66, ltv_e, nI_1, ltv_e, gdi_nI (by omega) (by decide), nI_clamp (by omega), hI_uI_n (h := b) (by omega), hV, if_neg n18, ed, bd2_s]
  rw [hI_uI_n (h := b) (a := 113) (b := 128) (by omega)]
  cases q
  · rw [if_pos (show bI false = 0 from rfl)]; exact r111 _ _ rfl
  · rw [if_neg (show ¬ bI true = 0 by decide)]; exact r111 _ _ rfl
theorem ref_140 {fu k : Nat} (hk : k < 60) {b : HP} {V : Int32} (hV : hI b 114 (44 + 6 * k) = V) (lt : V < 1500) : f_X12_lives_140 (f_X12_lives_32 fu) (nI k) (nI (44 + 6 * k)) b = bd2 (f_X12_behindEnds b (nI (k + 1))) fun r29 h28 => f_X12_lives_32 fu r29 h28 := by
  unfold f_X12_lives_140
  rw [gdi_nI (by omega) (by decide), nI_clamp (by omega), hV, if_pos lt, nI_1]
theorem cls_step {t v n k i e st : Nat} (ht : t = 79 ∨ t = 96) (hv : v = 75 ∨ v = 77) (ke : k < e) (e60 : e ≤ 60) {a : HP} (hi : i < 100000) (k6 : hI a (t + 3) 6 = nI e) (n20 : hI a (t + 3 + 1) k ≠ 20) (st3 : st < 300) (c2 : hI a v 2 = nI st) {x : Nat} {a2 : HP} (ed : f_X2_doStep (uI a v 2 (nI (st + 1))) v t (nI k) = some (nI x, a2)) : f_X2_liveBy_46 v t (n + 1) (nI k) (nI i) a = f_X2_liveBy_46 v t n (nI x) (nI (i + 1)) a2 := by
  show (if (100000 : Int32) ≤ nI i then _ else _) = _
  rw [if_neg (show ¬ (100000 : Int32) ≤ nI i by rw [show (100000 : Int32) = nI 100000 from rfl, nI_leI (by omega) (by omega)]; omega), k6, if_neg (show ¬ nI e ≤ nI k by rw [nI_leI (by omega) (by omega)]; omega), gdi_nI (by omega) (by decide), nI_clamp (by omega), if_neg n20, c2, if_neg (show ¬ (300 : Int32) ≤ nI st by rw [show (300 : Int32) = nI 300 from rfl, nI_leI (by omega) (by omega)]; omega), nI_1, ltv_e, ed, bd2_s, ltv_e, nI_1]
theorem live_lp {t v w r m c e : Nat} {j : Bool} (ht : t = 79 ∨ t = 96) (hv : v = 75 ∨ v = 77) {a0 b0 : HP} (e60 : e ≤ 60) (y5 : hI a0 (t + 3) 5 = 1) (k6 : hI a0 (t + 3) 6 = nI e) : ∀ d st fu, st + d = 300 → d + 1 < fu → ∀ k i n a b, n + i = 1000000 → i + 101 * d + pot (hI a0 (t + 3 + 1)) (paF (hI a0 (t + 3 + 5))) e (hI a (v + 1)) k < 100000 → k ≤ e → (k < e → hI a0 (t + 3 + 1) k ≠ 20) → MI t v w r m c e j a0 b0 a b st k →
    ∃ a' b', f_X2_liveBy_46 v t n (nI k) (nI i) a = some a' ∧ f_X12_lives_32 fu (nI k) b = some b' ∧ FIN t v w r m c j a0 b0 a' b' := by
  intro d
  induction d with
  | zero =>
    intro st fu hst hfu k i n a b hn hp hk n20 I
    obtain ⟨fu, rfl⟩ : ∃ f, fu = f + 1 := ⟨fu - 1, by omega⟩
    obtain ⟨n, rfl⟩ : ∃ f, n = f + 1 := ⟨n - 1, by omega⟩
    obtain ⟨C, M, L, ⟨x1, x2, x3, x4, s, x5, x6, x7⟩, c3, ⟨c2, c2', c4⟩, R⟩ := I
    have eW : hI a (t + 3 + 1) = hI a0 (t + 3 + 1) := funext fun q => C.2.1 _ q (by omega) (by omega) (by omega) (by omega) (by omega) (by omega)
    have e5 : hI a (t + 3) 5 = 1 := by rw [C.2.1 _ _ (by omega) (by omega) (by omega) (by omega) (by omega) (by omega)]; exact y5
    have e6 : hI a (t + 3) 6 = nI e := by rw [C.2.1 _ _ (by omega) (by omega) (by omega) (by omega) (by omega) (by omega)]; exact k6
    obtain ⟨e11, q1, q2⟩ := yr_of ht L e5 e60 e6
    have s300 : st = 300 := by omega
    subst s300
    have i1 : ¬ (100000 : Int32) ≤ nI i := by rw [show (100000 : Int32) = nI 100000 from rfl, nI_leI (by omega) (by omega)]; omega
    by_cases ke : k < e
    · have C2 : FC t v a (uI a v 7 1) := (FC.refl t v a).I v 7 _ (by omega)
      have M2 : FM b (uI b 128 4 1) := (FM.refl b).I 128 4 _ (by omega)
      refine ⟨uI a v 7 1, uI b 128 4 1, ?_, ?_, C.trans C2, M.trans M2, L.cn ht hv C2 M2 (hI_uI_n' (by omega)) (hI_uI_n' (by omega)) (hI_uI_n' (by omega)), ⟨?_, ?_, ?_, ?_⟩, ?_, Or.inr (hI_uI_s _ _ _ _), 300, by omega, ?_, ?_⟩
      · show (if (100000 : Int32) ≤ nI i then _ else _) = _
        rw [if_neg i1, e6, if_neg (show ¬ nI e ≤ nI k by rw [nI_leI (by omega) (by omega)]; omega), gdi_nI (by omega) (by decide), nI_clamp (by omega), eW, if_neg (n20 ke), c2, if_pos (show (300 : Int32) ≤ nI 300 by decide), ltv_e]
      · show (if hI b 114 11 ≤ nI k then _ else _) = _
        rw [e11, if_neg (show ¬ nI e ≤ nI k by rw [nI_leI (by omega) (by omega)]; omega), c2', if_pos (show nI 300 = 300 from rfl), ltv_e]
      · rw [hI_uI_n (by omega), hI_uI_n (by omega)]; exact x1
      · rw [hI_uI_n (by omega), hI_uI_n (by omega)]; exact x2
      · rw [hI_uI_n (by omega), hI_uI_n (by omega)]; exact x3
      · rw [hI_uI_s, hI_uI_s]
      · rw [hI_uI_n (by omega), hI_uI_n (by omega)]; exact c3
      · rw [hI_uI_n (by omega)]; exact c2
      · rw [hI_uI_n (by omega)]; exact c2'
    · refine ⟨a, b, ?_, ?_, C, M, L, ⟨x1, x2, x3, x4⟩, c3, Or.inl c4, 300, by omega, c2, c2'⟩
      · show (if (100000 : Int32) ≤ nI i then _ else _) = _
        rw [if_neg i1, e6, if_pos (show nI e ≤ nI k by rw [nI_leI (by omega) (by omega)]; omega)]
      · show (if hI b 114 11 ≤ nI k then _ else _) = _
        rw [e11, if_pos (show nI e ≤ nI k by rw [nI_leI (by omega) (by omega)]; omega)]
  | succ d ih =>
    intro st fu hst hfu k i n a b hn hp hk n20 I
    obtain ⟨fu, rfl⟩ : ∃ f, fu = f + 1 := ⟨fu - 1, by omega⟩
    obtain ⟨n, rfl⟩ : ∃ f, n = f + 1 := ⟨n - 1, by omega⟩
    have I1 := mx_stp ht hv I
    obtain ⟨C, M, L, CT, c3, ⟨c2, c2', c4⟩, R⟩ := I
    have eW : hI a (t + 3 + 1) = hI a0 (t + 3 + 1) := funext fun q => C.2.1 _ q (by omega) (by omega) (by omega) (by omega) (by omega) (by omega)
    have eP : hI a (t + 3 + 5) = hI a0 (t + 3 + 5) := funext fun q => C.2.1 _ q (by omega) (by omega) (by omega) (by omega) (by omega) (by omega)
    have e5 : hI a (t + 3) 5 = 1 := by rw [C.2.1 _ _ (by omega) (by omega) (by omega) (by omega) (by omega) (by omega)]; exact y5
    have e6 : hI a (t + 3) 6 = nI e := by rw [C.2.1 _ _ (by omega) (by omega) (by omega) (by omega) (by omega) (by omega)]; exact k6
    obtain ⟨e11, q1, q2⟩ := yr_of ht L e5 e60 e6
    have G := prog_of ht e60 q1 q2
    rw [eW, eP] at G
    by_cases ke : k < e
    · have k60 : k < 60 := by omega
      have w20 : hI a (t + 3 + 1) k ≠ 20 := by rw [eW]; exact n20 ke
      obtain ⟨C1, M1, L1, CT1, c31, ⟨c21, c21', c41⟩, R1⟩ := I1
      obtain ⟨A1, eA1⟩ : ∃ A1, A1 = uI a v 2 (nI (st + 1)) := ⟨_, rfl⟩
      obtain ⟨B1, eB1⟩ : ∃ B1, B1 = uI b 113 33 (nI (st + 1)) := ⟨_, rfl⟩
      rw [← eA1] at C1 L1 CT1 c31 c21 R1
      rw [← eB1] at M1 L1 CT1 c31 c21' c41 R1
      have aA : ∀ p q, p ≠ v → hI A1 p q = hI a p q := fun p q hp => by rw [eA1, hI_uI_n (by omega)]
      have bB : ∀ p q, p ≠ 113 → hI B1 p q = hI b p q := fun p q hp => by rw [eB1, hI_uI_n (by omega)]
      have lv : hI A1 (v + 1) = hI a (v + 1) := funext fun q => aA _ q (by omega)
      -- a plain step
      have plain : SP t v w r m c j A1 B1 k → ∀ V, hI b 114 (44 + 6 * k) = V → V ≠ 18 → V ≠ 16 → V < 1500 → ¬ isBk (hI a0 (t + 3 + 1)) k → ∃ a' b', f_X2_liveBy_46 v t (n + 1) (nI k) (nI i) a = some a' ∧ f_X12_lives_32 (fu + 1) (nI k) b = some b' ∧ FIN t v w r m c j a0 b0 a' b' := fun S V hV n18 n16 lt nb => by
        obtain ⟨A2, B2, q, s1, s2, s3, s4, s5, s6, s7, s8, s9, s10, s11, s12, s13⟩ := S
        rw [eA1] at s1
        rw [eB1] at s2
        have cl := cls_step (n := n) ht hv ke e60 (show i < 100000 by omega) e6 w20 (show st < 300 by omega) c2 s1
        have v2 : hI B2 114 (44 + 6 * k) = V := by rw [s4.2.1 _ _ (by omega) (by omega) (by omega) (by omega) (by omega), bB _ _ (by omega)]; exact hV
        have rf := ref_step (fu := fu) k60 ke e60 (show st < 300 by omega) e11 c2' hV n18 s2 v2
        rw [if_neg n16, ref_140 k60 (V := V) (by unfold mis; rw [hI_uI_n (by omega)]; exact v2) lt] at rf
        have M3 : FM B2 (mis B2 (hI b 128 0) q) := (FM.refl B2).I 128 0 _ (by omega)
        obtain ⟨y1, y2, y3, y4, s, y5', y6, y7⟩ := s6
        have mm : ∀ p q', ¬ (p = 128 ∧ q' = 0) → hI (mis B2 (hI b 128 0) q) p q' = hI B2 p q' := fun p q' h => by unfold mis; rw [hI_uI_n (by omega)]
        have a3 : hI A1 v 3 = hI a v 3 := by rw [eA1, hI_uI_n (by omega)]
        have m0 : hI (mis B2 (hI b 128 0) q) 128 0 = hI b 128 0 + bI (!q) := hI_uI_s _ _ _ _
        have on := go_on ht hv e60 y5 k6 (ih (st + 1) fu (by omega) (by omega)) (k := k + 1) (i := i + 1) (n := n) (a := A2) (b := mis B2 (hI b 128 0) q) (by omega) (by
          rw [s9, lv, pot_c (fun o ho => enc_on G ke nb (n20 ke) ho)]; omega) (by omega) ⟨C1.trans s3, (M1.trans s4).trans M3, s5.cn ht hv (FC.refl _ _ _) M3 rfl rfl (funext fun q' => mm 114 q' (by omega)), ⟨by rw [mm _ _ (by omega)]; exact y1, by rw [mm _ _ (by omega)]; exact y2, by rw [mm _ _ (by omega)]; exact y3, by rw [mm _ _ (by omega)]; exact y4, s, y5', y6, by rw [mm _ _ (by omega)]; exact y7⟩, by rw [m0, s7, a3, c3], ⟨by rw [s11]; exact c21, by rw [mm _ _ (by omega), s12]; exact c21', by rw [mm _ _ (by omega), s13]; exact c41⟩, by
            have e1 : hI (mis B2 (hI b 128 0) q) 127 = hI B2 127 := funext fun q' => mm 127 q' (by omega)
            rw [e1, s9, s10]; exact fun o ho o19 en => R1 o ho o19 ((enc_on G ke nb (n20 ke) ho).mp en)⟩
        obtain ⟨a', b', g1, g2, g3⟩ := on
        exact ⟨a', b', cl.trans g1, rf.trans g2, g3⟩
      sorry
    · have C1 := C
      obtain ⟨x1, x2, x3, x4, s, x5, x6, x7⟩ := CT
      refine ⟨a, b, ?_, ?_, C, M, L, ⟨x1, x2, x3, x4⟩, c3, Or.inl c4, st, by omega, c2, c2'⟩
      · show (if (100000 : Int32) ≤ nI i then _ else _) = _
        rw [if_neg (show ¬ (100000 : Int32) ≤ nI i by rw [show (100000 : Int32) = nI 100000 from rfl, nI_leI (by omega) (by omega)]; omega), e6, if_pos (show nI e ≤ nI k by rw [nI_leI (by omega) (by omega)]; omega)]
      · show (if hI b 114 11 ≤ nI k then _ else _) = _
        rw [e11, if_pos (show nI e ≤ nI k by rw [nI_leI (by omega) (by omega)]; omega)]
