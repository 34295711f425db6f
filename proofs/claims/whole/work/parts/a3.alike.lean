/-! ===== year: what stands behind an order's word ===== -/
/-- the town a YEAR speaks of -/
def TWN (a b : HP) (t w r m : Nat) : Prop := (1 ≤ w ∧ w ≤ 5 ∧ hI a (t + 1) 0 = nI w ∧ hI b 114 0 = nI w) ∧ (1 ≤ r ∧ r ≤ 6 ∧ hI a (t + 1) 1 = nI r ∧ hI b 114 1 = nI r) ∧ (m ≤ 4 ∧ hI a t 10 = nI m ∧ hI b 114 5 = nI m) ∧ (∃ c, c ≤ 6 ∧ hI a t 11 = nI c) ∧ ∀ i, i < m → NmR (hL a (t + 9) i) (hL b 115 i)
theorem TWN.keep {a a' b b' : HP} {t u w r m : Nat} (h : TWN a b t w r m) (hu : u = 79 ∨ u = 96) (ht : t = 79 ∨ t = 96) (htu : t ≠ u) (C : CW u a a') (F : FW b b') : TWN a' b' t w r m := by
  obtain ⟨⟨h1, h2, h3, h4⟩, ⟨h5, h6, h7, h8⟩, ⟨h9, h10, h11⟩, h12, h13⟩ := h
  obtain ⟨_, c1, c2, _⟩ := C
  obtain ⟨_, _, _, _, _, f1, f2⟩ := F
  unfold TWN
  rw [c1 t (by omega) (by omega), c1 (t + 1) (by omega) (by omega), c2 (t + 9) (by omega), f1 0 (by decide), f1 1 (by decide), f1 5 (by decide)]
  exact ⟨⟨h1, h2, h3, h4⟩, ⟨h5, h6, h7, h8⟩, ⟨h9, h10, h11⟩, h12, fun i hi => by rw [f2 i (by omega)]; exact h13 i hi⟩
theorem TWN.tp {a b : HP} {t w r m : Nat} (h : TWN a b t w r m) : TP a t ∧ tM a t = m := by
  obtain ⟨_, _, ⟨h9, h10, _⟩, ⟨c, h12, h13⟩, _⟩ := h
  have e1 : tM a t = m := by unfold tM; rw [h10, nI_clamp (by omega)]
  have e2 : tC a t = c := by unfold tC; rw [h13, nI_clamp (by omega)]
  refine ⟨?_, e1⟩
  unfold TP
  rw [e1, e2]
  exact ⟨⟨h9, h10⟩, h12, h13⟩
theorem RD.rk {T : Nat → Int32} {L n : Nat} {a b : HP} (k : RD T L n a b) (ly : Lay a) : RK a := by
  obtain ⟨⟨i, ⟨⟨c1, c2, c3, c4, c5⟩, c6, c7, c8⟩, _, ⟨d1, d2⟩, _⟩, _⟩ := k
  refine ⟨ly, TokOK.mk' (a := i) d1 c5 (by omega) (by omega) (fun k hk => ?_)⟩
  by_cases h : k < n
  · obtain ⟨_, d2, d3, _⟩ := c6 k h
    exact ⟨_, _, d2, d3, by have := lenT_le (T := T) (c3 k h); omega⟩
  · rw [show k = n by omega]
    exact ⟨L, 0, c7.2.1, c7.2.2.1, by omega⟩
/-- what an order changes: the class's, the reference's -/
def CE (y e : Nat) (a a' : HP) : Prop := SR a a' ∧ (∀ c j, c ≠ 5 → ¬ ((c = y + 2 ∨ c = y + 3 ∨ c = y + 4) ∧ j = e) → hI a' c j = hI a c j) ∧ hL a' = hL a ∧ hI a' 5 7 = hI a 5 7
def XE (x : Nat) (b b' : HP) : Prop := FW b b' ∧ hL b' = hL b ∧ (∀ j, ¬ (x ≤ j ∧ j ≤ x + 5) → hI b' 114 j = hI b 114 j) ∧ (∀ j, ¬ ((12 ≤ j ∧ j ≤ 15) ∨ j = 17 ∨ j = 18) → hI b' 113 j = hI b 113 j) ∧ hI b' 121 = hI b 121
theorem CE.refl (y e : Nat) (a : HP) : CE y e a a := ⟨SR.refl a, fun _ _ _ _ => rfl, rfl, rfl⟩
theorem CE.trans {y e : Nat} {a b c : HP} (p : CE y e a b) (q : CE y e b c) : CE y e a c := ⟨p.1.trans q.1, fun x j h1 h2 => (q.2.1 x j h1 h2).trans (p.2.1 x j h1 h2), q.2.2.1.trans p.2.2.1, q.2.2.2.trans p.2.2.2⟩
theorem CE.fr {y e : Nat} {a a' : HP} (f : TkFr a a') : CE y e a a' := by
  have C := CW.fr (u := 200) f
  exact ⟨C.1, fun c j h _ => by rw [f.I h], f.L, C.2.2.2⟩
theorem CE.u {y e : Nat} {a b : HP} (p : CE y e a b) {c : Nat} (v : Int32) (hc : c = y + 2 ∨ c = y + 3 ∨ c = y + 4) (hy : 6 ≤ y) : CE y e a (uI b c e v) :=
  p.trans ⟨⟨rfl, rfl⟩, fun d j h1 h2 => hI_uI_n (by omega), rfl, hI_uI_n (by omega)⟩
theorem XE.refl (x : Nat) (b : HP) : XE x b b := ⟨FW.refl b, rfl, fun _ _ => rfl, fun _ _ => rfl, rfl⟩
theorem XE.trans {x : Nat} {a b c : HP} (p : XE x a b) (q : XE x b c) : XE x a c := ⟨p.1.trans q.1, q.2.1.trans p.2.1, fun j h => (q.2.2.1 j h).trans (p.2.2.1 j h), fun j h => (q.2.2.2.1 j h).trans (p.2.2.2.1 j h), q.2.2.2.2.trans p.2.2.2.2⟩
theorem FB.X {x : Nat} {b b' : HP} (p : FB b b') : XE x b b' := ⟨p.W, p.L, fun j _ => congrFun (p.I (by decide)) j, fun j h => p.c h, p.I (by decide)⟩
theorem XE.u {x : Nat} {a b : HP} (p : XE x a b) {j : Nat} (v : Int32) (hj : x ≤ j ∧ j ≤ x + 5) (hx : 1640 ≤ x) : XE x a (uI b 114 j v) :=
  p.trans ⟨(FW.refl b).u4 v (by omega), rfl, fun k h => hI_uI_n (by omega), fun k _ => hI_uI_n (by omega), hI_uI_n' (by decide)⟩
/-- after an order: R the class's answer and heap -/
def OA (T : Nat → Int32) (L n y e x : Nat) (R : Int32 × HP) (a b b' : HP) (D : Prop) : Prop := is01 R.1 ∧ CE y e a R.2 ∧ XE x b b' ∧ ((R.1 = 0 ∧ FT R.2 b') ∨ (R.1 = 1 ∧ RD T L n R.2 b' ∧ D))
theorem first_o {T : Nat → Int32} {L n : Nat} {a b : HP} (k : RD T L n a b) {y e x lo hi : Nat} (hy : 13 ≤ y) (hx : 1640 ≤ x) (hx2 : x + 5 < 2460) (hlo : lo < 10000) (hhi : hi < 10000) : ∃ b', f_X12_number b (nI (x + 1)) (nI lo) (nI hi) = some ((firstF a y e (nI lo) (nI hi)).1, b') ∧ OA T L n y e x (firstF a y e (nI lo) (nI hi)) a b b' (∃ v, lo ≤ v ∧ v ≤ hi ∧ hI (firstF a y e (nI lo) (nI hi)).2 (y + 3) e = nI v ∧ hI b' 114 (x + 1) = nI v ∧ ∀ j, j ≠ x + 1 → hI b' 114 j = hI b 114 j) ∧ ∀ c, c ≠ 5 → c ≠ y + 3 → hI (firstF a y e (nI lo) (nI hi)).2 c = hI a c := by
  unfold firstF
  rcases k.number (p := x + 1) (by omega) hlo hhi with ⟨r, b', e1, F, k1⟩ | ⟨r, v, b', v1, v2, ev, e1, F, k1⟩
  · rw [if_pos r]
    exact ⟨b', e1, ⟨Or.inl rfl, CE.fr (takeN_fr a _ _), F.X, Or.inl ⟨rfl, k1⟩⟩, fun c h1 _ => (takeN_fr a _ _).I h1⟩
  · rw [if_neg (by rw [r]; decide), ev]
    refine ⟨b', e1, ⟨Or.inr rfl, (CE.fr (takeN_fr a _ _)).u _ (by omega) (by omega), ((XE.refl x b).u _ (by omega) hx).trans F.X, Or.inr ⟨rfl, k1.keep (hI_uI_n' (by omega)) (fun c hc => hI_uI_n' (by omega)) rfl rfl rfl, v, v1, v2, hI_uI_s _ _ _ _, ?_, fun j hj => ?_⟩⟩, fun c h1 h2 => ?_⟩
    · rw [F.I (by decide), hI_uI_s]
    · rw [F.I (by decide), hI_uI_n (by omega)]
    · show hI (uI _ (y + 3) e (nI v)) c = _
      rw [hI_uI_n' h2, (takeN_fr a _ _).I h1]
theorem place_o {T : Nat → Int32} {L n : Nat} {a b : HP} (k : RD T L n a b) {t w r m y e x : Nat} (W : TWN a b t w r m) (hty : t + 1 < y ∨ y + 5 < t) (ht5 : 6 ≤ t) (hy : 13 ≤ y) (hx : 1640 ≤ x) (hx2 : x + 5 < 2460) : ∃ b', f_X12_placeTo b (nI (x + 1)) = some ((placeYF a t y e).1, b') ∧ OA T L n y e x (placeYF a t y e) a b b' (∃ p q, p < w ∧ q < r ∧ hI (placeYF a t y e).2 (y + 3) e = nI p ∧ hI b' 114 (x + 1) = nI p ∧ hI (placeYF a t y e).2 (y + 4) e = nI q ∧ hI b' 114 (x + 2) = nI q ∧ ∀ j, j ≠ x + 1 → j ≠ x + 2 → hI b' 114 j = hI b 114 j) ∧ ∀ c, c ≠ 5 → c ≠ y + 3 → c ≠ y + 4 → hI (placeYF a t y e).2 c = hI a c := by
  obtain ⟨⟨w1, w5, wa, wb⟩, ⟨r1, r6, ra, rb⟩, _⟩ := W
  have pe : placeYF a t y e = (if (takeN a 0 (hI a (t + 1) 0 - 1)).1 = 0 then (0, (takeN a 0 (hI a (t + 1) 0 - 1)).2) else if (takeN (uI (takeN a 0 (hI a (t + 1) 0 - 1)).2 (y + 3) e (hI (takeN a 0 (hI a (t + 1) 0 - 1)).2 5 11)) 0 (hI (uI (takeN a 0 (hI a (t + 1) 0 - 1)).2 (y + 3) e (hI (takeN a 0 (hI a (t + 1) 0 - 1)).2 5 11)) (t + 1) 1 - 1)).1 = 0 then (0, (takeN (uI (takeN a 0 (hI a (t + 1) 0 - 1)).2 (y + 3) e (hI (takeN a 0 (hI a (t + 1) 0 - 1)).2 5 11)) 0 (hI (uI (takeN a 0 (hI a (t + 1) 0 - 1)).2 (y + 3) e (hI (takeN a 0 (hI a (t + 1) 0 - 1)).2 5 11)) (t + 1) 1 - 1)).2) else (1, uI (takeN (uI (takeN a 0 (hI a (t + 1) 0 - 1)).2 (y + 3) e (hI (takeN a 0 (hI a (t + 1) 0 - 1)).2 5 11)) 0 (hI (uI (takeN a 0 (hI a (t + 1) 0 - 1)).2 (y + 3) e (hI (takeN a 0 (hI a (t + 1) 0 - 1)).2 5 11)) (t + 1) 1 - 1)).2 (y + 4) e (hI (takeN (uI (takeN a 0 (hI a (t + 1) 0 - 1)).2 (y + 3) e (hI (takeN a 0 (hI a (t + 1) 0 - 1)).2 5 11)) 0 (hI (uI (takeN a 0 (hI a (t + 1) 0 - 1)).2 (y + 3) e (hI (takeN a 0 (hI a (t + 1) 0 - 1)).2 5 11)) (t + 1) 1 - 1)).2 5 11))) := rfl
  rw [pe, wa, show nI w - 1 = nI (w - 1) from nI_sub (b := 1) w1]
  unfold f_X12_placeTo
  rw [wb, show nI w - 1 = nI (w - 1) from nI_sub (b := 1) w1]
  have fr1 := takeN_fr a 0 (nI (w - 1))
  rcases k.number (p := x + 1) (lo := 0) (hi := w - 1) (by omega) (by decide) (by omega) with ⟨q, b1, e1, F, k1⟩ | ⟨q, v, b1, _, v2, ev, e1, F, k1⟩
  · have q : (takeN a 0 (nI (w - 1))).1 = 0 := q
    have e1 : f_X12_number b (nI (x + 1)) 0 (nI (w - 1)) = some (0, b1) := e1
    rw [e1, bd2_s, if_pos rfl, if_pos q]
    exact ⟨b1, rfl, ⟨Or.inl rfl, CE.fr fr1, F.X, Or.inl ⟨rfl, k1⟩⟩, fun c h1 _ _ => fr1.I h1⟩
  · have q : (takeN a 0 (nI (w - 1))).1 = 1 := q
    have e1 : f_X12_number b (nI (x + 1)) 0 (nI (w - 1)) = some (1, b1) := e1
    have ev : hI (takeN a 0 (nI (w - 1))).2 5 11 = nI v := ev
    have k1 : RD T L n (takeN a 0 (nI (w - 1))).2 b1 := k1
    rw [e1, bd2_s, if_neg (show ¬ (1 : Int32) = 0 by decide), if_neg (show ¬ (takeN a 0 (nI (w - 1))).1 = 0 by rw [q]; decide), ev]
    generalize (takeN a 0 (nI (w - 1))).2 = a1 at k1 fr1 ⊢
    have k2 : RD T L n (uI a1 (y + 3) e (nI v)) b1 := k1.keep (hI_uI_n' (by omega)) (fun c hc => hI_uI_n' (by omega)) rfl rfl rfl
    have ra2 : hI (uI a1 (y + 3) e (nI v)) (t + 1) 1 = nI r := by rw [hI_uI_n (by omega), fr1.I (by omega)]; exact ra
    have rb2 : hI b1 114 1 = nI r := by rw [F.I (by decide), hI_uI_n (by omega)]; exact rb
    have C2 : CE y e a (uI a1 (y + 3) e (nI v)) := (CE.fr fr1).u _ (by omega) (by omega)
    have X2 : XE x b b1 := ((XE.refl x b).u _ (by omega) hx).trans F.X
    have v3 : hI (uI a1 (y + 3) e (nI v)) (y + 3) e = nI v := hI_uI_s _ _ _ _
    have o2 : ∀ c, c ≠ 5 → c ≠ y + 3 → hI (uI a1 (y + 3) e (nI v)) c = hI a c := fun c h1 h2 => by rw [hI_uI_n' h2, fr1.I h1]
    generalize uI a1 (y + 3) e (nI v) = a2 at k2 ra2 C2 v3 o2 ⊢
    rw [ra2, rb2, show nI r - 1 = nI (r - 1) from nI_sub (b := 1) r1, nI_1]
    have fr3 := takeN_fr a2 0 (nI (r - 1))
    rcases k2.number (p := x + 1 + 1) (lo := 0) (hi := r - 1) (by omega) (by decide) (by omega) with ⟨q3, b3, e3, F3, k3⟩ | ⟨q3, z, b3, _, z2, ez, e3, F3, k3⟩
    · have q3 : (takeN a2 0 (nI (r - 1))).1 = 0 := q3
      have e3 : f_X12_number b1 (nI (x + 1 + 1)) 0 (nI (r - 1)) = some (0, b3) := e3
      rw [e3, bd2_s, if_pos rfl, if_pos q3]
      exact ⟨b3, rfl, ⟨Or.inl rfl, C2.trans (CE.fr fr3), X2.trans F3.X, Or.inl ⟨rfl, k3⟩⟩, fun c h1 h2 _ => by rw [fr3.I h1]; exact o2 c h1 h2⟩
    · have q3 : (takeN a2 0 (nI (r - 1))).1 = 1 := q3
      have e3 : f_X12_number b1 (nI (x + 1 + 1)) 0 (nI (r - 1)) = some (1, b3) := e3
      have ez : hI (takeN a2 0 (nI (r - 1))).2 5 11 = nI z := ez
      have k3 : RD T L n (takeN a2 0 (nI (r - 1))).2 b3 := k3
      rw [e3, bd2_s, if_neg (show ¬ (1 : Int32) = 0 by decide), if_neg (show ¬ (takeN a2 0 (nI (r - 1))).1 = 0 by rw [q3]; decide), ez]
      refine ⟨b3, rfl, ⟨Or.inr rfl, (C2.trans (CE.fr fr3)).u _ (by omega) (by omega), X2.trans (((XE.refl x b1).u _ (by omega) hx).trans F3.X), Or.inr ⟨rfl, k3.keep (hI_uI_n' (by omega)) (fun c hc => hI_uI_n' (by omega)) rfl rfl rfl, v, z, by omega, by omega, ?_, ?_, hI_uI_s _ _ _ _, ?_, fun j h1 h2 => ?_⟩⟩, fun c h1 h2 h3 => ?_⟩
      · show hI (uI _ (y + 4) e (nI z)) (y + 3) e = _
        rw [hI_uI_n (by omega), fr3.I (by omega)]; exact v3
      · rw [F3.I (by decide), hI_uI_n (by omega), F.I (by decide), hI_uI_s]
      · rw [F3.I (by decide), hI_uI_s]
      · rw [F3.I (by decide), hI_uI_n (by omega), F.I (by decide), hI_uI_n (by omega)]
      · show hI (uI _ (y + 4) e (nI z)) c = _
        rw [hI_uI_n' h3, fr3.I h1]; exact o2 c h1 h2
theorem rule_o {T : Nat → Int32} {L n : Nat} {a b : HP} (k : RD T L n a b) {t w r m y e x : Nat} (W : TWN a b t w r m) (hy : 13 ≤ y) (hx : 1640 ≤ x) (hx2 : x + 5 < 2460) : ∃ b', f_X12_oldRule b (nI (x + 1)) = some ((ruleNameF a t y e).1, b') ∧ OA T L n y e x (ruleNameF a t y e) a b b' (∃ q, q < m ∧ hI (ruleNameF a t y e).2 (y + 3) e = nI q ∧ hI b' 114 (x + 1) = nI q ∧ ∀ j, j ≠ x + 1 → hI b' 114 j = hI b 114 j) ∧ ∀ c, c ≠ 5 → c ≠ y + 3 → hI (ruleNameF a t y e).2 c = hI a c := by
  have tm := W.tp.2
  obtain ⟨_, _, ⟨m4, ma, mb⟩, _, wn⟩ := W
  unfold f_X12_oldRule ruleNameF
  rcases k.name with ⟨n1, n2, X, n3, n4⟩ | ⟨n1, n2⟩
  · rw [n2, bd2_s, if_neg (show ¬ (1 : Int32) = 0 by decide), if_pos n1, tm]
    have fr := find_all n3 (p := 0) (m := m) (by omega)
    rw [mb, show f_X12_findHere b 0 (nI m) = _ from fr, bd2_s, gdi_nI (by omega) (by decide), ltv_e, gdi_nI (by omega) (by decide), nI_clamp (by omega), hI_uI_s]
    have fe : fndN (fun i => hL b 115 (0 + i)) X m 0 = fndN (hL a (t + 9)) (hL a 12 (tA a)) m 0 := fndN_eq m 0 (fun i _ hi => by
      rw [Nat.zero_add]; exact ((wn i (by omega)).eq n4).symm)
    rw [fe]
    have cs : (fndN (hL a (t + 9)) (hL a 12 (tA a)) m 0 = -1) ∨ ∃ q, q < m ∧ fndN (hL a (t + 9)) (hL a 12 (tA a)) m 0 = nI q := by
      have g : ∀ d k, k + d = m → (fndN (hL a (t + 9)) (hL a 12 (tA a)) d k = -1) ∨ ∃ q, q < m ∧ fndN (hL a (t + 9)) (hL a 12 (tA a)) d k = nI q := by
        intro d
        induction d with
        | zero => intro k _; exact Or.inl rfl
        | succ d ih =>
          intro k hk
          unfold fndN
          split
          · exact Or.inr ⟨k, by omega, rfl⟩
          · exact ih (k + 1) (by omega)
      exact g m 0 (by omega)
    have k2 : ∀ v, RD T L n a (uI b 114 (x + 1) v) := fun v => k.keep rfl (fun _ _ => rfl) rfl (hI_uI_n' (by decide)) (hI_uI_n' (by decide))
    rcases cs with c | ⟨q, hq, c⟩
    · rw [c, if_pos rfl, if_pos (show (-1 : Int32) < 0 by decide)]
      obtain ⟨b', g1, g2, g3⟩ := (k2 (-1)).fail (w := 3) (by decide) (by decide)
      rw [show f_X12_fails (uI b 114 (x + 1) (-1)) 3 = some (0, b') from g1, bd2_s, gdv_t (Or.inl rfl)]
      exact ⟨b', rfl, ⟨Or.inl rfl, CE.fr (failF_fr a 3), ((XE.refl x b).u _ (by omega) hx).trans g2.X, Or.inl ⟨rfl, g3⟩⟩, fun c h1 _ => (failF_fr a 3).I h1⟩
    · have nq : ¬ nI q = -1 := fun z => absurd (congrArg Int32.toInt z) (by rw [nI_toInt (by omega)]; intro y; have : ((-1 : Int32).toInt) = -1 := rfl; omega)
      rw [c, if_neg nq, if_neg (show ¬ nI q < 0 from fun z => by have := (nI_ltI (b := 0) (by omega) (by omega)).mp z; omega)]
      have k3 : RD T L n (uI a (y + 3) e (nI q)) (uI b 114 (x + 1) (nI q)) := (k2 (nI q)).keep (hI_uI_n' (by omega)) (fun c hc => hI_uI_n' (by omega)) rfl rfl rfl
      obtain ⟨b', g1, g2, g3⟩ := k3.adv
      rw [g1, bd1_s]
      refine ⟨b', rfl, ⟨Or.inr rfl, ((CE.refl y e a).u _ (by omega) (by omega)).trans (CE.fr (advF_fr _)), ((XE.refl x b).u _ (by omega) hx).trans g2.X, Or.inr ⟨rfl, g3, q, hq, ?_, ?_, fun j hj => ?_⟩⟩, fun c h1 h2 => ?_⟩
      · rw [(advF_fr _).I (by omega), hI_uI_s]
      · rw [g2.I (by decide), hI_uI_s]
      · rw [g2.I (by decide), hI_uI_n (by omega)]
      · rw [(advF_fr _).I h1, hI_uI_n' h2]
  · rw [n2, bd2_s, if_pos rfl, if_neg n1]
    obtain ⟨b', g1, g2, g3⟩ := k.fail (w := 2) (by decide) (by decide)
    rw [show f_X12_fails b 2 = some (0, b') from g1, bd2_s, gdv_t (Or.inl rfl)]
    exact ⟨b', rfl, ⟨Or.inl rfl, CE.fr (failF_fr a 2), g2.X, Or.inl ⟨rfl, g3⟩⟩, fun c h1 _ => (failF_fr a 2).I h1⟩
