/-! ===== alike: a year lived: the class's heap beside the reference's ===== -/
/-- the class's cells of one heap, the reference's of another -/
def mx (a b : HP) : HP := (a.1, fun c => if c < 113 then hI a c else hI b c, fun c => if c < 113 then hL a c else hL b c, hR a)
theorem mxI_lo (a b : HP) {c : Nat} (h : c < 113) : hI (mx a b) c = hI a c := if_pos h
theorem mxI_hi (a b : HP) {c : Nat} (h : 113 ≤ c) : hI (mx a b) c = hI b c := if_neg (by omega)
theorem mxL_lo (a b : HP) {c : Nat} (h : c < 113) : hL (mx a b) c = hL a c := if_pos h
theorem mxL_hi (a b : HP) {c : Nat} (h : 113 ≤ c) : hL (mx a b) c = hL b c := if_neg (by omega)
theorem mx_self (h : HP) : mx h h = h := HP_ext rfl (funext fun c => by
  by_cases q : c < 113
  · exact mxI_lo _ _ q
  · exact mxI_hi _ _ (by omega)) (funext fun c => by
  by_cases q : c < 113
  · exact mxL_lo _ _ q
  · exact mxL_hi _ _ (by omega)) rfl
theorem mx_nx {t : Nat} (ht : t = 79 ∨ t = 96) (a b : HP) : nxF (mx a b) t = nxF a t ∧ uT (mx a b) t = uT a t ∧ bornF (mx a b) t = bornF a t ∧ staysF (mx a b) t = staysF a t := by
  have e1 : bornF (mx a b) t = bornF a t := by unfold bornF; rw [mxI_lo _ _ (by omega), mxI_lo _ _ (by omega)]
  have e2 : staysF (mx a b) t = staysF a t := by unfold staysF; rw [mxI_lo _ _ (by omega), mxI_lo _ _ (by omega)]
  have e3 : hI (mx a b) (t + 1) = hI a (t + 1) := mxI_lo _ _ (by omega)
  refine ⟨funext fun x => ?_, funext fun x => ?_, e1, e2⟩
  · unfold nxF; rw [e1, e2, e3]
  · unfold uT; rw [e1, e2, e3]
def LT (t w r m c : Nat) (j : Bool) (h : HP) : Prop := TW h t w r m c j ∧ RtS h t 0 ∧ Ry h (t + 3) 0 w r m
/-- what a life changes, in the class and in the reference -/
def FC (t v : Nat) (a a' : HP) : Prop := SR a a' ∧ (∀ b k, ¬ (b = t ∧ 12 ≤ k ∧ k ≤ 15) → b ≠ t + 15 → b ≠ t + 1 + 1 → b ≠ t + 16 → b ≠ v → b ≠ v + 1 → hI a' b k = hI a b k) ∧ hL a' = hL a
def FM (b b' : HP) : Prop := SR b b' ∧ (∀ c k, ¬ (c = 114 ∧ (k = 3 ∨ k = 7 ∨ k = 8 ∨ k = 10 ∨ (32 ≤ k ∧ k < 42))) → c ≠ 122 → c ≠ 127 → c ≠ 128 → ¬ (c = 113 ∧ (k = 32 ∨ k = 33)) → hI b' c k = hI b c k) ∧ hL b' = hL b
theorem FC.refl (t v : Nat) (a : HP) : FC t v a a := ⟨SR.refl a, fun _ _ _ _ _ _ _ _ => rfl, rfl⟩
theorem FC.trans {t v : Nat} {a b c : HP} (x : FC t v a b) (y : FC t v b c) : FC t v a c := ⟨x.1.trans y.1, fun b k h1 h2 h3 h4 h5 h6 => (y.2.1 b k h1 h2 h3 h4 h5 h6).trans (x.2.1 b k h1 h2 h3 h4 h5 h6), y.2.2.trans x.2.2⟩
theorem FC.I {t v : Nat} {a b : HP} (x : FC t v a b) (p k : Nat) (z : Int32) (h : (p = t ∧ 12 ≤ k ∧ k ≤ 15) ∨ p = t + 15 ∨ p = t + 1 + 1 ∨ p = t + 16 ∨ p = v ∨ p = v + 1) : FC t v a (uI b p k z) := ⟨x.1.I _ _ _, fun q i h1 h2 h3 h4 h5 h6 => by
  rw [hI_uI_n (by omega)]; exact x.2.1 q i h1 h2 h3 h4 h5 h6, x.2.2⟩
theorem FC.rI {t v : Nat} {a b : HP} (x : FC t v a b) (p : Nat) (f : Nat → Int32) (h : p = t + 15 ∨ p = t + 1 + 1 ∨ p = t + 16 ∨ p = v ∨ p = v + 1) : FC t v a (rI b p f) := ⟨x.1, fun q i h1 h2 h3 h4 h5 h6 => by
  rw [hI_rI_n _ _ (by omega)]; exact x.2.1 q i h1 h2 h3 h4 h5 h6, x.2.2⟩
theorem FM.refl (a : HP) : FM a a := ⟨SR.refl a, fun _ _ _ _ _ _ _ => rfl, rfl⟩
theorem FM.trans {a b c : HP} (x : FM a b) (y : FM b c) : FM a c := ⟨x.1.trans y.1, fun b k h1 h2 h3 h4 h5 => (y.2.1 b k h1 h2 h3 h4 h5).trans (x.2.1 b k h1 h2 h3 h4 h5), y.2.2.trans x.2.2⟩
theorem FM.I {a b : HP} (x : FM a b) (p k : Nat) (z : Int32) (h : (p = 114 ∧ (k = 3 ∨ k = 7 ∨ k = 8 ∨ k = 10 ∨ (32 ≤ k ∧ k < 42))) ∨ p = 122 ∨ p = 127 ∨ p = 128 ∨ (p = 113 ∧ (k = 32 ∨ k = 33))) : FM a (uI b p k z) := ⟨x.1.I _ _ _, fun q i h1 h2 h3 h4 h5 => by
  rw [hI_uI_n (by omega)]; exact x.2.1 q i h1 h2 h3 h4 h5, x.2.2⟩
theorem FM.ln {a b : HP} (x : FM a b) (w r : Nat) (j : Bool) : FM a (lnH b w r j) := ⟨x.1, fun q i h1 h2 h3 h4 h5 => by
  rw [lnH_I _ _ _ _ h2]; exact x.2.1 q i h1 h2 h3 h4 h5, x.2.2⟩
theorem mxE {t v : Nat} (ht : t = 79 ∨ t = 96) (hv : v = 75 ∨ v = 77) {a a' b b' : HP} (C : FC t v a a') (M : FM b b') {p k : Nat} (q : cnT t p k) (n1 : ¬ (p = t ∧ 12 ≤ k ∧ k ≤ 15)) (n2 : p ≠ t + 15) (n3 : ¬ (p = 114 ∧ (k = 3 ∨ k = 7 ∨ k = 8 ∨ k = 10 ∨ (32 ≤ k ∧ k < 42)))) : hI (mx a' b') p k = hI (mx a b) p k := by
  have pb := cnT_b ht q
  by_cases lo : p < 113
  · rw [mxI_lo _ _ lo, mxI_lo _ _ lo]
    exact C.2.1 p k n1 n2 (by omega) (by omega) (by omega) (by omega)
  · rw [mxI_hi _ _ (by omega), mxI_hi _ _ (by omega)]
    exact M.2.1 p k n3 (by omega) (by omega) (by omega) (by omega)
theorem mxEL {t v : Nat} {a a' b b' : HP} (C : FC t v a a') (M : FM b b') (p k : Nat) : hL (mx a' b') p k = hL (mx a b) p k := by
  by_cases lo : p < 113
  · rw [mxL_lo _ _ lo, mxL_lo _ _ lo, C.2.2]
  · rw [mxL_hi _ _ (by omega), mxL_hi _ _ (by omega), M.2.2]
theorem LT.up {t v w r m c : Nat} {j : Bool} (ht : t = 79 ∨ t = 96) (hv : v = 75 ∨ v = 77) {a a' b b' : HP} (L : LT t w r m c j (mx a b)) (C : FC t v a a') (M : FM b b') {x : Int32} (p1 : hI a' t 13 = x) (p2 : hI b' 114 3 = x) (ok : okX (mx a b) x)
    (my : (hI a' t 12 = hI a t 12 ∧ hI b' 114 10 = hI b 114 10) ∨ ∃ i, i < m ∧ hI a' t 12 = nI i ∧ hI b' 114 10 = nI i) (S : RtS (mx a' b') t 0) : LT t w r m c j (mx a' b') := by
  obtain ⟨T, -, Y⟩ := L
  have E := fun p k => mxE ht hv C M (p := p) (k := k)
  have R' : RtR (mx a' b') t 0 0 m c := by
    rcases my with ⟨m1, m2⟩ | ⟨i, hi, m1, m2⟩
    · refine T.2.1.k (fun p k q => ?_) (fun p k _ => mxEL C M p k)
      by_cases z1 : p = t ∧ k = 12
      · obtain ⟨rfl, rfl⟩ := z1
        rw [mxI_lo _ _ (by omega), mxI_lo _ _ (by omega)]; exact m1
      · by_cases z2 : p = 114 ∧ k = 10
        · obtain ⟨rfl, rfl⟩ := z2
          rw [mxI_hi _ _ (by omega), mxI_hi _ _ (by omega)]; exact m2
        · exact E p k (Or.inr (Or.inl q)) (by unfold cnR at q; omega) (by unfold cnR at q; omega) (by unfold cnR at q; omega)
    · refine RtR.mayor ht T.2.1 (fun p k q h1 h2 => E p k (Or.inr (Or.inl q)) (by unfold cnR at q; omega) (by unfold cnR at q; omega) (by unfold cnR at q; omega)) (fun p k _ => mxEL C M p k) hi ?_ ?_
      · rw [mxI_lo _ _ (by omega)]; exact m1
      · rw [mxI_hi _ _ (by omega)]; exact m2
  have H' : RtH (mx a' b') t 0 w r := T.1.pic (x := x) (fun p k q h1 h2 => E p k (Or.inl q) (by unfold cnH at q; omega) (by unfold cnH at q; omega) (by unfold cnH at q; omega)) (by omega) (by rw [mxI_lo _ _ (by omega)]; exact p1) (by rw [mxI_hi _ _ (by omega)]; exact p2) ok.1 ok.2
  have e1 : ∀ k, k < 9 → hI (mx a' b') (t + 1) k = hI (mx a b) (t + 1) k := fun k hk => E _ _ (Or.inl (Or.inl ⟨rfl, hk⟩)) (by omega) (by omega) (by omega)
  refine ⟨⟨H', R', ?_, ?_, T.2.2.2.2⟩, S, Y.k (fun p k q => E p k (Or.inr (Or.inr (Or.inr q))) (by unfold cnY at q; omega) (by unfold cnY at q; omega) (by unfold cnY at q; omega))⟩
  · obtain ⟨⟨w1, w5, h0⟩, hr, h2, hb⟩ := T.2.2.1
    exact ⟨⟨w1, w5, by rw [e1 0 (by decide)]; exact h0⟩, hr, by rw [e1 2 (by decide)]; exact h2, fun i hi => by rw [e1 3 (by decide), e1 7 (by decide), e1 8 (by decide)]; exact hb i hi⟩
  · rw [E 114 9 (Or.inl (Or.inr (Or.inr ⟨rfl, Or.inr rfl⟩))) (by omega) (by omega) (by omega)]; exact T.2.2.2.1
theorem LT.ok {t w r m c : Nat} {j : Bool} {h : HP} (L : LT t w r m c j h) : okX h (hI h 114 3) := ⟨L.1.pic, fun _ _ _ => rfl⟩
/-- what became of it stays -/
theorem LT.st {t w r m c : Nat} {j : Bool} (ht : t = 79 ∨ t = 96) {a a' b b' : HP} (L : LT t w r m c j (mx a b)) (h1 : ∀ k, k = 14 ∨ k = 15 → hI a' t k = hI a t k) (h2 : hI a' (t + 15) = hI a (t + 15)) (h3 : ∀ k, k = 7 ∨ k = 8 ∨ (32 ≤ k ∧ k < 42) → hI b' 114 k = hI b 114 k) : RtS (mx a' b') t 0 := by
  refine L.2.1.k (fun p k q => ?_)
  unfold cnS at q
  rcases q with ⟨rfl, q⟩ | rfl | ⟨rfl, q⟩
  · rw [mxI_lo _ _ (by omega), mxI_lo _ _ (by omega)]; exact h1 k q
  · rw [mxI_lo _ _ (by omega), mxI_lo _ _ (by omega), h2]
  · rw [mxI_hi _ _ (by omega), mxI_hi _ _ (by omega)]; exact h3 k q
/-- counters but the missed ones -/
def CT0 (v : Nat) (a b : HP) : Prop := hI a v 4 = hI b 128 1 ∧ hI a v 5 = hI b 128 2 ∧ hI a v 6 = hI b 128 3 ∧ hI a v 7 = hI b 128 4 ∧ ∃ s, s < 65536 ∧ hI a v 1 = nI s ∧ hI b 113 32 = nI s
/-- a step that is no block: both do it -/
def SP (t v w r m c : Nat) (j : Bool) (a b : HP) (k : Nat) : Prop := ∃ a' b' q, f_X2_doStep a v t (nI k) = some (nI (k + 1), a') ∧ f_X12_does b (nI (44 + 6 * k)) = some (bI q, b') ∧ FC t v a a' ∧ FM b b' ∧ LT t w r m c j (mx a' b') ∧ CT0 v a' b' ∧
  hI a' v 3 = hI a v 3 + bI (!q) ∧ hI b' 128 0 = hI b 128 0 ∧ hI a' (v + 1) = hI a (v + 1) ∧ hI b' 127 = hI b 127 ∧ hI a' v 2 = hI a v 2 ∧ hI b' 113 33 = hI b 113 33 ∧ hI b' 128 4 = hI b 128 4
theorem dn_lp {h g0 : HP} {t w r m c : Nat} {j : Bool} (ht : t = 79 ∨ t = 96) (T : TW h t w r m c j) (ok : okX h (hI g0 114 3)) (sm : ∀ k, (k ≤ 2 ∨ k = 4 ∨ k = 9 ∨ k = 10 ∨ (12 ≤ k ∧ k < 20)) → hI g0 114 k = hI h 114 k) {N : Nat} (hN : N < 2 ^ 31) : ∀ d k n, k + d = N → d < n → ∀ G, ntI g0 (nxF h t) (uT h t) k G →
    ∃ G', f_X12_does_54 n (nI N) (nI k) G = some (1, uI G' 128 1 (hI G' 128 1 + nI N)) ∧ ntI g0 (nxF h t) (uT h t) N G'
  | d, k, 0, _, z, _, _ => absurd z (by omega)
  | 0, k, n + 1, e, _, G, I => by
    have : k = N := by omega
    subst this
    refine ⟨G, ?_, I⟩
    unfold f_X12_does_54
    rw [if_pos (by rw [nI_leI (by omega) (by omega)]; omega), ltv_e]
  | d + 1, k, n + 1, e, z, G, I => by
    obtain ⟨G1, e1, I1⟩ := ntM_step ht T ok sm I
    obtain ⟨G', e', I'⟩ := dn_lp ht T ok sm hN d (k + 1) n (by omega) (by omega) G1 I1
    refine ⟨G', ?_, I'⟩
    unfold f_X12_does_54
    rw [if_neg (by rw [nI_leI (by omega) (by omega)]; omega), e1, bd1_s]
    simp only [ltv_e, nI_1]
    exact e'
theorem ix6 (k i : Nat) : (nI (44 + 6 * k) + nI i) = nI (44 + 6 * k + i) := nI_add _ _
/-- what an entry's words are, read -/
theorem ds_rd {a : HP} {t v k : Nat} (hk : k < 60) {W x : Int32} (e1 : hI a (t + 3 + 1) k = W) (e3 : hI a (t + 3 + 3) k = x) {q : Option (Int32 × HP)} (h : (
  if W = 9 then
  (bd1 (f_X5_passNights a t x) fun h7 =>
  ltv (uI h7 v 4 ((hI h7 v 4) + x)) fun g8 =>
  f_X2_doStep_203 v t (nI k) g8)
  else
  if W = 10 then
  (gdi (nI k) 60 <|
  bd1 (f_X2_turnLamp a v t x (hI a (t + 3 + 4) k)) fun h12 =>
  f_X2_doStep_203 v t (nI k) h12)
  else
  if W = 11 then
  (ltv (uI a t 12 x) fun g14 =>
  f_X2_doStep_203 v t (nI k) g14)
  else
  if W = 12 then
  (bd2 (f_X5_holdElection a t) fun r18 h17 =>
  if r18 = (0 : Int32) then
  (ltv (uI h17 v 3 ((hI a v 3) + 1)) fun g20 =>
  f_X2_doStep_203 v t (nI k) g20)
  else
  ltv (uI h17 v 3 ((hI a v 3) + 0)) fun g21 =>
  f_X2_doStep_203 v t (nI k) g21)
  else
  if W = 13 then
  (bd1 (f_X2_blow a v t x) fun h24 =>
  f_X2_doStep_203 v t (nI k) h24)
  else
  if W = 14 then
  (bd1 (f_X2_bear a v t) fun h27 =>
  f_X2_doStep_203 v t (nI k) h27)
  else
  if W = 15 then
  (bd2 (f_X2_isTrue a v t (nI k)) fun r31 h30 =>
  if r31 = (0 : Int32) then
  (gdi (nI k) 60 <|
  some (((hI h30 (t + 3 + 5) k) + 1), h30))
  else
  some ((nI k + 1), h30))
  else
  if W = 16 then
  (some ((hI a (t + 3) 6), a))
  else
  if W = 17 then
  (some ((hI a (t + 3) 6), a))
  else
  if W = 18 then
  (some ((hI a (t + 3) 6), a))
  else
  if W = 19 then
  (gdi (nI k) 60 <|
  ltv (uI a (v + 1) k x) fun g39 =>
  f_X2_doStep_203 v t (nI k) g39)
  else
  some ((hI a (t + 3) 6), a)) = q) : f_X2_doStep a v t (nI k) = q := by
  unfold f_X2_doStep
  rw [gdi_nI hk (by decide), ltv_e, gdi_nI hk (by decide), ltv_e, nI_clamp (by omega), e1, e3]
  exact h
theorem dm_rd {b : HP} {k : Nat} (hk : k < 60) {W x : Int32} (e1 : hI b 114 (44 + 6 * k) = W) (e3 : hI b 114 (45 + 6 * k) = x) {q : Option (Int32 × HP)} (h : (
  if W = 9 then
  (f_X12_does_54 FU x 0 b)
  else
  if W = 10 then
  (bd2 (f_X12_wrongLamp b x (hI b 114 (46 + 6 * k))) fun r10 h9 =>
  if r10 ≤ (0 : Int32) then
  (gdi (nI (46 + 6 * k)) 2460 <|
  bd2 (f_X12_bitOf h9 x (hI h9 114 (46 + 6 * k))) fun r15 h14 =>
  ltv (uI h14 114 3 ((hI h9 114 3) ^^^ r15)) fun g16 =>
  some (1, g16))
  else
  some (0, h9))
  else
  if W = 11 then
  (ltv (uI b 114 10 x) fun g18 =>
  some (1, g18))
  else
  if W = 12 then
  (bd2 (f_X12_elects b) fun r22 h21 =>
  gdv (is01 r22) <|
  some (r22, h21))
  else
  if W = 13 then
  (bd2 (f_X12_storms b x) fun r27 h26 =>
  gdv (is01 r27) <|
  some (r27, h26))
  else
  if W = 14 then
  (bd2 (f_X12_isBorn b) fun r32 h31 =>
  gdv (is01 r32) <|
  some (r32, h31))
  else
  some (1, b)) = q) : f_X12_does b (nI (44 + 6 * k)) = q := by
  unfold f_X12_does
  have x1 : nI (44 + 6 * k) + 1 = nI (45 + 6 * k) := by rw [nI_1, show 44 + 6 * k + 1 = 45 + 6 * k by omega]
  have x2 : nI (44 + 6 * k) + 2 = nI (46 + 6 * k) := by rw [show (2 : Int32) = nI 2 from rfl, nI_add, show 44 + 6 * k + 2 = 46 + 6 * k by omega]
  rw [x1, x2, gdi_nI (by omega) (by decide), ltv_e, gdi_nI (by omega) (by decide), ltv_e, nI_clamp (by omega), nI_clamp (by omega), nI_clamp (by omega), e1, e3]
  rw [gdi_nI (show 46 + 6 * k < 2460 by omega) (by decide)]
  exact h
theorem sp_night {t v w r m c : Nat} {j : Bool} (ht : t = 79 ∨ t = 96) (hv : v = 75 ∨ v = 77) {a b : HP} (L : LT t w r m c j (mx a b)) (CT : CT0 v a b) {k f : Nat} (hk : k < 60) (hf : f ≤ 99) (e1 : hI a (t + 3 + 1) k = 9) (e2 : hI b 114 (44 + 6 * k) = 9) (e3 : hI a (t + 3 + 3) k = nI f) (e4 : hI b 114 (45 + 6 * k) = nI f) : SP t v w r m c j a b k := by
  obtain ⟨T, S, Y⟩ := id L
  have r4 : (hI a t 10).toInt ≤ 4 := by have := T.r4; rw [mxI_lo _ _ (by omega)] at this; exact this
  have ep : hI a t 13 = hI b 114 3 := by have := T.pic0; rw [mxI_lo _ _ (by omega), mxI_hi _ _ (by omega)] at this; exact this
  have es := S.n
  rw [mxI_lo _ _ (by omega), mxI_hi _ _ (by omega), mxI_lo _ _ (by omega)] at es
  obtain ⟨n1, n2, -, -⟩ := mx_nx ht a b
  obtain ⟨g', c1⟩ := ns_e (h := a) (t := t) r4 (m := f) (by omega)
  obtain ⟨A1, eA⟩ : ∃ A1, A1 = uI (TH a t (itN (nxF a t) f (hI a t 13)) (hI a t 15 + oilN (nxF a t) f (hI a t 13)) (fun i => hI a (t + 15) i ||| seenN (nxF a t) (uT a t) f (hI a t 13) i) g') t 14 (hI a t 14 + nI f) := ⟨_, rfl⟩
  rw [← eA] at c1
  have okb : okX (mx a b) (hI b 114 3) := by have := L.ok; rw [mxI_hi (c := 114) _ _ (by omega)] at this; exact this
  obtain ⟨B1, c2, i1, i2, i3, i4, i5, i6, i7⟩ := dn_lp ht T (g0 := b) okb (fun k _ => by rw [mxI_hi _ _ (by omega)]) (N := f) (by omega) f 0 FU (by omega) (FU_gt (by omega)) b ⟨SR.refl _, fun _ _ _ => rfl, rfl, rfl, (Int32.add_zero _).symm, (Int32.add_zero _).symm, fun q _ => (or0' _).symm⟩
  rw [n1] at i4 i5 i7
  rw [n2] at i7
  have At : ∀ p q, p ≠ t → p ≠ t + 15 → p ≠ t + 1 + 1 → hI A1 p q = hI a p q := fun p q h1 h2 h3 => by rw [eA, hI_uI_n (by omega), TH_o _ _ _ _ h1 h2 h3]
  have A13 : hI A1 t 13 = itN (nxF a t) f (hI a t 13) := by rw [eA, hI_uI_n (by omega), TH_t]; rfl
  have A14 : hI A1 t 14 = hI a t 14 + nI f := by rw [eA, hI_uI_s]
  have A15 : hI A1 t 15 = hI a t 15 + oilN (nxF a t) f (hI a t 13) := by rw [eA, hI_uI_n (by omega), TH_t]; rfl
  have A12 : ∀ q, ¬ (12 < q ∧ q ≤ 15) → hI A1 t q = hI a t q := fun q hq => by rw [eA, hI_uI_n (by omega), TH_t]; unfold upd; rw [if_neg (by omega), if_neg (by omega)]
  have As : hI A1 (t + 15) = fun i => hI a (t + 15) i ||| seenN (nxF a t) (uT a t) f (hI a t 13) i := by rw [eA, hI_uI_n' (by omega), TH_s]
  have C : FC t v a (uI A1 v 4 (hI A1 v 4 + nI f)) := by
    refine FC.I ⟨by rw [eA]; exact ⟨rfl, rfl⟩, fun p q h1 h2 h3 h4 h5 h6 => ?_, by rw [eA]; rfl⟩ v 4 _ (by omega)
    by_cases pt : p = t
    · subst pt; exact A12 q (by omega)
    · exact At p q pt h2 h3
  have M : FM b (uI B1 128 1 (hI B1 128 1 + nI f)) := by
    refine FM.I ⟨i1, fun p q h1 h2 h3 h4 h5 => i2 p q (by unfold ntC; omega), i3⟩ 128 1 _ (by omega)
  have B3 : ∀ q, hI (uI B1 128 1 (hI B1 128 1 + nI f)) 114 q = hI B1 114 q := fun q => by rw [hI_uI_n (by omega)]
  have A3 : ∀ p q, p ≠ v → hI (uI A1 v 4 (hI A1 v 4 + nI f)) p q = hI A1 p q := fun p q hp => by rw [hI_uI_n (by omega)]
  obtain ⟨k1, k2, k3, k4, s, k5, k6, k7⟩ := CT
  have Av : ∀ q, hI A1 v q = hI a v q := fun q => At v q (by omega) (by omega) (by omega)
  have Bn : ∀ p q, ¬ ntC p q → hI B1 p q = hI b p q := i2
  refine ⟨uI A1 v 4 (hI A1 v 4 + nI f), uI B1 128 1 (hI B1 128 1 + nI f), true, ds_rd hk e1 e3 ?_, dm_rd hk e2 e4 ?_, C, M, ?_, ⟨?_, ?_, ?_, ?_, s, k5, ?_, ?_⟩, ?_, ?_, ?_, ?_, ?_, ?_, ?_⟩
  · rw [if_pos rfl, c1, bd1_s, ltv_e]
    unfold f_X2_doStep_203
    rw [nI_1]
  · rw [if_pos rfl]
    exact c2
  · refine L.up ht hv C M (x := itN (nxF a t) f (hI a t 13)) ?_ ?_ ?_ (Or.inl ⟨?_, ?_⟩) ?_
    · rw [A3 _ _ (by omega)]; exact A13
    · rw [B3, i4, ep]
    · have := okX.it T f okb
      rw [n1, ← ep] at this; exact this
    · rw [A3 _ _ (by omega)]; exact A12 12 (by omega)
    · rw [B3]; exact Bn 114 10 (by unfold ntC; omega)
    · unfold RtS
      rw [mxI_lo _ _ (by omega), mxI_hi _ _ (by omega), mxI_lo _ _ (by omega)]
      refine ⟨⟨?_, ?_⟩, fun i hi => ⟨?_, ?_⟩⟩
      · rw [A3 _ _ (by omega), A14, show 0 + 7 = 7 from rfl, B3, i6, es.1.1]
      · rw [A3 _ _ (by omega), A15, show 0 + 8 = 8 from rfl, B3, i5, es.1.2, ep]
      · rw [A3 _ _ (by omega), As, show 0 + 32 + i = 32 + i by omega, B3, i7 i hi]
        show hI a (t + 15) i ||| _ = _
        rw [(es.2 i hi).1, ep]
      · obtain ⟨n, hn, en⟩ := (es.2 i hi).2
        obtain ⟨n2, hn2, en2⟩ := seen_4 a t i f (hI b 114 3)
        obtain ⟨n3, hn3, en3⟩ := or4 n n2 hn hn2
        refine ⟨n3, hn3, ?_⟩
        rw [show 0 + 32 + i = 32 + i by omega, B3, i7 i hi, en, en2, en3]
  · rw [hI_uI_s, hI_uI_s, Av, Bn 128 1 (by unfold ntC; omega), k1]
  · rw [hI_uI_n (by omega), hI_uI_n (by omega), Av, Bn 128 2 (by unfold ntC; omega), k2]
  · rw [hI_uI_n (by omega), hI_uI_n (by omega), Av, Bn 128 3 (by unfold ntC; omega), k3]
  · rw [hI_uI_n (by omega), hI_uI_n (by omega), Av, Bn 128 4 (by unfold ntC; omega), k4]
  · rw [hI_uI_n (by omega), Av, k6]
  · rw [hI_uI_n (by omega), Bn 113 32 (by unfold ntC; omega), k7]
  · rw [hI_uI_n (by omega), Av]; show _ = _ + 0; rw [Int32.add_zero]
  · rw [hI_uI_n (by omega), Bn 128 0 (by unfold ntC; omega)]
  · funext q; rw [hI_uI_n (by omega)]; exact At (v + 1) q (by omega) (by omega) (by omega)
  · funext q; rw [hI_uI_n (by omega)]; exact Bn 127 q (by unfold ntC; omega)
  · rw [hI_uI_n (by omega), Av]
  · rw [hI_uI_n (by omega), Bn 113 33 (by unfold ntC; omega)]
  · rw [hI_uI_n (by omega), Bn 128 4 (by unfold ntC; omega)]
