/-! ===== alike: a year lived: turns, mayors, elections, storms, births ===== -/
theorem okX.at {h : HP} {x y : Int32} (ok : okX h x) {p : Nat} (hp : bt (hI h 114 2) p = true) (hs : bt (hI h 114 4) p = false) (e : ∀ i, i < 32 → i ≠ p → bt y i = bt x i) : okX h y := by
  refine ⟨fun i hi b => ?_, fun i hi b => ?_⟩
  · by_cases q : i = p
    · rw [q]; exact hp
    · rw [e i hi q] at b; exact ok.1 i hi b
  · by_cases q : i = p
    · rw [q, hs] at b; cases b
    · rw [e i hi q]; exact ok.2 i hi b
/-- the picture and the counters may have changed, nothing else -/
def QR (t v : Nat) (m0 a0 b0 a b : HP) : Prop := FC t v a0 a ∧ FM b0 b ∧ (∃ x, hI a t 13 = x ∧ hI b 114 3 = x ∧ okX m0 x) ∧ CT0 v a b ∧ (∀ k, k ≠ 13 → hI a t k = hI a0 t k) ∧ hI a (t + 15) = hI a0 (t + 15) ∧ (∀ k, k ≠ 3 → hI b 114 k = hI b0 114 k) ∧
  (hI a v 2 = hI a0 v 2 ∧ hI b 113 33 = hI b0 113 33 ∧ hI b 128 0 = hI b0 128 0 ∧ hI a (v + 1) = hI a0 (v + 1) ∧ hI b 127 = hI b0 127 ∧ hI b 128 4 = hI b0 128 4)
theorem LT.e13 {t w r m c : Nat} {j : Bool} (ht : t = 79 ∨ t = 96) {a b : HP} (L : LT t w r m c j (mx a b)) : hI a t 13 = hI b 114 3 := by
  have := L.1.pic0; rw [mxI_lo _ _ (by omega), mxI_hi _ _ (by omega)] at this; exact this
theorem QR.refl {t v w r m c : Nat} {j : Bool} (ht : t = 79 ∨ t = 96) {a b : HP} (L : LT t w r m c j (mx a b)) (CT : CT0 v a b) : QR t v (mx a b) a b a b :=
  ⟨FC.refl _ _ _, FM.refl _, ⟨hI b 114 3, L.e13 ht, rfl, by have := L.ok; rw [mxI_hi (c := 114) _ _ (by omega)] at this; exact this⟩, CT, fun _ _ => rfl, rfl, fun _ _ => rfl, rfl, rfl, rfl, rfl, rfl, rfl⟩
theorem QR.sp {t v w r m c : Nat} {j : Bool} (ht : t = 79 ∨ t = 96) (hv : v = 75 ∨ v = 77) {a0 b0 a b : HP} (L : LT t w r m c j (mx a0 b0)) (Q : QR t v (mx a0 b0) a0 b0 a b) {k : Nat} {q : Bool} (e1 : f_X2_doStep a0 v t (nI k) = some (nI (k + 1), a)) (e2 : f_X12_does b0 (nI (44 + 6 * k)) = some (bI q, b)) (e3 : hI a v 3 = hI a0 v 3 + bI (!q)) : SP t v w r m c j a0 b0 k := by
  obtain ⟨C, M, ⟨x, x1, x2, x3⟩, CT, A, As, B, s1, s2, s3, s4, s5, s6⟩ := Q
  exact ⟨a, b, q, e1, e2, C, M, L.up ht hv C M x1 x2 x3 (Or.inl ⟨A 12 (by omega), B 10 (by omega)⟩) (L.st ht (fun k hk => A k (by omega)) As (fun k hk => B k (by omega))), CT, e3, s3, s4, s5, s1, s2, s6⟩
theorem free_hs {t w r m c : Nat} {j : Bool} (ht : t = 79 ∨ t = 96) {a b : HP} (L : LT t w r m c j (mx a b)) {p : Nat} (hp : p < 32) : bt (hI a (t + 1) 5) p = (bt (hI b 114 2) p && !bt (hI b 114 4) p) := by
  have := (L.1.1.n.2.2.2.2.2.1 p hp).1
  rw [mxI_lo _ _ (by omega), mxI_hi _ _ (by omega)] at this; exact this
theorem LT.wr {t w r m c : Nat} {j : Bool} (ht : t = 79 ∨ t = 96) {a b : HP} (L : LT t w r m c j (mx a b)) : (1 ≤ w ∧ w ≤ 5 ∧ hI b 114 0 = nI w ∧ hI a (t + 1) 0 = nI w) ∧ (1 ≤ r ∧ r ≤ 6 ∧ hI b 114 1 = nI r ∧ hI a (t + 1) 1 = nI r) := by
  obtain ⟨x, y, -⟩ := L.1.1.n
  rw [mxI_hi (c := 114) _ _ (by omega), mxI_lo (c := t + 1) _ _ (by omega)] at x y
  exact ⟨x, y⟩
theorem sp_turn {t v w r m c : Nat} {j : Bool} (ht : t = 79 ∨ t = 96) (hv : v = 75 ∨ v = 77) {a b : HP} (L : LT t w r m c j (mx a b)) (CT : CT0 v a b) {k x z : Nat} (hk : k < 60) (hx : x < w) (hz : z < r) (e1 : hI a (t + 3 + 1) k = 10) (e2 : hI b 114 (44 + 6 * k) = 10) (e3 : hI a (t + 3 + 3) k = nI x) (e4 : hI b 114 (45 + 6 * k) = nI x) (e5 : hI a (t + 3 + 4) k = nI z) (e6 : hI b 114 (46 + 6 * k) = nI z) : SP t v w r m c j a b k := by
  obtain ⟨⟨w1, w5, hw, hw'⟩, r1, r6, hr, hr'⟩ := L.wr ht
  have h30 := wr_le w5 r6
  have hpl := pl_lt hx hz
  have fb := free_hs ht L (p := z * w + x) (by omega)
  obtain ⟨C, M, ⟨y, y1, y2, y3⟩, CT', A, As, B, s1, s2, s3, s4, s5, s6⟩ := QR.refl ht L CT
  obtain ⟨k1, k2, k3, k4, s, k5, k6, k7⟩ := CT
  have cl : f_X2_turnLamp a v t (nI x) (nI z) = some (if bt (hI a (t + 1) 5) (z * w + x) = true then uI a t 13 (hI a t 13 ^^^ bitI (z * w + x)) else uI a v 3 (hI a v 3 + 1)) := by
    unfold f_X2_turnLamp
    rw [plc_e w5 r6 hw' hr' hx hz, bd2_s, ltv_e, show (1 : Int32) <<< (nI (z * w + x) &&& 31) = bitI (z * w + x) from rfl]
    cases q : bt (hI a (t + 1) 5) (z * w + x)
    · rw [if_pos ((and_bit (by omega)).mpr q), ltv_e, if_neg (by decide)]
    · rw [if_neg (fun y => by rw [(and_bit (by omega)).mp y] at q; cases q), ltv_e, if_pos rfl]
  cases q : bt (hI a (t + 1) 5) (z * w + x)
  · rw [q, if_neg (by decide)] at cl
    refine QR.sp (a := uI a v 3 (hI a v 3 + 1)) (b := b) (q := false) ht hv L ⟨C.I v 3 _ (by omega), M, ⟨y, by rw [hI_uI_n (by omega)]; exact y1, y2, y3⟩, ⟨by rw [hI_uI_n (by omega)]; exact k1, by rw [hI_uI_n (by omega)]; exact k2, by rw [hI_uI_n (by omega)]; exact k3, by rw [hI_uI_n (by omega)]; exact k4, s, k5, by rw [hI_uI_n (by omega)]; exact k6, k7⟩, fun k hk => by rw [hI_uI_n (by omega)], by rw [hI_uI_n' (by omega)], B, by rw [hI_uI_n (by omega)], rfl, rfl, by rw [hI_uI_n' (by omega)], rfl, rfl⟩ (ds_rd hk e1 e3 ?_) (dm_rd hk e2 e4 ?_) ?_
    · rw [if_neg (by decide), if_pos rfl, gdi_nI hk (by decide), e5, cl, bd1_s]
      unfold f_X2_doStep_203; rw [nI_1]
    · rw [if_neg (by decide), if_pos rfl, e6, wl_in w5 r6 hw hr hx hz, ← fb, q, if_neg (by decide), bd2_s, if_neg (by decide)]; rfl
    · rw [hI_uI_s]; rfl
  · rw [q, if_pos rfl] at cl
    have hs : bt (hI b 114 2) (z * w + x) = true ∧ bt (hI b 114 4) (z * w + x) = false := by
      rw [q] at fb
      revert fb
      cases bt (hI b 114 2) (z * w + x) <;> cases bt (hI b 114 4) (z * w + x) <;> decide
    refine QR.sp (a := uI a t 13 (hI a t 13 ^^^ bitI (z * w + x))) (b := uI b 114 3 (hI b 114 3 ^^^ bitI (z * w + x))) (q := true) ht hv L ⟨C.I t 13 _ (by omega), M.I 114 3 _ (by omega), ⟨y ^^^ bitI (z * w + x), by rw [hI_uI_s, y1], by rw [hI_uI_s, y2], y3.at (p := z * w + x) (by rw [mxI_hi _ _ (by omega)]; exact hs.1) (by rw [mxI_hi _ _ (by omega)]; exact hs.2) (fun i hi ne => by rw [b_xor, bitI_b (by omega) hi, decide_eq_false ne, Bool.xor_false])⟩, ⟨by rw [hI_uI_n (by omega), hI_uI_n (by omega)]; exact k1, by rw [hI_uI_n (by omega), hI_uI_n (by omega)]; exact k2, by rw [hI_uI_n (by omega), hI_uI_n (by omega)]; exact k3, by rw [hI_uI_n (by omega), hI_uI_n (by omega)]; exact k4, s, k5, by rw [hI_uI_n (by omega)]; exact k6, by rw [hI_uI_n (by omega)]; exact k7⟩, fun k hk => by rw [hI_uI_n (by omega)], by rw [hI_uI_n' (by omega)], fun k hk => by rw [hI_uI_n (by omega)], by rw [hI_uI_n (by omega)], by rw [hI_uI_n (by omega)], by rw [hI_uI_n (by omega)], by rw [hI_uI_n' (by omega)], by rw [hI_uI_n' (by omega)], by rw [hI_uI_n (by omega)]⟩ (ds_rd hk e1 e3 ?_) (dm_rd hk e2 e4 ?_) ?_
    · rw [if_neg (by decide), if_pos rfl, gdi_nI hk (by decide), e5, cl, bd1_s]
      unfold f_X2_doStep_203; rw [nI_1]
    · rw [if_neg (by decide), if_pos rfl, e6, wl_in w5 r6 hw hr hx hz, ← fb, q, if_pos rfl, bd2_s, if_pos (by decide), gdi_nI (by omega) (by decide), e6, bit_e _ hw, bd2_s, ltv_e]; rfl
    · rw [hI_uI_n (by omega)]; show _ = _ + 0; rw [Int32.add_zero]
theorem sp_mayor {t v w r m c : Nat} {j : Bool} (ht : t = 79 ∨ t = 96) (hv : v = 75 ∨ v = 77) {a b : HP} (L : LT t w r m c j (mx a b)) (CT : CT0 v a b) {k q : Nat} (hk : k < 60) (hq : q < m) (e1 : hI a (t + 3 + 1) k = 11) (e2 : hI b 114 (44 + 6 * k) = 11) (e3 : hI a (t + 3 + 3) k = nI q) (e4 : hI b 114 (45 + 6 * k) = nI q) : SP t v w r m c j a b k := by
  obtain ⟨C, M, ⟨y, y1, y2, y3⟩, CT', A, As, B, s1, s2, s3, s4, s5, s6⟩ := QR.refl ht L CT
  obtain ⟨k1, k2, k3, k4, s, k5, k6, k7⟩ := CT
  have C' := C.I t 12 (nI q) (by omega)
  have M' := M.I 114 10 (nI q) (by omega)
  refine ⟨uI a t 12 (nI q), uI b 114 10 (nI q), true, ds_rd hk e1 e3 ?_, dm_rd hk e2 e4 ?_, C', M', L.up ht hv C' M' (x := y) (by rw [hI_uI_n (by omega)]; exact y1) (by rw [hI_uI_n (by omega)]; exact y2) y3 (Or.inr ⟨q, hq, hI_uI_s _ _ _ _, hI_uI_s _ _ _ _⟩) (L.st ht (fun k hk => by rw [hI_uI_n (by omega)]) (by rw [hI_uI_n' (by omega)]) (fun k hk => by rw [hI_uI_n (by omega)])), ⟨by rw [hI_uI_n (by omega), hI_uI_n (by omega)]; exact k1, by rw [hI_uI_n (by omega), hI_uI_n (by omega)]; exact k2, by rw [hI_uI_n (by omega), hI_uI_n (by omega)]; exact k3, by rw [hI_uI_n (by omega), hI_uI_n (by omega)]; exact k4, s, k5, by rw [hI_uI_n (by omega)]; exact k6, by rw [hI_uI_n (by omega)]; exact k7⟩, ?_, by rw [hI_uI_n (by omega)], by rw [hI_uI_n' (by omega)], by rw [hI_uI_n' (by omega)], by rw [hI_uI_n (by omega)], by rw [hI_uI_n (by omega)], by rw [hI_uI_n (by omega)]⟩
  · rw [if_neg (by decide), if_neg (by decide), if_pos rfl, ltv_e]
    unfold f_X2_doStep_203; rw [nI_1]
  · rw [if_neg (by decide), if_neg (by decide), if_pos rfl, ltv_e]; rfl
  · rw [hI_uI_n (by omega)]; show _ = _ + 0; rw [Int32.add_zero]
theorem elC2 {H : HP} {t m c : Nat} (m4 : m ≤ 4) (c6 : c ≤ 6) (m3 : hI H t 10 = nI m) (c3 : hI H t 11 = nI c) {vf : Nat → Int32} (hvf : ∀ q, voF (chC H t m) (nI q) c = vf q) : ∀ d k n, k + d = m → d < n → f_X5_holdElection_26 t n (elF vf k).1 (elF vf k).2 (nI k) H = some (1, uI H t 12 (elF vf m).1)
  | d, k, 0, _, z => absurd z (by omega)
  | 0, k, n + 1, e, _ => by
    unfold f_X5_holdElection_26
    rw [m3, if_pos (by rw [nI_leI (by omega) (by omega)]; omega), show k = m by omega]; rfl
  | d + 1, k, n + 1, e, z => by
    have key := elC2 m4 c6 m3 c3 hvf d (k + 1) n (by omega) (by omega)
    unfold f_X5_holdElection_26 f_X5_countVotes
    rw [m3, c3, if_neg (by rw [nI_leI (by omega) (by omega)]; omega), gdi_nI (by omega) (by decide), gdi_nI (by omega) (by decide), nI_clamp (by omega), nI_clamp (by omega), hvf k, bd2_s]
    simp only [ltv_e, nI_1]
    rw [elF] at key
    by_cases q : (elF vf k).2 < vf k
    · rw [if_neg (by rw [Int32.le_iff_toInt_le]; rw [Int32.lt_iff_toInt_lt] at q; omega)]; rw [if_pos q] at key; exact key
    · rw [if_pos (by rw [Int32.le_iff_toInt_le]; rw [Int32.lt_iff_toInt_lt] at q; omega)]; rw [if_neg q] at key; exact key
theorem sp_elect {t v w r m c : Nat} {j : Bool} (ht : t = 79 ∨ t = 96) (hv : v = 75 ∨ v = 77) {a b : HP} (L : LT t w r m c j (mx a b)) (CT : CT0 v a b) {k : Nat} (hk : k < 60) (e1 : hI a (t + 3 + 1) k = 12) (e2 : hI b 114 (44 + 6 * k) = 12) : SP t v w r m c j a b k := by
  obtain ⟨C, M, ⟨y, y1, y2, y3⟩, CT', A, As, B, s1, s2, s3, s4, s5, s6⟩ := QR.refl ht L CT
  obtain ⟨k1, k2, k3, k4, s, k5, k6, k7⟩ := CT
  obtain ⟨⟨m4, m2, m3⟩, ⟨c6, c2, c3⟩, -, -, p5, -⟩ := L.1.2.1.n
  rw [mxI_hi _ _ (by omega)] at m2 c2
  rw [mxI_lo _ _ (by omega)] at m3 c3
  have z0 : ∀ {k}, k < 100 → (nI k = 0 ↔ k = 0) := fun {k} hk => nI0' (by omega)
  have none : f_X5_holdElection a t = some (0, a) → f_X12_elects b = some (0, b) → SP t v w r m c j a b k := fun h1 h2 => by
    refine QR.sp (a := uI a v 3 (hI a v 3 + 1)) (b := b) (q := false) ht hv L ⟨C.I v 3 _ (by omega), M, ⟨y, by rw [hI_uI_n (by omega)]; exact y1, y2, y3⟩, ⟨by rw [hI_uI_n (by omega)]; exact k1, by rw [hI_uI_n (by omega)]; exact k2, by rw [hI_uI_n (by omega)]; exact k3, by rw [hI_uI_n (by omega)]; exact k4, s, k5, by rw [hI_uI_n (by omega)]; exact k6, k7⟩, fun k hk => by rw [hI_uI_n (by omega)], by rw [hI_uI_n' (by omega)], B, by rw [hI_uI_n (by omega)], rfl, rfl, by rw [hI_uI_n' (by omega)], rfl, rfl⟩ (ds_rd hk e1 rfl ?_) (dm_rd hk e2 rfl ?_) ?_
    · rw [if_neg (by decide), if_neg (by decide), if_neg (by decide), if_pos rfl, h1, bd2_s, if_pos rfl, ltv_e]
      unfold f_X2_doStep_203; rw [nI_1]
    · rw [if_neg (by decide), if_neg (by decide), if_neg (by decide), if_pos rfl, h2, bd2_s, gdv_t (Or.inl rfl)]; rfl
    · rw [hI_uI_s]; rfl
  by_cases m0 : m = 0
  · refine none ?_ ?_
    · unfold f_X5_holdElection; rw [m3, if_pos ((z0 (by omega)).mpr m0)]
    · unfold f_X12_elects; rw [m2, if_pos ((z0 (by omega)).mpr m0)]
  · have m0' : ¬ nI m = 0 := fun e => m0 ((z0 (by omega)).mp e)
    by_cases c0 : c = 0
    · refine none ?_ ?_
      · unfold f_X5_holdElection; rw [m3, c3, if_neg m0', if_pos ((z0 (by omega)).mpr c0)]
      · unfold f_X12_elects; rw [m2, c2, if_neg m0', if_pos ((z0 (by omega)).mpr c0)]
    · have c0' : ¬ nI c = 0 := fun e => c0 ((z0 (by omega)).mp e)
      obtain ⟨f, ef⟩ := look_e a ht m4 m3
      obtain ⟨H, eH⟩ : ∃ H, H = rI (scr a t f) (t + 16) (lkP (hI a (t + 16)) (lookU a t) m) := ⟨_, rfl⟩
      rw [← eH] at ef
      have nH : ∀ p, p ≠ t + 16 → p ≠ t + 1 + 1 → hI H p = hI a p := fun p h1 h2 => by rw [eH, lk_n _ _ h1 h2]
      have eu : lookU (mx a b) t = lookU a t := by
        funext i; unfold lookU
        rw [mxI_lo _ _ (by omega), mxI_lo _ _ (by omega), mxI_lo _ _ (by omega), mxI_lo _ _ (by omega)]
      have vf : ∀ q, voF (chC H t m) (nI q) c = voX (mx a b) t m c q := fun q => by
        unfold voX
        refine voF_c _ c (fun i hi => ?_)
        obtain ⟨q1, q2, -⟩ := p5 i hi
        rw [mxI_lo _ _ (by omega)] at q1 q2
        unfold chC chX
        rw [nH _ (by omega) (by omega), nH _ (by omega) (by omega), q1, q2, eu]
        have e16 : hI H (t + 16) = lkP (hI a (t + 16)) (lookU a t) m := by rw [eH, hI_rI_s]
        rw [e16, chF_c _ _ m (fun i hi => by unfold lkP; rw [if_pos hi])]
      have E := elC2 (H := H) m4 c6 (by rw [nH _ (by omega) (by omega)]; exact m3) (by rw [nH _ (by omega) (by omega)]; exact c3) vf m 0 FU (by omega) (FU_gt (by omega))
      obtain ⟨v0, hv0, ev0⟩ := voX_n (h := mx a b) (t := t) (m := m) 0 c
      have v1 : -1 < voX (mx a b) t m c 0 := by rw [ev0, Int32.lt_iff_toInt_lt, nI_t (by omega), show (-1 : Int32).toInt = -1 from rfl]; omega
      obtain ⟨i, hi, ei⟩ := elF_n (voX (mx a b) t m c) m (by omega) v1
      obtain ⟨b1, hb1, eb1⟩ := elF_n (voX (mx a b) t m c) 1 (by omega) v1
      rw [ei] at E
      have E' : f_X5_holdElection_26 t FU 0 (-1) 0 H = some (1, uI H t 12 (nI i)) := E
      obtain ⟨g', e3, e4⟩ := elM_lp L.1 (m - 1) 1 FU (by omega) (by omega) (FU_gt (by omega)) b (fun k hk => by rw [mxI_hi _ _ (by omega)])
      have e3' : f_X12_elects_25 FU 0 1 b = some (1, uI g' 114 10 (nI i)) := by
        rw [eb1, show b1 = 0 by omega, ei] at e3; exact e3
      have Mg : FM b g' := by
        rcases e4 with e4 | e4
        · rw [e4]; exact FM.refl _
        · rw [e4]; exact (FM.refl _).ln w r j
      have ng : ∀ p q, p ≠ 122 → hI g' p q = hI b p q := fun p q hp => by
        rcases e4 with e4 | e4
        · rw [e4]
        · rw [e4, lnH_I _ _ _ _ hp]
      have CH : FC t v a H := by rw [eH]; exact (((FC.refl t v a).rI (t + 1 + 1) f (by omega))).rI (t + 16) _ (by omega)
      have C1 := (CH.I t 12 (nI i) (by omega)).I v 3 (hI a v 3 + 0) (by omega)
      have M1 := Mg.I 114 10 (nI i) (by omega)
      have A1 : ∀ p q, p ≠ t + 16 → p ≠ t + 1 + 1 → ¬ (p = t ∧ q = 12) → ¬ (p = v ∧ q = 3) → hI (uI (uI H t 12 (nI i)) v 3 (hI a v 3 + 0)) p q = hI a p q := fun p q h1 h2 h3 h4 => by
        rw [hI_uI_n (by omega), hI_uI_n (by omega), nH p h1 h2]
      refine ⟨_, _, true, ds_rd hk e1 rfl ?_, dm_rd hk e2 rfl ?_, C1, M1, L.up ht hv C1 M1 (x := y) ?_ ?_ y3 (Or.inr ⟨i, hi, ?_, hI_uI_s _ _ _ _⟩) (L.st ht (fun k hk => A1 t k (by omega) (by omega) (by omega) (by omega)) (funext fun q => A1 (t + 15) q (by omega) (by omega) (by omega) (by omega)) (fun k hk => by rw [hI_uI_n (by omega), ng _ _ (by omega)])), ⟨?_, ?_, ?_, ?_, s, k5, ?_, ?_⟩, ?_, ?_, ?_, ?_, ?_, ?_, ?_⟩
      · rw [if_neg (by decide), if_neg (by decide), if_neg (by decide), if_pos rfl]
        unfold f_X5_holdElection
        rw [m3, c3, if_neg m0', if_neg c0', ef, bd1_s, E', bd2_s, if_neg (by decide), ltv_e]
        unfold f_X2_doStep_203; rw [nI_1]
      · rw [if_neg (by decide), if_neg (by decide), if_neg (by decide), if_pos rfl]
        unfold f_X12_elects
        rw [m2, c2, if_neg m0', if_neg c0', e3', bd2_s, gdv_t (Or.inr rfl)]; rfl
      · rw [A1 t 13 (by omega) (by omega) (by omega) (by omega)]; exact y1
      · rw [hI_uI_n (by omega), ng _ _ (by omega)]; exact y2
      · rw [hI_uI_n (by omega), hI_uI_s]
      · rw [A1 v 4 (by omega) (by omega) (by omega) (by omega), hI_uI_n (by omega), ng _ _ (by omega)]; exact k1
      · rw [A1 v 5 (by omega) (by omega) (by omega) (by omega), hI_uI_n (by omega), ng _ _ (by omega)]; exact k2
      · rw [A1 v 6 (by omega) (by omega) (by omega) (by omega), hI_uI_n (by omega), ng _ _ (by omega)]; exact k3
      · rw [A1 v 7 (by omega) (by omega) (by omega) (by omega), hI_uI_n (by omega), ng _ _ (by omega)]; exact k4
      · rw [A1 v 1 (by omega) (by omega) (by omega) (by omega)]; exact k6
      · rw [hI_uI_n (by omega), ng _ _ (by omega)]; exact k7
      · rw [hI_uI_s]; rfl
      · rw [hI_uI_n (by omega), ng _ _ (by omega)]
      · funext q; exact A1 (v + 1) q (by omega) (by omega) (by omega) (by omega)
      · funext q; rw [hI_uI_n (by omega), ng _ _ (by omega)]
      · exact A1 v 2 (by omega) (by omega) (by omega) (by omega)
      · rw [hI_uI_n (by omega), ng _ _ (by omega)]
      · rw [hI_uI_n (by omega), ng _ _ (by omega)]
/-- a draw -/
def drw (s : Nat) : Nat := (s * 2879 + 11083) % 65536
theorem drw_lt (s : Nat) : drw s < 65536 := Nat.mod_lt _ (by decide)
theorem drw_I {s : Nat} (hs : s < 65536) : ((nI s * 2879) + 11083) - ((nI s * 2879) + 11083) / 65536 * 65536 = nI (drw s) := by
  rw [show (2879 : Int32) = nI 2879 from rfl, show (11083 : Int32) = nI 11083 from rfl, show (65536 : Int32) = nI 65536 from rfl, nI_mul, nI_add, nI_rem (by decide) (by omega) (by decide)]
  rfl
theorem drC_e {a : HP} {v s n : Nat} (hs : s < 65536) (e : hI a v 1 = nI s) (n0 : 0 < n) (hn : n < 100) : f_X2_draw a v (nI n) = some (nI (drw s / 8 % n), uI a v 1 (nI (drw s))) := by
  have d := drw_lt s
  have d8 : drw s / 8 < 2 ^ 31 := Nat.lt_of_le_of_lt (Nat.div_le_self _ _) (by omega)
  unfold f_X2_draw
  rw [e, drw_I hs, ltv_e, if_neg (by rw [show (0 : Int32) = nI 0 from rfl, nI_leI (by omega) (by omega)]; omega), gdv_t (show ¬ nI n = 0 from fun z => by have := (nI0' (by omega)).mp z; omega), hI_uI_s, show (8 : Int32) = nI 8 from rfl, nI_div (by decide) (by omega) (by decide), nI_rem n0 d8 (by omega)]
theorem drM_e {b : HP} {s n : Nat} (hs : s < 65536) (e : hI b 113 32 = nI s) (n0 : 0 < n) (hn : n < 100) : f_X12_draw b (nI n) = some (nI (drw s / 8 % n), uI b 113 32 (nI (drw s))) := by
  have d := drw_lt s
  have d8 : drw s / 8 < 2 ^ 31 := Nat.lt_of_le_of_lt (Nat.div_le_self _ _) (by omega)
  unfold f_X12_draw
  rw [e, drw_I hs, ltv_e, gdv_t (show ¬ nI n = 0 from fun z => by have := (nI0' (by omega)).mp z; omega), hI_uI_s, show (8 : Int32) = nI 8 from rfl, nI_div (by decide) (by omega) (by decide), nI_rem n0 d8 (by omega)]
theorem QR.draw {t v : Nat} (ht : t = 79 ∨ t = 96) (hv : v = 75 ∨ v = 77) {m0 a0 b0 a b : HP} (Q : QR t v m0 a0 b0 a b) {s : Nat} (hs : s < 65536) : QR t v m0 a0 b0 (uI a v 1 (nI s)) (uI b 113 32 (nI s)) := by
  obtain ⟨C, M, ⟨y, y1, y2, y3⟩, ⟨k1, k2, k3, k4, -⟩, A, As, B, s1, s2, s3, s4, s5, s6⟩ := Q
  exact ⟨C.I v 1 _ (by omega), M.I 113 32 _ (by omega), ⟨y, by rw [hI_uI_n (by omega)]; exact y1, by rw [hI_uI_n (by omega)]; exact y2, y3⟩, ⟨by rw [hI_uI_n (by omega), hI_uI_n (by omega)]; exact k1, by rw [hI_uI_n (by omega), hI_uI_n (by omega)]; exact k2, by rw [hI_uI_n (by omega), hI_uI_n (by omega)]; exact k3, by rw [hI_uI_n (by omega), hI_uI_n (by omega)]; exact k4, s, hs, hI_uI_s _ _ _ _, hI_uI_s _ _ _ _⟩, fun k hk => by rw [hI_uI_n (by omega)]; exact A k hk, by rw [hI_uI_n' (by omega)]; exact As, fun k hk => by rw [hI_uI_n (by omega)]; exact B k hk, by rw [hI_uI_n (by omega)]; exact s1, by rw [hI_uI_n (by omega)]; exact s2, by rw [hI_uI_n (by omega)]; exact s3, by rw [hI_uI_n' (by omega)]; exact s4, by rw [hI_uI_n' (by omega)]; exact s5, by rw [hI_uI_n (by omega)]; exact s6⟩
/-- another picture, and one counter more -/
theorem QR.set {t v : Nat} (ht : t = 79 ∨ t = 96) (hv : v = 75 ∨ v = 77) {m0 a0 b0 a b : HP} (Q : QR t v m0 a0 b0 a b) {x : Int32} (ok : okX m0 x) {i q : Nat} (hi : (i = 5 ∧ q = 2) ∨ (i = 6 ∧ q = 3)) : QR t v m0 a0 b0 (uI (uI a t 13 x) v i (hI (uI a t 13 x) v i + 1)) (uI (uI b 114 3 x) 128 q (hI (uI b 114 3 x) 128 q + 1)) := by
  obtain ⟨C, M, -, ⟨k1, k2, k3, k4, s, k5, k6, k7⟩, A, As, B, s1, s2, s3, s4, s5, s6⟩ := Q
  refine ⟨(C.I t 13 _ (by omega)).I v i _ (by omega), (M.I 114 3 _ (by omega)).I 128 q _ (by omega), ⟨x, by rw [hI_uI_n (by omega), hI_uI_s], by rw [hI_uI_n (by omega), hI_uI_s], ok⟩, ⟨?_, ?_, ?_, ?_, s, k5, ?_, ?_⟩, fun k hk => ?_, ?_, fun k hk => ?_, ?_, ?_, ?_, ?_, ?_, ?_⟩
  · rw [hI_uI_n (by omega), hI_uI_n (by omega), hI_uI_n (by omega), hI_uI_n (by omega)]; exact k1
  · rcases hi with ⟨rfl, rfl⟩ | ⟨rfl, rfl⟩
    · rw [hI_uI_s, hI_uI_s, hI_uI_n (by omega), hI_uI_n (by omega), k2]
    · rw [hI_uI_n (by omega), hI_uI_n (by omega), hI_uI_n (by omega), hI_uI_n (by omega)]; exact k2
  · rcases hi with ⟨rfl, rfl⟩ | ⟨rfl, rfl⟩
    · rw [hI_uI_n (by omega), hI_uI_n (by omega), hI_uI_n (by omega), hI_uI_n (by omega)]; exact k3
    · rw [hI_uI_s, hI_uI_s, hI_uI_n (by omega), hI_uI_n (by omega), k3]
  · rw [hI_uI_n (by omega), hI_uI_n (by omega), hI_uI_n (by omega), hI_uI_n (by omega)]; exact k4
  · rw [hI_uI_n (by omega), hI_uI_n (by omega)]; exact k6
  · rw [hI_uI_n (by omega), hI_uI_n (by omega)]; exact k7
  · rw [hI_uI_n (by omega), hI_uI_n (by omega)]; exact A k hk
  · rw [hI_uI_n' (by omega), hI_uI_n' (by omega)]; exact As
  · rw [hI_uI_n (by omega), hI_uI_n (by omega)]; exact B k hk
  · rw [hI_uI_n (by omega), hI_uI_n (by omega)]; exact s1
  · rw [hI_uI_n (by omega), hI_uI_n (by omega)]; exact s2
  · rw [hI_uI_n (by omega), hI_uI_n (by omega)]; exact s3
  · rw [hI_uI_n' (by omega), hI_uI_n' (by omega)]; exact s4
  · rw [hI_uI_n' (by omega), hI_uI_n' (by omega)]; exact s5
  · rw [hI_uI_n (by omega), hI_uI_n (by omega)]; exact s6
theorem st_lp {t v w r m c : Nat} {j : Bool} (ht : t = 79 ∨ t = 96) (hv : v = 75 ∨ v = 77) {a0 b0 : HP} (L : LT t w r m c j (mx a0 b0)) {N : Nat} (hN : N ≤ 16) {E : Int32} (hE : ∀ i, i < 32 → bt E i = true → bt (hI b0 114 2) i = true ∧ bt (hI b0 114 4) i = false) {n : Nat} {R : HP → Option HP} (hR : R = fun z => f_X2_blow_16 v t n (nI N) E (nI (w * r)) z) : ∀ d k n' a b, k + d = w * r → d < n' → QR t v (mx a0 b0) a0 b0 a b → hI a v 3 = hI a0 v 3 →
    ∃ a' b', f_X2_blow_16 v t (n + d) (nI N) E (nI k) a = R a' ∧ f_X12_storms_18 n' (nI N) E (nI k) b = some (1, b') ∧ QR t v (mx a0 b0) a0 b0 a' b' ∧ hI a' v 3 = hI a0 v 3
  | d, k, 0, _, _, _, z, _, _ => absurd z (by omega)
  | 0, k, n' + 1, a, b, e, _, Q, V3 => by
    obtain ⟨⟨w1, w5, hw, hw'⟩, r1, r6, hr, hr'⟩ := L.wr ht
    have h30 := wr_le w5 r6
    have Bq := Q.2.2.2.2.2.2.1
    refine ⟨a, b, by rw [hR, show k = w * r by omega]; rfl, ?_, Q, V3⟩
    unfold f_X12_storms_18
    rw [places_e b (w := w) (r := r) (by rw [Bq 0 (by omega)]; exact hw) (by rw [Bq 1 (by omega)]; exact hr), bd2_s, if_pos (by rw [nI_leI (by omega) (by omega)]; omega)]
  | d + 1, k, n' + 1, a, b, e, _, Q, V3 => by
    obtain ⟨⟨w1, w5, hw, hw'⟩, r1, r6, hr, hr'⟩ := L.wr ht
    have h30 := wr_le w5 r6
    have Bq := Q.2.2.2.2.2.2.1
    rw [show n + (d + 1) = (n + d) + 1 by omega]
    unfold f_X12_storms_18 f_X2_blow_16
    rw [places_e b (w := w) (r := r) (by rw [Bq 0 (by omega)]; exact hw) (by rw [Bq 1 (by omega)]; exact hr), bd2_s, if_neg (show ¬ nI (w * r) ≤ nI k by rw [nI_leI (by omega) (by omega)]; omega), if_neg (show ¬ (30 : Int32) ≤ nI k by rw [show (30 : Int32) = nI 30 from rfl, nI_leI (by omega) (by omega)]; omega), ltv_e, shr1 (by omega), show (1 : Int32) <<< (nI k &&& 31) = bitI k from rfl]
    cases q : bt E k
    · rw [if_pos ((and_bit (by omega)).mpr q), if_pos (show bI false = 0 from rfl), ltv_e, ltv_e, nI_1]
      exact st_lp ht hv L hN hE hR d (k + 1) n' a b (by omega) (by omega) Q V3
    · obtain ⟨x, x1, x2, x3⟩ := Q.2.2.1
      obtain ⟨s, k5, k6, k7⟩ := Q.2.2.2.1.2.2.2.2
      have Q1 := Q.draw ht hv (drw_lt s)
      have dl : drw s / 8 % 16 < 16 := Nat.mod_lt _ (by decide)
      rw [if_neg (fun z => by rw [(and_bit (by omega)).mp z] at q; cases q), if_neg (by decide), show (16 : Int32) = nI 16 from rfl, drC_e k5 k6 (by decide) (by decide), drM_e k5 k7 (by decide) (by decide), bd2_s, bd2_s]
      by_cases lt : drw s / 8 % 16 < N
      · rw [if_neg (by rw [nI_leI (by omega) (by omega)]; omega), if_pos (by rw [nI_ltI (by omega) (by omega)]; exact lt)]
        simp only [ltv_e, nI_1]
        rw [hI_uI_n (h := a) (b := t) (by omega), hI_uI_n (h := b) (b := 114) (by omega), x1, x2]
        refine st_lp ht hv L hN hE hR d (k + 1) n' _ _ (by omega) (by omega) (Q1.set ht hv (x := x &&& (bitI k ^^^ -1)) (x3.at (p := k) (by rw [mxI_hi _ _ (by omega)]; exact (hE k (by omega) q).1) (by rw [mxI_hi _ _ (by omega)]; exact (hE k (by omega) q).2) (fun i hi ne => ?_)) (Or.inl ⟨rfl, rfl⟩)) ?_
        · rw [b_and, b_xor, bitI_b (by omega) hi, decide_eq_false ne, b_m1 i hi]; simp
        · rw [hI_uI_n (by omega), hI_uI_n (by omega), hI_uI_n (by omega)]; exact V3
      · rw [if_pos (by rw [nI_leI (by omega) (by omega)]; omega), if_neg (by rw [nI_ltI (by omega) (by omega)]; exact lt)]
        simp only [ltv_e, nI_1]
        exact st_lp ht hv L hN hE hR d (k + 1) n' _ _ (by omega) (by omega) Q1 (by rw [hI_uI_n (by omega)]; exact V3)
theorem bl_tail {v t : Nat} {N : Int32} {E : Int32} {a : HP} : ∀ d k n, k + d = 30 → d < n → (∀ i, k ≤ i → i < 30 → bt E i = false) → f_X2_blow_16 v t n N E (nI k) a = some a
  | d, k, 0, _, z, _ => absurd z (by omega)
  | 0, k, n + 1, e, _, _ => by
    unfold f_X2_blow_16
    rw [if_pos (by rw [show (30 : Int32) = nI 30 from rfl, nI_leI (by omega) (by omega)]; omega)]
  | d + 1, k, n + 1, e, _, h => by
    unfold f_X2_blow_16
    rw [if_neg (by rw [show (30 : Int32) = nI 30 from rfl, nI_leI (by omega) (by omega)]; omega), ltv_e, show (1 : Int32) <<< (nI k &&& 31) = bitI k from rfl, if_pos ((and_bit (by omega)).mpr (h k (Nat.le_refl k) (by omega))), ltv_e, nI_1]
    exact bl_tail d (k + 1) n (by omega) (by omega) (fun i h1 h2 => h i (by omega) h2)
theorem sp_storm {t v w r m c : Nat} {j : Bool} (ht : t = 79 ∨ t = 96) (hv : v = 75 ∨ v = 77) {a b : HP} (L : LT t w r m c j (mx a b)) (CT : CT0 v a b) {k N : Nat} (hk : k < 60) (hN : N ≤ 16) (e1 : hI a (t + 3 + 1) k = 13) (e2 : hI b 114 (44 + 6 * k) = 13) (e3 : hI a (t + 3 + 3) k = nI N) (e4 : hI b 114 (45 + 6 * k) = nI N) : SP t v w r m c j a b k := by
  obtain ⟨⟨w1, w5, hw, hw'⟩, r1, r6, hr, hr'⟩ := L.wr ht
  have h30 := wr_le w5 r6
  have ep := L.e13 ht
  obtain ⟨E, eE⟩ : ∃ E, E = hI b 114 3 &&& (hI b 114 4 ^^^ -1) := ⟨_, rfl⟩
  have pin : ∀ i, i < 32 → bt (hI b 114 3) i = true → bt (hI b 114 2) i = true := fun i hi z => by
    have := L.1.pic i hi
    rw [mxI_hi (c := 114) _ _ (by omega)] at this
    exact this z
  have hE : ∀ i, i < 32 → bt E i = true → bt (hI b 114 2) i = true ∧ bt (hI b 114 4) i = false := fun i hi z => by
    rw [eE, b_and, b_xor, b_m1 i hi, Bool.and_eq_true] at z
    refine ⟨pin i hi z.1, ?_⟩
    have := z.2
    revert this
    cases bt (hI b 114 4) i <;> decide
  have eE2 : hI a t 13 &&& hI a (t + 1) 5 = E := by
    refine b_ext (fun i hi => ?_)
    rw [eE, b_and, b_and, b_xor, b_m1 i hi, ep, free_hs ht L hi]
    have := pin i hi
    revert this
    cases bt (hI b 114 3) i <;> cases bt (hI b 114 2) i <;> cases bt (hI b 114 4) i <;> decide
  have hP : ∀ i, i < 32 → bt E i = true → i < w * r := fun i hi z => by
    have := (L.1.1.n.2.2.2.2.2.2 i hi).1
    rw [mxI_hi (c := 114) _ _ (by omega)] at this
    exact this (hE i hi z).1
  obtain ⟨a', b', c1, c2, Q, V3⟩ := st_lp ht hv L hN hE (n := FU - w * r) rfl (w * r) 0 FU a b (by omega) (FU_gt (by omega)) (QR.refl ht L CT) rfl
  have fu : FU - w * r + w * r = FU := by
    have : FU = 1000000 := rfl
    omega
  rw [fu] at c1
  have tl := bl_tail (v := v) (t := t) (N := nI N) (E := E) (a := a') (30 - w * r) (w * r) (FU - w * r) (by omega) (by
    have : FU = 1000000 := rfl
    omega) (fun i h1 h2 => by
      cases z : bt E i
      · rfl
      · have := hP i (by omega) z; omega)
  rw [tl] at c1
  refine QR.sp (a := a') (b := b') (q := true) ht hv L Q (ds_rd hk e1 e3 ?_) (dm_rd hk e2 e4 ?_) ?_
  · rw [if_neg (by decide), if_neg (by decide), if_neg (by decide), if_neg (by decide), if_pos rfl]
    unfold f_X2_blow
    rw [ltv_e, eE2, show (0 : Int32) = nI 0 from rfl, c1, bd1_s]
    unfold f_X2_doStep_203; rw [nI_1]
  · rw [if_neg (by decide), if_neg (by decide), if_neg (by decide), if_neg (by decide), if_pos rfl]
    unfold f_X12_storms
    rw [show nI 0 = 0 from rfl] at c2
    rw [ltv_e, ← eE, c2, bd2_s, gdv_t (Or.inr rfl)]; rfl
  · rw [V3]; show _ = _ + 0; rw [Int32.add_zero]
theorem sp_birth {t v w r m c : Nat} {j : Bool} (ht : t = 79 ∨ t = 96) (hv : v = 75 ∨ v = 77) {a b : HP} (L : LT t w r m c j (mx a b)) (CT : CT0 v a b) {k : Nat} (hk : k < 60) (e1 : hI a (t + 3 + 1) k = 14) (e2 : hI b 114 (44 + 6 * k) = 14) : SP t v w r m c j a b k := by
  obtain ⟨⟨w1, w5, hw, hw'⟩, r1, r6, hr, hr'⟩ := L.wr ht
  have h30 := wr_le w5 r6
  obtain ⟨s, k5, k6, k7⟩ := id CT.2.2.2.2
  have dl := drw_lt s
  have Q := ((QR.refl ht L CT).draw ht hv (drw_lt s)).draw ht hv (drw_lt (drw s))
  obtain ⟨x, ex⟩ : ∃ x, x = drw s / 8 % w := ⟨_, rfl⟩
  obtain ⟨z, ez⟩ : ∃ z, z = drw (drw s) / 8 % r := ⟨_, rfl⟩
  have hx : x < w := by rw [ex]; exact Nat.mod_lt _ (by omega)
  have hz : z < r := by rw [ez]; exact Nat.mod_lt _ (by omega)
  have hpl := pl_lt hx hz
  have fb := free_hs ht L (p := z * w + x) (by omega)
  obtain ⟨A2, eA⟩ : ∃ A2, A2 = uI (uI a v 1 (nI (drw s))) v 1 (nI (drw (drw s))) := ⟨_, rfl⟩
  obtain ⟨B2, eB⟩ : ∃ B2, B2 = uI (uI b 113 32 (nI (drw s))) 113 32 (nI (drw (drw s))) := ⟨_, rfl⟩
  rw [← eA, ← eB] at Q
  obtain ⟨y, y1, y2, y3⟩ := Q.2.2.1
  have a1 : ∀ q, hI A2 (t + 1) q = hI a (t + 1) q := fun q => by rw [eA, hI_uI_n (by omega), hI_uI_n (by omega)]
  have Bq := Q.2.2.2.2.2.2.1
  have V3 : hI A2 v 3 = hI a v 3 := by rw [eA, hI_uI_n (by omega), hI_uI_n (by omega)]
  have cC : f_X2_bear a v t = (if (hI a (t + 1) 5 &&& (y ^^^ -1)) &&& bitI (z * w + x) = 0 then some (uI A2 v 3 (hI A2 v 3 + 1)) else some (uI (uI A2 t 13 (y ||| bitI (z * w + x))) v 6 (hI (uI A2 t 13 (y ||| bitI (z * w + x))) v 6 + 1))) := by
    unfold f_X2_bear
    rw [hw', drC_e k5 k6 (by omega) (by omega), bd2_s]
    try simp only []
    rw [hI_uI_n (h := a) (b := t + 1) (by omega), hr', drC_e (a := uI a v 1 (nI (drw s))) dl (hI_uI_s _ _ _ _) (by omega) (by omega), bd2_s, ← ex, ← ez, ← eA, plc_e w5 r6 (by rw [a1]; exact hw') (by rw [a1]; exact hr') hx hz, bd2_s, ltv_e, a1, y1, show (1 : Int32) <<< (nI (z * w + x) &&& 31) = bitI (z * w + x) from rfl]
    simp only [ltv_e]
  have cM : f_X12_isBorn b = (if (hI a (t + 1) 5 &&& (y ^^^ -1)) &&& bitI (z * w + x) = 0 then some (0, B2) else some (1, uI (uI B2 114 3 (y ||| bitI (z * w + x))) 128 3 (hI (uI B2 114 3 (y ||| bitI (z * w + x))) 128 3 + 1))) := by
    have fe : hI a (t + 1) 5 = hI b 114 2 &&& (hI b 114 4 ^^^ -1) := by
      have := free_e L.1.1
      rw [mxI_lo _ _ (by omega), mxI_hi _ _ (by omega)] at this; exact this
    unfold f_X12_isBorn
    rw [hw, drM_e k5 k7 (by omega) (by omega), bd2_s]
    try simp only []
    rw [hI_uI_n (h := b) (b := 114) (by omega), hr, drM_e (b := uI b 113 32 (nI (drw s))) dl (hI_uI_s _ _ _ _) (by omega) (by omega), bd2_s, ← ex, ← ez, ← eB, bit_e _ (by rw [Bq 0 (by omega)]; exact hw), bd2_s, freeM_e, bd2_s, Bq 2 (by omega), Bq 4 (by omega), y2, ← fe]
    simp only [ltv_e]
  by_cases q : (hI a (t + 1) 5 &&& (y ^^^ -1)) &&& bitI (z * w + x) = 0
  · rw [if_pos q] at cC cM
    obtain ⟨C, M, X, ⟨k1, k2, k3, k4, kk⟩, A, As, B, s1, s2, s3, s4, s5, s6⟩ := Q
    refine QR.sp (a := uI A2 v 3 (hI A2 v 3 + 1)) (b := B2) (q := false) ht hv L ⟨C.I v 3 _ (by omega), M, ⟨y, by rw [hI_uI_n (by omega)]; exact y1, y2, y3⟩, ⟨by rw [hI_uI_n (by omega)]; exact k1, by rw [hI_uI_n (by omega)]; exact k2, by rw [hI_uI_n (by omega)]; exact k3, by rw [hI_uI_n (by omega)]; exact k4, by rw [hI_uI_n (by omega)]; exact kk⟩, fun k hk => by rw [hI_uI_n (by omega)]; exact A k hk, by rw [hI_uI_n' (by omega)]; exact As, B, by rw [hI_uI_n (by omega)]; exact s1, s2, s3, by rw [hI_uI_n' (by omega)]; exact s4, s5, s6⟩ (ds_rd hk e1 rfl ?_) (dm_rd hk e2 rfl ?_) ?_
    · rw [if_neg (by decide), if_neg (by decide), if_neg (by decide), if_neg (by decide), if_neg (by decide), if_pos rfl, cC, bd1_s]
      unfold f_X2_doStep_203; rw [nI_1]
    · rw [if_neg (by decide), if_neg (by decide), if_neg (by decide), if_neg (by decide), if_neg (by decide), if_pos rfl, cM, bd2_s, gdv_t (Or.inl rfl)]; rfl
    · rw [hI_uI_s, V3]; rfl
  · rw [if_neg q] at cC cM
    have hs : bt (hI b 114 2) (z * w + x) = true ∧ bt (hI b 114 4) (z * w + x) = false := by
      have : bt (hI a (t + 1) 5 &&& (y ^^^ -1)) (z * w + x) = true := by
        cases u : bt (hI a (t + 1) 5 &&& (y ^^^ -1)) (z * w + x)
        · exact absurd ((and_bit (by omega)).mpr u) q
        · rfl
      rw [b_and, Bool.and_eq_true, fb] at this
      have := this.1
      revert this
      cases bt (hI b 114 2) (z * w + x) <;> cases bt (hI b 114 4) (z * w + x) <;> decide
    refine QR.sp (q := true) ht hv L (Q.set ht hv (x := y ||| bitI (z * w + x)) (y3.at (p := z * w + x) (by rw [mxI_hi _ _ (by omega)]; exact hs.1) (by rw [mxI_hi _ _ (by omega)]; exact hs.2) (fun i hi ne => by rw [b_or, bitI_b (by omega) hi, decide_eq_false ne, Bool.or_false])) (Or.inr ⟨rfl, rfl⟩)) (ds_rd hk e1 rfl ?_) (dm_rd hk e2 rfl ?_) ?_
    · rw [if_neg (by decide), if_neg (by decide), if_neg (by decide), if_neg (by decide), if_neg (by decide), if_pos rfl, cC, bd1_s]
      unfold f_X2_doStep_203; rw [nI_1]
    · rw [if_neg (by decide), if_neg (by decide), if_neg (by decide), if_neg (by decide), if_neg (by decide), if_pos rfl, cM, bd2_s, gdv_t (Or.inr rfl)]; rfl
    · rw [hI_uI_n (by omega), hI_uI_n (by omega), V3]; show _ = _ + 0; rw [Int32.add_zero]
