/-! ===== alike: walks ===== -/
theorem zI_lt {a : Nat} {z : Int} (ha : a < 1000) (h1 : -1000 ≤ z) (h2 : z ≤ 1000) : nI a < zI z ↔ (a : Int) < z := by
  rw [Int32.lt_iff_toInt_lt, nI_t (by omega), zI_t (by omega) (by omega)]
theorem Cor.uq {w : Nat} {p : Int32} {a b c d : Nat} (P : Cor w p a b) (Q : Cor w p c d) : a = c ∧ b = d := by
  obtain ⟨P1, ⟨i1, i2, i3, i4⟩, ⟨j1, j2, j3, j4⟩⟩ := P
  obtain ⟨Q1, ⟨k1, k2, k3, k4⟩, ⟨l1, l2, l3, l4⟩⟩ := Q
  have a1 := (P1 k1 k2 k3).1
  have a2 := (Q1 i1 i2 i3).1
  have b1 := (P1 l1 l2 l3).2
  have b2 := (Q1 j1 j2 j3).2
  omega
theorem Cor.ne {w : Nat} {p : Int32} {a b : Nat} (P : Cor w p a b) : p ≠ 0 := fun e => by
  obtain ⟨i, i1, i2, i3⟩ := P.2.1
  rw [e, b_0] at i2; cases i2
/-- the picture q is p walked on -/
def Mt (w : Nat) (p : Int32) (px py : Nat) (q : Int32) (qx qy : Nat) : Prop := Cor w q qx qy ∧ ∀ b, bt p (b + (py * w + px)) = bt q (b + (qy * w + qx))
theorem rx_no {G : HP} {w r : Nat} (w1 : 1 ≤ w) (w5 : w ≤ 5) (r6 : r ≤ 6) (hw : hI G 114 0 = nI w) (hr : hI G 114 1 = nI r) {p q : Int32} (hp : hI G 114 3 = p) {K : Int32 → Int32 → Int32 → Int32 → HP → Option (Int32 × HP)} {l1 l3 : Int32} {dy : Int} (y1 : -10 ≤ dy) (y2 : dy ≤ 10) : ∀ (d : Nat) (x : Int) (n : Nat), x + (d : Int) = 5 → -4 ≤ x → d < n → (∀ dx v, x ≤ dx → dx ≤ 4 → f_X12_moved G p (zI dx) (zI dy) = some (v, G) → v ≠ q) →
    f_X12_walks_77 K n l1 q l3 (zI dy) (zI x) G = K l1 q l3 (zI (dy + 1)) G
  | d, x, 0, _, _, z, _ => absurd z (by omega)
  | 0, x, n + 1, e, _, _, _ => by
    unfold f_X12_walks_77
    rw [if_pos (show (4 : Int32) < zI x from (zI_lt (a := 4) (by omega) (by omega) (by omega)).mpr (by omega))]
    simp only [ltv_e]
    rw [zI_1 (by omega) (by omega)]
  | d + 1, x, n + 1, e, x4, z, no => by
    obtain ⟨v, ev, -⟩ := mv_e w1 w5 r6 hw hr p (dx := x) (dy := dy) (by omega) (by omega) y1 y2
    unfold f_X12_walks_77
    rw [if_neg (fun q => by have := (zI_lt (a := 4) (by omega) (by omega) (by omega)).mp q; omega), hp, ev, bd2_s, if_neg (no x v (by omega) (by omega) ev)]
    simp only [ltv_e]
    rw [zI_1 (by omega) (by omega)]
    exact rx_no w1 w5 r6 hw hr hp y1 y2 d (x + 1) n (by omega) (by omega) (by omega) (fun dx v a b c => no dx v (by omega) b c)
def wFin (G : HP) (a : Int32) (k : Int32) (dx dy : Int) : Option (Int32 × HP) := some (if a = 0 then k else if a = 1 then zI dx else zI dy, uI G 113 2 0)
theorem rx_yes {G : HP} {w r : Nat} (w1 : 1 ≤ w) (w5 : w ≤ 5) (r6 : r ≤ 6) (hw : hI G 114 0 = nI w) (hr : hI G 114 1 = nI r) {p q : Int32} (hp : hI G 114 3 = p) {K : Int32 → Int32 → Int32 → Int32 → HP → Option (Int32 × HP)} {l1 l3 : Int32} {dy X : Int} (X4 : X ≤ 4) (y1 : -10 ≤ dy) (y2 : dy ≤ 10) (ok : ∀ dx v, f_X12_moved G p (zI dx) (zI dy) = some (v, G) → -4 ≤ dx → dx ≤ 4 → (v = q ↔ dx = X)) : ∀ (d : Nat) (x : Int) (n : Nat), x + (d : Int) = X → -4 ≤ x → d < n →
    f_X12_walks_77 K n l1 q l3 (zI dy) (zI x) G = wFin G l1 l3 X dy
  | d, x, 0, _, _, z => absurd z (by omega)
  | 0, x, n + 1, e, x4, _ => by
    have e : x = X := by omega
    subst e
    obtain ⟨v, ev, -⟩ := mv_e w1 w5 r6 hw hr p (dx := x) (dy := dy) (by omega) (by omega) y1 y2
    unfold f_X12_walks_77 wFin
    rw [if_neg (fun q => by have := (zI_lt (a := 4) (by omega) (by omega) (by omega)).mp q; omega), hp, ev, bd2_s, if_pos ((ok x v ev x4 X4).mpr rfl)]
    simp only [giv_e, bd2_s]
    by_cases a : l1 = 0
    · rw [if_pos a, if_pos a]
    · rw [if_neg a, if_neg a]
      by_cases b : l1 = 1
      · rw [if_pos b, if_pos b]
      · rw [if_neg b, if_neg b]
  | d + 1, x, n + 1, e, x4, z => by
    obtain ⟨v, ev, -⟩ := mv_e w1 w5 r6 hw hr p (dx := x) (dy := dy) (by omega) (by omega) y1 y2
    unfold f_X12_walks_77
    rw [if_neg (fun q => by have := (zI_lt (a := 4) (by omega) (by omega) (by omega)).mp q; omega), hp, ev, bd2_s, if_neg (fun y => by have := (ok x v ev x4 (by omega)).mp y; omega)]
    simp only [ltv_e]
    rw [zI_1 (by omega) (by omega)]
    exact rx_yes w1 w5 r6 hw hr hp X4 y1 y2 ok d (x + 1) n (by omega) (by omega) (by omega)
theorem m4 : (-4 : Int32) = zI (-4) := by decide +kernel
theorem m5 : (-5 : Int32) = zI (-5) := by decide +kernel
theorem ry_no {G : HP} {w r : Nat} (w1 : 1 ≤ w) (w5 : w ≤ 5) (r6 : r ≤ 6) (hw : hI G 114 0 = nI w) (hr : hI G 114 1 = nI r) {p q : Int32} (hp : hI G 114 3 = p) {K : Int32 → Int32 → Int32 → HP → Option (Int32 × HP)} {l1 : Int32} {k : Nat} : ∀ (d : Nat) (y : Int) (n : Nat), y + (d : Int) = 6 → -5 ≤ y → d < n → (∀ dx dy v, y ≤ dy → dy ≤ 5 → -4 ≤ dx → dx ≤ 4 → f_X12_moved G p (zI dx) (zI dy) = some (v, G) → v ≠ q) →
    f_X12_walks_67 K n l1 q (nI k) (zI y) G = K l1 q (nI (k + 1)) G
  | d, y, 0, _, _, z, _ => absurd z (by omega)
  | 0, y, n + 1, e, _, _, _ => by
    unfold f_X12_walks_67
    rw [if_pos (show (5 : Int32) < zI y from (zI_lt (a := 5) (by omega) (by omega) (by omega)).mpr (by omega))]
    simp only [ltv_e, nI_1]
  | d + 1, y, n + 1, e, y5, z, no => by
    unfold f_X12_walks_67
    rw [if_neg (fun q => by have := (zI_lt (a := 5) (by omega) (by omega) (by omega)).mp q; omega), m4, rx_no w1 w5 r6 hw hr hp (by omega) (by omega) 9 (-4) FU (by omega) (by omega) (FU_gt (by decide)) (fun dx v a b c => no dx y v (by omega) (by omega) a b c)]
    exact ry_no w1 w5 r6 hw hr hp d (y + 1) n (by omega) (by omega) (by omega) (fun dx dy v a b c e f => no dx dy v (by omega) b c e f)
theorem ry_yes {G : HP} {w r : Nat} (w1 : 1 ≤ w) (w5 : w ≤ 5) (r6 : r ≤ 6) (hw : hI G 114 0 = nI w) (hr : hI G 114 1 = nI r) {p q : Int32} (hp : hI G 114 3 = p) {K : Int32 → Int32 → Int32 → HP → Option (Int32 × HP)} {l1 l3 : Int32} {X Y : Int} (X4 : X ≤ 4) (X4' : -4 ≤ X) (Y5 : Y ≤ 5) (ok : ∀ dx dy v, f_X12_moved G p (zI dx) (zI dy) = some (v, G) → -5 ≤ dy → dy ≤ 5 → -4 ≤ dx → dx ≤ 4 → (v = q ↔ dx = X ∧ dy = Y)) : ∀ (d : Nat) (y : Int) (n : Nat), y + (d : Int) = Y → -5 ≤ y → d < n →
    f_X12_walks_67 K n l1 q l3 (zI y) G = wFin G l1 l3 X Y
  | d, y, 0, _, _, z => absurd z (by omega)
  | 0, y, n + 1, e, y5, _ => by
    have e : y = Y := by omega
    subst e
    unfold f_X12_walks_67
    rw [if_neg (fun q => by have := (zI_lt (a := 5) (by omega) (by omega) (by omega)).mp q; omega), m4]
    obtain ⟨d, hd⟩ : ∃ d : Nat, (-4 : Int) + d = X := ⟨(X + 4).toNat, by omega⟩
    exact rx_yes w1 w5 r6 hw hr hp X4 (by omega) (by omega) (fun dx v ev a b => (ok dx y v ev y5 Y5 a b).trans ⟨fun q => q.1, fun q => ⟨q, rfl⟩⟩) d (-4) FU hd (by omega) (FU_gt (by omega))
  | d + 1, y, n + 1, e, y5, z => by
    unfold f_X12_walks_67
    rw [if_neg (fun q => by have := (zI_lt (a := 5) (by omega) (by omega) (by omega)).mp q; omega), m4, rx_no w1 w5 r6 hw hr hp (by omega) (by omega) 9 (-4) FU (by omega) (by omega) (FU_gt (by decide)) (fun dx v a b c q => by have := (ok dx y v c (by omega) (by omega) a b).mp q; omega)]
    exact ry_yes w1 w5 r6 hw hr hp X4 X4' Y5 ok d (y + 1) n (by omega) (by omega) (by omega)
theorem cor_lt {w r : Nat} {q : Int32} (w1 : 1 ≤ w) (hq : inP w r q) {a b : Nat} (Q : Cor w q a b) : a < w ∧ b < r := by
  obtain ⟨-, ⟨i, i1, i2, i3⟩, ⟨k, k1, k2, k3⟩⟩ := Q
  refine ⟨by rw [← i3]; exact Nat.mod_lt _ (by omega), ?_⟩
  rw [← k3, Nat.div_lt_iff_lt_mul (by omega), Nat.mul_comm r w]; exact hq k k1 k2
/-- one night of the reference: whether the picture is the first walked on -/
theorem mw_no {G : HP} {w r : Nat} (w1 : 1 ≤ w) (w5 : w ≤ 5) (r6 : r ≤ 6) (hw : hI G 114 0 = nI w) (hr : hI G 114 1 = nI r) {p q : Int32} (hp : hI G 114 3 = p) (pp : inP w r p) (qp : inP w r q) {px py : Nat} (P : Cor w p px py) (no : ∀ qx qy, ¬ Mt w p px py q qx qy) {dx dy : Int} (x1 : -10 ≤ dx) (x2 : dx ≤ 10) (y1 : -10 ≤ dy) (y2 : dy ≤ 10) {v : Int32} (ev : f_X12_moved G p (zI dx) (zI dy) = some (v, G)) (Qo : q = 0 ∨ ∃ a b, Cor w q a b) : v ≠ q := by
  have h30 := wr_le w5 r6
  obtain ⟨v', ev', hv⟩ := mv_e w1 w5 r6 hw hr p x1 x2 y1 y2
  have : v' = v := by rw [ev'] at ev; exact (Prod.mk.inj (Option.some.inj ev)).1
  subst this
  rcases Qo with rfl | ⟨a, b, Q⟩
  · intro e
    subst e
    rcases hv with ⟨z, -⟩ | ⟨a1, a2⟩
    · cases z
    · obtain ⟨i, i1, i2, -⟩ := P.2.1
      have c := a1 i (pp i i1 i2) i2
      unfold mvIn at c
      have lt : mvTo w dx dy i < w * r := pl_lt (by omega) (by omega)
      have := (a2 (mvTo w dx dy i) (by omega)).mpr ⟨i, pp i i1 i2, i2, rfl⟩
      rw [b_0] at this; cases this
  · intro e
    have := (mv_iff w1 w5 r6 pp qp P Q hv).mp e
    exact no a b ⟨Q, this.1⟩
theorem cor_ex {w : Nat} {q : Int32} (q0 : q ≠ 0) : ∃ a b, Cor w q a b := by
  have ex : ∀ (f : Nat → Nat) , ∀ N, (∃ i, i < 32 ∧ bt q i = true ∧ f i ≤ N) → ∃ a, (∀ i, i < 32 → bt q i = true → a ≤ f i) ∧ ∃ i, i < 32 ∧ bt q i = true ∧ f i = a := by
    intro f N
    induction N with
    | zero => rintro ⟨i, i1, i2, i3⟩; exact ⟨0, fun _ _ _ => Nat.zero_le _, i, i1, i2, by omega⟩
    | succ N ih =>
      rintro ⟨i, i1, i2, i3⟩
      by_cases z : ∃ i, i < 32 ∧ bt q i = true ∧ f i ≤ N
      · exact ih z
      · exact ⟨N + 1, fun i a b => Nat.lt_of_not_le (fun c => z ⟨i, a, b, c⟩), i, i1, i2, Nat.le_antisymm i3 (Nat.lt_of_not_le (fun c => z ⟨i, i1, i2, c⟩))⟩
  obtain ⟨i, i1, i2⟩ := ne0_b.mp q0
  obtain ⟨a, a1, a2⟩ := ex (fun i => i % w) (i % w) ⟨i, i1, i2, Nat.le_refl _⟩
  obtain ⟨b, b1, b2⟩ := ex (fun i => i / w) (i / w) ⟨i, i1, i2, Nat.le_refl _⟩
  exact ⟨a, b, fun i c d => ⟨a1 i c d, b1 i c d⟩, a2, b2⟩
theorem mw_nil {h G : HP} {t w r m c : Nat} {j : Bool} (T : TW h t w r m c j) (sm : SmN h G) (ln : LN G w r j) {px py : Nat} (P : Cor w (hI h 114 3) px py) (a : Int32) : ∀ d k n, k + d = 61 → d < n → (∀ k', k ≤ k' → k' ≤ 60 → ∀ qx qy, ¬ Mt w (hI h 114 3) px py (itN (nxF h t) k' (hI h 114 3)) qx qy) → 1 ≤ k →
    f_X12_walks_44 n a (itN (nxF h t) (k - 1) (hI h 114 3)) (nI k) G = some (-1, uI G 113 2 6)
  | d, k, 0, _, z, _, _ => absurd z (by omega)
  | 0, k, n + 1, e, _, _, _ => by
    unfold f_X12_walks_44
    rw [if_pos (by rw [show (60 : Int32) = nI 60 from rfl, nI_ltI (by omega) (by omega)]; omega)]; rfl
  | d + 1, k, n + 1, e, z, no, k1 => by
    obtain ⟨⟨w1, w5, hw, hw'⟩, ⟨r1, r6, hr, hr'⟩, -⟩ := T.1.n
    unfold f_X12_walks_44
    rw [if_neg (by rw [show (60 : Int32) = nI 60 from rfl, nI_ltI (by omega) (by omega)]; omega), T.bec sm ln (T.it _ T.pic), bd2_s, ← itN_last (nxF h t) (k - 1) (hI h 114 3), show k - 1 + 1 = k by omega, m5]
    have qo : itN (nxF h t) k (hI h 114 3) = 0 ∨ ∃ a b, Cor w (itN (nxF h t) k (hI h 114 3)) a b := by
      by_cases q : itN (nxF h t) k (hI h 114 3) = 0
      · exact Or.inl q
      · exact Or.inr (cor_ex q)
    rw [ry_no (w := w) (r := r) w1 w5 r6 (by rw [sm 0 (by omega)]; exact hw) (by rw [sm 1 (by omega)]; exact hr) (sm 3 (by omega)) 11 (-5) FU (by omega) (by omega) (FU_gt (by decide)) (fun dx dy v a b c e f => mw_no w1 w5 r6 (by rw [sm 0 (by omega)]; exact hw) (by rw [sm 1 (by omega)]; exact hr) (sm 3 (by omega)) (inH_P T.1 T.pic) (inH_P T.1 (T.it k T.pic)) P (no k (Nat.le_refl _) (by omega)) (by omega) (by omega) (by omega) (by omega) f qo)]
    have ih := mw_nil T sm ln P a d (k + 1) n (by omega) (by omega) (fun k' a b => no k' (by omega) b) (by omega)
    rw [show k + 1 - 1 = k by omega] at ih; exact ih
theorem mw_hit {h G : HP} {t w r m c : Nat} {j : Bool} (T : TW h t w r m c j) (sm : SmN h G) (ln : LN G w r j) {px py : Nat} (P : Cor w (hI h 114 3) px py) (a : Int32) {K qx qy : Nat} (K60 : K ≤ 60) (hit : Mt w (hI h 114 3) px py (itN (nxF h t) K (hI h 114 3)) qx qy) : ∀ d k n, k + d = K → d < n → (∀ k', k ≤ k' → k' < K → ∀ qx qy, ¬ Mt w (hI h 114 3) px py (itN (nxF h t) k' (hI h 114 3)) qx qy) → 1 ≤ k →
    f_X12_walks_44 n a (itN (nxF h t) (k - 1) (hI h 114 3)) (nI k) G = wFin G a (nI K) ((qx : Int) - px) ((qy : Int) - py)
  | d, k, 0, _, z, _, _ => absurd z (by omega)
  | 0, k, n + 1, e, _, _, k1 => by
    obtain ⟨⟨w1, w5, hw, hw'⟩, ⟨r1, r6, hr, hr'⟩, -⟩ := T.1.n
    have e : k = K := by omega
    subst e
    unfold f_X12_walks_44
    rw [if_neg (by rw [show (60 : Int32) = nI 60 from rfl, nI_ltI (by omega) (by omega)]; omega), T.bec sm ln (T.it _ T.pic), bd2_s, ← itN_last (nxF h t) (k - 1) (hI h 114 3), show k - 1 + 1 = k by omega, m5]
    have pp := inH_P T.1 T.pic
    have qp := inH_P T.1 (T.it k T.pic)
    have a1 := cor_lt w1 pp P
    have a2 := cor_lt w1 qp hit.1
    obtain ⟨d, hd⟩ : ∃ d : Nat, (-5 : Int) + d = (qy : Int) - py := ⟨((qy : Int) - py + 5).toNat, by omega⟩
    refine ry_yes (w := w) (r := r) w1 w5 r6 (by rw [sm 0 (by omega)]; exact hw) (by rw [sm 1 (by omega)]; exact hr) (sm 3 (by omega)) (by omega) (by omega) (by omega) (fun dx dy v ev b1 b2 b3 b4 => ?_) d (-5) FU hd (by omega) (FU_gt (by omega))
    obtain ⟨v', ev', hv⟩ := mv_e (G := G) w1 w5 r6 (by rw [sm 0 (by omega)]; exact hw) (by rw [sm 1 (by omega)]; exact hr) (hI h 114 3) (dx := dx) (dy := dy) (by omega) (by omega) (by omega) (by omega)
    have : v' = v := by rw [ev'] at ev; exact (Prod.mk.inj (Option.some.inj ev)).1
    subst this
    rw [mv_iff w1 w5 r6 pp qp P hit.1 hv]
    exact ⟨fun q => q.2, fun q => ⟨hit.2, q⟩⟩
  | d + 1, k, n + 1, e, z, no, k1 => by
    obtain ⟨⟨w1, w5, hw, hw'⟩, ⟨r1, r6, hr, hr'⟩, -⟩ := T.1.n
    unfold f_X12_walks_44
    rw [if_neg (by rw [show (60 : Int32) = nI 60 from rfl, nI_ltI (by omega) (by omega)]; omega), T.bec sm ln (T.it _ T.pic), bd2_s, ← itN_last (nxF h t) (k - 1) (hI h 114 3), show k - 1 + 1 = k by omega, m5]
    have qo : itN (nxF h t) k (hI h 114 3) = 0 ∨ ∃ a b, Cor w (itN (nxF h t) k (hI h 114 3)) a b := by
      by_cases q : itN (nxF h t) k (hI h 114 3) = 0
      · exact Or.inl q
      · exact Or.inr (cor_ex q)
    rw [ry_no (w := w) (r := r) w1 w5 r6 (by rw [sm 0 (by omega)]; exact hw) (by rw [sm 1 (by omega)]; exact hr) (sm 3 (by omega)) 11 (-5) FU (by omega) (by omega) (FU_gt (by decide)) (fun dx dy v a b c e f => mw_no w1 w5 r6 (by rw [sm 0 (by omega)]; exact hw) (by rw [sm 1 (by omega)]; exact hr) (sm 3 (by omega)) (inH_P T.1 T.pic) (inH_P T.1 (T.it k T.pic)) P (no k (Nat.le_refl _) (by omega)) (by omega) (by omega) (by omega) (by omega) f qo)]
    have ih := mw_hit T sm ln P a K60 hit d (k + 1) n (by omega) (by omega) (fun k' a b => no k' (by omega) b) (by omega)
    rw [show k + 1 - 1 = k by omega] at ih; exact ih
