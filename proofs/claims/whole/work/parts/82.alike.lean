/-! ===== alike: pictures moved ===== -/
def zI (z : Int) : Int32 := Int32.ofInt z
theorem zI_t {z : Int} (h1 : -1000000 ≤ z) (h2 : z ≤ 1000000) : (zI z).toInt = z := by
  have e : Int32.size = 4294967296 := rfl
  unfold zI; rw [Int32.toInt_ofInt, Int.bmod_def, e]; split <;> omega
theorem zI_ext {a b : Int32} (h : a.toInt = b.toInt) : a = b := Int32.toInt_inj.mp h
theorem zI_add {a : Int32} {x y : Int} (h : a.toInt = x) (h1 : -1000 ≤ x) (h2 : x ≤ 1000) (h3 : -1000 ≤ y) (h4 : y ≤ 1000) : a + zI y = zI (x + y) := by
  refine zI_ext ?_
  rw [zI_t (by omega) (by omega), toInt_add (by rw [zI_t (by omega) (by omega)]; omega) (by rw [zI_t (by omega) (by omega)]; omega), zI_t (by omega) (by omega), h]
theorem zI_1 {y : Int} (h3 : -1000 ≤ y) (h4 : y ≤ 900) : zI y + 1 = zI (y + 1) := by
  have := zI_add (a := zI y) (x := y) (y := 1) (zI_t (by omega) (by omega)) (by omega) (by omega) (by omega) (by omega)
  rw [← this]; rfl
theorem zI_nI (k : Nat) (hk : k < 1000) : zI (k : Int) = nI k := zI_ext (by rw [zI_t (by omega) (by omega), nI_t (by omega)])
/-- a lit place of a picture lies in the town when moved -/
def mvIn (w r : Nat) (dx dy : Int) (i : Nat) : Prop := 0 ≤ ((i % w : Nat) : Int) + dx ∧ ((i % w : Nat) : Int) + dx < w ∧ 0 ≤ ((i / w : Nat) : Int) + dy ∧ ((i / w : Nat) : Int) + dy < r
def mvTo (w : Nat) (dx dy : Int) (i : Nat) : Nat := (((i / w : Nat) : Int) + dy).toNat * w + (((i % w : Nat) : Int) + dx).toNat
theorem mv_lp {G : HP} {w r : Nat} (w1 : 1 ≤ w) (w5 : w ≤ 5) (r6 : r ≤ 6) (hw : hI G 114 0 = nI w) (hr : hI G 114 1 = nI r) {p : Int32} {dx dy : Int} (x1 : -10 ≤ dx) (x2 : dx ≤ 10) (y1 : -10 ≤ dy) (y2 : dy ≤ 10) : ∀ d k n acc, k + d = w * r → d < n → (∀ i, i < k → bt p i = true → mvIn w r dx dy i) → (∀ b, b < 32 → (bt acc b = true ↔ ∃ i, i < k ∧ bt p i = true ∧ b = mvTo w dx dy i)) →
    ∃ v, f_X12_moved_6 n p (zI dx) (zI dy) acc (nI k) G = some (v, G) ∧ ((v = -1 ∧ ∃ i, i < w * r ∧ bt p i = true ∧ ¬ mvIn w r dx dy i) ∨ ((∀ i, i < w * r → bt p i = true → mvIn w r dx dy i) ∧ ∀ b, b < 32 → (bt v b = true ↔ ∃ i, i < w * r ∧ bt p i = true ∧ b = mvTo w dx dy i)))
  | d, k, 0, _, _, z, _, _ => absurd z (by omega)
  | 0, k, n + 1, acc, e, _, a1, a2 => by
    have h30 := wr_le w5 r6
    have e : k = w * r := by omega
    subst e
    unfold f_X12_moved_6
    rw [places_e G hw hr, bd2_s, if_pos (by rw [nI_leI (by omega) (by omega)]; omega)]
    exact ⟨acc, rfl, Or.inr ⟨a1, a2⟩⟩
  | d + 1, k, n + 1, acc, e, z, a1, a2 => by
    have h30 := wr_le w5 r6
    unfold f_X12_moved_6
    rw [places_e G hw hr, bd2_s, if_neg (by rw [nI_leI (by omega) (by omega)]; omega), shr1 (by omega)]
    cases q : bt p k
    · rw [if_pos (show bI false = 0 from rfl)]
      simp only [ltv_e, nI_1]
      refine mv_lp w1 w5 r6 hw hr x1 x2 y1 y2 d (k + 1) n acc (by omega) (by omega) (fun i hi b => ?_) (fun b hb => (a2 b hb).trans ⟨fun ⟨i, i1, i2⟩ => ⟨i, by omega, i2⟩, fun ⟨i, i1, i2, i3⟩ => ⟨i, ?_, i2, i3⟩⟩)
      · by_cases y : i = k
        · subst y; rw [q] at b; cases b
        · exact a1 i (by omega) b
      · by_cases y : i = k
        · subst y; rw [q] at i2; cases i2
        · omega
    · have hm : k % w < w := Nat.mod_lt _ (by omega)
      have hd : k / w ≤ k := Nat.div_le_self _ _
      have hd0 : (0 : Int) ≤ ((k / w : Nat) : Int) := Int.natCast_nonneg _
      rw [if_neg (show ¬ bI true = 0 by decide), hw, gdv_t (nI_ne0 (by omega) (by omega)), nI_rem (by omega) (by omega) (by omega), nI_div (by omega) (by omega) (by omega), zI_add (x := ((k % w : Nat) : Int)) (nI_t (by omega)) (by omega) (by omega) (by omega) (by omega), zI_add (x := ((k / w : Nat) : Int)) (nI_t (by omega)) (by omega) (by omega) (by omega) (by omega)]
      simp only [ltv_e]
      rw [gdv_t (nI_ne0 (by omega) (by omega)), isPlace_e, bd2_s, hw, hr, zI_t (by omega) (by omega), zI_t (by omega) (by omega), nI_t (by omega), nI_t (by omega)]
      by_cases c : mvIn w r dx dy k
      · rw [bI_dt (show 0 ≤ ((k % w : Nat) : Int) + dx ∧ ((k % w : Nat) : Int) + dx < (w : Int) ∧ 0 ≤ ((k / w : Nat) : Int) + dy ∧ ((k / w : Nat) : Int) + dy < (r : Int) from c), if_neg (by decide)]
        have c' := c
        unfold mvIn at c'
        have ex : zI (((k % w : Nat) : Int) + dx) = nI (((k % w : Nat) : Int) + dx).toNat := by rw [← zI_nI _ (by omega), Int.toNat_of_nonneg c'.1]
        have ey : zI (((k / w : Nat) : Int) + dy) = nI (((k / w : Nat) : Int) + dy).toNat := by rw [← zI_nI _ (by omega), Int.toNat_of_nonneg c'.2.2.1]
        rw [ex, ey, bit_e G hw, bd2_s, nI_1, show (((k / w : Nat) : Int) + dy).toNat * w + (((k % w : Nat) : Int) + dx).toNat = mvTo w dx dy k from rfl]
        have lt : mvTo w dx dy k < w * r := pl_lt (by omega) (by omega)
        refine mv_lp w1 w5 r6 hw hr x1 x2 y1 y2 d (k + 1) n _ (by omega) (by omega) (fun i hi b => ?_) (fun b hb => ?_)
        · by_cases y : i = k
          · subst y; exact c
          · exact a1 i (by omega) b
        · rw [b_or, Bool.or_eq_true, a2 b hb, bitI_b (by omega) hb, decide_eq_true_iff]
          constructor
          · rintro (⟨i, i1, i2⟩ | i1)
            · exact ⟨i, by omega, i2⟩
            · exact ⟨k, by omega, q, i1⟩
          · rintro ⟨i, i1, i2, i3⟩
            by_cases y : i = k
            · subst y; exact Or.inr i3
            · exact Or.inl ⟨i, by omega, i2, i3⟩
      · rw [bI_df (show ¬ (0 ≤ ((k % w : Nat) : Int) + dx ∧ ((k % w : Nat) : Int) + dx < (w : Int) ∧ 0 ≤ ((k / w : Nat) : Int) + dy ∧ ((k / w : Nat) : Int) + dy < (r : Int)) from c), if_pos rfl]
        exact ⟨-1, rfl, Or.inl ⟨rfl, k, by omega, q, c⟩⟩
theorem mv_e {G : HP} {w r : Nat} (w1 : 1 ≤ w) (w5 : w ≤ 5) (r6 : r ≤ 6) (hw : hI G 114 0 = nI w) (hr : hI G 114 1 = nI r) (p : Int32) {dx dy : Int} (x1 : -10 ≤ dx) (x2 : dx ≤ 10) (y1 : -10 ≤ dy) (y2 : dy ≤ 10) :
    ∃ v, f_X12_moved G p (zI dx) (zI dy) = some (v, G) ∧ ((v = -1 ∧ ∃ i, i < w * r ∧ bt p i = true ∧ ¬ mvIn w r dx dy i) ∨ ((∀ i, i < w * r → bt p i = true → mvIn w r dx dy i) ∧ ∀ b, b < 32 → (bt v b = true ↔ ∃ i, i < w * r ∧ bt p i = true ∧ b = mvTo w dx dy i))) := by
  unfold f_X12_moved
  exact mv_lp w1 w5 r6 hw hr x1 x2 y1 y2 (w * r) 0 FU 0 (by omega) (FU_gt (by have := wr_le w5 r6; omega)) (fun i hi => absurd hi (by omega)) (fun b hb => by rw [b_0]; exact ⟨fun q => (by cases q), fun ⟨i, i1, _⟩ => absurd i1 (by omega)⟩)
/-- a picture's corner: its lowest row and column -/
def Cor (w : Nat) (p : Int32) (cx cy : Nat) : Prop := (∀ i, i < 32 → bt p i = true → cx ≤ i % w ∧ cy ≤ i / w) ∧ (∃ i, i < 32 ∧ bt p i = true ∧ i % w = cx) ∧ ∃ i, i < 32 ∧ bt p i = true ∧ i / w = cy
theorem idx_eq {w i : Nat} (hw : 1 ≤ w) : (i / w) * w + i % w = i := by rw [Nat.mul_comm]; exact Nat.div_add_mod i w
theorem div_of {w a b : Nat} (hw : 1 ≤ w) (ha : a < w) : (b * w + a) / w = b ∧ (b * w + a) % w = a := by
  constructor
  · rw [Nat.mul_comm, Nat.mul_add_div (by omega), Nat.div_eq_of_lt ha, Nat.add_zero]
  · rw [Nat.mul_comm, Nat.mul_add_mod, Nat.mod_eq_of_lt ha]
/-- two pictures of one shape: one is the other moved, by the way between their corners alone -/
theorem mv_iff {w r : Nat} (w1 : 1 ≤ w) (w5 : w ≤ 5) (r6 : r ≤ 6) {p q : Int32} {px py qx qy : Nat} (hp : inP w r p) (hq : inP w r q) (P : Cor w p px py) (Q : Cor w q qx qy) {v : Int32} {dx dy : Int} (hv : (v = -1 ∧ ∃ i, i < w * r ∧ bt p i = true ∧ ¬ mvIn w r dx dy i) ∨ ((∀ i, i < w * r → bt p i = true → mvIn w r dx dy i) ∧ ∀ b, b < 32 → (bt v b = true ↔ ∃ i, i < w * r ∧ bt p i = true ∧ b = mvTo w dx dy i))) :
    v = q ↔ ((∀ k, bt p (k + (py * w + px)) = bt q (k + (qy * w + qx))) ∧ dx = (qx : Int) - px ∧ dy = (qy : Int) - py) := by
  have h30 := wr_le w5 r6
  have nq : q ≠ -1 := fun e => by
    have := hq 31 (by decide) (by rw [e]; exact b_m1 31 (by decide))
    omega
  have lt32 : ∀ {x : Int32} {k : Nat}, bt x k = true → k < 32 := fun {x k} h => by
    by_cases z : k < 32
    · exact z
    · rw [b_big (by omega)] at h; cases h
  have to : ∀ i, mvIn w r dx dy i → ((mvTo w dx dy i : Nat) : Int) = (i : Int) + dy * w + dx ∧ mvTo w dx dy i / w = (((i / w : Nat) : Int) + dy).toNat ∧ mvTo w dx dy i % w = (((i % w : Nat) : Int) + dx).toNat := fun i c => by
    unfold mvIn at c
    have e := idx_eq (i := i) w1
    obtain ⟨d1, d2⟩ := div_of (w := w) (a := (((i % w : Nat) : Int) + dx).toNat) (b := (((i / w : Nat) : Int) + dy).toNat) w1 (by omega)
    refine ⟨?_, d1, d2⟩
    unfold mvTo
    rw [Int.natCast_add, Int.natCast_mul, Int.toNat_of_nonneg c.1, Int.toNat_of_nonneg c.2.2.1, Int.add_mul]
    have : ((i / w : Nat) : Int) * (w : Int) + ((i % w : Nat) : Int) = (i : Int) := by
      have := congrArg (Int.ofNat) e
      simp only [Int.ofNat_eq_natCast, Int.natCast_add, Int.natCast_mul] at this; exact this
    omega
  constructor
  · intro e
    subst e
    rcases hv with ⟨z, -⟩ | ⟨a1, a2⟩
    · exact absurd z nq
    · obtain ⟨P1, ⟨i1, i2, i3, i4⟩, ⟨j1, j2, j3, j4⟩⟩ := P
      obtain ⟨Q1, ⟨k1, k2, k3, k4⟩, ⟨l1, l2, l3, l4⟩⟩ := Q
      have fw : ∀ i, bt p i = true → bt v (mvTo w dx dy i) = true ∧ mvIn w r dx dy i := fun i b => by
        have c := a1 i (hp i (lt32 b) b) b
        refine ⟨(a2 _ ?_).mpr ⟨i, hp i (lt32 b) b, b, rfl⟩, c⟩
        unfold mvIn at c
        have : mvTo w dx dy i < w * r := pl_lt (by omega) (by omega)
        omega
      have bw : ∀ k, bt v k = true → ∃ i, bt p i = true ∧ k = mvTo w dx dy i ∧ mvIn w r dx dy i := fun k b => by
        obtain ⟨i, b1, b2, b3⟩ := (a2 k (lt32 b)).mp b
        exact ⟨i, b2, b3, a1 i b1 b2⟩
      have ex : dx = (qx : Int) - px := by
        obtain ⟨f1, f2⟩ := fw i1 i3
        have g1 := (Q1 _ (lt32 f1) f1).1
        rw [(to i1 f2).2.2, i4] at g1
        obtain ⟨m, m1, m2, m3⟩ := bw k1 k3
        have g2 := (P1 m (lt32 m1) m1).1
        have g3 := (to m m3).2.2
        rw [← m2, k4] at g3
        unfold mvIn at f2 m3
        omega
      have ey : dy = (qy : Int) - py := by
        obtain ⟨f1, f2⟩ := fw j1 j3
        have g1 := (Q1 _ (lt32 f1) f1).2
        rw [(to j1 f2).2.1, j4] at g1
        obtain ⟨m, m1, m2, m3⟩ := bw l1 l3
        have g2 := (P1 m (lt32 m1) m1).2
        have g3 := (to m m3).2.1
        rw [← m2, l4] at g3
        unfold mvIn at f2 m3
        omega
      refine ⟨fun k => ?_, ex, ey⟩
      rw [Bool.eq_iff_iff]
      constructor
      · intro b
        obtain ⟨f1, f2⟩ := fw _ b
        have g := (to _ f2).1
        have : mvTo w dx dy (k + (py * w + px)) = k + (qy * w + qx) := by
          have : ((mvTo w dx dy (k + (py * w + px)) : Nat) : Int) = ((k + (qy * w + qx) : Nat) : Int) := by
            rw [g, ex, ey]; simp only [Int.natCast_add, Int.natCast_mul, Int.sub_mul]; omega
          exact Int.ofNat_inj.mp this
        rw [← this]; exact f1
      · intro b
        obtain ⟨m, m1, m2, m3⟩ := bw _ b
        have g := (to _ m3).1
        have : m = k + (py * w + px) := by
          rw [← m2] at g
          rw [ex, ey] at g; simp only [Int.natCast_add, Int.natCast_mul, Int.sub_mul] at g
          have : (m : Int) = ((k + (py * w + px) : Nat) : Int) := by simp only [Int.natCast_add, Int.natCast_mul]; omega
          exact Int.ofNat_inj.mp this
        rw [← this]; exact m1
  · rintro ⟨sh, ex, ey⟩
    have px_w : px < w := by obtain ⟨i1, i2, i3, i4⟩ := P.2.1; rw [← i4]; exact Nat.mod_lt _ (by omega)
    have qx_w : qx < w := by obtain ⟨i1, i2, i3, i4⟩ := Q.2.1; rw [← i4]; exact Nat.mod_lt _ (by omega)
    have key : ∀ i, bt p i = true → mvIn w r dx dy i ∧ bt q (mvTo w dx dy i) = true := fun i b => by
      obtain ⟨c1, c2⟩ := P.1 i (lt32 b) b
      have e := idx_eq (i := i) w1
      have mw := Nat.mod_lt i (show 0 < w by omega)
      have m1 : py * w ≤ (i / w) * w := Nat.mul_le_mul_right w c2
      have s := sh (i - (py * w + px))
      rw [show i - (py * w + px) + (py * w + px) = i by omega, b] at s
      obtain ⟨X, hX⟩ : ∃ X, X = i % w - px + qx := ⟨_, rfl⟩
      obtain ⟨Y, hY⟩ : ∃ Y, Y = i / w - py + qy := ⟨_, rfl⟩
      have eI : i - (py * w + px) + (qy * w + qx) = Y * w + X := by
        rw [hY, Nat.add_mul, Nat.sub_mul]; omega
      rw [eI] at s
      have s' := s.symm
      have xw : X < w := by
        refine Classical.byContradiction (fun z => ?_)
        have e2 : Y * w + X = (Y + 1) * w + (X - w) := by rw [Nat.add_mul]; omega
        have := (Q.1 _ (lt32 s') s').1
        rw [e2, (div_of w1 (by omega)).2] at this
        omega
      have hy : Y < r := by
        have := hq _ (lt32 s') s'
        have h2 := (div_of (w := w) (a := X) (b := Y) w1 xw).1
        rw [← h2, Nat.div_lt_iff_lt_mul (by omega), Nat.mul_comm r w]; exact this
      have cin : mvIn w r dx dy i := by unfold mvIn; omega
      refine ⟨cin, ?_⟩
      have : mvTo w dx dy i = Y * w + X := by
        unfold mvTo
        rw [show (((i / w : Nat) : Int) + dy).toNat = Y by omega, show (((i % w : Nat) : Int) + dx).toNat = X by omega]
      rw [this]; exact s'
    rcases hv with ⟨-, i, i1, i2, i3⟩ | ⟨a1, a2⟩
    · exact absurd (key i i2).1 i3
    · refine b_ext (fun b hb => ?_)
      rw [Bool.eq_iff_iff, a2 b hb]
      constructor
      · rintro ⟨i, i1, i2, i3⟩
        rw [i3]; exact (key i i2).2
      · intro z
        obtain ⟨c1, c2⟩ := Q.1 b hb z
        have e := idx_eq (i := b) w1
        have m1 : qy * w ≤ (b / w) * w := Nat.mul_le_mul_right w c2
        have s := sh (b - (qy * w + qx))
        rw [show b - (qy * w + qx) + (qy * w + qx) = b by omega, z] at s
        refine ⟨_, hp _ (lt32 s) s, s, ?_⟩
        have g := (to _ (key _ s).1).1
        have : ((mvTo w dx dy (b - (qy * w + qx) + (py * w + px)) : Nat) : Int) = (b : Int) := by
          rw [g, ex, ey]; simp only [Int.natCast_add, Int.natCast_mul, Int.sub_mul, Int.natCast_sub (show qy * w + qx ≤ b by omega)]; omega
        exact (Int.ofNat_inj.mp this).symm
