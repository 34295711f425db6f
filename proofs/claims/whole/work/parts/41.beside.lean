/-! ===== the class's world beside the reference's ===== -/
/-- a YEAR's entry k: the class's words beside the reference's six numbers; w, r: the town's size, m: its rules, e: how many entries -/
def RyE (h : HP) (y b w r m e k : Nat) : Prop :=
  (hI h (y + 1) k = 9 ∧ hI h 114 (b + 44 + 6 * k) = 9 ∧ ∃ f, 1 ≤ f ∧ f ≤ 99 ∧ hI h (y + 3) k = nI f ∧ hI h 114 (b + 45 + 6 * k) = nI f) ∨
  (hI h (y + 1) k = 10 ∧ hI h 114 (b + 44 + 6 * k) = 10 ∧ ∃ x z, x < w ∧ z < r ∧ hI h (y + 3) k = nI x ∧ hI h 114 (b + 45 + 6 * k) = nI x ∧ hI h (y + 4) k = nI z ∧ hI h 114 (b + 46 + 6 * k) = nI z) ∨
  (hI h (y + 1) k = 11 ∧ hI h 114 (b + 44 + 6 * k) = 11 ∧ ∃ q, q < m ∧ hI h (y + 3) k = nI q ∧ hI h 114 (b + 45 + 6 * k) = nI q) ∨
  (hI h (y + 1) k = 12 ∧ hI h 114 (b + 44 + 6 * k) = 12) ∨
  (hI h (y + 1) k = 13 ∧ hI h 114 (b + 44 + 6 * k) = 13 ∧ ∃ q, q ≤ 16 ∧ hI h (y + 3) k = nI q ∧ hI h 114 (b + 45 + 6 * k) = nI q) ∨
  (hI h (y + 1) k = 14 ∧ hI h 114 (b + 44 + 6 * k) = 14) ∨
  (hI h (y + 1) k = 15 ∧ ((hI h (y + 2) k = 18 ∧ hI h 114 (b + 44 + 6 * k) = 1521) ∨
      (hI h (y + 2) k = 17 ∧ hI h 114 (b + 44 + 6 * k) = 1520 ∧ ∃ x z, x < w ∧ z < r ∧ hI h (y + 3) k = nI x ∧ hI h 114 (b + 45 + 6 * k) = nI x ∧ hI h (y + 4) k = nI z ∧ hI h 114 (b + 46 + 6 * k) = nI z) ∨
      (hI h 114 (b + 44 + 6 * k) = 1519 ∧ hI h (y + 2) k = hI h 114 (b + 49 + 6 * k) ∧ (hI h 114 (b + 49 + 6 * k) = 60 ∨ hI h 114 (b + 49 + 6 * k) = 61 ∨ hI h 114 (b + 49 + 6 * k) = 62) ∧ ∃ q, q ≤ 30 ∧ hI h (y + 3) k = nI q ∧ hI h 114 (b + 45 + 6 * k) = nI q)) ∧
      ∃ p, k < p ∧ p < e ∧ hI h (y + 5) k = nI p ∧ hI h 114 (b + 48 + 6 * k) = nI p ∧ hI h (y + 1) p = 20 ∧ hI h (y + 5) p = nI k) ∨
  (hI h (y + 1) k = 19 ∧ hI h 114 (b + 44 + 6 * k) = 16 ∧ (∃ f, 1 ≤ f ∧ f ≤ 99 ∧ hI h (y + 3) k = nI f ∧ hI h 114 (b + 45 + 6 * k) = nI f) ∧
      ∃ p, k < p ∧ p < e ∧ hI h (y + 5) k = nI p ∧ hI h 114 (b + 48 + 6 * k) = nI p ∧ hI h (y + 1) p = 20 ∧ hI h (y + 5) p = nI k) ∨
  (hI h (y + 1) k = 20 ∧ hI h 114 (b + 44 + 6 * k) = 17 ∧ ∃ p, p < k ∧ hI h (y + 5) k = nI p ∧ hI h 114 (b + 48 + 6 * k) = nI p ∧ (hI h (y + 1) p = 15 ∨ hI h (y + 1) p = 19) ∧ hI h (y + 5) p = nI k) ∨
  (hI h (y + 1) k = 21 ∧ hI h 114 (b + 44 + 6 * k) = 18)
/-- blocks lie in each other or apart -/
def RyN (h : HP) (y e : Nat) : Prop := ∀ i j p q, i < j → j < p → p < e → q < e → (hI h (y + 1) i = 15 ∨ hI h (y + 1) i = 19) → (hI h (y + 1) j = 15 ∨ hI h (y + 1) j = 19) → hI h (y + 5) i = nI p → hI h (y + 5) j = nI q → q < p
def Ry (h : HP) (y b w r m : Nat) : Prop :=
  (hI h y 5 = 0 ∧ hI h y 6 = 0 ∧ hI h 114 (b + 11) = -1) ∨ (hI h y 5 = 1 ∧ ∃ e, e ≤ 60 ∧ hI h y 6 = nI e ∧ hI h 114 (b + 11) = nI e ∧ (∀ k, k < e → RyE h y b w r m e k) ∧ RyN h y e)
/-- a town's size and lamps -/
def RtH (h : HP) (t b w r : Nat) : Prop :=
  (1 ≤ w ∧ w ≤ 5 ∧ hI h 114 b = nI w ∧ hI h (t + 1) 0 = nI w) ∧ (1 ≤ r ∧ r ≤ 6 ∧ hI h 114 (b + 1) = nI r ∧ hI h (t + 1) 1 = nI r) ∧
  (hI h (t + 1) 2 = hI h 114 (b + 9) ∧ (hI h 114 (b + 9) = 0 ∨ (hI h 114 (b + 9) = 1 ∧ 2 < w))) ∧
  (∀ i, i < 32 → (bt (hI h (t + 1) 3) i = decide (i < w * r) ∧ bt (hI h (t + 1) 7) i = decide (i < w * r ∧ i % w = 0) ∧ bt (hI h (t + 1) 8) i = decide (i < w * r ∧ i % w = w - 1))) ∧
  (hI h (t + 1) 4 = hI h 114 (b + 2) ∧ hI h t 13 = hI h 114 (b + 3)) ∧
  (∀ i, i < 32 → (bt (hI h (t + 1) 5) i = (bt (hI h 114 (b + 2)) i && !bt (hI h 114 (b + 4)) i)) ∧ bt (hI h (t + 1) 6) i = (bt (hI h 114 (b + 3)) i && bt (hI h 114 (b + 4)) i)) ∧
  (∀ i, i < 32 → (bt (hI h 114 (b + 2)) i = true → i < w * r) ∧ (bt (hI h 114 (b + 3)) i = true → bt (hI h 114 (b + 2)) i = true) ∧ (bt (hI h 114 (b + 4)) i = true → bt (hI h 114 (b + 2)) i = true))
/-- a name's letters as one number, by 27 and by 256 -/
def n27 (l : List Nat) : Nat := l.foldl (fun v c => v * 27 + (c - 96)) 0
def n256 (l : List Nat) : Nat := l.foldl (fun v c => v * 256 + c) 0
/-- a name as the class has it beside the reference's -/
def NmR (a b : Int64) : Prop := ∃ l : List Nat, 1 ≤ l.length ∧ l.length ≤ 8 ∧ (∀ c, c ∈ l → 97 ≤ c ∧ c ≤ 122) ∧ a = Int64.ofNat (n27 l) ∧ b = Int64.ofNat (n256 l)
/-- its rules and citizens -/
def RtR (h : HP) (t b nb m c : Nat) : Prop :=
  (m ≤ 4 ∧ hI h 114 (b + 5) = nI m ∧ hI h t 10 = nI m) ∧ (c ≤ 6 ∧ hI h 114 (b + 6) = nI c ∧ hI h t 11 = nI c) ∧
  ((m = 0 ∧ hI h 114 (b + 10) = -1) ∨ ∃ q, q < m ∧ hI h 114 (b + 10) = nI q ∧ hI h t 12 = nI q) ∧
  (∀ i, i < m → hI h (t + 10) i = hI h 114 (b + 12 + 2 * i) ∧ hI h (t + 11) i = hI h 114 (b + 13 + 2 * i) ∧ NmR (hL h (t + 9) i) (hL h 115 (nb + i))) ∧
  (∀ i, i < c → hI h (t + 13) i = hI h 114 (b + 20 + 2 * i) ∧ hI h (t + 14) i = hI h 114 (b + 21 + 2 * i) ∧ True) ∧
  (∀ i, i < m → (∃ n, n < 32 ∧ hI h 114 (b + 12 + 2 * i) = nI n) ∧ ∃ n, n < 32 ∧ hI h 114 (b + 13 + 2 * i) = nI n) ∧
  (∀ i, i < c → ∃ n k, n ≤ k ∧ k ≤ 30 ∧ hI h 114 (b + 20 + 2 * i) = nI n ∧ hI h 114 (b + 21 + 2 * i) = nI k)
/-- what became of it -/
def RtS (h : HP) (t b : Nat) : Prop :=
  (hI h t 14 = hI h 114 (b + 7) ∧ hI h t 15 = hI h 114 (b + 8)) ∧ ∀ i, i < 10 → hI h (t + 15) i = hI h 114 (b + 32 + i) ∧ ∃ n, n < 4 ∧ hI h 114 (b + 32 + i) = nI n
def Rt (h : HP) (t b nb : Nat) : Prop := ∃ w r m c, RtH h t b w r ∧ RtR h t b nb m c ∧ RtS h t b ∧ Ry h (t + 3) b w r m
def Rst (h : HP) : Prop := hI h 0 11 = hI h 113 2 ∧ hL h 0 12 = hL h 113 3 ∧ hL h 0 13 = hL h 113 4
def Rtr (h : HP) : Prop := (∀ k, k < 4 → (hI h 3 k = hI h 116 k ∧ hI h 4 k = hI h 117 k) ∧ (∃ s, s < 4 ∧ hI h 116 k = nI s) ∧ (hI h 117 k = -1 ∨ ∃ m, m ≤ 60 ∧ hI h 117 k = nI m)) ∧ ∀ j, j < 240 → hL h 2 j = hL h 118 j
def Rtk (h : HP) : Prop := (∃ f, f ≤ 900 ∧ hI h 5 7 = nI f ∧ hI h 113 10 = nI f ∧ ∀ k, k < f → hI h 6 k = hI h 119 k ∧ ∃ c : Int8, hI h 119 k = c.toInt32) ∧ hI h 5 12 = hI h 113 16 ∧ hI h 5 13 = hI h 113 17
def Rlv (h : HP) : Prop := (hI h 0 14 = hI h 113 37 ∧ is01 (hI h 113 37)) ∧ (hI h 113 37 = 1 → hI h 75 3 = hI h 129 0 ∧ hI h 75 4 = hI h 129 1 ∧ hI h 75 5 = hI h 129 2 ∧ hI h 75 6 = hI h 129 3 ∧ hI h 75 7 = hI h 129 4 ∧ is01 (hI h 129 4))
def Rmk (h : HP) : Prop := ∃ n, n ≤ 3 ∧ hI h 0 10 = nI n ∧ hI h 113 38 = nI n ∧ ∀ i, i < n → Rt h (14 + 17 * i) (410 * (i + 1)) (10 * (i + 1))
/-- the codes of the class's 22 kept words -/
def kwS (k : Nat) : List Nat := match k with
  | 0 => [119, 105, 100, 101]
  | 1 => [114, 105, 110, 103]
  | 2 => [114, 111, 119]
  | 3 => [114, 117, 108, 101]
  | 4 => [98, 111, 114, 110]
  | 5 => [115, 116, 97, 121, 115]
  | 6 => [99, 105, 116, 105, 122, 101, 110]
  | 7 => [108, 105, 107, 101, 115]
  | 8 => [116, 111]
  | 9 => [110, 105, 103, 104, 116]
  | 10 => [116, 117, 114, 110]
  | 11 => [109, 97, 121, 111, 114]
  | 12 => [101, 108, 101, 99, 116]
  | 13 => [115, 116, 111, 114, 109]
  | 14 => [98, 105, 114, 116, 104]
  | 15 => [119, 104, 101, 110]
  | 16 => [108, 105, 116]
  | 17 => [108, 97, 109, 112]
  | 18 => [115, 97, 109, 101]
  | 19 => [108, 111, 111, 112]
  | 20 => [101, 110, 100]
  | _ => [115, 116, 111, 112]
def kwC (k : Nat) : Int64 := Int64.ofNat (n27 (kwS k))
def Rkw (h : HP) : Prop := ∀ k, k < 22 → hL h 7 k = kwC k
def Inv (h : HP) (t u : Nat) : Prop :=
  (Lay h ∧ MarksAt h ∧ (isT t ∧ isT u ∧ (t = 79 ∧ u = 96 ∨ t = 96 ∧ u = 79)) ∧ hR h 0 8 = t ∧ hR h 0 9 = u) ∧ Rst h ∧ Rtr h ∧ Rtk h ∧ Rlv h ∧ Rkw h ∧ Rt h t 0 0 ∧ Rmk h
/-- the cells of a town that matter -/
def inT (t b j : Nat) : Prop := (b = t ∧ 10 ≤ j) ∨ (b = t + 1 ∧ j < 9) ∨ (b = t + 3 ∧ 5 ≤ j) ∨ (t + 4 ≤ b ∧ b ≤ t + 8) ∨ b = t + 10 ∨ b = t + 11 ∨ b = t + 13 ∨ b = t + 14 ∨ b = t + 15
def inTL (t b : Nat) : Prop := b = t + 9 ∨ b = t + 12
/-- two heaps alike in all that matters of a town -/
def SmT (h h' : HP) (t b nb : Nat) : Prop := (∀ a j, inT t a j → hI h' a j = hI h a j) ∧ (∀ a, inTL t a → hL h' a = hL h a) ∧ (∀ j, b ≤ j → j < b + 410 → hI h' 114 j = hI h 114 j) ∧ ∀ j, nb ≤ j → j < nb + 10 → hL h' 115 j = hL h 115 j
theorem RyE.same {h h' : HP} {t b nb w r m e k : Nat} (s : SmT h h' t b nb) (he : e ≤ 60) (hk : k < e) (q : RyE h (t + 3) b w r m e k) : RyE h' (t + 3) b w r m e k := by
  obtain ⟨s1, s2, s3, s4⟩ := s
  have w1 : ∀ p, hI h' (t + 3 + 1) p = hI h (t + 3 + 1) p := fun p => s1 _ _ (Or.inr (Or.inr (Or.inr (Or.inl ⟨by omega, by omega⟩))))
  have w2 : ∀ p, hI h' (t + 3 + 2) p = hI h (t + 3 + 2) p := fun p => s1 _ _ (Or.inr (Or.inr (Or.inr (Or.inl ⟨by omega, by omega⟩))))
  have w3 : ∀ p, hI h' (t + 3 + 3) p = hI h (t + 3 + 3) p := fun p => s1 _ _ (Or.inr (Or.inr (Or.inr (Or.inl ⟨by omega, by omega⟩))))
  have w4 : ∀ p, hI h' (t + 3 + 4) p = hI h (t + 3 + 4) p := fun p => s1 _ _ (Or.inr (Or.inr (Or.inr (Or.inl ⟨by omega, by omega⟩))))
  have w5 : ∀ p, hI h' (t + 3 + 5) p = hI h (t + 3 + 5) p := fun p => s1 _ _ (Or.inr (Or.inr (Or.inr (Or.inl ⟨by omega, by omega⟩))))
  have a0 := s3 (b + 44 + 6 * k) (by omega) (by omega)
  have a1 := s3 (b + 45 + 6 * k) (by omega) (by omega)
  have a2 := s3 (b + 46 + 6 * k) (by omega) (by omega)
  have a4 := s3 (b + 48 + 6 * k) (by omega) (by omega)
  have a5 := s3 (b + 49 + 6 * k) (by omega) (by omega)
  unfold RyE at q ⊢
  simp only [w1, w2, w3, w4, w5, a0, a1, a2, a4, a5]
  exact q
theorem RyE.same2 {h h' : HP} {y b w r m e k : Nat} (he : e ≤ 60) (hk : k < e) (s1 : ∀ a p, 1 ≤ a → a ≤ 5 → hI h' (y + a) p = hI h (y + a) p) (s3 : ∀ j, 44 ≤ j → j < 404 → hI h' 114 (b + j) = hI h 114 (b + j)) (q : RyE h y b w r m e k) : RyE h' y b w r m e k := by
  have a0 := s3 (44 + 6 * k) (by omega) (by omega)
  have a1 := s3 (45 + 6 * k) (by omega) (by omega)
  have a2 := s3 (46 + 6 * k) (by omega) (by omega)
  have a4 := s3 (48 + 6 * k) (by omega) (by omega)
  have a5 := s3 (49 + 6 * k) (by omega) (by omega)
  simp only [← Nat.add_assoc] at a0 a1 a2 a4 a5
  unfold RyE at q ⊢
  simp only [fun p => s1 1 p (by decide) (by decide), fun p => s1 2 p (by decide) (by decide), fun p => s1 3 p (by decide) (by decide), fun p => s1 4 p (by decide) (by decide), fun p => s1 5 p (by decide) (by decide), a0, a1, a2, a4, a5]
  exact q
theorem Ry.same2 {h h' : HP} {y b w r m : Nat} (s0 : ∀ j, j = 5 ∨ j = 6 → hI h' y j = hI h y j) (s1 : ∀ a p, 1 ≤ a → a ≤ 5 → hI h' (y + a) p = hI h (y + a) p) (s2 : hI h' 114 (b + 11) = hI h 114 (b + 11)) (s3 : ∀ j, 44 ≤ j → j < 404 → hI h' 114 (b + j) = hI h 114 (b + j)) (q : Ry h y b w r m) : Ry h' y b w r m := by
  unfold Ry at q ⊢
  rw [s0 5 (Or.inl rfl), s0 6 (Or.inr rfl), s2]
  rcases q with q | ⟨q1, e, q2, q3, q4, q5, q6⟩
  · exact Or.inl q
  · refine Or.inr ⟨q1, e, q2, q3, q4, fun k hk => (q5 k hk).same2 q2 hk s1 s3, ?_⟩
    unfold RyN at q6 ⊢
    simp only [fun p => s1 1 p (by decide) (by decide), fun p => s1 5 p (by decide) (by decide)]; exact q6
theorem RtH.same2 {h h' : HP} {t b w r : Nat} (x : ∀ j, j < 9 → hI h' (t + 1) j = hI h (t + 1) j) (x2 : hI h' t 13 = hI h t 13) (x3 : ∀ j, j ≤ 4 ∨ j = 9 → hI h' 114 (b + j) = hI h 114 (b + j)) (q1 : RtH h t b w r) : RtH h' t b w r := by
  unfold RtH at q1 ⊢
  have z := x3 0 (by omega)
  simp only [Nat.add_zero] at z
  rw [x 0 (by decide), x 1 (by decide), x 2 (by decide), x 3 (by decide), x 4 (by decide), x 5 (by decide), x 6 (by decide), x 7 (by decide), x 8 (by decide), x2, z, x3 1 (by omega), x3 9 (by omega), x3 2 (by omega), x3 3 (by omega), x3 4 (by omega)]
  exact q1
theorem RtR.same2 {h h' : HP} {t b nb m c : Nat} (x : ∀ j, 10 ≤ j → j ≤ 12 → hI h' t j = hI h t j) (y : ∀ a i, 10 ≤ a → a ≤ 14 → a ≠ 12 → hI h' (t + a) i = hI h (t + a) i) (z : ∀ a i, a = 9 ∨ a = 12 → hL h' (t + a) i = hL h (t + a) i) (s3 : ∀ j, j = 5 ∨ j = 6 ∨ j = 10 ∨ (12 ≤ j ∧ j < 32) → hI h' 114 (b + j) = hI h 114 (b + j)) (s4 : ∀ j, j < 10 → hL h' 115 (nb + j) = hL h 115 (nb + j)) (q2 : RtR h t b nb m c) : RtR h' t b nb m c := by
  unfold RtR at q2 ⊢
  obtain ⟨p1, p2, p3, p4, p5, p6, p7⟩ := q2
  rw [x 10 (by decide) (by decide), x 11 (by decide) (by decide), x 12 (by decide) (by decide), s3 5 (by omega), s3 6 (by omega), s3 10 (by omega)]
  have hm := p1.1
  have hc := p2.1
  have s12 := fun i (hi : i < m) => s3 (12 + 2 * i) (by omega)
  have s13 := fun i (hi : i < m) => s3 (13 + 2 * i) (by omega)
  have s20 := fun i (hi : i < c) => s3 (20 + 2 * i) (by omega)
  have s21 := fun i (hi : i < c) => s3 (21 + 2 * i) (by omega)
  have s44 := fun i (hi : i < c) => s4 (4 + i) (by omega)
  simp only [← Nat.add_assoc] at s12 s13 s20 s21 s44
  refine ⟨p1, p2, p3, fun i hi => ?_, fun i hi => ?_, fun i hi => ?_, fun i hi => ?_⟩
  · rw [y 10 i (by decide) (by decide) (by decide), y 11 i (by decide) (by decide) (by decide), z 9 i (Or.inl rfl), s12 i hi, s13 i hi, s4 i (by omega)]; exact p4 i hi
  · rw [y 13 i (by decide) (by decide) (by decide), y 14 i (by decide) (by decide) (by decide), s20 i hi, s21 i hi]; exact p5 i hi
  · rw [s12 i hi, s13 i hi]; exact p6 i hi
  · rw [s20 i hi, s21 i hi]; exact p7 i hi
theorem RtS.same2 {h h' : HP} {t b : Nat} (x : ∀ j, j = 14 ∨ j = 15 → hI h' t j = hI h t j) (y : ∀ i, i < 10 → hI h' (t + 15) i = hI h (t + 15) i) (s3 : ∀ j, j = 7 ∨ j = 8 ∨ (32 ≤ j ∧ j < 42) → hI h' 114 (b + j) = hI h 114 (b + j)) (q3 : RtS h t b) : RtS h' t b := by
  unfold RtS at q3 ⊢
  have s32 := fun i (hi : i < 10) => s3 (32 + i) (by omega)
  simp only [← Nat.add_assoc] at s32
  rw [x 14 (by decide), x 15 (by decide), s3 7 (by omega), s3 8 (by omega)]
  refine ⟨q3.1, fun i hi => ?_⟩
  rw [y i hi, s32 i hi]; exact q3.2 i hi
theorem Rt.same {h h' : HP} {t b nb : Nat} (s : SmT h h' t b nb) (q : Rt h t b nb) : Rt h' t b nb := by
  obtain ⟨w, r, m, c, q1, q2, q3, q4⟩ := q
  obtain ⟨s1, s2, s3, s4⟩ := s
  have a3 : ∀ j, j < 410 → hI h' 114 (b + j) = hI h 114 (b + j) := fun j hj => s3 _ (by omega) (by omega)
  refine ⟨w, r, m, c, q1.same2 (fun j hj => s1 _ _ (by unfold inT; omega)) (s1 _ _ (by unfold inT; omega)) (fun j hj => a3 j (by omega)),
    q2.same2 (fun j h1 h2 => s1 _ _ (by unfold inT; omega)) (fun a i h1 h2 h3 => s1 _ _ (by unfold inT; omega)) (fun a i h1 => by rw [s2 _ (by unfold inTL; omega)]) (fun j hj => a3 j (by omega)) (fun j hj => s4 _ (by omega) (by omega)),
    q3.same2 (fun j hj => s1 _ _ (by unfold inT; omega)) (fun j hj => s1 _ _ (by unfold inT; omega)) (fun j hj => a3 j (by omega)), ?_⟩
  exact Ry.same2 (h := h) (fun j hj => s1 _ _ (by unfold inT; omega)) (fun a p h1 h2 => s1 _ _ (by unfold inT; omega)) (a3 11 (by omega)) (fun j h1 h2 => a3 j (by omega)) q4
