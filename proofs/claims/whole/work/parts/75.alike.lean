/-! ===== alike: heaps of lamps ===== -/
def adj (w r : Nat) (j : Bool) (k p : Nat) : Prop := (w ≤ k ∧ p = k - w) ∨ (k + w < w * r ∧ p = k + w) ∨ (k % w ≠ 0 ∧ p = k - 1) ∨ (k % w = 0 ∧ j = true ∧ p = k + w - 1) ∨ (k % w ≠ w - 1 ∧ p = k + 1) ∨ (k % w = w - 1 ∧ j = true ∧ p = k + 1 - w)
theorem nrF_adj {H : Int32} {w r : Nat} {j : Bool} (w1 : 1 ≤ w) (w5 : w ≤ 5) (r6 : r ≤ 6) {k i : Nat} (hk : k < w * r) (hi : i < 32) : bt (nrF H w r j k) i = true ↔ adj w r j k i ∧ bt H i = true := by
  rw [nrF_b w1 w5 r6 hk hi, Bool.and_eq_true]
  refine and_congr_left (fun _ => ?_)
  unfold adj hasU hasD hasL hasR posL posR
  simp only [Bool.or_eq_true, Bool.and_eq_true, decide_eq_true_eq]
  by_cases h0 : k % w = 0
  · by_cases h1 : k % w = w - 1
    · simp only [h0, ne_eq, not_true_eq_false, if_false, false_and, false_or, true_and, ← h0.symm.trans h1]
      constructor
      · rintro ((a | a) | (a | a))
        · exact Or.inl a
        · exact Or.inr (Or.inl a)
        · exact Or.inr (Or.inr (Or.inl a))
        · exact Or.inr (Or.inr (Or.inr a))
      · rintro (a | a | a | a)
        · exact Or.inl (Or.inl a)
        · exact Or.inl (Or.inr a)
        · exact Or.inr (Or.inl a)
        · exact Or.inr (Or.inr a)
    · have h2 : ¬ (0 = w - 1) := fun e => h1 (h0.trans e)
      simp only [h0, h2, ne_eq, not_true_eq_false, not_false_eq_true, if_false, if_true, false_and, false_or, true_and, true_or, or_false]
      constructor
      · rintro ((a | a) | (a | a))
        · exact Or.inl a
        · exact Or.inr (Or.inl a)
        · exact Or.inr (Or.inr (Or.inl a))
        · exact Or.inr (Or.inr (Or.inr a))
      · rintro (a | a | a | a)
        · exact Or.inl (Or.inl a)
        · exact Or.inl (Or.inr a)
        · exact Or.inr (Or.inl a)
        · exact Or.inr (Or.inr a)
  · by_cases h1 : k % w = w - 1
    · simp only [h0, h1, ne_eq, not_true_eq_false, not_false_eq_true, if_false, if_true, false_and, false_or, true_and, true_or, or_false, ite_true]
      have h2 : ¬ (w - 1 = 0) := fun e => h0 (h1.trans e)
      simp only [h2, not_false_eq_true, if_true, true_or, true_and, false_and, false_or]
      constructor
      · rintro ((a | a) | (a | a))
        · exact Or.inl a
        · exact Or.inr (Or.inl a)
        · exact Or.inr (Or.inr (Or.inl a))
        · exact Or.inr (Or.inr (Or.inr a))
      · rintro (a | a | a | a)
        · exact Or.inl (Or.inl a)
        · exact Or.inl (Or.inr a)
        · exact Or.inr (Or.inl a)
        · exact Or.inr (Or.inr a)
    · simp only [h0, h1, ne_eq, not_false_eq_true, if_true, false_and, false_or, true_and, true_or, or_false]
      constructor
      · rintro ((a | a) | (a | a))
        · exact Or.inl a
        · exact Or.inr (Or.inl a)
        · exact Or.inr (Or.inr (Or.inl a))
        · exact Or.inr (Or.inr (Or.inr a))
      · rintro (a | a | a | a)
        · exact Or.inl (Or.inl a)
        · exact Or.inl (Or.inr a)
        · exact Or.inr (Or.inl a)
        · exact Or.inr (Or.inr a)
theorem adj_s1 {w r : Nat} {j : Bool} (w1 : 1 ≤ w) {k p : Nat} (hk : k < w * r) (hp : p < w * r) (a : adj w r j k p) : adj w r j p k := by
  unfold adj at a ⊢
  have hkm : k % w < w := Nat.mod_lt _ (by omega)
  rcases a with a | a | a | a | a | a
  · exact Or.inr (Or.inl (by omega))
  · exact Or.inl (by omega)
  · have m := mod_pred (by omega) a.1
    have k0 : k ≠ 0 := fun e => a.1 (by rw [e]; exact Nat.zero_mod w)
    rw [← a.2] at m
    exact Or.inr (Or.inr (Or.inr (Or.inr (Or.inl ⟨by omega, by omega⟩))))
  · refine Or.inr (Or.inr (Or.inr (Or.inr (Or.inr ⟨?_, a.2.1, by omega⟩))))
    rw [a.2.2, show k + w - 1 = (w - 1) + k by omega, ← Nat.add_mod_mod, a.1, Nat.add_zero, Nat.mod_eq_of_lt (by omega)]
  · have m := mod_succ0 (k := k) (w := w) (by omega)
    rw [if_neg a.1, ← a.2] at m
    exact Or.inr (Or.inr (Or.inl ⟨by omega, by omega⟩))
  · refine Or.inr (Or.inr (Or.inr (Or.inl ⟨?_, a.2.1, ?_⟩)))
    · have m := mod_succ0 (k := k) (w := w) (by omega)
      have : k % w ≤ k := Nat.mod_le _ _
      rw [if_pos a.1, show k + 1 = (k + 1 - w) + w by omega, Nat.add_mod_right] at m
      rw [a.2.2]; exact m
    · have : k % w ≤ k := Nat.mod_le _ _
      omega
def sub (x y : Int32) : Prop := ∀ i, i < 32 → bt x i = true → bt y i = true
theorem sub.rfl' (x : Int32) : sub x x := fun _ _ h => h
theorem sub.tr {x y z : Int32} (a : sub x y) (b : sub y z) : sub x z := fun i hi h => b i hi (a i hi h)
theorem sub.eq {x y : Int32} (a : sub x y) (b : sub y x) : x = y := b_ext (fun i hi => by
  rw [Bool.eq_iff_iff]; exact ⟨a i hi, b i hi⟩)
theorem sub.pc {x y : Int32} (a : sub x y) : x = y ∨ pc x < pc y := by
  by_cases e : y &&& (x ^^^ -1) = 0
  · refine Or.inl (a.eq (fun i hi h => ?_))
    have := congrArg (fun v => bt v i) e
    simp only [b_and, b_xor, b_m1 i hi, b_0, h, Bool.true_and, Bool.xor_true] at this
    cases q : bt x i
    · rw [q] at this; cases this
    · rfl
  · refine Or.inr ?_
    have p := pc_pos e
    have : Jvm.Pilot.CWindowHillLaw_law_r2897_20a870.pc y = Jvm.Pilot.CWindowHillLaw_law_r2897_20a870.pc x + Jvm.Pilot.CWindowHillLaw_law_r2897_20a870.pc (y &&& (x ^^^ -1)) := by
      unfold Jvm.Pilot.CWindowHillLaw_law_r2897_20a870.pc
      rw [← fb_ct_or (fun k hk q => by rw [b_and, b_xor, q.1, b_m1 k hk] at q; simp at q)]
      refine fb_ct_cong (fun k hk => ?_)
      have := a k hk
      rw [b_and, b_xor, b_m1 k hk]
      cases h : bt x k
      · simp
      · rw [this h]; rfl
    omega
theorem sub.or1 (x y : Int32) : sub x (x ||| y) := fun i hi h => by rw [b_or, h]; rfl
/-- a set closed among the lit ones -/
def Cl (w r : Nat) (j : Bool) (lit C : Int32) : Prop := ∀ p q, p < 32 → q < 32 → bt C p = true → adj w r j p q → bt lit q = true → bt C q = true
/-- the least closed set above b -/
def IsH (w r : Nat) (j : Bool) (lit b X : Int32) : Prop := sub b X ∧ Cl w r j lit X ∧ ∀ C, sub b C → Cl w r j lit C → sub X C
theorem IsH.uq {w r : Nat} {j : Bool} {lit b X Y : Int32} (a : IsH w r j lit b X) (c : IsH w r j lit b Y) : X = Y := sub.eq (a.2.2 Y c.1 c.2.1) (c.2.2 X a.1 a.2.1)
def inP (w r : Nat) (x : Int32) : Prop := ∀ i, i < 32 → bt x i = true → i < w * r
theorem ar_b {f : Nat → Int32} {w r : Nat} {j : Bool} (H : HillOK f w r j) (hj : j = true → 2 < w) {x : Int32} (hx : inP w r x) {k : Nat} (hk : k < w * r) : bt (aroundF f x) k = true ↔ ∃ p, p < 32 ∧ bt x p = true ∧ adj w r j p k := by
  have h30 := wr_le H.1.2.1 H.2.1.2
  have e : bt (aroundF f x) k = (bt (leftF f x) k || bt (rightF f x) k || bt (aboveF f x) k || bt (belowF f x) k) := by
    unfold aroundF aroundB leftF rightF aboveF belowF
    split
    · simp only [b_or]
    · simp only [b_or]
      cases bt (shl (x &&& (f 8 ^^^ -1)) 1) k <;> cases bt (shr (x &&& f 8) (f 0 - 1)) k <;> cases bt (shr (x &&& (f 7 ^^^ -1)) 1) k <;> cases bt (shl (x &&& f 7) (f 0 - 1)) k <;> simp
  have h3 : sub x (f 3) := fun i hi b => by rw [(H.2.2.2 i hi).1]; exact decide_eq_true (hx i hi b)
  have ct := near_ct (H := f 3) (x := x) (j := j) H.1.1 H.1.2.1 H.2.1.2 hj h3 hx hk
  have c0 : (bt (leftF f x) k || bt (rightF f x) k || bt (aboveF f x) k || bt (belowF f x) k) = true ↔ nbC w j (bt x) k ≠ 0 := by
    rw [left_b H hx hk, right_b H hx hk, above_b H x hk, below_b H hx hk]
    unfold nbC
    cases nbL w j (bt x) k <;> cases nbR w j (bt x) k <;> cases nbU w (bt x) k <;> cases nbD w (bt x) k <;> decide
  rw [e, c0, ← ct]
  constructor
  · intro h
    have : nrF (f 3) w r j k &&& x ≠ 0 := fun z => h (by rw [z, pc_0])
    obtain ⟨p, p1, p2⟩ := ne0_b.mp this
    rw [b_and, Bool.and_eq_true, nrF_adj H.1.1 H.1.2.1 H.2.1.2 hk p1] at p2
    exact ⟨p, p1, p2.2, adj_s1 H.1.1 hk (hx p p1 p2.2) p2.1.1⟩
  · rintro ⟨p, p1, p2, p3⟩
    have : nrF (f 3) w r j k &&& x ≠ 0 := ne0_b.mpr ⟨p, p1, by rw [b_and, Bool.and_eq_true, nrF_adj H.1.1 H.1.2.1 H.2.1.2 hk p1]; exact ⟨⟨adj_s1 H.1.1 (hx p p1 p2) hk p3, h3 p p1 p2⟩, p2⟩⟩
    have := pc_pos this
    omega
theorem grow_H {f : Nat → Int32} {w r : Nat} {j : Bool} (H : HillOK f w r j) (hj : j = true → 2 < w) {lit b : Int32} (hl : inP w r lit) : ∀ n x, sub b x → sub x lit → (∀ C, sub b C → Cl w r j lit C → sub x C) → pc lit ≤ pc x + n → IsH w r j lit b (growF f lit n x)
  | 0, x, h1, h2, h3, h4 => by
    refine ⟨h1, ?_, h3⟩
    rcases h2.pc with e | e
    · rw [growF, e]; exact fun p q _ _ _ _ h => h
    · omega
  | n + 1, x, h1, h2, h3, h4 => by
    have hx : inP w r x := fun i hi b => hl i hi (h2 i hi b)
    have yb : ∀ k, k < 32 → (bt (x ||| (aroundF f x &&& lit)) k = true ↔ bt x k = true ∨ (bt lit k = true ∧ ∃ p, p < 32 ∧ bt x p = true ∧ adj w r j p k)) := fun k hk => by
      rw [b_or, b_and, Bool.or_eq_true, Bool.and_eq_true]
      constructor
      · rintro (a | ⟨a, b⟩)
        · exact Or.inl a
        · exact Or.inr ⟨b, (ar_b H hj hx (hl k hk b)).mp a⟩
      · rintro (a | ⟨a, b⟩)
        · exact Or.inl a
        · exact Or.inr ⟨(ar_b H hj hx (hl k hk a)).mpr b, a⟩
    rw [growF]
    by_cases e : x ||| (aroundF f x &&& lit) = x
    · rw [if_pos e]
      refine ⟨h1, fun p q hp hq a c d => ?_, h3⟩
      have := (yb q hq).mpr (Or.inr ⟨d, p, hp, a, c⟩)
      rw [e] at this; exact this
    · rw [if_neg e]
      refine grow_H H hj hl n _ (h1.tr (sub.or1 _ _)) (fun i hi a => ?_) (fun C c1 c2 i hi a => ?_) ?_
      · rcases (yb i hi).mp a with a | a
        · exact h2 i hi a
        · exact a.1
      · rcases (yb i hi).mp a with a | ⟨a, p, p1, p2, p3⟩
        · exact h3 C c1 c2 i hi a
        · exact c2 p i p1 hi (h3 C c1 c2 p p1 p2) p3 a
      · rcases (sub.or1 x (aroundF f x &&& lit)).pc with q | q
        · exact absurd q.symm e
        · omega
