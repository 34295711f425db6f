/-! ===== alike: heaps counted ===== -/
theorem b_neg {x : Int32} {i : Nat} (hi : i < 32) : bt (-x) i = (bt x i ^^ decide (∃ j, j < i ∧ bt x j = true)) := by
  unfold bt
  rw [Int32.toBitVec_neg, BitVec.getLsbD_neg, decide_eq_true hi, Bool.true_and]
theorem low_bit {x : Int32} {k : Nat} (hk : k < 32) (h1 : bt x k = true) (h2 : ∀ i, i < k → bt x i = false) : x &&& (-x) = bitI k := by
  refine b_ext (fun i hi => ?_)
  rw [b_and, b_neg hi, bitI_b hk hi]
  by_cases e : i = k
  · subst e
    rw [h1, decide_eq_true rfl, decide_eq_false (fun ⟨j, a, b⟩ => by rw [h2 j a] at b; cases b)]; rfl
  · rw [decide_eq_false e]
    by_cases l : i < k
    · rw [h2 i l]; rfl
    · rw [decide_eq_true (p := ∃ j, j < i ∧ bt x j = true) ⟨k, by omega, h1⟩]
      cases bt x i <;> rfl
/-- the heap of a place -/
def hpX (f : Nat → Int32) (lit : Int32) (k : Nat) : Int32 := growF f lit 30 (lit &&& bitI k)
/-- what is left when the heaps of k places are taken -/
def rmX (f : Nat → Int32) (lit : Int32) : Nat → Int32
  | 0 => lit
  | k + 1 => rmX f lit k &&& (hpX f lit k ^^^ -1)
def knX (f : Nat → Int32) (lit : Int32) : Nat → Nat
  | 0 => 0
  | k + 1 => knX f lit k + (if hpX f lit k ≠ 0 ∧ hpX f lit k &&& (bitI k - 1) = 0 then 1 else 0)
def mxX (f : Nat → Int32) (lit : Int32) : Nat → Nat
  | 0 => 0
  | k + 1 => if mxX f lit k < pc (hpX f lit k) then pc (hpX f lit k) else mxX f lit k
def HpOK (w r : Nat) (j : Bool) (lit : Int32) (g : Nat → Int32) : Prop := 1 ≤ w ∧ inP w r lit ∧ ∀ k, k < 32 → IsH w r j lit (lit &&& bitI k) (g k)
theorem hp_lit {w r : Nat} {j : Bool} {lit : Int32} {g : Nat → Int32} (H : HpOK w r j lit g) {k : Nat} (hk : k < 32) : sub (g k) lit :=
  (H.2.2 k hk).2.2 lit (fun i hi a => by rw [b_and, Bool.and_eq_true] at a; exact a.1) (fun _ _ _ _ _ _ q => q)
theorem hp_self {w r : Nat} {j : Bool} {lit : Int32} {g : Nat → Int32} (H : HpOK w r j lit g) {k : Nat} (hk : k < 32) (l : bt lit k = true) : bt (g k) k = true :=
  (H.2.2 k hk).1 k hk (by rw [b_and, l, bitI_b hk hk, decide_eq_true rfl]; rfl)
theorem hp_dark {w r : Nat} {j : Bool} {lit : Int32} {g : Nat → Int32} (H : HpOK w r j lit g) {k : Nat} (hk : k < 32) (l : bt lit k = false) : g k = 0 := by
  refine sub.eq ((H.2.2 k hk).2.2 0 (fun i hi a => ?_) (fun p q _ _ a => ?_)) (fun i _ a => ?_)
  · rw [b_and, bitI_b hk hi, Bool.and_eq_true, decide_eq_true_eq] at a
    rw [a.2, l] at a; cases a.1
  · rw [b_0] at a; cases a
  · rw [b_0] at a; cases a
theorem hp_le {w r : Nat} {j : Bool} {lit : Int32} {g : Nat → Int32} (H : HpOK w r j lit g) {p q : Nat} (hp : p < 32) (hq : q < 32) (a : bt (g p) q = true) : sub (g q) (g p) :=
  (H.2.2 q hq).2.2 (g p) (fun i hi b => by
    rw [b_and, bitI_b hq hi, Bool.and_eq_true, decide_eq_true_eq] at b
    rw [b.2]; exact a) (H.2.2 p hp).2.1
theorem hp_sym {w r : Nat} {j : Bool} {lit : Int32} {g : Nat → Int32} (H : HpOK w r j lit g) {p q : Nat} (hp : p < 32) (hq : q < 32) (a : bt (g p) q = true) : bt (g q) p = true := by
  have lp : bt lit p = true := by
    cases e : bt lit p
    · rw [hp_dark H hp e, b_0] at a; cases a
    · rfl
  have lq := hp_lit H hp q hq a
  cases e : bt (g q) p
  · exfalso
    have s := (H.2.2 p hp).2.2 (g p &&& (g q ^^^ -1)) (fun i hi b => ?_) (fun x y hx hy b c d => ?_) q hq a
    · rw [b_and, b_xor, hp_self H hq lq, b_m1 q hq, Bool.and_eq_true] at s; exact absurd s.2 (by decide)
    · rw [b_and, bitI_b hp hi, Bool.and_eq_true, decide_eq_true_eq] at b
      rw [b.2, b_and, b_xor, e, b_m1 p hp, hp_self H hp lp]; rfl
    · rw [b_and, b_xor, b_m1 x hx, Bool.and_eq_true] at b
      rw [b_and, b_xor, b_m1 y hy, (H.2.2 p hp).2.1 x y hx hy b.1 c d]
      cases z : bt (g q) y
      · rfl
      · have lx := hp_lit H hp x hx b.1
        have := (H.2.2 q hq).2.1 y x hy hx z (adj_s1 H.1 (H.2.1 x hx lx) (H.2.1 y hy d) c) lx
        rw [this] at b; exact absurd b.2 (by decide)
  · rfl
theorem hp_eq {w r : Nat} {j : Bool} {lit : Int32} {g : Nat → Int32} (H : HpOK w r j lit g) {p q : Nat} (hp : p < 32) (hq : q < 32) (a : bt (g p) q = true) : g q = g p :=
  sub.eq (hp_le H hp hq a) (hp_le H hq hp (hp_sym H hp hq a))
theorem rm_b (f : Nat → Int32) (lit : Int32) {i : Nat} (hi : i < 32) : ∀ k, (bt (rmX f lit k) i = true ↔ bt lit i = true ∧ ∀ p, p < k → bt (hpX f lit p) i = false)
  | 0 => ⟨fun h => ⟨h, fun p q => absurd q (by omega)⟩, fun h => h.1⟩
  | k + 1 => by
    rw [rmX, b_and, b_xor, b_m1 i hi, Bool.and_eq_true, rm_b f lit hi k]
    constructor
    · rintro ⟨⟨a, b⟩, c⟩
      refine ⟨a, fun p hp => ?_⟩
      by_cases e : p = k
      · subst e; simpa using c
      · exact b p (by omega)
    · rintro ⟨a, b⟩
      exact ⟨⟨a, fun p hp => b p (by omega)⟩, by rw [b k (by omega)]; rfl⟩
theorem mx_ge (f : Nat → Int32) (lit : Int32) : ∀ k p, p < k → pc (hpX f lit p) ≤ mxX f lit k
  | 0, _, h => absurd h (by omega)
  | k + 1, p, h => by
    rw [mxX]
    by_cases e : p = k
    · subst e; split <;> omega
    · have := mx_ge f lit k p (by omega)
      split <;> omega
/-- a place whose heap was taken, or that is dark, changes nothing -/
theorem skip_k {f : Nat → Int32} {w r : Nat} {j : Bool} {lit : Int32} (H : HpOK w r j lit (hpX f lit)) {k : Nat} (hk1 : k < 31) (n : bt (rmX f lit k) k = false) : rmX f lit (k + 1) = rmX f lit k ∧ knX f lit (k + 1) = knX f lit k ∧ mxX f lit (k + 1) = mxX f lit k := by
  have hk : k < 32 := by omega
  cases l : bt lit k
  · have z := hp_dark H hk l
    refine ⟨?_, ?_, ?_⟩
    · rw [rmX, z]; exact b_ext (fun i hi => by rw [b_and, b_xor, b_0, b_m1 i hi]; simp)
    · rw [knX, if_neg (fun q => q.1 z), Nat.add_zero]
    · rw [mxX, z, pc_0, if_neg (by omega)]
  · obtain ⟨p, hp, a⟩ : ∃ p, p < k ∧ bt (hpX f lit p) k = true := by
      refine Classical.byContradiction (fun q => ?_)
      rw [(rm_b f lit hk k).mpr ⟨l, fun p hp => by
        cases e : bt (hpX f lit p) k
        · rfl
        · exact absurd ⟨p, hp, e⟩ q⟩] at n
      cases n
    have e := hp_eq H (by omega) hk a
    have s := hp_sym H (by omega) hk a
    refine ⟨?_, ?_, ?_⟩
    · rw [rmX]
      refine b_ext (fun i hi => ?_)
      rw [b_and, b_xor, b_m1 i hi, e]
      cases z : bt (rmX f lit k) i
      · rfl
      · rw [((rm_b f lit hi k).mp z).2 p hp]; rfl
    · rw [knX, if_neg (fun q => ?_), Nat.add_zero]
      have := congrArg (fun v => bt v p) q.2
      simp only [b_and, s, mask_b k (by omega) p (by omega), b_0, Bool.true_and] at this
      exact absurd hp (of_decide_eq_false this)
    · rw [mxX, if_neg (by rw [e]; have := mx_ge f lit k p hp; omega)]
/-- the lowest place left: its heap is grown among those left -/
theorem take_k {f : Nat → Int32} {w r : Nat} {j : Bool} {lit : Int32} (H : HpOK w r j lit (hpX f lit)) {k : Nat} (hk1 : k < 31) (y : bt (rmX f lit k) k = true) : rmX f lit k &&& (-(rmX f lit k)) = bitI k ∧ hpX f lit k ≠ 0 ∧ hpX f lit k &&& (bitI k - 1) = 0 ∧ (∀ X, IsH w r j (rmX f lit k) (bitI k) X → X = hpX f lit k) ∧ sub (bitI k) (rmX f lit k) := by
  have hk : k < 32 := by omega
  obtain ⟨l, no⟩ := (rm_b f lit hk k).mp y
  have self := hp_self H hk l
  have low : ∀ i, i < k → bt (hpX f lit k) i = false := fun i hi => by
    cases e : bt (hpX f lit k) i
    · rfl
    · have := hp_sym H hk (by omega) e
      rw [no i hi] at this; cases this
  have lowR : ∀ i, i < k → bt (rmX f lit k) i = false := fun i hi => by
    cases e : bt (rmX f lit k) i
    · rfl
    · have := (rm_b f lit (by omega) k).mp e
      have h2 := hp_self H (by omega) this.1
      rw [this.2 i hi] at h2; cases h2
  have inR : sub (hpX f lit k) (rmX f lit k) := fun i hi a => by
    refine (rm_b f lit hi k).mpr ⟨hp_lit H hk i hi a, fun p hp => ?_⟩
    cases e : bt (hpX f lit p) i
    · rfl
    · have e1 := hp_eq H (by omega) hi e
      have e2 := hp_eq H hk hi a
      have : bt (hpX f lit p) k = true := by rw [← e1, e2]; exact self
      rw [no p hp] at this; cases this
  have bk : ∀ C : Int32, sub (bitI k) C ↔ bt C k = true := fun C => by
    constructor
    · intro s; exact s k hk (by rw [bitI_b hk hk]; exact decide_eq_true rfl)
    · intro s i hi a
      rw [bitI_b hk hi, decide_eq_true_eq] at a
      rw [a]; exact s
  refine ⟨low_bit hk y lowR, fun z => ?_, ?_, fun X hX => ?_, (bk _).mpr y⟩
  · rw [z, b_0] at self; cases self
  · refine b_ext (fun i hi => ?_)
    rw [b_and, mask_b k (by omega) i hi, b_0]
    by_cases q : i < k
    · rw [low i q]; rfl
    · rw [decide_eq_false q, Bool.and_false]
  · have s1 : sub X (hpX f lit k) := hX.2.2 _ ((bk _).mpr self) (fun p q hp hq a c d => (H.2.2 k hk).2.1 p q hp hq a c (by
      exact ((rm_b f lit hq k).mp d).1))
    refine sub.eq s1 ((H.2.2 k hk).2.2 X (fun i hi a => ?_) (fun p q hp hq a c d => ?_))
    · rw [b_and, Bool.and_eq_true] at a; exact hX.1 i hi a.2
    · exact hX.2.1 p q hp hq a c (inR q hq ((H.2.2 k hk).2.1 p q hp hq (s1 p hp a) c d))
