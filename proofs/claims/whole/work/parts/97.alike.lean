/-! ===== rows of a picture, counted: numbers alone ===== -/
def sumN (n : Nat) (f : Nat → Nat) : Nat := match n with
  | 0 => 0
  | n + 1 => sumN n f + f n
theorem sumN_c {f g : Nat → Nat} : ∀ {n : Nat}, (∀ i, i < n → f i = g i) → sumN n f = sumN n g
  | 0, _ => rfl
  | n + 1, h => by
    show sumN n f + f n = sumN n g + g n
    rw [sumN_c (n := n) (fun i hi => h i (by omega)), h n (by omega)]
theorem sumN_0 {f : Nat → Nat} : ∀ {n : Nat}, (∀ i, i < n → f i = 0) → sumN n f = 0
  | 0, _ => rfl
  | n + 1, h => by
    show sumN n f + f n = 0
    rw [sumN_0 (n := n) (fun i hi => h i (by omega)), h n (by omega)]
theorem sumN_add (f g : Nat → Nat) : ∀ n, sumN n (fun i => f i + g i) = sumN n f + sumN n g
  | 0 => rfl
  | n + 1 => by
    show sumN n (fun i => f i + g i) + (f n + g n) = (sumN n f + f n) + (sumN n g + g n)
    rw [sumN_add f g n]; omega
theorem sumN_swap (f : Nat → Nat → Nat) (m : Nat) : ∀ n, sumN n (fun i => sumN m (fun k => f i k)) = sumN m (fun k => sumN n (fun i => f i k))
  | 0 => (sumN_0 (fun _ _ => rfl)).symm
  | n + 1 => by
    show sumN n (fun i => sumN m (fun k => f i k)) + sumN m (fun k => f n k) = _
    rw [sumN_swap f m n, ← sumN_add]
    rfl
theorem sumN_one (b x : Nat) : ∀ n, sumN n (fun i => if i = b then x else 0) = if b < n then x else 0
  | 0 => by rw [if_neg (by omega)]; rfl
  | n + 1 => by
    show sumN n (fun i => if i = b then x else 0) + (if n = b then x else 0) = _
    rw [sumN_one b x n]
    by_cases h : n = b
    · rw [if_neg (by omega), if_pos h, if_pos (by omega)]; omega
    · by_cases h2 : b < n
      · rw [if_pos h2, if_neg h, if_pos (by omega)]; omega
      · rw [if_neg h2, if_neg h, if_neg (by omega)]
theorem sumN_app (f : Nat → Nat) (m : Nat) : ∀ n, sumN (m + n) f = sumN m f + sumN n (fun i => f (m + i))
  | 0 => rfl
  | n + 1 => by
    show sumN (m + n) f + f (m + n) = sumN m f + (sumN n (fun i => f (m + i)) + f (m + n))
    rw [sumN_app f m n]; omega
/-- a table of 32 columns: what stands in one column -/
theorem sumN_col (g : Nat → Nat) {b : Nat} (hb : b < 32) : ∀ n, sumN (32 * n) (fun p => if p % 32 = b then g (p / 32) else 0) = sumN n g
  | 0 => rfl
  | n + 1 => by
    rw [show 32 * (n + 1) = 32 * n + 32 by omega, sumN_app, sumN_col g hb n]
    show _ = sumN n g + g n
    congr 1
    rw [sumN_c (g := fun i => if i = b then g n else 0) (fun i hi => ?_), sumN_one, if_pos hb]
    rw [show (32 * n + i) % 32 = i by omega, show (32 * n + i) / 32 = n by omega]
theorem sumN_all (g : Nat → Nat → Nat) : ∀ n, sumN (32 * n) (fun p => g (p / 32) (p % 32)) = sumN n (fun a => sumN 32 (fun b => g a b))
  | 0 => rfl
  | n + 1 => by
    rw [show 32 * (n + 1) = 32 * n + 32 by omega, sumN_app, sumN_all g n]
    show _ = sumN n (fun a => sumN 32 (fun b => g a b)) + sumN 32 (fun b => g n b)
    congr 1
    refine sumN_c (fun i hi => ?_)
    rw [show (32 * n + i) % 32 = i by omega, show (32 * n + i) / 32 = n by omega]
theorem sumN_le {f : Nat → Nat} {B : Nat} : ∀ {n : Nat}, (∀ i, i < n → f i ≤ B) → sumN n f ≤ n * B
  | 0, _ => by rw [Nat.zero_mul]; exact Nat.le_refl 0
  | n + 1, h => by
    show sumN n f + f n ≤ _
    have a := sumN_le (n := n) (fun i hi => h i (by omega))
    have b := h n (by omega)
    rw [Nat.succ_mul]; omega
theorem sumN_mono {f g : Nat → Nat} : ∀ {n : Nat}, (∀ i, i < n → f i ≤ g i) → sumN n f ≤ sumN n g
  | 0, _ => Nat.le_refl 0
  | n + 1, h => Nat.add_le_add (sumN_mono (n := n) (fun i hi => h i (by omega))) (h n (by omega))
theorem sumN_ne {f : Nat → Nat} : ∀ {n : Nat}, sumN n f ≠ 0 → ∃ i, i < n ∧ f i ≠ 0
  | 0, h => absurd rfl h
  | n + 1, h => by
    by_cases q : f n = 0
    · have : sumN n f ≠ 0 := fun z => h (by show sumN n f + f n = 0; rw [z, q])
      obtain ⟨i, hi, e⟩ := sumN_ne this
      exact ⟨i, by omega, e⟩
    · exact ⟨n, by omega, q⟩
theorem sumN_ge {f : Nat → Nat} {i : Nat} : ∀ {n : Nat}, i < n → f i ≤ sumN n f
  | 0, h => absurd h (by omega)
  | n + 1, h => by
    show f i ≤ sumN n f + f n
    by_cases q : i = n
    · rw [q]; omega
    · have := sumN_ge (f := f) (i := i) (n := n) (by omega); omega
/-- the pairs of rows y - 1, y, and in how many ways the rows ahead can be chosen so that all above y is as it should -/
def cW (ft : Nat → Nat → Bool) (gd : Nat → Nat → Nat → Nat → Bool) : Nat → Nat → Nat → Nat
  | 0, a, b => if a = 0 ∧ ft 0 b = true then 1 else 0
  | y + 1, b, c => if ft (y + 1) c = true then sumN 32 (fun a => if gd y a b c = true then cW ft gd y a b else 0) else 0
theorem cW_ft {ft : Nat → Nat → Bool} {gd : Nat → Nat → Nat → Nat → Bool} {y a b : Nat} (h : cW ft gd y a b ≠ 0) : ft y b = true := by
  cases y with
  | zero =>
    unfold cW at h
    by_cases q : a = 0 ∧ ft 0 b = true
    · exact q.2
    · rw [if_neg q] at h; exact absurd rfl h
  | succ y =>
    unfold cW at h
    by_cases q : ft (y + 1) b = true
    · exact q
    · rw [if_neg q] at h; exact absurd rfl h
theorem cW_up {ft : Nat → Nat → Bool} {gd : Nat → Nat → Nat → Nat → Bool} {y b c : Nat} (h : cW ft gd (y + 1) b c ≠ 0) : ∃ a, a < 32 ∧ gd y a b c = true ∧ cW ft gd y a b ≠ 0 := by
  have f := cW_ft h
  unfold cW at h
  rw [if_pos f] at h
  obtain ⟨a, ha, e⟩ := sumN_ne h
  by_cases q : gd y a b c = true
  · rw [if_pos q] at e; exact ⟨a, ha, q, e⟩
  · rw [if_neg q] at e; exact absurd rfl e
theorem cW_dn {ft : Nat → Nat → Bool} {gd : Nat → Nat → Nat → Nat → Bool} {y a b c : Nat} (ha : a < 32) (f : ft (y + 1) c = true) (g : gd y a b c = true) (h : cW ft gd y a b ≠ 0) : cW ft gd (y + 1) b c ≠ 0 := by
  unfold cW
  rw [if_pos f]
  have := sumN_ge (f := fun a => if gd y a b c = true then cW ft gd y a b else 0) ha
  rw [if_pos g] at this
  omega
theorem cW_0 {ft : Nat → Nat → Bool} {gd : Nat → Nat → Nat → Nat → Bool} {W : Nat} (hf : ∀ y b, ft y b = true → b < W) (hW : 0 < W) : ∀ {y a b}, cW ft gd y a b ≠ 0 → a < W ∧ b < W := by
  intro y a b h
  refine ⟨?_, hf y b (cW_ft h)⟩
  cases y with
  | zero =>
    unfold cW at h
    by_cases q : a = 0 ∧ ft 0 b = true
    · omega
    · rw [if_neg q] at h; exact absurd rfl h
  | succ y =>
    obtain ⟨a', -, -, e⟩ := cW_up h
    exact hf y a (cW_ft e)
theorem cW_z {ft : Nat → Nat → Bool} {gd : Nat → Nat → Nat → Nat → Bool} {W : Nat} (hf : ∀ y b, ft y b = true → b < W) (hW : 0 < W) {y a b : Nat} (h : ¬ (a < W ∧ b < W)) : cW ft gd y a b = 0 :=
  Classical.byContradiction (fun q => h (cW_0 hf hW q))
/-- all pictures that are counted: at most 32 to the rows -/
def tW (ft : Nat → Nat → Bool) (gd : Nat → Nat → Nat → Nat → Bool) (y : Nat) : Nat := sumN 32 (fun a => sumN 32 (fun b => cW ft gd y a b))
theorem one_in (n : Nat) : ∀ {p : Nat → Bool}, (∀ i k, i < n → k < n → p i = true → p k = true → i = k) → sumN n (fun i => if p i = true then 1 else 0) ≤ 1 := by
  induction n with
  | zero => intro p _; exact Nat.zero_le 1
  | succ n ih =>
    intro p h
    show sumN n (fun i => if p i = true then 1 else 0) + (if p n = true then 1 else 0) ≤ 1
    by_cases q : p n = true
    · rw [if_pos q, sumN_0 (fun i hi => ?_)]
      · omega
      · by_cases z : p i = true
        · have := h i n (by omega) (by omega) z q; omega
        · rw [if_neg z]
    · rw [if_neg q]
      have := ih (p := p) (fun i k hi hk => h i k (by omega) (by omega)); omega
theorem tW_up (ft : Nat → Nat → Bool) (gd : Nat → Nat → Nat → Nat → Bool) (y : Nat) : tW ft gd (y + 1) ≤ sumN 32 (fun c => if ft (y + 1) c = true then tW ft gd y else 0) := by
  unfold tW
  rw [sumN_swap (fun b c => cW ft gd (y + 1) b c)]
  refine sumN_mono (fun c hc => ?_)
  by_cases f : ft (y + 1) c = true
  · rw [if_pos f, sumN_swap (fun a b => cW ft gd y a b)]
    refine sumN_mono (fun b hb => ?_)
    show (if ft (y + 1) c = true then _ else 0) ≤ _
    rw [if_pos f]
    refine sumN_mono (fun a ha => ?_)
    by_cases g : gd y a b c = true
    · rw [if_pos g]; exact Nat.le_refl _
    · rw [if_neg g]; exact Nat.zero_le _
  · rw [if_neg f, sumN_0 (fun b hb => ?_)]
    · exact Nat.le_refl 0
    · show (if ft (y + 1) c = true then _ else 0) = _
      rw [if_neg f]
theorem tW_le (ft : Nat → Nat → Bool) (gd : Nat → Nat → Nat → Nat → Bool) : ∀ y, tW ft gd y ≤ 32 ^ (y + 1)
  | 0 => by
    unfold tW
    have e : sumN 32 (fun a => sumN 32 (fun b => cW ft gd 0 a b)) = sumN 32 (fun a => if a = 0 then sumN 32 (fun b => cW ft gd 0 0 b) else 0) := sumN_c (fun a _ => by
      by_cases q : a = 0
      · rw [if_pos q, q]
      · rw [if_neg q]
        refine sumN_0 (fun b _ => ?_)
        show (if a = 0 ∧ ft 0 b = true then 1 else 0) = 0
        rw [if_neg (fun z => q z.1)])
    rw [e, sumN_one, if_pos (by decide)]
    refine Nat.le_trans (sumN_le (B := 1) (fun b _ => ?_)) (by decide)
    show (if 0 = 0 ∧ ft 0 b = true then 1 else 0) ≤ 1
    split <;> omega
  | y + 1 => by
    have h := tW_up ft gd y
    have i := tW_le ft gd y
    have b := sumN_le (n := 32) (f := fun c => if ft (y + 1) c = true then tW ft gd y else 0) (B := tW ft gd y) (fun c _ => by
      show (if ft (y + 1) c = true then tW ft gd y else 0) ≤ _
      split
      · exact Nat.le_refl _
      · exact Nat.zero_le _)
    rw [Nat.pow_succ]
    omega
theorem cW_t (ft : Nat → Nat → Bool) (gd : Nat → Nat → Nat → Nat → Bool) {y a b : Nat} (ha : a < 32) (hb : b < 32) : cW ft gd y a b ≤ tW ft gd y :=
  Nat.le_trans (sumN_ge (f := fun b => cW ft gd y a b) hb) (sumN_ge (f := fun a => sumN 32 (fun b => cW ft gd y a b)) ha)
/-- behind the last row there is one that is dark -/
theorem tW_last {ft : Nat → Nat → Bool} {gd : Nat → Nat → Nat → Nat → Bool} {y : Nat} (h : ∀ c, c < 32 → ft (y + 1) c = true → c = 0) : tW ft gd (y + 1) ≤ tW ft gd y := by
  refine Nat.le_trans (tW_up ft gd y) ?_
  have e : sumN 32 (fun c => if ft (y + 1) c = true then tW ft gd y else 0) ≤ sumN 32 (fun c => if c = 0 then tW ft gd y else 0) := sumN_mono (fun c hc => by
    by_cases f : ft (y + 1) c = true
    · rw [if_pos f, if_pos (h c hc f)]; exact Nat.le_refl _
    · rw [if_neg f]; exact Nat.zero_le _)
  rw [sumN_one, if_pos (by decide)] at e
  exact e
theorem tW_same {ft : Nat → Nat → Bool} {gd : Nat → Nat → Nat → Nat → Bool} {y : Nat} (h : ∀ c, c < 32 → (ft (y + 1) c = true ↔ c = 0)) : tW ft gd (y + 1) = sumN 32 (fun a => sumN 32 (fun b => if gd y a b 0 = true then cW ft gd y a b else 0)) := by
  unfold tW
  rw [sumN_swap (fun b c => cW ft gd (y + 1) b c)]
  have e : sumN 32 (fun c => sumN 32 (fun b => cW ft gd (y + 1) b c)) = sumN 32 (fun c => if c = 0 then sumN 32 (fun b => cW ft gd (y + 1) b 0) else 0) := sumN_c (fun c hc => by
    by_cases q : c = 0
    · rw [if_pos q, q]
    · rw [if_neg q]
      refine sumN_0 (fun b _ => ?_)
      show (if ft (y + 1) c = true then _ else 0) = 0
      rw [if_neg (fun z => q ((h c hc).mp z))])
  rw [e, sumN_one, if_pos (by decide), sumN_swap (fun a b => if gd y a b 0 = true then cW ft gd y a b else 0)]
  refine sumN_c (fun b _ => ?_)
  show (if ft (y + 1) 0 = true then _ else 0) = _
  rw [if_pos ((h 0 (by decide)).mpr rfl)]
/-- a row of lamps in a town's row -/
def fitB (F A b : Nat) : Bool := decide (b &&& A = A ∧ b &&& (F ||| A) = b)
theorem fitB_b {F A b : Nat} : fitB F A b = true ↔ ∀ x, (A.testBit x = true → b.testBit x = true) ∧ (b.testBit x = true → F.testBit x = true ∨ A.testBit x = true) := by
  unfold fitB
  rw [decide_eq_true_eq]
  constructor
  · rintro ⟨h1, h2⟩ x
    have e1 := congrArg (fun n => n.testBit x) h1
    have e2 := congrArg (fun n => n.testBit x) h2
    simp only [Nat.testBit_and, Nat.testBit_or] at e1 e2
    revert e1 e2
    cases A.testBit x <;> cases b.testBit x <;> cases F.testBit x <;> decide
  · intro h
    refine ⟨Nat.eq_of_testBit_eq (fun x => ?_), Nat.eq_of_testBit_eq (fun x => ?_)⟩
    · have := h x
      rw [Nat.testBit_and]
      revert this
      cases A.testBit x <;> cases b.testBit x <;> cases F.testBit x <;> decide
    · have := h x
      rw [Nat.testBit_and, Nat.testBit_or]
      revert this
      cases A.testBit x <;> cases b.testBit x <;> cases F.testBit x <;> decide
theorem lt_p2 {n w : Nat} : n < 2 ^ w ↔ ∀ x, w ≤ x → n.testBit x = false := by
  constructor
  · intro h x hx
    exact Nat.testBit_lt_two_pow (Nat.lt_of_lt_of_le h (Nat.pow_le_pow_right (by decide) hx))
  · intro h
    refine Nat.lt_pow_two_of_testBit n (fun i hi => h i hi)
theorem fitB_lt {F A b w : Nat} (hF : F < 2 ^ w) (hA : A < 2 ^ w) (h : fitB F A b = true) : b < 2 ^ w := by
  rw [lt_p2] at hF hA ⊢
  intro x hx
  cases q : b.testBit x
  · rfl
  · have := ((fitB_b.mp h) x).2 q
    rw [hF x hx, hA x hx] at this
    rcases this with z | z <;> cases z
/-- how many lit neighbours column x of the middle row has -/
def nR (w : Nat) (j : Bool) (a b c x : Nat) : Nat := b2 (if x ≠ 0 then b.testBit (x - 1) else j && b.testBit (w - 1)) + b2 (if x ≠ w - 1 then b.testBit (x + 1) else j && b.testBit 0) + b2 (a.testBit x) + b2 (c.testBit x)
def rbB (w : Nat) (j : Bool) (B S : Int32) (F A a b c x : Nat) : Bool := (F.testBit x && (if b.testBit x then bt S (nR w j a b c x) else bt B (nR w j a b c x))) || A.testBit x
def wtB (st : Bool) (X b x : Nat) : Bool := if st then b.testBit x else X.testBit x
def gdB (w : Nat) (j : Bool) (B S : Int32) (F A X : Nat) (st : Bool) (a b c : Nat) : Bool := decide (∀ x, x < w → rbB w j B S F A a b c x = wtB st X b x)
theorem rbB_c {w : Nat} {j : Bool} {B S : Int32} {F A a b c c' x : Nat} (h : c.testBit x = c'.testBit x) : rbB w j B S F A a b c x = rbB w j B S F A a b c' x := by
  unfold rbB nR; rw [h]
/-- what must be below, and what may not -/
theorem pick {w : Nat} {j : Bool} {B S : Int32} {F A X a b F' A' L D M m : Nat} {st : Bool} (hF : F' < 2 ^ w) (hA : A' < 2 ^ w) (dj : ∀ x, F'.testBit x = true → A'.testBit x = false) (hM : ∀ x, M.testBit x = decide (x < w)) (hm : ∀ x, m.testBit x = (F'.testBit x && !L.testBit x && !D.testBit x))
    (hL : ∀ x, L.testBit x = (decide (x < w) && (rbB w j B S F A a b 0 x != wtB st X b x))) (hD : ∀ x, D.testBit x = (decide (x < w) && (rbB w j B S F A a b M x != wtB st X b x))) (c : Nat) :
    (fitB F' A' c = true ∧ gdB w j B S F A X st a b c = true) ↔ ((L ||| A') &&& D = 0 ∧ L &&& (F' ||| A') = L ∧ ∃ s, s &&& m = s ∧ c = (L ||| A') ||| s) := by
  have z0 : ∀ x, (0 : Nat).testBit x = false := Nat.zero_testBit
  have key : gdB w j B S F A X st a b c = true ↔ ∀ x, x < w → (c.testBit x = true → D.testBit x = false) ∧ (c.testBit x = false → L.testBit x = false) := by
    unfold gdB
    rw [decide_eq_true_eq]
    constructor
    · intro h x hx
      have := h x hx
      refine ⟨fun e => ?_, fun e => ?_⟩
      · rw [hD, ← rbB_c (c := c) (by rw [e, hM, decide_eq_true hx]), this]; simp
      · rw [hL, ← rbB_c (c := c) (by rw [e, z0]), this]; simp
    · intro h x hx
      cases e : c.testBit x
      · have := (h x hx).2 e
        rw [hL, decide_eq_true hx, Bool.true_and] at this
        rw [rbB_c (c' := 0) (by rw [e, z0])]
        revert this
        cases rbB w j B S F A a b 0 x <;> cases wtB st X b x <;> decide
      · have := (h x hx).1 e
        rw [hD, decide_eq_true hx, Bool.true_and] at this
        rw [rbB_c (c' := M) (by rw [e, hM, decide_eq_true hx])]
        revert this
        cases rbB w j B S F A a b M x <;> cases wtB st X b x <;> decide
  have Lw : ∀ x, w ≤ x → L.testBit x = false := fun x hx => by rw [hL, decide_eq_false (by omega), Bool.false_and]
  have Dw : ∀ x, w ≤ x → D.testBit x = false := fun x hx => by rw [hD, decide_eq_false (by omega), Bool.false_and]
  have Fw := lt_p2.mp hF
  have Aw := lt_p2.mp hA
  rw [key, fitB_b]
  constructor
  · rintro ⟨f, g⟩
    have cw : ∀ x, w ≤ x → c.testBit x = false := fun x hx => by
      cases q : c.testBit x
      · rfl
      · have := (f x).2 q
        rw [Fw x hx, Aw x hx] at this
        rcases this with z | z <;> cases z
    have all : ∀ x, (A'.testBit x = true → c.testBit x = true) ∧ (c.testBit x = true → F'.testBit x = true ∨ A'.testBit x = true) ∧ (c.testBit x = true → D.testBit x = false) ∧ (c.testBit x = false → L.testBit x = false) ∧ (F'.testBit x = true → A'.testBit x = false) := fun x => by
      refine ⟨(f x).1, (f x).2, ?_, ?_, dj x⟩
      · by_cases hx : x < w
        · exact (g x hx).1
        · intro _; exact Dw x (by omega)
      · by_cases hx : x < w
        · exact (g x hx).2
        · intro _; exact Lw x (by omega)
    refine ⟨Nat.eq_of_testBit_eq (fun x => ?_), Nat.eq_of_testBit_eq (fun x => ?_), c &&& (c ^^^ (c &&& (L ||| A'))), Nat.eq_of_testBit_eq (fun x => ?_), Nat.eq_of_testBit_eq (fun x => ?_)⟩ <;>
    · have := all x
      simp only [Nat.testBit_and, Nat.testBit_or, Nat.testBit_xor, z0, hm]
      revert this
      cases A'.testBit x <;> cases c.testBit x <;> cases F'.testBit x <;> cases D.testBit x <;> cases L.testBit x <;> decide
  · rintro ⟨h1, h2, s, h3, rfl⟩
    have all : ∀ x, ((L.testBit x || A'.testBit x) && D.testBit x) = false ∧ (L.testBit x && (F'.testBit x || A'.testBit x)) = L.testBit x ∧ (s.testBit x && (F'.testBit x && !L.testBit x && !D.testBit x)) = s.testBit x := fun x => by
      have e1 := congrArg (fun n => n.testBit x) h1
      have e2 := congrArg (fun n => n.testBit x) h2
      have e3 := congrArg (fun n => n.testBit x) h3
      simp only [Nat.testBit_and, Nat.testBit_or, Nat.testBit_xor, z0, hm] at e1 e2 e3
      exact ⟨e1, e2, e3⟩
    refine ⟨fun x => ?_, fun x hx => ?_⟩ <;>
    · have := all x
      simp only [Nat.testBit_or]
      revert this
      cases A'.testBit x <;> cases s.testBit x <;> cases F'.testBit x <;> cases D.testBit x <;> cases L.testBit x <;> decide
/-- all subsets of a mask, one after another -/
def subT (m c s : Nat) : Bool := !(decide (c &&& m = c)) || decide (c = 0) || !(decide (s &&& m = s)) || (decide (s < c) == decide (s ≤ ((c - 1) &&& m)))
theorem subT_all : ∀ m, m < 32 → ∀ c, c < 32 → ∀ s, s < 32 → subT m c s = true := by decide +kernel
theorem sub_next (m : Nat) (hm : m < 32) (c : Nat) (hc : c < 32) (e : c &&& m = c) (c0 : c ≠ 0) (s : Nat) (hs : s < 32) (es : s &&& m = s) : s < c ↔ s ≤ ((c - 1) &&& m) := by
  have h := subT_all m hm c hc s hs
  unfold subT at h
  rw [decide_eq_true e, decide_eq_false c0, decide_eq_true es] at h
  have h2 : decide (s < c) = decide (s ≤ ((c - 1) &&& m)) := by simpa using h
  exact decide_eq_decide.mp h2
