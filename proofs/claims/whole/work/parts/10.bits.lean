/-! rows on bits, shifts and unsigned numbers, to paste: each family out of a closed proof of our own, whole with what it rests on; each by itself clean at Lean in its own claim (generation 39, form 5). Take a family whole -/
/-! ===== Int32 by its bits: bt x i ===== -/
def bt (x : Int32) (i : Nat) : Bool := x.toBitVec.getLsbD i
theorem b_ext {x y : Int32} (h : ∀ i, i < 32 → bt x i = bt y i) : x = y := Int32.toBitVec_inj.mp (BitVec.eq_of_getLsbD_eq (fun i hi => h i hi))
theorem b_or (x y : Int32) (i : Nat) : bt (x ||| y) i = (bt x i || bt y i) := by unfold bt; rw [Int32.toBitVec_or, BitVec.getLsbD_or]
theorem b_and (x y : Int32) (i : Nat) : bt (x &&& y) i = (bt x i && bt y i) := by unfold bt; rw [Int32.toBitVec_and, BitVec.getLsbD_and]
theorem b_xor (x y : Int32) (i : Nat) : bt (x ^^^ y) i = (bt x i ^^ bt y i) := by unfold bt; rw [Int32.toBitVec_xor, BitVec.getLsbD_xor]
theorem b_big {x : Int32} {i : Nat} (h : 32 ≤ i) : bt x i = false := BitVec.getLsbD_of_ge _ _ h
theorem b_255 (i : Nat) : bt 255 i = decide (i < 8) := by
  rcases Nat.lt_or_ge i 32 with h | h
  · exact (by decide +kernel : ∀ i, i < 32 → bt 255 i = decide (i < 8)) i h
  · rw [b_big h, decide_eq_false (by omega)]
theorem b_65535 (i : Nat) : bt 65535 i = decide (i < 16) := by
  rcases Nat.lt_or_ge i 32 with h | h
  · exact (by decide +kernel : ∀ i, i < 32 → bt 65535 i = decide (i < 16)) i h
  · rw [b_big h, decide_eq_false (by omega)]
theorem b_m1 : ∀ i, i < 32 → bt (-1) i = true := by decide +kernel
theorem b_0 (i : Nat) : bt 0 i = false := BitVec.getLsbD_zero
theorem s_l : ∀ n, n < 32 → ((nI n &&& 31).toBitVec.smod 32).toNat = n := by decide +kernel
theorem s_u : ∀ n, n < 32 → (((nI n).toUInt32 &&& Int32.toUInt32 31).toBitVec % 32).toNat = n := by decide +kernel
theorem b_shl (n : Nat) (hn : n < 32) (x : Int32) {i : Nat} (hi : i < 32) : bt (x <<< (nI n &&& 31)) i = (decide (n ≤ i) && bt x (i - n)) := by
  unfold bt
  rw [Int32.toBitVec_shiftLeft]
  show (x.toBitVec <<< ((nI n &&& 31).toBitVec.smod 32).toNat).getLsbD i = _
  rw [s_l n hn, BitVec.getLsbD_shiftLeft]
  rcases Nat.lt_or_ge i n with h | h
  · simp [h, Nat.not_le.mpr h]
  · simp [hi, h, Nat.not_lt.mpr h]
theorem b_ushr (n : Nat) (hn : n < 32) (x : Int32) (i : Nat) : bt ((x.toUInt32 >>> ((nI n).toUInt32 &&& Int32.toUInt32 31)).toInt32) i = bt x (n + i) := by
  show (x.toUInt32 >>> ((nI n).toUInt32 &&& Int32.toUInt32 31)).toBitVec.getLsbD i = x.toUInt32.toBitVec.getLsbD (n + i)
  rw [UInt32.toBitVec_shiftRight]
  show (x.toUInt32.toBitVec >>> (((nI n).toUInt32 &&& Int32.toUInt32 31).toBitVec % 32).toNat).getLsbD i = _
  rw [s_u n hn, BitVec.getLsbD_ushiftRight]
theorem b_sshr (n : Nat) (hn : n < 32) (x : Int32) {i : Nat} (hi : i < 32) : bt (x >>> (nI n &&& 31)) i = if n + i < 32 then bt x (n + i) else bt x 31 := by
  unfold bt
  rw [Int32.toBitVec_shiftRight]
  show (x.toBitVec.sshiftRight ((nI n &&& 31).toBitVec.smod 32).toNat).getLsbD i = _
  rw [s_l n hn, BitVec.getLsbD_sshiftRight, BitVec.msb_eq_getLsbD_last]
  simp [hi]
theorem b_shl8 (x : Int32) {i : Nat} (hi : i < 32) : bt (x <<< ((8 : Int32) &&& 31)) i = (decide (8 ≤ i) && bt x (i - 8)) := b_shl 8 (by omega) x hi
theorem b_shl16 (x : Int32) {i : Nat} (hi : i < 32) : bt (x <<< ((16 : Int32) &&& 31)) i = (decide (16 ≤ i) && bt x (i - 16)) := b_shl 16 (by omega) x hi
theorem b_shl24 (x : Int32) {i : Nat} (hi : i < 32) : bt (x <<< ((24 : Int32) &&& 31)) i = (decide (24 ≤ i) && bt x (i - 24)) := b_shl 24 (by omega) x hi
theorem b_sshr8 (x : Int32) {i : Nat} (hi : i < 32) : bt (x >>> ((8 : Int32) &&& 31)) i = if 8 + i < 32 then bt x (8 + i) else bt x 31 := b_sshr 8 (by omega) x hi
/-! ===== how many places have a property ===== -/
def fb_ct (p : Nat → Bool) : Nat → Nat
  | 0 => 0
  | n + 1 => fb_ct p n + (if p n then 1 else 0)
theorem fb_ct_succ (p : Nat → Bool) (n : Nat) : fb_ct p (n + 1) = fb_ct p n + (if p n then 1 else 0) := rfl
theorem fb_ct_le (p : Nat → Bool) : ∀ n, fb_ct p n ≤ n
  | 0 => Nat.le_refl _
  | n + 1 => by
    have h := fb_ct_le p n
    rw [fb_ct_succ]
    split <;> omega
theorem fb_ct_step (p : Nat → Bool) (m : Nat) : ∀ n, fb_ct p m ≤ fb_ct p (m + n)
  | 0 => Nat.le_refl _
  | n + 1 => by
    have h := fb_ct_step p m n
    show fb_ct p m ≤ fb_ct p (m + n + 1)
    rw [fb_ct_succ]
    omega
theorem fb_ct_mono (p : Nat → Bool) {m n : Nat} (h : m ≤ n) : fb_ct p m ≤ fb_ct p n := by
  have := fb_ct_step p m (n - m)
  rwa [Nat.add_sub_cancel' h] at this
theorem fb_ct_cong {p q : Nat → Bool} : ∀ {n : Nat}, (∀ k, k < n → p k = q k) → fb_ct p n = fb_ct q n
  | 0, _ => rfl
  | n + 1, h => by
    rw [fb_ct_succ, fb_ct_succ, fb_ct_cong (fun k hk => h k (by omega)), h n (by omega)]
/-- one place changed -/
theorem fb_ct_out (p : Nat → Bool) (b : Bool) {i n : Nat} (h : n ≤ i) : fb_ct (fun k => if k = i then b else p k) n = fb_ct p n :=
  fb_ct_cong fun k hk => if_neg (by omega)
theorem fb_ct_upd (p : Nat → Bool) (b : Bool) {i : Nat} : ∀ {n : Nat}, i < n → fb_ct (fun k => if k = i then b else p k) n + (if p i then 1 else 0) = fb_ct p n + (if b then 1 else 0)
  | 0, h => absurd h (Nat.not_lt_zero i)
  | n + 1, h => by
    rw [fb_ct_succ, fb_ct_succ]
    rcases Nat.lt_or_ge i n with q | q
    · have := fb_ct_upd p b q
      have e : (if n = i then b else p n) = p n := if_neg (by omega)
      rw [e]
      omega
    · have e : i = n := by omega
      subst e
      rw [fb_ct_out p b (Nat.le_refl _)]
      simp only [if_true]
      omega
theorem fb_ct_sub {p q : Nat → Bool} : ∀ {n : Nat}, (∀ k, k < n → p k = true → q k = true) → fb_ct p n ≤ fb_ct q n
  | 0, _ => Nat.le_refl _
  | n + 1, h => by
    have h1 := fb_ct_sub (n := n) (p := p) (q := q) (fun k hk => h k (by omega))
    have h2 := h n (by omega)
    rw [fb_ct_succ, fb_ct_succ]
    cases hp : p n <;> cases hq : q n <;> simp_all <;> omega
theorem fb_ct_or {p q : Nat → Bool} : ∀ {n : Nat}, (∀ k, k < n → ¬ (p k = true ∧ q k = true)) → fb_ct (fun k => p k || q k) n = fb_ct p n + fb_ct q n
  | 0, _ => rfl
  | n + 1, h => by
    have h1 := fb_ct_or (n := n) (p := p) (q := q) (fun k hk => h k (by omega))
    have h2 := h n (by omega)
    rw [fb_ct_succ, fb_ct_succ, fb_ct_succ, h1]
    cases hp : p n <;> cases hq : q n <;> simp_all <;> omega
theorem fb_ct_not (p : Nat → Bool) : ∀ n, fb_ct p n + fb_ct (fun k => !p k) n = n
  | 0 => rfl
  | n + 1 => by
    have h := fb_ct_not p n
    rw [fb_ct_succ, fb_ct_succ]
    cases p n <;> simp <;> omega
theorem fb_ct_split (p : Nat → Bool) (m : Nat) : ∀ n, fb_ct p (m + n) = fb_ct p m + fb_ct (fun k => p (m + k)) n
  | 0 => rfl
  | n + 1 => by
    have h := fb_ct_split p m n
    show fb_ct p (m + n + 1) = _
    rw [fb_ct_succ, fb_ct_succ, h, Nat.add_assoc]
theorem fb_ct_zero {p : Nat → Bool} : ∀ {n : Nat}, fb_ct p n = 0 ↔ ∀ k, k < n → p k = false
  | 0 => ⟨fun _ k hk => absurd hk (Nat.not_lt_zero k), fun _ => rfl⟩
  | n + 1 => by
    have h := fb_ct_zero (p := p) (n := n)
    rw [fb_ct_succ]
    constructor
    · intro e k hk
      have e1 : fb_ct p n = 0 := by omega
      rcases Nat.lt_or_ge k n with q | q
      · exact h.mp e1 k q
      · have ek : k = n := by omega
        subst ek
        cases hp : p k
        · rfl
        · simp [hp] at e
    · intro a
      rw [h.mpr (fun k hk => a k (by omega)), a n (by omega)]
      rfl
theorem fb_ct_pos {p : Nat → Bool} {n : Nat} : 0 < fb_ct p n ↔ ∃ k, k < n ∧ p k = true := by
  constructor
  · intro h
    refine Classical.byContradiction fun hx => ?_
    have := fb_ct_zero.mpr (fun k hk => by
      cases hp : p k
      · rfl
      · exact absurd ⟨k, hk, hp⟩ hx : ∀ k, k < n → p k = false)
    omega
  · rintro ⟨k, hk, hp⟩
    rcases Nat.eq_zero_or_pos (fb_ct p n) with e | e
    · have := fb_ct_zero.mp e k hk
      rw [this] at hp
      cases hp
    · exact e
theorem fb_ct_all {p : Nat → Bool} {n : Nat} : fb_ct p n = n ↔ ∀ k, k < n → p k = true := by
  have h := fb_ct_not p n
  constructor
  · intro e k hk
    have z : fb_ct (fun k => !p k) n = 0 := by omega
    have := fb_ct_zero.mp z k hk
    cases hp : p k
    · simp [hp] at this
    · rfl
  · intro a
    have z : fb_ct (fun k => !p k) n = 0 := fb_ct_zero.mpr (fun k hk => by simp [a k hk])
    omega
/-- the k-th place with the property -/
theorem fb_ct_kth {p : Nat → Bool} {k : Nat} : ∀ {n : Nat}, k < fb_ct p n → ∃ i, i < n ∧ p i = true ∧ fb_ct p i = k
  | 0, h => absurd h (Nat.not_lt_zero k)
  | n + 1, h => by
    rcases Nat.lt_or_ge k (fb_ct p n) with q | q
    · obtain ⟨i, h1, h2⟩ := fb_ct_kth q
      exact ⟨i, by omega, h2⟩
    · rw [fb_ct_succ] at h
      cases hp : p n
      · simp [hp] at h; omega
      · simp [hp] at h
        exact ⟨n, by omega, hp, by omega⟩
theorem fb_ct_kth_one {p : Nat → Bool} {i j : Nat} (hi : p i = true) (hj : p j = true) (e : fb_ct p i = fb_ct p j) : i = j := by
  have key : ∀ a b : Nat, a < b → p a = true → fb_ct p a < fb_ct p b := by
    intro a b hab ha
    have h := fb_ct_mono p (show a + 1 ≤ b from hab)
    rw [fb_ct_succ, ha] at h
    simp at h
    omega
  rcases Nat.lt_trichotomy i j with q | q | q
  · have := key i j q hi; omega
  · exact q
  · have := key j i q hj; omega
/-! ===== Integer.bitCount ===== -/
theorem wb_of32' (x : Int32) : ∃ n, n < 2 ^ 32 ∧ x = nI n := ⟨x.toBitVec.toNat, x.toBitVec.isLt, Int32.toBitVec_inj.mp (by show _ = BitVec.ofNat 32 _; simp)⟩
theorem bt_nI (n : Nat) {i : Nat} (hi : i < 32) : bt (nI n) i = n.testBit i := by
  unfold bt nI
  show (BitVec.ofNat 32 n).getLsbD i = _
  rw [BitVec.getLsbD_ofNat]; simp [hi]
/-- how many bits are set -/
def pc (x : Int32) : Nat := fb_ct (bt x) 32
theorem pc_le (x : Int32) : pc x ≤ 32 := fb_ct_le _ _
def pcN (k n : Nat) : Nat := fb_ct (fun i => n.testBit i) k
theorem pc_nI (n : Nat) : pc (nI n) = pcN 32 n := fb_ct_cong (fun i hi => bt_nI n hi)
theorem bc_split {k s l h m m' : Nat} (hl : l < 2 ^ k) (hm : m < 2 ^ (k - s)) (hs : s ≤ k) : ((2 ^ k * h + l) / 2 ^ s) &&& (2 ^ k * m' + m) = 2 ^ k * (h / 2 ^ s &&& m') + (l / 2 ^ s &&& m) := by
  have hm2 : m < 2 ^ k := Nat.lt_of_lt_of_le hm (Nat.pow_le_pow_right (by decide) (by omega))
  have hr : l / 2 ^ s &&& m < 2 ^ k := Nat.lt_of_le_of_lt Nat.and_le_right hm2
  apply Nat.eq_of_testBit_eq
  intro j
  rw [Nat.testBit_and, Nat.testBit_div_two_pow, Nat.testBit_two_pow_mul_add _ hl, Nat.testBit_two_pow_mul_add _ hm2, Nat.testBit_two_pow_mul_add _ hr]
  by_cases hj : j < k
  · rw [if_pos hj, if_pos hj, Nat.testBit_and, Nat.testBit_div_two_pow]
    by_cases hb : j < k - s
    · rw [if_pos (by omega)]
    · have : m.testBit j = false := Nat.testBit_lt_two_pow (Nat.lt_of_lt_of_le hm (Nat.pow_le_pow_right (by decide) (by omega)))
      rw [this, Bool.and_false, Bool.and_false]
  · rw [if_neg hj, if_neg hj, if_neg (by omega), Nat.testBit_and, Nat.testBit_div_two_pow, show j + s - k = j - k + s by omega]
theorem pcN_split {k h l : Nat} (hl : l < 2 ^ k) (n : Nat) : pcN (k + n) (2 ^ k * h + l) = pcN k l + pcN n h := by
  unfold pcN
  rw [fb_ct_split]
  congr 1
  · exact fb_ct_cong (fun i hi => by rw [Nat.testBit_two_pow_mul_add _ hl, if_pos hi])
  · refine fb_ct_cong (fun i hi => ?_)
    show (2 ^ k * h + l).testBit (k + i) = _
    rw [Nat.testBit_two_pow_mul_add _ hl, if_neg (by omega)]; congr 1; omega
def bcA (m x : Nat) : Nat := x - (x / 2 ^ 1 &&& m)
def bcB (m x : Nat) : Nat := (x &&& m) + (x / 2 ^ 2 &&& m)
def bcC (m x : Nat) : Nat := (x + x / 2 ^ 4) &&& m
theorem bc8 : ∀ x : Fin 256, bcA 85 x < 256 ∧ (x / 2 ^ 1 &&& 85) ≤ (x : Nat) ∧ bcB 51 (bcA 85 x) < 256 ∧ bcB 51 (bcA 85 x) + bcB 51 (bcA 85 x) / 2 ^ 4 < 256 ∧ bcC 15 (bcB 51 (bcA 85 x)) = pcN 8 x ∧ pcN 8 x ≤ 8 ∧ bcB 51 (bcA 85 x) % 16 ≤ 4 ∧ bcB 51 (bcA 85 x) / 16 ≤ 4 := by decide +kernel
theorem and4 {s m : Nat} (hs : s = 0 ∧ m = 15 ∨ s = 1 ∧ m = 85 ∨ s = 2 ∧ m = 51 ∨ s = 0 ∧ m = 51) {b0 b1 b2 b3 : Nat} (h0 : b0 < 256) (h1 : b1 < 256) (h2 : b2 < 256) : (2 ^ 24 * b3 + (2 ^ 16 * b2 + (2 ^ 8 * b1 + b0))) / 2 ^ s &&& (2 ^ 24 * m + (2 ^ 16 * m + (2 ^ 8 * m + m))) = 2 ^ 24 * (b3 / 2 ^ s &&& m) + (2 ^ 16 * (b2 / 2 ^ s &&& m) + (2 ^ 8 * (b1 / 2 ^ s &&& m) + (b0 / 2 ^ s &&& m))) := by
  rcases hs with ⟨rfl, rfl⟩ | ⟨rfl, rfl⟩ | ⟨rfl, rfl⟩ | ⟨rfl, rfl⟩ <;>
    rw [bc_split (k := 24) (by omega) (by decide) (by decide), bc_split (k := 16) (by omega) (by decide) (by decide), bc_split (k := 8) (by omega) (by decide) (by decide)]
theorem bytes_of {n : Nat} (h : n < 2 ^ 32) : ∃ b3 b2 b1 b0, b3 < 256 ∧ b2 < 256 ∧ b1 < 256 ∧ b0 < 256 ∧ n = 2 ^ 24 * b3 + (2 ^ 16 * b2 + (2 ^ 8 * b1 + b0)) :=
  ⟨n / 16777216, n / 65536 % 256, n / 256 % 256, n % 256, by omega, by omega, by omega, by omega, by omega⟩
theorem pcN_bytes {b0 b1 b2 b3 : Nat} (h0 : b0 < 256) (h1 : b1 < 256) (h2 : b2 < 256) : pcN 32 (2 ^ 24 * b3 + (2 ^ 16 * b2 + (2 ^ 8 * b1 + b0))) = pcN 8 b0 + pcN 8 b1 + pcN 8 b2 + pcN 8 b3 := by
  rw [show (32 : Nat) = 24 + 8 from rfl, pcN_split (k := 24) (by omega), show (24 : Nat) = 16 + 8 from rfl, pcN_split (k := 16) (by omega), show (16 : Nat) = 8 + 8 from rfl, pcN_split (k := 8) (by omega)]
theorem ush_nI {n k : Nat} (hn : n < 2 ^ 32) (hk : k < 32) : ((nI n).toUInt32 >>> ((nI k).toUInt32 &&& Int32.toUInt32 31)).toInt32 = nI (n / 2 ^ k) := by
  apply b_ext
  intro i hi
  rw [b_ushr k hk, bt_nI _ hi, Nat.testBit_div_two_pow, Nat.add_comm i k]
  by_cases h : k + i < 32
  · exact bt_nI n h
  · rw [b_big (by omega)]
    exact (Nat.testBit_lt_two_pow (Nat.lt_of_lt_of_le hn (Nat.pow_le_pow_right (by decide) (by omega)))).symm
theorem nI_sub {a b : Nat} (h : b ≤ a) : nI a - nI b = nI (a - b) := by
  have : nI a = nI (a - b) + nI b := by rw [nI_add]; congr 1; omega
  rw [this, Int32.add_sub_cancel]
theorem nx_and' (a b : Nat) : nI a &&& nI b = nI (a &&& b) := Int32.toBitVec_inj.mp (by
  show BitVec.ofNat 32 a &&& BitVec.ofNat 32 b = BitVec.ofNat 32 (a &&& b)
  exact (BitVec.ofNat_and ..).symm)
def jBit (x : Int32) : Int32 :=
  let u := fun (a : Int32) (k : Int32) => (a.toUInt32 >>> (k.toUInt32 &&& Int32.toUInt32 31)).toInt32
  let a := x - (u x 1 &&& 1431655765)
  let b := (a &&& 858993459) + (u a 2 &&& 858993459)
  let c := (b + u b 4) &&& 252645135
  let d := c + u c 8
  (d + u d 16) &&& 63
theorem jBit_pc (x : Int32) : jBit x = nI (pc x) := by
  obtain ⟨n, hn, rfl⟩ := wb_of32' x
  obtain ⟨b3, b2, b1, b0, h3, h2, h1, h0, rfl⟩ := bytes_of hn
  have q0 := bc8 ⟨b0, h0⟩
  have q1 := bc8 ⟨b1, h1⟩
  have q2 := bc8 ⟨b2, h2⟩
  have q3 := bc8 ⟨b3, h3⟩
  rw [pc_nI, pcN_bytes h0 h1 h2]
  simp only [] at q0 q1 q2 q3
  have L : ∀ k, k < 32 → ∀ n, n < 2 ^ 32 → ((nI n).toUInt32 >>> ((nI k).toUInt32 &&& Int32.toUInt32 31)).toInt32 = nI (n / 2 ^ k) := fun k hk n hn => ush_nI hn hk
  have eA : nI (2 ^ 24 * b3 + (2 ^ 16 * b2 + (2 ^ 8 * b1 + b0))) - (((nI (2 ^ 24 * b3 + (2 ^ 16 * b2 + (2 ^ 8 * b1 + b0)))).toUInt32 >>> ((1 : Int32).toUInt32 &&& Int32.toUInt32 31)).toInt32 &&& 1431655765)
      = nI (2 ^ 24 * bcA 85 b3 + (2 ^ 16 * bcA 85 b2 + (2 ^ 8 * bcA 85 b1 + bcA 85 b0))) := by
    rw [show (1 : Int32) = nI 1 from rfl, L 1 (by decide) _ hn, show (1431655765 : Int32) = nI (2 ^ 24 * 85 + (2 ^ 16 * 85 + (2 ^ 8 * 85 + 85))) from by decide +kernel, nx_and', and4 (Or.inr (Or.inl ⟨rfl, rfl⟩)) h0 h1 h2, nI_sub (by omega)]
    congr 1
    unfold bcA
    omega
  generalize hA3 : bcA 85 b3 = a3 at *
  generalize hA2 : bcA 85 b2 = a2 at *
  generalize hA1 : bcA 85 b1 = a1 at *
  generalize hA0 : bcA 85 b0 = a0 at *
  have eB : (nI (2 ^ 24 * a3 + (2 ^ 16 * a2 + (2 ^ 8 * a1 + a0))) &&& 858993459) + (((nI (2 ^ 24 * a3 + (2 ^ 16 * a2 + (2 ^ 8 * a1 + a0)))).toUInt32 >>> ((2 : Int32).toUInt32 &&& Int32.toUInt32 31)).toInt32 &&& 858993459)
      = nI (2 ^ 24 * bcB 51 a3 + (2 ^ 16 * bcB 51 a2 + (2 ^ 8 * bcB 51 a1 + bcB 51 a0))) := by
    have e0 := and4 (s := 0) (m := 51) (b3 := a3) (Or.inr (Or.inr (Or.inr ⟨rfl, rfl⟩))) q0.1 q1.1 q2.1
    rw [Nat.pow_zero, Nat.div_one, Nat.div_one, Nat.div_one, Nat.div_one, Nat.div_one] at e0
    rw [show (2 : Int32) = nI 2 from rfl, L 2 (by decide) _ (by omega), show (858993459 : Int32) = nI (2 ^ 24 * 51 + (2 ^ 16 * 51 + (2 ^ 8 * 51 + 51))) from by decide +kernel, nx_and', nx_and', and4 (Or.inr (Or.inr (Or.inl ⟨rfl, rfl⟩))) q0.1 q1.1 q2.1, e0, nI_add]
    congr 1
    unfold bcB
    omega
  generalize hB3 : bcB 51 a3 = c3 at *
  generalize hB2 : bcB 51 a2 = c2 at *
  generalize hB1 : bcB 51 a1 = c1 at *
  generalize hB0 : bcB 51 a0 = c0 at *
  have m15 : ∀ z : Nat, z &&& 15 = z % 16 := fun z => Nat.and_two_pow_sub_one_eq_mod z 4
  have eC : (nI (2 ^ 24 * c3 + (2 ^ 16 * c2 + (2 ^ 8 * c1 + c0))) + ((nI (2 ^ 24 * c3 + (2 ^ 16 * c2 + (2 ^ 8 * c1 + c0)))).toUInt32 >>> ((4 : Int32).toUInt32 &&& Int32.toUInt32 31)).toInt32) &&& 252645135
      = nI (2 ^ 24 * pcN 8 b3 + (2 ^ 16 * pcN 8 b2 + (2 ^ 8 * pcN 8 b1 + pcN 8 b0))) := by
    have e9 : 2 ^ 24 * c3 + (2 ^ 16 * c2 + (2 ^ 8 * c1 + c0)) + (2 ^ 24 * c3 + (2 ^ 16 * c2 + (2 ^ 8 * c1 + c0))) / 2 ^ 4 = 2 ^ 24 * (c3 + c3 / 16) + (2 ^ 16 * (c2 + c2 / 16 + 16 * (c3 % 16)) + (2 ^ 8 * (c1 + c1 / 16 + 16 * (c2 % 16)) + (c0 + c0 / 16 + 16 * (c1 % 16)))) := by omega
    have e0 := and4 (s := 0) (m := 15) (b3 := c3 + c3 / 16) (b2 := c2 + c2 / 16 + 16 * (c3 % 16)) (b1 := c1 + c1 / 16 + 16 * (c2 % 16)) (b0 := c0 + c0 / 16 + 16 * (c1 % 16)) (Or.inl ⟨rfl, rfl⟩) (by omega) (by omega) (by omega)
    rw [Nat.pow_zero, Nat.div_one, Nat.div_one, Nat.div_one, Nat.div_one, Nat.div_one] at e0
    rw [show (4 : Int32) = nI 4 from rfl, L 4 (by decide) _ (by omega), nI_add, show (252645135 : Int32) = nI (2 ^ 24 * 15 + (2 ^ 16 * 15 + (2 ^ 8 * 15 + 15))) from by decide +kernel, nx_and', e9, e0]
    have r0 := q0.2.2.2.2.1
    have r1 := q1.2.2.2.2.1
    have r2 := q2.2.2.2.2.1
    have r3 := q3.2.2.2.2.1
    unfold bcC at r0 r1 r2 r3
    rw [m15] at r0 r1 r2 r3
    simp only [Nat.reducePow] at r0 r1 r2 r3
    have t0 : (c0 + c0 / 16 + 16 * (c1 % 16)) &&& 15 = pcN 8 b0 := by rw [m15, ← r0]; omega
    have t1 : (c1 + c1 / 16 + 16 * (c2 % 16)) &&& 15 = pcN 8 b1 := by rw [m15, ← r1]; omega
    have t2 : (c2 + c2 / 16 + 16 * (c3 % 16)) &&& 15 = pcN 8 b2 := by rw [m15, ← r2]; omega
    have t3 : (c3 + c3 / 16) &&& 15 = pcN 8 b3 := by rw [m15, ← r3]
    rw [t0, t1, t2, t3]
  generalize hp3 : pcN 8 b3 = p3 at *
  generalize hp2 : pcN 8 b2 = p2 at *
  generalize hp1 : pcN 8 b1 = p1 at *
  generalize hp0 : pcN 8 b0 = p0 at *
  unfold jBit
  simp only []
  rw [eA, eB, eC, show (8 : Int32) = nI 8 from rfl, L 8 (by decide) _ (by omega), nI_add, show (16 : Int32) = nI 16 from rfl, L 16 (by decide) _ (by omega), nI_add, show (63 : Int32) = nI 63 from rfl, nx_and', show ∀ z : Nat, z &&& 63 = z % 64 from fun z => Nat.and_two_pow_sub_one_eq_mod z 6]
  have g0 : p0 ≤ 8 := q0.2.2.2.2.2.1
  have g1 : p1 ≤ 8 := q1.2.2.2.2.2.1
  have g2 : p2 ≤ 8 := q2.2.2.2.2.2.1
  have g3 : p3 ≤ 8 := q3.2.2.2.2.2.1
  clear q0 q1 q2 q3 eA eB eC L m15 hn
  simp only [Nat.reducePow]
  have d1 : (16777216 * p3 + (65536 * p2 + (256 * p1 + p0))) / 256 = 65536 * p3 + 256 * p2 + p1 := by omega
  rw [d1]
  have d2 : (16777216 * p3 + (65536 * p2 + (256 * p1 + p0)) + (65536 * p3 + 256 * p2 + p1)) / 65536 = 256 * p3 + (p2 + p3) := by omega
  rw [d2]
  congr 1
  omega
