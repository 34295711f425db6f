/-! ===== the reference's count of bits ===== -/
theorem pcN_half (k n : Nat) : pcN (k + 1) n = (if n.testBit 0 = true then 1 else 0) + pcN k (n / 2) := by
  unfold pcN
  rw [show k + 1 = 1 + k by omega, fb_ct_split]
  congr 1
  · simp [fb_ct]
  · exact fb_ct_cong (fun i _ => by rw [Nat.add_comm 1 i, Nat.testBit_succ])
theorem pcN_clear : ∀ k n, 0 < n → n < 2 ^ k → pcN k (n &&& (n - 1)) + 1 = pcN k n
  | 0, n, h1, h2 => absurd h2 (by omega)
  | k + 1, n, h1, h2 => by
    rw [pcN_half, pcN_half]
    have hb : (n &&& (n - 1)).testBit 0 = false := by
      rw [Nat.testBit_and, Nat.testBit_zero, Nat.testBit_zero]
      rcases Nat.mod_two_eq_zero_or_one n with h | h
      · simp [h]
      · have : (n - 1) % 2 = 0 := by omega
        simp [this]
    rw [hb]
    rcases Nat.mod_two_eq_zero_or_one n with h | h
    · have hn : n.testBit 0 = false := by rw [Nat.testBit_zero]; simp [h]
      rw [hn]
      have e : (n &&& (n - 1)) / 2 = n / 2 &&& (n / 2 - 1) := by
        apply Nat.eq_of_testBit_eq
        intro i
        rw [Nat.testBit_and, ← Nat.testBit_succ, Nat.testBit_and, Nat.testBit_succ, Nat.testBit_succ, show (n - 1) / 2 = n / 2 - 1 by omega]
      rw [e]
      have := pcN_clear k (n / 2) (by omega) (by rw [Nat.pow_succ] at h2; omega)
      simp only [Bool.false_eq_true, if_false]; omega
    · have hn : n.testBit 0 = true := by rw [Nat.testBit_zero]; simp [h]
      rw [hn]
      have e : (n &&& (n - 1)) / 2 = n / 2 := by
        apply Nat.eq_of_testBit_eq
        intro i
        rw [← Nat.testBit_succ, Nat.testBit_and, Nat.testBit_succ, Nat.testBit_succ, show (n - 1) / 2 = n / 2 by omega, Bool.and_self]
      rw [e]
      simp only [Bool.false_eq_true, if_false, if_true]; omega
theorem pc_clear {x : Int32} (hx : x ≠ 0) : pc (x &&& (x - 1)) + 1 = pc x := by
  obtain ⟨n, hn, rfl⟩ := wb_of32' x
  have h0 : 0 < n := by
    rcases Nat.eq_zero_or_pos n with h | h
    · exact absurd (by rw [h]; rfl) hx
    · exact h
  rw [show (1 : Int32) = nI 1 from rfl, nI_sub h0, nx_and', pc_nI, pc_nI]
  exact pcN_clear 32 n h0 hn
theorem pc_0 : pc 0 = 0 := by decide +kernel
theorem bits_lp (h : HP) : ∀ n (c x : Int32), pc x < n → f_X12_bits_4 n c x h = some (c + nI (pc x), h)
  | 0, _, _, q => absurd q (by omega)
  | n + 1, c, x, q => by
    unfold f_X12_bits_4
    by_cases hx : x = 0
    · rw [if_pos hx, hx, pc_0, show nI 0 = 0 from rfl, Int32.add_zero]
    · rw [if_neg hx]
      simp only [ltv_e]
      have := pc_clear hx
      rw [bits_lp h n _ _ (by omega), Int32.add_assoc, show (1 : Int32) = nI 1 from rfl, nI_add, show nI 1 = 1 from rfl, show 1 + pc (x &&& (x - 1)) = pc x by omega]
theorem bits_e (h : HP) (x : Int32) : f_X12_bits h x = some (nI (pc x), h) := by
  unfold f_X12_bits
  rw [bits_lp h FU 0 x (by have := pc_le x; exact Nat.lt_of_le_of_lt this (FU_gt (by decide))), Int32.zero_add]
