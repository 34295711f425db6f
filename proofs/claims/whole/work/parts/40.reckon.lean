/-! ===== functions of the heap: how they are reckoned ===== -/
theorem ltv_e {α β : Type} (v : α) (k : α → β) : ltv v k = k v := rfl
theorem bd1_s {α β : Type} (a : α) (k : α → Option β) : bd1 (some a) k = k a := rfl
theorem bd2_s {α β : Type} (a : α) (g : HP) (k : α → HP → Option β) : bd2 (some (a, g)) k = k a g := rfl
theorem hI_uI (h : HP) (a j : Nat) (x : Int32) (b k : Nat) : hI (uI h a j x) b k = if b = a ∧ k = j then x else hI h b k := by
  by_cases hb : b = a
  · subst hb
    rw [hI_rI_s]; unfold upd
    by_cases hk : k = j
    · rw [if_pos hk, if_pos ⟨rfl, hk⟩]
    · rw [if_neg hk, if_neg (fun q => hk q.2)]
  · rw [hI_rI_n _ _ hb, if_neg (fun q => hb q.1)]
theorem hL_uL (h : HP) (a j : Nat) (x : Int64) (b k : Nat) : hL (uL h a j x) b k = if b = a ∧ k = j then x else hL h b k := by
  by_cases hb : b = a
  · subst hb
    rw [hL_rL_s]; unfold vp_updL
    by_cases hk : k = j
    · rw [if_pos hk, if_pos ⟨rfl, hk⟩]
    · rw [if_neg hk, if_neg (fun q => hk q.2)]
  · rw [hL_rL_n _ _ hb, if_neg (fun q => hb q.1)]
theorem hL_uI (h : HP) (a j : Nat) (x : Int32) : hL (uI h a j x) = hL h := rfl
theorem hI_uL (h : HP) (a j : Nat) (x : Int64) : hI (uL h a j x) = hI h := rfl
theorem hR_uI (h : HP) (a j : Nat) (x : Int32) : hR (uI h a j x) = hR h := rfl
theorem hR_uL (h : HP) (a j : Nat) (x : Int64) : hR (uL h a j x) = hR h := rfl
theorem vp_nI {k n : Nat} (hk : k < n) (hn : n < 2 ^ 31) : vp_in (nI k) n := vp_in_nI hk hn
theorem gdi_nI {β : Type} {k n : Nat} (hk : k < n) (hn : n < 2 ^ 31) (q : Option β) : gdi (nI k) n q = q := gdi_t (vp_nI hk hn) q
theorem lit_nI : (0 : Int32) = nI 0 ∧ (1 : Int32) = nI 1 ∧ (2 : Int32) = nI 2 ∧ (3 : Int32) = nI 3 ∧ (4 : Int32) = nI 4 := ⟨rfl, rfl, rfl, rfl, rfl⟩
theorem is01_bI (b : Bool) : is01 (bI b) := by cases b; exact Or.inl rfl; exact Or.inr rfl
theorem is01_cIf (p : Prop) : is01 (cIf p) := by
  by_cases h : p
  · exact Or.inr (cIf_t h)
  · exact Or.inl (cIf_f h)
theorem nI_t {k : Nat} (hk : k < 2 ^ 31) : (nI k).toInt = (k : Int) := nI_toInt hk
theorem nat_is {x : Int32} (h0 : 0 ≤ x.toInt) : ∃ k, k < 2 ^ 31 ∧ x = nI k := by
  have := x.toInt_lt
  exact ⟨x.toInt.toNat, by omega, nI_toNat h0⟩
/-- a loop that counts up -/
theorem up_rec {α : Type} (F : Nat → Nat → α) (G : Nat → α) (m : Nat) (h1 : ∀ n, F (n + 1) m = G m) (h2 : ∀ n k, k < m → (F n (k + 1) = G (k + 1)) → F (n + 1) k = G k) :
    ∀ d k n, k + d = m → d < n → F n k = G k := by
  intro d
  induction d with
  | zero =>
    intro k n e hn
    obtain ⟨n', rfl⟩ : ∃ n', n = n' + 1 := ⟨n - 1, by omega⟩
    rw [show k = m by omega]; exact h1 n'
  | succ d ih =>
    intro k n e hn
    obtain ⟨n', rfl⟩ : ∃ n', n = n' + 1 := ⟨n - 1, by omega⟩
    exact h2 n' k (by omega) (ih (k + 1) n' (by omega) (by omega))
theorem FU_gt {d : Nat} (h : d < 1000000) : d < FU := h
