/-! ===== a word's letters; what both make of them ===== -/
theorem run_all (b : Nat → Bool) : ∀ n p i, p ≤ i → i < runN b n p → b i = true
  | 0, p, i, h1, h2 => by unfold runN at h2; omega
  | n + 1, p, i, h1, h2 => by
    by_cases hb : b p = true
    · unfold runN at h2; rw [if_pos hb] at h2
      by_cases hi : i = p
      · rw [hi]; exact hb
      · exact run_all b n (p + 1) i (by omega) h2
    · unfold runN at h2; rw [if_neg hb] at h2; omega
theorem lo_d {T : Nat → Int32} {p : Nat} (h : isLo T p = true) : ∃ c, 97 ≤ c ∧ c ≤ 122 ∧ T p = nI c := by
  have q := of_decide_eq_true h
  obtain ⟨k, hk, ek⟩ := nat_is (x := T p) (by have := Int32.le_iff_toInt_le.mp q.1; have : ((97 : Int32).toInt) = 97 := rfl; omega)
  rw [ek, show (97 : Int32) = nI 97 from rfl, show (122 : Int32) = nI 122 from rfl, nI_leI (by omega) (by omega), nI_leI (by omega) (by omega)] at q
  exact ⟨k, q.1, q.2, ek⟩
/-- all of the word's places are letters -/
def WD (T : Nat → Int32) (s len : Nat) : Prop := ∀ i, i < len → isLo T (s + i) = true
theorem WD_of {T : Nat → Int32} {L s : Nat} (h : isLo T s = true) : WD T s (lenT T L s) := by
  intro i hi
  rw [lenT_lo h] at hi
  exact run_all _ (L - s) s (s + i) (by omega) (by unfold wEnd at hi; omega)
theorem DG_of {T : Nat → Int32} {L s : Nat} (h : ¬ isLo T s = true) (h2 : isDi T s = true) : ∀ i, i < lenT T L s → isDi T (s + i) = true := by
  intro i hi
  rw [lenT_di h h2] at hi
  exact run_all _ (L - s) s (s + i) (by omega) (by unfold dEnd at hi; omega)
def ltr (T : Nat → Int32) (s : Nat) : Nat → List Nat
  | 0 => []
  | k + 1 => ltr T s k ++ [(T (s + k)).toNatClampNeg]
theorem ltr_len (T : Nat → Int32) (s : Nat) : ∀ k, (ltr T s k).length = k
  | 0 => rfl
  | k + 1 => by unfold ltr; rw [List.length_append, ltr_len T s k]; rfl
theorem ltr_lo {T : Nat → Int32} {s : Nat} : ∀ k, WD T s k → LO (ltr T s k)
  | 0, _ => fun c h => by unfold ltr at h; cases h
  | k + 1, w => fun c h => by
    unfold ltr at h
    rcases List.mem_append.mp h with h | h
    · exact ltr_lo k (fun i hi => w i (by omega)) c h
    · obtain ⟨d, h1, h2, h3⟩ := lo_d (w k (by omega))
      rw [List.mem_singleton.mp h, h3, nI_clamp (by omega)]; exact ⟨h1, h2⟩
theorem ltr_get {T : Nat → Int32} {s : Nat} : ∀ k, WD T s k → ∀ i, i < k → T (s + i) = nI ((ltr T s k).getD i 0)
  | 0, _, i, hi => absurd hi (by omega)
  | k + 1, w, i, hi => by
    unfold ltr
    by_cases h : i < k
    · rw [List.getD_eq_getElem?_getD, List.getElem?_append_left (by rw [ltr_len]; exact h), ← List.getD_eq_getElem?_getD]
      exact ltr_get k (fun j hj => w j (by omega)) i h
    · have e : i = k := by omega
      subst e
      obtain ⟨d, h1, h2, h3⟩ := lo_d (w i (by omega))
      rw [List.getD_eq_getElem?_getD, List.getElem?_append_right (by rw [ltr_len]; exact Nat.le_refl _), ltr_len, Nat.sub_self, h3]
      show nI d = nI ((nI d).toNatClampNeg)
      rw [nI_clamp (by omega)]
theorem let_c : ∀ c, c < 123 → 97 ≤ c → (nI c - 97 + 1).toInt64 = Int64.ofNat (c - 96) ∧ Int32.toInt64 (nI c) = Int64.ofNat c := by decide +kernel
theorem codN_is {T : Nat → Int32} {s : Nat} : ∀ k, WD T s k → codN T s k = if k ≤ 8 then Int64.ofNat (n27 (ltr T s k)) else -1
  | 0, _ => rfl
  | k + 1, w => by
    obtain ⟨d, h1, h2, h3⟩ := lo_d (w k (by omega))
    unfold codN
    by_cases h : k < 8
    · rw [if_pos h, if_pos (by omega), codN_is k (fun i hi => w i (by omega)), if_pos (by omega), h3, (let_c d (by omega) h1).1]
      show _ = Int64.ofNat (n27 (ltr T s k ++ [(T (s + k)).toNatClampNeg]))
      rw [n27_c, h3, nI_clamp (by omega), Int64.ofNat_add, Int64.ofNat_mul]; rfl
    · rw [if_neg h, if_neg (by omega)]
theorem kw_lo : ∀ i, i < 22 → (∀ c, c ∈ kwS i → 97 ≤ c ∧ c ≤ 122) ∧ (kwS i).length ≤ 7 ∧ kwC i ≠ -1 ∧ ∀ j, j < 22 → kwS i = kwS j → i = j := by decide +kernel
theorem kwN_no {c : Nat → Int64} {x : Int64} : ∀ k, (∀ i, i < k → c i ≠ x) → kwN c x k = -1
  | 0, _ => rfl
  | k + 1, h => by unfold kwN; rw [if_neg (h k (by omega))]; exact kwN_no k (fun i hi => h i (by omega))
theorem kwN_hit {c : Nat → Int64} {x : Int64} {j : Nat} (e : c j = x) : ∀ k, j < k → (∀ i, i < k → c i = x → i = j) → kwN c x k = nI j
  | 0, h, _ => absurd h (by omega)
  | k + 1, h, u => by
    unfold kwN
    by_cases q : c k = x
    · rw [if_pos q, u k (by omega) q]
    · rw [if_neg q]
      exact kwN_hit e k (by by_cases z : j = k; rw [z] at e; exact absurd e q; omega) (fun i hi => u i (by omega))
theorem wIx_no {T : Nat → Int32} {s len : Nat} : ∀ d w, (∀ v, w ≤ v → v < w + d → ¬ Wd T s len (rwS v)) → wIx T s len d w = -1
  | 0, _, _ => rfl
  | d + 1, w, h => by unfold wIx; rw [if_neg (h w (Nat.le_refl _) (by omega))]; exact wIx_no d (w + 1) (fun v h1 h2 => h v (by omega) (by omega))
theorem wIx_hit {T : Nat → Int32} {s len j : Nat} (e : Wd T s len (rwS j)) : ∀ d w, w ≤ j → j < w + d → (∀ v, v < w + d → Wd T s len (rwS v) → v = j) → wIx T s len d w = nI j
  | 0, w, h1, h2, _ => absurd h2 (by omega)
  | d + 1, w, h1, h2, u => by
    unfold wIx
    by_cases q : Wd T s len (rwS w)
    · rw [if_pos q, u w (by omega) q]
    · rw [if_neg q]
      exact wIx_hit e d (w + 1) (by by_cases z : w = j; rw [z] at q; exact absurd e q; omega) (by omega) (fun v hv => u v (by omega))
theorem Wd_iff {T : Nat → Int32} {s k : Nat} (w : WD T s k) {l : List Nat} (hl : ∀ c, c ∈ l → 97 ≤ c ∧ c ≤ 122) : Wd T s k l ↔ ltr T s k = l := by
  constructor
  · intro q
    refine List.ext_getElem (by rw [ltr_len]; exact q.1) (fun i h1 h2 => ?_)
    rw [ltr_len] at h1
    have a := ltr_get k w i h1
    have b := q.2 i h2
    rw [a] at b
    have m1 := ltr_lo k w ((ltr T s k)[i]'(by rw [ltr_len]; exact h1)) (List.getElem_mem _)
    have m2 := hl (l[i]) (List.getElem_mem _)
    have g1 : (ltr T s k).getD i 0 = (ltr T s k)[i]'(by rw [ltr_len]; exact h1) := by rw [List.getD_eq_getElem?_getD, List.getElem?_eq_getElem (by rw [ltr_len]; exact h1)]; rfl
    have g2 : l.getD i 0 = l[i] := by rw [List.getD_eq_getElem?_getD, List.getElem?_eq_getElem h2]; rfl
    rw [g1, g2] at b
    exact nI_inj (by omega) (by omega) b
  · intro q
    have e : k = l.length := by rw [← q, ltr_len]
    exact ⟨e, fun i hi => by rw [← q]; exact ltr_get k w i (by omega)⟩
/-- a word: what the class and what the reference find -/
theorem word_is {T : Nat → Int32} {L s : Nat} (h : isLo T s = true) : (∃ k, k < 22 ∧ tkV T L s = nI k ∧ wIx T s (lenT T L s) 22 0 = nI (rwK k)) ∨ (tkV T L s = -1 ∧ wIx T s (lenT T L s) 22 0 = -1) := by
  have w := WD_of (L := L) h
  unfold tkV
  rw [if_pos h, codN_is _ w]
  generalize lenT T L s = len at w ⊢
  have rl : ∀ v, v < 22 → (∀ c, c ∈ rwS v → 97 ≤ c ∧ c ≤ 122) := fun v hv => (kw_lo _ (pm_rw v hv).1).1
  by_cases hk : ∃ k, k < 22 ∧ kwS k = ltr T s len
  · obtain ⟨k, hk, ek⟩ := hk
    have p := pm_rw k hk
    have l7 : len ≤ 7 := by have := (kw_lo k hk).2.1; rw [ek, ltr_len] at this; exact this
    refine Or.inl ⟨k, hk, ?_, ?_⟩
    · rw [if_pos (by omega)]
      refine kwN_hit (by unfold kwC; rw [ek]) 22 hk (fun i hi e => ?_)
      have q := kw_lo i hi
      have a1 := n27_lt q.1 (by omega)
      have a2 := n27_lt (ltr_lo len w) (by rw [ltr_len]; omega)
      have := n27_inj q.1 (ltr_lo len w) (i64_inj (by omega) (by omega) e)
      exact q.2.2.2 k hk (this.trans ek.symm)
    · have rw1 : rwS (rwK k) = ltr T s len := by unfold rwS; rw [p.2.2.2]; exact ek
      refine wIx_hit ((Wd_iff w (rl _ p.2.1)).mpr rw1.symm) 22 0 (Nat.zero_le _) (by have := p.2.1; omega) (fun v hv e => ?_)
      have e1 := (Wd_iff w (rl v (by omega))).mp e
      have pv := pm_rw v (by omega)
      have e2 : kwS (pmW v) = kwS k := e1.symm.trans ek.symm
      have := (kw_lo _ pv.1).2.2.2 k hk e2
      rw [← this, pv.2.2.1]
  · refine Or.inr ⟨kwN_no 22 (fun i hi e => ?_), wIx_no 22 0 (fun v _ hv e => ?_)⟩
    · have q := kw_lo i hi
      by_cases h8 : len ≤ 8
      · rw [if_pos h8] at e
        have a1 := n27_lt q.1 (by omega)
        have a2 := n27_lt (ltr_lo len w) (by rw [ltr_len]; omega)
        exact hk ⟨i, hi, n27_inj q.1 (ltr_lo len w) (i64_inj (by omega) (by omega) e)⟩
      · rw [if_neg h8] at e; exact q.2.2.1 e
    · exact hk ⟨pmW v, (pm_rw v (by omega)).1, ((Wd_iff w (rl v (by omega))).mp e).symm⟩
theorem sh8 (v c : Nat) (hc : c < 256) : ((Int64.ofNat v <<< (Int32.toInt64 8 &&& 63)) ||| Int64.ofNat c) = Int64.ofNat (v * 256 + c) := by
  apply Int64.toBitVec_inj.mp
  rw [Int64.toBitVec_or]
  have e1 : (Int64.ofNat v <<< (Int32.toInt64 8 &&& 63)).toBitVec = BitVec.ofNat 64 v <<< 8 := rfl
  rw [e1]
  apply BitVec.eq_of_toNat_eq
  rw [BitVec.toNat_or, BitVec.toNat_shiftLeft]
  rw [show (Int64.ofNat c).toBitVec = BitVec.ofNat 64 c from rfl, show (Int64.ofNat (v * 256 + c)).toBitVec = BitVec.ofNat 64 (v * 256 + c) from rfl]
  simp only [BitVec.toNat_ofNat]
  have q := Nat.shiftLeft_add_eq_or_of_lt (show c < 2 ^ 8 by omega) v
  have e2 : v <<< 8 = v * 256 := by rw [Nat.shiftLeft_eq]
  have e3 : (v % 2 ^ 64) <<< 8 % 2 ^ 64 = (v <<< 8) % 2 ^ 64 := by rw [Nat.shiftLeft_eq, Nat.shiftLeft_eq, Nat.mod_mul_mod]
  rw [e3, ← Nat.or_mod_two_pow, ← q, e2]
theorem nh7 {b : HP} {T : Nat → Int32} {L s len : Nat} (tx : TX T L) (x : RTx b T L) (e14 : hI b 113 14 = nI (s + len)) (hs : s + len ≤ L) (w : WD T s len) : ∀ d k f, k + d = len → d < f → f_X12_nameHere_7 f (Int64.ofNat (n256 (ltr T s k))) (nI (s + k)) b = some (Int64.ofNat (n256 (ltr T s len)), b)
  | d, k, 0, hd, hf => absurd hf (by omega)
  | 0, k, f + 1, hd, hf => by
    have hL := tx.1
    unfold f_X12_nameHere_7
    rw [e14, show k = len by omega, if_pos (Int32.le_refl _)]
  | d + 1, k, f + 1, hd, hf => by
    have hL := tx.1
    unfold f_X12_nameHere_7
    obtain ⟨c, h1, h2, h3⟩ := lo_d (w k (by omega))
    rw [e14, if_neg (show ¬ nI (s + len) ≤ nI (s + k) from fun z => by have := (nI_leI (by omega) (by omega)).mp z; omega), f_byteAt x hL (by omega), bd2_s, (ub_ch tx (by omega) (by omega : c < 128)).mpr h3, ltv_e, ltv_e, (let_c c (by omega) h1).2, sh8 _ _ (by omega), nI_1]
    have e : n256 (ltr T s k) * 256 + c = n256 (ltr T s (k + 1)) := by
      show _ = n256 (ltr T s k ++ [(T (s + k)).toNatClampNeg])
      rw [n256_c, h3, nI_clamp (by omega)]
    rw [e, show s + k + 1 = s + (k + 1) by omega]
    exact nh7 tx x e14 hs w d (k + 1) f (by omega) (by omega)
theorem nameHere_is {b : HP} {T : Nat → Int32} {L s len : Nat} (tx : TX T L) (x : RTx b T L) (e13 : hI b 113 13 = nI s) (e14 : hI b 113 14 = nI (s + len)) (hs : s + len ≤ L) (w : WD T s len) : f_X12_nameHere b = some (Int64.ofNat (n256 (ltr T s len)), b) := by
  have hL := tx.1
  unfold f_X12_nameHere
  rw [ltv_e, e13]
  exact nh7 tx x e14 hs w len 0 FU (by omega) (FU_gt (by omega))
