/-! ===== alike: the feed ===== -/
theorem hI_uI_n' {h : HP} {a j : Nat} {x : Int32} {b : Nat} (hn : b ≠ a) : hI (uI h a j x) b = hI h b := hI_rI_n h _ hn
theorem uI_comm (h : HP) {a b : Nat} (hab : a ≠ b) (i j : Nat) (x y : Int32) : uI (uI h a i x) b j y = uI (uI h b j y) a i x := by
  refine HP_ext rfl (funext fun c => funext fun k => ?_) rfl rfl
  rw [hI_uI, hI_uI, hI_uI, hI_uI]
  by_cases h1 : c = b ∧ k = j
  · rw [if_pos h1, if_neg (fun q => hab (q.1.symm.trans h1.1)), if_pos h1]
  · rw [if_neg h1]
    by_cases h2 : c = a ∧ k = i
    · rw [if_pos h2, if_pos h2]
    · rw [if_neg h2, if_neg h2, if_neg h1]
theorem uI_twice (h : HP) (a i : Nat) (x y : Int32) : uI (uI h a i x) a i y = uI h a i y := by
  refine HP_ext rfl (funext fun c => funext fun k => ?_) rfl rfl
  rw [hI_uI, hI_uI, hI_uI]
  by_cases h1 : c = a ∧ k = i
  · rw [if_pos h1, if_pos h1]
  · rw [if_neg h1, if_neg h1, if_neg h1]
theorem rI_uI {g : HP} {A B : Nat} (h : A ≠ B) (j : Nat) (x : Int32) (f : Nat → Int32) : rI (uI g B j x) A f = uI (rI g A f) B j x := by
  refine HP_ext rfl (funext fun c => ?_) rfl rfl
  by_cases h1 : c = A
  · subst h1; rw [hI_rI_s, hI_uI_n' h, hI_rI_s]
  · rw [hI_rI_n _ _ h1]
    by_cases h2 : c = B
    · subst h2; rw [hI_rI_s, hI_rI_s, hI_rI_n _ _ h1]
    · rw [hI_uI_n' h2, hI_uI_n' h2, hI_rI_n _ _ h1]
theorem tp_lift {g : HP} {A B : Nat} (h : A ≠ B) (j : Nat) (x y : Int32) (F G : Nat → Int32) (q : hI (uI (rI g A F) B j x) A = F → True) : uI (rI (uI (rI g A F) B j x) A G) B j y = uI (rI g A G) B j y := by
  rw [rI_uI h, rI_rI, uI_twice]
theorem i8_twice (x : Int32) : (Int8.toInt32 (Int32.toInt8 (Int8.toInt32 (Int32.toInt8 x)))) = Int8.toInt32 (Int32.toInt8 x) := by
  rw [Int8.toInt8_toInt32]
theorem four_st (h : HP) (f : Nat) (v : Int32) (k : Nat) : uI (uI (uI (rI h 119 (rowI (hI h 119) (byteF v) f k)) 113 10 (nI (f + k))) 119 (f + k) (byteF v k)) 113 10 (nI (f + k) + 1) = uI (rI h 119 (rowI (hI h 119) (byteF v) f (k + 1))) 113 10 (nI (f + (k + 1))) := by
  rw [uI_comm _ (show 113 ≠ 119 by decide), uI_twice, uI_row, nI_1, Nat.add_assoc]
theorem four_e {h : HP} {f : Nat} (hf : hI h 113 10 = nI f) (h8 : f ≤ 896) (v : Int32) : f_X12_four h v = some (uI (rI h 119 (rowI (hI h 119) (byteF v) f 4)) 113 10 (nI (f + 4))) := by
  have st : ∀ n k (l : Int32), k < 4 → l = nI (24 - 8 * k) → f_X12_four_3 (n + 1) v l (uI (rI h 119 (rowI (hI h 119) (byteF v) f k)) 113 10 (nI (f + k))) = f_X12_four_3 n v (l + (-8)) (uI (rI h 119 (rowI (hI h 119) (byteF v) f (k + 1))) 113 10 (nI (f + (k + 1)))) := fun n k l hk hl => by
    rw [f_X12_four_3]
    rw [hl, if_neg (lt_nI0 _ (by omega)), hI_uI_s, gdi_nI (by omega) (by decide), nI_clamp (by omega)]
    simp only [ltv_e]
    rw [i8_twice, show (Int32.toInt8 (v >>> (nI (24 - 8 * k) &&& 31))).toInt32 = byteF v k from rfl, hI_uI_n (by omega), hI_uI_s, four_st]
  obtain ⟨n, hn⟩ : ∃ n, FU = n + 5 := ⟨999995, rfl⟩
  have s0 : uI (rI h 119 (rowI (hI h 119) (byteF v) f 0)) 113 10 (nI (f + 0)) = h := by
    rw [rowI_0, rI_self, Nat.add_zero, ← hf]
    refine HP_ext rfl (funext fun c => funext fun k => ?_) rfl rfl
    rw [hI_uI]
    by_cases q : c = 113 ∧ k = 10
    · rw [if_pos q, q.1, q.2]
    · rw [if_neg q]
  unfold f_X12_four
  rw [hn]
  have a0 := st (n + 4) 0 24 (by decide) rfl
  rw [s0] at a0
  have a1 := st (n + 3) 1 (24 + (-8)) (by decide) (by decide)
  have a2 := st (n + 2) 2 (24 + (-8) + (-8)) (by decide) (by decide)
  have a3 := st (n + 1) 3 (24 + (-8) + (-8) + (-8)) (by decide) (by decide)
  have a4 : f_X12_four_3 (n + 1) v (24 + (-8) + (-8) + (-8) + (-8)) (uI (rI h 119 (rowI (hI h 119) (byteF v) f (3 + 1))) 113 10 (nI (f + (3 + 1)))) = some (uI (rI h 119 (rowI (hI h 119) (byteF v) f 4)) 113 10 (nI (f + 4))) := by
    rw [f_X12_four_3, if_pos (by decide)]
  exact a0.trans (a1.trans (a2.trans (a3.trans a4)))
theorem app_e {h : HP} {f : Nat} (hf : hI h 5 7 = nI f) (h8 : f ≤ 896) (v : Int32) : f_X4_append h v = some (uI (rI h 6 (rowI (hI h 6) (byteF v) f 4)) 5 7 (nI (f + 4))) := by
  unfold f_X4_append
  rw [hf, gdi_nI (by omega) (by decide), nI_clamp (by omega), show min 4 (900 - f) = 4 by omega]
  rfl
def by8 (x : Int32) : Prop := ∃ c : Int8, x = c.toInt32
theorem tp_st {T T' : Nat → Int32} {f : Nat} (q : ∀ k, k < f → T k = T' k ∧ by8 (T' k)) (v : Int32) : ∀ k, k < f + 4 → rowI T (byteF v) f 4 k = rowI T' (byteF v) f 4 k ∧ by8 (rowI T' (byteF v) f 4 k) := fun k hk => by
  unfold rowI
  by_cases h1 : f ≤ k ∧ k < f + 4
  · rw [if_pos h1, if_pos h1]; exact ⟨rfl, _, rfl⟩
  · rw [if_neg h1, if_neg h1]; exact q k (by omega)
/-- five ints more on a tape -/
def tp5 (T : Nat → Int32) (f : Nat) (a b c d e : Int32) : Nat → Int32 := rowI (rowI (rowI (rowI (rowI T (byteF a) f 4) (byteF b) (f + 4) 4) (byteF c) (f + 4 + 4) 4) (byteF d) (f + 4 + 4 + 4) 4) (byteF e) (f + 4 + 4 + 4 + 4) 4
theorem tp5_st {T T' : Nat → Int32} {f : Nat} (q : ∀ k, k < f → T k = T' k ∧ by8 (T' k)) (a b c d e : Int32) : ∀ k, k < f + 20 → tp5 T f a b c d e k = tp5 T' f a b c d e k ∧ by8 (tp5 T' f a b c d e k) := fun k hk =>
  tp_st (tp_st (tp_st (tp_st (tp_st q a) b) c) d) e k (by omega)
theorem op_feed {h : HP} {t u : Nat} (I : Inv h t u) (a b c d e : Int32) : Op t u (f_X11_feed h a b c d e) (fun g => f_X12_feed g a b c d e) := by
  have ht := I.t
  obtain ⟨⟨f, f9, k1, k2, k3⟩, k4, k5⟩ := I.2.2.2.1
  have hroom : ∀ x : Int32, x = nI f → (x + 20 ≤ 900 ↔ f + 20 ≤ 900) := fun x hx => by
    rw [hx, show (20 : Int32) = nI 20 from rfl, nI_add, show (900 : Int32) = nI 900 from rfl, nI_leI (by omega) (by omega)]
  by_cases hr : f + 20 ≤ 900
  · obtain ⟨g, eg⟩ : ∃ g, g = uI (rI h 6 (tp5 (hI h 6) f a b c d e)) 5 7 (nI (f + 20)) := ⟨_, rfl⟩
    have step : ∀ (g : HP) (F : Nat → Int32) (n : Nat) (v : Int32), n ≤ 896 → f_X4_append (uI (rI g 6 F) 5 7 (nI n)) v = some (uI (rI g 6 (rowI F (byteF v) n 4)) 5 7 (nI (n + 4))) := fun g F n v hn => by
      rw [app_e (hI_uI_s _ _ _ _) hn]
      rw [hI_uI_n' (by decide), hI_rI_s, tp_lift (by decide) 7 _ _ _ _ (fun _ => trivial)]
    have mstep : ∀ (g : HP) (F : Nat → Int32) (n : Nat) (v : Int32), n ≤ 896 → f_X12_four (uI (rI g 119 F) 113 10 (nI n)) v = some (uI (rI g 119 (rowI F (byteF v) n 4)) 113 10 (nI (n + 4))) := fun g F n v hn => by
      rw [four_e (hI_uI_s _ _ _ _) hn]
      rw [hI_uI_n' (by decide), hI_rI_s, tp_lift (by decide) 10 _ _ _ _ (fun _ => trivial)]
    have Eg : ∀ (b k : Nat), b ≠ 6 → (b ≠ 5 ∨ k ≠ 7) → hI g b k = hI h b k := fun b k h1 h2 => by rw [eg, hI_uI_n h2, hI_rI_n _ _ h1]
    refine ⟨nI (f + 20), g, uI (rI g 119 (tp5 (hI g 119) f a b c d e)) 113 10 (nI (f + 20)), ?_, ?_, ?_⟩
    · unfold f_X11_feed f_X4_hasRoomFor
      rw [bd2_s, bI_dt (by rw [hroom _ k1]; exact hr), if_neg (by decide), app_e k1 (by omega), bd1_s, step h _ _ _ (by omega), bd1_s, step h _ _ _ (by omega), bd1_s, step h _ _ _ (by omega), bd1_s, step h _ _ _ (by omega), bd1_s, hI_uI_s, eg]
      rfl
    · have k2' : hI g 113 10 = nI f := by rw [Eg _ _ (by decide) (by decide)]; exact k2
      show f_X12_feed g a b c d e = _
      unfold f_X12_feed
      rw [if_pos (by rw [hroom _ k2']; exact hr), four_e k2' (by omega), bd1_s, mstep g _ _ _ (by omega), bd1_s, mstep g _ _ _ (by omega), bd1_s, mstep g _ _ _ (by omega), bd1_s, mstep g _ _ _ (by omega), bd1_s, hI_uI_s]
      rfl
    · obtain ⟨T2, eT2⟩ : ∃ T2, T2 = tp5 (hI g 119) f a b c d e := ⟨_, rfl⟩
      rw [← eT2]
      obtain ⟨g2, eg2⟩ : ∃ g2, g2 = uI (rI g 119 T2) 113 10 (nI (f + 20)) := ⟨_, rfl⟩
      rw [← eg2]
      have E2 : ∀ (x k : Nat), x ≠ 6 → (x ≠ 5 ∨ k ≠ 7) → x ≠ 119 → (x ≠ 113 ∨ k ≠ 10) → hI g2 x k = hI h x k := fun x k h1 h2 h3 h4 => by
        rw [eg2, hI_uI_n h4, hI_rI_n _ _ h3, Eg _ _ h1 h2]
      have hLs : hL g2 = hL h := by rw [eg2, eg]; rfl
      have I0 := I
      obtain ⟨-, i6, i7, i8, i9, i10, i11, i12⟩ := I0
      refine I.re ⟨by rw [eg2, eg]; rfl, by rw [eg2, eg]; rfl⟩ ⟨?_, by rw [hLs]; exact i6.2.1, by rw [hLs]; exact i6.2.2⟩ (i7.k (fun b k q => E2 b k (by unfold cnTr at q; omega) (by unfold cnTr at q; omega) (by unfold cnTr at q; omega) (by unfold cnTr at q; omega)) (fun b k _ => by rw [hLs])) ?_ (i9.k fun b k q => E2 b k (by unfold cnLv at q; omega) (by unfold cnLv at q; omega) (by unfold cnLv at q; omega) (by unfold cnLv at q; omega)) (i10.k fun k => by rw [hLs]) (i11.k (fun b k q => E2 b k (by have := cnT_b ht q; omega) (by have := cnT_b ht q; omega) (by have := cnT_b ht q; omega) (by have := cnT_b ht q; omega)) (fun b k _ => by rw [hLs])) (i12.k (fun b k q => E2 b k (by unfold cnMk at q; omega) (by unfold cnMk at q; omega) (by unfold cnMk at q; omega) (by unfold cnMk at q; omega)) (fun b k _ => by rw [hLs]))
      · rw [E2 0 11 (by decide) (by decide) (by decide) (by decide), E2 113 2 (by decide) (by decide) (by decide) (by decide)]; exact i6.1
      · have g6 : hI g2 6 = tp5 (hI h 6) f a b c d e := by
          rw [eg2, hI_uI_n' (by decide), hI_rI_n _ _ (by decide), eg, hI_uI_n' (by decide), hI_rI_s]
        have g9 : hI g2 119 = tp5 (hI h 119) f a b c d e := by
          rw [eg2, hI_uI_n' (by decide), hI_rI_s, eT2, eg, hI_uI_n' (by decide), hI_rI_n _ _ (by decide)]
        refine ⟨⟨f + 20, hr, ?_, by rw [eg2, hI_uI_s], fun k hk => ?_⟩, ?_, ?_⟩
        · rw [eg2, hI_uI_n (by decide), hI_rI_n _ _ (by decide), eg, hI_uI_s]
        · rw [g6, g9]; exact tp5_st k3 a b c d e k hk
        · rw [E2 5 12 (by decide) (by decide) (by decide) (by decide), E2 113 16 (by decide) (by decide) (by decide) (by decide)]; exact k4
        · rw [E2 5 13 (by decide) (by decide) (by decide) (by decide), E2 113 17 (by decide) (by decide) (by decide) (by decide)]; exact k5
  · refine ⟨-1, h, h, ?_, ?_, I⟩
    · unfold f_X11_feed f_X4_hasRoomFor
      rw [bd2_s, bI_df (by rw [hroom _ k1]; exact hr), if_pos rfl]
    · show f_X12_feed h a b c d e = _
      unfold f_X12_feed
      rw [if_neg (by rw [hroom _ k2]; exact hr)]
