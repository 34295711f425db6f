/-! ===== alike: a heap ===== -/
def psF (H lit : Int32) (w r : Nat) (j : Bool) (x : Int32) : Nat → Int32
  | 0 => x
  | k + 1 => if bt (psF H lit w r j x k) k then psF H lit w r j x k ||| (nrF H w r j k &&& lit) else psF H lit w r j x k
theorem psF_up {H lit x : Int32} {w r : Nat} {j : Bool} (k : Nat) : sub (psF H lit w r j x k) (psF H lit w r j x (k + 1)) := by
  rw [psF]; split
  · exact sub.or1 _ _
  · exact sub.rfl' _
theorem psF_mono {H lit x : Int32} {w r : Nat} {j : Bool} (k : Nat) : ∀ d, sub (psF H lit w r j x k) (psF H lit w r j x (k + d))
  | 0 => sub.rfl' _
  | d + 1 => (psF_mono k d).tr (psF_up (k + d))
theorem psF_in {H lit x : Int32} {w r : Nat} {j : Bool} (w1 : 1 ≤ w) (w5 : w ≤ 5) (r6 : r ≤ 6) (hl : sub lit H) {C : Int32} (hC : sub x C) (cl : Cl w r j lit C) : ∀ k, k ≤ w * r → sub (psF H lit w r j x k) C
  | 0, _ => hC
  | k + 1, hk => by
    have ih := psF_in w1 w5 r6 hl hC cl k (by omega)
    have h30 := wr_le w5 r6
    rw [psF]
    by_cases q : bt (psF H lit w r j x k) k = true
    · rw [if_pos q]
      intro i hi a
      rw [b_or, b_and, Bool.or_eq_true, Bool.and_eq_true] at a
      rcases a with a | ⟨a, b⟩
      · exact ih i hi a
      · exact cl k i (by omega) hi (ih k (by omega) q) ((nrF_adj w1 w5 r6 (by omega) hi).mp a).1 b
    · rw [if_neg q]; exact ih
theorem psF_cl {H lit x : Int32} {w r : Nat} {j : Bool} (w1 : 1 ≤ w) (w5 : w ≤ 5) (r6 : r ≤ 6) (hl : sub lit H) (hx : inP w r x) (e : psF H lit w r j x (w * r) = x) : Cl w r j lit x := by
  have h30 := wr_le w5 r6
  intro p q hp hq a c d
  have pw := hx p hp a
  have up : ∀ k, k ≤ w * r → psF H lit w r j x k = x := fun k hk => by
    refine sub.eq ?_ ?_
    · have := psF_mono (H := H) (lit := lit) (x := x) (w := w) (r := r) (j := j) k (w * r - k)
      rw [show k + (w * r - k) = w * r by omega, e] at this; exact this
    · have := psF_mono (H := H) (lit := lit) (x := x) (w := w) (r := r) (j := j) 0 k
      rw [Nat.zero_add] at this; exact this
  have s := up (p + 1) (by omega)
  rw [psF, up p (by omega), if_pos a] at s
  rw [← s, b_or, b_and, (nrF_adj w1 w5 r6 pw hq).mpr ⟨c, hl q hq d⟩, d]; simp
theorem ps_lp {G : HP} {w r : Nat} {j : Bool} {H lit : Int32} (w1 : 1 ≤ w) (w5 : w ≤ 5) (r6 : r ≤ 6) (hw : hI G 114 0 = nI w) (hr : hI G 114 1 = nI r) (hH : hI G 114 2 = H) (hl : hI G 114 3 = lit) (ln : LN G w r j) (K : Int32 → Int32 → HP → Option (Int32 × HP)) (x l3 : Int32) : ∀ d k n, k + d = w * r → d < n →
    f_X12_heapOf_23 K n (psF H lit w r j x k) l3 (nI k) G = K (psF H lit w r j x (w * r)) l3 G
  | d, k, 0, _, z => absurd z (by omega)
  | 0, k, n + 1, e, _ => by
    have h30 := wr_le w5 r6
    unfold f_X12_heapOf_23
    rw [places_e _ hw hr, bd2_s, if_pos (by rw [nI_leI (by omega) (by omega)]; omega), show k = w * r by omega]
  | d + 1, k, n + 1, e, z => by
    have h30 := wr_le w5 r6
    have key := ps_lp w1 w5 r6 hw hr hH hl ln K x l3 d (k + 1) n (by omega) (by omega)
    unfold f_X12_heapOf_23
    rw [places_e _ hw hr, bd2_s, if_neg (by rw [nI_leI (by omega) (by omega)]; omega), shr1 (by omega), gdi_nI (by omega) (by decide), nI_clamp (by omega), ln k (by omega), hH, hl]
    simp only [ltv_e, nI_1]
    rw [psF] at key
    cases q : bt (psF H lit w r j x k) k
    · rw [if_neg (by decide)]
      rw [q, if_neg (by decide)] at key; exact key
    · rw [if_pos (by decide)]
      rw [q, if_pos rfl] at key; exact key
theorem hp_lp {G : HP} {w r : Nat} {j : Bool} {H lit b : Int32} (w1 : 1 ≤ w) (w5 : w ≤ 5) (r6 : r ≤ 6) (hw : hI G 114 0 = nI w) (hr : hI G 114 1 = nI r) (hH : hI G 114 2 = H) (hl : hI G 114 3 = lit) (ln : LN G w r j) (lH : sub lit H) (lP : inP w r lit) : ∀ n x prev, 34 ≤ pc x + n → (x = prev → Cl w r j lit x) → sub b x → sub x lit → (∀ C, sub b C → Cl w r j lit C → sub x C) →
    ∃ X, f_X12_heapOf_13 n x prev G = some (X, G) ∧ IsH w r j lit b X
  | 0, x, prev, h, _, _, _, _ => absurd h (by have := pc_le x; omega)
  | n + 1, x, prev, h, h1, h2, h3, h4 => by
    have hx : inP w r x := fun i hi a => lP i hi (h3 i hi a)
    have h30 := wr_le w5 r6
    have hpc := pc_le x
    unfold f_X12_heapOf_13
    by_cases e : x = prev
    · rw [if_pos e]; exact ⟨x, rfl, h2, h1 e, h4⟩
    · rw [if_neg e]
      have lp := ps_lp w1 w5 r6 hw hr hH hl ln (f_X12_heapOf_13 n) x x (w * r) 0 FU (by omega) (FU_gt (by omega))
      have lp' : f_X12_heapOf_23 (f_X12_heapOf_13 n) FU x x 0 G = f_X12_heapOf_13 n (psF H lit w r j x (w * r)) x G := lp
      rw [lp']
      have cll : Cl w r j lit lit := fun _ _ _ _ _ _ q => q
      have y0 : sub x (psF H lit w r j x (w * r)) := by have := psF_mono (H := H) (lit := lit) (x := x) (w := w) (r := r) (j := j) 0 (w * r); rw [Nat.zero_add] at this; exact this
      have yl : sub (psF H lit w r j x (w * r)) lit := psF_in w1 w5 r6 lH h3 cll (w * r) (Nat.le_refl _)
      rcases y0.pc with q | q
      · have c := psF_cl (j := j) w1 w5 r6 lH hx q.symm
        obtain ⟨n', rfl⟩ : ∃ n', n = n' + 1 := ⟨n - 1, by omega⟩
        unfold f_X12_heapOf_13
        rw [if_pos q.symm]
        exact ⟨_, rfl, by rw [← q]; exact h2, by rw [← q]; exact c, by rw [← q]; exact h4⟩
      · exact hp_lp w1 w5 r6 hw hr hH hl ln lH lP n _ x (by omega) (fun z => absurd q (by rw [z]; omega)) (h2.tr y0) yl (fun C c1 c2 => psF_in w1 w5 r6 lH (h4 C c1 c2) c2 (w * r) (Nat.le_refl _))
theorem heapM {h G : HP} {t w r m c : Nat} {j : Bool} (T : TW h t w r m c j) (sm : SmN h G) (ln : LN G w r j) {k : Nat} : ∃ X, f_X12_heapOf G (nI k) = some (X, G) ∧ IsH w r j (hI h 114 3) (hI h 114 3 &&& bitI k) X := by
  obtain ⟨⟨w1, w5, hw, hw'⟩, ⟨r1, r6, hr, hr'⟩, -⟩ := T.1.n
  unfold f_X12_heapOf
  simp only [ltv_e]
  rw [sm 3 (by omega)]
  refine hp_lp w1 w5 r6 (by rw [sm 0 (by omega)]; exact hw) (by rw [sm 1 (by omega)]; exact hr) (sm 2 (by omega)) (sm 3 (by omega)) ln T.pic (inH_P T.1 T.pic) FU _ 0 (by have := FU_gt (d := 40) (by decide); omega) (fun e => ?_) (sub.rfl' _) (fun i hi a => ?_) (fun C c _ => c)
  · rw [show (hI h 114 3 &&& (1 : Int32) <<< (nI k &&& 31)) = 0 from e]
    intro p q hp hq a; rw [b_0] at a; cases a
  · rw [b_and, Bool.and_eq_true] at a; exact a.1
theorem heapC {h : HP} {t w r m c : Nat} {j : Bool} (T : TW h t w r m c j) {lit b : Int32} (hl : inH h lit) (hb : sub b lit) : IsH w r j lit b (growF (hI h (t + 1)) lit 30 b) :=
  grow_H T.2.2.1 T.2.2.2.2 (inH_P T.1 hl) 30 b (sub.rfl' _) hb (fun C c _ => c) (by have := pc_30 T hl; omega)
theorem op_heap {h : HP} {t u : Nat} (I : Inv h t u) (x y : Int32) : Op t u (f_X11_heap h t x y) (fun g => f_X12_heap g x y) := by
  have ht := I.t
  obtain ⟨w, r, m, c, j, T⟩ := I.tw
  obtain ⟨⟨w1, w5, hw, hw'⟩, ⟨r1, r6, hr, hr'⟩, -, -, ⟨h4, h5⟩, h6, h7⟩ := T.1.n
  have h30 := wr_le w5 r6
  unfold f_X11_heap
  rcases pl_cases (w := w) (r := r) (by omega) (by omega) x y with ⟨p, q, hp, hq, rfl, rfl⟩ | hn
  · have hpl := pl_lt hp hq
    obtain ⟨k, ek⟩ : ∃ k, k = q * w + p := ⟨_, rfl⟩
    rw [plc_e w5 r6 hw' hr' hp hq, bd2_s, if_pos (by rw [show (0 : Int32) = nI 0 from rfl, nI_leI (by omega) (by omega)]; omega), ← ek, h4]
    rw [← ek] at hpl
    simp only [ltv_e]
    rw [show (1 : Int32) <<< (nI k &&& 31) = bitI k from rfl, h5]
    by_cases hh : bt (hI h 114 2) k = true
    · rw [if_neg (fun z => by rw [(and_bit (by omega)).mp z] at hh; cases hh)]
      have sm0 : SmN h (uI h 0 11 0) := fun q hq => hI_st h 0 (by decide) q
      obtain ⟨X, e1, x1⟩ := heapM T (G := lnH (uI h 0 11 0) w r j) (sm0.ln w r j) (lnH_LN _ w r j) (k := k)
      have e2 := heapC T T.pic (b := hI h 114 3 &&& bitI k) (fun i hi a => by rw [b_and, Bool.and_eq_true] at a; exact a.1)
      have ex := IsH.uq e2 x1
      refine op_sc I (g1 := h) (g2 := lnH (uI h 0 11 0) w r j) (v := 0) (r := nI (pc X)) ?_ (Sm.refl t h) ?_ ((Sm.refl _ _).ln ht w r j) (by rw [lnH_I _ _ _ _ (by decide), hI_uI_s])
      · unfold f_X1_heapOf f_J6_bitCount_0f7a4
        rw [bd2_s, Int32.and_comm (bitI k), ex, bd2_s, ans_e, bd2_s]
      · try simp only []
        have sm : SmN h (uI h 0 11 0) := fun q hq => hI_st h 0 (by decide) q
        unfold f_X12_heap
        rw [wh_in w5 r6 (by rw [sm 0 (by omega)]; exact hw) (by rw [sm 1 (by omega)]; exact hr) hp hq, bd2_s, sm 2 (by omega), ← ek, if_pos hh, if_pos (by decide), T.ln sm, bd1_s, lnH_I _ _ _ _ (by decide), sm 0 (by omega), hw, Int32.mul_comm, pl_nI, ← ek, e1, bd2_s, bits_e, bd2_s, giv_e, bd2_s]
    · rw [if_pos ((and_bit (by omega)).mpr (by simpa using hh))]
      refine op_st I (v := 7) (r := -1) rfl ?_
      try simp only []
      unfold f_X12_heap
      rw [wh_in w5 r6 (by rw [hI_st h 7 (by decide)]; exact hw) (by rw [hI_st h 7 (by decide)]; exact hr) hp hq, bd2_s, hI_st h 7 (by decide), ← ek, if_neg hh, if_neg (by decide)]; rfl
  · rw [plc_no (by rw [hw', hr']; exact hn), bd2_s, if_neg (by decide)]
    refine op_st I (v := 1) (r := -1) rfl ?_
    try simp only []
    unfold f_X12_heap
    rw [wh_out (by rw [hI_st h 1 (by decide), hI_st h 1 (by decide), hw, hr]; exact hn), bd2_s, if_neg (by decide)]; rfl
