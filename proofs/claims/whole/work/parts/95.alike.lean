/-! ===== alike: signal, the reference ===== -/
def rS (h : HP) (t w r : Nat) (j : Bool) (N p : Nat) (G0 : HP) (P : Int32 → Prop) (G : HP) : Prop :=
  (Sm t G0 G ∧ hI G 0 = hI G0 0) ∧ SmN h G ∧ LN G w r j ∧ ((hI G 113 30 = -1 ∧ ∀ s, P s → ¬ litB h t N p s) ∨ ∃ s, hI G 113 30 = s ∧ 0 ≤ s.toInt ∧ hI G 113 31 = nI (pc s) ∧ Bst zc (fun s => P s ∧ litB h t N p s) s)
theorem rS.same {h G0 G : HP} {t w r N p : Nat} {j : Bool} {P Q : Int32 → Prop} (S : rS h t w r j N p G0 P G) (e : ∀ s, P s ↔ Q s) : rS h t w r j N p G0 Q G := by
  obtain ⟨s1, s2, s3, s4⟩ := S
  refine ⟨s1, s2, s3, ?_⟩
  rcases s4 with ⟨a, b⟩ | ⟨s, a, b, c, d⟩
  · exact Or.inl ⟨a, fun s q => b s ((e s).mpr q)⟩
  · exact Or.inr ⟨s, a, b, c, d.same (fun s => by rw [e s])⟩
theorem tr_lp {h G : HP} {t w r m c : Nat} {j : Bool} (T : TW h t w r m c j) (sm : SmN h G) (ln : LN G w r j) {N p : Nat} (hN : N < 1000000) (hp : p < 32) (s l2 : Int32) : ∀ d k n x, k + d = N → d < n → inH h x →
    f_X12_tries_46 n s l2 (bitI p) (nI N) x (nI k) G = some (if bt (itN (nxF h t) d x) p = true then uI (uI G 113 30 s) 113 31 l2 else G)
  | d, k, 0, _, _, z, _ => absurd z (by omega)
  | 0, k, n + 1, x, e, _, hx => by
    unfold f_X12_tries_46
    rw [if_pos (by rw [nI_leI (by omega) (by omega)]; omega)]
    show _ = some (if bt x p = true then _ else _)
    cases q : bt x p
    · rw [if_pos ((and_bit hp).mpr q), if_neg (by decide)]
    · rw [if_neg (fun z => by rw [(and_bit hp).mp z] at q; cases q), if_pos rfl]
      simp only [ltv_e]
  | d + 1, k, n + 1, x, e, _, hx => by
    unfold f_X12_tries_46
    rw [if_neg (by rw [nI_leI (by omega) (by omega)]; omega), T.bec sm ln hx, bd2_s]
    simp only [ltv_e, nI_1]
    exact tr_lp T sm ln hN hp s l2 d (k + 1) n _ (by omega) (by omega) (T.nx hx)
theorem tr_e {h G G0 : HP} {t w r m c : Nat} {j : Bool} (ht : t = 79 ∨ t = 96) (T : TW h t w r m c j) {N p : Nat} (hN : N < 1000000) (hp : p < 32) {P : Int32 → Prop} (S : rS h t w r j N p G0 P G) {s : Int32} (hs : inH h s) (s0 : 0 ≤ s.toInt) :
    ∃ G', f_X12_tries G s (nI (pc s)) (bitI p) (nI N) = some G' ∧ rS h t w r j N p G0 (fun x => P x ∨ x = s) G' := by
  obtain ⟨s1, s2, s3, s4⟩ := S
  have e33 : f_X12_tries_33 s (nI (pc s)) (bitI p) (nI N) G = some (if bt (itN (nxF h t) N (hI h 114 3 ^^^ s)) p = true then uI (uI G 113 30 s) 113 31 (nI (pc s)) else G) := by
    unfold f_X12_tries_33
    simp only [ltv_e]
    rw [s2 3 (by omega), show (0 : Int32) = nI 0 from rfl]
    exact tr_lp T s2 s3 hN hp s _ N 0 FU _ (by omega) (FU_gt hN) (xor_inH T hs)
  have ps := pc_le s
  have new : ∀ {Q}, Bst zc (fun x => (P x ∨ x = s) ∧ litB h t N p x) s → Q = uI (uI G 113 30 s) 113 31 (nI (pc s)) → rS h t w r j N p G0 (fun x => P x ∨ x = s) Q := fun {Q} B e => by
    subst e
    refine ⟨⟨(s1.1.I _ _ _ (by unfold relI inT; omega)).I _ _ _ (by unfold relI inT; omega), by rw [hI_uI_n' (by decide), hI_uI_n' (by decide)]; exact s1.2⟩, fun k hk => by rw [hI_uI_n (by omega), hI_uI_n (by omega)]; exact s2 k hk, fun k hk => by rw [hI_uI_n (by omega), hI_uI_n (by omega), hI_uI_n (by omega), hI_uI_n (by omega)]; exact s3 k hk, Or.inr ⟨s, by rw [hI_uI_n (by omega), hI_uI_s], s0, hI_uI_s _ _ _ _, B⟩⟩
  rcases s4 with ⟨a, b⟩ | ⟨v, a, v0, b, B⟩
  · unfold f_X12_tries
    rw [if_pos a, e33]
    refine ⟨_, rfl, ?_⟩
    by_cases q : bt (itN (nxF h t) N (hI h 114 3 ^^^ s)) p = true
    · rw [if_pos q]
      refine new ⟨⟨Or.inr rfl, q⟩, fun x hx => ?_⟩ rfl
      rcases hx with ⟨hx | rfl, lx⟩
      · exact absurd lx (b x hx)
      · exact lek.rfl' _ _
    · rw [if_neg q]
      refine ⟨s1, s2, s3, Or.inl ⟨a, fun x hx => ?_⟩⟩
      rcases hx with hx | rfl
      · exact b x hx
      · exact q
  · have pv := pc_le v
    have skip : lek zc v s → rS h t w r j N p G0 (fun x => P x ∨ x = s) G := fun k => ⟨s1, s2, s3, Or.inr ⟨v, a, v0, b, ⟨⟨Or.inl B.1.1, B.1.2⟩, fun x hx => by
      rcases hx with ⟨hx | rfl, lx⟩
      · exact B.2 x ⟨hx, lx⟩
      · exact k⟩⟩⟩
    have try1 : lek zc s v → ∃ G', f_X12_tries_33 s (nI (pc s)) (bitI p) (nI N) G = some G' ∧ rS h t w r j N p G0 (fun x => P x ∨ x = s) G' := fun k => by
      rw [e33]
      refine ⟨_, rfl, ?_⟩
      by_cases q : bt (itN (nxF h t) N (hI h 114 3 ^^^ s)) p = true
      · rw [if_pos q]
        refine new ⟨⟨Or.inr rfl, q⟩, fun x hx => ?_⟩ rfl
        rcases hx with ⟨hx | rfl, lx⟩
        · exact k.tr (B.2 x ⟨hx, lx⟩)
        · exact lek.rfl' _ _
      · rw [if_neg q]
        refine ⟨s1, s2, s3, Or.inr ⟨v, a, v0, b, ⟨⟨Or.inl B.1.1, B.1.2⟩, fun x hx => ?_⟩⟩⟩
        rcases hx with ⟨hx | rfl, lx⟩
        · exact B.2 x ⟨hx, lx⟩
        · exact absurd lx q
    have m1 : ¬ v = -1 := fun e => by rw [e] at v0; exact absurd v0 (by decide)
    unfold f_X12_tries
    rw [a, if_neg m1, b]
    by_cases k1 : pc v < pc s
    · rw [if_pos (by rw [nI_ltI (by omega) (by omega)]; exact k1)]
      exact ⟨G, rfl, skip (Or.inr ⟨rfl, Or.inl k1⟩)⟩
    · rw [if_neg (by rw [nI_ltI (by omega) (by omega)]; exact k1)]
      by_cases k2 : pc s = pc v
      · rw [if_pos (by rw [k2])]
        by_cases k3 : s < v
        · rw [if_pos k3]
          exact try1 (Or.inr ⟨rfl, Or.inr ⟨k2, by rw [Int32.lt_iff_toInt_lt] at k3; omega⟩⟩)
        · rw [if_neg k3]
          exact ⟨G, rfl, skip (Or.inr ⟨rfl, Or.inr ⟨k2.symm, by rw [Int32.lt_iff_toInt_lt] at k3; omega⟩⟩)⟩
      · rw [if_neg (fun y => k2 (nI_inj (by omega) (by omega) y))]
        exact try1 (Or.inr ⟨rfl, Or.inl (by omega)⟩)
/-- what the reference has tried, lowest lamp first -/
def gA (F : Int32) (a : Nat) (s : Int32) : Prop := s = 0 ∨ ∃ x, x < a ∧ bt F x = true ∧ (s = bitI x ∨ ∃ y, x < y ∧ y < 30 ∧ bt F y = true ∧ (s = bitI x ||| bitI y ∨ ∃ z, y < z ∧ z < 30 ∧ bt F z = true ∧ s = bitI x ||| bitI y ||| bitI z))
def gB (F : Int32) (a b : Nat) (s : Int32) : Prop := gA F a s ∨ s = bitI a ∨ ∃ y, a < y ∧ y < b ∧ bt F y = true ∧ (s = bitI a ||| bitI y ∨ ∃ z, y < z ∧ z < 30 ∧ bt F z = true ∧ s = bitI a ||| bitI y ||| bitI z)
def gC (F : Int32) (a b c : Nat) (s : Int32) : Prop := gB F a b s ∨ s = bitI a ||| bitI b ∨ ∃ z, b < z ∧ z < c ∧ bt F z = true ∧ s = bitI a ||| bitI b ||| bitI z
theorem gC_end {F : Int32} {W a b : Nat} (hF : ∀ i, i < 32 → bt F i = true → i < W) (W30 : W ≤ 30) (ab : a < b) (bb : bt F b = true) (s : Int32) : gC F a b W s ↔ gB F a (b + 1) s := by
  constructor
  · rintro ((x | x | ⟨y, y1, y2, y3, y4⟩) | x | ⟨z, z1, z2, z3, z4⟩)
    · exact Or.inl x
    · exact Or.inr (Or.inl x)
    · exact Or.inr (Or.inr ⟨y, y1, by omega, y3, y4⟩)
    · exact Or.inr (Or.inr ⟨b, ab, by omega, bb, Or.inl x⟩)
    · exact Or.inr (Or.inr ⟨b, ab, by omega, bb, Or.inr ⟨z, z1, by omega, z3, z4⟩⟩)
  · rintro (x | x | ⟨y, y1, y2, y3, y4⟩)
    · exact Or.inl (Or.inl x)
    · exact Or.inl (Or.inr (Or.inl x))
    · by_cases e : y = b
      · subst e
        rcases y4 with y4 | ⟨z, z1, z2, z3, z4⟩
        · exact Or.inr (Or.inl y4)
        · exact Or.inr (Or.inr ⟨z, z1, hF z (by omega) z3, z3, z4⟩)
      · exact Or.inl (Or.inr (Or.inr ⟨y, y1, by omega, y3, y4⟩))
theorem gB_skip {F : Int32} {a b : Nat} (bb : bt F b = false) (s : Int32) : gB F a b s ↔ gB F a (b + 1) s := by
  constructor
  · rintro (x | x | ⟨y, y1, y2, y3, y4⟩)
    · exact Or.inl x
    · exact Or.inr (Or.inl x)
    · exact Or.inr (Or.inr ⟨y, y1, by omega, y3, y4⟩)
  · rintro (x | x | ⟨y, y1, y2, y3, y4⟩)
    · exact Or.inl x
    · exact Or.inr (Or.inl x)
    · refine Or.inr (Or.inr ⟨y, y1, ?_, y3, y4⟩)
      by_cases e : y = b
      · rw [e, bb] at y3; cases y3
      · omega
theorem gB_end {F : Int32} {W a : Nat} (hF : ∀ i, i < 32 → bt F i = true → i < W) (W30 : W ≤ 30) (ba : bt F a = true) (s : Int32) : gB F a W s ↔ gA F (a + 1) s := by
  constructor
  · rintro ((x | ⟨x, x1, x2, x3⟩) | x | ⟨y, y1, y2, y3, y4⟩)
    · exact Or.inl x
    · exact Or.inr ⟨x, by omega, x2, x3⟩
    · exact Or.inr ⟨a, by omega, ba, Or.inl x⟩
    · exact Or.inr ⟨a, by omega, ba, Or.inr ⟨y, y1, by omega, y3, y4⟩⟩
  · rintro (x | ⟨x, x1, x2, x3⟩)
    · exact Or.inl (Or.inl x)
    · by_cases e : x = a
      · subst e
        rcases x3 with x3 | ⟨y, y1, y2, y3, y4⟩
        · exact Or.inr (Or.inl x3)
        · exact Or.inr (Or.inr ⟨y, y1, hF y (by omega) y3, y3, y4⟩)
      · exact Or.inl (Or.inr ⟨x, by omega, x2, x3⟩)
theorem gA_skip {F : Int32} {a : Nat} (ba : bt F a = false) (s : Int32) : gA F a s ↔ gA F (a + 1) s := by
  constructor
  · rintro (x | ⟨x, x1, x2, x3⟩)
    · exact Or.inl x
    · exact Or.inr ⟨x, by omega, x2, x3⟩
  · rintro (x | ⟨x, x1, x2, x3⟩)
    · exact Or.inl x
    · refine Or.inr ⟨x, ?_, x2, x3⟩
      by_cases e : x = a
      · rw [e, ba] at x2; cases x2
      · omega
theorem gA_fam {F : Int32} {W : Nat} (hF : ∀ i, i < 32 → bt F i = true → i < W) (W30 : W ≤ 30) (s : Int32) : gA F W s ↔ fam3 F s := by
  have c2 : ∀ x y : Int32, x ||| y = y ||| x := fun x y => Int32.or_comm x y
  have c3 : ∀ x y z : Int32, x ||| y ||| z = z ||| y ||| x := fun x y z => by rw [Int32.or_comm (x ||| y) z, Int32.or_comm x y, ← Int32.or_assoc]
  unfold gA fam3
  constructor
  · rintro (x | ⟨x, x1, x2, x3 | ⟨y, y1, y2, y3, y4 | ⟨z, z1, z2, z3, z4⟩⟩⟩)
    · exact Or.inl x
    · exact Or.inr (Or.inl ⟨x, by omega, x2, x3⟩)
    · exact Or.inr (Or.inr (Or.inl ⟨y, x, y2, y3, x2, y1, by rw [y4]; exact c2 _ _⟩))
    · exact Or.inr (Or.inr (Or.inr ⟨z, y, x, z2, z3, y3, x2, z1, y1, by rw [z4]; exact c3 _ _ _⟩))
  · rintro (x | ⟨i, i1, i2, i3⟩ | ⟨i, j, i1, i2, i3, i4, i5⟩ | ⟨i, j, k, i1, i2, i3, i4, i5, i6, i7⟩)
    · exact Or.inl x
    · exact Or.inr ⟨i, hF i (by omega) i2, i2, Or.inl i3⟩
    · exact Or.inr ⟨j, hF j (by omega) i3, i3, Or.inr ⟨i, i4, i1, i2, Or.inl (by rw [i5]; exact c2 _ _)⟩⟩
    · exact Or.inr ⟨k, hF k (by omega) i4, i4, Or.inr ⟨j, i6, by omega, i3, Or.inr ⟨i, i5, i1, i2, by rw [i7]; exact c3 _ _ _⟩⟩⟩
theorem three_v {a b c : Nat} (hc : c < 30) (ab : a < b) (bc : b < c) : 0 ≤ (bitI a ||| bitI b ||| bitI c).toInt ∧ pc (bitI a ||| bitI b ||| bitI c) = 3 := by
  have c3 : bitI a ||| bitI b ||| bitI c = bitI c ||| bitI b ||| bitI a := by rw [Int32.or_comm (bitI a ||| bitI b) _, Int32.or_comm (bitI a) _, ← Int32.or_assoc]
  rw [c3]
  have v := v3 hc bc ab
  have := (p2_lt c (by omega) b (by omega) bc).2
  have := (p2_lt b (by omega) a (by omega) ab).2
  have := (p2_lt 30 (by omega) c (by omega) (by omega)).2
  omega
theorem two_v {a b : Nat} (hb : b < 30) (ab : a < b) : 0 ≤ (bitI a ||| bitI b).toInt ∧ pc (bitI a ||| bitI b) = 2 := by
  have c2 : bitI a ||| bitI b = bitI b ||| bitI a := Int32.or_comm _ _
  rw [c2]
  have v := v2 hb ab
  have := (p2_lt b (by omega) a (by omega) ab).2
  have := (p2_lt 30 (by omega) b (by omega) (by omega)).2
  omega
theorem one_v {a : Nat} (ha : a < 30) : 0 ≤ (bitI a).toInt ∧ pc (bitI a) = 1 := by
  have v := v1 ha
  have := (p2_lt 30 (by omega) a (by omega) (by omega)).2
  omega
theorem gc_lp {h G0 : HP} {t w r m c : Nat} {j : Bool} (ht : t = 79 ∨ t = 96) (T : TW h t w r m c j) {N p : Nat} (hN : N < 1000000) (hp : p < 32) (K : Int32 → Int32 → Int32 → Int32 → Int32 → Int32 → HP → Option (Int32 × HP)) (l4 : Int32) {a b : Nat} (ab : a < b) (hb : b < w * r) (ba : bt (hI h (t + 1) 5) a = true) (bb : bt (hI h (t + 1) 5) b = true) : ∀ d v n G, v + d = w * r → d < n → b < v → rS h t w r j N p G0 (gC (hI h (t + 1) 5) a b v) G →
    ∃ G', f_X12_signal_167 K n (nI N) l4 (bitI p) (hI h (t + 1) 5) (nI a) (nI b) (nI v) G = K (nI N) l4 (bitI p) (hI h (t + 1) 5) (nI a) (nI (b + 1)) G' ∧ rS h t w r j N p G0 (gB (hI h (t + 1) 5) a (b + 1)) G'
  | d, v, 0, _, _, z, _, _ => absurd z (by omega)
  | 0, v, n + 1, G, e, _, bv, S => by
    obtain ⟨⟨w1, w5, hw, hw'⟩, ⟨r1, r6, hr, hr'⟩, -⟩ := T.1.n
    have h30 := wr_le w5 r6
    unfold f_X12_signal_167
    rw [places_e G (w := w) (r := r) (by rw [S.2.1 0 (by omega)]; exact hw) (by rw [S.2.1 1 (by omega)]; exact hr), bd2_s, if_pos (by rw [nI_leI (by omega) (by omega)]; omega)]
    simp only [ltv_e, nI_1]
    have e : v = w * r := by omega
    rw [e] at S
    exact ⟨G, rfl, S.same (gC_end (free_P T.1) h30 ab bb)⟩
  | d + 1, v, n + 1, G, e, _, bv, S => by
    obtain ⟨⟨w1, w5, hw, hw'⟩, ⟨r1, r6, hr, hr'⟩, -, -, -, h6, h7⟩ := T.1.n
    have h30 := wr_le w5 r6
    have fh : ∀ i, i < 32 → bt (hI h (t + 1) 5) i = true → bt (hI h 114 2) i = true := fun i hi b => by
      rw [(h6 i hi).1, Bool.and_eq_true] at b; exact b.1
    unfold f_X12_signal_167
    rw [places_e G (w := w) (r := r) (by rw [S.2.1 0 (by omega)]; exact hw) (by rw [S.2.1 1 (by omega)]; exact hr), bd2_s, if_neg (by rw [nI_leI (by omega) (by omega)]; omega), shr1 (by omega)]
    cases bv' : bt (hI h (t + 1) 5) v
    · rw [if_neg (by decide)]
      simp only [ltv_e, nI_1]
      refine gc_lp ht T hN hp K l4 ab hb ba bb d (v + 1) n G (by omega) (by omega) (by omega) (S.same (fun s => ?_))
      constructor
      · rintro (x | x | ⟨z, z1, z2, z3, z4⟩)
        · exact Or.inl x
        · exact Or.inr (Or.inl x)
        · exact Or.inr (Or.inr ⟨z, z1, by omega, z3, z4⟩)
      · rintro (x | x | ⟨z, z1, z2, z3, z4⟩)
        · exact Or.inl x
        · exact Or.inr (Or.inl x)
        · refine Or.inr (Or.inr ⟨z, z1, ?_, z3, z4⟩)
          by_cases q : z = v
          · rw [q, bv'] at z3; cases z3
          · omega
    · rw [if_pos (show bI true = 1 from rfl)]
      have tv := three_v (a := a) (b := b) (c := v) (by omega) ab bv
      have sH : inH h (bitI a ||| bitI b ||| bitI v) := fun i hi b => by
        have := sub_or (sub_or (bit_sub (F := hI h (t + 1) 5) (by omega) ba) (bit_sub (by omega) bb)) (bit_sub (by omega) bv') i hi b
        exact fh i hi this
      obtain ⟨G1, e1, S1⟩ := tr_e ht T hN hp S sH tv.1
      rw [tv.2] at e1
      rw [show ((1 : Int32) <<< (nI a &&& 31) ||| (1 : Int32) <<< (nI b &&& 31) ||| (1 : Int32) <<< (nI v &&& 31)) = bitI a ||| bitI b ||| bitI v from rfl, show (3 : Int32) = nI 3 from rfl, e1, bd1_s]
      simp only [ltv_e, nI_1]
      refine gc_lp ht T hN hp K l4 ab hb ba bb d (v + 1) n G1 (by omega) (by omega) (by omega) (S1.same (fun s => ?_))
      constructor
      · rintro ((x | x | ⟨z, z1, z2, z3, z4⟩) | x)
        · exact Or.inl x
        · exact Or.inr (Or.inl x)
        · exact Or.inr (Or.inr ⟨z, z1, by omega, z3, z4⟩)
        · exact Or.inr (Or.inr ⟨v, bv, by omega, bv', x⟩)
      · rintro (x | x | ⟨z, z1, z2, z3, z4⟩)
        · exact Or.inl (Or.inl x)
        · exact Or.inl (Or.inr (Or.inl x))
        · by_cases q : z = v
          · subst q; exact Or.inr z4
          · exact Or.inl (Or.inr (Or.inr ⟨z, z1, by omega, z3, z4⟩))
theorem gb_lp {h G0 : HP} {t w r m c : Nat} {j : Bool} (ht : t = 79 ∨ t = 96) (T : TW h t w r m c j) {N p : Nat} (hN : N < 1000000) (hp : p < 32) (K : Int32 → Int32 → Int32 → Int32 → Int32 → HP → Option (Int32 × HP)) (l4 : Int32) {a : Nat} (ha : a < w * r) (ba : bt (hI h (t + 1) 5) a = true) : ∀ d b n G, b + d = w * r → d < n → a < b → rS h t w r j N p G0 (gB (hI h (t + 1) 5) a b) G →
    ∃ G', f_X12_signal_122 K n (nI N) l4 (bitI p) (hI h (t + 1) 5) (nI a) (nI b) G = K (nI N) l4 (bitI p) (hI h (t + 1) 5) (nI (a + 1)) G' ∧ rS h t w r j N p G0 (gA (hI h (t + 1) 5) (a + 1)) G'
  | d, b, 0, _, _, z, _, _ => absurd z (by omega)
  | 0, b, n + 1, G, e, _, ab, S => by
    obtain ⟨⟨w1, w5, hw, hw'⟩, ⟨r1, r6, hr, hr'⟩, -⟩ := T.1.n
    have h30 := wr_le w5 r6
    unfold f_X12_signal_122
    rw [places_e G (w := w) (r := r) (by rw [S.2.1 0 (by omega)]; exact hw) (by rw [S.2.1 1 (by omega)]; exact hr), bd2_s, if_pos (by rw [nI_leI (by omega) (by omega)]; omega)]
    simp only [ltv_e, nI_1]
    have e : b = w * r := by omega
    rw [e] at S
    exact ⟨G, rfl, S.same (gB_end (free_P T.1) h30 ba)⟩
  | d + 1, b, n + 1, G, e, _, ab, S => by
    obtain ⟨⟨w1, w5, hw, hw'⟩, ⟨r1, r6, hr, hr'⟩, -, -, -, h6, h7⟩ := T.1.n
    have h30 := wr_le w5 r6
    have fh : ∀ i, i < 32 → bt (hI h (t + 1) 5) i = true → bt (hI h 114 2) i = true := fun i hi b => by
      rw [(h6 i hi).1, Bool.and_eq_true] at b; exact b.1
    unfold f_X12_signal_122
    rw [places_e G (w := w) (r := r) (by rw [S.2.1 0 (by omega)]; exact hw) (by rw [S.2.1 1 (by omega)]; exact hr), bd2_s, if_neg (by rw [nI_leI (by omega) (by omega)]; omega), shr1 (by omega)]
    cases bb : bt (hI h (t + 1) 5) b
    · rw [if_pos (show bI false = 0 from rfl)]
      simp only [ltv_e, nI_1]
      exact gb_lp ht T hN hp K l4 ha ba d (b + 1) n G (by omega) (by omega) (by omega) (S.same (gB_skip bb))
    · rw [if_neg (by decide)]
      have tv := two_v (a := a) (b := b) (by omega) ab
      have sH : inH h (bitI a ||| bitI b) := fun i hi b => by
        have := sub_or (bit_sub (F := hI h (t + 1) 5) (by omega) ba) (bit_sub (by omega) bb) i hi b
        exact fh i hi this
      obtain ⟨G1, e1, S1⟩ := tr_e ht T hN hp S sH tv.1
      rw [tv.2] at e1
      rw [show ((1 : Int32) <<< (nI a &&& 31) ||| (1 : Int32) <<< (nI b &&& 31)) = bitI a ||| bitI b from rfl, show (2 : Int32) = nI 2 from rfl, e1, bd1_s]
      simp only [ltv_e, nI_1]
      obtain ⟨G2, e2, S2⟩ := gc_lp ht T hN hp (f_X12_signal_122 K n) l4 ab (by omega) ba bb (w * r - (b + 1)) (b + 1) FU G1 (by omega) (FU_gt (by omega)) (by omega) (S1.same (fun s => by
        constructor
        · rintro (x | x)
          · exact Or.inl x
          · exact Or.inr (Or.inl x)
        · rintro (x | x | ⟨z, z1, z2, -⟩)
          · exact Or.inl x
          · exact Or.inr x
          · omega))
      obtain ⟨G3, e3, S3⟩ := gb_lp ht T hN hp K l4 ha ba d (b + 1) n G2 (by omega) (by omega) (by omega) S2
      exact ⟨G3, e2.trans e3, S3⟩
theorem ga_lp {h G0 : HP} {t w r m c : Nat} {j : Bool} (ht : t = 79 ∨ t = 96) (T : TW h t w r m c j) {N p : Nat} (hN : N < 1000000) (hp : p < 32) (l4 : Int32) : ∀ d a n G, a + d = w * r → d < n → rS h t w r j N p G0 (gA (hI h (t + 1) 5) a) G →
    ∃ G', f_X12_signal_82 n (nI N) l4 (bitI p) (hI h (t + 1) 5) (nI a) G = (if hI G' 113 30 = -1 then some (-1, uI G' 113 2 6) else some (if l4 = 0 then hI G' 113 31 else hI G' 113 30, uI G' 113 2 0)) ∧ rS h t w r j N p G0 (fam3 (hI h (t + 1) 5)) G'
  | d, a, 0, _, _, z, _ => absurd z (by omega)
  | 0, a, n + 1, G, e, _, S => by
    obtain ⟨⟨w1, w5, hw, hw'⟩, ⟨r1, r6, hr, hr'⟩, -⟩ := T.1.n
    have h30 := wr_le w5 r6
    have e : a = w * r := by omega
    rw [e] at S
    refine ⟨G, ?_, S.same (gA_fam (free_P T.1) h30)⟩
    unfold f_X12_signal_82
    rw [places_e G (w := w) (r := r) (by rw [S.2.1 0 (by omega)]; exact hw) (by rw [S.2.1 1 (by omega)]; exact hr), bd2_s, if_pos (by rw [nI_leI (by omega) (by omega)]; omega)]
    simp only [rfs_e, giv_e, bd2_s]
    by_cases q : hI G 113 30 = -1
    · rw [if_pos q, if_pos q]
    · rw [if_neg q, if_neg q]
      by_cases q2 : l4 = 0
      · rw [if_pos q2, if_pos q2]
      · rw [if_neg q2, if_neg q2]
  | d + 1, a, n + 1, G, e, _, S => by
    obtain ⟨⟨w1, w5, hw, hw'⟩, ⟨r1, r6, hr, hr'⟩, -, -, -, h6, h7⟩ := T.1.n
    have h30 := wr_le w5 r6
    have fh : ∀ i, i < 32 → bt (hI h (t + 1) 5) i = true → bt (hI h 114 2) i = true := fun i hi b => by
      rw [(h6 i hi).1, Bool.and_eq_true] at b; exact b.1
    unfold f_X12_signal_82
    rw [places_e G (w := w) (r := r) (by rw [S.2.1 0 (by omega)]; exact hw) (by rw [S.2.1 1 (by omega)]; exact hr), bd2_s, if_neg (by rw [nI_leI (by omega) (by omega)]; omega), shr1 (by omega)]
    cases ba : bt (hI h (t + 1) 5) a
    · rw [if_pos (show bI false = 0 from rfl)]
      simp only [ltv_e, nI_1]
      exact ga_lp ht T hN hp l4 d (a + 1) n G (by omega) (by omega) (S.same (gA_skip ba))
    · rw [if_neg (by decide)]
      have tv := one_v (a := a) (by omega)
      obtain ⟨G1, e1, S1⟩ := tr_e ht T hN hp S (s := bitI a) (fun i hi b => fh i hi (bit_sub (F := hI h (t + 1) 5) (by omega) ba i hi b)) tv.1
      rw [tv.2] at e1
      rw [show (1 : Int32) <<< (nI a &&& 31) = bitI a from rfl]
      rw [show f_X12_tries G (bitI a) 1 (bitI p) (nI N) = f_X12_tries G (bitI a) (nI 1) (bitI p) (nI N) from rfl, e1, bd1_s]
      simp only [ltv_e, nI_1]
      obtain ⟨G2, e2, S2⟩ := gb_lp ht T hN hp (f_X12_signal_82 n) l4 (by omega) ba (w * r - (a + 1)) (a + 1) FU G1 (by omega) (FU_gt (by omega)) (by omega) (S1.same (fun s => by
        constructor
        · rintro (x | x)
          · exact Or.inl x
          · exact Or.inr (Or.inl x)
        · rintro (x | x | ⟨z, z1, z2, -⟩)
          · exact Or.inl x
          · exact Or.inr x
          · omega))
      obtain ⟨G3, e3, S3⟩ := ga_lp ht T hN hp l4 d (a + 1) n G2 (by omega) (by omega) S2
      exact ⟨G3, e2.trans e3, S3⟩
