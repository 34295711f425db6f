/-! ===== alike: signal, how far a lamp is seen; sets of three ===== -/
theorem ar_inP {f : Nat → Int32} {w r : Nat} {j : Bool} (H : HillOK f w r j) {x : Int32} (hx : inP w r x) : inP w r (x ||| aroundF f x) := by
  obtain ⟨⟨w1, w5, hw⟩, ⟨r1, r6⟩, hj, hb⟩ := H
  have h30 := wr_le w5 r6
  have x31 : ∀ y, bt (x &&& y) 31 = false := fun y => by
    cases q : bt (x &&& y) 31
    · rfl
    · rw [b_and, Bool.and_eq_true] at q
      have := hx 31 (by decide) q.1; omega
  have x31' : bt x 31 = false := by
    cases q : bt x 31
    · rfl
    · have := hx 31 (by decide) q; omega
  have hw1 : nI w - 1 = nI (w - 1) := nI_sub (a := w) (b := 1) (by omega)
  have s1 : ∀ y : Int32, shl y 1 = shl y (nI 1) := fun _ => rfl
  have s2 : ∀ y : Int32, shr y 1 = shr y (nI 1) := fun _ => rfl
  have last : ∀ i, i < w * r → i % w ≠ w - 1 → i + 1 < w * r := fun i h1 h2 => by
    refine Classical.byContradiction (fun q => ?_)
    have e : i + 1 = w * r := by omega
    have m : (i + 1) % w = 0 := by rw [e]; exact Nat.mul_mod_right w r
    rw [mod_succ0 (by omega), if_neg h2] at m; omega
  have base : ∀ i, i < 32 → bt (aroundB f x) i = true → i < w * r := fun i hi b => by
    unfold aroundB at b
    rw [s1, s2, hw] at b
    rw [b_or, b_or, b_or, Bool.or_eq_true, Bool.or_eq_true, Bool.or_eq_true] at b
    rcases b with ((b | b) | b) | b
    · rw [shlb (by omega) hi, Bool.and_eq_true, decide_eq_true_eq, b_and, b_xor, b_m1 _ (by omega), (hb (i - 1) (by omega)).2.2, Bool.and_eq_true] at b
      obtain ⟨b1, b2, b3⟩ := b
      have k := hx _ (by omega) b2
      have := last (i - 1) k (fun z => by rw [decide_eq_true ⟨k, z⟩] at b3; exact absurd b3 (by decide))
      omega
    · rw [shrb (by omega) hi (x31 _), b_and, Bool.and_eq_true] at b
      by_cases q : 1 + i < 32
      · have := hx _ q b.1; omega
      · have z := b.1
        rw [b_big (by omega)] at z; cases z
    · rw [b_and, Bool.and_eq_true, (hb i hi).1, decide_eq_true_eq] at b
      exact b.2
    · rw [shrb (by omega) hi x31'] at b
      by_cases q : w + i < 32
      · have := hx _ q b; omega
      · rw [b_big (by omega)] at b; cases b
  intro i hi b
  rw [b_or, Bool.or_eq_true] at b
  rcases b with b | b
  · exact hx i hi b
  · unfold aroundF at b
    by_cases q : f 2 = 0
    · rw [if_pos q] at b; exact base i hi b
    · rw [if_neg q, hw, hw1, b_or, b_or, Bool.or_eq_true, Bool.or_eq_true] at b
      rcases b with b | b | b
      · exact base i hi b
      · rw [shrb (by omega) hi (x31 _), b_and, Bool.and_eq_true] at b
        by_cases q2 : w - 1 + i < 32
        · have := hx _ q2 b.1; omega
        · have z := b.1
          rw [b_big (by omega)] at z; cases z
      · rw [shlb (by omega) hi, Bool.and_eq_true, decide_eq_true_eq, b_and, Bool.and_eq_true, (hb (i - (w - 1)) (by omega)).2.1, decide_eq_true_eq] at b
        obtain ⟨b1, b2, b3, b4⟩ := b
        have := row_in (w := w) (r := r) (by omega) b3 b4
        omega
theorem bec_loc {H x y : Int32} {w r : Nat} {j : Bool} (w1 : 1 ≤ w) (w5 : w ≤ 5) (r6 : r ≤ 6) (hj : j = true → 2 < w) (hx : ∀ i, i < 32 → bt x i = true → bt H i = true) (hy : ∀ i, i < 32 → bt y i = true → bt H i = true) (hP : inP w r H) {k : Nat} (hk : k < w * r) (e0 : bt x k = bt y k) (nb : ∀ i, i < 32 → adj w r j k i → bt x i = bt y i) (B S : Int32) : becB w j x B S k = becB w j y B S k := by
  have e : nbC w j (bt x) k = nbC w j (bt y) k := by
    rw [← near_ct (H := H) w1 w5 r6 hj hx (fun i hi b => hP i hi (hx i hi b)) hk, ← near_ct (H := H) w1 w5 r6 hj hy (fun i hi b => hP i hi (hy i hi b)) hk]
    congr 1
    refine b_ext (fun i hi => ?_)
    rw [b_and, b_and]
    cases q : bt (nrF H w r j k) i
    · rfl
    · rw [nb i hi ((nrF_adj w1 w5 r6 hk hi).mp q).1]
  unfold becB; rw [e0, e]
/-- a set and all beside it -/
def seeF (f : Nat → Int32) (x : Int32) : Int32 := x ||| aroundF f x
theorem see_inP {f : Nat → Int32} {w r : Nat} {j : Bool} (H : HillOK f w r j) : ∀ n {x : Int32}, inP w r x → inP w r (itN (seeF f) n x)
  | 0, _, hx => hx
  | n + 1, _, hx => see_inP H n (ar_inP H hx)
theorem nx_loc {h : HP} {t w r m c : Nat} {j : Bool} (T : TW h t w r m c j) {x y N : Int32} (hN : inP w r N) (hx : inH h x) (hy : inH h y) (e : ∀ i, i < 32 → bt (seeF (hI h (t + 1)) N) i = true → bt x i = bt y i) : ∀ i, i < 32 → bt N i = true → bt (nxF h t x) i = bt (nxF h t y) i := by
  intro i hi b
  obtain ⟨⟨w1, w5, hw, hw'⟩, ⟨r1, r6, hr, hr'⟩, -, -, -, h6, h7⟩ := T.1.n
  have ik := hN i hi b
  unfold nxF
  rw [step_b T.2.2.1 (inH_P T.1 hx) (free_P T.1) _ _ hi, step_b T.2.2.1 (inH_P T.1 hy) (free_P T.1) _ _ hi]
  rw [bec_loc (H := hI h 114 2) w1 w5 r6 T.2.2.2.2 hx hy (fun i hi b => (h7 i hi).1 b) ik (e i hi (by unfold seeF; rw [b_or, b]; rfl)) (fun q hq a => ?_)]
  by_cases qk : q < w * r
  · refine e q hq ?_
    unfold seeF
    rw [b_or, (ar_b T.2.2.1 T.2.2.2.2 hN qk).mpr ⟨i, hi, b, a⟩, Bool.or_true]
  · have zx : bt x q = false := by
      cases z : bt x q
      · rfl
      · exact absurd (inH_P T.1 hx q hq z) qk
    have zy : bt y q = false := by
      cases z : bt y q
      · rfl
      · exact absurd (inH_P T.1 hy q hq z) qk
    rw [zx, zy]
theorem it_loc {h : HP} {t w r m c : Nat} {j : Bool} (T : TW h t w r m c j) {N : Int32} (hN : inP w r N) : ∀ n {x y : Int32}, inH h x → inH h y → (∀ i, i < 32 → bt (itN (seeF (hI h (t + 1))) n N) i = true → bt x i = bt y i) → ∀ i, i < 32 → bt N i = true → bt (itN (nxF h t) n x) i = bt (itN (nxF h t) n y) i
  | 0, _, _, _, _, e, i, hi, b => e i hi b
  | n + 1, x, y, hx, hy, e, i, hi, b => it_loc T hN n (T.nx hx) (T.nx hy) (nx_loc T (see_inP T.2.2.1 n hN) hx hy (fun i hi b => e i hi (by rw [itN_last]; exact b))) i hi b
/-- by a set turned now a lamp is lit then -/
def litB (h : HP) (t N p : Nat) (s : Int32) : Prop := bt (itN (nxF h t) N (hI h 114 3 ^^^ s)) p = true
theorem xor_inH {h : HP} {t w r m c : Nat} {j : Bool} (T : TW h t w r m c j) {s : Int32} (hs : inH h s) : inH h (hI h 114 3 ^^^ s) := fun i hi b => by
  rw [b_xor] at b
  cases y : bt (hI h 114 3) i
  · rw [y] at b; exact hs i hi (by simpa using b)
  · exact T.pic i hi y
theorem lit_cut {h : HP} {t w r m c : Nat} {j : Bool} (T : TW h t w r m c j) {N p : Nat} (hp : p < w * r) {s : Int32} (hs : inH h s) : litB h t N p s ↔ litB h t N p (s &&& itN (seeF (hI h (t + 1))) N (bitI p)) := by
  have h30 := wr_le T.1.n.1.2.1 T.1.n.2.1.2.1
  have hb : inP w r (bitI p) := fun i hi b => by
    rw [bitI_b (by omega) hi, decide_eq_true_eq] at b; omega
  have hs2 : inH h (s &&& itN (seeF (hI h (t + 1))) N (bitI p)) := fun i hi b => by
    rw [b_and, Bool.and_eq_true] at b; exact hs i hi b.1
  have := it_loc T hb N (xor_inH T hs) (xor_inH T hs2) (fun i hi b => by rw [b_xor, b_xor, b_and, b, Bool.and_true]) p (by omega) (by rw [bitI_b (by omega) (by omega), decide_eq_true rfl])
  unfold litB
  rw [this]
/-- the sets of at most three lamps of F -/
def fam3 (F s : Int32) : Prop := s = 0 ∨ (∃ i, i < 30 ∧ bt F i = true ∧ s = bitI i) ∨ (∃ i j, i < 30 ∧ bt F i = true ∧ bt F j = true ∧ j < i ∧ s = bitI i ||| bitI j) ∨ ∃ i j k, i < 30 ∧ bt F i = true ∧ bt F j = true ∧ bt F k = true ∧ j < i ∧ k < j ∧ s = bitI i ||| bitI j ||| bitI k
theorem bit_cut {i : Nat} (hi : i < 32) (N : Int32) : bitI i &&& N = if bt N i = true then bitI i else 0 := by
  refine b_ext (fun q hq => ?_)
  by_cases b : bt N i = true
  · rw [if_pos b, b_and, bitI_b hi hq]
    by_cases e : q = i
    · rw [e, b, Bool.and_true]
    · rw [decide_eq_false e]; rfl
  · rw [if_neg b, b_and, bitI_b hi hq, b_0]
    by_cases e : q = i
    · have b' : bt N i = false := by simpa using b
      rw [e, b', Bool.and_false]
    · rw [decide_eq_false e]; rfl
theorem or_cut (x y N : Int32) : (x ||| y) &&& N = (x &&& N) ||| (y &&& N) := b_ext (fun i hi => by rw [b_and, b_or, b_or, b_and, b_and, Bool.and_or_distrib_right])
theorem zor (x : Int32) : 0 ||| x = x := b_ext (fun i hi => by rw [b_or, b_0, Bool.false_or])
theorem and_b2 {F N : Int32} {i : Nat} (a : bt F i = true) (b : bt N i = true) : bt (F &&& N) i = true := by rw [b_and, a, b]; rfl
theorem fam3_cut {F N s : Int32} (h : fam3 F s) : fam3 (F &&& N) (s &&& N) := by
  unfold fam3
  rcases h with rfl | ⟨i, hi, a, rfl⟩ | ⟨i, j, hi, a, b, ji, rfl⟩ | ⟨i, j, k, hi, a, b, c, ji, kj, rfl⟩
  · exact Or.inl (b_ext (fun i _ => by rw [b_and, b_0]; rfl))
  · rw [bit_cut (by omega)]
    by_cases x : bt N i = true
    · rw [if_pos x]; exact Or.inr (Or.inl ⟨i, hi, and_b2 a x, rfl⟩)
    · rw [if_neg x]; exact Or.inl rfl
  · rw [or_cut, bit_cut (by omega), bit_cut (by omega)]
    by_cases x : bt N i = true <;> by_cases y : bt N j = true
    · rw [if_pos x, if_pos y]; exact Or.inr (Or.inr (Or.inl ⟨i, j, hi, and_b2 a x, and_b2 b y, ji, rfl⟩))
    · rw [if_pos x, if_neg y, or0]; exact Or.inr (Or.inl ⟨i, hi, and_b2 a x, rfl⟩)
    · rw [if_neg x, if_pos y, zor]; exact Or.inr (Or.inl ⟨j, by omega, and_b2 b y, rfl⟩)
    · rw [if_neg x, if_neg y, zor]; exact Or.inl rfl
  · rw [or_cut, or_cut, bit_cut (by omega), bit_cut (by omega), bit_cut (by omega)]
    by_cases x : bt N i = true <;> by_cases y : bt N j = true <;> by_cases z : bt N k = true
    · rw [if_pos x, if_pos y, if_pos z]; exact Or.inr (Or.inr (Or.inr ⟨i, j, k, hi, and_b2 a x, and_b2 b y, and_b2 c z, ji, kj, rfl⟩))
    · rw [if_pos x, if_pos y, if_neg z, or0]; exact Or.inr (Or.inr (Or.inl ⟨i, j, hi, and_b2 a x, and_b2 b y, ji, rfl⟩))
    · rw [if_pos x, if_neg y, if_pos z, or0]; exact Or.inr (Or.inr (Or.inl ⟨i, k, hi, and_b2 a x, and_b2 c z, by omega, rfl⟩))
    · rw [if_pos x, if_neg y, if_neg z, or0, or0]; exact Or.inr (Or.inl ⟨i, hi, and_b2 a x, rfl⟩)
    · rw [if_neg x, if_pos y, if_pos z, zor]; exact Or.inr (Or.inr (Or.inl ⟨j, k, by omega, and_b2 b y, and_b2 c z, kj, rfl⟩))
    · rw [if_neg x, if_pos y, if_neg z, zor, or0]; exact Or.inr (Or.inl ⟨j, by omega, and_b2 b y, rfl⟩)
    · rw [if_neg x, if_neg y, if_pos z, zor, zor]; exact Or.inr (Or.inl ⟨k, by omega, and_b2 c z, rfl⟩)
    · rw [if_neg x, if_neg y, if_neg z, zor, zor]; exact Or.inl rfl
theorem bit_sub {F : Int32} {i : Nat} (hi : i < 32) (b : bt F i = true) : sub (bitI i) F := fun q hq a => by
  rw [bitI_b hi hq, decide_eq_true_eq] at a; rw [a]; exact b
theorem sub_or {x y F : Int32} (a : sub x F) (b : sub y F) : sub (x ||| y) F := fun q hq z => by
  rw [b_or, Bool.or_eq_true] at z; exact z.elim (a q hq) (b q hq)
theorem fam3_sub {F s : Int32} (h : fam3 F s) : sub s F := by
  rcases h with rfl | ⟨i, hi, a, rfl⟩ | ⟨i, j, hi, a, b, ji, rfl⟩ | ⟨i, j, k, hi, a, b, c, ji, kj, rfl⟩
  · intro q hq z; rw [b_0] at z; cases z
  · exact bit_sub (by omega) a
  · exact sub_or (bit_sub (by omega) a) (bit_sub (by omega) b)
  · exact sub_or (sub_or (bit_sub (by omega) a) (bit_sub (by omega) b)) (bit_sub (by omega) c)
theorem fam3_mono {F G s : Int32} (s1 : ∀ i, i < 32 → bt F i = true → bt G i = true) (h : fam3 F s) : fam3 G s := by
  rcases h with rfl | ⟨i, hi, a, rfl⟩ | ⟨i, j, hi, a, b, ji, rfl⟩ | ⟨i, j, k, hi, a, b, c, ji, kj, rfl⟩
  · exact Or.inl rfl
  · exact Or.inr (Or.inl ⟨i, hi, s1 i (by omega) a, rfl⟩)
  · exact Or.inr (Or.inr (Or.inl ⟨i, j, hi, s1 i (by omega) a, s1 j (by omega) b, ji, rfl⟩))
  · exact Or.inr (Or.inr (Or.inr ⟨i, j, k, hi, s1 i (by omega) a, s1 j (by omega) b, s1 k (by omega) c, ji, kj, rfl⟩))
/-- no cost: the fewest lamps, of these the least number -/
def zc (_ : Int32) : Nat := 0
theorem cut_le (N s : Int32) : lek zc (s &&& N) s := by
  have sb : sub (s &&& N) s := fun i hi b => by rw [b_and, Bool.and_eq_true] at b; exact b.1
  rcases sb.pc with e | e
  · rw [e]; exact lek.rfl' _ _
  · exact Or.inr ⟨rfl, Or.inl e⟩
/-- the best of the near lamps is the best of all -/
theorem near_best {F N : Int32} {L : Int32 → Prop} (hl : ∀ s, fam3 F s → (L s ↔ L (s &&& N))) :
    (∀ b, Bst zc (fun s => fam3 (F &&& N) s ∧ L s) b → Bst zc (fun s => fam3 F s ∧ L s) b) ∧ ((∀ s, fam3 (F &&& N) s → ¬ L s) → ∀ s, fam3 F s → ¬ L s) := by
  have mono : ∀ s, fam3 (F &&& N) s → fam3 F s := fun s => fam3_mono (fun i hi b => by rw [b_and, Bool.and_eq_true] at b; exact b.1)
  refine ⟨fun b hb => ⟨⟨mono b hb.1.1, hb.1.2⟩, fun s hs => ?_⟩, fun no s hs l => no (s &&& N) (fam3_cut hs) ((hl s hs).mp l)⟩
  exact (hb.2 (s &&& N) ⟨fam3_cut hs.1, (hl s hs.1).mp hs.2⟩).tr (cut_le N s)
theorem bit_vvv : ∀ i, i < 30 → ∀ j, j < i → ∀ k, k < j → (bitI i ||| bitI j ||| bitI k).toInt = (2 : Int) ^ i + 2 ^ j + 2 ^ k ∧ pc (bitI i ||| bitI j ||| bitI k) = 3 := by decide +kernel
theorem v1 {i : Nat} (hi : i < 30) : (bitI i).toInt = (2 : Int) ^ i ∧ pc (bitI i) = 1 := bit_v i hi
theorem v2 {i j : Nat} (hi : i < 30) (ji : j < i) : (bitI i ||| bitI j).toInt = (2 : Int) ^ i + 2 ^ j ∧ pc (bitI i ||| bitI j) = 2 := bit_vv i hi j (by omega) ji
theorem v3 {i j k : Nat} (hi : i < 30) (ji : j < i) (kj : k < j) : (bitI i ||| bitI j ||| bitI k).toInt = (2 : Int) ^ i + 2 ^ j + 2 ^ k ∧ pc (bitI i ||| bitI j ||| bitI k) = 3 := bit_vvv i hi j ji k kj
theorem fam3_n {F s : Int32} (h : fam3 F s) : 0 ≤ s.toInt ∧ pc s ≤ 3 := by
  rcases h with rfl | ⟨i, hi, a, rfl⟩ | ⟨i, j, hi, a, b, ji, rfl⟩ | ⟨i, j, k, hi, a, b, c, ji, kj, rfl⟩
  · exact ⟨Int.le_refl 0, by rw [pc_0]; omega⟩
  · obtain ⟨a, b⟩ := v1 hi
    have := (p2_lt 30 (by omega) i (by omega) (by omega)).2
    omega
  · obtain ⟨a, b⟩ := v2 hi ji
    have := (p2_lt i (by omega) j (by omega) ji).2
    have := (p2_lt 30 (by omega) i (by omega) (by omega)).2
    omega
  · obtain ⟨a, b⟩ := v3 hi ji kj
    have := (p2_lt i (by omega) j (by omega) ji).2
    have := (p2_lt j (by omega) k (by omega) kj).2
    have := (p2_lt 30 (by omega) i (by omega) (by omega)).2
    omega
/-- pairs and threes in the order of their numbers -/
theorem le2 {i j p q : Nat} (hi : i < 30) (hp : p < 30) (ji : j < i) (qp : q < p) (o : ¬ (p < i ∨ (p = i ∧ q < j))) : (bitI i ||| bitI j).toInt ≤ (bitI p ||| bitI q).toInt := by
  rw [(v2 hi ji).1, (v2 hp qp).1]
  have a := p2_lt i (by omega) j (by omega) ji
  have b := p2_lt p (by omega) q (by omega) qp
  by_cases e : p = i
  · subst e
    by_cases e2 : q = j
    · rw [e2]; omega
    · have := p2_lt q (by omega) j (by omega) (by omega); omega
  · have := p2_lt p (by omega) i (by omega) (by omega); omega
theorem le3 {i j k p q s : Nat} (hi : i < 30) (hp : p < 30) (ji : j < i) (kj : k < j) (qp : q < p) (sq : s < q) (o : ¬ (p < i ∨ (p = i ∧ (q < j ∨ (q = j ∧ s < k))))) : (bitI i ||| bitI j ||| bitI k).toInt ≤ (bitI p ||| bitI q ||| bitI s).toInt := by
  rw [(v3 hi ji kj).1, (v3 hp qp sq).1]
  have a := p2_lt i (by omega) j (by omega) ji
  have a' := p2_lt j (by omega) k (by omega) kj
  have b := p2_lt p (by omega) q (by omega) qp
  have b' := p2_lt q (by omega) s (by omega) sq
  by_cases e : p = i
  · subst e
    by_cases e2 : q = j
    · subst e2
      by_cases e3 : s = k
      · rw [e3]; omega
      · have := p2_lt s (by omega) k (by omega) (by omega); omega
    · have := p2_lt q (by omega) j (by omega) (by omega); omega
  · have := p2_lt p (by omega) i (by omega) (by omega); omega
theorem lq1 {i p : Nat} (hi : i < 30) (hp : p < 30) (o : ¬ p < i) : (bitI i).toInt ≤ (bitI p).toInt := by
  rw [(v1 hi).1, (v1 hp).1]
  by_cases e : p = i
  · rw [e]; omega
  · have := p2_lt p (by omega) i (by omega) (by omega); omega
