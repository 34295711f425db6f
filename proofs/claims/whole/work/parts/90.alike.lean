/-! ===== alike: mending, the class ===== -/
theorem bit_v : ∀ i, i < 30 → (bitI i).toInt = (2 : Int) ^ i ∧ pc (bitI i) = 1 := by decide +kernel
theorem bit_vv : ∀ i, i < 30 → ∀ j, j < 30 → j < i → (bitI i ||| bitI j).toInt = (2 : Int) ^ i + 2 ^ j ∧ pc (bitI i ||| bitI j) = 2 := by decide +kernel
theorem p2_lt : ∀ i, i < 31 → ∀ j, j < 31 → j < i → (2 : Int) * 2 ^ j ≤ 2 ^ i ∧ (0 : Int) < 2 ^ j := by decide +kernel
/-- b is not behind s: cost, how many, which -/
def lek (c : Int32 → Nat) (b s : Int32) : Prop := c b < c s ∨ (c b = c s ∧ (pc b < pc s ∨ (pc b = pc s ∧ b.toInt ≤ s.toInt)))
def Bst (c : Int32 → Nat) (P : Int32 → Prop) (b : Int32) : Prop := P b ∧ ∀ s, P s → lek c b s
theorem lek.tr {c : Int32 → Nat} {x y z : Int32} (a : lek c x y) (b : lek c y z) : lek c x z := by unfold lek at *; omega
theorem lek.rfl' (c : Int32 → Nat) (x : Int32) : lek c x x := Or.inr ⟨rfl, Or.inr ⟨rfl, Int.le_refl _⟩⟩
theorem Bst.uq {c : Int32 → Nat} {P : Int32 → Prop} {x y : Int32} (a : Bst c P x) (b : Bst c P y) : x = y := by
  have h1 := a.2 y b.1
  have h2 := b.2 x a.1
  refine Int32.toInt_inj.mp ?_
  unfold lek at h1 h2; omega
theorem Bst.same {c : Int32 → Nat} {P Q : Int32 → Prop} {b : Int32} (h : Bst c P b) (e : ∀ s, P s ↔ Q s) : Bst c Q b := ⟨(e b).mp h.1, fun s q => h.2 s ((e s).mpr q)⟩
/-- one more set, behind all before in number and size: taken if it costs less -/
theorem Bst.add {c : Int32 → Nat} {P : Int32 → Prop} {b s : Int32} (h : Bst c P b) (o : ∀ x, P x → pc x < pc s ∨ (pc x = pc s ∧ x.toInt < s.toInt)) : Bst c (fun x => P x ∨ x = s) (if c b ≤ c s then b else s) := by
  by_cases q : c b ≤ c s
  · rw [if_pos q]
    refine ⟨Or.inl h.1, fun x hx => ?_⟩
    rcases hx with hx | rfl
    · exact h.2 x hx
    · have := o b h.1; unfold lek; omega
  · rw [if_neg q]
    refine ⟨Or.inr rfl, fun x hx => ?_⟩
    rcases hx with hx | rfl
    · have := h.2 x hx; unfold lek at this ⊢; omega
    · exact lek.rfl' c x
/-- one more set, anywhere: taken if it comes before -/
theorem Bst.put {c : Int32 → Nat} {P : Int32 → Prop} {b s n : Int32} (h : Bst c P b) (o : (n = b ∧ lek c b s) ∨ (n = s ∧ lek c s b)) : Bst c (fun x => P x ∨ x = s) n := by
  rcases o with ⟨rfl, o⟩ | ⟨rfl, o⟩
  · refine ⟨Or.inl h.1, fun x hx => ?_⟩
    rcases hx with hx | rfl
    · exact h.2 x hx
    · exact o
  · refine ⟨Or.inr rfl, fun x hx => ?_⟩
    rcases hx with hx | rfl
    · exact o.tr (h.2 x hx)
    · exact lek.rfl' c x
/-- what a set turned costs -/
def cstF (h : HP) (t : Nat) (a s : Int32) : Nat := pc ((nxF h t (hI h 114 3 ^^^ s) ^^^ a) &&& hI h (t + 1) 3)
def mSt (h : HP) (t : Nat) (a F b : Int32) (g : HP) : Prop := Sc t h g ∧ hI g 73 5 = nI (cstF h t a b) ∧ hI g 73 2 = b ∧ hI g 73 1 = nI (fb_ct (bt F) 30) ∧ ∀ i, i < 30 → bt F i = true → hI g 74 (fb_ct (bt F) i) = bitI i
theorem tm_e {h g : HP} {t w r m c : Nat} {j : Bool} (ht : t = 79 ∨ t = 96) (T : TW h t w r m c j) {a F b : Int32} (M : mSt h t a F b g) (s : Int32) : ∃ g', f_X8_tryMend g t s a = some g' ∧ mSt h t a F (if cstF h t a b ≤ cstF h t a s then b else s) g' := by
  obtain ⟨m1, m2, m3, m4, m5⟩ := M
  obtain ⟨f, ef⟩ := nxtC3 m1.1 T.r4 (hI h 114 3 ^^^ s)
  have s1 := m1.sc ht f
  unfold f_X8_tryMend f_X1_countUnlike
  rw [m1.1.1 t (by omega), T.pic0, ef, bd2_s, bd2_s, s1.1.1 (t + 1) (by omega), scr_I _ _ _ (by omega), m2]
  have p1 := pc_le ((nxF h t (hI h 114 3 ^^^ b) ^^^ a) &&& hI h (t + 1) 3)
  have p2 := pc_le ((nxF h t (hI h 114 3 ^^^ s) ^^^ a) &&& hI h (t + 1) 3)
  show ∃ g', (if nI (cstF h t a b) ≤ nI (cstF h t a s) then _ else _) = _ ∧ _
  by_cases q : cstF h t a b ≤ cstF h t a s
  · rw [if_pos (by unfold cstF at *; rw [nI_leI (by omega) (by omega)]; exact q), if_pos q]
    exact ⟨_, rfl, s1, by rw [scr_I _ _ _ (by omega)]; exact m2, by rw [scr_I _ _ _ (by omega)]; exact m3, by rw [scr_I _ _ _ (by omega)]; exact m4, fun i hi y => by rw [scr_I _ _ _ (by omega)]; exact m5 i hi y⟩
  · rw [if_neg (by unfold cstF at *; rw [nI_leI (by omega) (by omega)]; exact q), if_neg q]
    simp only [ltv_e]
    refine ⟨_, rfl, (s1.I74 ht 73 5 _ (Or.inl rfl)).I74 ht 73 2 _ (Or.inl rfl), by rw [hI_uI_n (by omega), hI_uI_s]; rfl, hI_uI_s _ _ _ _, ?_, fun i hi y => ?_⟩
    · rw [hI_uI_n (by omega), hI_uI_n (by omega), scr_I _ _ _ (by omega)]; exact m4
    · rw [hI_uI_n (by omega), hI_uI_n (by omega), scr_I _ _ _ (by omega)]; exact m5 i hi y
def fmA (F : Int32) (k : Nat) (s : Int32) : Prop := s = 0 ∨ ∃ i, i < 30 ∧ bt F i = true ∧ fb_ct (bt F) i < k ∧ s = bitI i
def fmB (F : Int32) (k l : Nat) (s : Int32) : Prop := fmA F 30 s ∨ ∃ i j, i < 30 ∧ j < 30 ∧ bt F i = true ∧ bt F j = true ∧ j < i ∧ (fb_ct (bt F) i < k ∨ (fb_ct (bt F) i = k ∧ fb_ct (bt F) j < l)) ∧ s = bitI i ||| bitI j
theorem fmB_pc {F : Int32} {k l : Nat} {s : Int32} (h : fmB F k l s) {i j : Nat} (hi : i < 30) (hj : j < 30) (ji : j < i) (bi : bt F i = true) (bj : bt F j = true) (ei : fb_ct (bt F) i = k) (ej : fb_ct (bt F) j = l) : pc s < pc (bitI i ||| bitI j) ∨ (pc s = pc (bitI i ||| bitI j) ∧ s.toInt < (bitI i ||| bitI j).toInt) := by
  obtain ⟨v1, v2⟩ := bit_vv i hi j hj ji
  rw [v1, v2]
  rcases h with (rfl | ⟨a, a1, a2, a3, rfl⟩) | ⟨a, b, a1, b1, a2, b2, ab, c, rfl⟩
  · left; rw [pc_0]; omega
  · left; rw [(bit_v a a1).2]; omega
  · obtain ⟨w1, w2⟩ := bit_vv a a1 b b1 ab
    refine Or.inr ⟨w2, ?_⟩
    rw [w1]
    have pj := (p2_lt i (by omega) j (by omega) ji)
    have pb := (p2_lt a (by omega) b (by omega) ab)
    rcases c with c | ⟨c, d⟩
    · have ai : a < i := ct_le' a2 (by omega)
      have := (p2_lt i (by omega) a (by omega) ai).1
      omega
    · have ea : a = i := by
        rcases Nat.lt_trichotomy a i with z | z | z
        · have := ct_lt a2 z; omega
        · exact z
        · have := ct_lt bi z; omega
      subst ea
      have bj' : b < j := ct_le' b2 (by omega)
      have := (p2_lt j (by omega) b (by omega) bj').1
      omega
theorem fmA_pc {F : Int32} {k : Nat} {s : Int32} (h : fmA F k s) {i : Nat} (hi : i < 30) (bi : bt F i = true) (ei : fb_ct (bt F) i = k) : pc s < pc (bitI i) ∨ (pc s = pc (bitI i) ∧ s.toInt < (bitI i).toInt) := by
  obtain ⟨v1, v2⟩ := bit_v i hi
  rw [v1, v2]
  rcases h with rfl | ⟨a, a1, a2, a3, rfl⟩
  · left; rw [pc_0]; omega
  · obtain ⟨w1, w2⟩ := bit_v a a1
    refine Or.inr ⟨w2, ?_⟩
    rw [w1]
    have ai : a < i := ct_le' a2 (by omega)
    have := p2_lt i (by omega) a (by omega) ai
    omega
theorem ctN (F : Int32) : fb_ct (bt F) 30 ≤ 30 := fb_ct_le _ _
/-- pairs: the inner loop -/
theorem m65 {h : HP} {t w r m c : Nat} {j : Bool} (ht : t = 79 ∨ t = 96) (T : TW h t w r m c j) {a F : Int32} (K : Int32 → Int32 → HP → Option HP) {k i : Nat} (hi : i < 30) (bi : bt F i = true) (ei : fb_ct (bt F) i = k) : ∀ d l n g b, l + d = k → d < n → mSt h t a F b g → Bst (cstF h t a) (fmB F k l) b →
    ∃ g' b', f_X8_findMend_65 t K n a (nI k) (nI l) g = K a (nI (k + 1)) g' ∧ mSt h t a F b' g' ∧ Bst (cstF h t a) (fmB F k k) b'
  | d, l, 0, _, _, _, z, _, _ => absurd z (by omega)
  | 0, l, n + 1, g, b, e, _, M, B => by
    have := fb_ct_le (bt F) i
    have e : l = k := by omega
    subst e
    unfold f_X8_findMend_65
    rw [if_pos (by rw [nI_leI (by omega) (by omega)]; omega)]
    simp only [ltv_e, nI_1]
    exact ⟨g, b, rfl, M, B⟩
  | d + 1, l, n + 1, g, b, e, z, M, B => by
    have k30 := fb_ct_le (bt F) i
    have kk : k < fb_ct (bt F) 30 := by rw [← ei]; exact ct_lt bi (by omega)
    obtain ⟨j', hj, bj, ej⟩ := kth (F := F) (k := l) (by omega)
    have ji : j' < i := ct_le' bj (by omega)
    have mi := M.2.2.2.2 i hi bi
    have mj := M.2.2.2.2 j' hj bj
    rw [ei] at mi
    rw [ej] at mj
    obtain ⟨g1, e1, M1⟩ := tm_e ht T M (bitI i ||| bitI j')
    unfold f_X8_findMend_65
    rw [if_neg (by rw [nI_leI (by omega) (by omega)]; omega), gdi_nI (by omega) (by decide), gdi_nI (by omega) (by decide), nI_clamp (by omega), nI_clamp (by omega), mi, mj, e1, bd1_s]
    simp only [ltv_e, nI_1]
    refine m65 ht T K hi bi ei d (l + 1) n g1 _ (by omega) (by omega) M1 ((B.add (fun x hx => fmB_pc hx hi hj ji bi bj ei ej)).same (fun s => ?_))
    unfold fmB
    constructor
    · rintro ((x | ⟨p, q, p1, q1, p2, q2, pq, y, rfl⟩) | rfl)
      · exact Or.inl x
      · exact Or.inr ⟨p, q, p1, q1, p2, q2, pq, by omega, rfl⟩
      · exact Or.inr ⟨i, j', hi, hj, bi, bj, ji, by omega, rfl⟩
    · rintro (x | ⟨p, q, p1, q1, p2, q2, pq, y, rfl⟩)
      · exact Or.inl (Or.inl x)
      · by_cases z : fb_ct (bt F) p < k ∨ (fb_ct (bt F) p = k ∧ fb_ct (bt F) q < l)
        · exact Or.inl (Or.inr ⟨p, q, p1, q1, p2, q2, pq, z, rfl⟩)
        · have ep : p = i := by
            rcases Nat.lt_trichotomy p i with z2 | z2 | z2
            · have := ct_lt p2 z2; omega
            · exact z2
            · have := ct_lt bi z2; omega
          have eq : q = j' := by
            rcases Nat.lt_trichotomy q j' with z2 | z2 | z2
            · have := ct_lt q2 z2; omega
            · exact z2
            · have := ct_lt bj z2; omega
          subst ep eq; exact Or.inr rfl
theorem m54 {h : HP} {t w r m c : Nat} {j : Bool} (ht : t = 79 ∨ t = 96) (T : TW h t w r m c j) {a F : Int32} : ∀ d k n g b, k + d = fb_ct (bt F) 30 → d < n → mSt h t a F b g → Bst (cstF h t a) (fmB F k 0) b →
    ∃ g' b', f_X8_findMend_54 t n a (nI k) g = some g' ∧ mSt h t a F b' g' ∧ Bst (cstF h t a) (fmB F (fb_ct (bt F) 30) 0) b'
  | d, k, 0, _, _, _, z, _, _ => absurd z (by omega)
  | 0, k, n + 1, g, b, e, _, M, B => by
    have := ctN F
    unfold f_X8_findMend_54
    rw [M.2.2.2.1, if_pos (by rw [nI_leI (by omega) (by omega)]; omega)]
    have : k = fb_ct (bt F) 30 := by omega
    rw [this] at B
    exact ⟨g, b, rfl, M, B⟩
  | d + 1, k, n + 1, g, b, e, z, M, B => by
    have N30 := ctN F
    obtain ⟨i, hi, bi, ei⟩ := kth (F := F) (k := k) (by omega)
    obtain ⟨g1, b1, e1, M1, B1⟩ := m65 ht T (f_X8_findMend_54 t n) hi bi ei k 0 FU g b (by omega) (FU_gt (by omega)) M B
    obtain ⟨g', b', e', M', B'⟩ := m54 ht T d (k + 1) n g1 b1 (by omega) (by omega) M1 (B1.same (fun s => by
      unfold fmB
      constructor
      · rintro (x | ⟨p, q, p1, q1, p2, q2, pq, y, rfl⟩)
        · exact Or.inl x
        · exact Or.inr ⟨p, q, p1, q1, p2, q2, pq, by omega, rfl⟩
      · rintro (x | ⟨p, q, p1, q1, p2, q2, pq, y, rfl⟩)
        · exact Or.inl x
        · have := ct_lt q2 pq
          exact Or.inr ⟨p, q, p1, q1, p2, q2, pq, by omega, rfl⟩))
    refine ⟨g', b', ?_, M', B'⟩
    unfold f_X8_findMend_54
    rw [M.2.2.2.1, if_neg (by rw [nI_leI (by omega) (by omega)]; omega)]
    exact e1.trans e'
theorem m26 {h : HP} {t w r m c : Nat} {j : Bool} (ht : t = 79 ∨ t = 96) (T : TW h t w r m c j) {a F : Int32} : ∀ d k n g b, k + d = fb_ct (bt F) 30 → d < n → mSt h t a F b g → Bst (cstF h t a) (fmA F k) b →
    ∃ g' b', f_X8_findMend_26 t n a (nI k) g = f_X8_findMend_54 t FU a 1 g' ∧ mSt h t a F b' g' ∧ Bst (cstF h t a) (fmA F 30) b'
  | d, k, 0, _, _, _, z, _, _ => absurd z (by omega)
  | 0, k, n + 1, g, b, e, _, M, B => by
    have N30 := ctN F
    unfold f_X8_findMend_26
    rw [M.2.2.2.1, if_pos (by rw [nI_leI (by omega) (by omega)]; omega)]
    refine ⟨g, b, rfl, M, B.same (fun s => ?_)⟩
    unfold fmA
    constructor
    · rintro (x | ⟨i, i1, i2, i3, rfl⟩)
      · exact Or.inl x
      · exact Or.inr ⟨i, i1, i2, by omega, rfl⟩
    · rintro (x | ⟨i, i1, i2, i3, rfl⟩)
      · exact Or.inl x
      · exact Or.inr ⟨i, i1, i2, by have := ct_lt i2 i1; omega, rfl⟩
  | d + 1, k, n + 1, g, b, e, z, M, B => by
    have N30 := ctN F
    obtain ⟨i, hi, bi, ei⟩ := kth (F := F) (k := k) (by omega)
    have mi := M.2.2.2.2 i hi bi
    rw [ei] at mi
    obtain ⟨g1, e1, M1⟩ := tm_e ht T M (bitI i)
    obtain ⟨g', b', e', M', B'⟩ := m26 ht T d (k + 1) n g1 _ (by omega) (by omega) M1 ((B.add (fun x hx => fmA_pc hx hi bi ei)).same (fun s => by
      unfold fmA
      constructor
      · rintro ((x | ⟨p, p1, p2, p3, rfl⟩) | rfl)
        · exact Or.inl x
        · exact Or.inr ⟨p, p1, p2, by omega, rfl⟩
        · exact Or.inr ⟨i, hi, bi, by omega, rfl⟩
      · rintro (x | ⟨p, p1, p2, p3, rfl⟩)
        · exact Or.inl (Or.inl x)
        · by_cases y : fb_ct (bt F) p < k
          · exact Or.inl (Or.inr ⟨p, p1, p2, y, rfl⟩)
          · have ep : p = i := by
              rcases Nat.lt_trichotomy p i with z2 | z2 | z2
              · have := ct_lt p2 z2; omega
              · exact z2
              · have := ct_lt bi z2; omega
            subst ep; exact Or.inr rfl))
    refine ⟨g', b', ?_, M', B'⟩
    unfold f_X8_findMend_26
    rw [M.2.2.2.1, if_neg (by rw [nI_leI (by omega) (by omega)]; omega), gdi_nI (by omega) (by decide), nI_clamp (by omega), mi, e1, bd1_s]
    simp only [ltv_e, nI_1]
    exact e'
/-- every set that may be turned: none, one lamp, two -/
def fam (F s : Int32) : Prop := s = 0 ∨ (∃ i, i < 30 ∧ bt F i = true ∧ s = bitI i) ∨ ∃ i j, i < 30 ∧ j < 30 ∧ bt F i = true ∧ bt F j = true ∧ j < i ∧ s = bitI i ||| bitI j
theorem mendC {h : HP} {t w r m c : Nat} {j : Bool} (ht : t = 79 ∨ t = 96) (T : TW h t w r m c j) (a : Int32) : ∃ g' b, f_X8_findMend h t a = some g' ∧ Sc t h g' ∧ hI g' 73 5 = nI (cstF h t a b) ∧ hI g' 73 2 = b ∧ Bst (cstF h t a) (fam (hI h (t + 1) 5)) b := by
  obtain ⟨F, hF⟩ : ∃ F, F = hI h (t + 1) 5 := ⟨_, rfl⟩
  have N30 := ctN F
  obtain ⟨g1, e1, s1, k1, k2⟩ := ll_e ht (⟨CS.refl t h, Sm.refl t h⟩ : Sc t h h) F
  obtain ⟨f, ef⟩ := nxtC3 ((s1.I74 ht 73 5 100 (Or.inl rfl)).1) T.r4 (hI h 114 3 ^^^ 0)
  have p1 := pc_le ((nxF h t (hI h 114 3 ^^^ 0) ^^^ a) &&& hI h (t + 1) 3)
  obtain ⟨g2, e2, M2⟩ : ∃ g2, f_X8_tryMend (uI g1 73 5 100) t 0 a = some g2 ∧ mSt h t a F 0 g2 := by
    have s2 := (s1.I74 ht 73 5 100 (Or.inl rfl)).sc ht f
    unfold f_X8_tryMend f_X1_countUnlike
    rw [(s1.I74 ht 73 5 100 (Or.inl rfl)).1.1 t (by omega), T.pic0, ef, bd2_s, bd2_s, s2.1.1 (t + 1) (by omega), scr_I _ _ _ (by omega), hI_uI_s, if_neg (by rw [show (100 : Int32) = nI 100 from rfl, nI_leI (by omega) (by omega)]; omega)]
    simp only [ltv_e]
    refine ⟨_, rfl, (s2.I74 ht 73 5 _ (Or.inl rfl)).I74 ht 73 2 _ (Or.inl rfl), by rw [hI_uI_n (by omega), hI_uI_s]; rfl, hI_uI_s _ _ _ _, ?_, fun i hi y => ?_⟩
    · rw [hI_uI_n (by omega), hI_uI_n (by omega), scr_I _ _ _ (by omega), hI_uI_n (by omega)]; exact k1
    · rw [hI_uI_n (by omega), hI_uI_n (by omega), scr_I _ _ _ (by omega), hI_uI_n (by omega)]; exact k2 i hi y
  obtain ⟨g3, b3, e3, M3, B3⟩ := m26 ht T (fb_ct (bt F) 30) 0 FU g2 0 (by omega) (FU_gt (by omega)) M2 ⟨Or.inl rfl, fun s hs => by
    rcases hs with rfl | ⟨i, i1, i2, i3, -⟩
    · exact lek.rfl' _ _
    · omega⟩
  have B3' : Bst (cstF h t a) (fmB F 1 0) b3 := B3.same (fun s => by
    unfold fmB
    exact ⟨Or.inl, fun x => x.elim id (fun ⟨p, q, p1, q1, p2, q2, pq, y, _⟩ => absurd (ct_lt q2 pq) (by omega))⟩)
  have fin : ∀ {b}, Bst (cstF h t a) (fmB F (fb_ct (bt F) 30) 0) b → Bst (cstF h t a) (fam F) b := fun {b} B => B.same (fun s => by
    unfold fmB fmA fam
    constructor
    · rintro ((x | ⟨i, i1, i2, i3, rfl⟩) | ⟨p, q, p1, q1, p2, q2, pq, y, rfl⟩)
      · exact Or.inl x
      · exact Or.inr (Or.inl ⟨i, i1, i2, rfl⟩)
      · exact Or.inr (Or.inr ⟨p, q, p1, q1, p2, q2, pq, rfl⟩)
    · rintro (x | ⟨i, i1, i2, rfl⟩ | ⟨p, q, p1, q1, p2, q2, pq, rfl⟩)
      · exact Or.inl (Or.inl x)
      · exact Or.inl (Or.inr ⟨i, i1, i2, by have := ct_lt i2 i1; omega, rfl⟩)
      · exact Or.inr ⟨p, q, p1, q1, p2, q2, pq, Or.inl (ct_lt p2 p1), rfl⟩)
  have fm : f_X8_findMend h t a = f_X8_findMend_54 t FU a 1 g3 := by
    unfold f_X8_findMend
    rw [← hF, e1, bd1_s]
    simp only [ltv_e]
    rw [e2, bd1_s]
    exact e3
  rw [fm, ← hF]
  by_cases z : 1 ≤ fb_ct (bt F) 30
  · obtain ⟨g4, b4, e4, M4, B4⟩ := m54 ht T (fb_ct (bt F) 30 - 1) 1 FU g3 b3 (by omega) (FU_gt (by omega)) M3 B3'
    exact ⟨g4, b4, e4, M4.1, M4.2.1, M4.2.2.1, fin B4⟩
  · refine ⟨g3, b3, ?_, M3.1, M3.2.1, M3.2.2.1, fin (B3'.same (fun s => ?_))⟩
    · obtain ⟨n, hn⟩ : ∃ n, FU = n + 1 := ⟨999999, rfl⟩
      rw [hn]; unfold f_X8_findMend_54
      rw [M3.2.2.2.1, if_pos (by rw [show (1 : Int32) = nI 1 from rfl, nI_leI (by omega) (by omega)]; omega)]
    · unfold fmB
      have no : ∀ p, p < 30 → bt F p = true → False := fun p p1 p2 => by have := ct_lt p2 p1; omega
      exact ⟨fun x => x.elim Or.inl (fun ⟨p, q, p1, q1, p2, _⟩ => (no p p1 p2).elim), fun x => x.elim Or.inl (fun ⟨p, q, p1, q1, p2, _⟩ => (no p p1 p2).elim)⟩
