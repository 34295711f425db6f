/-! ===== alike: signal, the class ===== -/
def sS (h : HP) (t : Nat) (L : Int32) (g : HP) : Prop := Sc t h g ∧ hI g 73 1 = nI (fb_ct (bt L) 30) ∧ ∀ i, i < 30 → bt L i = true → hI g 74 (fb_ct (bt L) i) = bitI i
theorem ts_e {h g : HP} {t w r m c : Nat} {j : Bool} (ht : t = 79 ∨ t = 96) (T : TW h t w r m c j) {L : Int32} (M : sS h t L g) {N p : Nat} (hN : N < 1000000) (hp : p < 32) (s : Int32) :
    (∃ g', f_X8_trySet g t s (bitI p) (nI N) = some (1, g') ∧ sS h t L g' ∧ hI g' 73 2 = s ∧ litB h t N p s) ∨ (∃ g', f_X8_trySet g t s (bitI p) (nI N) = some (0, g') ∧ sS h t L g' ∧ ¬ litB h t N p s) := by
  obtain ⟨m1, m2, m3⟩ := M
  obtain ⟨f, ef⟩ := aftC3 hN m1.1 T.r4 (hI h 114 3 ^^^ s)
  have s1 := m1.sc ht f
  have m2' : hI (scr g t f) 73 1 = nI (fb_ct (bt L) 30) := by rw [scr_I _ _ _ (by omega)]; exact m2
  have m3' : ∀ i, i < 30 → bt L i = true → hI (scr g t f) 74 (fb_ct (bt L) i) = bitI i := fun i hi b => by rw [scr_I _ _ _ (by omega)]; exact m3 i hi b
  unfold f_X8_trySet litB
  rw [m1.1.1 t (by omega), T.pic0, ef, bd2_s]
  cases q : bt (itN (nxF h t) N (hI h 114 3 ^^^ s)) p
  · rw [if_pos ((and_bit hp).mpr q)]
    exact Or.inr ⟨_, rfl, ⟨s1, m2', m3'⟩, by decide⟩
  · rw [if_neg (fun z => by rw [(and_bit hp).mp z] at q; cases q)]
    simp only [ltv_e]
    exact Or.inl ⟨_, rfl, ⟨s1.I74 ht 73 2 s (Or.inl rfl), by rw [hI_uI_n (by omega)]; exact m2', fun i hi b => by rw [hI_uI_n (by omega)]; exact m3' i hi b⟩, hI_uI_s _ _ _ _, by first | trivial | rfl⟩
theorem ct_uq {L : Int32} {p q : Nat} (a : bt L p = true) (b : bt L q = true) (e : fb_ct (bt L) p = fb_ct (bt L) q) : p = q := fb_ct_kth_one a b e
theorem to_lp {h : HP} {t w r m c : Nat} {j : Bool} (ht : t = 79 ∨ t = 96) (T : TW h t w r m c j) {L : Int32} {N p : Nat} (hN : N < 1000000) (hp : p < 32) : ∀ d k n g, fb_ct (bt L) 30 ≤ k + d → d < n → k ≤ 40 → sS h t L g →
    (∃ g' i, f_X8_tryOnes_3 t n (bitI p) (nI N) (nI k) g = some (1, g') ∧ sS h t L g' ∧ i < 30 ∧ bt L i = true ∧ hI g' 73 2 = bitI i ∧ litB h t N p (bitI i) ∧ ∀ q, q < 30 → bt L q = true → k ≤ fb_ct (bt L) q → q < i → ¬ litB h t N p (bitI q)) ∨
    (∃ g', f_X8_tryOnes_3 t n (bitI p) (nI N) (nI k) g = some (0, g') ∧ sS h t L g' ∧ ∀ q, q < 30 → bt L q = true → k ≤ fb_ct (bt L) q → ¬ litB h t N p (bitI q))
  | d, k, 0, _, _, z, _, _ => absurd z (by omega)
  | 0, k, n + 1, g, e, _, k4, M => by
    have N30 := ctN L
    unfold f_X8_tryOnes_3
    rw [M.2.1, if_pos (by rw [nI_leI (by omega) (by omega)]; omega)]
    exact Or.inr ⟨g, rfl, M, fun q hq b y => by have := ct_lt b hq; omega⟩
  | d + 1, k, n + 1, g, e, z, k4, M => by
    have N30 := ctN L
    unfold f_X8_tryOnes_3
    rw [M.2.1]
    by_cases kk : k < fb_ct (bt L) 30
    · obtain ⟨i, hi, bi, ei⟩ := kth kk
      have mi := M.2.2 i hi bi
      rw [ei] at mi
      rw [if_neg (by rw [nI_leI (by omega) (by omega)]; omega), gdi_nI (by omega) (by decide), nI_clamp (by omega), mi]
      rcases ts_e ht T M hN hp (bitI i) with ⟨g1, e1, M1, k1, l1⟩ | ⟨g1, e1, M1, l1⟩
      · rw [e1, bd2_s, if_neg (by decide)]
        exact Or.inl ⟨g1, i, rfl, M1, hi, bi, k1, l1, fun q hq b y qi => by have := ct_lt b qi; omega⟩
      · rw [e1, bd2_s, if_pos rfl]
        simp only [ltv_e, nI_1]
        have own : ∀ q, bt L q = true → k ≤ fb_ct (bt L) q → ¬ k + 1 ≤ fb_ct (bt L) q → q = i := fun q b y y2 => ct_uq b bi (by omega)
        rcases to_lp ht T hN hp d (k + 1) n g1 (by omega) (by omega) (by omega) M1 with ⟨g2, i2, e2, M2, a1, a2, a3, a4, a5⟩ | ⟨g2, e2, M2, a5⟩
        · refine Or.inl ⟨g2, i2, e2, M2, a1, a2, a3, a4, fun q hq b y qi => ?_⟩
          by_cases y2 : k + 1 ≤ fb_ct (bt L) q
          · exact a5 q hq b y2 qi
          · rw [own q b y y2]; exact l1
        · refine Or.inr ⟨g2, e2, M2, fun q hq b y => ?_⟩
          by_cases y2 : k + 1 ≤ fb_ct (bt L) q
          · exact a5 q hq b y2
          · rw [own q b y y2]; exact l1
    · rw [if_pos (by rw [nI_leI (by omega) (by omega)]; omega)]
      exact Or.inr ⟨g, rfl, M, fun q hq b y => by have := ct_lt b hq; omega⟩
theorem tt_in {h : HP} {t w r m c : Nat} {j : Bool} (ht : t = 79 ∨ t = 96) (T : TW h t w r m c j) {L : Int32} {N p : Nat} (hN : N < 1000000) (hp : p < 32) (K : Int32 → Int32 → Int32 → HP → Option (Int32 × HP)) {i k : Nat} (hi : i < 30) (bi : bt L i = true) (ei : fb_ct (bt L) i = k) : ∀ d l n g, l + d = k → d < n → sS h t L g →
    (∃ g' q, f_X8_tryTwos_15 t K n (bitI p) (nI N) (nI k) (nI l) g = some (1, g') ∧ sS h t L g' ∧ q < i ∧ bt L q = true ∧ hI g' 73 2 = bitI i ||| bitI q ∧ litB h t N p (bitI i ||| bitI q) ∧ ∀ z, bt L z = true → l ≤ fb_ct (bt L) z → z < q → ¬ litB h t N p (bitI i ||| bitI z)) ∨
    (∃ g', f_X8_tryTwos_15 t K n (bitI p) (nI N) (nI k) (nI l) g = K (bitI p) (nI N) (nI (k + 1)) g' ∧ sS h t L g' ∧ ∀ z, z < i → bt L z = true → l ≤ fb_ct (bt L) z → ¬ litB h t N p (bitI i ||| bitI z))
  | d, l, 0, _, _, z, _ => absurd z (by omega)
  | 0, l, n + 1, g, e, _, M => by
    have k30 := fb_ct_le (bt L) i
    have e : l = k := by omega
    subst e
    unfold f_X8_tryTwos_15
    rw [if_pos (by rw [nI_leI (by omega) (by omega)]; omega)]
    simp only [ltv_e, nI_1]
    exact Or.inr ⟨g, rfl, M, fun z zi b y => by have := ct_lt b zi; omega⟩
  | d + 1, l, n + 1, g, e, y, M => by
    have k30 := fb_ct_le (bt L) i
    have kk : k < fb_ct (bt L) 30 := by rw [← ei]; exact ct_lt bi (by omega)
    obtain ⟨q, hq, bq, eq⟩ := kth (F := L) (k := l) (by omega)
    have qi : q < i := ct_le' bq (by omega)
    have mi := M.2.2 i hi bi
    have mq := M.2.2 q hq bq
    rw [ei] at mi
    rw [eq] at mq
    unfold f_X8_tryTwos_15
    rw [if_neg (by rw [nI_leI (by omega) (by omega)]; omega), gdi_nI (by omega) (by decide), gdi_nI (by omega) (by decide), nI_clamp (by omega), nI_clamp (by omega), mi, mq]
    rcases ts_e ht T M hN hp (bitI i ||| bitI q) with ⟨g1, e1, M1, k1, l1⟩ | ⟨g1, e1, M1, l1⟩
    · rw [e1, bd2_s, if_neg (by decide)]
      exact Or.inl ⟨g1, q, rfl, M1, qi, bq, k1, l1, fun z b y zq => by have := ct_lt b zq; omega⟩
    · rw [e1, bd2_s, if_pos rfl]
      simp only [ltv_e, nI_1]
      have own : ∀ z, bt L z = true → l ≤ fb_ct (bt L) z → ¬ l + 1 ≤ fb_ct (bt L) z → z = q := fun z b y y2 => ct_uq b bq (by omega)
      rcases tt_in ht T hN hp K hi bi ei d (l + 1) n g1 (by omega) (by omega) M1 with ⟨g2, q2, e2, M2, a1, a2, a3, a4, a5⟩ | ⟨g2, e2, M2, a5⟩
      · refine Or.inl ⟨g2, q2, e2, M2, a1, a2, a3, a4, fun z b y zq => ?_⟩
        by_cases y2 : l + 1 ≤ fb_ct (bt L) z
        · exact a5 z b y2 zq
        · rw [own z b y y2]; exact l1
      · refine Or.inr ⟨g2, e2, M2, fun z zi b y => ?_⟩
        by_cases y2 : l + 1 ≤ fb_ct (bt L) z
        · exact a5 z zi b y2
        · rw [own z b y y2]; exact l1
theorem tt_lp {h : HP} {t w r m c : Nat} {j : Bool} (ht : t = 79 ∨ t = 96) (T : TW h t w r m c j) {L : Int32} {N p : Nat} (hN : N < 1000000) (hp : p < 32) : ∀ d k n g, fb_ct (bt L) 30 ≤ k + d → d < n → k ≤ 40 → sS h t L g →
    (∃ g' i q, f_X8_tryTwos_3 t n (bitI p) (nI N) (nI k) g = some (1, g') ∧ sS h t L g' ∧ i < 30 ∧ bt L i = true ∧ bt L q = true ∧ q < i ∧ hI g' 73 2 = bitI i ||| bitI q ∧ litB h t N p (bitI i ||| bitI q) ∧ ∀ x z, x < 30 → bt L x = true → bt L z = true → z < x → k ≤ fb_ct (bt L) x → (x < i ∨ (x = i ∧ z < q)) → ¬ litB h t N p (bitI x ||| bitI z)) ∨
    (∃ g', f_X8_tryTwos_3 t n (bitI p) (nI N) (nI k) g = some (0, g') ∧ sS h t L g' ∧ ∀ x z, x < 30 → bt L x = true → bt L z = true → z < x → k ≤ fb_ct (bt L) x → ¬ litB h t N p (bitI x ||| bitI z))
  | d, k, 0, _, _, z, _, _ => absurd z (by omega)
  | 0, k, n + 1, g, e, _, k4, M => by
    have N30 := ctN L
    unfold f_X8_tryTwos_3
    rw [M.2.1, if_pos (by rw [nI_leI (by omega) (by omega)]; omega)]
    exact Or.inr ⟨g, rfl, M, fun x z hx b _ _ y => by have := ct_lt b hx; omega⟩
  | d + 1, k, n + 1, g, e, y, k4, M => by
    have N30 := ctN L
    unfold f_X8_tryTwos_3
    rw [M.2.1]
    by_cases kk : k < fb_ct (bt L) 30
    · obtain ⟨i, hi, bi, ei⟩ := kth kk
      rw [if_neg (by rw [nI_leI (by omega) (by omega)]; omega)]
      rcases tt_in ht T hN hp (f_X8_tryTwos_3 t n) hi bi ei k 0 FU g (by omega) (FU_gt (by omega)) M with ⟨g1, q, e1, M1, qi, bq, k1, l1, no⟩ | ⟨g1, e1, M1, no⟩
      · rw [show (0 : Int32) = nI 0 from rfl, e1]
        refine Or.inl ⟨g1, i, q, rfl, M1, hi, bi, bq, qi, k1, l1, fun x z hx bx bz zx y o => ?_⟩
        rcases o with o | ⟨rfl, o⟩
        · have := ct_lt bx o; omega
        · exact no z bz (Nat.zero_le _) o
      · rw [show (0 : Int32) = nI 0 from rfl, e1]
        have own : ∀ z, bt L z = true → k ≤ fb_ct (bt L) z → ¬ k + 1 ≤ fb_ct (bt L) z → z = i := fun z b y y2 => ct_uq b bi (by omega)
        rcases tt_lp ht T hN hp d (k + 1) n g1 (by omega) (by omega) (by omega) M1 with ⟨g2, i2, q2, e2, M2, a1, a2, a3, a4, a5, a6, a7⟩ | ⟨g2, e2, M2, a7⟩
        · refine Or.inl ⟨g2, i2, q2, e2, M2, a1, a2, a3, a4, a5, a6, fun x z hx bx bz zx y o => ?_⟩
          by_cases y2 : k + 1 ≤ fb_ct (bt L) x
          · exact a7 x z hx bx bz zx y2 o
          · have ex := own x bx y y2
            subst ex
            exact no z zx bz (Nat.zero_le _)
        · refine Or.inr ⟨g2, e2, M2, fun x z hx bx bz zx y => ?_⟩
          by_cases y2 : k + 1 ≤ fb_ct (bt L) x
          · exact a7 x z hx bx bz zx y2
          · have ex := own x bx y y2
            subst ex
            exact no z zx bz (Nat.zero_le _)
    · rw [if_pos (by rw [nI_leI (by omega) (by omega)]; omega)]
      exact Or.inr ⟨g, rfl, M, fun x z hx b _ _ y => by have := ct_lt b hx; omega⟩
theorem th_in {h : HP} {t w r m c : Nat} {j : Bool} (ht : t = 79 ∨ t = 96) (T : TW h t w r m c j) {L : Int32} {N p : Nat} (hN : N < 1000000) (hp : p < 32) (K : Int32 → Int32 → Int32 → Int32 → HP → Option (Int32 × HP)) {i k o l : Nat} (hi : i < 30) (bi : bt L i = true) (ei : fb_ct (bt L) i = k) (oi : o < i) (bo : bt L o = true) (eo : fb_ct (bt L) o = l) : ∀ d v n g, v + d = l → d < n → sS h t L g →
    (∃ g' q, f_X8_tryThrees_25 t K n (bitI p) (nI N) (nI k) (nI l) (nI v) g = some (1, g') ∧ sS h t L g' ∧ q < o ∧ bt L q = true ∧ hI g' 73 2 = bitI i ||| bitI o ||| bitI q ∧ litB h t N p (bitI i ||| bitI o ||| bitI q) ∧ ∀ z, bt L z = true → v ≤ fb_ct (bt L) z → z < q → ¬ litB h t N p (bitI i ||| bitI o ||| bitI z)) ∨
    (∃ g', f_X8_tryThrees_25 t K n (bitI p) (nI N) (nI k) (nI l) (nI v) g = K (bitI p) (nI N) (nI k) (nI (l + 1)) g' ∧ sS h t L g' ∧ ∀ z, z < o → bt L z = true → v ≤ fb_ct (bt L) z → ¬ litB h t N p (bitI i ||| bitI o ||| bitI z))
  | d, v, 0, _, _, z, _ => absurd z (by omega)
  | 0, v, n + 1, g, e, _, M => by
    have k30 := fb_ct_le (bt L) o
    have e : v = l := by omega
    subst e
    unfold f_X8_tryThrees_25
    rw [if_pos (by rw [nI_leI (by omega) (by omega)]; omega)]
    simp only [ltv_e, nI_1]
    exact Or.inr ⟨g, rfl, M, fun z zi b y => by have := ct_lt b zi; omega⟩
  | d + 1, v, n + 1, g, e, y, M => by
    have k30 := fb_ct_le (bt L) i
    have kk : k < fb_ct (bt L) 30 := by rw [← ei]; exact ct_lt bi (by omega)
    have lk : l < k := by rw [← ei, ← eo]; exact ct_lt bo oi
    obtain ⟨q, hq, bq, eq⟩ := kth (F := L) (k := v) (by omega)
    have qo : q < o := ct_le' bq (by omega)
    have mi := M.2.2 i hi bi
    have mo := M.2.2 o (by omega) bo
    have mq := M.2.2 q hq bq
    rw [ei] at mi
    rw [eo] at mo
    rw [eq] at mq
    unfold f_X8_tryThrees_25
    rw [if_neg (by rw [nI_leI (by omega) (by omega)]; omega), gdi_nI (by omega) (by decide), gdi_nI (by omega) (by decide), gdi_nI (by omega) (by decide), nI_clamp (by omega), nI_clamp (by omega), nI_clamp (by omega), mi, mo, mq]
    rcases ts_e ht T M hN hp (bitI i ||| bitI o ||| bitI q) with ⟨g1, e1, M1, k1, l1⟩ | ⟨g1, e1, M1, l1⟩
    · rw [e1, bd2_s, if_neg (by decide)]
      exact Or.inl ⟨g1, q, rfl, M1, qo, bq, k1, l1, fun z b y zq => by have := ct_lt b zq; omega⟩
    · rw [e1, bd2_s, if_pos rfl]
      simp only [ltv_e, nI_1]
      have own : ∀ z, bt L z = true → v ≤ fb_ct (bt L) z → ¬ v + 1 ≤ fb_ct (bt L) z → z = q := fun z b y y2 => ct_uq b bq (by omega)
      rcases th_in ht T hN hp K hi bi ei oi bo eo d (v + 1) n g1 (by omega) (by omega) M1 with ⟨g2, q2, e2, M2, a1, a2, a3, a4, a5⟩ | ⟨g2, e2, M2, a5⟩
      · refine Or.inl ⟨g2, q2, e2, M2, a1, a2, a3, a4, fun z b y zq => ?_⟩
        by_cases y2 : v + 1 ≤ fb_ct (bt L) z
        · exact a5 z b y2 zq
        · rw [own z b y y2]; exact l1
      · refine Or.inr ⟨g2, e2, M2, fun z zi b y => ?_⟩
        by_cases y2 : v + 1 ≤ fb_ct (bt L) z
        · exact a5 z zi b y2
        · rw [own z b y y2]; exact l1
theorem th_md {h : HP} {t w r m c : Nat} {j : Bool} (ht : t = 79 ∨ t = 96) (T : TW h t w r m c j) {L : Int32} {N p : Nat} (hN : N < 1000000) (hp : p < 32) (K : Int32 → Int32 → Int32 → HP → Option (Int32 × HP)) {i k : Nat} (hi : i < 30) (bi : bt L i = true) (ei : fb_ct (bt L) i = k) : ∀ d l n g, k ≤ l + d → d < n → l ≤ 40 → sS h t L g →
    (∃ g' o q, f_X8_tryThrees_15 t K n (bitI p) (nI N) (nI k) (nI l) g = some (1, g') ∧ sS h t L g' ∧ o < i ∧ q < o ∧ bt L o = true ∧ bt L q = true ∧ hI g' 73 2 = bitI i ||| bitI o ||| bitI q ∧ litB h t N p (bitI i ||| bitI o ||| bitI q) ∧ ∀ y z, bt L y = true → bt L z = true → y < i → z < y → l ≤ fb_ct (bt L) y → (y < o ∨ (y = o ∧ z < q)) → ¬ litB h t N p (bitI i ||| bitI y ||| bitI z)) ∨
    (∃ g', f_X8_tryThrees_15 t K n (bitI p) (nI N) (nI k) (nI l) g = K (bitI p) (nI N) (nI (k + 1)) g' ∧ sS h t L g' ∧ ∀ y z, bt L y = true → bt L z = true → y < i → z < y → l ≤ fb_ct (bt L) y → ¬ litB h t N p (bitI i ||| bitI y ||| bitI z))
  | d, l, 0, _, _, z, _, _ => absurd z (by omega)
  | 0, l, n + 1, g, e, _, l4, M => by
    have k30 := fb_ct_le (bt L) i
    unfold f_X8_tryThrees_15
    rw [if_pos (by rw [nI_leI (by omega) (by omega)]; omega)]
    simp only [ltv_e, nI_1]
    exact Or.inr ⟨g, rfl, M, fun x z b _ xi _ y => by have := ct_lt b xi; omega⟩
  | d + 1, l, n + 1, g, e, y, l4, M => by
    have k30 := fb_ct_le (bt L) i
    have kk : k < fb_ct (bt L) 30 := by rw [← ei]; exact ct_lt bi (by omega)
    have N30 := ctN L
    unfold f_X8_tryThrees_15
    by_cases lk : l < k
    · obtain ⟨o, ho, bo, eo⟩ := kth (F := L) (k := l) (by omega)
      have oi : o < i := ct_le' bo (by omega)
      rw [if_neg (by rw [nI_leI (by omega) (by omega)]; omega)]
      rcases th_in ht T hN hp (f_X8_tryThrees_15 t K n) hi bi ei oi bo eo l 0 FU g (by omega) (FU_gt (by omega)) M with ⟨g1, q, e1, M1, qo, bq, k1, l1, no⟩ | ⟨g1, e1, M1, no⟩
      · rw [show (0 : Int32) = nI 0 from rfl, e1]
        refine Or.inl ⟨g1, o, q, rfl, M1, oi, qo, bo, bq, k1, l1, fun x z bx bz xi zx y w => ?_⟩
        rcases w with w | ⟨rfl, w⟩
        · have := ct_lt bx w; omega
        · exact no z bz (Nat.zero_le _) w
      · rw [show (0 : Int32) = nI 0 from rfl, e1]
        have own : ∀ z, bt L z = true → l ≤ fb_ct (bt L) z → ¬ l + 1 ≤ fb_ct (bt L) z → z = o := fun z b y y2 => ct_uq b bo (by omega)
        rcases th_md ht T hN hp K hi bi ei d (l + 1) n g1 (by omega) (by omega) (by omega) M1 with ⟨g2, o2, q2, e2, M2, a1, a2, a3, a4, a5, a6, a7⟩ | ⟨g2, e2, M2, a7⟩
        · refine Or.inl ⟨g2, o2, q2, e2, M2, a1, a2, a3, a4, a5, a6, fun x z bx bz xi zx y w => ?_⟩
          by_cases y2 : l + 1 ≤ fb_ct (bt L) x
          · exact a7 x z bx bz xi zx y2 w
          · have ex := own x bx y y2
            subst ex
            exact no z zx bz (Nat.zero_le _)
        · refine Or.inr ⟨g2, e2, M2, fun x z bx bz xi zx y => ?_⟩
          by_cases y2 : l + 1 ≤ fb_ct (bt L) x
          · exact a7 x z bx bz xi zx y2
          · have ex := own x bx y y2
            subst ex
            exact no z zx bz (Nat.zero_le _)
    · rw [if_pos (by rw [nI_leI (by omega) (by omega)]; omega)]
      simp only [ltv_e, nI_1]
      exact Or.inr ⟨g, rfl, M, fun x z b _ xi _ y => by have := ct_lt b xi; omega⟩
theorem th_lp {h : HP} {t w r m c : Nat} {j : Bool} (ht : t = 79 ∨ t = 96) (T : TW h t w r m c j) {L : Int32} {N p : Nat} (hN : N < 1000000) (hp : p < 32) : ∀ d k n g, fb_ct (bt L) 30 ≤ k + d → d < n → k ≤ 40 → sS h t L g →
    (∃ g' i o q, f_X8_tryThrees_3 t n (bitI p) (nI N) (nI k) g = some (1, g') ∧ sS h t L g' ∧ i < 30 ∧ o < i ∧ q < o ∧ bt L i = true ∧ bt L o = true ∧ bt L q = true ∧ hI g' 73 2 = bitI i ||| bitI o ||| bitI q ∧ litB h t N p (bitI i ||| bitI o ||| bitI q) ∧ ∀ x y z, x < 30 → bt L x = true → bt L y = true → bt L z = true → y < x → z < y → k ≤ fb_ct (bt L) x → 1 ≤ fb_ct (bt L) y → (x < i ∨ (x = i ∧ (y < o ∨ (y = o ∧ z < q)))) → ¬ litB h t N p (bitI x ||| bitI y ||| bitI z)) ∨
    (∃ g', f_X8_tryThrees_3 t n (bitI p) (nI N) (nI k) g = some (0, g') ∧ sS h t L g' ∧ ∀ x y z, x < 30 → bt L x = true → bt L y = true → bt L z = true → y < x → z < y → k ≤ fb_ct (bt L) x → 1 ≤ fb_ct (bt L) y → ¬ litB h t N p (bitI x ||| bitI y ||| bitI z))
  | d, k, 0, _, _, z, _, _ => absurd z (by omega)
  | 0, k, n + 1, g, e, _, k4, M => by
    have N30 := ctN L
    unfold f_X8_tryThrees_3
    rw [M.2.1, if_pos (by rw [nI_leI (by omega) (by omega)]; omega)]
    exact Or.inr ⟨g, rfl, M, fun x y z hx b _ _ _ _ y => by have := ct_lt b hx; omega⟩
  | d + 1, k, n + 1, g, e, y, k4, M => by
    have N30 := ctN L
    unfold f_X8_tryThrees_3
    rw [M.2.1]
    by_cases kk : k < fb_ct (bt L) 30
    · obtain ⟨i, hi, bi, ei⟩ := kth kk
      rw [if_neg (by rw [nI_leI (by omega) (by omega)]; omega)]
      rcases th_md ht T hN hp (f_X8_tryThrees_3 t n) hi bi ei k 1 FU g (by omega) (FU_gt (by omega)) (by omega) M with ⟨g1, o, q, e1, M1, oi, qo, bo, bq, k1, l1, no⟩ | ⟨g1, e1, M1, no⟩
      · rw [show (1 : Int32) = nI 1 from rfl, e1]
        refine Or.inl ⟨g1, i, o, q, rfl, M1, hi, oi, qo, bi, bo, bq, k1, l1, fun x y z hx bx bY bz yx zy c1 c2 w => ?_⟩
        rcases w with w | ⟨rfl, w⟩
        · have := ct_lt bx w; omega
        · exact no y z bY bz yx zy c2 w
      · rw [show (1 : Int32) = nI 1 from rfl, e1]
        have own : ∀ z, bt L z = true → k ≤ fb_ct (bt L) z → ¬ k + 1 ≤ fb_ct (bt L) z → z = i := fun z b y y2 => ct_uq b bi (by omega)
        rcases th_lp ht T hN hp d (k + 1) n g1 (by omega) (by omega) (by omega) M1 with ⟨g2, i2, o2, q2, e2, M2, a1, a2, a3, a4, a5, a6, a7, a8, a9⟩ | ⟨g2, e2, M2, a9⟩
        · refine Or.inl ⟨g2, i2, o2, q2, e2, M2, a1, a2, a3, a4, a5, a6, a7, a8, fun x y z hx bx bY bz yx zy c1 c2 w => ?_⟩
          by_cases y2 : k + 1 ≤ fb_ct (bt L) x
          · exact a9 x y z hx bx bY bz yx zy y2 c2 w
          · have ex := own x bx c1 y2
            subst ex
            exact no y z bY bz yx zy c2
        · refine Or.inr ⟨g2, e2, M2, fun x y z hx bx bY bz yx zy c1 c2 => ?_⟩
          by_cases y2 : k + 1 ≤ fb_ct (bt L) x
          · exact a9 x y z hx bx bY bz yx zy y2 c2
          · have ex := own x bx c1 y2
            subst ex
            exact no y z bY bz yx zy c2
    · rw [if_pos (by rw [nI_leI (by omega) (by omega)]; omega)]
      exact Or.inr ⟨g, rfl, M, fun x y z hx b _ _ _ _ y => by have := ct_lt b hx; omega⟩
theorem nr_lp (h : HP) (s : Nat) {N : Nat} (hN : N < 2 ^ 31) : ∀ d k n x, k + d = N → d < n → f_X8_near_5 s n (nI N) x (nI k) h = some (itN (seeF (hI h s)) d x, h)
  | d, k, 0, _, _, z => absurd z (by omega)
  | 0, k, n + 1, x, e, _ => by
    unfold f_X8_near_5
    rw [if_pos (by rw [nI_leI (by omega) (by omega)]; omega)]; rfl
  | d + 1, k, n + 1, x, e, _ => by
    unfold f_X8_near_5
    rw [if_neg (by rw [nI_leI (by omega) (by omega)]; omega), show f_X1_around h s x = some (aroundF (hI h s) x, h) from rfl, bd2_s]
    simp only [ltv_e, nI_1]
    rw [nr_lp h s hN d (k + 1) n _ (by omega) (by omega)]; rfl
theorem nr_e (h : HP) (s : Nat) {N : Nat} (hN : N < 1000000) (x : Int32) : f_X8_near h s x (nI N) = some (itN (seeF (hI h s)) N x, h) := by
  unfold f_X8_near
  rw [show (0 : Int32) = nI 0 from rfl]
  exact nr_lp h s (by omega) N 0 FU x (by omega) (FU_gt hN)
theorem sigC {h : HP} {t w r m c : Nat} {j : Bool} (ht : t = 79 ∨ t = 96) (T : TW h t w r m c j) {N p : Nat} (hN : N < 1000000) (hp : p < w * r) :
    (∃ g' s, f_X8_findSignal h t (bitI p) (nI N) = some (1, g') ∧ Sc t h g' ∧ hI g' 73 2 = s ∧ Bst zc (fun s => fam3 (hI h (t + 1) 5) s ∧ litB h t N p s) s) ∨
    (∃ g', f_X8_findSignal h t (bitI p) (nI N) = some (0, g') ∧ Sc t h g' ∧ ∀ s, fam3 (hI h (t + 1) 5) s → ¬ litB h t N p s) := by
  have h30 := wr_le T.1.n.1.2.1 T.1.n.2.1.2.1
  have p32 : p < 32 := by omega
  obtain ⟨-, -, -, -, -, h6, -⟩ := T.1.n
  have fH : ∀ s, fam3 (hI h (t + 1) 5) s → inH h s := fun s hs i hi b => by
    have := fam3_sub hs i hi b
    rw [(h6 i hi).1, Bool.and_eq_true] at this; exact this.1
  obtain ⟨nb1, nb2⟩ := near_best (F := hI h (t + 1) 5) (N := itN (seeF (hI h (t + 1))) N (bitI p)) (L := litB h t N p) (fun s hs => lit_cut T hp (fH s hs))
  obtain ⟨L, eL⟩ : ∃ L, L = hI h (t + 1) 5 &&& itN (seeF (hI h (t + 1))) N (bitI p) := ⟨_, rfl⟩
  rw [← eL] at nb1 nb2
  have N30 := ctN L
  obtain ⟨g0, e0, s0, c0, l0⟩ := ll_e ht (⟨CS.refl t h, Sm.refl t h⟩ : Sc t h h) L
  have M0 : sS h t L g0 := ⟨s0, c0, l0⟩
  have cy : ∀ {x y}, bt L x = true → x < y → 1 ≤ fb_ct (bt L) y := fun {x y} b xy => by have := ct_lt b xy; omega
  unfold f_X8_findSignal
  rw [nr_e h (t + 1) hN, bd2_s, ← eL, e0, bd1_s]
  rcases ts_e ht T M0 hN p32 0 with ⟨g1, e1, M1, k1, l1⟩ | ⟨g1, e1, M1, l1⟩
  · rw [e1, bd2_s, if_neg (by decide)]
    refine Or.inl ⟨g1, 0, rfl, M1.1, k1, nb1 0 ⟨⟨Or.inl rfl, l1⟩, fun s hs => ?_⟩⟩
    have := fam3_n hs.1
    have z0 : (0 : Int32).toInt = 0 := rfl
    have := pc_0
    unfold lek zc; omega
  · rw [e1, bd2_s, if_pos rfl]
    unfold f_X8_tryOnes
    rw [show f_X8_tryOnes_3 t FU (bitI p) (nI N) 0 g1 = f_X8_tryOnes_3 t FU (bitI p) (nI N) (nI 0) g1 from rfl]
    rcases to_lp ht T hN p32 30 0 FU g1 (by omega) (FU_gt (by omega)) (by omega) M1 with ⟨g2, i, e2, M2, hi, bi, k2, l2, no⟩ | ⟨g2, e2, M2, no1⟩
    · rw [e2, bd2_s, if_neg (by decide)]
      refine Or.inl ⟨g2, bitI i, rfl, M2.1, k2, nb1 _ ⟨⟨Or.inr (Or.inl ⟨i, hi, bi, rfl⟩), l2⟩, fun s hs => ?_⟩⟩
      obtain ⟨hs, ls⟩ := hs
      have a := v1 hi
      rcases hs with rfl | ⟨x, hx, bx, rfl⟩ | ⟨x, y, hx, bx, bY, yx, rfl⟩ | ⟨x, y, z, hx, bx, bY, bz, yx, zy, rfl⟩
      · exact absurd ls l1
      · have b := v1 hx
        have := lq1 hi hx (fun q => no x hx bx (Nat.zero_le _) q ls)
        unfold lek zc; omega
      · have b := v2 hx yx
        unfold lek zc; omega
      · have b := v3 hx yx zy
        unfold lek zc; omega
    · rw [e2, bd2_s, if_pos rfl]
      unfold f_X8_tryTwos
      rw [show f_X8_tryTwos_3 t FU (bitI p) (nI N) 1 g2 = f_X8_tryTwos_3 t FU (bitI p) (nI N) (nI 1) g2 from rfl]
      rcases tt_lp ht T hN p32 30 1 FU g2 (by omega) (FU_gt (by omega)) (by omega) M2 with ⟨g3, i, q, e3, M3, hi, bi, bq, qi, k3, l3, no⟩ | ⟨g3, e3, M3, no2⟩
      · rw [e3, bd2_s, if_neg (by decide)]
        refine Or.inl ⟨g3, bitI i ||| bitI q, rfl, M3.1, k3, nb1 _ ⟨⟨Or.inr (Or.inr (Or.inl ⟨i, q, hi, bi, bq, qi, rfl⟩)), l3⟩, fun s hs => ?_⟩⟩
        obtain ⟨hs, ls⟩ := hs
        have a := v2 hi qi
        rcases hs with rfl | ⟨x, hx, bx, rfl⟩ | ⟨x, y, hx, bx, bY, yx, rfl⟩ | ⟨x, y, z, hx, bx, bY, bz, yx, zy, rfl⟩
        · exact absurd ls l1
        · exact absurd ls (no1 x hx bx (Nat.zero_le _))
        · have b := v2 hx yx
          have := le2 hi hx qi yx (fun o => no x y hx bx bY yx (cy bY yx) o ls)
          unfold lek zc; omega
        · have b := v3 hx yx zy
          unfold lek zc; omega
      · rw [e3, bd2_s, if_pos rfl]
        unfold f_X8_tryThrees
        rw [show f_X8_tryThrees_3 t FU (bitI p) (nI N) 2 g3 = f_X8_tryThrees_3 t FU (bitI p) (nI N) (nI 2) g3 from rfl]
        have cz : ∀ {x y z}, bt L y = true → bt L z = true → z < y → y < x → 2 ≤ fb_ct (bt L) x := fun {x y z} b b2 zy yx => by have := ct_lt b2 zy; have := ct_lt b yx; omega
        rcases th_lp ht T hN p32 30 2 FU g3 (by omega) (FU_gt (by omega)) (by omega) M3 with ⟨g4, i, o, q, e4, M4, hi, oi, qo, bi, bo, bq, k4, l4, no⟩ | ⟨g4, e4, M4, no3⟩
        · rw [e4, bd2_s, if_neg (by decide)]
          refine Or.inl ⟨g4, bitI i ||| bitI o ||| bitI q, rfl, M4.1, k4, nb1 _ ⟨⟨Or.inr (Or.inr (Or.inr ⟨i, o, q, hi, bi, bo, bq, oi, qo, rfl⟩)), l4⟩, fun s hs => ?_⟩⟩
          obtain ⟨hs, ls⟩ := hs
          have a := v3 hi oi qo
          rcases hs with rfl | ⟨x, hx, bx, rfl⟩ | ⟨x, y, hx, bx, bY, yx, rfl⟩ | ⟨x, y, z, hx, bx, bY, bz, yx, zy, rfl⟩
          · exact absurd ls l1
          · exact absurd ls (no1 x hx bx (Nat.zero_le _))
          · exact absurd ls (no2 x y hx bx bY yx (cy bY yx))
          · have b := v3 hx yx zy
            have := le3 hi hx oi qo yx zy (fun w => no x y z hx bx bY bz yx zy (cz bY bz zy yx) (cy bz zy) w ls)
            unfold lek zc; omega
        · rw [e4, bd2_s, if_pos rfl]
          refine Or.inr ⟨g4, rfl, M4.1, nb2 (fun s hs ls => ?_)⟩
          rcases hs with rfl | ⟨x, hx, bx, rfl⟩ | ⟨x, y, hx, bx, bY, yx, rfl⟩ | ⟨x, y, z, hx, bx, bY, bz, yx, zy, rfl⟩
          · exact absurd ls l1
          · exact absurd ls (no1 x hx bx (Nat.zero_le _))
          · exact absurd ls (no2 x y hx bx bY yx (cy bY yx))
          · exact absurd ls (no3 x y z hx bx bY bz yx zy (cz bY bz zy yx) (cy bz zy))
