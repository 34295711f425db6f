/-! ===== rows till there are no more; names ===== -/
theorem rowsG_e (f k : Nat) (h : HP) (t : Nat) : rowsG (f + 1) k h t = if kA h = 4 ∧ vA h = 2 then (if (rowStep h t k).1 = 0 then (0, (rowStep h t k).2) else rowsG f (k + 1) (rowStep h t k).2 t) else endRows h t := by
  show (if kA h = 4 ∧ vA h = 2 then
      if k = 6 then (0, failF h 6) else
      if (lettersF (advF h) t).1 = 0 then (0, (lettersF (advF h) t).2) else
      if (takeK 3 (lettersF (advF h) t).2 59).1 = 0 then (0, (takeK 3 (lettersF (advF h) t).2 59).2) else
      rowsG f (k + 1) (takeK 3 (lettersF (advF h) t).2 59).2 t
    else endRows h t) = _
  by_cases q : kA h = 4 ∧ vA h = 2
  · rw [if_pos q, if_pos q]
    unfold rowStep
    by_cases q1 : k = 6
    · rw [if_pos q1, if_pos q1]; rfl
    · rw [if_neg q1, if_neg q1]
      by_cases q2 : (lettersF (advF h) t).1 = 0
      · rw [if_pos q2, if_pos q2]; rfl
      · rw [if_neg q2, if_neg q2]
        by_cases q3 : (takeK 3 (lettersF (advF h) t).2 59).1 = 0
        · rw [if_pos q3, if_pos q3]; rfl
        · rw [if_neg q3, if_neg q3]; rfl
  · rw [if_neg q, if_neg q]
theorem t51_0 (b : HP) : f_X12_town_51 0 b = f_X12_town_91 b := by
  unfold f_X12_town_51
  rw [if_pos rfl]
  show f_X12_town_72 (999999 + 1) 0 b = _
  unfold f_X12_town_72
  rw [if_pos rfl]
theorem t72_0 {f : Nat} (hf : 0 < f) (b : HP) : f_X12_town_72 f 0 b = f_X12_town_91 b := by
  obtain ⟨g, rfl⟩ : ∃ g, f = g + 1 := ⟨f - 1, by omega⟩
  unfold f_X12_town_72
  rw [if_pos rfl]
theorem t29_0 {f : Nat} (hf : 0 < f) (b : HP) : f_X12_town_29 f 0 b = f_X12_town_91 b := by
  obtain ⟨g, rfl⟩ : ∃ g, f = g + 1 := ⟨f - 1, by omega⟩
  unfold f_X12_town_29
  rw [if_pos rfl, t51_0]
theorem rows_is {T : Nat → Int32} {L n : Nat} {u w : Nat} (hu : u = 79 ∨ u = 96) : ∀ f r F a b, r + f = 7 → f + 1 < F → RD T L n a b → TSt a b u w r 0 0 → ∃ b', f_X12_town_29 F 1 b = (if (rowsG f r a u).1 = 0 then f_X12_town_91 b' else f_X12_town_72 FU 1 b') ∧ FW b b' ∧ CW u a (rowsG f r a u).2 ∧ (((rowsG f r a u).1 = 0 ∧ FT (rowsG f r a u).2 b') ∨ ((rowsG f r a u).1 = 1 ∧ RD T L n (rowsG f r a u).2 b' ∧ ∃ r', 1 ≤ r' ∧ TSt (rowsG f r a u).2 b' u w r' 0 0))
  | f, r, 0, a, b, _, hF, _, _ => absurd hF (by omega)
  | 0, r, F + 1, a, b, h7, hF, k, S => absurd S.1.2.1.1 (by omega)
  | f + 1, r, F + 1, a, b, h7, hF, k, S => by
    rw [rowsG_e]
    unfold f_X12_town_29
    rw [if_neg (show ¬ (1 : Int32) = 0 by decide)]
    obtain ⟨rr, e1, e2, _⟩ := k.isW
    have q : (kA a = 4 ∧ vA a = 2) ↔ rr = 1 := e2 2 (by decide)
    rw [e1, bd2_s]
    by_cases z : kA a = 4 ∧ vA a = 2
    · rw [if_pos (q.mp z), if_pos z]
      obtain ⟨b1, g1, g2, g3, g4⟩ := aRow_is hu k S
      rw [g1, bd2_s]
      rcases g4 with ⟨p1, p2⟩ | ⟨p1, p2, p3⟩
      · rw [p1, if_pos rfl, t29_0 (by omega)]
        exact ⟨b1, (if_pos rfl).symm, g2, g3, Or.inl ⟨rfl, p2⟩⟩
      · rw [p1, if_neg (show ¬ (1 : Int32) = 0 by decide)]
        obtain ⟨b2, m1, m2, m3, m4⟩ := rows_is hu f (r + 1) F (rowStep a u r).2 b1 (by omega) (by omega) p2 p3
        exact ⟨b2, m1, g2.trans m2, g3.trans m3, m4⟩
    · rw [if_neg (fun y => z (q.mpr y)), if_neg z]
      unfold f_X12_town_51 endRows
      rw [if_neg (show ¬ (1 : Int32) = 0 by decide)]
      have er := S.1.2.1
      rw [er.2.1, er.2.2]
      by_cases h0 : r = 0
      · subst h0
        rw [if_pos (show nI 0 = 0 from rfl), if_neg (show ¬ (0 : Int32) < nI 0 by decide)]
        obtain ⟨b', g1, g2, g3⟩ := k.fail (w := 2) (by decide) (by decide)
        rw [show f_X12_fails b 2 = some (0, b') from g1, bd2_s, t72_0 (FU_gt (by decide))]
        exact ⟨b', (if_pos rfl).symm, g2.W, CW.fr (failF_fr a 2), Or.inl ⟨rfl, g3⟩⟩
      · rw [if_neg (show ¬ nI r = 0 from fun y => h0 (nI_inj (b := 0) (by omega) (by omega) y)), if_pos (show (0 : Int32) < nI r from (nI_ltI (a := 0) (by omega) (by omega)).mpr (by omega))]
        exact ⟨b, (if_neg (show ¬ (1 : Int32) = 0 by decide)).symm, FW.refl b, CW.refl u a, Or.inr ⟨rfl, k, r, by omega, S⟩⟩
theorem fndN_no {f : Nat → Int64} {x : Int64} : ∀ n k, (fndN f x n k = -1 ↔ ∀ i, k ≤ i → i < k + n → f i ≠ x) ∨ 2 ^ 31 ≤ k + n
  | 0, k => Or.inl ⟨fun _ i h1 h2 => absurd h2 (by omega), fun _ => rfl⟩
  | n + 1, k => by
    by_cases hb : 2 ^ 31 ≤ k + (n + 1)
    · exact Or.inr hb
    · left
      unfold fndN
      by_cases q : f k = x
      · rw [if_pos q]
        refine ⟨fun z => absurd (congrArg Int32.toInt z) ?_, fun z => absurd q (z k (Nat.le_refl _) (by omega))⟩
        rw [nI_toInt (by omega)]; intro y; have : ((-1 : Int32).toInt) = -1 := rfl; omega
      · rw [if_neg q]
        rcases fndN_no (f := f) (x := x) n (k + 1) with h | h
        · rw [h]
          refine ⟨fun z i h1 h2 => ?_, fun z i h1 h2 => z i (by omega) (by omega)⟩
          by_cases y : i = k
          · rw [y]; exact q
          · exact z i (by omega) (by omega)
        · omega
theorem fndN_eq {f g : Nat → Int64} {x y : Int64} : ∀ n k, (∀ i, k ≤ i → i < k + n → (f i = x ↔ g i = y)) → fndN f x n k = fndN g y n k
  | 0, _, _ => rfl
  | n + 1, k, h => by
    unfold fndN
    have q := h k (Nat.le_refl _) (by omega)
    rw [fndN_eq n (k + 1) (fun i h1 h2 => h i (by omega) (by omega))]
    by_cases z : f k = x
    · rw [if_pos z, if_pos (q.mp z)]
    · rw [if_neg z, if_neg (fun y => z (q.mpr y))]
theorem find_is {b : HP} {X : Int64} (hn : f_X12_nameHere b = some (X, b)) {p m : Nat} (hm : p + m ≤ 60) : ∀ d k f, k + d = m → d < f → f_X12_findHere_2 f (nI p) (nI m) (nI k) b = some (fndN (fun i => hL b 115 (p + i)) X d k, b)
  | d, k, 0, _, hf => absurd hf (by omega)
  | 0, k, f + 1, hd, hf => by
    unfold f_X12_findHere_2
    rw [show k = m by omega, if_pos (Int32.le_refl _)]; rfl
  | d + 1, k, f + 1, hd, hf => by
    unfold f_X12_findHere_2
    rw [if_neg (show ¬ nI m ≤ nI k from fun z => by have := (nI_leI (by omega) (by omega)).mp z; omega), nI_add, gdi_nI (by omega) (by decide), hn, bd2_s, nI_clamp (by omega), nI_1, ltv_e, find_is hn hm d (k + 1) f (by omega) (by omega)]
    have e : fndN (fun i => hL b 115 (p + i)) X (d + 1) k = if hL b 115 (p + k) = X then nI k else fndN (fun i => hL b 115 (p + i)) X d (k + 1) := rfl
    rw [e]
    have q : lg_cmp (hL b 115 (p + k)) X = 0 ↔ hL b 115 (p + k) = X := by rw [lg_cmp_eq]
    by_cases z : hL b 115 (p + k) = X
    · rw [if_pos (q.mpr z), if_pos z]
    · rw [if_neg (fun y => z (q.mp y)), if_neg z]
theorem find_all {b : HP} {X : Int64} (hn : f_X12_nameHere b = some (X, b)) {p m : Nat} (hm : p + m ≤ 60) : f_X12_findHere b (nI p) (nI m) = some (fndN (fun i => hL b 115 (p + i)) X m 0, b) := find_is hn hm m 0 FU (by omega) (FU_gt (by omega))
/-- is a new name there -/
theorem RD.name {T : Nat → Int32} {L n : Nat} {a b : HP} (k : RD T L n a b) : (isNm a ∧ f_X12_isName b = some (1, b) ∧ ∃ X, f_X12_nameHere b = some (X, b) ∧ NmR (hL a 12 (tA a)) X) ∨ (¬ isNm a ∧ f_X12_isName b = some (0, b)) := by
  obtain ⟨r, e1, _, _, e4⟩ := k.isW
  obtain ⟨⟨i, k1⟩, _⟩ := k
  have tx := k1.2.1
  have hL := tx.1
  unfold f_X12_isName isNm
  rcases k1.c with ⟨c1, c2⟩ | ⟨c1, c2, c3, c4, c5, c6, c7, c8, c9, c10⟩ | ⟨v, hv, c1, c2, c3, c4⟩ | ⟨v, _, c1, c2, c3, c4⟩ | ⟨c1, c2⟩
  · right; rw [c2, if_neg (by decide)]; exact ⟨fun z => absurd (c1.symm.trans z.1) (by decide), rfl⟩
  · have ll := lenT_le (T := T) c1
    have lp := lenT_pos (T := T) c1
    have W := WD_of (L := L) c2
    rw [if_pos c4, c7, c6, nI_sub (by omega), Nat.add_sub_cancel_left]
    have e8 : (8 : Int32) < nI (lenT T L (plcT T L i)) ↔ 8 < lenT T L (plcT T L i) := nI_ltI (a := 8) (by omega) (by omega)
    have e8' : nI (lenT T L (plcT T L i)) ≤ 8 ↔ lenT T L (plcT T L i) ≤ 8 := nI_leI (b := 8) (by omega) (by omega)
    by_cases h8 : 8 < lenT T L (plcT T L i)
    · right
      rw [if_pos (e8.mpr h8)]
      refine ⟨fun z => ?_, rfl⟩
      have z2 := z.2.2
      rw [c10] at z2
      have := e8'.mp z2; omega
    · rw [if_neg (fun z => h8 (e8.mp z)), e1, bd2_s]
      by_cases hr : r = -1
      · left
        rw [if_pos hr]
        refine ⟨⟨c3, (e4 c3).mpr hr, by rw [c10]; exact e8'.mpr (by omega)⟩, rfl, _, nameHere_is tx k1.2.2.2.1 c6 c7 ll W, ?_⟩
        rw [c8, codN_is _ W, if_pos (by omega)]
        exact ⟨ltr T (plcT T L i) (lenT T L (plcT T L i)), by rw [ltr_len]; omega, by rw [ltr_len]; omega, ltr_lo _ W, rfl, rfl⟩
      · right
        rw [if_neg hr]
        exact ⟨fun z => hr ((e4 c3).mp z.2.1), rfl⟩
  · right; rw [c2, if_neg (by decide)]; exact ⟨fun z => absurd (c1.symm.trans z.1) (by decide), rfl⟩
  · right; rw [c2, if_neg (by decide)]; exact ⟨fun z => absurd (c1.symm.trans z.1) (by decide), rfl⟩
  · right; rw [c2, if_neg (by decide)]; exact ⟨fun z => absurd (c1.symm.trans z.1) (by decide), rfl⟩
/-- a new name: by kind, of the q-th count -/
theorem newOne_is {T : Nat → Int32} {L n : Nat} {a b : HP} {u w r m c : Nat} (hu : u = 79 ∨ u = 96) (k : RD T L n a b) (S : TSt a b u w r m c) {q lim off x C : Nat} (hq : q = 5 ∨ q = 6) (hx : hI b 114 (1640 + q) = nI x) (hxl : x ≤ lim) (hl : lim ≤ 6) (hof : off ≤ 4) (hC : C = u + 9 ∨ C = u + 12) :
    (x = lim ∧ ∃ b', f_X12_newOne b (nI q) (nI lim) (nI off) = some (0, b') ∧ FB b b' ∧ FT (failF a 6) b') ∨
    (x ≠ lim ∧ (newNameF (advF a) u).1 = 0 ∧ ∃ b', f_X12_newOne b (nI q) (nI lim) (nI off) = some (0, b') ∧ FB b b' ∧ FT (newNameF (advF a) u).2 b') ∨
    (x ≠ lim ∧ newNameF (advF a) u = (1, advF a) ∧ ∃ b1 X b', f_X12_newOne b (nI q) (nI lim) (nI off) = some (1, b') ∧ FB b b1 ∧ NmR (hL (advF a) 12 (tA (advF a))) X ∧ FB (uL b1 115 (40 + off + x) X) b' ∧ RD T L n (advF (uL (advF a) C x (hL (advF a) 12 (tA (advF a))))) b') := by
  unfold f_X12_newOne
  rw [show (1640 : Int32) + nI q = nI (1640 + q) from nI_add 1640 q, gdi_nI (by omega) (by decide), nI_clamp (by omega), hx]
  by_cases hxe : x = lim
  · left
    refine ⟨hxe, ?_⟩
    obtain ⟨b', e1, e2, e3⟩ := k.fail (w := 6) (by decide) (by decide)
    rw [if_pos (by rw [hxe]), show f_X12_fails b 6 = some (0, b') from e1, bd2_s, gdv_t (Or.inl rfl)]
    exact ⟨b', rfl, e2, e3⟩
  · right
    rw [if_neg (fun z => hxe (nI_inj (by omega) (by omega) z))]
    obtain ⟨b1, e1, F1, k1⟩ := k.adv
    rw [e1, bd1_s]
    have S1 : TSt (advF a) b1 u w r m c := S.keep hu (advF_fr a) F1
    have hx1 : hI b1 114 (1640 + q) = nI x := by rw [F1.I (by decide)]; exact hx
    generalize advF a = a1 at k1 S1 ⊢
    have bad : ∀ e, e = 2 ∨ e = 3 → ∃ b', f_X12_fails b1 (nI e) = some (0, b') ∧ FB b1 b' ∧ FT (failF a1 (nI e)) b' := fun e he => k1.fail (by omega) (by omega)
    unfold newNameF
    rcases k1.name with ⟨n1, n2, X, n3, n4⟩ | ⟨n1, n2⟩
    · rw [n2, bd2_s, if_neg (show ¬ (1 : Int32) = 0 by decide), if_pos n1]
      obtain ⟨P1, P2, _, P4, P5, _⟩ := S1.2.1
      have fr := find_all n3 (p := 40) (m := m) (by omega)
      have fc := find_all n3 (p := 44) (m := c) (by omega)
      rw [P1.2.1, show f_X12_findHere b1 40 (nI m) = _ from fr, bd2_s]
      have tm : tM a1 u = m := by unfold tM; rw [P1.2.2, nI_clamp (by omega)]
      have tc : tC a1 u = c := by unfold tC; rw [P2.2.2, nI_clamp (by omega)]
      have qr : fndN (fun i => hL b1 115 (40 + i)) X m 0 = -1 ↔ ∀ i, 0 ≤ i → i < 0 + m → hL b1 115 (40 + i) ≠ X := (fndN_no m 0).resolve_right (by omega)
      have qc : fndN (fun i => hL b1 115 (44 + i)) X c 0 = -1 ↔ ∀ i, 0 ≤ i → i < 0 + c → hL b1 115 (44 + i) ≠ X := (fndN_no c 0).resolve_right (by omega)
      by_cases t : nmTaken a1 u (hL a1 12 (tA a1))
      · left
        rw [if_pos t]
        refine ⟨hxe, rfl, ?_⟩
        obtain ⟨b', g1, g2, g3⟩ := bad 3 (Or.inr rfl)
        by_cases z : fndN (fun i => hL b1 115 (40 + i)) X m 0 = -1
        · rw [if_pos z, P2.2.1, show f_X12_findHere b1 44 (nI c) = _ from fc, bd2_s]
          have zc : ¬ fndN (fun i => hL b1 115 (44 + i)) X c 0 = -1 := fun y => by
            rcases t with ⟨j, hj, ej⟩ | ⟨j, hj, ej⟩
            · rw [tc] at hj
              exact qc.mp y j (Nat.zero_le _) (by omega) (((P5 j hj).2.2.eq n4).mp ej)
            · rw [tm] at hj
              exact qr.mp z j (Nat.zero_le _) (by omega) (((P4 j hj).2.2.eq n4).mp ej)
          rw [if_neg zc, show f_X12_fails b1 3 = some (0, b') from g1, bd2_s, gdv_t (Or.inl rfl)]
          exact ⟨b', rfl, F1.trans g2, g3⟩
        · rw [if_neg z, show f_X12_fails b1 3 = some (0, b') from g1, bd2_s, gdv_t (Or.inl rfl)]
          exact ⟨b', rfl, F1.trans g2, g3⟩
      · right
        rw [if_neg t]
        refine ⟨hxe, rfl, ?_⟩
        have z : fndN (fun i => hL b1 115 (40 + i)) X m 0 = -1 := qr.mpr (fun i _ hi y => t (Or.inr ⟨i, by rw [tm]; omega, ((P4 i (by omega)).2.2.eq n4).mpr y⟩))
        have zc : fndN (fun i => hL b1 115 (44 + i)) X c 0 = -1 := qc.mpr (fun i _ hi y => t (Or.inl ⟨i, by rw [tc]; omega, ((P5 i (by omega)).2.2.eq n4).mpr y⟩))
        rw [if_pos z, P2.2.1, show f_X12_findHere b1 44 (nI c) = _ from fc, bd2_s, if_pos zc, gdi_nI (by omega) (by decide), n3, bd2_s, hx1, show (40 : Int32) + nI off = nI (40 + off) from nI_add 40 off, nI_add, gdi_nI (by omega) (by decide), nI_clamp (by omega), ltv_e]
        have k2 : RD T L n (uL a1 C x (hL a1 12 (tA a1))) (uL b1 115 (40 + off + x) X) := k1.keep rfl (fun _ _ => rfl) (funext fun j => hL_uL_n (by omega)) rfl rfl
        obtain ⟨b', g1, g2, g3⟩ := k2.adv
        rw [g1, bd1_s]
        exact ⟨b1, X, b', rfl, F1, n4, g2, g3⟩
    · left
      rw [n2, bd2_s, if_pos rfl, if_neg n1]
      obtain ⟨b', g1, g2, g3⟩ := bad 2 (Or.inl rfl)
      rw [show f_X12_fails b1 2 = some (0, b') from g1, bd2_s, gdv_t (Or.inl rfl)]
      exact ⟨hxe, rfl, b', rfl, F1.trans g2, g3⟩
