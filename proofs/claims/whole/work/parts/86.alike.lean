/-! ===== alike: towns copied ===== -/
/-- the town at t' of h' is that at t of h; e: how many entries its year has -/
def TwEq (h h' : HP) (t b nb t' b' nb' e : Nat) : Prop :=
  (∀ j, j < 9 → hI h' (t' + 1) j = hI h (t + 1) j) ∧ (∀ j, 10 ≤ j → j ≤ 15 → hI h' t' j = hI h t j) ∧ (hI h' (t' + 3) 5 = hI h (t + 3) 5 ∧ hI h' (t' + 3) 6 = hI h (t + 3) 6) ∧
  (∀ a p, 1 ≤ a → a ≤ 5 → p < e → hI h' (t' + 3 + a) p = hI h (t + 3 + a) p) ∧ (∀ a i, a = 10 ∨ a = 11 → i < 4 → hI h' (t' + a) i = hI h (t + a) i) ∧ (∀ a i, a = 13 ∨ a = 14 → i < 6 → hI h' (t' + a) i = hI h (t + a) i) ∧ (∀ i, i < 10 → hI h' (t' + 15) i = hI h (t + 15) i) ∧
  (∀ i, i < 4 → hL h' (t' + 9) i = hL h (t + 9) i) ∧ (∀ j, j < 410 → hI h' 114 (b' + j) = hI h 114 (b + j)) ∧ ∀ j, j < 10 → hL h' 115 (nb' + j) = hL h 115 (nb + j)
theorem RtH.mv {h h' : HP} {t b nb t' b' nb' e w r : Nat} (s : TwEq h h' t b nb t' b' nb' e) (q : RtH h t b w r) : RtH h' t' b' w r := by
  obtain ⟨x, x2, -, -, -, -, -, -, x3, -⟩ := s
  have z := x3 0 (by omega)
  simp only [Nat.add_zero] at z
  unfold RtH at q ⊢
  rw [x 0 (by decide), x 1 (by decide), x 2 (by decide), x 3 (by decide), x 4 (by decide), x 5 (by decide), x 6 (by decide), x 7 (by decide), x 8 (by decide), x2 13 (by decide) (by decide), z, x3 1 (by omega), x3 9 (by omega), x3 2 (by omega), x3 3 (by omega), x3 4 (by omega)]
  exact q
theorem RtR.mv {h h' : HP} {t b nb t' b' nb' e m c : Nat} (s : TwEq h h' t b nb t' b' nb' e) (q : RtR h t b nb m c) : RtR h' t' b' nb' m c := by
  obtain ⟨-, x2, -, -, y1, y2, -, l1, x3, x4⟩ := s
  unfold RtR at q ⊢
  obtain ⟨p1, p2, p3, p4, p5, p6, p7⟩ := q
  have hm := p1.1
  have hc := p2.1
  have s12 := fun i (hi : i < m) => x3 (12 + 2 * i) (by omega)
  have s13 := fun i (hi : i < m) => x3 (13 + 2 * i) (by omega)
  have s20 := fun i (hi : i < c) => x3 (20 + 2 * i) (by omega)
  have s21 := fun i (hi : i < c) => x3 (21 + 2 * i) (by omega)
  simp only [← Nat.add_assoc] at s12 s13 s20 s21
  rw [x2 10 (by decide) (by decide), x2 11 (by decide) (by decide), x2 12 (by decide) (by decide), x3 5 (by omega), x3 6 (by omega), x3 10 (by omega)]
  refine ⟨p1, p2, p3, fun i hi => ?_, fun i hi => ?_, fun i hi => ?_, fun i hi => ?_⟩
  · rw [y1 10 i (Or.inl rfl) (by omega), y1 11 i (Or.inr rfl) (by omega), s12 i hi, s13 i hi, l1 i (by omega), x4 i (by omega)]; exact p4 i hi
  · rw [y2 13 i (Or.inl rfl) (by omega), y2 14 i (Or.inr rfl) (by omega), s20 i hi, s21 i hi]; exact p5 i hi
  · rw [s12 i hi, s13 i hi]; exact p6 i hi
  · rw [s20 i hi, s21 i hi]; exact p7 i hi
theorem RtS.mv {h h' : HP} {t b nb t' b' nb' e : Nat} (s : TwEq h h' t b nb t' b' nb' e) (q : RtS h t b) : RtS h' t' b' := by
  obtain ⟨-, x2, -, -, -, -, y, -, x3, -⟩ := s
  unfold RtS at q ⊢
  have s32 := fun i (hi : i < 10) => x3 (32 + i) (by omega)
  simp only [← Nat.add_assoc] at s32
  rw [x2 14 (by decide) (by decide), x2 15 (by decide) (by decide), x3 7 (by omega), x3 8 (by omega)]
  refine ⟨q.1, fun i hi => ?_⟩
  rw [y i hi, s32 i hi]; exact q.2 i hi
theorem RyE.mv {h h' : HP} {y y' b b' w r m e k : Nat} (he : e ≤ 60) (hk : k < e) (s1 : ∀ a p, 1 ≤ a → a ≤ 5 → p < e → hI h' (y' + a) p = hI h (y + a) p) (s3 : ∀ j, j < 410 → hI h' 114 (b' + j) = hI h 114 (b + j)) (q : RyE h y b w r m e k) : RyE h' y' b' w r m e k := by
  have a0 := s3 (44 + 6 * k) (by omega)
  have a1 := s3 (45 + 6 * k) (by omega)
  have a2 := s3 (46 + 6 * k) (by omega)
  have a4 := s3 (48 + 6 * k) (by omega)
  have a5 := s3 (49 + 6 * k) (by omega)
  simp only [← Nat.add_assoc] at a0 a1 a2 a4 a5
  have c1 := s1 1 k (by decide) (by decide) hk
  have c2 := s1 2 k (by decide) (by decide) hk
  have c3 := s1 3 k (by decide) (by decide) hk
  have c4 := s1 4 k (by decide) (by decide) hk
  have c5 := s1 5 k (by decide) (by decide) hk
  unfold RyE at q ⊢
  rw [a0, a1, a2, a4, a5, c1, c2, c3, c4, c5]
  rcases q with q | q | q | q | q | q | ⟨q1, q2, p, p1, p2, p3, p4, p5, p6⟩ | ⟨q1, q2, q3, p, p1, p2, p3, p4, p5, p6⟩ | ⟨q1, q2, p, p1, p3, p4, p5, p6⟩ | q
  · exact Or.inl q
  · exact Or.inr (Or.inl q)
  · exact Or.inr (Or.inr (Or.inl q))
  · exact Or.inr (Or.inr (Or.inr (Or.inl q)))
  · exact Or.inr (Or.inr (Or.inr (Or.inr (Or.inl q))))
  · exact Or.inr (Or.inr (Or.inr (Or.inr (Or.inr (Or.inl q)))))
  · exact Or.inr (Or.inr (Or.inr (Or.inr (Or.inr (Or.inr (Or.inl ⟨q1, q2, p, p1, p2, p3, p4, by rw [s1 1 p (by decide) (by decide) p2]; exact p5, by rw [s1 5 p (by decide) (by decide) p2]; exact p6⟩))))))
  · exact Or.inr (Or.inr (Or.inr (Or.inr (Or.inr (Or.inr (Or.inr (Or.inl ⟨q1, q2, q3, p, p1, p2, p3, p4, by rw [s1 1 p (by decide) (by decide) p2]; exact p5, by rw [s1 5 p (by decide) (by decide) p2]; exact p6⟩)))))))
  · exact Or.inr (Or.inr (Or.inr (Or.inr (Or.inr (Or.inr (Or.inr (Or.inr (Or.inl ⟨q1, q2, p, p1, p3, p4, by rw [s1 1 p (by decide) (by decide) (by omega)]; exact p5, by rw [s1 5 p (by decide) (by decide) (by omega)]; exact p6⟩))))))))
  · exact Or.inr (Or.inr (Or.inr (Or.inr (Or.inr (Or.inr (Or.inr (Or.inr (Or.inr q))))))))
theorem Rt.mv {h h' : HP} {t b nb t' b' nb' e : Nat} (s : TwEq h h' t b nb t' b' nb' e) (he : hI h (t + 3) 6 = nI e) (e60 : e ≤ 60) (q : Rt h t b nb) : Rt h' t' b' nb' := by
  obtain ⟨w, r, m, c, q1, q2, q3, q4⟩ := q
  refine ⟨w, r, m, c, q1.mv s, q2.mv s, q3.mv s, ?_⟩
  obtain ⟨-, -, ⟨y5, y6⟩, y1, -, -, -, -, x3, -⟩ := s
  unfold Ry at q4 ⊢
  rw [y5, y6, x3 11 (by omega)]
  rcases q4 with q | ⟨z1, n, n60, z2, z3, z4, z5⟩
  · exact Or.inl q
  · have : n = e := nI_inj (by omega) (by omega) (z2.symm.trans he)
    subst this
    refine Or.inr ⟨z1, n, n60, z2, z3, fun k hk => (z4 k hk).mv n60 hk y1 x3, ?_⟩
    unfold RyN at z5 ⊢
    intro i j p q h1 h2 h3 h4 a1 a2 a3 a4
    rw [y1 1 i (by decide) (by decide) (by omega)] at a1
    rw [y1 1 j (by decide) (by decide) (by omega)] at a2
    rw [y1 5 i (by decide) (by decide) (by omega)] at a3
    rw [y1 5 j (by decide) (by decide) (by omega)] at a4
    exact z5 i j p q h1 h2 h3 h4 a1 a2 a3 a4
theorem Rt.ent {h : HP} {t b nb : Nat} (q : Rt h t b nb) : ∃ e, e ≤ 60 ∧ hI h (t + 3) 6 = nI e := by
  obtain ⟨w, r, m, c, q1, q2, q3, q4⟩ := q
  rcases q4 with q | ⟨z1, n, n60, z2, -⟩
  · exact ⟨0, by omega, q.2.1⟩
  · exact ⟨n, n60, z2⟩
/-- the class's copy, cell by cell -/
theorem cp_I {h : HP} {t o e : Nat} (ho : ∀ i j, i ≤ 16 → j ≤ 16 → o + i ≠ t + j) {b : Nat} (hb : b < t ∨ t + 16 < b) : hI (townCp h t o e) b = hI h b := by
  unfold townCp yearCp
  simp only [hI_rI, hI_rL]
  rw [if_neg (by omega), if_neg (by omega), if_neg (by omega), if_neg (by omega), if_neg (by omega), if_neg (by omega), if_neg (by omega), if_neg (by omega), if_neg (by omega), if_neg (by omega), if_neg (by omega), if_neg (by omega)]
  rw [if_neg (by omega)]
theorem cp_Y {h : HP} {t o e : Nat} {b : Nat} (hb : t + 1 ≤ b ∧ b ≤ t + 8) : hI (townCp h t o e) b = hI (yearCp (hillCp h t o) (t + 3) (o + 3) e) b := by
  unfold townCp
  rw [hI_rI_n _ _ (by omega), hI_rI_n _ _ (by omega), hI_rI_n _ _ (by omega), hI_rI_n _ _ (by omega), hI_rI_n _ _ (by omega), hI_rI_n _ _ (by omega), hI_rL]
theorem cp_h {h : HP} {t o : Nat} {b : Nat} (hb : b ≠ t + 1) : hI (hillCp h t o) b = hI h b := hI_rI_n _ _ hb
theorem cp_L {h : HP} {t o e : Nat} (b k : Nat) : hL (townCp h t o e) b k = if b = t + 9 then cpy (hL h (o + 9)) (hL h (t + 9)) 4 k else hL h b k := by
  unfold townCp yearCp
  simp only [hL_rI, hL_rL]
  split <;> rfl
theorem cp_eq {h : HP} {t o e b nb b' nb' : Nat} (he : hI h (o + 3) 6 = nI e) (ho : ∀ i j, i ≤ 16 → j ≤ 16 → o + i ≠ t + j) (t4 : 115 < t ∨ t + 16 < 114) (x3 : ∀ j, j < 410 → hI h 114 (b' + j) = hI h 114 (b + j)) (x4 : ∀ j, j < 10 → hL h 115 (nb' + j) = hL h 115 (nb + j)) : TwEq h (townCp h t o e) o b nb t b' nb' e := by
  have oy : ∀ i, i ≤ 16 → o + i ≠ t + 1 := fun i hi => ho i 1 hi (by decide)
  refine ⟨fun j hj => ?_, fun j h1 h2 => ?_, ⟨?_, ?_⟩, fun a p h1 h2 hp => ?_, fun a i ha hi => ?_, fun a i ha hi => ?_, fun i hi => ?_, fun i hi => ?_, fun j hj => ?_, fun j hj => ?_⟩
  · rw [cp_Y (by omega), hI_yearCp (by omega), hI_rI_s, if_pos hj]
  · unfold townCp; rw [hI_rI_s]; unfold townF upd
    rcases (show j = 10 ∨ j = 11 ∨ j = 12 ∨ j = 13 ∨ j = 14 ∨ j = 15 by omega) with rfl | rfl | rfl | rfl | rfl | rfl <;> simp
  · rw [cp_Y (by omega)]; unfold yearCp
    rw [hI_rI_n _ _ (by omega), hI_rI_n _ _ (by omega), hI_rI_n _ _ (by omega), hI_rI_n _ _ (by omega), hI_rI_n _ _ (by omega), hI_rI_s, cp_h (oy 3 (by decide))]
    rfl
  · rw [cp_Y (by omega)]; unfold yearCp
    rw [hI_rI_n _ _ (by omega), hI_rI_n _ _ (by omega), hI_rI_n _ _ (by omega), hI_rI_n _ _ (by omega), hI_rI_n _ _ (by omega), hI_rI_s, he]
    rfl
  · rw [cp_Y (by omega)]; unfold yearCp
    have c := cp_h (h := h) (t := t) (o := o) (b := o + 3 + a) (by have := oy (3 + a) (by omega); omega)
    rcases (show a = 1 ∨ a = 2 ∨ a = 3 ∨ a = 4 ∨ a = 5 by omega) with rfl | rfl | rfl | rfl | rfl
    · rw [hI_rI_n _ _ (by omega), hI_rI_n _ _ (by omega), hI_rI_n _ _ (by omega), hI_rI_n _ _ (by omega), hI_rI_s, c]; unfold cpy; rw [if_pos hp]
    · rw [hI_rI_n _ _ (by omega), hI_rI_n _ _ (by omega), hI_rI_n _ _ (by omega), hI_rI_s, c]; unfold cpy; rw [if_pos hp]
    · rw [hI_rI_n _ _ (by omega), hI_rI_n _ _ (by omega), hI_rI_s, c]; unfold cpy; rw [if_pos hp]
    · rw [hI_rI_n _ _ (by omega), hI_rI_s, c]; unfold cpy; rw [if_pos hp]
    · rw [hI_rI_s, c]; unfold cpy; rw [if_pos hp]
  · unfold townCp
    rcases ha with rfl | rfl
    · rw [hI_rI_n _ _ (by omega), hI_rI_n _ _ (by omega), hI_rI_n _ _ (by omega), hI_rI_n _ _ (by omega), hI_rI_n _ _ (by omega), hI_rI_s]; unfold cpy; rw [if_pos hi]
    · rw [hI_rI_n _ _ (by omega), hI_rI_n _ _ (by omega), hI_rI_n _ _ (by omega), hI_rI_n _ _ (by omega), hI_rI_s]; unfold cpy; rw [if_pos hi]
  · unfold townCp
    rcases ha with rfl | rfl
    · rw [hI_rI_n _ _ (by omega), hI_rI_n _ _ (by omega), hI_rI_n _ _ (by omega), hI_rI_s]; unfold cpy; rw [if_pos hi]
    · rw [hI_rI_n _ _ (by omega), hI_rI_n _ _ (by omega), hI_rI_s]; unfold cpy; rw [if_pos hi]
  · unfold townCp
    rw [hI_rI_n _ _ (by omega), hI_rI_s]; unfold cpy; rw [if_pos hi]
  · rw [cp_L, if_pos rfl]; unfold cpy; rw [if_pos hi]
  · rw [cp_I ho (by omega)]; exact x3 j hj
  · rw [cp_L, if_neg (by omega)]; exact x4 j hj
