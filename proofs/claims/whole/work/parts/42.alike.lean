/-! ===== what matters stays: heaps alike but in their scratch ===== -/
def relI (t a j : Nat) : Prop := (a = 0 ∧ (j = 10 ∨ j = 14)) ∨ a = 3 ∨ a = 4 ∨ (a = 5 ∧ (j = 7 ∨ j = 12 ∨ j = 13)) ∨ a = 6 ∨ (a = 75 ∧ 3 ≤ j) ∨ (inT t a j ∨ inT 14 a j ∨ inT 31 a j ∨ inT 48 a j) ∨ (a = 113 ∧ (j = 10 ∨ j = 16 ∨ j = 17 ∨ j = 37 ∨ j = 38)) ∨ (a = 114 ∧ j < 1640) ∨ a = 116 ∨ a = 117 ∨ a = 119 ∨ a = 129
def relL (t a j : Nat) : Prop := (a = 0 ∧ (j = 12 ∨ j = 13)) ∨ (a = 113 ∧ (j = 3 ∨ j = 4)) ∨ a = 2 ∨ a = 7 ∨ a = 118 ∨ (a = 115 ∧ j < 40) ∨ inTL t a ∨ inTL 14 a ∨ inTL 31 a ∨ inTL 48 a
def Sm (t : Nat) (h h' : HP) : Prop := SR h h' ∧ (∀ a j, relI t a j → hI h' a j = hI h a j) ∧ ∀ a j, relL t a j → hL h' a j = hL h a j
theorem Sm.refl (t : Nat) (h : HP) : Sm t h h := ⟨SR.refl h, fun _ _ _ => rfl, fun _ _ _ => rfl⟩
theorem Sm.trans {t : Nat} {h g k : HP} (a : Sm t h g) (b : Sm t g k) : Sm t h k := ⟨a.1.trans b.1, fun x j q => (b.2.1 x j q).trans (a.2.1 x j q), fun x j q => (b.2.2 x j q).trans (a.2.2 x j q)⟩
theorem Sm.I {t : Nat} {h g : HP} (s : Sm t h g) (a j : Nat) (x : Int32) (hn : ¬ relI t a j) : Sm t h (uI g a j x) :=
  ⟨s.1.I a j x, fun b k q => by rw [hI_uI, if_neg (fun e => hn (by rw [← e.1, ← e.2]; exact q))]; exact s.2.1 b k q, fun b k q => by rw [hL_uI]; exact s.2.2 b k q⟩
theorem Sm.L {t : Nat} {h g : HP} (s : Sm t h g) (a j : Nat) (x : Int64) (hn : ¬ relL t a j) : Sm t h (uL g a j x) :=
  ⟨s.1.L a j x, fun b k q => by rw [hI_uL]; exact s.2.1 b k q, fun b k q => by rw [hL_uL, if_neg (fun e => hn (by rw [← e.1, ← e.2]; exact q))]; exact s.2.2 b k q⟩
theorem Sm.rI {t : Nat} {h g : HP} (s : Sm t h g) (a : Nat) (f : Nat → Int32) (hn : ∀ j, relI t a j → f j = hI g a j) : Sm t h (rI g a f) :=
  ⟨⟨s.1.1, s.1.2⟩, fun b k q => by
    by_cases hb : b = a
    · subst hb; rw [hI_rI_s, hn k q]; exact s.2.1 b k q
    · rw [hI_rI_n _ _ hb]; exact s.2.1 b k q, fun b k q => s.2.2 b k q⟩
theorem Sm.rL {t : Nat} {h g : HP} (s : Sm t h g) (a : Nat) (f : Nat → Int64) (hn : ∀ j, relL t a j → f j = hL g a j) : Sm t h (rL g a f) :=
  ⟨⟨s.1.1, s.1.2⟩, fun b k q => s.2.1 b k q, fun b k q => by
    by_cases hb : b = a
    · subst hb; rw [hL_rL_s, hn k q]; exact s.2.2 b k q
    · rw [hL_rL_n _ _ hb]; exact s.2.2 b k q⟩
theorem Sm.toT {t : Nat} {h h' : HP} (s : Sm t h h') : SmT h h' t 0 0 :=
  ⟨fun a j q => s.2.1 a j (by unfold relI; exact Or.inr (Or.inr (Or.inr (Or.inr (Or.inr (Or.inr (Or.inl (Or.inl q)))))))), fun a q => funext fun j => s.2.2 a j (by unfold relL; exact Or.inr (Or.inr (Or.inr (Or.inr (Or.inr (Or.inr (Or.inl q))))))),
    fun j h1 h2 => s.2.1 114 j (by unfold relI; omega), fun j h1 h2 => s.2.2 115 j (by unfold relL; omega)⟩
theorem Sm.toM {t : Nat} {h h' : HP} (s : Sm t h h') {i : Nat} (hi : i < 3) : SmT h h' (14 + 17 * i) (410 * (i + 1)) (10 * (i + 1)) :=
  ⟨fun a j q => s.2.1 a j (by unfold relI; refine Or.inr (Or.inr (Or.inr (Or.inr (Or.inr (Or.inr (Or.inl (Or.inr ?_))))))); rcases (show i = 0 ∨ i = 1 ∨ i = 2 by omega) with rfl | rfl | rfl; exact Or.inl q; exact Or.inr (Or.inl q); exact Or.inr (Or.inr q)),
    fun a q => funext fun j => s.2.2 a j (by unfold relL; refine Or.inr (Or.inr (Or.inr (Or.inr (Or.inr (Or.inr (Or.inr ?_)))))); rcases (show i = 0 ∨ i = 1 ∨ i = 2 by omega) with rfl | rfl | rfl; exact Or.inl q; exact Or.inr (Or.inl q); exact Or.inr (Or.inr q)),
    fun j h1 h2 => s.2.1 114 j (by unfold relI; omega), fun j h1 h2 => s.2.2 115 j (by unfold relL; omega)⟩
theorem Inv.sm {h h' : HP} {t u : Nat} (I : Inv h t u) (s : Sm t h h') (e : hI h' 0 11 = hI h' 113 2) : Inv h' t u := by
  obtain ⟨⟨i1, i2, i3, i4, i5⟩, i6, i7, i8, i9, i10, i11, i12⟩ := I
  have sI := s.2.1
  have sL := s.2.2
  refine ⟨⟨s.1.ly i1, fun k hk => by rw [s.1.2]; exact i2 k hk, i3, s.1.pr i4, s.1.pr i5⟩, ⟨e, ?_, ?_⟩, ?_, ?_, ?_, ?_, i11.same s.toT, ?_⟩
  · rw [sL 0 12 (by unfold relL; omega), sL 113 3 (by unfold relL; omega)]; exact i6.2.1
  · rw [sL 0 13 (by unfold relL; omega), sL 113 4 (by unfold relL; omega)]; exact i6.2.2
  · refine ⟨fun k hk => ?_, fun j hj => ?_⟩
    · rw [sI 3 k (by unfold relI; omega), sI 4 k (by unfold relI; omega), sI 116 k (by unfold relI; omega), sI 117 k (by unfold relI; omega)]; exact i7.1 k hk
    · rw [sL 2 j (by unfold relL; omega), sL 118 j (by unfold relL; omega)]; exact i7.2 j hj
  · unfold Rtk
    rw [sI 5 7 (by unfold relI; omega), sI 113 10 (by unfold relI; omega), sI 5 12 (by unfold relI; omega), sI 5 13 (by unfold relI; omega), sI 113 16 (by unfold relI; omega), sI 113 17 (by unfold relI; omega)]
    obtain ⟨⟨f, f1, f2, f3, f4⟩, f5⟩ := i8
    refine ⟨⟨f, f1, f2, f3, fun k hk => ?_⟩, f5⟩
    rw [sI 6 k (by unfold relI; omega), sI 119 k (by unfold relI; omega)]; exact f4 k hk
  · unfold Rlv
    rw [sI 0 14 (by unfold relI; omega), sI 113 37 (by unfold relI; omega), sI 75 3 (by unfold relI; omega), sI 75 4 (by unfold relI; omega), sI 75 5 (by unfold relI; omega), sI 75 6 (by unfold relI; omega), sI 75 7 (by unfold relI; omega), sI 129 0 (by unfold relI; omega), sI 129 1 (by unfold relI; omega), sI 129 2 (by unfold relI; omega), sI 129 3 (by unfold relI; omega), sI 129 4 (by unfold relI; omega)]
    exact i9
  · intro k hk; rw [sL 7 k (by unfold relL; omega)]; exact i10 k hk
  · unfold Rmk
    rw [sI 0 10 (by unfold relI; omega), sI 113 38 (by unfold relI; omega)]
    obtain ⟨n, n1, n2, n3, n4⟩ := i12
    exact ⟨n, n1, n2, n3, fun i hi => (n4 i hi).same (s.toM (by omega))⟩
theorem Inv.t {h : HP} {t u : Nat} (I : Inv h t u) : t = 79 ∨ t = 96 := by rcases I.1.2.2.1.2.2 with ⟨a, -⟩ | ⟨a, -⟩; exact Or.inl a; exact Or.inr a
/-- class and reference answer alike, and what lies between them stays -/
def Op (t u : Nat) (f1 : Option (Int32 × HP)) (f2 : HP → Option (Int32 × HP)) : Prop := ∃ r h1 h2, f1 = some (r, h1) ∧ f2 h1 = some (r, h2) ∧ Inv h2 t u
def OpL (t u : Nat) (f1 : Option (Int64 × HP)) (f2 : HP → Option (Int64 × HP)) : Prop := ∃ r h1 h2, f1 = some (r, h1) ∧ f2 h1 = some (r, h2) ∧ Inv h2 t u
/-- status alone is told anew -/
theorem Inv.st {h : HP} {t u : Nat} (I : Inv h t u) (v : Int32) : Inv (uI (uI h 0 11 v) 113 2 v) t u := by
  have ht := I.t
  refine I.sm (((Sm.refl t h).I _ _ _ (by unfold relI inT; omega)).I _ _ _ (by unfold relI inT; omega)) ?_
  rw [hI_uI, hI_uI, hI_uI, if_neg (by omega), if_pos ⟨rfl, rfl⟩, if_pos ⟨rfl, rfl⟩]
/-- all that matters outside the present town -/
def relO (t a j : Nat) : Prop := (a = 0 ∧ (j = 10 ∨ j = 14)) ∨ a = 3 ∨ a = 4 ∨ (a = 5 ∧ (j = 7 ∨ j = 12 ∨ j = 13)) ∨ a = 6 ∨ (a = 75 ∧ 3 ≤ j) ∨ (inT 14 a j ∨ inT 31 a j ∨ inT 48 a j) ∨ (a = 113 ∧ (j = 10 ∨ j = 16 ∨ j = 17 ∨ j = 37 ∨ j = 38)) ∨ (a = 114 ∧ 410 ≤ j ∧ j < 1640) ∨ a = 116 ∨ a = 117 ∨ a = 119 ∨ a = 129
def relOL (t a j : Nat) : Prop := (a = 0 ∧ (j = 12 ∨ j = 13)) ∨ (a = 113 ∧ (j = 3 ∨ j = 4)) ∨ a = 2 ∨ a = 7 ∨ a = 118 ∨ (a = 115 ∧ 10 ≤ j ∧ j < 40) ∨ inTL 14 a ∨ inTL 31 a ∨ inTL 48 a
def SmO (t : Nat) (h h' : HP) : Prop := SR h h' ∧ (∀ a j, relO t a j → hI h' a j = hI h a j) ∧ ∀ a j, relOL t a j → hL h' a j = hL h a j
theorem SmO.refl (t : Nat) (h : HP) : SmO t h h := ⟨SR.refl h, fun _ _ _ => rfl, fun _ _ _ => rfl⟩
theorem SmO.trans {t : Nat} {h g k : HP} (a : SmO t h g) (b : SmO t g k) : SmO t h k := ⟨a.1.trans b.1, fun x j q => (b.2.1 x j q).trans (a.2.1 x j q), fun x j q => (b.2.2 x j q).trans (a.2.2 x j q)⟩
theorem SmO.I {t : Nat} {h g : HP} (s : SmO t h g) (a j : Nat) (x : Int32) (hn : ¬ relO t a j) : SmO t h (uI g a j x) :=
  ⟨s.1.I a j x, fun b k q => by rw [hI_uI, if_neg (fun e => hn (by rw [← e.1, ← e.2]; exact q))]; exact s.2.1 b k q, fun b k q => by rw [hL_uI]; exact s.2.2 b k q⟩
theorem SmO.L {t : Nat} {h g : HP} (s : SmO t h g) (a j : Nat) (x : Int64) (hn : ¬ relOL t a j) : SmO t h (uL g a j x) :=
  ⟨s.1.L a j x, fun b k q => by rw [hI_uL]; exact s.2.1 b k q, fun b k q => by rw [hL_uL, if_neg (fun e => hn (by rw [← e.1, ← e.2]; exact q))]; exact s.2.2 b k q⟩
theorem SmO.rI {t : Nat} {h g : HP} (s : SmO t h g) (a : Nat) (f : Nat → Int32) (hn : ∀ j, relO t a j → f j = hI g a j) : SmO t h (rI g a f) :=
  ⟨⟨s.1.1, s.1.2⟩, fun b k q => by
    by_cases hb : b = a
    · subst hb; rw [hI_rI_s, hn k q]; exact s.2.1 b k q
    · rw [hI_rI_n _ _ hb]; exact s.2.1 b k q, fun b k q => s.2.2 b k q⟩
theorem SmO.rL {t : Nat} {h g : HP} (s : SmO t h g) (a : Nat) (f : Nat → Int64) (hn : ∀ j, relOL t a j → f j = hL g a j) : SmO t h (rL g a f) :=
  ⟨⟨s.1.1, s.1.2⟩, fun b k q => s.2.1 b k q, fun b k q => by
    by_cases hb : b = a
    · subst hb; rw [hL_rL_s, hn k q]; exact s.2.2 b k q
    · rw [hL_rL_n _ _ hb]; exact s.2.2 b k q⟩
theorem relO_I {t a j : Nat} (q : relO t a j) : relI t a j := by
  unfold relI
  rcases q with q | q | q | q | q | q | q | q | q | q | q | q | q
  · exact Or.inl q
  · exact Or.inr (Or.inl q)
  · exact Or.inr (Or.inr (Or.inl q))
  · exact Or.inr (Or.inr (Or.inr (Or.inl q)))
  · exact Or.inr (Or.inr (Or.inr (Or.inr (Or.inl q))))
  · exact Or.inr (Or.inr (Or.inr (Or.inr (Or.inr (Or.inl q)))))
  · exact Or.inr (Or.inr (Or.inr (Or.inr (Or.inr (Or.inr (Or.inl (Or.inr q)))))))
  · exact Or.inr (Or.inr (Or.inr (Or.inr (Or.inr (Or.inr (Or.inr (Or.inl q)))))))
  · exact Or.inr (Or.inr (Or.inr (Or.inr (Or.inr (Or.inr (Or.inr (Or.inr (Or.inl ⟨q.1, q.2.2⟩))))))))
  all_goals (refine Or.inr (Or.inr (Or.inr (Or.inr (Or.inr (Or.inr (Or.inr (Or.inr (Or.inr ?_)))))))); omega)
theorem relO_L {t a j : Nat} (q : relOL t a j) : relL t a j := by
  unfold relL
  rcases q with q | q | q | q | q | q | q
  · exact Or.inl q
  · exact Or.inr (Or.inl q)
  · exact Or.inr (Or.inr (Or.inl q))
  · exact Or.inr (Or.inr (Or.inr (Or.inl q)))
  · exact Or.inr (Or.inr (Or.inr (Or.inr (Or.inl q))))
  · exact Or.inr (Or.inr (Or.inr (Or.inr (Or.inr (Or.inl ⟨q.1, q.2.2⟩)))))
  · exact Or.inr (Or.inr (Or.inr (Or.inr (Or.inr (Or.inr (Or.inr q))))))
theorem Sm.o {t : Nat} {h h' : HP} (s : Sm t h h') : SmO t h h' := ⟨s.1, fun a j q => s.2.1 a j (relO_I q), fun a j q => s.2.2 a j (relO_L q)⟩
theorem SmO.toM {t : Nat} {h h' : HP} (s : SmO t h h') {i : Nat} (hi : i < 3) : SmT h h' (14 + 17 * i) (410 * (i + 1)) (10 * (i + 1)) :=
  ⟨fun a j q => s.2.1 a j (by unfold relO; refine Or.inr (Or.inr (Or.inr (Or.inr (Or.inr (Or.inr (Or.inl ?_)))))); rcases (show i = 0 ∨ i = 1 ∨ i = 2 by omega) with rfl | rfl | rfl; exact Or.inl q; exact Or.inr (Or.inl q); exact Or.inr (Or.inr q)),
    fun a q => funext fun j => s.2.2 a j (by unfold relOL; refine Or.inr (Or.inr (Or.inr (Or.inr (Or.inr (Or.inr ?_))))); rcases (show i = 0 ∨ i = 1 ∨ i = 2 by omega) with rfl | rfl | rfl; exact Or.inl q; exact Or.inr (Or.inl q); exact Or.inr (Or.inr q)),
    fun j h1 h2 => s.2.1 114 j (by unfold relO; omega), fun j h1 h2 => s.2.2 115 j (by unfold relOL; omega)⟩
theorem Inv.own {h h' : HP} {t u : Nat} (I : Inv h t u) (s : SmO t h h') (e : hI h' 0 11 = hI h' 113 2) (q : Rt h' t 0 0) : Inv h' t u := by
  obtain ⟨⟨i1, i2, i3, i4, i5⟩, i6, i7, i8, i9, i10, i11, i12⟩ := I
  have sI := s.2.1
  have sL := s.2.2
  refine ⟨⟨s.1.ly i1, fun k hk => by rw [s.1.2]; exact i2 k hk, i3, s.1.pr i4, s.1.pr i5⟩, ⟨e, ?_, ?_⟩, ?_, ?_, ?_, ?_, q, ?_⟩
  · rw [sL 0 12 (by unfold relOL; omega), sL 113 3 (by unfold relOL; omega)]; exact i6.2.1
  · rw [sL 0 13 (by unfold relOL; omega), sL 113 4 (by unfold relOL; omega)]; exact i6.2.2
  · refine ⟨fun k hk => ?_, fun j hj => ?_⟩
    · rw [sI 3 k (by unfold relO; omega), sI 4 k (by unfold relO; omega), sI 116 k (by unfold relO; omega), sI 117 k (by unfold relO; omega)]; exact i7.1 k hk
    · rw [sL 2 j (by unfold relOL; omega), sL 118 j (by unfold relOL; omega)]; exact i7.2 j hj
  · unfold Rtk
    rw [sI 5 7 (by unfold relO; omega), sI 113 10 (by unfold relO; omega), sI 5 12 (by unfold relO; omega), sI 5 13 (by unfold relO; omega), sI 113 16 (by unfold relO; omega), sI 113 17 (by unfold relO; omega)]
    obtain ⟨⟨f, f1, f2, f3, f4⟩, f5⟩ := i8
    refine ⟨⟨f, f1, f2, f3, fun k hk => ?_⟩, f5⟩
    rw [sI 6 k (by unfold relO; omega), sI 119 k (by unfold relO; omega)]; exact f4 k hk
  · unfold Rlv
    rw [sI 0 14 (by unfold relO; omega), sI 113 37 (by unfold relO; omega), sI 75 3 (by unfold relO; omega), sI 75 4 (by unfold relO; omega), sI 75 5 (by unfold relO; omega), sI 75 6 (by unfold relO; omega), sI 75 7 (by unfold relO; omega), sI 129 0 (by unfold relO; omega), sI 129 1 (by unfold relO; omega), sI 129 2 (by unfold relO; omega), sI 129 3 (by unfold relO; omega), sI 129 4 (by unfold relO; omega)]
    exact i9
  · intro k hk; rw [sL 7 k (by unfold relOL; omega)]; exact i10 k hk
  · unfold Rmk
    rw [sI 0 10 (by unfold relO; omega), sI 113 38 (by unfold relO; omega)]
    obtain ⟨n, n1, n2, n3, n4⟩ := i12
    exact ⟨n, n1, n2, n3, fun i hi => (n4 i hi).same (s.toM (by omega))⟩
theorem hI_uI_n {h : HP} {a j : Nat} {x : Int32} {b k : Nat} (hn : b ≠ a ∨ k ≠ j) : hI (uI h a j x) b k = hI h b k := by rw [hI_uI, if_neg (fun q => by omega)]
theorem hI_uI_s (h : HP) (a j : Nat) (x : Int32) : hI (uI h a j x) a j = x := by rw [hI_uI, if_pos ⟨rfl, rfl⟩]
theorem hL_uL_n {h : HP} {a j : Nat} {x : Int64} {b k : Nat} (hn : b ≠ a ∨ k ≠ j) : hL (uL h a j x) b k = hL h b k := by rw [hL_uL, if_neg (fun q => by omega)]
theorem hL_uL_s (h : HP) (a j : Nat) (x : Int64) : hL (uL h a j x) a j = x := by rw [hL_uL, if_pos ⟨rfl, rfl⟩]
