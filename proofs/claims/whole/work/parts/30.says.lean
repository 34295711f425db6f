/-! ===== what the class's methods do, said by functions of the heap ===== -/
theorem Spec.cg {y : MethodName} {cc : ByteArray} {mi : Mi} {args : List Value} {h : HP} {p q : Option Value → HP → Prop} (S : Spec y cc mi args h p) (e : ∀ v h', p v h' ↔ q v h') : Spec y cc mi args h q := by
  have : p = q := funext fun v => funext fun h' => propext (e v h')
  rw [← this]; exact S
theorem Spec.dI {y : MethodName} {cc : ByteArray} {mi : Mi} {args : List Value} {h g : HP} {x : Int32} {P : Int32 → HP → Prop} (S : Spec y cc mi args h (pI P)) (e : ∀ r h', P r h' ↔ (r = x ∧ h' = g)) (s : SR h g) : Spec y cc mi args h (pI fun r' h' => (r' = x ∧ h' = g) ∧ SR h g) :=
  S.cg (fun v h' => ⟨fun ⟨r, a, b⟩ => ⟨r, a, (e r h').mp b, s⟩, fun ⟨r, a, b⟩ => ⟨r, a, (e r h').mpr b.1⟩⟩)
theorem Spec.dL {y : MethodName} {cc : ByteArray} {mi : Mi} {args : List Value} {h g : HP} {x : Int64} {P : Int64 → HP → Prop} (S : Spec y cc mi args h (pL P)) (e : ∀ r h', P r h' ↔ (r = x ∧ h' = g)) (s : SR h g) : Spec y cc mi args h (pL fun r' h' => (r' = x ∧ h' = g) ∧ SR h g) :=
  S.cg (fun v h' => ⟨fun ⟨r, a, b⟩ => ⟨r, a, (e r h').mp b, s⟩, fun ⟨r, a, b⟩ => ⟨r, a, (e r h').mpr b.1⟩⟩)
theorem Spec.dV {y : MethodName} {cc : ByteArray} {mi : Mi} {args : List Value} {h g : HP} {P : HP → Prop} (S : Spec y cc mi args h (pV P)) (e : ∀ h', P h' ↔ h' = g) (s : SR h g) : Spec y cc mi args h (pV fun h' => h' = g ∧ SR h g) :=
  S.cg (fun v h' => ⟨fun ⟨a, b⟩ => ⟨a, (e h').mp b, s⟩, fun ⟨a, b⟩ => ⟨a, (e h').mpr b.1⟩⟩)
theorem vp_nat {a : Int32} {n : Nat} (h : vp_in a n) : ∃ t, t < n ∧ t < 2 ^ 31 ∧ a = nI t := by
  unfold vp_in at h
  have h0 : ¬ a < 0 := fun q => h (Or.inl q)
  have h1 : a.toNatClampNeg < n := by have := fun q => h (Or.inr q); omega
  have h2 : 0 ≤ a.toInt := by rw [Int32.lt_iff_toInt_lt] at h0; simpa using h0
  have h3 : a.toInt < 2 ^ 31 := a.toInt_lt
  refine ⟨a.toNatClampNeg, h1, ?_, ?_⟩
  · show a.toInt.toNat < 2 ^ 31; omega
  · exact nI_toNat h2
theorem lk_dflt : ∀ {ps : List (Int × Int)} {d x : Int}, (∀ q ∈ ps, x ≠ q.1) → Op.lookupswitch.offset ps d x = d
  | [], _, _, _ => rfl
  | (m, o) :: r, d, x, hq => by
    have h1 : x ≠ m := hq (m, o) (by simp)
    have h2 := lk_dflt (ps := r) (d := d) (x := x) (fun q h => hq q (List.mem_cons_of_mem _ h))
    simp only [Op.lookupswitch.offset]
    first | (rw [if_neg h1]; exact h2) | (rw [if_neg h1.symm]; exact h2) | (split <;> simp_all)
theorem isH_67 : isH 67 := by simp [isH]
theorem isV_75 : isV 75 := by simp [isV]
theorem isV_77 : isV 77 := by simp [isV]
theorem TkFr.sr {h h' : HP} (a : TkFr h h') : SR h h' := by obtain ⟨f, e, -, -⟩ := a; rw [e]; exact ⟨rfl, rfl⟩
theorem SR.tk {h g : HP} (s : SR h g) {g' : HP} (f : TkFr g g') : SR h g' := s.trans f.sr
theorem firstF_sr (h : HP) (y e : Nat) (lo hi : Int32) : SR h (firstF h y e lo hi).2 := by
  unfold firstF; split
  · exact (takeN_fr _ _ _).sr
  · exact (takeN_fr h lo hi).sr.I _ _ _
theorem placeYF_sr (h : HP) (t y e : Nat) : SR h (placeYF h t y e).2 := by
  unfold placeYF; dsimp only; split
  · exact (takeN_fr _ _ _).sr
  · split
    · exact ((takeN_fr _ _ _).sr.I _ _ _).tk (takeN_fr _ _ _)
    · exact (((takeN_fr _ _ _).sr.I _ _ _).tk (takeN_fr _ _ _)).I _ _ _
theorem ruleNameF_sr (h : HP) (t y e : Nat) : SR h (ruleNameF h t y e).2 := by
  unfold ruleNameF; split
  · split
    · exact (failF_fr _ _).sr
    · exact (SR.I (SR.refl h) _ _ _).tk (advF_fr _)
  · exact (failF_fr _ _).sr
theorem litTestF_sr (h : HP) (y e : Nat) : SR h (litTestF h y e).2 := by
  unfold litTestF; exact ((SR.I (SR.refl h) _ _ _).tk (advF_fr _)).trans (firstF_sr _ _ _ _ _)
theorem testF_sr (h : HP) (t y e : Nat) : SR h (testF h t y e).2 := by
  unfold testF; split
  · exact (SR.I (SR.refl h) _ _ _).tk (advF_fr _)
  · split
    · exact ((SR.I (SR.refl h) _ _ _).tk (advF_fr _)).trans (placeYF_sr _ _ _ _)
    · split
      · exact (takeK_fr _ _ _).sr
      · split
        · exact (takeK_fr _ _ _).sr.trans (litTestF_sr _ _ _)
        · split
          · exact (takeK_fr _ _ _).sr.trans (litTestF_sr _ _ _)
          · split
            · exact (takeK_fr _ _ _).sr.trans (litTestF_sr _ _ _)
            · exact (takeK_fr _ _ _).sr.tk (failF_fr _ _)
theorem tokH_hR (h : HP) (L n s : Nat) : SR h (tokH h L n s) := by
  obtain ⟨h1, k, l, v, e1, e2⟩ := tokH_cases h L n s
  rw [e1]
  rcases e2 with e2 | ⟨c, e2⟩ <;> rw [e2] <;> exact ⟨rfl, rfl⟩
theorem toksH_sr (h : HP) (L : Nat) : ∀ k, SR h (toksH h L k)
  | 0 => SR.refl h
  | k + 1 => (toksH_sr h L k).trans (tokH_hR _ _ _ _)
noncomputable def f_J6_bitCount_0f7a4 (h : HP) (x : Int32) : Option (Int32 × HP) := some (nI (pc x), h)
noncomputable def f_J7_fill_53178 (h : HP) (v : Int32) : Option HP := some (rI h 66 (rowI (hI h 66) (fun _ => v) 0 7168))
noncomputable def f_X11_answer (h : HP) (v : Int32) : Option (Int32 × HP) := some (v, uI h 0 11 0)
noncomputable def f_X11_refuse (h : HP) (v : Int32) : Option (Int32 × HP) := some (-1, uI h 0 11 v)
noncomputable def f_X11_deny (h : HP) (v : Int32) : Option (Int32 × HP) := some (0, uI h 0 11 v)
noncomputable def f_X11_allow (h : HP) : Option (Int32 × HP) := some (1, uI h 0 11 0)
noncomputable def f_X11_status (h : HP) : Option (Int32 × HP) := some (hI h 0 11, h)
noncomputable def f_X11_top (h : HP) : Option (Int64 × HP) := some (hL h 0 12, h)
noncomputable def f_X11_bottom (h : HP) : Option (Int64 × HP) := some (hL h 0 13, h)
noncomputable def f_X1_start (h : HP) (hill : Nat) (w : Int32) (ring : Int32) : Option HP := some (rI h hill (startF (hI h hill) w ring))
noncomputable def f_X1_addRow (h : HP) (hill : Nat) : Option HP := some (rI h hill (addRowF (hI h hill)))
noncomputable def f_X1_around (h : HP) (hill : Nat) (x : Int32) : Option (Int32 × HP) := some (aroundF (hI h hill) x, h)
noncomputable def f_X1_columnOf (h : HP) (hill : Nat) (p : Int32) (x : Int32) : Option (Int32 × HP) := gdi (hI h hill 1) 7 <| some (colF (hI h hill) p x (hI h hill 1).toNatClampNeg, h)
noncomputable def f_X1_countAround (h : HP) (hill : Nat) (b : Int32) (x : Int32) : Option (Int32 × HP) := some (cntF (hI h hill) x b, litH h hill x)
noncomputable def f_X1_countLit (h : HP) (hill : Nat) (x : Int32) : Option HP := some (litH h hill x)
noncomputable def f_X1_countUnlike (h : HP) (hill : Nat) (x : Int32) (y : Int32) : Option (Int32 × HP) := some (nI (pc ((x ^^^ y) &&& hI h hill 3)), h)
noncomputable def f_X1_heapOf (h : HP) (hill : Nat) (b : Int32) (x : Int32) : Option (Int32 × HP) := some (growF (hI h hill) x 30 b, h)
noncomputable def f_X1_placeOf (h : HP) (hill : Nat) (x : Int32) (y : Int32) : Option (Int32 × HP) := some (placeF (hI h hill) x y, h)
noncomputable def f_X1_rowMask (h : HP) (hill : Nat) : Option (Int32 × HP) := some (maskF (hI h hill), h)
noncomputable def f_X1_rowOf (h : HP) (hill : Nat) (p : Int32) (y : Int32) : Option (Int32 × HP) := some (rowF (hI h hill) p y, h)
noncomputable def f_X1_step (h : HP) (hill : Nat) (x : Int32) (born : Int32) (stays : Int32) : Option (Int32 × HP) := some (stepF (hI h hill) x born stays, litH h hill x)
noncomputable def cIf (p : Prop) : Int32 := @ite _ p (Classical.propDecidable p) 1 0
theorem cIf_t {p : Prop} (h : p) : cIf p = 1 := by unfold cIf; exact if_pos h
theorem cIf_f {p : Prop} (h : ¬ p) : cIf p = 0 := by unfold cIf; exact if_neg h
theorem cIf_iff {p : Prop} {r : Int32} : ((r = 1 ∧ p) ∨ (r = 0 ∧ ¬ p)) ↔ r = cIf p := by
  by_cases h : p
  · rw [cIf_t h]; exact ⟨fun q => q.elim (fun q => q.1) (fun q => absurd h q.2), fun q => Or.inl ⟨q, h⟩⟩
  · rw [cIf_f h]; exact ⟨fun q => q.elim (fun q => absurd q.2 h) (fun q => q.1), fun q => Or.inr ⟨q, h⟩⟩
noncomputable def f_X1_isMirror (h : HP) (hill : Nat) (p : Int32) : Option (Int32 × HP) := gdi (hI h hill 0) 6 <| gdi (hI h hill 1) 7 <| some (cIf (∀ y x, y < (hI h hill 1).toNatClampNeg → x < (hI h hill 0).toNatClampNeg → mirAt (hI h hill) p y x), h)
noncomputable def f_X5_bornNow (h : HP) (t : Nat) : Option (Int32 × HP) := gdv ((hI h t 10).toInt ≤ 4) <| some (bornF h t, h)
noncomputable def f_X5_staysNow (h : HP) (t : Nat) : Option (Int32 × HP) := gdv ((hI h t 10).toInt ≤ 4) <| some (staysF h t, h)
noncomputable def f_X5_nextOf (h : HP) (t : Nat) (x : Int32) : Option (Int32 × HP) := gdv ((hI h t 10).toInt ≤ 4) <| some (nxF h t x, litH h (t + 1) x)
noncomputable def f_X5_isStill (h : HP) (t : Nat) : Option (Int32 × HP) := gdv ((hI h t 10).toInt ≤ 4) <| some (bI (decide (nxF h t (hI h t 13) = hI h t 13)), litH h (t + 1) (hI h t 13))
noncomputable def f_X5_choiceOf (h : HP) (t : Nat) (c : Int32) : Option (Int32 × HP) := gdi (hI h t 10) 5 <| gdi c 6 <| some (chC h t (hI h t 10).toNatClampNeg c.toNatClampNeg, h)
noncomputable def f_X5_countVotes (h : HP) (t : Nat) (r : Int32) : Option (Int32 × HP) := gdi (hI h t 10) 5 <| gdi (hI h t 11) 7 <| some (voF (chC h t (hI h t 10).toNatClampNeg) r (hI h t 11).toNatClampNeg, h)
noncomputable def f_X5_countNewToSee (h : HP) (t : Nat) : Option (Int32 × HP) := some (newN (hI h (t + 1)) (hI h (t + 15)) (hI h t 13) 5, litH h (t + 1) (hI h t 13))
noncomputable def f_X5_countRulesLeft (h : HP) (t : Nat) : Option (Int32 × HP) := some (leftN (hI h (t + 15)) 10, h)
noncomputable def f_X5_forgetSeen (h : HP) (t : Nat) : Option (Int32 × HP) := some (nzN (hI h (t + 15)) 10, rI h (t + 15) (zk (hI h (t + 15)) 10))
noncomputable def f_X5_hasCitizen (h : HP) (t : Nat) (c : Int32) : Option (Int32 × HP) := some (bI (decide (0 ≤ c.toInt ∧ c.toInt < (hI h t 11).toInt)), h)
noncomputable def f_X5_hasRule (h : HP) (t : Nat) (r : Int32) : Option (Int32 × HP) := some (bI (decide (0 ≤ r.toInt ∧ r.toInt < (hI h t 10).toInt)), h)
noncomputable def f_X5_repaint (h : HP) (t : Nat) (x : Int32) : Option (Int32 × HP) := some (nI (pc (hI (uI h t 13 ((hI h t 13 &&& (hI h (t + 1) 5 ^^^ -1)) ||| (x &&& hI h (t + 1) 5))) t 13)), uI h t 13 ((hI h t 13 &&& (hI h (t + 1) 5 ^^^ -1)) ||| (x &&& hI h (t + 1) 5)))
noncomputable def f_X5_ruleFits (h : HP) (t : Nat) (i : Int32) : Option (Int32 × HP) := gdi i 4 <| some (cIf (∀ k, k < 10 → fitAt (hI h (t + 15)) (hI h (t + 10) i.toNatClampNeg ||| shl (hI h (t + 11) i.toNatClampNeg) 5) k), h)
noncomputable def f_X5_copyFrom (h : HP) (t : Nat) (o : Nat) : Option HP := gdi (hI h (o + 3) 6) 61 <| gdv (hI h (o + 1) 2 = 0 ∨ hI h (o + 1) 2 = 1) <| gdv (hI h (o + 3) 5 = 0 ∨ hI h (o + 3) 5 = 1) <| gdv (o ≠ t) <| some (townCp h t o (hI h (o + 3) 6).toNatClampNeg)
noncomputable def f_X9_copyFrom (h : HP) (y : Nat) (o : Nat) : Option HP := gdi (hI h o 6) 61 <| gdv (hI h o 5 = 0 ∨ hI h o 5 = 1) <| gdv (o ≠ y) <| some (yearCp h y o (hI h o 6).toNatClampNeg)
noncomputable def f_X9_makeEmpty (h : HP) (y : Nat) : Option HP := some (rI h y (upd (upd (upd (upd (hI h y) 5 0) 6 0) 7 0) 5 1))
noncomputable def f_X9_isBlock (h : HP) (w : Int32) : Option (Int32 × HP) := some (bI (decide (w = 15 ∨ w = 19)), h)
noncomputable def f_X9_countOpen (h : HP) (y : Nat) : Option (Int32 × HP) := gdi (hI h y 6) 61 <| some (nI (fb_ct (openB h y) (hI h y 6).toNatClampNeg), h)
/-- the last of the first n that has it -/
def lastB (b : Nat → Bool) : Nat → Int32
  | 0 => -1
  | n + 1 => if b n then nI n else lastB b n
theorem lastB_iff (b : Nat → Bool) : ∀ (e : Nat) (r : Int32), ((r = -1 ∧ ∀ i, i < e → b i = false) ∨ ∃ k, k < e ∧ r = nI k ∧ b k = true ∧ ∀ i, k < i → i < e → b i = false) ↔ r = lastB b e
  | 0, r => ⟨fun q => q.elim (fun q => q.1) (fun ⟨k, hk, _⟩ => absurd hk (by omega)), fun q => Or.inl ⟨q, fun i hi => absurd hi (by omega)⟩⟩
  | n + 1, r => by
    unfold lastB
    by_cases hb : b n = true
    · rw [if_pos hb]
      refine ⟨fun q => ?_, fun q => Or.inr ⟨n, by omega, q, hb, fun i h1 h2 => absurd h1 (by omega)⟩⟩
      rcases q with ⟨-, q⟩ | ⟨k, hk, e, -, q⟩
      · exact absurd (q n (by omega)) (by rw [hb]; decide)
      · by_cases hkn : k = n
        · rw [e, hkn]
        · exact absurd (q n (by omega) (by omega)) (by rw [hb]; decide)
    · have hb' : b n = false := by simpa using hb
      rw [if_neg hb, ← lastB_iff b n r]
      refine or_congr (and_congr_right' ⟨fun q i hi => q i (by omega), fun q i hi => ?_⟩) ⟨fun ⟨k, h1, h2, h3, h4⟩ => ?_, fun ⟨k, h1, h2, h3, h4⟩ => ⟨k, by omega, h2, h3, fun i h5 h6 => ?_⟩⟩
      · by_cases h : i = n
        · rw [h]; exact hb'
        · exact q i (by omega)
      · have : k ≠ n := fun q => by rw [q, hb'] at h3; cases h3
        exact ⟨k, by omega, h2, h3, fun i h5 h6 => h4 i h5 (by omega)⟩
      · by_cases h : i = n
        · rw [h]; exact hb'
        · exact h4 i h5 (by omega)
noncomputable def f_X9_openEntry (h : HP) (y : Nat) : Option (Int32 × HP) := gdi (hI h y 6) 61 <| some (lastB (openB h y) (hI h y 6).toNatClampNeg, h)
noncomputable def f_X9_add (h : HP) (y : Nat) (w : Int32) : Option HP := gdi (hI h y 6) 60 <| some (rI (rI (rI h (y + 1) (upd (hI h (y + 1)) (hI h y 6).toNatClampNeg w)) (y + 5) (upd (hI h (y + 5)) (hI h y 6).toNatClampNeg (hI h y 6))) y (upd (hI h y) 6 (hI h y 6 + 1)))
noncomputable def f_X4_advance (h : HP) : Option HP := gdc (RK h) <| some (advF h)
noncomputable def f_X4_fail (h : HP) (why : Int32) : Option (Int32 × HP) := gdc (RK h) <| some (0, failF h why)
noncomputable def f_X4_isEnd (h : HP) : Option (Int32 × HP) := gdc (RK h) <| some (bI (decide (kA h = 1)), h)
noncomputable def f_X4_isWord (h : HP) (v : Int32) : Option (Int32 × HP) := gdc (RK h) <| some (bI (decide (kA h = 4 ∧ vA h = v)), h)
noncomputable def f_X4_wordNumber (h : HP) : Option (Int32 × HP) := gdc (RK h) <| some ((if kA h = 4 then vA h else -1), h)
noncomputable def f_X4_takeSign (h : HP) (v : Int32) : Option (Int32 × HP) := gdc (RK h) <| some ((takeK 3 h v).1, (takeK 3 h v).2)
noncomputable def f_X4_hasRoomFor (h : HP) (b : Int32) : Option (Int32 × HP) := some (bI (decide (hI h 5 7 + b ≤ 900)), h)
noncomputable def f_X4_append (h : HP) (v : Int32) : Option HP := gdi (hI h 5 7) 901 <| some (apH h (hI h 5 7).toNatClampNeg v (min 4 (900 - (hI h 5 7).toNatClampNeg)))
theorem takeK_iff {k : Int32} {h : HP} {v r : Int32} {h' : HP} : ((¬ (kA h = k ∧ vA h = v) ∧ r = 0 ∧ h' = failF h 2) ∨ ((kA h = k ∧ vA h = v) ∧ r = 1 ∧ h' = advF h)) ↔ (r = (takeK k h v).1 ∧ h' = (takeK k h v).2) := by
  unfold takeK
  by_cases q : kA h = k ∧ vA h = v
  · rw [if_pos q]; exact ⟨fun p => p.elim (fun p => absurd q p.1) (fun p => p.2), fun p => Or.inr ⟨q, p⟩⟩
  · rw [if_neg q]; exact ⟨fun p => p.elim (fun p => p.2) (fun p => absurd p.1 q), fun p => Or.inl ⟨q, p⟩⟩
/-- the class's text is cut: how many tokens it has -/
noncomputable def cutN (T : Nat → Int32) (L : Nat) : Nat := @dite _ (∃ n, n ≤ 900 ∧ (∀ j, j < n → plcT T L j < L) ∧ plcT T L n = L) (Classical.propDecidable _) (fun q => Classical.choose q) (fun _ => 0)
theorem cutN_is {T : Nat → Int32} {L n : Nat} (h : n ≤ 900 ∧ (∀ j, j < n → plcT T L j < L) ∧ plcT T L n = L) : cutN T L = n := by
  have q : ∃ n, n ≤ 900 ∧ (∀ j, j < n → plcT T L j < L) ∧ plcT T L n = L := ⟨n, h⟩
  unfold cutN
  rw [dif_pos q]
  have s := Classical.choose_spec q
  generalize Classical.choose q = m at s ⊢
  by_cases h1 : m < n
  · exact absurd (h.2.1 m h1) (by rw [s.2.2]; omega)
  · by_cases h2 : n < m
    · exact absurd (s.2.1 n h2) (by rw [h.2.2]; omega)
    · omega
noncomputable def cutF (h : HP) (L : Nat) : HP := noteH (toksH (beginH h L) L (cutN (hI h 6) L)) (cutN (hI h 6) L) 1 (nI L) 0 0
theorem townCp_sr (h : HP) (t o e : Nat) : SR h (townCp h t o e) := by
  unfold townCp; exact ⟨rfl, rfl⟩
theorem yearCp_sr (h : HP) (y o e : Nat) : SR h (yearCp h y o e) := by
  unfold yearCp; exact ⟨rfl, rfl⟩
noncomputable def f_X7_isTray (h : HP) (t : Int32) : Option (Int32 × HP) := some (bI (decide (0 ≤ t ∧ t < 4)), h)
noncomputable def f_X7_isMissing (h : HP) (t : Int32) : Option (Int32 × HP) := gdi t 4 <| some (bI (decide (hI h 4 t.toNatClampNeg < 0)), h)
noncomputable def f_X7_hasRoom (h : HP) (t : Int32) (p : Int32) (m : Int32) : Option (Int32 × HP) := gdi t 4 <| some (bI (decide (0 ≤ p.toInt ∧ p.toInt + m.toInt ≤ (hI h 4 t.toNatClampNeg).toInt)), h)
noncomputable def f_X7_areOfOneSort (h : HP) (t : Int32) (u : Int32) : Option (Int32 × HP) := gdi t 4 <| gdi u 4 <| some (bI (decide (hI h 3 t.toNatClampNeg = hI h 3 u.toNatClampNeg)), h)
noncomputable def f_X7_numberAt (h : HP) (t : Int32) (u : Int32) : Option (Int64 × HP) := gdi t 4 <| gdi u 60 <| some (hL h 2 (t.toNatClampNeg * 60 + u.toNatClampNeg), h)
noncomputable def f_X7_put (h : HP) (t : Int32) (u : Int32) (v : Int64) : Option HP := gdi t 4 <| gdi u 60 <| some (uL h 2 (t.toNatClampNeg * 60 + u.toNatClampNeg) (cutV (hI h 3 t.toNatClampNeg) v))
noncomputable def f_X7_copy (h : HP) (t : Int32) (p : Int32) (u : Int32) (q : Int32) (m : Int32) : Option HP := gdi t 4 <| gdi u 4 <| gdi p 61 <| gdi q 61 <| gdi m 61 <| gdv (p.toNatClampNeg + m.toNatClampNeg ≤ 60) <| gdv (q.toNatClampNeg + m.toNatClampNeg ≤ 60) <| some (rL h 2 (va_cpy (hL h 2) (hL h 2) (t.toNatClampNeg * 60 + p.toNatClampNeg) (u.toNatClampNeg * 60 + q.toNatClampNeg) m.toNatClampNeg))
noncomputable def f_X10_isStep (h : HP) (w : Int32) : Option (Int32 × HP) := some (bI (decide (isStepW w)), h)
noncomputable def f_X10_takeFirst (h : HP) (y : Nat) (a : Int32) (lo : Int32) (hi : Int32) : Option (Int32 × HP) := gdc (RK h) <| gdi a 60 <| some ((firstF h y a.toNatClampNeg lo hi).1, (firstF h y a.toNatClampNeg lo hi).2)
noncomputable def f_X10_takePlace (h : HP) (t : Nat) (y : Nat) (a : Int32) : Option (Int32 × HP) := gdc (RK h) <| gdi a 60 <| some ((placeYF h t y a.toNatClampNeg).1, (placeYF h t y a.toNatClampNeg).2)
noncomputable def f_X10_takeRuleName (h : HP) (t : Nat) (y : Nat) (a : Int32) : Option (Int32 × HP) := gdc (RK h) <| gdi a 60 <| gdc (TP h t) <| some ((ruleNameF h t y a.toNatClampNeg).1, (ruleNameF h t y a.toNatClampNeg).2)
noncomputable def f_X10_takeTest (h : HP) (t : Nat) (y : Nat) (a : Int32) : Option (Int32 × HP) := gdc (RK h) <| gdi a 60 <| some ((testF h t y a.toNatClampNeg).1, (testF h t y a.toNatClampNeg).2)
noncomputable def f_X5_after_83 (t : Nat) (K26 : Int32 → Int32 → Int32 → Int32 → Int32 → Int32 → Int32 → Int32 → HP → Option (Int32 × HP)) (l2 : Int32) (l3 : Int32) (l4 : Int32) (l5 : Int32) (l6 : Int32) (l7 : Int32) (l8 : Int32) (l9 : Int32) (l10 : Int32) (h : HP) : Option (Int32 × HP) :=
  if l10 = l8 then
  (ltv ((l8 * 2) : Int32) fun x19 =>
  ltv (l9 + 1 : Int32) fun x20 =>
  K26 l2 l3 l4 l5 l5 l9 x19 x20 h)
  else
  ltv (l9 + 1 : Int32) fun x18 =>
  K26 l2 l3 l4 l5 l6 l7 l8 x18 h
noncomputable def f_X5_after_26 (t : Nat)  : Nat → Int32 → Int32 → Int32 → Int32 → Int32 → Int32 → Int32 → Int32 → HP → Option (Int32 × HP)
  | 0, _, _, _, _, _, _, _, _, _ => none
  | n + 1, l2, l3, l4, l5, l6, l7, l8, l9, h =>
    if l2 < l9 then
    (some (l5, h))
    else
    bd2 (f_X1_step h (t + 1) l5 l3 l4) fun r10 h9 =>
    ltv ((l9 - l7) : Int32) fun x11 =>
    if r10 = l6 then
    (if x11 ≤ (0 : Int32) then
    (f_X5_after_83 t (f_X5_after_26 t n) l2 l3 l4 r10 l6 l7 l8 l9 x11 h9)
    else
    gdv (¬ x11 = (0 : Int32)) <|
    ltv ((l9 + (((l2 - l9) / x11) * x11)) : Int32) fun x15 =>
    ltv (x15 + 1 : Int32) fun x16 =>
    f_X5_after_26 t n l2 l3 l4 r10 l6 l7 l8 x16 h9)
    else
    f_X5_after_83 t (f_X5_after_26 t n) l2 l3 l4 r10 l6 l7 l8 l9 x11 h9
noncomputable def f_X5_after (h : HP) (t : Nat) (a1 : Int32) (a2 : Int32) : Option (Int32 × HP) :=
  bd2 (f_X5_bornNow h t) fun r3 h2 =>
  bd2 (f_X5_staysNow h2 t) fun r6 h5 =>
  f_X5_after_26 t FU a2 r3 r6 a1 a1 0 1 1 h5
noncomputable def f_X5_passNight_83 (t : Nat) (K27 : Int32 → Int32 → Int32 → Int32 → HP → Option HP) (l1 : Int32) (l2 : Int32) (l3 : Int32) (l4 : Int32) (l5 : Int32) (h : HP) : Option HP :=
  if (l5 &&& (hI h t 13)) = (0 : Int32) then
  (ltv (l4 + 1 : Int32) fun x23 =>
  K27 l1 l2 l3 x23 h)
  else
  ltv (((5 : Int32) + l4) : Int32) fun x24 =>
  gdi x24 10 <|
  gdi x24 10 <|
  ltv (uI h (t + 15) (Int32.toNatClampNeg x24) ((hI h (t + 15) (Int32.toNatClampNeg x24)) ||| ((1 : Int32) <<< (((l2 >>> (l4 &&& 31)) &&& 1) &&& 31)))) fun g27 =>
  ltv (l4 + 1 : Int32) fun x28 =>
  K27 l1 l2 l3 x28 g27
noncomputable def f_X5_passNight_27 (t : Nat)  : Nat → Int32 → Int32 → Int32 → Int32 → HP → Option HP
  | 0, _, _, _, _, _ => none
  | n + 1, l1, l2, l3, l4, h =>
    if 5 ≤ l4 then
    (bd2 (f_J6_bitCount_0f7a4 h (hI h t 13)) fun r13 h12 =>
    ltv (uI h12 t 15 ((hI h t 15) + r13)) fun g14 =>
    ltv (uI g14 t 13 l3) fun g15 =>
    some g15)
    else
    gdi l4 5 <|
    ltv (((hI h (t + 1 + 1) (Int32.toNatClampNeg l4)) &&& (hI h (t + 1) 5)) : Int32) fun x17 =>
    if (x17 &&& ((hI h t 13) ^^^ (-1))) = (0 : Int32) then
    (f_X5_passNight_83 t (f_X5_passNight_27 t n) l1 l2 l3 l4 x17 h)
    else
    gdi l4 10 <|
    gdi l4 10 <|
    ltv (uI h (t + 15) (Int32.toNatClampNeg l4) ((hI h (t + 15) (Int32.toNatClampNeg l4)) ||| ((1 : Int32) <<< (((l1 >>> (l4 &&& 31)) &&& 1) &&& 31)))) fun g21 =>
    f_X5_passNight_83 t (f_X5_passNight_27 t n) l1 l2 l3 l4 x17 g21
noncomputable def f_X5_passNight (h : HP) (t : Nat)  : Option HP :=
  bd2 (f_X5_bornNow h t) fun r3 h2 =>
  bd2 (f_X5_staysNow h2 t) fun r6 h5 =>
  bd2 (f_X1_step h5 (t + 1) (hI h5 t 13) r3 r6) fun r9 h8 =>
  f_X5_passNight_27 t FU r3 r6 r9 0 h8
noncomputable def f_X5_passNights_89 (t : Nat) (K19 : Int32 → Int32 → Int32 → Int32 → Int32 → Int32 → HP → Option HP) (l1 : Int32) (l2 : Int32) (l3 : Int32) (l4 : Int32) (l5 : Int32) (l6 : Int32) (l7 : Int32) (h : HP) : Option HP :=
  if l7 = l5 then
  (ltv ((hI h t 13) : Int32) fun x17 =>
  ltv ((hI h t 15) : Int32) fun x18 =>
  ltv ((l5 * 2) : Int32) fun x19 =>
  ltv (l6 + 1 : Int32) fun x20 =>
  K19 l1 x17 l6 x18 x19 x20 h)
  else
  ltv (l6 + 1 : Int32) fun x16 =>
  K19 l1 l2 l3 l4 l5 x16 h
noncomputable def f_X5_passNights_19 (t : Nat)  : Nat → Int32 → Int32 → Int32 → Int32 → Int32 → Int32 → HP → Option HP
  | 0, _, _, _, _, _, _, _ => none
  | n + 1, l1, l2, l3, l4, l5, l6, h =>
    if l1 < l6 then
    (ltv (uI h t 14 ((hI h t 14) + l1)) fun g4 =>
    some g4)
    else
    bd1 (f_X5_passNight h t) fun h6 =>
    ltv ((l6 - l3) : Int32) fun x7 =>
    if (hI h6 t 13) = l2 then
    (if x7 ≤ (0 : Int32) then
    (f_X5_passNights_89 t (f_X5_passNights_19 t n) l1 l2 l3 l4 l5 l6 x7 h6)
    else
    gdv (¬ x7 = (0 : Int32)) <|
    ltv (((l1 - l6) / x7) : Int32) fun x11 =>
    ltv (uI h6 t 15 ((hI h6 t 15) + (x11 * ((hI h6 t 15) - l4)))) fun g12 =>
    ltv ((l6 + (x11 * x7)) : Int32) fun x13 =>
    ltv (x13 + 1 : Int32) fun x14 =>
    f_X5_passNights_19 t n l1 l2 l3 l4 l5 x14 g12)
    else
    f_X5_passNights_89 t (f_X5_passNights_19 t n) l1 l2 l3 l4 l5 l6 x7 h6
noncomputable def f_X5_passNights (h : HP) (t : Nat) (a1 : Int32) : Option HP :=
  ltv ((hI h t 13) : Int32) fun x1 =>
  ltv ((hI h t 15) : Int32) fun x2 =>
  f_X5_passNights_19 t FU a1 x1 0 x2 1 1 h
noncomputable def f_X5_lookAtRules_2 (t : Nat)  : Nat → Int32 → HP → Option HP
  | 0, _, _ => none
  | n + 1, l1, h =>
    if (hI h t 10) ≤ l1 then
    (some h)
    else
    gdi l1 4 <|
    gdi l1 4 <|
    bd2 (f_X1_step h (t + 1) (hI h t 13) (hI h (t + 10) (Int32.toNatClampNeg l1)) (hI h (t + 11) (Int32.toNatClampNeg l1))) fun r6 h5 =>
    bd2 (f_J6_bitCount_0f7a4 h5 r6) fun r9 h8 =>
    gdi l1 4 <|
    ltv (uI h8 (t + 16) (Int32.toNatClampNeg l1) r9) fun g11 =>
    ltv (l1 + 1 : Int32) fun x12 =>
    f_X5_lookAtRules_2 t n x12 g11
noncomputable def f_X5_lookAtRules (h : HP) (t : Nat)  : Option HP :=
  f_X5_lookAtRules_2 t FU 0 h
noncomputable def f_X5_holdElection_26 (t : Nat)  : Nat → Int32 → Int32 → Int32 → HP → Option (Int32 × HP)
  | 0, _, _, _, _ => none
  | n + 1, l1, l2, l3, h =>
    if (hI h t 10) ≤ l3 then
    (ltv (uI h t 12 l1) fun g6 =>
    some (1, g6))
    else
    bd2 (f_X5_countVotes h t l3) fun r9 h8 =>
    if r9 ≤ l2 then
    (ltv (l3 + 1 : Int32) fun x11 =>
    f_X5_holdElection_26 t n l1 l2 x11 h8)
    else
    ltv (l3 + 1 : Int32) fun x12 =>
    f_X5_holdElection_26 t n l3 r9 x12 h8
noncomputable def f_X5_holdElection (h : HP) (t : Nat)  : Option (Int32 × HP) :=
  if (hI h t 10) = (0 : Int32) then
  (some (0, h))
  else
  if (hI h t 11) = (0 : Int32) then
  (some (0, h))
  else
  bd1 (f_X5_lookAtRules h t) fun h4 =>
  f_X5_holdElection_26 t FU 0 (-1) 0 h4
noncomputable def f_X10_takeRest (h : HP) (t : Nat) (y : Nat) (a3 : Int32) : Option (Int32 × HP) :=
  gdi a3 60 <|
  ltv ((hI h (y + 1) (Int32.toNatClampNeg a3)) : Int32) fun x2 =>
  if x2 = 9 then
  (bd2 (f_X10_takeFirst h y a3 1 99) fun r6 h5 =>
  gdv (is01 r6) <|
  some (r6, h5))
  else
  if x2 = 10 then
  (bd2 (f_X10_takePlace h t y a3) fun r11 h10 =>
  gdv (is01 r11) <|
  some (r11, h10))
  else
  if x2 = 11 then
  (bd2 (f_X10_takeRuleName h t y a3) fun r16 h15 =>
  gdv (is01 r16) <|
  some (r16, h15))
  else
  if x2 = 12 then
  (some (1, h))
  else
  if x2 = 13 then
  (bd2 (f_X10_takeFirst h y a3 0 16) fun r22 h21 =>
  gdv (is01 r22) <|
  some (r22, h21))
  else
  if x2 = 14 then
  (some (1, h))
  else
  if x2 = 15 then
  (bd2 (f_X10_takeTest h t y a3) fun r28 h27 =>
  gdv (is01 r28) <|
  some (r28, h27))
  else
  if x2 = 16 then
  (some (1, h))
  else
  if x2 = 17 then
  (some (1, h))
  else
  if x2 = 18 then
  (some (1, h))
  else
  if x2 = 19 then
  (bd2 (f_X10_takeFirst h y a3 1 99) fun r36 h35 =>
  gdv (is01 r36) <|
  some (r36, h35))
  else
  some (1, h)
noncomputable def f_X10_takeStepWord_65 (y : Nat)  (l2 : Int32) (h : HP) : Option (Int32 × HP) :=
  bd1 (f_X9_add h y l2) fun h35 =>
  ltv (uI h35 y 7 ((hI h35 y 7) + 1)) fun g36 =>
  bd1 (f_X4_advance g36) fun h38 =>
  some (1, h38)
noncomputable def f_X10_takeStepWord (h : HP) (y : Nat)  : Option (Int32 × HP) :=
  bd2 (f_X4_wordNumber h) fun r3 h2 =>
  bd2 (f_X10_isStep h2 r3) fun r6 h5 =>
  if r6 = (0 : Int32) then
  (bd2 (f_X4_fail h5 2) fun r32 h31 =>
  gdv (is01 r32) <|
  some (r32, h31))
  else
  if 30 ≤ (hI h5 y 7) then
  (bd2 (f_X4_fail h5 6) fun r11 h10 =>
  gdv (is01 r11) <|
  some (r11, h10))
  else
  if (hI h5 y 6) < 60 then
  (bd2 (f_X9_isBlock h5 r3) fun r16 h15 =>
  if r16 = (0 : Int32) then
  (f_X10_takeStepWord_65 y r3 h15)
  else
  bd2 (f_X9_countOpen h15 y) fun r20 h19 =>
  if r20 < 3 then
  (f_X10_takeStepWord_65 y r3 h19)
  else
  bd2 (f_X4_fail h19 7) fun r24 h23 =>
  gdv (is01 r24) <|
  some (r24, h23))
  else
  bd2 (f_X4_fail h5 6) fun r28 h27 =>
  gdv (is01 r28) <|
  some (r28, h27)
noncomputable def f_X10_takeEnd (h : HP) (y : Nat)  : Option (Int32 × HP) :=
  bd2 (f_X9_openEntry h y) fun r3 h2 =>
  ltv ((hI h2 y 6) : Int32) fun x4 =>
  if r3 < (0 : Int32) then
  (bd2 (f_X4_fail h2 2) fun r8 h7 =>
  gdv (is01 r8) <|
  some (r8, h7))
  else
  if x4 < 60 then
  (bd1 (f_X9_add h2 y 20) fun h12 =>
  gdi r3 60 <|
  ltv (uI h12 (y + 5) (Int32.toNatClampNeg r3) x4) fun g14 =>
  gdi x4 60 <|
  ltv (uI g14 (y + 5) (Int32.toNatClampNeg x4) r3) fun g16 =>
  bd1 (f_X4_advance g16) fun h18 =>
  some (1, h18))
  else
  bd2 (f_X4_fail h2 2) fun r21 h20 =>
  gdv (is01 r21) <|
  some (r21, h20)
noncomputable def f_X10_takeYear_62 (t : Nat) (y : Nat) (K2 : Int32 → HP → Option (Int32 × HP)) (l3 : Int32) (s0 : Int32) (h : HP) : Option (Int32 × HP) :=
  if s0 = (0 : Int32) then
  (some (0, h))
  else
  bd2 (f_X4_takeSign h 59) fun r25 h24 =>
  if r25 = (0 : Int32) then
  (some (0, h24))
  else
  ltv (l3 + 1 : Int32) fun x27 =>
  K2 x27 h24
noncomputable def f_X10_takeYear_86 (t : Nat) (y : Nat)   (h : HP) : Option (Int32 × HP) :=
  bd2 (f_X9_countOpen h y) fun r30 h29 =>
  if r30 = (0 : Int32) then
  (some (1, h29))
  else
  bd2 (f_X4_fail h29 2) fun r34 h33 =>
  if r34 = (0 : Int32) then
  (some (0, h33))
  else
  some (1, h33)
noncomputable def f_X10_takeYear_2 (t : Nat) (y : Nat)  : Nat → Int32 → HP → Option (Int32 × HP)
  | 0, _, _ => none
  | n + 1, l3, h =>
    if 60 < l3 then
    (f_X10_takeYear_86 t y h)
    else
    bd2 (f_X4_isEnd h) fun r4 h3 =>
    if r4 = (0 : Int32) then
    (ltv ((hI h3 y 6) : Int32) fun x6 =>
    bd2 (f_X4_isWord h3 20) fun r9 h8 =>
    if r9 = (0 : Int32) then
    (bd2 (f_X10_takeStepWord h8 y) fun r13 h12 =>
    if r13 = (0 : Int32) then
    (f_X10_takeYear_62 t y (f_X10_takeYear_2 t y n) l3 0 h12)
    else
    bd2 (f_X10_takeRest h12 t y x6) fun r17 h16 =>
    if r17 = (0 : Int32) then
    (f_X10_takeYear_62 t y (f_X10_takeYear_2 t y n) l3 0 h16)
    else
    f_X10_takeYear_62 t y (f_X10_takeYear_2 t y n) l3 1 h16)
    else
    bd2 (f_X10_takeEnd h8 y) fun r21 h20 =>
    f_X10_takeYear_62 t y (f_X10_takeYear_2 t y n) l3 r21 h20)
    else
    f_X10_takeYear_86 t y h3
noncomputable def f_X10_takeYear (h : HP) (t : Nat) (y : Nat)  : Option (Int32 × HP) :=
  f_X10_takeYear_2 t y FU 0 h
noncomputable def f_X2_draw (h : HP) (v : Nat) (a1 : Int32) : Option (Int32 × HP) :=
  ltv (uI h v 1 ((((hI h v 1) * 2879) + 11083) - (((hI h v 1) * 2879) + 11083) / 65536 * 65536)) fun g1 =>
  if a1 ≤ (0 : Int32) then
  (some (0, g1))
  else
  gdv (¬ a1 = (0 : Int32)) <|
  some ((((hI g1 v 1) / 8) - ((hI g1 v 1) / 8) / a1 * a1), g1)
noncomputable def f_X2_turnLamp (h : HP) (v : Nat) (t : Nat) (a2 : Int32) (a3 : Int32) : Option HP :=
  bd2 (f_X1_placeOf h (t + 1) a2 a3) fun r3 h2 =>
  ltv (((1 : Int32) <<< (r3 &&& 31)) : Int32) fun x4 =>
  if ((hI h2 (t + 1) 5) &&& x4) = (0 : Int32) then
  (ltv (uI h2 v 3 ((hI h2 v 3) + 1)) fun g7 =>
  some g7)
  else
  ltv (uI h2 t 13 ((hI h2 t 13) ^^^ x4)) fun g6 =>
  some g6
noncomputable def f_X2_blow_16 (v : Nat) (t : Nat)  : Nat → Int32 → Int32 → Int32 → HP → Option HP
  | 0, _, _, _, _ => none
  | n + 1, l2, l3, l4, h =>
    if 30 ≤ l4 then
    (some h)
    else
    ltv (((1 : Int32) <<< (l4 &&& 31)) : Int32) fun x3 =>
    if (l3 &&& x3) = (0 : Int32) then
    (ltv (l4 + 1 : Int32) fun x5 =>
    f_X2_blow_16 v t n l2 l3 x5 h)
    else
    bd2 (f_X2_draw h v 16) fun r8 h7 =>
    if l2 ≤ r8 then
    (ltv (l4 + 1 : Int32) fun x10 =>
    f_X2_blow_16 v t n l2 l3 x10 h7)
    else
    ltv (uI h7 t 13 ((hI h7 t 13) &&& (x3 ^^^ (-1)))) fun g11 =>
    ltv (uI g11 v 5 ((hI g11 v 5) + 1)) fun g12 =>
    ltv (l4 + 1 : Int32) fun x13 =>
    f_X2_blow_16 v t n l2 l3 x13 g12
noncomputable def f_X2_blow (h : HP) (v : Nat) (t : Nat) (a2 : Int32) : Option HP :=
  ltv (((hI h t 13) &&& (hI h (t + 1) 5)) : Int32) fun x1 =>
  f_X2_blow_16 v t FU a2 x1 0 h
noncomputable def f_X2_bear (h : HP) (v : Nat) (t : Nat)  : Option HP :=
  bd2 (f_X2_draw h v (hI h (t + 1) 0)) fun r3 h2 =>
  bd2 (f_X2_draw h2 v (hI h2 (t + 1) 1)) fun r6 h5 =>
  bd2 (f_X1_placeOf h5 (t + 1) r3 r6) fun r9 h8 =>
  ltv (((1 : Int32) <<< (r9 &&& 31)) : Int32) fun x10 =>
  if (((hI h8 (t + 1) 5) &&& ((hI h8 t 13) ^^^ (-1))) &&& x10) = (0 : Int32) then
  (ltv (uI h8 v 3 ((hI h8 v 3) + 1)) fun g14 =>
  some g14)
  else
  ltv (uI h8 t 13 ((hI h8 t 13) ||| x10)) fun g12 =>
  ltv (uI g12 v 6 ((hI g12 v 6) + 1)) fun g13 =>
  some g13
noncomputable def f_X2_isTrue (h : HP) (v : Nat) (t : Nat) (a2 : Int32) : Option (Int32 × HP) :=
  gdi a2 60 <|
  ltv ((hI h (t + 3 + 3) (Int32.toNatClampNeg a2)) : Int32) fun x2 =>
  bd2 (f_J6_bitCount_0f7a4 h (hI h t 13)) fun r5 h4 =>
  gdi a2 60 <|
  ltv ((hI h4 (t + 3 + 2) (Int32.toNatClampNeg a2)) : Int32) fun x7 =>
  if x7 = 17 then
  (gdi a2 60 <|
  bd2 (f_X1_placeOf h4 (t + 1) x2 (hI h4 (t + 3 + 4) (Int32.toNatClampNeg a2))) fun r12 h11 =>
  if (((hI h4 t 13) >>> (r12 &&& 31)) &&& 1) = (0 : Int32) then
  (some (0, h11))
  else
  some (1, h11))
  else
  if x7 = 18 then
  (bd2 (f_X5_isStill h4 t) fun r17 h16 =>
  gdv (is01 r17) <|
  some (r17, h16))
  else
  if x7 = 60 then
  (if x2 ≤ r5 then
  (some (0, h4))
  else
  some (1, h4))
  else
  if x7 = 62 then
  (if r5 ≤ x2 then
  (some (0, h4))
  else
  some (1, h4))
  else
  if r5 = x2 then
  (some (1, h4))
  else
  some (0, h4)
noncomputable def f_X2_leaveBlock (h : HP) (v : Nat) (y : Nat) (a2 : Int32) : Option (Int32 × HP) :=
  gdi a2 60 <|
  ltv ((hI h (y + 5) (Int32.toNatClampNeg a2)) : Int32) fun x2 =>
  gdi x2 60 <|
  if (hI h (y + 1) (Int32.toNatClampNeg x2)) = 19 then
  (gdi x2 60 <|
  gdi x2 60 <|
  ltv (uI h (v + 1) (Int32.toNatClampNeg x2) ((hI h (v + 1) (Int32.toNatClampNeg x2)) - 1)) fun g7 =>
  gdi x2 60 <|
  if (hI g7 (v + 1) (Int32.toNatClampNeg x2)) ≤ (0 : Int32) then
  (some ((a2 + 1), g7))
  else
  some ((x2 + 1), g7))
  else
  some ((a2 + 1), h)
noncomputable def f_X2_doStep_203 (v : Nat) (t : Nat)  (l2 : Int32) (h : HP) : Option (Int32 × HP) :=
  some ((l2 + 1), h)
noncomputable def f_X2_doStep (h : HP) (v : Nat) (t : Nat) (a2 : Int32) : Option (Int32 × HP) :=
  gdi a2 60 <|
  ltv ((hI h (t + 3 + 3) (Int32.toNatClampNeg a2)) : Int32) fun x2 =>
  gdi a2 60 <|
  ltv ((hI h (t + 3 + 1) (Int32.toNatClampNeg a2)) : Int32) fun x4 =>
  if x4 = 9 then
  (bd1 (f_X5_passNights h t x2) fun h7 =>
  ltv (uI h7 v 4 ((hI h7 v 4) + x2)) fun g8 =>
  f_X2_doStep_203 v t a2 g8)
  else
  if x4 = 10 then
  (gdi a2 60 <|
  bd1 (f_X2_turnLamp h v t x2 (hI h (t + 3 + 4) (Int32.toNatClampNeg a2))) fun h12 =>
  f_X2_doStep_203 v t a2 h12)
  else
  if x4 = 11 then
  (ltv (uI h t 12 x2) fun g14 =>
  f_X2_doStep_203 v t a2 g14)
  else
  if x4 = 12 then
  (bd2 (f_X5_holdElection h t) fun r18 h17 =>
  if r18 = (0 : Int32) then
  (ltv (uI h17 v 3 ((hI h v 3) + 1)) fun g20 =>
  f_X2_doStep_203 v t a2 g20)
  else
  ltv (uI h17 v 3 ((hI h v 3) + 0)) fun g21 =>
  f_X2_doStep_203 v t a2 g21)
  else
  if x4 = 13 then
  (bd1 (f_X2_blow h v t x2) fun h24 =>
  f_X2_doStep_203 v t a2 h24)
  else
  if x4 = 14 then
  (bd1 (f_X2_bear h v t) fun h27 =>
  f_X2_doStep_203 v t a2 h27)
  else
  if x4 = 15 then
  (bd2 (f_X2_isTrue h v t a2) fun r31 h30 =>
  if r31 = (0 : Int32) then
  (gdi a2 60 <|
  some (((hI h30 (t + 3 + 5) (Int32.toNatClampNeg a2)) + 1), h30))
  else
  some ((a2 + 1), h30))
  else
  if x4 = 16 then
  (some ((hI h (t + 3) 6), h))
  else
  if x4 = 17 then
  (some ((hI h (t + 3) 6), h))
  else
  if x4 = 18 then
  (some ((hI h (t + 3) 6), h))
  else
  if x4 = 19 then
  (gdi a2 60 <|
  ltv (uI h (v + 1) (Int32.toNatClampNeg a2) x2) fun g39 =>
  f_X2_doStep_203 v t a2 g39)
  else
  some ((hI h (t + 3) 6), h)
noncomputable def f_X2_liveBy_46 (v : Nat) (t : Nat)  : Nat → Int32 → Int32 → HP → Option HP
  | 0, _, _, _ => none
  | n + 1, l4, l5, h =>
    if 100000 ≤ l5 then
    (some h)
    else
    if (hI h (t + 3) 6) ≤ l4 then
    (some h)
    else
    gdi l4 60 <|
    if (hI h (t + 3 + 1) (Int32.toNatClampNeg l4)) = 20 then
    (bd2 (f_X2_leaveBlock h v (t + 3) l4) fun r21 h20 =>
    ltv (l5 + 1 : Int32) fun x22 =>
    f_X2_liveBy_46 v t n r21 x22 h20)
    else
    if 300 ≤ (hI h v 2) then
    (ltv (uI h v 7 1) fun g13 =>
    some g13)
    else
    ltv (uI h v 2 ((hI h v 2) + 1)) fun g14 =>
    bd2 (f_X2_doStep g14 v t l4) fun r17 h16 =>
    ltv (l5 + 1 : Int32) fun x18 =>
    f_X2_liveBy_46 v t n r17 x18 h16
noncomputable def f_X2_liveBy (h : HP) (v : Nat) (t : Nat) (a2 : Int32) : Option HP :=
  ltv (uI h v 1 a2) fun g1 =>
  ltv (uI g1 v 2 0) fun g2 =>
  ltv (uI g2 v 3 0) fun g3 =>
  ltv (uI g3 v 4 0) fun g4 =>
  ltv (uI g4 v 5 0) fun g5 =>
  ltv (uI g5 v 6 0) fun g6 =>
  ltv (uI g6 v 7 0) fun g7 =>
  f_X2_liveBy_46 v t FU 0 0 g7
noncomputable def f_X3_moveToCorner_64 (hill : Nat)  : Nat → HP → Option HP
  | 0, _ => none
  | n + 1, h =>
    if (hI h hill 0) ≤ (hI h 72 6) then
    (some h)
    else
    if ((hI h 72 5) &&& (hI h hill 7)) = (0 : Int32) then
    (ltv (uI h 72 5 ((hI h 72 5) >>> (1 &&& 31))) fun g13 =>
    ltv (uI g13 72 6 ((hI g13 72 6) + 1)) fun g14 =>
    f_X3_moveToCorner_64 hill n g14)
    else
    some h
noncomputable def f_X3_moveToCorner_15 (hill : Nat)  : Nat → HP → Option HP
  | 0, _ => none
  | n + 1, h =>
    if (hI h hill 1) ≤ (hI h 72 7) then
    (f_X3_moveToCorner_64 hill FU h)
    else
    bd2 (f_X1_rowMask h hill) fun r7 h6 =>
    if ((hI h 72 5) &&& r7) = (0 : Int32) then
    (ltv (uI h6 72 5 ((hI h6 72 5) >>> ((hI h6 hill 0) &&& 31))) fun g9 =>
    ltv (uI g9 72 7 ((hI g9 72 7) + 1)) fun g10 =>
    f_X3_moveToCorner_15 hill n g10)
    else
    f_X3_moveToCorner_64 hill FU h6
noncomputable def f_X3_moveToCorner (h : HP) (hill : Nat) (a2 : Int32) : Option HP :=
  ltv (uI h 72 5 a2) fun g1 =>
  ltv (uI g1 72 6 0) fun g2 =>
  ltv (uI g2 72 7 0) fun g3 =>
  f_X3_moveToCorner_15 hill FU g3
noncomputable def f_X3_findRoundLength_57 (t : Nat) (K22 : Int32 → Int32 → Int32 → Int32 → HP → Option (Int32 × HP)) (l2 : Int32) (l3 : Int32) (l4 : Int32) (l5 : Int32) (h : HP) : Option (Int32 × HP) :=
  bd2 (f_X5_nextOf h t l3) fun r15 h14 =>
  ltv (uI h14 72 1 ((hI h14 72 1) + 1)) fun g16 =>
  ltv (l5 + 1 : Int32) fun x17 =>
  K22 l2 r15 l4 x17 g16
noncomputable def f_X3_findRoundLength_22 (t : Nat)  : Nat → Int32 → Int32 → Int32 → Int32 → HP → Option (Int32 × HP)
  | 0, _, _, _, _, _ => none
  | n + 1, l2, l3, l4, l5, h =>
    if 8192 ≤ l5 then
    (if l3 = l2 then
    (some (1, h))
    else
    some (0, h))
    else
    if l3 = l2 then
    (if l3 = l2 then
    (some (1, h))
    else
    some (0, h))
    else
    if (hI h 72 1) = l4 then
    (ltv ((l4 * 2) : Int32) fun x11 =>
    ltv (uI h 72 1 0) fun g12 =>
    f_X3_findRoundLength_57 t (f_X3_findRoundLength_22 t n) l3 l3 x11 l5 g12)
    else
    f_X3_findRoundLength_57 t (f_X3_findRoundLength_22 t n) l2 l3 l4 l5 h
noncomputable def f_X3_findRoundLength (h : HP) (t : Nat)  : Option (Int32 × HP) :=
  ltv ((hI h t 13) : Int32) fun x1 =>
  bd2 (f_X5_nextOf h t x1) fun r4 h3 =>
  ltv (uI h3 72 1 1) fun g5 =>
  f_X3_findRoundLength_22 t FU x1 r4 1 0 g5
noncomputable def f_X3_findRound_75 (t : Nat)  (l2 : Int32) (l3 : Int32) (h : HP) : Option (Int32 × HP) :=
  if l2 = l3 then
  (if 2000 < ((hI h 72 0) + (hI h 72 1)) then
  (some (0, h))
  else
  some (1, h))
  else
  some (0, h)
noncomputable def f_X3_findRound_30 (t : Nat)  : Nat → Int32 → Int32 → HP → Option (Int32 × HP)
  | 0, _, _, _ => none
  | n + 1, l2, l3, h =>
    if l2 = l3 then
    (f_X3_findRound_75 t l2 l3 h)
    else
    if 2000 ≤ ((hI h 72 0) + (hI h 72 1)) then
    (f_X3_findRound_75 t l2 l3 h)
    else
    bd2 (f_X5_nextOf h t l2) fun r14 h13 =>
    bd2 (f_X5_nextOf h13 t l3) fun r17 h16 =>
    ltv (uI h16 72 0 ((hI h16 72 0) + 1)) fun g18 =>
    f_X3_findRound_30 t n r14 r17 g18
noncomputable def f_X3_findRound (h : HP) (t : Nat)  : Option (Int32 × HP) :=
  bd2 (f_X3_findRoundLength h t) fun r3 h2 =>
  if r3 = (0 : Int32) then
  (some (0, h2))
  else
  ltv ((hI h2 t 13) : Int32) fun x5 =>
  bd2 (f_X5_after h2 t x5 (hI h2 72 1)) fun r8 h7 =>
  ltv (uI h7 72 0 0) fun g9 =>
  f_X3_findRound_30 t FU x5 r8 g9
noncomputable def f_X3_farAhead_34 (t : Nat)  (l3 : Int32) (h : HP) : Option (Int32 × HP) :=
  bd2 (f_X5_after h t (hI h t 13) l3) fun r7 h6 =>
  some (r7, h6)
noncomputable def f_X3_farAhead (h : HP) (t : Nat) (a2 : Int32) : Option (Int32 × HP) :=
  if a2 ≤ (hI h 72 0) then
  (f_X3_farAhead_34 t a2 h)
  else
  if (hI h 72 1) ≤ (0 : Int32) then
  (f_X3_farAhead_34 t a2 h)
  else
  gdv (¬ (hI h 72 1) = (0 : Int32)) <|
  ltv (((hI h 72 0) + ((a2 - (hI h 72 0)) - (a2 - (hI h 72 0)) / (hI h 72 1) * (hI h 72 1))) : Int32) fun x4 =>
  f_X3_farAhead_34 t x4 h
noncomputable def f_X3_findWalk_46 (t : Nat)  : Nat → Int32 → Int32 → Int32 → Int32 → Int32 → HP → Option (Int32 × HP)
  | 0, _, _, _, _, _, _ => none
  | n + 1, l2, l3, l4, l5, l6, h =>
    if 60 < l6 then
    (some (0, h))
    else
    bd2 (f_X5_nextOf h t l5) fun r11 h10 =>
    bd1 (f_X3_moveToCorner h10 (t + 1) r11) fun h13 =>
    if (hI h13 72 5) = l2 then
    (ltv (uI h13 72 2 l6) fun g16 =>
    ltv (uI g16 72 3 ((hI g16 72 6) - l3)) fun g17 =>
    ltv (uI g17 72 4 ((hI g17 72 7) - l4)) fun g18 =>
    some (1, g18))
    else
    ltv (l6 + 1 : Int32) fun x15 =>
    f_X3_findWalk_46 t n l2 l3 l4 r11 x15 h13
noncomputable def f_X3_findWalk (h : HP) (t : Nat)  : Option (Int32 × HP) :=
  if (hI h t 13) = (0 : Int32) then
  (some (0, h))
  else
  bd1 (f_X3_moveToCorner h (t + 1) (hI h t 13)) fun h3 =>
  ltv ((hI h3 72 5) : Int32) fun x4 =>
  ltv ((hI h3 72 6) : Int32) fun x5 =>
  ltv ((hI h3 72 7) : Int32) fun x6 =>
  ltv ((hI h3 t 13) : Int32) fun x7 =>
  f_X3_findWalk_46 t FU x4 x5 x6 x7 1 h3
noncomputable def f_X8_listLamps_7   : Nat → Int32 → Int32 → HP → Option HP
  | 0, _, _, _ => none
  | n + 1, l1, l2, h =>
    if 30 ≤ l2 then
    (some h)
    else
    if (l1 &&& ((1 : Int32) <<< (l2 &&& 31))) = (0 : Int32) then
    (ltv (l2 + 1 : Int32) fun x4 =>
    f_X8_listLamps_7 n l1 x4 h)
    else
    gdi (hI h 73 1) 30 <|
    ltv (uI h 74 (Int32.toNatClampNeg (hI h 73 1)) ((1 : Int32) <<< (l2 &&& 31))) fun g6 =>
    ltv (uI g6 73 1 ((hI g6 73 1) + 1)) fun g7 =>
    ltv (l2 + 1 : Int32) fun x8 =>
    f_X8_listLamps_7 n l1 x8 g7
noncomputable def f_X8_listLamps (h : HP)  (a1 : Int32) : Option HP :=
  ltv (uI h 73 1 0) fun g1 =>
  f_X8_listLamps_7 FU a1 0 g1
noncomputable def f_X8_near_5 (hill : Nat)  : Nat → Int32 → Int32 → Int32 → HP → Option (Int32 × HP)
  | 0, _, _, _, _ => none
  | n + 1, l2, l3, l4, h =>
    if l2 ≤ l4 then
    (some (l3, h))
    else
    bd2 (f_X1_around h hill l3) fun r4 h3 =>
    ltv ((l3 ||| r4) : Int32) fun x5 =>
    ltv (l4 + 1 : Int32) fun x6 =>
    f_X8_near_5 hill n l2 x5 x6 h3
noncomputable def f_X8_near (h : HP) (hill : Nat) (a1 : Int32) (a2 : Int32) : Option (Int32 × HP) :=
  f_X8_near_5 hill FU a2 a1 0 h
noncomputable def f_X8_countSpoilt (h : HP) (t : Nat) (a1 : Int32) (a2 : Int32) : Option (Int32 × HP) :=
  bd2 (f_X5_after h t (hI h t 13) a2) fun r3 h2 =>
  bd2 (f_X5_after h2 t ((hI h2 t 13) ^^^ a1) a2) fun r6 h5 =>
  bd2 (f_J6_bitCount_0f7a4 h5 (r3 ^^^ r6)) fun r9 h8 =>
  some (r9, h8)
noncomputable def f_X8_trySet (h : HP) (t : Nat) (a2 : Int32) (a3 : Int32) (a4 : Int32) : Option (Int32 × HP) :=
  bd2 (f_X5_after h t ((hI h t 13) ^^^ a2) a4) fun r3 h2 =>
  if (r3 &&& a3) = (0 : Int32) then
  (some (0, h2))
  else
  ltv (uI h2 73 2 a2) fun g5 =>
  some (1, g5)
noncomputable def f_X8_tryOnes_3 (t : Nat)  : Nat → Int32 → Int32 → Int32 → HP → Option (Int32 × HP)
  | 0, _, _, _, _ => none
  | n + 1, l2, l3, l4, h =>
    if (hI h 73 1) ≤ l4 then
    (some (0, h))
    else
    gdi l4 30 <|
    bd2 (f_X8_trySet h t (hI h 74 (Int32.toNatClampNeg l4)) l2 l3) fun r5 h4 =>
    if r5 = (0 : Int32) then
    (ltv (l4 + 1 : Int32) fun x7 =>
    f_X8_tryOnes_3 t n l2 l3 x7 h4)
    else
    some (1, h4)
noncomputable def f_X8_tryOnes (h : HP) (t : Nat) (a2 : Int32) (a3 : Int32) : Option (Int32 × HP) :=
  f_X8_tryOnes_3 t FU a2 a3 0 h
noncomputable def f_X8_tryTwos_15 (t : Nat) (K3 : Int32 → Int32 → Int32 → HP → Option (Int32 × HP)) : Nat → Int32 → Int32 → Int32 → Int32 → HP → Option (Int32 × HP)
  | 0, _, _, _, _, _ => none
  | n + 1, l2, l3, l4, l5, h =>
    if l4 ≤ l5 then
    (ltv (l4 + 1 : Int32) fun x3 =>
    K3 l2 l3 x3 h)
    else
    gdi l4 30 <|
    gdi l5 30 <|
    bd2 (f_X8_trySet h t ((hI h 74 (Int32.toNatClampNeg l4)) ||| (hI h 74 (Int32.toNatClampNeg l5))) l2 l3) fun r8 h7 =>
    if r8 = (0 : Int32) then
    (ltv (l5 + 1 : Int32) fun x10 =>
    f_X8_tryTwos_15 t K3 n l2 l3 l4 x10 h7)
    else
    some (1, h7)
noncomputable def f_X8_tryTwos_3 (t : Nat)  : Nat → Int32 → Int32 → Int32 → HP → Option (Int32 × HP)
  | 0, _, _, _, _ => none
  | n + 1, l2, l3, l4, h =>
    if (hI h 73 1) ≤ l4 then
    (some (0, h))
    else
    f_X8_tryTwos_15 t (f_X8_tryTwos_3 t n) FU l2 l3 l4 0 h
noncomputable def f_X8_tryTwos (h : HP) (t : Nat) (a2 : Int32) (a3 : Int32) : Option (Int32 × HP) :=
  f_X8_tryTwos_3 t FU a2 a3 1 h
noncomputable def f_X8_tryThrees_25 (t : Nat) (K15 : Int32 → Int32 → Int32 → Int32 → HP → Option (Int32 × HP)) : Nat → Int32 → Int32 → Int32 → Int32 → Int32 → HP → Option (Int32 × HP)
  | 0, _, _, _, _, _, _ => none
  | n + 1, l2, l3, l4, l5, l6, h =>
    if l5 ≤ l6 then
    (ltv (l5 + 1 : Int32) fun x5 =>
    K15 l2 l3 l4 x5 h)
    else
    gdi l4 30 <|
    gdi l5 30 <|
    gdi l6 30 <|
    bd2 (f_X8_trySet h t (((hI h 74 (Int32.toNatClampNeg l4)) ||| (hI h 74 (Int32.toNatClampNeg l5))) ||| (hI h 74 (Int32.toNatClampNeg l6))) l2 l3) fun r11 h10 =>
    if r11 = (0 : Int32) then
    (ltv (l6 + 1 : Int32) fun x13 =>
    f_X8_tryThrees_25 t K15 n l2 l3 l4 l5 x13 h10)
    else
    some (1, h10)
noncomputable def f_X8_tryThrees_15 (t : Nat) (K3 : Int32 → Int32 → Int32 → HP → Option (Int32 × HP)) : Nat → Int32 → Int32 → Int32 → Int32 → HP → Option (Int32 × HP)
  | 0, _, _, _, _, _ => none
  | n + 1, l2, l3, l4, l5, h =>
    if l4 ≤ l5 then
    (ltv (l4 + 1 : Int32) fun x3 =>
    K3 l2 l3 x3 h)
    else
    f_X8_tryThrees_25 t (f_X8_tryThrees_15 t K3 n) FU l2 l3 l4 l5 0 h
noncomputable def f_X8_tryThrees_3 (t : Nat)  : Nat → Int32 → Int32 → Int32 → HP → Option (Int32 × HP)
  | 0, _, _, _, _ => none
  | n + 1, l2, l3, l4, h =>
    if (hI h 73 1) ≤ l4 then
    (some (0, h))
    else
    f_X8_tryThrees_15 t (f_X8_tryThrees_3 t n) FU l2 l3 l4 1 h
noncomputable def f_X8_tryThrees (h : HP) (t : Nat) (a2 : Int32) (a3 : Int32) : Option (Int32 × HP) :=
  f_X8_tryThrees_3 t FU a2 a3 2 h
noncomputable def f_X8_findSignal (h : HP) (t : Nat) (a2 : Int32) (a3 : Int32) : Option (Int32 × HP) :=
  bd2 (f_X8_near h (t + 1) a2 a3) fun r3 h2 =>
  bd1 (f_X8_listLamps h2 ((hI h (t + 1) 5) &&& r3)) fun h5 =>
  bd2 (f_X8_trySet h5 t 0 a2 a3) fun r8 h7 =>
  if r8 = (0 : Int32) then
  (bd2 (f_X8_tryOnes h7 t a2 a3) fun r12 h11 =>
  if r12 = (0 : Int32) then
  (bd2 (f_X8_tryTwos h11 t a2 a3) fun r16 h15 =>
  if r16 = (0 : Int32) then
  (bd2 (f_X8_tryThrees h15 t a2 a3) fun r20 h19 =>
  if r20 = (0 : Int32) then
  (some (0, h19))
  else
  some (1, h19))
  else
  some (1, h15))
  else
  some (1, h11))
  else
  some (1, h7)
noncomputable def f_X8_findWorst_7 (t : Nat)  : Nat → Int32 → Int32 → HP → Option HP
  | 0, _, _, _ => none
  | n + 1, l2, l3, h =>
    if 30 ≤ l3 then
    (some h)
    else
    if ((hI h (t + 1) 5) &&& ((1 : Int32) <<< (l3 &&& 31))) = (0 : Int32) then
    (ltv (l3 + 1 : Int32) fun x4 =>
    f_X8_findWorst_7 t n l2 x4 h)
    else
    bd2 (f_X8_countSpoilt h t ((1 : Int32) <<< (l3 &&& 31)) l2) fun r7 h6 =>
    if r7 ≤ (hI h6 73 4) then
    (ltv (l3 + 1 : Int32) fun x9 =>
    f_X8_findWorst_7 t n l2 x9 h6)
    else
    ltv (uI h6 73 4 r7) fun g10 =>
    ltv (uI g10 73 3 l3) fun g11 =>
    ltv (l3 + 1 : Int32) fun x12 =>
    f_X8_findWorst_7 t n l2 x12 g11
noncomputable def f_X8_findWorst (h : HP) (t : Nat) (a2 : Int32) : Option HP :=
  ltv (uI h 73 4 (-1)) fun g1 =>
  f_X8_findWorst_7 t FU a2 0 g1
noncomputable def f_X8_tryMend (h : HP) (t : Nat) (a2 : Int32) (a3 : Int32) : Option HP :=
  bd2 (f_X5_nextOf h t ((hI h t 13) ^^^ a2)) fun r3 h2 =>
  bd2 (f_X1_countUnlike h2 (t + 1) r3 a3) fun r6 h5 =>
  if (hI h5 73 5) ≤ r6 then
  (some h5)
  else
  ltv (uI h5 73 5 r6) fun g8 =>
  ltv (uI g8 73 2 a2) fun g9 =>
  some g9
noncomputable def f_X8_findMend_65 (t : Nat) (K54 : Int32 → Int32 → HP → Option HP) : Nat → Int32 → Int32 → Int32 → HP → Option HP
  | 0, _, _, _, _ => none
  | n + 1, l2, l3, l4, h =>
    if l3 ≤ l4 then
    (ltv (l3 + 1 : Int32) fun x13 =>
    K54 l2 x13 h)
    else
    gdi l3 30 <|
    gdi l4 30 <|
    bd1 (f_X8_tryMend h t ((hI h 74 (Int32.toNatClampNeg l3)) ||| (hI h 74 (Int32.toNatClampNeg l4))) l2) fun h17 =>
    ltv (l4 + 1 : Int32) fun x18 =>
    f_X8_findMend_65 t K54 n l2 l3 x18 h17
noncomputable def f_X8_findMend_54 (t : Nat)  : Nat → Int32 → Int32 → HP → Option HP
  | 0, _, _, _ => none
  | n + 1, l2, l3, h =>
    if (hI h 73 1) ≤ l3 then
    (some h)
    else
    f_X8_findMend_65 t (f_X8_findMend_54 t n) FU l2 l3 0 h
noncomputable def f_X8_findMend_26 (t : Nat)  : Nat → Int32 → Int32 → HP → Option HP
  | 0, _, _, _ => none
  | n + 1, l2, l3, h =>
    if (hI h 73 1) ≤ l3 then
    (f_X8_findMend_54 t FU l2 1 h)
    else
    gdi l3 30 <|
    bd1 (f_X8_tryMend h t (hI h 74 (Int32.toNatClampNeg l3)) l2) fun h9 =>
    ltv (l3 + 1 : Int32) fun x10 =>
    f_X8_findMend_26 t n l2 x10 h9
noncomputable def f_X8_findMend (h : HP) (t : Nat) (a2 : Int32) : Option HP :=
  bd1 (f_X8_listLamps h (hI h (t + 1) 5)) fun h2 =>
  ltv (uI h2 73 5 100) fun g3 =>
  bd1 (f_X8_tryMend g3 t 0 a2) fun h5 =>
  f_X8_findMend_26 t FU a2 0 h5
noncomputable def f_X0_wrongIn (h : HP)  (a1 : Int32) (a2 : Int32) (a3 : Int32) (a4 : Int32) : Option (Int32 × HP) :=
  ltv (((a2 ||| (a3 <<< ((hI h 67 0) &&& 31))) ||| (a4 <<< (((2 : Int32) * (hI h 67 0)) &&& 31))) : Int32) fun x1 =>
  bd2 (f_X1_step h 67 x1 (hI h 65 6) (hI h 65 7)) fun r4 h3 =>
  bd2 (f_X1_rowOf h3 67 r4 1) fun r7 h6 =>
  gdi a1 7 <|
  gdi a1 7 <|
  ltv (((r7 &&& (hI h6 69 (Int32.toNatClampNeg a1))) ||| (hI h6 70 (Int32.toNatClampNeg a1))) : Int32) fun x10 =>
  if (hI h6 65 8) = (0 : Int32) then
  (gdi a1 7 <|
  some ((x10 ^^^ (hI h6 71 (Int32.toNatClampNeg a1))), h6))
  else
  some ((x10 ^^^ a3), h6)
noncomputable def f_X0_chooseBelowPair_112   : Nat → Int32 → Int32 → Int32 → Int32 → Int32 → HP → Option HP
  | 0, _, _, _, _, _, _ => none
  | n + 1, l4, l9, l10, l11, l12, h =>
    if 32 ≤ l12 then
    (some h)
    else
    ltv ((l9 + l11) : Int32) fun x19 =>
    gdi x19 7168 <|
    gdi x19 7168 <|
    ltv (uI h 66 (Int32.toNatClampNeg x19) ((hI h 66 (Int32.toNatClampNeg x19)) + l4)) fun g22 =>
    if l11 = (0 : Int32) then
    (some g22)
    else
    ltv (((l11 - 1) &&& l10) : Int32) fun x24 =>
    ltv (l12 + 1 : Int32) fun x25 =>
    f_X0_chooseBelowPair_112 n l4 l9 l10 x24 x25 g22
noncomputable def f_X0_chooseBelowPair (h : HP)  (a1 : Int32) (a2 : Int32) (a3 : Int32) (a4 : Int32) : Option HP :=
  gdi (a1 + 1) 7 <|
  ltv ((hI h 69 (Int32.toNatClampNeg (a1 + 1))) : Int32) fun x2 =>
  gdi (a1 + 1) 7 <|
  ltv ((hI h 70 (Int32.toNatClampNeg (a1 + 1))) : Int32) fun x4 =>
  bd2 (f_X0_wrongIn h a1 a2 a3 0) fun r7 h6 =>
  bd2 (f_X1_rowMask h6 67) fun r10 h9 =>
  bd2 (f_X0_wrongIn h9 a1 a2 a3 r10) fun r13 h12 =>
  if ((r7 ||| x4) &&& r13) = (0 : Int32) then
  (if (r7 &&& ((x2 ||| x4) ^^^ (-1))) = (0 : Int32) then
  (ltv (((((a1 + 1) * 1024) + (a3 * 32)) + (r7 ||| x4)) : Int32) fun x16 =>
  ltv (((x2 &&& (r7 ^^^ (-1))) &&& (r13 ^^^ (-1))) : Int32) fun x17 =>
  f_X0_chooseBelowPair_112 FU a4 x16 x17 x17 0 h12)
  else
  some h12)
  else
  some h12
noncomputable def f_X0_chooseBelow_8   : Nat → Int32 → Int32 → Int32 → HP → Option HP
  | 0, _, _, _, _ => none
  | n + 1, l1, l2, l3, h =>
    if 1024 ≤ l3 then
    (some h)
    else
    gdi (l2 + l3) 7168 <|
    ltv ((hI h 66 (Int32.toNatClampNeg (l2 + l3))) : Int32) fun x4 =>
    if x4 = (0 : Int32) then
    (ltv (l3 + 1 : Int32) fun x6 =>
    f_X0_chooseBelow_8 n l1 l2 x6 h)
    else
    bd1 (f_X0_chooseBelowPair h l1 (l3 >>> (5 &&& 31)) (l3 &&& 31) x4) fun h8 =>
    ltv (l3 + 1 : Int32) fun x9 =>
    f_X0_chooseBelow_8 n l1 l2 x9 h8
noncomputable def f_X0_chooseBelow (h : HP)  (a1 : Int32) : Option HP :=
  ltv ((a1 * 1024) : Int32) fun x1 =>
  f_X0_chooseBelow_8 FU a1 x1 0 h
noncomputable def f_X0_layRows_96 (t : Nat)  : Nat → Int32 → HP → Option HP
  | 0, _, _ => none
  | n + 1, l3, h =>
    if 3 ≤ l3 then
    (ltv (uI h 67 5 (hI h 67 3)) fun g22 =>
    some g22)
    else
    bd1 (f_X1_addRow h 67) fun h24 =>
    ltv (l3 + 1 : Int32) fun x25 =>
    f_X0_layRows_96 t n x25 h24
noncomputable def f_X0_layRows_20 (t : Nat)  : Nat → Int32 → HP → Option HP
  | 0, _, _ => none
  | n + 1, l3, h =>
    if (hI h 65 5) < l3 then
    (bd1 (f_X1_start h 67 (hI h (t + 1) 0) (hI h (t + 1) 2)) fun h4 =>
    f_X0_layRows_96 t FU 0 h4)
    else
    bd2 (f_X1_rowOf h (t + 1) (hI h (t + 1) 5) l3) fun r7 h6 =>
    gdi l3 7 <|
    ltv (uI h6 69 (Int32.toNatClampNeg l3) r7) fun g9 =>
    bd2 (f_X1_rowOf g9 (t + 1) (hI g9 (t + 1) 6) l3) fun r12 h11 =>
    gdi l3 7 <|
    ltv (uI h11 70 (Int32.toNatClampNeg l3) r12) fun g14 =>
    bd2 (f_X1_rowOf g14 (t + 1) (hI g14 t 13) l3) fun r17 h16 =>
    gdi l3 7 <|
    ltv (uI h16 71 (Int32.toNatClampNeg l3) r17) fun g19 =>
    ltv (l3 + 1 : Int32) fun x20 =>
    f_X0_layRows_20 t n x20 g19
noncomputable def f_X0_layRows (h : HP) (t : Nat)  : Option HP :=
  ltv (uI h 65 5 (if 6 < (hI h (t + 1) 1) then 6 else (hI h (t + 1) 1))) fun g1 =>
  f_X0_layRows_20 t FU 0 g1
noncomputable def f_X0_countWays_130 (t : Nat)  : Nat → Int32 → Int32 → Int32 → HP → Option (Int32 × HP)
  | 0, _, _, _, _ => none
  | n + 1, l4, l5, l6, h =>
    if (l5 + 1024) ≤ l6 then
    (some (l4, h))
    else
    gdi l6 7168 <|
    ltv ((l4 + (hI h 66 (Int32.toNatClampNeg l6))) : Int32) fun x29 =>
    ltv (l6 + 1 : Int32) fun x30 =>
    f_X0_countWays_130 t n x29 l5 x30 h
noncomputable def f_X0_countWays_92 (t : Nat)  : Nat → Int32 → HP → Option (Int32 × HP)
  | 0, _, _ => none
  | n + 1, l4, h =>
    if (hI h 65 5) ≤ l4 then
    (ltv (((hI h 65 5) * 1024) : Int32) fun x23 =>
    f_X0_countWays_130 t FU 0 x23 x23 h)
    else
    bd1 (f_X0_chooseBelow h l4) fun h25 =>
    ltv (l4 + 1 : Int32) fun x26 =>
    f_X0_countWays_92 t n x26 h25
noncomputable def f_X0_countWays_44 (t : Nat)  : Nat → Int32 → Int32 → HP → Option (Int32 × HP)
  | 0, _, _, _ => none
  | n + 1, l3, l4, h =>
    if 32 ≤ l4 then
    (f_X0_countWays_92 t FU 0 h)
    else
    gdi (l3 ||| (hI h 70 0)) 7168 <|
    ltv (uI h 66 (Int32.toNatClampNeg (l3 ||| (hI h 70 0))) 1) fun g18 =>
    if l3 = (0 : Int32) then
    (f_X0_countWays_92 t FU 0 g18)
    else
    ltv (((l3 - 1) &&& (hI g18 69 0)) : Int32) fun x20 =>
    ltv (l4 + 1 : Int32) fun x21 =>
    f_X0_countWays_44 t n x20 x21 g18
noncomputable def f_X0_countWays (h : HP) (t : Nat) (a2 : Int32) : Option (Int32 × HP) :=
  gdv (is01 a2) <|
  ltv (uI h 65 8 a2) fun g2 =>
  bd1 (f_X0_layRows g2 t) fun h4 =>
  bd2 (f_X5_bornNow h4 t) fun r7 h6 =>
  ltv (uI h6 65 6 r7) fun g8 =>
  bd2 (f_X5_staysNow g8 t) fun r11 h10 =>
  ltv (uI h10 65 7 r11) fun g12 =>
  bd1 (f_J7_fill_53178 g12 0) fun h14 =>
  ltv ((hI h14 69 0) : Int32) fun x15 =>
  f_X0_countWays_44 t FU x15 0 h14
noncomputable def f_X0_leastAbove_36  (K3 : Int32 → Int32 → Int32 → Int32 → HP → Option (Int32 × HP)) (l1 : Int32) (l2 : Int32) (l3 : Int32) (l4 : Int32) (s0 : Int32) (h : HP) : Option (Int32 × HP) :=
  if s0 = (0 : Int32) then
  (ltv (l4 + 1 : Int32) fun x5 =>
  K3 l1 l2 l3 x5 h)
  else
  if l3 < (0 : Int32) then
  (some (l4, h))
  else
  bd2 (f_X0_wrongIn h l1 l4 l2 l3) fun r9 h8 =>
  if r9 = (0 : Int32) then
  (some (l4, h8))
  else
  ltv (l4 + 1 : Int32) fun x11 =>
  K3 l1 l2 l3 x11 h8
noncomputable def f_X0_leastAbove_3   : Nat → Int32 → Int32 → Int32 → Int32 → HP → Option (Int32 × HP)
  | 0, _, _, _, _, _ => none
  | n + 1, l1, l2, l3, l4, h =>
    if 32 ≤ l4 then
    (some (0, h))
    else
    gdi (((l1 * 1024) + (l4 * 32)) + l2) 7168 <|
    if (hI h 66 (Int32.toNatClampNeg (((l1 * 1024) + (l4 * 32)) + l2))) = (0 : Int32) then
    (f_X0_leastAbove_36 (f_X0_leastAbove_3 n) l1 l2 l3 l4 0 h)
    else
    f_X0_leastAbove_36 (f_X0_leastAbove_3 n) l1 l2 l3 l4 1 h
noncomputable def f_X0_leastAbove (h : HP)  (a1 : Int32) (a2 : Int32) (a3 : Int32) : Option (Int32 × HP) :=
  f_X0_leastAbove_3 FU a1 a2 a3 0 h
noncomputable def f_X0_leastFound_23   : Nat → Int32 → Int32 → Int32 → Int32 → HP → Option (Int32 × HP)
  | 0, _, _, _, _, _ => none
  | n + 1, l1, l2, l3, l4, h =>
    if l4 < (0 : Int32) then
    (some (l3, h))
    else
    ltv ((l3 ||| (l2 <<< ((l4 * (hI h 67 0)) &&& 31))) : Int32) fun x6 =>
    if l4 ≤ (0 : Int32) then
    (ltv (l4 + (-1) : Int32) fun x8 =>
    f_X0_leastFound_23 n l2 0 x6 x8 h)
    else
    bd2 (f_X0_leastAbove h l4 l2 l1) fun r11 h10 =>
    ltv (l4 + (-1) : Int32) fun x12 =>
    f_X0_leastFound_23 n l2 r11 x6 x12 h10
noncomputable def f_X0_leastFound (h : HP)   : Option (Int32 × HP) :=
  bd2 (f_X0_leastAbove h (hI h 65 5) 0 (-1)) fun r3 h2 =>
  ltv (((hI h2 65 5) - 1) : Int32) fun x4 =>
  f_X0_leastFound_23 FU 0 r3 0 x4 h2
noncomputable def f_X11_commonDivisor_7   : Nat → Int32 → Int32 → Int32 → HP → Option (Int32 × HP)
  | 0, _, _, _, _ => none
  | n + 1, l2, l3, l4, h =>
    if 64 ≤ l4 then
    (some (l2, h))
    else
    if l3 = (0 : Int32) then
    (some (l2, h))
    else
    gdv (¬ l3 = (0 : Int32)) <|
    ltv ((l2 - l2 / l3 * l3) : Int32) fun x4 =>
    ltv (l4 + 1 : Int32) fun x5 =>
    f_X11_commonDivisor_7 n l3 x4 x5 h
noncomputable def f_X11_commonDivisor (h : HP)  (a0 : Int32) (a1 : Int32) : Option (Int32 × HP) :=
  f_X11_commonDivisor_7 FU a0 a1 0 h
noncomputable def f_X11_tellFraction (h : HP)  (a1 : Int32) (a2 : Int32) : Option HP :=
  bd2 (f_X11_commonDivisor h a1 a2) fun r3 h2 =>
  if r3 ≤ (0 : Int32) then
  (some h2)
  else
  gdv (¬ r3 = (0 : Int32)) <|
  ltv (uL h2 0 12 (Int32.toInt64 (a1 / r3))) fun g6 =>
  gdv (¬ r3 = (0 : Int32)) <|
  ltv (uL g6 0 13 (Int32.toInt64 (a2 / r3))) fun g8 =>
  some g8
noncomputable def f_X11_isTurnedNights (h : HP)  (a0 : Int32) : Option (Int32 × HP) :=
  if a0 < (0 : Int32) then
  (some (0, h))
  else
  if 30 < a0 then
  (some (0, h))
  else
  some (1, h)
noncomputable def f_X11_isPicture (h : HP)  (a0 : Int64) : Option (Int32 × HP) :=
  if (lg_cmp a0 0) < (0 : Int32) then
  (some (0, h))
  else
  if (0 : Int32) < (lg_cmp a0 1073741823) then
  (some (0, h))
  else
  some (1, h)
noncomputable def f_X11_whyNotInTray (h : HP)  (a1 : Int32) (a2 : Int32) : Option (Int32 × HP) :=
  bd2 (f_X7_isTray h a1) fun r3 h2 =>
  if r3 = (0 : Int32) then
  (some (1, h2))
  else
  bd2 (f_X7_isMissing h2 a1) fun r7 h6 =>
  if r7 = (0 : Int32) then
  (bd2 (f_X7_hasRoom h6 a1 a2 1) fun r11 h10 =>
  if r11 = (0 : Int32) then
  (some (3, h10))
  else
  some (0, h10))
  else
  some (2, h6)
noncomputable def f_X11_whyNotFree (h : HP) (t : Nat) (a1 : Int32) (a2 : Int32) : Option (Int32 × HP) :=
  bd2 (f_X1_placeOf h (t + 1) a1 a2) fun r3 h2 =>
  if (0 : Int32) ≤ r3 then
  (if ((hI h2 (t + 1) 5) &&& ((1 : Int32) <<< (r3 &&& 31))) = (0 : Int32) then
  (some (7, h2))
  else
  some (0, h2))
  else
  some (1, h2)
noncomputable def f_X11_write (h : HP)  (a1 : Int32) (a2 : Int32) (a3 : Int64) : Option (Int32 × HP) :=
  bd2 (f_X11_whyNotInTray h a1 a2) fun r3 h2 =>
  if r3 = (0 : Int32) then
  (bd1 (f_X7_put h2 a1 a2 a3) fun h6 =>
  bd2 (f_X11_allow h6) fun r9 h8 =>
  gdv (is01 r9) <|
  some (r9, h8))
  else
  bd2 (f_X11_deny h2 r3) fun r13 h12 =>
  gdv (is01 r13) <|
  some (r13, h12)
noncomputable def f_X11_read (h : HP)  (a1 : Int32) (a2 : Int32) : Option (Int64 × HP) :=
  bd2 (f_X11_whyNotInTray h a1 a2) fun r3 h2 =>
  if r3 = (0 : Int32) then
  (ltv (uI h2 0 11 0) fun g5 =>
  bd2 (f_X7_numberAt g5 a1 a2) fun r8 h7 =>
  some (r8, h7))
  else
  bd2 (f_X11_refuse h2 r3) fun r11 h10 =>
  some ((Int32.toInt64 r11), h10)
noncomputable def f_X11_pour_28    (h : HP) : Option (Int32 × HP) :=
  bd2 (f_X11_deny h 1) fun r60 h59 =>
  gdv (is01 r60) <|
  some (r60, h59)
noncomputable def f_X11_pour (h : HP)  (a1 : Int32) (a2 : Int32) (a3 : Int32) (a4 : Int32) (a5 : Int32) : Option (Int32 × HP) :=
  bd2 (f_X7_isTray h a1) fun r3 h2 =>
  if r3 = (0 : Int32) then
  (f_X11_pour_28 h2)
  else
  bd2 (f_X7_isTray h2 a3) fun r7 h6 =>
  if r7 = (0 : Int32) then
  (f_X11_pour_28 h6)
  else
  if a2 < (0 : Int32) then
  (f_X11_pour_28 h6)
  else
  if a4 < (0 : Int32) then
  (f_X11_pour_28 h6)
  else
  if (0 : Int32) ≤ a5 then
  (bd2 (f_X7_isMissing h6 a1) fun r14 h13 =>
  if r14 = (0 : Int32) then
  (bd2 (f_X7_isMissing h13 a3) fun r22 h21 =>
  if r22 = (0 : Int32) then
  (bd2 (f_X7_areOfOneSort h21 a1 a3) fun r26 h25 =>
  if r26 = (0 : Int32) then
  (bd2 (f_X11_deny h25 8) fun r52 h51 =>
  gdv (is01 r52) <|
  some (r52, h51))
  else
  bd2 (f_X7_hasRoom h25 a1 a2 a5) fun r30 h29 =>
  if r30 = (0 : Int32) then
  (bd2 (f_X11_deny h29 3) fun r34 h33 =>
  gdv (is01 r34) <|
  some (r34, h33))
  else
  bd2 (f_X7_hasRoom h29 a3 a4 a5) fun r38 h37 =>
  if r38 = (0 : Int32) then
  (bd2 (f_X11_deny h37 3) fun r48 h47 =>
  gdv (is01 r48) <|
  some (r48, h47))
  else
  bd1 (f_X7_copy h37 a1 a2 a3 a4 a5) fun h41 =>
  bd2 (f_X11_allow h41) fun r44 h43 =>
  gdv (is01 r44) <|
  some (r44, h43))
  else
  bd2 (f_X11_deny h21 2) fun r56 h55 =>
  gdv (is01 r56) <|
  some (r56, h55))
  else
  bd2 (f_X11_deny h13 2) fun r18 h17 =>
  gdv (is01 r18) <|
  some (r18, h17))
  else
  f_X11_pour_28 h6
noncomputable def f_X11_feed (h : HP)  (a1 : Int32) (a2 : Int32) (a3 : Int32) (a4 : Int32) (a5 : Int32) : Option (Int32 × HP) :=
  bd2 (f_X4_hasRoomFor h 20) fun r3 h2 =>
  if r3 = (0 : Int32) then
  (some ((-1), h2))
  else
  bd1 (f_X4_append h2 a1) fun h6 =>
  bd1 (f_X4_append h6 a2) fun h8 =>
  bd1 (f_X4_append h8 a3) fun h10 =>
  bd1 (f_X4_append h10 a4) fun h12 =>
  bd1 (f_X4_append h12 a5) fun h14 =>
  some ((hI h14 5 7), h14)
noncomputable def f_X11_fault (h : HP)  (a1 : Int32) : Option (Int32 × HP) :=
  if a1 = (0 : Int32) then
  (some ((hI h 5 12), h))
  else
  if a1 = 1 then
  (some ((hI h 5 13), h))
  else
  some ((-1), h)
noncomputable def f_X11_told (h : HP) (t : Nat) (a1 : Int32) : Option (Int32 × HP) :=
  if a1 = 0 then
  (bd2 (f_X11_answer h (hI h (t + 1) 0)) fun r4 h3 =>
  some (r4, h3))
  else
  if a1 = 1 then
  (bd2 (f_X11_answer h (hI h (t + 1) 1)) fun r8 h7 =>
  some (r8, h7))
  else
  if a1 = 2 then
  (bd2 (f_J6_bitCount_0f7a4 h (hI h (t + 1) 4)) fun r12 h11 =>
  bd2 (f_X11_answer h11 r12) fun r15 h14 =>
  some (r15, h14))
  else
  if a1 = 3 then
  (bd2 (f_J6_bitCount_0f7a4 h (hI h t 13)) fun r19 h18 =>
  bd2 (f_X11_answer h18 r19) fun r22 h21 =>
  some (r22, h21))
  else
  if a1 = 4 then
  (bd2 (f_J6_bitCount_0f7a4 h ((hI h (t + 1) 4) &&& ((hI h (t + 1) 5) ^^^ (-1)))) fun r26 h25 =>
  bd2 (f_X11_answer h25 r26) fun r29 h28 =>
  some (r29, h28))
  else
  if a1 = 5 then
  (bd2 (f_X11_answer h (hI h t 10)) fun r33 h32 =>
  some (r33, h32))
  else
  if a1 = 6 then
  (bd2 (f_X11_answer h (hI h t 11)) fun r37 h36 =>
  some (r37, h36))
  else
  if a1 = 7 then
  (bd2 (f_X11_answer h (hI h t 14)) fun r41 h40 =>
  some (r41, h40))
  else
  if a1 = 8 then
  (bd2 (f_X11_answer h (hI h t 15)) fun r45 h44 =>
  some (r45, h44))
  else
  if a1 = 9 then
  (if (hI h (t + 1) 2) = (0 : Int32) then
  (bd2 (f_X11_answer h 0) fun r50 h49 =>
  some (r50, h49))
  else
  bd2 (f_X11_answer h 1) fun r53 h52 =>
  some (r53, h52))
  else
  if a1 = 10 then
  (if (hI h t 10) = (0 : Int32) then
  (bd2 (f_X11_refuse h 6) fun r61 h60 =>
  some (r61, h60))
  else
  bd2 (f_X11_answer h (hI h t 12)) fun r58 h57 =>
  some (r58, h57))
  else
  bd2 (f_X11_refuse h 1) fun r64 h63 =>
  some (r64, h63)
noncomputable def f_X11_picture (h : HP) (t : Nat)  : Option (Int64 × HP) :=
  bd2 (f_X11_answer h (hI h t 13)) fun r3 h2 =>
  some ((Int32.toInt64 r3), h2)
noncomputable def f_X11_lamp (h : HP) (t : Nat) (a1 : Int32) (a2 : Int32) (a3 : Int32) : Option (Int32 × HP) :=
  bd2 (f_X1_placeOf h (t + 1) a1 a2) fun r3 h2 =>
  if r3 < (0 : Int32) then
  (bd2 (f_X11_refuse h2 1) fun r7 h6 =>
  some (r7, h6))
  else
  if a3 < (0 : Int32) then
  (bd2 (f_X11_refuse h2 1) fun r11 h10 =>
  some (r11, h10))
  else
  if a3 ≤ 3 then
  (ltv (((1 : Int32) <<< (r3 &&& 31)) : Int32) fun x13 =>
  if ((hI h2 (t + 1) 4) &&& x13) = (0 : Int32) then
  (bd2 (f_X11_refuse h2 7) fun r46 h45 =>
  some (r46, h45))
  else
  if a3 = 0 then
  (if ((hI h2 t 13) &&& x13) = (0 : Int32) then
  (bd2 (f_X11_answer h2 0) fun r19 h18 =>
  some (r19, h18))
  else
  bd2 (f_X11_answer h2 1) fun r22 h21 =>
  some (r22, h21))
  else
  if a3 = 1 then
  (bd2 (f_X1_countAround h2 (t + 1) x13 (hI h2 (t + 1) 4)) fun r26 h25 =>
  bd2 (f_X11_answer h25 r26) fun r29 h28 =>
  some (r29, h28))
  else
  if a3 = 2 then
  (bd2 (f_X1_countAround h2 (t + 1) x13 (hI h2 t 13)) fun r33 h32 =>
  bd2 (f_X11_answer h32 r33) fun r36 h35 =>
  some (r36, h35))
  else
  if ((hI h2 (t + 1) 5) &&& x13) = (0 : Int32) then
  (bd2 (f_X11_answer h2 1) fun r43 h42 =>
  some (r43, h42))
  else
  bd2 (f_X11_answer h2 0) fun r40 h39 =>
  some (r40, h39))
  else
  bd2 (f_X11_refuse h2 1) fun r49 h48 =>
  some (r49, h48)
noncomputable def f_X11_rule (h : HP) (t : Nat) (a1 : Int32) (a2 : Int32) : Option (Int32 × HP) :=
  bd2 (f_X5_hasRule h t a1) fun r3 h2 =>
  if r3 = (0 : Int32) then
  (bd2 (f_X11_refuse h2 1) fun r7 h6 =>
  some (r7, h6))
  else
  if a2 < (0 : Int32) then
  (bd2 (f_X11_refuse h2 1) fun r11 h10 =>
  some (r11, h10))
  else
  if a2 ≤ 1 then
  (if a2 = (0 : Int32) then
  (gdi a1 4 <|
  bd2 (f_X11_answer h2 (hI h2 (t + 10) (Int32.toNatClampNeg a1))) fun r21 h20 =>
  some (r21, h20))
  else
  gdi a1 4 <|
  bd2 (f_X11_answer h2 (hI h2 (t + 11) (Int32.toNatClampNeg a1))) fun r17 h16 =>
  some (r17, h16))
  else
  bd2 (f_X11_refuse h2 1) fun r24 h23 =>
  some (r24, h23)
noncomputable def f_X11_citizen (h : HP) (t : Nat) (a1 : Int32) (a2 : Int32) : Option (Int32 × HP) :=
  bd2 (f_X5_hasCitizen h t a1) fun r3 h2 =>
  if r3 = (0 : Int32) then
  (bd2 (f_X11_refuse h2 1) fun r7 h6 =>
  some (r7, h6))
  else
  if a2 < (0 : Int32) then
  (bd2 (f_X11_refuse h2 1) fun r11 h10 =>
  some (r11, h10))
  else
  if a2 ≤ 1 then
  (if a2 = (0 : Int32) then
  (gdi a1 6 <|
  bd2 (f_X11_answer h2 (hI h2 (t + 13) (Int32.toNatClampNeg a1))) fun r21 h20 =>
  some (r21, h20))
  else
  gdi a1 6 <|
  bd2 (f_X11_answer h2 (hI h2 (t + 14) (Int32.toNatClampNeg a1))) fun r17 h16 =>
  some (r17, h16))
  else
  bd2 (f_X11_refuse h2 1) fun r24 h23 =>
  some (r24, h23)
noncomputable def f_X11_turn (h : HP) (t : Nat) (a1 : Int32) (a2 : Int32) : Option (Int32 × HP) :=
  bd2 (f_X11_whyNotFree h t a1 a2) fun r3 h2 =>
  if r3 = (0 : Int32) then
  (bd2 (f_X1_placeOf h2 (t + 1) a1 a2) fun r7 h6 =>
  ltv (((1 : Int32) <<< (r7 &&& 31)) : Int32) fun x8 =>
  ltv (uI h6 t 13 ((hI h6 t 13) ^^^ x8)) fun g9 =>
  if ((hI g9 t 13) &&& x8) = (0 : Int32) then
  (bd2 (f_X11_answer g9 0) fun r13 h12 =>
  some (r13, h12))
  else
  bd2 (f_X11_answer g9 1) fun r16 h15 =>
  some (r16, h15))
  else
  bd2 (f_X11_refuse h2 r3) fun r19 h18 =>
  some (r19, h18)
noncomputable def f_X11_paint (h : HP) (t : Nat) (a1 : Int64) : Option (Int32 × HP) :=
  bd2 (f_X11_isPicture h a1) fun r3 h2 =>
  if r3 = (0 : Int32) then
  (bd2 (f_X11_refuse h2 1) fun r13 h12 =>
  some (r13, h12))
  else
  bd2 (f_X5_repaint h2 t (Int64.toInt32 a1)) fun r7 h6 =>
  bd2 (f_X11_answer h6 r7) fun r10 h9 =>
  some (r10, h9)
noncomputable def f_X11_paintRows_36 (t : Nat)  : Nat → Int32 → Int32 → Int32 → Int32 → HP → Option (Int32 × HP)
  | 0, _, _, _, _, _ => none
  | n + 1, l1, l2, l4, l5, h =>
    if l2 ≤ l5 then
    (bd2 (f_X5_repaint h t l4) fun r12 h11 =>
    bd2 (f_X11_answer h11 r12) fun r15 h14 =>
    some (r15, h14))
    else
    bd2 (f_X7_numberAt h l1 l5) fun r18 h17 =>
    if (lg_cmp r18 0) < (0 : Int32) then
    (bd2 (f_X11_refuse h17 5) fun r22 h21 =>
    some (r22, h21))
    else
    if (lg_cmp r18 31) ≤ (0 : Int32) then
    (bd2 (f_X1_rowMask h17 (t + 1)) fun r26 h25 =>
    ltv ((l4 ||| (((Int64.toInt32 r18) &&& r26) <<< ((l5 * (hI h25 (t + 1) 0)) &&& 31))) : Int32) fun x27 =>
    ltv (l5 + 1 : Int32) fun x28 =>
    f_X11_paintRows_36 t n l1 l2 x27 x28 h25)
    else
    bd2 (f_X11_refuse h17 5) fun r31 h30 =>
    some (r31, h30)
noncomputable def f_X11_paintRows (h : HP) (t : Nat) (a1 : Int32) : Option (Int32 × HP) :=
  ltv ((hI h (t + 1) 1) : Int32) fun x1 =>
  bd2 (f_X11_whyNotInTray h a1 (x1 - 1)) fun r4 h3 =>
  if r4 = (0 : Int32) then
  (f_X11_paintRows_36 t FU a1 x1 0 0 h3)
  else
  bd2 (f_X11_refuse h3 r4) fun r8 h7 =>
  some (r8, h7)
noncomputable def f_X11_copyRows_33 (t : Nat)  : Nat → Int32 → Int32 → Int32 → HP → Option (Int32 × HP)
  | 0, _, _, _, _ => none
  | n + 1, l1, l2, l4, h =>
    if l2 ≤ l4 then
    (bd2 (f_X11_answer h l2) fun r12 h11 =>
    some (r12, h11))
    else
    bd2 (f_X1_rowOf h (t + 1) (hI h t 13) l4) fun r15 h14 =>
    bd1 (f_X7_put h14 l1 l4 (Int32.toInt64 r15)) fun h17 =>
    ltv (l4 + 1 : Int32) fun x18 =>
    f_X11_copyRows_33 t n l1 l2 x18 h17
noncomputable def f_X11_copyRows (h : HP) (t : Nat) (a1 : Int32) : Option (Int32 × HP) :=
  ltv ((hI h (t + 1) 1) : Int32) fun x1 =>
  bd2 (f_X11_whyNotInTray h a1 (x1 - 1)) fun r4 h3 =>
  if r4 = (0 : Int32) then
  (f_X11_copyRows_33 t FU a1 x1 0 h3)
  else
  bd2 (f_X11_refuse h3 r4) fun r8 h7 =>
  some (r8, h7)
noncomputable def f_X11_mayor (h : HP) (t : Nat) (a1 : Int32) : Option (Int32 × HP) :=
  bd2 (f_X5_hasRule h t a1) fun r3 h2 =>
  if r3 = (0 : Int32) then
  (bd2 (f_X11_deny h2 1) fun r12 h11 =>
  gdv (is01 r12) <|
  some (r12, h11))
  else
  ltv (uI h2 t 12 a1) fun g5 =>
  bd2 (f_X11_allow g5) fun r8 h7 =>
  gdv (is01 r8) <|
  some (r8, h7)
noncomputable def f_X11_bend_31 (t : Nat)   (h : HP) : Option (Int32 × HP) :=
  bd2 (f_X11_deny h 1) fun r19 h18 =>
  gdv (is01 r19) <|
  some (r19, h18)
noncomputable def f_X11_bend (h : HP) (t : Nat) (a1 : Int32) (a2 : Int32) (a3 : Int32) : Option (Int32 × HP) :=
  bd2 (f_X5_hasRule h t a1) fun r3 h2 =>
  if r3 = (0 : Int32) then
  (f_X11_bend_31 t h2)
  else
  if a2 < (0 : Int32) then
  (f_X11_bend_31 t h2)
  else
  if 31 < a2 then
  (f_X11_bend_31 t h2)
  else
  if a3 < (0 : Int32) then
  (f_X11_bend_31 t h2)
  else
  if a3 ≤ 31 then
  (gdi a1 4 <|
  ltv (uI h2 (t + 10) (Int32.toNatClampNeg a1) a2) fun g10 =>
  gdi a1 4 <|
  ltv (uI g10 (t + 11) (Int32.toNatClampNeg a1) a3) fun g12 =>
  bd2 (f_X11_allow g12) fun r15 h14 =>
  gdv (is01 r15) <|
  some (r15, h14))
  else
  f_X11_bend_31 t h2
noncomputable def f_X11_night (h : HP) (t : Nat) (a1 : Int32) : Option (Int32 × HP) :=
  if a1 < 1 then
  (bd2 (f_X11_refuse h 1) fun r4 h3 =>
  some (r4, h3))
  else
  if a1 ≤ 999 then
  (bd1 (f_X5_passNights h t a1) fun h7 =>
  bd2 (f_J6_bitCount_0f7a4 h7 (hI h7 t 13)) fun r10 h9 =>
  bd2 (f_X11_answer h9 r10) fun r13 h12 =>
  some (r13, h12))
  else
  bd2 (f_X11_refuse h 1) fun r16 h15 =>
  some (r16, h15)
noncomputable def f_X11_ahead (h : HP) (t : Nat) (a1 : Int32) : Option (Int64 × HP) :=
  if a1 < (0 : Int32) then
  (bd2 (f_X11_refuse h 1) fun r4 h3 =>
  some ((Int32.toInt64 r4), h3))
  else
  if a1 ≤ 999 then
  (bd2 (f_X5_after h t (hI h t 13) a1) fun r8 h7 =>
  bd2 (f_X11_answer h7 r8) fun r11 h10 =>
  some ((Int32.toInt64 r11), h10))
  else
  bd2 (f_X11_refuse h 1) fun r14 h13 =>
  some ((Int32.toInt64 r14), h13)
noncomputable def f_X11_again (h : HP) (t : Nat) (a1 : Int32) : Option (Int32 × HP) :=
  if a1 < (0 : Int32) then
  (bd2 (f_X11_refuse h 1) fun r4 h3 =>
  some (r4, h3))
  else
  if a1 ≤ 1 then
  (bd2 (f_X3_findRound h t) fun r8 h7 =>
  if r8 = (0 : Int32) then
  (bd2 (f_X11_refuse h7 7) fun r19 h18 =>
  some (r19, h18))
  else
  if a1 = (0 : Int32) then
  (bd2 (f_X11_answer h7 (hI h7 72 0)) fun r16 h15 =>
  some (r16, h15))
  else
  bd2 (f_X11_answer h7 (hI h7 72 1)) fun r13 h12 =>
  some (r13, h12))
  else
  bd2 (f_X11_refuse h 1) fun r22 h21 =>
  some (r22, h21)
noncomputable def f_X11_far (h : HP) (t : Nat) (a1 : Int32) : Option (Int64 × HP) :=
  if a1 < (0 : Int32) then
  (bd2 (f_X11_refuse h 1) fun r4 h3 =>
  some ((Int32.toInt64 r4), h3))
  else
  if a1 ≤ 999999999 then
  (bd2 (f_X3_findRound h t) fun r8 h7 =>
  if r8 = (0 : Int32) then
  (bd2 (f_X11_refuse h7 7) fun r18 h17 =>
  some ((Int32.toInt64 r18), h17))
  else
  bd2 (f_X3_farAhead h7 t a1) fun r12 h11 =>
  bd2 (f_X11_answer h11 r12) fun r15 h14 =>
  some ((Int32.toInt64 r15), h14))
  else
  bd2 (f_X11_refuse h 1) fun r21 h20 =>
  some ((Int32.toInt64 r21), h20)
noncomputable def f_X11_walks (h : HP) (t : Nat) (a1 : Int32) : Option (Int32 × HP) :=
  if a1 < (0 : Int32) then
  (bd2 (f_X11_refuse h 1) fun r4 h3 =>
  some (r4, h3))
  else
  if a1 ≤ 2 then
  (bd2 (f_X3_findWalk h t) fun r8 h7 =>
  if r8 = (0 : Int32) then
  (bd2 (f_X11_refuse h7 6) fun r23 h22 =>
  some (r23, h22))
  else
  if a1 = (0 : Int32) then
  (bd2 (f_X11_answer h7 (hI h7 72 2)) fun r20 h19 =>
  some (r20, h19))
  else
  if a1 = 1 then
  (bd2 (f_X11_answer h7 (hI h7 72 3)) fun r17 h16 =>
  some (r17, h16))
  else
  bd2 (f_X11_answer h7 (hI h7 72 4)) fun r14 h13 =>
  some (r14, h13))
  else
  bd2 (f_X11_refuse h 1) fun r26 h25 =>
  some (r26, h25)
noncomputable def f_X11_still (h : HP) (t : Nat)  : Option (Int32 × HP) :=
  bd2 (f_X5_isStill h t) fun r3 h2 =>
  if r3 = (0 : Int32) then
  (bd2 (f_X11_answer h2 0) fun r7 h6 =>
  some (r7, h6))
  else
  bd2 (f_X11_answer h2 1) fun r10 h9 =>
  some (r10, h9)
noncomputable def f_X11_next (h : HP) (t : Nat) (a1 : Int32) : Option (Int32 × HP) :=
  ltv ((hI h t 13) : Int32) fun x1 =>
  bd2 (f_X5_nextOf h t x1) fun r4 h3 =>
  if a1 = 0 then
  (bd2 (f_J6_bitCount_0f7a4 h3 (r4 &&& (x1 ^^^ (-1)))) fun r8 h7 =>
  bd2 (f_X11_answer h7 r8) fun r11 h10 =>
  some (r11, h10))
  else
  if a1 = 1 then
  (bd2 (f_J6_bitCount_0f7a4 h3 (x1 &&& (r4 ^^^ (-1)))) fun r15 h14 =>
  bd2 (f_X11_answer h14 r15) fun r18 h17 =>
  some (r18, h17))
  else
  if a1 = 2 then
  (bd2 (f_J6_bitCount_0f7a4 h3 (x1 &&& r4)) fun r22 h21 =>
  bd2 (f_X11_answer h21 r22) fun r25 h24 =>
  some (r25, h24))
  else
  bd2 (f_X11_refuse h3 1) fun r28 h27 =>
  some (r28, h27)
noncomputable def f_X11_oil_30 (t : Nat)  : Nat → Int32 → Int32 → Int32 → Int32 → HP → Option (Int32 × HP)
  | 0, _, _, _, _, _ => none
  | n + 1, l1, l2, l3, l4, h =>
    if 999 ≤ l4 then
    (bd2 (f_X11_answer h l4) fun r13 h12 =>
    some (r13, h12))
    else
    bd2 (f_J6_bitCount_0f7a4 h l2) fun r16 h15 =>
    ltv ((l3 + r16) : Int32) fun x17 =>
    if x17 ≤ l1 then
    (bd2 (f_X5_nextOf h15 t l2) fun r21 h20 =>
    ltv (l4 + 1 : Int32) fun x22 =>
    f_X11_oil_30 t n l1 r21 x17 x22 h20)
    else
    bd2 (f_X11_answer h15 l4) fun r25 h24 =>
    some (r25, h24)
noncomputable def f_X11_oil (h : HP) (t : Nat) (a1 : Int32) : Option (Int32 × HP) :=
  if a1 < (0 : Int32) then
  (bd2 (f_X11_refuse h 1) fun r4 h3 =>
  some (r4, h3))
  else
  if a1 ≤ 9999 then
  (ltv ((hI h t 13) : Int32) fun x6 =>
  f_X11_oil_30 t FU a1 x6 0 0 h)
  else
  bd2 (f_X11_refuse h 1) fun r9 h8 =>
  some (r9, h8)
noncomputable def f_X11_brightest_33 (t : Nat)  : Nat → Int32 → Int32 → Int32 → Int32 → HP → Option (Int32 × HP)
  | 0, _, _, _, _, _ => none
  | n + 1, l1, l2, l3, l4, h =>
    if l1 ≤ l4 then
    (bd2 (f_X11_answer h l3) fun r16 h15 =>
    some (r16, h15))
    else
    bd2 (f_X5_nextOf h t l2) fun r19 h18 =>
    bd2 (f_J6_bitCount_0f7a4 h18 r19) fun r22 h21 =>
    ltv ((if l3 < r22 then r22 else l3) : Int32) fun x23 =>
    ltv (l4 + 1 : Int32) fun x24 =>
    f_X11_brightest_33 t n l1 r19 x23 x24 h21
noncomputable def f_X11_brightest (h : HP) (t : Nat) (a1 : Int32) : Option (Int32 × HP) :=
  if a1 < (0 : Int32) then
  (bd2 (f_X11_refuse h 1) fun r4 h3 =>
  some (r4, h3))
  else
  if a1 ≤ 999 then
  (ltv ((hI h t 13) : Int32) fun x6 =>
  bd2 (f_J6_bitCount_0f7a4 h x6) fun r9 h8 =>
  f_X11_brightest_33 t FU a1 x6 r9 0 h8)
  else
  bd2 (f_X11_refuse h 1) fun r12 h11 =>
  some (r12, h11)
noncomputable def f_X11_ancestors (h : HP) (t : Nat)  : Option (Int64 × HP) :=
  bd2 (f_X0_countWays h t 0) fun r3 h2 =>
  bd2 (f_X11_answer h2 r3) fun r6 h5 =>
  some ((Int32.toInt64 r6), h5)
noncomputable def f_X11_ancestor (h : HP) (t : Nat)  : Option (Int64 × HP) :=
  bd2 (f_X0_countWays h t 0) fun r3 h2 =>
  if r3 = (0 : Int32) then
  (bd2 (f_X11_refuse h2 6) fun r13 h12 =>
  some ((Int32.toInt64 r13), h12))
  else
  bd2 (f_X0_leastFound h2) fun r7 h6 =>
  bd2 (f_X11_answer h6 r7) fun r10 h9 =>
  some ((Int32.toInt64 r10), h9)
noncomputable def f_X11_stills (h : HP) (t : Nat)  : Option (Int64 × HP) :=
  bd2 (f_X0_countWays h t 1) fun r3 h2 =>
  bd2 (f_X11_answer h2 r3) fun r6 h5 =>
  some ((Int32.toInt64 r6), h5)
noncomputable def f_X11_firstStill (h : HP) (t : Nat)  : Option (Int64 × HP) :=
  bd2 (f_X0_countWays h t 1) fun r3 h2 =>
  if r3 = (0 : Int32) then
  (bd2 (f_X11_refuse h2 6) fun r13 h12 =>
  some ((Int32.toInt64 r13), h12))
  else
  bd2 (f_X0_leastFound h2) fun r7 h6 =>
  bd2 (f_X11_answer h6 r7) fun r10 h9 =>
  some ((Int32.toInt64 r10), h9)
noncomputable def f_X11_pictures (h : HP) (t : Nat)  : Option (Int64 × HP) :=
  bd2 (f_J6_bitCount_0f7a4 h (hI h (t + 1) 5)) fun r3 h2 =>
  bd2 (f_X11_answer h2 ((1 : Int32) <<< (r3 &&& 31))) fun r6 h5 =>
  some ((Int32.toInt64 r6), h5)
noncomputable def f_X11_signal_37 (t : Nat)   (h : HP) : Option (Int32 × HP) :=
  bd2 (f_X11_refuse h 1) fun r34 h33 =>
  some (r34, h33)
noncomputable def f_X11_signal (h : HP) (t : Nat) (a1 : Int32) (a2 : Int32) (a3 : Int32) (a4 : Int32) : Option (Int32 × HP) :=
  bd2 (f_X1_placeOf h (t + 1) a1 a2) fun r3 h2 =>
  if r3 < (0 : Int32) then
  (f_X11_signal_37 t h2)
  else
  bd2 (f_X11_isTurnedNights h2 a3) fun r7 h6 =>
  if r7 = (0 : Int32) then
  (f_X11_signal_37 t h6)
  else
  if a4 < (0 : Int32) then
  (f_X11_signal_37 t h6)
  else
  if a4 ≤ 1 then
  (if ((hI h6 (t + 1) 4) &&& ((1 : Int32) <<< (r3 &&& 31))) = (0 : Int32) then
  (bd2 (f_X11_refuse h6 7) fun r31 h30 =>
  some (r31, h30))
  else
  bd2 (f_X8_findSignal h6 t ((1 : Int32) <<< (r3 &&& 31)) a3) fun r14 h13 =>
  if r14 = (0 : Int32) then
  (bd2 (f_X11_refuse h13 6) fun r28 h27 =>
  some (r28, h27))
  else
  if a4 = (0 : Int32) then
  (bd2 (f_J6_bitCount_0f7a4 h13 (hI h13 73 2)) fun r22 h21 =>
  bd2 (f_X11_answer h21 r22) fun r25 h24 =>
  some (r25, h24))
  else
  bd2 (f_X11_answer h13 (hI h13 73 2)) fun r19 h18 =>
  some (r19, h18))
  else
  f_X11_signal_37 t h6
noncomputable def f_X11_spoils (h : HP) (t : Nat) (a1 : Int32) (a2 : Int32) (a3 : Int32) : Option (Int32 × HP) :=
  bd2 (f_X11_isTurnedNights h a3) fun r3 h2 =>
  if r3 = (0 : Int32) then
  (bd2 (f_X11_refuse h2 1) fun r23 h22 =>
  some (r23, h22))
  else
  bd2 (f_X11_whyNotFree h2 t a1 a2) fun r7 h6 =>
  if r7 = (0 : Int32) then
  (bd2 (f_X1_placeOf h6 (t + 1) a1 a2) fun r11 h10 =>
  bd2 (f_X8_countSpoilt h10 t ((1 : Int32) <<< (r11 &&& 31)) a3) fun r14 h13 =>
  bd2 (f_X11_answer h13 r14) fun r17 h16 =>
  some (r17, h16))
  else
  bd2 (f_X11_refuse h6 r7) fun r20 h19 =>
  some (r20, h19)
noncomputable def f_X11_worst (h : HP) (t : Nat) (a1 : Int32) (a2 : Int32) : Option (Int32 × HP) :=
  bd2 (f_X11_isTurnedNights h a1) fun r3 h2 =>
  if r3 = (0 : Int32) then
  (bd2 (f_X11_refuse h2 1) fun r7 h6 =>
  some (r7, h6))
  else
  if a2 < (0 : Int32) then
  (bd2 (f_X11_refuse h2 1) fun r11 h10 =>
  some (r11, h10))
  else
  if a2 ≤ 1 then
  (if (hI h2 (t + 1) 5) = (0 : Int32) then
  (bd2 (f_X11_refuse h2 6) fun r25 h24 =>
  some (r25, h24))
  else
  bd1 (f_X8_findWorst h2 t a1) fun h15 =>
  if a2 = (0 : Int32) then
  (bd2 (f_X11_answer h15 (hI h15 73 3)) fun r22 h21 =>
  some (r22, h21))
  else
  bd2 (f_X11_answer h15 (hI h15 73 4)) fun r19 h18 =>
  some (r19, h18))
  else
  bd2 (f_X11_refuse h2 1) fun r28 h27 =>
  some (r28, h27)
noncomputable def f_X11_mend (h : HP) (t : Nat) (a1 : Int64) (a3 : Int32) : Option (Int32 × HP) :=
  bd2 (f_X11_isPicture h a1) fun r3 h2 =>
  if r3 = (0 : Int32) then
  (bd2 (f_X11_refuse h2 1) fun r7 h6 =>
  some (r7, h6))
  else
  if a3 < (0 : Int32) then
  (bd2 (f_X11_refuse h2 1) fun r11 h10 =>
  some (r11, h10))
  else
  if a3 ≤ 1 then
  (bd1 (f_X8_findMend h2 t (Int64.toInt32 a1)) fun h14 =>
  if a3 = (0 : Int32) then
  (bd2 (f_X11_answer h14 (hI h14 73 5)) fun r21 h20 =>
  some (r21, h20))
  else
  bd2 (f_X11_answer h14 (hI h14 73 2)) fun r18 h17 =>
  some (r18, h17))
  else
  bd2 (f_X11_refuse h2 1) fun r24 h23 =>
  some (r24, h23)
noncomputable def f_X11_unlike (h : HP) (t : Nat) (a1 : Int64) : Option (Int32 × HP) :=
  bd2 (f_X11_isPicture h a1) fun r3 h2 =>
  if r3 = (0 : Int32) then
  (bd2 (f_X11_refuse h2 1) fun r13 h12 =>
  some (r13, h12))
  else
  bd2 (f_X1_countUnlike h2 (t + 1) (hI h2 t 13) (Int64.toInt32 a1)) fun r7 h6 =>
  bd2 (f_X11_answer h6 r7) fun r10 h9 =>
  some (r10, h9)
noncomputable def f_X11_seen_18 (t : Nat)   (h : HP) : Option (Int32 × HP) :=
  bd2 (f_X11_refuse h 1) fun r11 h10 =>
  some (r11, h10)
noncomputable def f_X11_seen (h : HP) (t : Nat) (a1 : Int32) (a2 : Int32) : Option (Int32 × HP) :=
  if a1 < (0 : Int32) then
  (f_X11_seen_18 t h)
  else
  if 1 < a1 then
  (f_X11_seen_18 t h)
  else
  if a2 < (0 : Int32) then
  (f_X11_seen_18 t h)
  else
  if a2 ≤ 4 then
  (gdi ((a1 * 5) + a2) 10 <|
  bd2 (f_X11_answer h (hI h (t + 15) (Int32.toNatClampNeg ((a1 * 5) + a2)))) fun r8 h7 =>
  some (r8, h7))
  else
  f_X11_seen_18 t h
noncomputable def f_X11_rulesLeft (h : HP) (t : Nat)  : Option (Int32 × HP) :=
  bd2 (f_X5_countRulesLeft h t) fun r3 h2 =>
  bd2 (f_X11_answer h2 r3) fun r6 h5 =>
  some (r6, h5)
noncomputable def f_X11_fits_4 (t : Nat)  : Nat → Int32 → Int32 → HP → Option (Int32 × HP)
  | 0, _, _, _ => none
  | n + 1, l1, l2, h =>
    if (hI h t 10) ≤ l2 then
    (bd2 (f_X11_answer h l1) fun r4 h3 =>
    some (r4, h3))
    else
    bd2 (f_X5_ruleFits h t l2) fun r7 h6 =>
    if r7 = (0 : Int32) then
    (ltv ((l1 ||| 0) : Int32) fun x9 =>
    ltv (l2 + 1 : Int32) fun x10 =>
    f_X11_fits_4 t n x9 x10 h6)
    else
    ltv ((l1 ||| ((1 : Int32) <<< (l2 &&& 31))) : Int32) fun x11 =>
    ltv (l2 + 1 : Int32) fun x12 =>
    f_X11_fits_4 t n x11 x12 h6
noncomputable def f_X11_fits (h : HP) (t : Nat)  : Option (Int32 × HP) :=
  f_X11_fits_4 t FU 0 0 h
noncomputable def f_X11_forget (h : HP) (t : Nat)  : Option (Int32 × HP) :=
  bd2 (f_X5_forgetSeen h t) fun r3 h2 =>
  bd2 (f_X11_answer h2 r3) fun r6 h5 =>
  some (r6, h5)
noncomputable def f_X11_shows (h : HP) (t : Nat)  : Option (Int32 × HP) :=
  bd2 (f_X5_countNewToSee h t) fun r3 h2 =>
  bd2 (f_X11_answer h2 r3) fun r6 h5 =>
  some (r6, h5)
noncomputable def f_X11_vote (h : HP) (t : Nat) (a1 : Int32) : Option (Int32 × HP) :=
  bd2 (f_X5_hasCitizen h t a1) fun r3 h2 =>
  if r3 = (0 : Int32) then
  (bd2 (f_X11_refuse h2 1) fun r19 h18 =>
  some (r19, h18))
  else
  if (hI h2 t 10) = (0 : Int32) then
  (bd2 (f_X11_refuse h2 6) fun r16 h15 =>
  some (r16, h15))
  else
  bd1 (f_X5_lookAtRules h2 t) fun h7 =>
  bd2 (f_X5_choiceOf h7 t a1) fun r10 h9 =>
  bd2 (f_X11_answer h9 r10) fun r13 h12 =>
  some (r13, h12)
noncomputable def f_X11_votes (h : HP) (t : Nat) (a1 : Int32) : Option (Int32 × HP) :=
  bd2 (f_X5_hasRule h t a1) fun r3 h2 =>
  if r3 = (0 : Int32) then
  (bd2 (f_X11_refuse h2 1) fun r15 h14 =>
  some (r15, h14))
  else
  bd1 (f_X5_lookAtRules h2 t) fun h6 =>
  bd2 (f_X5_countVotes h6 t a1) fun r9 h8 =>
  bd2 (f_X11_answer h8 r9) fun r12 h11 =>
  some (r12, h11)
noncomputable def f_X11_elect (h : HP) (t : Nat)  : Option (Int32 × HP) :=
  bd2 (f_X5_holdElection h t) fun r3 h2 =>
  if r3 = (0 : Int32) then
  (bd2 (f_X11_refuse h2 6) fun r7 h6 =>
  some (r7, h6))
  else
  bd2 (f_X11_answer h2 (hI h2 t 12)) fun r10 h9 =>
  some (r10, h9)
noncomputable def f_X11_reads_41 (t : Nat)  (l1 : Int32) (l2 : Int32) (h : HP) : Option (Int32 × HP) :=
  if l2 = 1 then
  (if l1 < (0 : Int32) then
  (bd2 (f_X11_refuse h 1) fun r17 h16 =>
  some (r17, h16))
  else
  if (hI h (t + 1) 0) ≤ l1 then
  (bd2 (f_X11_refuse h 1) fun r21 h20 =>
  some (r21, h20))
  else
  bd2 (f_X1_columnOf h (t + 1) (hI h t 13) l1) fun r24 h23 =>
  bd2 (f_X11_answer h23 r24) fun r27 h26 =>
  some (r27, h26))
  else
  bd2 (f_X11_refuse h 1) fun r13 h12 =>
  some (r13, h12)
noncomputable def f_X11_reads (h : HP) (t : Nat) (a1 : Int32) (a2 : Int32) : Option (Int32 × HP) :=
  if a2 = (0 : Int32) then
  (if a1 < (0 : Int32) then
  (f_X11_reads_41 t a1 a2 h)
  else
  if (hI h (t + 1) 1) ≤ a1 then
  (f_X11_reads_41 t a1 a2 h)
  else
  bd2 (f_X1_rowOf h (t + 1) (hI h t 13) a1) fun r6 h5 =>
  bd2 (f_X11_answer h5 r6) fun r9 h8 =>
  some (r9, h8))
  else
  f_X11_reads_41 t a1 a2 h
noncomputable def f_X11_mirror (h : HP) (t : Nat)  : Option (Int32 × HP) :=
  bd2 (f_X1_isMirror h (t + 1) (hI h t 13)) fun r3 h2 =>
  if r3 = (0 : Int32) then
  (bd2 (f_X11_answer h2 0) fun r7 h6 =>
  some (r7, h6))
  else
  bd2 (f_X11_answer h2 1) fun r10 h9 =>
  some (r10, h9)
noncomputable def f_X11_heaps_31 (t : Nat)  : Nat → Int32 → Int32 → Int32 → Int32 → Int32 → HP → Option (Int32 × HP)
  | 0, _, _, _, _, _, _ => none
  | n + 1, l1, l2, l3, l4, l5, h =>
    if 30 ≤ l5 then
    (if l1 = (0 : Int32) then
    (bd2 (f_X11_answer h l3) fun r17 h16 =>
    some (r17, h16))
    else
    bd2 (f_X11_answer h l4) fun r14 h13 =>
    some (r14, h13))
    else
    if l2 = (0 : Int32) then
    (if l1 = (0 : Int32) then
    (bd2 (f_X11_answer h l3) fun r25 h24 =>
    some (r25, h24))
    else
    bd2 (f_X11_answer h l4) fun r22 h21 =>
    some (r22, h21))
    else
    bd2 (f_X1_heapOf h (t + 1) (l2 &&& (-l2)) l2) fun r28 h27 =>
    ltv ((l2 &&& (r28 ^^^ (-1))) : Int32) fun x29 =>
    ltv (l3 + 1 : Int32) fun x30 =>
    bd2 (f_J6_bitCount_0f7a4 h27 r28) fun r33 h32 =>
    ltv ((if l4 < r33 then r33 else l4) : Int32) fun x34 =>
    ltv (l5 + 1 : Int32) fun x35 =>
    f_X11_heaps_31 t n l1 x29 x30 x34 x35 h32
noncomputable def f_X11_heaps (h : HP) (t : Nat) (a1 : Int32) : Option (Int32 × HP) :=
  if a1 < (0 : Int32) then
  (bd2 (f_X11_refuse h 1) fun r4 h3 =>
  some (r4, h3))
  else
  if a1 ≤ 1 then
  (ltv ((hI h t 13) : Int32) fun x6 =>
  f_X11_heaps_31 t FU a1 x6 0 0 0 h)
  else
  bd2 (f_X11_refuse h 1) fun r9 h8 =>
  some (r9, h8)
noncomputable def f_X11_heap (h : HP) (t : Nat) (a1 : Int32) (a2 : Int32) : Option (Int32 × HP) :=
  bd2 (f_X1_placeOf h (t + 1) a1 a2) fun r3 h2 =>
  if (0 : Int32) ≤ r3 then
  (ltv (((1 : Int32) <<< (r3 &&& 31)) : Int32) fun x5 =>
  if ((hI h2 (t + 1) 4) &&& x5) = (0 : Int32) then
  (bd2 (f_X11_refuse h2 7) fun r18 h17 =>
  some (r18, h17))
  else
  bd2 (f_X1_heapOf h2 (t + 1) (x5 &&& (hI h2 t 13)) (hI h2 t 13)) fun r9 h8 =>
  bd2 (f_J6_bitCount_0f7a4 h8 r9) fun r12 h11 =>
  bd2 (f_X11_answer h11 r12) fun r15 h14 =>
  some (r15, h14))
  else
  bd2 (f_X11_refuse h2 1) fun r21 h20 =>
  some (r21, h20)
noncomputable def f_X11_company_34 (t : Nat)  : Nat → Int32 → Int32 → Int32 → HP → Option (Int32 × HP)
  | 0, _, _, _, _ => none
  | n + 1, l1, l2, l3, h =>
    if 5 ≤ l3 then
    (bd2 (f_J6_bitCount_0f7a4 h l1) fun r12 h11 =>
    bd1 (f_X11_tellFraction h11 l2 r12) fun h14 =>
    bd2 (f_X11_allow h14) fun r17 h16 =>
    gdv (is01 r17) <|
    some (r17, h16))
    else
    gdi l3 5 <|
    bd2 (f_J6_bitCount_0f7a4 h ((hI h (t + 1 + 1) (Int32.toNatClampNeg l3)) &&& l1)) fun r22 h21 =>
    ltv ((l2 + (l3 * r22)) : Int32) fun x23 =>
    ltv (l3 + 1 : Int32) fun x24 =>
    f_X11_company_34 t n l1 x23 x24 h21
noncomputable def f_X11_company (h : HP) (t : Nat)  : Option (Int32 × HP) :=
  ltv ((hI h t 13) : Int32) fun x1 =>
  if x1 = (0 : Int32) then
  (bd2 (f_X11_deny h 6) fun r7 h6 =>
  gdv (is01 r7) <|
  some (r7, h6))
  else
  bd1 (f_X1_countLit h (t + 1) x1) fun h4 =>
  f_X11_company_34 t FU x1 0 1 h4
noncomputable def f_X11_live (h : HP) (t : Nat) (a1 : Int32) : Option (Int32 × HP) :=
  if a1 < (0 : Int32) then
  (bd2 (f_X11_refuse h 1) fun r4 h3 =>
  some (r4, h3))
  else
  if a1 ≤ 9999 then
  (if (hI h (t + 3) 5) = (0 : Int32) then
  (bd2 (f_X11_refuse h 6) fun r15 h14 =>
  some (r15, h14))
  else
  bd1 (f_X2_liveBy h 75 t a1) fun h8 =>
  ltv (uI h8 0 14 1) fun g9 =>
  bd2 (f_X11_answer g9 (hI g9 75 2)) fun r12 h11 =>
  some (r12, h11))
  else
  bd2 (f_X11_refuse h 1) fun r18 h17 =>
  some (r18, h17)
noncomputable def f_X11_lived (h : HP) (t : Nat) (a1 : Int32) : Option (Int32 × HP) :=
  if a1 < (0 : Int32) then
  (bd2 (f_X11_refuse h 1) fun r4 h3 =>
  some (r4, h3))
  else
  if a1 ≤ 4 then
  (if (hI h 0 14) = (0 : Int32) then
  (bd2 (f_X11_refuse h 6) fun r32 h31 =>
  some (r32, h31))
  else
  if a1 = 0 then
  (bd2 (f_X11_answer h (hI h 75 3)) fun r10 h9 =>
  some (r10, h9))
  else
  if a1 = 1 then
  (bd2 (f_X11_answer h (hI h 75 4)) fun r14 h13 =>
  some (r14, h13))
  else
  if a1 = 2 then
  (bd2 (f_X11_answer h (hI h 75 5)) fun r18 h17 =>
  some (r18, h17))
  else
  if a1 = 3 then
  (bd2 (f_X11_answer h (hI h 75 6)) fun r22 h21 =>
  some (r22, h21))
  else
  if (hI h 75 7) = (0 : Int32) then
  (bd2 (f_X11_answer h 0) fun r26 h25 =>
  some (r26, h25))
  else
  bd2 (f_X11_answer h 1) fun r29 h28 =>
  some (r29, h28))
  else
  bd2 (f_X11_refuse h 1) fun r35 h34 =>
  some (r35, h34)
theorem th_J6_bitCount_0f7a4 {h : HP} (ly : Lay h) {x : Int32} {rr : Int32} {hh : HP} (hf : f_J6_bitCount_0f7a4 h x = some (rr, hh)) : Spec yJ6_bitCount_0f7a4 cJ6_bitCount_0f7a4 miJ6_bitCount_0f7a4 [.int x] h (pI fun r' h' => (r' = rr ∧ h' = hh) ∧ SR h hh) := by
  unfold f_J6_bitCount_0f7a4 at hf
  cases hf
  exact Spec.dI (sp_J6_bitCount_0f7a4 h x) (fun _ _ => Iff.rfl) ⟨rfl, rfl⟩
theorem th_J7_fill_53178 {h : HP} (ly : Lay h) {v : Int32} {hh : HP} (hf : f_J7_fill_53178 h v = some hh) : Spec yJ7_fill_53178 cJ7_fill_53178 miJ7_fill_53178 [.ref 66, .int v] h (pV fun h' => h' = hh ∧ SR h hh) := by
  unfold f_J7_fill_53178 at hf
  cases hf
  exact Spec.dV (sp_J7_fill_53178 ly.1 (a := 66) (q := 7168) rfl (by decide) v) (fun _ => Iff.rfl) ⟨rfl, rfl⟩
theorem th_X11_answer {h : HP} (ly : Lay h) {v : Int32} {rr : Int32} {hh : HP} (hf : f_X11_answer h v = some (rr, hh)) : Spec yX11_answer cX11_answer miX11_answer [.ref 0, .int v] h (pI fun r' h' => (r' = rr ∧ h' = hh) ∧ SR h hh) := by
  unfold f_X11_answer at hf
  cases hf
  exact Spec.dI (sp_X11_answer ly v) (fun _ _ => Iff.rfl) ⟨rfl, rfl⟩
theorem th_X11_refuse {h : HP} (ly : Lay h) {v : Int32} {rr : Int32} {hh : HP} (hf : f_X11_refuse h v = some (rr, hh)) : Spec yX11_refuse cX11_refuse miX11_refuse [.ref 0, .int v] h (pI fun r' h' => (r' = rr ∧ h' = hh) ∧ SR h hh) := by
  unfold f_X11_refuse at hf
  cases hf
  exact Spec.dI (sp_X11_refuse ly v) (fun _ _ => Iff.rfl) ⟨rfl, rfl⟩
theorem th_X11_deny {h : HP} (ly : Lay h) {v : Int32} {rr : Int32} {hh : HP} (hf : f_X11_deny h v = some (rr, hh)) : Spec yX11_deny cX11_deny miX11_deny [.ref 0, .int v] h (pI fun r' h' => (r' = rr ∧ h' = hh) ∧ SR h hh) := by
  unfold f_X11_deny at hf
  cases hf
  exact Spec.dI (sp_X11_deny ly v) (fun _ _ => Iff.rfl) ⟨rfl, rfl⟩
theorem th_X11_allow {h : HP} (ly : Lay h) {rr : Int32} {hh : HP} (hf : f_X11_allow h = some (rr, hh)) : Spec yX11_allow cX11_allow miX11_allow [.ref 0] h (pI fun r' h' => (r' = rr ∧ h' = hh) ∧ SR h hh) := by
  unfold f_X11_allow at hf
  cases hf
  exact Spec.dI (sp_X11_allow ly) (fun _ _ => Iff.rfl) ⟨rfl, rfl⟩
theorem th_X11_status {h : HP} (ly : Lay h) {rr : Int32} {hh : HP} (hf : f_X11_status h = some (rr, hh)) : Spec yX11_status cX11_status miX11_status [.ref 0] h (pI fun r' h' => (r' = rr ∧ h' = hh) ∧ SR h hh) := by
  unfold f_X11_status at hf
  cases hf
  exact Spec.dI (sp_X11_status ly) (fun _ _ => Iff.rfl) ⟨rfl, rfl⟩
theorem th_X11_top {h : HP} (ly : Lay h) {rr : Int64} {hh : HP} (hf : f_X11_top h = some (rr, hh)) : Spec yX11_top cX11_top miX11_top [.ref 0] h (pL fun r' h' => (r' = rr ∧ h' = hh) ∧ SR h hh) := by
  unfold f_X11_top at hf
  cases hf
  exact Spec.dL (sp_X11_top ly) (fun _ _ => Iff.rfl) ⟨rfl, rfl⟩
theorem th_X11_bottom {h : HP} (ly : Lay h) {rr : Int64} {hh : HP} (hf : f_X11_bottom h = some (rr, hh)) : Spec yX11_bottom cX11_bottom miX11_bottom [.ref 0] h (pL fun r' h' => (r' = rr ∧ h' = hh) ∧ SR h hh) := by
  unfold f_X11_bottom at hf
  cases hf
  exact Spec.dL (sp_X11_bottom ly) (fun _ _ => Iff.rfl) ⟨rfl, rfl⟩
theorem th_X1_start {h : HP} (ly : Lay h) {hill : Nat} (hH : isH hill) {w : Int32} {ring : Int32} {hh : HP} (hf : f_X1_start h hill w ring = some hh) : Spec yX1_start cX1_start miX1_start [.ref hill, .int w, .int ring] h (pV fun h' => h' = hh ∧ SR h hh) := by
  unfold f_X1_start at hf
  cases hf
  exact Spec.dV (sp_X1_start ly hH w ring) (fun _ => Iff.rfl) ⟨rfl, rfl⟩
theorem th_X1_addRow {h : HP} (ly : Lay h) {hill : Nat} (hH : isH hill) {hh : HP} (hf : f_X1_addRow h hill = some hh) : Spec yX1_addRow cX1_addRow miX1_addRow [.ref hill] h (pV fun h' => h' = hh ∧ SR h hh) := by
  unfold f_X1_addRow at hf
  cases hf
  exact Spec.dV (sp_X1_addRow ly hH) (fun _ => Iff.rfl) ⟨rfl, rfl⟩
theorem th_X1_around {h : HP} (ly : Lay h) {hill : Nat} (hH : isH hill) {x : Int32} {rr : Int32} {hh : HP} (hf : f_X1_around h hill x = some (rr, hh)) : Spec yX1_around cX1_around miX1_around [.ref hill, .int x] h (pI fun r' h' => (r' = rr ∧ h' = hh) ∧ SR h hh) := by
  unfold f_X1_around at hf
  cases hf
  exact Spec.dI (sp_X1_around ly hH x) (fun _ _ => Iff.rfl) ⟨rfl, rfl⟩
theorem th_X1_columnOf {h : HP} (ly : Lay h) {hill : Nat} (hH : isH hill) {p : Int32} {x : Int32} {rr : Int32} {hh : HP} (hf : f_X1_columnOf h hill p x = some (rr, hh)) : Spec yX1_columnOf cX1_columnOf miX1_columnOf [.ref hill, .int p, .int x] h (pI fun r' h' => (r' = rr ∧ h' = hh) ∧ SR h hh) := by
  unfold f_X1_columnOf at hf
  obtain ⟨g0, hf2⟩ := gdi_el hf
  replace hf := hf2
  clear hf2
  obtain ⟨r, hr7, -, er⟩ := vp_nat g0
  rw [er, nI_clamp (by omega)] at hf
  cases hf
  exact Spec.dI (sp_X1_columnOf ly hH er (by omega) p x) (fun _ _ => Iff.rfl) ⟨rfl, rfl⟩
theorem th_X1_countAround {h : HP} (ly : Lay h) {hill : Nat} (hH : isH hill) {b : Int32} {x : Int32} {rr : Int32} {hh : HP} (hf : f_X1_countAround h hill b x = some (rr, hh)) : Spec yX1_countAround cX1_countAround miX1_countAround [.ref hill, .int b, .int x] h (pI fun r' h' => (r' = rr ∧ h' = hh) ∧ SR h hh) := by
  unfold f_X1_countAround at hf
  cases hf
  exact Spec.dI (sp_X1_countAround ly hH b x) (fun _ _ => Iff.rfl) ⟨rfl, rfl⟩
theorem th_X1_countLit {h : HP} (ly : Lay h) {hill : Nat} (hH : isH hill) {x : Int32} {hh : HP} (hf : f_X1_countLit h hill x = some hh) : Spec yX1_countLit cX1_countLit miX1_countLit [.ref hill, .int x] h (pV fun h' => h' = hh ∧ SR h hh) := by
  unfold f_X1_countLit at hf
  cases hf
  exact Spec.dV (sp_X1_countLit ly hH x) (fun _ => Iff.rfl) ⟨rfl, rfl⟩
theorem th_X1_countUnlike {h : HP} (ly : Lay h) {hill : Nat} (hH : isH hill) {x : Int32} {y : Int32} {rr : Int32} {hh : HP} (hf : f_X1_countUnlike h hill x y = some (rr, hh)) : Spec yX1_countUnlike cX1_countUnlike miX1_countUnlike [.ref hill, .int x, .int y] h (pI fun r' h' => (r' = rr ∧ h' = hh) ∧ SR h hh) := by
  unfold f_X1_countUnlike at hf
  cases hf
  exact Spec.dI (sp_X1_countUnlike ly hH x y) (fun _ _ => Iff.rfl) ⟨rfl, rfl⟩
theorem th_X1_heapOf {h : HP} (ly : Lay h) {hill : Nat} (hH : isH hill) {b : Int32} {x : Int32} {rr : Int32} {hh : HP} (hf : f_X1_heapOf h hill b x = some (rr, hh)) : Spec yX1_heapOf cX1_heapOf miX1_heapOf [.ref hill, .int b, .int x] h (pI fun r' h' => (r' = rr ∧ h' = hh) ∧ SR h hh) := by
  unfold f_X1_heapOf at hf
  cases hf
  exact Spec.dI (sp_X1_heapOf ly hH b x) (fun _ _ => Iff.rfl) ⟨rfl, rfl⟩
theorem th_X1_placeOf {h : HP} (ly : Lay h) {hill : Nat} (hH : isH hill) {x : Int32} {y : Int32} {rr : Int32} {hh : HP} (hf : f_X1_placeOf h hill x y = some (rr, hh)) : Spec yX1_placeOf cX1_placeOf miX1_placeOf [.ref hill, .int x, .int y] h (pI fun r' h' => (r' = rr ∧ h' = hh) ∧ SR h hh) := by
  unfold f_X1_placeOf at hf
  cases hf
  exact Spec.dI (sp_X1_placeOf ly hH x y) (fun _ _ => Iff.rfl) ⟨rfl, rfl⟩
theorem th_X1_rowMask {h : HP} (ly : Lay h) {hill : Nat} (hH : isH hill) {rr : Int32} {hh : HP} (hf : f_X1_rowMask h hill = some (rr, hh)) : Spec yX1_rowMask cX1_rowMask miX1_rowMask [.ref hill] h (pI fun r' h' => (r' = rr ∧ h' = hh) ∧ SR h hh) := by
  unfold f_X1_rowMask at hf
  cases hf
  exact Spec.dI (sp_X1_rowMask ly hH) (fun _ _ => Iff.rfl) ⟨rfl, rfl⟩
theorem th_X1_rowOf {h : HP} (ly : Lay h) {hill : Nat} (hH : isH hill) {p : Int32} {y : Int32} {rr : Int32} {hh : HP} (hf : f_X1_rowOf h hill p y = some (rr, hh)) : Spec yX1_rowOf cX1_rowOf miX1_rowOf [.ref hill, .int p, .int y] h (pI fun r' h' => (r' = rr ∧ h' = hh) ∧ SR h hh) := by
  unfold f_X1_rowOf at hf
  cases hf
  exact Spec.dI (sp_X1_rowOf ly hH p y) (fun _ _ => Iff.rfl) ⟨rfl, rfl⟩
theorem th_X1_step {h : HP} (ly : Lay h) {hill : Nat} (hH : isH hill) {x : Int32} {born : Int32} {stays : Int32} {rr : Int32} {hh : HP} (hf : f_X1_step h hill x born stays = some (rr, hh)) : Spec yX1_step cX1_step miX1_step [.ref hill, .int x, .int born, .int stays] h (pI fun r' h' => (r' = rr ∧ h' = hh) ∧ SR h hh) := by
  unfold f_X1_step at hf
  cases hf
  exact Spec.dI (sp_X1_step ly hH x born stays) (fun _ _ => Iff.rfl) ⟨rfl, rfl⟩
theorem th_X1_isMirror {h : HP} (ly : Lay h) {hill : Nat} (hH : isH hill) {p : Int32} {rr : Int32} {hh : HP} (hf : f_X1_isMirror h hill p = some (rr, hh)) : Spec yX1_isMirror cX1_isMirror miX1_isMirror [.ref hill, .int p] h (pI fun r' h' => (r' = rr ∧ h' = hh) ∧ SR h hh) := by
  unfold f_X1_isMirror at hf
  obtain ⟨g0, hf2⟩ := gdi_el hf
  replace hf := hf2
  clear hf2
  obtain ⟨g1, hf2⟩ := gdi_el hf
  replace hf := hf2
  clear hf2
  obtain ⟨w, hw6, -, ew⟩ := vp_nat g0
  obtain ⟨r, hr7, -, er⟩ := vp_nat g1
  rw [ew, er, nI_clamp (by omega), nI_clamp (by omega)] at hf
  cases hf
  exact Spec.dI (sp_X1_isMirror ly hH ew er (by omega) (by omega) p) (fun _ _ => and_congr_left' cIf_iff) ⟨rfl, rfl⟩
theorem th_X5_bornNow {h : HP} (ly : Lay h) {t : Nat} (hT : isT t) {rr : Int32} {hh : HP} (hf : f_X5_bornNow h t = some (rr, hh)) : Spec yX5_bornNow cX5_bornNow miX5_bornNow [.ref t] h (pI fun r' h' => (r' = rr ∧ h' = hh) ∧ SR h hh) := by
  unfold f_X5_bornNow at hf
  obtain ⟨g0, hf2⟩ := gd_el hf
  replace hf := hf2
  clear hf2
  cases hf
  exact Spec.dI (sp_X5_bornNow ly hT g0) (fun _ _ => Iff.rfl) ⟨rfl, rfl⟩
theorem th_X5_staysNow {h : HP} (ly : Lay h) {t : Nat} (hT : isT t) {rr : Int32} {hh : HP} (hf : f_X5_staysNow h t = some (rr, hh)) : Spec yX5_staysNow cX5_staysNow miX5_staysNow [.ref t] h (pI fun r' h' => (r' = rr ∧ h' = hh) ∧ SR h hh) := by
  unfold f_X5_staysNow at hf
  obtain ⟨g0, hf2⟩ := gd_el hf
  replace hf := hf2
  clear hf2
  cases hf
  exact Spec.dI (sp_X5_staysNow ly hT g0) (fun _ _ => Iff.rfl) ⟨rfl, rfl⟩
theorem th_X5_nextOf {h : HP} (ly : Lay h) {t : Nat} (hT : isT t) {x : Int32} {rr : Int32} {hh : HP} (hf : f_X5_nextOf h t x = some (rr, hh)) : Spec yX5_nextOf cX5_nextOf miX5_nextOf [.ref t, .int x] h (pI fun r' h' => (r' = rr ∧ h' = hh) ∧ SR h hh) := by
  unfold f_X5_nextOf at hf
  obtain ⟨g0, hf2⟩ := gd_el hf
  replace hf := hf2
  clear hf2
  cases hf
  exact Spec.dI (sp_X5_nextOf ly hT g0 x) (fun _ _ => Iff.rfl) ⟨rfl, rfl⟩
theorem th_X5_isStill {h : HP} (ly : Lay h) {t : Nat} (hT : isT t) {rr : Int32} {hh : HP} (hf : f_X5_isStill h t = some (rr, hh)) : Spec yX5_isStill cX5_isStill miX5_isStill [.ref t] h (pI fun r' h' => (r' = rr ∧ h' = hh) ∧ SR h hh) := by
  unfold f_X5_isStill at hf
  obtain ⟨g0, hf2⟩ := gd_el hf
  replace hf := hf2
  clear hf2
  cases hf
  exact Spec.dI (sp_X5_isStill ly hT g0) (fun _ _ => Iff.rfl) ⟨rfl, rfl⟩
theorem th_X5_choiceOf {h : HP} (ly : Lay h) {t : Nat} (hT : isT t) {c : Int32} {rr : Int32} {hh : HP} (hf : f_X5_choiceOf h t c = some (rr, hh)) : Spec yX5_choiceOf cX5_choiceOf miX5_choiceOf [.ref t, .int c] h (pI fun r' h' => (r' = rr ∧ h' = hh) ∧ SR h hh) := by
  unfold f_X5_choiceOf at hf
  obtain ⟨g0, hf2⟩ := gdi_el hf
  replace hf := hf2
  clear hf2
  obtain ⟨g1, hf2⟩ := gdi_el hf
  replace hf := hf2
  clear hf2
  obtain ⟨m, hm5, -, em⟩ := vp_nat g0
  obtain ⟨c0, hc6, -, rfl⟩ := vp_nat g1
  rw [em, nI_clamp (by omega), nI_clamp (by omega)] at hf
  cases hf
  exact Spec.dI (sp_X5_choiceOf ly hT (by omega) em hc6) (fun _ _ => Iff.rfl) ⟨rfl, rfl⟩
theorem th_X5_countVotes {h : HP} (ly : Lay h) {t : Nat} (hT : isT t) {r : Int32} {rr : Int32} {hh : HP} (hf : f_X5_countVotes h t r = some (rr, hh)) : Spec yX5_countVotes cX5_countVotes miX5_countVotes [.ref t, .int r] h (pI fun r' h' => (r' = rr ∧ h' = hh) ∧ SR h hh) := by
  unfold f_X5_countVotes at hf
  obtain ⟨g0, hf2⟩ := gdi_el hf
  replace hf := hf2
  clear hf2
  obtain ⟨g1, hf2⟩ := gdi_el hf
  replace hf := hf2
  clear hf2
  obtain ⟨m, hm5, -, em⟩ := vp_nat g0
  obtain ⟨c, hc7, -, ec⟩ := vp_nat g1
  rw [em, ec, nI_clamp (by omega), nI_clamp (by omega)] at hf
  cases hf
  exact Spec.dI (sp_X5_countVotes ly hT (by omega) em (by omega) ec r) (fun _ _ => Iff.rfl) ⟨rfl, rfl⟩
theorem th_X5_countNewToSee {h : HP} (ly : Lay h) {t : Nat} (hT : isT t) {rr : Int32} {hh : HP} (hf : f_X5_countNewToSee h t = some (rr, hh)) : Spec yX5_countNewToSee cX5_countNewToSee miX5_countNewToSee [.ref t] h (pI fun r' h' => (r' = rr ∧ h' = hh) ∧ SR h hh) := by
  unfold f_X5_countNewToSee at hf
  cases hf
  exact Spec.dI (sp_X5_countNewToSee ly hT) (fun _ _ => Iff.rfl) ⟨rfl, rfl⟩
theorem th_X5_countRulesLeft {h : HP} (ly : Lay h) {t : Nat} (hT : isT t) {rr : Int32} {hh : HP} (hf : f_X5_countRulesLeft h t = some (rr, hh)) : Spec yX5_countRulesLeft cX5_countRulesLeft miX5_countRulesLeft [.ref t] h (pI fun r' h' => (r' = rr ∧ h' = hh) ∧ SR h hh) := by
  unfold f_X5_countRulesLeft at hf
  cases hf
  exact Spec.dI (sp_X5_countRulesLeft ly hT) (fun _ _ => Iff.rfl) ⟨rfl, rfl⟩
theorem th_X5_forgetSeen {h : HP} (ly : Lay h) {t : Nat} (hT : isT t) {rr : Int32} {hh : HP} (hf : f_X5_forgetSeen h t = some (rr, hh)) : Spec yX5_forgetSeen cX5_forgetSeen miX5_forgetSeen [.ref t] h (pI fun r' h' => (r' = rr ∧ h' = hh) ∧ SR h hh) := by
  unfold f_X5_forgetSeen at hf
  cases hf
  exact Spec.dI (sp_X5_forgetSeen ly hT) (fun _ _ => Iff.rfl) ⟨rfl, rfl⟩
theorem th_X5_hasCitizen {h : HP} (ly : Lay h) {t : Nat} (hT : isT t) {c : Int32} {rr : Int32} {hh : HP} (hf : f_X5_hasCitizen h t c = some (rr, hh)) : Spec yX5_hasCitizen cX5_hasCitizen miX5_hasCitizen [.ref t, .int c] h (pI fun r' h' => (r' = rr ∧ h' = hh) ∧ SR h hh) := by
  unfold f_X5_hasCitizen at hf
  cases hf
  exact Spec.dI (sp_X5_hasCitizen ly hT c) (fun _ _ => Iff.rfl) ⟨rfl, rfl⟩
theorem th_X5_hasRule {h : HP} (ly : Lay h) {t : Nat} (hT : isT t) {r : Int32} {rr : Int32} {hh : HP} (hf : f_X5_hasRule h t r = some (rr, hh)) : Spec yX5_hasRule cX5_hasRule miX5_hasRule [.ref t, .int r] h (pI fun r' h' => (r' = rr ∧ h' = hh) ∧ SR h hh) := by
  unfold f_X5_hasRule at hf
  cases hf
  exact Spec.dI (sp_X5_hasRule ly hT r) (fun _ _ => Iff.rfl) ⟨rfl, rfl⟩
theorem th_X5_repaint {h : HP} (ly : Lay h) {t : Nat} (hT : isT t) {x : Int32} {rr : Int32} {hh : HP} (hf : f_X5_repaint h t x = some (rr, hh)) : Spec yX5_repaint cX5_repaint miX5_repaint [.ref t, .int x] h (pI fun r' h' => (r' = rr ∧ h' = hh) ∧ SR h hh) := by
  unfold f_X5_repaint at hf
  cases hf
  exact Spec.dI (sp_X5_repaint ly hT x) (fun r h' => ⟨fun q => ⟨by rw [q.1, q.2], q.2⟩, fun q => ⟨by rw [q.1, q.2], q.2⟩⟩) ⟨rfl, rfl⟩
theorem th_X5_ruleFits {h : HP} (ly : Lay h) {t : Nat} (hT : isT t) {i : Int32} {rr : Int32} {hh : HP} (hf : f_X5_ruleFits h t i = some (rr, hh)) : Spec yX5_ruleFits cX5_ruleFits miX5_ruleFits [.ref t, .int i] h (pI fun r' h' => (r' = rr ∧ h' = hh) ∧ SR h hh) := by
  unfold f_X5_ruleFits at hf
  obtain ⟨g0, hf2⟩ := gdi_el hf
  replace hf := hf2
  clear hf2
  obtain ⟨i0, hi4, -, rfl⟩ := vp_nat g0
  rw [nI_clamp (by omega)] at hf
  cases hf
  exact Spec.dI (sp_X5_ruleFits ly hT hi4) (fun _ _ => and_congr_left' cIf_iff) ⟨rfl, rfl⟩
theorem th_X5_copyFrom {h : HP} (ly : Lay h) {t : Nat} (hT : isT t) {o : Nat} (hO : isT o) {hh : HP} (hf : f_X5_copyFrom h t o = some hh) : Spec yX5_copyFrom cX5_copyFrom miX5_copyFrom [.ref t, .ref o] h (pV fun h' => h' = hh ∧ SR h hh) := by
  unfold f_X5_copyFrom at hf
  obtain ⟨g0, hf2⟩ := gdi_el hf
  replace hf := hf2
  clear hf2
  obtain ⟨g1, hf2⟩ := gd_el hf
  replace hf := hf2
  clear hf2
  obtain ⟨g2, hf2⟩ := gd_el hf
  replace hf := hf2
  clear hf2
  obtain ⟨g3, hf2⟩ := gd_el hf
  replace hf := hf2
  clear hf2
  obtain ⟨e, he, -, ee⟩ := vp_nat g0
  rw [ee, nI_clamp (by omega)] at hf
  cases hf
  exact Spec.dV (sp_X5_copyFrom ly hT hO g3 (by omega) g1 ee g2) (fun _ => Iff.rfl) (townCp_sr _ _ _ _)
theorem th_X9_copyFrom {h : HP} (ly : Lay h) {y : Nat} (hY : isY y) {o : Nat} (hO : isY o) {hh : HP} (hf : f_X9_copyFrom h y o = some hh) : Spec yX9_copyFrom cX9_copyFrom miX9_copyFrom [.ref y, .ref o] h (pV fun h' => h' = hh ∧ SR h hh) := by
  unfold f_X9_copyFrom at hf
  obtain ⟨g0, hf2⟩ := gdi_el hf
  replace hf := hf2
  clear hf2
  obtain ⟨g1, hf2⟩ := gd_el hf
  replace hf := hf2
  clear hf2
  obtain ⟨g2, hf2⟩ := gd_el hf
  replace hf := hf2
  clear hf2
  obtain ⟨e, he, -, ee⟩ := vp_nat g0
  rw [ee, nI_clamp (by omega)] at hf
  cases hf
  exact Spec.dV (sp_X9_copyFrom ly hY hO g2 (by omega) ee g1) (fun _ => Iff.rfl) (yearCp_sr _ _ _ _)
theorem th_X9_makeEmpty {h : HP} (ly : Lay h) {y : Nat} (hY : isY y) {hh : HP} (hf : f_X9_makeEmpty h y = some hh) : Spec yX9_makeEmpty cX9_makeEmpty miX9_makeEmpty [.ref y] h (pV fun h' => h' = hh ∧ SR h hh) := by
  unfold f_X9_makeEmpty at hf
  cases hf
  exact Spec.dV (sp_X9_makeEmpty ly hY) (fun _ => Iff.rfl) ⟨rfl, rfl⟩
theorem th_X9_isBlock {h : HP} (ly : Lay h) {w : Int32} {rr : Int32} {hh : HP} (hf : f_X9_isBlock h w = some (rr, hh)) : Spec yX9_isBlock cX9_isBlock miX9_isBlock [.int w] h (pI fun r' h' => (r' = rr ∧ h' = hh) ∧ SR h hh) := by
  unfold f_X9_isBlock at hf
  cases hf
  exact Spec.dI (sp_X9_isBlock h w) (fun _ _ => Iff.rfl) ⟨rfl, rfl⟩
theorem th_X9_countOpen {h : HP} (ly : Lay h) {y : Nat} (hY : isY y) {rr : Int32} {hh : HP} (hf : f_X9_countOpen h y = some (rr, hh)) : Spec yX9_countOpen cX9_countOpen miX9_countOpen [.ref y] h (pI fun r' h' => (r' = rr ∧ h' = hh) ∧ SR h hh) := by
  unfold f_X9_countOpen at hf
  obtain ⟨g0, hf2⟩ := gdi_el hf
  replace hf := hf2
  clear hf2
  obtain ⟨e, he, -, ee⟩ := vp_nat g0
  rw [ee, nI_clamp (by omega)] at hf
  cases hf
  exact Spec.dI (sp_X9_countOpen ly hY ee (by omega)) (fun _ _ => Iff.rfl) ⟨rfl, rfl⟩
theorem th_X9_openEntry {h : HP} (ly : Lay h) {y : Nat} (hY : isY y) {rr : Int32} {hh : HP} (hf : f_X9_openEntry h y = some (rr, hh)) : Spec yX9_openEntry cX9_openEntry miX9_openEntry [.ref y] h (pI fun r' h' => (r' = rr ∧ h' = hh) ∧ SR h hh) := by
  unfold f_X9_openEntry at hf
  obtain ⟨g0, hf2⟩ := gdi_el hf
  replace hf := hf2
  clear hf2
  obtain ⟨e, he, -, ee⟩ := vp_nat g0
  rw [ee, nI_clamp (by omega)] at hf
  cases hf
  exact Spec.dI (sp_X9_openEntry ly hY ee (by omega)) (fun r h' => and_congr_left' (lastB_iff _ _ _)) ⟨rfl, rfl⟩
theorem th_X9_add {h : HP} (ly : Lay h) {y : Nat} (hY : isY y) {w : Int32} {hh : HP} (hf : f_X9_add h y w = some hh) : Spec yX9_add cX9_add miX9_add [.ref y, .int w] h (pV fun h' => h' = hh ∧ SR h hh) := by
  unfold f_X9_add at hf
  obtain ⟨g0, hf2⟩ := gdi_el hf
  replace hf := hf2
  clear hf2
  obtain ⟨e, he, -, ee⟩ := vp_nat g0
  rw [ee, nI_clamp (by omega), show nI e + 1 = nI (e + 1) from nI_1 e] at hf
  cases hf
  exact Spec.dV (sp_X9_add ly hY he ee w) (fun _ => Iff.rfl) ⟨rfl, rfl⟩
theorem th_X4_advance {h : HP} (ly : Lay h) {hh : HP} (hf : f_X4_advance h = some hh) : Spec yX4_advance cX4_advance miX4_advance [.ref 5] h (pV fun h' => h' = hh ∧ SR h hh) := by
  unfold f_X4_advance at hf
  obtain ⟨g0, hf2⟩ := gdc_el hf
  replace hf := hf2
  clear hf2
  cases hf
  exact Spec.dV (sp_X4_advance g0.1 g0.2.a9 g0.2.a g0.2.le g0.2.n g0.2.lt) (fun _ => Iff.rfl) (advF_fr h).sr
theorem th_X4_fail {h : HP} (ly : Lay h) {why : Int32} {rr : Int32} {hh : HP} (hf : f_X4_fail h why = some (rr, hh)) : Spec yX4_fail cX4_fail miX4_fail [.ref 5, .int why] h (pI fun r' h' => (r' = rr ∧ h' = hh) ∧ SR h hh) := by
  unfold f_X4_fail at hf
  obtain ⟨g0, hf2⟩ := gdc_el hf
  replace hf := hf2
  clear hf2
  cases hf
  exact Spec.dI (sp_X4_fail g0.1 g0.2.a9 g0.2.a why) (fun _ _ => Iff.rfl) (failF_fr h why).sr
theorem th_X4_isEnd {h : HP} (ly : Lay h) {rr : Int32} {hh : HP} (hf : f_X4_isEnd h = some (rr, hh)) : Spec yX4_isEnd cX4_isEnd miX4_isEnd [.ref 5] h (pI fun r' h' => (r' = rr ∧ h' = hh) ∧ SR h hh) := by
  unfold f_X4_isEnd at hf
  obtain ⟨g0, hf2⟩ := gdc_el hf
  replace hf := hf2
  clear hf2
  cases hf
  exact Spec.dI (sp_X4_isEnd g0.1 g0.2.a9 g0.2.a) (fun _ _ => Iff.rfl) ⟨rfl, rfl⟩
theorem th_X4_isWord {h : HP} (ly : Lay h) {v : Int32} {rr : Int32} {hh : HP} (hf : f_X4_isWord h v = some (rr, hh)) : Spec yX4_isWord cX4_isWord miX4_isWord [.ref 5, .int v] h (pI fun r' h' => (r' = rr ∧ h' = hh) ∧ SR h hh) := by
  unfold f_X4_isWord at hf
  obtain ⟨g0, hf2⟩ := gdc_el hf
  replace hf := hf2
  clear hf2
  cases hf
  exact Spec.dI (sp_X4_isWord g0.1 g0.2.a9 g0.2.a v) (fun _ _ => Iff.rfl) ⟨rfl, rfl⟩
theorem th_X4_wordNumber {h : HP} (ly : Lay h) {rr : Int32} {hh : HP} (hf : f_X4_wordNumber h = some (rr, hh)) : Spec yX4_wordNumber cX4_wordNumber miX4_wordNumber [.ref 5] h (pI fun r' h' => (r' = rr ∧ h' = hh) ∧ SR h hh) := by
  unfold f_X4_wordNumber at hf
  obtain ⟨g0, hf2⟩ := gdc_el hf
  replace hf := hf2
  clear hf2
  cases hf
  exact Spec.dI (sp_X4_wordNumber g0.1 g0.2.a9 g0.2.a) (fun _ _ => Iff.rfl) ⟨rfl, rfl⟩
theorem th_X4_takeSign {h : HP} (ly : Lay h) {v : Int32} {rr : Int32} {hh : HP} (hf : f_X4_takeSign h v = some (rr, hh)) : Spec yX4_takeSign cX4_takeSign miX4_takeSign [.ref 5, .int v] h (pI fun r' h' => (r' = rr ∧ h' = hh) ∧ SR h hh) := by
  unfold f_X4_takeSign at hf
  obtain ⟨g0, hf2⟩ := gdc_el hf
  replace hf := hf2
  clear hf2
  cases hf
  exact Spec.dI (sp_X4_takeSign g0.1 g0.2.a9 g0.2.a g0.2.le g0.2.n g0.2.lt v) (fun r h' => takeK_iff) (takeK_fr 3 h v).sr
theorem th_X4_hasRoomFor {h : HP} (ly : Lay h) {b : Int32} {rr : Int32} {hh : HP} (hf : f_X4_hasRoomFor h b = some (rr, hh)) : Spec yX4_hasRoomFor cX4_hasRoomFor miX4_hasRoomFor [.ref 5, .int b] h (pI fun r' h' => (r' = rr ∧ h' = hh) ∧ SR h hh) := by
  unfold f_X4_hasRoomFor at hf
  cases hf
  exact Spec.dI (sp_X4_hasRoomFor ly b) (fun _ _ => Iff.rfl) ⟨rfl, rfl⟩
theorem th_X4_append {h : HP} (ly : Lay h) {v : Int32} {hh : HP} (hf : f_X4_append h v = some hh) : Spec yX4_append cX4_append miX4_append [.ref 5, .int v] h (pV fun h' => h' = hh ∧ SR h hh) := by
  unfold f_X4_append at hf
  obtain ⟨g0, hf2⟩ := gdi_el hf
  replace hf := hf2
  clear hf2
  obtain ⟨f, hf9, -, ef⟩ := vp_nat g0
  rw [ef, nI_clamp (by omega)] at hf
  cases hf
  exact Spec.dV (sp_X4_append ly (by omega) ef v) (fun _ => Iff.rfl) ⟨rfl, rfl⟩
theorem th_X7_isTray {h : HP} (ly : Lay h) {t : Int32} {rr : Int32} {hh : HP} (hf : f_X7_isTray h t = some (rr, hh)) : Spec yX7_isTray cX7_isTray miX7_isTray [.int t] h (pI fun r' h' => (r' = rr ∧ h' = hh) ∧ SR h hh) := by
  unfold f_X7_isTray at hf
  cases hf
  exact Spec.dI (sp_X7_isTray h t) (fun _ _ => Iff.rfl) ⟨rfl, rfl⟩
theorem th_X7_isMissing {h : HP} (ly : Lay h) {t : Int32} {rr : Int32} {hh : HP} (hf : f_X7_isMissing h t = some (rr, hh)) : Spec yX7_isMissing cX7_isMissing miX7_isMissing [.ref 1, .int t] h (pI fun r' h' => (r' = rr ∧ h' = hh) ∧ SR h hh) := by
  unfold f_X7_isMissing at hf
  obtain ⟨g0, hf2⟩ := gdi_el hf
  replace hf := hf2
  clear hf2
  obtain ⟨t0, ht, -, rfl⟩ := vp_nat g0
  rw [nI_clamp (by omega)] at hf
  cases hf
  exact Spec.dI (sp_X7_isMissing ly ht) (fun _ _ => Iff.rfl) ⟨rfl, rfl⟩
theorem th_X7_hasRoom {h : HP} (ly : Lay h) {t : Int32} {p : Int32} {m : Int32} {rr : Int32} {hh : HP} (hf : f_X7_hasRoom h t p m = some (rr, hh)) : Spec yX7_hasRoom cX7_hasRoom miX7_hasRoom [.ref 1, .int t, .int p, .int m] h (pI fun r' h' => (r' = rr ∧ h' = hh) ∧ SR h hh) := by
  unfold f_X7_hasRoom at hf
  obtain ⟨g0, hf2⟩ := gdi_el hf
  replace hf := hf2
  clear hf2
  obtain ⟨t0, ht, -, rfl⟩ := vp_nat g0
  rw [nI_clamp (by omega)] at hf
  cases hf
  exact Spec.dI (sp_X7_hasRoom ly ht p m) (fun _ _ => Iff.rfl) ⟨rfl, rfl⟩
theorem th_X7_areOfOneSort {h : HP} (ly : Lay h) {t : Int32} {u : Int32} {rr : Int32} {hh : HP} (hf : f_X7_areOfOneSort h t u = some (rr, hh)) : Spec yX7_areOfOneSort cX7_areOfOneSort miX7_areOfOneSort [.ref 1, .int t, .int u] h (pI fun r' h' => (r' = rr ∧ h' = hh) ∧ SR h hh) := by
  unfold f_X7_areOfOneSort at hf
  obtain ⟨g0, hf2⟩ := gdi_el hf
  replace hf := hf2
  clear hf2
  obtain ⟨g1, hf2⟩ := gdi_el hf
  replace hf := hf2
  clear hf2
  obtain ⟨t0, ht, -, rfl⟩ := vp_nat g0
  obtain ⟨u0, hu, -, rfl⟩ := vp_nat g1
  rw [nI_clamp (by omega), nI_clamp (by omega)] at hf
  cases hf
  exact Spec.dI (sp_X7_areOfOneSort ly ht hu) (fun _ _ => Iff.rfl) ⟨rfl, rfl⟩
theorem th_X7_numberAt {h : HP} (ly : Lay h) {t : Int32} {u : Int32} {rr : Int64} {hh : HP} (hf : f_X7_numberAt h t u = some (rr, hh)) : Spec yX7_numberAt cX7_numberAt miX7_numberAt [.ref 1, .int t, .int u] h (pL fun r' h' => (r' = rr ∧ h' = hh) ∧ SR h hh) := by
  unfold f_X7_numberAt at hf
  obtain ⟨g0, hf2⟩ := gdi_el hf
  replace hf := hf2
  clear hf2
  obtain ⟨g1, hf2⟩ := gdi_el hf
  replace hf := hf2
  clear hf2
  obtain ⟨t0, ht, -, rfl⟩ := vp_nat g0
  obtain ⟨u0, hu, -, rfl⟩ := vp_nat g1
  rw [nI_clamp (by omega), nI_clamp (by omega)] at hf
  cases hf
  exact Spec.dL (sp_X7_numberAt ly ht hu) (fun _ _ => Iff.rfl) ⟨rfl, rfl⟩
theorem th_X7_put {h : HP} (ly : Lay h) {t : Int32} {u : Int32} {v : Int64} {hh : HP} (hf : f_X7_put h t u v = some hh) : Spec yX7_put cX7_put miX7_put [.ref 1, .int t, .int u, .long v] h (pV fun h' => h' = hh ∧ SR h hh) := by
  unfold f_X7_put at hf
  obtain ⟨g0, hf2⟩ := gdi_el hf
  replace hf := hf2
  clear hf2
  obtain ⟨g1, hf2⟩ := gdi_el hf
  replace hf := hf2
  clear hf2
  obtain ⟨t0, ht, -, rfl⟩ := vp_nat g0
  obtain ⟨u0, hu, -, rfl⟩ := vp_nat g1
  rw [nI_clamp (by omega), nI_clamp (by omega)] at hf
  cases hf
  exact Spec.dV (sp_X7_put ly ht hu v) (fun _ => Iff.rfl) ⟨rfl, rfl⟩
theorem th_X7_copy {h : HP} (ly : Lay h) {t : Int32} {p : Int32} {u : Int32} {q : Int32} {m : Int32} {hh : HP} (hf : f_X7_copy h t p u q m = some hh) : Spec yX7_copy cX7_copy miX7_copy [.ref 1, .int t, .int p, .int u, .int q, .int m] h (pV fun h' => h' = hh ∧ SR h hh) := by
  unfold f_X7_copy at hf
  obtain ⟨g0, hf2⟩ := gdi_el hf
  replace hf := hf2
  clear hf2
  obtain ⟨g1, hf2⟩ := gdi_el hf
  replace hf := hf2
  clear hf2
  obtain ⟨g2, hf2⟩ := gdi_el hf
  replace hf := hf2
  clear hf2
  obtain ⟨g3, hf2⟩ := gdi_el hf
  replace hf := hf2
  clear hf2
  obtain ⟨g4, hf2⟩ := gdi_el hf
  replace hf := hf2
  clear hf2
  obtain ⟨g5, hf2⟩ := gd_el hf
  replace hf := hf2
  clear hf2
  obtain ⟨g6, hf2⟩ := gd_el hf
  replace hf := hf2
  clear hf2
  obtain ⟨t0, ht, -, rfl⟩ := vp_nat g0
  obtain ⟨u0, hu, -, rfl⟩ := vp_nat g1
  obtain ⟨p0, hp, -, rfl⟩ := vp_nat g2
  obtain ⟨q0, hq, -, rfl⟩ := vp_nat g3
  obtain ⟨m0, hm, -, rfl⟩ := vp_nat g4
  rw [nI_clamp (by omega)] at g5 g6 hf
  rw [nI_clamp (by omega)] at g5 g6 hf
  rw [nI_clamp (by omega), nI_clamp (by omega), nI_clamp (by omega)] at hf
  cases hf
  exact Spec.dV (sp_X7_copy ly ht hu g5 g6) (fun _ => Iff.rfl) ⟨rfl, rfl⟩
theorem th_X10_isStep {h : HP} (ly : Lay h) {w : Int32} {rr : Int32} {hh : HP} (hf : f_X10_isStep h w = some (rr, hh)) : Spec yX10_isStep cX10_isStep miX10_isStep [.int w] h (pI fun r' h' => (r' = rr ∧ h' = hh) ∧ SR h hh) := by
  unfold f_X10_isStep at hf
  cases hf
  exact Spec.dI (sp_X10_isStep h ly.1 w) (fun _ _ => Iff.rfl) ⟨rfl, rfl⟩
theorem th_X10_takeFirst {h : HP} (ly : Lay h) {y : Nat} (hY : isY y) {a : Int32} {lo : Int32} {hi : Int32} {rr : Int32} {hh : HP} (hf : f_X10_takeFirst h y a lo hi = some (rr, hh)) : Spec yX10_takeFirst cX10_takeFirst miX10_takeFirst [.ref 5, .ref y, .int a, .int lo, .int hi] h (pI fun r' h' => (r' = rr ∧ h' = hh) ∧ SR h hh) := by
  unfold f_X10_takeFirst at hf
  obtain ⟨g0, hf2⟩ := gdc_el hf
  replace hf := hf2
  clear hf2
  obtain ⟨g1, hf2⟩ := gdi_el hf
  replace hf := hf2
  clear hf2
  obtain ⟨e, he, -, rfl⟩ := vp_nat g1
  rw [nI_clamp (by omega)] at hf
  cases hf
  exact Spec.dI (sp_X10_takeFirst g0 hY he lo hi) (fun _ _ => Iff.rfl) (firstF_sr _ _ _ _ _)
theorem th_X10_takePlace {h : HP} (ly : Lay h) {t : Nat} (hT : isT t) {y : Nat} (hY : isY y) {a : Int32} {rr : Int32} {hh : HP} (hf : f_X10_takePlace h t y a = some (rr, hh)) : Spec yX10_takePlace cX10_takePlace miX10_takePlace [.ref 5, .ref t, .ref y, .int a] h (pI fun r' h' => (r' = rr ∧ h' = hh) ∧ SR h hh) := by
  unfold f_X10_takePlace at hf
  obtain ⟨g0, hf2⟩ := gdc_el hf
  replace hf := hf2
  clear hf2
  obtain ⟨g1, hf2⟩ := gdi_el hf
  replace hf := hf2
  clear hf2
  obtain ⟨e, he, -, rfl⟩ := vp_nat g1
  rw [nI_clamp (by omega)] at hf
  cases hf
  exact Spec.dI (sp_X10_takePlace g0 hT hY he) (fun _ _ => Iff.rfl) (placeYF_sr _ _ _ _)
theorem th_X10_takeRuleName {h : HP} (ly : Lay h) {t : Nat} (hT : isT t) {y : Nat} (hY : isY y) {a : Int32} {rr : Int32} {hh : HP} (hf : f_X10_takeRuleName h t y a = some (rr, hh)) : Spec yX10_takeRuleName cX10_takeRuleName miX10_takeRuleName [.ref 5, .ref t, .ref y, .int a] h (pI fun r' h' => (r' = rr ∧ h' = hh) ∧ SR h hh) := by
  unfold f_X10_takeRuleName at hf
  obtain ⟨g0, hf2⟩ := gdc_el hf
  replace hf := hf2
  clear hf2
  obtain ⟨g1, hf2⟩ := gdi_el hf
  replace hf := hf2
  clear hf2
  obtain ⟨g2, hf2⟩ := gdc_el hf
  replace hf := hf2
  clear hf2
  obtain ⟨e, he, -, rfl⟩ := vp_nat g1
  rw [nI_clamp (by omega)] at hf
  cases hf
  exact Spec.dI (sp_X10_takeRuleName g0 hT g2 hY he) (fun _ _ => Iff.rfl) (ruleNameF_sr _ _ _ _)
theorem th_X10_takeTest {h : HP} (ly : Lay h) {t : Nat} (hT : isT t) {y : Nat} (hY : isY y) {a : Int32} {rr : Int32} {hh : HP} (hf : f_X10_takeTest h t y a = some (rr, hh)) : Spec yX10_takeTest cX10_takeTest miX10_takeTest [.ref 5, .ref t, .ref y, .int a] h (pI fun r' h' => (r' = rr ∧ h' = hh) ∧ SR h hh) := by
  unfold f_X10_takeTest at hf
  obtain ⟨g0, hf2⟩ := gdc_el hf
  replace hf := hf2
  clear hf2
  obtain ⟨g1, hf2⟩ := gdi_el hf
  replace hf := hf2
  clear hf2
  obtain ⟨e, he, -, rfl⟩ := vp_nat g1
  rw [nI_clamp (by omega)] at hf
  cases hf
  exact Spec.dI (sp_X10_takeTest g0 hT hY he) (fun _ _ => Iff.rfl) (testF_sr _ _ _ _)
