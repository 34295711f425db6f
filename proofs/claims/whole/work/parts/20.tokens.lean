/-! ===== the class's tokens: a text cut into all its tokens; what is fed ===== -/
theorem hI_noteH {h : HP} {n : Nat} {a b c d : Int32} {e : Nat} (he : e ≠ 5 ∧ e ≠ 8 ∧ e ≠ 9 ∧ e ≠ 10 ∧ e ≠ 11) : hI (noteH h n a b c d) e = hI h e := by
  unfold noteH
  rw [hI_rI_n _ _ he.1, hI_rI_n _ _ he.2.2.2.2, hI_rI_n _ _ he.2.2.2.1, hI_rI_n _ _ he.2.2.1, hI_rI_n _ _ he.2.1]
theorem hI_note5 (h : HP) (n : Nat) (a b c d : Int32) : hI (noteH h n a b c d) 5 = upd (hI h 5) 9 (nI (n + 1)) := by
  unfold noteH
  rw [hI_rI_s]
  rfl
theorem tokH_cases (h : HP) (L n s : Nat) : ∃ h1 k l v, tokH h L n s = noteH h1 n k (nI s) l v ∧ (h1 = h ∨ ∃ c, h1 = uL h 12 n c) := by
  unfold tokH
  split
  · exact ⟨_, _, _, _, rfl, Or.inr ⟨_, rfl⟩⟩
  · split
    · exact ⟨_, _, _, _, rfl, Or.inl rfl⟩
    · exact ⟨_, _, _, _, rfl, Or.inl rfl⟩
theorem tokH_I (h : HP) (L n s : Nat) {e : Nat} (he : e ≠ 5 ∧ e ≠ 8 ∧ e ≠ 9 ∧ e ≠ 10 ∧ e ≠ 11) : hI (tokH h L n s) e = hI h e := by
  obtain ⟨h1, k, l, v, e1, e2⟩ := tokH_cases h L n s
  rw [e1, hI_noteH he]
  rcases e2 with e2 | ⟨c, e2⟩ <;> rw [e2]; rfl
theorem tokH_5 (h : HP) (L n s : Nat) : hI (tokH h L n s) 5 = upd (hI h 5) 9 (nI (n + 1)) := by
  obtain ⟨h1, k, l, v, e1, e2⟩ := tokH_cases h L n s
  rw [e1, hI_note5]
  rcases e2 with e2 | ⟨c, e2⟩ <;> rw [e2]; rfl
theorem tokH_ly {h : HP} (ly : Lay h) (L n s : Nat) : Lay (tokH h L n s) := by
  obtain ⟨h1, k, l, v, e1, e2⟩ := tokH_cases h L n s
  rw [e1]
  rcases e2 with e2 | ⟨c, e2⟩ <;> rw [e2] <;> exact ly.keep rfl rfl
/-- where the k-th token begins -/
def plcT (T : Nat → Int32) (L : Nat) : Nat → Nat
  | 0 => skipT T L 0
  | k + 1 => skipT T L (plcT T L k + lenT T L (plcT T L k))
def toksH (h : HP) (L : Nat) : Nat → HP
  | 0 => h
  | k + 1 => tokH (toksH h L k) L k (plcT (hI h 6) L k)
theorem toksH_I (h : HP) (L : Nat) {e : Nat} (he : e ≠ 5 ∧ e ≠ 8 ∧ e ≠ 9 ∧ e ≠ 10 ∧ e ≠ 11) : ∀ k, hI (toksH h L k) e = hI h e
  | 0 => rfl
  | k + 1 => (tokH_I _ _ _ _ he).trans (toksH_I h L he k)
theorem toksH_ly {h : HP} (ly : Lay h) (L : Nat) : ∀ k, Lay (toksH h L k)
  | 0 => ly
  | k + 1 => tokH_ly (toksH_ly ly L k) _ _ _
theorem toksH_5 (h : HP) (L : Nat) (h9 : hI h 5 9 = 0) : ∀ k, hI (toksH h L k) 5 = upd (hI h 5) 9 (nI k)
  | 0 => by funext j; unfold upd; by_cases hj : j = 9; rw [if_pos hj, hj]; exact h9; rw [if_neg hj]; rfl
  | k + 1 => by
    show hI (tokH _ _ _ _) 5 = _
    rw [tokH_5, toksH_5 h L h9 k]
    funext j; unfold upd; by_cases hj : j = 9
    · rw [if_pos hj, if_pos hj]
    · rw [if_neg hj, if_neg hj, if_neg hj]
theorem lenT_pos {T : Nat → Int32} {L s : Nat} (hs : s < L) : 1 ≤ lenT T L s := by
  unfold lenT; split
  · next hb => unfold wEnd; rw [runN_step hs hb]; have := runN_ge (isLo T) (L - (s + 1)) (s + 1); omega
  · split
    · next hb => unfold dEnd; rw [runN_step hs hb]; have := runN_ge (isDi T) (L - (s + 1)) (s + 1); omega
    · exact Nat.le_refl _
theorem lenT_le {T : Nat → Int32} {L s : Nat} (hs : s < L) : s + lenT T L s ≤ L := by
  unfold lenT; split
  · have := wEnd_le T (Nat.le_of_lt hs); have := wEnd_ge T L s; omega
  · split
    · have := dEnd_le T (Nat.le_of_lt hs); have := dEnd_ge T L s; omega
    · omega
theorem plcT_ge {T : Nat → Int32} {L : Nat} : ∀ k, (∀ j, j < k → plcT T L j < L) → k ≤ plcT T L k ∧ plcT T L k ≤ L
  | 0, _ => ⟨Nat.zero_le _, skipT_le T (Nat.zero_le _)⟩
  | k + 1, h => by
    have h1 := plcT_ge k (fun j hj => h j (by omega))
    have h2 := h k (by omega)
    have h3 := lenT_pos (T := T) h2
    have h4 := lenT_le (T := T) h2
    have h5 := skipT_ge T L (plcT T L k + lenT T L (plcT T L k))
    have h6 := skipT_le T h4
    exact ⟨by unfold plcT; omega, by unfold plcT; exact h6⟩
set_option maxRecDepth 100000 in
theorem lp_X4_begin {h0 hb : HP} (hn : h0.1 = 130) (lyb : Lay hb) {L : Nat} (hL9 : L ≤ 900) (hlb : hI hb 5 8 = nI L) (h9b : hI hb 5 9 = 0) {m : Int32} {P : HP → Prop} (hP : ∀ n, n ≤ 900 → (∀ j, j < n → plcT (hI hb 6) L j < L) → plcT (hI hb 6) L n = L → P (noteH (toksH hb L n) n 1 (nI L) 0 0)) :
    ∀ f k, L + 1 ≤ plcT (hI hb 6) L k + f → (∀ j, j < k → plcT (hI hb 6) L j < L) →
    V cX4_begin miX4_begin (ZM h0 miX4_begin.2.2.2.1 (pV P)) 130 43 [.ref 5, .int m, .int (nI (plcT (hI hb 6) L k))] [] (toksH hb L k) := by
  intro f
  induction f with
  | zero => intro k h1 h2; have := (plcT_ge k h2).2; exact absurd h1 (by omega)
  | succ f ih =>
    intro k hf hall
    have hkp := plcT_ge k hall
    have ly := toksH_ly lyb L k
    have hlen : hI (toksH hb L k) 5 8 = nI L := by rw [toksH_5 hb L h9b k]; exact hlb
    have hct : hI (toksH hb L k) 5 9 = nI k := by rw [toksH_5 hb L h9b k]; rfl
    have h6 : hI (toksH hb L k) 6 = hI hb 6 := toksH_I hb L (by decide) k
    have hn9 : k ≤ 900 := by omega
    obtain ⟨s, es⟩ : ∃ s, s = plcT (hI hb 6) L k := ⟨_, rfl⟩
    rw [← es] at hkp ⊢
    refine V.iload_n dX4_begin_43 rfl rfl ?_
    refine V.aload_n dX4_begin_44 rfl rfl rfl ?_
    refine V.getI dX4_begin_45 fl_X4_65 rfl (Or.inl ⟨rfl, SHL_lt rfl⟩) rfl rfl ?_
    refine V.icmp_ge (tgt := 76) dX4_begin_48 (by decide) (fun c1 => ?_) (fun c1 => ?_)
    · have hs : s = L := by have h9 := c1; rw [hlen, nI_leI (by omega) (by omega)] at h9; omega
      refine V.aload_n dX4_begin_76 rfl rfl rfl ?_
      refine V.iconst (v := 1) dX4_begin_77 rfl ?_
      refine V.aload_n dX4_begin_78 rfl rfl rfl ?_
      refine V.getI dX4_begin_79 fl_X4_65 rfl (Or.inl ⟨rfl, SHL_lt rfl⟩) rfl rfl ?_
      rw [hlen]
      refine V.iconst (v := 0) dX4_begin_82 rfl ?_
      refine V.iconst (v := 0) dX4_begin_83 rfl ?_
      refine V.callVV dX4_begin_84 ml_X4_80 mo_X4_note mv_X4_note rfl (fun q hq => by cases hq; rfl) (by decide) (Or.inl ⟨rfl, SHL_lt rfl⟩) (sp_X4_note (by exact ly) hn9 (by exact hct) _ _ _ _ (by decide) (n16_nI (by omega)) (by decide)) rfl rfl ⟨Nat.le_of_ble_eq_true rfl, Nat.le_of_ble_eq_true rfl, fun _ => ⟨rfl, rfl⟩⟩ (Nat.le_of_ble_eq_true rfl) (Or.inl rfl) (fun h2 p3 => ?_)
      have p3 := p3.symm
      subst p3
      refine V.vreturn' dX4_begin_87 rfl hn (Or.inl ⟨rfl, rfl⟩) ?_
      exact hP k hn9 hall (es.symm.trans hs)
    · have hs : s < L := by have h9 := c1; rw [hlen, nI_leI (by omega) (by omega)] at h9; omega
      refine V.aload_n dX4_begin_51 rfl rfl rfl ?_
      refine V.getI dX4_begin_52 fl_X4_67 rfl (Or.inl ⟨rfl, SHL_lt rfl⟩) rfl rfl ?_
      refine V.sipush (v := 900) dX4_begin_55 rfl ?_
      refine V.icmp_ge (tgt := 76) dX4_begin_58 (by decide) (fun c4 => ?_) (fun c4 => ?_)
      · exact absurd c4 (by rw [hct, show (900 : Int32) = nI 900 from rfl, nI_leI (by omega) (by omega)]; omega)
      · refine V.aload_n dX4_begin_61 rfl rfl rfl ?_
        refine V.iload_n dX4_begin_62 rfl rfl ?_
        refine V.aload_n dX4_begin_63 rfl rfl rfl ?_
        refine V.iload_n dX4_begin_64 rfl rfl ?_
        refine V.callVI dX4_begin_65 ml_X4_77 mo_X4_addToken mv_X4_addToken rfl (fun q hq => by cases hq; rfl) (by decide) (Or.inl ⟨rfl, SHL_lt rfl⟩) (sp_X4_addToken (by exact ly) hL9 hlen hn9 hct hs) rfl rfl ⟨Nat.le_of_ble_eq_true rfl, Nat.le_of_ble_eq_true rfl, fun _ => ⟨rfl, rfl⟩⟩ (Nat.le_of_ble_eq_true rfl) rfl (fun r5 h6 p7 => ?_)
        obtain ⟨er5, p7⟩ := p7
        have p7 := p7.symm
        subst p7
        rw [h6] at er5
        have e9 : tokH (toksH hb L k) L k s = toksH hb L (k + 1) := by rw [es]; rfl
        rw [e9, er5]
        have hall2 : ∀ j, j < k + 1 → plcT (hI hb 6) L j < L := by
          intro j hj; rcases Nat.lt_succ_iff_lt_or_eq.mp hj with h9 | h9
          · exact hall j h9
          · rw [h9, ← es]; exact hs
        have hle := lenT_le (T := hI hb 6) hs
        have hpo := lenT_pos (T := hI hb 6) hs
        have hlen2 : hI (toksH hb L (k + 1)) 5 8 = nI L := by rw [toksH_5 hb L h9b (k + 1)]; exact hlb
        have h62 : hI (toksH hb L (k + 1)) 6 = hI hb 6 := toksH_I hb L (by decide) (k + 1)
        have ly2 := toksH_ly lyb L (k + 1)
        obtain ⟨l, el⟩ : ∃ l, l = lenT (hI hb 6) L s := ⟨_, rfl⟩
        rw [← el] at hle hpo ⊢
        refine V.iadd dX4_begin_68 ?_
        rw [nI_add]
        refine V.callVI dX4_begin_69 ml_X4_73 mo_X4_skipBlanks mv_X4_skipBlanks rfl (fun q hq => by cases hq; rfl) (by decide) (Or.inl ⟨rfl, SHL_lt rfl⟩) (sp_X4_skipBlanks (by exact ly2) hL9 hlen2 (by omega)) rfl rfl ⟨Nat.le_of_ble_eq_true rfl, Nat.le_of_ble_eq_true rfl, fun _ => ⟨rfl, rfl⟩⟩ (Nat.le_of_ble_eq_true rfl) rfl (fun r8 h9 p10 => ?_)
        obtain ⟨er8, p10⟩ := p10
        have p10 := p10.symm
        subst p10
        rw [h62] at er8
        have e8 : r8 = nI (plcT (hI hb 6) L (k + 1)) := by rw [er8, es, el, es]; rfl
        rw [e8]
        refine V.nmi (fun x11 ex11 => ?_)
        refine V.istore_n (ls' := [.ref 5, .int m, .int x11]) dX4_begin_72 rfl (by decide) rfl ?_
        refine V.goto (tgt := 43) dX4_begin_73 (by decide) ?_
        rw [ex11]
        have hge := plcT_ge (k + 1) hall2
        have hgs : s + l ≤ plcT (hI hb 6) L (k + 1) := by rw [es, el, es]; exact skipT_ge _ _ _
        exact ih (k + 1) (by omega) hall2
theorem min_nI {f m : Nat} (hf : f < 2 ^ 31) (hm : m < 2 ^ 31) : (if nI f < nI m then nI f else nI m) = nI (min m f) := by
  by_cases q : m ≤ f
  · rw [if_neg (by rw [nI_ltI (by omega) (by omega)]; omega), Nat.min_eq_left q]
  · rw [if_pos (by rw [nI_ltI (by omega) (by omega)]; omega), Nat.min_eq_right (by omega)]
/-- the first m bytes of what was fed are the text -/
def beginH (h : HP) (L : Nat) : HP := rI h 5 (upd (upd (upd (upd (upd (upd (hI h 5) 8 (nI L)) 7 0) 12 0) 13 (-1)) 9 0) 10 0)
def cutAll (h h' : HP) (L : Nat) : Prop := ∃ n, n ≤ 900 ∧ (∀ j, j < n → plcT (hI h 6) L j < L) ∧ plcT (hI h 6) L n = L ∧ h' = noteH (toksH (beginH h L) L n) n 1 (nI L) 0 0
set_option maxRecDepth 100000 in
theorem sp_X4_begin {h : HP} (ly : Lay h) {f m : Nat} (hf9 : f ≤ 900) (hfd : hI h 5 7 = nI f) (hm9 : m ≤ 900) : Spec yX4_begin cX4_begin miX4_begin [.ref 5, .int (nI m)] h (pV fun h' => cutAll h h' (min m f)) := by
  refine Spec.of (ls0 := [.ref 5, .int (nI m), .null]) mo_X4_begin (Nat.le_of_ble_eq_true rfl) rfl ?_
  rw [ly.1]
  refine V.aload_n dX4_begin_0 rfl rfl rfl ?_
  refine V.iload_n dX4_begin_1 rfl rfl ?_
  refine V.aload_n dX4_begin_2 rfl rfl rfl ?_
  refine V.getI dX4_begin_3 fl_X4_56 rfl (Or.inl ⟨rfl, SHL_lt rfl⟩) rfl rfl ?_
  refine V.min dX4_begin_6 lk_X4_59 min_ok rfl ⟨Nat.le_of_ble_eq_true rfl, Nat.le_of_ble_eq_true rfl⟩ ?_
  rw [hfd, min_nI (by omega) (by omega)]
  obtain ⟨L, eL⟩ : ∃ L, L = min m f := ⟨_, rfl⟩
  have hL9 : L ≤ 900 := by omega
  rw [← eL]
  refine V.putI dX4_begin_9 fl_X4_65 rfl (Or.inl ⟨rfl, SHL_lt rfl⟩) rfl (fun q hq => by cases hq; rfl) ⟨rfl, rfl⟩ ?_
  refine V.aload_n dX4_begin_12 rfl rfl rfl ?_
  refine V.iconst (v := 0) dX4_begin_13 rfl ?_
  refine V.putI dX4_begin_14 fl_X4_56 rfl (Or.inl ⟨rfl, SHL_lt rfl⟩) rfl (fun q hq => by cases hq; rfl) ⟨rfl, rfl⟩ ?_
  refine V.aload_n dX4_begin_17 rfl rfl rfl ?_
  refine V.iconst (v := 0) dX4_begin_18 rfl ?_
  refine V.putI dX4_begin_19 fl_X4_35 rfl (Or.inl ⟨rfl, SHL_lt rfl⟩) rfl (fun q hq => by cases hq; rfl) ⟨rfl, rfl⟩ ?_
  refine V.aload_n dX4_begin_22 rfl rfl rfl ?_
  refine V.iconst (v := (-1)) dX4_begin_23 rfl ?_
  refine V.putI dX4_begin_24 fl_X4_39 rfl (Or.inl ⟨rfl, SHL_lt rfl⟩) rfl (fun q hq => by cases hq; rfl) ⟨rfl, rfl⟩ ?_
  refine V.aload_n dX4_begin_27 rfl rfl rfl ?_
  refine V.iconst (v := 0) dX4_begin_28 rfl ?_
  refine V.putI dX4_begin_29 fl_X4_67 rfl (Or.inl ⟨rfl, SHL_lt rfl⟩) rfl (fun q hq => by cases hq; rfl) ⟨rfl, rfl⟩ ?_
  refine V.aload_n dX4_begin_32 rfl rfl rfl ?_
  refine V.iconst (v := 0) dX4_begin_33 rfl ?_
  refine V.putI dX4_begin_34 fl_X4_70 rfl (Or.inl ⟨rfl, SHL_lt rfl⟩) rfl (fun q hq => by cases hq; rfl) ⟨rfl, rfl⟩ ?_
  refine V.heapEq (h' := beginH h L) (by unfold beginH; simp only [uI, hI_rI_s, rI_rI]) ?_
  have hlen : hI (beginH h L) 5 8 = nI L := rfl
  refine V.aload_n dX4_begin_37 rfl rfl rfl ?_
  refine V.iconst (v := 0) dX4_begin_38 rfl ?_
  refine V.callVI dX4_begin_39 ml_X4_73 mo_X4_skipBlanks mv_X4_skipBlanks rfl (fun q hq => by cases hq; rfl) (by decide) (Or.inl ⟨rfl, SHL_lt rfl⟩) (sp_X4_skipBlanks (p := 0) (by exact ly.keep rfl rfl) hL9 hlen (by omega)) rfl rfl ⟨Nat.le_of_ble_eq_true rfl, Nat.le_of_ble_eq_true rfl, fun _ => ⟨rfl, rfl⟩⟩ (Nat.le_of_ble_eq_true rfl) rfl (fun r1 h2 p3 => ?_)
  obtain ⟨er1, p3⟩ := p3
  have p3 := p3.symm
  subst p3
  refine V.istore_n (ls' := [.ref 5, .int (nI m), .int r1]) dX4_begin_42 rfl (by decide) rfl ?_
  rw [er1]
  exact lp_X4_begin (h0 := h) ly.1 (hb := beginH h L) (ly.keep rfl rfl) hL9 hlen rfl (P := fun h' => cutAll h h' L) (fun n q1 q2 q3 => ⟨n, q1, q2, q3, rfl⟩) (L + 1) 0 (by omega) (fun j hj => absurd hj (by omega))
def byteF (v : Int32) (k : Nat) : Int32 := (shr v (nI (24 - 8 * k))).toInt8.toInt32
/-- k bytes more are fed -/
def apH (h : HP) (f : Nat) (v : Int32) (k : Nat) : HP := uI (rI h 6 (rowI (hI h 6) (byteF v) f k)) 5 7 (nI (f + k))
theorem apH_0 {h : HP} {f : Nat} {v : Int32} (hfd : hI h 5 7 = nI f) : apH h f v 0 = h := by
  unfold apH
  rw [rowI_0, rI_self]
  refine rI_same ?_
  funext j; unfold upd; by_cases hj : j = 7
  · rw [if_pos hj, hj, hfd]; rfl
  · rw [if_neg hj]
theorem apH_7 (h : HP) (f : Nat) (v : Int32) (k : Nat) : hI (apH h f v k) 5 7 = nI (f + k) := rfl
theorem apH_step (h : HP) (f : Nat) (v : Int32) (k : Nat) : uI (uI (apH h f v k) 6 (f + k) (byteF v k)) 5 7 (nI (f + (k + 1))) = apH h f v (k + 1) := by
  unfold apH uI
  simp only [hI_rI_s, hI_rI_n _ _ (show (6 : Nat) ≠ 5 by decide), hI_rI_n _ _ (show (5 : Nat) ≠ 6 by decide)]
  rw [rowI_step, rI_comm _ _ _ (show (5 : Nat) ≠ 6 by decide), rI_rI, rI_rI]
  congr 1
  funext j; unfold upd; by_cases hj : j = 7
  · rw [if_pos hj, if_pos hj]
  · rw [if_neg hj, if_neg hj, if_neg hj]
set_option maxRecDepth 100000 in
theorem sp_X4_append {h : HP} (ly : Lay h) {f : Nat} (hf9 : f ≤ 900) (hfd : hI h 5 7 = nI f) (v : Int32) : Spec yX4_append cX4_append miX4_append [.ref 5, .int v] h (pV fun h' => h' = apH h f v (min 4 (900 - f))) := by
  refine Spec.of (ls0 := [.ref 5, .int v, .null]) mo_X4_append (Nat.le_of_ble_eq_true rfl) rfl ?_
  rw [ly.1]
  refine V.bipush (v := 24) dX4_append_0 rfl ?_
  refine V.istore_n (ls' := [.ref 5, .int v, .int 24]) dX4_append_2 rfl (by decide) rfl ?_
  refine V.heapEq (apH_0 (v := v) hfd).symm ?_
  refine V.iload_n dX4_append_3 rfl rfl ?_
  refine V.if_lt (tgt := 46) dX4_append_4 (by decide) (fun c1 => absurd c1 (by decide)) (fun _ => ?_)
  refine V.aload_n dX4_append_7 rfl rfl rfl ?_
  refine V.getI dX4_append_8 fl_X4_56 rfl (Or.inl ⟨rfl, SHL_lt rfl⟩) rfl rfl ?_
  rw [apH_7]
  refine V.sipush (v := 900) dX4_append_11 rfl ?_
  refine V.icmp_ge (tgt := 46) dX4_append_14 (by decide) (fun c2 => ?_) (fun c2 => ?_)
  · refine V.vreturn' dX4_append_46 rfl ly.1 (Or.inl ⟨rfl, rfl⟩) ?_
    have h9 := c2; rw [show (900 : Int32) = nI 900 from rfl, nI_leI (by omega) (by omega)] at h9; rw [show min 4 (900 - f) = 0 by omega]
  · have hl0 : f + 0 < 900 := by have h9 := c2; rw [show (900 : Int32) = nI 900 from rfl, nI_leI (by omega) (by omega)] at h9; omega
    refine V.aload_n dX4_append_17 rfl rfl rfl ?_
    refine V.getR (r := 6) dX4_append_18 fl_X4_11 rfl (Or.inl ⟨rfl, SHL_lt rfl⟩) rfl (ly_5_0 ly) ?_
    refine V.aload_n dX4_append_21 rfl rfl rfl ?_
    refine V.getI dX4_append_22 fl_X4_56 rfl (Or.inl ⟨rfl, SHL_lt rfl⟩) rfl rfl ?_
    rw [apH_7]
    refine V.iload_n dX4_append_25 rfl rfl ?_
    refine V.iload_n dX4_append_26 rfl rfl ?_
    refine V.ishr dX4_append_27 ?_
    refine V.i2b dX4_append_28 ?_
    refine V.bastore dX4_append_29 rfl (Or.inl ⟨rfl, SHL_lt rfl⟩) (vp_in_nI (by omega) (by decide)) ?_
    rw [nI_clamp (show (f + 0) < 2 ^ 31 by omega)]
    rw [n8_n8, show (v >>> (24 &&& 31)).toInt8.toInt32 = byteF v 0 from rfl]
    refine V.aload_n dX4_append_30 rfl rfl rfl ?_
    refine V.dup dX4_append_31 rfl ?_
    refine V.getI dX4_append_32 fl_X4_56 rfl (Or.inl ⟨rfl, SHL_lt rfl⟩) rfl rfl ?_
    refine V.iconst (v := 1) dX4_append_35 rfl ?_
    refine V.iadd dX4_append_36 ?_
    rw [show hI (uI (apH h f v 0) 6 (f + 0) (byteF v 0)) 5 7 = nI (f + 0) from rfl, nI_1, show f + 0 + 1 = f + (0 + 1) from rfl]
    refine V.putI dX4_append_37 fl_X4_56 rfl (Or.inl ⟨rfl, SHL_lt rfl⟩) rfl (fun q hq => by cases hq; rfl) ⟨rfl, rfl⟩ ?_
    rw [apH_step, show 0 + 1 = 1 from rfl]
    refine V.iinc (v := 16) (ls' := [.ref 5, .int v, .int 16]) dX4_append_40 rfl (by decide) rfl rfl ?_
    refine V.goto (tgt := 3) dX4_append_43 (by decide) ?_
    refine V.iload_n dX4_append_3 rfl rfl ?_
    refine V.if_lt (tgt := 46) dX4_append_4 (by decide) (fun c3 => absurd c3 (by decide)) (fun _ => ?_)
    refine V.aload_n dX4_append_7 rfl rfl rfl ?_
    refine V.getI dX4_append_8 fl_X4_56 rfl (Or.inl ⟨rfl, SHL_lt rfl⟩) rfl rfl ?_
    rw [apH_7]
    refine V.sipush (v := 900) dX4_append_11 rfl ?_
    refine V.icmp_ge (tgt := 46) dX4_append_14 (by decide) (fun c4 => ?_) (fun c4 => ?_)
    · refine V.vreturn' dX4_append_46 rfl ly.1 (Or.inl ⟨rfl, rfl⟩) ?_
      have h9 := c4; rw [show (900 : Int32) = nI 900 from rfl, nI_leI (by omega) (by omega)] at h9; rw [show min 4 (900 - f) = 1 by omega]
    · have hl1 : f + 1 < 900 := by have h9 := c4; rw [show (900 : Int32) = nI 900 from rfl, nI_leI (by omega) (by omega)] at h9; omega
      refine V.aload_n dX4_append_17 rfl rfl rfl ?_
      refine V.getR (r := 6) dX4_append_18 fl_X4_11 rfl (Or.inl ⟨rfl, SHL_lt rfl⟩) rfl (ly_5_0 ly) ?_
      refine V.aload_n dX4_append_21 rfl rfl rfl ?_
      refine V.getI dX4_append_22 fl_X4_56 rfl (Or.inl ⟨rfl, SHL_lt rfl⟩) rfl rfl ?_
      rw [apH_7]
      refine V.iload_n dX4_append_25 rfl rfl ?_
      refine V.iload_n dX4_append_26 rfl rfl ?_
      refine V.ishr dX4_append_27 ?_
      refine V.i2b dX4_append_28 ?_
      refine V.bastore dX4_append_29 rfl (Or.inl ⟨rfl, SHL_lt rfl⟩) (vp_in_nI (by omega) (by decide)) ?_
      rw [nI_clamp (show (f + 1) < 2 ^ 31 by omega)]
      rw [n8_n8, show (v >>> (16 &&& 31)).toInt8.toInt32 = byteF v 1 from rfl]
      refine V.aload_n dX4_append_30 rfl rfl rfl ?_
      refine V.dup dX4_append_31 rfl ?_
      refine V.getI dX4_append_32 fl_X4_56 rfl (Or.inl ⟨rfl, SHL_lt rfl⟩) rfl rfl ?_
      refine V.iconst (v := 1) dX4_append_35 rfl ?_
      refine V.iadd dX4_append_36 ?_
      rw [show hI (uI (apH h f v 1) 6 (f + 1) (byteF v 1)) 5 7 = nI (f + 1) from rfl, nI_1, show f + 1 + 1 = f + (1 + 1) from rfl]
      refine V.putI dX4_append_37 fl_X4_56 rfl (Or.inl ⟨rfl, SHL_lt rfl⟩) rfl (fun q hq => by cases hq; rfl) ⟨rfl, rfl⟩ ?_
      rw [apH_step, show 1 + 1 = 2 from rfl]
      refine V.iinc (v := 8) (ls' := [.ref 5, .int v, .int 8]) dX4_append_40 rfl (by decide) rfl rfl ?_
      refine V.goto (tgt := 3) dX4_append_43 (by decide) ?_
      refine V.iload_n dX4_append_3 rfl rfl ?_
      refine V.if_lt (tgt := 46) dX4_append_4 (by decide) (fun c5 => absurd c5 (by decide)) (fun _ => ?_)
      refine V.aload_n dX4_append_7 rfl rfl rfl ?_
      refine V.getI dX4_append_8 fl_X4_56 rfl (Or.inl ⟨rfl, SHL_lt rfl⟩) rfl rfl ?_
      rw [apH_7]
      refine V.sipush (v := 900) dX4_append_11 rfl ?_
      refine V.icmp_ge (tgt := 46) dX4_append_14 (by decide) (fun c6 => ?_) (fun c6 => ?_)
      · refine V.vreturn' dX4_append_46 rfl ly.1 (Or.inl ⟨rfl, rfl⟩) ?_
        have h9 := c6; rw [show (900 : Int32) = nI 900 from rfl, nI_leI (by omega) (by omega)] at h9; rw [show min 4 (900 - f) = 2 by omega]
      · have hl2 : f + 2 < 900 := by have h9 := c6; rw [show (900 : Int32) = nI 900 from rfl, nI_leI (by omega) (by omega)] at h9; omega
        refine V.aload_n dX4_append_17 rfl rfl rfl ?_
        refine V.getR (r := 6) dX4_append_18 fl_X4_11 rfl (Or.inl ⟨rfl, SHL_lt rfl⟩) rfl (ly_5_0 ly) ?_
        refine V.aload_n dX4_append_21 rfl rfl rfl ?_
        refine V.getI dX4_append_22 fl_X4_56 rfl (Or.inl ⟨rfl, SHL_lt rfl⟩) rfl rfl ?_
        rw [apH_7]
        refine V.iload_n dX4_append_25 rfl rfl ?_
        refine V.iload_n dX4_append_26 rfl rfl ?_
        refine V.ishr dX4_append_27 ?_
        refine V.i2b dX4_append_28 ?_
        refine V.bastore dX4_append_29 rfl (Or.inl ⟨rfl, SHL_lt rfl⟩) (vp_in_nI (by omega) (by decide)) ?_
        rw [nI_clamp (show (f + 2) < 2 ^ 31 by omega)]
        rw [n8_n8, show (v >>> (8 &&& 31)).toInt8.toInt32 = byteF v 2 from rfl]
        refine V.aload_n dX4_append_30 rfl rfl rfl ?_
        refine V.dup dX4_append_31 rfl ?_
        refine V.getI dX4_append_32 fl_X4_56 rfl (Or.inl ⟨rfl, SHL_lt rfl⟩) rfl rfl ?_
        refine V.iconst (v := 1) dX4_append_35 rfl ?_
        refine V.iadd dX4_append_36 ?_
        rw [show hI (uI (apH h f v 2) 6 (f + 2) (byteF v 2)) 5 7 = nI (f + 2) from rfl, nI_1, show f + 2 + 1 = f + (2 + 1) from rfl]
        refine V.putI dX4_append_37 fl_X4_56 rfl (Or.inl ⟨rfl, SHL_lt rfl⟩) rfl (fun q hq => by cases hq; rfl) ⟨rfl, rfl⟩ ?_
        rw [apH_step, show 2 + 1 = 3 from rfl]
        refine V.iinc (v := 0) (ls' := [.ref 5, .int v, .int 0]) dX4_append_40 rfl (by decide) rfl rfl ?_
        refine V.goto (tgt := 3) dX4_append_43 (by decide) ?_
        refine V.iload_n dX4_append_3 rfl rfl ?_
        refine V.if_lt (tgt := 46) dX4_append_4 (by decide) (fun c7 => absurd c7 (by decide)) (fun _ => ?_)
        refine V.aload_n dX4_append_7 rfl rfl rfl ?_
        refine V.getI dX4_append_8 fl_X4_56 rfl (Or.inl ⟨rfl, SHL_lt rfl⟩) rfl rfl ?_
        rw [apH_7]
        refine V.sipush (v := 900) dX4_append_11 rfl ?_
        refine V.icmp_ge (tgt := 46) dX4_append_14 (by decide) (fun c8 => ?_) (fun c8 => ?_)
        · refine V.vreturn' dX4_append_46 rfl ly.1 (Or.inl ⟨rfl, rfl⟩) ?_
          have h9 := c8; rw [show (900 : Int32) = nI 900 from rfl, nI_leI (by omega) (by omega)] at h9; rw [show min 4 (900 - f) = 3 by omega]
        · have hl3 : f + 3 < 900 := by have h9 := c8; rw [show (900 : Int32) = nI 900 from rfl, nI_leI (by omega) (by omega)] at h9; omega
          refine V.aload_n dX4_append_17 rfl rfl rfl ?_
          refine V.getR (r := 6) dX4_append_18 fl_X4_11 rfl (Or.inl ⟨rfl, SHL_lt rfl⟩) rfl (ly_5_0 ly) ?_
          refine V.aload_n dX4_append_21 rfl rfl rfl ?_
          refine V.getI dX4_append_22 fl_X4_56 rfl (Or.inl ⟨rfl, SHL_lt rfl⟩) rfl rfl ?_
          rw [apH_7]
          refine V.iload_n dX4_append_25 rfl rfl ?_
          refine V.iload_n dX4_append_26 rfl rfl ?_
          refine V.ishr dX4_append_27 ?_
          refine V.i2b dX4_append_28 ?_
          refine V.bastore dX4_append_29 rfl (Or.inl ⟨rfl, SHL_lt rfl⟩) (vp_in_nI (by omega) (by decide)) ?_
          rw [nI_clamp (show (f + 3) < 2 ^ 31 by omega)]
          rw [n8_n8, show (v >>> (0 &&& 31)).toInt8.toInt32 = byteF v 3 from rfl]
          refine V.aload_n dX4_append_30 rfl rfl rfl ?_
          refine V.dup dX4_append_31 rfl ?_
          refine V.getI dX4_append_32 fl_X4_56 rfl (Or.inl ⟨rfl, SHL_lt rfl⟩) rfl rfl ?_
          refine V.iconst (v := 1) dX4_append_35 rfl ?_
          refine V.iadd dX4_append_36 ?_
          rw [show hI (uI (apH h f v 3) 6 (f + 3) (byteF v 3)) 5 7 = nI (f + 3) from rfl, nI_1, show f + 3 + 1 = f + (3 + 1) from rfl]
          refine V.putI dX4_append_37 fl_X4_56 rfl (Or.inl ⟨rfl, SHL_lt rfl⟩) rfl (fun q hq => by cases hq; rfl) ⟨rfl, rfl⟩ ?_
          rw [apH_step, show 3 + 1 = 4 from rfl]
          refine V.iinc (v := (-8)) (ls' := [.ref 5, .int v, .int ((-8))]) dX4_append_40 rfl (by decide) rfl rfl ?_
          refine V.goto (tgt := 3) dX4_append_43 (by decide) ?_
          refine V.iload_n dX4_append_3 rfl rfl ?_
          refine V.if_lt (tgt := 46) dX4_append_4 (by decide) (fun _ => ?_) (fun c9 => absurd c9 (by decide))
          refine V.vreturn' dX4_append_46 rfl ly.1 (Or.inl ⟨rfl, rfl⟩) ?_
          rw [show min 4 (900 - f) = 4 by omega]
