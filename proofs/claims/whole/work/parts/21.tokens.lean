/-! ===== the class's tokens as functions of the heap alone ===== -/
def tA (h : HP) : Nat := (hI h 5 10).toNatClampNeg
def tN (h : HP) : Nat := (hI h 5 9).toNatClampNeg
/-- the tokens stand as begin leaves them, and one is looked at -/
def TokOK (h : HP) : Prop := (hI h 5 10 = nI (tA h) ∧ hI h 5 9 = nI (tN h)) ∧ tA h < tN h ∧ tN h ≤ 901 ∧ ∀ k, k < tN h → ∃ s l, hI h 9 k = nI s ∧ hI h 10 k = nI l ∧ s + l ≤ 900
theorem TokOK.a {h : HP} (ok : TokOK h) : hI h 5 10 = nI (tA h) := ok.1.1
theorem TokOK.n {h : HP} (ok : TokOK h) : hI h 5 9 = nI (tN h) := ok.1.2
theorem TokOK.lt {h : HP} (ok : TokOK h) : tA h < tN h := ok.2.1
theorem TokOK.le {h : HP} (ok : TokOK h) : tN h ≤ 901 := ok.2.2.1
theorem TokOK.pl {h : HP} (ok : TokOK h) : ∀ k, k < tN h → ∃ s l, hI h 9 k = nI s ∧ hI h 10 k = nI l ∧ s + l ≤ 900 := ok.2.2.2
theorem tA_of {h : HP} {a : Nat} (ha : a < 2 ^ 31) (e : hI h 5 10 = nI a) : tA h = a := by unfold tA; rw [e, nI_clamp ha]
theorem tN_of {h : HP} {n : Nat} (hn : n < 2 ^ 31) (e : hI h 5 9 = nI n) : tN h = n := by unfold tN; rw [e, nI_clamp hn]
theorem TokOK.mk' {h : HP} {a n : Nat} (e1 : hI h 5 10 = nI a) (e2 : hI h 5 9 = nI n) (hlt : a < n) (hle : n ≤ 901) (pl : ∀ k, k < n → ∃ s l, hI h 9 k = nI s ∧ hI h 10 k = nI l ∧ s + l ≤ 900) : TokOK h := by
  have h1 := tA_of (by omega) e1
  have h2 := tN_of (by omega) e2
  exact ⟨⟨by rw [h1]; exact e1, by rw [h2]; exact e2⟩, by omega, by omega, by rw [h2]; exact pl⟩
/-- what doesn't reach the tokens leaves them so -/
theorem TokOK.keep {h h' : HP} (ok : TokOK h) (e5 : hI h' 5 = hI h 5) (e9 : hI h' 9 = hI h 9) (e10 : hI h' 10 = hI h 10) : TokOK h' :=
  TokOK.mk' (by rw [e5]; exact ok.a) (by rw [e5]; exact ok.n) ok.lt ok.le (fun k hk => by rw [e9, e10]; exact ok.pl k hk)
def advF (h : HP) : HP := advH h (tA h) (tN h)
def failF (h : HP) (why : Int32) : HP := failH h (tA h) why
abbrev kA (h : HP) : Int32 := hI h 8 (tA h)
abbrev vA (h : HP) : Int32 := hI h 11 (tA h)
def takeK (k : Int32) (h : HP) (v : Int32) : Int32 × HP := if kA h = k ∧ vA h = v then (1, advF h) else (0, failF h 2)
abbrev takeW (h : HP) (v : Int32) : Int32 × HP := takeK 4 h v
abbrev takeS (h : HP) (v : Int32) : Int32 × HP := takeK 3 h v
def takeN (h : HP) (lo hi : Int32) : Int32 × HP := if kA h = 2 then (if lo ≤ vA h ∧ vA h ≤ hi then (1, advF (uI h 5 11 (vA h))) else (0, failF h 4)) else (0, failF h 2)
/-- the heap but for the fields of the tokens -/
def TkFr (h h' : HP) : Prop := ∃ f, h' = rI h 5 f ∧ f 9 = hI h 5 9 ∧ (∀ j, j ≤ 8 → j ≠ 11 → f j = hI h 5 j)
theorem TkFr.refl (h : HP) : TkFr h h := ⟨hI h 5, (rI_self h 5).symm, rfl, fun _ _ _ => rfl⟩
theorem TkFr.trans {h h1 h2 : HP} (a : TkFr h h1) (b : TkFr h1 h2) : TkFr h h2 := by
  obtain ⟨f, e1, q1, q2⟩ := a
  obtain ⟨g, e2, q3, q4⟩ := b
  rw [e1, hI_rI_s] at q3 q4
  exact ⟨g, by rw [e2, e1, rI_rI], q3.trans q1, fun j h1 h2 => (q4 j h1 h2).trans (q2 j h1 h2)⟩
theorem TkFr.ly {h h' : HP} (a : TkFr h h') (ly : Lay h) : Lay h' := by
  obtain ⟨f, e1, -, -⟩ := a
  rw [e1]; exact ly.keep rfl rfl
theorem TkFr.I {h h' : HP} (a : TkFr h h') {e : Nat} (he : e ≠ 5) : hI h' e = hI h e := by
  obtain ⟨f, e1, -, -⟩ := a
  rw [e1]; exact hI_rI_n _ _ he
theorem TkFr.L {h h' : HP} (a : TkFr h h') : hL h' = hL h := by
  obtain ⟨f, e1, -, -⟩ := a
  rw [e1]; rfl
theorem fr_uI (h : HP) {j : Nat} (x : Int32) (hj : 10 ≤ j) : TkFr h (uI h 5 j x) :=
  ⟨_, rfl, if_neg (by omega), fun k hk _ => if_neg (by omega)⟩
theorem advF_fr (h : HP) : TkFr h (advF h) := by
  unfold advF advH; split
  · exact fr_uI _ _ (by decide)
  · exact TkFr.refl h
theorem failF_fr (h : HP) (w : Int32) : TkFr h (failF h w) := (fr_uI h _ (by decide)).trans (fr_uI _ _ (by decide))
theorem TokOK.adv {h : HP} (ok : TokOK h) : TokOK (advF h) := by
  unfold advF advH
  have := ok.lt; have := ok.le
  split
  · exact TokOK.mk' (a := tA h + 1) (n := tN h) rfl ok.n (by omega) (by omega) ok.pl
  · exact ok
theorem TokOK.u {h : HP} (ok : TokOK h) {j : Nat} (x : Int32) (hj : 11 ≤ j) : TokOK (uI h 5 j x) :=
  TokOK.mk' (a := tA h) (n := tN h) ((show hI (uI h 5 j x) 5 10 = hI h 5 10 from if_neg (by omega)).trans ok.a) ((show hI (uI h 5 j x) 5 9 = hI h 5 9 from if_neg (by omega)).trans ok.n) ok.lt ok.le ok.pl
theorem TokOK.fail {h : HP} (ok : TokOK h) (w : Int32) : TokOK (failF h w) := (ok.u _ (by decide)).u _ (by decide)
theorem takeK_fr (k : Int32) (h : HP) (v : Int32) : TkFr h (takeK k h v).2 := by
  unfold takeK; split
  · exact advF_fr h
  · exact failF_fr h 2
theorem TokOK.tK {h : HP} (ok : TokOK h) (k v : Int32) : TokOK (takeK k h v).2 := by
  unfold takeK; split
  · exact ok.adv
  · exact ok.fail 2
theorem takeN_fr (h : HP) (lo hi : Int32) : TkFr h (takeN h lo hi).2 := by
  unfold takeN; split
  · split
    · exact (fr_uI h _ (by decide)).trans (advF_fr _)
    · exact failF_fr h 4
  · exact failF_fr h 2
theorem TokOK.tN' {h : HP} (ok : TokOK h) (lo hi : Int32) : TokOK (takeN h lo hi).2 := by
  unfold takeN; split
  · split
    · exact (ok.u _ (by decide)).adv
    · exact ok.fail 4
  · exact ok.fail 2
theorem TokOK.a9 {h : HP} (ok : TokOK h) : tA h ≤ 900 := by have := ok.lt; have := ok.le; omega
theorem takeK_of {k : Int32} {h : HP} {v r : Int32} {h' : HP} (p : (¬ (hI h 8 (tA h) = k ∧ hI h 11 (tA h) = v) ∧ r = 0 ∧ h' = failH h (tA h) 2) ∨ ((hI h 8 (tA h) = k ∧ hI h 11 (tA h) = v) ∧ r = 1 ∧ h' = advH h (tA h) (tN h))) : r = (takeK k h v).1 ∧ h' = (takeK k h v).2 := by
  unfold takeK kA vA
  rcases p with ⟨q, e1, e2⟩ | ⟨q, e1, e2⟩
  · rw [if_neg q]; exact ⟨e1, e2⟩
  · rw [if_pos q]; exact ⟨e1, e2⟩
theorem takeN_of {h : HP} {lo hi r : Int32} {h' : HP} (p : (hI h 8 (tA h) ≠ 2 ∧ r = 0 ∧ h' = failH h (tA h) 2) ∨ (hI h 8 (tA h) = 2 ∧ ¬ (lo ≤ hI h 11 (tA h) ∧ hI h 11 (tA h) ≤ hi) ∧ r = 0 ∧ h' = failH h (tA h) 4) ∨ (hI h 8 (tA h) = 2 ∧ (lo ≤ hI h 11 (tA h) ∧ hI h 11 (tA h) ≤ hi) ∧ r = 1 ∧ h' = advH (uI h 5 11 (hI h 11 (tA h))) (tA h) (tN h))) : r = (takeN h lo hi).1 ∧ h' = (takeN h lo hi).2 := by
  unfold takeN kA vA
  rcases p with ⟨q, e1, e2⟩ | ⟨q, q2, e1, e2⟩ | ⟨q, q2, e1, e2⟩
  · rw [if_neg q]; exact ⟨e1, e2⟩
  · rw [if_pos q, if_neg q2]; exact ⟨e1, e2⟩
  · rw [if_pos q, if_pos q2]; exact ⟨e1, e2⟩
