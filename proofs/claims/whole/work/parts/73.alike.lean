/-! ===== alike: nights of both ===== -/
/-- the places of the reference that its nights change -/
def ntC (b j : Nat) : Prop := b = 122 ∨ (b = 114 ∧ (j = 3 ∨ j = 7 ∨ j = 8 ∨ (32 ≤ j ∧ j < 42)))
/-- a heap in which the picture is another, as both have it -/
def atX (h : HP) (t : Nat) (x : Int32) : HP := uI (uI h t 13 x) 114 3 x
theorem atX_I {h : HP} {t : Nat} {x : Int32} {b k : Nat} (h1 : ¬ (b = t ∧ k = 13)) (h2 : ¬ (b = 114 ∧ k = 3)) : hI (atX h t x) b k = hI h b k := by
  unfold atX; rw [hI_uI_n (by omega), hI_uI_n (by omega)]
theorem atX_row {h : HP} {t : Nat} {x : Int32} {b : Nat} (h1 : b ≠ t) (h2 : b ≠ 114) : hI (atX h t x) b = hI h b := by
  funext k; exact atX_I (fun q => h1 q.1) (fun q => h2 q.1)
theorem atX_nx {h : HP} {t : Nat} (ht : t = 79 ∨ t = 96) (x : Int32) : nxF (atX h t x) t = nxF h t ∧ bornF (atX h t x) t = bornF h t ∧ staysF (atX h t x) t = staysF h t := by
  have b : bornF (atX h t x) t = bornF h t := by
    unfold bornF; rw [atX_I (by omega) (by omega), atX_I (by omega) (by omega), atX_row (by omega) (by omega)]
  have s : staysF (atX h t x) t = staysF h t := by
    unfold staysF; rw [atX_I (by omega) (by omega), atX_I (by omega) (by omega), atX_row (by omega) (by omega)]
  refine ⟨?_, b, s⟩
  funext y; unfold nxF; rw [b, s, atX_row (by omega) (by omega)]
/-- a picture whose stuck lamps stand -/
def okX (h : HP) (x : Int32) : Prop := inH h x ∧ ∀ i, i < 32 → bt (hI h 114 4) i = true → bt x i = bt (hI h 114 3) i
theorem TW.atX {h : HP} {t w r m c : Nat} {j : Bool} (ht : t = 79 ∨ t = 96) (T : TW h t w r m c j) {x : Int32} (ok : okX h x) : TW (atX h t x) t w r m c j := by
  obtain ⟨qH, qR, H, j1, j2⟩ := T
  refine ⟨qH.pic (x := x) (fun b k q n1 n2 => atX_I n1 n2) (by omega) ?_ ?_ ok.1 ok.2, qR.k (fun b k q => atX_I (by unfold cnR at q; omega) (by unfold cnR at q; omega)) (fun _ _ _ => rfl), ?_, ?_, j2⟩
  · unfold Jvm.Pilot.CWindowHillLaw_law_r2897_20a870.atX; rw [hI_uI_n (by omega), hI_uI_s]
  · unfold Jvm.Pilot.CWindowHillLaw_law_r2897_20a870.atX; rw [hI_uI_s]
  · rw [atX_row (by omega) (by omega)]; exact H
  · rw [atX_I (by omega) (by omega)]; exact j1
theorem okX.nx {h : HP} {t w r m c : Nat} {j : Bool} (T : TW h t w r m c j) {x : Int32} (ok : okX h x) : okX h (nxF h t x) := by
  refine ⟨T.nx ok.1, fun i hi b => ?_⟩
  obtain ⟨qH, qR, H, j1, j2⟩ := T
  have h6 := qH.n.2.2.2.2.2.1 i hi
  unfold nxF
  rw [step_b H (inH_P qH ok.1) (free_P qH) _ _ hi, h6.1, h6.2, b]
  simp
theorem okX.it {h : HP} {t w r m c : Nat} {j : Bool} (T : TW h t w r m c j) : ∀ n {x : Int32}, okX h x → okX h (itN (nxF h t) n x)
  | 0, x, hx => hx
  | n + 1, x, hx => by rw [itN]; exact okX.it T n (hx.nx T)
theorem gs_step {h : HP} {t w r m c : Nat} {j : Bool} (ht : t = 79 ∨ t = 96) (T : TW h t w r m c j) {G : HP} {x : Int32} (ok : okX h x) (hx : hI G 114 3 = x) (sm : ∀ k, (k ≤ 2 ∨ k = 4 ∨ k = 9 ∨ k = 10 ∨ (12 ≤ k ∧ k < 20)) → hI G 114 k = hI h 114 k) :
    ∃ G', f_X12_goes G = some G' ∧ SR G G' ∧ (∀ b k, ¬ ntC b k → hI G' b k = hI G b k) ∧ hL G' = hL G ∧ hI G' 114 3 = nxF h t x ∧ hI G' 114 8 = hI G 114 8 + nI (pc x) ∧ hI G' 114 7 = hI G 114 7 + 1 ∧ ∀ q, q < 10 → hI G' 114 (32 + q) = hI G 114 (32 + q) ||| uT h t x q := by
  have T' := T.atX ht ok
  have sm' : SmN (atX h t x) G := fun k hk => by
    by_cases k3 : k = 3
    · subst k3; rw [hx]; unfold atX; rw [hI_uI_s]
    · rw [atX_I (by omega) (by omega)]; exact sm k (by omega)
  have inx : inH (atX h t x) x := fun i hi b => by rw [atX_I (by omega) (by omega)]; exact ok.1 i hi b
  obtain ⟨n1, n2, n3⟩ := atX_nx (h := h) ht x
  have bec := T'.bec (sm'.ln w r j) (lnH_LN G w r j) inx
  rw [n1] at bec
  obtain ⟨⟨w1, w5, hw, hw'⟩, ⟨r1, r6, hr, hr'⟩, -, -, -, h6, h7⟩ := T.1.n
  have h30 := wr_le w5 r6
  have L : ∀ k, hI (lnH G w r j) 114 k = hI G 114 k := fun k => by rw [lnH_I _ _ _ _ (by decide)]
  have key := gs_lp (G := lnH G w r j) (j := j) w1 w5 r6 (by rw [L, sm 0 (by omega)]; exact hw) (by rw [L, sm 1 (by omega)]; exact hr) T.2.2.2.2 (lnH_LN G w r j) (x := x) (y := nxF h t x) (F := hI h 114 2 &&& (hI h 114 4 ^^^ -1)) (by rw [L, hx]) (by rw [L, L, sm 2 (by omega), sm 4 (by omega)]) (fun i hi b => by rw [L, sm 2 (by omega)]; exact ok.1 i hi b) (inH_P T.1 ok.1) (fun q => hI G 114 (32 + q)) (w * r) 0 FU (by omega) (FU_gt (by omega))
  have e0 : rI (lnH G w r j) 114 (sR (hI (lnH G w r j) 114) (sM w j (hI h 114 2 &&& (hI h 114 4 ^^^ -1)) x (nxF h t x) (fun q => hI G 114 (32 + q)) 0)) = lnH G w r j := by
    have : sR (hI (lnH G w r j) 114) (sM w j (hI h 114 2 &&& (hI h 114 4 ^^^ -1)) x (nxF h t x) (fun q => hI G 114 (32 + q)) 0) = hI (lnH G w r j) 114 := by
      funext k; unfold sR; split
      · show hI G 114 (32 + (k - 32)) = _
        rw [L, show 32 + (k - 32) = k by omega]
      · rfl
    rw [this, rI_self]
  rw [e0, L, L] at key
  have sq : ∀ q, q < 10 → sM w j (hI h 114 2 &&& (hI h 114 4 ^^^ -1)) x (nxF h t x) (fun q => hI G 114 (32 + q)) (w * r) q = hI G 114 (32 + q) ||| uT h t x q := fun q hq => seen_e T ok.1 (fun q => hI G 114 (32 + q)) hq
  obtain ⟨S, eS⟩ : ∃ S, S = sM w j (hI h 114 2 &&& (hI h 114 4 ^^^ -1)) x (nxF h t x) (fun q => hI G 114 (32 + q)) (w * r) := ⟨_, rfl⟩
  rw [← eS] at key sq
  refine ⟨uI (uI (uI (rI (lnH G w r j) 114 (sR (hI (lnH G w r j) 114) S)) 114 8 (hI G 114 8 + nI (pc x))) 114 3 (nxF h t x)) 114 7 (hI G 114 7 + 1), ?_, ⟨rfl, rfl⟩, ?_, rfl, ?_, ?_, ?_, ?_⟩
  rotate_left
  · intro b k hn
    unfold ntC at hn
    rw [hI_uI_n (by omega), hI_uI_n (by omega), hI_uI_n (by omega)]
    by_cases b4 : b = 114
    · subst b4
      rw [hI_rI_s]; unfold sR; rw [if_neg (by omega), L]
    · rw [hI_rI_n _ _ b4, lnH_I _ _ _ _ (by omega)]
  · rw [hI_uI_n (by omega), hI_uI_s]
  · rw [hI_uI_n (by omega), hI_uI_n (by omega), hI_uI_s]
  · rw [hI_uI_s]
  · intro q hq
    rw [hI_uI_n (by omega), hI_uI_n (by omega), hI_uI_n (by omega), hI_rI_s, sR_in hq, sq q hq]
  · unfold f_X12_goes
    rw [T'.ln sm', bd1_s, L, L, hx]
    rw [L] at bec
    rw [bec, bd2_s]
    exact key
