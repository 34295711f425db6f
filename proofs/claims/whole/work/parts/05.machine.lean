/-! ===== THE MACHINE, SEEN THROUGH ONE ABSTRACT HEAP: cells by their number behind the law's start; V: a frame that comes to its method's end ===== -/
abbrev HP : Type := Nat × (Nat → Nat → Int32) × (Nat → Nat → Int64) × (Nat → Nat → Nat)
def hI (h : HP) : Nat → Nat → Int32 := h.2.1
def hL (h : HP) : Nat → Nat → Int64 := h.2.2.1
def hR (h : HP) : Nat → Nat → Nat := h.2.2.2
def rI (h : HP) (a : Nat) (f : Nat → Int32) : HP := (h.1, fun b => if b = a then f else h.2.1 b, h.2.2.1, h.2.2.2)
def rL (h : HP) (a : Nat) (f : Nat → Int64) : HP := (h.1, h.2.1, fun b => if b = a then f else h.2.2.1 b, h.2.2.2)
def rR (h : HP) (a : Nat) (f : Nat → Nat) : HP := (h.1, h.2.1, h.2.2.1, fun b => if b = a then f else h.2.2.2 b)
def NUL : Nat := 1000000
/-- a new cell: all is 0, no reference -/
def rNew (h : HP) : HP := (h.1 + 1, fun b => if b = h.1 then (fun _ => 0) else h.2.1 b, fun b => if b = h.1 then (fun _ => 0) else h.2.2.1 b, fun b => if b = h.1 then (fun _ => NUL) else h.2.2.2 b)
def updN (f : Nat → Nat) (k x : Nat) : Nat → Nat := fun j => if j = k then x else f j
abbrev uI (h : HP) (a j : Nat) (x : Int32) : HP := rI h a (upd (hI h a) j x)
abbrev uL (h : HP) (a j : Nat) (x : Int64) : HP := rL h a (vp_updL (hL h a) j x)
abbrev uR (h : HP) (a j : Nat) (x : Nat) : HP := rR h a (updN (hR h a) j x)
theorem rI_1 (h : HP) (a : Nat) (f : Nat → Int32) : (rI h a f).1 = h.1 := rfl
theorem hI_rI (h : HP) (a b : Nat) (f : Nat → Int32) : hI (rI h a f) b = if b = a then f else hI h b := rfl
theorem hI_rI_s (h : HP) (a : Nat) (f : Nat → Int32) : hI (rI h a f) a = f := if_pos rfl
theorem hI_rI_n (h : HP) {a b : Nat} (f : Nat → Int32) (hn : b ≠ a) : hI (rI h a f) b = hI h b := if_neg hn
theorem hL_rI (h : HP) (a : Nat) (f : Nat → Int32) : hL (rI h a f) = hL h := rfl
theorem hR_rI (h : HP) (a : Nat) (f : Nat → Int32) : hR (rI h a f) = hR h := rfl
theorem hL_rL (h : HP) (a b : Nat) (f : Nat → Int64) : hL (rL h a f) b = if b = a then f else hL h b := rfl
theorem hL_rL_s (h : HP) (a : Nat) (f : Nat → Int64) : hL (rL h a f) a = f := if_pos rfl
theorem hL_rL_n (h : HP) {a b : Nat} (f : Nat → Int64) (hn : b ≠ a) : hL (rL h a f) b = hL h b := if_neg hn
theorem hI_rL (h : HP) (a : Nat) (f : Nat → Int64) : hI (rL h a f) = hI h := rfl
theorem hR_rL (h : HP) (a : Nat) (f : Nat → Int64) : hR (rL h a f) = hR h := rfl
theorem hR_rR (h : HP) (a b : Nat) (f : Nat → Nat) : hR (rR h a f) b = if b = a then f else hR h b := rfl
theorem hI_rR (h : HP) (a : Nat) (f : Nat → Nat) : hI (rR h a f) = hI h := rfl
theorem hL_rR (h : HP) (a : Nat) (f : Nat → Nat) : hL (rR h a f) = hL h := rfl
theorem HP_ext {h h' : HP} (h1 : h.1 = h'.1) (h2 : hI h = hI h') (h3 : hL h = hL h') (h4 : hR h = hR h') : h = h' := by
  obtain ⟨a, b, c, d⟩ := h; obtain ⟨a', b', c', d'⟩ := h'
  simp only [hI, hL, hR] at h1 h2 h3 h4
  subst h1; subst h2; subst h3; subst h4; rfl
/-- the cells in the order in which they are made: (0, class, 0), (1, kind of array, length); kinds: 0 int, 1 long, 2 byte, 3 short, 4 towns -/
def townSh : List (Nat × Nat × Nat) := [(0, 5, 0), (0, 1, 0), (1, 0, 5), (0, 8, 0), (1, 0, 60), (1, 0, 60), (1, 0, 60), (1, 0, 60), (1, 0, 60), (1, 1, 4), (1, 0, 4), (1, 0, 4), (1, 1, 6), (1, 0, 6), (1, 0, 6), (1, 0, 10), (1, 0, 4)]
def SHL : List (Nat × Nat × Nat) :=
  [(0, 9, 0), (0, 6, 0), (1, 1, 240), (1, 0, 4), (1, 0, 4), (0, 4, 0), (1, 2, 900), (1, 1, 22), (1, 2, 901), (1, 3, 901), (1, 3, 901), (1, 3, 901), (1, 1, 901), (1, 4, 3)]
  ++ (townSh ++ (townSh ++ (townSh ++
  ([(0, 0, 0), (1, 0, 7168), (0, 1, 0), (1, 0, 5), (1, 0, 7), (1, 0, 7), (1, 0, 7), (0, 3, 0), (0, 7, 0), (1, 0, 30), (0, 2, 0), (1, 0, 60), (0, 2, 0), (1, 0, 60)]
  ++ (townSh ++ (townSh ++
  [(0, 10, 0), (1, 0, 2460), (1, 1, 60), (1, 0, 4), (1, 0, 4), (1, 1, 240), (1, 2, 900), (1, 2, 900), (1, 0, 3), (1, 0, 30), (1, 0, 2001), (1, 1, 1024), (1, 1, 1024), (1, 0, 6144), (1, 0, 80), (1, 0, 5), (1, 0, 5)]))))))
theorem SHL_length : SHL.length = 130 := by decide +kernel
abbrev Ev : Type := va_G × (Nat → ClassId) × Nat × (Nat → Option Nat)
def eb (E : Ev) : Nat := E.2.2.1
def cr (E : Ev) (r : Nat) : Value := if r < NUL then .ref (eb E + r) else if r = NUL then .null else va_rf (E.2.2.2 (r - NUL))
def cv (E : Ev) : Value → Value
  | .ref r => cr E r
  | v => v
theorem va_rf_cat (o : Option Nat) : (va_rf o).category = 1 := by cases o <;> rfl
theorem cv_cat (E : Ev) (v : Value) : (cv E v).category = v.category := by
  cases v <;> try rfl
  simp only [cv, cr]
  split
  · rfl
  · split
    · rfl
    · exact va_rf_cat _
def ATY (t : Nat) : FieldType := match t with
  | 0 => .int
  | 1 => .long
  | 2 => .byte
  | 3 => .short
  | _ => .object "WindowHill$Town"
def tysL (E : Ev) : List (ClassId × FieldType) := [(E.2.1 0, .int), (E.2.1 1, .long), (E.2.1 2, .byte), (E.2.1 3, .short), (E.2.1 4, .object "WindowHill$Town")]
theorem tysL_at (E : Ev) {t : Nat} (ht : t < 5) : (tysL E)[t]? = some (E.2.1 t, ATY t) := by
  rcases (show t = 0 ∨ t = 1 ∨ t = 2 ∨ t = 3 ∨ t = 4 by omega) with rfl | rfl | rfl | rfl | rfl <;> rfl
def rOpt (E : Ev) (r : Nat) : Option Nat := if r < NUL then some (eb E + r) else none
def fval (E : Ev) (h : HP) (k j t : Nat) : Value := if t = 0 then .int (hI h k j) else if t = 1 then .long (hL h k j) else cr E (hR h k j)
def nF (ci : Nat) : Nat := match wCl[ci]? with
  | some q => q.2.2
  | none => 0
def flds (E : Ev) (h : HP) (k ci : Nat) : List Value := (List.range (nF ci)).map (fun j => fval E h k j (fcode (tyOf ci j)))
def acon (E : Ev) (h : HP) (k t : Nat) : (Nat → Int32) ⊕ (Nat → Int64) ⊕ (Nat → UInt32) ⊕ (Nat → UInt64) ⊕ (Nat → Option Nat) :=
  if t = 1 then .inr (.inl (hL h k)) else if t = 4 then .inr (.inr (.inr (.inr (fun j => rOpt E (hR h k j))))) else .inl (hI h k)
def cellOf (E : Ev) (h : HP) (k : Nat) : va_E := match SHL[k]? with
  | some (0, ci, _) => .inr (ci, flds E h k ci)
  | some (_ + 1, t, n) => .inl (E.2.1 t, n, acon E h k t)
  | none => .inr (0, [])
def ws (E : Ev) (h : HP) : va_W := (List.range h.1).map (fun k => (eb E + k, cellOf E h k))
theorem ws_at (E : Ev) (h : HP) {k : Nat} (hk : k < h.1) : (ws E h)[k]? = some (eb E + k, cellOf E h k) := by
  simp [ws, hk]
theorem ws_lt {E : Ev} {h : HP} {k : Nat} {q : Nat × va_E} (hk : (ws E h)[k]? = some q) : k < h.1 ∧ q = (eb E + k, cellOf E h k) := by
  have h1 := (List.getElem?_eq_some_iff.mp hk).1
  have h2 : k < h.1 := by simpa [ws] using h1
  exact ⟨h2, Option.some.inj (hk.symm.trans (ws_at E h h2))⟩
theorem ws_set {E : Ev} {h h' : HP} {k : Nat} {e' : va_E} (h1 : h'.1 = h.1) (he : cellOf E h' k = e') (hn : ∀ j, j ≠ k → cellOf E h' j = cellOf E h j) : (ws E h).set k (eb E + k, e') = ws E h' := by
  apply List.ext_getElem?
  intro j
  rw [List.getElem?_set]
  by_cases hjk : k = j
  · subst hjk
    rw [if_pos rfl]
    by_cases hl : k < h.1
    · rw [if_pos (by simpa [ws] using hl), ws_at E h' (by omega), he]
    · rw [if_neg (by simpa [ws] using hl)]
      exact (List.getElem?_eq_none (by simp [ws, h1]; omega)).symm
  · rw [if_neg hjk]
    by_cases hl : j < h.1
    · rw [ws_at E h hl, ws_at E h' (by omega), hn j (fun q => hjk q.symm)]
    · rw [List.getElem?_eq_none (by simp [ws]; omega), List.getElem?_eq_none (by simp [ws, h1]; omega)]
theorem ws_push {E : Ev} {h h' : HP} (h1 : h'.1 = h.1 + 1) (hn : ∀ j, j < h.1 → cellOf E h' j = cellOf E h j) : ws E h ++ [(eb E + h.1, cellOf E h' h.1)] = ws E h' := by
  unfold ws
  rw [h1, List.range_succ, List.map_append]
  congr 1
  apply List.map_congr_left
  intro j hj
  rw [hn j (List.mem_range.mp hj)]
theorem ws_D (E : Ev) (h : HP) : va_D (fun q => eb E ≤ q) (ws E h) := by
  refine ⟨fun i j p q hi hj hpq => ?_, fun k q hk => ?_⟩
  · obtain ⟨-, rfl⟩ := ws_lt hi
    obtain ⟨-, rfl⟩ := ws_lt hj
    have : eb E + i = eb E + j := hpq
    omega
  · obtain ⟨-, rfl⟩ := ws_lt hk
    exact Nat.le_add_right _ _
theorem flds_at {E : Ev} {h : HP} {k ci j : Nat} (hj : j < nF ci) : (flds E h k ci)[j]? = some (fval E h k j (fcode (tyOf ci j))) := by
  simp [flds, hj]
theorem flds_set {E : Ev} {h h' : HP} {k ci j : Nat} {v : Value} (hv : fval E h' k j (fcode (tyOf ci j)) = v) (hn : ∀ i t, i ≠ j → fval E h' k i t = fval E h k i t) : (flds E h k ci).set j v = flds E h' k ci := by
  apply List.ext_getElem?
  intro i
  rw [List.getElem?_set]
  by_cases hij : j = i
  · subst hij
    rw [if_pos rfl]
    by_cases hl : j < nF ci
    · rw [if_pos (by simpa [flds] using hl), flds_at hl, hv]
    · rw [if_neg (by simpa [flds] using hl)]
      exact (List.getElem?_eq_none (by simp [flds]; omega)).symm
  · rw [if_neg hij]
    by_cases hl : i < nF ci
    · rw [flds_at hl, flds_at hl, hn i _ (fun q => hij q.symm)]
    · rw [List.getElem?_eq_none (by simp [flds]; omega), List.getElem?_eq_none (by simp [flds]; omega)]
theorem cell_obj {E : Ev} {h : HP} {k ci z : Nat} (hs : SHL[k]? = some (0, ci, z)) : cellOf E h k = .inr (ci, flds E h k ci) := by
  simp [cellOf, hs]
theorem cell_arr {E : Ev} {h : HP} {k t n : Nat} (hs : SHL[k]? = some (1, t, n)) : cellOf E h k = .inl (E.2.1 t, n, acon E h k t) := by
  simp [cellOf, hs]
theorem cell_same {E : Ev} {h h' : HP} {k : Nat} (h1 : hI h' k = hI h k) (h2 : hL h' k = hL h k) (h3 : hR h' k = hR h k) : cellOf E h' k = cellOf E h k := by
  simp only [cellOf, flds, acon, fval, h1, h2, h3]
theorem SHL_lt {k : Nat} {q : Nat × Nat × Nat} (hs : SHL[k]? = some q) : k < 130 := by
  have := (List.getElem?_eq_some_iff.mp hs).1
  rwa [SHL_length] at this
theorem cr_lt {E : Ev} {k : Nat} {q : Nat × Nat × Nat} (hs : SHL[k]? = some q) : cr E k = .ref (eb E + k) := by
  have := SHL_lt hs
  unfold cr NUL
  rw [if_pos (by omega)]
theorem cv_lt {E : Ev} {k : Nat} {q : Nat × Nat × Nat} (hs : SHL[k]? = some q) : cv E (.ref k) = .ref (eb E + k) := cr_lt hs
/-! the tables' words, in any state that is as warm -/
def isNestW : Cond → Bool
  | .fieldLinkNest .. => true
  | .methodLinkNest .. => true
  | _ => false
def isAOW : Cond → Bool
  | .arrayOver (.object _) => true
  | _ => false
def wOK (w : Cond) : Bool := goodWord w || (isNestW w || isAOW w)
def Tab (U : State) : Prop := ∀ w ∈ lw_tbl, wOK w = true → va_Nw w U
theorem nest_on {w : Cond} (h : isNestW w = true) : w.onTables = true := by
  cases w <;> first | rfl | simp [isNestW] at h
theorem wOK_cases {w : Cond} (h : wOK w = true) : goodWord w = true ∨ isNestW w = true ∨ ∃ C, w = .arrayOver (.object C) := by
  unfold wOK at h
  rcases Bool.or_eq_true _ _ |>.mp h with h | h
  · exact Or.inl h
  · rcases Bool.or_eq_true _ _ |>.mp h with h | h
    · exact Or.inr (Or.inl h)
    · refine Or.inr (Or.inr ?_)
      unfold isAOW at h
      split at h
      · exact ⟨_, rfl⟩
      · cases h
theorem Tab.use {U : State} (h : Tab U) {w : Cond} (hw : w ∈ lw_tbl) (hk : wOK w = true) (args : Array Value) : w.before args U = true := by
  have h1 := h w hw hk
  rcases wOK_cases hk with hg | hn | ⟨C, rfl⟩
  · exact word_at (State.WarmedH.refl U) (good_of_word hg) h1
  · exact va_Nw.use (nest_on hn) h1
  · exact va_AO.use h1
theorem Tab.warm {s U : State} (h : Tab s) (hW : s.WarmedH U.vm) : Tab U := by
  intro w hw hk
  have h1 := h w hw hk
  rcases wOK_cases hk with hg | hn | ⟨C, rfl⟩
  · exact word_at hW (good_of_word hg) h1
  · cases w <;> first | (exact va_Nw.warmF hW h1) | (exact va_Nw.warmM hW h1) | simp [isNestW] at hn
  · exact va_AO.moved hW.alike h1
/-! the two literals and one static of the JDK: what lies in cells that were there before -/
def sTx (i : Nat) : String × Nat × String := match i with
  | 0 => ("WindowHill$Tokens", 42, "wide ring row rule born stays citizen likes to night turn mayor elect storm birth when lit lamp same loop end stop")
  | _ => ("WindowHillModel", 174, " wide row rule citizen ring born stays likes to night turn mayor elect storm birth when loop end stop lit lamp same ")
def sBy (i : Nat) : List Int32 := (sTx i).2.2.toList.map (fun c => Int32.ofNat c.toNat)
def SLEN : List Nat := [(sBy 0).length, (sBy 1).length]
def SBYT : List (List Int32) := [sBy 0, sBy 1]
def Sg (E : Ev) (U : State) : Prop :=
  ∃ adK adV : Nat → Nat, (∀ i, i < 2 → E.2.2.2 (i + 2) = some (adK i) ∧ E.2.2.2 (i + 4) = some (adV i) ∧ vk_R (sTx i).1 (sTx i).2.1 (sTx i).2.2 (adK i) U) ∧ vk_S 2 SLEN SBYT adK adV (fun q => eb E ≤ q) U U.heap ∧
    va_Z "java/lang/String" "COMPACT_STRINGS" "Z" (.int 1) (fun q => eb E ≤ q) U U.heap ∧ va_Z "jdk/internal/util/Preconditions" "SIOOBE_FORMATTER" "Ljava/util/function/BiFunction;" (va_rf (E.2.2.2 6)) (fun q => eb E ≤ q) U U.heap
theorem Sg.moved {E : Ev} {s U : State} (h : Sg E s) (hW : s.WarmedH U.vm) (hq : ∀ a : Nat, a < s.heap.size → ¬ eb E ≤ a → U.heap[a]? = s.heap[a]?) : Sg E U := by
  obtain ⟨adK, adV, h1, h2, h3, h4⟩ := h
  exact ⟨adK, adV, fun i hi => ⟨(h1 i hi).1, (h1 i hi).2.1, (h1 i hi).2.2.warm hW⟩, vk_S.kept (vk_S.moved hW.alike h2) hq, va_Z.kept (va_Z.moved hW.alike h3) hq, va_Z.kept (va_Z.moved hW.alike h4) hq⟩
def Gd (E : Ev) (U : State) : Prop := va_K E.1 wCl (tysL E) U ∧ Tab U ∧ Sg E U
theorem Gd.moved {E : Ev} {s U : State} (h : Gd E s) (hW : s.WarmedH U.vm) (hq : ∀ a : Nat, a < s.heap.size → ¬ eb E ≤ a → U.heap[a]? = s.heap[a]?) : Gd E U :=
  ⟨va_K.moved hW.alike h.1, h.2.1.warm hW, h.2.2.moved hW hq⟩
/-! ===== methods: what is owed of a call (Spec), and a frame on its way (V) ===== -/
def slotsOf (q : Nat × Nat × Nat) : Nat := match q.1 with
  | 0 => nF q.2.1
  | _ => q.2.2
def SLT (k : Nat) : Nat := ((SHL.take k).map slotsOf).sum
def cS (E : Ev) (st : List Value) : List Value := st.map (cv E)
def cL (E : Ev) (i : Nat) : List Value → List (Nat × Value)
  | [] => []
  | .null :: r => cL E (i + 1) r
  | v :: r => (i, cv E v) :: cL E (i + 1) r
abbrev Zt : Type := (Ev → State → Array Value → Prop) × (Ev → State → Array Value → List Frame → State → Prop)
def PcS (E : Ev) (args : List Value) (h : HP) : Array Value → State → Prop := fun v U => v = (cS E args).toArray ∧ Gd E U ∧ U.heap.size = eb E + h.1 ∧ va_P E.1 wCl (ws E h) U.heap
def QcS (E : Ev) (rm : Room) (h : HP) (post : Option Value → HP → Prop) : Array Value → State → Outcome → State → Prop := fun _ st o t =>
  ∃ (v : Option Value) (h' : HP), o = .returned (v.map (cv E)) ∧ post v h' ∧ h'.1 = h.1 + rm.cells ∧ va_P E.1 wCl (ws E h') t.heap ∧ va_F (fun q => eb E ≤ q) st t
def Spec (y : MethodName) (cc : ByteArray) (mi : Mi) (args : List Value) (h : HP) (post : Option Value → HP → Prop) : Prop :=
  ∀ (l : Launch) (E : Ev), Met l y [Cond.code y cc mi.2.1 mi.2.2.1] mi.2.2.2.1 (PcS E args h) (QcS E mi.2.2.2.1 h post) mi.2.2.2.1.cells mi.2.2.2.1.slots (fun q => eb E ≤ q)
def ZM (h0 : HP) (rm : Room) (post : Option Value → HP → Prop) : Zt :=
  (fun _ _ _ => True, fun E s args below => MQ below (QcS E rm h0 post) args s rm.cells rm.slots (fun q => eb E ≤ q))
def Cx (cc : ByteArray) (mi : Mi) (Z : Zt) (n0 : Nat) (p : Program) (s : State) (m : MethodId) (args : Array Value) (meth : Method) (c : Code) (E : Ev) : Prop :=
  p.tables.exec = Jvm.exec ∧ c.code = cc ∧ c.maxLocals = mi.2.1 ∧ s.vm.findClass mi.1 = some m.cls ∧ meth.locks = false ∧ meth.sig.returnType = mi.2.2.1 ∧ (mi.2.2.2.2 = "<init>" → meth.name = "<init>") ∧ Gd E s ∧ s.heap.size = eb E + n0 ∧ Z.1 E s args
def Rp (mi : Mi) (n0 : Nat) (s : State) (E : Ev) (h : HP) (H : Heap) (locs : List Loc) : Prop :=
  va_P E.1 wCl (ws E h) H ∧ va_S (fun q => eb E ≤ q) s.heap H locs ∧ n0 ≤ h.1 ∧ (mi.2.2.2.1.cells = 0 → h.1 = n0)
def V (cc : ByteArray) (mi : Mi) (Z : Zt) (n0 : Nat) (pc : Nat) (ls st : List Value) (h : HP) : Prop :=
  ∀ (p : Program) (l : Launch) (e : Env) (s : State) (m : MethodId) (args : Array Value) (below : List Frame) (meth : Method) (c : Code) (E : Ev) (H : Heap) (locs : List Loc) (la : Array Slot),
    Cx cc mi Z n0 p s m args meth c E → Rp mi n0 s E h H locs → lv_has la mi.2.1 (cL E 0 ls) →
    W p l e mi.2.2.2.1 s m args below meth c H locs (h.1 - n0) (SLT h.1 - SLT n0) (Z.2 E s args below) (F0 m pc la (cS E st))
/-! locals by position; .null: nothing is said -/
def lput (ls : List Value) (i : Nat) (v : Value) : List Value := match i with
  | 0 => ls.set 0 v
  | j + 1 => match ls[j]? with
    | some (.long _) => (ls.set j .null).set (j + 1) v
    | some (.double _) => (ls.set j .null).set (j + 1) v
    | _ => ls.set (j + 1) v
def lput2 (ls : List Value) (i : Nat) (v : Value) : List Value := (lput ls i v).set (i + 1) .null
theorem cL_mem {E : Ev} : ∀ (ls : List Value) (i : Nat) (q : Nat × Value), q ∈ cL E i ls → ∃ (k : Nat) (v : Value), ls[k]? = some v ∧ q = (i + k, cv E v) ∧ v ≠ .null
  | [], i, q, hq => by simp [cL] at hq
  | v :: r, i, q, hq => by
    have rec1 : q ∈ cL E (i + 1) r → ∃ (k : Nat) (v' : Value), (v :: r)[k]? = some v' ∧ q = (i + k, cv E v') ∧ v' ≠ .null := by
      intro h
      obtain ⟨k, v', h1, h2, h3⟩ := cL_mem r (i + 1) q h
      exact ⟨k + 1, v', by simpa using h1, by rw [h2, Nat.add_assoc, Nat.add_comm 1 k], h3⟩
    have other : v ≠ .null → (q = (i, cv E v) ∨ q ∈ cL E (i + 1) r) → ∃ (k : Nat) (v' : Value), (v :: r)[k]? = some v' ∧ q = (i + k, cv E v') ∧ v' ≠ .null := by
      intro hv h
      rcases h with rfl | h
      · exact ⟨0, v, rfl, rfl, hv⟩
      · exact rec1 h
    cases v with
    | null => exact rec1 hq
    | int x => exact other (by simp) (List.mem_cons.mp hq)
    | long x => exact other (by simp) (List.mem_cons.mp hq)
    | float x => exact other (by simp) (List.mem_cons.mp hq)
    | double x => exact other (by simp) (List.mem_cons.mp hq)
    | ref x => exact other (by simp) (List.mem_cons.mp hq)
    | retAddr x => exact other (by simp) (List.mem_cons.mp hq)
theorem cL_in {E : Ev} : ∀ (ls : List Value) (i k : Nat) (v : Value), ls[k]? = some v → v ≠ .null → (i + k, cv E v) ∈ cL E i ls
  | [], i, k, v, hk, _ => by simp at hk
  | w :: r, i, 0, v, hk, hv => by
    have : w = v := by simpa using hk
    subst this
    cases w <;> first | exact absurd rfl hv | exact List.mem_cons_self
  | w :: r, i, k + 1, v, hk, hv => by
    have h1 : r[k]? = some v := by simpa using hk
    have h2 := cL_in (E := E) r (i + 1) k v h1 hv
    rw [show i + (k + 1) = i + 1 + k by omega]
    cases w <;> first | exact h2 | exact List.mem_cons_of_mem _ h2
theorem lv_get {E : Ev} {la : Array Slot} {nL : Nat} {ls : List Value} (hl : lv_has la nL (cL E 0 ls)) {k : Nat} {v : Value} (hk : ls[k]? = some v) (hv : v ≠ .null) : la[k]? = some (.val (cv E v)) := by
  have h := hl.2.2 _ (cL_in (E := E) ls 0 k v hk hv)
  simpa using h
theorem lput_get {ls : List Value} {i k : Nat} {v w : Value} (hk : (lput ls i v)[k]? = some w) (hw : w ≠ .null) :
    (k = i ∧ w = v) ∨ (k ≠ i ∧ ls[k]? = some w ∧ ¬ (k + 1 = i ∧ w.category = 2)) := by
  have base : ∀ {l : List Value}, (l.set i v)[k]? = some w → (k = i ∧ w = v) ∨ (k ≠ i ∧ l[k]? = some w) := by
    intro l h
    rw [List.getElem?_set] at h
    by_cases hik : i = k
    · rw [if_pos hik] at h
      split at h
      · exact Or.inl ⟨hik.symm, (Option.some.inj h).symm⟩
      · cases h
    · rw [if_neg hik] at h
      exact Or.inr ⟨fun q => hik q.symm, h⟩
  cases i with
  | zero =>
    rcases base (l := ls) hk with h | ⟨h1, h2⟩
    · exact Or.inl h
    · exact Or.inr ⟨h1, h2, by omega⟩
  | succ j =>
    have fin : ∀ {l : List Value}, (∀ w', l[k]? = some w' → w' ≠ .null → ls[k]? = some w' ∧ ¬ (k = j ∧ w'.category = 2)) → (l.set (j + 1) v)[k]? = some w → (k = j + 1 ∧ w = v) ∨ (k ≠ j + 1 ∧ ls[k]? = some w ∧ ¬ (k + 1 = j + 1 ∧ w.category = 2)) := by
      intro l hl h
      rcases base (l := l) h with h | ⟨h1, h2⟩
      · exact Or.inl h
      · obtain ⟨h3, h4⟩ := hl w h2 hw
        exact Or.inr ⟨h1, h3, fun q => h4 ⟨by omega, q.2⟩⟩
    have cut : ∀ w', (ls.set j Value.null)[k]? = some w' → w' ≠ .null → ls[k]? = some w' ∧ ¬ (k = j ∧ w'.category = 2) := by
      intro w' h hn
      rw [List.getElem?_set] at h
      by_cases hjk : j = k
      · rw [if_pos hjk] at h
        split at h
        · exact absurd (Option.some.inj h).symm hn
        · cases h
      · rw [if_neg hjk] at h
        exact ⟨h, fun q => hjk q.1.symm⟩
    unfold lput at hk
    dsimp only at hk
    cases hj : ls[j]? with
    | none =>
      rw [hj] at hk
      exact fin (l := ls) (fun w' h hn => ⟨h, fun q => by rw [q.1, hj] at h; cases h⟩) hk
    | some x =>
      rw [hj] at hk
      cases x with
      | long y => exact fin (l := ls.set j .null) cut hk
      | double y => exact fin (l := ls.set j .null) cut hk
      | int y => exact fin (l := ls) (fun w' h hn => ⟨h, fun q => by rw [q.1, hj] at h; cases h; exact absurd q.2 (by simp [Value.category])⟩) hk
      | float y => exact fin (l := ls) (fun w' h hn => ⟨h, fun q => by rw [q.1, hj] at h; cases h; exact absurd q.2 (by simp [Value.category])⟩) hk
      | null => exact fin (l := ls) (fun w' h hn => ⟨h, fun q => by rw [q.1, hj] at h; cases h; exact absurd q.2 (by simp [Value.category])⟩) hk
      | ref y => exact fin (l := ls) (fun w' h hn => ⟨h, fun q => by rw [q.1, hj] at h; cases h; exact absurd q.2 (by simp [Value.category])⟩) hk
      | retAddr y => exact fin (l := ls) (fun w' h hn => ⟨h, fun q => by rw [q.1, hj] at h; cases h; exact absurd q.2 (by simp [Value.category])⟩) hk
theorem lv_put1 {E : Ev} {la : Array Slot} {nL : Nat} {ls : List Value} {i : Nat} {v : Value} (h : lv_has la nL ((i, cv E v) :: (cL E 0 ls).filter (fun q => !(q.1 == i) && !(q.1 + 1 == i && q.2.category == 2)))) : lv_has la nL (cL E 0 (lput ls i v)) := by
  refine ⟨h.1, h.2.1, fun q hq => ?_⟩
  obtain ⟨k, w, h1, h2, h3⟩ := cL_mem _ _ _ hq
  subst h2
  simp only [Nat.zero_add]
  rcases lput_get h1 h3 with ⟨rfl, rfl⟩ | ⟨g1, g2, g3⟩
  · exact h.2.2 _ List.mem_cons_self
  · have hm := cL_in (E := E) ls 0 k w g2 h3
    rw [Nat.zero_add] at hm
    refine h.2.2 (k, cv E w) (List.mem_cons_of_mem _ (List.mem_filter.mpr ⟨hm, ?_⟩))
    simp only [cv_cat]
    have a1 : (k == i) = false := by simpa using g1
    rw [a1]
    by_cases hk : k + 1 = i
    · have : w.category ≠ 2 := fun q => g3 ⟨hk, q⟩
      simp [this]
    · simp [hk]
theorem lv_put2 {E : Ev} {la : Array Slot} {nL : Nat} {ls : List Value} {i : Nat} {v : Value} (h : lv_has la nL ((i, cv E v) :: (cL E 0 ls).filter (fun q => !(q.1 == i) && (!(q.1 == i + 1) && !(q.1 + 1 == i && q.2.category == 2))))) : lv_has la nL (cL E 0 (lput2 ls i v)) := by
  refine ⟨h.1, h.2.1, fun q hq => ?_⟩
  obtain ⟨k, w, h1, h2, h3⟩ := cL_mem _ _ _ hq
  subst h2
  simp only [Nat.zero_add]
  unfold lput2 at h1
  rw [List.getElem?_set] at h1
  by_cases hik : i + 1 = k
  · rw [if_pos hik] at h1
    split at h1
    · exact absurd (Option.some.inj h1).symm h3
    · cases h1
  · rw [if_neg hik] at h1
    rcases lput_get h1 h3 with ⟨rfl, rfl⟩ | ⟨g1, g2, g3⟩
    · exact h.2.2 _ List.mem_cons_self
    · have hm := cL_in (E := E) ls 0 k w g2 h3
      rw [Nat.zero_add] at hm
      refine h.2.2 (k, cv E w) (List.mem_cons_of_mem _ (List.mem_filter.mpr ⟨hm, ?_⟩))
      simp only [cv_cat]
      have a1 : (k == i) = false := by simpa using g1
      have a2 : (k == i + 1) = false := by simpa using (fun q => hik q.symm)
      rw [a1, a2]
      by_cases hk : k + 1 = i
      · have : w.category ≠ 2 := fun q => g3 ⟨hk, q⟩
        simp [this]
      · simp [hk]
/-- fewer locals -/
def lle : List Value → List Value → Prop
  | [], _ => True
  | _ :: _, [] => False
  | a :: r, b :: t => (a = .null ∨ a = b) ∧ lle r t
theorem lle_get : ∀ {l' l : List Value}, lle l' l → ∀ {k : Nat} {v : Value}, l'[k]? = some v → v ≠ .null → l[k]? = some v
  | [], _, _, k, v, hk, _ => by simp at hk
  | a :: r, [], h, k, v, hk, hv => absurd h id
  | a :: r, b :: t, h, 0, v, hk, hv => by
    have : a = v := by simpa using hk
    subst this
    rcases h.1 with h1 | h1
    · exact absurd h1 hv
    · simp [h1]
  | a :: r, b :: t, h, k + 1, v, hk, hv => by
    have h1 : r[k]? = some v := by simpa using hk
    simpa using lle_get h.2 h1 hv
theorem lv_less {E : Ev} {la : Array Slot} {nL : Nat} {ls ls' : List Value} (h : lv_has la nL (cL E 0 ls)) (hle : lle ls' ls) : lv_has la nL (cL E 0 ls') := by
  refine ⟨h.1, h.2.1, fun q hq => ?_⟩
  obtain ⟨k, w, h1, h2, h3⟩ := cL_mem _ _ _ hq
  subst h2
  simpa using lv_get h (lle_get hle h1 h3) h3
section VR
variable {cc : ByteArray} {mi : Mi} {Z : Zt} {n0 pc : Nat} {ls st : List Value} {h : HP}
theorem V.iconst {n : Int} {v : Int32} (hd : decode cc pc = .ok (.iconst n, 1)) (hv : Int32.ofInt n = v)
    (k : V cc mi Z n0 (pc + 1) ls (.int v :: st) h) : V cc mi Z n0 pc ls (st) h := by
  intro p l e s m args below meth c E H locs la hc hr hl
  exact lv_iconst hc.1 hc.2.1 hd hv (k p l e s m args below meth c E H locs la hc hr hl)
theorem V.bipush {n : Int} {v : Int32} (hd : decode cc pc = .ok (.bipush n, 2)) (hv : (Int8.ofInt n).toInt32 = v)
    (k : V cc mi Z n0 (pc + 2) ls (.int v :: st) h) : V cc mi Z n0 pc ls (st) h := by
  intro p l e s m args below meth c E H locs la hc hr hl
  exact lv_bipush hc.1 hc.2.1 hd hv (k p l e s m args below meth c E H locs la hc hr hl)
theorem V.sipush {n : Int} {v : Int32} (hd : decode cc pc = .ok (.sipush n, 3)) (hv : (Int16.ofInt n).toInt32 = v)
    (k : V cc mi Z n0 (pc + 3) ls (.int v :: st) h) : V cc mi Z n0 pc ls (st) h := by
  intro p l e s m args below meth c E H locs la hc hr hl
  exact lv_sipush hc.1 hc.2.1 hd hv (k p l e s m args below meth c E H locs la hc hr hl)
theorem V.lconst {n : Fin 2} {v : Int64} (hd : decode cc pc = .ok (.lconst n, 1)) (hv : Int64.ofNat (n : Nat) = v)
    (k : V cc mi Z n0 (pc + 1) ls (.long v :: st) h) : V cc mi Z n0 pc ls (st) h := by
  intro p l e s m args below meth c E H locs la hc hr hl
  exact lv_lconst hc.1 hc.2.1 hd hv (k p l e s m args below meth c E H locs la hc hr hl)
theorem V.ldc {idx : Nat} {v : Int32} (hd : decode cc pc = .ok (.ldc idx, 2)) (hw : Cond.constant mi.1 idx v ∈ lw_tbl)
    (k : V cc mi Z n0 (pc + 2) ls (.int v :: st) h) : V cc mi Z n0 pc ls (st) h := by
  intro p l e s m args below meth c E H locs la hc hr hl
  exact lv_ldc hc.1 hc.2.1 hc.2.2.2.1 (hc.2.2.2.2.2.2.2.1.2.1.use hw rfl _) hd (k p l e s m args below meth c E H locs la hc hr hl)
theorem V.ldcw {idx : Nat} {v : Int32} (hd : decode cc pc = .ok (.ldc_w idx, 3)) (hw : Cond.constant mi.1 idx v ∈ lw_tbl)
    (k : V cc mi Z n0 (pc + 3) ls (.int v :: st) h) : V cc mi Z n0 pc ls (st) h := by
  intro p l e s m args below meth c E H locs la hc hr hl
  exact lv_ldcw hc.1 hc.2.1 hc.2.2.2.1 (hc.2.2.2.2.2.2.2.1.2.1.use hw rfl _) hd (k p l e s m args below meth c E H locs la hc hr hl)
theorem V.ldc2 {idx : Nat} {v : Int64} (hd : decode cc pc = .ok (.ldc2_w idx, 3)) (hw : Cond.constantLong mi.1 idx v ∈ lw_tbl)
    (k : V cc mi Z n0 (pc + 3) ls (.long v :: st) h) : V cc mi Z n0 pc ls (st) h := by
  intro p l e s m args below meth c E H locs la hc hr hl
  exact lv_ldc2 hc.1 hc.2.1 hc.2.2.2.1 (hc.2.2.2.2.2.2.2.1.2.1.use hw rfl _) hd (k p l e s m args below meth c E H locs la hc hr hl)
theorem V.iload_n {f : Fin 4} {i : Nat} {x : Int32} (hd : decode cc pc = .ok (.iload_n f, 1)) (hi : (f : Nat) = i) (hx : ls[i]? = some (.int x))
    (k : V cc mi Z n0 (pc + 1) ls (.int x :: st) h) : V cc mi Z n0 pc ls (st) h := by
  intro p l e s m args below meth c E H locs la hc hr hl
  exact lv_iload_n hc.1 hc.2.1 hd hi (lv_get hl hx (by simp)) (k p l e s m args below meth c E H locs la hc hr hl)
theorem V.iload {i : Nat} {x : Int32} (hd : decode cc pc = .ok (.iload i, 2)) (hx : ls[i]? = some (.int x))
    (k : V cc mi Z n0 (pc + 2) ls (.int x :: st) h) : V cc mi Z n0 pc ls (st) h := by
  intro p l e s m args below meth c E H locs la hc hr hl
  exact lv_iload hc.1 hc.2.1 hd (lv_get hl hx (by simp)) (k p l e s m args below meth c E H locs la hc hr hl)
theorem V.lload_n {f : Fin 4} {i : Nat} {x : Int64} (hd : decode cc pc = .ok (.lload_n f, 1)) (hi : (f : Nat) = i) (hx : ls[i]? = some (.long x))
    (k : V cc mi Z n0 (pc + 1) ls (.long x :: st) h) : V cc mi Z n0 pc ls (st) h := by
  intro p l e s m args below meth c E H locs la hc hr hl
  exact lv_lload_n hc.1 hc.2.1 hd hi (lv_get hl hx (by simp)) (k p l e s m args below meth c E H locs la hc hr hl)
theorem V.lload {i : Nat} {x : Int64} (hd : decode cc pc = .ok (.lload i, 2)) (hx : ls[i]? = some (.long x))
    (k : V cc mi Z n0 (pc + 2) ls (.long x :: st) h) : V cc mi Z n0 pc ls (st) h := by
  intro p l e s m args below meth c E H locs la hc hr hl
  exact lv_lload hc.1 hc.2.1 hd (lv_get hl hx (by simp)) (k p l e s m args below meth c E H locs la hc hr hl)
theorem V.aload_n {f : Fin 4} {i a : Nat} {q : Nat × Nat × Nat} (hd : decode cc pc = .ok (.aload_n f, 1)) (hi : (f : Nat) = i) (hx : ls[i]? = some (.ref a)) (hs : SHL[a]? = some q)
    (k : V cc mi Z n0 (pc + 1) ls (.ref a :: st) h) : V cc mi Z n0 pc ls (st) h := by
  intro p l e s m args below meth c E H locs la hc hr hl
  have g := lv_get hl hx (by simp)
  rw [cv_lt hs] at g
  have kk := (k p l e s m args below meth c E H locs la hc hr hl)
  rw [show cS E (.ref a :: st) = .ref (eb E + a) :: cS E st by rw [← cv_lt (E := E) hs]; rfl] at kk
  exact lv_aload_n hc.1 hc.2.1 hd hi g kk
theorem V.aload {i a : Nat} {q : Nat × Nat × Nat} (hd : decode cc pc = .ok (.aload i, 2)) (hx : ls[i]? = some (.ref a)) (hs : SHL[a]? = some q)
    (k : V cc mi Z n0 (pc + 2) ls (.ref a :: st) h) : V cc mi Z n0 pc ls (st) h := by
  intro p l e s m args below meth c E H locs la hc hr hl
  have g := lv_get hl hx (by simp)
  rw [cv_lt hs] at g
  have kk := (k p l e s m args below meth c E H locs la hc hr hl)
  rw [show cS E (.ref a :: st) = .ref (eb E + a) :: cS E st by rw [← cv_lt (E := E) hs]; rfl] at kk
  exact lv_aload hc.1 hc.2.1 hd g kk
theorem V.istore_n {f : Fin 4} {i : Nat} {x : Int32} {ls' : List Value} (hd : decode cc pc = .ok (.istore_n f, 1)) (hf : (f : Nat) = i) (hi : i < mi.2.1) (hs : lput ls i (.int x) = ls')
    (k : V cc mi Z n0 (pc + 1) ls' st h) : V cc mi Z n0 pc ls (.int x :: st) h := by
  intro p l e s m args below meth c E H locs la hc hr hl
  subst hs
  exact lv_istore_n hc.1 hc.2.1 hd hf hl hi rfl (fun la' hl' => k p l e s m args below meth c E H locs la' hc hr (lv_put1 hl'))
theorem V.istore {i : Nat} {x : Int32} {ls' : List Value} (hd : decode cc pc = .ok (.istore i, 2)) (hi : i < mi.2.1) (hs : lput ls i (.int x) = ls')
    (k : V cc mi Z n0 (pc + 2) ls' st h) : V cc mi Z n0 pc ls (.int x :: st) h := by
  intro p l e s m args below meth c E H locs la hc hr hl
  subst hs
  exact lv_istore hc.1 hc.2.1 hd hl hi rfl (fun la' hl' => k p l e s m args below meth c E H locs la' hc hr (lv_put1 hl'))
theorem V.lstore_n {f : Fin 4} {i : Nat} {x : Int64} {ls' : List Value} (hd : decode cc pc = .ok (.lstore_n f, 1)) (hf : (f : Nat) = i) (hi : i + 1 < mi.2.1) (hs : lput2 ls i (.long x) = ls')
    (k : V cc mi Z n0 (pc + 1) ls' st h) : V cc mi Z n0 pc ls (.long x :: st) h := by
  intro p l e s m args below meth c E H locs la hc hr hl
  subst hs
  exact lv_lstore_n hc.1 hc.2.1 hd hf hl hi rfl (fun la' hl' => k p l e s m args below meth c E H locs la' hc hr (lv_put2 hl'))
theorem V.lstore {i : Nat} {x : Int64} {ls' : List Value} (hd : decode cc pc = .ok (.lstore i, 2)) (hi : i + 1 < mi.2.1) (hs : lput2 ls i (.long x) = ls')
    (k : V cc mi Z n0 (pc + 2) ls' st h) : V cc mi Z n0 pc ls (.long x :: st) h := by
  intro p l e s m args below meth c E H locs la hc hr hl
  subst hs
  exact lv_lstore hc.1 hc.2.1 hd hl hi rfl (fun la' hl' => k p l e s m args below meth c E H locs la' hc hr (lv_put2 hl'))
theorem V.astore_n {f : Fin 4} {i a : Nat} {q : Nat × Nat × Nat} {ls' : List Value} (hd : decode cc pc = .ok (.astore_n f, 1)) (hf : (f : Nat) = i) (hi : i < mi.2.1) (hq : SHL[a]? = some q) (hs : lput ls i (.ref a) = ls')
    (k : V cc mi Z n0 (pc + 1) ls' st h) : V cc mi Z n0 pc ls (.ref a :: st) h := by
  intro p l e s m args below meth c E H locs la hc hr hl
  subst hs
  rw [show cS E (.ref a :: st) = .ref (eb E + a) :: cS E st by rw [← cv_lt (E := E) hq]; rfl]
  exact lv_astore_n hc.1 hc.2.1 hd hf hl hi rfl (fun la' hl' => k p l e s m args below meth c E H locs la' hc hr (lv_put1 (v := .ref a) (by rw [cv_lt hq]; exact hl')))
theorem V.astore {i a : Nat} {q : Nat × Nat × Nat} {ls' : List Value} (hd : decode cc pc = .ok (.astore i, 2)) (hi : i < mi.2.1) (hq : SHL[a]? = some q) (hs : lput ls i (.ref a) = ls')
    (k : V cc mi Z n0 (pc + 2) ls' st h) : V cc mi Z n0 pc ls (.ref a :: st) h := by
  intro p l e s m args below meth c E H locs la hc hr hl
  subst hs
  rw [show cS E (.ref a :: st) = .ref (eb E + a) :: cS E st by rw [← cv_lt (E := E) hq]; rfl]
  exact lv_astore hc.1 hc.2.1 hd hl hi rfl (fun la' hl' => k p l e s m args below meth c E H locs la' hc hr (lv_put1 (v := .ref a) (by rw [cv_lt hq]; exact hl')))
theorem V.iinc {i : Nat} {n : Int} {x v : Int32} {ls' : List Value} (hd : decode cc pc = .ok (.iinc i n, 3)) (hx : ls[i]? = some (.int x)) (hi : i < mi.2.1) (hv : x + Int32.ofInt n = v) (hs : lput ls i (.int v) = ls')
    (k : V cc mi Z n0 (pc + 3) ls' st h) : V cc mi Z n0 pc ls st h := by
  intro p l e s m args below meth c E H locs la hc hr hl
  subst hs
  obtain ⟨j, hj⟩ := List.getElem?_of_mem (cL_in (E := E) ls 0 i (.int x) hx (by simp))
  rw [Nat.zero_add] at hj
  exact lv_iinc hc.1 hc.2.1 hd hl hj hv hi rfl (fun la' hl' => k p l e s m args below meth c E H locs la' hc hr (lv_put1 hl'))
theorem V.iadd {x y : Int32} (hd : decode cc pc = .ok (.iadd, 1))
    (k : V cc mi Z n0 (pc + 1) ls (.int (x + y) :: st) h) : V cc mi Z n0 pc ls (.int y :: .int x :: st) h := by
  intro p l e s m args below meth c E H locs la hc hr hl
  exact lv_iadd hc.1 hc.2.1 hd (k p l e s m args below meth c E H locs la hc hr hl)
theorem V.isub {x y : Int32} (hd : decode cc pc = .ok (.isub, 1))
    (k : V cc mi Z n0 (pc + 1) ls (.int (x - y) :: st) h) : V cc mi Z n0 pc ls (.int y :: .int x :: st) h := by
  intro p l e s m args below meth c E H locs la hc hr hl
  exact lv_isub hc.1 hc.2.1 hd (k p l e s m args below meth c E H locs la hc hr hl)
theorem V.imul {x y : Int32} (hd : decode cc pc = .ok (.imul, 1))
    (k : V cc mi Z n0 (pc + 1) ls (.int (x * y) :: st) h) : V cc mi Z n0 pc ls (.int y :: .int x :: st) h := by
  intro p l e s m args below meth c E H locs la hc hr hl
  exact lv_imul hc.1 hc.2.1 hd (k p l e s m args below meth c E H locs la hc hr hl)
theorem V.iand {x y : Int32} (hd : decode cc pc = .ok (.iand, 1))
    (k : V cc mi Z n0 (pc + 1) ls (.int (x &&& y) :: st) h) : V cc mi Z n0 pc ls (.int y :: .int x :: st) h := by
  intro p l e s m args below meth c E H locs la hc hr hl
  exact lv_iand hc.1 hc.2.1 hd (k p l e s m args below meth c E H locs la hc hr hl)
theorem V.ior {x y : Int32} (hd : decode cc pc = .ok (.ior, 1))
    (k : V cc mi Z n0 (pc + 1) ls (.int (x ||| y) :: st) h) : V cc mi Z n0 pc ls (.int y :: .int x :: st) h := by
  intro p l e s m args below meth c E H locs la hc hr hl
  exact lv_ior hc.1 hc.2.1 hd (k p l e s m args below meth c E H locs la hc hr hl)
theorem V.ixor {x y : Int32} (hd : decode cc pc = .ok (.ixor, 1))
    (k : V cc mi Z n0 (pc + 1) ls (.int (x ^^^ y) :: st) h) : V cc mi Z n0 pc ls (.int y :: .int x :: st) h := by
  intro p l e s m args below meth c E H locs la hc hr hl
  exact lv_ixor hc.1 hc.2.1 hd (k p l e s m args below meth c E H locs la hc hr hl)
theorem V.ishl {x y : Int32} (hd : decode cc pc = .ok (.ishl, 1))
    (k : V cc mi Z n0 (pc + 1) ls (.int (x <<< (y &&& 31)) :: st) h) : V cc mi Z n0 pc ls (.int y :: .int x :: st) h := by
  intro p l e s m args below meth c E H locs la hc hr hl
  exact lv_ishl hc.1 hc.2.1 hd (k p l e s m args below meth c E H locs la hc hr hl)
theorem V.ishr {x y : Int32} (hd : decode cc pc = .ok (.ishr, 1))
    (k : V cc mi Z n0 (pc + 1) ls (.int (x >>> (y &&& 31)) :: st) h) : V cc mi Z n0 pc ls (.int y :: .int x :: st) h := by
  intro p l e s m args below meth c E H locs la hc hr hl
  exact lv_ishr hc.1 hc.2.1 hd (k p l e s m args below meth c E H locs la hc hr hl)
theorem V.iushr {x y : Int32} (hd : decode cc pc = .ok (.iushr, 1))
    (k : V cc mi Z n0 (pc + 1) ls (.int (x.toUInt32 >>> (y.toUInt32 &&& Int32.toUInt32 31)).toInt32 :: st) h) : V cc mi Z n0 pc ls (.int y :: .int x :: st) h := by
  intro p l e s m args below meth c E H locs la hc hr hl
  exact lv_iushr hc.1 hc.2.1 hd rfl (k p l e s m args below meth c E H locs la hc hr hl)
theorem V.idiv {x y : Int32} (hd : decode cc pc = .ok (.idiv, 1)) (hn : ¬ y = 0)
    (k : V cc mi Z n0 (pc + 1) ls (.int (x / y) :: st) h) : V cc mi Z n0 pc ls (.int y :: .int x :: st) h := by
  intro p l e s m args below meth c E H locs la hc hr hl
  exact lv_idiv hc.1 hc.2.1 hd hn (k p l e s m args below meth c E H locs la hc hr hl)
theorem V.irem {x y : Int32} (hd : decode cc pc = .ok (.irem, 1)) (hn : ¬ y = 0)
    (k : V cc mi Z n0 (pc + 1) ls (.int (x - x / y * y) :: st) h) : V cc mi Z n0 pc ls (.int y :: .int x :: st) h := by
  intro p l e s m args below meth c E H locs la hc hr hl
  exact lv_irem hc.1 hc.2.1 hd hn (k p l e s m args below meth c E H locs la hc hr hl)
theorem V.ineg {x : Int32} (hd : decode cc pc = .ok (.ineg, 1))
    (k : V cc mi Z n0 (pc + 1) ls (.int (-x) :: st) h) : V cc mi Z n0 pc ls (.int x :: st) h := by
  intro p l e s m args below meth c E H locs la hc hr hl
  exact lv_ineg hc.1 hc.2.1 hd (k p l e s m args below meth c E H locs la hc hr hl)
theorem V.ladd {x y : Int64} (hd : decode cc pc = .ok (.ladd, 1))
    (k : V cc mi Z n0 (pc + 1) ls (.long (x + y) :: st) h) : V cc mi Z n0 pc ls (.long y :: .long x :: st) h := by
  intro p l e s m args below meth c E H locs la hc hr hl
  exact lv_ladd hc.1 hc.2.1 hd (k p l e s m args below meth c E H locs la hc hr hl)
theorem V.lsub {x y : Int64} (hd : decode cc pc = .ok (.lsub, 1))
    (k : V cc mi Z n0 (pc + 1) ls (.long (x - y) :: st) h) : V cc mi Z n0 pc ls (.long y :: .long x :: st) h := by
  intro p l e s m args below meth c E H locs la hc hr hl
  exact lv_lsub hc.1 hc.2.1 hd (k p l e s m args below meth c E H locs la hc hr hl)
theorem V.lmul {x y : Int64} (hd : decode cc pc = .ok (.lmul, 1))
    (k : V cc mi Z n0 (pc + 1) ls (.long (x * y) :: st) h) : V cc mi Z n0 pc ls (.long y :: .long x :: st) h := by
  intro p l e s m args below meth c E H locs la hc hr hl
  exact lv_lmul hc.1 hc.2.1 hd (k p l e s m args below meth c E H locs la hc hr hl)
theorem V.land {x y : Int64} (hd : decode cc pc = .ok (.land, 1))
    (k : V cc mi Z n0 (pc + 1) ls (.long (x &&& y) :: st) h) : V cc mi Z n0 pc ls (.long y :: .long x :: st) h := by
  intro p l e s m args below meth c E H locs la hc hr hl
  exact lv_land hc.1 hc.2.1 hd (k p l e s m args below meth c E H locs la hc hr hl)
theorem V.lor {x y : Int64} (hd : decode cc pc = .ok (.lor, 1))
    (k : V cc mi Z n0 (pc + 1) ls (.long (x ||| y) :: st) h) : V cc mi Z n0 pc ls (.long y :: .long x :: st) h := by
  intro p l e s m args below meth c E H locs la hc hr hl
  exact lv_lor hc.1 hc.2.1 hd (k p l e s m args below meth c E H locs la hc hr hl)
theorem V.lxor {x y : Int64} (hd : decode cc pc = .ok (.lxor, 1))
    (k : V cc mi Z n0 (pc + 1) ls (.long (x ^^^ y) :: st) h) : V cc mi Z n0 pc ls (.long y :: .long x :: st) h := by
  intro p l e s m args below meth c E H locs la hc hr hl
  exact lv_lxor hc.1 hc.2.1 hd (k p l e s m args below meth c E H locs la hc hr hl)
theorem V.ldiv {x y : Int64} (hd : decode cc pc = .ok (.ldiv, 1)) (hn : ¬ y = 0)
    (k : V cc mi Z n0 (pc + 1) ls (.long (x / y) :: st) h) : V cc mi Z n0 pc ls (.long y :: .long x :: st) h := by
  intro p l e s m args below meth c E H locs la hc hr hl
  exact lv_ldiv hc.1 hc.2.1 hd hn (k p l e s m args below meth c E H locs la hc hr hl)
theorem V.lrem {x y : Int64} (hd : decode cc pc = .ok (.lrem, 1)) (hn : ¬ y = 0)
    (k : V cc mi Z n0 (pc + 1) ls (.long (x - x / y * y) :: st) h) : V cc mi Z n0 pc ls (.long y :: .long x :: st) h := by
  intro p l e s m args below meth c E H locs la hc hr hl
  exact lv_lrem hc.1 hc.2.1 hd hn (k p l e s m args below meth c E H locs la hc hr hl)
theorem V.lshl {x : Int64} {y : Int32} (hd : decode cc pc = .ok (.lshl, 1))
    (k : V cc mi Z n0 (pc + 1) ls (.long (x <<< (y.toInt64 &&& 63)) :: st) h) : V cc mi Z n0 pc ls (.int y :: .long x :: st) h := by
  intro p l e s m args below meth c E H locs la hc hr hl
  exact lv_lshl hc.1 hc.2.1 hd rfl (k p l e s m args below meth c E H locs la hc hr hl)
theorem V.i2l {x : Int32} (hd : decode cc pc = .ok (.i2l, 1))
    (k : V cc mi Z n0 (pc + 1) ls (.long x.toInt64 :: st) h) : V cc mi Z n0 pc ls (.int x :: st) h := by
  intro p l e s m args below meth c E H locs la hc hr hl
  exact lv_i2l hc.1 hc.2.1 hd rfl (k p l e s m args below meth c E H locs la hc hr hl)
theorem V.l2i {x : Int64} (hd : decode cc pc = .ok (.l2i, 1))
    (k : V cc mi Z n0 (pc + 1) ls (.int x.toInt32 :: st) h) : V cc mi Z n0 pc ls (.long x :: st) h := by
  intro p l e s m args below meth c E H locs la hc hr hl
  exact lv_l2i hc.1 hc.2.1 hd rfl (k p l e s m args below meth c E H locs la hc hr hl)
theorem V.i2b {x : Int32} (hd : decode cc pc = .ok (.i2b, 1))
    (k : V cc mi Z n0 (pc + 1) ls (.int x.toInt8.toInt32 :: st) h) : V cc mi Z n0 pc ls (.int x :: st) h := by
  intro p l e s m args below meth c E H locs la hc hr hl
  exact lv_i2b hc.1 hc.2.1 hd rfl (k p l e s m args below meth c E H locs la hc hr hl)
theorem V.i2s {x : Int32} (hd : decode cc pc = .ok (.i2s, 1))
    (k : V cc mi Z n0 (pc + 1) ls (.int x.toInt16.toInt32 :: st) h) : V cc mi Z n0 pc ls (.int x :: st) h := by
  intro p l e s m args below meth c E H locs la hc hr hl
  exact lv_i2s hc.1 hc.2.1 hd rfl (k p l e s m args below meth c E H locs la hc hr hl)
theorem V.lcmp {x y : Int64} (hd : decode cc pc = .ok (.lcmp, 1))
    (k : V cc mi Z n0 (pc + 1) ls (.int (lg_cmp x y) :: st) h) : V cc mi Z n0 pc ls (.long y :: .long x :: st) h := by
  intro p l e s m args below meth c E H locs la hc hr hl
  exact W.lcmp hc.1 hc.2.1 hd (k p l e s m args below meth c E H locs la hc hr hl)
theorem V.dup {va : Value} (hd : decode cc pc = .ok (.dup, 1)) (ha : va.category = 1)
    (k : V cc mi Z n0 (pc + 1) ls (va :: va :: st) h) : V cc mi Z n0 pc ls (va :: st) h := by
  intro p l e s m args below meth c E H locs la hc hr hl
  exact lv_dup hc.1 hc.2.1 hd (by rw [cv_cat]; exact ha) (k p l e s m args below meth c E H locs la hc hr hl)
theorem V.pop {va : Value} (hd : decode cc pc = .ok (.pop, 1)) (ha : va.category = 1)
    (k : V cc mi Z n0 (pc + 1) ls (st) h) : V cc mi Z n0 pc ls (va :: st) h := by
  intro p l e s m args below meth c E H locs la hc hr hl
  exact lv_pop (va := cv E va) hc.1 hc.2.1 hd (by rw [cv_cat]; exact ha) (k p l e s m args below meth c E H locs la hc hr hl)
theorem V.dup_x1 {va vb : Value} (hd : decode cc pc = .ok (.dup_x1, 1)) (ha : va.category = 1) (hb : vb.category = 1)
    (k : V cc mi Z n0 (pc + 1) ls (va :: vb :: va :: st) h) : V cc mi Z n0 pc ls (va :: vb :: st) h := by
  intro p l e s m args below meth c E H locs la hc hr hl
  exact lv_dup_x1 hc.1 hc.2.1 hd (by rw [cv_cat]; exact ha) (by rw [cv_cat]; exact hb) (k p l e s m args below meth c E H locs la hc hr hl)
theorem V.dup2 {va vb : Value} (hd : decode cc pc = .ok (.dup2, 1)) (ha : va.category = 1) (hb : vb.category = 1)
    (k : V cc mi Z n0 (pc + 1) ls (va :: vb :: va :: vb :: st) h) : V cc mi Z n0 pc ls (va :: vb :: st) h := by
  intro p l e s m args below meth c E H locs la hc hr hl
  exact lv_dup2_11 hc.1 hc.2.1 hd (by rw [cv_cat]; exact ha) (by rw [cv_cat]; exact hb) (k p l e s m args below meth c E H locs la hc hr hl)
theorem V.if_eq {x : Int32} {off : Int} {tgt : Nat} (hd : decode cc pc = .ok (.ifCond .eq off, 3)) (ht : (pc : Int) + off = (tgt : Int))
    (kt : x = 0 → V cc mi Z n0 tgt ls st h) (kf : ¬ x = 0 → V cc mi Z n0 (pc + 3) ls st h) : V cc mi Z n0 pc ls (.int x :: st) h := by
  intro p l e s m args below meth c E H locs la hc hr hl
  exact lv_if_eq hc.1 hc.2.1 hd ht (fun q => kt q p l e s m args below meth c E H locs la hc hr hl) (fun q => kf q p l e s m args below meth c E H locs la hc hr hl)
theorem V.icmp_eq {x y : Int32} {off : Int} {tgt : Nat} (hd : decode cc pc = .ok (.if_icmp .eq off, 3)) (ht : (pc : Int) + off = (tgt : Int))
    (kt : x = y → V cc mi Z n0 tgt ls st h) (kf : ¬ x = y → V cc mi Z n0 (pc + 3) ls st h) : V cc mi Z n0 pc ls (.int y :: .int x :: st) h := by
  intro p l e s m args below meth c E H locs la hc hr hl
  exact lv_icmp_eq hc.1 hc.2.1 hd ht (fun q => kt q p l e s m args below meth c E H locs la hc hr hl) (fun q => kf q p l e s m args below meth c E H locs la hc hr hl)
theorem V.if_ne {x : Int32} {off : Int} {tgt : Nat} (hd : decode cc pc = .ok (.ifCond .ne off, 3)) (ht : (pc : Int) + off = (tgt : Int))
    (kt : ¬ x = 0 → V cc mi Z n0 tgt ls st h) (kf : x = 0 → V cc mi Z n0 (pc + 3) ls st h) : V cc mi Z n0 pc ls (.int x :: st) h := by
  intro p l e s m args below meth c E H locs la hc hr hl
  exact lv_if_ne hc.1 hc.2.1 hd ht (fun q => kt q p l e s m args below meth c E H locs la hc hr hl) (fun q => kf q p l e s m args below meth c E H locs la hc hr hl)
theorem V.icmp_ne {x y : Int32} {off : Int} {tgt : Nat} (hd : decode cc pc = .ok (.if_icmp .ne off, 3)) (ht : (pc : Int) + off = (tgt : Int))
    (kt : ¬ x = y → V cc mi Z n0 tgt ls st h) (kf : x = y → V cc mi Z n0 (pc + 3) ls st h) : V cc mi Z n0 pc ls (.int y :: .int x :: st) h := by
  intro p l e s m args below meth c E H locs la hc hr hl
  exact lv_icmp_ne hc.1 hc.2.1 hd ht (fun q => kt q p l e s m args below meth c E H locs la hc hr hl) (fun q => kf q p l e s m args below meth c E H locs la hc hr hl)
theorem V.if_lt {x : Int32} {off : Int} {tgt : Nat} (hd : decode cc pc = .ok (.ifCond .lt off, 3)) (ht : (pc : Int) + off = (tgt : Int))
    (kt : x < 0 → V cc mi Z n0 tgt ls st h) (kf : ¬ x < 0 → V cc mi Z n0 (pc + 3) ls st h) : V cc mi Z n0 pc ls (.int x :: st) h := by
  intro p l e s m args below meth c E H locs la hc hr hl
  exact lv_if_lt hc.1 hc.2.1 hd ht (fun q => kt q p l e s m args below meth c E H locs la hc hr hl) (fun q => kf q p l e s m args below meth c E H locs la hc hr hl)
theorem V.icmp_lt {x y : Int32} {off : Int} {tgt : Nat} (hd : decode cc pc = .ok (.if_icmp .lt off, 3)) (ht : (pc : Int) + off = (tgt : Int))
    (kt : x < y → V cc mi Z n0 tgt ls st h) (kf : ¬ x < y → V cc mi Z n0 (pc + 3) ls st h) : V cc mi Z n0 pc ls (.int y :: .int x :: st) h := by
  intro p l e s m args below meth c E H locs la hc hr hl
  exact lv_icmp_lt hc.1 hc.2.1 hd ht (fun q => kt q p l e s m args below meth c E H locs la hc hr hl) (fun q => kf q p l e s m args below meth c E H locs la hc hr hl)
theorem V.if_ge {x : Int32} {off : Int} {tgt : Nat} (hd : decode cc pc = .ok (.ifCond .ge off, 3)) (ht : (pc : Int) + off = (tgt : Int))
    (kt : 0 ≤ x → V cc mi Z n0 tgt ls st h) (kf : ¬ 0 ≤ x → V cc mi Z n0 (pc + 3) ls st h) : V cc mi Z n0 pc ls (.int x :: st) h := by
  intro p l e s m args below meth c E H locs la hc hr hl
  exact lv_if_ge hc.1 hc.2.1 hd ht (fun q => kt q p l e s m args below meth c E H locs la hc hr hl) (fun q => kf q p l e s m args below meth c E H locs la hc hr hl)
theorem V.icmp_ge {x y : Int32} {off : Int} {tgt : Nat} (hd : decode cc pc = .ok (.if_icmp .ge off, 3)) (ht : (pc : Int) + off = (tgt : Int))
    (kt : y ≤ x → V cc mi Z n0 tgt ls st h) (kf : ¬ y ≤ x → V cc mi Z n0 (pc + 3) ls st h) : V cc mi Z n0 pc ls (.int y :: .int x :: st) h := by
  intro p l e s m args below meth c E H locs la hc hr hl
  exact lv_icmp_ge hc.1 hc.2.1 hd ht (fun q => kt q p l e s m args below meth c E H locs la hc hr hl) (fun q => kf q p l e s m args below meth c E H locs la hc hr hl)
theorem V.if_gt {x : Int32} {off : Int} {tgt : Nat} (hd : decode cc pc = .ok (.ifCond .gt off, 3)) (ht : (pc : Int) + off = (tgt : Int))
    (kt : 0 < x → V cc mi Z n0 tgt ls st h) (kf : ¬ 0 < x → V cc mi Z n0 (pc + 3) ls st h) : V cc mi Z n0 pc ls (.int x :: st) h := by
  intro p l e s m args below meth c E H locs la hc hr hl
  exact lv_if_gt hc.1 hc.2.1 hd ht (fun q => kt q p l e s m args below meth c E H locs la hc hr hl) (fun q => kf q p l e s m args below meth c E H locs la hc hr hl)
theorem V.icmp_gt {x y : Int32} {off : Int} {tgt : Nat} (hd : decode cc pc = .ok (.if_icmp .gt off, 3)) (ht : (pc : Int) + off = (tgt : Int))
    (kt : y < x → V cc mi Z n0 tgt ls st h) (kf : ¬ y < x → V cc mi Z n0 (pc + 3) ls st h) : V cc mi Z n0 pc ls (.int y :: .int x :: st) h := by
  intro p l e s m args below meth c E H locs la hc hr hl
  exact lv_icmp_gt hc.1 hc.2.1 hd ht (fun q => kt q p l e s m args below meth c E H locs la hc hr hl) (fun q => kf q p l e s m args below meth c E H locs la hc hr hl)
theorem V.if_le {x : Int32} {off : Int} {tgt : Nat} (hd : decode cc pc = .ok (.ifCond .le off, 3)) (ht : (pc : Int) + off = (tgt : Int))
    (kt : x ≤ 0 → V cc mi Z n0 tgt ls st h) (kf : ¬ x ≤ 0 → V cc mi Z n0 (pc + 3) ls st h) : V cc mi Z n0 pc ls (.int x :: st) h := by
  intro p l e s m args below meth c E H locs la hc hr hl
  exact lv_if_le hc.1 hc.2.1 hd ht (fun q => kt q p l e s m args below meth c E H locs la hc hr hl) (fun q => kf q p l e s m args below meth c E H locs la hc hr hl)
theorem V.icmp_le {x y : Int32} {off : Int} {tgt : Nat} (hd : decode cc pc = .ok (.if_icmp .le off, 3)) (ht : (pc : Int) + off = (tgt : Int))
    (kt : x ≤ y → V cc mi Z n0 tgt ls st h) (kf : ¬ x ≤ y → V cc mi Z n0 (pc + 3) ls st h) : V cc mi Z n0 pc ls (.int y :: .int x :: st) h := by
  intro p l e s m args below meth c E H locs la hc hr hl
  exact lv_icmp_le hc.1 hc.2.1 hd ht (fun q => kt q p l e s m args below meth c E H locs la hc hr hl) (fun q => kf q p l e s m args below meth c E H locs la hc hr hl)
theorem V.goto {off : Int} {tgt : Nat} (hd : decode cc pc = .ok (.goto off, 3)) (ht : (pc : Int) + off = (tgt : Int)) (k : V cc mi Z n0 tgt ls st h) : V cc mi Z n0 pc ls st h := by
  intro p l e s m args below meth c E H locs la hc hr hl
  exact lv_goto hc.1 hc.2.1 hd ht (k p l e s m args below meth c E H locs la hc hr hl)
theorem V.tableOut {dflt lo hi : Int} {offs : Array Int} {len : Nat} {x : Int32} {tgt : Nat} (hd : decode cc pc = .ok (.tableswitch dflt lo hi offs, len)) (hx : x.toInt < lo ∨ hi < x.toInt) (ht : (pc : Int) + dflt = (tgt : Int)) (k : V cc mi Z n0 tgt ls st h) : V cc mi Z n0 pc ls (.int x :: st) h := by
  intro p l e s m args below meth c E H locs la hc hr hl
  exact lv_tableOut hc.1 hc.2.1 hd hx ht (k p l e s m args below meth c E H locs la hc hr hl)
theorem V.tableIn {dflt lo hi : Int} {offs : Array Int} {len : Nat} {x : Int32} {off : Int} {tgt : Nat} (hd : decode cc pc = .ok (.tableswitch dflt lo hi offs, len)) (h1 : ¬ x.toInt < lo) (h2 : ¬ hi < x.toInt) (ho : offs[(x.toInt - lo).toNat]? = some off) (ht : (pc : Int) + off = (tgt : Int)) (k : V cc mi Z n0 tgt ls st h) : V cc mi Z n0 pc ls (.int x :: st) h := by
  intro p l e s m args below meth c E H locs la hc hr hl
  exact lv_tableIn hc.1 hc.2.1 hd h1 h2 ho ht (k p l e s m args below meth c E H locs la hc hr hl)
theorem V.lookup {dflt : Int} {ps : Array (Int × Int)} {len : Nat} {x : Int32} {off : Int} {tgt : Nat} (hd : decode cc pc = .ok (.lookupswitch dflt ps, len)) (hp : (ps.toList.zip (ps.toList.drop 1)).all (fun (a, next) => a.1 < next.1) = true) (ho : Op.lookupswitch.offset ps.toList dflt x.toInt = off) (ht : (pc : Int) + off = (tgt : Int)) (k : V cc mi Z n0 tgt ls st h) : V cc mi Z n0 pc ls (.int x :: st) h := by
  intro p l e s m args below meth c E H locs la hc hr hl
  exact lv_lookup hc.1 hc.2.1 hd hp ho ht (k p l e s m args below meth c E H locs la hc hr hl)
theorem V.less {ls' : List Value} (hle : lle ls' ls) (k : V cc mi Z n0 pc ls' st h) : V cc mi Z n0 pc ls st h := by
  intro p l e s m args below meth c E H locs la hc hr hl
  exact k p l e s m args below meth c E H locs la hc hr (lv_less hl hle)
theorem V.nmi {x : Int32} (k : ∀ y : Int32, y = x → V cc mi Z n0 pc ls (.int y :: st) h) : V cc mi Z n0 pc ls (.int x :: st) h := k x rfl
theorem V.nml {x : Int64} (k : ∀ y : Int64, y = x → V cc mi Z n0 pc ls (.long y :: st) h) : V cc mi Z n0 pc ls (.long x :: st) h := k x rfl
theorem V.nmh (k : ∀ h' : HP, h' = h → V cc mi Z n0 pc ls st h') : V cc mi Z n0 pc ls st h := k h rfl
end VR
/-! fields -/
/-- the words of a class's layout hold in any state with Tab -/
theorem lay_ok {w : Cond} {C : String} {T : u_T} {N : Nat} (hw : w ∈ u_ws C T N) : wOK w = true := by
  obtain ⟨k, -, rfl⟩ := List.mem_map.mp hw
  unfold u_lay
  split <;> rfl
theorem nF_of {ci : Nat} {q : vw_C} (hq : wCl[ci]? = some q) : nF ci = q.2.2 := by
  unfold nF; rw [hq]
theorem hwOf {mi : Mi} {n0 a : Nat} {s : State} {E : Ev} {h : HP} {H : Heap} {locs : List Loc} (hr : Rp mi n0 s E h H locs) (hw : mi.2.2.2.1.cells = 0 ∧ a < n0 ∨ a < h.1) : a < h.1 := by
  rcases hw with ⟨hz, hw⟩ | hw
  · rw [hr.2.2.2 hz]; exact hw
  · exact hw
section VF
variable {cc : ByteArray} {mi : Mi} {Z : Zt} {n0 pc : Nat} {ls st : List Value} {h : HP}
theorem V.getfield {idx a ci j z : Nat} {v : Value} (hd : decode cc pc = .ok (.getfield idx, 3)) (hf : FLk mi.1 idx ci j) (hs : SHL[a]? = some (0, ci, z)) (hw : mi.2.2.2.1.cells = 0 ∧ a < n0 ∨ a < h.1)
    (hv : ∀ E : Ev, cv E v = fval E h a j (fcode (tyOf ci j))) (k : V cc mi Z n0 (pc + 3) ls (v :: st) h) : V cc mi Z n0 pc ls (.ref a :: st) h := by
  intro p l e s m args below meth c E H locs la hc hr hl
  have hw := hwOf hr hw
  obtain ⟨q, hq, hj, hok, hlk⟩ := hf
  have kk := k p l e s m args below meth c E H locs la hc hr hl
  have hcell : (ws E h)[a]? = some (eb E + a, .inr (ci, flds E h a ci)) := by rw [ws_at E h hw, cell_obj hs]
  have hfs : (flds E h a ci)[j]? = some (cv E v) := by rw [flds_at (by rw [nF_of hq]; exact hj), hv E]
  rw [show cS E (.ref a :: st) = .ref (eb E + a) :: cS E st by rw [← cv_lt (E := E) hs]; rfl]
  have hG := hc.2.2.2.2.2.2.2.1
  have hin : ∀ w ∈ u_ws q.1 q.2.1 q.2.2, w ∈ u_ws q.1 q.2.1 q.2.2 := fun _ h => h
  have hts : ∀ w ∈ u_ws q.1 q.2.1 q.2.2, w.before args s = true := fun w h => hG.2.1.use (hok.1 w h) (lay_ok h) args
  have hsame : ∀ x, s.fieldFound? (q.2.1 j).1 (q.2.1 j).2.1 (q.2.1 j).2.2.1 = some x → s.fieldFound? q.1 (q.2.1 j).2.1 (q.2.1 j).2.2.1 = some x := fun x h => by rw [hok.2.2.2.1 j hj] at h; exact h
  rcases hlk with hlk | ⟨host, hlk⟩
  · exact va_get (C := q.1) (T := q.2.1) (N := q.2.2) hc.1 hc.2.1 hts hin hc.2.2.2.1 hG.1 hr.1 a hcell hq j hj (hG.2.1.use hlk rfl args) hsame hfs hd kk
  · exact va_getN (C := q.1) (T := q.2.1) (N := q.2.2) hc.1 hc.2.1 hts hin hc.2.2.2.1 hG.1 hr.1 a hcell hq j hj (hG.2.1.use hlk rfl args) hsame hfs hd kk
theorem V.getI {idx a ci j z : Nat} {x : Int32} (hd : decode cc pc = .ok (.getfield idx, 3)) (hf : FLk mi.1 idx ci j) (hs : SHL[a]? = some (0, ci, z)) (hw : mi.2.2.2.1.cells = 0 ∧ a < n0 ∨ a < h.1) (ht : fcode (tyOf ci j) = 0) (hx : hI h a j = x)
    (k : V cc mi Z n0 (pc + 3) ls (.int x :: st) h) : V cc mi Z n0 pc ls (.ref a :: st) h := by
  refine V.getfield hd hf hs hw (fun E => ?_) k
  rw [ht, ← hx]; rfl
theorem V.getL {idx a ci j z : Nat} {x : Int64} (hd : decode cc pc = .ok (.getfield idx, 3)) (hf : FLk mi.1 idx ci j) (hs : SHL[a]? = some (0, ci, z)) (hw : mi.2.2.2.1.cells = 0 ∧ a < n0 ∨ a < h.1) (ht : fcode (tyOf ci j) = 1) (hx : hL h a j = x)
    (k : V cc mi Z n0 (pc + 3) ls (.long x :: st) h) : V cc mi Z n0 pc ls (.ref a :: st) h := by
  refine V.getfield hd hf hs hw (fun E => ?_) k
  rw [ht, ← hx]; rfl
theorem V.getR {idx a ci j z r : Nat} (hd : decode cc pc = .ok (.getfield idx, 3)) (hf : FLk mi.1 idx ci j) (hs : SHL[a]? = some (0, ci, z)) (hw : mi.2.2.2.1.cells = 0 ∧ a < n0 ∨ a < h.1) (ht : fcode (tyOf ci j) = 2) (hx : hR h a j = r)
    (k : V cc mi Z n0 (pc + 3) ls (.ref r :: st) h) : V cc mi Z n0 pc ls (.ref a :: st) h := by
  refine V.getfield hd hf hs hw (fun E => ?_) k
  rw [ht, ← hx]; rfl
/-- a field is written: h' is the heap with it -/
theorem V.putfield {idx a ci j z : Nat} {v : Value} {h' : HP} (hd : decode cc pc = .ok (.putfield idx, 3)) (hf : FLk mi.1 idx ci j) (hs : SHL[a]? = some (0, ci, z)) (hw : mi.2.2.2.1.cells = 0 ∧ a < n0 ∨ a < h.1)
    (hfin : ∀ q, wCl[ci]? = some q → (q.2.1 j).2.2.2 = false ∨ ((q.2.1 j).2.2.2 = true ∧ mi.2.2.2.2 = "<init>" ∧ mi.1 = q.1))
    (hfl : ∀ q, wCl[ci]? = some q → (q.2.1 j).2.2.2 = true → Cond.fieldLink mi.1 idx q.1 (q.2.1 j).2.1 (q.2.1 j).2.2.1 ∈ lw_tbl)
    (hn : ∀ E : Ev, narrow (tyOf ci j) (cv E v) = cv E v ∧ fits (tyOf ci j) (cv E v) = true) (h1 : h'.1 = h.1) (hv : ∀ E : Ev, fval E h' a j (fcode (tyOf ci j)) = cv E v)
    (ho : ∀ (E : Ev) i t, i ≠ j → fval E h' a i t = fval E h a i t) (hc' : ∀ (E : Ev) b, b ≠ a → cellOf E h' b = cellOf E h b)
    (k : V cc mi Z n0 (pc + 3) ls st h') : V cc mi Z n0 pc ls (v :: .ref a :: st) h := by
  intro p l e s m args below meth c E H locs la hc hr hl
  have hw := hwOf hr hw
  obtain ⟨q, hq, hj, hok, hlk⟩ := hf
  have hcell : (ws E h)[a]? = some (eb E + a, .inr (ci, flds E h a ci)) := by rw [ws_at E h hw, cell_obj hs]
  have hset : (ws E h).set a (eb E + a, .inr (ci, (flds E h a ci).set j (cv E v))) = ws E h' := by
    rw [flds_set (hv E) (ho E)]
    exact ws_set h1 (cell_obj hs) (hc' E)
  rw [show cS E (v :: .ref a :: st) = cv E v :: .ref (eb E + a) :: cS E st by rw [← cv_lt (E := E) hs]; rfl]
  have hG := hc.2.2.2.2.2.2.2.1
  have hin : ∀ w ∈ u_ws q.1 q.2.1 q.2.2, w ∈ u_ws q.1 q.2.1 q.2.2 := fun _ h => h
  have hts : ∀ w ∈ u_ws q.1 q.2.1 q.2.2, w.before args s = true := fun w h => hG.2.1.use (hok.1 w h) (lay_ok h) args
  have hsame : ∀ x, s.fieldFound? (q.2.1 j).1 (q.2.1 j).2.1 (q.2.1 j).2.2.1 = some x → s.fieldFound? q.1 (q.2.1 j).2.1 (q.2.1 j).2.2.1 = some x := fun x h => by rw [hok.2.2.2.1 j hj] at h; exact h
  have hlen : j < (flds E h a ci).length := by simp [flds, nF_of hq, hj]
  have go : ∀ (H1 : Heap) (locs1 : List Loc), va_P E.1 wCl ((ws E h).set a (eb E + a, .inr (ci, (flds E h a ci).set j (cv E v)))) H1 → va_D (fun q => eb E ≤ q) ((ws E h).set a (eb E + a, .inr (ci, (flds E h a ci).set j (cv E v)))) → va_S (fun q => eb E ≤ q) s.heap H1 locs1 → W p l e mi.2.2.2.1 s m args below meth c H1 locs1 (h.1 - n0) (SLT h.1 - SLT n0) (Z.2 E s args below) (F0 m (pc + 3) la (cS E st)) := by
    intro H1 locs1 P1 _ S1
    rw [hset] at P1
    have kk := k p l e s m args below meth c E H1 locs1 la hc ⟨P1, S1, by rw [h1]; exact hr.2.2.1, fun x => by rw [h1]; exact hr.2.2.2 x⟩ hl
    rw [h1] at kk
    exact kk
  rcases hfin q hq with hf0 | ⟨hf0, hin0, hown0⟩
  · rcases hlk with hlk | ⟨host, hlk⟩
    · exact va_put (C := q.1) (T := q.2.1) (N := q.2.2) hc.1 hc.2.1 hts hin (tyOf ci) hok.2.2.1 hok.2.1 hc.2.2.2.1 hG.1 hr.1 (ws_D E h) hr.2.1 a hcell hq j hj (hG.2.1.use hlk rfl args) hsame hf0 (hok.2.2.1 j hj) (hn E).1 (hn E).2 hlen hd go
    · exact va_putN (C := q.1) (T := q.2.1) (N := q.2.2) hc.1 hc.2.1 hts hin (tyOf ci) hok.2.2.1 hok.2.1 hc.2.2.2.1 hG.1 hr.1 (ws_D E h) hr.2.1 a hcell hq j hj (hG.2.1.use hlk rfl args) hsame hf0 (hok.2.2.1 j hj) (hn E).1 (hn E).2 hlen hd go
  · have hlk := hfl q hq hf0
    exact va_putF (C := q.1) (T := q.2.1) (N := q.2.2) hc.1 hc.2.1 hts hin (tyOf ci) hok.2.2.1 hok.2.1 hc.2.2.2.1 hG.1 hr.1 (ws_D E h) hr.2.1 a hcell hq j hj (hG.2.1.use hlk rfl args) hsame hf0 (hc.2.2.2.2.2.2.1 hin0) ((hok.2.2.2.1 j hj).trans hown0.symm) (hok.2.2.1 j hj) (hn E).1 (hn E).2 hlen hd go
end VF
section VP
variable {cc : ByteArray} {mi : Mi} {Z : Zt} {n0 pc : Nat} {ls st : List Value} {h : HP}
theorem fval_rI (E : Ev) (h : HP) (a k i t : Nat) (f : Nat → Int32) (hn : k ≠ a) : fval E (rI h a f) k i t = fval E h k i t := by
  simp only [fval, hI_rI_n h f hn, hL_rI, hR_rI]
/-- an int field that isn't final -/
theorem V.putI {idx a ci j z : Nat} {x : Int32} (hd : decode cc pc = .ok (.putfield idx, 3)) (hf : FLk mi.1 idx ci j) (hs : SHL[a]? = some (0, ci, z)) (hw : mi.2.2.2.1.cells = 0 ∧ a < n0 ∨ a < h.1)
    (ht : fcode (tyOf ci j) = 0) (hfin : ∀ q, wCl[ci]? = some q → (q.2.1 j).2.2.2 = false) (hn : narrow (tyOf ci j) (.int x) = .int x ∧ fits (tyOf ci j) (.int x) = true)
    (k : V cc mi Z n0 (pc + 3) ls st (uI h a j x)) : V cc mi Z n0 pc ls (.int x :: .ref a :: st) h := by
  refine V.putfield (h' := uI h a j x) hd hf hs hw (fun q hq => Or.inl (hfin q hq)) (fun q hq h9 => absurd (hfin q hq) (by rw [h9]; decide)) (fun _ => hn) rfl (fun E => ?_) (fun E i t hi => ?_) (fun E b hb => ?_) k
  · rw [ht]; simp [fval, hI_rI_s, upd, cv]
  · simp only [fval, hI_rI_s, hL_rI, hR_rI]
    simp [upd, hi]
  · exact cell_same (hI_rI_n h _ hb) rfl rfl
theorem V.putL {idx a ci j z : Nat} {x : Int64} (hd : decode cc pc = .ok (.putfield idx, 3)) (hf : FLk mi.1 idx ci j) (hs : SHL[a]? = some (0, ci, z)) (hw : mi.2.2.2.1.cells = 0 ∧ a < n0 ∨ a < h.1)
    (ht : tyOf ci j = .long) (hfin : ∀ q, wCl[ci]? = some q → (q.2.1 j).2.2.2 = false)
    (k : V cc mi Z n0 (pc + 3) ls st (uL h a j x)) : V cc mi Z n0 pc ls (.long x :: .ref a :: st) h := by
  refine V.putfield (h' := uL h a j x) hd hf hs hw (fun q hq => Or.inl (hfin q hq)) (fun q hq h9 => absurd (hfin q hq) (by rw [h9]; decide)) (fun _ => by rw [ht]; exact ⟨rfl, rfl⟩) rfl (fun E => ?_) (fun E i t hi => ?_) (fun E b hb => ?_) k
  · rw [ht]; simp [fval, fcode, hL_rL_s, vp_updL, cv]
  · simp only [fval, hL_rL_s, hI_rL, hR_rL]
    simp [vp_updL, hi]
  · exact cell_same rfl (hL_rL_n h _ hb) rfl
theorem narrow_obj {C : String} {v : Value} : narrow (.object C) v = v := by cases v <;> rfl
theorem narrow_arr {ty : FieldType} {v : Value} : narrow (.array ty) v = v := by cases v <;> rfl
theorem V.putRk {idx a ci j z r : Nat} {q : Nat × Nat × Nat} (hd : decode cc pc = .ok (.putfield idx, 3)) (hf : FLk mi.1 idx ci j) (hs : SHL[a]? = some (0, ci, z)) (hw : mi.2.2.2.1.cells = 0 ∧ a < n0 ∨ a < h.1) (hq : SHL[r]? = some q)
    (ht : fcode (tyOf ci j) = 2) (hfin : ∀ q, wCl[ci]? = some q → (q.2.1 j).2.2.2 = false ∨ ((q.2.1 j).2.2.2 = true ∧ mi.2.2.2.2 = "<init>" ∧ mi.1 = q.1))
    (hfl : ∀ q, wCl[ci]? = some q → (q.2.1 j).2.2.2 = true → Cond.fieldLink mi.1 idx q.1 (q.2.1 j).2.1 (q.2.1 j).2.2.1 ∈ lw_tbl)
    (k : V cc mi Z n0 (pc + 3) ls st (uR h a j r)) : V cc mi Z n0 pc ls (.ref r :: .ref a :: st) h := by
  refine V.putfield (h' := uR h a j r) hd hf hs hw hfin hfl (fun E => ?_) rfl (fun E => ?_) (fun E i t hi => ?_) (fun E b hb => ?_) k
  · rw [cv_lt hq]
    cases hT : tyOf ci j <;> rw [hT] at ht <;> first | exact ⟨rfl, rfl⟩ | (simp [fcode] at ht; done)
  · rw [ht]; simp [fval, hR_rR, updN, cv]
  · simp only [fval, hR_rR, hI_rR, hL_rR]
    simp [updN, hi]
  · refine cell_same rfl rfl ?_
    rw [hR_rR, if_neg hb]
end VP
/-! arrays -/
section VA
variable {cc : ByteArray} {mi : Mi} {Z : Zt} {n0 pc : Nat} {ls st : List Value} {h : HP}
theorem arW_at (E : Ev) {h : HP} {a t n : Nat} (hs : SHL[a]? = some (1, t, n)) (hw : a < h.1) : (ws E h)[a]? = some (eb E + a, .inl (E.2.1 t, n, acon E h a t)) := by
  rw [ws_at E h hw, cell_arr hs]
theorem V.iaload {a n : Nat} {i : Int32} (hd : decode cc pc = .ok (.iaload, 1)) (hs : SHL[a]? = some (1, 0, n)) (hw : mi.2.2.2.1.cells = 0 ∧ a < n0 ∨ a < h.1) (hi : vp_in i n)
    (k : V cc mi Z n0 (pc + 1) ls (.int (hI h a i.toNatClampNeg) :: st) h) : V cc mi Z n0 pc ls (.int i :: .ref a :: st) h := by
  intro p l e s m args below meth c E H locs la hc hr hl
  have hw := hwOf hr hw
  rw [show cS E (.int i :: .ref a :: st) = .int i :: .ref (eb E + a) :: cS E st by rw [← cv_lt (E := E) hs]; rfl]
  exact va_iald hc.1 hc.2.1 hc.2.2.2.2.2.2.2.1.1 hr.1 a 0 (arW_at E hs hw) rfl hi hd (k p l e s m args below meth c E H locs la hc hr hl)
theorem V.baload {a n : Nat} {i : Int32} (hd : decode cc pc = .ok (.baload, 1)) (hs : SHL[a]? = some (1, 2, n)) (hw : mi.2.2.2.1.cells = 0 ∧ a < n0 ∨ a < h.1) (hi : vp_in i n)
    (k : V cc mi Z n0 (pc + 1) ls (.int (hI h a i.toNatClampNeg) :: st) h) : V cc mi Z n0 pc ls (.int i :: .ref a :: st) h := by
  intro p l e s m args below meth c E H locs la hc hr hl
  have hw := hwOf hr hw
  rw [show cS E (.int i :: .ref a :: st) = .int i :: .ref (eb E + a) :: cS E st by rw [← cv_lt (E := E) hs]; rfl]
  exact va_bald hc.1 hc.2.1 hc.2.2.2.2.2.2.2.1.1 hr.1 a 2 (arW_at E hs hw) rfl hi hd (k p l e s m args below meth c E H locs la hc hr hl)
theorem V.saload {a n : Nat} {i : Int32} (hd : decode cc pc = .ok (.saload, 1)) (hs : SHL[a]? = some (1, 3, n)) (hw : mi.2.2.2.1.cells = 0 ∧ a < n0 ∨ a < h.1) (hi : vp_in i n)
    (k : V cc mi Z n0 (pc + 1) ls (.int (hI h a i.toNatClampNeg) :: st) h) : V cc mi Z n0 pc ls (.int i :: .ref a :: st) h := by
  intro p l e s m args below meth c E H locs la hc hr hl
  have hw := hwOf hr hw
  rw [show cS E (.int i :: .ref a :: st) = .int i :: .ref (eb E + a) :: cS E st by rw [← cv_lt (E := E) hs]; rfl]
  exact va_sald hc.1 hc.2.1 hc.2.2.2.2.2.2.2.1.1 hr.1 a 3 (arW_at E hs hw) rfl hi hd (k p l e s m args below meth c E H locs la hc hr hl)
theorem V.laload {a n : Nat} {i : Int32} (hd : decode cc pc = .ok (.laload, 1)) (hs : SHL[a]? = some (1, 1, n)) (hw : mi.2.2.2.1.cells = 0 ∧ a < n0 ∨ a < h.1) (hi : vp_in i n)
    (k : V cc mi Z n0 (pc + 1) ls (.long (hL h a i.toNatClampNeg) :: st) h) : V cc mi Z n0 pc ls (.int i :: .ref a :: st) h := by
  intro p l e s m args below meth c E H locs la hc hr hl
  have hw := hwOf hr hw
  rw [show cS E (.int i :: .ref a :: st) = .int i :: .ref (eb E + a) :: cS E st by rw [← cv_lt (E := E) hs]; rfl]
  exact va_lald hc.1 hc.2.1 hc.2.2.2.2.2.2.2.1.1 hr.1 a 1 (arW_at E hs hw) rfl hi hd (k p l e s m args below meth c E H locs la hc hr hl)
theorem V.aaload {a n r : Nat} {q : Nat × Nat × Nat} {i : Int32} (hd : decode cc pc = .ok (.aaload, 1)) (hs : SHL[a]? = some (1, 4, n)) (hw : mi.2.2.2.1.cells = 0 ∧ a < n0 ∨ a < h.1) (hi : vp_in i n) (hx : hR h a i.toNatClampNeg = r) (hq : SHL[r]? = some q)
    (k : V cc mi Z n0 (pc + 1) ls (.ref r :: st) h) : V cc mi Z n0 pc ls (.int i :: .ref a :: st) h := by
  intro p l e s m args below meth c E H locs la hc hr hl
  have hw := hwOf hr hw
  rw [show cS E (.int i :: .ref a :: st) = .int i :: .ref (eb E + a) :: cS E st by rw [← cv_lt (E := E) hs]; rfl]
  have kk := k p l e s m args below meth c E H locs la hc hr hl
  have e1 : va_rf (rOpt E (hR h a i.toNatClampNeg)) = cv E (.ref r) := by
    have := SHL_lt hq
    rw [hx, cv_lt hq]; unfold rOpt NUL; rw [if_pos (by omega)]; rfl
  rw [show cS E (.ref r :: st) = va_rf (rOpt E (hR h a i.toNatClampNeg)) :: cS E st by rw [e1]; rfl] at kk
  exact va_aldq hc.1 hc.2.1 hc.2.2.2.2.2.2.2.1.1 hr.1 a 4 (arW_at E hs hw) rfl hi hd kk
theorem V.arraylength {a t n : Nat} (hd : decode cc pc = .ok (.arraylength, 1)) (hs : SHL[a]? = some (1, t, n)) (ht : t < 5) (hw : mi.2.2.2.1.cells = 0 ∧ a < n0 ∨ a < h.1) {v : Int32} (hv : Int32.ofNat n = v)
    (k : V cc mi Z n0 (pc + 1) ls (.int v :: st) h) : V cc mi Z n0 pc ls (.ref a :: st) h := by
  intro p l e s m args below meth c E H locs la hc hr hl
  have hw := hwOf hr hw
  rw [show cS E (.ref a :: st) = .ref (eb E + a) :: cS E st by rw [← cv_lt (E := E) hs]; rfl]
  exact va_alen hc.1 hc.2.1 hc.2.2.2.2.2.2.2.1.1 hr.1 a t (arW_at E hs hw) (tysL_at E ht) hv hd (k p l e s m args below meth c E H locs la hc hr hl)
theorem arW_set {E : Ev} {h h' : HP} {a t n : Nat} (hs : SHL[a]? = some (1, t, n)) (h1 : h'.1 = h.1) {x : (Nat → Int32) ⊕ (Nat → Int64) ⊕ (Nat → UInt32) ⊕ (Nat → UInt64) ⊕ (Nat → Option Nat)} (hx : acon E h' a t = x) (hc : ∀ b, b ≠ a → cellOf E h' b = cellOf E h b) :
    (ws E h).set a (eb E + a, .inl (E.2.1 t, n, x)) = ws E h' := by
  subst hx
  exact ws_set h1 (cell_arr hs) hc
/-- behind a write -/
theorem V.wrote {h' : HP} (h1 : h'.1 = h.1) (k : V cc mi Z n0 pc ls st h') {p : Program} {l : Launch} {e : Env} {s : State} {m : MethodId} {args : Array Value} {below : List Frame} {meth : Method} {c : Code} {E : Ev} {H H1 : Heap} {locs locs1 : List Loc} {la : Array Slot}
    (hc : Cx cc mi Z n0 p s m args meth c E) (hr : Rp mi n0 s E h H locs) (hl : lv_has la mi.2.1 (cL E 0 ls)) (P1 : va_P E.1 wCl (ws E h') H1) (S1 : va_S (fun q => eb E ≤ q) s.heap H1 locs1) :
    W p l e mi.2.2.2.1 s m args below meth c H1 locs1 (h.1 - n0) (SLT h.1 - SLT n0) (Z.2 E s args below) (F0 m pc la (cS E st)) := by
  have kk := k p l e s m args below meth c E H1 locs1 la hc ⟨P1, S1, by rw [h1]; exact hr.2.2.1, fun x => by rw [h1]; exact hr.2.2.2 x⟩ hl
  rw [h1] at kk
  exact kk
theorem V.iastore {a n : Nat} {i x : Int32} (hd : decode cc pc = .ok (.iastore, 1)) (hs : SHL[a]? = some (1, 0, n)) (hw : mi.2.2.2.1.cells = 0 ∧ a < n0 ∨ a < h.1) (hi : vp_in i n)
    (k : V cc mi Z n0 (pc + 1) ls st (uI h a i.toNatClampNeg x)) : V cc mi Z n0 pc ls (.int x :: .int i :: .ref a :: st) h := by
  intro p l e s m args below meth c E H locs la hc hr hl
  have hw := hwOf hr hw
  rw [show cS E (.int x :: .int i :: .ref a :: st) = .int x :: .int i :: .ref (eb E + a) :: cS E st by rw [← cv_lt (E := E) hs]; rfl]
  refine va_iast hc.1 hc.2.1 hc.2.2.2.2.2.2.2.1.1 hr.1 (ws_D E h) hr.2.1 a 0 (arW_at E hs hw) rfl hi hd (fun H1 locs1 P1 _ S1 => ?_)
  rw [arW_set (E := E) (h := h) (h' := uI h a i.toNatClampNeg x) hs rfl (by simp [acon, hI_rI_s]) (fun b hb => cell_same (hI_rI_n h _ hb) rfl rfl)] at P1
  exact V.wrote (h := h) (h' := uI h a i.toNatClampNeg x) rfl k hc hr hl P1 S1
theorem V.bastore {a n : Nat} {i x : Int32} (hd : decode cc pc = .ok (.bastore, 1)) (hs : SHL[a]? = some (1, 2, n)) (hw : mi.2.2.2.1.cells = 0 ∧ a < n0 ∨ a < h.1) (hi : vp_in i n)
    (k : V cc mi Z n0 (pc + 1) ls st (uI h a i.toNatClampNeg x.toInt8.toInt32)) : V cc mi Z n0 pc ls (.int x :: .int i :: .ref a :: st) h := by
  intro p l e s m args below meth c E H locs la hc hr hl
  have hw := hwOf hr hw
  rw [show cS E (.int x :: .int i :: .ref a :: st) = .int x :: .int i :: .ref (eb E + a) :: cS E st by rw [← cv_lt (E := E) hs]; rfl]
  refine va_bast hc.1 hc.2.1 hc.2.2.2.2.2.2.2.1.1 hr.1 (ws_D E h) hr.2.1 a 2 (arW_at E hs hw) rfl hi hd (fun H1 locs1 P1 _ S1 => ?_)
  rw [arW_set (E := E) (h := h) (h' := uI h a i.toNatClampNeg x.toInt8.toInt32) hs rfl (by simp [acon, hI_rI_s, vp_nar_byte]) (fun b hb => cell_same (hI_rI_n h _ hb) rfl rfl)] at P1
  exact V.wrote (h := h) (h' := uI h a i.toNatClampNeg x.toInt8.toInt32) rfl k hc hr hl P1 S1
theorem V.sastore {a n : Nat} {i x : Int32} (hd : decode cc pc = .ok (.sastore, 1)) (hs : SHL[a]? = some (1, 3, n)) (hw : mi.2.2.2.1.cells = 0 ∧ a < n0 ∨ a < h.1) (hi : vp_in i n)
    (k : V cc mi Z n0 (pc + 1) ls st (uI h a i.toNatClampNeg x.toInt16.toInt32)) : V cc mi Z n0 pc ls (.int x :: .int i :: .ref a :: st) h := by
  intro p l e s m args below meth c E H locs la hc hr hl
  have hw := hwOf hr hw
  rw [show cS E (.int x :: .int i :: .ref a :: st) = .int x :: .int i :: .ref (eb E + a) :: cS E st by rw [← cv_lt (E := E) hs]; rfl]
  refine va_sast hc.1 hc.2.1 hc.2.2.2.2.2.2.2.1.1 hr.1 (ws_D E h) hr.2.1 a 3 (arW_at E hs hw) rfl hi hd (fun H1 locs1 P1 _ S1 => ?_)
  rw [arW_set (E := E) (h := h) (h' := uI h a i.toNatClampNeg x.toInt16.toInt32) hs rfl (by simp [acon, hI_rI_s, vp_nar_short]) (fun b hb => cell_same (hI_rI_n h _ hb) rfl rfl)] at P1
  exact V.wrote (h := h) (h' := uI h a i.toNatClampNeg x.toInt16.toInt32) rfl k hc hr hl P1 S1
theorem V.lastore {a n : Nat} {i : Int32} {x : Int64} (hd : decode cc pc = .ok (.lastore, 1)) (hs : SHL[a]? = some (1, 1, n)) (hw : mi.2.2.2.1.cells = 0 ∧ a < n0 ∨ a < h.1) (hi : vp_in i n)
    (k : V cc mi Z n0 (pc + 1) ls st (uL h a i.toNatClampNeg x)) : V cc mi Z n0 pc ls (.long x :: .int i :: .ref a :: st) h := by
  intro p l e s m args below meth c E H locs la hc hr hl
  have hw := hwOf hr hw
  rw [show cS E (.long x :: .int i :: .ref a :: st) = .long x :: .int i :: .ref (eb E + a) :: cS E st by rw [← cv_lt (E := E) hs]; rfl]
  refine va_last hc.1 hc.2.1 hc.2.2.2.2.2.2.2.1.1 hr.1 (ws_D E h) hr.2.1 a 1 (arW_at E hs hw) rfl hi hd (fun H1 locs1 P1 _ S1 => ?_)
  rw [arW_set (E := E) (h := h) (h' := uL h a i.toNatClampNeg x) hs rfl (by simp [acon, hL_rL_s]) (fun b hb => cell_same rfl (hL_rL_n h _ hb) rfl)] at P1
  exact V.wrote (h := h) (h' := uL h a i.toNatClampNeg x) rfl k hc hr hl P1 S1
theorem V.aastore {a n r ci z : Nat} {i : Int32} (hd : decode cc pc = .ok (.aastore, 1)) (hs : SHL[a]? = some (1, 4, n)) (hw : mi.2.2.2.1.cells = 0 ∧ a < n0 ∨ a < h.1) (hi : vp_in i n) (hq : SHL[r]? = some (0, 5, z)) (hw2 : mi.2.2.2.1.cells = 0 ∧ r < n0 ∨ r < h.1)
    (k : V cc mi Z n0 (pc + 1) ls st (uR h a i.toNatClampNeg r)) : V cc mi Z n0 pc ls (.ref r :: .int i :: .ref a :: st) h := by
  intro p l e s m args below meth c E H locs la hc hr hl
  have hw := hwOf hr hw
  have hw2 := hwOf hr hw2
  rw [show cS E (.ref r :: .int i :: .ref a :: st) = .ref (eb E + r) :: .int i :: .ref (eb E + a) :: cS E st by rw [← cv_lt (E := E) hs, ← cv_lt (E := E) hq]; rfl]
  have hv : (ws E h)[r]? = some (eb E + r, .inr (5, flds E h r 5)) := by rw [ws_at E h hw2, cell_obj hq]
  refine va_astq hc.1 hc.2.1 hc.2.2.2.2.2.2.2.1.1 hr.1 (ws_D E h) hr.2.1 a 4 r 5 (r := (RX5, TX5, 16)) (arW_at E hs hw) rfl hv rfl hi hd (fun H1 locs1 P1 _ S1 => ?_)
  rw [arW_set (E := E) (h := h) (h' := uR h a i.toNatClampNeg r) hs rfl ?_ (fun b hb => cell_same rfl rfl (by rw [hR_rR, if_neg hb]))] at P1
  · exact V.wrote (h := h) (h' := uR h a i.toNatClampNeg r) rfl k hc hr hl P1 S1
  · have := SHL_lt hq
    have e1 : rOpt E r = some (eb E + r) := by unfold rOpt NUL; rw [if_pos (by omega)]
    have e2 : (fun j => rOpt E (hR (uR h a i.toNatClampNeg r) a j)) = va_up (fun j => rOpt E (hR h a j)) i.toNatClampNeg (some (eb E + r)) := by
      funext j
      simp only [hR_rR, if_pos, updN, va_up]
      by_cases hj : j = i.toNatClampNeg
      · simp [hj, e1]
      · simp [hj]
    show (Sum.inr (.inr (.inr (.inr (fun j => rOpt E (hR (uR h a i.toNatClampNeg r) a j))))) : (Nat → Int32) ⊕ (Nat → Int64) ⊕ (Nat → UInt32) ⊕ (Nat → UInt64) ⊕ (Nat → Option Nat)) = _
    rw [e2]
end VA
/-! calls -/
theorem W_sized {p : Program} {l : Launch} {e : Env} {R : Room} {s : State} {m : MethodId} {args : Array Value} {below : List Frame} {meth : Method} {c : Code} {H : Heap} {locs : List Loc} {cells slots : Nat} {Q : State → Prop} {g : JFrame}
    (k : H.size ≤ s.heap.size + cells → W p l e R s m args below meth c H locs cells slots Q g) : W p l e R s m args below meth c H locs cells slots Q g := by
  intro T hT X
  exact k (by rw [← hT]; exact X.heapSize) T hT X
theorem Rp_size {mi : Mi} {n0 : Nat} {s : State} {E : Ev} {h : HP} {H : Heap} {locs : List Loc} (hr : Rp mi n0 s E h H locs) (h0 : s.heap.size = eb E + n0) (hz : H.size ≤ s.heap.size + (h.1 - n0)) : H.size = eb E + h.1 := by
  have h1 := hr.2.1.1
  have h2 := hr.2.2.1
  by_cases hn : h.1 = n0
  · omega
  · have h3 := (hr.1 (h.1 - 1) _ (ws_at E h (by omega))).lt
    have h4 : eb E + (h.1 - 1) < H.size := h3
    omega
def RmOK (R rm : Room) (nL : Nat) : Prop := rm.frames + 1 ≤ R.frames ∧ 8 + (nL + 11) + rm.locals ≤ R.locals ∧ (R.cells = 0 → rm.cells = 0 ∧ rm.slots = 0)
theorem cS_cat (E : Ev) (st : List Value) : ((cS E st).map fun v => v.category).sum = (st.map fun v => v.category).sum := by
  induction st with
  | nil => rfl
  | cons v r ih => simp only [cS, List.map_cons, List.sum_cons, cv_cat] at ih ⊢; rw [ih]
theorem cS_app (E : Ev) (a b : List Value) : cS E (a ++ b) = cS E a ++ cS E b := List.map_append
theorem cS_rev (E : Ev) (a : List Value) : cS E a.reverse = (cS E a).reverse := List.map_reverse
theorem PcS_blind (E : Ev) (args : List Value) (h : HP) : FrameBlind (PcS E args h) := by
  intro a U g mk hq
  obtain ⟨q0, qG, qz, qP⟩ := hq
  exact ⟨q0, qG.moved (U := U.calling g mk a) (State.WarmedH.refl U) (fun _ _ _ => rfl), qz, qP⟩
section VCALL
variable {cc : ByteArray} {mi : Mi} {Z : Zt} {n0 pc : Nat} {ls st : List Value} {h : HP}
/-- behind a call -/
theorem V.back {cc' : ByteArray} {y : MethodName} {mi' : Mi} {args' : List Value} {post : Option Value → HP → Prop} {rest : List Value}
    (hroom : mi.2.2.2.1.cells = 0 → mi'.2.2.2.1.cells = 0 ∧ mi'.2.2.2.1.slots = 0) (hslots : SLT (h.1 + mi'.2.2.2.1.cells) = SLT h.1 + mi'.2.2.2.1.slots)
    (k : ∀ (v : Option Value) (h' : HP), post v h' → V cc mi Z n0 (pc + 3) ls (v.toList ++ rest) h')
    {p : Program} {l : Launch} {e : Env} {s : State} {m : MethodId} {args : Array Value} {below : List Frame} {meth : Method} {c : Code} {E : Ev} {H : Heap} {locs : List Loc} {la : Array Slot} {a : Array Value} {st0 : List Value}
    (hc : Cx cc mi Z n0 p s m args meth c E) (hr : Rp mi n0 s E h H locs) (hl : lv_has la mi.2.1 (cL E 0 ls))
    (hrun : va_Run p l e mi.2.2.2.1 s m args below meth c H locs (h.1 - n0) (SLT h.1 - SLT n0) mi'.2.2.2.1.cells mi'.2.2.2.1.slots (F0 m pc la st0) (cS E rest) (QcS E mi'.2.2.2.1 h post a) (fun q => eb E ≤ q)) :
    W p l e mi.2.2.2.1 s m args below meth c H locs (h.1 - n0) (SLT h.1 - SLT n0) (Z.2 E s args below) (F0 m pc la st0) := by
  intro T hT X
  obtain ⟨v, st₀, t, T', L, e0, X', hL, e1, e2, ⟨v0, h', hv, hp, hn, hP, hF⟩, hst⟩ := hrun T hT X
  cases hv
  have hS := hr.2.1
  obtain ⟨hz, hk⟩ := hF
  rw [e0] at hz hk
  have hS' : va_S (fun q => eb E ≤ q) s.heap T'.heap (locs ++ L) := ⟨Nat.le_trans hS.1 (by rw [e1]; exact hz), fun q h1 h2 => by rw [e1, hk q (Nat.lt_of_lt_of_le h1 hS.1) h2]; exact hS.2.1 q h1 h2, fun q hq => by
      rcases List.mem_append.mp hq with h | h
      · exact hS.2.2 q h
      · exact hL q h⟩
  have hn0 := hr.2.2.1
  have hmono : SLT n0 ≤ SLT h.1 := by
    unfold SLT
    have hsub : (SHL.take n0).map slotsOf = ((SHL.take h.1).map slotsOf).take n0 := by
      rw [← List.map_take, List.take_take, Nat.min_eq_left hn0]
    rw [hsub]
    conv => rhs; rw [← List.take_append_drop n0 ((SHL.take h.1).map slotsOf), List.sum_append]
    exact Nat.le_add_right _ _
  have kk := k v0 h' hp p l e s m args below meth c E T'.heap (locs ++ L) la hc ⟨by rw [e1]; exact hP, hS', by omega, fun x => by have := hr.2.2.2 x; have := hroom x; omega⟩ hl
  rw [hn, hslots, show h.1 + mi'.2.2.2.1.cells - n0 = h.1 - n0 + mi'.2.2.2.1.cells by omega, show SLT h.1 + mi'.2.2.2.1.slots - SLT n0 = SLT h.1 - SLT n0 + mi'.2.2.2.1.slots by omega, cS_app] at kk
  obtain ⟨t2, a1, b1⟩ := kk T' rfl X'
  refine ⟨t2, hst t2 ?_, b1⟩
  have e3 : cS E v0.toList = (Option.map (cv E) v0).toList := by cases v0 <;> rfl
  rw [e3] at a1
  exact a1
theorem V.call_pre {args' : List Value} (hr0 : ∀ (E : Ev) (H : Heap) (s : State) (locs : List Loc), True) {p : Program} {s : State} {m : MethodId} {args : Array Value} {meth : Method} {c : Code} {E : Ev} {H : Heap} {locs : List Loc}
    (hc : Cx cc mi Z n0 p s m args meth c E) (hr : Rp mi n0 s E h H locs) (hz : H.size ≤ s.heap.size + (h.1 - n0)) : ∀ U : State, U.heap = H → s.WarmedH U.vm → PcS E args' h (cS E args').toArray U := by
  intro U hU hW
  have hsz := Rp_size hr hc.2.2.2.2.2.2.2.2.1 hz
  refine ⟨rfl, hc.2.2.2.2.2.2.2.1.moved hW (fun a h1 h2 => ?_), by rw [hU]; exact hsz, by rw [hU]; exact hr.1⟩
  rw [hU]
  exact hr.2.1.2.1 a h1 h2
theorem goodIn_code {y : MethodName} {cc' : ByteArray} {nL : Nat} {ret : Option FieldType} : GoodIn [Cond.code y cc' nL ret] [Cond.code y cc' nL ret] := fun w hw => ⟨hw, by rw [List.mem_singleton.mp hw]; exact Or.inl rfl⟩
theorem V.fits {mi mi' : Mi} {n0 : Nat} {s : State} {E : Ev} {h : HP} {H : Heap} {locs : List Loc} (hr : Rp mi n0 s E h H locs) (hroom : mi.2.2.2.1.cells = 0 → mi'.2.2.2.1.cells = 0 ∧ mi'.2.2.2.1.slots = 0)
    (hf : mi.2.2.2.1.cells = 0 ∨ ((h.1 - n0 + mi'.2.2.2.1.cells ≤ mi.2.2.2.1.cells ∧ SLT h.1 - SLT n0 + mi'.2.2.2.1.slots ≤ mi.2.2.2.1.slots) ∧ SLT (h.1 + mi'.2.2.2.1.cells) = SLT h.1 + mi'.2.2.2.1.slots)) :
    (h.1 - n0 + mi'.2.2.2.1.cells ≤ mi.2.2.2.1.cells ∧ SLT h.1 - SLT n0 + mi'.2.2.2.1.slots ≤ mi.2.2.2.1.slots) ∧ SLT (h.1 + mi'.2.2.2.1.cells) = SLT h.1 + mi'.2.2.2.1.slots := by
  rcases hf with hz | hf
  · obtain ⟨a1, a2⟩ := hroom hz
    have a3 := hr.2.2.2 hz
    rw [a1, a2, a3]
    exact ⟨⟨by omega, by omega⟩, rfl⟩
  · exact hf
theorem V.callV {y : MethodName} {cc' : ByteArray} {mi' : Mi} {idx b n ci z : Nat} {As rest : List Value} {post : Option Value → HP → Prop} (hd : decode cc pc = .ok (.invokevirtual idx, 3)) (hlk : MLk mi.1 idx y) (hm : MOK y cc' mi' n) (hv : MOKv y)
    (hs : SHL[b]? = some (0, ci, z)) (hcl : ∀ q, wCl[ci]? = some q → q.1 = y.cls) (hci : ci < 11) (hw : mi.2.2.2.1.cells = 0 ∧ b < n0 ∨ b < h.1) (hS : Spec y cc' mi' (.ref b :: As) h post) (hst : st = As.reverse ++ .ref b :: rest) (hn : As.length = n) (hR : RmOK mi.2.2.2.1 mi'.2.2.2.1 mi'.2.1)
    (hcat : (rest.map fun v => v.category).sum ≤ 8) (hfit0 : mi.2.2.2.1.cells = 0 ∨ ((h.1 - n0 + mi'.2.2.2.1.cells ≤ mi.2.2.2.1.cells ∧ SLT h.1 - SLT n0 + mi'.2.2.2.1.slots ≤ mi.2.2.2.1.slots) ∧ SLT (h.1 + mi'.2.2.2.1.cells) = SLT h.1 + mi'.2.2.2.1.slots))
    (k : ∀ (v : Option Value) (h' : HP), post v h' → V cc mi Z n0 (pc + 3) ls (v.toList ++ rest) h') : V cc mi Z n0 pc ls st h := by
  intro p l e s m args below meth c E H locs la hc hr hl
  have hw := hwOf hr hw
  refine W_sized fun hz => ?_
  have hG := hc.2.2.2.2.2.2.2.1
  obtain ⟨hfit, hslots⟩ := V.fits (mi' := mi') hr hR.2.2 hfit0
  obtain ⟨q, hq⟩ : ∃ q, wCl[ci]? = some q := ⟨wCl[ci]'(by simpa using hci), List.getElem?_eq_getElem _⟩
  have hcell : (ws E h)[b]? = some (eb E + b, .inr (ci, flds E h b ci)) := by rw [ws_at E h hw, cell_obj hs]
  have hrecv := va_recv hG.1 hr.1 hq hcell
  rw [hcl q hq] at hrecv
  have hts : ∀ w ∈ [Cond.code y cc' mi'.2.1 mi'.2.2.1], w.before args s = true := fun w hw => by rw [List.mem_singleton.mp hw]; exact hG.2.1.use hm.1 rfl args
  have hfix : CallFix p m c cc mi.2.1 s args [Cond.code y cc' mi'.2.1 mi'.2.2.1] mi.1 := ⟨hc.1, hc.2.1, hc.2.2.1, hc.2.2.2.1, hts⟩
  have hpre : ∀ U : State, U.heap = H → s.WarmedH U.vm → PcS E (.ref b :: As) h (Value.ref (eb E + b) :: cS E As).toArray U := by
    have := V.call_pre (args' := .ref b :: As) (fun _ _ _ _ => trivial) hc hr hz
    rw [show cS E (.ref b :: As) = Value.ref (eb E + b) :: cS E As by rw [← cv_lt (E := E) hs]; rfl] at this
    exact this
  have hstk : cS E st = (cS E As).reverse ++ Value.ref (eb E + b) :: cS E rest := by
    rw [hst, cS_app, cS_rev, ← cv_lt (E := E) hs]; rfl
  refine V.back (mi' := mi') (post := post) (rest := rest) (cc' := cc') (y := y) (args' := []) hR.2.2 hslots k hc hr hl (a := (Value.ref (eb E + b) :: cS E As).toArray) ?_
  rcases hlk with hlk | ⟨host, hlk⟩
  · exact va_runV hfix (hS l E) ⟨callB_of n hts goodIn_code rfl rfl rfl (hG.2.1.use hm.2.1 rfl args) (hG.2.1.use hlk rfl args) hm.2.2.1 ⟨hR.1, hR.2.1⟩, hG.2.1.use hv.1 rfl args, hG.2.1.use hv.2 rfl args⟩
      ⟨PcS_blind _ _ _, hrecv, hpre⟩ rfl (by simp [cS, hn]) hl.1 hstk (lv_room (by rw [cS_cat]; exact hcat)) hd hfit
  · exact va_runVN hfix (hS l E) ⟨va_cnB n hts goodIn_code rfl rfl rfl (va_Nw.of rfl (hG.2.1.use hlk rfl args)) (hG.2.1.use hm.2.1 rfl args) hm.2.2.1 ⟨hR.1, hR.2.1⟩, hG.2.1.use hv.1 rfl args, hG.2.1.use hv.2 rfl args⟩
      ⟨PcS_blind _ _ _, hrecv, hpre⟩ rfl (by simp [cS, hn]) hl.1 hstk (lv_room (by rw [cS_cat]; exact hcat)) hd hfit
theorem V.callS {y : MethodName} {cc' : ByteArray} {mi' : Mi} {idx n : Nat} {As rest : List Value} {post : Option Value → HP → Prop} (hd : decode cc pc = .ok (.invokestatic idx, 3)) (hlk : MLk mi.1 idx y) (hm : MOK y cc' mi' n) (hv : Cond.static y ∈ lw_tbl)
    (hS : Spec y cc' mi' As h post) (hst : st = As.reverse ++ rest) (hn : As.length = n) (hR : RmOK mi.2.2.2.1 mi'.2.2.2.1 mi'.2.1)
    (hcat : (rest.map fun v => v.category).sum ≤ 8) (hfit0 : mi.2.2.2.1.cells = 0 ∨ ((h.1 - n0 + mi'.2.2.2.1.cells ≤ mi.2.2.2.1.cells ∧ SLT h.1 - SLT n0 + mi'.2.2.2.1.slots ≤ mi.2.2.2.1.slots) ∧ SLT (h.1 + mi'.2.2.2.1.cells) = SLT h.1 + mi'.2.2.2.1.slots))
    (k : ∀ (v : Option Value) (h' : HP), post v h' → V cc mi Z n0 (pc + 3) ls (v.toList ++ rest) h') : V cc mi Z n0 pc ls st h := by
  intro p l e s m args below meth c E H locs la hc hr hl
  refine W_sized fun hz => ?_
  have hG := hc.2.2.2.2.2.2.2.1
  obtain ⟨hfit, hslots⟩ := V.fits (mi' := mi') hr hR.2.2 hfit0
  have hts : ∀ w ∈ [Cond.code y cc' mi'.2.1 mi'.2.2.1], w.before args s = true := fun w hw => by rw [List.mem_singleton.mp hw]; exact hG.2.1.use hm.1 rfl args
  have hfix : CallFix p m c cc mi.2.1 s args [Cond.code y cc' mi'.2.1 mi'.2.2.1] mi.1 := ⟨hc.1, hc.2.1, hc.2.2.1, hc.2.2.2.1, hts⟩
  have hpre := V.call_pre (args' := As) (fun _ _ _ _ => trivial) hc hr hz
  have hstk : cS E st = (cS E As).reverse ++ cS E rest := by rw [hst, cS_app, cS_rev]
  refine V.back (mi' := mi') (post := post) (rest := rest) (cc' := cc') (y := y) (args' := []) hR.2.2 hslots k hc hr hl (a := (cS E As).toArray) ?_
  rcases hlk with hlk | ⟨host, hlk⟩
  · exact va_runS hfix (hS l E) ⟨callB_of n hts goodIn_code rfl rfl rfl (hG.2.1.use hm.2.1 rfl args) (hG.2.1.use hlk rfl args) hm.2.2.1 ⟨hR.1, hR.2.1⟩, hG.2.1.use hv rfl args⟩
      ⟨PcS_blind _ _ _, hpre⟩ rfl (by simp [cS, hn]) hl.1 hstk (lv_room (by rw [cS_cat]; exact hcat)) hd hfit
  · exact va_runSN hfix (hS l E) ⟨va_cnB n hts goodIn_code rfl rfl rfl (va_Nw.of rfl (hG.2.1.use hlk rfl args)) (hG.2.1.use hm.2.1 rfl args) hm.2.2.1 ⟨hR.1, hR.2.1⟩, hG.2.1.use hv rfl args, trivial⟩
      ⟨PcS_blind _ _ _, hpre⟩ rfl (by simp [cS, hn]) hl.1 hstk (lv_room (by rw [cS_cat]; exact hcat)) hd hfit
theorem V.callI {y : MethodName} {cc' : ByteArray} {mi' : Mi} {idx b n : Nat} {q : Nat × Nat × Nat} {As rest : List Value} {post : Option Value → HP → Prop} (hd : decode cc pc = .ok (.invokespecial idx, 3)) (hlk : MLk mi.1 idx y) (hm : MOK y cc' mi' n) (hv : MOKi y) (hret : mi'.2.2.1 = none)
    (hs : SHL[b]? = some q) (hS : Spec y cc' mi' (.ref b :: As) h post) (hst : st = As.reverse ++ .ref b :: rest) (hn : As.length = n) (hR : RmOK mi.2.2.2.1 mi'.2.2.2.1 mi'.2.1)
    (hcat : (rest.map fun v => v.category).sum ≤ 8) (hfit0 : mi.2.2.2.1.cells = 0 ∨ ((h.1 - n0 + mi'.2.2.2.1.cells ≤ mi.2.2.2.1.cells ∧ SLT h.1 - SLT n0 + mi'.2.2.2.1.slots ≤ mi.2.2.2.1.slots) ∧ SLT (h.1 + mi'.2.2.2.1.cells) = SLT h.1 + mi'.2.2.2.1.slots))
    (k : ∀ (v : Option Value) (h' : HP), post v h' → V cc mi Z n0 (pc + 3) ls (v.toList ++ rest) h') : V cc mi Z n0 pc ls st h := by
  intro p l e s m args below meth c E H locs la hc hr hl
  refine W_sized fun hz => ?_
  have hG := hc.2.2.2.2.2.2.2.1
  obtain ⟨hfit, hslots⟩ := V.fits (mi' := mi') hr hR.2.2 hfit0
  have hts : ∀ w ∈ [Cond.code y cc' mi'.2.1 none], w.before args s = true := fun w hw => by rw [List.mem_singleton.mp hw, ← hret]; exact hG.2.1.use hm.1 rfl args
  have hfix : CallFix p m c cc mi.2.1 s args [Cond.code y cc' mi'.2.1 none] mi.1 := ⟨hc.1, hc.2.1, hc.2.2.1, hc.2.2.2.1, hts⟩
  have hpre : ∀ U : State, U.heap = H → s.WarmedH U.vm → PcS E (.ref b :: As) h (Value.ref (eb E + b) :: cS E As).toArray U := by
    have := V.call_pre (args' := .ref b :: As) (fun _ _ _ _ => trivial) hc hr hz
    rw [show cS E (.ref b :: As) = Value.ref (eb E + b) :: cS E As by rw [← cv_lt (E := E) hs]; rfl] at this
    exact this
  have hstk : cS E st = (cS E As).reverse ++ Value.ref (eb E + b) :: cS E rest := by
    rw [hst, cS_app, cS_rev, ← cv_lt (E := E) hs]; rfl
  have hM := hS l E
  rw [hret] at hM
  refine V.back (mi' := mi') (post := post) (rest := rest) (cc' := cc') (y := y) (args' := []) hR.2.2 hslots k hc hr hl (a := (Value.ref (eb E + b) :: cS E As).toArray) ?_
  rcases hlk with hlk | ⟨host, hlk⟩
  · exact va_runI hfix hM ⟨callB_of n hts goodIn_code rfl rfl rfl (hG.2.1.use hm.2.1 rfl args) (hG.2.1.use hlk rfl args) hm.2.2.1 ⟨hR.1, hR.2.1⟩, hv.1, hG.2.1.use hv.2 rfl args⟩
      ⟨PcS_blind _ _ _, hpre⟩ rfl (by simp [cS, hn]) hl.1 hstk (lv_room (by rw [cS_cat]; exact hcat)) hd hfit
  · exact va_runIN hfix hM ⟨va_cnB n hts goodIn_code rfl rfl rfl (va_Nw.of rfl (hG.2.1.use hlk rfl args)) (hG.2.1.use hm.2.1 rfl args) hm.2.2.1 ⟨hR.1, hR.2.1⟩, hv.1, hG.2.1.use hv.2 rfl args⟩
      ⟨PcS_blind _ _ _, hpre⟩ rfl (by simp [cS, hn]) hl.1 hstk (lv_room (by rw [cS_cat]; exact hcat)) hd hfit
end VCALL
/-! ends of methods, their beginnings -/
def pI (P : Int32 → HP → Prop) : Option Value → HP → Prop := fun v h => ∃ r : Int32, v = some (.int r) ∧ P r h
def pL (P : Int64 → HP → Prop) : Option Value → HP → Prop := fun v h => ∃ r : Int64, v = some (.long r) ∧ P r h
def pV (P : HP → Prop) : Option Value → HP → Prop := fun v h => v = none ∧ P h
section VRET
variable {cc : ByteArray} {mi : Mi} {n0 pc : Nat} {ls : List Value} {h h0 : HP}
theorem V.ireturn {x : Int32} {ty : FieldType} {P : Int32 → HP → Prop} (hd : decode cc pc = .ok (.ireturn, 1)) (hret : mi.2.2.1 = some ty) (hn : narrow ty (.int x) = .int x) (hz : mi.2.2.2.1.cells = 0 ∧ mi.2.2.2.1.slots = 0) (h00 : h0.1 = n0) (hp : P x h) :
    V cc mi (ZM h0 mi.2.2.2.1 (pI P)) n0 pc ls [.int x] h := by
  intro p l e s m args below meth c E H locs la hc hr hl
  have h1 := hr.2.2.2 hz.1
  have w := W.zret (p := p) (l := l) (e := e) (R := mi.2.2.2.1) (m := m) (args := args) (below := below) (H := H) (locs := locs) (cells := h.1 - n0) (slots := SLT h.1 - SLT n0) (Qc := QcS E mi.2.2.2.1 h0 (pI P)) (free := fun q => eb E ≤ q) (ls := la) hc.1 hc.2.1 (hc.2.2.2.2.2.1.trans hret) hn
    (fun t ht hW => ⟨some (.int x), h, rfl, ⟨x, rfl, hp⟩, by omega, by rw [ht]; exact hr.1, hr.2.1.F ht⟩) hr.2.1.2.2 hd hc.2.2.2.2.1
  have a1 : h.1 - n0 = mi.2.2.2.1.cells := by omega
  have a2 : SLT h.1 - SLT n0 = mi.2.2.2.1.slots := by rw [h1]; omega
  rw [a1, a2] at w ⊢
  exact w
theorem V.lreturn {x : Int64} {P : Int64 → HP → Prop} (hd : decode cc pc = .ok (.lreturn, 1)) (hret : mi.2.2.1 = some .long) (hz : mi.2.2.2.1.cells = 0 ∧ mi.2.2.2.1.slots = 0) (h00 : h0.1 = n0) (hp : P x h) :
    V cc mi (ZM h0 mi.2.2.2.1 (pL P)) n0 pc ls [.long x] h := by
  intro p l e s m args below meth c E H locs la hc hr hl
  have h1 := hr.2.2.2 hz.1
  have w := W.lret (p := p) (l := l) (e := e) (R := mi.2.2.2.1) (m := m) (args := args) (below := below) (H := H) (locs := locs) (cells := h.1 - n0) (slots := SLT h.1 - SLT n0) (Qc := QcS E mi.2.2.2.1 h0 (pL P)) (free := fun q => eb E ≤ q) (ls := la) hc.1 hc.2.1 (hc.2.2.2.2.2.1.trans hret)
    (fun t ht hW => ⟨some (.long x), h, rfl, ⟨x, rfl, hp⟩, by omega, by rw [ht]; exact hr.1, hr.2.1.F ht⟩) hr.2.1.2.2 hd hc.2.2.2.2.1
  have a1 : h.1 - n0 = mi.2.2.2.1.cells := by omega
  have a2 : SLT h.1 - SLT n0 = mi.2.2.2.1.slots := by rw [h1]; omega
  rw [a1, a2] at w ⊢
  exact w
theorem V.vreturn' {P : HP → Prop} (hd : decode cc pc = .ok (.return_, 1)) (hret : mi.2.2.1 = none) (h00 : h0.1 = n0) (hz : mi.2.2.2.1.cells = 0 ∧ mi.2.2.2.1.slots = 0 ∨ (h.1 = n0 + mi.2.2.2.1.cells ∧ SLT h.1 - SLT n0 = mi.2.2.2.1.slots)) (hp : P h) :
    V cc mi (ZM h0 mi.2.2.2.1 (pV P)) n0 pc ls [] h := by
  intro p l e s m args below meth c E H locs la hc hr hl
  have h1 : h.1 = n0 + mi.2.2.2.1.cells ∧ SLT h.1 - SLT n0 = mi.2.2.2.1.slots := by
    rcases hz with hz | hz
    · have := hr.2.2.2 hz.1
      exact ⟨by omega, by rw [this]; omega⟩
    · exact hz
  have w := W.vret (p := p) (l := l) (e := e) (R := mi.2.2.2.1) (m := m) (args := args) (below := below) (H := H) (locs := locs) (cells := h.1 - n0) (slots := SLT h.1 - SLT n0) (Qc := QcS E mi.2.2.2.1 h0 (pV P)) (free := fun q => eb E ≤ q) (ls := la) hc.1 hc.2.1 (hc.2.2.2.2.2.1.trans hret)
    (fun t ht hW => ⟨none, h, rfl, ⟨rfl, hp⟩, by omega, by rw [ht]; exact hr.1, hr.2.1.F ht⟩) hr.2.1.2.2 hd hc.2.2.2.2.1
  have a1 : h.1 - n0 = mi.2.2.2.1.cells := by omega
  rw [a1, h1.2] at w ⊢
  exact w
theorem V.vreturn {P : HP → Prop} (hd : decode cc pc = .ok (.return_, 1)) (hret : mi.2.2.1 = none) (hz : mi.2.2.2.1.cells = 0 ∧ mi.2.2.2.1.slots = 0) (h00 : h0.1 = n0) (hp : P h) : V cc mi (ZM h0 mi.2.2.2.1 (pV P)) n0 pc ls [] h := V.vreturn' hd hret h00 (Or.inl hz) hp
end VRET
def ent : Nat → List Value → List Value
  | n, [] => List.replicate n .null
  | n, v :: r => if v.category = 2 then v :: .null :: ent (n - 2) r else v :: ent (n - 1) r
theorem cL_nulls (E : Ev) : ∀ (n i : Nat), cL E i (List.replicate n .null) = []
  | 0, _ => rfl
  | n + 1, i => by rw [List.replicate_succ]; exact cL_nulls E n (i + 1)
theorem cL_ent (E : Ev) : ∀ (vs : List Value) (n i : Nat), ∀ q ∈ cL E i (ent n vs), q ∈ lv_args i (cS E vs)
  | [], n, i => by intro q hq; simp only [ent, cL_nulls] at hq; cases hq
  | v :: r, n, i => by
    have ih1 := cL_ent E r (n - 1) (i + 1)
    have ih2 := cL_ent E r (n - 2) (i + 2)
    intro q hq
    simp only [ent] at hq
    show q ∈ (i, cv E v) :: lv_args (if (cv E v).category = 2 then i + 2 else i + 1) (cS E r)
    rw [cv_cat]
    by_cases hc : v.category = 2
    · rw [if_pos hc] at hq ⊢
      have hq2 : q ∈ cL E i (v :: .null :: ent (n - 2) r) := hq
      have : q = (i, cv E v) ∨ q ∈ cL E (i + 2) (ent (n - 2) r) := by
        cases v <;> first | exact List.mem_cons.mp hq2 | exact Or.inr hq2
      rcases this with h | h
      · rw [h]; exact List.mem_cons_self
      · exact List.mem_cons_of_mem _ (ih2 q h)
    · rw [if_neg hc] at hq ⊢
      have hq2 : q ∈ cL E i (v :: ent (n - 1) r) := hq
      have : q = (i, cv E v) ∨ q ∈ cL E (i + 1) (ent (n - 1) r) := by
        cases v <;> first | exact List.mem_cons.mp hq2 | exact Or.inr hq2
      rcases this with h | h
      · rw [h]; exact List.mem_cons_self
      · exact List.mem_cons_of_mem _ (ih1 q h)
theorem sl_len (E : Ev) (vs : List Value) : (lg_sl (cS E vs)).length = (vs.map fun v => v.category).sum := by
  induction vs with
  | nil => rfl
  | cons v r ih =>
    have e : lg_sl (cS E (v :: r)) = (if (cv E v).category = 2 then [.val (cv E v), .second] else [.val (cv E v)]) ++ lg_sl (cS E r) := rfl
    rw [e, List.length_append, ih, cv_cat]
    simp only [List.map_cons, List.sum_cons]
    rcases lv_cat v with hc | hc <;> simp [hc]
/-- a method keeps its contract if its body's walk ends with it -/
theorem Spec.of {y : MethodName} {cc : ByteArray} {mi : Mi} {n : Nat} {args ls0 : List Value} {h : HP} {post : Option Value → HP → Prop} (hm : MOK y cc mi n) (hlen : (args.map fun v => v.category).sum ≤ mi.2.1) (hls : ent mi.2.1 args = ls0)
    (hV : V cc mi (ZM h mi.2.2.2.1 post) h.1 0 ls0 [] h) : Spec y cc mi args h post := by
  intro l E
  refine Met.ofW (cc := cc) (maxL := mi.2.1) (ret := mi.2.2.1) hm.2.2.2.1 rfl ?_
  intro p e s m args' below meth c s₁ B hml hP
  obtain ⟨rfl, hG, hsz, hPw⟩ := hP
  have hl := lv_entry (cS E args) (n := mi.2.1) (by rw [sl_len]; exact hlen)
  rw [lg_entry_eq]
  generalize (lg_sl (cS E args) ++ List.replicate (mi.2.1 - (lg_sl (cS E args)).length) Slot.unset).toArray = la at hl ⊢
  have hl2 : lv_has la mi.2.1 (cL E 0 ls0) := ⟨hl.1, hl.2.1, fun q hq => hl.2.2 q (by rw [← hls] at hq; exact cL_ent E args mi.2.1 0 q hq)⟩
  have w := hV p l e s m (cS E args).toArray below meth c E s.heap [] la ⟨B.exec, B.bytes, hml, by rw [hm.2.2.2.2.1]; exact findClass_of_methodNamed B.named, B.notSynchronized, B.returns, fun e => ((name_of_methodNamed B.named B.method).1).trans (hm.2.2.2.2.2.symm.trans e), hG, hsz, trivial⟩
    ⟨hPw, va_S.rf, Nat.le_refl _, fun _ => rfl⟩ hl2
  rw [Nat.sub_self, Nat.sub_self] at w
  exact w
/-! calls by what they give -/
section VC2
variable {cc : ByteArray} {mi : Mi} {Z : Zt} {n0 pc : Nat} {ls st : List Value} {h : HP}
theorem V.callVI {y : MethodName} {cc' : ByteArray} {mi' : Mi} {idx b n ci z : Nat} {As rest : List Value} {P : Int32 → HP → Prop} (hd : decode cc pc = .ok (.invokevirtual idx, 3)) (hlk : MLk mi.1 idx y) (hm : MOK y cc' mi' n) (hv : MOKv y)
    (hs : SHL[b]? = some (0, ci, z)) (hcl : ∀ q, wCl[ci]? = some q → q.1 = y.cls) (hci : ci < 11) (hw : mi.2.2.2.1.cells = 0 ∧ b < n0 ∨ b < h.1) (hS : Spec y cc' mi' (.ref b :: As) h (pI P)) (hst : st = As.reverse ++ .ref b :: rest) (hn : As.length = n) (hR : RmOK mi.2.2.2.1 mi'.2.2.2.1 mi'.2.1)
    (hcat : (rest.map fun v => v.category).sum ≤ 8) (hz : mi.2.2.2.1.cells = 0)
    (k : ∀ (r : Int32) (h' : HP), P r h' → V cc mi Z n0 (pc + 3) ls (.int r :: rest) h') : V cc mi Z n0 pc ls st h :=
  V.callV hd hlk hm hv hs hcl hci hw hS hst hn hR hcat (Or.inl hz) (fun v h' hp => by obtain ⟨r, rfl, hp⟩ := hp; exact k r h' hp)
theorem V.callVL {y : MethodName} {cc' : ByteArray} {mi' : Mi} {idx b n ci z : Nat} {As rest : List Value} {P : Int64 → HP → Prop} (hd : decode cc pc = .ok (.invokevirtual idx, 3)) (hlk : MLk mi.1 idx y) (hm : MOK y cc' mi' n) (hv : MOKv y)
    (hs : SHL[b]? = some (0, ci, z)) (hcl : ∀ q, wCl[ci]? = some q → q.1 = y.cls) (hci : ci < 11) (hw : mi.2.2.2.1.cells = 0 ∧ b < n0 ∨ b < h.1) (hS : Spec y cc' mi' (.ref b :: As) h (pL P)) (hst : st = As.reverse ++ .ref b :: rest) (hn : As.length = n) (hR : RmOK mi.2.2.2.1 mi'.2.2.2.1 mi'.2.1)
    (hcat : (rest.map fun v => v.category).sum ≤ 8) (hz : mi.2.2.2.1.cells = 0)
    (k : ∀ (r : Int64) (h' : HP), P r h' → V cc mi Z n0 (pc + 3) ls (.long r :: rest) h') : V cc mi Z n0 pc ls st h :=
  V.callV hd hlk hm hv hs hcl hci hw hS hst hn hR hcat (Or.inl hz) (fun v h' hp => by obtain ⟨r, rfl, hp⟩ := hp; exact k r h' hp)
theorem V.callVV {y : MethodName} {cc' : ByteArray} {mi' : Mi} {idx b n ci z : Nat} {As rest : List Value} {P : HP → Prop} (hd : decode cc pc = .ok (.invokevirtual idx, 3)) (hlk : MLk mi.1 idx y) (hm : MOK y cc' mi' n) (hv : MOKv y)
    (hs : SHL[b]? = some (0, ci, z)) (hcl : ∀ q, wCl[ci]? = some q → q.1 = y.cls) (hci : ci < 11) (hw : mi.2.2.2.1.cells = 0 ∧ b < n0 ∨ b < h.1) (hS : Spec y cc' mi' (.ref b :: As) h (pV P)) (hst : st = As.reverse ++ .ref b :: rest) (hn : As.length = n) (hR : RmOK mi.2.2.2.1 mi'.2.2.2.1 mi'.2.1)
    (hcat : (rest.map fun v => v.category).sum ≤ 8) (hfit : mi.2.2.2.1.cells = 0 ∨ ((h.1 - n0 + mi'.2.2.2.1.cells ≤ mi.2.2.2.1.cells ∧ SLT h.1 - SLT n0 + mi'.2.2.2.1.slots ≤ mi.2.2.2.1.slots) ∧ SLT (h.1 + mi'.2.2.2.1.cells) = SLT h.1 + mi'.2.2.2.1.slots))
    (k : ∀ (h' : HP), P h' → V cc mi Z n0 (pc + 3) ls rest h') : V cc mi Z n0 pc ls st h :=
  V.callV hd hlk hm hv hs hcl hci hw hS hst hn hR hcat hfit (fun v h' hp => by obtain ⟨rfl, hp⟩ := hp; exact k h' hp)
theorem V.callSI {y : MethodName} {cc' : ByteArray} {mi' : Mi} {idx n : Nat} {As rest : List Value} {P : Int32 → HP → Prop} (hd : decode cc pc = .ok (.invokestatic idx, 3)) (hlk : MLk mi.1 idx y) (hm : MOK y cc' mi' n) (hv : Cond.static y ∈ lw_tbl)
    (hS : Spec y cc' mi' As h (pI P)) (hst : st = As.reverse ++ rest) (hn : As.length = n) (hR : RmOK mi.2.2.2.1 mi'.2.2.2.1 mi'.2.1)
    (hcat : (rest.map fun v => v.category).sum ≤ 8) (hz : mi.2.2.2.1.cells = 0)
    (k : ∀ (r : Int32) (h' : HP), P r h' → V cc mi Z n0 (pc + 3) ls (.int r :: rest) h') : V cc mi Z n0 pc ls st h :=
  V.callS hd hlk hm hv hS hst hn hR hcat (Or.inl hz) (fun v h' hp => by obtain ⟨r, rfl, hp⟩ := hp; exact k r h' hp)
theorem V.callSL {y : MethodName} {cc' : ByteArray} {mi' : Mi} {idx n : Nat} {As rest : List Value} {P : Int64 → HP → Prop} (hd : decode cc pc = .ok (.invokestatic idx, 3)) (hlk : MLk mi.1 idx y) (hm : MOK y cc' mi' n) (hv : Cond.static y ∈ lw_tbl)
    (hS : Spec y cc' mi' As h (pL P)) (hst : st = As.reverse ++ rest) (hn : As.length = n) (hR : RmOK mi.2.2.2.1 mi'.2.2.2.1 mi'.2.1)
    (hcat : (rest.map fun v => v.category).sum ≤ 8) (hz : mi.2.2.2.1.cells = 0)
    (k : ∀ (r : Int64) (h' : HP), P r h' → V cc mi Z n0 (pc + 3) ls (.long r :: rest) h') : V cc mi Z n0 pc ls st h :=
  V.callS hd hlk hm hv hS hst hn hR hcat (Or.inl hz) (fun v h' hp => by obtain ⟨r, rfl, hp⟩ := hp; exact k r h' hp)
theorem V.callSV {y : MethodName} {cc' : ByteArray} {mi' : Mi} {idx n : Nat} {As rest : List Value} {P : HP → Prop} (hd : decode cc pc = .ok (.invokestatic idx, 3)) (hlk : MLk mi.1 idx y) (hm : MOK y cc' mi' n) (hv : Cond.static y ∈ lw_tbl)
    (hS : Spec y cc' mi' As h (pV P)) (hst : st = As.reverse ++ rest) (hn : As.length = n) (hR : RmOK mi.2.2.2.1 mi'.2.2.2.1 mi'.2.1)
    (hcat : (rest.map fun v => v.category).sum ≤ 8) (hz : mi.2.2.2.1.cells = 0)
    (k : ∀ (h' : HP), P h' → V cc mi Z n0 (pc + 3) ls rest h') : V cc mi Z n0 pc ls st h :=
  V.callS hd hlk hm hv hS hst hn hR hcat (Or.inl hz) (fun v h' hp => by obtain ⟨rfl, hp⟩ := hp; exact k h' hp)
theorem V.callIV {y : MethodName} {cc' : ByteArray} {mi' : Mi} {idx b n : Nat} {q : Nat × Nat × Nat} {As rest : List Value} {P : HP → Prop} (hd : decode cc pc = .ok (.invokespecial idx, 3)) (hlk : MLk mi.1 idx y) (hm : MOK y cc' mi' n) (hv : MOKi y) (hret : mi'.2.2.1 = none)
    (hs : SHL[b]? = some q) (hS : Spec y cc' mi' (.ref b :: As) h (pV P)) (hst : st = As.reverse ++ .ref b :: rest) (hn : As.length = n) (hR : RmOK mi.2.2.2.1 mi'.2.2.2.1 mi'.2.1)
    (hcat : (rest.map fun v => v.category).sum ≤ 8) (hfit : mi.2.2.2.1.cells = 0 ∨ ((h.1 - n0 + mi'.2.2.2.1.cells ≤ mi.2.2.2.1.cells ∧ SLT h.1 - SLT n0 + mi'.2.2.2.1.slots ≤ mi.2.2.2.1.slots) ∧ SLT (h.1 + mi'.2.2.2.1.cells) = SLT h.1 + mi'.2.2.2.1.slots))
    (k : ∀ (h' : HP), P h' → V cc mi Z n0 (pc + 3) ls rest h') : V cc mi Z n0 pc ls st h :=
  V.callI hd hlk hm hv hret hs hS hst hn hR hcat hfit (fun v h' hp => by obtain ⟨rfl, hp⟩ := hp; exact k h' hp)
end VC2
