abbrev wCl : List vw_C := [(RX0, TX0, 9), (RX1, TX1, 10), (RX2, TX2, 8), (RX3, TX3, 8), (RX4, TX4, 14), (RX5, TX5, 16), (RX7, TX7, 3), (RX8, TX8, 6), (RX9, TX9, 8), (RX11, TX11, 15), (RX12, TX12, 39)]
def tyOf (ci : Nat) : Nat → FieldType := match ci with
  | 0 => tyX0
  | 1 => tyX1
  | 2 => tyX2
  | 3 => tyX3
  | 4 => tyX4
  | 5 => tyX5
  | 6 => tyX7
  | 7 => tyX8
  | 8 => tyX9
  | 9 => tyX11
  | _ => tyX12
def fcode : FieldType → Nat
  | .long => 1
  | .object _ => 2
  | .array _ => 2
  | _ => 0
abbrev Mi : Type := String × Nat × Option FieldType × Room × String
def dfl (t : Nat) : Value := if t = 0 then .int 0 else if t = 1 then .long 0 else .null
/-- the classes of the world: what the tables and the listing say of each -/
def ClOK (ci : Nat) (q : vw_C) : Prop := (∀ w ∈ u_ws q.1 q.2.1 q.2.2, w ∈ lw_tbl) ∧ (∀ a, a < q.2.2 → ∀ b, b < q.2.2 → a ≠ b → (q.2.1 a).2.1 ≠ (q.2.1 b).2.1) ∧ (∀ k, k < q.2.2 → parseFieldDescriptor (q.2.1 k).2.2.1 = some (tyOf ci k)) ∧ (∀ k, k < q.2.2 → (q.2.1 k).1 = q.1) ∧ Cond.instantiable q.1 q.2.2 ∈ lw_tbl ∧ Cond.initialized q.1 ∈ lw_tbl ∧ (∀ k, k < q.2.2 → defaultValue (tyOf ci k) = dfl (fcode (tyOf ci k)))
/-- entry idx of the class own names field j of class ci -/
def FLk (own : String) (idx ci j : Nat) : Prop := ∃ q : vw_C, wCl[ci]? = some q ∧ j < q.2.2 ∧ ClOK ci q ∧ (Cond.fieldLink own idx q.1 (q.2.1 j).2.1 (q.2.1 j).2.2.1 ∈ lw_tbl ∨ ∃ host, Cond.fieldLinkNest own idx q.1 (q.2.1 j).2.1 (q.2.1 j).2.2.1 host ∈ lw_tbl)
def MLk (own : String) (idx : Nat) (y : MethodName) : Prop := Cond.methodLink own idx y ∈ lw_tbl ∨ ∃ host, Cond.methodLinkNest own idx y host ∈ lw_tbl
def MOK (y : MethodName) (cc : ByteArray) (mi : Mi) (n : Nat) : Prop := Cond.code y cc mi.2.1 mi.2.2.1 ∈ lw_tbl ∧ Cond.initialized y.cls ∈ lw_tbl ∧ (y.cls ≠ "java/lang/invoke/MethodHandle" ∧ y.cls ≠ "java/lang/invoke/VarHandle" ∧ (parseMethodDescriptor y.desc).map (fun d => d.parameters.length) = some n) ∧ plainName y.cls = true ∧ mi.1 = y.cls ∧ mi.2.2.2.2 = y.name
def MOKv (y : MethodName) : Prop := Cond.instanceMethod y ∈ lw_tbl ∧ Cond.selects y.cls y y ∈ lw_tbl
def MOKi (y : MethodName) : Prop := y.name = "<init>" ∧ Cond.instanceMethod y ∈ lw_tbl
def MaxW (y : MethodName) (code : ByteArray) : Prop := Cond.static y ∈ lw_tbl ∧ Cond.initialized "java/lang/Math" ∈ lw_tbl ∧ Cond.code y code 2 (some .int) ∈ lw_tbl
def CopyW : Prop := Cond.native arraycopyName ∈ lw_tbl ∧ Cond.static arraycopyName ∈ lw_tbl ∧ Cond.initialized "java/lang/System" ∈ lw_tbl
