/-! the machine's world and its steps on it -/
/-- a world's shape: an array (its type's place, its length) or an object (its class's place) -/
abbrev aSh : Type := Nat → Option (Sum (Nat × Nat) Nat)
/-- the kinds of a class's fields: 0 an int, 1 a long, 2 a reference, 3 a boolean -/
abbrev aFk : Type := Nat → List Nat
def aCv (x y : Nat) : Option Value := match y with
  | 1 => some (.int (Int32.ofNat x))
  | 2 => some (.long (Int64.ofNat x))
  | 3 => some (.ref (1000 + x))
  | _ => none
def aGet (h : aH) (k f kd : Nat) : Value := match kd with
  | 1 => .long (h.2.1 k f)
  | 2 => .ref (h.2.2 k f)
  | _ => .int (h.1 k f)
def aPut (h : aH) (k f kd : Nat) (v : Value) : Option aH := match kd, v with
  | 0, .int x => some (a2 h.1 k f x, h.2.1, h.2.2)
  | 1, .long x => some (h.1, a2 h.2.1 k f x, h.2.2)
  | 2, .ref q => some (h.1, h.2.1, a2 h.2.2 k f q)
  | 3, .int x => if x = 0 ∨ x = 1 then some (a2 h.1 k f x, h.2.1, h.2.2) else none
  | _, _ => none
/-- a step that may read or write the world -/
def aS1 (sh : aSh) (fk : aFk) (ins : Instr) (len x y nL : Nat) (L : List (Nat × Value)) (st : List Value) (h : aH) : Option (Bool × List (Nat × Value) × List Value × aH) :=
  match ins with
  | .getfield _ => if len = 3 then (match st with
    | .ref k :: r => (match sh k with
      | some (.inr ci) => if ci = x then (match (fk ci)[y]? with | some kd => some (false, L, aGet h k y kd :: r, h) | none => none) else none
      | _ => none)
    | _ => none) else none
  | .putfield _ => if len = 3 then (match st with
    | v :: .ref k :: r => (match sh k with
      | some (.inr ci) => if ci = x then (match (fk ci)[y]? with | some kd => (match aPut h k y kd v with | some h' => some (false, L, r, h') | none => none) | none => none) else none
      | _ => none)
    | _ => none) else none
  | .arraylength => if len = 1 then (match st with
    | .ref k :: r => (match sh k with | some (.inl (t, n)) => if t < 4 then some (false, L, .int (Int32.ofNat n) :: r, h) else none | _ => none)
    | _ => none) else none
  | .iaload => if len = 1 then (match st with
    | .int i :: .ref k :: r => (match sh k with | some (.inl (1, n)) => if ¬ i < 0 ∧ i.toNatClampNeg < n then some (false, L, .int (h.1 k i.toNatClampNeg) :: r, h) else none | _ => none)
    | _ => none) else none
  | .baload => if len = 1 then (match st with
    | .int i :: .ref k :: r => (match sh k with | some (.inl (0, n)) => if ¬ i < 0 ∧ i.toNatClampNeg < n then some (false, L, .int (h.1 k i.toNatClampNeg) :: r, h) else none | some (.inl (3, n)) => if ¬ i < 0 ∧ i.toNatClampNeg < n then some (false, L, .int (h.1 k i.toNatClampNeg) :: r, h) else none | _ => none)
    | _ => none) else none
  | .laload => if len = 1 then (match st with
    | .int i :: .ref k :: r => (match sh k with | some (.inl (2, n)) => if ¬ i < 0 ∧ i.toNatClampNeg < n then some (false, L, .long (h.2.1 k i.toNatClampNeg) :: r, h) else none | _ => none)
    | _ => none) else none
  | .iastore => if len = 1 then (match st with
    | .int v :: .int i :: .ref k :: r => (match sh k with | some (.inl (1, n)) => if ¬ i < 0 ∧ i.toNatClampNeg < n then some (false, L, r, (a2 h.1 k i.toNatClampNeg v, h.2.1, h.2.2)) else none | _ => none)
    | _ => none) else none
  | .bastore => if len = 1 then (match st with
    | .int v :: .int i :: .ref k :: r => (match sh k with | some (.inl (0, n)) => if ¬ i < 0 ∧ i.toNatClampNeg < n then some (false, L, r, (a2 h.1 k i.toNatClampNeg (vp_nar .byte v), h.2.1, h.2.2)) else none | some (.inl (3, n)) => if ¬ i < 0 ∧ i.toNatClampNeg < n then some (false, L, r, (a2 h.1 k i.toNatClampNeg (vp_nar .boolean v), h.2.1, h.2.2)) else none | _ => none)
    | _ => none) else none
  | .lastore => if len = 1 then (match st with
    | .long v :: .int i :: .ref k :: r => (match sh k with | some (.inl (2, n)) => if ¬ i < 0 ∧ i.toNatClampNeg < n then some (false, L, r, (h.1, a2 h.2.1 k i.toNatClampNeg v, h.2.2)) else none | _ => none)
    | _ => none) else none
  | .ldc _ => if len = 2 then (match aCv x y with | some v => some (false, L, v :: st, h) | none => none) else none
  | .ldc_w _ => if len = 3 then (match aCv x y with | some v => some (false, L, v :: st, h) | none => none) else none
  | .ldc2_w _ => if len = 3 then (match aCv x y with | some v => some (false, L, v :: st, h) | none => none) else none
  | _ => (match aS0 ins len nL L st with | some (b, L', st') => some (b, L', st', h) | none => none)
def aFs (ad : Nat → Nat) (h : aH) (k : Nat) : Nat → List Nat → List Value
  | _, [] => []
  | i, kd :: ks => cvA ad (aGet h k i kd) :: aFs ad h k (i + 1) ks
def aCell (sh : aSh) (fk : aFk) (kA : Nat → ClassId) (ad : Nat → Nat) (h : aH) (k : Nat) : va_E := match sh k with
  | some (.inl (t, n)) => .inl (kA t, n, if t = 2 then .inr (.inl (h.2.1 k)) else .inl (h.1 k))
  | some (.inr ci) => .inr (ci, aFs ad h k 0 (fk ci))
  | none => .inr (0, [])
def aW (sh : aSh) (fk : aFk) (nC : Nat) (kA : Nat → ClassId) (ad : Nat → Nat) (h : aH) : va_W := (List.range nC).map (fun k => (ad k, aCell sh fk kA ad h k))
