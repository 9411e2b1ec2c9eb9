/-! the machine runs a method: calls, ends, throws, handlers -/
/-- a method: name, bytes, locals, what it gives, whether it is static, how many parameters, its instructions, its handlers (from, to, the handler's pc, the class's index, the handler's instruction, the local that takes what was thrown) -/
abbrev aMI : Type := MethodName × ByteArray × Nat × Option FieldType × Bool × Nat × List aEn × List (Nat × Nat × Nat × Nat × Nat × Nat)
abbrev mY (q : aMI) : MethodName := q.1
abbrev mB (q : aMI) : ByteArray := q.2.1
abbrev mL (q : aMI) : Nat := q.2.2.1
abbrev mR (q : aMI) : Option FieldType := q.2.2.2.1
abbrev mSt (q : aMI) : Bool := q.2.2.2.2.1
abbrev mNp (q : aMI) : Nat := q.2.2.2.2.2.1
abbrev mCd (q : aMI) : List aEn := q.2.2.2.2.2.2.1
abbrev mHs (q : aMI) : List (Nat × Nat × Nat × Nat × Nat × Nat) := q.2.2.2.2.2.2.2
def mHh (q : aMI) : List (Nat × Nat × Nat × Nat) := (mHs q).map (fun z => (z.1, z.2.1, z.2.2.1, z.2.2.2.1))
def aHd (hs : List (Nat × Nat × Nat × Nat × Nat × Nat)) (pc : Nat) : Option (Nat × Nat × Nat × Nat × Nat × Nat) := hs.find? (fun z => decide (z.1 ≤ pc) && decide (pc < z.2.1))
def aIx (cd : List aEn) (t : Int) : Option Nat := cd.findIdx? (fun e => decide ((e.1 : Int) = t))
def aTab (dflt lo hi : Int) (offs : Array Int) (v : Int32) : Option Int := if v.toInt < lo ∨ hi < v.toInt then some dflt else offs[(v.toInt - lo).toNat]?
def aPrim (x : Nat) (vs : List Value) : Option Value :=
  if x = 900 then (match vs with | [.ref k] => if 1000 ≤ k ∧ k < 1080 then some (.int (nI (sL (k - 1000)))) else none | _ => none)
  else if x = 901 then (match vs with | [.ref k, .int i] => if (1000 ≤ k ∧ k < 1080) ∧ ¬ i < 0 ∧ i.toNatClampNeg < sL (k - 1000) then some (.int (sB (k - 1000) i.toNatClampNeg)) else none | _ => none)
  else if x = 902 then (match vs with | [.ref k, .int i] => if (1000 ≤ k ∧ k < 1080 ∧ 0 < sL (k - 1000)) ∧ ¬ i < 0 ∧ i < 128 then some (.int (sIx (k - 1000) i (sL (k - 1000)) 0)) else none | _ => none)
  else if x = 910 then (match vs with | [.int x, .int y] => some (.int (if y < x then y else x)) | _ => none)
  else if x = 911 then (match vs with | [.int x, .int y] => some (.int (if x < y then y else x)) | _ => none)
  else if x = 912 then (match vs with | [.long x] => some (.long (if 0 < x then x else -x)) | _ => none)
  else none
theorem aPrim_len {vs : List Value} {v : Value} (h : aPrim 900 vs = some v) : ∃ k : Nat, vs = [.ref k] ∧ 1000 ≤ k ∧ k < 1080 ∧ v = .int (nI (sL (k - 1000))) := by
  unfold aPrim at h
  rw [if_pos rfl] at h
  split at h
  · split at h
    · rename_i hk
      cases h
      exact ⟨_, rfl, hk.1, hk.2, rfl⟩
    · cases h
  · cases h
theorem aPrim_char {vs : List Value} {v : Value} (h : aPrim 901 vs = some v) : ∃ (k : Nat) (i : Int32), vs = [.ref k, .int i] ∧ 1000 ≤ k ∧ k < 1080 ∧ ¬ i < 0 ∧ i.toNatClampNeg < sL (k - 1000) ∧ v = .int (sB (k - 1000) i.toNatClampNeg) := by
  unfold aPrim at h
  rw [if_neg (by decide), if_pos rfl] at h
  split at h
  · split at h
    · rename_i hk
      cases h
      exact ⟨_, _, rfl, hk.1.1, hk.1.2, hk.2.1, hk.2.2, rfl⟩
    · cases h
  · cases h
theorem aPrim_ix {vs : List Value} {v : Value} (h : aPrim 902 vs = some v) : ∃ (k : Nat) (i : Int32), vs = [.ref k, .int i] ∧ 1000 ≤ k ∧ k < 1080 ∧ 0 < sL (k - 1000) ∧ ¬ i < 0 ∧ i < 128 ∧ v = .int (sIx (k - 1000) i (sL (k - 1000)) 0) := by
  unfold aPrim at h
  rw [if_neg (by decide), if_neg (by decide), if_pos rfl] at h
  split at h
  · split at h
    · rename_i hk
      cases h
      exact ⟨_, _, rfl, hk.1.1, hk.1.2.1, hk.1.2.2, hk.2.1, hk.2.2, rfl⟩
    · cases h
  · cases h
theorem aPrim_min {vs : List Value} {v : Value} (h : aPrim 910 vs = some v) : ∃ x y, vs = [.int x, .int y] ∧ v = .int (if y < x then y else x) := by
  unfold aPrim at h
  rw [if_neg (by decide), if_neg (by decide), if_neg (by decide), if_pos rfl] at h
  split at h
  · cases h
    exact ⟨_, _, rfl, rfl⟩
  · cases h
theorem aPrim_max {vs : List Value} {v : Value} (h : aPrim 911 vs = some v) : ∃ x y, vs = [.int x, .int y] ∧ v = .int (if x < y then y else x) := by
  unfold aPrim at h
  rw [if_neg (by decide), if_neg (by decide), if_neg (by decide), if_neg (by decide), if_pos rfl] at h
  split at h
  · cases h
    exact ⟨_, _, rfl, rfl⟩
  · cases h
theorem aPrim_abs {vs : List Value} {v : Value} (h : aPrim 912 vs = some v) : ∃ x, vs = [.long x] ∧ v = .long (if 0 < x then x else -x) := by
  unfold aPrim at h
  rw [if_neg (by decide), if_neg (by decide), if_neg (by decide), if_neg (by decide), if_neg (by decide), if_pos rfl] at h
  split at h
  · cases h
    exact ⟨_, rfl, rfl⟩
  · cases h
theorem aPrim_no {vs : List Value} {v : Value} (h : aPrim 999 vs = some v) : False := by
  unfold aPrim at h
  rw [if_neg (by decide), if_neg (by decide), if_neg (by decide), if_neg (by decide), if_neg (by decide), if_neg (by decide)] at h
  cases h
def aPn (x : Nat) : Nat := if x = 900 ∨ x = 912 then 1 else 2
def a1 {α : Type} (f : Nat → Nat → α) (k : Nat) (g : Nat → α) : Nat → Nat → α := fun k' => if k' = k then g else f k'
def aCat (st : List Value) : Nat := (st.map fun v => v.category).sum
def aEx (TB : Nat → Option aMI) (sh : aSh) (fk : aFk) : Nat → Nat → aMI → Nat → List (Nat × Value) → List Value → aH → Option (aOut × aH × Nat)
  | 0, _, _, _, _, _, _ => none
  | n + 1, d, q, k, L, st, h =>
    match (mCd q)[k]? with
    | none => none
    | some (pc, ins, len, x, y) =>
      match ins with
      | .ireturn => if len = 1 then (match st with
        | [.int v] => (match mR q with | some ty => if narrow ty (.int v) = .int v then some (.inl (some (.int v)), h, 0) else none | none => none)
        | _ => none) else none
      | .lreturn => if len = 1 then (match st with | [.long v] => if mR q = some .long then some (.inl (some (.long v)), h, 0) else none | _ => none) else none
      | .areturn => if len = 1 then (match st with | [.ref v] => (match mR q with | some (.object _) => some (.inl (some (.ref v)), h, 0) | _ => none) | _ => none) else none
      | .return_ => if len = 1 then (match st with | [] => if mR q = none then some (.inl none, h, 0) else none | _ => none) else none
      | .new _ => if y = 7 ∧ (mHs q).isEmpty then (match st with | [] => some (.inr x, h, 1) | _ => none) else none
      | .tableswitch dflt lo hi offs => (match st with
        | .int v :: r => (match aTab dflt lo hi offs v with | some o => (match aIx (mCd q) ((pc : Int) + o) with | some t => aEx TB sh fk n d q t L r h | none => none) | none => none)
        | _ => none)
      | .lookupswitch dflt ps => if (ps.toList.zip (ps.toList.drop 1)).all (fun (a, next) => a.1 < next.1) = true then (match st with
        | .int v :: r => (match aIx (mCd q) ((pc : Int) + Op.lookupswitch.offset ps.toList dflt v.toInt) with | some t => aEx TB sh fk n d q t L r h | none => none)
        | _ => none) else none
      | .invokevirtual _ => if len = 3 then (if 900 ≤ x then
          (if aCat (st.drop (aPn x)) ≤ 8 ∧ 6 ≤ d then (match aPrim x (st.take (aPn x)).reverse with | some v => aEx TB sh fk n d q (k + 1) L (v :: st.drop (aPn x)) h | none => none) else none)
        else (match TB x with
          | none => none
          | some q' => if mSt q' then none else (match (st.take (mNp q' + 1)).reverse with
            | .ref r :: As => if sh r = some (.inr (y % 100)) ∧ As.length = mNp q' ∧ aCat (st.drop (mNp q' + 1)) ≤ 8 ∧ (lg_sl (.ref r :: As)).length ≤ mL q' then (match d with
              | 0 => none
              | d' + 1 => (match aEx TB sh fk n d' q' 0 (lv_args 0 (.ref r :: As)) [] h with
                | some (.inl rv, h1, u) => (match aEx TB sh fk n (d' + 1) q (k + 1) L (rv.toList ++ st.drop (mNp q' + 1)) h1 with | some (o, h2, u2) => some (o, h2, u + u2) | none => none)
                | some (.inr E, h1, u) => if ¬ (mHs q').isEmpty ∨ 100 ≤ y then none else if (mHs q).isEmpty then some (.inr E, h1, u) else (match aHd (mHs q) pc with
                  | some z => if E = 0 then (match aEx TB sh fk n (d' + 1) q (z.2.2.2.2.1 + 1) (L.filter (fun w => !(w.1 == z.2.2.2.2.2) && !(w.1 + 1 == z.2.2.2.2.2 && w.2.category == 2))) [] h1 with | some (o, h2, u2) => some (o, h2, u + u2) | none => none) else none
                  | none => none)
                | none => none)) else none
            | _ => none))) else none
      | .invokestatic _ => if len = 3 then (if 900 ≤ x then (if x = 920 then (match st with
          | .int m9 :: .int dp :: .ref a9 :: .int sp :: .ref a0 :: r => (match sh a0, sh a9 with
            | some (.inl (0, n0)), some (.inl (0, n1)) => if (¬ sp < 0 ∧ ¬ dp < 0 ∧ ¬ m9 < 0 ∧ sp.toNatClampNeg + m9.toNatClampNeg ≤ n0 ∧ dp.toNatClampNeg + m9.toNatClampNeg ≤ n1 ∧ ∀ i, i < m9.toNatClampNeg → fits .byte (.int (h.1 a0 (sp.toNatClampNeg + i))) = true) ∧ aCat r ≤ 8 ∧ 6 ≤ d then aEx TB sh fk n d q (k + 1) L r (a1 h.1 a9 (va_cpy (h.1 a0) (h.1 a9) sp.toNatClampNeg dp.toNatClampNeg m9.toNatClampNeg), h.2.1, h.2.2) else none
            | _, _ => none)
          | _ => none) else
          (if aCat (st.drop (aPn x)) ≤ 8 ∧ 6 ≤ d then (match aPrim x (st.take (aPn x)).reverse with | some v => aEx TB sh fk n d q (k + 1) L (v :: st.drop (aPn x)) h | none => none) else none))
        else (match TB x with
          | none => none
          | some q' => if mSt q' then (if ((st.take (mNp q')).reverse).length = mNp q' ∧ aCat (st.drop (mNp q')) ≤ 8 ∧ (lg_sl (st.take (mNp q')).reverse).length ≤ mL q' then (match d with
              | 0 => none
              | d' + 1 => (match aEx TB sh fk n d' q' 0 (lv_args 0 (st.take (mNp q')).reverse) [] h with
                | some (.inl rv, h1, u) => (match aEx TB sh fk n (d' + 1) q (k + 1) L (rv.toList ++ st.drop (mNp q')) h1 with | some (o, h2, u2) => some (o, h2, u + u2) | none => none)
                | some (.inr E, h1, u) => if ¬ (mHs q').isEmpty then none else if (mHs q).isEmpty then some (.inr E, h1, u) else none
                | none => none)) else none) else none)) else none
      | _ => (match aS1 sh fk ins len x y (mL q) L st h with
        | some (b, L', st', h') => aEx TB sh fk n d q (if b then x else k + 1) L' st' h'
        | none => none)
