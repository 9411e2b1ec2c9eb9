/-! WHAT THE HEAP HOLDS FOR EVER: Throwable's two statics, the String constants' places (kS j: the j-th of sW) -/
def xz (C n d : String) (A : Nat → Prop) (U : State) (H : Heap) : Prop := ∃ (c : ClassId) (k : Class) (i : Nat) (f : Field) (a : Nat) (cell : Cell) (v : Value), U.vm.findClass C = some c ∧ U.fieldFound? C n d = some (c, k, i, f) ∧ f.isStatic = true ∧ k.statics = some a ∧ H[a]? = some cell ∧ cell.vm.isStatics = true ∧ cell.cls = c ∧ k.staticTypes[f.slot]? = some f.type ∧ cell.slots[f.slot]? = some v ∧ (v = .null ∨ ∃ t, v = .ref t) ∧ ¬ A a
theorem xz.moved {C n d : String} {A : Nat → Prop} {u U : State} {H : Heap} (hvm : u.vm.Alike U.vm) (h : xz C n d A u H) : xz C n d A U H := by
  obtain ⟨c, k, i, f, a, cell, v, h0, h1, h2, h3, h4, h5, h6, h7, h8⟩ := h
  obtain ⟨k', hi', he⟩ := State.fieldFound?_setVm hvm h1
  exact ⟨c, k', i, f, a, cell, v, by rw [hvm.findClass]; exact h0, hi', h2, by rw [he]; exact h3, h4, h5, h6, by rw [he]; exact h7, h8⟩
theorem xz.kept {C n d : String} {A : Nat → Prop} {U : State} {H H1 : Heap} (h : xz C n d A U H) (hq : ∀ a : Nat, a < H.size → ¬ A a → H1[a]? = H[a]?) : xz C n d A U H1 := by
  obtain ⟨c, k, i, f, a, cell, v, h0, h1, h2, h3, h4, h5, h6, h7, h8, h9, h10⟩ := h
  exact ⟨c, k, i, f, a, cell, v, h0, h1, h2, h3, by rw [hq a (Array.getElem?_eq_some_iff.mp h4).1 h10]; exact h4, h5, h6, h7, h8, h9, h10⟩
theorem xz.narrow {C n d : String} {A B : Nat → Prop} {U : State} {H : Heap} (h : xz C n d A U H) (hAB : ∀ q, B q → A q) : xz C n d B U H := by
  obtain ⟨c, k, i, f, a, cell, v, h0, h1, h2, h3, h4, h5, h6, h7, h8, h9, h10⟩ := h
  exact ⟨c, k, i, f, a, cell, v, h0, h1, h2, h3, h4, h5, h6, h7, h8, h9, fun z => h10 (hAB a z)⟩
theorem xz.lays {C n d : String} {A : Nat → Prop} {U : State} {args : Array Value} (h : xz C n d A U U.heap) : (Cond.laysStatic C n d).before args U = true := by
  obtain ⟨c, k, i, f, a, cell, v, h0, h1, h2, h3, h4, h5, h6, h7, h8, h9, h10⟩ := h
  exact Cond.laysStatic_of h0 h1 h2 h3 h4 h5 h6 (Array.getElem?_eq_some_iff.mp h8).1 h7
theorem xz.isRef {C n d : String} {A : Nat → Prop} {U : State} {args : Array Value} (h : xz C n d A U U.heap) : (Cond.isRef (.static C n d)).before args U = true := by
  obtain ⟨c, k, i, f, a, cell, v, h0, h1, h2, h3, h4, h5, h6, h7, h8, h9, h10⟩ := h
  have hv : (Term.static C n d).eval args U none [] U = some v := by
    simp [Term.eval, State.fieldNamed?, h1, h2, h3, h4, h5, h8]
  rcases h9 with rfl | ⟨t, rfl⟩ <;> simp [Cond.before, Cond.holds, Cond.value, hv]
theorem xz.of {C n d : String} {A : Nat → Prop} {s : State} {args : Array Value} (hl : (Cond.laysStatic C n d).before args s = true) (hr : (Cond.isRef (.static C n d)).before args s = true) (hA : ∀ a : Nat, a < s.heap.size → ¬ A a) : xz C n d A s s.heap := by
  obtain ⟨c, k, i, f, a, cell, hc, hi, hst, ha, hcell, hs, hcls, hlt, hty⟩ := Cond.laysStatic_spec hl
  cases hv : (Term.static C n d).eval args s none [] s with
  | none => simp [Cond.before, Cond.holds, Cond.value, hv] at hr
  | some w =>
    obtain ⟨-, a', cell', ha', hcell', -, hslot⟩ := Term.static_spec hi hv
    cases ha.symm.trans ha'
    cases hcell.symm.trans hcell'
    refine ⟨c, k, i, f, a, cell, w, hc, hi, hst, ha, hcell, hs, hcls, hty, hslot, ?_, hA a (Array.getElem?_eq_some_iff.mp hcell).1⟩
    cases w with
    | null => exact Or.inl rfl
    | ref t => exact Or.inr ⟨t, rfl⟩
    | _ => simp [Cond.before, Cond.holds, Cond.value, hv] at hr
def sW : List (String × Nat × String) := [("RecordLake$Text", 119, "true"), ("RecordLake$Text", 125, "false"), ("RecordLake$Text", 127, "null"), ("RecordLake$Schemas", 65, "null"), ("RecordLake$Schemas", 67, "boolean"), ("RecordLake$Schemas", 69, "int"), ("RecordLake$Schemas", 71, "long"), ("RecordLake$Schemas", 73, "bytes"), ("RecordLake$Schemas", 75, "string"), ("RecordLake$Schemas", 77, "array"), ("RecordLake$Schemas", 79, "map"), ("RecordLake$Schemas", 81, "fixed"), ("RecordLake$Schemas", 83, "enum"), ("RecordLake$Schemas", 85, "record"), ("RecordLake$Schemas", 87, ""), ("RecordLake$SchemaReader", 126, "type"), ("RecordLake$SchemaReader", 135, "items"), ("RecordLake$SchemaReader", 141, "values"), ("RecordLake$SchemaReader", 149, "name"), ("RecordLake$SchemaReader", 178, "size"), ("RecordLake$SchemaReader", 186, "symbols"), ("RecordLake$SchemaReader", 197, "default"), ("RecordLake$SchemaReader", 202, "fields"), ("RecordLake$PlainForm", 75, "\"items\":"), ("RecordLake$PlainForm", 108, "{\"type\":"), ("RecordLake$PlainForm", 81, "\"values\":"), ("RecordLake$PlainForm", 120, "{\"name\":"), ("RecordLake$PlainForm", 122, ",\"type\":"), ("RecordLake$PlainForm", 124, ",\"size\":"), ("RecordLake$PlainForm", 129, ",\"symbols\":["), ("RecordLake$PlainForm", 134, ",\"fields\":["), ("RecordLake$PlainForm", 145, ",{\"name\":"), ("RecordLake", 115, "the tape would have more than 4096 bytes"), ("RecordLake", 126, "the tape cannot be cut there"), ("RecordLake", 275, "there is no such subject"), ("RecordLake", 277, "there is no such version"), ("RecordLake", 173, "there is no such row"), ("RecordLake", 279, "there is no such thing to ask for"), ("RecordLake", 245, "there is no such byte"), ("RecordLake", 247, "there is no such file"), ("RecordLake", 261, "power cannot be set so"), ("RecordLake", 266, "it is not down"), ("RecordLakeModel$Text", 87, "fault"), ("RecordLakeModel$Text", 159, "\"\\/bfnrt"), ("RecordLakeModel$Text", 131, "true"), ("RecordLakeModel$Text", 133, "false"), ("RecordLakeModel$Text", 135, "null"), ("RecordLakeModel$Text", 181, "boolean"), ("RecordLakeModel$Text", 183, "int"), ("RecordLakeModel$Text", 185, "long"), ("RecordLakeModel$Text", 187, "bytes"), ("RecordLakeModel$Text", 188, "string"), ("RecordLakeModel$Text", 208, "type"), ("RecordLakeModel$Text", 214, "array"), ("RecordLakeModel$Text", 216, "map"), ("RecordLakeModel$Text", 218, "items"), ("RecordLakeModel$Text", 220, "values"), ("RecordLakeModel$Text", 232, "fixed"), ("RecordLakeModel$Text", 234, "enum"), ("RecordLakeModel$Text", 236, "record"), ("RecordLakeModel$Text", 246, "name"), ("RecordLakeModel$Text", 252, "size"), ("RecordLakeModel$Text", 263, "symbols"), ("RecordLakeModel$Text", 264, "default"), ("RecordLakeModel$Text", 270, "fields"), ("RecordLakeModel$Text", 300, "{\"type\":\"array\",\"items\":"), ("RecordLakeModel$Text", 302, "{\"type\":\"map\",\"values\":"), ("RecordLakeModel$Text", 304, "}"), ("RecordLakeModel$Text", 306, "["), ("RecordLakeModel$Text", 308, ","), ("RecordLakeModel$Text", 310, ""), ("RecordLakeModel$Text", 312, "]"), ("RecordLakeModel$Text", 295, "\""), ("RecordLakeModel$Text", 320, "{\"name\":"), ("RecordLakeModel$Text", 322, ",\"type\":\"fixed\",\"size\":"), ("RecordLakeModel$Text", 327, ",\"type\":\"enum\",\"symbols\":["), ("RecordLakeModel$Text", 329, ",\"type\":\"record\",\"fields\":["), ("RecordLakeModel$Text", 331, ",\"type\":"), ("RecordLakeModel$Text", 333, "]}"), ("RecordLakeModel", 165, "fault")]
def xR (kS : Nat → Nat) (U : State) : Prop := ∀ (j : Nat) (q : String × Nat × String), sW[j]? = some q → vk_R q.1 q.2.1 q.2.2 (kS j) U
abbrev tS : String := "java/lang/Throwable"
abbrev tS1 : String := "[Ljava/lang/StackTraceElement;"
abbrev tS2 : String := "Ljava/util/List;"
def xC (kS : Nat → Nat) (A : Nat → Prop) (U : State) (H : Heap) : Prop := xz tS "UNASSIGNED_STACK" tS1 A U H ∧ xz tS "SUPPRESSED_SENTINEL" tS2 A U H ∧ xR kS U
theorem xC.warm {kS : Nat → Nat} {A : Nat → Prop} {s U : State} {H : Heap} (hW : s.WarmedH U.vm) (h : xC kS A s H) : xC kS A U H := ⟨h.1.moved hW.alike, h.2.1.moved hW.alike, fun j q hq => (h.2.2 j q hq).warm hW⟩
theorem xC.same {kS : Nat → Nat} {A : Nat → Prop} {u U : State} {H : Heap} (hv : U.vm = u.vm) (h : xC kS A u H) : xC kS A U H := ⟨h.1.moved (by rw [hv]; exact Vm.Alike.refl _), h.2.1.moved (by rw [hv]; exact Vm.Alike.refl _), fun j q hq => (h.2.2 j q hq).same hv⟩
theorem xC.kept {kS : Nat → Nat} {A : Nat → Prop} {U : State} {H H1 : Heap} (h : xC kS A U H) (hq : ∀ a : Nat, a < H.size → ¬ A a → H1[a]? = H[a]?) : xC kS A U H1 := ⟨h.1.kept hq, h.2.1.kept hq, h.2.2⟩
theorem xC.narrow {kS : Nat → Nat} {A B : Nat → Prop} {U : State} {H : Heap} (h : xC kS A U H) (hAB : ∀ q, B q → A q) : xC kS B U H := ⟨h.1.narrow hAB, h.2.1.narrow hAB, h.2.2⟩
theorem xN.use {w : Cond} {U : State} {args : Array Value} (hN : xN U) (hw : w ∈ nW) : w.before args U = true := by
  have ok := (List.mem_filter.mp hw).2
  have h1 := hN w hw
  cases w <;> first | exact va_Nw.use rfl h1 | (cases ok; done)
/-- the words that a throw needs: of the tables, or these four of the statics -/
def sC : List Cond := [.laysStatic tS "UNASSIGNED_STACK" tS1, .laysStatic tS "SUPPRESSED_SENTINEL" tS2, .isRef (.static tS "UNASSIGNED_STACK" tS1), .isRef (.static tS "SUPPRESSED_SENTINEL" tS2)]
theorem xC.use {kS : Nat → Nat} {A : Nat → Prop} {U : State} {args : Array Value} {w : Cond} (h : xC kS A U U.heap) (hw : w ∈ sC) : w.before args U = true := by
  simp only [sC, List.mem_cons, List.not_mem_nil, or_false] at hw
  rcases hw with rfl | rfl | rfl | rfl
  · exact h.1.lays
  · exact h.2.1.lays
  · exact h.1.isRef
  · exact h.2.1.isRef
