/-! ALL WORDS OF THE TABLES THAT RIDE, as one list: every contract's words are its own code and this list. -/
def gW : List Cond := lw_tbl.filter goodWord
theorem gw_of {w : Cond} (h : w ∈ tables_1) (hg : goodWord w = true) : w ∈ gW := List.mem_filter.mpr ⟨List.mem_append_right _ h, hg⟩
theorem gw_sel {w : Cond} (h : w ∈ k2_sels lw_privs) (hg : goodWord w = true) : w ∈ gW := List.mem_filter.mpr ⟨List.mem_append_left _ h, hg⟩
theorem gw_good {w : Cond} (h : w ∈ gW) : (w.onTables && w.keeps) = true ∨ ∃ ty, w = .arrayClass ty := good_of_word (List.mem_filter.mp h).2
theorem xg_w {c0 : Cond} (h : c0 ∈ gW) : GoodIn gW (c0 :: gW) := fun w hw => (List.mem_cons.mp hw).elim (fun e => by subst e; exact ⟨h, gw_good h⟩) (fun h => ⟨h, gw_good h⟩)
theorem xg_V {own C : String} {idx : Nat} {y : MethodName} {c0 : Cond} (h1 : Cond.methodLink own idx y ∈ gW) (h2 : Cond.instanceMethod y ∈ gW) (h3 : Cond.selects C y y ∈ gW) (h4 : Cond.initialized C ∈ gW) (h5 : c0 ∈ gW) : GoodIn gW (wsV own idx C y (c0 :: gW)) := by
  intro w hw
  unfold wsV at hw
  rcases List.mem_append.mp hw with h | h
  · simp only [List.mem_cons, List.not_mem_nil, or_false] at h
    rcases h with rfl | rfl | rfl | rfl
    · exact ⟨h1, gw_good h1⟩
    · exact ⟨h2, gw_good h2⟩
    · exact ⟨h3, gw_good h3⟩
    · exact ⟨h4, gw_good h4⟩
  · exact xg_w h5 w h
theorem xg_S {own : String} {idx : Nat} {y : MethodName} {c0 : Cond} (h1 : Cond.methodLink own idx y ∈ gW) (h2 : Cond.static y ∈ gW) (h4 : Cond.initialized own ∈ gW) (h5 : c0 ∈ gW) : GoodIn gW (wsS own idx y (c0 :: gW)) := by
  intro w hw
  unfold wsS at hw
  rcases List.mem_append.mp hw with h | h
  · simp only [List.mem_cons, List.not_mem_nil, or_false] at h
    rcases h with rfl | rfl | rfl
    · exact ⟨h1, gw_good h1⟩
    · exact ⟨h2, gw_good h2⟩
    · exact ⟨h4, gw_good h4⟩
  · exact xg_w h5 w h
abbrev tK (kA : Nat → ClassId) : List (ClassId × FieldType) := [(kA 0, .byte), (kA 1, .int), (kA 2, .long), (kA 3, .boolean)]
/-! words that don't ride by 'keeps' (a nest mate's links, casts, declarations): carried by each contract's start as xN -/
def xw_ok : Cond → Bool
  | .methodLinkNest .. => true
  | .fieldLinkNest .. => true
  | .castable .. => true
  | .declares .. => true
  | _ => false
def nW : List Cond := lw_tbl.filter xw_ok
def xN (U : State) : Prop := ∀ w ∈ nW, va_Nw w U
theorem nw_of {w : Cond} (h : w ∈ tables_1) (hg : xw_ok w = true) : w ∈ nW := List.mem_filter.mpr ⟨List.mem_append_right _ h, hg⟩
theorem xN.same {u U : State} (h : u.vm = U.vm) (hN : xN u) : xN U := fun w hw => by
  have ok := (List.mem_filter.mp hw).2
  have h1 := hN w hw
  cases w <;> first | exact va_Nw.same rfl h h1 | (cases ok; done)
theorem xN.warm {s U : State} (hW : s.WarmedH U.vm) (hN : xN s) : xN U := fun w hw => by
  have ok := (List.mem_filter.mp hw).2
  have h1 := hN w hw
  cases w <;> first | exact va_Nw.warmM hW h1 | exact va_Nw.warmF hW h1 | exact va_Nw.warmC hW h1 | exact va_Nw.warmD hW h1 | (cases ok; done)
