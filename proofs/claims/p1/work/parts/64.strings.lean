/-! THE STRING CONSTANTS: calls on them; statics of another class -/
section XsBase
theorem xs_recv {kS : Nat → Nat} {A : Nat → Prop} {s : State} {H : Heap} {locs : List Loc} (hC : xC kS A s s.heap) (hS : va_S A s.heap H locs) {j : Nat} (hj : j < 80) : ∃ cell : Cell, H[kS j]? = some cell ∧ cell.vm.isStatics = false ∧ s.vm.findClass tSt = some cell.cls := by
  obtain ⟨cell, h1, h2, h3, -⟩ := (hC.1.2.2.2 j hj).1.kept hS.2.1
  exact ⟨cell, h1, h2, h3⟩
theorem xs_preV {s : State} {H : Heap} {D : va_G} {cl : List vw_C} {tys : List (ClassId × FieldType)} {A0 : Nat → Prop} {As : List Value} {W0 : va_W} {kS : Nat → Nat} {locs : List Loc} (hK : va_K D cl tys s) (hN : xN s) (hC0 : xC kS A0 s s.heap) (hP : va_P D cl W0 H) (hD : va_D A0 W0) (hS : va_S A0 s.heap H locs) (hA : ∀ q, s.heap.size ≤ q → A0 q) {j : Nat} (hj : j < 80) :
    PreV s H tSt (kS j) (xPre D cl tys kS (.ref (kS j) :: As) [] H.size) As :=
  ⟨xc_blind, xs_recv hC0 hS hj, fun U hU hW => ⟨rfl, by rw [hU], by rw [hU]; exact xc_cut hP [] rfl, va_K.moved hW.alike hK, (hD.sub [] rfl rfl).weaken (fun _ _ _ _ => trivial), hN.warm hW, by rw [hU]; exact ((hC0.kept hS.2.1).narrow (va_free hD hS hA [] rfl)).warm hW⟩⟩
theorem xg_S2 {own : String} {idx : Nat} {y : MethodName} {c0 : Cond} (h1 : Cond.methodLink own idx y ∈ gW) (h2 : Cond.static y ∈ gW) (h4 : Cond.initialized y.cls ∈ gW) (h5 : c0 ∈ gW) : GoodIn gW (va_wsS own idx y (c0 :: gW)) := by
  intro w hw
  unfold va_wsS at hw
  rcases List.mem_append.mp hw with h | h
  · simp only [List.mem_cons, List.not_mem_nil, or_false] at h
    rcases h with rfl | rfl | rfl
    · exact ⟨h1, gw_good h1⟩
    · exact ⟨h2, gw_good h2⟩
    · exact ⟨h4, gw_good h4⟩
  · exact xg_w h5 w h
/-- the length of the j-th constant; its i-th letter -/
def sL (j : Nat) : Nat := (bS.getD j []).length
def sB (j i : Nat) : Int32 := (bS.getD j []).getD i 0
theorem sL_lt : ∀ j, j < 80 → sL j < 100 := by decide +kernel
theorem sB_ok : ∀ j, j < 80 → ∀ i, i < sL j → (sB j i &&& 255) = sB j i ∧ ((sB j i).toUInt32 % 65536).toInt32 = sB j i ∧ narrow .char (.int (sB j i)) = .int (sB j i) := by decide +kernel
theorem sh_zero (x : Int32) : x >>> ((0 : Int32) &&& 31) = x := by
  rw [show ((0 : Int32) &&& 31) = 0 from by decide]
  exact Int32.shiftRight_zero
end XsBase
