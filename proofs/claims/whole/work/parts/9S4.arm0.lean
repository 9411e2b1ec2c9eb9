/-! the law's arms over the machine's world -/
def xArm (kA : Nat → ClassId) (ad kS : Nat → Nat) (D : va_G) (pc : Nat) : Prop := ∀ (p : Program) (l : Launch) (e : Env) (s : State) (m : MethodId) (below : List Frame) (meth : Method) (c : Code) (b L : Nat) (xs : Nat → Int32) (A : Nat → Prop) (Q : State → Prop), lB p l s m c b L xs D kA kS A → ∀ (i : Nat), i + 6 ≤ L → L < 2 ^ 31 → ∀ (cl sl : Nat), cl + 2 ≤ room_1.cells → sl + 12 ≤ room_1.slots → ∀ (n : Nat), n ≤ 100000 → ∀ (S : yS) (t : aT), yWf S → yB2 n S t → ∀ (H : Heap) (locs : List Loc) (ls : Array Slot), va_P D vC (aV kA ad t) H → va_D A (aV kA ad t) → va_S A s.heap H locs → lv_has ls 8 [(4, .int (nI i)), (3, .ref (ad 149)), (2, .ref (ad 67)), (1, .ref (ad 0)), (0, .ref b)] →
  (∀ (S' : yS) (t' : aT) (H : Heap) (locs : List Loc) (ls : Array Slot), yWf S' → yB2 (n + 1) S' t' → va_P D vC (aV kA ad t') H → va_D A (aV kA ad t') → va_S A s.heap H locs → lv_has ls 8 [(4, .int (nI i)), (3, .ref (ad 149)), (2, .ref (ad 67)), (1, .ref (ad 0)), (0, .ref b)] → W p l e room_1 s m #[Value.ref b] below meth c H locs (cl + 2) (sl + 12) Q (F0 m 1285 ls [])) →
  W p l e room_1 s m #[Value.ref b] below meth c H locs cl sl Q (F0 m pc ls [])
section ArmP
variable {S : yS}
theorem Sk_count (x w : Int32) : (y_count x w S).2.2 = S := by
  unfold y_count
  split
  · rfl
  · split
    · rfl
    · split <;> rfl
theorem Sk_letter (i x : Int32) : (y_letter i x S).2.2 = S := by
  unfold y_letter
  generalize (if x = 0 then S.pl else S.ou) = Z
  split
  · rfl
  · split <;> rfl
theorem Sk_file (k x : Int32) : (y_file k x S).2.2 = S := by
  unfold y_file
  split
  · rfl
  · split
    · rfl
    · split <;> rfl
theorem Sk_size (x : Int32) : (y_size x S).2.2 = S := by
  unfold y_size
  split <;> rfl
theorem Sk_fits (x1 w1 x2 w2 : Int32) : (y_fits x1 w1 x2 w2 S).2.2 = S := by
  unfold y_fits
  split
  · rfl
  · split
    · rfl
    · split <;> rfl
theorem Sk_print (x w : Int32) : (y_print x w S).2.2 = S := by
  unfold y_print yGt
  split
  · rfl
  · split
    · rfl
    · split <;> rfl
end ArmP
section ArmW
variable {kA : Nat → ClassId} {ad : Nat → Nat} {D : va_G} {kS : Nat → Nat}
theorem wo_fits (SIM : xSim kA ad kS D) (l : Launch) (hfl : l.flags = flags0) (sz : Nat) (x1 x2 x3 x4 : Int32) {t t1 : aT} {v : Int32} (hrun : fLk_fits 150 x1 x2 x3 x4 t = rI v t1) (hv : v = 1 ∨ v = 0) : Met l y_La_fits w_La_fits { frames := 157, cells := 0, slots := 0, locals := 9141 } (xPreN D vC (tK kA) kS [.ref (ad 0), .int x1, .int x2, .int x3, .int x4, .ref (ad 149)] (aV kA ad t) sz) (aQ D kA (aV kA ad (pL t1 149 0 v.toInt64)) (va_A (aV kA ad t) sz) (some (.int 0))) 0 0 (va_A (aV kA ad t) sz) := by
  rcases hv with rfl | rfl
  · exact wo_fits1 SIM l hfl sz x1 x2 x3 x4 hrun
  · exact wo_fits0 SIM l hfl sz x1 x2 x3 x4 hrun
end ArmW
