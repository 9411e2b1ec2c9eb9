/-! PURE: what a default's place and letters leave as it was -/
section
variable {T : Nat → Nat → Nat} {N : Nat → Int} {m : Nat} {q q' : kP}
theorem kFiF_fr {rec : Nat → Nat → Nat} {v y : Nat} (hX : q'.2.2 = q.2.2) : ∀ k i, kFiF T q' rec v y k i = kFiF T q rec v y k i
  | 0, _ => rfl
  | k + 1, i => by
    unfold kFiF
    rw [hX, kFiF_fr hX k (i + 1)]
theorem kFtB_fr (hX : q'.2.2 = q.2.2) (h : ∀ r, r = 0 ∨ r = 4 ∨ r = 8 → q'.2.1 r = q.2.1 r) (rec : Nat → Nat → Nat) (v y : Nat) : kFtB T N q' rec v y = kFtB T N q rec v y := by
  have hL : kFtL T N q' v y = kFtL T N q v y := by
    unfold kFtL kPt
    rw [h 0 (by omega), h 4 (by omega), h 8 (by omega), hX]
  unfold kFtB
  rw [hL, h 0 (by omega), h 4 (by omega), hX, kFiF_fr hX]
theorem kFit_fr (hX : q'.2.2 = q.2.2) (h : ∀ r, r = 0 ∨ r = 4 ∨ r = 8 → q'.2.1 r = q.2.1 r) : ∀ D v x, kFit T N q' D v x = kFit T N q D v x := by
  have hb : ∀ x, kFb q' x = kFb q x := fun x => by unfold kFb; rw [h 0 (by omega), hX]
  intro D
  induction D with
  | zero =>
    intro v x
    unfold kFit
    rw [hb, kFtB_fr hX h]
  | succ D ih =>
    intro v x
    unfold kFit
    have e : kFit T N q' D = kFit T N q D := funext fun v => funext fun x => ih v x
    rw [hb, e, kFtB_fr hX h]
theorem kCd_fr (h1 : q'.1 1 = q.1 1) (hX : q'.2.2 = q.2.2) (h : ∀ r, r = 0 ∨ r = 4 ∨ r = 7 ∨ r = 8 → q'.2.1 r = q.2.1 r) (hc : kCd q) : kCd q' := by
  intro s h6 hs
  rw [h1] at hs
  have := hc s h6 hs
  unfold kNd at this ⊢
  rw [h 0 (by omega), h 4 (by omega), h 7 (by omega), h 8 (by omega), hX]
  exact this
theorem kIv_q32 {r0 i0 v : Nat} (hr : r0 = 32 ∨ r0 = 33) (hI : kIv T m q) : kIv T m (kQ q r0 i0 v) := by
  have e0 : ∀ r i, r ≠ r0 → (kQ q r0 i0 v).2.1 r i = q.2.1 r i := fun r i h => by rw [kQ_Q, if_neg (fun e => h e.1)]
  have e1 : (kQ q r0 i0 v).1 = q.1 := rfl
  have e2 : (kQ q r0 i0 v).2.2 = q.2.2 := rfl
  unfold kIv kIs kIi kIj kPo at hI ⊢
  simp (disch := omega) only [e0, e1, e2]
  exact hI
end
