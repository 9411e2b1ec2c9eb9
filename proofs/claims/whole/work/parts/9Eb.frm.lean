/-! PURE: what a default's place and letters leave as it was -/
section
variable {T : Nat → Nat → Nat} {N : Nat → Int} {m : Nat} {q q' : kP}
theorem kFiF_fr {rec : Nat → Nat → Nat} {v y : Nat} (hX : q'.2.2 = q.2.2) : ∀ k i, kFiF T q' rec v y k i = kFiF T q rec v y k i
  | 0, _ => rfl
  | k + 1, i => by
    unfold kFiF
    rw [hX, kFiF_fr hX k (i + 1)]
theorem kFtB_fr (hX : q'.2.2 = q.2.2) (h : ∀ r, r = 0 ∨ r = 4 ∨ r = 8 → q'.2.1 r = q.2.1 r) (rec : Nat → Nat → Nat) (v y : Nat) : kFtB T N q' rec v y = kFtB T N q rec v y := by
  have hL : kFtL T N q' v y = kFtL T N q v y := by
    unfold kFtL kPt
    rw [h 0 (by omega), h 4 (by omega), h 8 (by omega), hX]
  unfold kFtB
  rw [hL, h 0 (by omega), h 4 (by omega), hX, kFiF_fr hX]
theorem kFit_fr (hX : q'.2.2 = q.2.2) (h : ∀ r, r = 0 ∨ r = 4 ∨ r = 8 → q'.2.1 r = q.2.1 r) : ∀ D v x, kFit T N q' D v x = kFit T N q D v x := by
  have hb : ∀ x, kFb q' x = kFb q x := fun x => by unfold kFb; rw [h 0 (by omega), hX]
  intro D
  induction D with
  | zero =>
    intro v x
    unfold kFit
    rw [hb, kFtB_fr hX h]
  | succ D ih =>
    intro v x
    unfold kFit
    have e : kFit T N q' D = kFit T N q D := funext fun v => funext fun x => ih v x
    rw [hb, e, kFtB_fr hX h]
theorem kCd_fr (h1 : q'.1 1 = q.1 1) (hX : q'.2.2 = q.2.2) (h : ∀ r, r = 0 ∨ r = 4 ∨ r = 7 ∨ r = 8 → q'.2.1 r = q.2.1 r) (hc : kCd q) : kCd q' := by
  intro s h6 hs
  rw [h1] at hs
  have := hc s h6 hs
  unfold kNd at this ⊢
  rw [h 0 (by omega), h 4 (by omega), h 7 (by omega), h 8 (by omega), hX]
  exact this
theorem kIv_q32 {r0 i0 v : Nat} (hr : r0 = 32 ∨ r0 = 33) (hI : kIv T m q) : kIv T m (kQ q r0 i0 v) := by
  have e0 : ∀ r i, r ≠ r0 → (kQ q r0 i0 v).2.1 r i = q.2.1 r i := fun r i h => by rw [kQ_Q, if_neg (fun e => h e.1)]
  have e1 : (kQ q r0 i0 v).1 = q.1 := rfl
  have e2 : (kQ q r0 i0 v).2.2 = q.2.2 := rfl
  unfold kIv kIs kIi kIj kPo at hI ⊢
  simp (disch := omega) only [e0, e1, e2]
  exact hI
theorem kIv_pb {L : List Nat} (hI : kIv T m q) : kIv T m (kPb L q) := by
  have e0 : ∀ r i, r ≠ 40 → (kPb L q).2.1 r i = q.2.1 r i := fun r i h => by
    show (if r = 40 ∧ q.1 6 ≤ i ∧ i < q.1 6 + L.length then _ else q.2.1 r i) = _
    rw [if_neg (fun e => h e.1)]
  have e40 : ∀ i, i < q.1 6 → (kPb L q).2.1 40 i = q.2.1 40 i := fun i h => by
    show (if 40 = 40 ∧ q.1 6 ≤ i ∧ i < q.1 6 + L.length then _ else q.2.1 40 i) = _
    rw [if_neg (by omega)]
  have c0 : (kPb L q).1 0 = q.1 0 := rfl
  have c1 : (kPb L q).1 1 = q.1 1 := rfl
  have c2 : (kPb L q).1 2 = q.1 2 := rfl
  have c3 : (kPb L q).1 3 = q.1 3 := rfl
  have c6 : (kPb L q).1 6 = q.1 6 + L.length := rfl
  have hsm : ∀ s, kSm q (kPb L q) s := fun s => ⟨⟨by omega, by omega, by omega, by omega⟩, fun r hr => e0 r s (by omega), fun r i => rfl, fun r i _ h1 h2 => e0 r _ (by omega), fun r i _ h1 h2 => e0 r _ (by omega), fun i hi => e40 i hi⟩
  obtain ⟨h0, h1, h2, h3, h4⟩ := hI
  refine ⟨by rw [c0, c1]; exact h0, fun s hs => ?_, fun s h6 hs => kIs_sm (hsm s) (h2 s h6 (by omega)), fun s i h6 hs hi => ?_, fun s i h6 hs hi => ?_⟩
  · rw [e0 0 s (by omega), e0 1 s (by omega), e0 4 s (by omega), e0 13 s (by omega)]
    exact h1 s hs
  · rw [e0 4 s (by omega)] at hi
    exact kIi_sm (hsm s) hi (h3 s i h6 (by omega) hi)
  · rw [e0 7 s (by omega)] at hi
    exact kIj_sm (hsm s) hi (h4 s i h6 (by omega) hi)
end
