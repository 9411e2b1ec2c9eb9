/-! the lake: a version's schemas, looked at -/
def lV (b pb qb : Nat) (q : kP) (t : aT) : Prop := (6 ≤ b ∧ b + (q.1 1 - 6) ≤ 5254 ∧ pb + q.1 3 ≤ 10112 ∧ 6 ≤ q.1 1) ∧ (∃ P, gI t 32 1 = nI P ∧ qb + q.1 6 ≤ P ∧ P ≤ 72704) ∧ (∀ x, x < 6 → gI t 23 x = nI x) ∧ (∀ x, 6 ≤ x → x < q.1 1 → gI t 23 (lo b x) = nI (q.2.1 0 x) ∧ gI t 24 (lo b x) = (if q.2.1 1 x = 0 then -1 else nI (qb + q.2.1 9 x)) ∧ gI t 25 (lo b x) = nI (pb + q.2.1 6 x) ∧ gI t 26 (lo b x) = nI (q.2.1 7 x) ∧ gI t 27 (lo b x) = (if q.2.1 0 x = 6 ∨ q.2.1 0 x = 7 then zL b (q.2.1 18 x) else zI (q.2.1 8 x))) ∧ (∀ j, j < q.1 3 → gI t 28 (pb + j) = zQ qb (q.2.1 31 j) ∧ gI t 29 (pb + j) = zL b (q.2.1 30 j) ∧ gI t 30 (pb + j) = zQ qb (q.2.1 32 j) ∧ gI t 31 (pb + j) = nI (q.2.1 33 j)) ∧ ∀ j, j < q.1 6 → gI t 33 (qb + j) = mI (q.2.1 40 j)
section
variable {b pb qb : Nat} {q : kP} {s t : aT} {T : Nat → Nat → Nat} {N : Nat → Int} {m l n : Nat}
theorem lV_S (hC : lCx b pb qb s) (hI : kIv T m q) (hp : pb + q.1 3 ≤ 10112) (hq : qb + q.1 6 ≤ 72704) : lV b pb qb q (lS b pb qb q s) := by
  have h1 := hI.1
  have hc := hC.2.1
  exact ⟨⟨hC.1, by omega, hp, h1.1⟩, ⟨qb + q.1 6, lS_pool, Nat.le_refl _, hq⟩, fun x hx => by rw [lS_lo (by omega) (by have := hC.1; omega)]; exact hC.2.2.2.1 x hx, fun x h6 hx => ⟨lS_23 h6 hx, lS_24 h6 hx, lS_25 h6 hx, lS_26 h6 hx, lS_27 h6 hx⟩, fun j hj => ⟨lS_28 hj, lS_29 hj, lS_30 hj, lS_31 hj⟩, fun j hj => lS_33 hj⟩
theorem lV_fr (h : ∀ k i, 23 ≤ k → k ≤ 33 → gI t k i = gI s k i) (hv : lV b pb qb q s) : lV b pb qb q t := by
  obtain ⟨h1, ⟨P, p1, p2⟩, h2, h3, h4, h5⟩ := hv
  refine ⟨h1, ⟨P, by rw [h 32 1 (by omega) (by omega)]; exact p1, p2⟩, fun x hx => by rw [h 23 x (by omega) (by omega)]; exact h2 x hx, fun x h6 hx => ?_, fun j hj => ?_, fun j hj => by rw [h 33 _ (by omega) (by omega)]; exact h5 j hj⟩
  · rw [h 23 _ (by omega) (by omega), h 24 _ (by omega) (by omega), h 25 _ (by omega) (by omega), h 26 _ (by omega) (by omega), h 27 _ (by omega) (by omega)]
    exact h3 x h6 hx
  · rw [h 28 _ (by omega) (by omega), h 29 _ (by omega) (by omega), h 30 _ (by omega) (by omega), h 31 _ (by omega) (by omega)]
    exact h4 j hj
theorem lV_lo (hv : lV b pb qb q t) {x : Nat} (hx : x < q.1 1) : lo b x < 5254 := by
  obtain ⟨h1, _⟩ := hv
  unfold lo
  split <;> omega
theorem lV_kind (hv : lV b pb qb q t) (hI : kIv T m q) {x : Nat} (hx : x < q.1 1) : gI t 23 (lo b x) = nI (q.2.1 0 x) := by
  by_cases h6 : x < 6
  · have e : lo b x = x := by unfold lo; rw [if_pos h6]
    rw [e, hv.2.2.1 x h6, (hI.2.1 x h6).1]
  · exact (hv.2.2.2.1 x (by omega) hx).1
/-- a part's schema -/
theorem lV_ps (hv : lV b pb qb q t) (hI : kIv T m q) (d : Nat) {x i : Nat} (h6 : 6 ≤ x) (hx : x < q.1 1) (h47 : q.2.1 4 x ≤ q.2.1 7 x) (hi : i < q.2.1 4 x) (h1 : q.2.2 1 x i ≠ 0) : fSc_partSchemaOf d (nI (lo b x)) (nI i) t = rI (nI (lo b (q.2.2 1 x i - 1))) t := by
  have hlx := lV_lo hv hx
  have hs := (hI.2.2.1 x h6 hx).2.2.2.1
  have hij := hI.2.2.2.2 x i h6 hx (by omega)
  have hp := hv.1.2.2.1
  refine eSc_partSchemaOf d _ _ _ _ ?_
  rw [ldI_n (by omega) (by omega), (hv.2.2.2.1 x h6 hx).2.2.1, nI_addE, ldI_n (by omega) (by omega), Nat.add_assoc, (hv.2.2.2.2.1 _ (by omega)).2.1, hij.2.1, if_pos hi]
  unfold zL
  rw [if_neg h1]
  rfl
end
